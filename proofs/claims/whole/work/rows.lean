section
-- ===== PART A: goes FIRST, ahead of the names: the tables' words, and 'selects' of the private methods out of them =====
/-- a private method of a class that the tables say can be made, by its rows of tables_1 -/
def lw_okq (q : MethodName × Nat) : Prop := (q.1.cls ≠ "java/lang/invoke/MethodHandle" ∧ q.1.cls ≠ "java/lang/invoke/VarHandle") ∧ Cond.instantiable q.1.cls q.2 ∈ tables_1 ∧ Cond.privateMethod q.1 ∈ tables_1 ∧ Cond.instanceMethod q.1 ∈ tables_1
theorem lw_p0 : lw_okq (⟨"DuskStones", "remember", "()V"⟩, 16) := ⟨⟨by decide +kernel, by decide +kernel⟩, List.mem_of_getElem? (i := 11) (by decide +kernel), List.mem_of_getElem? (i := 381) (by decide +kernel), List.mem_of_getElem? (i := 382) (by decide +kernel)⟩
theorem lw_p1 : lw_okq (⟨"DuskStones", "allPush", "(I)V"⟩, 16) := ⟨⟨by decide +kernel, by decide +kernel⟩, List.mem_of_getElem? (i := 11) (by decide +kernel), List.mem_of_getElem? (i := 488) (by decide +kernel), List.mem_of_getElem? (i := 489) (by decide +kernel)⟩
theorem lw_p2 : lw_okq (⟨"DuskStones", "agrees", "(I)Z"⟩, 16) := ⟨⟨by decide +kernel, by decide +kernel⟩, List.mem_of_getElem? (i := 11) (by decide +kernel), List.mem_of_getElem? (i := 548) (by decide +kernel), List.mem_of_getElem? (i := 549) (by decide +kernel)⟩
theorem lw_p3 : lw_okq (⟨"DuskStones", "isOverBehind", "(III)Z"⟩, 16) := ⟨⟨by decide +kernel, by decide +kernel⟩, List.mem_of_getElem? (i := 11) (by decide +kernel), List.mem_of_getElem? (i := 563) (by decide +kernel), List.mem_of_getElem? (i := 564) (by decide +kernel)⟩
theorem lw_p4 : lw_okq (⟨"DuskStones", "rateAs", "(II)I"⟩, 16) := ⟨⟨by decide +kernel, by decide +kernel⟩, List.mem_of_getElem? (i := 11) (by decide +kernel), List.mem_of_getElem? (i := 579) (by decide +kernel), List.mem_of_getElem? (i := 580) (by decide +kernel)⟩
theorem lw_p5 : lw_okq (⟨"DuskStonesModel", "begin", "()V"⟩, 33) := ⟨⟨by decide +kernel, by decide +kernel⟩, List.mem_of_getElem? (i := 607) (by decide +kernel), List.mem_of_getElem? (i := 613) (by decide +kernel), List.mem_of_getElem? (i := 614) (by decide +kernel)⟩
theorem lw_p6 : lw_okq (⟨"DuskStonesModel", "next", "()V"⟩, 33) := ⟨⟨by decide +kernel, by decide +kernel⟩, List.mem_of_getElem? (i := 607) (by decide +kernel), List.mem_of_getElem? (i := 733) (by decide +kernel), List.mem_of_getElem? (i := 734) (by decide +kernel)⟩
theorem lw_p7 : lw_okq (⟨"DuskStonesModel", "takeItem", "()V"⟩, 33) := ⟨⟨by decide +kernel, by decide +kernel⟩, List.mem_of_getElem? (i := 607) (by decide +kernel), List.mem_of_getElem? (i := 742) (by decide +kernel), List.mem_of_getElem? (i := 743) (by decide +kernel)⟩
theorem lw_p8 : lw_okq (⟨"DuskStonesModel", "want", "(Z)Z"⟩, 33) := ⟨⟨by decide +kernel, by decide +kernel⟩, List.mem_of_getElem? (i := 607) (by decide +kernel), List.mem_of_getElem? (i := 746) (by decide +kernel), List.mem_of_getElem? (i := 747) (by decide +kernel)⟩
theorem lw_p9 : lw_okq (⟨"DuskStonesModel", "takeHill", "()V"⟩, 33) := ⟨⟨by decide +kernel, by decide +kernel⟩, List.mem_of_getElem? (i := 607) (by decide +kernel), List.mem_of_getElem? (i := 750) (by decide +kernel), List.mem_of_getElem? (i := 751) (by decide +kernel)⟩
theorem lw_p10 : lw_okq (⟨"DuskStonesModel", "takeNumber", "(II)I"⟩, 33) := ⟨⟨by decide +kernel, by decide +kernel⟩, List.mem_of_getElem? (i := 607) (by decide +kernel), List.mem_of_getElem? (i := 754) (by decide +kernel), List.mem_of_getElem? (i := 755) (by decide +kernel)⟩
theorem lw_p11 : lw_okq (⟨"DuskStonesModel", "takeJoin", "()V"⟩, 33) := ⟨⟨by decide +kernel, by decide +kernel⟩, List.mem_of_getElem? (i := 607) (by decide +kernel), List.mem_of_getElem? (i := 758) (by decide +kernel), List.mem_of_getElem? (i := 759) (by decide +kernel)⟩
theorem lw_p12 : lw_okq (⟨"DuskStonesModel", "isHill", "(I)Z"⟩, 33) := ⟨⟨by decide +kernel, by decide +kernel⟩, List.mem_of_getElem? (i := 607) (by decide +kernel), List.mem_of_getElem? (i := 769) (by decide +kernel), List.mem_of_getElem? (i := 770) (by decide +kernel)⟩
theorem lw_p13 : lw_okq (⟨"DuskStonesModel", "sizeIn", "(II)I"⟩, 33) := ⟨⟨by decide +kernel, by decide +kernel⟩, List.mem_of_getElem? (i := 607) (by decide +kernel), List.mem_of_getElem? (i := 777) (by decide +kernel), List.mem_of_getElem? (i := 778) (by decide +kernel)⟩
theorem lw_p14 : lw_okq (⟨"DuskStonesModel", "sizeBy", "(II)I"⟩, 33) := ⟨⟨by decide +kernel, by decide +kernel⟩, List.mem_of_getElem? (i := 607) (by decide +kernel), List.mem_of_getElem? (i := 781) (by decide +kernel), List.mem_of_getElem? (i := 782) (by decide +kernel)⟩
theorem lw_p15 : lw_okq (⟨"DuskStonesModel", "isOver", "(II)Z"⟩, 33) := ⟨⟨by decide +kernel, by decide +kernel⟩, List.mem_of_getElem? (i := 607) (by decide +kernel), List.mem_of_getElem? (i := 785) (by decide +kernel), List.mem_of_getElem? (i := 786) (by decide +kernel)⟩
def lw_privs_1 : List (MethodName × Nat) := [(⟨"DuskStones", "remember", "()V"⟩, 16), (⟨"DuskStones", "allPush", "(I)V"⟩, 16), (⟨"DuskStones", "agrees", "(I)Z"⟩, 16), (⟨"DuskStones", "isOverBehind", "(III)Z"⟩, 16), (⟨"DuskStones", "rateAs", "(II)I"⟩, 16), (⟨"DuskStonesModel", "begin", "()V"⟩, 33), (⟨"DuskStonesModel", "next", "()V"⟩, 33), (⟨"DuskStonesModel", "takeItem", "()V"⟩, 33), (⟨"DuskStonesModel", "want", "(Z)Z"⟩, 33), (⟨"DuskStonesModel", "takeHill", "()V"⟩, 33), (⟨"DuskStonesModel", "takeNumber", "(II)I"⟩, 33), (⟨"DuskStonesModel", "takeJoin", "()V"⟩, 33), (⟨"DuskStonesModel", "isHill", "(I)Z"⟩, 33), (⟨"DuskStonesModel", "sizeIn", "(II)I"⟩, 33), (⟨"DuskStonesModel", "sizeBy", "(II)I"⟩, 33), (⟨"DuskStonesModel", "isOver", "(II)Z"⟩, 33)]
theorem lw_r1 : ∀ q ∈ lw_privs_1, lw_okq q := List.forall_mem_cons.mpr ⟨lw_p0, List.forall_mem_cons.mpr ⟨lw_p1, List.forall_mem_cons.mpr ⟨lw_p2, List.forall_mem_cons.mpr ⟨lw_p3, List.forall_mem_cons.mpr ⟨lw_p4, List.forall_mem_cons.mpr ⟨lw_p5, List.forall_mem_cons.mpr ⟨lw_p6, List.forall_mem_cons.mpr ⟨lw_p7, List.forall_mem_cons.mpr ⟨lw_p8, List.forall_mem_cons.mpr ⟨lw_p9, List.forall_mem_cons.mpr ⟨lw_p10, List.forall_mem_cons.mpr ⟨lw_p11, List.forall_mem_cons.mpr ⟨lw_p12, List.forall_mem_cons.mpr ⟨lw_p13, List.forall_mem_cons.mpr ⟨lw_p14, List.forall_mem_cons.mpr ⟨lw_p15, fun _ h => absurd h List.not_mem_nil⟩⟩⟩⟩⟩⟩⟩⟩⟩⟩⟩⟩⟩⟩⟩⟩
theorem lw_p16 : lw_okq (⟨"DuskStonesModel", "isMan", "(I)Z"⟩, 33) := ⟨⟨by decide +kernel, by decide +kernel⟩, List.mem_of_getElem? (i := 607) (by decide +kernel), List.mem_of_getElem? (i := 796) (by decide +kernel), List.mem_of_getElem? (i := 797) (by decide +kernel)⟩
theorem lw_p17 : lw_okq (⟨"DuskStonesModel", "over", "()I"⟩, 33) := ⟨⟨by decide +kernel, by decide +kernel⟩, List.mem_of_getElem? (i := 607) (by decide +kernel), List.mem_of_getElem? (i := 804) (by decide +kernel), List.mem_of_getElem? (i := 805) (by decide +kernel)⟩
theorem lw_p18 : lw_okq (⟨"DuskStonesModel", "remember", "()V"⟩, 33) := ⟨⟨by decide +kernel, by decide +kernel⟩, List.mem_of_getElem? (i := 607) (by decide +kernel), List.mem_of_getElem? (i := 812) (by decide +kernel), List.mem_of_getElem? (i := 813) (by decide +kernel)⟩
theorem lw_p19 : lw_okq (⟨"DuskStonesModel", "copy", "(II)V"⟩, 33) := ⟨⟨by decide +kernel, by decide +kernel⟩, List.mem_of_getElem? (i := 607) (by decide +kernel), List.mem_of_getElem? (i := 816) (by decide +kernel), List.mem_of_getElem? (i := 817) (by decide +kernel)⟩
theorem lw_p20 : lw_okq (⟨"DuskStonesModel", "push", "(I)I"⟩, 33) := ⟨⟨by decide +kernel, by decide +kernel⟩, List.mem_of_getElem? (i := 607) (by decide +kernel), List.mem_of_getElem? (i := 824) (by decide +kernel), List.mem_of_getElem? (i := 825) (by decide +kernel)⟩
theorem lw_p21 : lw_okq (⟨"DuskStonesModel", "overIn", "(I)I"⟩, 33) := ⟨⟨by decide +kernel, by decide +kernel⟩, List.mem_of_getElem? (i := 607) (by decide +kernel), List.mem_of_getElem? (i := 828) (by decide +kernel), List.mem_of_getElem? (i := 829) (by decide +kernel)⟩
theorem lw_p22 : lw_okq (⟨"DuskStonesModel", "pushOf", "(II)I"⟩, 33) := ⟨⟨by decide +kernel, by decide +kernel⟩, List.mem_of_getElem? (i := 607) (by decide +kernel), List.mem_of_getElem? (i := 832) (by decide +kernel), List.mem_of_getElem? (i := 833) (by decide +kernel)⟩
theorem lw_p23 : lw_okq (⟨"DuskStonesModel", "blocksIn", "(III)I"⟩, 33) := ⟨⟨by decide +kernel, by decide +kernel⟩, List.mem_of_getElem? (i := 607) (by decide +kernel), List.mem_of_getElem? (i := 836) (by decide +kernel), List.mem_of_getElem? (i := 837) (by decide +kernel)⟩
theorem lw_p24 : lw_okq (⟨"DuskStonesModel", "tire", "(II)V"⟩, 33) := ⟨⟨by decide +kernel, by decide +kernel⟩, List.mem_of_getElem? (i := 607) (by decide +kernel), List.mem_of_getElem? (i := 840) (by decide +kernel), List.mem_of_getElem? (i := 841) (by decide +kernel)⟩
theorem lw_p25 : lw_okq (⟨"DuskStonesModel", "rainsOn", "(I)Z"⟩, 33) := ⟨⟨by decide +kernel, by decide +kernel⟩, List.mem_of_getElem? (i := 607) (by decide +kernel), List.mem_of_getElem? (i := 844) (by decide +kernel), List.mem_of_getElem? (i := 845) (by decide +kernel)⟩
theorem lw_p26 : lw_okq (⟨"DuskStonesModel", "dusk", "(IZ)V"⟩, 33) := ⟨⟨by decide +kernel, by decide +kernel⟩, List.mem_of_getElem? (i := 607) (by decide +kernel), List.mem_of_getElem? (i := 848) (by decide +kernel), List.mem_of_getElem? (i := 849) (by decide +kernel)⟩
theorem lw_p27 : lw_okq (⟨"DuskStonesModel", "isCode", "(II)Z"⟩, 33) := ⟨⟨by decide +kernel, by decide +kernel⟩, List.mem_of_getElem? (i := 607) (by decide +kernel), List.mem_of_getElem? (i := 860) (by decide +kernel), List.mem_of_getElem? (i := 861) (by decide +kernel)⟩
theorem lw_p28 : lw_okq (⟨"DuskStonesModel", "stepBy", "(III)I"⟩, 33) := ⟨⟨by decide +kernel, by decide +kernel⟩, List.mem_of_getElem? (i := 607) (by decide +kernel), List.mem_of_getElem? (i := 864) (by decide +kernel), List.mem_of_getElem? (i := 865) (by decide +kernel)⟩
theorem lw_p29 : lw_okq (⟨"DuskStonesModel", "orderAll", "(III)V"⟩, 33) := ⟨⟨by decide +kernel, by decide +kernel⟩, List.mem_of_getElem? (i := 607) (by decide +kernel), List.mem_of_getElem? (i := 868) (by decide +kernel), List.mem_of_getElem? (i := 869) (by decide +kernel)⟩
theorem lw_p30 : lw_okq (⟨"DuskStonesModel", "goToDusk", "(IZ)V"⟩, 33) := ⟨⟨by decide +kernel, by decide +kernel⟩, List.mem_of_getElem? (i := 607) (by decide +kernel), List.mem_of_getElem? (i := 876) (by decide +kernel), List.mem_of_getElem? (i := 877) (by decide +kernel)⟩
theorem lw_p31 : lw_okq (⟨"DuskStonesModel", "isOverBy", "(II)Z"⟩, 33) := ⟨⟨by decide +kernel, by decide +kernel⟩, List.mem_of_getElem? (i := 607) (by decide +kernel), List.mem_of_getElem? (i := 884) (by decide +kernel), List.mem_of_getElem? (i := 885) (by decide +kernel)⟩
def lw_privs_2 : List (MethodName × Nat) := [(⟨"DuskStonesModel", "isMan", "(I)Z"⟩, 33), (⟨"DuskStonesModel", "over", "()I"⟩, 33), (⟨"DuskStonesModel", "remember", "()V"⟩, 33), (⟨"DuskStonesModel", "copy", "(II)V"⟩, 33), (⟨"DuskStonesModel", "push", "(I)I"⟩, 33), (⟨"DuskStonesModel", "overIn", "(I)I"⟩, 33), (⟨"DuskStonesModel", "pushOf", "(II)I"⟩, 33), (⟨"DuskStonesModel", "blocksIn", "(III)I"⟩, 33), (⟨"DuskStonesModel", "tire", "(II)V"⟩, 33), (⟨"DuskStonesModel", "rainsOn", "(I)Z"⟩, 33), (⟨"DuskStonesModel", "dusk", "(IZ)V"⟩, 33), (⟨"DuskStonesModel", "isCode", "(II)Z"⟩, 33), (⟨"DuskStonesModel", "stepBy", "(III)I"⟩, 33), (⟨"DuskStonesModel", "orderAll", "(III)V"⟩, 33), (⟨"DuskStonesModel", "goToDusk", "(IZ)V"⟩, 33), (⟨"DuskStonesModel", "isOverBy", "(II)Z"⟩, 33)]
theorem lw_r2 : ∀ q ∈ lw_privs_2, lw_okq q := List.forall_mem_cons.mpr ⟨lw_p16, List.forall_mem_cons.mpr ⟨lw_p17, List.forall_mem_cons.mpr ⟨lw_p18, List.forall_mem_cons.mpr ⟨lw_p19, List.forall_mem_cons.mpr ⟨lw_p20, List.forall_mem_cons.mpr ⟨lw_p21, List.forall_mem_cons.mpr ⟨lw_p22, List.forall_mem_cons.mpr ⟨lw_p23, List.forall_mem_cons.mpr ⟨lw_p24, List.forall_mem_cons.mpr ⟨lw_p25, List.forall_mem_cons.mpr ⟨lw_p26, List.forall_mem_cons.mpr ⟨lw_p27, List.forall_mem_cons.mpr ⟨lw_p28, List.forall_mem_cons.mpr ⟨lw_p29, List.forall_mem_cons.mpr ⟨lw_p30, List.forall_mem_cons.mpr ⟨lw_p31, fun _ h => absurd h List.not_mem_nil⟩⟩⟩⟩⟩⟩⟩⟩⟩⟩⟩⟩⟩⟩⟩⟩
theorem lw_p32 : lw_okq (⟨"DuskStonesModel", "stoneRate", "(I)I"⟩, 33) := ⟨⟨by decide +kernel, by decide +kernel⟩, List.mem_of_getElem? (i := 607) (by decide +kernel), List.mem_of_getElem? (i := 936) (by decide +kernel), List.mem_of_getElem? (i := 937) (by decide +kernel)⟩
theorem lw_p33 : lw_okq (⟨"DuskStonesModel", "roundRate", "(I)I"⟩, 33) := ⟨⟨by decide +kernel, by decide +kernel⟩, List.mem_of_getElem? (i := 607) (by decide +kernel), List.mem_of_getElem? (i := 940) (by decide +kernel), List.mem_of_getElem? (i := 941) (by decide +kernel)⟩
theorem lw_p34 : lw_okq (⟨"DuskStonesModel", "splitRate", "(I)I"⟩, 33) := ⟨⟨by decide +kernel, by decide +kernel⟩, List.mem_of_getElem? (i := 607) (by decide +kernel), List.mem_of_getElem? (i := 944) (by decide +kernel), List.mem_of_getElem? (i := 945) (by decide +kernel)⟩
theorem lw_p35 : lw_okq (⟨"DuskStonesModel", "wetRate", "(I)I"⟩, 33) := ⟨⟨by decide +kernel, by decide +kernel⟩, List.mem_of_getElem? (i := 607) (by decide +kernel), List.mem_of_getElem? (i := 949) (by decide +kernel), List.mem_of_getElem? (i := 950) (by decide +kernel)⟩
theorem lw_p36 : lw_okq (⟨"DuskStonesModel", "lentRate", "(I)I"⟩, 33) := ⟨⟨by decide +kernel, by decide +kernel⟩, List.mem_of_getElem? (i := 607) (by decide +kernel), List.mem_of_getElem? (i := 954) (by decide +kernel), List.mem_of_getElem? (i := 955) (by decide +kernel)⟩
theorem lw_p37 : lw_okq (⟨"DuskStonesModel", "hollowRate", "(I)I"⟩, 33) := ⟨⟨by decide +kernel, by decide +kernel⟩, List.mem_of_getElem? (i := 607) (by decide +kernel), List.mem_of_getElem? (i := 959) (by decide +kernel), List.mem_of_getElem? (i := 960) (by decide +kernel)⟩
def lw_privs_3 : List (MethodName × Nat) := [(⟨"DuskStonesModel", "stoneRate", "(I)I"⟩, 33), (⟨"DuskStonesModel", "roundRate", "(I)I"⟩, 33), (⟨"DuskStonesModel", "splitRate", "(I)I"⟩, 33), (⟨"DuskStonesModel", "wetRate", "(I)I"⟩, 33), (⟨"DuskStonesModel", "lentRate", "(I)I"⟩, 33), (⟨"DuskStonesModel", "hollowRate", "(I)I"⟩, 33)]
theorem lw_r3 : ∀ q ∈ lw_privs_3, lw_okq q := List.forall_mem_cons.mpr ⟨lw_p32, List.forall_mem_cons.mpr ⟨lw_p33, List.forall_mem_cons.mpr ⟨lw_p34, List.forall_mem_cons.mpr ⟨lw_p35, List.forall_mem_cons.mpr ⟨lw_p36, List.forall_mem_cons.mpr ⟨lw_p37, fun _ h => absurd h List.not_mem_nil⟩⟩⟩⟩⟩⟩
def lw_privs : List (MethodName × Nat) := lw_privs_1 ++ (lw_privs_2 ++ (lw_privs_3))
def lw_tbl : List Cond := k2_sels lw_privs ++ tables_1
theorem lw_privs_ok : ∀ q ∈ lw_privs, lw_okq q := by
  show ∀ q ∈ lw_privs_1 ++ (lw_privs_2 ++ (lw_privs_3)), lw_okq q
  exact List.forall_mem_append.mpr ⟨lw_r1, List.forall_mem_append.mpr ⟨lw_r2, lw_r3⟩⟩

def RX0 : String := "DuskStones$Climb"
def TX0 : u_T := fun k => match k with
  | 0 => ("DuskStones$Climb", "strength", "[[I", true)
  | 1 => ("DuskStones$Climb", "row", "[I", true)
  | 2 => ("DuskStones$Climb", "bestRow", "[I", true)
  | 3 => ("DuskStones$Climb", "best", "I", false)
  | 4 => ("DuskStones$Climb", "need", "I", false)
  | 5 => ("DuskStones$Climb", "hours", "I", false)
  | _ => ("DuskStones$Climb", "free", "I", false)
def tyX0 : Nat → FieldType := fun k => match k with
  | 0 => .array (.array .int)
  | 1 => .array .int
  | 2 => .array .int
  | 3 => .int
  | 4 => .int
  | 5 => .int
  | _ => .int
theorem nmX0 : ∀ a, a < 7 → ∀ b, b < 7 → a ≠ b → (TX0 a).2.1 ≠ (TX0 b).2.1 := by decide +kernel
theorem tyX0_ok : ∀ k, k < 7 → parseFieldDescriptor (TX0 k).2.2.1 = some (tyX0 k) := by decide +kernel
abbrev cX0_init : ByteArray := prog_2_method_1_code
def yX0_init : MethodName := ⟨RX0, "<init>", "()V"⟩
abbrev cX0_search : ByteArray := prog_2_method_2_code
def yX0_search : MethodName := ⟨RX0, "search", "(LDuskStones$Land;LDuskStones$Moment;I)V"⟩
abbrev cX0_explore : ByteArray := prog_2_method_3_code
def yX0_explore : MethodName := ⟨RX0, "explore", "(LDuskStones$Land;II)V"⟩
abbrev cX0_keepRow : ByteArray := prog_2_method_4_code
def yX0_keepRow : MethodName := ⟨RX0, "keepRow", "(II)V"⟩
abbrev cX0_isJustEnough : ByteArray := prog_2_method_5_code
def yX0_isJustEnough : MethodName := ⟨RX0, "isJustEnough", "(LDuskStones$Land;II)Z"⟩
abbrev cX0_isIn : ByteArray := prog_2_method_6_code
def yX0_isIn : MethodName := ⟨RX0, "isIn", "(II)Z"⟩
abbrev cX0_tire : ByteArray := prog_2_method_7_code
def yX0_tire : MethodName := ⟨RX0, "tire", "(LDuskStones$Land;II)V"⟩
def RX1 : String := "DuskStones$Land"
def TX1 : u_T := fun k => match k with
  | 0 => ("DuskStones$Land", "hills", "I", false)
  | 1 => ("DuskStones$Land", "high", "[I", true)
  | 2 => ("DuskStones$Land", "slope", "[I", true)
  | 3 => ("DuskStones$Land", "ledges", "[I", true)
  | 4 => ("DuskStones$Land", "size", "[I", true)
  | 5 => ("DuskStones$Land", "joins", "I", false)
  | 6 => ("DuskStones$Land", "joinA", "[I", true)
  | 7 => ("DuskStones$Land", "joinB", "[I", true)
  | 8 => ("DuskStones$Land", "joinFrom", "[I", true)
  | 9 => ("DuskStones$Land", "men", "I", false)
  | 10 => ("DuskStones$Land", "force", "[I", true)
  | 11 => ("DuskStones$Land", "hours", "I", false)
  | 12 => ("DuskStones$Land", "rain", "I", false)
  | 13 => ("DuskStones$Land", "hoursTold", "Z", false)
  | _ => ("DuskStones$Land", "rainTold", "Z", false)
def tyX1 : Nat → FieldType := fun k => match k with
  | 0 => .int
  | 1 => .array .int
  | 2 => .array .int
  | 3 => .array .int
  | 4 => .array .int
  | 5 => .int
  | 6 => .array .int
  | 7 => .array .int
  | 8 => .array .int
  | 9 => .int
  | 10 => .array .int
  | 11 => .int
  | 12 => .int
  | 13 => .boolean
  | _ => .boolean
theorem nmX1 : ∀ a, a < 15 → ∀ b, b < 15 → a ≠ b → (TX1 a).2.1 ≠ (TX1 b).2.1 := by decide +kernel
theorem tyX1_ok : ∀ k, k < 15 → parseFieldDescriptor (TX1 k).2.2.1 = some (tyX1 k) := by decide +kernel
abbrev cX1_init : ByteArray := prog_3_method_1_code
def yX1_init : MethodName := ⟨RX1, "<init>", "()V"⟩
abbrev cX1_empty : ByteArray := prog_3_method_2_code
def yX1_empty : MethodName := ⟨RX1, "empty", "()V"⟩
abbrev cX1_hasHill : ByteArray := prog_3_method_3_code
def yX1_hasHill : MethodName := ⟨RX1, "hasHill", "(I)Z"⟩
abbrev cX1_hasMan : ByteArray := prog_3_method_4_code
def yX1_hasMan : MethodName := ⟨RX1, "hasMan", "(I)Z"⟩
abbrev cX1_rainsOn : ByteArray := prog_3_method_5_code
def yX1_rainsOn : MethodName := ⟨RX1, "rainsOn", "(I)Z"⟩
abbrev cX1_hasLedge : ByteArray := prog_3_method_6_code
def yX1_hasLedge : MethodName := ⟨RX1, "hasLedge", "(II)Z"⟩
abbrev cX1_isOnePlace : ByteArray := prog_3_method_7_code
def yX1_isOnePlace : MethodName := ⟨RX1, "isOnePlace", "(III)Z"⟩
abbrev cX1_forceOf : ByteArray := prog_3_method_8_code
def yX1_forceOf : MethodName := ⟨RX1, "forceOf", "(I)I"⟩
abbrev cX1_addHill : ByteArray := prog_3_method_9_code
def yX1_addHill : MethodName := ⟨RX1, "addHill", "([I)V"⟩
abbrev cX1_addJoin : ByteArray := prog_3_method_10_code
def yX1_addJoin : MethodName := ⟨RX1, "addJoin", "([I)V"⟩
abbrev cX1_addMan : ByteArray := prog_3_method_11_code
def yX1_addMan : MethodName := ⟨RX1, "addMan", "(I)V"⟩
def RX2 : String := "DuskStones$Moment"
def TX2 : u_T := fun k => match k with
  | 0 => ("DuskStones$Moment", "day", "I", false)
  | 1 => ("DuskStones$Moment", "hour", "I", false)
  | 2 => ("DuskStones$Moment", "step", "[I", true)
  | 3 => ("DuskStones$Moment", "rolled", "[I", true)
  | 4 => ("DuskStones$Moment", "strength", "[I", true)
  | 5 => ("DuskStones$Moment", "order", "[I", true)
  | 6 => ("DuskStones$Moment", "evening", "[I", true)
  | _ => ("DuskStones$Moment", "evenings", "I", false)
def tyX2 : Nat → FieldType := fun k => match k with
  | 0 => .int
  | 1 => .int
  | 2 => .array .int
  | 3 => .array .int
  | 4 => .array .int
  | 5 => .array .int
  | 6 => .array .int
  | _ => .int
theorem nmX2 : ∀ a, a < 8 → ∀ b, b < 8 → a ≠ b → (TX2 a).2.1 ≠ (TX2 b).2.1 := by decide +kernel
theorem tyX2_ok : ∀ k, k < 8 → parseFieldDescriptor (TX2 k).2.2.1 = some (tyX2 k) := by decide +kernel
abbrev cX2_init : ByteArray := prog_4_method_1_code
def yX2_init : MethodName := ⟨RX2, "<init>", "()V"⟩
abbrev cX2_begin : ByteArray := prog_4_method_2_code
def yX2_begin : MethodName := ⟨RX2, "begin", "(LDuskStones$Land;)V"⟩
abbrev cX2_copyFrom : ByteArray := prog_4_method_3_code
def yX2_copyFrom : MethodName := ⟨RX2, "copyFrom", "(LDuskStones$Moment;)V"⟩
abbrev cX2_isOver : ByteArray := prog_4_method_4_code
def yX2_isOver : MethodName := ⟨RX2, "isOver", "(LDuskStones$Land;I)Z"⟩
abbrev cX2_overBits : ByteArray := prog_4_method_5_code
def yX2_overBits : MethodName := ⟨RX2, "overBits", "(LDuskStones$Land;)I"⟩
abbrev cX2_sizeNow : ByteArray := prog_4_method_6_code
def yX2_sizeNow : MethodName := ⟨RX2, "sizeNow", "(LDuskStones$Land;I)I"⟩
abbrev cX2_needOf : ByteArray := prog_4_method_7_code
def yX2_needOf : MethodName := ⟨RX2, "needOf", "(LDuskStones$Land;I)I"⟩
abbrev cX2_hoursLeft : ByteArray := prog_4_method_8_code
def yX2_hoursLeft : MethodName := ⟨RX2, "hoursLeft", "(LDuskStones$Land;)I"⟩
abbrev cX2_menAt : ByteArray := prog_4_method_9_code
def yX2_menAt : MethodName := ⟨RX2, "menAt", "(LDuskStones$Land;I)I"⟩
abbrev cX2_strengthAt : ByteArray := prog_4_method_10_code
def yX2_strengthAt : MethodName := ⟨RX2, "strengthAt", "(LDuskStones$Land;I)I"⟩
abbrev cX2_strengthAfter : ByteArray := prog_4_method_11_code
def yX2_strengthAfter : MethodName := ⟨RX2, "strengthAfter", "(LDuskStones$Land;I)I"⟩
abbrev cX2_blockersAt : ByteArray := prog_4_method_12_code
def yX2_blockersAt : MethodName := ⟨RX2, "blockersAt", "(LDuskStones$Land;II)I"⟩
abbrev cX2_freeSteps : ByteArray := prog_4_method_13_code
def yX2_freeSteps : MethodName := ⟨RX2, "freeSteps", "(LDuskStones$Land;I)I"⟩
abbrev cX2_passHour : ByteArray := prog_4_method_14_code
def yX2_passHour : MethodName := ⟨RX2, "passHour", "(LDuskStones$Land;)I"⟩
abbrev cX2_canComeUp : ByteArray := prog_4_method_15_code
def yX2_canComeUp : MethodName := ⟨RX2, "canComeUp", "(LDuskStones$Land;I)Z"⟩
abbrev cX2_passDay : ByteArray := prog_4_method_16_code
def yX2_passDay : MethodName := ⟨RX2, "passDay", "(LDuskStones$Land;)V"⟩
abbrev cX2_fallDusk : ByteArray := prog_4_method_17_code
def yX2_fallDusk : MethodName := ⟨RX2, "fallDusk", "(LDuskStones$Land;Z)V"⟩
abbrev cX2_rest : ByteArray := prog_4_method_18_code
def yX2_rest : MethodName := ⟨RX2, "rest", "(LDuskStones$Land;)V"⟩
abbrev cX2_writeDown : ByteArray := prog_4_method_19_code
def yX2_writeDown : MethodName := ⟨RX2, "writeDown", "(LDuskStones$Land;)V"⟩
abbrev cX2_writtenStep : ByteArray := prog_4_method_20_code
def yX2_writtenStep : MethodName := ⟨RX2, "writtenStep", "(II)I"⟩
def RX3 : String := "DuskStones$Reader"
def TX3 : u_T := fun k => match k with
  | 0 => ("DuskStones$Reader", "text", "[C", true)
  | 1 => ("DuskStones$Reader", "numbers", "[I", true)
  | 2 => ("DuskStones$Reader", "length", "I", false)
  | 3 => ("DuskStones$Reader", "next", "I", false)
  | 4 => ("DuskStones$Reader", "place", "I", false)
  | 5 => ("DuskStones$Reader", "token", "I", false)
  | _ => ("DuskStones$Reader", "value", "I", false)
def tyX3 : Nat → FieldType := fun k => match k with
  | 0 => .array .char
  | 1 => .array .int
  | 2 => .int
  | 3 => .int
  | 4 => .int
  | 5 => .int
  | _ => .int
theorem nmX3 : ∀ a, a < 7 → ∀ b, b < 7 → a ≠ b → (TX3 a).2.1 ≠ (TX3 b).2.1 := by decide +kernel
theorem tyX3_ok : ∀ k, k < 7 → parseFieldDescriptor (TX3 k).2.2.1 = some (tyX3 k) := by decide +kernel
abbrev cX3_init : ByteArray := prog_5_method_1_code
def yX3_init : MethodName := ⟨RX3, "<init>", "([C)V"⟩
abbrev cX3_readAll : ByteArray := prog_5_method_2_code
def yX3_readAll : MethodName := ⟨RX3, "readAll", "(ILDuskStones$Land;)I"⟩
abbrev cX3_readItem : ByteArray := prog_5_method_3_code
def yX3_readItem : MethodName := ⟨RX3, "readItem", "(LDuskStones$Land;)Z"⟩
abbrev cX3_canStand : ByteArray := prog_5_method_4_code
def yX3_canStand : MethodName := ⟨RX3, "canStand", "(ILDuskStones$Land;)Z"⟩
abbrev cX3_numbersOf : ByteArray := prog_5_method_5_code
def yX3_numbersOf : MethodName := ⟨RX3, "numbersOf", "(I)I"⟩
abbrev cX3_fits : ByteArray := prog_5_method_6_code
def yX3_fits : MethodName := ⟨RX3, "fits", "(IILDuskStones$Land;)Z"⟩
abbrev cX3_fitsJoin : ByteArray := prog_5_method_7_code
def yX3_fitsJoin : MethodName := ⟨RX3, "fitsJoin", "(ILDuskStones$Land;)Z"⟩
abbrev cX3_isWithin : ByteArray := prog_5_method_8_code
def yX3_isWithin : MethodName := ⟨RX3, "isWithin", "(II)Z"⟩
abbrev cX3_addItem : ByteArray := prog_5_method_9_code
def yX3_addItem : MethodName := ⟨RX3, "addItem", "(ILDuskStones$Land;)V"⟩
abbrev cX3_take : ByteArray := prog_5_method_10_code
def yX3_take : MethodName := ⟨RX3, "take", "()V"⟩
abbrev cX3_takeNumber : ByteArray := prog_5_method_11_code
def yX3_takeNumber : MethodName := ⟨RX3, "takeNumber", "()V"⟩
abbrev cX3_isDigit : ByteArray := prog_5_method_12_code
def yX3_isDigit : MethodName := ⟨RX3, "isDigit", "(C)Z"⟩
abbrev cX3_isSign : ByteArray := prog_5_method_13_code
def yX3_isSign : MethodName := ⟨RX3, "isSign", "(C)Z"⟩
def RX4 : String := "DuskStones"
def TX4 : u_T := fun k => match k with
  | 0 => ("DuskStones", "text", "[C", true)
  | 1 => ("DuskStones", "letters", "I", false)
  | 2 => ("DuskStones", "reader", "LDuskStones$Reader;", true)
  | 3 => ("DuskStones", "land", "LDuskStones$Land;", false)
  | 4 => ("DuskStones", "draft", "LDuskStones$Land;", false)
  | 5 => ("DuskStones", "present", "LDuskStones$Moment;", true)
  | 6 => ("DuskStones", "trial", "LDuskStones$Moment;", true)
  | 7 => ("DuskStones", "past", "[LDuskStones$Moment;", true)
  | 8 => ("DuskStones", "pastCount", "I", false)
  | 9 => ("DuskStones", "images", "[LDuskStones$Moment;", true)
  | 10 => ("DuskStones", "kept", "[Z", true)
  | 11 => ("DuskStones", "seenHill", "[I", true)
  | 12 => ("DuskStones", "seenStep", "[I", true)
  | 13 => ("DuskStones", "seenCount", "I", false)
  | 14 => ("DuskStones", "climb", "LDuskStones$Climb;", true)
  | _ => ("DuskStones", "traceSum", "J", false)
def tyX4 : Nat → FieldType := fun k => match k with
  | 0 => .array .char
  | 1 => .int
  | 2 => .object "DuskStones$Reader"
  | 3 => .object "DuskStones$Land"
  | 4 => .object "DuskStones$Land"
  | 5 => .object "DuskStones$Moment"
  | 6 => .object "DuskStones$Moment"
  | 7 => .array (.object "DuskStones$Moment")
  | 8 => .int
  | 9 => .array (.object "DuskStones$Moment")
  | 10 => .array .boolean
  | 11 => .array .int
  | 12 => .array .int
  | 13 => .int
  | 14 => .object "DuskStones$Climb"
  | _ => .long
theorem nmX4 : ∀ a, a < 16 → ∀ b, b < 16 → a ≠ b → (TX4 a).2.1 ≠ (TX4 b).2.1 := by decide +kernel
theorem tyX4_ok : ∀ k, k < 16 → parseFieldDescriptor (TX4 k).2.2.1 = some (tyX4 k) := by decide +kernel
abbrev cX4_init : ByteArray := prog_1_method_1_code
def yX4_init : MethodName := ⟨RX4, "<init>", "()V"⟩
abbrev cX4_type : ByteArray := prog_1_method_2_code
def yX4_type : MethodName := ⟨RX4, "type", "(I)I"⟩
abbrev cX4_clear : ByteArray := prog_1_method_3_code
def yX4_clear : MethodName := ⟨RX4, "clear", "()I"⟩
abbrev cX4_hills : ByteArray := prog_1_method_4_code
def yX4_hills : MethodName := ⟨RX4, "hills", "()I"⟩
abbrev cX4_hill : ByteArray := prog_1_method_5_code
def yX4_hill : MethodName := ⟨RX4, "hill", "(II)I"⟩
abbrev cX4_stone : ByteArray := prog_1_method_6_code
def yX4_stone : MethodName := ⟨RX4, "stone", "(II)I"⟩
abbrev cX4_man : ByteArray := prog_1_method_7_code
def yX4_man : MethodName := ⟨RX4, "man", "(II)I"⟩
abbrev cX4_now : ByteArray := prog_1_method_8_code
def yX4_now : MethodName := ⟨RX4, "now", "(I)I"⟩
abbrev cX4_order : ByteArray := prog_1_method_9_code
def yX4_order : MethodName := ⟨RX4, "order", "(II)I"⟩
abbrev cX4_hour : ByteArray := prog_1_method_10_code
def yX4_hour : MethodName := ⟨RX4, "hour", "()I"⟩
abbrev cX4_undo : ByteArray := prog_1_method_11_code
def yX4_undo : MethodName := ⟨RX4, "undo", "()I"⟩
abbrev cX4_remember : ByteArray := prog_1_method_12_code
def yX4_remember : MethodName := ⟨RX4, "remember", "()V"⟩
abbrev cX4_highest : ByteArray := prog_1_method_13_code
def yX4_highest : MethodName := ⟨RX4, "highest", "(II)I"⟩
abbrev cX4_days : ByteArray := prog_1_method_14_code
def yX4_days : MethodName := ⟨RX4, "days", "(I)I"⟩
abbrev cX4_little : ByteArray := prog_1_method_15_code
def yX4_little : MethodName := ⟨RX4, "little", "(I)I"⟩
abbrev cX4_crew : ByteArray := prog_1_method_16_code
def yX4_crew : MethodName := ⟨RX4, "crew", "(I)I"⟩
abbrev cX4_blocks : ByteArray := prog_1_method_17_code
def yX4_blocks : MethodName := ⟨RX4, "blocks", "(I)I"⟩
abbrev cX4_allPush : ByteArray := prog_1_method_18_code
def yX4_allPush : MethodName := ⟨RX4, "allPush", "(I)V"⟩
abbrev cX4_written : ByteArray := prog_1_method_19_code
def yX4_written : MethodName := ⟨RX4, "written", "(II)I"⟩
abbrev cX4_saw : ByteArray := prog_1_method_20_code
def yX4_saw : MethodName := ⟨RX4, "saw", "(II)I"⟩
abbrev cX4_forget : ByteArray := prog_1_method_21_code
def yX4_forget : MethodName := ⟨RX4, "forget", "()I"⟩
abbrev cX4_evening : ByteArray := prog_1_method_22_code
def yX4_evening : MethodName := ⟨RX4, "evening", "()I"⟩
abbrev cX4_odds : ByteArray := prog_1_method_23_code
def yX4_odds : MethodName := ⟨RX4, "odds", "(IIII)J"⟩
abbrev cX4_wear : ByteArray := prog_1_method_24_code
def yX4_wear : MethodName := ⟨RX4, "wear", "(II)I"⟩
abbrev cX4_agrees : ByteArray := prog_1_method_25_code
def yX4_agrees : MethodName := ⟨RX4, "agrees", "(I)Z"⟩
abbrev cX4_rainWeight : ByteArray := prog_1_method_26_code
def yX4_rainWeight : MethodName := ⟨RX4, "rainWeight", "(III)J"⟩
abbrev cX4_isOverBehind : ByteArray := prog_1_method_27_code
def yX4_isOverBehind : MethodName := ⟨RX4, "isOverBehind", "(III)Z"⟩
abbrev cX4_power : ByteArray := prog_1_method_28_code
def yX4_power : MethodName := ⟨RX4, "power", "(II)J"⟩
abbrev cX4_commonDivisor : ByteArray := prog_1_method_29_code
def yX4_commonDivisor : MethodName := ⟨RX4, "commonDivisor", "(JJ)J"⟩
abbrev cX4_rate : ByteArray := prog_1_method_30_code
def yX4_rate : MethodName := ⟨RX4, "rate", "(II)I"⟩
abbrev cX4_keep : ByteArray := prog_1_method_31_code
def yX4_keep : MethodName := ⟨RX4, "keep", "(I)I"⟩
abbrev cX4_back : ByteArray := prog_1_method_32_code
def yX4_back : MethodName := ⟨RX4, "back", "(I)I"⟩
abbrev cX4_count : ByteArray := prog_1_method_33_code
def yX4_count : MethodName := ⟨RX4, "count", "(I)I"⟩
abbrev cX4_trace : ByteArray := prog_1_method_34_code
def yX4_trace : MethodName := ⟨RX4, "trace", "()J"⟩
abbrev cX4_rateAs : ByteArray := prog_1_method_35_code
def yX4_rateAs : MethodName := ⟨RX4, "rateAs", "(II)I"⟩
def RX5 : String := "DuskStonesModel"
def TX5 : u_T := fun k => match k with
  | 0 => ("DuskStonesModel", "w", "[I", true)
  | 1 => ("DuskStonesModel", "isKept", "[Z", true)
  | 2 => ("DuskStonesModel", "high", "[I", true)
  | 3 => ("DuskStonesModel", "slope", "[I", true)
  | 4 => ("DuskStonesModel", "ledges", "[I", true)
  | 5 => ("DuskStonesModel", "size", "[I", true)
  | 6 => ("DuskStonesModel", "joinOne", "[I", true)
  | 7 => ("DuskStonesModel", "joinTwo", "[I", true)
  | 8 => ("DuskStonesModel", "joinFrom", "[I", true)
  | 9 => ("DuskStonesModel", "force", "[I", true)
  | 10 => ("DuskStonesModel", "hills", "I", false)
  | 11 => ("DuskStonesModel", "joins", "I", false)
  | 12 => ("DuskStonesModel", "men", "I", false)
  | 13 => ("DuskStonesModel", "hours", "I", false)
  | 14 => ("DuskStonesModel", "rain", "I", false)
  | 15 => ("DuskStonesModel", "newHills", "I", false)
  | 16 => ("DuskStonesModel", "newJoins", "I", false)
  | 17 => ("DuskStonesModel", "newMen", "I", false)
  | 18 => ("DuskStonesModel", "newHours", "I", false)
  | 19 => ("DuskStonesModel", "newRain", "I", false)
  | 20 => ("DuskStonesModel", "told", "I", false)
  | 21 => ("DuskStonesModel", "text", "[I", true)
  | 22 => ("DuskStonesModel", "textSize", "I", false)
  | 23 => ("DuskStonesModel", "at", "I", false)
  | 24 => ("DuskStonesModel", "first", "I", false)
  | 25 => ("DuskStonesModel", "kind", "I", false)
  | 26 => ("DuskStonesModel", "number", "I", false)
  | 27 => ("DuskStonesModel", "faultAt", "I", false)
  | 28 => ("DuskStonesModel", "undoMany", "I", false)
  | 29 => ("DuskStonesModel", "sightHill", "[I", true)
  | 30 => ("DuskStonesModel", "sightStep", "[I", true)
  | 31 => ("DuskStonesModel", "sightMany", "I", false)
  | _ => ("DuskStonesModel", "trace", "J", false)
def tyX5 : Nat → FieldType := fun k => match k with
  | 0 => .array .int
  | 1 => .array .boolean
  | 2 => .array .int
  | 3 => .array .int
  | 4 => .array .int
  | 5 => .array .int
  | 6 => .array .int
  | 7 => .array .int
  | 8 => .array .int
  | 9 => .array .int
  | 10 => .int
  | 11 => .int
  | 12 => .int
  | 13 => .int
  | 14 => .int
  | 15 => .int
  | 16 => .int
  | 17 => .int
  | 18 => .int
  | 19 => .int
  | 20 => .int
  | 21 => .array .int
  | 22 => .int
  | 23 => .int
  | 24 => .int
  | 25 => .int
  | 26 => .int
  | 27 => .int
  | 28 => .int
  | 29 => .array .int
  | 30 => .array .int
  | 31 => .int
  | _ => .long
theorem nmX5 : ∀ a, a < 33 → ∀ b, b < 33 → a ≠ b → (TX5 a).2.1 ≠ (TX5 b).2.1 := by decide +kernel
theorem tyX5_ok : ∀ k, k < 33 → parseFieldDescriptor (TX5 k).2.2.1 = some (tyX5 k) := by decide +kernel
abbrev cX5_init : ByteArray := prog_7_method_1_code
def yX5_init : MethodName := ⟨RX5, "<init>", "()V"⟩
abbrev cX5_in : ByteArray := prog_7_method_3_code
def yX5_in : MethodName := ⟨RX5, "in", "(JJJ)Z"⟩
abbrev cX5_one : ByteArray := prog_7_method_4_code
def yX5_one : MethodName := ⟨RX5, "one", "(Z)I"⟩
abbrev cX5_has : ByteArray := prog_7_method_5_code
def yX5_has : MethodName := ⟨RX5, "has", "(II)Z"⟩
abbrev cX5_ones : ByteArray := prog_7_method_6_code
def yX5_ones : MethodName := ⟨RX5, "ones", "(I)I"⟩
abbrev cX5_type : ByteArray := prog_7_method_7_code
def yX5_type : MethodName := ⟨RX5, "type", "(I)I"⟩
abbrev cX5_clear : ByteArray := prog_7_method_8_code
def yX5_clear : MethodName := ⟨RX5, "clear", "()I"⟩
abbrev cX5_isFigure : ByteArray := prog_7_method_9_code
def yX5_isFigure : MethodName := ⟨RX5, "isFigure", "(I)Z"⟩
abbrev cX5_next : ByteArray := prog_7_method_10_code
def yX5_next : MethodName := ⟨RX5, "next", "()V"⟩
abbrev cX5_want : ByteArray := prog_7_method_11_code
def yX5_want : MethodName := ⟨RX5, "want", "(Z)Z"⟩
abbrev cX5_takeNumber : ByteArray := prog_7_method_12_code
def yX5_takeNumber : MethodName := ⟨RX5, "takeNumber", "(II)I"⟩
abbrev cX5_takeHill : ByteArray := prog_7_method_13_code
def yX5_takeHill : MethodName := ⟨RX5, "takeHill", "()V"⟩
abbrev cX5_takeJoin : ByteArray := prog_7_method_14_code
def yX5_takeJoin : MethodName := ⟨RX5, "takeJoin", "()V"⟩
abbrev cX5_takeItem : ByteArray := prog_7_method_15_code
def yX5_takeItem : MethodName := ⟨RX5, "takeItem", "()V"⟩
abbrev cX5_hills : ByteArray := prog_7_method_16_code
def yX5_hills : MethodName := ⟨RX5, "hills", "()I"⟩
abbrev cX5_begin : ByteArray := prog_7_method_17_code
def yX5_begin : MethodName := ⟨RX5, "begin", "()V"⟩
abbrev cX5_isHill : ByteArray := prog_7_method_18_code
def yX5_isHill : MethodName := ⟨RX5, "isHill", "(I)Z"⟩
abbrev cX5_isMan : ByteArray := prog_7_method_19_code
def yX5_isMan : MethodName := ⟨RX5, "isMan", "(I)Z"⟩
abbrev cX5_hill : ByteArray := prog_7_method_20_code
def yX5_hill : MethodName := ⟨RX5, "hill", "(II)I"⟩
abbrev cX5_sizeBy : ByteArray := prog_7_method_21_code
def yX5_sizeBy : MethodName := ⟨RX5, "sizeBy", "(II)I"⟩
abbrev cX5_sizeIn : ByteArray := prog_7_method_22_code
def yX5_sizeIn : MethodName := ⟨RX5, "sizeIn", "(II)I"⟩
abbrev cX5_isOver : ByteArray := prog_7_method_23_code
def yX5_isOver : MethodName := ⟨RX5, "isOver", "(II)Z"⟩
abbrev cX5_stone : ByteArray := prog_7_method_24_code
def yX5_stone : MethodName := ⟨RX5, "stone", "(II)I"⟩
abbrev cX5_man : ByteArray := prog_7_method_25_code
def yX5_man : MethodName := ⟨RX5, "man", "(II)I"⟩
abbrev cX5_over : ByteArray := prog_7_method_26_code
def yX5_over : MethodName := ⟨RX5, "over", "()I"⟩
abbrev cX5_now : ByteArray := prog_7_method_27_code
def yX5_now : MethodName := ⟨RX5, "now", "(I)I"⟩
abbrev cX5_blocksIn : ByteArray := prog_7_method_28_code
def yX5_blocksIn : MethodName := ⟨RX5, "blocksIn", "(III)I"⟩
abbrev cX5_copy : ByteArray := prog_7_method_29_code
def yX5_copy : MethodName := ⟨RX5, "copy", "(II)V"⟩
abbrev cX5_remember : ByteArray := prog_7_method_30_code
def yX5_remember : MethodName := ⟨RX5, "remember", "()V"⟩
abbrev cX5_order : ByteArray := prog_7_method_31_code
def yX5_order : MethodName := ⟨RX5, "order", "(II)I"⟩
abbrev cX5_pushOf : ByteArray := prog_7_method_32_code
def yX5_pushOf : MethodName := ⟨RX5, "pushOf", "(II)I"⟩
abbrev cX5_overIn : ByteArray := prog_7_method_33_code
def yX5_overIn : MethodName := ⟨RX5, "overIn", "(I)I"⟩
abbrev cX5_tire : ByteArray := prog_7_method_34_code
def yX5_tire : MethodName := ⟨RX5, "tire", "(II)V"⟩
abbrev cX5_push : ByteArray := prog_7_method_35_code
def yX5_push : MethodName := ⟨RX5, "push", "(I)I"⟩
abbrev cX5_dusk : ByteArray := prog_7_method_36_code
def yX5_dusk : MethodName := ⟨RX5, "dusk", "(IZ)V"⟩
abbrev cX5_rainsOn : ByteArray := prog_7_method_37_code
def yX5_rainsOn : MethodName := ⟨RX5, "rainsOn", "(I)Z"⟩
abbrev cX5_hour : ByteArray := prog_7_method_38_code
def yX5_hour : MethodName := ⟨RX5, "hour", "()I"⟩
abbrev cX5_undo : ByteArray := prog_7_method_39_code
def yX5_undo : MethodName := ⟨RX5, "undo", "()I"⟩
abbrev cX5_orderAll : ByteArray := prog_7_method_40_code
def yX5_orderAll : MethodName := ⟨RX5, "orderAll", "(III)V"⟩
abbrev cX5_stepBy : ByteArray := prog_7_method_41_code
def yX5_stepBy : MethodName := ⟨RX5, "stepBy", "(III)I"⟩
abbrev cX5_isCode : ByteArray := prog_7_method_42_code
def yX5_isCode : MethodName := ⟨RX5, "isCode", "(II)Z"⟩
abbrev cX5_highest : ByteArray := prog_7_method_43_code
def yX5_highest : MethodName := ⟨RX5, "highest", "(II)I"⟩
abbrev cX5_goToDusk : ByteArray := prog_7_method_44_code
def yX5_goToDusk : MethodName := ⟨RX5, "goToDusk", "(IZ)V"⟩
abbrev cX5_days : ByteArray := prog_7_method_45_code
def yX5_days : MethodName := ⟨RX5, "days", "(I)I"⟩
abbrev cX5_isOverBy : ByteArray := prog_7_method_46_code
def yX5_isOverBy : MethodName := ⟨RX5, "isOverBy", "(II)Z"⟩
abbrev cX5_little : ByteArray := prog_7_method_47_code
def yX5_little : MethodName := ⟨RX5, "little", "(I)I"⟩
abbrev cX5_crew : ByteArray := prog_7_method_48_code
def yX5_crew : MethodName := ⟨RX5, "crew", "(I)I"⟩
abbrev cX5_blocks : ByteArray := prog_7_method_49_code
def yX5_blocks : MethodName := ⟨RX5, "blocks", "(I)I"⟩
abbrev cX5_written : ByteArray := prog_7_method_50_code
def yX5_written : MethodName := ⟨RX5, "written", "(II)I"⟩
abbrev cX5_saw : ByteArray := prog_7_method_51_code
def yX5_saw : MethodName := ⟨RX5, "saw", "(II)I"⟩
abbrev cX5_forget : ByteArray := prog_7_method_52_code
def yX5_forget : MethodName := ⟨RX5, "forget", "()I"⟩
abbrev cX5_evening : ByteArray := prog_7_method_53_code
def yX5_evening : MethodName := ⟨RX5, "evening", "()I"⟩
abbrev cX5_common : ByteArray := prog_7_method_54_code
def yX5_common : MethodName := ⟨RX5, "common", "(JJ)J"⟩
abbrev cX5_odds : ByteArray := prog_7_method_55_code
def yX5_odds : MethodName := ⟨RX5, "odds", "(IIII)J"⟩
abbrev cX5_wear : ByteArray := prog_7_method_56_code
def yX5_wear : MethodName := ⟨RX5, "wear", "(II)I"⟩
abbrev cX5_stoneRate : ByteArray := prog_7_method_57_code
def yX5_stoneRate : MethodName := ⟨RX5, "stoneRate", "(I)I"⟩
abbrev cX5_roundRate : ByteArray := prog_7_method_58_code
def yX5_roundRate : MethodName := ⟨RX5, "roundRate", "(I)I"⟩
abbrev cX5_splitRate : ByteArray := prog_7_method_59_code
def yX5_splitRate : MethodName := ⟨RX5, "splitRate", "(I)I"⟩
abbrev cX5_wetRate : ByteArray := prog_7_method_60_code
def yX5_wetRate : MethodName := ⟨RX5, "wetRate", "(I)I"⟩
abbrev cX5_lentRate : ByteArray := prog_7_method_61_code
def yX5_lentRate : MethodName := ⟨RX5, "lentRate", "(I)I"⟩
abbrev cX5_hollowRate : ByteArray := prog_7_method_62_code
def yX5_hollowRate : MethodName := ⟨RX5, "hollowRate", "(I)I"⟩
abbrev cX5_rate : ByteArray := prog_7_method_63_code
def yX5_rate : MethodName := ⟨RX5, "rate", "(II)I"⟩
abbrev cX5_keep : ByteArray := prog_7_method_64_code
def yX5_keep : MethodName := ⟨RX5, "keep", "(I)I"⟩
abbrev cX5_back : ByteArray := prog_7_method_65_code
def yX5_back : MethodName := ⟨RX5, "back", "(I)I"⟩
abbrev cX5_count : ByteArray := prog_7_method_66_code
def yX5_count : MethodName := ⟨RX5, "count", "(I)I"⟩
abbrev cX5_trace : ByteArray := prog_7_method_67_code
def yX5_trace : MethodName := ⟨RX5, "trace", "()J"⟩
def RJ6 : String := "java/lang/Integer"
abbrev cJ6_bitCount_0f7a4 : ByteArray := prog_8_method_49_code
def yJ6_bitCount_0f7a4 : MethodName := ⟨RJ6, "bitCount", "(I)I"⟩
def RJ9 : String := "java/lang/Math"
abbrev cJ9_max_7cf53 : ByteArray := prog_9_method_65_code
def yJ9_max_7cf53 : MethodName := ⟨RJ9, "max", "(II)I"⟩
abbrev cJ9_min_7cf53 : ByteArray := prog_9_method_69_code
def yJ9_min_7cf53 : MethodName := ⟨RJ9, "min", "(II)I"⟩
def RJ10 : String := "java/lang/System"
def RL : String := "DuskStonesLaw"
abbrev cL_law : ByteArray := code
def yL_law : MethodName := ⟨RL, "law", "([I)Z"⟩
abbrev vwCl : List vw_C := [(RX0, TX0, 7), (RX1, TX1, 15), (RX2, TX2, 8), (RX3, TX3, 7), (RX4, TX4, 16), (RX5, TX5, 33)]
end
section
/-! ===== the words of the tables that every method carries ===== -/
def tb : List Cond := lw_tbl.filter goodWord
theorem tb_of {i : Nat} {w : Cond} (h : lw_tbl[i]? = some w) (hg : goodWord w = true) : w ∈ tb := List.mem_filter.mpr ⟨List.mem_of_getElem? h, hg⟩
theorem tb_lw {w : Cond} (h : w ∈ tb) : w ∈ lw_tbl := (List.mem_filter.mp h).1
theorem tb_good {ws : List Cond} (h : ∀ w ∈ ws, w ∈ tb) : GoodIn tb ws := fun w hw => ⟨h w hw, good_of_word (List.mem_filter.mp (h w hw)).2⟩
/-! ===== memory: ints, references (numbers of cells), longs, by cell and place ===== -/
abbrev MI : Type := Nat → Nat → Int32
abbrev MG : Type := Nat → Nat → Option Nat
abbrev MJ : Type := Nat → Nat → Int64
/-- a method: name, code, locals, return type, cells and slots that it makes -/
abbrev Mt : Type := MethodName × ByteArray × Nat × Option FieldType × Nat × Nat
/-- where a cell lies; the classes of arrays; classes and slots of objects; the base -/
abbrev Pk : Type := (Nat → Nat) × (Nat → ClassId) × va_G × Nat
/-- the cells in the order in which they are made: kind (0 to 5 the classes of vwCl, 6 int[], 7 char[], 8 boolean[], 9 Moment[], 10 int[][]) and length -/
def shL : List (Nat × Nat) := [(4, 16), (7, 200), (3, 7), (6, 4), (1, 15), (6, 4), (6, 4), (6, 4), (6, 4), (6, 4), (6, 4), (6, 4), (6, 3), (1, 15), (6, 4), (6, 4), (6, 4), (6, 4), (6, 4), (6, 4), (6, 4), (6, 3), (2, 8), (6, 4), (6, 4), (6, 3), (6, 3), (6, 20), (2, 8), (6, 4), (6, 4), (6, 3), (6, 3), (6, 20), (9, 10), (9, 2), (8, 2), (6, 6), (6, 6), (0, 7), (10, 7), (6, 3), (6, 3), (6, 3), (6, 3), (6, 3), (6, 3), (6, 3), (6, 6), (6, 6), (2, 8), (6, 4), (6, 4), (6, 3), (6, 3), (6, 20), (2, 8), (6, 4), (6, 4), (6, 3), (6, 3), (6, 20), (2, 8), (6, 4), (6, 4), (6, 3), (6, 3), (6, 20), (2, 8), (6, 4), (6, 4), (6, 3), (6, 3), (6, 20), (2, 8), (6, 4), (6, 4), (6, 3), (6, 3), (6, 20), (2, 8), (6, 4), (6, 4), (6, 3), (6, 3), (6, 20), (2, 8), (6, 4), (6, 4), (6, 3), (6, 3), (6, 20), (2, 8), (6, 4), (6, 4), (6, 3), (6, 3), (6, 20), (2, 8), (6, 4), (6, 4), (6, 3), (6, 3), (6, 20), (2, 8), (6, 4), (6, 4), (6, 3), (6, 3), (6, 20), (2, 8), (6, 4), (6, 4), (6, 3), (6, 3), (6, 20), (2, 8), (6, 4), (6, 4), (6, 3), (6, 3), (6, 20), (5, 33), (6, 1400), (8, 2), (6, 8), (6, 8), (6, 8), (6, 8), (6, 8), (6, 8), (6, 8), (6, 6), (6, 200), (6, 6), (6, 6)]
def shp (c : Nat) : Nat × Nat := shL.getD c (99, 0)
def pre (n : Nat) : Nat := ((shL.take n).map (fun q => q.2)).sum
def fkL : List (List Nat) := [[1, 1, 1, 0, 0, 0, 0], [0, 1, 1, 1, 1, 0, 1, 1, 1, 0, 1, 0, 0, 0, 0], [0, 0, 1, 1, 1, 1, 1, 0], [1, 1, 0, 0, 0, 0, 0], [1, 0, 1, 1, 1, 1, 1, 1, 0, 1, 1, 1, 1, 0, 1, 2], [1, 1, 1, 1, 1, 1, 1, 1, 1, 1, 0, 0, 0, 0, 0, 0, 0, 0, 0, 0, 0, 1, 0, 0, 0, 0, 0, 0, 0, 1, 1, 0, 2]]
def fkd (ci k : Nat) : Nat := (fkL.getD ci []).getD k 0
/-- the shape of a cell that has been made -/
def shn (n c : Nat) : Nat × Nat := if c < n then shp c else (99, 0)
theorem shn_lt {n c k z : Nat} (h : shn n c = (k, z)) (hk : k < 99) : c < n ∧ shp c = (k, z) := by
  unfold shn at h
  split at h
  · exact ⟨by assumption, h⟩
  · cases h; omega
def cvv (ad : Nat → Nat) (v : Value) : Value := match v with
  | .ref k => .ref (ad k)
  | w => w
theorem cvv_cat (ad : Nat → Nat) (v : Value) : (cvv ad v).category = v.category := by cases v <;> rfl
theorem cvv_rf (ad : Nat → Nat) (r : Option Nat) : va_rf (r.map ad) = cvv ad (va_rf r) := by cases r <;> rfl
def fval (ad : Nat → Nat) (I : MI) (G : MG) (J : MJ) (ci c k : Nat) : Value :=
  if fkd ci k = 0 then .int (I c k) else if fkd ci k = 1 then va_rf ((G c k).map ad) else .long (J c k)
def celE (K : Pk) (I : MI) (G : MG) (J : MJ) (c : Nat) : va_E :=
  if (shp c).1 < 6 then .inr ((shp c).1, (List.range (shp c).2).map (fval K.1 I G J (shp c).1 c))
  else if (shp c).1 < 9 then .inl (K.2.1 ((shp c).1 - 6), (shp c).2, .inl (I c))
  else .inl (K.2.1 ((shp c).1 - 6), (shp c).2, .inr (.inr (.inr (.inr (fun i => (G c i).map K.1)))))
def wsO (K : Pk) (n : Nat) (I : MI) (G : MG) (J : MJ) : va_W := (List.range n).map (fun c => (K.1 c, celE K I G J c))
def Aw (K : Pk) : Nat → Prop := fun q => K.2.2.2 ≤ q
def u2 {α : Type} (f : Nat → Nat → α) (c k : Nat) (v : α) : Nat → Nat → α := fun x y => if x = c ∧ y = k then v else f x y
theorem u2_at {α : Type} (f : Nat → Nat → α) (c k : Nat) (v : α) : u2 f c k v c k = v := if_pos ⟨rfl, rfl⟩
theorem u2_row {α : Type} (f : Nat → Nat → α) {c x : Nat} (k : Nat) (v : α) (h : x ≠ c) : u2 f c k v x = f x := funext fun y => if_neg fun q => h q.1
theorem u2_ne {α : Type} (f : Nat → Nat → α) {c k x y : Nat} (v : α) (h : ¬ (x = c ∧ y = k)) : u2 f c k v x y = f x y := if_neg h
theorem u2_upd (f : MI) (c k : Nat) (v : Int32) : u2 f c k v c = upd (f c) k v := funext fun y => by simp [u2, upd]
theorem u2_up {α : Type} (f : Nat → Nat → α) (c k : Nat) (v : α) : u2 f c k v c = va_up (f c) k v := funext fun y => by simp [u2, va_up]
/-- row c replaced -/
def ur {α : Type} (f : Nat → Nat → α) (c : Nat) (r : Nat → α) : Nat → Nat → α := fun x => if x = c then r else f x
theorem ur_at {α : Type} (f : Nat → Nat → α) (c : Nat) (r : Nat → α) : ur f c r c = r := if_pos rfl
theorem ur_ne {α : Type} (f : Nat → Nat → α) {c x : Nat} (r : Nat → α) (h : x ≠ c) : ur f c r x = f x := if_neg h
theorem celE_congr {K : Pk} {I I' : MI} {G G' : MG} {J J' : MJ} {x : Nat} (h1 : I' x = I x) (h2 : G' x = G x) (h3 : J' x = J x) : celE K I' G' J' x = celE K I G J x := by
  unfold celE fval
  rw [h1, h2, h3]
theorem wsO_at {K : Pk} {n c : Nat} {I : MI} {G : MG} {J : MJ} (h : c < n) : (wsO K n I G J)[c]? = some (K.1 c, celE K I G J c) := by
  simp [wsO, h]
theorem wsO_set {K : Pk} {n c : Nat} {I I' : MI} {G G' : MG} {J J' : MJ} (h : c < n) (h1 : ∀ x, x ≠ c → I' x = I x) (h2 : ∀ x, x ≠ c → G' x = G x) (h3 : ∀ x, x ≠ c → J' x = J x) : (wsO K n I G J).set c (K.1 c, celE K I' G' J' c) = wsO K n I' G' J' := by
  apply List.ext_getElem?
  intro i
  by_cases hi : i = c
  · subst hi
    rw [List.getElem?_set_self (by simp [wsO, h]), wsO_at h]
  · rw [List.getElem?_set_ne (Ne.symm hi)]
    by_cases hl : i < n
    · rw [wsO_at hl, wsO_at hl, celE_congr (h1 i hi) (h2 i hi) (h3 i hi)]
    · rw [List.getElem?_eq_none (by simp [wsO]; omega), List.getElem?_eq_none (by simp [wsO]; omega)]
theorem wsO_succ {K : Pk} {n : Nat} {I I' : MI} {G G' : MG} {J J' : MJ} {e : va_E} (h1 : ∀ x, x < n → I' x = I x) (h2 : ∀ x, x < n → G' x = G x) (h3 : ∀ x, x < n → J' x = J x) (he : celE K I' G' J' n = e) : wsO K n I G J ++ [(K.1 n, e)] = wsO K (n + 1) I' G' J' := by
  subst he
  unfold wsO
  rw [List.range_succ, List.map_append]
  congr 1
  apply List.map_congr_left
  intro x hx
  have hx := List.mem_range.mp hx
  rw [celE_congr (h1 x hx) (h2 x hx) (h3 x hx)]
def Had (K : Pk) : Prop := ∀ k, k < 1000 → K.1 k = K.2.2.2 + k
theorem wsO_D {K : Pk} {n : Nat} {I : MI} {G : MG} {J : MJ} (h : Had K) (hn : n ≤ 1000) : va_D (Aw K) (wsO K n I G J) := by
  have key : ∀ (k : Nat) (q : Nat × va_E), (wsO K n I G J)[k]? = some q → k < n ∧ q.1 = K.2.2.2 + k := by
    intro k q hk
    have hl : k < n := by
      have := (List.getElem?_eq_some_iff.mp hk).1
      simpa [wsO] using this
    rw [wsO_at hl] at hk
    cases hk
    exact ⟨hl, h k (by omega)⟩
  refine ⟨fun i j p q hi hj e => ?_, fun k q hk => ?_⟩
  · have h1 := key i p hi
    have h2 := key j q hj
    omega
  · have h1 := key k q hk
    unfold Aw
    omega
/-- the heap holds the first n cells, and nothing behind them -/
def Iw (K : Pk) (n : Nat) (I : MI) (G : MG) (J : MJ) (H : Heap) : Prop := va_P K.2.2.1 vwCl (wsO K n I G J) H ∧ H.size = K.2.2.2 + n ∧ n ≤ 1000
/-- the script (1000) and the four static rows (1001 ..): ints that nobody writes; their lengths stand in G -/
def oul (G : MG) (c : Nat) : Nat := (G c 0).getD 0
def Ou0 (K : Pk) (B : MI × MG) (s : State) : Prop :=
  (∀ c, 1000 ≤ c → c < 1005 → va_X (K.1 c) (oul B.2 c) (B.1 c) s s.heap ∧ K.1 c < K.2.2.2) ∧
  va_Z "DuskStones" "KIND_ABOVE" "[I" (.ref (K.1 1001)) (Aw K) s s.heap ∧ va_Z "DuskStones" "KIND_TRACE" "[I" (.ref (K.1 1002)) (Aw K) s s.heap ∧
  va_Z "DuskStones$Reader" "HILL_LEAST" "[I" (.ref (K.1 1003)) (Aw K) s s.heap ∧ va_Z "DuskStones$Reader" "HILL_MOST" "[I" (.ref (K.1 1004)) (Aw K) s s.heap
/-- .. as at the method's start (B) -/
def Out (K : Pk) (B : MI × MG) (I : MI) (G : MG) (s : State) : Prop := Ou0 K B s ∧ ∀ x, 1000 ≤ x → I x = B.1 x ∧ G x = B.2 x
theorem Out.mem {K : Pk} {B : MI × MG} {I I' : MI} {G G' : MG} {s : State} (h : Out K B I G s) (h1 : ∀ x, 1000 ≤ x → I' x = I x) (h2 : ∀ x, 1000 ≤ x → G' x = G x) : Out K B I' G' s :=
  ⟨h.1, fun x hx => ⟨(h1 x hx).trans (h.2 x hx).1, (h2 x hx).trans (h.2 x hx).2⟩⟩
theorem Out.cell {K : Pk} {B : MI × MG} {I : MI} {G : MG} {s : State} (h : Out K B I G s) (c : Nat) (h1 : 1000 ≤ c) (h2 : c < 1005) : va_X (K.1 c) (oul G c) (I c) s s.heap ∧ K.1 c < K.2.2.2 := by
  have q := h.1.1 c h1 h2
  obtain ⟨e1, e2⟩ := h.2 c h1
  unfold oul at q ⊢
  rw [e1, e2]
  exact q
theorem Out.move {K : Pk} {B : MI × MG} {I : MI} {G : MG} {s U : State} (h : Out K B I G s) (hvm : s.vm.Alike U.vm) (hq : ∀ a : Nat, a < K.2.2.2 → U.heap[a]? = s.heap[a]?) : Out K (I, G) I G U := by
  have hz : ∀ a : Nat, a < s.heap.size → ¬ Aw K a → U.heap[a]? = s.heap[a]? := fun a _ h2 => hq a (Nat.not_le.mp h2)
  obtain ⟨-, z1, z2, z3, z4⟩ := h.1
  refine ⟨⟨fun c a b => ?_, (z1.kept hz).moved hvm, (z2.kept hz).moved hvm, (z3.kept hz).moved hvm, (z4.kept hz).moved hvm⟩, fun _ _ => ⟨rfl, rfl⟩⟩
  have q := h.cell c a b
  exact ⟨(q.1.kept (hq _ q.2)).moved hvm, q.2⟩
def tyK (K : Pk) : List (ClassId × FieldType) := [(K.2.1 0, .int), (K.2.1 1, .char), (K.2.1 2, .boolean), (K.2.1 3, .object RX2), (K.2.1 4, .array .int)]
/-- words that don't ride with the others -/
def Xw (s : State) : Prop := va_Nw (.methodLinkNest RX4 24 yX1_init RX4) s ∧ va_Nw (.methodLinkNest RX4 34 yX2_init RX4) s ∧ va_Nw (.methodLinkNest RX4 62 yX0_init RX4) s ∧ (Cond.arrayOver (.object RX2)).before #[] s = true ∧ (Cond.arrayOver (.array .int)).before #[] s = true
def Cx (K : Pk) (M : Mt) (p : Program) (s : State) (m : MethodId) (args : Array Value) (meth : Method) (c : Code) : Prop :=
  CallFix p m c M.2.1 M.2.2.1 s args tb M.1.cls ∧ meth.sig.returnType = M.2.2.2.1 ∧ meth.locks = false ∧ meth.name = M.1.name ∧ va_K K.2.2.1 vwCl (tyK K) s ∧ Xw s ∧ Had K
def Rk (d : Nat) (M : Mt) (R : Room) : Prop := d ≤ R.frames ∧ d * 64 ≤ R.locals ∧ M.2.2.2.2.1 ≤ R.cells ∧ M.2.2.2.2.2 ≤ R.slots
/-- the locals: what the list knows, the frame holds -/
def Lv (ad : Nat → Nat) (N : Nat) (ls : List (Option Value)) (a : Array Slot) : Prop := ∃ l, lv_has a N l ∧ ls.length = N ∧ ∀ (k : Nat) (v : Value), ls[k]? = some (some v) → (k, cvv ad v) ∈ l
def RetAt (M : Mt) (pc : Nat) (r : Option Value) : Prop :=
  (∃ v : Int32, r = some (.int v) ∧ decode M.2.1 pc = .ok (.ireturn, 1) ∧ (M.2.2.2.1 = some .int ∨ (M.2.2.2.1 = some .boolean ∧ narrow .boolean (.int v) = .int v))) ∨
  (∃ v : Int64, r = some (.long v) ∧ decode M.2.1 pc = .ok (.lreturn, 1) ∧ M.2.2.2.1 = some .long) ∨ (r = none ∧ decode M.2.1 pc = .ok (.return_, 1) ∧ M.2.2.2.1 = none)
abbrev Ph : Type := Option Value → Nat → MI → MG → MJ → Prop
def Rt (K : Pk) (B : MI × MG) (M : Mt) (n0 : Nat) (Φ : Ph) (p : Program) (l : Launch) (e : Env) (R : Room) (s : State) (m : MethodId) (args : Array Value) (below : List Frame) (meth : Method) (c : Code) (Q : State → Prop) : Prop :=
  ∀ (r : Option Value) (n1 : Nat) (I1 : MI) (G1 : MG) (J1 : MJ) (H1 : Heap) (locs1 : List Loc) (pc1 : Nat) (a1 : Array Slot), Φ r n1 I1 G1 J1 → Iw K n1 I1 G1 J1 H1 → Out K B I1 G1 s → va_S (Aw K) s.heap H1 locs1 → RetAt M pc1 r → n1 = n0 + M.2.2.2.2.1 → pre n1 = pre n0 + M.2.2.2.2.2 →
    W p l e R s m args below meth c H1 locs1 M.2.2.2.2.1 M.2.2.2.2.2 Q (F0 m pc1 a1 (r.toList.map (cvv K.1)))
/-- THE JUDGEMENT: at depth d, in method M that was entered with n0 cells, from pc, locals, stack and memory on the machine comes to the method's end, and there Φ holds of answer and memory -/
def Ev (d : Nat) (M : Mt) (n0 pc : Nat) (ls : List (Option Value)) (st : List Value) (n : Nat) (I : MI) (G : MG) (J : MJ) (Φ : Ph) : Prop :=
  ∀ (K : Pk) (B : MI × MG) (p : Program) (l : Launch) (e : Env) (R : Room) (s : State) (m : MethodId) (args : Array Value) (below : List Frame) (meth : Method) (c : Code) (H : Heap) (locs : List Loc) (Q : State → Prop) (a : Array Slot),
    Cx K M p s m args meth c → Rk d M R → s.heap.size = K.2.2.2 + n0 → Iw K n I G J H → Out K B I G s → va_S (Aw K) s.heap H locs → Lv K.1 M.2.2.1 ls a → Rt K B M n0 Φ p l e R s m args below meth c Q →
    W p l e R s m args below meth c H locs (n - n0) (pre n - pre n0) Q (F0 m pc a (st.map (cvv K.1)))
theorem Ev.mono {d d' : Nat} {M : Mt} {n0 pc : Nat} {ls : List (Option Value)} {st : List Value} {n : Nat} {I : MI} {G : MG} {J : MJ} {Φ : Ph} (h : d ≤ d') (k : Ev d M n0 pc ls st n I G J Φ) : Ev d' M n0 pc ls st n I G J Φ :=
  fun K B p l e R s m args below meth c H locs Q a hC hR => k K B p l e R s m args below meth c H locs Q a hC ⟨Nat.le_trans h hR.1, Nat.le_trans (Nat.mul_le_mul_right 64 h) hR.2.1, hR.2.2⟩
theorem Ev.post {d : Nat} {M : Mt} {n0 pc : Nat} {ls : List (Option Value)} {st : List Value} {n : Nat} {I : MI} {G : MG} {J : MJ} {Φ Ψ : Ph} (h : ∀ r n I G J, Φ r n I G J → Ψ r n I G J) (k : Ev d M n0 pc ls st n I G J Φ) : Ev d M n0 pc ls st n I G J Ψ :=
  fun K B p l e R s m args below meth c H locs Q a hC hR h0 hI hO hS hL hQ => k K B p l e R s m args below meth c H locs Q a hC hR h0 hI hO hS hL (fun r n1 I1 G1 J1 H1 l1 pc1 a1 q => hQ r n1 I1 G1 J1 H1 l1 pc1 a1 (h _ _ _ _ _ q))
/-- a step that only the stack and the pc feel -/
theorem Ev.of {d : Nat} {M : Mt} {n0 pc pc' : Nat} {ls : List (Option Value)} {st st' : List Value} {n : Nat} {I : MI} {G : MG} {J : MJ} {Φ : Ph}
    (h : ∀ (K : Pk) (B : MI × MG) (p : Program) (l : Launch) (e : Env) (R : Room) (s : State) (m : MethodId) (args : Array Value) (below : List Frame) (meth : Method) (c : Code) (H : Heap) (locs : List Loc) (cells slots : Nat) (Q : State → Prop) (a : Array Slot), Cx K M p s m args meth c → Lv K.1 M.2.2.1 ls a → W p l e R s m args below meth c H locs cells slots Q (F0 m pc' a (st'.map (cvv K.1))) → W p l e R s m args below meth c H locs cells slots Q (F0 m pc a (st.map (cvv K.1))))
    (k : Ev d M n0 pc' ls st' n I G J Φ) : Ev d M n0 pc ls st n I G J Φ :=
  fun K B p l e R s m args below meth c H locs Q a hC hR h0 hI hO hS hL hQ => h K B p l e R s m args below meth c H locs _ _ Q a hC hL (k K B p l e R s m args below meth c H locs Q a hC hR h0 hI hO hS hL hQ)
theorem Lv.at {ad : Nat → Nat} {N : Nat} {ls : List (Option Value)} {a : Array Slot} (h : Lv ad N ls a) {k : Nat} {v : Value} (hk : ls[k]? = some (some v)) : a[k]? = some (.val (cvv ad v)) := by
  obtain ⟨l, h1, -, h2⟩ := h
  exact h1.2.2 _ (h2 k v hk)
/-- what a store of one word leaves of the locals -/
def sto (ls : List (Option Value)) (i : Nat) (v : Value) : List (Option Value) := (match i with
  | 0 => ls
  | j + 1 => match ls.getD j none with
    | some w => if w.category = 2 then ls.set j none else ls
    | none => ls).set i (some v)
def sto2 (ls : List (Option Value)) (i : Nat) (v : Value) : List (Option Value) := (sto ls i v).set (i + 1) none
theorem sto_len (ls : List (Option Value)) (i : Nat) (v : Value) : (sto ls i v).length = ls.length := by
  unfold sto
  split
  · simp
  · split
    · split <;> simp
    · simp
theorem sto_get {ls : List (Option Value)} {i k : Nat} {v w : Value} (h : (sto ls i v)[k]? = some (some w)) : (k = i ∧ w = v) ∨ (k ≠ i ∧ ls[k]? = some (some w) ∧ ¬ (k + 1 = i ∧ w.category = 2)) := by
  by_cases hk : k = i
  · subst hk
    refine Or.inl ⟨rfl, ?_⟩
    unfold sto at h
    have hl := (List.getElem?_eq_some_iff.mp h).1
    rw [List.length_set] at hl
    rw [List.getElem?_set_self hl] at h
    cases h
    rfl
  · refine Or.inr ⟨hk, ?_⟩
    unfold sto at h
    rw [List.getElem?_set_ne (Ne.symm hk)] at h
    cases i with
    | zero => exact ⟨h, fun q => by omega⟩
    | succ j =>
      dsimp only at h
      cases hj : ls.getD j none with
      | none =>
        rw [hj] at h
        refine ⟨h, fun q => ?_⟩
        have e : k = j := by omega
        subst e
        rw [List.getD_eq_getElem?_getD, h] at hj
        cases hj
      | some u =>
        rw [hj] at h
        dsimp only at h
        by_cases hu : u.category = 2
        · rw [if_pos hu] at h
          by_cases e : k = j
          · subst e
            have hl := (List.getElem?_eq_some_iff.mp h).1
            rw [List.length_set] at hl
            rw [List.getElem?_set_self hl] at h
            cases h
          · rw [List.getElem?_set_ne (Ne.symm e)] at h
            exact ⟨h, fun q => by omega⟩
        · rw [if_neg hu] at h
          refine ⟨h, fun q => ?_⟩
          have e : k = j := by omega
          subst e
          rw [List.getD_eq_getElem?_getD, h] at hj
          cases hj
          exact hu q.2
/-- a step that stores into a local -/
theorem Lv_sto {ad : Nat → Nat} {N i : Nat} {ls : List (Option Value)} {a : Array Slot} {v : Value} {l : List (Nat × Value)} (hl : ls.length = N) (h2 : ∀ (k : Nat) (v : Value), ls[k]? = some (some v) → (k, cvv ad v) ∈ l)
    (h : lv_has a N ((i, cvv ad v) :: l.filter (fun q => !(q.1 == i) && !(q.1 + 1 == i && q.2.category == 2)))) : Lv ad N (sto ls i v) a := by
  refine ⟨_, h, (sto_len ls i v).trans hl, fun k w hk => ?_⟩
  rcases sto_get hk with ⟨rfl, rfl⟩ | ⟨q1, q2, q3⟩
  · exact List.mem_cons_self
  · refine List.mem_cons_of_mem _ (List.mem_filter.mpr ⟨h2 k w q2, ?_⟩)
    simp only [cvv_cat, Bool.and_eq_true, Bool.not_eq_true', beq_eq_false_iff_ne, ne_eq, Bool.and_eq_false_iff]
    refine ⟨q1, ?_⟩
    by_cases e : k + 1 = i
    · exact Or.inr (fun z => q3 ⟨e, z⟩)
    · exact Or.inl e
theorem Lv_sto2 {ad : Nat → Nat} {N i : Nat} {ls : List (Option Value)} {a : Array Slot} {v : Value} {l : List (Nat × Value)} (hl : ls.length = N) (h2 : ∀ (k : Nat) (v : Value), ls[k]? = some (some v) → (k, cvv ad v) ∈ l)
    (h : lv_has a N ((i, cvv ad v) :: l.filter (fun q => !(q.1 == i) && (!(q.1 == i + 1) && !(q.1 + 1 == i && q.2.category == 2))))) : Lv ad N (sto2 ls i v) a := by
  refine ⟨_, h, by unfold sto2; rw [List.length_set, sto_len, hl], fun k w hk => ?_⟩
  unfold sto2 at hk
  have hne : k ≠ i + 1 := by
    intro e
    subst e
    have hl2 := (List.getElem?_eq_some_iff.mp hk).1
    rw [List.length_set] at hl2
    rw [List.getElem?_set_self hl2] at hk
    cases hk
  rw [List.getElem?_set_ne (Ne.symm hne)] at hk
  rcases sto_get hk with ⟨rfl, rfl⟩ | ⟨q1, q2, q3⟩
  · exact List.mem_cons_self
  · refine List.mem_cons_of_mem _ (List.mem_filter.mpr ⟨h2 k w q2, ?_⟩)
    simp only [cvv_cat, Bool.and_eq_true, Bool.not_eq_true', beq_eq_false_iff_ne, ne_eq, Bool.and_eq_false_iff]
    refine ⟨q1, hne, ?_⟩
    by_cases e : k + 1 = i
    · exact Or.inr (fun z => q3 ⟨e, z⟩)
    · exact Or.inl e
end
section
section RULES
variable {d : Nat} {M : Mt} {n0 pc : Nat} {ls : List (Option Value)} {st : List Value} {n : Nat} {I : MI} {G : MG} {J : MJ} {Φ : Ph}
theorem E_iconst {z : Int} (v : Int32) (hd : decode M.2.1 pc = .ok (.iconst z, 1)) (hv : Int32.ofInt z = v) (k : Ev d M n0 (pc + 1) ls (.int v :: st) n I G J Φ) : Ev d M n0 (pc) ls (st) n I G J Φ :=
  Ev.of (fun K B p l e R s m args below meth c H locs cells slots Q a hC hL k => lv_iconst (v := v) hC.1.1 hC.1.2.1 hd hv k) k
theorem E_bipush {z : Int} (v : Int32) (hd : decode M.2.1 pc = .ok (.bipush z, 2)) (hv : (Int8.ofInt z).toInt32 = v) (k : Ev d M n0 (pc + 2) ls (.int v :: st) n I G J Φ) : Ev d M n0 (pc) ls (st) n I G J Φ :=
  Ev.of (fun K B p l e R s m args below meth c H locs cells slots Q a hC hL k => lv_bipush (v := v) hC.1.1 hC.1.2.1 hd hv k) k
theorem E_sipush {z : Int} (v : Int32) (hd : decode M.2.1 pc = .ok (.sipush z, 3)) (hv : (Int16.ofInt z).toInt32 = v) (k : Ev d M n0 (pc + 3) ls (.int v :: st) n I G J Φ) : Ev d M n0 (pc) ls (st) n I G J Φ :=
  Ev.of (fun K B p l e R s m args below meth c H locs cells slots Q a hC hL k => lv_sipush (v := v) hC.1.1 hC.1.2.1 hd hv k) k
theorem E_lconst {z : Fin 2} (v : Int64) (hd : decode M.2.1 pc = .ok (.lconst z, 1)) (hv : Int64.ofNat (z : Nat) = v) (k : Ev d M n0 (pc + 1) ls (.long v :: st) n I G J Φ) : Ev d M n0 (pc) ls (st) n I G J Φ :=
  Ev.of (fun K B p l e R s m args below meth c H locs cells slots Q a hC hL k => lv_lconst (v := v) hC.1.1 hC.1.2.1 hd hv k) k
theorem E_ldc {ix : Nat} (v : Int32) (hd : decode M.2.1 pc = .ok (.ldc ix, 2)) (hw : Cond.constant M.1.cls ix v ∈ tb) (k : Ev d M n0 (pc + 2) ls (.int v :: st) n I G J Φ) : Ev d M n0 (pc) ls (st) n I G J Φ :=
  Ev.of (fun K B p l e R s m args below meth c H locs cells slots Q a hC hL k => lv_ldc hC.1.1 hC.1.2.1 hC.1.2.2.2.1 (hC.1.2.2.2.2 _ hw) hd k) k
theorem E_ldcw {ix : Nat} (v : Int32) (hd : decode M.2.1 pc = .ok (.ldc_w ix, 3)) (hw : Cond.constant M.1.cls ix v ∈ tb) (k : Ev d M n0 (pc + 3) ls (.int v :: st) n I G J Φ) : Ev d M n0 (pc) ls (st) n I G J Φ :=
  Ev.of (fun K B p l e R s m args below meth c H locs cells slots Q a hC hL k => lv_ldcw hC.1.1 hC.1.2.1 hC.1.2.2.2.1 (hC.1.2.2.2.2 _ hw) hd k) k
theorem E_ldc2 {ix : Nat} (v : Int64) (hd : decode M.2.1 pc = .ok (.ldc2_w ix, 3)) (hw : Cond.constantLong M.1.cls ix v ∈ tb) (k : Ev d M n0 (pc + 3) ls (.long v :: st) n I G J Φ) : Ev d M n0 (pc) ls (st) n I G J Φ :=
  Ev.of (fun K B p l e R s m args below meth c H locs cells slots Q a hC hL k => lv_ldc2 hC.1.1 hC.1.2.1 hC.1.2.2.2.1 (hC.1.2.2.2.2 _ hw) hd k) k
theorem E_iload_n {q : Fin 4} (i : Nat) {x : Int32} (hd : decode M.2.1 pc = .ok (.iload_n q, 1)) (hi : (q : Nat) = i) (hl : ls[i]? = some (some (.int x))) (k : Ev d M n0 (pc + 1) ls (.int x :: st) n I G J Φ) : Ev d M n0 (pc) ls (st) n I G J Φ :=
  Ev.of (fun K B p l e R s m args below meth c H locs cells slots Q a hC hL k => lv_iload_n hC.1.1 hC.1.2.1 hd hi (hL.at hl) k) k
theorem E_iload {i : Nat} {x : Int32} (hd : decode M.2.1 pc = .ok (.iload i, 2)) (hl : ls[i]? = some (some (.int x))) (k : Ev d M n0 (pc + 2) ls (.int x :: st) n I G J Φ) : Ev d M n0 (pc) ls (st) n I G J Φ :=
  Ev.of (fun K B p l e R s m args below meth c H locs cells slots Q a hC hL k => lv_iload hC.1.1 hC.1.2.1 hd (hL.at hl) k) k
theorem E_istore_n {q : Fin 4} (i : Nat) {x : Int32} (hd : decode M.2.1 pc = .ok (.istore_n q, 1)) (hi : (q : Nat) = i) (hn : i < M.2.2.1) (k : Ev d M n0 (pc + 1) (sto ls i (.int x)) (st) n I G J Φ) : Ev d M n0 (pc) ls (.int x :: st) n I G J Φ := by
  intro K B p l e R s m args below meth c H locs Q a hC hR h0 hI hO hS hL hQ
  obtain ⟨lx, h1, h2, h3⟩ := hL
  refine lv_istore_n hC.1.1 hC.1.2.1 hd hi h1 hn rfl (fun a2 hl2 => ?_)
  exact k K B p l e R s m args below meth c H locs Q a2 hC hR h0 hI hO hS (Lv_sto (v := .int x) h2 h3 hl2) hQ
theorem E_istore {i : Nat} {x : Int32} (hd : decode M.2.1 pc = .ok (.istore i, 2)) (hn : i < M.2.2.1) (k : Ev d M n0 (pc + 2) (sto ls i (.int x)) (st) n I G J Φ) : Ev d M n0 (pc) ls (.int x :: st) n I G J Φ := by
  intro K B p l e R s m args below meth c H locs Q a hC hR h0 hI hO hS hL hQ
  obtain ⟨lx, h1, h2, h3⟩ := hL
  refine lv_istore hC.1.1 hC.1.2.1 hd h1 hn rfl (fun a2 hl2 => ?_)
  exact k K B p l e R s m args below meth c H locs Q a2 hC hR h0 hI hO hS (Lv_sto (v := .int x) h2 h3 hl2) hQ
theorem E_lload_n {q : Fin 4} (i : Nat) {x : Int64} (hd : decode M.2.1 pc = .ok (.lload_n q, 1)) (hi : (q : Nat) = i) (hl : ls[i]? = some (some (.long x))) (k : Ev d M n0 (pc + 1) ls (.long x :: st) n I G J Φ) : Ev d M n0 (pc) ls (st) n I G J Φ :=
  Ev.of (fun K B p l e R s m args below meth c H locs cells slots Q a hC hL k => lv_lload_n hC.1.1 hC.1.2.1 hd hi (hL.at hl) k) k
theorem E_lload {i : Nat} {x : Int64} (hd : decode M.2.1 pc = .ok (.lload i, 2)) (hl : ls[i]? = some (some (.long x))) (k : Ev d M n0 (pc + 2) ls (.long x :: st) n I G J Φ) : Ev d M n0 (pc) ls (st) n I G J Φ :=
  Ev.of (fun K B p l e R s m args below meth c H locs cells slots Q a hC hL k => lv_lload hC.1.1 hC.1.2.1 hd (hL.at hl) k) k
theorem E_lstore_n {q : Fin 4} (i : Nat) {x : Int64} (hd : decode M.2.1 pc = .ok (.lstore_n q, 1)) (hi : (q : Nat) = i) (hn : i + 1 < M.2.2.1) (k : Ev d M n0 (pc + 1) (sto2 ls i (.long x)) (st) n I G J Φ) : Ev d M n0 (pc) ls (.long x :: st) n I G J Φ := by
  intro K B p l e R s m args below meth c H locs Q a hC hR h0 hI hO hS hL hQ
  obtain ⟨lx, h1, h2, h3⟩ := hL
  refine lv_lstore_n hC.1.1 hC.1.2.1 hd hi h1 hn rfl (fun a2 hl2 => ?_)
  exact k K B p l e R s m args below meth c H locs Q a2 hC hR h0 hI hO hS (Lv_sto2 (v := .long x) h2 h3 hl2) hQ
theorem E_lstore {i : Nat} {x : Int64} (hd : decode M.2.1 pc = .ok (.lstore i, 2)) (hn : i + 1 < M.2.2.1) (k : Ev d M n0 (pc + 2) (sto2 ls i (.long x)) (st) n I G J Φ) : Ev d M n0 (pc) ls (.long x :: st) n I G J Φ := by
  intro K B p l e R s m args below meth c H locs Q a hC hR h0 hI hO hS hL hQ
  obtain ⟨lx, h1, h2, h3⟩ := hL
  refine lv_lstore hC.1.1 hC.1.2.1 hd h1 hn rfl (fun a2 hl2 => ?_)
  exact k K B p l e R s m args below meth c H locs Q a2 hC hR h0 hI hO hS (Lv_sto2 (v := .long x) h2 h3 hl2) hQ
theorem E_aload_n {q : Fin 4} (i : Nat) {x : Nat} (hd : decode M.2.1 pc = .ok (.aload_n q, 1)) (hi : (q : Nat) = i) (hl : ls[i]? = some (some (.ref x))) (k : Ev d M n0 (pc + 1) ls (.ref x :: st) n I G J Φ) : Ev d M n0 (pc) ls (st) n I G J Φ :=
  Ev.of (fun K B p l e R s m args below meth c H locs cells slots Q a hC hL k => lv_aload_n hC.1.1 hC.1.2.1 hd hi (hL.at hl) k) k
theorem E_aload {i : Nat} {x : Nat} (hd : decode M.2.1 pc = .ok (.aload i, 2)) (hl : ls[i]? = some (some (.ref x))) (k : Ev d M n0 (pc + 2) ls (.ref x :: st) n I G J Φ) : Ev d M n0 (pc) ls (st) n I G J Φ :=
  Ev.of (fun K B p l e R s m args below meth c H locs cells slots Q a hC hL k => lv_aload hC.1.1 hC.1.2.1 hd (hL.at hl) k) k
theorem E_astore_n {q : Fin 4} (i : Nat) {x : Nat} (hd : decode M.2.1 pc = .ok (.astore_n q, 1)) (hi : (q : Nat) = i) (hn : i < M.2.2.1) (k : Ev d M n0 (pc + 1) (sto ls i (.ref x)) (st) n I G J Φ) : Ev d M n0 (pc) ls (.ref x :: st) n I G J Φ := by
  intro K B p l e R s m args below meth c H locs Q a hC hR h0 hI hO hS hL hQ
  obtain ⟨lx, h1, h2, h3⟩ := hL
  refine lv_astore_n hC.1.1 hC.1.2.1 hd hi h1 hn rfl (fun a2 hl2 => ?_)
  exact k K B p l e R s m args below meth c H locs Q a2 hC hR h0 hI hO hS (Lv_sto (v := .ref x) h2 h3 hl2) hQ
theorem E_astore {i : Nat} {x : Nat} (hd : decode M.2.1 pc = .ok (.astore i, 2)) (hn : i < M.2.2.1) (k : Ev d M n0 (pc + 2) (sto ls i (.ref x)) (st) n I G J Φ) : Ev d M n0 (pc) ls (.ref x :: st) n I G J Φ := by
  intro K B p l e R s m args below meth c H locs Q a hC hR h0 hI hO hS hL hQ
  obtain ⟨lx, h1, h2, h3⟩ := hL
  refine lv_astore hC.1.1 hC.1.2.1 hd h1 hn rfl (fun a2 hl2 => ?_)
  exact k K B p l e R s m args below meth c H locs Q a2 hC hR h0 hI hO hS (Lv_sto (v := .ref x) h2 h3 hl2) hQ
theorem E_iinc {i : Nat} {z : Int} {x : Int32} (v : Int32) (hd : decode M.2.1 pc = .ok (.iinc i z, 3)) (hl : ls[i]? = some (some (.int x))) (hv : x + Int32.ofInt z = v) (hn : i < M.2.2.1) (k : Ev d M n0 (pc + 3) (sto ls i (.int v)) st n I G J Φ) : Ev d M n0 pc ls st n I G J Φ := by
  intro K B p l e R s m args below meth c H locs Q a hC hR h0 hI hO hS hL hQ
  obtain ⟨lx, h1, h2, h3⟩ := hL
  obtain ⟨j, hj⟩ := List.getElem?_of_mem (h3 i _ hl)
  refine lv_iinc (v := v) hC.1.1 hC.1.2.1 hd h1 (k := j) hj hv hn rfl (fun a2 hl2 => ?_)
  exact k K B p l e R s m args below meth c H locs Q a2 hC hR h0 hI hO hS (Lv_sto (v := .int v) h2 h3 hl2) hQ
theorem E_iadd {x y : Int32} (hd : decode M.2.1 pc = .ok (.iadd, 1)) (k : Ev d M n0 (pc + 1) ls (.int (x + y) :: st) n I G J Φ) : Ev d M n0 (pc) ls (.int y :: .int x :: st) n I G J Φ :=
  Ev.of (fun K B p l e R s m args below meth c H locs cells slots Q a hC hL k => lv_iadd hC.1.1 hC.1.2.1 hd k) k
theorem E_isub {x y : Int32} (hd : decode M.2.1 pc = .ok (.isub, 1)) (k : Ev d M n0 (pc + 1) ls (.int (x - y) :: st) n I G J Φ) : Ev d M n0 (pc) ls (.int y :: .int x :: st) n I G J Φ :=
  Ev.of (fun K B p l e R s m args below meth c H locs cells slots Q a hC hL k => lv_isub hC.1.1 hC.1.2.1 hd k) k
theorem E_imul {x y : Int32} (hd : decode M.2.1 pc = .ok (.imul, 1)) (k : Ev d M n0 (pc + 1) ls (.int (x * y) :: st) n I G J Φ) : Ev d M n0 (pc) ls (.int y :: .int x :: st) n I G J Φ :=
  Ev.of (fun K B p l e R s m args below meth c H locs cells slots Q a hC hL k => lv_imul hC.1.1 hC.1.2.1 hd k) k
theorem E_iand {x y : Int32} (hd : decode M.2.1 pc = .ok (.iand, 1)) (k : Ev d M n0 (pc + 1) ls (.int (x &&& y) :: st) n I G J Φ) : Ev d M n0 (pc) ls (.int y :: .int x :: st) n I G J Φ :=
  Ev.of (fun K B p l e R s m args below meth c H locs cells slots Q a hC hL k => lv_iand hC.1.1 hC.1.2.1 hd k) k
theorem E_ior {x y : Int32} (hd : decode M.2.1 pc = .ok (.ior, 1)) (k : Ev d M n0 (pc + 1) ls (.int (x ||| y) :: st) n I G J Φ) : Ev d M n0 (pc) ls (.int y :: .int x :: st) n I G J Φ :=
  Ev.of (fun K B p l e R s m args below meth c H locs cells slots Q a hC hL k => lv_ior hC.1.1 hC.1.2.1 hd k) k
theorem E_ishl {x y : Int32} (hd : decode M.2.1 pc = .ok (.ishl, 1)) (k : Ev d M n0 (pc + 1) ls (.int (x <<< (y &&& 31)) :: st) n I G J Φ) : Ev d M n0 (pc) ls (.int y :: .int x :: st) n I G J Φ :=
  Ev.of (fun K B p l e R s m args below meth c H locs cells slots Q a hC hL k => lv_ishl hC.1.1 hC.1.2.1 hd k) k
theorem E_ishr {x y : Int32} (hd : decode M.2.1 pc = .ok (.ishr, 1)) (k : Ev d M n0 (pc + 1) ls (.int (x >>> (y &&& 31)) :: st) n I G J Φ) : Ev d M n0 (pc) ls (.int y :: .int x :: st) n I G J Φ :=
  Ev.of (fun K B p l e R s m args below meth c H locs cells slots Q a hC hL k => lv_ishr hC.1.1 hC.1.2.1 hd k) k
theorem E_iushr {x y : Int32} (hd : decode M.2.1 pc = .ok (.iushr, 1)) (k : Ev d M n0 (pc + 1) ls (.int (x.toUInt32 >>> (y.toUInt32 &&& Int32.toUInt32 31)).toInt32 :: st) n I G J Φ) : Ev d M n0 (pc) ls (.int y :: .int x :: st) n I G J Φ :=
  Ev.of (fun K B p l e R s m args below meth c H locs cells slots Q a hC hL k => lv_iushr hC.1.1 hC.1.2.1 hd rfl k) k
theorem E_idiv {x y : Int32} (hd : decode M.2.1 pc = .ok (.idiv, 1)) (hne : ¬ y = 0) (k : Ev d M n0 (pc + 1) ls (.int (x / y) :: st) n I G J Φ) : Ev d M n0 (pc) ls (.int y :: .int x :: st) n I G J Φ :=
  Ev.of (fun K B p l e R s m args below meth c H locs cells slots Q a hC hL k => lv_idiv hC.1.1 hC.1.2.1 hd hne k) k
theorem E_irem {x y : Int32} (hd : decode M.2.1 pc = .ok (.irem, 1)) (hne : ¬ y = 0) (k : Ev d M n0 (pc + 1) ls (.int (x - x / y * y) :: st) n I G J Φ) : Ev d M n0 (pc) ls (.int y :: .int x :: st) n I G J Φ :=
  Ev.of (fun K B p l e R s m args below meth c H locs cells slots Q a hC hL k => lv_irem hC.1.1 hC.1.2.1 hd hne k) k
theorem E_ladd {x y : Int64} (hd : decode M.2.1 pc = .ok (.ladd, 1)) (k : Ev d M n0 (pc + 1) ls (.long (x + y) :: st) n I G J Φ) : Ev d M n0 (pc) ls (.long y :: .long x :: st) n I G J Φ :=
  Ev.of (fun K B p l e R s m args below meth c H locs cells slots Q a hC hL k => lv_ladd hC.1.1 hC.1.2.1 hd k) k
theorem E_lmul {x y : Int64} (hd : decode M.2.1 pc = .ok (.lmul, 1)) (k : Ev d M n0 (pc + 1) ls (.long (x * y) :: st) n I G J Φ) : Ev d M n0 (pc) ls (.long y :: .long x :: st) n I G J Φ :=
  Ev.of (fun K B p l e R s m args below meth c H locs cells slots Q a hC hL k => lv_lmul hC.1.1 hC.1.2.1 hd k) k
theorem E_ldiv {x y : Int64} (hd : decode M.2.1 pc = .ok (.ldiv, 1)) (hne : ¬ y = 0) (k : Ev d M n0 (pc + 1) ls (.long (x / y) :: st) n I G J Φ) : Ev d M n0 (pc) ls (.long y :: .long x :: st) n I G J Φ :=
  Ev.of (fun K B p l e R s m args below meth c H locs cells slots Q a hC hL k => lv_ldiv hC.1.1 hC.1.2.1 hd hne k) k
theorem E_lrem {x y : Int64} (hd : decode M.2.1 pc = .ok (.lrem, 1)) (hne : ¬ y = 0) (k : Ev d M n0 (pc + 1) ls (.long (x - x / y * y) :: st) n I G J Φ) : Ev d M n0 (pc) ls (.long y :: .long x :: st) n I G J Φ :=
  Ev.of (fun K B p l e R s m args below meth c H locs cells slots Q a hC hL k => lv_lrem hC.1.1 hC.1.2.1 hd hne k) k
theorem E_lcmp {x y : Int64} (hd : decode M.2.1 pc = .ok (.lcmp, 1)) (k : Ev d M n0 (pc + 1) ls (.int (lg_cmp x y) :: st) n I G J Φ) : Ev d M n0 (pc) ls (.long y :: .long x :: st) n I G J Φ :=
  Ev.of (fun K B p l e R s m args below meth c H locs cells slots Q a hC hL k => W.lcmp hC.1.1 hC.1.2.1 hd k) k
theorem E_i2l {x : Int32} (hd : decode M.2.1 pc = .ok (.i2l, 1)) (k : Ev d M n0 (pc + 1) ls (.long x.toInt64 :: st) n I G J Φ) : Ev d M n0 (pc) ls (.int x :: st) n I G J Φ :=
  Ev.of (fun K B p l e R s m args below meth c H locs cells slots Q a hC hL k => lv_i2l hC.1.1 hC.1.2.1 hd rfl k) k
theorem E_i2c {x : Int32} (hd : decode M.2.1 pc = .ok (.i2c, 1)) (k : Ev d M n0 (pc + 1) ls (.int (x.toUInt32 % 65536).toInt32 :: st) n I G J Φ) : Ev d M n0 (pc) ls (.int x :: st) n I G J Φ :=
  Ev.of (fun K B p l e R s m args below meth c H locs cells slots Q a hC hL k => lv_i2c hC.1.1 hC.1.2.1 hd rfl k) k
theorem E_dup {v : Value} (hd : decode M.2.1 pc = .ok (.dup, 1)) (hv : v.category = 1) (k : Ev d M n0 (pc + 1) ls (v :: v :: st) n I G J Φ) : Ev d M n0 (pc) ls (v :: st) n I G J Φ :=
  Ev.of (fun K B p l e R s m args below meth c H locs cells slots Q a hC hL k => lv_dup hC.1.1 hC.1.2.1 hd (by rw [cvv_cat]; exact hv) k) k
theorem E_pop {v : Value} (hd : decode M.2.1 pc = .ok (.pop, 1)) (hv : v.category = 1) (k : Ev d M n0 (pc + 1) ls (st) n I G J Φ) : Ev d M n0 (pc) ls (v :: st) n I G J Φ :=
  Ev.of (fun K B p l e R s m args below meth c H locs cells slots Q a hC hL k => lv_pop hC.1.1 hC.1.2.1 hd (by rw [cvv_cat]; exact hv) k) k
theorem E_dup2 {v w : Value} (hd : decode M.2.1 pc = .ok (.dup2, 1)) (hv : v.category = 1) (hw : w.category = 1) (k : Ev d M n0 (pc + 1) ls (v :: w :: v :: w :: st) n I G J Φ) : Ev d M n0 (pc) ls (v :: w :: st) n I G J Φ :=
  Ev.of (fun K B p l e R s m args below meth c H locs cells slots Q a hC hL k => lv_dup2_11 hC.1.1 hC.1.2.1 hd (by rw [cvv_cat]; exact hv) (by rw [cvv_cat]; exact hw) k) k
theorem E_dup2l {v : Value} (hd : decode M.2.1 pc = .ok (.dup2, 1)) (hv : v.category = 2) (k : Ev d M n0 (pc + 1) ls (v :: v :: st) n I G J Φ) : Ev d M n0 (pc) ls (v :: st) n I G J Φ :=
  Ev.of (fun K B p l e R s m args below meth c H locs cells slots Q a hC hL k => lv_dup2_2 hC.1.1 hC.1.2.1 hd (by rw [cvv_cat]; exact hv) k) k
theorem E_if_eq {x : Int32} {off : Int} (tgt : Nat) (hd : decode M.2.1 pc = .ok (.ifCond .eq off, 3)) (ht : (pc : Int) + off = (tgt : Int)) (kt : x = 0 → Ev d M n0 (tgt) ls (st) n I G J Φ) (kf : ¬ (x = 0) → Ev d M n0 (pc + 3) ls (st) n I G J Φ) : Ev d M n0 (pc) ls (.int x :: st) n I G J Φ :=
  fun K B p l e R s m args below meth c H locs Q a hC hR h0 hI hO hS hL hQ => lv_if_eq hC.1.1 hC.1.2.1 hd ht (fun q => kt (by simpa using q) K B p l e R s m args below meth c H locs Q a hC hR h0 hI hO hS hL hQ) (fun q => kf (by simpa using q) K B p l e R s m args below meth c H locs Q a hC hR h0 hI hO hS hL hQ)
theorem E_icmp_eq {x y : Int32} {off : Int} (tgt : Nat) (hd : decode M.2.1 pc = .ok (.if_icmp .eq off, 3)) (ht : (pc : Int) + off = (tgt : Int)) (kt : x = y → Ev d M n0 (tgt) ls (st) n I G J Φ) (kf : ¬ (x = y) → Ev d M n0 (pc + 3) ls (st) n I G J Φ) : Ev d M n0 (pc) ls (.int y :: .int x :: st) n I G J Φ :=
  fun K B p l e R s m args below meth c H locs Q a hC hR h0 hI hO hS hL hQ => lv_icmp_eq hC.1.1 hC.1.2.1 hd ht (fun q => kt (by simpa using q) K B p l e R s m args below meth c H locs Q a hC hR h0 hI hO hS hL hQ) (fun q => kf (by simpa using q) K B p l e R s m args below meth c H locs Q a hC hR h0 hI hO hS hL hQ)
theorem E_if_ne {x : Int32} {off : Int} (tgt : Nat) (hd : decode M.2.1 pc = .ok (.ifCond .ne off, 3)) (ht : (pc : Int) + off = (tgt : Int)) (kt : ¬ x = 0 → Ev d M n0 (tgt) ls (st) n I G J Φ) (kf : ¬ (¬ x = 0) → Ev d M n0 (pc + 3) ls (st) n I G J Φ) : Ev d M n0 (pc) ls (.int x :: st) n I G J Φ :=
  fun K B p l e R s m args below meth c H locs Q a hC hR h0 hI hO hS hL hQ => lv_if_ne hC.1.1 hC.1.2.1 hd ht (fun q => kt (by simpa using q) K B p l e R s m args below meth c H locs Q a hC hR h0 hI hO hS hL hQ) (fun q => kf (by simpa using q) K B p l e R s m args below meth c H locs Q a hC hR h0 hI hO hS hL hQ)
theorem E_icmp_ne {x y : Int32} {off : Int} (tgt : Nat) (hd : decode M.2.1 pc = .ok (.if_icmp .ne off, 3)) (ht : (pc : Int) + off = (tgt : Int)) (kt : ¬ x = y → Ev d M n0 (tgt) ls (st) n I G J Φ) (kf : ¬ (¬ x = y) → Ev d M n0 (pc + 3) ls (st) n I G J Φ) : Ev d M n0 (pc) ls (.int y :: .int x :: st) n I G J Φ :=
  fun K B p l e R s m args below meth c H locs Q a hC hR h0 hI hO hS hL hQ => lv_icmp_ne hC.1.1 hC.1.2.1 hd ht (fun q => kt (by simpa using q) K B p l e R s m args below meth c H locs Q a hC hR h0 hI hO hS hL hQ) (fun q => kf (by simpa using q) K B p l e R s m args below meth c H locs Q a hC hR h0 hI hO hS hL hQ)
theorem E_if_lt {x : Int32} {off : Int} (tgt : Nat) (hd : decode M.2.1 pc = .ok (.ifCond .lt off, 3)) (ht : (pc : Int) + off = (tgt : Int)) (kt : x < 0 → Ev d M n0 (tgt) ls (st) n I G J Φ) (kf : ¬ (x < 0) → Ev d M n0 (pc + 3) ls (st) n I G J Φ) : Ev d M n0 (pc) ls (.int x :: st) n I G J Φ :=
  fun K B p l e R s m args below meth c H locs Q a hC hR h0 hI hO hS hL hQ => lv_if_lt hC.1.1 hC.1.2.1 hd ht (fun q => kt (by simpa using q) K B p l e R s m args below meth c H locs Q a hC hR h0 hI hO hS hL hQ) (fun q => kf (by simpa using q) K B p l e R s m args below meth c H locs Q a hC hR h0 hI hO hS hL hQ)
theorem E_icmp_lt {x y : Int32} {off : Int} (tgt : Nat) (hd : decode M.2.1 pc = .ok (.if_icmp .lt off, 3)) (ht : (pc : Int) + off = (tgt : Int)) (kt : x < y → Ev d M n0 (tgt) ls (st) n I G J Φ) (kf : ¬ (x < y) → Ev d M n0 (pc + 3) ls (st) n I G J Φ) : Ev d M n0 (pc) ls (.int y :: .int x :: st) n I G J Φ :=
  fun K B p l e R s m args below meth c H locs Q a hC hR h0 hI hO hS hL hQ => lv_icmp_lt hC.1.1 hC.1.2.1 hd ht (fun q => kt (by simpa using q) K B p l e R s m args below meth c H locs Q a hC hR h0 hI hO hS hL hQ) (fun q => kf (by simpa using q) K B p l e R s m args below meth c H locs Q a hC hR h0 hI hO hS hL hQ)
theorem E_if_ge {x : Int32} {off : Int} (tgt : Nat) (hd : decode M.2.1 pc = .ok (.ifCond .ge off, 3)) (ht : (pc : Int) + off = (tgt : Int)) (kt : 0 ≤ x → Ev d M n0 (tgt) ls (st) n I G J Φ) (kf : ¬ (0 ≤ x) → Ev d M n0 (pc + 3) ls (st) n I G J Φ) : Ev d M n0 (pc) ls (.int x :: st) n I G J Φ :=
  fun K B p l e R s m args below meth c H locs Q a hC hR h0 hI hO hS hL hQ => lv_if_ge hC.1.1 hC.1.2.1 hd ht (fun q => kt (by simpa using q) K B p l e R s m args below meth c H locs Q a hC hR h0 hI hO hS hL hQ) (fun q => kf (by simpa using q) K B p l e R s m args below meth c H locs Q a hC hR h0 hI hO hS hL hQ)
theorem E_icmp_ge {x y : Int32} {off : Int} (tgt : Nat) (hd : decode M.2.1 pc = .ok (.if_icmp .ge off, 3)) (ht : (pc : Int) + off = (tgt : Int)) (kt : y ≤ x → Ev d M n0 (tgt) ls (st) n I G J Φ) (kf : ¬ (y ≤ x) → Ev d M n0 (pc + 3) ls (st) n I G J Φ) : Ev d M n0 (pc) ls (.int y :: .int x :: st) n I G J Φ :=
  fun K B p l e R s m args below meth c H locs Q a hC hR h0 hI hO hS hL hQ => lv_icmp_ge hC.1.1 hC.1.2.1 hd ht (fun q => kt (by simpa using q) K B p l e R s m args below meth c H locs Q a hC hR h0 hI hO hS hL hQ) (fun q => kf (by simpa using q) K B p l e R s m args below meth c H locs Q a hC hR h0 hI hO hS hL hQ)
theorem E_if_gt {x : Int32} {off : Int} (tgt : Nat) (hd : decode M.2.1 pc = .ok (.ifCond .gt off, 3)) (ht : (pc : Int) + off = (tgt : Int)) (kt : 0 < x → Ev d M n0 (tgt) ls (st) n I G J Φ) (kf : ¬ (0 < x) → Ev d M n0 (pc + 3) ls (st) n I G J Φ) : Ev d M n0 (pc) ls (.int x :: st) n I G J Φ :=
  fun K B p l e R s m args below meth c H locs Q a hC hR h0 hI hO hS hL hQ => lv_if_gt hC.1.1 hC.1.2.1 hd ht (fun q => kt (by simpa using q) K B p l e R s m args below meth c H locs Q a hC hR h0 hI hO hS hL hQ) (fun q => kf (by simpa using q) K B p l e R s m args below meth c H locs Q a hC hR h0 hI hO hS hL hQ)
theorem E_icmp_gt {x y : Int32} {off : Int} (tgt : Nat) (hd : decode M.2.1 pc = .ok (.if_icmp .gt off, 3)) (ht : (pc : Int) + off = (tgt : Int)) (kt : y < x → Ev d M n0 (tgt) ls (st) n I G J Φ) (kf : ¬ (y < x) → Ev d M n0 (pc + 3) ls (st) n I G J Φ) : Ev d M n0 (pc) ls (.int y :: .int x :: st) n I G J Φ :=
  fun K B p l e R s m args below meth c H locs Q a hC hR h0 hI hO hS hL hQ => lv_icmp_gt hC.1.1 hC.1.2.1 hd ht (fun q => kt (by simpa using q) K B p l e R s m args below meth c H locs Q a hC hR h0 hI hO hS hL hQ) (fun q => kf (by simpa using q) K B p l e R s m args below meth c H locs Q a hC hR h0 hI hO hS hL hQ)
theorem E_if_le {x : Int32} {off : Int} (tgt : Nat) (hd : decode M.2.1 pc = .ok (.ifCond .le off, 3)) (ht : (pc : Int) + off = (tgt : Int)) (kt : x ≤ 0 → Ev d M n0 (tgt) ls (st) n I G J Φ) (kf : ¬ (x ≤ 0) → Ev d M n0 (pc + 3) ls (st) n I G J Φ) : Ev d M n0 (pc) ls (.int x :: st) n I G J Φ :=
  fun K B p l e R s m args below meth c H locs Q a hC hR h0 hI hO hS hL hQ => lv_if_le hC.1.1 hC.1.2.1 hd ht (fun q => kt (by simpa using q) K B p l e R s m args below meth c H locs Q a hC hR h0 hI hO hS hL hQ) (fun q => kf (by simpa using q) K B p l e R s m args below meth c H locs Q a hC hR h0 hI hO hS hL hQ)
theorem E_icmp_le {x y : Int32} {off : Int} (tgt : Nat) (hd : decode M.2.1 pc = .ok (.if_icmp .le off, 3)) (ht : (pc : Int) + off = (tgt : Int)) (kt : x ≤ y → Ev d M n0 (tgt) ls (st) n I G J Φ) (kf : ¬ (x ≤ y) → Ev d M n0 (pc + 3) ls (st) n I G J Φ) : Ev d M n0 (pc) ls (.int y :: .int x :: st) n I G J Φ :=
  fun K B p l e R s m args below meth c H locs Q a hC hR h0 hI hO hS hL hQ => lv_icmp_le hC.1.1 hC.1.2.1 hd ht (fun q => kt (by simpa using q) K B p l e R s m args below meth c H locs Q a hC hR h0 hI hO hS hL hQ) (fun q => kf (by simpa using q) K B p l e R s m args below meth c H locs Q a hC hR h0 hI hO hS hL hQ)
theorem E_goto {off : Int} (tgt : Nat) (hd : decode M.2.1 pc = .ok (.goto off, 3)) (ht : (pc : Int) + off = (tgt : Int)) (k : Ev d M n0 (tgt) ls (st) n I G J Φ) : Ev d M n0 (pc) ls (st) n I G J Φ :=
  Ev.of (fun K B p l e R s m args below meth c H locs cells slots Q a hC hL k => lv_goto hC.1.1 hC.1.2.1 hd ht k) k
/-- a switch over i, i + 1 ..: the case, or the rest -/
def SW (x : Int32) (P : Nat → Prop) (dt : Nat) : Nat → List Nat → Prop
  | _, [] => P dt
  | i, t :: ts => (x = nI i → P t) ∧ (¬ x = nI i → SW x P dt (i + 1) ts)
theorem SW_in {x : Int32} {P : Nat → Prop} {dt : Nat} : ∀ {ts : List Nat} {i j t : Nat}, SW x P dt i ts → ts[j]? = some t → x = nI (i + j) → i + ts.length < 2 ^ 31 → P t
  | [], i, j, t, _, h, _, _ => by simp at h
  | u :: us, i, j, t, h, hj, hx, hb => by
    cases j with
    | zero =>
      rw [List.getElem?_cons_zero] at hj
      cases hj
      exact h.1 hx
    | succ j =>
      rw [List.getElem?_cons_succ] at hj
      simp only [List.length_cons] at hb
      have hl := (List.getElem?_eq_some_iff.mp hj).1
      refine SW_in (h.2 (fun e => ?_)) hj (by rw [hx]; congr 1; omega) (by omega)
      rw [hx] at e
      have := (nI_eq (by omega) (by omega)).mp e
      omega
theorem SW_out {x : Int32} {P : Nat → Prop} {dt : Nat} : ∀ {ts : List Nat} {i : Nat}, SW x P dt i ts → (∀ j, j < ts.length → ¬ x = nI (i + j)) → P dt
  | [], i, h, _ => h
  | u :: us, i, h, hx => SW_out (h.2 (hx 0 (by simp))) (fun j hj => by have := hx (j + 1) (by simp; omega); rw [show i + (j + 1) = i + 1 + j by omega] at this; exact this)
theorem E_tsw {x : Int32} {dflt hi : Int} {offs : Array Int} {len : Nat} (lo : Nat) (ts : List Nat) (dt : Nat) (hd : decode M.2.1 pc = .ok (.tableswitch dflt (lo : Int) hi offs, len)) (ht : offs.toList.map (fun o => (pc : Int) + o) = ts.map (fun (t : Nat) => (Int.ofNat t))) (hh : hi + 1 = (lo : Int) + (ts.length : Int)) (hdt : (pc : Int) + dflt = (dt : Int)) (hb : lo + ts.length < 2 ^ 31)
    (k : SW x (fun t => Ev d M n0 t ls st n I G J Φ) dt lo ts) : Ev d M n0 pc ls (.int x :: st) n I G J Φ := by
  intro K B p l e R s m args below meth c H locs Q a hC hR h0 hI hO hS hL hQ
  by_cases h1 : x.toInt < (lo : Int) ∨ hi < x.toInt
  · refine lv_tableOut hC.1.1 hC.1.2.1 hd h1 hdt ?_
    refine SW_out k (fun j hj e => ?_) K B p l e R s m args below meth c H locs Q a hC hR h0 hI hO hS hL hQ
    rw [e, nI_toInt (by omega)] at h1
    omega
  · obtain ⟨j, hj⟩ : ∃ j : Nat, x.toInt = ((lo + j : Nat) : Int) := ⟨(x.toInt - lo).toNat, by omega⟩
    have hjl : j < ts.length := by omega
    have hx : x = nI (lo + j) := Int32.toInt_inj.mp (by rw [hj, nI_toInt (by omega)])
    have hts : ts[j]? = some ts[j] := List.getElem?_eq_getElem hjl
    have hlen : offs.toList.length = ts.length := by have := congrArg List.length ht; simpa using this
    have hjo : j < offs.size := by rw [← Array.length_toList]; omega
    have ho : offs[j]? = some offs[j] := Array.getElem?_eq_getElem hjo
    have he : (pc : Int) + offs[j] = (ts[j] : Int) := by
      have := congrArg (fun z => z[j]?) ht
      simp only [List.getElem?_map, Array.getElem?_toList, ho, hts, Option.map_some, Option.some.injEq] at this
      exact this
    refine lv_tableIn hC.1.1 hC.1.2.1 hd (by omega) (by omega) (off := offs[j]) (by rw [show (x.toInt - (lo : Int)).toNat = j by omega]; exact ho) he ?_
    exact SW_in k hts hx hb K B p l e R s m args below meth c H locs Q a hC hR h0 hI hO hS hL hQ
/-- a switch over keys -/
def KW (x : Int32) (P : Nat → Prop) (dt : Nat) : List (Int32 × Nat) → Prop
  | [] => P dt
  | q :: ts => (x = q.1 → P q.2) ∧ (¬ x = q.1 → KW x P dt ts)
theorem KW_go {x : Int32} {P : Nat → Prop} {dt pc : Nat} {dflt : Int} (hdt : (pc : Int) + dflt = (dt : Int)) : ∀ {ts : List (Int32 × Nat)} {ps : List (Int × Int)}, KW x P dt ts → ps.map (fun q => (q.1, (pc : Int) + q.2)) = ts.map (fun q => (q.1.toInt, (q.2 : Int))) → ∃ t : Nat, P t ∧ (pc : Int) + Op.lookupswitch.offset ps dflt x.toInt = (t : Int)
  | [], [], h, _ => ⟨dt, h, by simpa [Op.lookupswitch.offset] using hdt⟩
  | [], _ :: _, _, e => by simp at e
  | _ :: _, [], _, e => by simp at e
  | q :: ts, (a, o) :: ps, h, e => by
    simp only [List.map_cons, List.cons.injEq, Prod.mk.injEq] at e
    obtain ⟨⟨e1, e2⟩, e3⟩ := e
    by_cases hx : x = q.1
    · refine ⟨q.2, h.1 hx, ?_⟩
      rw [Op.lookupswitch.offset_cons, if_pos (by rw [hx, e1])]
      exact e2
    · obtain ⟨t, h1, h2⟩ := KW_go hdt (h.2 hx) e3
      refine ⟨t, h1, ?_⟩
      rw [lv_osw hx e1.symm]
      exact h2
theorem E_lsw {x : Int32} {dflt : Int} {ps : Array (Int × Int)} {len : Nat} (ts : List (Int32 × Nat)) (dt : Nat) (hd : decode M.2.1 pc = .ok (.lookupswitch dflt ps, len)) (hp : (ps.toList.zip (ps.toList.drop 1)).all (fun (a, next) => a.1 < next.1) = true) (ht : ps.toList.map (fun q => (q.1, (pc : Int) + q.2)) = ts.map (fun q => (q.1.toInt, (q.2 : Int)))) (hdt : (pc : Int) + dflt = (dt : Int))
    (k : KW x (fun t => Ev d M n0 t ls st n I G J Φ) dt ts) : Ev d M n0 pc ls (.int x :: st) n I G J Φ := by
  intro K B p l e R s m args below meth c H locs Q a hC hR h0 hI hO hS hL hQ
  obtain ⟨t, h1, h2⟩ := KW_go hdt k ht
  exact lv_lookup hC.1.1 hC.1.2.1 hd hp rfl h2 (h1 K B p l e R s m args below meth c H locs Q a hC hR h0 hI hO hS hL hQ)
/-! returns -/
theorem E_iret {v : Int32} (hd : decode M.2.1 pc = .ok (.ireturn, 1)) (hr : M.2.2.2.1 = some .int ∨ (M.2.2.2.1 = some .boolean ∧ narrow .boolean (.int v) = .int v)) (hn : n = n0 + M.2.2.2.2.1) (hs : pre n = pre n0 + M.2.2.2.2.2) (k : Φ (some (.int v)) n I G J) : Ev d M n0 pc ls [.int v] n I G J Φ := by
  intro K B p l e R s m args below meth c H locs Q a hC hR h0 hI hO hS hL hQ
  have hw := hQ (some (.int v)) n I G J H locs pc a k hI hO hS (Or.inl ⟨v, rfl, hd, hr⟩) hn hs
  rw [show n - n0 = M.2.2.2.2.1 by omega, show pre n - pre n0 = M.2.2.2.2.2 by omega]
  exact hw
theorem E_lret {v : Int64} (hd : decode M.2.1 pc = .ok (.lreturn, 1)) (hr : M.2.2.2.1 = some .long) (hn : n = n0 + M.2.2.2.2.1) (hs : pre n = pre n0 + M.2.2.2.2.2) (k : Φ (some (.long v)) n I G J) : Ev d M n0 pc ls [.long v] n I G J Φ := by
  intro K B p l e R s m args below meth c H locs Q a hC hR h0 hI hO hS hL hQ
  have hw := hQ (some (.long v)) n I G J H locs pc a k hI hO hS (Or.inr (Or.inl ⟨v, rfl, hd, hr⟩)) hn hs
  rw [show n - n0 = M.2.2.2.2.1 by omega, show pre n - pre n0 = M.2.2.2.2.2 by omega]
  exact hw
theorem E_vret (hd : decode M.2.1 pc = .ok (.return_, 1)) (hr : M.2.2.2.1 = none) (hn : n = n0 + M.2.2.2.2.1) (hs : pre n = pre n0 + M.2.2.2.2.2) (k : Φ none n I G J) : Ev d M n0 pc ls [] n I G J Φ := by
  intro K B p l e R s m args below meth c H locs Q a hC hR h0 hI hO hS hL hQ
  have hw := hQ none n I G J H locs pc a k hI hO hS (Or.inr (Or.inr ⟨rfl, hd, hr⟩)) hn hs
  rw [show n - n0 = M.2.2.2.2.1 by omega, show pre n - pre n0 = M.2.2.2.2.2 by omega]
  exact hw
end RULES
end
section
/-! ===== the classes' own rows ===== -/
theorem in_0 : ∀ w ∈ u_ws RX0 TX0 7, w ∈ tb := by decide +kernel
theorem in_1 : ∀ w ∈ u_ws RX1 TX1 15, w ∈ tb := by decide +kernel
theorem in_2 : ∀ w ∈ u_ws RX2 TX2 8, w ∈ tb := by decide +kernel
theorem in_3 : ∀ w ∈ u_ws RX3 TX3 7, w ∈ tb := by decide +kernel
theorem in_4 : ∀ w ∈ u_ws RX4 TX4 16, w ∈ tb := by decide +kernel
theorem in_5 : ∀ w ∈ u_ws RX5 TX5 33, w ∈ tb := by decide +kernel
def tyA (ci : Nat) : Nat → FieldType := match ci with
  | 0 => tyX0 | 1 => tyX1 | 2 => tyX2 | 3 => tyX3 | 4 => tyX4 | _ => tyX5
theorem cls_6 {ci : Nat} {q : vw_C} (h : vwCl[ci]? = some q) : ci < 6 := by
  have := (List.getElem?_eq_some_iff.mp h).1
  simpa [vwCl] using this
theorem cls_all {P : Nat → vw_C → Prop} (h0 : P 0 (RX0, TX0, 7)) (h1 : P 1 (RX1, TX1, 15)) (h2 : P 2 (RX2, TX2, 8)) (h3 : P 3 (RX3, TX3, 7)) (h4 : P 4 (RX4, TX4, 16)) (h5 : P 5 (RX5, TX5, 33)) : ∀ (ci : Nat) (q : vw_C), vwCl[ci]? = some q → P ci q := by
  intro ci q h
  match ci, h with
  | 0, h => cases h; exact h0
  | 1, h => cases h; exact h1
  | 2, h => cases h; exact h2
  | 3, h => cases h; exact h3
  | 4, h => cases h; exact h4
  | 5, h => cases h; exact h5
  | k + 6, h => exact absurd (cls_6 h) (by omega)
theorem cls_in : ∀ (ci : Nat) (q : vw_C), vwCl[ci]? = some q → ∀ w ∈ u_ws q.1 q.2.1 q.2.2, w ∈ tb := cls_all in_0 in_1 in_2 in_3 in_4 in_5
theorem cls_ty : ∀ (ci : Nat) (q : vw_C), vwCl[ci]? = some q → ∀ k, k < q.2.2 → parseFieldDescriptor (q.2.1 k).2.2.1 = some (tyA ci k) := cls_all tyX0_ok tyX1_ok tyX2_ok tyX3_ok tyX4_ok tyX5_ok
theorem cls_nm : ∀ (ci : Nat) (q : vw_C), vwCl[ci]? = some q → ∀ a, a < q.2.2 → ∀ b, b < q.2.2 → a ≠ b → (q.2.1 a).2.1 ≠ (q.2.1 b).2.1 := cls_all nmX0 nmX1 nmX2 nmX3 nmX4 nmX5
theorem sh_obj : ∀ x ∈ shL, x.1 < 6 → (vwCl[x.1]?).map (fun q => q.2.2) = some x.2 := by decide +kernel
theorem sh_mem {c : Nat} {x : Nat × Nat} (h : shp c = x) (hx : x.1 ≠ 99) : x ∈ shL := by
  unfold shp at h
  rw [List.getD_eq_getElem?_getD] at h
  cases hc : shL[c]? with
  | none => rw [hc] at h; subst h; exact absurd rfl hx
  | some y =>
    rw [hc] at h
    subst h
    exact List.mem_of_getElem? hc
theorem sh_size {c ci z : Nat} {q : vw_C} (h : shp c = (ci, z)) (h6 : ci < 6) (hq : vwCl[ci]? = some q) : q.2.2 = z := by
  have := sh_obj _ (sh_mem h (by show ci ≠ 99; omega)) h6
  simp only at this
  rw [hq] at this
  exact Option.some.inj this
theorem cel_obj {K : Pk} {I : MI} {G : MG} {J : MJ} {c ci z : Nat} (h : shp c = (ci, z)) (h6 : ci < 6) : celE K I G J c = .inr (ci, (List.range z).map (fval K.1 I G J ci c)) := by
  unfold celE
  rw [h, if_pos h6]
theorem cel_int {K : Pk} {I : MI} {G : MG} {J : MJ} {c ci z : Nat} (h : shp c = (ci, z)) (h6 : 6 ≤ ci) (h9 : ci < 9) : celE K I G J c = .inl (K.2.1 (ci - 6), z, .inl (I c)) := by
  unfold celE
  rw [h, if_neg (Nat.not_lt.mpr h6), if_pos h9]
theorem cel_ref {K : Pk} {I : MI} {G : MG} {J : MJ} {c ci z : Nat} (h : shp c = (ci, z)) (h9 : 9 ≤ ci) : celE K I G J c = .inl (K.2.1 (ci - 6), z, .inr (.inr (.inr (.inr (fun i => (G c i).map K.1))))) := by
  unfold celE
  rw [h]
  dsimp only
  rw [if_neg (show ¬ ci < 6 by omega), if_neg (show ¬ ci < 9 by omega)]
/-- the field behind a constant of a class: class and place -/
def FL (own : String) (ix ci k : Nat) : Prop := ∃ q : vw_C, vwCl[ci]? = some q ∧ k < q.2.2 ∧ Cond.fieldLink own ix q.1 (q.2.1 k).2.1 (q.2.1 k).2.2.1 ∈ tb ∧ (q.2.1 k).1 = q.1
theorem Iw_set {K : Pk} {n c : Nat} {I I' : MI} {G G' : MG} {J J' : MJ} {H H1 : Heap} (hI : Iw K n I G J H) (had : Had K) (hc : c < n) (z : H1.size = H.size) (oq : ∀ q : Nat, q ≠ K.1 c → H1[q]? = H[q]?) (he : va_at K.2.2.1 vwCl (K.1 c, celE K I' G' J' c) H1) (h1 : ∀ x, x ≠ c → I' x = I x) (h2 : ∀ x, x ≠ c → G' x = G x) (h3 : ∀ x, x ≠ c → J' x = J x) : Iw K n I' G' J' H1 := by
  refine ⟨?_, z.trans hI.2.1, hI.2.2⟩
  rw [← wsO_set hc h1 h2 h3]
  exact hI.1.set (wsO_D had hI.2.2) (wsO_at hc) he oq
theorem Iw_A {K : Pk} {n c : Nat} {I : MI} {G : MG} {J : MJ} {H : Heap} (hI : Iw K n I G J H) (had : Had K) (hc : c < n) : Aw K (K.1 c) := by
  unfold Aw
  rw [had c (by have := hI.2.2; omega)]
  omega
theorem fv_set {ad : Nat → Nat} {I I' : MI} {G G' : MG} {J J' : MJ} {ci c k z : Nat} {v : Value} (hk : k < z) (hv : fval ad I' G' J' ci c k = v) (hne : ∀ j, j ≠ k → fval ad I' G' J' ci c j = fval ad I G J ci c j) : (List.range z).map (fval ad I' G' J' ci c) = ((List.range z).map (fval ad I G J ci c)).set k v := by
  apply List.ext_getElem?
  intro j
  by_cases hj : j = k
  · subst hj
    rw [List.getElem?_set_self (by simp [hk])]
    simp [hk, hv]
  · rw [List.getElem?_set_ne (Ne.symm hj)]
    simp only [List.getElem?_map]
    by_cases hz : j < z
    · rw [List.getElem?_range hz]
      simp [hne j hj]
    · rw [List.getElem?_eq_none (by simp; omega)]
      rfl
section MEM
variable {d : Nat} {M : Mt} {n0 pc : Nat} {ls : List (Option Value)} {st : List Value} {n : Nat} {I : MI} {G : MG} {J : MJ} {Φ : Ph}
theorem E_getv {ix : Nat} (ci k c z : Nat) {v : Value} (hd : decode M.2.1 pc = .ok (.getfield ix, 3)) (hf : FL M.1.cls ix ci k) (hs : shn n c = (ci, z)) (hv : ∀ ad : Nat → Nat, fval ad I G J ci c k = cvv ad v) (kk : Ev d M n0 (pc + 3) ls (v :: st) n I G J Φ) : Ev d M n0 pc ls (.ref c :: st) n I G J Φ := by
  intro K B p l e R s m args below meth cd H locs Q a hC hR h0 hI hO hS hL hQ
  obtain ⟨q, hq, hk, hw, hdc⟩ := hf
  have h6 := cls_6 hq
  obtain ⟨hcn, hsh⟩ := shn_lt hs (by omega)
  have hz := sh_size hsh h6 hq
  refine va_get (C := q.1) (T := q.2.1) (N := q.2.2) hC.1.1 hC.1.2.1 hC.1.2.2.2.2 (cls_in ci q hq) hC.1.2.2.2.1 hC.2.2.2.2.1 hI.1 c ((wsO_at hcn).trans (by rw [cel_obj hsh h6])) hq k hk (hC.1.2.2.2.2 _ hw) (fun x h => by rw [← hdc]; exact h) (v := cvv K.1 v) (by simp [← hz, hk, hv]) hd ?_
  exact kk K B p l e R s m args below meth cd H locs Q a hC hR h0 hI hO hS hL hQ
theorem E_geti {ix : Nat} (ci k c z : Nat) (hd : decode M.2.1 pc = .ok (.getfield ix, 3)) (hf : FL M.1.cls ix ci k) (hk : fkd ci k = 0) (hs : shn n c = (ci, z)) (kk : Ev d M n0 (pc + 3) ls (.int (I c k) :: st) n I G J Φ) : Ev d M n0 pc ls (.ref c :: st) n I G J Φ :=
  E_getv ci k c z hd hf hs (fun ad => by simp [fval, hk, cvv]) kk
theorem E_getl {ix : Nat} (ci k c z : Nat) (hd : decode M.2.1 pc = .ok (.getfield ix, 3)) (hf : FL M.1.cls ix ci k) (hk : fkd ci k = 2) (hs : shn n c = (ci, z)) (kk : Ev d M n0 (pc + 3) ls (.long (J c k) :: st) n I G J Φ) : Ev d M n0 pc ls (.ref c :: st) n I G J Φ :=
  E_getv ci k c z hd hf hs (fun ad => by simp [fval, hk, cvv]) kk
theorem E_getr {ix : Nat} (ci k c z r : Nat) (hd : decode M.2.1 pc = .ok (.getfield ix, 3)) (hf : FL M.1.cls ix ci k) (hk : fkd ci k = 1) (hs : shn n c = (ci, z)) (hr : G c k = some r) (kk : Ev d M n0 (pc + 3) ls (.ref r :: st) n I G J Φ) : Ev d M n0 pc ls (.ref c :: st) n I G J Φ :=
  E_getv ci k c z hd hf hs (fun ad => by simp [fval, hk, cvv, hr, va_rf]) kk
/-- a put into a field, final or not -/
theorem E_putv {ix : Nat} (ci k c z : Nat) {v : Value} {I' : MI} {G' : MG} {J' : MJ} (hd : decode M.2.1 pc = .ok (.putfield ix, 3)) (hf : FL M.1.cls ix ci k) (hs : shn n c = (ci, z))
    (hfin : (∃ q, vwCl[ci]? = some q ∧ (q.2.1 k).2.2.2 = false) ∨ (∃ q, vwCl[ci]? = some q ∧ (q.2.1 k).2.2.2 = true ∧ q.1 = M.1.cls ∧ M.1.name = "<init>"))
    (hn : narrow (tyA ci k) v = v) (hft : ∀ ad : Nat → Nat, fits (tyA ci k) (cvv ad v) = true ∧ narrow (tyA ci k) (cvv ad v) = cvv ad v) (hv : ∀ ad : Nat → Nat, fval ad I' G' J' ci c k = cvv ad v) (hne : ∀ (ad : Nat → Nat) (j : Nat), j ≠ k → fval ad I' G' J' ci c j = fval ad I G J ci c j)
    (h1 : ∀ x, x ≠ c → I' x = I x) (h2 : ∀ x, x ≠ c → G' x = G x) (h3 : ∀ x, x ≠ c → J' x = J x) (kk : Ev d M n0 (pc + 3) ls st n I' G' J' Φ) : Ev d M n0 pc ls (v :: .ref c :: st) n I G J Φ := by
  intro K B p l e R s m args below meth cd H locs Q a hC hR h0 hI hO hS hL hQ
  have had := hC.2.2.2.2.2.2
  obtain ⟨q, hq, hk, hw, hdc⟩ := hf
  have h6 := cls_6 hq
  obtain ⟨hcn, hsh⟩ := shn_lt hs (by omega)
  have hz := sh_size hsh h6 hq
  have hts := hC.1.2.2.2.2
  have hown := hC.1.2.2.2.1
  have hin := cls_in ci q hq
  have hap := va_apart (own := M.1.cls) hts hin (tyA ci) (cls_ty ci q hq) (cls_nm ci q hq) hC.2.2.2.2.1 hq
  have he : (wsO K n I G J)[c]? = some (K.1 c, .inr (ci, (List.range z).map (fval K.1 I G J ci c))) := (wsO_at hcn).trans (by rw [cel_obj hsh h6])
  obtain ⟨r, hr1, cell, q1, q2, q3, q4⟩ := hI.1 c _ he
  have hr : r = q := Option.some.inj (hr1.symm.trans hq)
  subst hr
  obtain ⟨hSl, hfc, kC, hkC, hkind⟩ := hC.2.2.2.2.1.1 ci _ hq
  obtain ⟨cf, kf, fi, f, hi, hsl⟩ := hSl k hk
  have hlay := hts _ (hin _ (u_in_lay hk))
  unfold u_lay at hlay
  have hst := (u_facts hfc hkC (u_lays hts hin hk) hi).1
  have hdt := cls_ty ci r hq k hk
  have hc1000 : c < 1000 := by have := hI.2.2; omega
  have fin : ∀ H1 : Heap, H1[K.1 c]? = some (cell.setSlot f.slot (cvv K.1 v)) → H1.size = H.size → (∀ x : Nat, x ≠ K.1 c → H1[x]? = H[x]?) → W p l e R s m args below meth cd H1 (locs ++ [⟨K.1 c, f.slot⟩]) (n - n0) (pre n - pre n0) Q (F0 m (pc + 3) a (st.map (cvv K.1))) := by
    intro H1 e1 e2 e3
    rw [hsl] at e1 ⊢
    refine kk K B p l e R s m args below meth cd H1 _ Q a hC hR h0 (Iw_set hI had hcn e2 e3 ?_ h1 h2 h3) (hO.mem (fun x hx => h1 x (by omega)) (fun x hx => h2 x (by omega))) (hS.put e2 e3 (Iw_A hI had hcn)) hL hQ
    rw [cel_obj hsh h6, fv_set (by omega) (hv K.1) (hne K.1)]
    exact ⟨_, hq, t_OB.to (V := updV (vp_V _) k (cvv K.1 v)) ⟨_, e1, q2, q3, t_set q4 hap hk _⟩ (fun j _ => vp_updV_set (by simp; omega) _ j)⟩
  rcases hfin with ⟨q', hq', hf'⟩ | ⟨q', hq', hf', hcl, hnm⟩
  · cases hq.symm.trans hq'
    rw [if_neg (by rw [hf']; decide)] at hlay
    have h6' := u_store hfc hkC hkind hlay hi hdt (hft K.1).2 (hft K.1).1
    exact W.putK hC.1.1 hC.1.2.1 (f := f) ⟨hown, hts _ hw, ⟨_, _, _, by rw [← hdc]; exact hi⟩, hst⟩ (by rw [q2]; exact h6') q1 q3 (by rw [hsl]; exact k2_hasslot (q4 k hk)) rfl rfl hd fin
  · cases hq.symm.trans hq'
    rw [if_pos hf'] at hlay
    have hcf : m.cls = cf := by
      obtain ⟨_, _, c', _, _, _, -, -, hf2, -, -, -, hown2, -⟩ := Cond.laysFinal_spec hlay
      have e1 : c' = cf := by have := hi.symm.trans hf2; simp at this; exact this.1.symm
      rw [hdc, hcl] at hown2
      rw [← e1]; exact Option.some.inj (hown.symm.trans hown2)
    have h6' := u_fits hfc hkC hkind (Or.inr hlay) hi hdt (hft K.1).2 (hft K.1).1
    exact W.putFinK hC.1.1 hC.1.2.1 hown (hts _ hw) (by rw [← hdc]; exact hi) hst hcf (by rw [hC.2.2.2.1, hnm]) (by rw [q2]; exact h6') q1 q3 (by rw [hsl]; exact k2_hasslot (q4 k hk)) rfl rfl hd fin
theorem E_puti {ix : Nat} (ci k c z : Nat) {x : Int32} (hd : decode M.2.1 pc = .ok (.putfield ix, 3)) (hf : FL M.1.cls ix ci k) (hk : fkd ci k = 0) (hs : shn n c = (ci, z)) (hfin : ∃ q, vwCl[ci]? = some q ∧ (q.2.1 k).2.2.2 = false) (hn : narrow (tyA ci k) (.int x) = .int x) (hft : fits (tyA ci k) (.int x) = true) (kk : Ev d M n0 (pc + 3) ls st n (u2 I c k x) G J Φ) : Ev d M n0 pc ls (.int x :: .ref c :: st) n I G J Φ :=
  E_putv ci k c z hd hf hs (Or.inl hfin) hn (fun ad => ⟨hft, hn⟩) (fun ad => by simp [fval, hk, cvv, u2]) (fun ad j hj => by simp [fval, u2, hj]) (fun x hx => u2_row _ _ _ hx) (fun _ _ => rfl) (fun _ _ => rfl) kk
theorem E_putl {ix : Nat} (ci k c z : Nat) {x : Int64} (hd : decode M.2.1 pc = .ok (.putfield ix, 3)) (hf : FL M.1.cls ix ci k) (hk : fkd ci k = 2) (hs : shn n c = (ci, z)) (hfin : ∃ q, vwCl[ci]? = some q ∧ (q.2.1 k).2.2.2 = false) (hn : narrow (tyA ci k) (.long x) = .long x) (hft : fits (tyA ci k) (.long x) = true) (kk : Ev d M n0 (pc + 3) ls st n I G (u2 J c k x) Φ) : Ev d M n0 pc ls (.long x :: .ref c :: st) n I G J Φ :=
  E_putv ci k c z hd hf hs (Or.inl hfin) hn (fun ad => ⟨hft, hn⟩) (fun ad => by simp [fval, hk, cvv, u2]) (fun ad j hj => by simp [fval, u2, hj]) (fun _ _ => rfl) (fun _ _ => rfl) (fun x hx => u2_row _ _ _ hx) kk
theorem E_putr {ix : Nat} (ci k c z r : Nat) (hd : decode M.2.1 pc = .ok (.putfield ix, 3)) (hf : FL M.1.cls ix ci k) (hk : fkd ci k = 1) (hs : shn n c = (ci, z)) (hfin : (∃ q, vwCl[ci]? = some q ∧ (q.2.1 k).2.2.2 = false) ∨ (∃ q, vwCl[ci]? = some q ∧ (q.2.1 k).2.2.2 = true ∧ q.1 = M.1.cls ∧ M.1.name = "<init>")) (hn : ∀ r, narrow (tyA ci k) (.ref r) = .ref r) (hft : ∀ r, fits (tyA ci k) (.ref r) = true) (kk : Ev d M n0 (pc + 3) ls st n I (u2 G c k (some r)) J Φ) : Ev d M n0 pc ls (.ref r :: .ref c :: st) n I G J Φ :=
  E_putv ci k c z hd hf hs hfin (hn r) (fun ad => ⟨hft (ad r), hn (ad r)⟩) (fun ad => by simp [fval, hk, cvv, u2, va_rf]) (fun ad j hj => by simp [fval, u2, hj]) (fun _ _ => rfl) (fun x hx => u2_row _ _ _ hx) (fun _ _ => rfl) kk
end MEM
end
section
section ARR
variable {d : Nat} {M : Mt} {n0 pc : Nat} {ls : List (Option Value)} {st : List Value} {n : Nat} {I : MI} {G : MG} {J : MJ} {Φ : Ph}
theorem ty_at {K : Pk} : (tyK K)[0]? = some (K.2.1 0, .int) ∧ (tyK K)[1]? = some (K.2.1 1, .char) ∧ (tyK K)[2]? = some (K.2.1 2, .boolean) ∧ (tyK K)[3]? = some (K.2.1 3, .object RX2) ∧ (tyK K)[4]? = some (K.2.1 4, .array .int) := ⟨rfl, rfl, rfl, rfl, rfl⟩
theorem E_iald {i : Int32} (c z : Nat) (hd : decode M.2.1 pc = .ok (.iaload, 1)) (hs : shn n c = (6, z)) (hin : vp_in i z) (k : Ev d M n0 (pc + 1) ls (.int (I c i.toNatClampNeg) :: st) n I G J Φ) : Ev d M n0 pc ls (.int i :: .ref c :: st) n I G J Φ := by
  intro K B p l e R s m args below meth cd H locs Q a hC hR h0 hI hO hS hL hQ
  obtain ⟨hcn, hsh⟩ := shn_lt hs (by omega)
  exact va_iald hC.1.1 hC.1.2.1 hC.2.2.2.2.1 hI.1 c 0 ((wsO_at hcn).trans (by rw [cel_int hsh (by omega) (by omega)])) ty_at.1 hin hd (k K B p l e R s m args below meth cd H locs Q a hC hR h0 hI hO hS hL hQ)
theorem E_cald {i : Int32} (c z : Nat) (hd : decode M.2.1 pc = .ok (.caload, 1)) (hs : shn n c = (7, z)) (hin : vp_in i z) (k : Ev d M n0 (pc + 1) ls (.int (I c i.toNatClampNeg) :: st) n I G J Φ) : Ev d M n0 pc ls (.int i :: .ref c :: st) n I G J Φ := by
  intro K B p l e R s m args below meth cd H locs Q a hC hR h0 hI hO hS hL hQ
  obtain ⟨hcn, hsh⟩ := shn_lt hs (by omega)
  exact va_cald hC.1.1 hC.1.2.1 hC.2.2.2.2.1 hI.1 c 1 ((wsO_at hcn).trans (by rw [cel_int hsh (by omega) (by omega)])) ty_at.2.1 hin hd (k K B p l e R s m args below meth cd H locs Q a hC hR h0 hI hO hS hL hQ)
theorem E_zald {i : Int32} (c z : Nat) (hd : decode M.2.1 pc = .ok (.baload, 1)) (hs : shn n c = (8, z)) (hin : vp_in i z) (k : Ev d M n0 (pc + 1) ls (.int (I c i.toNatClampNeg) :: st) n I G J Φ) : Ev d M n0 pc ls (.int i :: .ref c :: st) n I G J Φ := by
  intro K B p l e R s m args below meth cd H locs Q a hC hR h0 hI hO hS hL hQ
  obtain ⟨hcn, hsh⟩ := shn_lt hs (by omega)
  exact va_zald hC.1.1 hC.1.2.1 hC.2.2.2.2.1 hI.1 c 2 ((wsO_at hcn).trans (by rw [cel_int hsh (by omega) (by omega)])) ty_at.2.2.1 hin hd (k K B p l e R s m args below meth cd H locs Q a hC hR h0 hI hO hS hL hQ)
theorem E_aald {i : Int32} (c z r : Nat) (hd : decode M.2.1 pc = .ok (.aaload, 1)) (hs : shn n c = (9, z)) (hin : vp_in i z) (hr : G c i.toNatClampNeg = some r) (k : Ev d M n0 (pc + 1) ls (.ref r :: st) n I G J Φ) : Ev d M n0 pc ls (.int i :: .ref c :: st) n I G J Φ := by
  intro K B p l e R s m args below meth cd H locs Q a hC hR h0 hI hO hS hL hQ
  obtain ⟨hcn, hsh⟩ := shn_lt hs (by omega)
  refine va_aldq (C := RX2) hC.1.1 hC.1.2.1 hC.2.2.2.2.1 hI.1 c 3 ((wsO_at hcn).trans (by rw [cel_ref hsh (by omega)])) ty_at.2.2.2.1 hin hd ?_
  rw [hr]
  exact k K B p l e R s m args below meth cd H locs Q a hC hR h0 hI hO hS hL hQ
theorem E_aald2 {i : Int32} (c z r : Nat) (hd : decode M.2.1 pc = .ok (.aaload, 1)) (hs : shn n c = (10, z)) (hin : vp_in i z) (hr : G c i.toNatClampNeg = some r) (k : Ev d M n0 (pc + 1) ls (.ref r :: st) n I G J Φ) : Ev d M n0 pc ls (.int i :: .ref c :: st) n I G J Φ := by
  intro K B p l e R s m args below meth cd H locs Q a hC hR h0 hI hO hS hL hQ
  obtain ⟨hcn, hsh⟩ := shn_lt hs (by omega)
  have ha : (wsO K n I G J)[c]? = some (K.1 c, .inl (K.2.1 4, z, .inr (.inr (.inr (.inr (fun i => (G c i).map K.1)))))) := (wsO_at hcn).trans (by rw [cel_ref hsh (by omega)])
  have hlt : i.toNatClampNeg < z := Nat.not_le.mp fun q => hin (Or.inr q)
  refine W.aald (v := .ref (K.1 r)) (ty := .array .int) hC.1.1 hC.1.2.1 (hI.1 c _ ha) ((hC.2.2.2.2.1.2 4 _ ty_at.2.2.2.2).1 z (fun j => va_rf ((G c j).map K.1))) rfl (fun q => by cases q) (by show ¬ (i < 0 ∨ (arrV _ _ _).slots.size ≤ _); rw [arrV_size]; exact hin) (by show (arrV _ _ _).slots[_]? = _; rw [arrV_read _ _ hlt]; show some (va_rf ((G c i.toNatClampNeg).map K.1)) = _; rw [hr]; rfl) rfl rfl hd ?_
  exact k K B p l e R s m args below meth cd H locs Q a hC hR h0 hI hO hS hL hQ
theorem E_alenc (c z : Nat) (v : Int32) (hd : decode M.2.1 pc = .ok (.arraylength, 1)) (hs : shn n c = (7, z)) (hv : Int32.ofNat z = v) (k : Ev d M n0 (pc + 1) ls (.int v :: st) n I G J Φ) : Ev d M n0 pc ls (.ref c :: st) n I G J Φ := by
  intro K B p l e R s m args below meth cd H locs Q a hC hR h0 hI hO hS hL hQ
  obtain ⟨hcn, hsh⟩ := shn_lt hs (by omega)
  exact va_alen hC.1.1 hC.1.2.1 hC.2.2.2.2.1 hI.1 c 1 ((wsO_at hcn).trans (by rw [cel_int hsh (by omega) (by omega)])) ty_at.2.1 hv hd (k K B p l e R s m args below meth cd H locs Q a hC hR h0 hI hO hS hL hQ)
/-! the script and the static rows -/
theorem E_ould {i : Int32} (c : Nat) (hd : decode M.2.1 pc = .ok (.iaload, 1)) (h1 : 1000 ≤ c) (h2 : c < 1005) (hin : vp_in i (oul G c)) (k : Ev d M n0 (pc + 1) ls (.int (I c i.toNatClampNeg) :: st) n I G J Φ) : Ev d M n0 pc ls (.int i :: .ref c :: st) n I G J Φ := by
  intro K B p l e R s m args below meth cd H locs Q a hC hR h0 hI hO hS hL hQ
  obtain ⟨hX, hb⟩ := hO.cell c h1 h2
  exact va_sld (A := Aw K) hC.1.1 hC.1.2.1 hX (by omega) (fun q => by unfold Aw at q; omega) hS hin hd (k K B p l e R s m args below meth cd H locs Q a hC hR h0 hI hO hS hL hQ)
theorem E_oulen (c : Nat) (hd : decode M.2.1 pc = .ok (.arraylength, 1)) (h1 : 1000 ≤ c) (h2 : c < 1005) (k : Ev d M n0 (pc + 1) ls (.int (nI (oul G c)) :: st) n I G J Φ) : Ev d M n0 pc ls (.ref c :: st) n I G J Φ := by
  intro K B p l e R s m args below meth cd H locs Q a hC hR h0 hI hO hS hL hQ
  obtain ⟨hX, hb⟩ := hO.cell c h1 h2
  exact va_slen (A := Aw K) hC.1.1 hC.1.2.1 hX (by omega) (fun q => by unfold Aw at q; omega) hS hd (k K B p l e R s m args below meth cd H locs Q a hC hR h0 hI hO hS hL hQ)
theorem E_gets {ix : Nat} (C nm : String) (r : Nat) (hd : decode M.2.1 pc = .ok (.getstatic ix, 3)) (hz : ∀ (K : Pk) (B : MI × MG) (s : State), Ou0 K B s → va_Z C nm "[I" (.ref (K.1 r)) (Aw K) s s.heap) (hw : Cond.fieldLink M.1.cls ix C nm "[I" ∈ tb) (k : Ev d M n0 (pc + 3) ls (.ref r :: st) n I G J Φ) : Ev d M n0 pc ls st n I G J Φ := by
  intro K B p l e R s m args below meth cd H locs Q a hC hR h0 hI hO hS hL hQ
  exact va_gets hC.1.1 hC.1.2.1 (hz K B s hO.1) hS hC.1.2.2.2.1 (hC.1.2.2.2.2 _ hw) (fun _ h => h) hd (k K B p l e R s m args below meth cd H locs Q a hC hR h0 hI hO hS hL hQ)
/-! stores into rows of ints -/
theorem row_at {K : Pk} {I : MI} {G : MG} {J : MJ} {c ci z j : Nat} {x : Int32} {H1 : Heap} (hsh : shp c = (ci, z)) (h6 : 6 ≤ ci) (h9 : ci < 9) (e : H1[K.1 c]? = some ((vp_cell (K.2.1 (ci - 6)) (z, .inl (I c))).setSlot j (.int x))) : va_at K.2.2.1 vwCl (K.1 c, celE K (u2 I c j x) G J c) H1 := by
  rw [cel_int hsh h6 h9, u2_upd]
  show H1[K.1 c]? = some (vp_cell _ _)
  rw [e, vp_cell_i, vp_cell_i, arrV_store]
  congr 2
  funext q
  by_cases hq : q = j
  · subst hq
    simp [updV, upd]
  · simp [updV, upd, hq]
theorem E_iast {i x : Int32} (c z : Nat) (hd : decode M.2.1 pc = .ok (.iastore, 1)) (hs : shn n c = (6, z)) (hin : vp_in i z) (k : Ev d M n0 (pc + 1) ls st n (u2 I c i.toNatClampNeg x) G J Φ) : Ev d M n0 pc ls (.int x :: .int i :: .ref c :: st) n I G J Φ := by
  intro K B p l e R s m args below meth cd H locs Q a hC hR h0 hI hO hS hL hQ
  have had := hC.2.2.2.2.2.2
  obtain ⟨hcn, hsh⟩ := shn_lt hs (by omega)
  have hb := hI.2.2
  have ha : (wsO K n I G J)[c]? = some (K.1 c, .inl (K.2.1 0, z, .inl (I c))) := (wsO_at hcn).trans (by rw [cel_int hsh (by omega) (by omega)])
  refine W.iast hC.1.1 hC.1.2.1 (hI.1 c _ ha) ((hC.2.2.2.2.1.2 0 _ ty_at.1).1 z (fun j => .int (I c j))) (fun q => by cases q) (by show ¬ (i < 0 ∨ (arrV _ _ _).slots.size ≤ _); rw [arrV_size]; exact hin) rfl rfl hd fun H1 e1 zz oq => ?_
  exact k K B p l e R s m args below meth cd H1 _ Q a hC hR h0 (Iw_set hI had hcn zz oq (row_at hsh (by omega) (by omega) e1) (fun x hx => u2_row _ _ _ hx) (fun _ _ => rfl) (fun _ _ => rfl)) (hO.mem (fun x hx => u2_row _ _ _ (by omega)) (fun _ _ => rfl)) (hS.put zz oq (Iw_A hI had hcn)) hL hQ
theorem E_cast {i x y : Int32} (c z : Nat) (hd : decode M.2.1 pc = .ok (.castore, 1)) (hs : shn n c = (7, z)) (hin : vp_in i z) (hx : narrow .char (.int x) = .int y) (k : Ev d M n0 (pc + 1) ls st n (u2 I c i.toNatClampNeg y) G J Φ) : Ev d M n0 pc ls (.int x :: .int i :: .ref c :: st) n I G J Φ := by
  intro K B p l e R s m args below meth cd H locs Q a hC hR h0 hI hO hS hL hQ
  have had := hC.2.2.2.2.2.2
  obtain ⟨hcn, hsh⟩ := shn_lt hs (by omega)
  have hb := hI.2.2
  have ha : (wsO K n I G J)[c]? = some (K.1 c, .inl (K.2.1 1, z, .inl (I c))) := (wsO_at hcn).trans (by rw [cel_int hsh (by omega) (by omega)])
  refine W.cast hC.1.1 hC.1.2.1 (hI.1 c _ ha) ((hC.2.2.2.2.1.2 1 _ ty_at.2.1).1 z (fun j => .int (I c j))) (fun q => by cases q) (by show ¬ (i < 0 ∨ (arrV _ _ _).slots.size ≤ _); rw [arrV_size]; exact hin) rfl rfl hd fun H1 e1 zz oq => ?_
  rw [hx] at e1
  exact k K B p l e R s m args below meth cd H1 _ Q a hC hR h0 (Iw_set hI had hcn zz oq (row_at hsh (by omega) (by omega) e1) (fun x hx => u2_row _ _ _ hx) (fun _ _ => rfl) (fun _ _ => rfl)) (hO.mem (fun x hx => u2_row _ _ _ (by omega)) (fun _ _ => rfl)) (hS.put zz oq (Iw_A hI had hcn)) hL hQ
theorem E_zast {i x y : Int32} (c z : Nat) (hd : decode M.2.1 pc = .ok (.bastore, 1)) (hs : shn n c = (8, z)) (hin : vp_in i z) (hx : narrow .boolean (.int x) = .int y) (k : Ev d M n0 (pc + 1) ls st n (u2 I c i.toNatClampNeg y) G J Φ) : Ev d M n0 pc ls (.int x :: .int i :: .ref c :: st) n I G J Φ := by
  intro K B p l e R s m args below meth cd H locs Q a hC hR h0 hI hO hS hL hQ
  have had := hC.2.2.2.2.2.2
  obtain ⟨hcn, hsh⟩ := shn_lt hs (by omega)
  have hb := hI.2.2
  have ha : (wsO K n I G J)[c]? = some (K.1 c, .inl (K.2.1 2, z, .inl (I c))) := (wsO_at hcn).trans (by rw [cel_int hsh (by omega) (by omega)])
  refine W.zast hC.1.1 hC.1.2.1 (hI.1 c _ ha) ((hC.2.2.2.2.1.2 2 _ ty_at.2.2.1).1 z (fun j => .int (I c j))) (fun q => by cases q) (by show ¬ (i < 0 ∨ (arrV _ _ _).slots.size ≤ _); rw [arrV_size]; exact hin) rfl rfl hd fun H1 e1 zz oq => ?_
  rw [hx] at e1
  exact k K B p l e R s m args below meth cd H1 _ Q a hC hR h0 (Iw_set hI had hcn zz oq (row_at hsh (by omega) (by omega) e1) (fun x hx => u2_row _ _ _ hx) (fun _ _ => rfl) (fun _ _ => rfl)) (hO.mem (fun x hx => u2_row _ _ _ (by omega)) (fun _ _ => rfl)) (hS.put zz oq (Iw_A hI had hcn)) hL hQ
/-- a moment into a row of moments -/
theorem E_aast {i : Int32} (c z r zr : Nat) (hd : decode M.2.1 pc = .ok (.aastore, 1)) (hs : shn n c = (9, z)) (hr : shn n r = (2, zr)) (hin : vp_in i z) (k : Ev d M n0 (pc + 1) ls st n I (u2 G c i.toNatClampNeg (some r)) J Φ) : Ev d M n0 pc ls (.ref r :: .int i :: .ref c :: st) n I G J Φ := by
  intro K B p l e R s m args below meth cd H locs Q a hC hR h0 hI hO hS hL hQ
  have had := hC.2.2.2.2.2.2
  obtain ⟨hcn, hsh⟩ := shn_lt hs (by omega)
  obtain ⟨hrn, hrh⟩ := shn_lt hr (by omega)
  have hb := hI.2.2
  have ha : (wsO K n I G J)[c]? = some (K.1 c, .inl (K.2.1 3, z, .inr (.inr (.inr (.inr (fun i => (G c i).map K.1)))))) := (wsO_at hcn).trans (by rw [cel_ref hsh (by omega)])
  have hv : (wsO K n I G J)[r]? = some (K.1 r, .inr (2, (List.range zr).map (fval K.1 I G J 2 r))) := (wsO_at hrn).trans (by rw [cel_obj hrh (by omega)])
  have hlt : i.toNatClampNeg < z := Nat.not_le.mp fun q => hin (Or.inr q)
  have hn0 : ¬ i < 0 := fun q => hin (Or.inl q)
  obtain ⟨r', hr', cellV, g1, g2, g3, -⟩ := hI.1 r _ hv
  have hcls := (hC.2.2.2.2.1.1 2 (RX2, TX2, 8) rfl).2
  obtain ⟨kA, comp, k1, k2, k3, -⟩ := (hC.2.2.2.2.1.2 3 _ ty_at.2.2.2.1).2
  have hcomp : comp = K.2.2.1.1 2 := Option.some.inj (k3.symm.trans hcls.1)
  subst hcomp
  obtain ⟨kC, hkC, -⟩ := hcls.2
  refine W.aast hC.1.1 hC.1.2.1 (hI.1 c _ ha) (fun q h => by cases h) (fun h => by cases h) k1 k2 rfl hkC ⟨hn0, by show _ < (arrV _ _ _).slots.size; rw [arrV_size]; exact hlt⟩ g1 (fun q h => by rw [g3] at h; cases h) (by rw [g2]; exact hkC) (by rw [g2]; exact va_assign hcls) rfl rfl hd fun H1 e1 zz oq => ?_
  refine k K B p l e R s m args below meth cd H1 _ Q a hC hR h0 (Iw_set hI had hcn zz oq ?_ (fun _ _ => rfl) (fun x hx => u2_row _ _ _ hx) (fun _ _ => rfl)) (hO.mem (fun _ _ => rfl) (fun x hx => u2_row _ _ _ (by omega))) (hS.put zz oq (Iw_A hI had hcn)) hL hQ
  rw [cel_ref hsh (by omega)]
  show H1[K.1 c]? = some (vp_cell _ _)
  rw [e1, vp_cell_q, vp_cell_q, arrV_store]
  congr 2
  funext q
  by_cases hq : q = i.toNatClampNeg
  · subst hq
    simp [updV, u2, va_rf]
  · simp [updV, u2, hq]
/-- System.arraycopy of ints between two rows -/
theorem E_copy {ix : Nat} {sp dp w : Int32} (c1 z1 c2 z2 : Nat) (hd : decode M.2.1 pc = .ok (.invokestatic ix, 3)) (hw : Cond.methodLink M.1.cls ix arraycopyName ∈ tb ∧ Cond.native arraycopyName ∈ tb ∧ Cond.static arraycopyName ∈ tb ∧ Cond.initialized "java/lang/System" ∈ tb) (hs1 : shn n c1 = (6, z1)) (hs2 : shn n c2 = (6, z2)) (hsp : ¬ sp < 0) (hdp : ¬ dp < 0) (hww : ¬ w < 0) (hb1 : sp.toNatClampNeg + w.toNatClampNeg ≤ z1) (hb2 : dp.toNatClampNeg + w.toNatClampNeg ≤ z2) (hcat : (st.map fun v => v.category).sum ≤ 8) (hdd : 1 ≤ d)
    (k : Ev d M n0 (pc + 3) ls st n (ur I c2 (va_cpy (I c1) (I c2) sp.toNatClampNeg dp.toNatClampNeg w.toNatClampNeg)) G J Φ) : Ev d M n0 pc ls (.int w :: .int dp :: .ref c2 :: .int sp :: .ref c1 :: st) n I G J Φ := by
  intro K B p l e R s m args below meth cd H locs Q a hC hR h0 hI hO hS hL hQ
  have had := hC.2.2.2.2.2.2
  have hts := hC.1.2.2.2.2
  obtain ⟨hcn1, hsh1⟩ := shn_lt hs1 (by omega)
  obtain ⟨hcn2, hsh2⟩ := shn_lt hs2 (by omega)
  have hb := hI.2.2
  have ha1 : (wsO K n I G J)[c1]? = some (K.1 c1, .inl (K.2.1 0, z1, .inl (I c1))) := (wsO_at hcn1).trans (by rw [cel_int hsh1 (by omega) (by omega)])
  have ha2 : (wsO K n I G J)[c2]? = some (K.1 c2, .inl (K.2.1 0, z2, .inl (I c2))) := (wsO_at hcn2).trans (by rw [cel_int hsh2 (by omega) (by omega)])
  have nn : ∀ z : Int32, ¬ z < 0 → z.toInt = (z.toNatClampNeg : Int) := by
    intro z hz
    have hz0 : (0 : Int) ≤ z.toInt := by
      have := Int32.not_lt.mp hz
      simpa using Int32.le_iff_toInt_le.mp this
    show z.toInt = ((z.toInt.toNat : Nat) : Int)
    omega
  intro T hT X
  have hc0 : H[K.1 c1]? = some (vp_cell (K.2.1 0) (z1, .inl (I c1))) := hI.1 c1 _ ha1
  have hc1 : H[K.1 c2]? = some (vp_cell (K.2.1 0) (z2, .inl (I c2))) := hI.1 c2 _ ha2
  obtain ⟨-, k0, hk0, cm0, hkk0⟩ := (hC.2.2.2.2.1.2 0 _ ty_at.1).1 z1 (fun j => .int (I c1 j))
  have hcatm : ((st.map (cvv K.1)).map fun v => v.category).sum = (st.map fun v => v.category).sum := by
    rw [List.map_map]
    congr 1
    exact List.map_congr_left (fun v _ => cvv_cat K.1 v)
  have hlo : 64 ≤ R.locals := by have := hR.2.1; omega
  obtain ⟨vm', X', step⟩ := X.arraycopy hC.1.1 hC.1.2.2.2.1 (hts _ hw.1) (hts _ hw.2.1) (hts _ hw.2.2.1) (hts _ hw.2.2.2) (src := K.1 c1) (dst := K.1 c2) (cs := vp_cell (K.2.1 0) (z1, .inl (I c1))) (cd := vp_cell (K.2.1 0) (z2, .inl (I c2))) (srcPos := sp) (destPos := dp) (n := w) (by rw [hT]; exact hc0) (by rw [hT]; exact hc1)
    (fun _ h => by cases h) (fun _ h => by cases h) (fun h => by cases h) (fun h => by cases h) hk0 hk0 hkk0 hkk0 (by simp [refKind]) hsp hdp hww
    (by rw [nn sp hsp, nn w hww]; show ¬ _ > ((arrV (K.2.1 0) z1 (fun j => .int (I c1 j))).slots.size : Int); rw [arrV_size]; omega)
    (by rw [nn dp hdp, nn w hww]; show ¬ _ > ((arrV (K.2.1 0) z2 (fun j => .int (I c2 j))).slots.size : Int); rw [arrV_size]; omega)
    (fun vm₁ _ i hi => by
      have e : (vp_cell (K.2.1 0) (z1, .inl (I c1))).slots.getD (sp.toNatClampNeg + i) .null = .int (I c1 (sp.toNatClampNeg + i)) := by
        show (arrV (K.2.1 0) z1 (fun j => .int (I c1 j))).slots.getD _ _ = _
        rw [Array.getD_eq_getD_getElem?, arrV_read _ _ (by omega)]
        rfl
      refine ⟨?_, ?_⟩
      · rw [e]
        rfl
      · rw [e]
        exact trivial)
    (g := F0 m pc a (.int w :: .int dp :: .ref (K.1 c2) :: .int sp :: .ref (K.1 c1) :: st.map (cvv K.1))) rfl (by obtain ⟨lx, h1, -⟩ := hL; exact h1.1.trans hC.1.2.2.1.symm) (rest := st.map (cvv K.1)) rfl (by rw [hC.1.2.1]; exact hd) (by have := hR.1; omega) (by have h9 : nativeFrameWords "java/lang/System" "arraycopy" 5 + 11 ≤ 56 := (by decide +kernel); show 2 * 0 + _ + _ ≤ _; rw [hcatm]; omega)
  have e1 : copied (vp_cell (K.2.1 0) (z1, .inl (I c1))) (vp_cell (K.2.1 0) (z2, .inl (I c2))) sp dp w = vp_cell (K.2.1 0) (z2, .inl (va_cpy (I c1) (I c2) sp.toNatClampNeg dp.toNatClampNeg w.toNatClampNeg)) := va_copied (fun z => .int z) (K.2.1 0) (K.2.1 0) (I c1) (I c2) hb1
  rw [e1] at X' step
  have hl : K.1 c2 < H.size := (Array.getElem?_eq_some_iff.mp hc1).1
  generalize hcell : vp_cell (K.2.1 0) (z2, .inl (va_cpy (I c1) (I c2) sp.toNatClampNeg dp.toNatClampNeg w.toNatClampNeg)) = cell at X' step
  have hheap : ((T.setVm vm').setCell (K.1 c2) cell).heap = H.setIfInBounds (K.1 c2) cell := by rw [← hT]; rfl
  have oq : ∀ q : Nat, q ≠ K.1 c2 → (H.setIfInBounds (K.1 c2) cell)[q]? = H[q]? := fun q hq => by simp [Array.getElem?_setIfInBounds, Ne.symm hq]
  obtain ⟨t, a1, b1⟩ := k K B p l e R s m args below meth cd (H.setIfInBounds (K.1 c2) cell) _ Q a hC hR h0 (Iw_set hI had hcn2 (by simp) oq (by
      rw [cel_int hsh2 (by omega) (by omega), ur_at]
      show (H.setIfInBounds (K.1 c2) cell)[K.1 c2]? = some (vp_cell _ _)
      rw [hcell]
      simp [Array.getElem?_setIfInBounds, hl]) (fun x hx => ur_ne _ _ hx) (fun _ _ => rfl) (fun _ _ => rfl)) (hO.mem (fun x hx => ur_ne _ _ (by omega)) (fun _ _ => rfl)) ⟨by simp; exact hS.1, fun q g1 g2 => by
      rw [oq q (fun e => g2 (by rw [e]; exact Iw_A hI had hcn2))]
      exact hS.2.1 q g1 g2, fun q hq => by
      rcases List.mem_append.mp hq with h | h
      · exact hS.2.2 q h
      · obtain ⟨zz, -, hzz⟩ := List.mem_map.mp h
        rw [← hzz]
        exact Iw_A hI had hcn2⟩ hL hQ _ hheap X'
  exact ⟨t, step t a1, b1⟩
end ARR
end
section
/-! ===== entry, calls ===== -/
def ent : List Value → List (Option Value)
  | [] => []
  | v :: vs => if v.category = 2 then some v :: none :: ent vs else some v :: ent vs
def entN (N : Nat) (vs : List Value) : List (Option Value) := ent vs ++ List.replicate (N - (ent vs).length) none
theorem ent_len (ad : Nat → Nat) : ∀ vs : List Value, (lg_sl (vs.map (cvv ad))).length = (ent vs).length
  | [] => rfl
  | v :: vs => by
    have ih := ent_len ad vs
    unfold lg_sl at ih ⊢
    simp only [List.map_cons, List.flatMap_cons, List.length_append, cvv_cat, ent, ih]
    by_cases h : v.category = 2
    · simp [h]; omega
    · simp [h]; omega
theorem ent_in (ad : Nat → Nat) : ∀ (vs : List Value) (i k : Nat) (v : Value), (ent vs)[k]? = some (some v) → (i + k, cvv ad v) ∈ lv_args i (vs.map (cvv ad))
  | [], i, k, v, h => by simp [ent] at h
  | w :: vs, i, k, v, h => by
    simp only [List.map_cons, lv_args, cvv_cat]
    unfold ent at h
    by_cases hw : w.category = 2
    · rw [if_pos hw] at h
      rw [if_pos hw]
      match k, h with
      | 0, h => simp at h; subst h; exact List.mem_cons_self
      | 1, h => simp at h
      | k + 2, h =>
        simp only [List.getElem?_cons_succ] at h
        have := ent_in ad vs (i + 2) k v h
        rw [show i + (k + 2) = i + 2 + k by omega]
        exact List.mem_cons_of_mem _ this
    · rw [if_neg hw] at h
      rw [if_neg hw]
      match k, h with
      | 0, h => simp at h; subst h; exact List.mem_cons_self
      | k + 1, h =>
        simp only [List.getElem?_cons_succ] at h
        have := ent_in ad vs (i + 1) k v h
        rw [show i + (k + 1) = i + 1 + k by omega]
        exact List.mem_cons_of_mem _ this
theorem Lv_ent {ad : Nat → Nat} {N : Nat} {vs : List Value} (h : (ent vs).length ≤ N) : Lv ad N (entN N vs) ((lg_sl (vs.map (cvv ad)) ++ List.replicate (N - (lg_sl (vs.map (cvv ad))).length) Slot.unset).toArray) := by
  refine ⟨_, lv_entry (vs.map (cvv ad)) (by rw [ent_len]; exact h), by simp [entN]; omega, fun k v hk => ?_⟩
  unfold entN at hk
  by_cases hl : k < (ent vs).length
  · rw [List.getElem?_append_left hl] at hk
    have := ent_in ad vs 0 k v hk
    rwa [Nat.zero_add] at this
  · rw [List.getElem?_append_right (by omega), List.getElem?_replicate] at hk
    split at hk <;> cases hk
theorem Xw.moved {s U : State} (hW : s.WarmedH U.vm) (h : Xw s) : Xw U :=
  ⟨h.1.warmM hW, h.2.1.warmM hW, h.2.2.1.warmM hW, va_AO.moved hW.alike h.2.2.2.1, Jvm.Stand.arrayOver_alikeB hW.alike h.2.2.2.2⟩
theorem Xw.same {s U : State} (hv : s.vm = U.vm) (h : Xw s) : Xw U :=
  ⟨h.1.same rfl hv, h.2.1.same rfl hv, h.2.2.1.same rfl hv, va_AO.moved (by rw [hv]; exact Vm.Alike.refl _) h.2.2.2.1, Jvm.Stand.arrayOver_alikeB (by rw [hv]; exact Vm.Alike.refl _) h.2.2.2.2⟩
/-- what a callee finds -/
def PcB (K : Pk) (n : Nat) (I : MI) (G : MG) (J : MJ) (U : State) : Prop := U.heap.size = K.2.2.2 + n ∧ Iw K n I G J U.heap ∧ va_K K.2.2.1 vwCl (tyK K) U ∧ Out K (I, G) I G U ∧ Xw U
/-- what it leaves -/
def QcB (K : Pk) (M : Mt) (n : Nat) (I : MI) (G : MG) (Ψ : Ph) : Array Value → State → Outcome → State → Prop := fun _ st0 oc t =>
  (∃ (r : Option Value) (n1 : Nat) (I1 : MI) (G1 : MG) (J1 : MJ), oc = .returned (r.map (cvv K.1)) ∧ Ψ r n1 I1 G1 J1 ∧ n1 = n + M.2.2.2.2.1 ∧ pre n1 = pre n + M.2.2.2.2.2 ∧ Iw K n1 I1 G1 J1 t.heap ∧ ∀ x, 1000 ≤ x → I1 x = I x ∧ G1 x = G x) ∧ va_F (Aw K) st0 t
def rmD (d : Nat) (M : Mt) : Room := { frames := d, cells := M.2.2.2.2.1, slots := M.2.2.2.2.2, locals := d * 64 }
def wsM (M : Mt) : List Cond := Cond.code M.1 M.2.1 M.2.2.1 M.2.2.2.1 :: tb
set_option maxHeartbeats 1000000 in
theorem Met_of {d n : Nat} {M : Mt} {vs : List Value} {I : MI} {G : MG} {J : MJ} {Ψ : Ph} (l : Launch) (K : Pk) (had : Had K) (hpl : plainName M.1.cls = true) (hlen : (ent vs).length ≤ M.2.2.1) (h : Ev d M n 0 (entN M.2.2.1 vs) [] n I G J Ψ) :
    Met l M.1 (wsM M) (rmD d M) (va_Pc (vs.map (cvv K.1)) (PcB K n I G J)) (QcB K M n I G Ψ) M.2.2.2.2.1 M.2.2.2.2.2 (Aw K) := by
  refine Met.ofW (cc := M.2.1) (maxL := M.2.2.1) (ret := M.2.2.2.1) hpl rfl ?_
  intro p e s m args below meth c s₁ B hml hv
  obtain ⟨rfl, hsz, hI, hK, hO, hX⟩ := hv
  have hts := atoms_spec (ws := wsM M) B.pre
  have hown : s.vm.findClass M.1.cls = some m.cls := findClass_of_methodNamed B.named
  have hlocks := B.notSynchronized
  have hnm : meth.name = M.1.name := (name_of_methodNamed B.named B.method).1
  have hr := B.returns
  rw [lg_entry_eq]
  have hC : Cx K M p s m (vs.map (cvv K.1)).toArray meth c := ⟨⟨B.exec, B.bytes, hml, hown, fun w hw => hts w (List.mem_cons_of_mem _ hw)⟩, hr, hlocks, hnm, hK, hX, had⟩
  have hw := h K (I, G) p l e (rmD d M) s m (vs.map (cvv K.1)).toArray below meth c s.heap [] (MQ below (QcB K M n I G Ψ) (vs.map (cvv K.1)).toArray s M.2.2.2.2.1 M.2.2.2.2.2 (Aw K)) _ hC ⟨Nat.le_refl _, Nat.le_refl _, Nat.le_refl _, Nat.le_refl _⟩ hsz hI hO va_S.rf (Lv_ent hlen) ?_
  · rw [Nat.sub_self, Nat.sub_self] at hw
    exact hw
  · intro r n1 I1 G1 J1 H1 locs1 pc1 a1 hΨ hI1 hO1 hS1 hat h1 h2
    have hq : ∀ t : State, t.heap = H1 → s.WarmedH t.vm → QcB K M n I G Ψ (vs.map (cvv K.1)).toArray s (.returned (r.map (cvv K.1))) t := fun t ht hW =>
      ⟨⟨r, n1, I1, G1, J1, rfl, hΨ, h1, h2, by rw [ht]; exact hI1, hO1.2⟩, hS1.F ht⟩
    rcases hat with ⟨v, rfl, hd, hrt⟩ | ⟨v, rfl, hd, hrt⟩ | ⟨rfl, hd, hrt⟩
    · rcases hrt with hrt | ⟨hrt, hnr⟩
      · exact W.iret (v := v) B.exec B.bytes (hr.trans hrt) hq hS1.2.2 hd
      · exact W.zret (v := v) B.exec B.bytes (hr.trans hrt) hnr hq hS1.2.2 hd
    · exact W.lret (v := v) B.exec B.bytes (hr.trans hrt) hq hS1.2.2 hd
    · exact W.vret B.exec B.bytes (hr.trans hrt) hq hS1.2.2 hd
theorem cat_cvv (ad : Nat → Nat) (st : List Value) : ((st.map (cvv ad)).map fun v => v.category).sum = (st.map fun v => v.category).sum := by
  rw [List.map_map]
  congr 1
  exact List.map_congr_left (fun v _ => cvv_cat ad v)
section CALL
variable {d : Nat} {M : Mt} {n0 pc : Nat} {ls : List (Option Value)} {st : List Value} {n : Nat} {I : MI} {G : MG} {J : MJ} {Φ : Ph}
/-- behind a call -/
theorem E_run {M2 : Mt} {Ψ : Ph} {K : Pk} {B : MI × MG} {p : Program} {l : Launch} {e : Env} {R : Room} {s : State} {m : MethodId} {args : Array Value} {below : List Frame} {meth : Method} {c : Code} {H : Heap} {locs : List Loc} {Q : State → Prop} {a : Array Slot} {stk rest : List Value} {as : Array Value}
    (hr : va_Run p l e R s m args below meth c H locs (n - n0) (pre n - pre n0) M2.2.2.2.2.1 M2.2.2.2.2.2 (F0 m pc a stk) (rest.map (cvv K.1)) (QcB K M2 n I G Ψ as) (Aw K))
    (hk : ∀ r n1 I1 G1 J1, Ψ r n1 I1 G1 J1 → Ev d M n0 (pc + 3) ls (r.toList ++ rest) n1 I1 G1 J1 Φ) (hn : n0 ≤ n) (hpn : pre n0 ≤ pre n)
    (hC : Cx K M p s m args meth c) (hR : Rk d M R) (h0 : s.heap.size = K.2.2.2 + n0) (hI : Iw K n I G J H) (hO : Out K B I G s) (hS : va_S (Aw K) s.heap H locs) (hL : Lv K.1 M.2.2.1 ls a) (hQ : Rt K B M n0 Φ p l e R s m args below meth c Q) :
    W p l e R s m args below meth c H locs (n - n0) (pre n - pre n0) Q (F0 m pc a stk) := by
  intro T hT X
  obtain ⟨v, st₀, t, T', L, e0, X', hL2, e1, e2, ⟨⟨r, n1, I1, G1, J1, hv, hΨ, g1, g2, hI1, hag⟩, hz, hkp⟩, stp⟩ := hr T hT X
  cases hv
  rw [e0] at hz hkp
  have hS1 : va_S (Aw K) s.heap T'.heap (locs ++ L) := ⟨Nat.le_trans hS.1 (by rw [e1]; exact hz), fun q h1 h2 => by rw [e1, hkp q (Nat.lt_of_lt_of_le h1 hS.1) h2]; exact hS.2.1 q h1 h2, fun q hq => by
    rcases List.mem_append.mp hq with h | h
    · exact hS.2.2 q h
    · exact hL2 q h⟩
  have hw := hk r n1 I1 G1 J1 hΨ K B p l e R s m args below meth c T'.heap (locs ++ L) Q a hC hR h0 (by rw [e1]; exact hI1) (hO.mem (fun x hx => (hag x hx).1) (fun x hx => (hag x hx).2)) hS1 hL hQ
  rw [show n1 - n0 = n - n0 + M2.2.2.2.2.1 by omega, show pre n1 - pre n0 = pre n - pre n0 + M2.2.2.2.2.2 by omega] at hw
  obtain ⟨t2, a1, b1⟩ := hw T' rfl X'
  refine ⟨t2, stp t2 ?_, b1⟩
  cases r with
  | none => exact a1
  | some w => exact a1
theorem PcB_of {K : Pk} {B : MI × MG} {s : State} {H : Heap} {locs : List Loc} {p : Program} {m : MethodId} {args : Array Value} {meth : Method} {c : Code} (hC : Cx K M p s m args meth c) (h0 : s.heap.size = K.2.2.2 + n0) (hI : Iw K n I G J H) (hO : Out K B I G s) (hS : va_S (Aw K) s.heap H locs) (U : State) (hU : U.heap = H) (hW : s.WarmedH U.vm) : PcB K n I G J U :=
  ⟨by rw [hU]; exact hI.2.1, by rw [hU]; exact hI, va_K.moved hW.alike hC.2.2.2.2.1, hO.move hW.alike (fun q hq => by rw [hU]; exact hS.2.1 q (by omega) (fun z => by unfold Aw at z; omega)), hC.2.2.2.2.2.1.moved hW⟩
theorem PcB_blind {K : Pk} {vs : List Value} : FrameBlind (va_Pc vs (PcB K n I G J)) := by
  intro a U g mk q
  obtain ⟨q0, q1, q2, q3, q4, q5⟩ := q
  exact ⟨q0, q1, q2, va_K.moved (u := U) (U := U.calling g mk a) (Vm.Alike.refl U.vm) q3, q4.move (U := U.calling g mk a) (Vm.Alike.refl U.vm) (fun _ _ => rfl), q5.same rfl⟩
/-- words of a call of an instance method, of a static one, of a constructor -/
def LkV (own : String) (ix : Nat) (M2 : Mt) (w : Nat) : Prop := Cond.methodLink own ix M2.1 ∈ tb ∧ Cond.instanceMethod M2.1 ∈ tb ∧ Cond.selects M2.1.cls M2.1 M2.1 ∈ tb ∧ Cond.initialized M2.1.cls ∈ tb ∧ Cond.code M2.1 M2.2.1 M2.2.2.1 M2.2.2.2.1 ∈ tb ∧ (plainName M2.1.cls = true ∧ M2.1.cls ≠ "java/lang/invoke/MethodHandle" ∧ M2.1.cls ≠ "java/lang/invoke/VarHandle" ∧ (parseMethodDescriptor M2.1.desc).map (fun d => d.parameters.length) = some w) ∧ M2.2.2.1 ≤ 45
def LkS (own : String) (ix : Nat) (M2 : Mt) (w : Nat) : Prop := Cond.methodLink own ix M2.1 ∈ tb ∧ Cond.static M2.1 ∈ tb ∧ Cond.initialized M2.1.cls ∈ tb ∧ Cond.code M2.1 M2.2.1 M2.2.2.1 M2.2.2.2.1 ∈ tb ∧ (plainName M2.1.cls = true ∧ M2.1.cls ≠ "java/lang/invoke/MethodHandle" ∧ M2.1.cls ≠ "java/lang/invoke/VarHandle" ∧ (parseMethodDescriptor M2.1.desc).map (fun d => d.parameters.length) = some w) ∧ M2.2.2.1 ≤ 45
def LkI (own : String) (ix : Nat) (M2 : Mt) (w : Nat) : Prop := (Cond.methodLink own ix M2.1 ∈ tb ∨ (own = RX4 ∧ ((ix = 24 ∧ M2.1 = yX1_init) ∨ (ix = 34 ∧ M2.1 = yX2_init) ∨ (ix = 62 ∧ M2.1 = yX0_init)))) ∧ Cond.instanceMethod M2.1 ∈ tb ∧ Cond.initialized M2.1.cls ∈ tb ∧ Cond.code M2.1 M2.2.1 M2.2.2.1 none ∈ tb ∧ M2.2.2.2.1 = none ∧ M2.1.name = "<init>" ∧ (plainName M2.1.cls = true ∧ M2.1.cls ≠ "java/lang/invoke/MethodHandle" ∧ M2.1.cls ≠ "java/lang/invoke/VarHandle" ∧ (parseMethodDescriptor M2.1.desc).map (fun d => d.parameters.length) = some w) ∧ M2.2.2.1 ≤ 45
theorem Rk_call {d : Nat} {M M2 : Mt} {R : Room} (hR : Rk (d + 1) M R) (h : M2.2.2.1 ≤ 45) : (rmD d M2).frames + 1 ≤ R.frames ∧ 8 + (M2.2.2.1 + 11) + (rmD d M2).locals ≤ R.locals := by
  obtain ⟨h1, h2, -⟩ := hR
  refine ⟨h1, ?_⟩
  show 8 + (M2.2.2.1 + 11) + d * 64 ≤ R.locals
  omega
theorem wsM_good {M2 : Mt} (h : Cond.code M2.1 M2.2.1 M2.2.2.1 M2.2.2.2.1 ∈ tb) : GoodIn tb (wsM M2) := tb_good (fun w hw => (List.mem_cons.mp hw).elim (fun q => q ▸ h) id)
set_option maxHeartbeats 1000000 in
/-- a call of an instance method on cell b -/
theorem E_invv {ix : Nat} (M2 : Mt) (w ci z : Nat) {b : Nat} {As : List Value} {Ψ : Ph} (hd : decode M.2.1 pc = .ok (.invokevirtual ix, 3)) (hw : LkV M.1.cls ix M2 w) (hci : ∃ q, vwCl[ci]? = some q ∧ q.1 = M2.1.cls) (hs : shn n b = (ci, z)) (hA : As.length = w) (hcat : (st.map fun v => v.category).sum ≤ 8) (hn : n0 ≤ n) (hpn : pre n0 ≤ pre n) (hm1 : n - n0 + M2.2.2.2.2.1 ≤ M.2.2.2.2.1) (hm2 : pre n - pre n0 + M2.2.2.2.2.2 ≤ M.2.2.2.2.2) (hlen : (ent (.ref b :: As)).length ≤ M2.2.2.1)
    (h : Ev d M2 n 0 (entN M2.2.2.1 (.ref b :: As)) [] n I G J Ψ) (hk : ∀ r n1 I1 G1 J1, Ψ r n1 I1 G1 J1 → Ev (d + 1) M n0 (pc + 3) ls (r.toList ++ st) n1 I1 G1 J1 Φ) {stk : List Value} (hst : stk = As.reverse ++ .ref b :: st) : Ev (d + 1) M n0 pc ls stk n I G J Φ := by
  intro K B p l e R s m args below meth c H locs Q a hC hR h0 hI hO hS hL hQ
  subst hst
  have had := hC.2.2.2.2.2.2
  obtain ⟨w1, w2, w3, w4, w5, ⟨p1, p2, p3, p4⟩, w6⟩ := hw
  obtain ⟨q, hq, hqc⟩ := hci
  have h6 := cls_6 hq
  obtain ⟨hbn, hbh⟩ := shn_lt hs (by omega)
  have hv : (wsO K n I G J)[b]? = some (K.1 b, .inr (ci, (List.range z).map (fval K.1 I G J ci b))) := (wsO_at hbn).trans (by rw [cel_obj hbh h6])
  have hts := hC.1.2.2.2.2
  have hmet := Met_of l K had p1 hlen h
  have hcw : CallW R s args M.1.cls M2.1.cls ix M2.1 M2.2.1 M2.2.2.1 M2.2.2.2.1 (wsM M2) (rmD d M2) M2.2.2.2.2.1 M2.2.2.2.2.2 w := cwV w hts (tb_good (fun x hx => by
    unfold wsV at hx
    rcases List.mem_append.mp hx with hx | hx
    · simp only [List.mem_cons, List.not_mem_nil, or_false] at hx
      rcases hx with rfl | rfl | rfl | rfl
      · exact w1
      · exact w2
      · exact w3
      · exact w4
    · exact (wsM_good w5 x hx).1)) rfl rfl rfl ⟨rfl, p2, p3, p4⟩ (Rk_call hR w6)
  have hrun := va_runV (g := F0 m pc a ((As.reverse ++ .ref b :: st).map (cvv K.1))) (As := As.map (cvv K.1)) (rest := st.map (cvv K.1)) (H := H) (locs := locs) (cells := n - n0) (slots := pre n - pre n0) (e := e) (below := below) (meth := meth) (l := l) hC.1 hmet hcw ⟨PcB_blind, by rw [← hqc]; exact va_recv hC.2.2.2.2.1 hI.1 hq hv, fun U hU hW => ⟨rfl, PcB_of hC h0 hI hO hS U hU hW⟩⟩ rfl (by rw [List.length_map]; exact hA) (by obtain ⟨lx, h1, -⟩ := hL; exact h1.1) (by simp [cvv]) (lv_room (by rw [cat_cvv]; exact hcat)) hd ⟨Nat.le_trans hm1 hR.2.2.1, Nat.le_trans hm2 hR.2.2.2⟩
  exact E_run hrun hk hn hpn hC hR h0 hI hO hS hL hQ
set_option maxHeartbeats 1000000 in
/-- a call of a static method -/
theorem E_invs {ix : Nat} (M2 : Mt) (w : Nat) {As : List Value} {Ψ : Ph} (hd : decode M.2.1 pc = .ok (.invokestatic ix, 3)) (hw : LkS M.1.cls ix M2 w) (hA : As.length = w) (hcat : (st.map fun v => v.category).sum ≤ 8) (hn : n0 ≤ n) (hpn : pre n0 ≤ pre n) (hm1 : n - n0 + M2.2.2.2.2.1 ≤ M.2.2.2.2.1) (hm2 : pre n - pre n0 + M2.2.2.2.2.2 ≤ M.2.2.2.2.2) (hlen : (ent As).length ≤ M2.2.2.1)
    (h : Ev d M2 n 0 (entN M2.2.2.1 As) [] n I G J Ψ) (hk : ∀ r n1 I1 G1 J1, Ψ r n1 I1 G1 J1 → Ev (d + 1) M n0 (pc + 3) ls (r.toList ++ st) n1 I1 G1 J1 Φ) {stk : List Value} (hst : stk = As.reverse ++ st) : Ev (d + 1) M n0 pc ls stk n I G J Φ := by
  intro K B p l e R s m args below meth c H locs Q a hC hR h0 hI hO hS hL hQ
  subst hst
  have had := hC.2.2.2.2.2.2
  obtain ⟨w1, w2, w4, w5, ⟨p1, p2, p3, p4⟩, w6⟩ := hw
  have hts := hC.1.2.2.2.2
  have hmet := Met_of l K had p1 hlen h
  have hcw := va_cwS (R := R) (own := M.1.cls) (index := ix) (rm := rmD d M2) (mc := M2.2.2.2.2.1) (ms := M2.2.2.2.2.2) w hts (tb_good (ws := va_wsS M.1.cls ix M2.1 (wsM M2)) (fun x hx => by
    unfold va_wsS at hx
    rcases List.mem_append.mp hx with hx | hx
    · simp only [List.mem_cons, List.not_mem_nil, or_false] at hx
      rcases hx with rfl | rfl | rfl
      · exact w1
      · exact w2
      · exact w4
    · exact (wsM_good w5 x hx).1)) rfl rfl rfl ⟨p2, p3, p4⟩ (Rk_call hR w6)
  have hrun := va_runS (g := F0 m pc a ((As.reverse ++ st).map (cvv K.1))) (As := As.map (cvv K.1)) (rest := st.map (cvv K.1)) (H := H) (locs := locs) (cells := n - n0) (slots := pre n - pre n0) (e := e) (below := below) (meth := meth) (l := l) hC.1 hmet hcw ⟨PcB_blind, fun U hU hW => ⟨rfl, PcB_of hC h0 hI hO hS U hU hW⟩⟩ rfl (by rw [List.length_map]; exact hA) (by obtain ⟨lx, h1, -⟩ := hL; exact h1.1) (by simp) (lv_room (by rw [cat_cvv]; exact hcat)) hd ⟨Nat.le_trans hm1 hR.2.2.1, Nat.le_trans hm2 hR.2.2.2⟩
  exact E_run hrun hk hn hpn hC hR h0 hI hO hS hL hQ
set_option maxHeartbeats 1000000 in
/-- a call of a constructor -/
theorem E_invi {ix : Nat} (M2 : Mt) (w : Nat) {b : Nat} {As : List Value} {Ψ : Ph} (hd : decode M.2.1 pc = .ok (.invokespecial ix, 3)) (hw : LkI M.1.cls ix M2 w) (hA : As.length = w) (hcat : (st.map fun v => v.category).sum ≤ 8) (hn : n0 ≤ n) (hpn : pre n0 ≤ pre n) (hm1 : n - n0 + M2.2.2.2.2.1 ≤ M.2.2.2.2.1) (hm2 : pre n - pre n0 + M2.2.2.2.2.2 ≤ M.2.2.2.2.2) (hlen : (ent (.ref b :: As)).length ≤ M2.2.2.1)
    (h : Ev d M2 n 0 (entN M2.2.2.1 (.ref b :: As)) [] n I G J Ψ) (hk : ∀ r n1 I1 G1 J1, Ψ r n1 I1 G1 J1 → Ev (d + 1) M n0 (pc + 3) ls (r.toList ++ st) n1 I1 G1 J1 Φ) {stk : List Value} (hst : stk = As.reverse ++ .ref b :: st) : Ev (d + 1) M n0 pc ls stk n I G J Φ := by
  intro K B p l e R s m args below meth c H locs Q a hC hR h0 hI hO hS hL hQ
  subst hst
  have had := hC.2.2.2.2.2.2
  obtain ⟨w1, w2, w4, w5, w7, w8, ⟨p1, p2, p3, p4⟩, w6⟩ := hw
  have hts := hC.1.2.2.2.2
  have hmet := Met_of l K had p1 hlen h
  have hgd : GoodIn tb (wsM M2) := wsM_good (by rw [w7]; exact w5)
  have hpre : PreS s H (va_Pc ((Value.ref b :: As).map (cvv K.1)) (PcB K n I G J)) (.ref (K.1 b) :: As.map (cvv K.1)) := ⟨PcB_blind, fun U hU hW => ⟨rfl, PcB_of hC h0 hI hO hS U hU hW⟩⟩
  rcases w1 with w1 | ⟨hown, w1⟩
  · have hcw := cwI (R := R) (own := M.1.cls) (index := ix) (ws := wsM M2) (bytes := M2.2.1) (maxL := M2.2.2.1) (rm := rmD d M2) (mc := M2.2.2.2.2.1) (ms := M2.2.2.2.2.2) w hts hgd (by unfold wsM; rw [w7]) rfl rfl (hts _ w4) (hts _ w1) (hts _ w2) w8 ⟨p2, p3, p4⟩ (Rk_call hR w6)
    have hrun := va_runI (g := F0 m pc a ((As.reverse ++ .ref b :: st).map (cvv K.1))) (b := K.1 b) (As := As.map (cvv K.1)) (rest := st.map (cvv K.1)) (H := H) (locs := locs) (cells := n - n0) (slots := pre n - pre n0) (e := e) (below := below) (meth := meth) (l := l) hC.1 hmet hcw hpre rfl (by rw [List.length_map]; exact hA) (by obtain ⟨lx, h1, -⟩ := hL; exact h1.1) (by simp [cvv]) (lv_room (by rw [cat_cvv]; exact hcat)) hd ⟨Nat.le_trans hm1 hR.2.2.1, Nat.le_trans hm2 hR.2.2.2⟩
    exact E_run hrun hk hn hpn hC hR h0 hI hO hS hL hQ
  · have hlk : va_Nw (.methodLinkNest M.1.cls ix M2.1 RX4) s := by
      have hX := hC.2.2.2.2.2.1
      rw [hown]
      rcases w1 with ⟨rfl, e2⟩ | ⟨rfl, e2⟩ | ⟨rfl, e2⟩
      · rw [e2]; exact hX.1
      · rw [e2]; exact hX.2.1
      · rw [e2]; exact hX.2.2.1
    have hcw := va_cnB (R := R) (own := M.1.cls) (index := ix) (ws := wsM M2) (bytes := M2.2.1) (maxL := M2.2.2.1) (ret := none) (rm := rmD d M2) (mc := M2.2.2.2.2.1) (ms := M2.2.2.2.2.2) w hts hgd (by unfold wsM; rw [w7]) rfl rfl hlk (hts _ w4) ⟨p2, p3, p4⟩ (Rk_call hR w6)
    have hrun := va_runIN (g := F0 m pc a ((As.reverse ++ .ref b :: st).map (cvv K.1))) (b := K.1 b) (As := As.map (cvv K.1)) (rest := st.map (cvv K.1)) (H := H) (locs := locs) (cells := n - n0) (slots := pre n - pre n0) (e := e) (below := below) (meth := meth) (l := l) hC.1 hmet ⟨hcw, w8, hts _ w2⟩ hpre rfl (by rw [List.length_map]; exact hA) (by obtain ⟨lx, h1, -⟩ := hL; exact h1.1) (by simp [cvv]) (lv_room (by rw [cat_cvv]; exact hcat)) hd ⟨Nat.le_trans hm1 hR.2.2.1, Nat.le_trans hm2 hR.2.2.2⟩
    exact E_run hrun hk hn hpn hC hR h0 hI hO hS hL hQ
/-- Object's own constructor -/
theorem E_obj {ix b : Nat} (hd : decode M.2.1 pc = .ok (.invokespecial ix, 3)) (hw : Cond.methodLink M.1.cls ix objectInit ∈ tb ∧ Cond.instanceMethod objectInit ∈ tb ∧ Cond.code objectInit ⟨#[0xb1]⟩ 1 none ∈ tb) (hcat : (st.map fun v => v.category).sum ≤ 8) (hdd : 1 ≤ d) (k : Ev d M n0 (pc + 3) ls st n I G J Φ) : Ev d M n0 pc ls (.ref b :: st) n I G J Φ := by
  intro K B p l e R s m args below meth c H locs Q a hC hR h0 hI hO hS hL hQ
  have hts := hC.1.2.2.2.2
  have hlo : 64 ≤ R.locals := by have := hR.2.1; omega
  refine W.objInit hC.1.1 hC.1.2.1 hC.1.2.2.2.1 (hts _ hw.1) (hts _ hw.2.1) (hts _ hw.2.2) rfl (by obtain ⟨lx, h1, -⟩ := hL; exact h1.1.trans hC.1.2.2.1.symm) (a := K.1 b) (rest := st.map (cvv K.1)) rfl hd (by have := hR.1; omega) ?_ (k K B p l e R s m args below meth c H locs Q a hC hR h0 hI hO hS hL hQ)
  have := lv_room (m := m) (pc := pc) (ls := a) (rest := (.ref b :: st).map (cvv K.1)) (st := st.map (cvv K.1)) (by rw [cat_cvv]; exact hcat)
  omega
end CALL
end
section
/-! ===== new cells ===== -/
theorem dfl_all : ∀ (ci : Nat) (q : vw_C), vwCl[ci]? = some q → ∀ j, j < q.2.2 → defaultValue (tyA ci j) = (if fkd ci j = 0 then .int 0 else if fkd ci j = 1 then .null else .long 0) := cls_all (by decide +kernel) (by decide +kernel) (by decide +kernel) (by decide +kernel) (by decide +kernel) (by decide +kernel)
section ALLOC
variable {d : Nat} {M : Mt} {n0 pc : Nat} {ls : List (Option Value)} {st : List Value} {n : Nat} {I : MI} {G : MG} {J : MJ} {Φ : Ph}
/-- the world with one cell more -/
theorem Iw_push {K : Pk} {I' : MI} {G' : MG} {J' : MJ} {H H1 : Heap} (hI : Iw K n I G J H) (hn : n < 1000) (z : H1.size = H.size + 1) (oq : ∀ q : Nat, q < H.size → H1[q]? = H[q]?) (he : va_at K.2.2.1 vwCl (K.1 n, celE K I' G' J' n) H1) (h1 : ∀ x, x < n → I' x = I x) (h2 : ∀ x, x < n → G' x = G x) (h3 : ∀ x, x < n → J' x = J x) : Iw K (n + 1) I' G' J' H1 := by
  refine ⟨?_, by rw [z, hI.2.1]; omega, by omega⟩
  rw [← wsO_succ h1 h2 h3 rfl]
  refine (hI.1.kept (fun k x hx => oq x.1 ((hI.1 k x hx).lt))).app (fun k x hx => ?_)
  have hz : k < 1 := (List.getElem?_eq_some_iff.mp hx).1
  rw [show k = 0 by omega] at hx
  cases hx
  exact he
theorem vS_push {K : Pk} {H0 H H1 : Heap} {locs : List Loc} (hS : va_S (Aw K) H0 H locs) (z : H.size ≤ H1.size) (oq : ∀ q : Nat, q < H.size → H1[q]? = H[q]?) : va_S (Aw K) H0 H1 locs :=
  ⟨Nat.le_trans hS.1 z, fun x h1 h2 => (oq x (Nat.lt_of_lt_of_le h1 hS.1)).trans (hS.2.1 x h1 h2), hS.2.2⟩
theorem E_new {ix : Nat} (ci z : Nat) (hd : decode M.2.1 pc = .ok (.new ix, 3)) (hq : ∃ q, vwCl[ci]? = some q ∧ q.2.2 = z ∧ Cond.classLink M.1.cls ix q.1 ∈ tb ∧ Cond.instantiable q.1 z ∈ tb ∧ Cond.initialized q.1 ∈ tb) (hs : shp n = (ci, z)) (hn : n < 1000) (hn0 : n0 ≤ n) (hpn : pre n0 ≤ pre n) (hp : pre (n + 1) = pre n + z) (hm1 : n - n0 + 1 ≤ M.2.2.2.2.1) (hm2 : pre n - pre n0 + z ≤ M.2.2.2.2.2)
    (k : Ev d M n0 (pc + 3) ls (.ref n :: st) (n + 1) (ur I n (fun _ => 0)) (ur G n (fun _ => none)) (ur J n (fun _ => 0)) Φ) : Ev d M n0 pc ls st n I G J Φ := by
  intro K B p l e R s m args below meth c H locs Q a hC hR h0 hI hO hS hL hQ
  have had := hC.2.2.2.2.2.2
  have hts := hC.1.2.2.2.2
  obtain ⟨q, hq, hz, w1, w2, w3⟩ := hq
  have hKn := hC.2.2.2.2.1.1 ci _ hq
  have hsz : H.size = K.1 n := by rw [hI.2.1, had n hn]
  refine W.newcK hC.1.1 hC.1.2.1 hC.1.2.2.2.1 (hts _ w1) (hts _ w2) (hts _ w3) rfl hd (Nat.le_trans hm1 hR.2.2.1) (Nat.le_trans hm2 hR.2.2.2) hKn.2.1 hsz fun H1 kC hkC e1 z1 o1 => ?_
  have hw := k K B p l e R s m args below meth c H1 locs Q a hC hR h0 (Iw_push hI hn (by rw [z1, hsz]) (fun x hx => o1 x (by rw [← hsz]; exact hx)) ?_ (fun x hx => ur_ne _ _ (by omega)) (fun x hx => ur_ne _ _ (by omega)) (fun x hx => ur_ne _ _ (by omega))) (hO.mem (fun x hx => ur_ne _ _ (by omega)) (fun x hx => ur_ne _ _ (by omega))) (vS_push hS (by rw [z1, hsz]; omega) (fun x hx => o1 x (by rw [← hsz]; exact hx))) hL hQ
  · rw [show n + 1 - n0 = n - n0 + 1 by omega, show pre (n + 1) - pre n0 = pre n - pre n0 + z by omega] at hw
    exact hw
  · rw [cel_obj hs (cls_6 hq)]
    refine ⟨q, hq, (u_born (tyA ci) hts (cls_in ci q hq) hKn hkC e1 (cls_ty ci q hq)).to (fun j hj => ?_)⟩
    rw [dfl_all ci q hq j hj]
    simp only [vp_V, List.getD_eq_getElem?_getD, List.getElem?_map, List.getElem?_range (show j < z by omega), Option.map_some, Option.getD_some, fval, ur_at, va_rf, Option.map_none]
def aTy : Nat → ArrayType := fun t => if t = 0 then .int else if t = 1 then .char else .boolean
theorem E_newa {at_ : ArrayType} {w : Int32} (t z : Nat) (hd : decode M.2.1 pc = .ok (.newarray at_, 2)) (ht : t < 3) (hat : at_ = aTy t) (hw : Cond.arrayClass (newarray.typeOf at_) ∈ tb) (hs : shp n = (6 + t, z)) (hwn : ¬ w < 0) (hwz : w.toNatClampNeg = z) (hzb : z ≤ 100000) (hn : n < 1000) (hn0 : n0 ≤ n) (hpn : pre n0 ≤ pre n) (hp : pre (n + 1) = pre n + z) (hm1 : n - n0 + 1 ≤ M.2.2.2.2.1) (hm2 : pre n - pre n0 + z ≤ M.2.2.2.2.2)
    (k : Ev d M n0 (pc + 2) ls (.ref n :: st) (n + 1) (ur I n (fun _ => 0)) (ur G n (fun _ => none)) (ur J n (fun _ => 0)) Φ) : Ev d M n0 pc ls (.int w :: st) n I G J Φ := by
  intro K B p l e R s m args below meth c H locs Q a hC hR h0 hI hO hS hL hQ
  have had := hC.2.2.2.2.2.2
  have hts := hC.1.2.2.2.2
  have hsz : H.size = K.1 n := by rw [hI.2.1, had n hn]
  refine va_newaK (rest := st.map (cvv K.1)) hC.1.1 hC.1.2.1 (hts _ hw) rfl hd rfl hwn hwz (by subst hat; rcases (show t = 0 ∨ t = 1 ∨ t = 2 by omega) with rfl | rfl | rfl <;> simp [aTy, newarray.typeOf, componentBytes] <;> omega) (Nat.le_trans hm1 hR.2.2.1) (Nat.le_trans hm2 hR.2.2.2) hsz fun H1 cA e1 z1 o1 hAr hNm => ?_
  have hcA : cA = K.2.1 t := by
    subst hat
    rcases (show t = 0 ∨ t = 1 ∨ t = 2 by omega) with rfl | rfl | rfl
    · exact Option.some.inj (hNm.symm.trans (hC.2.2.2.2.1.2 0 _ ty_at.1).2)
    · exact Option.some.inj (hNm.symm.trans (hC.2.2.2.2.1.2 1 _ ty_at.2.1).2)
    · exact Option.some.inj (hNm.symm.trans (hC.2.2.2.2.1.2 2 _ ty_at.2.2.1).2)
  have hdf : defaultValue (newarray.typeOf at_) = .int 0 := by
    subst hat
    rcases (show t = 0 ∨ t = 1 ∨ t = 2 by omega) with rfl | rfl | rfl <;> rfl
  have hw2 := k K B p l e R s m args below meth c H1 locs Q a hC hR h0 (Iw_push hI hn (by rw [z1, hsz]) (fun x hx => o1 x (by rw [← hsz]; exact hx)) ?_ (fun x hx => ur_ne _ _ (by omega)) (fun x hx => ur_ne _ _ (by omega)) (fun x hx => ur_ne _ _ (by omega))) (hO.mem (fun x hx => ur_ne _ _ (by omega)) (fun x hx => ur_ne _ _ (by omega))) (vS_push hS (by rw [z1, hsz]; omega) (fun x hx => o1 x (by rw [← hsz]; exact hx))) hL hQ
  · rw [show n + 1 - n0 = n - n0 + 1 by omega, show pre (n + 1) - pre n0 = pre n - pre n0 + z by omega] at hw2
    exact hw2
  · rw [cel_int hs (by omega) (by omega), ur_at]
    show H1[K.1 n]? = some (vp_cell _ _)
    rw [e1, hcA, hdf, vp_cell_i, show 6 + t - 6 = t by omega]
theorem E_anew {ix : Nat} {w : Int32} (z : Nat) (hd : decode M.2.1 pc = .ok (.anewarray ix, 3)) (hw : Cond.classLink M.1.cls ix RX2 ∈ tb) (hs : shp n = (9, z)) (hwn : ¬ w < 0) (hwz : w.toNatClampNeg = z) (hzb : z ≤ 100000) (hn : n < 1000) (hn0 : n0 ≤ n) (hpn : pre n0 ≤ pre n) (hp : pre (n + 1) = pre n + z) (hm1 : n - n0 + 1 ≤ M.2.2.2.2.1) (hm2 : pre n - pre n0 + z ≤ M.2.2.2.2.2)
    (k : Ev d M n0 (pc + 3) ls (.ref n :: st) (n + 1) (ur I n (fun _ => 0)) (ur G n (fun _ => none)) (ur J n (fun _ => 0)) Φ) : Ev d M n0 pc ls (.int w :: st) n I G J Φ := by
  intro K B p l e R s m args below meth c H locs Q a hC hR h0 hI hO hS hL hQ
  have had := hC.2.2.2.2.2.2
  have hts := hC.1.2.2.2.2
  have hsz : H.size = K.1 n := by rw [hI.2.1, had n hn]
  subst hwz
  refine W.anew (rest := st.map (cvv K.1)) hC.1.1 hC.1.2.1 hC.1.2.2.2.1 (hts _ hw) (va_AO.use hC.2.2.2.2.2.1.2.2.2.1) rfl hd rfl hwn (by omega) (Nat.le_trans hm1 hR.2.2.1) (Nat.le_trans hm2 hR.2.2.2) fun cA kA comp f1 f2 f3 f4 => ?_
  generalize hH1 : H.push ({ cls := cA, slots := Array.replicate w.toNatClampNeg .null, vm := .none } : Cell) = H1
  have z1 : H1.size = H.size + 1 := by rw [← hH1, Array.size_push]
  have e1 : H1[H.size]? = some (arrV cA w.toNatClampNeg (fun _ => .null)) := by rw [← hH1, Array.getElem?_push_size, ← arrV_new]
  have o1 : ∀ q : Nat, q < H.size → H1[q]? = H[q]? := fun q hq => by rw [← hH1, Array.getElem?_push, if_neg (Nat.ne_of_lt hq)]
  have hcA : cA = K.2.1 3 := by
    obtain ⟨kA', comp', -, -, -, h5⟩ := (hC.2.2.2.2.1.2 3 _ ty_at.2.2.2.1).2
    exact Option.some.inj (f1.symm.trans h5)
  have hw2 := k K B p l e R s m args below meth c H1 locs Q a hC hR h0 (Iw_push hI hn z1 o1 ?_ (fun x hx => ur_ne _ _ (by omega)) (fun x hx => ur_ne _ _ (by omega)) (fun x hx => ur_ne _ _ (by omega))) (hO.mem (fun x hx => ur_ne _ _ (by omega)) (fun x hx => ur_ne _ _ (by omega))) (vS_push hS (by rw [z1]; omega) o1) hL hQ
  · rw [show n + 1 - n0 = n - n0 + 1 by omega, show pre (n + 1) - pre n0 = pre n - pre n0 + w.toNatClampNeg by omega] at hw2
    rw [hsz]
    exact hw2
  · rw [cel_ref hs (by omega), ur_at]
    show H1[K.1 n]? = some (vp_cell _ _)
    rw [← hsz, e1, hcA, vp_cell_q]
    rfl
/-- w rows from cell n on are nought -/
def zrI (I : MI) (n w : Nat) : MI := fun x => if n ≤ x ∧ x < n + w then fun _ => 0 else I x
def zrJ (J : MJ) (n w : Nat) : MJ := fun x => if n ≤ x ∧ x < n + w then fun _ => 0 else J x
def zrG (G : MG) (n w : Nat) : MG := fun x => if x = n then fun i => if i + 1 < w then some (n + 1 + i) else none else if n ≤ x ∧ x < n + w then fun _ => none else G x
set_option maxHeartbeats 1000000 in
theorem E_mna {ix : Nat} {w v : Int32} (N z : Nat) (hd : decode M.2.1 pc = .ok (.multianewarray ix 2, 4)) (hw : Cond.classLink M.1.cls ix "[[I" ∈ tb ∧ Cond.arrayClass .int ∈ tb) (hs : shp n = (10, N)) (hss : ∀ j, j < N → shp (n + 1 + j) = (6, z)) (hwn : ¬ w < 0) (hvn : ¬ v < 0) (hwz : w.toNatClampNeg = N) (hvz : v.toNatClampNeg = z) (hzb : z ≤ 1000) (hNb : N ≤ 1000) (hn : n + 1 + N ≤ 1000) (hn0 : n0 ≤ n) (hpn : pre n0 ≤ pre n) (hp : pre (n + 1 + N) = pre n + N + N * z) (hm1 : n - n0 + (1 + N) ≤ M.2.2.2.2.1) (hm2 : pre n - pre n0 + (N + N * z) ≤ M.2.2.2.2.2)
    (k : Ev d M n0 (pc + 4) ls (.ref n :: st) (n + 1 + N) (zrI I n (N + 1)) (zrG G n (N + 1)) (zrJ J n (N + 1)) Φ) : Ev d M n0 pc ls (.int v :: .int w :: st) n I G J Φ := by
  intro K B p l e R s m args below meth c H locs Q a hC hR h0 hI hO hS hL hQ
  have had := hC.2.2.2.2.2.2
  have hts := hC.1.2.2.2.2
  have hsz : H.size = K.1 n := by rw [hI.2.1, had n (by omega)]
  subst hwz
  subst hvz
  intro T hT Xs
  obtain ⟨vm₁, cA, comp, -, fA, fC, hO2, -, X', step⟩ := Xs.multianewarray2F hC.1.1 hC.1.2.2.2.1 (ty := .int) (hts _ hw.1) (Jvm.Stand.arrayOver_alikeB (Vm.Alike.refl _) hC.2.2.2.2.2.1.2.2.2.2) (hts _ hw.2) (g := F0 m pc a (.int v :: .int w :: st.map (cvv K.1))) rfl (by rw [hC.1.2.1]; exact hd) rfl hwn hvn (by omega) (by simp [componentBytes]; omega) (by omega) rfl rfl (Nat.le_trans hm1 hR.2.2.1) (Nat.le_trans hm2 hR.2.2.2)
  have hcA : cA = K.2.1 4 := Option.some.inj (fA.symm.trans (hC.2.2.2.2.1.2 4 _ ty_at.2.2.2.2).2)
  have hcC : comp = K.2.1 0 := Option.some.inj (fC.symm.trans (hC.2.2.2.2.1.2 0 _ ty_at.1).2)
  subst hcA
  subst hcC
  generalize hF : Jvm.Free.Multi.fill (T.setVm vm₁) (K.2.1 4) (K.2.1 0) w.toNatClampNeg v.toNatClampNeg (defaultValue .int) w.toNatClampNeg = F at X' step
  have hTh : (T.setVm vm₁).heap = H := hT
  obtain ⟨f1, f2, -, -⟩ := Jvm.Free.Multi.fill_facts (T.setVm vm₁) (K.2.1 4) (K.2.1 0) w.toNatClampNeg v.toNatClampNeg (defaultValue .int) w.toNatClampNeg
  rw [hF, hTh] at f1 f2
  have hold : ∀ x : Nat, x < H.size → F.heap[x]? = H[x]? := fun x hx => by
    have := Jvm.Free.Multi.fill_old (T.setVm vm₁) (K.2.1 4) (K.2.1 0) w.toNatClampNeg v.toNatClampNeg (defaultValue .int) (a := x) (by rw [hTh]; exact hx) w.toNatClampNeg
    rw [hF, hTh] at this
    exact this
  have hrow : ∀ j : Nat, j < w.toNatClampNeg → F.heap[H.size + 1 + j]? = some (vp_cell (K.2.1 0) (v.toNatClampNeg, .inl (fun _ => 0))) := fun j hj => by
    have := Jvm.Free.Multi.fill_inner (T.setVm vm₁) (K.2.1 4) (K.2.1 0) w.toNatClampNeg v.toNatClampNeg (defaultValue .int) w.toNatClampNeg j hj
    rw [hF, hTh] at this
    rw [this, vp_cell_i, ← arrV_new]
    rfl
  have hI1 : Iw K (n + 1 + w.toNatClampNeg) (zrI I n (w.toNatClampNeg + 1)) (zrG G n (w.toNatClampNeg + 1)) (zrJ J n (w.toNatClampNeg + 1)) F.heap := by
    refine ⟨fun i q hq => ?_, by rw [f1, hI.2.1]; omega, hn⟩
    have hil : i < n + 1 + w.toNatClampNeg := by
      have := (List.getElem?_eq_some_iff.mp hq).1
      simpa [wsO] using this
    rw [wsO_at hil] at hq
    cases hq
    rcases Nat.lt_trichotomy i n with hlt | heq | hgt
    · rw [celE_congr (I := I) (G := G) (J := J) (by unfold zrI; rw [if_neg (by omega)]) (by unfold zrG; rw [if_neg (by omega), if_neg (by omega)]) (by unfold zrJ; rw [if_neg (by omega)])]
      exact (hI.1 i _ (wsO_at hlt)).kept (hold _ ((hI.1 i _ (wsO_at hlt)).lt))
    · subst heq
      rw [cel_ref hs (by omega)]
      show F.heap[K.1 i]? = some (vp_cell _ _)
      rw [← hsz, f2, vp_cell_q]
      have key : ∀ t : Nat, Jvm.Free.Multi.outerC (K.2.1 4) w.toNatClampNeg H.size t = arrV (K.2.1 4) w.toNatClampNeg (fun j => va_rf (if j < t then some (H.size + 1 + j) else none)) := by
        intro t
        induction t with
        | zero =>
          show ({ cls := K.2.1 4, slots := Array.replicate w.toNatClampNeg .null, vm := .none } : Cell) = _
          rw [arrV_new]
          refine congrArg (arrV (K.2.1 4) w.toNatClampNeg) (funext fun j => ?_)
          simp [va_rf]
        | succ t ih =>
          show (Jvm.Free.Multi.outerC (K.2.1 4) w.toNatClampNeg H.size t).setSlot t (.ref (H.size + 1 + t)) = _
          rw [ih, arrV_store]
          refine congrArg (arrV (K.2.1 4) w.toNatClampNeg) (funext fun j => ?_)
          by_cases e9 : j = t
          · subst e9
            simp [updV, va_rf]
          · by_cases h9 : j < t
            · simp [updV, e9, h9, Nat.lt_succ_of_lt h9]
            · simp [updV, e9, h9, show ¬ j < t + 1 by omega]
      rw [key]
      congr 2
      funext j
      have hadj : w.toNatClampNeg ≤ 1000 := hNb
      by_cases hj : j < w.toNatClampNeg
      · have h10 : K.1 (i + 1 + j) = H.size + 1 + j := by rw [had (i + 1 + j) (by omega), hI.2.1]; omega
        simp [zrG, hj, h10]
      · simp [zrG, hj]
    · obtain ⟨j, rfl⟩ : ∃ j, i = n + 1 + j := ⟨i - n - 1, by omega⟩
      rw [cel_int (hss j (by omega)) (by omega) (by omega)]
      show F.heap[K.1 (n + 1 + j)]? = some (vp_cell _ _)
      have h10 : K.1 (n + 1 + j) = H.size + 1 + j := by rw [had (n + 1 + j) (by omega), hI.2.1]; omega
      rw [h10, hrow j (by omega)]
      unfold zrI
      rw [if_pos (by omega)]
  have hw2 := k K B p l e R s m args below meth c F.heap locs Q a hC hR h0 hI1 (hO.mem (fun x hx => by unfold zrI; rw [if_neg (by omega)]) (fun x hx => by unfold zrG; rw [if_neg (by omega), if_neg (by omega)])) (vS_push hS (by rw [f1]; omega) hold) hL hQ
  rw [show n + 1 + w.toNatClampNeg - n0 = n - n0 + 1 + w.toNatClampNeg by omega, show pre (n + 1 + w.toNatClampNeg) - pre n0 = pre n - pre n0 + w.toNatClampNeg + w.toNatClampNeg * v.toNatClampNeg by omega] at hw2
  obtain ⟨t, a1, b1⟩ := hw2 F rfl X'
  refine ⟨t, step t ?_, b1⟩
  have e9 : T.heap.size = K.1 n := by rw [hT, hsz]
  rw [e9]
  exact a1
end ALLOC
end
section
/-! ===== shorter forms ===== -/
theorem vpd {i : Int32} {n : Nat} (h : decide (¬ (i < 0 ∨ n ≤ i.toNatClampNeg)) = true) : vp_in i n := by unfold vp_in; exact of_decide_eq_true h
section CONV
variable {d : Nat} {M : Mt} {n0 pc : Nat} {ls : List (Option Value)} {st : List Value} {n : Nat} {I : MI} {G : MG} {J : MJ} {Φ : Ph}
theorem E_max {ix : Nat} {x y : Int32} (hd : decode M.2.1 pc = .ok (.invokestatic ix, 3)) (hw : Cond.methodLink M.1.cls ix Lib.Math.max.name ∈ tb ∧ Cond.static Lib.Math.max.name ∈ tb ∧ Cond.initialized "java/lang/Math" ∈ tb ∧ Cond.code Lib.Math.max.name Lib.Math.max.code 2 (some .int) ∈ tb) (hcat : (st.map fun v => v.category).sum ≤ 8) (k : Ev (d + 1) M n (pc + 3) ls (.int (if x < y then y else x) :: st) n I G J Φ) : Ev (d + 1) M n pc ls (.int y :: .int x :: st) n I G J Φ := by
  intro K B p l e R s m args below meth c H locs Q a hC hR h0 hI hO hS hL hQ
  have hts := hC.1.2.2.2.2
  have hlo : 64 ≤ R.locals := by have := hR.2.1; omega
  exact va_mmax (rest := st.map (cvv K.1)) hC.1.1 hC.1.2.1 (by obtain ⟨lx, h1, -⟩ := hL; exact hC.1.2.2.1.trans h1.1.symm) hC.1.2.2.2.1 (hts _ hw.1) (hts _ hw.2.1) (hts _ hw.2.2.1) (hts _ hw.2.2.2) (by have := hR.1; omega) (by rw [cat_cvv]; omega) (by omega) (by omega) hd (k K B p l e R s m args below meth c H locs Q a hC hR h0 hI hO hS hL hQ)
theorem E_min {ix : Nat} {x y : Int32} (hd : decode M.2.1 pc = .ok (.invokestatic ix, 3)) (hw : Cond.methodLink M.1.cls ix Lib.Math.min.name ∈ tb ∧ Cond.static Lib.Math.min.name ∈ tb ∧ Cond.initialized "java/lang/Math" ∈ tb ∧ Cond.code Lib.Math.min.name Lib.Math.min.code 2 (some .int) ∈ tb) (hcat : (st.map fun v => v.category).sum ≤ 8) (k : Ev (d + 1) M n (pc + 3) ls (.int (if y < x then y else x) :: st) n I G J Φ) : Ev (d + 1) M n pc ls (.int y :: .int x :: st) n I G J Φ := by
  intro K B p l e R s m args below meth c H locs Q a hC hR h0 hI hO hS hL hQ
  have hts := hC.1.2.2.2.2
  have hlo : 64 ≤ R.locals := by have := hR.2.1; omega
  exact va_mmin (rest := st.map (cvv K.1)) hC.1.1 hC.1.2.1 (by obtain ⟨lx, h1, -⟩ := hL; exact hC.1.2.2.1.trans h1.1.symm) hC.1.2.2.2.1 (hts _ hw.1) (hts _ hw.2.1) (hts _ hw.2.2.1) (hts _ hw.2.2.2) (by have := hR.1; omega) (by rw [cat_cvv]; omega) (by omega) (by omega) hd (k K B p l e R s m args below meth c H locs Q a hC hR h0 hI hO hS hL hQ)
/-- calls that make nothing -/
theorem E_cv {ix : Nat} (M2 : Mt) (w ci z : Nat) {b : Nat} {As : List Value} {Ψ : Ph} (hd : decode M.2.1 pc = .ok (.invokevirtual ix, 3)) (hw : LkV M.1.cls ix M2 w) (hci : ∃ q, vwCl[ci]? = some q ∧ q.1 = M2.1.cls) (hs : shn n b = (ci, z)) (hA : As.length = w) (hcat : (st.map fun v => v.category).sum ≤ 8) (hz : M2.2.2.2.2.1 = 0 ∧ M2.2.2.2.2.2 = 0) (hlen : (ent (.ref b :: As)).length ≤ M2.2.2.1) {stk : List Value} (hst : stk = As.reverse ++ .ref b :: st)
    (h : Ev d M2 n 0 (entN M2.2.2.1 (.ref b :: As)) [] n I G J Ψ) (hk : ∀ r n1 I1 G1 J1, Ψ r n1 I1 G1 J1 → Ev (d + 1) M n (pc + 3) ls (r.toList ++ st) n1 I1 G1 J1 Φ) : Ev (d + 1) M n pc ls stk n I G J Φ :=
  E_invv M2 w ci z hd hw hci hs hA hcat (Nat.le_refl _) (Nat.le_refl _) (by rw [hz.1]; omega) (by rw [hz.2]; omega) hlen h hk hst
theorem E_cs {ix : Nat} (M2 : Mt) (w : Nat) {As : List Value} {Ψ : Ph} (hd : decode M.2.1 pc = .ok (.invokestatic ix, 3)) (hw : LkS M.1.cls ix M2 w) (hA : As.length = w) (hcat : (st.map fun v => v.category).sum ≤ 8) (hz : M2.2.2.2.2.1 = 0 ∧ M2.2.2.2.2.2 = 0) (hlen : (ent As).length ≤ M2.2.2.1) {stk : List Value} (hst : stk = As.reverse ++ st)
    (h : Ev d M2 n 0 (entN M2.2.2.1 As) [] n I G J Ψ) (hk : ∀ r n1 I1 G1 J1, Ψ r n1 I1 G1 J1 → Ev (d + 1) M n (pc + 3) ls (r.toList ++ st) n1 I1 G1 J1 Φ) : Ev (d + 1) M n pc ls stk n I G J Φ :=
  E_invs M2 w hd hw hA hcat (Nat.le_refl _) (Nat.le_refl _) (by rw [hz.1]; omega) (by rw [hz.2]; omega) hlen h hk hst
/-- indices by their numbers -/
theorem E_ia {i : Int32} (c z j : Nat) (hd : decode M.2.1 pc = .ok (.iaload, 1)) (hs : shn n c = (6, z)) (hin : vp_in i z) (hj : i.toNatClampNeg = j) (k : Ev d M n0 (pc + 1) ls (.int (I c j) :: st) n I G J Φ) : Ev d M n0 pc ls (.int i :: .ref c :: st) n I G J Φ := by
  subst hj
  exact E_iald c z hd hs hin k
theorem E_ca {i : Int32} (c z j : Nat) (hd : decode M.2.1 pc = .ok (.caload, 1)) (hs : shn n c = (7, z)) (hin : vp_in i z) (hj : i.toNatClampNeg = j) (k : Ev d M n0 (pc + 1) ls (.int (I c j) :: st) n I G J Φ) : Ev d M n0 pc ls (.int i :: .ref c :: st) n I G J Φ := by
  subst hj
  exact E_cald c z hd hs hin k
theorem E_za {i : Int32} (c z j : Nat) (hd : decode M.2.1 pc = .ok (.baload, 1)) (hs : shn n c = (8, z)) (hin : vp_in i z) (hj : i.toNatClampNeg = j) (k : Ev d M n0 (pc + 1) ls (.int (I c j) :: st) n I G J Φ) : Ev d M n0 pc ls (.int i :: .ref c :: st) n I G J Φ := by
  subst hj
  exact E_zald c z hd hs hin k
theorem E_is {i x : Int32} (c z j : Nat) (hd : decode M.2.1 pc = .ok (.iastore, 1)) (hs : shn n c = (6, z)) (hin : vp_in i z) (hj : i.toNatClampNeg = j) (k : Ev d M n0 (pc + 1) ls st n (u2 I c j x) G J Φ) : Ev d M n0 pc ls (.int x :: .int i :: .ref c :: st) n I G J Φ := by
  subst hj
  exact E_iast c z hd hs hin k
theorem E_cs1 {i x : Int32} (c z j : Nat) (y : Int32) (hd : decode M.2.1 pc = .ok (.castore, 1)) (hs : shn n c = (7, z)) (hin : vp_in i z) (hj : i.toNatClampNeg = j) (hx : narrow .char (.int x) = .int y) (k : Ev d M n0 (pc + 1) ls st n (u2 I c j y) G J Φ) : Ev d M n0 pc ls (.int x :: .int i :: .ref c :: st) n I G J Φ := by
  subst hj
  exact E_cast c z hd hs hin hx k
theorem E_zs {i x : Int32} (c z j : Nat) (y : Int32) (hd : decode M.2.1 pc = .ok (.bastore, 1)) (hs : shn n c = (8, z)) (hin : vp_in i z) (hj : i.toNatClampNeg = j) (hx : narrow .boolean (.int x) = .int y) (k : Ev d M n0 (pc + 1) ls st n (u2 I c j y) G J Φ) : Ev d M n0 pc ls (.int x :: .int i :: .ref c :: st) n I G J Φ := by
  subst hj
  exact E_zast c z hd hs hin hx k
theorem E_aa {i : Int32} (c z j r : Nat) (hd : decode M.2.1 pc = .ok (.aaload, 1)) (hs : shn n c = (9, z)) (hin : vp_in i z) (hj : i.toNatClampNeg = j) (hr : G c j = some r) (k : Ev d M n0 (pc + 1) ls (.ref r :: st) n I G J Φ) : Ev d M n0 pc ls (.int i :: .ref c :: st) n I G J Φ := by
  subst hj
  exact E_aald c z r hd hs hin hr k
theorem E_ag {i : Int32} (c z j r : Nat) (hd : decode M.2.1 pc = .ok (.aaload, 1)) (hs : shn n c = (10, z)) (hin : vp_in i z) (hj : i.toNatClampNeg = j) (hr : G c j = some r) (k : Ev d M n0 (pc + 1) ls (.ref r :: st) n I G J Φ) : Ev d M n0 pc ls (.int i :: .ref c :: st) n I G J Φ := by
  subst hj
  exact E_aald2 c z r hd hs hin hr k
theorem E_as {i : Int32} (c z j r zr : Nat) (hd : decode M.2.1 pc = .ok (.aastore, 1)) (hs : shn n c = (9, z)) (hr : shn n r = (2, zr)) (hin : vp_in i z) (hj : i.toNatClampNeg = j) (k : Ev d M n0 (pc + 1) ls st n I (u2 G c j (some r)) J Φ) : Ev d M n0 pc ls (.ref r :: .int i :: .ref c :: st) n I G J Φ := by
  subst hj
  exact E_aast c z r zr hd hs hr hin k
theorem E_ou {i : Int32} (c j : Nat) (hd : decode M.2.1 pc = .ok (.iaload, 1)) (h1 : 1000 ≤ c) (h2 : c < 1005) (hin : vp_in i (oul G c)) (hj : i.toNatClampNeg = j) (k : Ev d M n0 (pc + 1) ls (.int (I c j) :: st) n I G J Φ) : Ev d M n0 pc ls (.int i :: .ref c :: st) n I G J Φ := by
  subst hj
  exact E_ould c hd h1 h2 hin k
/-- returns of methods that make nothing -/
theorem E_ri {v : Int32} (hd : decode M.2.1 pc = .ok (.ireturn, 1)) (hr : M.2.2.2.1 = some .int) (hz : M.2.2.2.2.1 = 0 ∧ M.2.2.2.2.2 = 0) (k : Φ (some (.int v)) n I G J) : Ev d M n pc ls [.int v] n I G J Φ := E_iret hd (Or.inl hr) (by rw [hz.1]; rfl) (by rw [hz.2]; rfl) k
theorem E_rz {v : Int32} (hd : decode M.2.1 pc = .ok (.ireturn, 1)) (hr : M.2.2.2.1 = some .boolean) (hv : narrow .boolean (.int v) = .int v) (hz : M.2.2.2.2.1 = 0 ∧ M.2.2.2.2.2 = 0) (k : Φ (some (.int v)) n I G J) : Ev d M n pc ls [.int v] n I G J Φ := E_iret hd (Or.inr ⟨hr, hv⟩) (by rw [hz.1]; rfl) (by rw [hz.2]; rfl) k
theorem E_rl {v : Int64} (hd : decode M.2.1 pc = .ok (.lreturn, 1)) (hr : M.2.2.2.1 = some .long) (hz : M.2.2.2.2.1 = 0 ∧ M.2.2.2.2.2 = 0) (k : Φ (some (.long v)) n I G J) : Ev d M n pc ls [.long v] n I G J Φ := E_lret hd hr (by rw [hz.1]; rfl) (by rw [hz.2]; rfl) k
theorem E_rv (hd : decode M.2.1 pc = .ok (.return_, 1)) (hr : M.2.2.2.1 = none) (hz : M.2.2.2.2.1 = 0 ∧ M.2.2.2.2.2 = 0) (k : Φ none n I G J) : Ev d M n pc ls [] n I G J Φ := E_vret hd hr (by rw [hz.1]; rfl) (by rw [hz.2]; rfl) k
end CONV
end
section
abbrev mJ6_bitCount_0f7a4 : Mt := (yJ6_bitCount_0f7a4, cJ6_bitCount_0f7a4, 1, some .int, 0, 0)
abbrev mJ9_max_7cf53 : Mt := (yJ9_max_7cf53, cJ9_max_7cf53, 2, some .int, 0, 0)
abbrev mJ9_min_7cf53 : Mt := (yJ9_min_7cf53, cJ9_min_7cf53, 2, some .int, 0, 0)
abbrev mL_law : Mt := (yL_law, cL_law, 4, some .boolean, 136, 2689)
abbrev mX0_explore : Mt := (yX0_explore, cX0_explore, 5, none, 0, 0)
abbrev mX0_init : Mt := (yX0_init, cX0_init, 1, none, 10, 40)
abbrev mX0_isIn : Mt := (yX0_isIn, cX0_isIn, 2, some .boolean, 0, 0)
abbrev mX0_isJustEnough : Mt := (yX0_isJustEnough, cX0_isJustEnough, 6, some .boolean, 0, 0)
abbrev mX0_keepRow : Mt := (yX0_keepRow, cX0_keepRow, 4, none, 0, 0)
abbrev mX0_search : Mt := (yX0_search, cX0_search, 4, none, 0, 0)
abbrev mX0_tire : Mt := (yX0_tire, cX0_tire, 6, none, 0, 0)
abbrev mX1_addHill : Mt := (yX1_addHill, cX1_addHill, 2, none, 0, 0)
abbrev mX1_addJoin : Mt := (yX1_addJoin, cX1_addJoin, 2, none, 0, 0)
abbrev mX1_addMan : Mt := (yX1_addMan, cX1_addMan, 2, none, 0, 0)
abbrev mX1_empty : Mt := (yX1_empty, cX1_empty, 1, none, 0, 0)
abbrev mX1_forceOf : Mt := (yX1_forceOf, cX1_forceOf, 4, some .int, 0, 0)
abbrev mX1_hasHill : Mt := (yX1_hasHill, cX1_hasHill, 2, some .boolean, 0, 0)
abbrev mX1_hasLedge : Mt := (yX1_hasLedge, cX1_hasLedge, 3, some .boolean, 0, 0)
abbrev mX1_hasMan : Mt := (yX1_hasMan, cX1_hasMan, 2, some .boolean, 0, 0)
abbrev mX1_init : Mt := (yX1_init, cX1_init, 1, none, 8, 31)
abbrev mX1_isOnePlace : Mt := (yX1_isOnePlace, cX1_isOnePlace, 6, some .boolean, 0, 0)
abbrev mX1_rainsOn : Mt := (yX1_rainsOn, cX1_rainsOn, 2, some .boolean, 0, 0)
abbrev mX2_begin : Mt := (yX2_begin, cX2_begin, 3, none, 0, 0)
abbrev mX2_blockersAt : Mt := (yX2_blockersAt, cX2_blockersAt, 7, some .int, 0, 0)
abbrev mX2_canComeUp : Mt := (yX2_canComeUp, cX2_canComeUp, 3, some .boolean, 0, 0)
abbrev mX2_copyFrom : Mt := (yX2_copyFrom, cX2_copyFrom, 2, none, 0, 0)
abbrev mX2_fallDusk : Mt := (yX2_fallDusk, cX2_fallDusk, 5, none, 0, 0)
abbrev mX2_freeSteps : Mt := (yX2_freeSteps, cX2_freeSteps, 5, some .int, 0, 0)
abbrev mX2_hoursLeft : Mt := (yX2_hoursLeft, cX2_hoursLeft, 2, some .int, 0, 0)
abbrev mX2_init : Mt := (yX2_init, cX2_init, 1, none, 5, 34)
abbrev mX2_isOver : Mt := (yX2_isOver, cX2_isOver, 3, some .boolean, 0, 0)
abbrev mX2_menAt : Mt := (yX2_menAt, cX2_menAt, 5, some .int, 0, 0)
abbrev mX2_needOf : Mt := (yX2_needOf, cX2_needOf, 3, some .int, 0, 0)
abbrev mX2_overBits : Mt := (yX2_overBits, cX2_overBits, 4, some .int, 0, 0)
abbrev mX2_passDay : Mt := (yX2_passDay, cX2_passDay, 4, none, 0, 0)
abbrev mX2_passHour : Mt := (yX2_passHour, cX2_passHour, 6, some .int, 0, 0)
abbrev mX2_rest : Mt := (yX2_rest, cX2_rest, 3, none, 0, 0)
abbrev mX2_sizeNow : Mt := (yX2_sizeNow, cX2_sizeNow, 3, some .int, 0, 0)
abbrev mX2_strengthAfter : Mt := (yX2_strengthAfter, cX2_strengthAfter, 5, some .int, 0, 0)
abbrev mX2_strengthAt : Mt := (yX2_strengthAt, cX2_strengthAt, 5, some .int, 0, 0)
abbrev mX2_writeDown : Mt := (yX2_writeDown, cX2_writeDown, 4, none, 0, 0)
abbrev mX2_writtenStep : Mt := (yX2_writtenStep, cX2_writtenStep, 3, some .int, 0, 0)
abbrev mX3_addItem : Mt := (yX3_addItem, cX3_addItem, 3, none, 0, 0)
abbrev mX3_canStand : Mt := (yX3_canStand, cX3_canStand, 2, some .boolean, 0, 0)
abbrev mX3_fits : Mt := (yX3_fits, cX3_fits, 4, some .boolean, 0, 0)
abbrev mX3_fitsJoin : Mt := (yX3_fitsJoin, cX3_fitsJoin, 3, some .boolean, 0, 0)
abbrev mX3_init : Mt := (yX3_init, cX3_init, 2, none, 1, 4)
abbrev mX3_isDigit : Mt := (yX3_isDigit, cX3_isDigit, 1, some .boolean, 0, 0)
abbrev mX3_isSign : Mt := (yX3_isSign, cX3_isSign, 1, some .boolean, 0, 0)
abbrev mX3_isWithin : Mt := (yX3_isWithin, cX3_isWithin, 3, some .boolean, 0, 0)
abbrev mX3_numbersOf : Mt := (yX3_numbersOf, cX3_numbersOf, 1, some .int, 0, 0)
abbrev mX3_readAll : Mt := (yX3_readAll, cX3_readAll, 4, some .int, 0, 0)
abbrev mX3_readItem : Mt := (yX3_readItem, cX3_readItem, 5, some .boolean, 0, 0)
abbrev mX3_take : Mt := (yX3_take, cX3_take, 1, none, 0, 0)
abbrev mX3_takeNumber : Mt := (yX3_takeNumber, cX3_takeNumber, 3, none, 0, 0)
abbrev mX4_agrees : Mt := (yX4_agrees, cX4_agrees, 3, some .boolean, 0, 0)
abbrev mX4_allPush : Mt := (yX4_allPush, cX4_allPush, 3, none, 0, 0)
abbrev mX4_back : Mt := (yX4_back, cX4_back, 2, some .int, 0, 0)
abbrev mX4_blocks : Mt := (yX4_blocks, cX4_blocks, 2, some .int, 0, 0)
abbrev mX4_clear : Mt := (yX4_clear, cX4_clear, 2, some .int, 0, 0)
abbrev mX4_commonDivisor : Mt := (yX4_commonDivisor, cX4_commonDivisor, 7, some .long, 0, 0)
abbrev mX4_count : Mt := (yX4_count, cX4_count, 2, some .int, 0, 0)
abbrev mX4_crew : Mt := (yX4_crew, cX4_crew, 6, some .int, 0, 0)
abbrev mX4_days : Mt := (yX4_days, cX4_days, 3, some .int, 0, 0)
abbrev mX4_evening : Mt := (yX4_evening, cX4_evening, 3, some .int, 0, 0)
abbrev mX4_forget : Mt := (yX4_forget, cX4_forget, 2, some .int, 0, 0)
abbrev mX4_highest : Mt := (yX4_highest, cX4_highest, 4, some .int, 0, 0)
abbrev mX4_hill : Mt := (yX4_hill, cX4_hill, 3, some .int, 0, 0)
abbrev mX4_hills : Mt := (yX4_hills, cX4_hills, 4, some .int, 0, 0)
abbrev mX4_hour : Mt := (yX4_hour, cX4_hour, 2, some .int, 0, 0)
abbrev mX4_init : Mt := (yX4_init, cX4_init, 2, none, 121, 964)
abbrev mX4_isOverBehind : Mt := (yX4_isOverBehind, cX4_isOverBehind, 5, some .boolean, 0, 0)
abbrev mX4_keep : Mt := (yX4_keep, cX4_keep, 2, some .int, 0, 0)
abbrev mX4_little : Mt := (yX4_little, cX4_little, 4, some .int, 0, 0)
abbrev mX4_man : Mt := (yX4_man, cX4_man, 3, some .int, 0, 0)
abbrev mX4_now : Mt := (yX4_now, cX4_now, 2, some .int, 0, 0)
abbrev mX4_odds : Mt := (yX4_odds, cX4_odds, 14, some .long, 0, 0)
abbrev mX4_order : Mt := (yX4_order, cX4_order, 4, some .int, 0, 0)
abbrev mX4_power : Mt := (yX4_power, cX4_power, 5, some .long, 0, 0)
abbrev mX4_rainWeight : Mt := (yX4_rainWeight, cX4_rainWeight, 4, some .long, 0, 0)
abbrev mX4_rate : Mt := (yX4_rate, cX4_rate, 3, some .int, 0, 0)
abbrev mX4_rateAs : Mt := (yX4_rateAs, cX4_rateAs, 4, some .int, 0, 0)
abbrev mX4_remember : Mt := (yX4_remember, cX4_remember, 3, none, 0, 0)
abbrev mX4_saw : Mt := (yX4_saw, cX4_saw, 3, some .int, 0, 0)
abbrev mX4_stone : Mt := (yX4_stone, cX4_stone, 3, some .int, 0, 0)
abbrev mX4_trace : Mt := (yX4_trace, cX4_trace, 1, some .long, 0, 0)
abbrev mX4_type : Mt := (yX4_type, cX4_type, 2, some .int, 0, 0)
abbrev mX4_undo : Mt := (yX4_undo, cX4_undo, 1, some .int, 0, 0)
abbrev mX4_wear : Mt := (yX4_wear, cX4_wear, 4, some .int, 0, 0)
abbrev mX4_written : Mt := (yX4_written, cX4_written, 3, some .int, 0, 0)
abbrev mX5_back : Mt := (yX5_back, cX5_back, 2, some .int, 0, 0)
abbrev mX5_begin : Mt := (yX5_begin, cX5_begin, 2, none, 0, 0)
abbrev mX5_blocks : Mt := (yX5_blocks, cX5_blocks, 2, some .int, 0, 0)
abbrev mX5_blocksIn : Mt := (yX5_blocksIn, cX5_blocksIn, 8, some .int, 0, 0)
abbrev mX5_clear : Mt := (yX5_clear, cX5_clear, 2, some .int, 0, 0)
abbrev mX5_common : Mt := (yX5_common, cX5_common, 10, some .long, 0, 0)
abbrev mX5_copy : Mt := (yX5_copy, cX5_copy, 4, none, 0, 0)
abbrev mX5_count : Mt := (yX5_count, cX5_count, 2, some .int, 0, 0)
abbrev mX5_crew : Mt := (yX5_crew, cX5_crew, 6, some .int, 0, 0)
abbrev mX5_days : Mt := (yX5_days, cX5_days, 3, some .int, 0, 0)
abbrev mX5_dusk : Mt := (yX5_dusk, cX5_dusk, 5, none, 0, 0)
abbrev mX5_evening : Mt := (yX5_evening, cX5_evening, 5, some .int, 0, 0)
abbrev mX5_forget : Mt := (yX5_forget, cX5_forget, 2, some .int, 0, 0)
abbrev mX5_goToDusk : Mt := (yX5_goToDusk, cX5_goToDusk, 4, none, 0, 0)
abbrev mX5_has : Mt := (yX5_has, cX5_has, 2, some .boolean, 0, 0)
abbrev mX5_highest : Mt := (yX5_highest, cX5_highest, 9, some .int, 0, 0)
abbrev mX5_hill : Mt := (yX5_hill, cX5_hill, 3, some .int, 0, 0)
abbrev mX5_hills : Mt := (yX5_hills, cX5_hills, 3, some .int, 0, 0)
abbrev mX5_hollowRate : Mt := (yX5_hollowRate, cX5_hollowRate, 4, some .int, 0, 0)
abbrev mX5_hour : Mt := (yX5_hour, cX5_hour, 2, some .int, 0, 0)
abbrev mX5_in : Mt := (yX5_in, cX5_in, 6, some .boolean, 0, 0)
abbrev mX5_init : Mt := (yX5_init, cX5_init, 1, none, 13, 1676)
abbrev mX5_isCode : Mt := (yX5_isCode, cX5_isCode, 5, some .boolean, 0, 0)
abbrev mX5_isFigure : Mt := (yX5_isFigure, cX5_isFigure, 1, some .boolean, 0, 0)
abbrev mX5_isHill : Mt := (yX5_isHill, cX5_isHill, 2, some .boolean, 0, 0)
abbrev mX5_isMan : Mt := (yX5_isMan, cX5_isMan, 2, some .boolean, 0, 0)
abbrev mX5_isOver : Mt := (yX5_isOver, cX5_isOver, 3, some .boolean, 0, 0)
abbrev mX5_isOverBy : Mt := (yX5_isOverBy, cX5_isOverBy, 5, some .boolean, 0, 0)
abbrev mX5_keep : Mt := (yX5_keep, cX5_keep, 2, some .int, 0, 0)
abbrev mX5_lentRate : Mt := (yX5_lentRate, cX5_lentRate, 2, some .int, 0, 0)
abbrev mX5_little : Mt := (yX5_little, cX5_little, 3, some .int, 0, 0)
abbrev mX5_man : Mt := (yX5_man, cX5_man, 3, some .int, 0, 0)
abbrev mX5_next : Mt := (yX5_next, cX5_next, 3, none, 0, 0)
abbrev mX5_now : Mt := (yX5_now, cX5_now, 2, some .int, 0, 0)
abbrev mX5_odds : Mt := (yX5_odds, cX5_odds, 13, some .long, 0, 0)
abbrev mX5_one : Mt := (yX5_one, cX5_one, 1, some .int, 0, 0)
abbrev mX5_ones : Mt := (yX5_ones, cX5_ones, 3, some .int, 0, 0)
abbrev mX5_order : Mt := (yX5_order, cX5_order, 4, some .int, 0, 0)
abbrev mX5_orderAll : Mt := (yX5_orderAll, cX5_orderAll, 5, none, 0, 0)
abbrev mX5_over : Mt := (yX5_over, cX5_over, 3, some .int, 0, 0)
abbrev mX5_overIn : Mt := (yX5_overIn, cX5_overIn, 4, some .int, 0, 0)
abbrev mX5_push : Mt := (yX5_push, cX5_push, 6, some .int, 0, 0)
abbrev mX5_pushOf : Mt := (yX5_pushOf, cX5_pushOf, 5, some .int, 0, 0)
abbrev mX5_rainsOn : Mt := (yX5_rainsOn, cX5_rainsOn, 2, some .boolean, 0, 0)
abbrev mX5_rate : Mt := (yX5_rate, cX5_rate, 3, some .int, 0, 0)
abbrev mX5_remember : Mt := (yX5_remember, cX5_remember, 2, none, 0, 0)
abbrev mX5_roundRate : Mt := (yX5_roundRate, cX5_roundRate, 2, some .int, 0, 0)
abbrev mX5_saw : Mt := (yX5_saw, cX5_saw, 3, some .int, 0, 0)
abbrev mX5_sizeBy : Mt := (yX5_sizeBy, cX5_sizeBy, 4, some .int, 0, 0)
abbrev mX5_sizeIn : Mt := (yX5_sizeIn, cX5_sizeIn, 3, some .int, 0, 0)
abbrev mX5_splitRate : Mt := (yX5_splitRate, cX5_splitRate, 2, some .int, 0, 0)
abbrev mX5_stepBy : Mt := (yX5_stepBy, cX5_stepBy, 7, some .int, 0, 0)
abbrev mX5_stone : Mt := (yX5_stone, cX5_stone, 3, some .int, 0, 0)
abbrev mX5_stoneRate : Mt := (yX5_stoneRate, cX5_stoneRate, 2, some .int, 0, 0)
abbrev mX5_takeHill : Mt := (yX5_takeHill, cX5_takeHill, 2, none, 0, 0)
abbrev mX5_takeItem : Mt := (yX5_takeItem, cX5_takeItem, 1, none, 0, 0)
abbrev mX5_takeJoin : Mt := (yX5_takeJoin, cX5_takeJoin, 3, none, 0, 0)
abbrev mX5_takeNumber : Mt := (yX5_takeNumber, cX5_takeNumber, 3, some .int, 0, 0)
abbrev mX5_tire : Mt := (yX5_tire, cX5_tire, 6, none, 0, 0)
abbrev mX5_trace : Mt := (yX5_trace, cX5_trace, 1, some .long, 0, 0)
abbrev mX5_type : Mt := (yX5_type, cX5_type, 2, some .int, 0, 0)
abbrev mX5_undo : Mt := (yX5_undo, cX5_undo, 1, some .int, 0, 0)
abbrev mX5_want : Mt := (yX5_want, cX5_want, 2, some .boolean, 0, 0)
abbrev mX5_wear : Mt := (yX5_wear, cX5_wear, 4, some .int, 0, 0)
abbrev mX5_wetRate : Mt := (yX5_wetRate, cX5_wetRate, 2, some .int, 0, 0)
abbrev mX5_written : Mt := (yX5_written, cX5_written, 3, some .int, 0, 0)
theorem tq_0 {w : Cond} (h : w ∈ k2_sels lw_privs) (hg : goodWord w = true) : w ∈ tb := List.mem_filter.mpr ⟨List.mem_append_left _ h, hg⟩
theorem tq_1 {w : Cond} (h : w ∈ tables_1_1) (hg : goodWord w = true) : w ∈ tb := List.mem_filter.mpr ⟨List.mem_append_right _ (List.mem_append_left _ h), hg⟩
theorem tq_2 {w : Cond} (h : w ∈ tables_1_2) (hg : goodWord w = true) : w ∈ tb := List.mem_filter.mpr ⟨List.mem_append_right _ (List.mem_append_right _ (List.mem_append_left _ h)), hg⟩
theorem tq_3 {w : Cond} (h : w ∈ tables_1_3) (hg : goodWord w = true) : w ∈ tb := List.mem_filter.mpr ⟨List.mem_append_right _ (List.mem_append_right _ (List.mem_append_right _ (List.mem_append_left _ h))), hg⟩
theorem tq_4 {w : Cond} (h : w ∈ tables_1_4) (hg : goodWord w = true) : w ∈ tb := List.mem_filter.mpr ⟨List.mem_append_right _ (List.mem_append_right _ (List.mem_append_right _ (List.mem_append_right _ (List.mem_append_left _ h)))), hg⟩
theorem tq_5 {w : Cond} (h : w ∈ tables_1_5) (hg : goodWord w = true) : w ∈ tb := List.mem_filter.mpr ⟨List.mem_append_right _ (List.mem_append_right _ (List.mem_append_right _ (List.mem_append_right _ (List.mem_append_right _ h)))), hg⟩
theorem tw_fieldLink {L : List Cond} (i : Nat) {own : String} {ix : Nat} {ref name desc : String} (h : (match L[i]? with | some (.fieldLink a b c d e) => a == own && b == ix && c == ref && d == name && e == desc | _ => false) = true) : Cond.fieldLink own ix ref name desc ∈ L := by
  split at h
  · rename_i a b c d e he
    simp only [Bool.and_eq_true, beq_iff_eq] at h
    obtain ⟨⟨⟨⟨rfl, rfl⟩, rfl⟩, rfl⟩, rfl⟩ := h
    exact List.mem_of_getElem? he
  · cases h
theorem tw_methodLink {L : List Cond} (i : Nat) {own : String} {ix : Nat} {y : MethodName} (h : (match L[i]? with | some (.methodLink a b c) => a == own && b == ix && decide (c = y) | _ => false) = true) : Cond.methodLink own ix y ∈ L := by
  split at h
  · rename_i a b c he
    simp only [Bool.and_eq_true, beq_iff_eq, decide_eq_true_eq] at h
    obtain ⟨⟨rfl, rfl⟩, rfl⟩ := h
    exact List.mem_of_getElem? he
  · cases h
theorem tw_instanceMethod {L : List Cond} (i : Nat) {y : MethodName} (h : (match L[i]? with | some (.instanceMethod c) => decide (c = y) | _ => false) = true) : Cond.instanceMethod y ∈ L := by
  split at h
  · rename_i c he
    simp only [decide_eq_true_eq] at h
    subst h
    exact List.mem_of_getElem? he
  · cases h
theorem tw_static {L : List Cond} (i : Nat) {y : MethodName} (h : (match L[i]? with | some (.static c) => decide (c = y) | _ => false) = true) : Cond.static y ∈ L := by
  split at h
  · rename_i c he
    simp only [decide_eq_true_eq] at h
    subst h
    exact List.mem_of_getElem? he
  · cases h
theorem tw_selects {L : List Cond} (i : Nat) {C : String} {y z : MethodName} (h : (match L[i]? with | some (.selects a c e) => a == C && decide (c = y) && decide (e = z) | _ => false) = true) : Cond.selects C y z ∈ L := by
  split at h
  · rename_i a c e he
    simp only [Bool.and_eq_true, beq_iff_eq, decide_eq_true_eq] at h
    obtain ⟨⟨rfl, rfl⟩, rfl⟩ := h
    exact List.mem_of_getElem? he
  · cases h
theorem tw_d {L : List Cond} (i : Nat) {w : Cond} (h : L[i]? = some w) : w ∈ L := List.mem_of_getElem? h
theorem an_RX4_32 : Cond.classLink RX4 32 RX2 ∈ tb := (tq_1 (w := Cond.classLink RX4 32 RX2) (tw_d 126 (by decide +kernel)) rfl)
theorem fl_RX4_9 : FL RX4 9 4 0 := ⟨(RX4, TX4, 16), rfl, by decide, (tq_1 (w := Cond.fieldLink RX4 9 "DuskStones" "text" "[C") (tw_fieldLink 207 (by decide +kernel)) rfl), rfl⟩
theorem fl_RX4_18 : FL RX4 18 4 2 := ⟨(RX4, TX4, 16), rfl, by decide, (tq_1 (w := Cond.fieldLink RX4 18 "DuskStones" "reader" "LDuskStones$Reader;") (tw_fieldLink 209 (by decide +kernel)) rfl), rfl⟩
theorem fl_RX4_25 : FL RX4 25 4 3 := ⟨(RX4, TX4, 16), rfl, by decide, (tq_1 (w := Cond.fieldLink RX4 25 "DuskStones" "land" "LDuskStones$Land;") (tw_fieldLink 210 (by decide +kernel)) rfl), rfl⟩
theorem fl_RX4_29 : FL RX4 29 4 4 := ⟨(RX4, TX4, 16), rfl, by decide, (tq_1 (w := Cond.fieldLink RX4 29 "DuskStones" "draft" "LDuskStones$Land;") (tw_fieldLink 211 (by decide +kernel)) rfl), rfl⟩
theorem fl_RX4_35 : FL RX4 35 4 5 := ⟨(RX4, TX4, 16), rfl, by decide, (tq_1 (w := Cond.fieldLink RX4 35 "DuskStones" "present" "LDuskStones$Moment;") (tw_fieldLink 212 (by decide +kernel)) rfl), rfl⟩
theorem fl_RX4_39 : FL RX4 39 4 6 := ⟨(RX4, TX4, 16), rfl, by decide, (tq_1 (w := Cond.fieldLink RX4 39 "DuskStones" "trial" "LDuskStones$Moment;") (tw_fieldLink 213 (by decide +kernel)) rfl), rfl⟩
theorem fl_RX4_42 : FL RX4 42 4 7 := ⟨(RX4, TX4, 16), rfl, by decide, (tq_1 (w := Cond.fieldLink RX4 42 "DuskStones" "past" "[LDuskStones$Moment;") (tw_fieldLink 214 (by decide +kernel)) rfl), rfl⟩
theorem fl_RX4_46 : FL RX4 46 4 9 := ⟨(RX4, TX4, 16), rfl, by decide, (tq_1 (w := Cond.fieldLink RX4 46 "DuskStones" "images" "[LDuskStones$Moment;") (tw_fieldLink 216 (by decide +kernel)) rfl), rfl⟩
theorem fl_RX4_49 : FL RX4 49 4 10 := ⟨(RX4, TX4, 16), rfl, by decide, (tq_1 (w := Cond.fieldLink RX4 49 "DuskStones" "kept" "[Z") (tw_fieldLink 217 (by decide +kernel)) rfl), rfl⟩
theorem fl_RX4_53 : FL RX4 53 4 11 := ⟨(RX4, TX4, 16), rfl, by decide, (tq_1 (w := Cond.fieldLink RX4 53 "DuskStones" "seenHill" "[I") (tw_fieldLink 218 (by decide +kernel)) rfl), rfl⟩
theorem fl_RX4_57 : FL RX4 57 4 12 := ⟨(RX4, TX4, 16), rfl, by decide, (tq_1 (w := Cond.fieldLink RX4 57 "DuskStones" "seenStep" "[I") (tw_fieldLink 219 (by decide +kernel)) rfl), rfl⟩
theorem fl_RX4_63 : FL RX4 63 4 14 := ⟨(RX4, TX4, 16), rfl, by decide, (tq_1 (w := Cond.fieldLink RX4 63 "DuskStones" "climb" "LDuskStones$Climb;") (tw_fieldLink 221 (by decide +kernel)) rfl), rfl⟩
theorem fl_RX4_71 : FL RX4 71 4 1 := ⟨(RX4, TX4, 16), rfl, by decide, (tq_1 (w := Cond.fieldLink RX4 71 "DuskStones" "letters" "I") (tw_fieldLink 208 (by decide +kernel)) rfl), rfl⟩
theorem fl_RX4_79 : FL RX4 79 4 8 := ⟨(RX4, TX4, 16), rfl, by decide, (tq_1 (w := Cond.fieldLink RX4 79 "DuskStones" "pastCount" "I") (tw_fieldLink 215 (by decide +kernel)) rfl), rfl⟩
theorem fl_RX4_82 : FL RX4 82 4 13 := ⟨(RX4, TX4, 16), rfl, by decide, (tq_1 (w := Cond.fieldLink RX4 82 "DuskStones" "seenCount" "I") (tw_fieldLink 220 (by decide +kernel)) rfl), rfl⟩
theorem fl_RX4_89 : FL RX4 89 1 1 := ⟨(RX1, TX1, 15), rfl, by decide, (tq_1 (w := Cond.fieldLink RX4 89 "DuskStones$Land" "high" "[I") (tw_fieldLink 60 (by decide +kernel)) rfl), rfl⟩
theorem fl_RX4_92 : FL RX4 92 1 2 := ⟨(RX1, TX1, 15), rfl, by decide, (tq_1 (w := Cond.fieldLink RX4 92 "DuskStones$Land" "slope" "[I") (tw_fieldLink 62 (by decide +kernel)) rfl), rfl⟩
theorem fl_RX4_95 : FL RX4 95 1 3 := ⟨(RX1, TX1, 15), rfl, by decide, (tq_1 (w := Cond.fieldLink RX4 95 "DuskStones$Land" "ledges" "[I") (tw_fieldLink 65 (by decide +kernel)) rfl), rfl⟩
theorem fl_RX4_98 : FL RX4 98 1 4 := ⟨(RX1, TX1, 15), rfl, by decide, (tq_1 (w := Cond.fieldLink RX4 98 "DuskStones$Land" "size" "[I") (tw_fieldLink 67 (by decide +kernel)) rfl), rfl⟩
theorem fl_RX4_101 : FL RX4 101 2 2 := ⟨(RX2, TX2, 8), rfl, by decide, (tq_1 (w := Cond.fieldLink RX4 101 "DuskStones$Moment" "step" "[I") (tw_fieldLink 137 (by decide +kernel)) rfl), rfl⟩
theorem fl_RX4_108 : FL RX4 108 2 3 := ⟨(RX2, TX2, 8), rfl, by decide, (tq_1 (w := Cond.fieldLink RX4 108 "DuskStones$Moment" "rolled" "[I") (tw_fieldLink 139 (by decide +kernel)) rfl), rfl⟩
theorem fl_RX4_118 : FL RX4 118 1 10 := ⟨(RX1, TX1, 15), rfl, by decide, (tq_1 (w := Cond.fieldLink RX4 118 "DuskStones$Land" "force" "[I") (tw_fieldLink 81 (by decide +kernel)) rfl), rfl⟩
theorem fl_RX4_121 : FL RX4 121 2 4 := ⟨(RX2, TX2, 8), rfl, by decide, (tq_1 (w := Cond.fieldLink RX4 121 "DuskStones$Moment" "strength" "[I") (tw_fieldLink 142 (by decide +kernel)) rfl), rfl⟩
theorem fl_RX4_124 : FL RX4 124 2 5 := ⟨(RX2, TX2, 8), rfl, by decide, (tq_1 (w := Cond.fieldLink RX4 124 "DuskStones$Moment" "order" "[I") (tw_fieldLink 144 (by decide +kernel)) rfl), rfl⟩
theorem fl_RX4_127 : FL RX4 127 2 0 := ⟨(RX2, TX2, 8), rfl, by decide, (tq_1 (w := Cond.fieldLink RX4 127 "DuskStones$Moment" "day" "I") (tw_fieldLink 133 (by decide +kernel)) rfl), rfl⟩
theorem fl_RX4_130 : FL RX4 130 2 1 := ⟨(RX2, TX2, 8), rfl, by decide, (tq_1 (w := Cond.fieldLink RX4 130 "DuskStones$Moment" "hour" "I") (tw_fieldLink 135 (by decide +kernel)) rfl), rfl⟩
theorem fl_RX4_137 : FL RX4 137 2 7 := ⟨(RX2, TX2, 8), rfl, by decide, (tq_1 (w := Cond.fieldLink RX4 137 "DuskStones$Moment" "evenings" "I") (tw_fieldLink 147 (by decide +kernel)) rfl), rfl⟩
theorem fl_RX4_146 : FL RX4 146 1 11 := ⟨(RX1, TX1, 15), rfl, by decide, (tq_1 (w := Cond.fieldLink RX4 146 "DuskStones$Land" "hours" "I") (tw_fieldLink 87 (by decide +kernel)) rfl), rfl⟩
theorem fl_RX4_170 : FL RX4 170 0 3 := ⟨(RX0, TX0, 7), rfl, by decide, (tq_1 (w := Cond.fieldLink RX4 170 "DuskStones$Climb" "best" "I") (tw_fieldLink 179 (by decide +kernel)) rfl), rfl⟩
theorem fl_RX4_173 : FL RX4 173 0 2 := ⟨(RX0, TX0, 7), rfl, by decide, (tq_1 (w := Cond.fieldLink RX4 173 "DuskStones$Climb" "bestRow" "[I") (tw_fieldLink 177 (by decide +kernel)) rfl), rfl⟩
theorem fl_RX4_198 : FL RX4 198 1 9 := ⟨(RX1, TX1, 15), rfl, by decide, (tq_1 (w := Cond.fieldLink RX4 198 "DuskStones$Land" "men" "I") (tw_fieldLink 79 (by decide +kernel)) rfl), rfl⟩
theorem fl_RX4_242 : FL RX4 242 1 0 := ⟨(RX1, TX1, 15), rfl, by decide, (tq_1 (w := Cond.fieldLink RX4 242 "DuskStones$Land" "hills" "I") (tw_fieldLink 57 (by decide +kernel)) rfl), rfl⟩
theorem fl_RX4_245 : FL RX4 245 1 5 := ⟨(RX1, TX1, 15), rfl, by decide, (tq_1 (w := Cond.fieldLink RX4 245 "DuskStones$Land" "joins" "I") (tw_fieldLink 71 (by decide +kernel)) rfl), rfl⟩
theorem fl_RX4_248 : FL RX4 248 1 12 := ⟨(RX1, TX1, 15), rfl, by decide, (tq_1 (w := Cond.fieldLink RX4 248 "DuskStones$Land" "rain" "I") (tw_fieldLink 90 (by decide +kernel)) rfl), rfl⟩
theorem fl_RX4_251 : FL RX4 251 4 15 := ⟨(RX4, TX4, 16), rfl, by decide, (tq_1 (w := Cond.fieldLink RX4 251 "DuskStones" "traceSum" "J") (tw_fieldLink 222 (by decide +kernel)) rfl), rfl⟩
theorem fl_RX0_11 : FL RX0 11 0 0 := ⟨(RX0, TX0, 7), rfl, by decide, (tq_1 (w := Cond.fieldLink RX0 11 "DuskStones$Climb" "strength" "[[I") (tw_fieldLink 174 (by decide +kernel)) rfl), rfl⟩
theorem fl_RX0_16 : FL RX0 16 0 1 := ⟨(RX0, TX0, 7), rfl, by decide, (tq_1 (w := Cond.fieldLink RX0 16 "DuskStones$Climb" "row" "[I") (tw_fieldLink 175 (by decide +kernel)) rfl), rfl⟩
theorem fl_RX0_20 : FL RX0 20 0 2 := ⟨(RX0, TX0, 7), rfl, by decide, (tq_1 (w := Cond.fieldLink RX0 20 "DuskStones$Climb" "bestRow" "[I") (tw_fieldLink 176 (by decide +kernel)) rfl), rfl⟩
theorem fl_RX0_29 : FL RX0 29 0 4 := ⟨(RX0, TX0, 7), rfl, by decide, (tq_1 (w := Cond.fieldLink RX0 29 "DuskStones$Climb" "need" "I") (tw_fieldLink 180 (by decide +kernel)) rfl), rfl⟩
theorem fl_RX0_43 : FL RX0 43 0 5 := ⟨(RX0, TX0, 7), rfl, by decide, (tq_1 (w := Cond.fieldLink RX0 43 "DuskStones$Climb" "hours" "I") (tw_fieldLink 181 (by decide +kernel)) rfl), rfl⟩
theorem fl_RX0_49 : FL RX0 49 0 6 := ⟨(RX0, TX0, 7), rfl, by decide, (tq_1 (w := Cond.fieldLink RX0 49 "DuskStones$Climb" "free" "I") (tw_fieldLink 182 (by decide +kernel)) rfl), rfl⟩
theorem fl_RX0_52 : FL RX0 52 2 4 := ⟨(RX2, TX2, 8), rfl, by decide, (tq_1 (w := Cond.fieldLink RX0 52 "DuskStones$Moment" "strength" "[I") (tw_fieldLink 141 (by decide +kernel)) rfl), rfl⟩
theorem fl_RX0_68 : FL RX0 68 0 3 := ⟨(RX0, TX0, 7), rfl, by decide, (tq_1 (w := Cond.fieldLink RX0 68 "DuskStones$Climb" "best" "I") (tw_fieldLink 178 (by decide +kernel)) rfl), rfl⟩
theorem fl_RX0_71 : FL RX0 71 1 9 := ⟨(RX1, TX1, 15), rfl, by decide, (tq_1 (w := Cond.fieldLink RX0 71 "DuskStones$Land" "men" "I") (tw_fieldLink 76 (by decide +kernel)) rfl), rfl⟩
theorem fl_RX0_90 : FL RX0 90 1 10 := ⟨(RX1, TX1, 15), rfl, by decide, (tq_1 (w := Cond.fieldLink RX0 90 "DuskStones$Land" "force" "[I") (tw_fieldLink 82 (by decide +kernel)) rfl), rfl⟩
theorem fl_RX1_9 : FL RX1 9 1 1 := ⟨(RX1, TX1, 15), rfl, by decide, (tq_1 (w := Cond.fieldLink RX1 9 "DuskStones$Land" "high" "[I") (tw_fieldLink 58 (by decide +kernel)) rfl), rfl⟩
theorem fl_RX1_15 : FL RX1 15 1 2 := ⟨(RX1, TX1, 15), rfl, by decide, (tq_1 (w := Cond.fieldLink RX1 15 "DuskStones$Land" "slope" "[I") (tw_fieldLink 61 (by decide +kernel)) rfl), rfl⟩
theorem fl_RX1_18 : FL RX1 18 1 3 := ⟨(RX1, TX1, 15), rfl, by decide, (tq_1 (w := Cond.fieldLink RX1 18 "DuskStones$Land" "ledges" "[I") (tw_fieldLink 64 (by decide +kernel)) rfl), rfl⟩
theorem fl_RX1_21 : FL RX1 21 1 4 := ⟨(RX1, TX1, 15), rfl, by decide, (tq_1 (w := Cond.fieldLink RX1 21 "DuskStones$Land" "size" "[I") (tw_fieldLink 66 (by decide +kernel)) rfl), rfl⟩
theorem fl_RX1_24 : FL RX1 24 1 6 := ⟨(RX1, TX1, 15), rfl, by decide, (tq_1 (w := Cond.fieldLink RX1 24 "DuskStones$Land" "joinA" "[I") (tw_fieldLink 72 (by decide +kernel)) rfl), rfl⟩
theorem fl_RX1_27 : FL RX1 27 1 7 := ⟨(RX1, TX1, 15), rfl, by decide, (tq_1 (w := Cond.fieldLink RX1 27 "DuskStones$Land" "joinB" "[I") (tw_fieldLink 73 (by decide +kernel)) rfl), rfl⟩
theorem fl_RX1_30 : FL RX1 30 1 8 := ⟨(RX1, TX1, 15), rfl, by decide, (tq_1 (w := Cond.fieldLink RX1 30 "DuskStones$Land" "joinFrom" "[I") (tw_fieldLink 74 (by decide +kernel)) rfl), rfl⟩
theorem fl_RX1_33 : FL RX1 33 1 10 := ⟨(RX1, TX1, 15), rfl, by decide, (tq_1 (w := Cond.fieldLink RX1 33 "DuskStones$Land" "force" "[I") (tw_fieldLink 80 (by decide +kernel)) rfl), rfl⟩
theorem fl_RX1_40 : FL RX1 40 1 0 := ⟨(RX1, TX1, 15), rfl, by decide, (tq_1 (w := Cond.fieldLink RX1 40 "DuskStones$Land" "hills" "I") (tw_fieldLink 54 (by decide +kernel)) rfl), rfl⟩
theorem fl_RX1_43 : FL RX1 43 1 5 := ⟨(RX1, TX1, 15), rfl, by decide, (tq_1 (w := Cond.fieldLink RX1 43 "DuskStones$Land" "joins" "I") (tw_fieldLink 69 (by decide +kernel)) rfl), rfl⟩
theorem fl_RX1_46 : FL RX1 46 1 9 := ⟨(RX1, TX1, 15), rfl, by decide, (tq_1 (w := Cond.fieldLink RX1 46 "DuskStones$Land" "men" "I") (tw_fieldLink 75 (by decide +kernel)) rfl), rfl⟩
theorem fl_RX1_49 : FL RX1 49 1 12 := ⟨(RX1, TX1, 15), rfl, by decide, (tq_1 (w := Cond.fieldLink RX1 49 "DuskStones$Land" "rain" "I") (tw_fieldLink 88 (by decide +kernel)) rfl), rfl⟩
theorem fl_RX2_9 : FL RX2 9 2 2 := ⟨(RX2, TX2, 8), rfl, by decide, (tq_1 (w := Cond.fieldLink RX2 9 "DuskStones$Moment" "step" "[I") (tw_fieldLink 136 (by decide +kernel)) rfl), rfl⟩
theorem fl_RX2_15 : FL RX2 15 2 3 := ⟨(RX2, TX2, 8), rfl, by decide, (tq_1 (w := Cond.fieldLink RX2 15 "DuskStones$Moment" "rolled" "[I") (tw_fieldLink 138 (by decide +kernel)) rfl), rfl⟩
theorem fl_RX2_18 : FL RX2 18 2 4 := ⟨(RX2, TX2, 8), rfl, by decide, (tq_1 (w := Cond.fieldLink RX2 18 "DuskStones$Moment" "strength" "[I") (tw_fieldLink 140 (by decide +kernel)) rfl), rfl⟩
theorem fl_RX2_21 : FL RX2 21 2 5 := ⟨(RX2, TX2, 8), rfl, by decide, (tq_1 (w := Cond.fieldLink RX2 21 "DuskStones$Moment" "order" "[I") (tw_fieldLink 143 (by decide +kernel)) rfl), rfl⟩
theorem fl_RX2_24 : FL RX2 24 2 6 := ⟨(RX2, TX2, 8), rfl, by decide, (tq_1 (w := Cond.fieldLink RX2 24 "DuskStones$Moment" "evening" "[I") (tw_fieldLink 145 (by decide +kernel)) rfl), rfl⟩
theorem fl_RX2_27 : FL RX2 27 2 0 := ⟨(RX2, TX2, 8), rfl, by decide, (tq_1 (w := Cond.fieldLink RX2 27 "DuskStones$Moment" "day" "I") (tw_fieldLink 132 (by decide +kernel)) rfl), rfl⟩
theorem fl_RX2_31 : FL RX2 31 2 1 := ⟨(RX2, TX2, 8), rfl, by decide, (tq_1 (w := Cond.fieldLink RX2 31 "DuskStones$Moment" "hour" "I") (tw_fieldLink 134 (by decide +kernel)) rfl), rfl⟩
theorem fl_RX2_34 : FL RX2 34 2 7 := ⟨(RX2, TX2, 8), rfl, by decide, (tq_1 (w := Cond.fieldLink RX2 34 "DuskStones$Moment" "evenings" "I") (tw_fieldLink 146 (by decide +kernel)) rfl), rfl⟩
theorem fl_RX2_47 : FL RX2 47 1 1 := ⟨(RX1, TX1, 15), rfl, by decide, (tq_1 (w := Cond.fieldLink RX2 47 "DuskStones$Land" "high" "[I") (tw_fieldLink 59 (by decide +kernel)) rfl), rfl⟩
theorem fl_RX2_52 : FL RX2 52 1 0 := ⟨(RX1, TX1, 15), rfl, by decide, (tq_1 (w := Cond.fieldLink RX2 52 "DuskStones$Land" "hills" "I") (tw_fieldLink 56 (by decide +kernel)) rfl), rfl⟩
theorem fl_RX2_59 : FL RX2 59 1 4 := ⟨(RX1, TX1, 15), rfl, by decide, (tq_1 (w := Cond.fieldLink RX2 59 "DuskStones$Land" "size" "[I") (tw_fieldLink 68 (by decide +kernel)) rfl), rfl⟩
theorem fl_RX2_72 : FL RX2 72 1 2 := ⟨(RX1, TX1, 15), rfl, by decide, (tq_1 (w := Cond.fieldLink RX2 72 "DuskStones$Land" "slope" "[I") (tw_fieldLink 63 (by decide +kernel)) rfl), rfl⟩
theorem fl_RX2_75 : FL RX2 75 1 11 := ⟨(RX1, TX1, 15), rfl, by decide, (tq_1 (w := Cond.fieldLink RX2 75 "DuskStones$Land" "hours" "I") (tw_fieldLink 85 (by decide +kernel)) rfl), rfl⟩
theorem fl_RX2_78 : FL RX2 78 1 9 := ⟨(RX1, TX1, 15), rfl, by decide, (tq_1 (w := Cond.fieldLink RX2 78 "DuskStones$Land" "men" "I") (tw_fieldLink 78 (by decide +kernel)) rfl), rfl⟩
theorem fl_RX2_100 : FL RX2 100 1 10 := ⟨(RX1, TX1, 15), rfl, by decide, (tq_1 (w := Cond.fieldLink RX2 100 "DuskStones$Land" "force" "[I") (tw_fieldLink 83 (by decide +kernel)) rfl), rfl⟩
theorem fl_RX3_11 : FL RX3 11 3 1 := ⟨(RX3, TX3, 7), rfl, by decide, (tq_1 (w := Cond.fieldLink RX3 11 "DuskStones$Reader" "numbers" "[I") (tw_fieldLink 25 (by decide +kernel)) rfl), rfl⟩
theorem fl_RX3_15 : FL RX3 15 3 0 := ⟨(RX3, TX3, 7), rfl, by decide, (tq_1 (w := Cond.fieldLink RX3 15 "DuskStones$Reader" "text" "[C") (tw_fieldLink 24 (by decide +kernel)) rfl), rfl⟩
theorem fl_RX3_25 : FL RX3 25 3 2 := ⟨(RX3, TX3, 7), rfl, by decide, (tq_1 (w := Cond.fieldLink RX3 25 "DuskStones$Reader" "length" "I") (tw_fieldLink 26 (by decide +kernel)) rfl), rfl⟩
theorem fl_RX3_29 : FL RX3 29 3 3 := ⟨(RX3, TX3, 7), rfl, by decide, (tq_1 (w := Cond.fieldLink RX3 29 "DuskStones$Reader" "next" "I") (tw_fieldLink 27 (by decide +kernel)) rfl), rfl⟩
theorem fl_RX3_40 : FL RX3 40 3 5 := ⟨(RX3, TX3, 7), rfl, by decide, (tq_1 (w := Cond.fieldLink RX3 40 "DuskStones$Reader" "token" "I") (tw_fieldLink 29 (by decide +kernel)) rfl), rfl⟩
theorem fl_RX3_47 : FL RX3 47 3 4 := ⟨(RX3, TX3, 7), rfl, by decide, (tq_1 (w := Cond.fieldLink RX3 47 "DuskStones$Reader" "place" "I") (tw_fieldLink 28 (by decide +kernel)) rfl), rfl⟩
theorem fl_RX3_62 : FL RX3 62 3 6 := ⟨(RX3, TX3, 7), rfl, by decide, (tq_1 (w := Cond.fieldLink RX3 62 "DuskStones$Reader" "value" "I") (tw_fieldLink 30 (by decide +kernel)) rfl), rfl⟩
theorem fl_RX3_69 : FL RX3 69 1 0 := ⟨(RX1, TX1, 15), rfl, by decide, (tq_1 (w := Cond.fieldLink RX3 69 "DuskStones$Land" "hills" "I") (tw_fieldLink 55 (by decide +kernel)) rfl), rfl⟩
theorem fl_RX3_72 : FL RX3 72 1 5 := ⟨(RX1, TX1, 15), rfl, by decide, (tq_1 (w := Cond.fieldLink RX3 72 "DuskStones$Land" "joins" "I") (tw_fieldLink 70 (by decide +kernel)) rfl), rfl⟩
theorem fl_RX3_75 : FL RX3 75 1 9 := ⟨(RX1, TX1, 15), rfl, by decide, (tq_1 (w := Cond.fieldLink RX3 75 "DuskStones$Land" "men" "I") (tw_fieldLink 77 (by decide +kernel)) rfl), rfl⟩
theorem fl_RX3_78 : FL RX3 78 1 13 := ⟨(RX1, TX1, 15), rfl, by decide, (tq_1 (w := Cond.fieldLink RX3 78 "DuskStones$Land" "hoursTold" "Z") (tw_fieldLink 92 (by decide +kernel)) rfl), rfl⟩
theorem fl_RX3_82 : FL RX3 82 1 14 := ⟨(RX1, TX1, 15), rfl, by decide, (tq_1 (w := Cond.fieldLink RX3 82 "DuskStones$Land" "rainTold" "Z") (tw_fieldLink 94 (by decide +kernel)) rfl), rfl⟩
theorem fl_RX5_7 : FL RX5 7 5 0 := ⟨(RX5, TX5, 33), rfl, by decide, (tq_3 (w := Cond.fieldLink RX5 7 "DuskStonesModel" "w" "[I") (tw_fieldLink 136 (by decide +kernel)) rfl), rfl⟩
theorem fl_RX5_13 : FL RX5 13 5 1 := ⟨(RX5, TX5, 33), rfl, by decide, (tq_3 (w := Cond.fieldLink RX5 13 "DuskStonesModel" "isKept" "[Z") (tw_fieldLink 137 (by decide +kernel)) rfl), rfl⟩
theorem fl_RX5_17 : FL RX5 17 5 2 := ⟨(RX5, TX5, 33), rfl, by decide, (tq_3 (w := Cond.fieldLink RX5 17 "DuskStonesModel" "high" "[I") (tw_fieldLink 138 (by decide +kernel)) rfl), rfl⟩
theorem fl_RX5_20 : FL RX5 20 5 3 := ⟨(RX5, TX5, 33), rfl, by decide, (tq_3 (w := Cond.fieldLink RX5 20 "DuskStonesModel" "slope" "[I") (tw_fieldLink 139 (by decide +kernel)) rfl), rfl⟩
theorem fl_RX5_23 : FL RX5 23 5 4 := ⟨(RX5, TX5, 33), rfl, by decide, (tq_3 (w := Cond.fieldLink RX5 23 "DuskStonesModel" "ledges" "[I") (tw_fieldLink 140 (by decide +kernel)) rfl), rfl⟩
theorem fl_RX5_26 : FL RX5 26 5 5 := ⟨(RX5, TX5, 33), rfl, by decide, (tq_3 (w := Cond.fieldLink RX5 26 "DuskStonesModel" "size" "[I") (tw_fieldLink 141 (by decide +kernel)) rfl), rfl⟩
theorem fl_RX5_29 : FL RX5 29 5 6 := ⟨(RX5, TX5, 33), rfl, by decide, (tq_3 (w := Cond.fieldLink RX5 29 "DuskStonesModel" "joinOne" "[I") (tw_fieldLink 142 (by decide +kernel)) rfl), rfl⟩
theorem fl_RX5_32 : FL RX5 32 5 7 := ⟨(RX5, TX5, 33), rfl, by decide, (tq_3 (w := Cond.fieldLink RX5 32 "DuskStonesModel" "joinTwo" "[I") (tw_fieldLink 143 (by decide +kernel)) rfl), rfl⟩
theorem fl_RX5_35 : FL RX5 35 5 8 := ⟨(RX5, TX5, 33), rfl, by decide, (tq_3 (w := Cond.fieldLink RX5 35 "DuskStonesModel" "joinFrom" "[I") (tw_fieldLink 144 (by decide +kernel)) rfl), rfl⟩
theorem fl_RX5_38 : FL RX5 38 5 9 := ⟨(RX5, TX5, 33), rfl, by decide, (tq_3 (w := Cond.fieldLink RX5 38 "DuskStonesModel" "force" "[I") (tw_fieldLink 145 (by decide +kernel)) rfl), rfl⟩
theorem fl_RX5_41 : FL RX5 41 5 21 := ⟨(RX5, TX5, 33), rfl, by decide, (tq_3 (w := Cond.fieldLink RX5 41 "DuskStonesModel" "text" "[I") (tw_fieldLink 157 (by decide +kernel)) rfl), rfl⟩
theorem fl_RX5_44 : FL RX5 44 5 29 := ⟨(RX5, TX5, 33), rfl, by decide, (tq_3 (w := Cond.fieldLink RX5 44 "DuskStonesModel" "sightHill" "[I") (tw_fieldLink 165 (by decide +kernel)) rfl), rfl⟩
theorem fl_RX5_47 : FL RX5 47 5 30 := ⟨(RX5, TX5, 33), rfl, by decide, (tq_3 (w := Cond.fieldLink RX5 47 "DuskStonesModel" "sightStep" "[I") (tw_fieldLink 166 (by decide +kernel)) rfl), rfl⟩
theorem fl_RX5_50 : FL RX5 50 5 13 := ⟨(RX5, TX5, 33), rfl, by decide, (tq_3 (w := Cond.fieldLink RX5 50 "DuskStonesModel" "hours" "I") (tw_fieldLink 149 (by decide +kernel)) rfl), rfl⟩
theorem fl_RX5_63 : FL RX5 63 5 22 := ⟨(RX5, TX5, 33), rfl, by decide, (tq_3 (w := Cond.fieldLink RX5 63 "DuskStonesModel" "textSize" "I") (tw_fieldLink 158 (by decide +kernel)) rfl), rfl⟩
theorem fl_RX5_70 : FL RX5 70 5 23 := ⟨(RX5, TX5, 33), rfl, by decide, (tq_3 (w := Cond.fieldLink RX5 70 "DuskStonesModel" "at" "I") (tw_fieldLink 159 (by decide +kernel)) rfl), rfl⟩
theorem fl_RX5_73 : FL RX5 73 5 24 := ⟨(RX5, TX5, 33), rfl, by decide, (tq_3 (w := Cond.fieldLink RX5 73 "DuskStonesModel" "first" "I") (tw_fieldLink 160 (by decide +kernel)) rfl), rfl⟩
theorem fl_RX5_76 : FL RX5 76 5 25 := ⟨(RX5, TX5, 33), rfl, by decide, (tq_3 (w := Cond.fieldLink RX5 76 "DuskStonesModel" "kind" "I") (tw_fieldLink 161 (by decide +kernel)) rfl), rfl⟩
theorem fl_RX5_83 : FL RX5 83 5 26 := ⟨(RX5, TX5, 33), rfl, by decide, (tq_3 (w := Cond.fieldLink RX5 83 "DuskStonesModel" "number" "I") (tw_fieldLink 162 (by decide +kernel)) rfl), rfl⟩
theorem fl_RX5_86 : FL RX5 86 5 27 := ⟨(RX5, TX5, 33), rfl, by decide, (tq_3 (w := Cond.fieldLink RX5 86 "DuskStonesModel" "faultAt" "I") (tw_fieldLink 163 (by decide +kernel)) rfl), rfl⟩
theorem fl_RX5_96 : FL RX5 96 5 15 := ⟨(RX5, TX5, 33), rfl, by decide, (tq_3 (w := Cond.fieldLink RX5 96 "DuskStonesModel" "newHills" "I") (tw_fieldLink 151 (by decide +kernel)) rfl), rfl⟩
theorem fl_RX5_103 : FL RX5 103 5 16 := ⟨(RX5, TX5, 33), rfl, by decide, (tq_3 (w := Cond.fieldLink RX5 103 "DuskStonesModel" "newJoins" "I") (tw_fieldLink 152 (by decide +kernel)) rfl), rfl⟩
theorem fl_RX5_112 : FL RX5 112 5 17 := ⟨(RX5, TX5, 33), rfl, by decide, (tq_3 (w := Cond.fieldLink RX5 112 "DuskStonesModel" "newMen" "I") (tw_fieldLink 153 (by decide +kernel)) rfl), rfl⟩
theorem fl_RX5_115 : FL RX5 115 5 20 := ⟨(RX5, TX5, 33), rfl, by decide, (tq_3 (w := Cond.fieldLink RX5 115 "DuskStonesModel" "told" "I") (tw_fieldLink 156 (by decide +kernel)) rfl), rfl⟩
theorem fl_RX5_122 : FL RX5 122 5 18 := ⟨(RX5, TX5, 33), rfl, by decide, (tq_3 (w := Cond.fieldLink RX5 122 "DuskStonesModel" "newHours" "I") (tw_fieldLink 154 (by decide +kernel)) rfl), rfl⟩
theorem fl_RX5_125 : FL RX5 125 5 19 := ⟨(RX5, TX5, 33), rfl, by decide, (tq_3 (w := Cond.fieldLink RX5 125 "DuskStonesModel" "newRain" "I") (tw_fieldLink 155 (by decide +kernel)) rfl), rfl⟩
theorem fl_RX5_131 : FL RX5 131 5 10 := ⟨(RX5, TX5, 33), rfl, by decide, (tq_3 (w := Cond.fieldLink RX5 131 "DuskStonesModel" "hills" "I") (tw_fieldLink 146 (by decide +kernel)) rfl), rfl⟩
theorem fl_RX5_134 : FL RX5 134 5 11 := ⟨(RX5, TX5, 33), rfl, by decide, (tq_3 (w := Cond.fieldLink RX5 134 "DuskStonesModel" "joins" "I") (tw_fieldLink 147 (by decide +kernel)) rfl), rfl⟩
theorem fl_RX5_137 : FL RX5 137 5 12 := ⟨(RX5, TX5, 33), rfl, by decide, (tq_3 (w := Cond.fieldLink RX5 137 "DuskStonesModel" "men" "I") (tw_fieldLink 148 (by decide +kernel)) rfl), rfl⟩
theorem fl_RX5_140 : FL RX5 140 5 14 := ⟨(RX5, TX5, 33), rfl, by decide, (tq_3 (w := Cond.fieldLink RX5 140 "DuskStonesModel" "rain" "I") (tw_fieldLink 150 (by decide +kernel)) rfl), rfl⟩
theorem fl_RX5_143 : FL RX5 143 5 31 := ⟨(RX5, TX5, 33), rfl, by decide, (tq_3 (w := Cond.fieldLink RX5 143 "DuskStonesModel" "sightMany" "I") (tw_fieldLink 167 (by decide +kernel)) rfl), rfl⟩
theorem fl_RX5_146 : FL RX5 146 5 28 := ⟨(RX5, TX5, 33), rfl, by decide, (tq_3 (w := Cond.fieldLink RX5 146 "DuskStonesModel" "undoMany" "I") (tw_fieldLink 164 (by decide +kernel)) rfl), rfl⟩
theorem fl_RX5_234 : FL RX5 234 5 32 := ⟨(RX5, TX5, 33), rfl, by decide, (tq_3 (w := Cond.fieldLink RX5 234 "DuskStonesModel" "trace" "J") (tw_fieldLink 168 (by decide +kernel)) rfl), rfl⟩
theorem gs_RX4_255 : Cond.fieldLink RX4 255 "DuskStones" "KIND_TRACE" "[I" ∈ tb := (tq_3 (w := Cond.fieldLink RX4 255 "DuskStones" "KIND_TRACE" "[I") (tw_fieldLink 102 (by decide +kernel)) rfl)
theorem gs_RX4_258 : Cond.fieldLink RX4 258 "DuskStones" "KIND_ABOVE" "[I" ∈ tb := (tq_3 (w := Cond.fieldLink RX4 258 "DuskStones" "KIND_ABOVE" "[I") (tw_fieldLink 104 (by decide +kernel)) rfl)
theorem gs_RX3_85 : Cond.fieldLink RX3 85 "DuskStones$Reader" "HILL_LEAST" "[I" ∈ tb := (tq_2 (w := Cond.fieldLink RX3 85 "DuskStones$Reader" "HILL_LEAST" "[I") (tw_fieldLink 67 (by decide +kernel)) rfl)
theorem gs_RX3_88 : Cond.fieldLink RX3 88 "DuskStones$Reader" "HILL_MOST" "[I" ∈ tb := (tq_2 (w := Cond.fieldLink RX3 88 "DuskStones$Reader" "HILL_MOST" "[I") (tw_fieldLink 69 (by decide +kernel)) rfl)
theorem lk_RX4_1 : Cond.methodLink RX4 1 objectInit ∈ tb ∧ Cond.instanceMethod objectInit ∈ tb ∧ Cond.code objectInit ⟨#[0xb1]⟩ 1 none ∈ tb := ⟨(tq_1 (w := Cond.methodLink RX4 1 objectInit) (tw_methodLink 15 (by decide +kernel)) rfl), (tq_1 (w := Cond.instanceMethod objectInit) (tw_instanceMethod 16 (by decide +kernel)) rfl), (tq_1 (w := Cond.code objectInit ⟨#[0xb1]⟩ 1 none) (tw_d 17 (by decide +kernel)) rfl)⟩
theorem tz_0 : Cond.initialized RX3 ∈ tb := (tq_1 (w := Cond.initialized RX3) (tw_d 2 (by decide +kernel)) rfl)
theorem tz_1 : Cond.code yX3_init cX3_init 2 none ∈ tb := (tq_1 (w := Cond.code yX3_init cX3_init 2 none) (tw_d 22 (by decide +kernel)) rfl)
theorem lk_RX4_15 : LkI RX4 15 mX3_init 1 := ⟨Or.inl (tq_1 (w := Cond.methodLink RX4 15 yX3_init) (tw_methodLink 20 (by decide +kernel)) rfl), (tq_1 (w := Cond.instanceMethod yX3_init) (tw_instanceMethod 21 (by decide +kernel)) rfl), tz_0, tz_1, rfl, rfl, ⟨by decide +kernel, by decide +kernel, by decide +kernel, by decide +kernel⟩, by decide⟩
theorem tz_2 : Cond.initialized RX1 ∈ tb := (tq_1 (w := Cond.initialized RX1) (tw_d 3 (by decide +kernel)) rfl)
theorem tz_3 : Cond.code yX1_init cX1_init 1 none ∈ tb := (tq_1 (w := Cond.code yX1_init cX1_init 1 none) (tw_d 52 (by decide +kernel)) rfl)
theorem lk_RX4_24 : LkI RX4 24 mX1_init 0 := ⟨Or.inr ⟨rfl, by decide⟩, (tq_1 (w := Cond.instanceMethod yX1_init) (tw_instanceMethod 51 (by decide +kernel)) rfl), tz_2, tz_3, rfl, rfl, ⟨by decide +kernel, by decide +kernel, by decide +kernel, by decide +kernel⟩, by decide⟩
theorem tz_4 : Cond.initialized RX2 ∈ tb := (tq_1 (w := Cond.initialized RX2) (tw_d 4 (by decide +kernel)) rfl)
theorem tz_5 : Cond.code yX2_init cX2_init 1 none ∈ tb := (tq_1 (w := Cond.code yX2_init cX2_init 1 none) (tw_d 130 (by decide +kernel)) rfl)
theorem lk_RX4_34 : LkI RX4 34 mX2_init 0 := ⟨Or.inr ⟨rfl, by decide⟩, (tq_1 (w := Cond.instanceMethod yX2_init) (tw_instanceMethod 129 (by decide +kernel)) rfl), tz_4, tz_5, rfl, rfl, ⟨by decide +kernel, by decide +kernel, by decide +kernel, by decide +kernel⟩, by decide⟩
theorem tz_6 : Cond.initialized RX0 ∈ tb := (tq_1 (w := Cond.initialized RX0) (tw_d 5 (by decide +kernel)) rfl)
theorem tz_7 : Cond.code yX0_init cX0_init 1 none ∈ tb := (tq_1 (w := Cond.code yX0_init cX0_init 1 none) (tw_d 170 (by decide +kernel)) rfl)
theorem lk_RX4_62 : LkI RX4 62 mX0_init 0 := ⟨Or.inr ⟨rfl, by decide⟩, (tq_1 (w := Cond.instanceMethod yX0_init) (tw_instanceMethod 169 (by decide +kernel)) rfl), tz_6, tz_7, rfl, rfl, ⟨by decide +kernel, by decide +kernel, by decide +kernel, by decide +kernel⟩, by decide⟩
theorem lk_RX0_3 : Cond.methodLink RX0 3 objectInit ∈ tb ∧ Cond.instanceMethod objectInit ∈ tb ∧ Cond.code objectInit ⟨#[0xb1]⟩ 1 none ∈ tb := ⟨(tq_1 (w := Cond.methodLink RX0 3 objectInit) (tw_methodLink 171 (by decide +kernel)) rfl), (tq_1 (w := Cond.instanceMethod objectInit) (tw_instanceMethod 16 (by decide +kernel)) rfl), (tq_1 (w := Cond.code objectInit ⟨#[0xb1]⟩ 1 none) (tw_d 17 (by decide +kernel)) rfl)⟩
theorem lk_RX1_3 : Cond.methodLink RX1 3 objectInit ∈ tb ∧ Cond.instanceMethod objectInit ∈ tb ∧ Cond.code objectInit ⟨#[0xb1]⟩ 1 none ∈ tb := ⟨(tq_1 (w := Cond.methodLink RX1 3 objectInit) (tw_methodLink 53 (by decide +kernel)) rfl), (tq_1 (w := Cond.instanceMethod objectInit) (tw_instanceMethod 16 (by decide +kernel)) rfl), (tq_1 (w := Cond.code objectInit ⟨#[0xb1]⟩ 1 none) (tw_d 17 (by decide +kernel)) rfl)⟩
theorem lk_RX2_3 : Cond.methodLink RX2 3 objectInit ∈ tb ∧ Cond.instanceMethod objectInit ∈ tb ∧ Cond.code objectInit ⟨#[0xb1]⟩ 1 none ∈ tb := ⟨(tq_1 (w := Cond.methodLink RX2 3 objectInit) (tw_methodLink 131 (by decide +kernel)) rfl), (tq_1 (w := Cond.instanceMethod objectInit) (tw_instanceMethod 16 (by decide +kernel)) rfl), (tq_1 (w := Cond.code objectInit ⟨#[0xb1]⟩ 1 none) (tw_d 17 (by decide +kernel)) rfl)⟩
theorem lk_RX3_3 : Cond.methodLink RX3 3 objectInit ∈ tb ∧ Cond.instanceMethod objectInit ∈ tb ∧ Cond.code objectInit ⟨#[0xb1]⟩ 1 none ∈ tb := ⟨(tq_1 (w := Cond.methodLink RX3 3 objectInit) (tw_methodLink 23 (by decide +kernel)) rfl), (tq_1 (w := Cond.instanceMethod objectInit) (tw_instanceMethod 16 (by decide +kernel)) rfl), (tq_1 (w := Cond.code objectInit ⟨#[0xb1]⟩ 1 none) (tw_d 17 (by decide +kernel)) rfl)⟩
theorem tz_8 : Cond.initialized RX4 ∈ tb := (tq_1 (w := Cond.initialized RX4) (tw_d 1 (by decide +kernel)) rfl)
theorem tz_9 : Cond.code yX4_init cX4_init 2 none ∈ tb := (tq_1 (w := Cond.code yX4_init cX4_init 2 none) (tw_d 14 (by decide +kernel)) rfl)
theorem lk_RL_9 : LkI RL 9 mX4_init 0 := ⟨Or.inl (tq_1 (w := Cond.methodLink RL 9 yX4_init) (tw_methodLink 12 (by decide +kernel)) rfl), (tq_1 (w := Cond.instanceMethod yX4_init) (tw_instanceMethod 13 (by decide +kernel)) rfl), tz_8, tz_9, rfl, rfl, ⟨by decide +kernel, by decide +kernel, by decide +kernel, by decide +kernel⟩, by decide⟩
theorem tz_10 : Cond.initialized RX5 ∈ tb := (tq_1 (w := Cond.initialized RX5) (tw_d 6 (by decide +kernel)) rfl)
theorem tz_11 : Cond.code yX5_init cX5_init 1 none ∈ tb := (tq_3 (w := Cond.code yX5_init cX5_init 1 none) (tw_d 130 (by decide +kernel)) rfl)
theorem lk_RL_12 : LkI RL 12 mX5_init 0 := ⟨Or.inl (tq_3 (w := Cond.methodLink RL 12 yX5_init) (tw_methodLink 128 (by decide +kernel)) rfl), (tq_3 (w := Cond.instanceMethod yX5_init) (tw_instanceMethod 129 (by decide +kernel)) rfl), tz_10, tz_11, rfl, rfl, ⟨by decide +kernel, by decide +kernel, by decide +kernel, by decide +kernel⟩, by decide⟩
theorem lk_RX5_1 : Cond.methodLink RX5 1 objectInit ∈ tb ∧ Cond.instanceMethod objectInit ∈ tb ∧ Cond.code objectInit ⟨#[0xb1]⟩ 1 none ∈ tb := ⟨(tq_3 (w := Cond.methodLink RX5 1 objectInit) (tw_methodLink 131 (by decide +kernel)) rfl), (tq_1 (w := Cond.instanceMethod objectInit) (tw_instanceMethod 16 (by decide +kernel)) rfl), (tq_1 (w := Cond.code objectInit ⟨#[0xb1]⟩ 1 none) (tw_d 17 (by decide +kernel)) rfl)⟩
theorem lk_RX4_189 : Cond.methodLink RX4 189 Lib.Math.min.name ∈ tb ∧ Cond.static Lib.Math.min.name ∈ tb ∧ Cond.initialized "java/lang/Math" ∈ tb ∧ Cond.code Lib.Math.min.name Lib.Math.min.code 2 (some .int) ∈ tb := ⟨(tq_3 (w := Cond.methodLink RX4 189 Lib.Math.min.name) (tw_methodLink 26 (by decide +kernel)) rfl), (tq_2 (w := Cond.static Lib.Math.min.name) (tw_static 33 (by decide +kernel)) rfl), (tq_1 (w := Cond.initialized "java/lang/Math") (tw_d 7 (by decide +kernel)) rfl), (tq_2 (w := Cond.code Lib.Math.min.name Lib.Math.min.code 2 (some .int)) (tw_d 34 (by decide +kernel)) rfl)⟩
theorem tz_12 : Cond.initialized RJ6 ∈ tb := (tq_1 (w := Cond.initialized RJ6) (tw_d 9 (by decide +kernel)) rfl)
theorem tz_13 : Cond.code yJ6_bitCount_0f7a4 cJ6_bitCount_0f7a4 1 (some .int) ∈ tb := (tq_3 (w := Cond.code yJ6_bitCount_0f7a4 cJ6_bitCount_0f7a4 1 (some .int)) (tw_d 34 (by decide +kernel)) rfl)
theorem tz_14 : Cond.static yJ6_bitCount_0f7a4 ∈ tb := (tq_3 (w := Cond.static yJ6_bitCount_0f7a4) (tw_static 33 (by decide +kernel)) rfl)
theorem lk_RX4_201 : LkS RX4 201 mJ6_bitCount_0f7a4 1 := ⟨(tq_3 (w := Cond.methodLink RX4 201 yJ6_bitCount_0f7a4) (tw_methodLink 32 (by decide +kernel)) rfl), tz_14, tz_12, tz_13, ⟨by decide +kernel, by decide +kernel, by decide +kernel, by decide +kernel⟩, by decide⟩
theorem tz_15 : Cond.code yX4_rainWeight cX4_rainWeight 4 (some .long) ∈ tb := (tq_3 (w := Cond.code yX4_rainWeight cX4_rainWeight 4 (some .long)) (tw_d 78 (by decide +kernel)) rfl)
theorem tz_16 : Cond.static yX4_rainWeight ∈ tb := (tq_3 (w := Cond.static yX4_rainWeight) (tw_static 77 (by decide +kernel)) rfl)
theorem lk_RX4_222 : LkS RX4 222 mX4_rainWeight 3 := ⟨(tq_3 (w := Cond.methodLink RX4 222 yX4_rainWeight) (tw_methodLink 76 (by decide +kernel)) rfl), tz_16, tz_8, tz_15, ⟨by decide +kernel, by decide +kernel, by decide +kernel, by decide +kernel⟩, by decide⟩
theorem tz_17 : Cond.code yX4_power cX4_power 5 (some .long) ∈ tb := (tq_3 (w := Cond.code yX4_power cX4_power 5 (some .long)) (tw_d 81 (by decide +kernel)) rfl)
theorem tz_18 : Cond.static yX4_power ∈ tb := (tq_3 (w := Cond.static yX4_power) (tw_static 80 (by decide +kernel)) rfl)
theorem lk_RX4_230 : LkS RX4 230 mX4_power 2 := ⟨(tq_3 (w := Cond.methodLink RX4 230 yX4_power) (tw_methodLink 79 (by decide +kernel)) rfl), tz_18, tz_8, tz_17, ⟨by decide +kernel, by decide +kernel, by decide +kernel, by decide +kernel⟩, by decide⟩
theorem tz_19 : Cond.code yX4_commonDivisor cX4_commonDivisor 7 (some .long) ∈ tb := (tq_3 (w := Cond.code yX4_commonDivisor cX4_commonDivisor 7 (some .long)) (tw_d 88 (by decide +kernel)) rfl)
theorem tz_20 : Cond.static yX4_commonDivisor ∈ tb := (tq_3 (w := Cond.static yX4_commonDivisor) (tw_static 87 (by decide +kernel)) rfl)
theorem lk_RX4_234 : LkS RX4 234 mX4_commonDivisor 2 := ⟨(tq_3 (w := Cond.methodLink RX4 234 yX4_commonDivisor) (tw_methodLink 86 (by decide +kernel)) rfl), tz_20, tz_8, tz_19, ⟨by decide +kernel, by decide +kernel, by decide +kernel, by decide +kernel⟩, by decide⟩
theorem lk_RX0_37 : Cond.methodLink RX0 37 Lib.Math.min.name ∈ tb ∧ Cond.static Lib.Math.min.name ∈ tb ∧ Cond.initialized "java/lang/Math" ∈ tb ∧ Cond.code Lib.Math.min.name Lib.Math.min.code 2 (some .int) ∈ tb := ⟨(tq_2 (w := Cond.methodLink RX0 37 Lib.Math.min.name) (tw_methodLink 217 (by decide +kernel)) rfl), (tq_2 (w := Cond.static Lib.Math.min.name) (tw_static 33 (by decide +kernel)) rfl), (tq_1 (w := Cond.initialized "java/lang/Math") (tw_d 7 (by decide +kernel)) rfl), (tq_2 (w := Cond.code Lib.Math.min.name Lib.Math.min.code 2 (some .int)) (tw_d 34 (by decide +kernel)) rfl)⟩
theorem lk_RX0_54 : Cond.methodLink RX0 54 arraycopyName ∈ tb ∧ Cond.native arraycopyName ∈ tb ∧ Cond.static arraycopyName ∈ tb ∧ Cond.initialized "java/lang/System" ∈ tb := ⟨(tq_2 (w := Cond.methodLink RX0 54 arraycopyName) (tw_methodLink 222 (by decide +kernel)) rfl), (tq_2 (w := Cond.native arraycopyName) (tw_d 150 (by decide +kernel)) rfl), (tq_2 (w := Cond.static arraycopyName) (tw_static 149 (by decide +kernel)) rfl), (tq_1 (w := Cond.initialized "java/lang/System") (tw_d 8 (by decide +kernel)) rfl)⟩
theorem tz_21 : Cond.code yX0_isIn cX0_isIn 2 (some .boolean) ∈ tb := (tq_2 (w := Cond.code yX0_isIn cX0_isIn 2 (some .boolean)) (tw_d 237 (by decide +kernel)) rfl)
theorem tz_22 : Cond.static yX0_isIn ∈ tb := (tq_2 (w := Cond.static yX0_isIn) (tw_static 236 (by decide +kernel)) rfl)
theorem lk_RX0_83 : LkS RX0 83 mX0_isIn 2 := ⟨(tq_2 (w := Cond.methodLink RX0 83 yX0_isIn) (tw_methodLink 235 (by decide +kernel)) rfl), tz_22, tz_6, tz_21, ⟨by decide +kernel, by decide +kernel, by decide +kernel, by decide +kernel⟩, by decide⟩
theorem lk_RX0_87 : Cond.methodLink RX0 87 Lib.Math.max.name ∈ tb ∧ Cond.static Lib.Math.max.name ∈ tb ∧ Cond.initialized "java/lang/Math" ∈ tb ∧ Cond.code Lib.Math.max.name Lib.Math.max.code 2 (some .int) ∈ tb := ⟨(tq_3 (w := Cond.methodLink RX0 87 Lib.Math.max.name) (tw_methodLink 2 (by decide +kernel)) rfl), (tq_2 (w := Cond.static Lib.Math.max.name) (tw_static 113 (by decide +kernel)) rfl), (tq_1 (w := Cond.initialized "java/lang/Math") (tw_d 7 (by decide +kernel)) rfl), (tq_2 (w := Cond.code Lib.Math.max.name Lib.Math.max.code 2 (some .int)) (tw_d 114 (by decide +kernel)) rfl)⟩
theorem lk_RX2_41 : Cond.methodLink RX2 41 arraycopyName ∈ tb ∧ Cond.native arraycopyName ∈ tb ∧ Cond.static arraycopyName ∈ tb ∧ Cond.initialized "java/lang/System" ∈ tb := ⟨(tq_2 (w := Cond.methodLink RX2 41 arraycopyName) (tw_methodLink 148 (by decide +kernel)) rfl), (tq_2 (w := Cond.native arraycopyName) (tw_d 150 (by decide +kernel)) rfl), (tq_2 (w := Cond.static arraycopyName) (tw_static 149 (by decide +kernel)) rfl), (tq_1 (w := Cond.initialized "java/lang/System") (tw_d 8 (by decide +kernel)) rfl)⟩
theorem lk_RX2_62 : Cond.methodLink RX2 62 Lib.Math.max.name ∈ tb ∧ Cond.static Lib.Math.max.name ∈ tb ∧ Cond.initialized "java/lang/Math" ∈ tb ∧ Cond.code Lib.Math.max.name Lib.Math.max.code 2 (some .int) ∈ tb := ⟨(tq_2 (w := Cond.methodLink RX2 62 Lib.Math.max.name) (tw_methodLink 112 (by decide +kernel)) rfl), (tq_2 (w := Cond.static Lib.Math.max.name) (tw_static 113 (by decide +kernel)) rfl), (tq_1 (w := Cond.initialized "java/lang/Math") (tw_d 7 (by decide +kernel)) rfl), (tq_2 (w := Cond.code Lib.Math.max.name Lib.Math.max.code 2 (some .int)) (tw_d 114 (by decide +kernel)) rfl)⟩
theorem lk_RX2_103 : Cond.methodLink RX2 103 Lib.Math.min.name ∈ tb ∧ Cond.static Lib.Math.min.name ∈ tb ∧ Cond.initialized "java/lang/Math" ∈ tb ∧ Cond.code Lib.Math.min.name Lib.Math.min.code 2 (some .int) ∈ tb := ⟨(tq_2 (w := Cond.methodLink RX2 103 Lib.Math.min.name) (tw_methodLink 182 (by decide +kernel)) rfl), (tq_2 (w := Cond.static Lib.Math.min.name) (tw_static 33 (by decide +kernel)) rfl), (tq_1 (w := Cond.initialized "java/lang/Math") (tw_d 7 (by decide +kernel)) rfl), (tq_2 (w := Cond.code Lib.Math.min.name Lib.Math.min.code 2 (some .int)) (tw_d 34 (by decide +kernel)) rfl)⟩
theorem lk_RX3_19 : Cond.methodLink RX3 19 Lib.Math.min.name ∈ tb ∧ Cond.static Lib.Math.min.name ∈ tb ∧ Cond.initialized "java/lang/Math" ∈ tb ∧ Cond.code Lib.Math.min.name Lib.Math.min.code 2 (some .int) ∈ tb := ⟨(tq_2 (w := Cond.methodLink RX3 19 Lib.Math.min.name) (tw_methodLink 32 (by decide +kernel)) rfl), (tq_2 (w := Cond.static Lib.Math.min.name) (tw_static 33 (by decide +kernel)) rfl), (tq_1 (w := Cond.initialized "java/lang/Math") (tw_d 7 (by decide +kernel)) rfl), (tq_2 (w := Cond.code Lib.Math.min.name Lib.Math.min.code 2 (some .int)) (tw_d 34 (by decide +kernel)) rfl)⟩
theorem tz_23 : Cond.code yX3_canStand cX3_canStand 2 (some .boolean) ∈ tb := (tq_2 (w := Cond.code yX3_canStand cX3_canStand 2 (some .boolean)) (tw_d 59 (by decide +kernel)) rfl)
theorem tz_24 : Cond.static yX3_canStand ∈ tb := (tq_2 (w := Cond.static yX3_canStand) (tw_static 58 (by decide +kernel)) rfl)
theorem lk_RX3_50 : LkS RX3 50 mX3_canStand 2 := ⟨(tq_2 (w := Cond.methodLink RX3 50 yX3_canStand) (tw_methodLink 57 (by decide +kernel)) rfl), tz_24, tz_0, tz_23, ⟨by decide +kernel, by decide +kernel, by decide +kernel, by decide +kernel⟩, by decide⟩
theorem tz_25 : Cond.code yX3_numbersOf cX3_numbersOf 1 (some .int) ∈ tb := (tq_2 (w := Cond.code yX3_numbersOf cX3_numbersOf 1 (some .int)) (tw_d 62 (by decide +kernel)) rfl)
theorem tz_26 : Cond.static yX3_numbersOf ∈ tb := (tq_2 (w := Cond.static yX3_numbersOf) (tw_static 61 (by decide +kernel)) rfl)
theorem lk_RX3_54 : LkS RX3 54 mX3_numbersOf 1 := ⟨(tq_2 (w := Cond.methodLink RX3 54 yX3_numbersOf) (tw_methodLink 60 (by decide +kernel)) rfl), tz_26, tz_0, tz_25, ⟨by decide +kernel, by decide +kernel, by decide +kernel, by decide +kernel⟩, by decide⟩
theorem tz_27 : Cond.code yX3_isDigit cX3_isDigit 1 (some .boolean) ∈ tb := (tq_2 (w := Cond.code yX3_isDigit cX3_isDigit 1 (some .boolean)) (tw_d 45 (by decide +kernel)) rfl)
theorem tz_28 : Cond.static yX3_isDigit ∈ tb := (tq_2 (w := Cond.static yX3_isDigit) (tw_static 44 (by decide +kernel)) rfl)
theorem lk_RX3_119 : LkS RX3 119 mX3_isDigit 1 := ⟨(tq_2 (w := Cond.methodLink RX3 119 yX3_isDigit) (tw_methodLink 43 (by decide +kernel)) rfl), tz_28, tz_0, tz_27, ⟨by decide +kernel, by decide +kernel, by decide +kernel, by decide +kernel⟩, by decide⟩
theorem tz_29 : Cond.code yX3_isSign cX3_isSign 1 (some .boolean) ∈ tb := (tq_2 (w := Cond.code yX3_isSign cX3_isSign 1 (some .boolean)) (tw_d 52 (by decide +kernel)) rfl)
theorem tz_30 : Cond.static yX3_isSign ∈ tb := (tq_2 (w := Cond.static yX3_isSign) (tw_static 51 (by decide +kernel)) rfl)
theorem lk_RX3_126 : LkS RX3 126 mX3_isSign 1 := ⟨(tq_2 (w := Cond.methodLink RX3 126 yX3_isSign) (tw_methodLink 50 (by decide +kernel)) rfl), tz_30, tz_0, tz_29, ⟨by decide +kernel, by decide +kernel, by decide +kernel, by decide +kernel⟩, by decide⟩
theorem tz_31 : Cond.code yX5_in cX5_in 6 (some .boolean) ∈ tb := (tq_4 (w := Cond.code yX5_in cX5_in 6 (some .boolean)) (tw_d 3 (by decide +kernel)) rfl)
theorem tz_32 : Cond.static yX5_in ∈ tb := (tq_4 (w := Cond.static yX5_in) (tw_static 2 (by decide +kernel)) rfl)
theorem lk_RX5_59 : LkS RX5 59 mX5_in 3 := ⟨(tq_4 (w := Cond.methodLink RX5 59 yX5_in) (tw_methodLink 1 (by decide +kernel)) rfl), tz_32, tz_10, tz_31, ⟨by decide +kernel, by decide +kernel, by decide +kernel, by decide +kernel⟩, by decide⟩
theorem tz_33 : Cond.code yX5_isFigure cX5_isFigure 1 (some .boolean) ∈ tb := (tq_4 (w := Cond.code yX5_isFigure cX5_isFigure 1 (some .boolean)) (tw_d 18 (by decide +kernel)) rfl)
theorem tz_34 : Cond.static yX5_isFigure ∈ tb := (tq_4 (w := Cond.static yX5_isFigure) (tw_static 17 (by decide +kernel)) rfl)
theorem lk_RX5_79 : LkS RX5 79 mX5_isFigure 1 := ⟨(tq_4 (w := Cond.methodLink RX5 79 yX5_isFigure) (tw_methodLink 16 (by decide +kernel)) rfl), tz_34, tz_10, tz_33, ⟨by decide +kernel, by decide +kernel, by decide +kernel, by decide +kernel⟩, by decide⟩
theorem tz_35 : Cond.code yX5_has cX5_has 2 (some .boolean) ∈ tb := (tq_4 (w := Cond.code yX5_has cX5_has 2 (some .boolean)) (tw_d 43 (by decide +kernel)) rfl)
theorem tz_36 : Cond.static yX5_has ∈ tb := (tq_4 (w := Cond.static yX5_has) (tw_static 42 (by decide +kernel)) rfl)
theorem lk_RX5_118 : LkS RX5 118 mX5_has 2 := ⟨(tq_4 (w := Cond.methodLink RX5 118 yX5_has) (tw_methodLink 41 (by decide +kernel)) rfl), tz_36, tz_10, tz_35, ⟨by decide +kernel, by decide +kernel, by decide +kernel, by decide +kernel⟩, by decide⟩
theorem tz_37 : Cond.code yX5_one cX5_one 1 (some .int) ∈ tb := (tq_4 (w := Cond.code yX5_one cX5_one 1 (some .int)) (tw_d 70 (by decide +kernel)) rfl)
theorem tz_38 : Cond.static yX5_one ∈ tb := (tq_4 (w := Cond.static yX5_one) (tw_static 69 (by decide +kernel)) rfl)
theorem lk_RX5_161 : LkS RX5 161 mX5_one 1 := ⟨(tq_4 (w := Cond.methodLink RX5 161 yX5_one) (tw_methodLink 68 (by decide +kernel)) rfl), tz_38, tz_10, tz_37, ⟨by decide +kernel, by decide +kernel, by decide +kernel, by decide +kernel⟩, by decide⟩
theorem tz_39 : Cond.code yX5_ones cX5_ones 3 (some .int) ∈ tb := (tq_4 (w := Cond.code yX5_ones cX5_ones 3 (some .int)) (tw_d 173 (by decide +kernel)) rfl)
theorem tz_40 : Cond.static yX5_ones ∈ tb := (tq_4 (w := Cond.static yX5_ones) (tw_static 172 (by decide +kernel)) rfl)
theorem lk_RX5_219 : LkS RX5 219 mX5_ones 1 := ⟨(tq_4 (w := Cond.methodLink RX5 219 yX5_ones) (tw_methodLink 171 (by decide +kernel)) rfl), tz_40, tz_10, tz_39, ⟨by decide +kernel, by decide +kernel, by decide +kernel, by decide +kernel⟩, by decide⟩
theorem tz_41 : Cond.code yX5_common cX5_common 10 (some .long) ∈ tb := (tq_4 (w := Cond.code yX5_common cX5_common 10 (some .long)) (tw_d 204 (by decide +kernel)) rfl)
theorem tz_42 : Cond.static yX5_common ∈ tb := (tq_4 (w := Cond.static yX5_common) (tw_static 203 (by decide +kernel)) rfl)
theorem lk_RX5_230 : LkS RX5 230 mX5_common 2 := ⟨(tq_4 (w := Cond.methodLink RX5 230 yX5_common) (tw_methodLink 202 (by decide +kernel)) rfl), tz_42, tz_10, tz_41, ⟨by decide +kernel, by decide +kernel, by decide +kernel, by decide +kernel⟩, by decide⟩
theorem tz_43 : Cond.code yX2_begin cX2_begin 3 none ∈ tb := (tq_1 (w := Cond.code yX2_begin cX2_begin 3 none) (tw_d 202 (by decide +kernel)) rfl)
theorem tz_44 : Cond.instanceMethod yX2_begin ∈ tb := (tq_1 (w := Cond.instanceMethod yX2_begin) (tw_instanceMethod 200 (by decide +kernel)) rfl)
theorem tz_45 : Cond.selects RX2 yX2_begin yX2_begin ∈ tb := (tq_1 (w := Cond.selects RX2 yX2_begin yX2_begin) (tw_selects 201 (by decide +kernel)) rfl)
theorem lk_RX4_67 : LkV RX4 67 mX2_begin 1 := ⟨(tq_1 (w := Cond.methodLink RX4 67 yX2_begin) (tw_methodLink 199 (by decide +kernel)) rfl), tz_44, tz_45, tz_4, tz_43, ⟨by decide +kernel, by decide +kernel, by decide +kernel, by decide +kernel⟩, by decide⟩
theorem tz_46 : Cond.code yX3_readAll cX3_readAll 4 (some .int) ∈ tb := (tq_2 (w := Cond.code yX3_readAll cX3_readAll 4 (some .int)) (tw_d 31 (by decide +kernel)) rfl)
theorem tz_47 : Cond.instanceMethod yX3_readAll ∈ tb := (tq_2 (w := Cond.instanceMethod yX3_readAll) (tw_instanceMethod 29 (by decide +kernel)) rfl)
theorem tz_48 : Cond.selects RX3 yX3_readAll yX3_readAll ∈ tb := (tq_2 (w := Cond.selects RX3 yX3_readAll yX3_readAll) (tw_selects 30 (by decide +kernel)) rfl)
theorem lk_RX4_75 : LkV RX4 75 mX3_readAll 2 := ⟨(tq_2 (w := Cond.methodLink RX4 75 yX3_readAll) (tw_methodLink 28 (by decide +kernel)) rfl), tz_47, tz_48, tz_0, tz_46, ⟨by decide +kernel, by decide +kernel, by decide +kernel, by decide +kernel⟩, by decide⟩
theorem tz_49 : Cond.code yX1_hasHill cX1_hasHill 2 (some .boolean) ∈ tb := (tq_2 (w := Cond.code yX1_hasHill cX1_hasHill 2 (some .boolean)) (tw_d 82 (by decide +kernel)) rfl)
theorem tz_50 : Cond.instanceMethod yX1_hasHill ∈ tb := (tq_2 (w := Cond.instanceMethod yX1_hasHill) (tw_instanceMethod 80 (by decide +kernel)) rfl)
theorem tz_51 : Cond.selects RX1 yX1_hasHill yX1_hasHill ∈ tb := (tq_2 (w := Cond.selects RX1 yX1_hasHill yX1_hasHill) (tw_selects 81 (by decide +kernel)) rfl)
theorem lk_RX4_85 : LkV RX4 85 mX1_hasHill 1 := ⟨(tq_2 (w := Cond.methodLink RX4 85 yX1_hasHill) (tw_methodLink 103 (by decide +kernel)) rfl), tz_50, tz_51, tz_2, tz_49, ⟨by decide +kernel, by decide +kernel, by decide +kernel, by decide +kernel⟩, by decide⟩
theorem tz_52 : Cond.code yX2_sizeNow cX2_sizeNow 3 (some .int) ∈ tb := (tq_2 (w := Cond.code yX2_sizeNow cX2_sizeNow 3 (some .int)) (tw_d 111 (by decide +kernel)) rfl)
theorem tz_53 : Cond.instanceMethod yX2_sizeNow ∈ tb := (tq_2 (w := Cond.instanceMethod yX2_sizeNow) (tw_instanceMethod 109 (by decide +kernel)) rfl)
theorem tz_54 : Cond.selects RX2 yX2_sizeNow yX2_sizeNow ∈ tb := (tq_2 (w := Cond.selects RX2 yX2_sizeNow yX2_sizeNow) (tw_selects 110 (by decide +kernel)) rfl)
theorem lk_RX4_104 : LkV RX4 104 mX2_sizeNow 2 := ⟨(tq_2 (w := Cond.methodLink RX4 104 yX2_sizeNow) (tw_methodLink 108 (by decide +kernel)) rfl), tz_53, tz_54, tz_4, tz_52, ⟨by decide +kernel, by decide +kernel, by decide +kernel, by decide +kernel⟩, by decide⟩
theorem tz_55 : Cond.code yX2_isOver cX2_isOver 3 (some .boolean) ∈ tb := (tq_2 (w := Cond.code yX2_isOver cX2_isOver 3 (some .boolean)) (tw_d 118 (by decide +kernel)) rfl)
theorem tz_56 : Cond.instanceMethod yX2_isOver ∈ tb := (tq_2 (w := Cond.instanceMethod yX2_isOver) (tw_instanceMethod 116 (by decide +kernel)) rfl)
theorem tz_57 : Cond.selects RX2 yX2_isOver yX2_isOver ∈ tb := (tq_2 (w := Cond.selects RX2 yX2_isOver yX2_isOver) (tw_selects 117 (by decide +kernel)) rfl)
theorem lk_RX4_111 : LkV RX4 111 mX2_isOver 2 := ⟨(tq_2 (w := Cond.methodLink RX4 111 yX2_isOver) (tw_methodLink 115 (by decide +kernel)) rfl), tz_56, tz_57, tz_4, tz_55, ⟨by decide +kernel, by decide +kernel, by decide +kernel, by decide +kernel⟩, by decide⟩
theorem tz_58 : Cond.code yX1_hasMan cX1_hasMan 2 (some .boolean) ∈ tb := (tq_2 (w := Cond.code yX1_hasMan cX1_hasMan 2 (some .boolean)) (tw_d 126 (by decide +kernel)) rfl)
theorem tz_59 : Cond.instanceMethod yX1_hasMan ∈ tb := (tq_2 (w := Cond.instanceMethod yX1_hasMan) (tw_instanceMethod 124 (by decide +kernel)) rfl)
theorem tz_60 : Cond.selects RX1 yX1_hasMan yX1_hasMan ∈ tb := (tq_2 (w := Cond.selects RX1 yX1_hasMan yX1_hasMan) (tw_selects 125 (by decide +kernel)) rfl)
theorem lk_RX4_115 : LkV RX4 115 mX1_hasMan 1 := ⟨(tq_2 (w := Cond.methodLink RX4 115 yX1_hasMan) (tw_methodLink 123 (by decide +kernel)) rfl), tz_59, tz_60, tz_2, tz_58, ⟨by decide +kernel, by decide +kernel, by decide +kernel, by decide +kernel⟩, by decide⟩
theorem tz_61 : Cond.code yX2_overBits cX2_overBits 4 (some .int) ∈ tb := (tq_2 (w := Cond.code yX2_overBits cX2_overBits 4 (some .int)) (tw_d 134 (by decide +kernel)) rfl)
theorem tz_62 : Cond.instanceMethod yX2_overBits ∈ tb := (tq_2 (w := Cond.instanceMethod yX2_overBits) (tw_instanceMethod 132 (by decide +kernel)) rfl)
theorem tz_63 : Cond.selects RX2 yX2_overBits yX2_overBits ∈ tb := (tq_2 (w := Cond.selects RX2 yX2_overBits yX2_overBits) (tw_selects 133 (by decide +kernel)) rfl)
theorem lk_RX4_133 : LkV RX4 133 mX2_overBits 1 := ⟨(tq_2 (w := Cond.methodLink RX4 133 yX2_overBits) (tw_methodLink 131 (by decide +kernel)) rfl), tz_62, tz_63, tz_4, tz_61, ⟨by decide +kernel, by decide +kernel, by decide +kernel, by decide +kernel⟩, by decide⟩
theorem tz_64 : Cond.code yX4_remember cX4_remember 3 none ∈ tb := (tq_2 (w := Cond.code yX4_remember cX4_remember 3 none) (tw_d 143 (by decide +kernel)) rfl)
theorem tz_65 : Cond.instanceMethod yX4_remember ∈ tb := (tq_2 (w := Cond.instanceMethod yX4_remember) (tw_instanceMethod 142 (by decide +kernel)) rfl)
theorem tz_66 : Cond.selects RX4 yX4_remember yX4_remember ∈ tb := (tq_0 (w := Cond.selects RX4 yX4_remember yX4_remember) (tw_selects 0 (by decide +kernel)) rfl)
theorem lk_RX4_140 : LkV RX4 140 mX4_remember 0 := ⟨(tq_2 (w := Cond.methodLink RX4 140 yX4_remember) (tw_methodLink 140 (by decide +kernel)) rfl), tz_65, tz_66, tz_8, tz_64, ⟨by decide +kernel, by decide +kernel, by decide +kernel, by decide +kernel⟩, by decide⟩
theorem tz_67 : Cond.code yX2_passHour cX2_passHour 6 (some .int) ∈ tb := (tq_2 (w := Cond.code yX2_passHour cX2_passHour 6 (some .int)) (tw_d 158 (by decide +kernel)) rfl)
theorem tz_68 : Cond.instanceMethod yX2_passHour ∈ tb := (tq_2 (w := Cond.instanceMethod yX2_passHour) (tw_instanceMethod 156 (by decide +kernel)) rfl)
theorem tz_69 : Cond.selects RX2 yX2_passHour yX2_passHour ∈ tb := (tq_2 (w := Cond.selects RX2 yX2_passHour yX2_passHour) (tw_selects 157 (by decide +kernel)) rfl)
theorem lk_RX4_143 : LkV RX4 143 mX2_passHour 1 := ⟨(tq_2 (w := Cond.methodLink RX4 143 yX2_passHour) (tw_methodLink 155 (by decide +kernel)) rfl), tz_68, tz_69, tz_4, tz_67, ⟨by decide +kernel, by decide +kernel, by decide +kernel, by decide +kernel⟩, by decide⟩
theorem tz_70 : Cond.code yX1_rainsOn cX1_rainsOn 2 (some .boolean) ∈ tb := (tq_2 (w := Cond.code yX1_rainsOn cX1_rainsOn 2 (some .boolean)) (tw_d 186 (by decide +kernel)) rfl)
theorem tz_71 : Cond.instanceMethod yX1_rainsOn ∈ tb := (tq_2 (w := Cond.instanceMethod yX1_rainsOn) (tw_instanceMethod 184 (by decide +kernel)) rfl)
theorem tz_72 : Cond.selects RX1 yX1_rainsOn yX1_rainsOn ∈ tb := (tq_2 (w := Cond.selects RX1 yX1_rainsOn yX1_rainsOn) (tw_selects 185 (by decide +kernel)) rfl)
theorem lk_RX4_149 : LkV RX4 149 mX1_rainsOn 1 := ⟨(tq_2 (w := Cond.methodLink RX4 149 yX1_rainsOn) (tw_methodLink 183 (by decide +kernel)) rfl), tz_71, tz_72, tz_2, tz_70, ⟨by decide +kernel, by decide +kernel, by decide +kernel, by decide +kernel⟩, by decide⟩
theorem tz_73 : Cond.code yX2_fallDusk cX2_fallDusk 5 none ∈ tb := (tq_2 (w := Cond.code yX2_fallDusk cX2_fallDusk 5 none) (tw_d 190 (by decide +kernel)) rfl)
theorem tz_74 : Cond.instanceMethod yX2_fallDusk ∈ tb := (tq_2 (w := Cond.instanceMethod yX2_fallDusk) (tw_instanceMethod 188 (by decide +kernel)) rfl)
theorem tz_75 : Cond.selects RX2 yX2_fallDusk yX2_fallDusk ∈ tb := (tq_2 (w := Cond.selects RX2 yX2_fallDusk yX2_fallDusk) (tw_selects 189 (by decide +kernel)) rfl)
theorem lk_RX4_152 : LkV RX4 152 mX2_fallDusk 2 := ⟨(tq_2 (w := Cond.methodLink RX4 152 yX2_fallDusk) (tw_methodLink 187 (by decide +kernel)) rfl), tz_74, tz_75, tz_4, tz_73, ⟨by decide +kernel, by decide +kernel, by decide +kernel, by decide +kernel⟩, by decide⟩
theorem tz_76 : Cond.code yX2_writeDown cX2_writeDown 4 none ∈ tb := (tq_2 (w := Cond.code yX2_writeDown cX2_writeDown 4 none) (tw_d 198 (by decide +kernel)) rfl)
theorem tz_77 : Cond.instanceMethod yX2_writeDown ∈ tb := (tq_2 (w := Cond.instanceMethod yX2_writeDown) (tw_instanceMethod 196 (by decide +kernel)) rfl)
theorem tz_78 : Cond.selects RX2 yX2_writeDown yX2_writeDown ∈ tb := (tq_2 (w := Cond.selects RX2 yX2_writeDown yX2_writeDown) (tw_selects 197 (by decide +kernel)) rfl)
theorem lk_RX4_156 : LkV RX4 156 mX2_writeDown 1 := ⟨(tq_2 (w := Cond.methodLink RX4 156 yX2_writeDown) (tw_methodLink 195 (by decide +kernel)) rfl), tz_77, tz_78, tz_4, tz_76, ⟨by decide +kernel, by decide +kernel, by decide +kernel, by decide +kernel⟩, by decide⟩
theorem tz_79 : Cond.code yX2_copyFrom cX2_copyFrom 2 none ∈ tb := (tq_2 (w := Cond.code yX2_copyFrom cX2_copyFrom 2 none) (tw_d 147 (by decide +kernel)) rfl)
theorem tz_80 : Cond.instanceMethod yX2_copyFrom ∈ tb := (tq_2 (w := Cond.instanceMethod yX2_copyFrom) (tw_instanceMethod 145 (by decide +kernel)) rfl)
theorem tz_81 : Cond.selects RX2 yX2_copyFrom yX2_copyFrom ∈ tb := (tq_2 (w := Cond.selects RX2 yX2_copyFrom yX2_copyFrom) (tw_selects 146 (by decide +kernel)) rfl)
theorem lk_RX4_159 : LkV RX4 159 mX2_copyFrom 1 := ⟨(tq_2 (w := Cond.methodLink RX4 159 yX2_copyFrom) (tw_methodLink 144 (by decide +kernel)) rfl), tz_80, tz_81, tz_4, tz_79, ⟨by decide +kernel, by decide +kernel, by decide +kernel, by decide +kernel⟩, by decide⟩
theorem tz_82 : Cond.code yX2_hoursLeft cX2_hoursLeft 2 (some .int) ∈ tb := (tq_2 (w := Cond.code yX2_hoursLeft cX2_hoursLeft 2 (some .int)) (tw_d 210 (by decide +kernel)) rfl)
theorem tz_83 : Cond.instanceMethod yX2_hoursLeft ∈ tb := (tq_2 (w := Cond.instanceMethod yX2_hoursLeft) (tw_instanceMethod 208 (by decide +kernel)) rfl)
theorem tz_84 : Cond.selects RX2 yX2_hoursLeft yX2_hoursLeft ∈ tb := (tq_2 (w := Cond.selects RX2 yX2_hoursLeft yX2_hoursLeft) (tw_selects 209 (by decide +kernel)) rfl)
theorem lk_RX4_163 : LkV RX4 163 mX2_hoursLeft 1 := ⟨(tq_2 (w := Cond.methodLink RX4 163 yX2_hoursLeft) (tw_methodLink 207 (by decide +kernel)) rfl), tz_83, tz_84, tz_4, tz_82, ⟨by decide +kernel, by decide +kernel, by decide +kernel, by decide +kernel⟩, by decide⟩
theorem tz_85 : Cond.code yX0_search cX0_search 4 none ∈ tb := (tq_2 (w := Cond.code yX0_search cX0_search 4 none) (tw_d 214 (by decide +kernel)) rfl)
theorem tz_86 : Cond.instanceMethod yX0_search ∈ tb := (tq_2 (w := Cond.instanceMethod yX0_search) (tw_instanceMethod 212 (by decide +kernel)) rfl)
theorem tz_87 : Cond.selects RX0 yX0_search yX0_search ∈ tb := (tq_2 (w := Cond.selects RX0 yX0_search yX0_search) (tw_selects 213 (by decide +kernel)) rfl)
theorem lk_RX4_166 : LkV RX4 166 mX0_search 3 := ⟨(tq_2 (w := Cond.methodLink RX4 166 yX0_search) (tw_methodLink 211 (by decide +kernel)) rfl), tz_86, tz_87, tz_6, tz_85, ⟨by decide +kernel, by decide +kernel, by decide +kernel, by decide +kernel⟩, by decide⟩
theorem tz_88 : Cond.code yX4_allPush cX4_allPush 3 none ∈ tb := (tq_3 (w := Cond.code yX4_allPush cX4_allPush 3 none) (tw_d 10 (by decide +kernel)) rfl)
theorem tz_89 : Cond.instanceMethod yX4_allPush ∈ tb := (tq_3 (w := Cond.instanceMethod yX4_allPush) (tw_instanceMethod 9 (by decide +kernel)) rfl)
theorem tz_90 : Cond.selects RX4 yX4_allPush yX4_allPush ∈ tb := (tq_0 (w := Cond.selects RX4 yX4_allPush yX4_allPush) (tw_selects 1 (by decide +kernel)) rfl)
theorem lk_RX4_176 : LkV RX4 176 mX4_allPush 1 := ⟨(tq_3 (w := Cond.methodLink RX4 176 yX4_allPush) (tw_methodLink 7 (by decide +kernel)) rfl), tz_89, tz_90, tz_8, tz_88, ⟨by decide +kernel, by decide +kernel, by decide +kernel, by decide +kernel⟩, by decide⟩
theorem tz_91 : Cond.code yX2_passDay cX2_passDay 4 none ∈ tb := (tq_3 (w := Cond.code yX2_passDay cX2_passDay 4 none) (tw_d 14 (by decide +kernel)) rfl)
theorem tz_92 : Cond.instanceMethod yX2_passDay ∈ tb := (tq_3 (w := Cond.instanceMethod yX2_passDay) (tw_instanceMethod 12 (by decide +kernel)) rfl)
theorem tz_93 : Cond.selects RX2 yX2_passDay yX2_passDay ∈ tb := (tq_3 (w := Cond.selects RX2 yX2_passDay yX2_passDay) (tw_selects 13 (by decide +kernel)) rfl)
theorem lk_RX4_180 : LkV RX4 180 mX2_passDay 1 := ⟨(tq_3 (w := Cond.methodLink RX4 180 yX2_passDay) (tw_methodLink 11 (by decide +kernel)) rfl), tz_92, tz_93, tz_4, tz_91, ⟨by decide +kernel, by decide +kernel, by decide +kernel, by decide +kernel⟩, by decide⟩
theorem tz_94 : Cond.code yX2_freeSteps cX2_freeSteps 5 (some .int) ∈ tb := (tq_2 (w := Cond.code yX2_freeSteps cX2_freeSteps 5 (some .int)) (tw_d 221 (by decide +kernel)) rfl)
theorem tz_95 : Cond.instanceMethod yX2_freeSteps ∈ tb := (tq_2 (w := Cond.instanceMethod yX2_freeSteps) (tw_instanceMethod 219 (by decide +kernel)) rfl)
theorem tz_96 : Cond.selects RX2 yX2_freeSteps yX2_freeSteps ∈ tb := (tq_2 (w := Cond.selects RX2 yX2_freeSteps yX2_freeSteps) (tw_selects 220 (by decide +kernel)) rfl)
theorem lk_RX4_183 : LkV RX4 183 mX2_freeSteps 2 := ⟨(tq_3 (w := Cond.methodLink RX4 183 yX2_freeSteps) (tw_methodLink 21 (by decide +kernel)) rfl), tz_95, tz_96, tz_4, tz_94, ⟨by decide +kernel, by decide +kernel, by decide +kernel, by decide +kernel⟩, by decide⟩
theorem tz_97 : Cond.code yX2_strengthAfter cX2_strengthAfter 5 (some .int) ∈ tb := (tq_3 (w := Cond.code yX2_strengthAfter cX2_strengthAfter 5 (some .int)) (tw_d 25 (by decide +kernel)) rfl)
theorem tz_98 : Cond.instanceMethod yX2_strengthAfter ∈ tb := (tq_3 (w := Cond.instanceMethod yX2_strengthAfter) (tw_instanceMethod 23 (by decide +kernel)) rfl)
theorem tz_99 : Cond.selects RX2 yX2_strengthAfter yX2_strengthAfter ∈ tb := (tq_3 (w := Cond.selects RX2 yX2_strengthAfter yX2_strengthAfter) (tw_selects 24 (by decide +kernel)) rfl)
theorem lk_RX4_186 : LkV RX4 186 mX2_strengthAfter 2 := ⟨(tq_3 (w := Cond.methodLink RX4 186 yX2_strengthAfter) (tw_methodLink 22 (by decide +kernel)) rfl), tz_98, tz_99, tz_4, tz_97, ⟨by decide +kernel, by decide +kernel, by decide +kernel, by decide +kernel⟩, by decide⟩
theorem tz_100 : Cond.code yX2_needOf cX2_needOf 3 (some .int) ∈ tb := (tq_2 (w := Cond.code yX2_needOf cX2_needOf 3 (some .int)) (tw_d 171 (by decide +kernel)) rfl)
theorem tz_101 : Cond.instanceMethod yX2_needOf ∈ tb := (tq_2 (w := Cond.instanceMethod yX2_needOf) (tw_instanceMethod 169 (by decide +kernel)) rfl)
theorem tz_102 : Cond.selects RX2 yX2_needOf yX2_needOf ∈ tb := (tq_2 (w := Cond.selects RX2 yX2_needOf yX2_needOf) (tw_selects 170 (by decide +kernel)) rfl)
theorem lk_RX4_195 : LkV RX4 195 mX2_needOf 2 := ⟨(tq_3 (w := Cond.methodLink RX4 195 yX2_needOf) (tw_methodLink 31 (by decide +kernel)) rfl), tz_101, tz_102, tz_4, tz_100, ⟨by decide +kernel, by decide +kernel, by decide +kernel, by decide +kernel⟩, by decide⟩
theorem tz_103 : Cond.code yX1_forceOf cX1_forceOf 4 (some .int) ∈ tb := (tq_3 (w := Cond.code yX1_forceOf cX1_forceOf 4 (some .int)) (tw_d 41 (by decide +kernel)) rfl)
theorem tz_104 : Cond.instanceMethod yX1_forceOf ∈ tb := (tq_3 (w := Cond.instanceMethod yX1_forceOf) (tw_instanceMethod 39 (by decide +kernel)) rfl)
theorem tz_105 : Cond.selects RX1 yX1_forceOf yX1_forceOf ∈ tb := (tq_3 (w := Cond.selects RX1 yX1_forceOf yX1_forceOf) (tw_selects 40 (by decide +kernel)) rfl)
theorem lk_RX4_207 : LkV RX4 207 mX1_forceOf 1 := ⟨(tq_3 (w := Cond.methodLink RX4 207 yX1_forceOf) (tw_methodLink 38 (by decide +kernel)) rfl), tz_104, tz_105, tz_2, tz_103, ⟨by decide +kernel, by decide +kernel, by decide +kernel, by decide +kernel⟩, by decide⟩
theorem tz_106 : Cond.code yX2_blockersAt cX2_blockersAt 7 (some .int) ∈ tb := (tq_2 (w := Cond.code yX2_blockersAt cX2_blockersAt 7 (some .int)) (tw_d 176 (by decide +kernel)) rfl)
theorem tz_107 : Cond.instanceMethod yX2_blockersAt ∈ tb := (tq_2 (w := Cond.instanceMethod yX2_blockersAt) (tw_instanceMethod 174 (by decide +kernel)) rfl)
theorem tz_108 : Cond.selects RX2 yX2_blockersAt yX2_blockersAt ∈ tb := (tq_2 (w := Cond.selects RX2 yX2_blockersAt yX2_blockersAt) (tw_selects 175 (by decide +kernel)) rfl)
theorem lk_RX4_210 : LkV RX4 210 mX2_blockersAt 3 := ⟨(tq_3 (w := Cond.methodLink RX4 210 yX2_blockersAt) (tw_methodLink 46 (by decide +kernel)) rfl), tz_107, tz_108, tz_4, tz_106, ⟨by decide +kernel, by decide +kernel, by decide +kernel, by decide +kernel⟩, by decide⟩
theorem tz_109 : Cond.code yX2_writtenStep cX2_writtenStep 3 (some .int) ∈ tb := (tq_3 (w := Cond.code yX2_writtenStep cX2_writtenStep 3 (some .int)) (tw_d 54 (by decide +kernel)) rfl)
theorem tz_110 : Cond.instanceMethod yX2_writtenStep ∈ tb := (tq_3 (w := Cond.instanceMethod yX2_writtenStep) (tw_instanceMethod 52 (by decide +kernel)) rfl)
theorem tz_111 : Cond.selects RX2 yX2_writtenStep yX2_writtenStep ∈ tb := (tq_3 (w := Cond.selects RX2 yX2_writtenStep yX2_writtenStep) (tw_selects 53 (by decide +kernel)) rfl)
theorem lk_RX4_214 : LkV RX4 214 mX2_writtenStep 2 := ⟨(tq_3 (w := Cond.methodLink RX4 214 yX2_writtenStep) (tw_methodLink 51 (by decide +kernel)) rfl), tz_110, tz_111, tz_4, tz_109, ⟨by decide +kernel, by decide +kernel, by decide +kernel, by decide +kernel⟩, by decide⟩
theorem tz_112 : Cond.code yX4_agrees cX4_agrees 3 (some .boolean) ∈ tb := (tq_3 (w := Cond.code yX4_agrees cX4_agrees 3 (some .boolean)) (tw_d 70 (by decide +kernel)) rfl)
theorem tz_113 : Cond.instanceMethod yX4_agrees ∈ tb := (tq_3 (w := Cond.instanceMethod yX4_agrees) (tw_instanceMethod 69 (by decide +kernel)) rfl)
theorem tz_114 : Cond.selects RX4 yX4_agrees yX4_agrees ∈ tb := (tq_0 (w := Cond.selects RX4 yX4_agrees yX4_agrees) (tw_selects 2 (by decide +kernel)) rfl)
theorem lk_RX4_217 : LkV RX4 217 mX4_agrees 1 := ⟨(tq_3 (w := Cond.methodLink RX4 217 yX4_agrees) (tw_methodLink 67 (by decide +kernel)) rfl), tz_113, tz_114, tz_8, tz_112, ⟨by decide +kernel, by decide +kernel, by decide +kernel, by decide +kernel⟩, by decide⟩
theorem tz_115 : Cond.code yX4_isOverBehind cX4_isOverBehind 5 (some .boolean) ∈ tb := (tq_3 (w := Cond.code yX4_isOverBehind cX4_isOverBehind 5 (some .boolean)) (tw_d 85 (by decide +kernel)) rfl)
theorem tz_116 : Cond.instanceMethod yX4_isOverBehind ∈ tb := (tq_3 (w := Cond.instanceMethod yX4_isOverBehind) (tw_instanceMethod 84 (by decide +kernel)) rfl)
theorem tz_117 : Cond.selects RX4 yX4_isOverBehind yX4_isOverBehind ∈ tb := (tq_0 (w := Cond.selects RX4 yX4_isOverBehind yX4_isOverBehind) (tw_selects 3 (by decide +kernel)) rfl)
theorem lk_RX4_226 : LkV RX4 226 mX4_isOverBehind 3 := ⟨(tq_3 (w := Cond.methodLink RX4 226 yX4_isOverBehind) (tw_methodLink 82 (by decide +kernel)) rfl), tz_116, tz_117, tz_8, tz_115, ⟨by decide +kernel, by decide +kernel, by decide +kernel, by decide +kernel⟩, by decide⟩
theorem tz_118 : Cond.code yX4_rateAs cX4_rateAs 4 (some .int) ∈ tb := (tq_3 (w := Cond.code yX4_rateAs cX4_rateAs 4 (some .int)) (tw_d 101 (by decide +kernel)) rfl)
theorem tz_119 : Cond.instanceMethod yX4_rateAs ∈ tb := (tq_3 (w := Cond.instanceMethod yX4_rateAs) (tw_instanceMethod 100 (by decide +kernel)) rfl)
theorem tz_120 : Cond.selects RX4 yX4_rateAs yX4_rateAs ∈ tb := (tq_0 (w := Cond.selects RX4 yX4_rateAs yX4_rateAs) (tw_selects 4 (by decide +kernel)) rfl)
theorem lk_RX4_239 : LkV RX4 239 mX4_rateAs 2 := ⟨(tq_3 (w := Cond.methodLink RX4 239 yX4_rateAs) (tw_methodLink 98 (by decide +kernel)) rfl), tz_119, tz_120, tz_8, tz_118, ⟨by decide +kernel, by decide +kernel, by decide +kernel, by decide +kernel⟩, by decide⟩
theorem tz_121 : Cond.code yX2_menAt cX2_menAt 5 (some .int) ∈ tb := (tq_3 (w := Cond.code yX2_menAt cX2_menAt 5 (some .int)) (tw_d 109 (by decide +kernel)) rfl)
theorem tz_122 : Cond.instanceMethod yX2_menAt ∈ tb := (tq_3 (w := Cond.instanceMethod yX2_menAt) (tw_instanceMethod 107 (by decide +kernel)) rfl)
theorem tz_123 : Cond.selects RX2 yX2_menAt yX2_menAt ∈ tb := (tq_3 (w := Cond.selects RX2 yX2_menAt yX2_menAt) (tw_selects 108 (by decide +kernel)) rfl)
theorem lk_RX4_261 : LkV RX4 261 mX2_menAt 2 := ⟨(tq_3 (w := Cond.methodLink RX4 261 yX2_menAt) (tw_methodLink 106 (by decide +kernel)) rfl), tz_122, tz_123, tz_4, tz_121, ⟨by decide +kernel, by decide +kernel, by decide +kernel, by decide +kernel⟩, by decide⟩
theorem lk_RX0_23 : LkV RX0 23 mX2_needOf 2 := ⟨(tq_2 (w := Cond.methodLink RX0 23 yX2_needOf) (tw_methodLink 215 (by decide +kernel)) rfl), tz_101, tz_102, tz_4, tz_100, ⟨by decide +kernel, by decide +kernel, by decide +kernel, by decide +kernel⟩, by decide⟩
theorem lk_RX0_33 : LkV RX0 33 mX2_hoursLeft 1 := ⟨(tq_2 (w := Cond.methodLink RX0 33 yX2_hoursLeft) (tw_methodLink 216 (by decide +kernel)) rfl), tz_83, tz_84, tz_4, tz_82, ⟨by decide +kernel, by decide +kernel, by decide +kernel, by decide +kernel⟩, by decide⟩
theorem lk_RX0_46 : LkV RX0 46 mX2_freeSteps 2 := ⟨(tq_2 (w := Cond.methodLink RX0 46 yX2_freeSteps) (tw_methodLink 218 (by decide +kernel)) rfl), tz_95, tz_96, tz_4, tz_94, ⟨by decide +kernel, by decide +kernel, by decide +kernel, by decide +kernel⟩, by decide⟩
theorem tz_124 : Cond.code yX0_keepRow cX0_keepRow 4 none ∈ tb := (tq_2 (w := Cond.code yX0_keepRow cX0_keepRow 4 none) (tw_d 226 (by decide +kernel)) rfl)
theorem tz_125 : Cond.instanceMethod yX0_keepRow ∈ tb := (tq_2 (w := Cond.instanceMethod yX0_keepRow) (tw_instanceMethod 224 (by decide +kernel)) rfl)
theorem tz_126 : Cond.selects RX0 yX0_keepRow yX0_keepRow ∈ tb := (tq_2 (w := Cond.selects RX0 yX0_keepRow yX0_keepRow) (tw_selects 225 (by decide +kernel)) rfl)
theorem lk_RX0_60 : LkV RX0 60 mX0_keepRow 2 := ⟨(tq_2 (w := Cond.methodLink RX0 60 yX0_keepRow) (tw_methodLink 223 (by decide +kernel)) rfl), tz_125, tz_126, tz_6, tz_124, ⟨by decide +kernel, by decide +kernel, by decide +kernel, by decide +kernel⟩, by decide⟩
theorem tz_127 : Cond.code yX0_explore cX0_explore 5 none ∈ tb := (tq_2 (w := Cond.code yX0_explore cX0_explore 5 none) (tw_d 230 (by decide +kernel)) rfl)
theorem tz_128 : Cond.instanceMethod yX0_explore ∈ tb := (tq_2 (w := Cond.instanceMethod yX0_explore) (tw_instanceMethod 228 (by decide +kernel)) rfl)
theorem tz_129 : Cond.selects RX0 yX0_explore yX0_explore ∈ tb := (tq_2 (w := Cond.selects RX0 yX0_explore yX0_explore) (tw_selects 229 (by decide +kernel)) rfl)
theorem lk_RX0_64 : LkV RX0 64 mX0_explore 3 := ⟨(tq_2 (w := Cond.methodLink RX0 64 yX0_explore) (tw_methodLink 227 (by decide +kernel)) rfl), tz_128, tz_129, tz_6, tz_127, ⟨by decide +kernel, by decide +kernel, by decide +kernel, by decide +kernel⟩, by decide⟩
theorem tz_130 : Cond.code yX0_isJustEnough cX0_isJustEnough 6 (some .boolean) ∈ tb := (tq_2 (w := Cond.code yX0_isJustEnough cX0_isJustEnough 6 (some .boolean)) (tw_d 234 (by decide +kernel)) rfl)
theorem tz_131 : Cond.instanceMethod yX0_isJustEnough ∈ tb := (tq_2 (w := Cond.instanceMethod yX0_isJustEnough) (tw_instanceMethod 232 (by decide +kernel)) rfl)
theorem tz_132 : Cond.selects RX0 yX0_isJustEnough yX0_isJustEnough ∈ tb := (tq_2 (w := Cond.selects RX0 yX0_isJustEnough yX0_isJustEnough) (tw_selects 233 (by decide +kernel)) rfl)
theorem lk_RX0_76 : LkV RX0 76 mX0_isJustEnough 3 := ⟨(tq_2 (w := Cond.methodLink RX0 76 yX0_isJustEnough) (tw_methodLink 231 (by decide +kernel)) rfl), tz_131, tz_132, tz_6, tz_130, ⟨by decide +kernel, by decide +kernel, by decide +kernel, by decide +kernel⟩, by decide⟩
theorem tz_133 : Cond.code yX0_tire cX0_tire 6 none ∈ tb := (tq_3 (w := Cond.code yX0_tire cX0_tire 6 none) (tw_d 1 (by decide +kernel)) rfl)
theorem tz_134 : Cond.instanceMethod yX0_tire ∈ tb := (tq_2 (w := Cond.instanceMethod yX0_tire) (tw_instanceMethod 239 (by decide +kernel)) rfl)
theorem tz_135 : Cond.selects RX0 yX0_tire yX0_tire ∈ tb := (tq_3 (w := Cond.selects RX0 yX0_tire yX0_tire) (tw_selects 0 (by decide +kernel)) rfl)
theorem lk_RX0_80 : LkV RX0 80 mX0_tire 3 := ⟨(tq_2 (w := Cond.methodLink RX0 80 yX0_tire) (tw_methodLink 238 (by decide +kernel)) rfl), tz_134, tz_135, tz_6, tz_133, ⟨by decide +kernel, by decide +kernel, by decide +kernel, by decide +kernel⟩, by decide⟩
theorem tz_136 : Cond.code yX2_rest cX2_rest 3 none ∈ tb := (tq_1 (w := Cond.code yX2_rest cX2_rest 3 none) (tw_d 206 (by decide +kernel)) rfl)
theorem tz_137 : Cond.instanceMethod yX2_rest ∈ tb := (tq_1 (w := Cond.instanceMethod yX2_rest) (tw_instanceMethod 204 (by decide +kernel)) rfl)
theorem tz_138 : Cond.selects RX2 yX2_rest yX2_rest ∈ tb := (tq_1 (w := Cond.selects RX2 yX2_rest yX2_rest) (tw_selects 205 (by decide +kernel)) rfl)
theorem lk_RX2_37 : LkV RX2 37 mX2_rest 1 := ⟨(tq_1 (w := Cond.methodLink RX2 37 yX2_rest) (tw_methodLink 203 (by decide +kernel)) rfl), tz_137, tz_138, tz_4, tz_136, ⟨by decide +kernel, by decide +kernel, by decide +kernel, by decide +kernel⟩, by decide⟩
theorem lk_RX2_55 : LkV RX2 55 mX2_isOver 2 := ⟨(tq_2 (w := Cond.methodLink RX2 55 yX2_isOver) (tw_methodLink 135 (by decide +kernel)) rfl), tz_56, tz_57, tz_4, tz_55, ⟨by decide +kernel, by decide +kernel, by decide +kernel, by decide +kernel⟩, by decide⟩
theorem lk_RX2_68 : LkV RX2 68 mX2_sizeNow 2 := ⟨(tq_2 (w := Cond.methodLink RX2 68 yX2_sizeNow) (tw_methodLink 172 (by decide +kernel)) rfl), tz_53, tz_54, tz_4, tz_52, ⟨by decide +kernel, by decide +kernel, by decide +kernel, by decide +kernel⟩, by decide⟩
theorem tz_139 : Cond.code yX1_isOnePlace cX1_isOnePlace 6 (some .boolean) ∈ tb := (tq_2 (w := Cond.code yX1_isOnePlace cX1_isOnePlace 6 (some .boolean)) (tw_d 180 (by decide +kernel)) rfl)
theorem tz_140 : Cond.instanceMethod yX1_isOnePlace ∈ tb := (tq_2 (w := Cond.instanceMethod yX1_isOnePlace) (tw_instanceMethod 178 (by decide +kernel)) rfl)
theorem tz_141 : Cond.selects RX1 yX1_isOnePlace yX1_isOnePlace ∈ tb := (tq_2 (w := Cond.selects RX1 yX1_isOnePlace yX1_isOnePlace) (tw_selects 179 (by decide +kernel)) rfl)
theorem lk_RX2_81 : LkV RX2 81 mX1_isOnePlace 3 := ⟨(tq_2 (w := Cond.methodLink RX2 81 yX1_isOnePlace) (tw_methodLink 177 (by decide +kernel)) rfl), tz_140, tz_141, tz_2, tz_139, ⟨by decide +kernel, by decide +kernel, by decide +kernel, by decide +kernel⟩, by decide⟩
theorem lk_RX2_85 : LkV RX2 85 mX2_blockersAt 3 := ⟨(tq_2 (w := Cond.methodLink RX2 85 yX2_blockersAt) (tw_methodLink 173 (by decide +kernel)) rfl), tz_107, tz_108, tz_4, tz_106, ⟨by decide +kernel, by decide +kernel, by decide +kernel, by decide +kernel⟩, by decide⟩
theorem lk_RX2_89 : LkV RX2 89 mX2_overBits 1 := ⟨(tq_2 (w := Cond.methodLink RX2 89 yX2_overBits) (tw_methodLink 159 (by decide +kernel)) rfl), tz_62, tz_63, tz_4, tz_61, ⟨by decide +kernel, by decide +kernel, by decide +kernel, by decide +kernel⟩, by decide⟩
theorem tz_142 : Cond.code yX2_canComeUp cX2_canComeUp 3 (some .boolean) ∈ tb := (tq_2 (w := Cond.code yX2_canComeUp cX2_canComeUp 3 (some .boolean)) (tw_d 163 (by decide +kernel)) rfl)
theorem tz_143 : Cond.instanceMethod yX2_canComeUp ∈ tb := (tq_2 (w := Cond.instanceMethod yX2_canComeUp) (tw_instanceMethod 161 (by decide +kernel)) rfl)
theorem tz_144 : Cond.selects RX2 yX2_canComeUp yX2_canComeUp ∈ tb := (tq_2 (w := Cond.selects RX2 yX2_canComeUp yX2_canComeUp) (tw_selects 162 (by decide +kernel)) rfl)
theorem lk_RX2_93 : LkV RX2 93 mX2_canComeUp 2 := ⟨(tq_2 (w := Cond.methodLink RX2 93 yX2_canComeUp) (tw_methodLink 160 (by decide +kernel)) rfl), tz_143, tz_144, tz_4, tz_142, ⟨by decide +kernel, by decide +kernel, by decide +kernel, by decide +kernel⟩, by decide⟩
theorem lk_RX2_96 : LkV RX2 96 mX1_hasHill 1 := ⟨(tq_2 (w := Cond.methodLink RX2 96 yX1_hasHill) (tw_methodLink 181 (by decide +kernel)) rfl), tz_50, tz_51, tz_2, tz_49, ⟨by decide +kernel, by decide +kernel, by decide +kernel, by decide +kernel⟩, by decide⟩
theorem tz_145 : Cond.code yX2_strengthAt cX2_strengthAt 5 (some .int) ∈ tb := (tq_2 (w := Cond.code yX2_strengthAt cX2_strengthAt 5 (some .int)) (tw_d 167 (by decide +kernel)) rfl)
theorem tz_146 : Cond.instanceMethod yX2_strengthAt ∈ tb := (tq_2 (w := Cond.instanceMethod yX2_strengthAt) (tw_instanceMethod 165 (by decide +kernel)) rfl)
theorem tz_147 : Cond.selects RX2 yX2_strengthAt yX2_strengthAt ∈ tb := (tq_2 (w := Cond.selects RX2 yX2_strengthAt yX2_strengthAt) (tw_selects 166 (by decide +kernel)) rfl)
theorem lk_RX2_106 : LkV RX2 106 mX2_strengthAt 2 := ⟨(tq_2 (w := Cond.methodLink RX2 106 yX2_strengthAt) (tw_methodLink 164 (by decide +kernel)) rfl), tz_146, tz_147, tz_4, tz_145, ⟨by decide +kernel, by decide +kernel, by decide +kernel, by decide +kernel⟩, by decide⟩
theorem lk_RX2_109 : LkV RX2 109 mX2_needOf 2 := ⟨(tq_2 (w := Cond.methodLink RX2 109 yX2_needOf) (tw_methodLink 168 (by decide +kernel)) rfl), tz_101, tz_102, tz_4, tz_100, ⟨by decide +kernel, by decide +kernel, by decide +kernel, by decide +kernel⟩, by decide⟩
theorem lk_RX2_112 : LkV RX2 112 mX2_hoursLeft 1 := ⟨(tq_3 (w := Cond.methodLink RX2 112 yX2_hoursLeft) (tw_methodLink 15 (by decide +kernel)) rfl), tz_83, tz_84, tz_4, tz_82, ⟨by decide +kernel, by decide +kernel, by decide +kernel, by decide +kernel⟩, by decide⟩
theorem lk_RX2_115 : LkV RX2 115 mX2_passHour 1 := ⟨(tq_3 (w := Cond.methodLink RX2 115 yX2_passHour) (tw_methodLink 16 (by decide +kernel)) rfl), tz_68, tz_69, tz_4, tz_67, ⟨by decide +kernel, by decide +kernel, by decide +kernel, by decide +kernel⟩, by decide⟩
theorem tz_148 : Cond.code yX1_hasLedge cX1_hasLedge 3 (some .boolean) ∈ tb := (tq_2 (w := Cond.code yX1_hasLedge cX1_hasLedge 3 (some .boolean)) (tw_d 194 (by decide +kernel)) rfl)
theorem tz_149 : Cond.instanceMethod yX1_hasLedge ∈ tb := (tq_2 (w := Cond.instanceMethod yX1_hasLedge) (tw_instanceMethod 192 (by decide +kernel)) rfl)
theorem tz_150 : Cond.selects RX1 yX1_hasLedge yX1_hasLedge ∈ tb := (tq_2 (w := Cond.selects RX1 yX1_hasLedge yX1_hasLedge) (tw_selects 193 (by decide +kernel)) rfl)
theorem lk_RX2_118 : LkV RX2 118 mX1_hasLedge 2 := ⟨(tq_2 (w := Cond.methodLink RX2 118 yX1_hasLedge) (tw_methodLink 191 (by decide +kernel)) rfl), tz_149, tz_150, tz_2, tz_148, ⟨by decide +kernel, by decide +kernel, by decide +kernel, by decide +kernel⟩, by decide⟩
theorem tz_151 : Cond.code yX1_empty cX1_empty 1 none ∈ tb := (tq_2 (w := Cond.code yX1_empty cX1_empty 1 none) (tw_d 38 (by decide +kernel)) rfl)
theorem tz_152 : Cond.instanceMethod yX1_empty ∈ tb := (tq_2 (w := Cond.instanceMethod yX1_empty) (tw_instanceMethod 36 (by decide +kernel)) rfl)
theorem tz_153 : Cond.selects RX1 yX1_empty yX1_empty ∈ tb := (tq_2 (w := Cond.selects RX1 yX1_empty yX1_empty) (tw_selects 37 (by decide +kernel)) rfl)
theorem lk_RX3_32 : LkV RX3 32 mX1_empty 0 := ⟨(tq_2 (w := Cond.methodLink RX3 32 yX1_empty) (tw_methodLink 35 (by decide +kernel)) rfl), tz_152, tz_153, tz_2, tz_151, ⟨by decide +kernel, by decide +kernel, by decide +kernel, by decide +kernel⟩, by decide⟩
theorem tz_154 : Cond.code yX3_take cX3_take 1 none ∈ tb := (tq_2 (w := Cond.code yX3_take cX3_take 1 none) (tw_d 42 (by decide +kernel)) rfl)
theorem tz_155 : Cond.instanceMethod yX3_take ∈ tb := (tq_2 (w := Cond.instanceMethod yX3_take) (tw_instanceMethod 40 (by decide +kernel)) rfl)
theorem tz_156 : Cond.selects RX3 yX3_take yX3_take ∈ tb := (tq_2 (w := Cond.selects RX3 yX3_take yX3_take) (tw_selects 41 (by decide +kernel)) rfl)
theorem lk_RX3_37 : LkV RX3 37 mX3_take 0 := ⟨(tq_2 (w := Cond.methodLink RX3 37 yX3_take) (tw_methodLink 39 (by decide +kernel)) rfl), tz_155, tz_156, tz_0, tz_154, ⟨by decide +kernel, by decide +kernel, by decide +kernel, by decide +kernel⟩, by decide⟩
theorem tz_157 : Cond.code yX3_readItem cX3_readItem 5 (some .boolean) ∈ tb := (tq_2 (w := Cond.code yX3_readItem cX3_readItem 5 (some .boolean)) (tw_d 56 (by decide +kernel)) rfl)
theorem tz_158 : Cond.instanceMethod yX3_readItem ∈ tb := (tq_2 (w := Cond.instanceMethod yX3_readItem) (tw_instanceMethod 54 (by decide +kernel)) rfl)
theorem tz_159 : Cond.selects RX3 yX3_readItem yX3_readItem ∈ tb := (tq_2 (w := Cond.selects RX3 yX3_readItem yX3_readItem) (tw_selects 55 (by decide +kernel)) rfl)
theorem lk_RX3_43 : LkV RX3 43 mX3_readItem 1 := ⟨(tq_2 (w := Cond.methodLink RX3 43 yX3_readItem) (tw_methodLink 53 (by decide +kernel)) rfl), tz_158, tz_159, tz_0, tz_157, ⟨by decide +kernel, by decide +kernel, by decide +kernel, by decide +kernel⟩, by decide⟩
theorem tz_160 : Cond.code yX3_fits cX3_fits 4 (some .boolean) ∈ tb := (tq_2 (w := Cond.code yX3_fits cX3_fits 4 (some .boolean)) (tw_d 66 (by decide +kernel)) rfl)
theorem tz_161 : Cond.instanceMethod yX3_fits ∈ tb := (tq_2 (w := Cond.instanceMethod yX3_fits) (tw_instanceMethod 64 (by decide +kernel)) rfl)
theorem tz_162 : Cond.selects RX3 yX3_fits yX3_fits ∈ tb := (tq_2 (w := Cond.selects RX3 yX3_fits yX3_fits) (tw_selects 65 (by decide +kernel)) rfl)
theorem lk_RX3_58 : LkV RX3 58 mX3_fits 3 := ⟨(tq_2 (w := Cond.methodLink RX3 58 yX3_fits) (tw_methodLink 63 (by decide +kernel)) rfl), tz_161, tz_162, tz_0, tz_160, ⟨by decide +kernel, by decide +kernel, by decide +kernel, by decide +kernel⟩, by decide⟩
theorem tz_163 : Cond.code yX3_addItem cX3_addItem 3 none ∈ tb := (tq_2 (w := Cond.code yX3_addItem cX3_addItem 3 none) (tw_d 86 (by decide +kernel)) rfl)
theorem tz_164 : Cond.instanceMethod yX3_addItem ∈ tb := (tq_2 (w := Cond.instanceMethod yX3_addItem) (tw_instanceMethod 84 (by decide +kernel)) rfl)
theorem tz_165 : Cond.selects RX3 yX3_addItem yX3_addItem ∈ tb := (tq_2 (w := Cond.selects RX3 yX3_addItem yX3_addItem) (tw_selects 85 (by decide +kernel)) rfl)
theorem lk_RX3_65 : LkV RX3 65 mX3_addItem 2 := ⟨(tq_2 (w := Cond.methodLink RX3 65 yX3_addItem) (tw_methodLink 83 (by decide +kernel)) rfl), tz_164, tz_165, tz_0, tz_163, ⟨by decide +kernel, by decide +kernel, by decide +kernel, by decide +kernel⟩, by decide⟩
theorem tz_166 : Cond.code yX3_isWithin cX3_isWithin 3 (some .boolean) ∈ tb := (tq_2 (w := Cond.code yX3_isWithin cX3_isWithin 3 (some .boolean)) (tw_d 74 (by decide +kernel)) rfl)
theorem tz_167 : Cond.instanceMethod yX3_isWithin ∈ tb := (tq_2 (w := Cond.instanceMethod yX3_isWithin) (tw_instanceMethod 72 (by decide +kernel)) rfl)
theorem tz_168 : Cond.selects RX3 yX3_isWithin yX3_isWithin ∈ tb := (tq_2 (w := Cond.selects RX3 yX3_isWithin yX3_isWithin) (tw_selects 73 (by decide +kernel)) rfl)
theorem lk_RX3_91 : LkV RX3 91 mX3_isWithin 2 := ⟨(tq_2 (w := Cond.methodLink RX3 91 yX3_isWithin) (tw_methodLink 71 (by decide +kernel)) rfl), tz_167, tz_168, tz_0, tz_166, ⟨by decide +kernel, by decide +kernel, by decide +kernel, by decide +kernel⟩, by decide⟩
theorem tz_169 : Cond.code yX3_fitsJoin cX3_fitsJoin 3 (some .boolean) ∈ tb := (tq_2 (w := Cond.code yX3_fitsJoin cX3_fitsJoin 3 (some .boolean)) (tw_d 78 (by decide +kernel)) rfl)
theorem tz_170 : Cond.instanceMethod yX3_fitsJoin ∈ tb := (tq_2 (w := Cond.instanceMethod yX3_fitsJoin) (tw_instanceMethod 76 (by decide +kernel)) rfl)
theorem tz_171 : Cond.selects RX3 yX3_fitsJoin yX3_fitsJoin ∈ tb := (tq_2 (w := Cond.selects RX3 yX3_fitsJoin yX3_fitsJoin) (tw_selects 77 (by decide +kernel)) rfl)
theorem lk_RX3_95 : LkV RX3 95 mX3_fitsJoin 2 := ⟨(tq_2 (w := Cond.methodLink RX3 95 yX3_fitsJoin) (tw_methodLink 75 (by decide +kernel)) rfl), tz_170, tz_171, tz_0, tz_169, ⟨by decide +kernel, by decide +kernel, by decide +kernel, by decide +kernel⟩, by decide⟩
theorem lk_RX3_98 : LkV RX3 98 mX1_hasHill 1 := ⟨(tq_2 (w := Cond.methodLink RX3 98 yX1_hasHill) (tw_methodLink 79 (by decide +kernel)) rfl), tz_50, tz_51, tz_2, tz_49, ⟨by decide +kernel, by decide +kernel, by decide +kernel, by decide +kernel⟩, by decide⟩
theorem tz_172 : Cond.code yX1_addHill cX1_addHill 2 none ∈ tb := (tq_2 (w := Cond.code yX1_addHill cX1_addHill 2 none) (tw_d 90 (by decide +kernel)) rfl)
theorem tz_173 : Cond.instanceMethod yX1_addHill ∈ tb := (tq_2 (w := Cond.instanceMethod yX1_addHill) (tw_instanceMethod 88 (by decide +kernel)) rfl)
theorem tz_174 : Cond.selects RX1 yX1_addHill yX1_addHill ∈ tb := (tq_2 (w := Cond.selects RX1 yX1_addHill yX1_addHill) (tw_selects 89 (by decide +kernel)) rfl)
theorem lk_RX3_102 : LkV RX3 102 mX1_addHill 1 := ⟨(tq_2 (w := Cond.methodLink RX3 102 yX1_addHill) (tw_methodLink 87 (by decide +kernel)) rfl), tz_173, tz_174, tz_2, tz_172, ⟨by decide +kernel, by decide +kernel, by decide +kernel, by decide +kernel⟩, by decide⟩
theorem tz_175 : Cond.code yX1_addJoin cX1_addJoin 2 none ∈ tb := (tq_2 (w := Cond.code yX1_addJoin cX1_addJoin 2 none) (tw_d 94 (by decide +kernel)) rfl)
theorem tz_176 : Cond.instanceMethod yX1_addJoin ∈ tb := (tq_2 (w := Cond.instanceMethod yX1_addJoin) (tw_instanceMethod 92 (by decide +kernel)) rfl)
theorem tz_177 : Cond.selects RX1 yX1_addJoin yX1_addJoin ∈ tb := (tq_2 (w := Cond.selects RX1 yX1_addJoin yX1_addJoin) (tw_selects 93 (by decide +kernel)) rfl)
theorem lk_RX3_106 : LkV RX3 106 mX1_addJoin 1 := ⟨(tq_2 (w := Cond.methodLink RX3 106 yX1_addJoin) (tw_methodLink 91 (by decide +kernel)) rfl), tz_176, tz_177, tz_2, tz_175, ⟨by decide +kernel, by decide +kernel, by decide +kernel, by decide +kernel⟩, by decide⟩
theorem tz_178 : Cond.code yX1_addMan cX1_addMan 2 none ∈ tb := (tq_2 (w := Cond.code yX1_addMan cX1_addMan 2 none) (tw_d 98 (by decide +kernel)) rfl)
theorem tz_179 : Cond.instanceMethod yX1_addMan ∈ tb := (tq_2 (w := Cond.instanceMethod yX1_addMan) (tw_instanceMethod 96 (by decide +kernel)) rfl)
theorem tz_180 : Cond.selects RX1 yX1_addMan yX1_addMan ∈ tb := (tq_2 (w := Cond.selects RX1 yX1_addMan yX1_addMan) (tw_selects 97 (by decide +kernel)) rfl)
theorem lk_RX3_109 : LkV RX3 109 mX1_addMan 1 := ⟨(tq_2 (w := Cond.methodLink RX3 109 yX1_addMan) (tw_methodLink 95 (by decide +kernel)) rfl), tz_179, tz_180, tz_2, tz_178, ⟨by decide +kernel, by decide +kernel, by decide +kernel, by decide +kernel⟩, by decide⟩
theorem tz_181 : Cond.code yX3_takeNumber cX3_takeNumber 3 none ∈ tb := (tq_2 (w := Cond.code yX3_takeNumber cX3_takeNumber 3 none) (tw_d 49 (by decide +kernel)) rfl)
theorem tz_182 : Cond.instanceMethod yX3_takeNumber ∈ tb := (tq_2 (w := Cond.instanceMethod yX3_takeNumber) (tw_instanceMethod 47 (by decide +kernel)) rfl)
theorem tz_183 : Cond.selects RX3 yX3_takeNumber yX3_takeNumber ∈ tb := (tq_2 (w := Cond.selects RX3 yX3_takeNumber yX3_takeNumber) (tw_selects 48 (by decide +kernel)) rfl)
theorem lk_RX3_123 : LkV RX3 123 mX3_takeNumber 0 := ⟨(tq_2 (w := Cond.methodLink RX3 123 yX3_takeNumber) (tw_methodLink 46 (by decide +kernel)) rfl), tz_182, tz_183, tz_0, tz_181, ⟨by decide +kernel, by decide +kernel, by decide +kernel, by decide +kernel⟩, by decide⟩
theorem tz_184 : Cond.code yX4_type cX4_type 2 (some .int) ∈ tb := (tq_2 (w := Cond.code yX4_type cX4_type 2 (some .int)) (tw_d 19 (by decide +kernel)) rfl)
theorem tz_185 : Cond.instanceMethod yX4_type ∈ tb := (tq_2 (w := Cond.instanceMethod yX4_type) (tw_instanceMethod 17 (by decide +kernel)) rfl)
theorem tz_186 : Cond.selects RX4 yX4_type yX4_type ∈ tb := (tq_2 (w := Cond.selects RX4 yX4_type yX4_type) (tw_selects 18 (by decide +kernel)) rfl)
theorem lk_RL_13 : LkV RL 13 mX4_type 1 := ⟨(tq_2 (w := Cond.methodLink RL 13 yX4_type) (tw_methodLink 16 (by decide +kernel)) rfl), tz_185, tz_186, tz_8, tz_184, ⟨by decide +kernel, by decide +kernel, by decide +kernel, by decide +kernel⟩, by decide⟩
theorem tz_187 : Cond.code yX5_type cX5_type 2 (some .int) ∈ tb := (tq_3 (w := Cond.code yX5_type cX5_type 2 (some .int)) (tw_d 239 (by decide +kernel)) rfl)
theorem tz_188 : Cond.instanceMethod yX5_type ∈ tb := (tq_3 (w := Cond.instanceMethod yX5_type) (tw_instanceMethod 237 (by decide +kernel)) rfl)
theorem tz_189 : Cond.selects RX5 yX5_type yX5_type ∈ tb := (tq_3 (w := Cond.selects RX5 yX5_type yX5_type) (tw_selects 238 (by decide +kernel)) rfl)
theorem lk_RL_17 : LkV RL 17 mX5_type 1 := ⟨(tq_3 (w := Cond.methodLink RL 17 yX5_type) (tw_methodLink 236 (by decide +kernel)) rfl), tz_188, tz_189, tz_10, tz_187, ⟨by decide +kernel, by decide +kernel, by decide +kernel, by decide +kernel⟩, by decide⟩
theorem tz_190 : Cond.code yX4_clear cX4_clear 2 (some .int) ∈ tb := (tq_2 (w := Cond.code yX4_clear cX4_clear 2 (some .int)) (tw_d 23 (by decide +kernel)) rfl)
theorem tz_191 : Cond.instanceMethod yX4_clear ∈ tb := (tq_2 (w := Cond.instanceMethod yX4_clear) (tw_instanceMethod 21 (by decide +kernel)) rfl)
theorem tz_192 : Cond.selects RX4 yX4_clear yX4_clear ∈ tb := (tq_2 (w := Cond.selects RX4 yX4_clear yX4_clear) (tw_selects 22 (by decide +kernel)) rfl)
theorem lk_RL_18 : LkV RL 18 mX4_clear 0 := ⟨(tq_2 (w := Cond.methodLink RL 18 yX4_clear) (tw_methodLink 20 (by decide +kernel)) rfl), tz_191, tz_192, tz_8, tz_190, ⟨by decide +kernel, by decide +kernel, by decide +kernel, by decide +kernel⟩, by decide⟩
theorem tz_193 : Cond.code yX5_clear cX5_clear 2 (some .int) ∈ tb := (tq_4 (w := Cond.code yX5_clear cX5_clear 2 (some .int)) (tw_d 7 (by decide +kernel)) rfl)
theorem tz_194 : Cond.instanceMethod yX5_clear ∈ tb := (tq_4 (w := Cond.instanceMethod yX5_clear) (tw_instanceMethod 5 (by decide +kernel)) rfl)
theorem tz_195 : Cond.selects RX5 yX5_clear yX5_clear ∈ tb := (tq_4 (w := Cond.selects RX5 yX5_clear yX5_clear) (tw_selects 6 (by decide +kernel)) rfl)
theorem lk_RL_22 : LkV RL 22 mX5_clear 0 := ⟨(tq_4 (w := Cond.methodLink RL 22 yX5_clear) (tw_methodLink 4 (by decide +kernel)) rfl), tz_194, tz_195, tz_10, tz_193, ⟨by decide +kernel, by decide +kernel, by decide +kernel, by decide +kernel⟩, by decide⟩
theorem tz_196 : Cond.code yX4_hills cX4_hills 4 (some .int) ∈ tb := (tq_2 (w := Cond.code yX4_hills cX4_hills 4 (some .int)) (tw_d 27 (by decide +kernel)) rfl)
theorem tz_197 : Cond.instanceMethod yX4_hills ∈ tb := (tq_2 (w := Cond.instanceMethod yX4_hills) (tw_instanceMethod 25 (by decide +kernel)) rfl)
theorem tz_198 : Cond.selects RX4 yX4_hills yX4_hills ∈ tb := (tq_2 (w := Cond.selects RX4 yX4_hills yX4_hills) (tw_selects 26 (by decide +kernel)) rfl)
theorem lk_RL_23 : LkV RL 23 mX4_hills 0 := ⟨(tq_2 (w := Cond.methodLink RL 23 yX4_hills) (tw_methodLink 24 (by decide +kernel)) rfl), tz_197, tz_198, tz_8, tz_196, ⟨by decide +kernel, by decide +kernel, by decide +kernel, by decide +kernel⟩, by decide⟩
theorem tz_199 : Cond.code yX5_hills cX5_hills 3 (some .int) ∈ tb := (tq_4 (w := Cond.code yX5_hills cX5_hills 3 (some .int)) (tw_d 11 (by decide +kernel)) rfl)
theorem tz_200 : Cond.instanceMethod yX5_hills ∈ tb := (tq_4 (w := Cond.instanceMethod yX5_hills) (tw_instanceMethod 9 (by decide +kernel)) rfl)
theorem tz_201 : Cond.selects RX5 yX5_hills yX5_hills ∈ tb := (tq_4 (w := Cond.selects RX5 yX5_hills yX5_hills) (tw_selects 10 (by decide +kernel)) rfl)
theorem lk_RL_26 : LkV RL 26 mX5_hills 0 := ⟨(tq_4 (w := Cond.methodLink RL 26 yX5_hills) (tw_methodLink 8 (by decide +kernel)) rfl), tz_200, tz_201, tz_10, tz_199, ⟨by decide +kernel, by decide +kernel, by decide +kernel, by decide +kernel⟩, by decide⟩
theorem tz_202 : Cond.code yX4_hill cX4_hill 3 (some .int) ∈ tb := (tq_2 (w := Cond.code yX4_hill cX4_hill 3 (some .int)) (tw_d 102 (by decide +kernel)) rfl)
theorem tz_203 : Cond.instanceMethod yX4_hill ∈ tb := (tq_2 (w := Cond.instanceMethod yX4_hill) (tw_instanceMethod 100 (by decide +kernel)) rfl)
theorem tz_204 : Cond.selects RX4 yX4_hill yX4_hill ∈ tb := (tq_2 (w := Cond.selects RX4 yX4_hill yX4_hill) (tw_selects 101 (by decide +kernel)) rfl)
theorem lk_RL_27 : LkV RL 27 mX4_hill 2 := ⟨(tq_2 (w := Cond.methodLink RL 27 yX4_hill) (tw_methodLink 99 (by decide +kernel)) rfl), tz_203, tz_204, tz_8, tz_202, ⟨by decide +kernel, by decide +kernel, by decide +kernel, by decide +kernel⟩, by decide⟩
theorem tz_205 : Cond.code yX5_hill cX5_hill 3 (some .int) ∈ tb := (tq_4 (w := Cond.code yX5_hill cX5_hill 3 (some .int)) (tw_d 47 (by decide +kernel)) rfl)
theorem tz_206 : Cond.instanceMethod yX5_hill ∈ tb := (tq_4 (w := Cond.instanceMethod yX5_hill) (tw_instanceMethod 45 (by decide +kernel)) rfl)
theorem tz_207 : Cond.selects RX5 yX5_hill yX5_hill ∈ tb := (tq_4 (w := Cond.selects RX5 yX5_hill yX5_hill) (tw_selects 46 (by decide +kernel)) rfl)
theorem lk_RL_31 : LkV RL 31 mX5_hill 2 := ⟨(tq_4 (w := Cond.methodLink RL 31 yX5_hill) (tw_methodLink 44 (by decide +kernel)) rfl), tz_206, tz_207, tz_10, tz_205, ⟨by decide +kernel, by decide +kernel, by decide +kernel, by decide +kernel⟩, by decide⟩
theorem tz_208 : Cond.code yX4_stone cX4_stone 3 (some .int) ∈ tb := (tq_2 (w := Cond.code yX4_stone cX4_stone 3 (some .int)) (tw_d 107 (by decide +kernel)) rfl)
theorem tz_209 : Cond.instanceMethod yX4_stone ∈ tb := (tq_2 (w := Cond.instanceMethod yX4_stone) (tw_instanceMethod 105 (by decide +kernel)) rfl)
theorem tz_210 : Cond.selects RX4 yX4_stone yX4_stone ∈ tb := (tq_2 (w := Cond.selects RX4 yX4_stone yX4_stone) (tw_selects 106 (by decide +kernel)) rfl)
theorem lk_RL_32 : LkV RL 32 mX4_stone 2 := ⟨(tq_2 (w := Cond.methodLink RL 32 yX4_stone) (tw_methodLink 104 (by decide +kernel)) rfl), tz_209, tz_210, tz_8, tz_208, ⟨by decide +kernel, by decide +kernel, by decide +kernel, by decide +kernel⟩, by decide⟩
theorem tz_211 : Cond.code yX5_stone cX5_stone 3 (some .int) ∈ tb := (tq_4 (w := Cond.code yX5_stone cX5_stone 3 (some .int)) (tw_d 55 (by decide +kernel)) rfl)
theorem tz_212 : Cond.instanceMethod yX5_stone ∈ tb := (tq_4 (w := Cond.instanceMethod yX5_stone) (tw_instanceMethod 53 (by decide +kernel)) rfl)
theorem tz_213 : Cond.selects RX5 yX5_stone yX5_stone ∈ tb := (tq_4 (w := Cond.selects RX5 yX5_stone yX5_stone) (tw_selects 54 (by decide +kernel)) rfl)
theorem lk_RL_35 : LkV RL 35 mX5_stone 2 := ⟨(tq_4 (w := Cond.methodLink RL 35 yX5_stone) (tw_methodLink 52 (by decide +kernel)) rfl), tz_212, tz_213, tz_10, tz_211, ⟨by decide +kernel, by decide +kernel, by decide +kernel, by decide +kernel⟩, by decide⟩
theorem tz_214 : Cond.code yX4_man cX4_man 3 (some .int) ∈ tb := (tq_2 (w := Cond.code yX4_man cX4_man 3 (some .int)) (tw_d 122 (by decide +kernel)) rfl)
theorem tz_215 : Cond.instanceMethod yX4_man ∈ tb := (tq_2 (w := Cond.instanceMethod yX4_man) (tw_instanceMethod 120 (by decide +kernel)) rfl)
theorem tz_216 : Cond.selects RX4 yX4_man yX4_man ∈ tb := (tq_2 (w := Cond.selects RX4 yX4_man yX4_man) (tw_selects 121 (by decide +kernel)) rfl)
theorem lk_RL_36 : LkV RL 36 mX4_man 2 := ⟨(tq_2 (w := Cond.methodLink RL 36 yX4_man) (tw_methodLink 119 (by decide +kernel)) rfl), tz_215, tz_216, tz_8, tz_214, ⟨by decide +kernel, by decide +kernel, by decide +kernel, by decide +kernel⟩, by decide⟩
theorem tz_217 : Cond.code yX5_man cX5_man 3 (some .int) ∈ tb := (tq_4 (w := Cond.code yX5_man cX5_man 3 (some .int)) (tw_d 74 (by decide +kernel)) rfl)
theorem tz_218 : Cond.instanceMethod yX5_man ∈ tb := (tq_4 (w := Cond.instanceMethod yX5_man) (tw_instanceMethod 72 (by decide +kernel)) rfl)
theorem tz_219 : Cond.selects RX5 yX5_man yX5_man ∈ tb := (tq_4 (w := Cond.selects RX5 yX5_man yX5_man) (tw_selects 73 (by decide +kernel)) rfl)
theorem lk_RL_39 : LkV RL 39 mX5_man 2 := ⟨(tq_4 (w := Cond.methodLink RL 39 yX5_man) (tw_methodLink 71 (by decide +kernel)) rfl), tz_218, tz_219, tz_10, tz_217, ⟨by decide +kernel, by decide +kernel, by decide +kernel, by decide +kernel⟩, by decide⟩
theorem tz_220 : Cond.code yX4_now cX4_now 2 (some .int) ∈ tb := (tq_2 (w := Cond.code yX4_now cX4_now 2 (some .int)) (tw_d 130 (by decide +kernel)) rfl)
theorem tz_221 : Cond.instanceMethod yX4_now ∈ tb := (tq_2 (w := Cond.instanceMethod yX4_now) (tw_instanceMethod 128 (by decide +kernel)) rfl)
theorem tz_222 : Cond.selects RX4 yX4_now yX4_now ∈ tb := (tq_2 (w := Cond.selects RX4 yX4_now yX4_now) (tw_selects 129 (by decide +kernel)) rfl)
theorem lk_RL_40 : LkV RL 40 mX4_now 1 := ⟨(tq_2 (w := Cond.methodLink RL 40 yX4_now) (tw_methodLink 127 (by decide +kernel)) rfl), tz_221, tz_222, tz_8, tz_220, ⟨by decide +kernel, by decide +kernel, by decide +kernel, by decide +kernel⟩, by decide⟩
theorem tz_223 : Cond.code yX5_now cX5_now 2 (some .int) ∈ tb := (tq_4 (w := Cond.code yX5_now cX5_now 2 (some .int)) (tw_d 82 (by decide +kernel)) rfl)
theorem tz_224 : Cond.instanceMethod yX5_now ∈ tb := (tq_4 (w := Cond.instanceMethod yX5_now) (tw_instanceMethod 80 (by decide +kernel)) rfl)
theorem tz_225 : Cond.selects RX5 yX5_now yX5_now ∈ tb := (tq_4 (w := Cond.selects RX5 yX5_now yX5_now) (tw_selects 81 (by decide +kernel)) rfl)
theorem lk_RL_43 : LkV RL 43 mX5_now 1 := ⟨(tq_4 (w := Cond.methodLink RL 43 yX5_now) (tw_methodLink 79 (by decide +kernel)) rfl), tz_224, tz_225, tz_10, tz_223, ⟨by decide +kernel, by decide +kernel, by decide +kernel, by decide +kernel⟩, by decide⟩
theorem tz_226 : Cond.code yX4_order cX4_order 4 (some .int) ∈ tb := (tq_2 (w := Cond.code yX4_order cX4_order 4 (some .int)) (tw_d 139 (by decide +kernel)) rfl)
theorem tz_227 : Cond.instanceMethod yX4_order ∈ tb := (tq_2 (w := Cond.instanceMethod yX4_order) (tw_instanceMethod 137 (by decide +kernel)) rfl)
theorem tz_228 : Cond.selects RX4 yX4_order yX4_order ∈ tb := (tq_2 (w := Cond.selects RX4 yX4_order yX4_order) (tw_selects 138 (by decide +kernel)) rfl)
theorem lk_RL_44 : LkV RL 44 mX4_order 2 := ⟨(tq_2 (w := Cond.methodLink RL 44 yX4_order) (tw_methodLink 136 (by decide +kernel)) rfl), tz_227, tz_228, tz_8, tz_226, ⟨by decide +kernel, by decide +kernel, by decide +kernel, by decide +kernel⟩, by decide⟩
theorem tz_229 : Cond.code yX5_order cX5_order 4 (some .int) ∈ tb := (tq_4 (w := Cond.code yX5_order cX5_order 4 (some .int)) (tw_d 90 (by decide +kernel)) rfl)
theorem tz_230 : Cond.instanceMethod yX5_order ∈ tb := (tq_4 (w := Cond.instanceMethod yX5_order) (tw_instanceMethod 88 (by decide +kernel)) rfl)
theorem tz_231 : Cond.selects RX5 yX5_order yX5_order ∈ tb := (tq_4 (w := Cond.selects RX5 yX5_order yX5_order) (tw_selects 89 (by decide +kernel)) rfl)
theorem lk_RL_47 : LkV RL 47 mX5_order 2 := ⟨(tq_4 (w := Cond.methodLink RL 47 yX5_order) (tw_methodLink 87 (by decide +kernel)) rfl), tz_230, tz_231, tz_10, tz_229, ⟨by decide +kernel, by decide +kernel, by decide +kernel, by decide +kernel⟩, by decide⟩
theorem tz_232 : Cond.code yX4_hour cX4_hour 2 (some .int) ∈ tb := (tq_2 (w := Cond.code yX4_hour cX4_hour 2 (some .int)) (tw_d 154 (by decide +kernel)) rfl)
theorem tz_233 : Cond.instanceMethod yX4_hour ∈ tb := (tq_2 (w := Cond.instanceMethod yX4_hour) (tw_instanceMethod 152 (by decide +kernel)) rfl)
theorem tz_234 : Cond.selects RX4 yX4_hour yX4_hour ∈ tb := (tq_2 (w := Cond.selects RX4 yX4_hour yX4_hour) (tw_selects 153 (by decide +kernel)) rfl)
theorem lk_RL_48 : LkV RL 48 mX4_hour 0 := ⟨(tq_2 (w := Cond.methodLink RL 48 yX4_hour) (tw_methodLink 151 (by decide +kernel)) rfl), tz_233, tz_234, tz_8, tz_232, ⟨by decide +kernel, by decide +kernel, by decide +kernel, by decide +kernel⟩, by decide⟩
theorem tz_235 : Cond.code yX5_hour cX5_hour 2 (some .int) ∈ tb := (tq_4 (w := Cond.code yX5_hour cX5_hour 2 (some .int)) (tw_d 102 (by decide +kernel)) rfl)
theorem tz_236 : Cond.instanceMethod yX5_hour ∈ tb := (tq_4 (w := Cond.instanceMethod yX5_hour) (tw_instanceMethod 100 (by decide +kernel)) rfl)
theorem tz_237 : Cond.selects RX5 yX5_hour yX5_hour ∈ tb := (tq_4 (w := Cond.selects RX5 yX5_hour yX5_hour) (tw_selects 101 (by decide +kernel)) rfl)
theorem lk_RL_51 : LkV RL 51 mX5_hour 0 := ⟨(tq_4 (w := Cond.methodLink RL 51 yX5_hour) (tw_methodLink 99 (by decide +kernel)) rfl), tz_236, tz_237, tz_10, tz_235, ⟨by decide +kernel, by decide +kernel, by decide +kernel, by decide +kernel⟩, by decide⟩
theorem tz_238 : Cond.code yX4_undo cX4_undo 1 (some .int) ∈ tb := (tq_2 (w := Cond.code yX4_undo cX4_undo 1 (some .int)) (tw_d 202 (by decide +kernel)) rfl)
theorem tz_239 : Cond.instanceMethod yX4_undo ∈ tb := (tq_2 (w := Cond.instanceMethod yX4_undo) (tw_instanceMethod 200 (by decide +kernel)) rfl)
theorem tz_240 : Cond.selects RX4 yX4_undo yX4_undo ∈ tb := (tq_2 (w := Cond.selects RX4 yX4_undo yX4_undo) (tw_selects 201 (by decide +kernel)) rfl)
theorem lk_RL_52 : LkV RL 52 mX4_undo 0 := ⟨(tq_2 (w := Cond.methodLink RL 52 yX4_undo) (tw_methodLink 199 (by decide +kernel)) rfl), tz_239, tz_240, tz_8, tz_238, ⟨by decide +kernel, by decide +kernel, by decide +kernel, by decide +kernel⟩, by decide⟩
theorem tz_241 : Cond.code yX5_undo cX5_undo 1 (some .int) ∈ tb := (tq_4 (w := Cond.code yX5_undo cX5_undo 1 (some .int)) (tw_d 134 (by decide +kernel)) rfl)
theorem tz_242 : Cond.instanceMethod yX5_undo ∈ tb := (tq_4 (w := Cond.instanceMethod yX5_undo) (tw_instanceMethod 132 (by decide +kernel)) rfl)
theorem tz_243 : Cond.selects RX5 yX5_undo yX5_undo ∈ tb := (tq_4 (w := Cond.selects RX5 yX5_undo yX5_undo) (tw_selects 133 (by decide +kernel)) rfl)
theorem lk_RL_55 : LkV RL 55 mX5_undo 0 := ⟨(tq_4 (w := Cond.methodLink RL 55 yX5_undo) (tw_methodLink 131 (by decide +kernel)) rfl), tz_242, tz_243, tz_10, tz_241, ⟨by decide +kernel, by decide +kernel, by decide +kernel, by decide +kernel⟩, by decide⟩
theorem tz_244 : Cond.code yX4_highest cX4_highest 4 (some .int) ∈ tb := (tq_2 (w := Cond.code yX4_highest cX4_highest 4 (some .int)) (tw_d 206 (by decide +kernel)) rfl)
theorem tz_245 : Cond.instanceMethod yX4_highest ∈ tb := (tq_2 (w := Cond.instanceMethod yX4_highest) (tw_instanceMethod 204 (by decide +kernel)) rfl)
theorem tz_246 : Cond.selects RX4 yX4_highest yX4_highest ∈ tb := (tq_2 (w := Cond.selects RX4 yX4_highest yX4_highest) (tw_selects 205 (by decide +kernel)) rfl)
theorem lk_RL_56 : LkV RL 56 mX4_highest 2 := ⟨(tq_2 (w := Cond.methodLink RL 56 yX4_highest) (tw_methodLink 203 (by decide +kernel)) rfl), tz_245, tz_246, tz_8, tz_244, ⟨by decide +kernel, by decide +kernel, by decide +kernel, by decide +kernel⟩, by decide⟩
theorem tz_247 : Cond.code yX5_highest cX5_highest 9 (some .int) ∈ tb := (tq_4 (w := Cond.code yX5_highest cX5_highest 9 (some .int)) (tw_d 138 (by decide +kernel)) rfl)
theorem tz_248 : Cond.instanceMethod yX5_highest ∈ tb := (tq_4 (w := Cond.instanceMethod yX5_highest) (tw_instanceMethod 136 (by decide +kernel)) rfl)
theorem tz_249 : Cond.selects RX5 yX5_highest yX5_highest ∈ tb := (tq_4 (w := Cond.selects RX5 yX5_highest yX5_highest) (tw_selects 137 (by decide +kernel)) rfl)
theorem lk_RL_59 : LkV RL 59 mX5_highest 2 := ⟨(tq_4 (w := Cond.methodLink RL 59 yX5_highest) (tw_methodLink 135 (by decide +kernel)) rfl), tz_248, tz_249, tz_10, tz_247, ⟨by decide +kernel, by decide +kernel, by decide +kernel, by decide +kernel⟩, by decide⟩
theorem tz_250 : Cond.code yX4_days cX4_days 3 (some .int) ∈ tb := (tq_3 (w := Cond.code yX4_days cX4_days 3 (some .int)) (tw_d 6 (by decide +kernel)) rfl)
theorem tz_251 : Cond.instanceMethod yX4_days ∈ tb := (tq_3 (w := Cond.instanceMethod yX4_days) (tw_instanceMethod 4 (by decide +kernel)) rfl)
theorem tz_252 : Cond.selects RX4 yX4_days yX4_days ∈ tb := (tq_3 (w := Cond.selects RX4 yX4_days yX4_days) (tw_selects 5 (by decide +kernel)) rfl)
theorem lk_RL_60 : LkV RL 60 mX4_days 1 := ⟨(tq_3 (w := Cond.methodLink RL 60 yX4_days) (tw_methodLink 3 (by decide +kernel)) rfl), tz_251, tz_252, tz_8, tz_250, ⟨by decide +kernel, by decide +kernel, by decide +kernel, by decide +kernel⟩, by decide⟩
theorem tz_253 : Cond.code yX5_days cX5_days 3 (some .int) ∈ tb := (tq_4 (w := Cond.code yX5_days cX5_days 3 (some .int)) (tw_d 154 (by decide +kernel)) rfl)
theorem tz_254 : Cond.instanceMethod yX5_days ∈ tb := (tq_4 (w := Cond.instanceMethod yX5_days) (tw_instanceMethod 152 (by decide +kernel)) rfl)
theorem tz_255 : Cond.selects RX5 yX5_days yX5_days ∈ tb := (tq_4 (w := Cond.selects RX5 yX5_days yX5_days) (tw_selects 153 (by decide +kernel)) rfl)
theorem lk_RL_63 : LkV RL 63 mX5_days 1 := ⟨(tq_4 (w := Cond.methodLink RL 63 yX5_days) (tw_methodLink 151 (by decide +kernel)) rfl), tz_254, tz_255, tz_10, tz_253, ⟨by decide +kernel, by decide +kernel, by decide +kernel, by decide +kernel⟩, by decide⟩
theorem tz_256 : Cond.code yX4_little cX4_little 4 (some .int) ∈ tb := (tq_3 (w := Cond.code yX4_little cX4_little 4 (some .int)) (tw_d 20 (by decide +kernel)) rfl)
theorem tz_257 : Cond.instanceMethod yX4_little ∈ tb := (tq_3 (w := Cond.instanceMethod yX4_little) (tw_instanceMethod 18 (by decide +kernel)) rfl)
theorem tz_258 : Cond.selects RX4 yX4_little yX4_little ∈ tb := (tq_3 (w := Cond.selects RX4 yX4_little yX4_little) (tw_selects 19 (by decide +kernel)) rfl)
theorem lk_RL_64 : LkV RL 64 mX4_little 1 := ⟨(tq_3 (w := Cond.methodLink RL 64 yX4_little) (tw_methodLink 17 (by decide +kernel)) rfl), tz_257, tz_258, tz_8, tz_256, ⟨by decide +kernel, by decide +kernel, by decide +kernel, by decide +kernel⟩, by decide⟩
theorem tz_259 : Cond.code yX5_little cX5_little 3 (some .int) ∈ tb := (tq_4 (w := Cond.code yX5_little cX5_little 3 (some .int)) (tw_d 162 (by decide +kernel)) rfl)
theorem tz_260 : Cond.instanceMethod yX5_little ∈ tb := (tq_4 (w := Cond.instanceMethod yX5_little) (tw_instanceMethod 160 (by decide +kernel)) rfl)
theorem tz_261 : Cond.selects RX5 yX5_little yX5_little ∈ tb := (tq_4 (w := Cond.selects RX5 yX5_little yX5_little) (tw_selects 161 (by decide +kernel)) rfl)
theorem lk_RL_67 : LkV RL 67 mX5_little 1 := ⟨(tq_4 (w := Cond.methodLink RL 67 yX5_little) (tw_methodLink 159 (by decide +kernel)) rfl), tz_260, tz_261, tz_10, tz_259, ⟨by decide +kernel, by decide +kernel, by decide +kernel, by decide +kernel⟩, by decide⟩
theorem tz_262 : Cond.code yX4_crew cX4_crew 6 (some .int) ∈ tb := (tq_3 (w := Cond.code yX4_crew cX4_crew 6 (some .int)) (tw_d 30 (by decide +kernel)) rfl)
theorem tz_263 : Cond.instanceMethod yX4_crew ∈ tb := (tq_3 (w := Cond.instanceMethod yX4_crew) (tw_instanceMethod 28 (by decide +kernel)) rfl)
theorem tz_264 : Cond.selects RX4 yX4_crew yX4_crew ∈ tb := (tq_3 (w := Cond.selects RX4 yX4_crew yX4_crew) (tw_selects 29 (by decide +kernel)) rfl)
theorem lk_RL_68 : LkV RL 68 mX4_crew 1 := ⟨(tq_3 (w := Cond.methodLink RL 68 yX4_crew) (tw_methodLink 27 (by decide +kernel)) rfl), tz_263, tz_264, tz_8, tz_262, ⟨by decide +kernel, by decide +kernel, by decide +kernel, by decide +kernel⟩, by decide⟩
theorem tz_265 : Cond.code yX5_crew cX5_crew 6 (some .int) ∈ tb := (tq_4 (w := Cond.code yX5_crew cX5_crew 6 (some .int)) (tw_d 170 (by decide +kernel)) rfl)
theorem tz_266 : Cond.instanceMethod yX5_crew ∈ tb := (tq_4 (w := Cond.instanceMethod yX5_crew) (tw_instanceMethod 168 (by decide +kernel)) rfl)
theorem tz_267 : Cond.selects RX5 yX5_crew yX5_crew ∈ tb := (tq_4 (w := Cond.selects RX5 yX5_crew yX5_crew) (tw_selects 169 (by decide +kernel)) rfl)
theorem lk_RL_71 : LkV RL 71 mX5_crew 1 := ⟨(tq_4 (w := Cond.methodLink RL 71 yX5_crew) (tw_methodLink 167 (by decide +kernel)) rfl), tz_266, tz_267, tz_10, tz_265, ⟨by decide +kernel, by decide +kernel, by decide +kernel, by decide +kernel⟩, by decide⟩
theorem tz_268 : Cond.code yX4_blocks cX4_blocks 2 (some .int) ∈ tb := (tq_3 (w := Cond.code yX4_blocks cX4_blocks 2 (some .int)) (tw_d 45 (by decide +kernel)) rfl)
theorem tz_269 : Cond.instanceMethod yX4_blocks ∈ tb := (tq_3 (w := Cond.instanceMethod yX4_blocks) (tw_instanceMethod 43 (by decide +kernel)) rfl)
theorem tz_270 : Cond.selects RX4 yX4_blocks yX4_blocks ∈ tb := (tq_3 (w := Cond.selects RX4 yX4_blocks yX4_blocks) (tw_selects 44 (by decide +kernel)) rfl)
theorem lk_RL_72 : LkV RL 72 mX4_blocks 1 := ⟨(tq_3 (w := Cond.methodLink RL 72 yX4_blocks) (tw_methodLink 42 (by decide +kernel)) rfl), tz_269, tz_270, tz_8, tz_268, ⟨by decide +kernel, by decide +kernel, by decide +kernel, by decide +kernel⟩, by decide⟩
theorem tz_271 : Cond.code yX5_blocks cX5_blocks 2 (some .int) ∈ tb := (tq_4 (w := Cond.code yX5_blocks cX5_blocks 2 (some .int)) (tw_d 177 (by decide +kernel)) rfl)
theorem tz_272 : Cond.instanceMethod yX5_blocks ∈ tb := (tq_4 (w := Cond.instanceMethod yX5_blocks) (tw_instanceMethod 175 (by decide +kernel)) rfl)
theorem tz_273 : Cond.selects RX5 yX5_blocks yX5_blocks ∈ tb := (tq_4 (w := Cond.selects RX5 yX5_blocks yX5_blocks) (tw_selects 176 (by decide +kernel)) rfl)
theorem lk_RL_75 : LkV RL 75 mX5_blocks 1 := ⟨(tq_4 (w := Cond.methodLink RL 75 yX5_blocks) (tw_methodLink 174 (by decide +kernel)) rfl), tz_272, tz_273, tz_10, tz_271, ⟨by decide +kernel, by decide +kernel, by decide +kernel, by decide +kernel⟩, by decide⟩
theorem tz_274 : Cond.code yX4_written cX4_written 3 (some .int) ∈ tb := (tq_3 (w := Cond.code yX4_written cX4_written 3 (some .int)) (tw_d 50 (by decide +kernel)) rfl)
theorem tz_275 : Cond.instanceMethod yX4_written ∈ tb := (tq_3 (w := Cond.instanceMethod yX4_written) (tw_instanceMethod 48 (by decide +kernel)) rfl)
theorem tz_276 : Cond.selects RX4 yX4_written yX4_written ∈ tb := (tq_3 (w := Cond.selects RX4 yX4_written yX4_written) (tw_selects 49 (by decide +kernel)) rfl)
theorem lk_RL_76 : LkV RL 76 mX4_written 2 := ⟨(tq_3 (w := Cond.methodLink RL 76 yX4_written) (tw_methodLink 47 (by decide +kernel)) rfl), tz_275, tz_276, tz_8, tz_274, ⟨by decide +kernel, by decide +kernel, by decide +kernel, by decide +kernel⟩, by decide⟩
theorem tz_277 : Cond.code yX5_written cX5_written 3 (some .int) ∈ tb := (tq_4 (w := Cond.code yX5_written cX5_written 3 (some .int)) (tw_d 181 (by decide +kernel)) rfl)
theorem tz_278 : Cond.instanceMethod yX5_written ∈ tb := (tq_4 (w := Cond.instanceMethod yX5_written) (tw_instanceMethod 179 (by decide +kernel)) rfl)
theorem tz_279 : Cond.selects RX5 yX5_written yX5_written ∈ tb := (tq_4 (w := Cond.selects RX5 yX5_written yX5_written) (tw_selects 180 (by decide +kernel)) rfl)
theorem lk_RL_79 : LkV RL 79 mX5_written 2 := ⟨(tq_4 (w := Cond.methodLink RL 79 yX5_written) (tw_methodLink 178 (by decide +kernel)) rfl), tz_278, tz_279, tz_10, tz_277, ⟨by decide +kernel, by decide +kernel, by decide +kernel, by decide +kernel⟩, by decide⟩
theorem tz_280 : Cond.code yX4_saw cX4_saw 3 (some .int) ∈ tb := (tq_3 (w := Cond.code yX4_saw cX4_saw 3 (some .int)) (tw_d 58 (by decide +kernel)) rfl)
theorem tz_281 : Cond.instanceMethod yX4_saw ∈ tb := (tq_3 (w := Cond.instanceMethod yX4_saw) (tw_instanceMethod 56 (by decide +kernel)) rfl)
theorem tz_282 : Cond.selects RX4 yX4_saw yX4_saw ∈ tb := (tq_3 (w := Cond.selects RX4 yX4_saw yX4_saw) (tw_selects 57 (by decide +kernel)) rfl)
theorem lk_RL_80 : LkV RL 80 mX4_saw 2 := ⟨(tq_3 (w := Cond.methodLink RL 80 yX4_saw) (tw_methodLink 55 (by decide +kernel)) rfl), tz_281, tz_282, tz_8, tz_280, ⟨by decide +kernel, by decide +kernel, by decide +kernel, by decide +kernel⟩, by decide⟩
theorem tz_283 : Cond.code yX5_saw cX5_saw 3 (some .int) ∈ tb := (tq_4 (w := Cond.code yX5_saw cX5_saw 3 (some .int)) (tw_d 185 (by decide +kernel)) rfl)
theorem tz_284 : Cond.instanceMethod yX5_saw ∈ tb := (tq_4 (w := Cond.instanceMethod yX5_saw) (tw_instanceMethod 183 (by decide +kernel)) rfl)
theorem tz_285 : Cond.selects RX5 yX5_saw yX5_saw ∈ tb := (tq_4 (w := Cond.selects RX5 yX5_saw yX5_saw) (tw_selects 184 (by decide +kernel)) rfl)
theorem lk_RL_83 : LkV RL 83 mX5_saw 2 := ⟨(tq_4 (w := Cond.methodLink RL 83 yX5_saw) (tw_methodLink 182 (by decide +kernel)) rfl), tz_284, tz_285, tz_10, tz_283, ⟨by decide +kernel, by decide +kernel, by decide +kernel, by decide +kernel⟩, by decide⟩
theorem tz_286 : Cond.code yX4_forget cX4_forget 2 (some .int) ∈ tb := (tq_3 (w := Cond.code yX4_forget cX4_forget 2 (some .int)) (tw_d 62 (by decide +kernel)) rfl)
theorem tz_287 : Cond.instanceMethod yX4_forget ∈ tb := (tq_3 (w := Cond.instanceMethod yX4_forget) (tw_instanceMethod 60 (by decide +kernel)) rfl)
theorem tz_288 : Cond.selects RX4 yX4_forget yX4_forget ∈ tb := (tq_3 (w := Cond.selects RX4 yX4_forget yX4_forget) (tw_selects 61 (by decide +kernel)) rfl)
theorem lk_RL_84 : LkV RL 84 mX4_forget 0 := ⟨(tq_3 (w := Cond.methodLink RL 84 yX4_forget) (tw_methodLink 59 (by decide +kernel)) rfl), tz_287, tz_288, tz_8, tz_286, ⟨by decide +kernel, by decide +kernel, by decide +kernel, by decide +kernel⟩, by decide⟩
theorem tz_289 : Cond.code yX5_forget cX5_forget 2 (some .int) ∈ tb := (tq_4 (w := Cond.code yX5_forget cX5_forget 2 (some .int)) (tw_d 190 (by decide +kernel)) rfl)
theorem tz_290 : Cond.instanceMethod yX5_forget ∈ tb := (tq_4 (w := Cond.instanceMethod yX5_forget) (tw_instanceMethod 188 (by decide +kernel)) rfl)
theorem tz_291 : Cond.selects RX5 yX5_forget yX5_forget ∈ tb := (tq_4 (w := Cond.selects RX5 yX5_forget yX5_forget) (tw_selects 189 (by decide +kernel)) rfl)
theorem lk_RL_87 : LkV RL 87 mX5_forget 0 := ⟨(tq_4 (w := Cond.methodLink RL 87 yX5_forget) (tw_methodLink 187 (by decide +kernel)) rfl), tz_290, tz_291, tz_10, tz_289, ⟨by decide +kernel, by decide +kernel, by decide +kernel, by decide +kernel⟩, by decide⟩
theorem tz_292 : Cond.code yX4_evening cX4_evening 3 (some .int) ∈ tb := (tq_3 (w := Cond.code yX4_evening cX4_evening 3 (some .int)) (tw_d 66 (by decide +kernel)) rfl)
theorem tz_293 : Cond.instanceMethod yX4_evening ∈ tb := (tq_3 (w := Cond.instanceMethod yX4_evening) (tw_instanceMethod 64 (by decide +kernel)) rfl)
theorem tz_294 : Cond.selects RX4 yX4_evening yX4_evening ∈ tb := (tq_3 (w := Cond.selects RX4 yX4_evening yX4_evening) (tw_selects 65 (by decide +kernel)) rfl)
theorem lk_RL_88 : LkV RL 88 mX4_evening 0 := ⟨(tq_3 (w := Cond.methodLink RL 88 yX4_evening) (tw_methodLink 63 (by decide +kernel)) rfl), tz_293, tz_294, tz_8, tz_292, ⟨by decide +kernel, by decide +kernel, by decide +kernel, by decide +kernel⟩, by decide⟩
theorem tz_295 : Cond.code yX5_evening cX5_evening 5 (some .int) ∈ tb := (tq_4 (w := Cond.code yX5_evening cX5_evening 5 (some .int)) (tw_d 194 (by decide +kernel)) rfl)
theorem tz_296 : Cond.instanceMethod yX5_evening ∈ tb := (tq_4 (w := Cond.instanceMethod yX5_evening) (tw_instanceMethod 192 (by decide +kernel)) rfl)
theorem tz_297 : Cond.selects RX5 yX5_evening yX5_evening ∈ tb := (tq_4 (w := Cond.selects RX5 yX5_evening yX5_evening) (tw_selects 193 (by decide +kernel)) rfl)
theorem lk_RL_91 : LkV RL 91 mX5_evening 0 := ⟨(tq_4 (w := Cond.methodLink RL 91 yX5_evening) (tw_methodLink 191 (by decide +kernel)) rfl), tz_296, tz_297, tz_10, tz_295, ⟨by decide +kernel, by decide +kernel, by decide +kernel, by decide +kernel⟩, by decide⟩
theorem tz_298 : Cond.code yX4_odds cX4_odds 14 (some .long) ∈ tb := (tq_3 (w := Cond.code yX4_odds cX4_odds 14 (some .long)) (tw_d 74 (by decide +kernel)) rfl)
theorem tz_299 : Cond.instanceMethod yX4_odds ∈ tb := (tq_3 (w := Cond.instanceMethod yX4_odds) (tw_instanceMethod 72 (by decide +kernel)) rfl)
theorem tz_300 : Cond.selects RX4 yX4_odds yX4_odds ∈ tb := (tq_3 (w := Cond.selects RX4 yX4_odds yX4_odds) (tw_selects 73 (by decide +kernel)) rfl)
theorem lk_RL_92 : LkV RL 92 mX4_odds 4 := ⟨(tq_3 (w := Cond.methodLink RL 92 yX4_odds) (tw_methodLink 71 (by decide +kernel)) rfl), tz_299, tz_300, tz_8, tz_298, ⟨by decide +kernel, by decide +kernel, by decide +kernel, by decide +kernel⟩, by decide⟩
theorem tz_301 : Cond.code yX5_odds cX5_odds 13 (some .long) ∈ tb := (tq_4 (w := Cond.code yX5_odds cX5_odds 13 (some .long)) (tw_d 198 (by decide +kernel)) rfl)
theorem tz_302 : Cond.instanceMethod yX5_odds ∈ tb := (tq_4 (w := Cond.instanceMethod yX5_odds) (tw_instanceMethod 196 (by decide +kernel)) rfl)
theorem tz_303 : Cond.selects RX5 yX5_odds yX5_odds ∈ tb := (tq_4 (w := Cond.selects RX5 yX5_odds yX5_odds) (tw_selects 197 (by decide +kernel)) rfl)
theorem lk_RL_96 : LkV RL 96 mX5_odds 4 := ⟨(tq_4 (w := Cond.methodLink RL 96 yX5_odds) (tw_methodLink 195 (by decide +kernel)) rfl), tz_302, tz_303, tz_10, tz_301, ⟨by decide +kernel, by decide +kernel, by decide +kernel, by decide +kernel⟩, by decide⟩
theorem tz_304 : Cond.code yX4_wear cX4_wear 4 (some .int) ∈ tb := (tq_3 (w := Cond.code yX4_wear cX4_wear 4 (some .int)) (tw_d 92 (by decide +kernel)) rfl)
theorem tz_305 : Cond.instanceMethod yX4_wear ∈ tb := (tq_3 (w := Cond.instanceMethod yX4_wear) (tw_instanceMethod 90 (by decide +kernel)) rfl)
theorem tz_306 : Cond.selects RX4 yX4_wear yX4_wear ∈ tb := (tq_3 (w := Cond.selects RX4 yX4_wear yX4_wear) (tw_selects 91 (by decide +kernel)) rfl)
theorem lk_RL_97 : LkV RL 97 mX4_wear 2 := ⟨(tq_3 (w := Cond.methodLink RL 97 yX4_wear) (tw_methodLink 89 (by decide +kernel)) rfl), tz_305, tz_306, tz_8, tz_304, ⟨by decide +kernel, by decide +kernel, by decide +kernel, by decide +kernel⟩, by decide⟩
theorem tz_307 : Cond.code yX5_wear cX5_wear 4 (some .int) ∈ tb := (tq_4 (w := Cond.code yX5_wear cX5_wear 4 (some .int)) (tw_d 208 (by decide +kernel)) rfl)
theorem tz_308 : Cond.instanceMethod yX5_wear ∈ tb := (tq_4 (w := Cond.instanceMethod yX5_wear) (tw_instanceMethod 206 (by decide +kernel)) rfl)
theorem tz_309 : Cond.selects RX5 yX5_wear yX5_wear ∈ tb := (tq_4 (w := Cond.selects RX5 yX5_wear yX5_wear) (tw_selects 207 (by decide +kernel)) rfl)
theorem lk_RL_100 : LkV RL 100 mX5_wear 2 := ⟨(tq_4 (w := Cond.methodLink RL 100 yX5_wear) (tw_methodLink 205 (by decide +kernel)) rfl), tz_308, tz_309, tz_10, tz_307, ⟨by decide +kernel, by decide +kernel, by decide +kernel, by decide +kernel⟩, by decide⟩
theorem tz_310 : Cond.code yX4_rate cX4_rate 3 (some .int) ∈ tb := (tq_3 (w := Cond.code yX4_rate cX4_rate 3 (some .int)) (tw_d 96 (by decide +kernel)) rfl)
theorem tz_311 : Cond.instanceMethod yX4_rate ∈ tb := (tq_3 (w := Cond.instanceMethod yX4_rate) (tw_instanceMethod 94 (by decide +kernel)) rfl)
theorem tz_312 : Cond.selects RX4 yX4_rate yX4_rate ∈ tb := (tq_3 (w := Cond.selects RX4 yX4_rate yX4_rate) (tw_selects 95 (by decide +kernel)) rfl)
theorem lk_RL_101 : LkV RL 101 mX4_rate 2 := ⟨(tq_3 (w := Cond.methodLink RL 101 yX4_rate) (tw_methodLink 93 (by decide +kernel)) rfl), tz_311, tz_312, tz_8, tz_310, ⟨by decide +kernel, by decide +kernel, by decide +kernel, by decide +kernel⟩, by decide⟩
theorem tz_313 : Cond.code yX5_rate cX5_rate 3 (some .int) ∈ tb := (tq_4 (w := Cond.code yX5_rate cX5_rate 3 (some .int)) (tw_d 212 (by decide +kernel)) rfl)
theorem tz_314 : Cond.instanceMethod yX5_rate ∈ tb := (tq_4 (w := Cond.instanceMethod yX5_rate) (tw_instanceMethod 210 (by decide +kernel)) rfl)
theorem tz_315 : Cond.selects RX5 yX5_rate yX5_rate ∈ tb := (tq_4 (w := Cond.selects RX5 yX5_rate yX5_rate) (tw_selects 211 (by decide +kernel)) rfl)
theorem lk_RL_104 : LkV RL 104 mX5_rate 2 := ⟨(tq_4 (w := Cond.methodLink RL 104 yX5_rate) (tw_methodLink 209 (by decide +kernel)) rfl), tz_314, tz_315, tz_10, tz_313, ⟨by decide +kernel, by decide +kernel, by decide +kernel, by decide +kernel⟩, by decide⟩
theorem tz_316 : Cond.code yX4_keep cX4_keep 2 (some .int) ∈ tb := (tq_3 (w := Cond.code yX4_keep cX4_keep 2 (some .int)) (tw_d 113 (by decide +kernel)) rfl)
theorem tz_317 : Cond.instanceMethod yX4_keep ∈ tb := (tq_3 (w := Cond.instanceMethod yX4_keep) (tw_instanceMethod 111 (by decide +kernel)) rfl)
theorem tz_318 : Cond.selects RX4 yX4_keep yX4_keep ∈ tb := (tq_3 (w := Cond.selects RX4 yX4_keep yX4_keep) (tw_selects 112 (by decide +kernel)) rfl)
theorem lk_RL_105 : LkV RL 105 mX4_keep 1 := ⟨(tq_3 (w := Cond.methodLink RL 105 yX4_keep) (tw_methodLink 110 (by decide +kernel)) rfl), tz_317, tz_318, tz_8, tz_316, ⟨by decide +kernel, by decide +kernel, by decide +kernel, by decide +kernel⟩, by decide⟩
theorem tz_319 : Cond.code yX5_keep cX5_keep 2 (some .int) ∈ tb := (tq_5 (w := Cond.code yX5_keep cX5_keep 2 (some .int)) (tw_d 6 (by decide +kernel)) rfl)
theorem tz_320 : Cond.instanceMethod yX5_keep ∈ tb := (tq_5 (w := Cond.instanceMethod yX5_keep) (tw_instanceMethod 4 (by decide +kernel)) rfl)
theorem tz_321 : Cond.selects RX5 yX5_keep yX5_keep ∈ tb := (tq_5 (w := Cond.selects RX5 yX5_keep yX5_keep) (tw_selects 5 (by decide +kernel)) rfl)
theorem lk_RL_108 : LkV RL 108 mX5_keep 1 := ⟨(tq_5 (w := Cond.methodLink RL 108 yX5_keep) (tw_methodLink 3 (by decide +kernel)) rfl), tz_320, tz_321, tz_10, tz_319, ⟨by decide +kernel, by decide +kernel, by decide +kernel, by decide +kernel⟩, by decide⟩
theorem tz_322 : Cond.code yX4_back cX4_back 2 (some .int) ∈ tb := (tq_3 (w := Cond.code yX4_back cX4_back 2 (some .int)) (tw_d 117 (by decide +kernel)) rfl)
theorem tz_323 : Cond.instanceMethod yX4_back ∈ tb := (tq_3 (w := Cond.instanceMethod yX4_back) (tw_instanceMethod 115 (by decide +kernel)) rfl)
theorem tz_324 : Cond.selects RX4 yX4_back yX4_back ∈ tb := (tq_3 (w := Cond.selects RX4 yX4_back yX4_back) (tw_selects 116 (by decide +kernel)) rfl)
theorem lk_RL_109 : LkV RL 109 mX4_back 1 := ⟨(tq_3 (w := Cond.methodLink RL 109 yX4_back) (tw_methodLink 114 (by decide +kernel)) rfl), tz_323, tz_324, tz_8, tz_322, ⟨by decide +kernel, by decide +kernel, by decide +kernel, by decide +kernel⟩, by decide⟩
theorem tz_325 : Cond.code yX5_back cX5_back 2 (some .int) ∈ tb := (tq_5 (w := Cond.code yX5_back cX5_back 2 (some .int)) (tw_d 10 (by decide +kernel)) rfl)
theorem tz_326 : Cond.instanceMethod yX5_back ∈ tb := (tq_5 (w := Cond.instanceMethod yX5_back) (tw_instanceMethod 8 (by decide +kernel)) rfl)
theorem tz_327 : Cond.selects RX5 yX5_back yX5_back ∈ tb := (tq_5 (w := Cond.selects RX5 yX5_back yX5_back) (tw_selects 9 (by decide +kernel)) rfl)
theorem lk_RL_112 : LkV RL 112 mX5_back 1 := ⟨(tq_5 (w := Cond.methodLink RL 112 yX5_back) (tw_methodLink 7 (by decide +kernel)) rfl), tz_326, tz_327, tz_10, tz_325, ⟨by decide +kernel, by decide +kernel, by decide +kernel, by decide +kernel⟩, by decide⟩
theorem tz_328 : Cond.code yX4_count cX4_count 2 (some .int) ∈ tb := (tq_3 (w := Cond.code yX4_count cX4_count 2 (some .int)) (tw_d 121 (by decide +kernel)) rfl)
theorem tz_329 : Cond.instanceMethod yX4_count ∈ tb := (tq_3 (w := Cond.instanceMethod yX4_count) (tw_instanceMethod 119 (by decide +kernel)) rfl)
theorem tz_330 : Cond.selects RX4 yX4_count yX4_count ∈ tb := (tq_3 (w := Cond.selects RX4 yX4_count yX4_count) (tw_selects 120 (by decide +kernel)) rfl)
theorem lk_RL_113 : LkV RL 113 mX4_count 1 := ⟨(tq_3 (w := Cond.methodLink RL 113 yX4_count) (tw_methodLink 118 (by decide +kernel)) rfl), tz_329, tz_330, tz_8, tz_328, ⟨by decide +kernel, by decide +kernel, by decide +kernel, by decide +kernel⟩, by decide⟩
theorem tz_331 : Cond.code yX5_count cX5_count 2 (some .int) ∈ tb := (tq_5 (w := Cond.code yX5_count cX5_count 2 (some .int)) (tw_d 14 (by decide +kernel)) rfl)
theorem tz_332 : Cond.instanceMethod yX5_count ∈ tb := (tq_5 (w := Cond.instanceMethod yX5_count) (tw_instanceMethod 12 (by decide +kernel)) rfl)
theorem tz_333 : Cond.selects RX5 yX5_count yX5_count ∈ tb := (tq_5 (w := Cond.selects RX5 yX5_count yX5_count) (tw_selects 13 (by decide +kernel)) rfl)
theorem lk_RL_116 : LkV RL 116 mX5_count 1 := ⟨(tq_5 (w := Cond.methodLink RL 116 yX5_count) (tw_methodLink 11 (by decide +kernel)) rfl), tz_332, tz_333, tz_10, tz_331, ⟨by decide +kernel, by decide +kernel, by decide +kernel, by decide +kernel⟩, by decide⟩
theorem tz_334 : Cond.code yX4_trace cX4_trace 1 (some .long) ∈ tb := (tq_3 (w := Cond.code yX4_trace cX4_trace 1 (some .long)) (tw_d 125 (by decide +kernel)) rfl)
theorem tz_335 : Cond.instanceMethod yX4_trace ∈ tb := (tq_3 (w := Cond.instanceMethod yX4_trace) (tw_instanceMethod 123 (by decide +kernel)) rfl)
theorem tz_336 : Cond.selects RX4 yX4_trace yX4_trace ∈ tb := (tq_3 (w := Cond.selects RX4 yX4_trace yX4_trace) (tw_selects 124 (by decide +kernel)) rfl)
theorem lk_RL_117 : LkV RL 117 mX4_trace 0 := ⟨(tq_3 (w := Cond.methodLink RL 117 yX4_trace) (tw_methodLink 122 (by decide +kernel)) rfl), tz_335, tz_336, tz_8, tz_334, ⟨by decide +kernel, by decide +kernel, by decide +kernel, by decide +kernel⟩, by decide⟩
theorem tz_337 : Cond.code yX5_trace cX5_trace 1 (some .long) ∈ tb := (tq_5 (w := Cond.code yX5_trace cX5_trace 1 (some .long)) (tw_d 18 (by decide +kernel)) rfl)
theorem tz_338 : Cond.instanceMethod yX5_trace ∈ tb := (tq_5 (w := Cond.instanceMethod yX5_trace) (tw_instanceMethod 16 (by decide +kernel)) rfl)
theorem tz_339 : Cond.selects RX5 yX5_trace yX5_trace ∈ tb := (tq_5 (w := Cond.selects RX5 yX5_trace yX5_trace) (tw_selects 17 (by decide +kernel)) rfl)
theorem lk_RL_121 : LkV RL 121 mX5_trace 0 := ⟨(tq_5 (w := Cond.methodLink RL 121 yX5_trace) (tw_methodLink 15 (by decide +kernel)) rfl), tz_338, tz_339, tz_10, tz_337, ⟨by decide +kernel, by decide +kernel, by decide +kernel, by decide +kernel⟩, by decide⟩
theorem tz_340 : Cond.code yX5_begin cX5_begin 2 none ∈ tb := (tq_3 (w := Cond.code yX5_begin cX5_begin 2 none) (tw_d 135 (by decide +kernel)) rfl)
theorem tz_341 : Cond.instanceMethod yX5_begin ∈ tb := (tq_3 (w := Cond.instanceMethod yX5_begin) (tw_instanceMethod 134 (by decide +kernel)) rfl)
theorem tz_342 : Cond.selects RX5 yX5_begin yX5_begin ∈ tb := (tq_0 (w := Cond.selects RX5 yX5_begin yX5_begin) (tw_selects 5 (by decide +kernel)) rfl)
theorem lk_RX5_54 : LkV RX5 54 mX5_begin 0 := ⟨(tq_3 (w := Cond.methodLink RX5 54 yX5_begin) (tw_methodLink 132 (by decide +kernel)) rfl), tz_341, tz_342, tz_10, tz_340, ⟨by decide +kernel, by decide +kernel, by decide +kernel, by decide +kernel⟩, by decide⟩
theorem tz_343 : Cond.code yX5_next cX5_next 3 none ∈ tb := (tq_4 (w := Cond.code yX5_next cX5_next 3 none) (tw_d 15 (by decide +kernel)) rfl)
theorem tz_344 : Cond.instanceMethod yX5_next ∈ tb := (tq_4 (w := Cond.instanceMethod yX5_next) (tw_instanceMethod 14 (by decide +kernel)) rfl)
theorem tz_345 : Cond.selects RX5 yX5_next yX5_next ∈ tb := (tq_0 (w := Cond.selects RX5 yX5_next yX5_next) (tw_selects 6 (by decide +kernel)) rfl)
theorem lk_RX5_89 : LkV RX5 89 mX5_next 0 := ⟨(tq_4 (w := Cond.methodLink RX5 89 yX5_next) (tw_methodLink 12 (by decide +kernel)) rfl), tz_344, tz_345, tz_10, tz_343, ⟨by decide +kernel, by decide +kernel, by decide +kernel, by decide +kernel⟩, by decide⟩
theorem tz_346 : Cond.code yX5_want cX5_want 2 (some .boolean) ∈ tb := (tq_4 (w := Cond.code yX5_want cX5_want 2 (some .boolean)) (tw_d 28 (by decide +kernel)) rfl)
theorem tz_347 : Cond.instanceMethod yX5_want ∈ tb := (tq_4 (w := Cond.instanceMethod yX5_want) (tw_instanceMethod 27 (by decide +kernel)) rfl)
theorem tz_348 : Cond.selects RX5 yX5_want yX5_want ∈ tb := (tq_0 (w := Cond.selects RX5 yX5_want yX5_want) (tw_selects 8 (by decide +kernel)) rfl)
theorem lk_RX5_92 : LkV RX5 92 mX5_want 1 := ⟨(tq_4 (w := Cond.methodLink RX5 92 yX5_want) (tw_methodLink 25 (by decide +kernel)) rfl), tz_347, tz_348, tz_10, tz_346, ⟨by decide +kernel, by decide +kernel, by decide +kernel, by decide +kernel⟩, by decide⟩
theorem tz_349 : Cond.code yX5_takeNumber cX5_takeNumber 3 (some .int) ∈ tb := (tq_4 (w := Cond.code yX5_takeNumber cX5_takeNumber 3 (some .int)) (tw_d 36 (by decide +kernel)) rfl)
theorem tz_350 : Cond.instanceMethod yX5_takeNumber ∈ tb := (tq_4 (w := Cond.instanceMethod yX5_takeNumber) (tw_instanceMethod 35 (by decide +kernel)) rfl)
theorem tz_351 : Cond.selects RX5 yX5_takeNumber yX5_takeNumber ∈ tb := (tq_0 (w := Cond.selects RX5 yX5_takeNumber yX5_takeNumber) (tw_selects 10 (by decide +kernel)) rfl)
theorem lk_RX5_99 : LkV RX5 99 mX5_takeNumber 2 := ⟨(tq_4 (w := Cond.methodLink RX5 99 yX5_takeNumber) (tw_methodLink 33 (by decide +kernel)) rfl), tz_350, tz_351, tz_10, tz_349, ⟨by decide +kernel, by decide +kernel, by decide +kernel, by decide +kernel⟩, by decide⟩
theorem tz_352 : Cond.code yX5_takeHill cX5_takeHill 2 none ∈ tb := (tq_4 (w := Cond.code yX5_takeHill cX5_takeHill 2 none) (tw_d 32 (by decide +kernel)) rfl)
theorem tz_353 : Cond.instanceMethod yX5_takeHill ∈ tb := (tq_4 (w := Cond.instanceMethod yX5_takeHill) (tw_instanceMethod 31 (by decide +kernel)) rfl)
theorem tz_354 : Cond.selects RX5 yX5_takeHill yX5_takeHill ∈ tb := (tq_0 (w := Cond.selects RX5 yX5_takeHill yX5_takeHill) (tw_selects 9 (by decide +kernel)) rfl)
theorem lk_RX5_106 : LkV RX5 106 mX5_takeHill 0 := ⟨(tq_4 (w := Cond.methodLink RX5 106 yX5_takeHill) (tw_methodLink 29 (by decide +kernel)) rfl), tz_353, tz_354, tz_10, tz_352, ⟨by decide +kernel, by decide +kernel, by decide +kernel, by decide +kernel⟩, by decide⟩
theorem tz_355 : Cond.code yX5_takeJoin cX5_takeJoin 3 none ∈ tb := (tq_4 (w := Cond.code yX5_takeJoin cX5_takeJoin 3 none) (tw_d 40 (by decide +kernel)) rfl)
theorem tz_356 : Cond.instanceMethod yX5_takeJoin ∈ tb := (tq_4 (w := Cond.instanceMethod yX5_takeJoin) (tw_instanceMethod 39 (by decide +kernel)) rfl)
theorem tz_357 : Cond.selects RX5 yX5_takeJoin yX5_takeJoin ∈ tb := (tq_0 (w := Cond.selects RX5 yX5_takeJoin yX5_takeJoin) (tw_selects 11 (by decide +kernel)) rfl)
theorem lk_RX5_109 : LkV RX5 109 mX5_takeJoin 0 := ⟨(tq_4 (w := Cond.methodLink RX5 109 yX5_takeJoin) (tw_methodLink 37 (by decide +kernel)) rfl), tz_356, tz_357, tz_10, tz_355, ⟨by decide +kernel, by decide +kernel, by decide +kernel, by decide +kernel⟩, by decide⟩
theorem tz_358 : Cond.code yX5_takeItem cX5_takeItem 1 none ∈ tb := (tq_4 (w := Cond.code yX5_takeItem cX5_takeItem 1 none) (tw_d 24 (by decide +kernel)) rfl)
theorem tz_359 : Cond.instanceMethod yX5_takeItem ∈ tb := (tq_4 (w := Cond.instanceMethod yX5_takeItem) (tw_instanceMethod 23 (by decide +kernel)) rfl)
theorem tz_360 : Cond.selects RX5 yX5_takeItem yX5_takeItem ∈ tb := (tq_0 (w := Cond.selects RX5 yX5_takeItem yX5_takeItem) (tw_selects 7 (by decide +kernel)) rfl)
theorem lk_RX5_128 : LkV RX5 128 mX5_takeItem 0 := ⟨(tq_4 (w := Cond.methodLink RX5 128 yX5_takeItem) (tw_methodLink 21 (by decide +kernel)) rfl), tz_359, tz_360, tz_10, tz_358, ⟨by decide +kernel, by decide +kernel, by decide +kernel, by decide +kernel⟩, by decide⟩
theorem tz_361 : Cond.code yX5_isHill cX5_isHill 2 (some .boolean) ∈ tb := (tq_4 (w := Cond.code yX5_isHill cX5_isHill 2 (some .boolean)) (tw_d 51 (by decide +kernel)) rfl)
theorem tz_362 : Cond.instanceMethod yX5_isHill ∈ tb := (tq_4 (w := Cond.instanceMethod yX5_isHill) (tw_instanceMethod 50 (by decide +kernel)) rfl)
theorem tz_363 : Cond.selects RX5 yX5_isHill yX5_isHill ∈ tb := (tq_0 (w := Cond.selects RX5 yX5_isHill yX5_isHill) (tw_selects 12 (by decide +kernel)) rfl)
theorem lk_RX5_149 : LkV RX5 149 mX5_isHill 1 := ⟨(tq_4 (w := Cond.methodLink RX5 149 yX5_isHill) (tw_methodLink 48 (by decide +kernel)) rfl), tz_362, tz_363, tz_10, tz_361, ⟨by decide +kernel, by decide +kernel, by decide +kernel, by decide +kernel⟩, by decide⟩
theorem tz_364 : Cond.code yX5_sizeBy cX5_sizeBy 4 (some .int) ∈ tb := (tq_4 (w := Cond.code yX5_sizeBy cX5_sizeBy 4 (some .int)) (tw_d 63 (by decide +kernel)) rfl)
theorem tz_365 : Cond.instanceMethod yX5_sizeBy ∈ tb := (tq_4 (w := Cond.instanceMethod yX5_sizeBy) (tw_instanceMethod 62 (by decide +kernel)) rfl)
theorem tz_366 : Cond.selects RX5 yX5_sizeBy yX5_sizeBy ∈ tb := (tq_0 (w := Cond.selects RX5 yX5_sizeBy yX5_sizeBy) (tw_selects 14 (by decide +kernel)) rfl)
theorem lk_RX5_152 : LkV RX5 152 mX5_sizeBy 2 := ⟨(tq_4 (w := Cond.methodLink RX5 152 yX5_sizeBy) (tw_methodLink 60 (by decide +kernel)) rfl), tz_365, tz_366, tz_10, tz_364, ⟨by decide +kernel, by decide +kernel, by decide +kernel, by decide +kernel⟩, by decide⟩
theorem tz_367 : Cond.code yX5_sizeIn cX5_sizeIn 3 (some .int) ∈ tb := (tq_4 (w := Cond.code yX5_sizeIn cX5_sizeIn 3 (some .int)) (tw_d 59 (by decide +kernel)) rfl)
theorem tz_368 : Cond.instanceMethod yX5_sizeIn ∈ tb := (tq_4 (w := Cond.instanceMethod yX5_sizeIn) (tw_instanceMethod 58 (by decide +kernel)) rfl)
theorem tz_369 : Cond.selects RX5 yX5_sizeIn yX5_sizeIn ∈ tb := (tq_0 (w := Cond.selects RX5 yX5_sizeIn yX5_sizeIn) (tw_selects 13 (by decide +kernel)) rfl)
theorem lk_RX5_155 : LkV RX5 155 mX5_sizeIn 2 := ⟨(tq_4 (w := Cond.methodLink RX5 155 yX5_sizeIn) (tw_methodLink 56 (by decide +kernel)) rfl), tz_368, tz_369, tz_10, tz_367, ⟨by decide +kernel, by decide +kernel, by decide +kernel, by decide +kernel⟩, by decide⟩
theorem tz_370 : Cond.code yX5_isOver cX5_isOver 3 (some .boolean) ∈ tb := (tq_4 (w := Cond.code yX5_isOver cX5_isOver 3 (some .boolean)) (tw_d 67 (by decide +kernel)) rfl)
theorem tz_371 : Cond.instanceMethod yX5_isOver ∈ tb := (tq_4 (w := Cond.instanceMethod yX5_isOver) (tw_instanceMethod 66 (by decide +kernel)) rfl)
theorem tz_372 : Cond.selects RX5 yX5_isOver yX5_isOver ∈ tb := (tq_0 (w := Cond.selects RX5 yX5_isOver yX5_isOver) (tw_selects 15 (by decide +kernel)) rfl)
theorem lk_RX5_158 : LkV RX5 158 mX5_isOver 2 := ⟨(tq_4 (w := Cond.methodLink RX5 158 yX5_isOver) (tw_methodLink 64 (by decide +kernel)) rfl), tz_371, tz_372, tz_10, tz_370, ⟨by decide +kernel, by decide +kernel, by decide +kernel, by decide +kernel⟩, by decide⟩
theorem tz_373 : Cond.code yX5_isMan cX5_isMan 2 (some .boolean) ∈ tb := (tq_4 (w := Cond.code yX5_isMan cX5_isMan 2 (some .boolean)) (tw_d 78 (by decide +kernel)) rfl)
theorem tz_374 : Cond.instanceMethod yX5_isMan ∈ tb := (tq_4 (w := Cond.instanceMethod yX5_isMan) (tw_instanceMethod 77 (by decide +kernel)) rfl)
theorem tz_375 : Cond.selects RX5 yX5_isMan yX5_isMan ∈ tb := (tq_0 (w := Cond.selects RX5 yX5_isMan yX5_isMan) (tw_selects 16 (by decide +kernel)) rfl)
theorem lk_RX5_165 : LkV RX5 165 mX5_isMan 1 := ⟨(tq_4 (w := Cond.methodLink RX5 165 yX5_isMan) (tw_methodLink 75 (by decide +kernel)) rfl), tz_374, tz_375, tz_10, tz_373, ⟨by decide +kernel, by decide +kernel, by decide +kernel, by decide +kernel⟩, by decide⟩
theorem tz_376 : Cond.code yX5_over cX5_over 3 (some .int) ∈ tb := (tq_4 (w := Cond.code yX5_over cX5_over 3 (some .int)) (tw_d 86 (by decide +kernel)) rfl)
theorem tz_377 : Cond.instanceMethod yX5_over ∈ tb := (tq_4 (w := Cond.instanceMethod yX5_over) (tw_instanceMethod 85 (by decide +kernel)) rfl)
theorem tz_378 : Cond.selects RX5 yX5_over yX5_over ∈ tb := (tq_0 (w := Cond.selects RX5 yX5_over yX5_over) (tw_selects 17 (by decide +kernel)) rfl)
theorem lk_RX5_168 : LkV RX5 168 mX5_over 0 := ⟨(tq_4 (w := Cond.methodLink RX5 168 yX5_over) (tw_methodLink 83 (by decide +kernel)) rfl), tz_377, tz_378, tz_10, tz_376, ⟨by decide +kernel, by decide +kernel, by decide +kernel, by decide +kernel⟩, by decide⟩
theorem tz_379 : Cond.code yX5_copy cX5_copy 4 none ∈ tb := (tq_4 (w := Cond.code yX5_copy cX5_copy 4 none) (tw_d 98 (by decide +kernel)) rfl)
theorem tz_380 : Cond.instanceMethod yX5_copy ∈ tb := (tq_4 (w := Cond.instanceMethod yX5_copy) (tw_instanceMethod 97 (by decide +kernel)) rfl)
theorem tz_381 : Cond.selects RX5 yX5_copy yX5_copy ∈ tb := (tq_0 (w := Cond.selects RX5 yX5_copy yX5_copy) (tw_selects 19 (by decide +kernel)) rfl)
theorem lk_RX5_172 : LkV RX5 172 mX5_copy 2 := ⟨(tq_4 (w := Cond.methodLink RX5 172 yX5_copy) (tw_methodLink 95 (by decide +kernel)) rfl), tz_380, tz_381, tz_10, tz_379, ⟨by decide +kernel, by decide +kernel, by decide +kernel, by decide +kernel⟩, by decide⟩
theorem tz_382 : Cond.code yX5_remember cX5_remember 2 none ∈ tb := (tq_4 (w := Cond.code yX5_remember cX5_remember 2 none) (tw_d 94 (by decide +kernel)) rfl)
theorem tz_383 : Cond.instanceMethod yX5_remember ∈ tb := (tq_4 (w := Cond.instanceMethod yX5_remember) (tw_instanceMethod 93 (by decide +kernel)) rfl)
theorem tz_384 : Cond.selects RX5 yX5_remember yX5_remember ∈ tb := (tq_0 (w := Cond.selects RX5 yX5_remember yX5_remember) (tw_selects 18 (by decide +kernel)) rfl)
theorem lk_RX5_176 : LkV RX5 176 mX5_remember 0 := ⟨(tq_4 (w := Cond.methodLink RX5 176 yX5_remember) (tw_methodLink 91 (by decide +kernel)) rfl), tz_383, tz_384, tz_10, tz_382, ⟨by decide +kernel, by decide +kernel, by decide +kernel, by decide +kernel⟩, by decide⟩
theorem tz_385 : Cond.code yX5_overIn cX5_overIn 4 (some .int) ∈ tb := (tq_4 (w := Cond.code yX5_overIn cX5_overIn 4 (some .int)) (tw_d 110 (by decide +kernel)) rfl)
theorem tz_386 : Cond.instanceMethod yX5_overIn ∈ tb := (tq_4 (w := Cond.instanceMethod yX5_overIn) (tw_instanceMethod 109 (by decide +kernel)) rfl)
theorem tz_387 : Cond.selects RX5 yX5_overIn yX5_overIn ∈ tb := (tq_0 (w := Cond.selects RX5 yX5_overIn yX5_overIn) (tw_selects 21 (by decide +kernel)) rfl)
theorem lk_RX5_179 : LkV RX5 179 mX5_overIn 1 := ⟨(tq_4 (w := Cond.methodLink RX5 179 yX5_overIn) (tw_methodLink 107 (by decide +kernel)) rfl), tz_386, tz_387, tz_10, tz_385, ⟨by decide +kernel, by decide +kernel, by decide +kernel, by decide +kernel⟩, by decide⟩
theorem tz_388 : Cond.code yX5_pushOf cX5_pushOf 5 (some .int) ∈ tb := (tq_4 (w := Cond.code yX5_pushOf cX5_pushOf 5 (some .int)) (tw_d 114 (by decide +kernel)) rfl)
theorem tz_389 : Cond.instanceMethod yX5_pushOf ∈ tb := (tq_4 (w := Cond.instanceMethod yX5_pushOf) (tw_instanceMethod 113 (by decide +kernel)) rfl)
theorem tz_390 : Cond.selects RX5 yX5_pushOf yX5_pushOf ∈ tb := (tq_0 (w := Cond.selects RX5 yX5_pushOf yX5_pushOf) (tw_selects 22 (by decide +kernel)) rfl)
theorem lk_RX5_183 : LkV RX5 183 mX5_pushOf 2 := ⟨(tq_4 (w := Cond.methodLink RX5 183 yX5_pushOf) (tw_methodLink 111 (by decide +kernel)) rfl), tz_389, tz_390, tz_10, tz_388, ⟨by decide +kernel, by decide +kernel, by decide +kernel, by decide +kernel⟩, by decide⟩
theorem tz_391 : Cond.code yX5_blocksIn cX5_blocksIn 8 (some .int) ∈ tb := (tq_4 (w := Cond.code yX5_blocksIn cX5_blocksIn 8 (some .int)) (tw_d 118 (by decide +kernel)) rfl)
theorem tz_392 : Cond.instanceMethod yX5_blocksIn ∈ tb := (tq_4 (w := Cond.instanceMethod yX5_blocksIn) (tw_instanceMethod 117 (by decide +kernel)) rfl)
theorem tz_393 : Cond.selects RX5 yX5_blocksIn yX5_blocksIn ∈ tb := (tq_0 (w := Cond.selects RX5 yX5_blocksIn yX5_blocksIn) (tw_selects 23 (by decide +kernel)) rfl)
theorem lk_RX5_186 : LkV RX5 186 mX5_blocksIn 3 := ⟨(tq_4 (w := Cond.methodLink RX5 186 yX5_blocksIn) (tw_methodLink 115 (by decide +kernel)) rfl), tz_392, tz_393, tz_10, tz_391, ⟨by decide +kernel, by decide +kernel, by decide +kernel, by decide +kernel⟩, by decide⟩
theorem tz_394 : Cond.code yX5_tire cX5_tire 6 none ∈ tb := (tq_4 (w := Cond.code yX5_tire cX5_tire 6 none) (tw_d 122 (by decide +kernel)) rfl)
theorem tz_395 : Cond.instanceMethod yX5_tire ∈ tb := (tq_4 (w := Cond.instanceMethod yX5_tire) (tw_instanceMethod 121 (by decide +kernel)) rfl)
theorem tz_396 : Cond.selects RX5 yX5_tire yX5_tire ∈ tb := (tq_0 (w := Cond.selects RX5 yX5_tire yX5_tire) (tw_selects 24 (by decide +kernel)) rfl)
theorem lk_RX5_190 : LkV RX5 190 mX5_tire 2 := ⟨(tq_4 (w := Cond.methodLink RX5 190 yX5_tire) (tw_methodLink 119 (by decide +kernel)) rfl), tz_395, tz_396, tz_10, tz_394, ⟨by decide +kernel, by decide +kernel, by decide +kernel, by decide +kernel⟩, by decide⟩
theorem tz_397 : Cond.code yX5_push cX5_push 6 (some .int) ∈ tb := (tq_4 (w := Cond.code yX5_push cX5_push 6 (some .int)) (tw_d 106 (by decide +kernel)) rfl)
theorem tz_398 : Cond.instanceMethod yX5_push ∈ tb := (tq_4 (w := Cond.instanceMethod yX5_push) (tw_instanceMethod 105 (by decide +kernel)) rfl)
theorem tz_399 : Cond.selects RX5 yX5_push yX5_push ∈ tb := (tq_0 (w := Cond.selects RX5 yX5_push yX5_push) (tw_selects 20 (by decide +kernel)) rfl)
theorem lk_RX5_193 : LkV RX5 193 mX5_push 1 := ⟨(tq_4 (w := Cond.methodLink RX5 193 yX5_push) (tw_methodLink 103 (by decide +kernel)) rfl), tz_398, tz_399, tz_10, tz_397, ⟨by decide +kernel, by decide +kernel, by decide +kernel, by decide +kernel⟩, by decide⟩
theorem tz_400 : Cond.code yX5_rainsOn cX5_rainsOn 2 (some .boolean) ∈ tb := (tq_4 (w := Cond.code yX5_rainsOn cX5_rainsOn 2 (some .boolean)) (tw_d 126 (by decide +kernel)) rfl)
theorem tz_401 : Cond.instanceMethod yX5_rainsOn ∈ tb := (tq_4 (w := Cond.instanceMethod yX5_rainsOn) (tw_instanceMethod 125 (by decide +kernel)) rfl)
theorem tz_402 : Cond.selects RX5 yX5_rainsOn yX5_rainsOn ∈ tb := (tq_0 (w := Cond.selects RX5 yX5_rainsOn yX5_rainsOn) (tw_selects 25 (by decide +kernel)) rfl)
theorem lk_RX5_196 : LkV RX5 196 mX5_rainsOn 1 := ⟨(tq_4 (w := Cond.methodLink RX5 196 yX5_rainsOn) (tw_methodLink 123 (by decide +kernel)) rfl), tz_401, tz_402, tz_10, tz_400, ⟨by decide +kernel, by decide +kernel, by decide +kernel, by decide +kernel⟩, by decide⟩
theorem tz_403 : Cond.code yX5_dusk cX5_dusk 5 none ∈ tb := (tq_4 (w := Cond.code yX5_dusk cX5_dusk 5 none) (tw_d 130 (by decide +kernel)) rfl)
theorem tz_404 : Cond.instanceMethod yX5_dusk ∈ tb := (tq_4 (w := Cond.instanceMethod yX5_dusk) (tw_instanceMethod 129 (by decide +kernel)) rfl)
theorem tz_405 : Cond.selects RX5 yX5_dusk yX5_dusk ∈ tb := (tq_0 (w := Cond.selects RX5 yX5_dusk yX5_dusk) (tw_selects 26 (by decide +kernel)) rfl)
theorem lk_RX5_199 : LkV RX5 199 mX5_dusk 2 := ⟨(tq_4 (w := Cond.methodLink RX5 199 yX5_dusk) (tw_methodLink 127 (by decide +kernel)) rfl), tz_404, tz_405, tz_10, tz_403, ⟨by decide +kernel, by decide +kernel, by decide +kernel, by decide +kernel⟩, by decide⟩
theorem tz_406 : Cond.code yX5_orderAll cX5_orderAll 5 none ∈ tb := (tq_4 (w := Cond.code yX5_orderAll cX5_orderAll 5 none) (tw_d 150 (by decide +kernel)) rfl)
theorem tz_407 : Cond.instanceMethod yX5_orderAll ∈ tb := (tq_4 (w := Cond.instanceMethod yX5_orderAll) (tw_instanceMethod 149 (by decide +kernel)) rfl)
theorem tz_408 : Cond.selects RX5 yX5_orderAll yX5_orderAll ∈ tb := (tq_0 (w := Cond.selects RX5 yX5_orderAll yX5_orderAll) (tw_selects 29 (by decide +kernel)) rfl)
theorem lk_RX5_203 : LkV RX5 203 mX5_orderAll 3 := ⟨(tq_4 (w := Cond.methodLink RX5 203 yX5_orderAll) (tw_methodLink 147 (by decide +kernel)) rfl), tz_407, tz_408, tz_10, tz_406, ⟨by decide +kernel, by decide +kernel, by decide +kernel, by decide +kernel⟩, by decide⟩
theorem tz_409 : Cond.code yX5_isCode cX5_isCode 5 (some .boolean) ∈ tb := (tq_4 (w := Cond.code yX5_isCode cX5_isCode 5 (some .boolean)) (tw_d 142 (by decide +kernel)) rfl)
theorem tz_410 : Cond.instanceMethod yX5_isCode ∈ tb := (tq_4 (w := Cond.instanceMethod yX5_isCode) (tw_instanceMethod 141 (by decide +kernel)) rfl)
theorem tz_411 : Cond.selects RX5 yX5_isCode yX5_isCode ∈ tb := (tq_0 (w := Cond.selects RX5 yX5_isCode yX5_isCode) (tw_selects 27 (by decide +kernel)) rfl)
theorem lk_RX5_207 : LkV RX5 207 mX5_isCode 2 := ⟨(tq_4 (w := Cond.methodLink RX5 207 yX5_isCode) (tw_methodLink 139 (by decide +kernel)) rfl), tz_410, tz_411, tz_10, tz_409, ⟨by decide +kernel, by decide +kernel, by decide +kernel, by decide +kernel⟩, by decide⟩
theorem tz_412 : Cond.code yX5_stepBy cX5_stepBy 7 (some .int) ∈ tb := (tq_4 (w := Cond.code yX5_stepBy cX5_stepBy 7 (some .int)) (tw_d 146 (by decide +kernel)) rfl)
theorem tz_413 : Cond.instanceMethod yX5_stepBy ∈ tb := (tq_4 (w := Cond.instanceMethod yX5_stepBy) (tw_instanceMethod 145 (by decide +kernel)) rfl)
theorem tz_414 : Cond.selects RX5 yX5_stepBy yX5_stepBy ∈ tb := (tq_0 (w := Cond.selects RX5 yX5_stepBy yX5_stepBy) (tw_selects 28 (by decide +kernel)) rfl)
theorem lk_RX5_210 : LkV RX5 210 mX5_stepBy 3 := ⟨(tq_4 (w := Cond.methodLink RX5 210 yX5_stepBy) (tw_methodLink 143 (by decide +kernel)) rfl), tz_413, tz_414, tz_10, tz_412, ⟨by decide +kernel, by decide +kernel, by decide +kernel, by decide +kernel⟩, by decide⟩
theorem tz_415 : Cond.code yX5_goToDusk cX5_goToDusk 4 none ∈ tb := (tq_4 (w := Cond.code yX5_goToDusk cX5_goToDusk 4 none) (tw_d 158 (by decide +kernel)) rfl)
theorem tz_416 : Cond.instanceMethod yX5_goToDusk ∈ tb := (tq_4 (w := Cond.instanceMethod yX5_goToDusk) (tw_instanceMethod 157 (by decide +kernel)) rfl)
theorem tz_417 : Cond.selects RX5 yX5_goToDusk yX5_goToDusk ∈ tb := (tq_0 (w := Cond.selects RX5 yX5_goToDusk yX5_goToDusk) (tw_selects 30 (by decide +kernel)) rfl)
theorem lk_RX5_213 : LkV RX5 213 mX5_goToDusk 2 := ⟨(tq_4 (w := Cond.methodLink RX5 213 yX5_goToDusk) (tw_methodLink 155 (by decide +kernel)) rfl), tz_416, tz_417, tz_10, tz_415, ⟨by decide +kernel, by decide +kernel, by decide +kernel, by decide +kernel⟩, by decide⟩
theorem tz_418 : Cond.code yX5_isOverBy cX5_isOverBy 5 (some .boolean) ∈ tb := (tq_4 (w := Cond.code yX5_isOverBy cX5_isOverBy 5 (some .boolean)) (tw_d 166 (by decide +kernel)) rfl)
theorem tz_419 : Cond.instanceMethod yX5_isOverBy ∈ tb := (tq_4 (w := Cond.instanceMethod yX5_isOverBy) (tw_instanceMethod 165 (by decide +kernel)) rfl)
theorem tz_420 : Cond.selects RX5 yX5_isOverBy yX5_isOverBy ∈ tb := (tq_0 (w := Cond.selects RX5 yX5_isOverBy yX5_isOverBy) (tw_selects 31 (by decide +kernel)) rfl)
theorem lk_RX5_216 : LkV RX5 216 mX5_isOverBy 2 := ⟨(tq_4 (w := Cond.methodLink RX5 216 yX5_isOverBy) (tw_methodLink 163 (by decide +kernel)) rfl), tz_419, tz_420, tz_10, tz_418, ⟨by decide +kernel, by decide +kernel, by decide +kernel, by decide +kernel⟩, by decide⟩
theorem tz_421 : Cond.code yX5_stoneRate cX5_stoneRate 2 (some .int) ∈ tb := (tq_4 (w := Cond.code yX5_stoneRate cX5_stoneRate 2 (some .int)) (tw_d 218 (by decide +kernel)) rfl)
theorem tz_422 : Cond.instanceMethod yX5_stoneRate ∈ tb := (tq_4 (w := Cond.instanceMethod yX5_stoneRate) (tw_instanceMethod 217 (by decide +kernel)) rfl)
theorem tz_423 : Cond.selects RX5 yX5_stoneRate yX5_stoneRate ∈ tb := (tq_0 (w := Cond.selects RX5 yX5_stoneRate yX5_stoneRate) (tw_selects 32 (by decide +kernel)) rfl)
theorem lk_RX5_238 : LkV RX5 238 mX5_stoneRate 1 := ⟨(tq_4 (w := Cond.methodLink RX5 238 yX5_stoneRate) (tw_methodLink 215 (by decide +kernel)) rfl), tz_422, tz_423, tz_10, tz_421, ⟨by decide +kernel, by decide +kernel, by decide +kernel, by decide +kernel⟩, by decide⟩
theorem tz_424 : Cond.code yX5_roundRate cX5_roundRate 2 (some .int) ∈ tb := (tq_4 (w := Cond.code yX5_roundRate cX5_roundRate 2 (some .int)) (tw_d 222 (by decide +kernel)) rfl)
theorem tz_425 : Cond.instanceMethod yX5_roundRate ∈ tb := (tq_4 (w := Cond.instanceMethod yX5_roundRate) (tw_instanceMethod 221 (by decide +kernel)) rfl)
theorem tz_426 : Cond.selects RX5 yX5_roundRate yX5_roundRate ∈ tb := (tq_0 (w := Cond.selects RX5 yX5_roundRate yX5_roundRate) (tw_selects 33 (by decide +kernel)) rfl)
theorem lk_RX5_245 : LkV RX5 245 mX5_roundRate 1 := ⟨(tq_4 (w := Cond.methodLink RX5 245 yX5_roundRate) (tw_methodLink 219 (by decide +kernel)) rfl), tz_425, tz_426, tz_10, tz_424, ⟨by decide +kernel, by decide +kernel, by decide +kernel, by decide +kernel⟩, by decide⟩
theorem tz_427 : Cond.code yX5_splitRate cX5_splitRate 2 (some .int) ∈ tb := (tq_4 (w := Cond.code yX5_splitRate cX5_splitRate 2 (some .int)) (tw_d 226 (by decide +kernel)) rfl)
theorem tz_428 : Cond.instanceMethod yX5_splitRate ∈ tb := (tq_4 (w := Cond.instanceMethod yX5_splitRate) (tw_instanceMethod 225 (by decide +kernel)) rfl)
theorem tz_429 : Cond.selects RX5 yX5_splitRate yX5_splitRate ∈ tb := (tq_0 (w := Cond.selects RX5 yX5_splitRate yX5_splitRate) (tw_selects 34 (by decide +kernel)) rfl)
theorem lk_RX5_250 : LkV RX5 250 mX5_splitRate 1 := ⟨(tq_4 (w := Cond.methodLink RX5 250 yX5_splitRate) (tw_methodLink 223 (by decide +kernel)) rfl), tz_428, tz_429, tz_10, tz_427, ⟨by decide +kernel, by decide +kernel, by decide +kernel, by decide +kernel⟩, by decide⟩
theorem tz_430 : Cond.code yX5_wetRate cX5_wetRate 2 (some .int) ∈ tb := (tq_4 (w := Cond.code yX5_wetRate cX5_wetRate 2 (some .int)) (tw_d 231 (by decide +kernel)) rfl)
theorem tz_431 : Cond.instanceMethod yX5_wetRate ∈ tb := (tq_4 (w := Cond.instanceMethod yX5_wetRate) (tw_instanceMethod 230 (by decide +kernel)) rfl)
theorem tz_432 : Cond.selects RX5 yX5_wetRate yX5_wetRate ∈ tb := (tq_0 (w := Cond.selects RX5 yX5_wetRate yX5_wetRate) (tw_selects 35 (by decide +kernel)) rfl)
theorem lk_RX5_258 : LkV RX5 258 mX5_wetRate 1 := ⟨(tq_4 (w := Cond.methodLink RX5 258 yX5_wetRate) (tw_methodLink 228 (by decide +kernel)) rfl), tz_431, tz_432, tz_10, tz_430, ⟨by decide +kernel, by decide +kernel, by decide +kernel, by decide +kernel⟩, by decide⟩
theorem tz_433 : Cond.code yX5_lentRate cX5_lentRate 2 (some .int) ∈ tb := (tq_4 (w := Cond.code yX5_lentRate cX5_lentRate 2 (some .int)) (tw_d 236 (by decide +kernel)) rfl)
theorem tz_434 : Cond.instanceMethod yX5_lentRate ∈ tb := (tq_4 (w := Cond.instanceMethod yX5_lentRate) (tw_instanceMethod 235 (by decide +kernel)) rfl)
theorem tz_435 : Cond.selects RX5 yX5_lentRate yX5_lentRate ∈ tb := (tq_0 (w := Cond.selects RX5 yX5_lentRate yX5_lentRate) (tw_selects 36 (by decide +kernel)) rfl)
theorem lk_RX5_261 : LkV RX5 261 mX5_lentRate 1 := ⟨(tq_4 (w := Cond.methodLink RX5 261 yX5_lentRate) (tw_methodLink 233 (by decide +kernel)) rfl), tz_434, tz_435, tz_10, tz_433, ⟨by decide +kernel, by decide +kernel, by decide +kernel, by decide +kernel⟩, by decide⟩
theorem tz_436 : Cond.code yX5_hollowRate cX5_hollowRate 4 (some .int) ∈ tb := (tq_5 (w := Cond.code yX5_hollowRate cX5_hollowRate 4 (some .int)) (tw_d 1 (by decide +kernel)) rfl)
theorem tz_437 : Cond.instanceMethod yX5_hollowRate ∈ tb := (tq_5 (w := Cond.instanceMethod yX5_hollowRate) (tw_instanceMethod 0 (by decide +kernel)) rfl)
theorem tz_438 : Cond.selects RX5 yX5_hollowRate yX5_hollowRate ∈ tb := (tq_0 (w := Cond.selects RX5 yX5_hollowRate yX5_hollowRate) (tw_selects 37 (by decide +kernel)) rfl)
theorem lk_RX5_264 : LkV RX5 264 mX5_hollowRate 1 := ⟨(tq_4 (w := Cond.methodLink RX5 264 yX5_hollowRate) (tw_methodLink 238 (by decide +kernel)) rfl), tz_437, tz_438, tz_10, tz_436, ⟨by decide +kernel, by decide +kernel, by decide +kernel, by decide +kernel⟩, by decide⟩
theorem cs_RX4_238 : Cond.constant RX4 238 (-1000000) ∈ tb := (tq_3 (w := Cond.constant RX4 238 (-1000000)) (tw_d 97 (by decide +kernel)) rfl)
theorem cl_RX4_220 : Cond.constantLong RX4 220 (-1) ∈ tb := (tq_3 (w := Cond.constantLong RX4 220 (-1)) (tw_d 75 (by decide +kernel)) rfl)
theorem cl_RX5_57 : Cond.constantLong RX5 57 (255) ∈ tb := (tq_4 (w := Cond.constantLong RX5 57 (255)) (tw_d 0 (by decide +kernel)) rfl)
theorem cl_RX5_66 : Cond.constantLong RX5 66 (48) ∈ tb := (tq_4 (w := Cond.constantLong RX5 66 (48)) (tw_d 19 (by decide +kernel)) rfl)
theorem cl_RX5_68 : Cond.constantLong RX5 68 (57) ∈ tb := (tq_4 (w := Cond.constantLong RX5 68 (57)) (tw_d 20 (by decide +kernel)) rfl)
theorem cl_RX5_222 : Cond.constantLong RX5 222 (9) ∈ tb := (tq_4 (w := Cond.constantLong RX5 222 (9)) (tw_d 186 (by decide +kernel)) rfl)
theorem cl_RX5_224 : Cond.constantLong RX5 224 (4) ∈ tb := (tq_4 (w := Cond.constantLong RX5 224 (4)) (tw_d 199 (by decide +kernel)) rfl)
theorem cl_RX5_226 : Cond.constantLong RX5 226 (10) ∈ tb := (tq_4 (w := Cond.constantLong RX5 226 (10)) (tw_d 200 (by decide +kernel)) rfl)
theorem cl_RX5_228 : Cond.constantLong RX5 228 (-1) ∈ tb := (tq_4 (w := Cond.constantLong RX5 228 (-1)) (tw_d 201 (by decide +kernel)) rfl)
theorem cl_RX5_241 : Cond.constantLong RX5 241 (100) ∈ tb := (tq_4 (w := Cond.constantLong RX5 241 (100)) (tw_d 227 (by decide +kernel)) rfl)
theorem cl_RX5_243 : Cond.constantLong RX5 243 (1000) ∈ tb := (tq_4 (w := Cond.constantLong RX5 243 (1000)) (tw_d 232 (by decide +kernel)) rfl)
theorem cl_RX5_248 : Cond.constantLong RX5 248 (10000) ∈ tb := (tq_4 (w := Cond.constantLong RX5 248 (10000)) (tw_d 237 (by decide +kernel)) rfl)
theorem cl_RX5_253 : Cond.constantLong RX5 253 (100000) ∈ tb := (tq_5 (w := Cond.constantLong RX5 253 (100000)) (tw_d 2 (by decide +kernel)) rfl)
theorem cl_RX5_255 : Cond.constantLong RX5 255 (5) ∈ tb := (tq_4 (w := Cond.constantLong RX5 255 (5)) (tw_d 213 (by decide +kernel)) rfl)
theorem cs_RX5_257 : Cond.constant RX5 257 (-1000000) ∈ tb := (tq_4 (w := Cond.constant RX5 257 (-1000000)) (tw_d 214 (by decide +kernel)) rfl)
theorem cs_RJ6_265 : Cond.constant RJ6 265 (1431655765) ∈ tb := (tq_3 (w := Cond.constant RJ6 265 (1431655765)) (tw_d 35 (by decide +kernel)) rfl)
theorem cs_RJ6_266 : Cond.constant RJ6 266 (858993459) ∈ tb := (tq_3 (w := Cond.constant RJ6 266 (858993459)) (tw_d 36 (by decide +kernel)) rfl)
theorem cs_RJ6_267 : Cond.constant RJ6 267 (252645135) ∈ tb := (tq_3 (w := Cond.constant RJ6 267 (252645135)) (tw_d 37 (by decide +kernel)) rfl)
theorem mn_RX0_9 : Cond.classLink RX0 9 "[[I" ∈ tb ∧ Cond.arrayClass .int ∈ tb := ⟨(tq_1 (w := Cond.classLink RX0 9 "[[I") (tw_d 172 (by decide +kernel)) rfl), (tq_1 (w := Cond.arrayClass .int) (tw_d 47 (by decide +kernel)) rfl)⟩
theorem nw_RX4_13 : ∃ q, vwCl[3]? = some q ∧ q.2.2 = 7 ∧ Cond.classLink RX4 13 q.1 ∈ tb ∧ Cond.instantiable q.1 7 ∈ tb ∧ Cond.initialized q.1 ∈ tb := ⟨(RX3, TX3, 7), rfl, rfl, (tq_1 (w := Cond.classLink RX4 13 RX3) (tw_d 18 (by decide +kernel)) rfl), (tq_1 (w := Cond.instantiable RX3 7) (tw_d 19 (by decide +kernel)) rfl), (tq_1 (w := Cond.initialized RX3) (tw_d 2 (by decide +kernel)) rfl)⟩
theorem nw_RX4_22 : ∃ q, vwCl[1]? = some q ∧ q.2.2 = 15 ∧ Cond.classLink RX4 22 q.1 ∈ tb ∧ Cond.instantiable q.1 15 ∈ tb ∧ Cond.initialized q.1 ∈ tb := ⟨(RX1, TX1, 15), rfl, rfl, (tq_1 (w := Cond.classLink RX4 22 RX1) (tw_d 48 (by decide +kernel)) rfl), (tq_1 (w := Cond.instantiable RX1 15) (tw_d 49 (by decide +kernel)) rfl), (tq_1 (w := Cond.initialized RX1) (tw_d 3 (by decide +kernel)) rfl)⟩
theorem nw_RX4_32 : ∃ q, vwCl[2]? = some q ∧ q.2.2 = 8 ∧ Cond.classLink RX4 32 q.1 ∈ tb ∧ Cond.instantiable q.1 8 ∈ tb ∧ Cond.initialized q.1 ∈ tb := ⟨(RX2, TX2, 8), rfl, rfl, (tq_1 (w := Cond.classLink RX4 32 RX2) (tw_d 126 (by decide +kernel)) rfl), (tq_1 (w := Cond.instantiable RX2 8) (tw_d 127 (by decide +kernel)) rfl), (tq_1 (w := Cond.initialized RX2) (tw_d 4 (by decide +kernel)) rfl)⟩
theorem nw_RX4_60 : ∃ q, vwCl[0]? = some q ∧ q.2.2 = 7 ∧ Cond.classLink RX4 60 q.1 ∈ tb ∧ Cond.instantiable q.1 7 ∈ tb ∧ Cond.initialized q.1 ∈ tb := ⟨(RX0, TX0, 7), rfl, rfl, (tq_1 (w := Cond.classLink RX4 60 RX0) (tw_d 166 (by decide +kernel)) rfl), (tq_1 (w := Cond.instantiable RX0 7) (tw_d 167 (by decide +kernel)) rfl), (tq_1 (w := Cond.initialized RX0) (tw_d 5 (by decide +kernel)) rfl)⟩
theorem nw_RL_7 : ∃ q, vwCl[4]? = some q ∧ q.2.2 = 16 ∧ Cond.classLink RL 7 q.1 ∈ tb ∧ Cond.instantiable q.1 16 ∈ tb ∧ Cond.initialized q.1 ∈ tb := ⟨(RX4, TX4, 16), rfl, rfl, (tq_1 (w := Cond.classLink RL 7 RX4) (tw_d 10 (by decide +kernel)) rfl), (tq_1 (w := Cond.instantiable RX4 16) (tw_d 11 (by decide +kernel)) rfl), (tq_1 (w := Cond.initialized RX4) (tw_d 1 (by decide +kernel)) rfl)⟩
theorem nw_RL_10 : ∃ q, vwCl[5]? = some q ∧ q.2.2 = 33 ∧ Cond.classLink RL 10 q.1 ∈ tb ∧ Cond.instantiable q.1 33 ∈ tb ∧ Cond.initialized q.1 ∈ tb := ⟨(RX5, TX5, 33), rfl, rfl, (tq_3 (w := Cond.classLink RL 10 RX5) (tw_d 126 (by decide +kernel)) rfl), (tq_3 (w := Cond.instantiable RX5 33) (tw_d 127 (by decide +kernel)) rfl), (tq_1 (w := Cond.initialized RX5) (tw_d 6 (by decide +kernel)) rfl)⟩
theorem fl_RX1_36 : FL RX1 36 1 11 := ⟨(RX1, TX1, 15), rfl, by decide, (tq_1 (w := Cond.fieldLink RX1 36 "DuskStones$Land" "hours" "I") (tw_fieldLink 84 (by decide +kernel)) rfl), rfl⟩
theorem fl_RX1_52 : FL RX1 52 1 13 := ⟨(RX1, TX1, 15), rfl, by decide, (tq_1 (w := Cond.fieldLink RX1 52 "DuskStones$Land" "hoursTold" "Z") (tw_fieldLink 91 (by decide +kernel)) rfl), rfl⟩
theorem fl_RX1_56 : FL RX1 56 1 14 := ⟨(RX1, TX1, 15), rfl, by decide, (tq_1 (w := Cond.fieldLink RX1 56 "DuskStones$Land" "rainTold" "Z") (tw_fieldLink 93 (by decide +kernel)) rfl), rfl⟩
theorem fl_RX3_113 : FL RX3 113 1 11 := ⟨(RX1, TX1, 15), rfl, by decide, (tq_1 (w := Cond.fieldLink RX3 113 "DuskStones$Land" "hours" "I") (tw_fieldLink 86 (by decide +kernel)) rfl), rfl⟩
theorem fl_RX3_116 : FL RX3 116 1 12 := ⟨(RX1, TX1, 15), rfl, by decide, (tq_1 (w := Cond.fieldLink RX3 116 "DuskStones$Land" "rain" "I") (tw_fieldLink 89 (by decide +kernel)) rfl), rfl⟩
theorem ac_int : Cond.arrayClass .int ∈ tb := (tq_1 (w := Cond.arrayClass .int) (tw_d 47 (by decide +kernel)) rfl)
theorem ac_char : Cond.arrayClass .char ∈ tb := (tq_1 (w := Cond.arrayClass .char) (tw_d 46 (by decide +kernel)) rfl)
theorem ac_boolean : Cond.arrayClass .boolean ∈ tb := (tq_1 (w := Cond.arrayClass .boolean) (tw_d 198 (by decide +kernel)) rfl)
theorem sh_0 : shn 136 0 = (4, 16) := rfl
theorem sh_1 : shn 136 1 = (7, 200) := rfl
theorem sh_2 : shn 136 2 = (3, 7) := rfl
theorem sh_3 : shn 136 3 = (6, 4) := rfl
theorem sh_4 : shn 136 4 = (1, 15) := rfl
theorem sh_5 : shn 136 5 = (6, 4) := rfl
theorem sh_6 : shn 136 6 = (6, 4) := rfl
theorem sh_7 : shn 136 7 = (6, 4) := rfl
theorem sh_8 : shn 136 8 = (6, 4) := rfl
theorem sh_9 : shn 136 9 = (6, 4) := rfl
theorem sh_10 : shn 136 10 = (6, 4) := rfl
theorem sh_11 : shn 136 11 = (6, 4) := rfl
theorem sh_12 : shn 136 12 = (6, 3) := rfl
theorem sh_13 : shn 136 13 = (1, 15) := rfl
theorem sh_14 : shn 136 14 = (6, 4) := rfl
theorem sh_15 : shn 136 15 = (6, 4) := rfl
theorem sh_16 : shn 136 16 = (6, 4) := rfl
theorem sh_17 : shn 136 17 = (6, 4) := rfl
theorem sh_18 : shn 136 18 = (6, 4) := rfl
theorem sh_19 : shn 136 19 = (6, 4) := rfl
theorem sh_20 : shn 136 20 = (6, 4) := rfl
theorem sh_21 : shn 136 21 = (6, 3) := rfl
theorem sh_22 : shn 136 22 = (2, 8) := rfl
theorem sh_23 : shn 136 23 = (6, 4) := rfl
theorem sh_24 : shn 136 24 = (6, 4) := rfl
theorem sh_25 : shn 136 25 = (6, 3) := rfl
theorem sh_26 : shn 136 26 = (6, 3) := rfl
theorem sh_27 : shn 136 27 = (6, 20) := rfl
theorem sh_28 : shn 136 28 = (2, 8) := rfl
theorem sh_29 : shn 136 29 = (6, 4) := rfl
theorem sh_30 : shn 136 30 = (6, 4) := rfl
theorem sh_31 : shn 136 31 = (6, 3) := rfl
theorem sh_32 : shn 136 32 = (6, 3) := rfl
theorem sh_33 : shn 136 33 = (6, 20) := rfl
theorem sh_34 : shn 136 34 = (9, 10) := rfl
theorem sh_35 : shn 136 35 = (9, 2) := rfl
theorem sh_36 : shn 136 36 = (8, 2) := rfl
theorem sh_37 : shn 136 37 = (6, 6) := rfl
theorem sh_38 : shn 136 38 = (6, 6) := rfl
theorem sh_39 : shn 136 39 = (0, 7) := rfl
theorem sh_40 : shn 136 40 = (10, 7) := rfl
theorem sh_41 : shn 136 41 = (6, 3) := rfl
theorem sh_42 : shn 136 42 = (6, 3) := rfl
theorem sh_43 : shn 136 43 = (6, 3) := rfl
theorem sh_44 : shn 136 44 = (6, 3) := rfl
theorem sh_45 : shn 136 45 = (6, 3) := rfl
theorem sh_46 : shn 136 46 = (6, 3) := rfl
theorem sh_47 : shn 136 47 = (6, 3) := rfl
theorem sh_48 : shn 136 48 = (6, 6) := rfl
theorem sh_49 : shn 136 49 = (6, 6) := rfl
theorem sh_50 : shn 136 50 = (2, 8) := rfl
theorem sh_51 : shn 136 51 = (6, 4) := rfl
theorem sh_52 : shn 136 52 = (6, 4) := rfl
theorem sh_53 : shn 136 53 = (6, 3) := rfl
theorem sh_54 : shn 136 54 = (6, 3) := rfl
theorem sh_55 : shn 136 55 = (6, 20) := rfl
theorem sh_56 : shn 136 56 = (2, 8) := rfl
theorem sh_57 : shn 136 57 = (6, 4) := rfl
theorem sh_58 : shn 136 58 = (6, 4) := rfl
theorem sh_59 : shn 136 59 = (6, 3) := rfl
theorem sh_60 : shn 136 60 = (6, 3) := rfl
theorem sh_61 : shn 136 61 = (6, 20) := rfl
theorem sh_62 : shn 136 62 = (2, 8) := rfl
theorem sh_63 : shn 136 63 = (6, 4) := rfl
theorem sh_64 : shn 136 64 = (6, 4) := rfl
theorem sh_65 : shn 136 65 = (6, 3) := rfl
theorem sh_66 : shn 136 66 = (6, 3) := rfl
theorem sh_67 : shn 136 67 = (6, 20) := rfl
theorem sh_68 : shn 136 68 = (2, 8) := rfl
theorem sh_69 : shn 136 69 = (6, 4) := rfl
theorem sh_70 : shn 136 70 = (6, 4) := rfl
theorem sh_71 : shn 136 71 = (6, 3) := rfl
theorem sh_72 : shn 136 72 = (6, 3) := rfl
theorem sh_73 : shn 136 73 = (6, 20) := rfl
theorem sh_74 : shn 136 74 = (2, 8) := rfl
theorem sh_75 : shn 136 75 = (6, 4) := rfl
theorem sh_76 : shn 136 76 = (6, 4) := rfl
theorem sh_77 : shn 136 77 = (6, 3) := rfl
theorem sh_78 : shn 136 78 = (6, 3) := rfl
theorem sh_79 : shn 136 79 = (6, 20) := rfl
theorem sh_80 : shn 136 80 = (2, 8) := rfl
theorem sh_81 : shn 136 81 = (6, 4) := rfl
theorem sh_82 : shn 136 82 = (6, 4) := rfl
theorem sh_83 : shn 136 83 = (6, 3) := rfl
theorem sh_84 : shn 136 84 = (6, 3) := rfl
theorem sh_85 : shn 136 85 = (6, 20) := rfl
theorem sh_86 : shn 136 86 = (2, 8) := rfl
theorem sh_87 : shn 136 87 = (6, 4) := rfl
theorem sh_88 : shn 136 88 = (6, 4) := rfl
theorem sh_89 : shn 136 89 = (6, 3) := rfl
theorem sh_90 : shn 136 90 = (6, 3) := rfl
theorem sh_91 : shn 136 91 = (6, 20) := rfl
theorem sh_92 : shn 136 92 = (2, 8) := rfl
theorem sh_93 : shn 136 93 = (6, 4) := rfl
theorem sh_94 : shn 136 94 = (6, 4) := rfl
theorem sh_95 : shn 136 95 = (6, 3) := rfl
theorem sh_96 : shn 136 96 = (6, 3) := rfl
theorem sh_97 : shn 136 97 = (6, 20) := rfl
theorem sh_98 : shn 136 98 = (2, 8) := rfl
theorem sh_99 : shn 136 99 = (6, 4) := rfl
theorem sh_100 : shn 136 100 = (6, 4) := rfl
theorem sh_101 : shn 136 101 = (6, 3) := rfl
theorem sh_102 : shn 136 102 = (6, 3) := rfl
theorem sh_103 : shn 136 103 = (6, 20) := rfl
theorem sh_104 : shn 136 104 = (2, 8) := rfl
theorem sh_105 : shn 136 105 = (6, 4) := rfl
theorem sh_106 : shn 136 106 = (6, 4) := rfl
theorem sh_107 : shn 136 107 = (6, 3) := rfl
theorem sh_108 : shn 136 108 = (6, 3) := rfl
theorem sh_109 : shn 136 109 = (6, 20) := rfl
theorem sh_110 : shn 136 110 = (2, 8) := rfl
theorem sh_111 : shn 136 111 = (6, 4) := rfl
theorem sh_112 : shn 136 112 = (6, 4) := rfl
theorem sh_113 : shn 136 113 = (6, 3) := rfl
theorem sh_114 : shn 136 114 = (6, 3) := rfl
theorem sh_115 : shn 136 115 = (6, 20) := rfl
theorem sh_116 : shn 136 116 = (2, 8) := rfl
theorem sh_117 : shn 136 117 = (6, 4) := rfl
theorem sh_118 : shn 136 118 = (6, 4) := rfl
theorem sh_119 : shn 136 119 = (6, 3) := rfl
theorem sh_120 : shn 136 120 = (6, 3) := rfl
theorem sh_121 : shn 136 121 = (6, 20) := rfl
theorem sh_122 : shn 136 122 = (5, 33) := rfl
theorem sh_123 : shn 136 123 = (6, 1400) := rfl
theorem sh_124 : shn 136 124 = (8, 2) := rfl
theorem sh_125 : shn 136 125 = (6, 8) := rfl
theorem sh_126 : shn 136 126 = (6, 8) := rfl
theorem sh_127 : shn 136 127 = (6, 8) := rfl
theorem sh_128 : shn 136 128 = (6, 8) := rfl
theorem sh_129 : shn 136 129 = (6, 8) := rfl
theorem sh_130 : shn 136 130 = (6, 8) := rfl
theorem sh_131 : shn 136 131 = (6, 8) := rfl
theorem sh_132 : shn 136 132 = (6, 6) := rfl
theorem sh_133 : shn 136 133 = (6, 200) := rfl
theorem sh_134 : shn 136 134 = (6, 6) := rfl
theorem sh_135 : shn 136 135 = (6, 6) := rfl
end
section
theorem dX0_init_0 : decode cX0_init 0 = .ok (.aload_n 0, 1) := by decide +kernel
theorem dX0_init_1 : decode cX0_init 1 = .ok (.invokespecial 3, 3) := by decide +kernel
theorem dX0_init_4 : decode cX0_init 4 = .ok (.aload_n 0, 1) := by decide +kernel
theorem dX0_init_5 : decode cX0_init 5 = .ok (.bipush 7, 2) := by decide +kernel
theorem dX0_init_7 : decode cX0_init 7 = .ok (.iconst 3, 1) := by decide +kernel
theorem dX0_init_8 : decode cX0_init 8 = .ok (.multianewarray 9 2, 4) := by decide +kernel
theorem dX0_init_12 : decode cX0_init 12 = .ok (.putfield 11, 3) := by decide +kernel
theorem dX0_init_15 : decode cX0_init 15 = .ok (.aload_n 0, 1) := by decide +kernel
theorem dX0_init_16 : decode cX0_init 16 = .ok (.bipush 6, 2) := by decide +kernel
theorem dX0_init_18 : decode cX0_init 18 = .ok (.newarray .int, 2) := by decide +kernel
theorem dX0_init_20 : decode cX0_init 20 = .ok (.putfield 16, 3) := by decide +kernel
theorem dX0_init_23 : decode cX0_init 23 = .ok (.aload_n 0, 1) := by decide +kernel
theorem dX0_init_24 : decode cX0_init 24 = .ok (.bipush 6, 2) := by decide +kernel
theorem dX0_init_26 : decode cX0_init 26 = .ok (.newarray .int, 2) := by decide +kernel
theorem dX0_init_28 : decode cX0_init 28 = .ok (.putfield 20, 3) := by decide +kernel
theorem dX0_init_31 : decode cX0_init 31 = .ok (.return_, 1) := by decide +kernel
theorem dX0_search_0 : decode cX0_search 0 = .ok (.aload_n 0, 1) := by decide +kernel
theorem dX0_search_1 : decode cX0_search 1 = .ok (.aload_n 2, 1) := by decide +kernel
theorem dX0_search_2 : decode cX0_search 2 = .ok (.aload_n 1, 1) := by decide +kernel
theorem dX0_search_3 : decode cX0_search 3 = .ok (.iload_n 3, 1) := by decide +kernel
theorem dX0_search_4 : decode cX0_search 4 = .ok (.invokevirtual 23, 3) := by decide +kernel
theorem dX0_search_7 : decode cX0_search 7 = .ok (.putfield 29, 3) := by decide +kernel
theorem dX0_search_10 : decode cX0_search 10 = .ok (.aload_n 0, 1) := by decide +kernel
theorem dX0_search_11 : decode cX0_search 11 = .ok (.aload_n 2, 1) := by decide +kernel
theorem dX0_search_12 : decode cX0_search 12 = .ok (.aload_n 1, 1) := by decide +kernel
theorem dX0_search_13 : decode cX0_search 13 = .ok (.invokevirtual 33, 3) := by decide +kernel
theorem dX0_search_16 : decode cX0_search 16 = .ok (.bipush 6, 2) := by decide +kernel
theorem dX0_search_18 : decode cX0_search 18 = .ok (.invokestatic 37, 3) := by decide +kernel
theorem dX0_search_21 : decode cX0_search 21 = .ok (.putfield 43, 3) := by decide +kernel
theorem dX0_search_24 : decode cX0_search 24 = .ok (.aload_n 0, 1) := by decide +kernel
theorem dX0_search_25 : decode cX0_search 25 = .ok (.aload_n 2, 1) := by decide +kernel
theorem dX0_search_26 : decode cX0_search 26 = .ok (.aload_n 1, 1) := by decide +kernel
theorem dX0_search_27 : decode cX0_search 27 = .ok (.iload_n 3, 1) := by decide +kernel
theorem dX0_search_28 : decode cX0_search 28 = .ok (.invokevirtual 46, 3) := by decide +kernel
theorem dX0_search_31 : decode cX0_search 31 = .ok (.putfield 49, 3) := by decide +kernel
theorem dX0_search_34 : decode cX0_search 34 = .ok (.aload_n 2, 1) := by decide +kernel
theorem dX0_search_35 : decode cX0_search 35 = .ok (.getfield 52, 3) := by decide +kernel
theorem dX0_search_38 : decode cX0_search 38 = .ok (.iconst 0, 1) := by decide +kernel
theorem dX0_search_39 : decode cX0_search 39 = .ok (.aload_n 0, 1) := by decide +kernel
theorem dX0_search_40 : decode cX0_search 40 = .ok (.getfield 11, 3) := by decide +kernel
theorem dX0_search_43 : decode cX0_search 43 = .ok (.iconst 0, 1) := by decide +kernel
theorem dX0_search_44 : decode cX0_search 44 = .ok (.aaload, 1) := by decide +kernel
theorem dX0_search_45 : decode cX0_search 45 = .ok (.iconst 0, 1) := by decide +kernel
theorem dX0_search_46 : decode cX0_search 46 = .ok (.iconst 3, 1) := by decide +kernel
theorem dX0_search_47 : decode cX0_search 47 = .ok (.invokestatic 54, 3) := by decide +kernel
theorem dX0_search_50 : decode cX0_search 50 = .ok (.aload_n 0, 1) := by decide +kernel
theorem dX0_search_51 : decode cX0_search 51 = .ok (.iconst 0, 1) := by decide +kernel
theorem dX0_search_52 : decode cX0_search 52 = .ok (.iconst 0, 1) := by decide +kernel
theorem dX0_search_53 : decode cX0_search 53 = .ok (.invokevirtual 60, 3) := by decide +kernel
theorem dX0_search_56 : decode cX0_search 56 = .ok (.aload_n 0, 1) := by decide +kernel
theorem dX0_search_57 : decode cX0_search 57 = .ok (.aload_n 1, 1) := by decide +kernel
theorem dX0_search_58 : decode cX0_search 58 = .ok (.iconst 0, 1) := by decide +kernel
theorem dX0_search_59 : decode cX0_search 59 = .ok (.iconst 0, 1) := by decide +kernel
theorem dX0_search_60 : decode cX0_search 60 = .ok (.invokevirtual 64, 3) := by decide +kernel
theorem dX0_search_63 : decode cX0_search 63 = .ok (.return_, 1) := by decide +kernel
theorem dX0_explore_0 : decode cX0_explore 0 = .ok (.iload_n 3, 1) := by decide +kernel
theorem dX0_explore_1 : decode cX0_explore 1 = .ok (.aload_n 0, 1) := by decide +kernel
theorem dX0_explore_2 : decode cX0_explore 2 = .ok (.getfield 68, 3) := by decide +kernel
theorem dX0_explore_5 : decode cX0_explore 5 = .ok (.if_icmp .le 9, 3) := by decide +kernel
theorem dX0_explore_8 : decode cX0_explore 8 = .ok (.aload_n 0, 1) := by decide +kernel
theorem dX0_explore_9 : decode cX0_explore 9 = .ok (.iload_n 2, 1) := by decide +kernel
theorem dX0_explore_10 : decode cX0_explore 10 = .ok (.iload_n 3, 1) := by decide +kernel
theorem dX0_explore_11 : decode cX0_explore 11 = .ok (.invokevirtual 60, 3) := by decide +kernel
theorem dX0_explore_14 : decode cX0_explore 14 = .ok (.iload_n 2, 1) := by decide +kernel
theorem dX0_explore_15 : decode cX0_explore 15 = .ok (.aload_n 0, 1) := by decide +kernel
theorem dX0_explore_16 : decode cX0_explore 16 = .ok (.getfield 43, 3) := by decide +kernel
theorem dX0_explore_19 : decode cX0_explore 19 = .ok (.if_icmp .ge 29, 3) := by decide +kernel
theorem dX0_explore_22 : decode cX0_explore 22 = .ok (.aload_n 0, 1) := by decide +kernel
theorem dX0_explore_23 : decode cX0_explore 23 = .ok (.getfield 68, 3) := by decide +kernel
theorem dX0_explore_26 : decode cX0_explore 26 = .ok (.aload_n 0, 1) := by decide +kernel
theorem dX0_explore_27 : decode cX0_explore 27 = .ok (.getfield 49, 3) := by decide +kernel
theorem dX0_explore_30 : decode cX0_explore 30 = .ok (.if_icmp .ge 18, 3) := by decide +kernel
theorem dX0_explore_33 : decode cX0_explore 33 = .ok (.iload_n 3, 1) := by decide +kernel
theorem dX0_explore_34 : decode cX0_explore 34 = .ok (.aload_n 0, 1) := by decide +kernel
theorem dX0_explore_35 : decode cX0_explore 35 = .ok (.getfield 43, 3) := by decide +kernel
theorem dX0_explore_38 : decode cX0_explore 38 = .ok (.iadd, 1) := by decide +kernel
theorem dX0_explore_39 : decode cX0_explore 39 = .ok (.iload_n 2, 1) := by decide +kernel
theorem dX0_explore_40 : decode cX0_explore 40 = .ok (.isub, 1) := by decide +kernel
theorem dX0_explore_41 : decode cX0_explore 41 = .ok (.aload_n 0, 1) := by decide +kernel
theorem dX0_explore_42 : decode cX0_explore 42 = .ok (.getfield 68, 3) := by decide +kernel
theorem dX0_explore_45 : decode cX0_explore 45 = .ok (.if_icmp .gt 4, 3) := by decide +kernel
theorem dX0_explore_48 : decode cX0_explore 48 = .ok (.return_, 1) := by decide +kernel
theorem dX0_explore_49 : decode cX0_explore 49 = .ok (.iconst 0, 1) := by decide +kernel
theorem dX0_explore_50 : decode cX0_explore 50 = .ok (.istore 4, 2) := by decide +kernel
theorem dX0_explore_52 : decode cX0_explore 52 = .ok (.iload 4, 2) := by decide +kernel
theorem dX0_explore_54 : decode cX0_explore 54 = .ok (.iconst 1, 1) := by decide +kernel
theorem dX0_explore_55 : decode cX0_explore 55 = .ok (.aload_n 1, 1) := by decide +kernel
theorem dX0_explore_56 : decode cX0_explore 56 = .ok (.getfield 71, 3) := by decide +kernel
theorem dX0_explore_59 : decode cX0_explore 59 = .ok (.ishl, 1) := by decide +kernel
theorem dX0_explore_60 : decode cX0_explore 60 = .ok (.if_icmp .ge 61, 3) := by decide +kernel
theorem dX0_explore_63 : decode cX0_explore 63 = .ok (.iload 4, 2) := by decide +kernel
theorem dX0_explore_65 : decode cX0_explore 65 = .ok (.ifCond .eq 14, 3) := by decide +kernel
theorem dX0_explore_68 : decode cX0_explore 68 = .ok (.aload_n 0, 1) := by decide +kernel
theorem dX0_explore_69 : decode cX0_explore 69 = .ok (.aload_n 1, 1) := by decide +kernel
theorem dX0_explore_70 : decode cX0_explore 70 = .ok (.iload_n 2, 1) := by decide +kernel
theorem dX0_explore_71 : decode cX0_explore 71 = .ok (.iload 4, 2) := by decide +kernel
theorem dX0_explore_73 : decode cX0_explore 73 = .ok (.invokevirtual 76, 3) := by decide +kernel
theorem dX0_explore_76 : decode cX0_explore 76 = .ok (.ifCond .eq 39, 3) := by decide +kernel
theorem dX0_explore_79 : decode cX0_explore 79 = .ok (.aload_n 0, 1) := by decide +kernel
theorem dX0_explore_80 : decode cX0_explore 80 = .ok (.getfield 16, 3) := by decide +kernel
theorem dX0_explore_83 : decode cX0_explore 83 = .ok (.iload_n 2, 1) := by decide +kernel
theorem dX0_explore_84 : decode cX0_explore 84 = .ok (.iload 4, 2) := by decide +kernel
theorem dX0_explore_86 : decode cX0_explore 86 = .ok (.iastore, 1) := by decide +kernel
theorem dX0_explore_87 : decode cX0_explore 87 = .ok (.aload_n 0, 1) := by decide +kernel
theorem dX0_explore_88 : decode cX0_explore 88 = .ok (.aload_n 1, 1) := by decide +kernel
theorem dX0_explore_89 : decode cX0_explore 89 = .ok (.iload_n 2, 1) := by decide +kernel
theorem dX0_explore_90 : decode cX0_explore 90 = .ok (.iload 4, 2) := by decide +kernel
theorem dX0_explore_92 : decode cX0_explore 92 = .ok (.invokevirtual 80, 3) := by decide +kernel
theorem dX0_explore_95 : decode cX0_explore 95 = .ok (.aload_n 0, 1) := by decide +kernel
theorem dX0_explore_96 : decode cX0_explore 96 = .ok (.aload_n 1, 1) := by decide +kernel
theorem dX0_explore_97 : decode cX0_explore 97 = .ok (.iload_n 2, 1) := by decide +kernel
theorem dX0_explore_98 : decode cX0_explore 98 = .ok (.iconst 1, 1) := by decide +kernel
theorem dX0_explore_99 : decode cX0_explore 99 = .ok (.iadd, 1) := by decide +kernel
theorem dX0_explore_100 : decode cX0_explore 100 = .ok (.iload 4, 2) := by decide +kernel
theorem dX0_explore_102 : decode cX0_explore 102 = .ok (.ifCond .ne 7, 3) := by decide +kernel
theorem dX0_explore_105 : decode cX0_explore 105 = .ok (.iload_n 3, 1) := by decide +kernel
theorem dX0_explore_106 : decode cX0_explore 106 = .ok (.goto 6, 3) := by decide +kernel
theorem dX0_explore_109 : decode cX0_explore 109 = .ok (.iload_n 3, 1) := by decide +kernel
theorem dX0_explore_110 : decode cX0_explore 110 = .ok (.iconst 1, 1) := by decide +kernel
theorem dX0_explore_111 : decode cX0_explore 111 = .ok (.iadd, 1) := by decide +kernel
theorem dX0_explore_112 : decode cX0_explore 112 = .ok (.invokevirtual 64, 3) := by decide +kernel
theorem dX0_explore_115 : decode cX0_explore 115 = .ok (.iinc 4 1, 3) := by decide +kernel
theorem dX0_explore_118 : decode cX0_explore 118 = .ok (.goto (-66), 3) := by decide +kernel
theorem dX0_explore_121 : decode cX0_explore 121 = .ok (.return_, 1) := by decide +kernel
theorem dX0_keepRow_0 : decode cX0_keepRow 0 = .ok (.aload_n 0, 1) := by decide +kernel
theorem dX0_keepRow_1 : decode cX0_keepRow 1 = .ok (.iload_n 2, 1) := by decide +kernel
theorem dX0_keepRow_2 : decode cX0_keepRow 2 = .ok (.putfield 68, 3) := by decide +kernel
theorem dX0_keepRow_5 : decode cX0_keepRow 5 = .ok (.iconst 0, 1) := by decide +kernel
theorem dX0_keepRow_6 : decode cX0_keepRow 6 = .ok (.istore_n 3, 1) := by decide +kernel
theorem dX0_keepRow_7 : decode cX0_keepRow 7 = .ok (.iload_n 3, 1) := by decide +kernel
theorem dX0_keepRow_8 : decode cX0_keepRow 8 = .ok (.bipush 6, 2) := by decide +kernel
theorem dX0_keepRow_10 : decode cX0_keepRow 10 = .ok (.if_icmp .ge 30, 3) := by decide +kernel
theorem dX0_keepRow_13 : decode cX0_keepRow 13 = .ok (.aload_n 0, 1) := by decide +kernel
theorem dX0_keepRow_14 : decode cX0_keepRow 14 = .ok (.getfield 20, 3) := by decide +kernel
theorem dX0_keepRow_17 : decode cX0_keepRow 17 = .ok (.iload_n 3, 1) := by decide +kernel
theorem dX0_keepRow_18 : decode cX0_keepRow 18 = .ok (.iload_n 3, 1) := by decide +kernel
theorem dX0_keepRow_19 : decode cX0_keepRow 19 = .ok (.iload_n 1, 1) := by decide +kernel
theorem dX0_keepRow_20 : decode cX0_keepRow 20 = .ok (.if_icmp .ge 12, 3) := by decide +kernel
theorem dX0_keepRow_23 : decode cX0_keepRow 23 = .ok (.aload_n 0, 1) := by decide +kernel
theorem dX0_keepRow_24 : decode cX0_keepRow 24 = .ok (.getfield 16, 3) := by decide +kernel
theorem dX0_keepRow_27 : decode cX0_keepRow 27 = .ok (.iload_n 3, 1) := by decide +kernel
theorem dX0_keepRow_28 : decode cX0_keepRow 28 = .ok (.iaload, 1) := by decide +kernel
theorem dX0_keepRow_29 : decode cX0_keepRow 29 = .ok (.goto 4, 3) := by decide +kernel
theorem dX0_keepRow_32 : decode cX0_keepRow 32 = .ok (.iconst 0, 1) := by decide +kernel
theorem dX0_keepRow_33 : decode cX0_keepRow 33 = .ok (.iastore, 1) := by decide +kernel
theorem dX0_keepRow_34 : decode cX0_keepRow 34 = .ok (.iinc 3 1, 3) := by decide +kernel
theorem dX0_keepRow_37 : decode cX0_keepRow 37 = .ok (.goto (-30), 3) := by decide +kernel
theorem dX0_keepRow_40 : decode cX0_keepRow 40 = .ok (.return_, 1) := by decide +kernel
theorem dX0_isJustEnough_0 : decode cX0_isJustEnough 0 = .ok (.iconst 0, 1) := by decide +kernel
theorem dX0_isJustEnough_1 : decode cX0_isJustEnough 1 = .ok (.istore 4, 2) := by decide +kernel
theorem dX0_isJustEnough_3 : decode cX0_isJustEnough 3 = .ok (.iconst 0, 1) := by decide +kernel
theorem dX0_isJustEnough_4 : decode cX0_isJustEnough 4 = .ok (.istore 5, 2) := by decide +kernel
theorem dX0_isJustEnough_6 : decode cX0_isJustEnough 6 = .ok (.iload 5, 2) := by decide +kernel
theorem dX0_isJustEnough_8 : decode cX0_isJustEnough 8 = .ok (.aload_n 1, 1) := by decide +kernel
theorem dX0_isJustEnough_9 : decode cX0_isJustEnough 9 = .ok (.getfield 71, 3) := by decide +kernel
theorem dX0_isJustEnough_12 : decode cX0_isJustEnough 12 = .ok (.if_icmp .ge 36, 3) := by decide +kernel
theorem dX0_isJustEnough_15 : decode cX0_isJustEnough 15 = .ok (.iload 4, 2) := by decide +kernel
theorem dX0_isJustEnough_17 : decode cX0_isJustEnough 17 = .ok (.iload_n 3, 1) := by decide +kernel
theorem dX0_isJustEnough_18 : decode cX0_isJustEnough 18 = .ok (.iload 5, 2) := by decide +kernel
theorem dX0_isJustEnough_20 : decode cX0_isJustEnough 20 = .ok (.invokestatic 83, 3) := by decide +kernel
theorem dX0_isJustEnough_23 : decode cX0_isJustEnough 23 = .ok (.ifCond .eq 15, 3) := by decide +kernel
theorem dX0_isJustEnough_26 : decode cX0_isJustEnough 26 = .ok (.aload_n 0, 1) := by decide +kernel
theorem dX0_isJustEnough_27 : decode cX0_isJustEnough 27 = .ok (.getfield 11, 3) := by decide +kernel
theorem dX0_isJustEnough_30 : decode cX0_isJustEnough 30 = .ok (.iload_n 2, 1) := by decide +kernel
theorem dX0_isJustEnough_31 : decode cX0_isJustEnough 31 = .ok (.aaload, 1) := by decide +kernel
theorem dX0_isJustEnough_32 : decode cX0_isJustEnough 32 = .ok (.iload 5, 2) := by decide +kernel
theorem dX0_isJustEnough_34 : decode cX0_isJustEnough 34 = .ok (.iaload, 1) := by decide +kernel
theorem dX0_isJustEnough_35 : decode cX0_isJustEnough 35 = .ok (.goto 4, 3) := by decide +kernel
theorem dX0_isJustEnough_38 : decode cX0_isJustEnough 38 = .ok (.iconst 0, 1) := by decide +kernel
theorem dX0_isJustEnough_39 : decode cX0_isJustEnough 39 = .ok (.iadd, 1) := by decide +kernel
theorem dX0_isJustEnough_40 : decode cX0_isJustEnough 40 = .ok (.istore 4, 2) := by decide +kernel
theorem dX0_isJustEnough_42 : decode cX0_isJustEnough 42 = .ok (.iinc 5 1, 3) := by decide +kernel
theorem dX0_isJustEnough_45 : decode cX0_isJustEnough 45 = .ok (.goto (-39), 3) := by decide +kernel
theorem dX0_isJustEnough_48 : decode cX0_isJustEnough 48 = .ok (.iload 4, 2) := by decide +kernel
theorem dX0_isJustEnough_50 : decode cX0_isJustEnough 50 = .ok (.aload_n 0, 1) := by decide +kernel
theorem dX0_isJustEnough_51 : decode cX0_isJustEnough 51 = .ok (.getfield 29, 3) := by decide +kernel
theorem dX0_isJustEnough_54 : decode cX0_isJustEnough 54 = .ok (.if_icmp .ge 5, 3) := by decide +kernel
theorem dX0_isJustEnough_57 : decode cX0_isJustEnough 57 = .ok (.iconst 0, 1) := by decide +kernel
theorem dX0_isJustEnough_58 : decode cX0_isJustEnough 58 = .ok (.ireturn, 1) := by decide +kernel
theorem dX0_isJustEnough_59 : decode cX0_isJustEnough 59 = .ok (.iconst 0, 1) := by decide +kernel
theorem dX0_isJustEnough_60 : decode cX0_isJustEnough 60 = .ok (.istore 5, 2) := by decide +kernel
theorem dX0_isJustEnough_62 : decode cX0_isJustEnough 62 = .ok (.iload 5, 2) := by decide +kernel
theorem dX0_isJustEnough_64 : decode cX0_isJustEnough 64 = .ok (.aload_n 1, 1) := by decide +kernel
theorem dX0_isJustEnough_65 : decode cX0_isJustEnough 65 = .ok (.getfield 71, 3) := by decide +kernel
theorem dX0_isJustEnough_68 : decode cX0_isJustEnough 68 = .ok (.if_icmp .ge 39, 3) := by decide +kernel
theorem dX0_isJustEnough_71 : decode cX0_isJustEnough 71 = .ok (.iload_n 3, 1) := by decide +kernel
theorem dX0_isJustEnough_72 : decode cX0_isJustEnough 72 = .ok (.iload 5, 2) := by decide +kernel
theorem dX0_isJustEnough_74 : decode cX0_isJustEnough 74 = .ok (.invokestatic 83, 3) := by decide +kernel
theorem dX0_isJustEnough_77 : decode cX0_isJustEnough 77 = .ok (.ifCond .eq 24, 3) := by decide +kernel
theorem dX0_isJustEnough_80 : decode cX0_isJustEnough 80 = .ok (.iload 4, 2) := by decide +kernel
theorem dX0_isJustEnough_82 : decode cX0_isJustEnough 82 = .ok (.aload_n 0, 1) := by decide +kernel
theorem dX0_isJustEnough_83 : decode cX0_isJustEnough 83 = .ok (.getfield 11, 3) := by decide +kernel
theorem dX0_isJustEnough_86 : decode cX0_isJustEnough 86 = .ok (.iload_n 2, 1) := by decide +kernel
theorem dX0_isJustEnough_87 : decode cX0_isJustEnough 87 = .ok (.aaload, 1) := by decide +kernel
theorem dX0_isJustEnough_88 : decode cX0_isJustEnough 88 = .ok (.iload 5, 2) := by decide +kernel
theorem dX0_isJustEnough_90 : decode cX0_isJustEnough 90 = .ok (.iaload, 1) := by decide +kernel
theorem dX0_isJustEnough_91 : decode cX0_isJustEnough 91 = .ok (.isub, 1) := by decide +kernel
theorem dX0_isJustEnough_92 : decode cX0_isJustEnough 92 = .ok (.aload_n 0, 1) := by decide +kernel
theorem dX0_isJustEnough_93 : decode cX0_isJustEnough 93 = .ok (.getfield 29, 3) := by decide +kernel
theorem dX0_isJustEnough_96 : decode cX0_isJustEnough 96 = .ok (.if_icmp .lt 5, 3) := by decide +kernel
theorem dX0_isJustEnough_99 : decode cX0_isJustEnough 99 = .ok (.iconst 0, 1) := by decide +kernel
theorem dX0_isJustEnough_100 : decode cX0_isJustEnough 100 = .ok (.ireturn, 1) := by decide +kernel
theorem dX0_isJustEnough_101 : decode cX0_isJustEnough 101 = .ok (.iinc 5 1, 3) := by decide +kernel
theorem dX0_isJustEnough_104 : decode cX0_isJustEnough 104 = .ok (.goto (-42), 3) := by decide +kernel
theorem dX0_isJustEnough_107 : decode cX0_isJustEnough 107 = .ok (.iconst 1, 1) := by decide +kernel
theorem dX0_isJustEnough_108 : decode cX0_isJustEnough 108 = .ok (.ireturn, 1) := by decide +kernel
theorem dX0_isIn_0 : decode cX0_isIn 0 = .ok (.iload_n 0, 1) := by decide +kernel
theorem dX0_isIn_1 : decode cX0_isIn 1 = .ok (.iload_n 1, 1) := by decide +kernel
theorem dX0_isIn_2 : decode cX0_isIn 2 = .ok (.ishr, 1) := by decide +kernel
theorem dX0_isIn_3 : decode cX0_isIn 3 = .ok (.iconst 1, 1) := by decide +kernel
theorem dX0_isIn_4 : decode cX0_isIn 4 = .ok (.iand, 1) := by decide +kernel
theorem dX0_isIn_5 : decode cX0_isIn 5 = .ok (.iconst 1, 1) := by decide +kernel
theorem dX0_isIn_6 : decode cX0_isIn 6 = .ok (.if_icmp .ne 7, 3) := by decide +kernel
theorem dX0_isIn_9 : decode cX0_isIn 9 = .ok (.iconst 1, 1) := by decide +kernel
theorem dX0_isIn_10 : decode cX0_isIn 10 = .ok (.goto 4, 3) := by decide +kernel
theorem dX0_isIn_13 : decode cX0_isIn 13 = .ok (.iconst 0, 1) := by decide +kernel
theorem dX0_isIn_14 : decode cX0_isIn 14 = .ok (.ireturn, 1) := by decide +kernel
theorem dX0_tire_0 : decode cX0_tire 0 = .ok (.iconst 0, 1) := by decide +kernel
theorem dX0_tire_1 : decode cX0_tire 1 = .ok (.istore 4, 2) := by decide +kernel
theorem dX0_tire_3 : decode cX0_tire 3 = .ok (.iload 4, 2) := by decide +kernel
theorem dX0_tire_5 : decode cX0_tire 5 = .ok (.aload_n 1, 1) := by decide +kernel
theorem dX0_tire_6 : decode cX0_tire 6 = .ok (.getfield 71, 3) := by decide +kernel
theorem dX0_tire_9 : decode cX0_tire 9 = .ok (.if_icmp .ge 65, 3) := by decide +kernel
theorem dX0_tire_12 : decode cX0_tire 12 = .ok (.aload_n 0, 1) := by decide +kernel
theorem dX0_tire_13 : decode cX0_tire 13 = .ok (.getfield 11, 3) := by decide +kernel
theorem dX0_tire_16 : decode cX0_tire 16 = .ok (.iload_n 2, 1) := by decide +kernel
theorem dX0_tire_17 : decode cX0_tire 17 = .ok (.aaload, 1) := by decide +kernel
theorem dX0_tire_18 : decode cX0_tire 18 = .ok (.iload 4, 2) := by decide +kernel
theorem dX0_tire_20 : decode cX0_tire 20 = .ok (.iaload, 1) := by decide +kernel
theorem dX0_tire_21 : decode cX0_tire 21 = .ok (.istore 5, 2) := by decide +kernel
theorem dX0_tire_23 : decode cX0_tire 23 = .ok (.aload_n 0, 1) := by decide +kernel
theorem dX0_tire_24 : decode cX0_tire 24 = .ok (.getfield 11, 3) := by decide +kernel
theorem dX0_tire_27 : decode cX0_tire 27 = .ok (.iload_n 2, 1) := by decide +kernel
theorem dX0_tire_28 : decode cX0_tire 28 = .ok (.iconst 1, 1) := by decide +kernel
theorem dX0_tire_29 : decode cX0_tire 29 = .ok (.iadd, 1) := by decide +kernel
theorem dX0_tire_30 : decode cX0_tire 30 = .ok (.aaload, 1) := by decide +kernel
theorem dX0_tire_31 : decode cX0_tire 31 = .ok (.iload 4, 2) := by decide +kernel
theorem dX0_tire_33 : decode cX0_tire 33 = .ok (.iload_n 3, 1) := by decide +kernel
theorem dX0_tire_34 : decode cX0_tire 34 = .ok (.iload 4, 2) := by decide +kernel
theorem dX0_tire_36 : decode cX0_tire 36 = .ok (.invokestatic 83, 3) := by decide +kernel
theorem dX0_tire_39 : decode cX0_tire 39 = .ok (.ifCond .eq 14, 3) := by decide +kernel
theorem dX0_tire_42 : decode cX0_tire 42 = .ok (.iconst 0, 1) := by decide +kernel
theorem dX0_tire_43 : decode cX0_tire 43 = .ok (.iload 5, 2) := by decide +kernel
theorem dX0_tire_45 : decode cX0_tire 45 = .ok (.iconst 1, 1) := by decide +kernel
theorem dX0_tire_46 : decode cX0_tire 46 = .ok (.isub, 1) := by decide +kernel
theorem dX0_tire_47 : decode cX0_tire 47 = .ok (.invokestatic 87, 3) := by decide +kernel
theorem dX0_tire_50 : decode cX0_tire 50 = .ok (.goto 17, 3) := by decide +kernel
theorem dX0_tire_53 : decode cX0_tire 53 = .ok (.aload_n 1, 1) := by decide +kernel
theorem dX0_tire_54 : decode cX0_tire 54 = .ok (.getfield 90, 3) := by decide +kernel
theorem dX0_tire_57 : decode cX0_tire 57 = .ok (.iload 4, 2) := by decide +kernel
theorem dX0_tire_59 : decode cX0_tire 59 = .ok (.iaload, 1) := by decide +kernel
theorem dX0_tire_60 : decode cX0_tire 60 = .ok (.iload 5, 2) := by decide +kernel
theorem dX0_tire_62 : decode cX0_tire 62 = .ok (.iconst 1, 1) := by decide +kernel
theorem dX0_tire_63 : decode cX0_tire 63 = .ok (.iadd, 1) := by decide +kernel
theorem dX0_tire_64 : decode cX0_tire 64 = .ok (.invokestatic 37, 3) := by decide +kernel
theorem dX0_tire_67 : decode cX0_tire 67 = .ok (.iastore, 1) := by decide +kernel
theorem dX0_tire_68 : decode cX0_tire 68 = .ok (.iinc 4 1, 3) := by decide +kernel
theorem dX0_tire_71 : decode cX0_tire 71 = .ok (.goto (-68), 3) := by decide +kernel
theorem dX0_tire_74 : decode cX0_tire 74 = .ok (.return_, 1) := by decide +kernel
theorem dX1_init_0 : decode cX1_init 0 = .ok (.aload_n 0, 1) := by decide +kernel
theorem dX1_init_1 : decode cX1_init 1 = .ok (.invokespecial 3, 3) := by decide +kernel
theorem dX1_init_4 : decode cX1_init 4 = .ok (.aload_n 0, 1) := by decide +kernel
theorem dX1_init_5 : decode cX1_init 5 = .ok (.iconst 4, 1) := by decide +kernel
theorem dX1_init_6 : decode cX1_init 6 = .ok (.newarray .int, 2) := by decide +kernel
theorem dX1_init_8 : decode cX1_init 8 = .ok (.putfield 9, 3) := by decide +kernel
theorem dX1_init_11 : decode cX1_init 11 = .ok (.aload_n 0, 1) := by decide +kernel
theorem dX1_init_12 : decode cX1_init 12 = .ok (.iconst 4, 1) := by decide +kernel
theorem dX1_init_13 : decode cX1_init 13 = .ok (.newarray .int, 2) := by decide +kernel
theorem dX1_init_15 : decode cX1_init 15 = .ok (.putfield 15, 3) := by decide +kernel
theorem dX1_init_18 : decode cX1_init 18 = .ok (.aload_n 0, 1) := by decide +kernel
theorem dX1_init_19 : decode cX1_init 19 = .ok (.iconst 4, 1) := by decide +kernel
theorem dX1_init_20 : decode cX1_init 20 = .ok (.newarray .int, 2) := by decide +kernel
theorem dX1_init_22 : decode cX1_init 22 = .ok (.putfield 18, 3) := by decide +kernel
theorem dX1_init_25 : decode cX1_init 25 = .ok (.aload_n 0, 1) := by decide +kernel
theorem dX1_init_26 : decode cX1_init 26 = .ok (.iconst 4, 1) := by decide +kernel
theorem dX1_init_27 : decode cX1_init 27 = .ok (.newarray .int, 2) := by decide +kernel
theorem dX1_init_29 : decode cX1_init 29 = .ok (.putfield 21, 3) := by decide +kernel
theorem dX1_init_32 : decode cX1_init 32 = .ok (.aload_n 0, 1) := by decide +kernel
theorem dX1_init_33 : decode cX1_init 33 = .ok (.iconst 4, 1) := by decide +kernel
theorem dX1_init_34 : decode cX1_init 34 = .ok (.newarray .int, 2) := by decide +kernel
theorem dX1_init_36 : decode cX1_init 36 = .ok (.putfield 24, 3) := by decide +kernel
theorem dX1_init_39 : decode cX1_init 39 = .ok (.aload_n 0, 1) := by decide +kernel
theorem dX1_init_40 : decode cX1_init 40 = .ok (.iconst 4, 1) := by decide +kernel
theorem dX1_init_41 : decode cX1_init 41 = .ok (.newarray .int, 2) := by decide +kernel
theorem dX1_init_43 : decode cX1_init 43 = .ok (.putfield 27, 3) := by decide +kernel
theorem dX1_init_46 : decode cX1_init 46 = .ok (.aload_n 0, 1) := by decide +kernel
theorem dX1_init_47 : decode cX1_init 47 = .ok (.iconst 4, 1) := by decide +kernel
theorem dX1_init_48 : decode cX1_init 48 = .ok (.newarray .int, 2) := by decide +kernel
theorem dX1_init_50 : decode cX1_init 50 = .ok (.putfield 30, 3) := by decide +kernel
theorem dX1_init_53 : decode cX1_init 53 = .ok (.aload_n 0, 1) := by decide +kernel
theorem dX1_init_54 : decode cX1_init 54 = .ok (.iconst 3, 1) := by decide +kernel
theorem dX1_init_55 : decode cX1_init 55 = .ok (.newarray .int, 2) := by decide +kernel
theorem dX1_init_57 : decode cX1_init 57 = .ok (.putfield 33, 3) := by decide +kernel
theorem dX1_init_60 : decode cX1_init 60 = .ok (.aload_n 0, 1) := by decide +kernel
theorem dX1_init_61 : decode cX1_init 61 = .ok (.iconst 4, 1) := by decide +kernel
theorem dX1_init_62 : decode cX1_init 62 = .ok (.putfield 36, 3) := by decide +kernel
theorem dX1_init_65 : decode cX1_init 65 = .ok (.return_, 1) := by decide +kernel
theorem dX1_empty_0 : decode cX1_empty 0 = .ok (.aload_n 0, 1) := by decide +kernel
theorem dX1_empty_1 : decode cX1_empty 1 = .ok (.iconst 0, 1) := by decide +kernel
theorem dX1_empty_2 : decode cX1_empty 2 = .ok (.putfield 40, 3) := by decide +kernel
theorem dX1_empty_5 : decode cX1_empty 5 = .ok (.aload_n 0, 1) := by decide +kernel
theorem dX1_empty_6 : decode cX1_empty 6 = .ok (.iconst 0, 1) := by decide +kernel
theorem dX1_empty_7 : decode cX1_empty 7 = .ok (.putfield 43, 3) := by decide +kernel
theorem dX1_empty_10 : decode cX1_empty 10 = .ok (.aload_n 0, 1) := by decide +kernel
theorem dX1_empty_11 : decode cX1_empty 11 = .ok (.iconst 0, 1) := by decide +kernel
theorem dX1_empty_12 : decode cX1_empty 12 = .ok (.putfield 46, 3) := by decide +kernel
theorem dX1_empty_15 : decode cX1_empty 15 = .ok (.aload_n 0, 1) := by decide +kernel
theorem dX1_empty_16 : decode cX1_empty 16 = .ok (.iconst 4, 1) := by decide +kernel
theorem dX1_empty_17 : decode cX1_empty 17 = .ok (.putfield 36, 3) := by decide +kernel
theorem dX1_empty_20 : decode cX1_empty 20 = .ok (.aload_n 0, 1) := by decide +kernel
theorem dX1_empty_21 : decode cX1_empty 21 = .ok (.iconst 0, 1) := by decide +kernel
theorem dX1_empty_22 : decode cX1_empty 22 = .ok (.putfield 49, 3) := by decide +kernel
theorem dX1_empty_25 : decode cX1_empty 25 = .ok (.aload_n 0, 1) := by decide +kernel
theorem dX1_empty_26 : decode cX1_empty 26 = .ok (.iconst 0, 1) := by decide +kernel
theorem dX1_empty_27 : decode cX1_empty 27 = .ok (.putfield 52, 3) := by decide +kernel
theorem dX1_empty_30 : decode cX1_empty 30 = .ok (.aload_n 0, 1) := by decide +kernel
theorem dX1_empty_31 : decode cX1_empty 31 = .ok (.iconst 0, 1) := by decide +kernel
theorem dX1_empty_32 : decode cX1_empty 32 = .ok (.putfield 56, 3) := by decide +kernel
theorem dX1_empty_35 : decode cX1_empty 35 = .ok (.return_, 1) := by decide +kernel
theorem dX1_hasHill_0 : decode cX1_hasHill 0 = .ok (.iload_n 1, 1) := by decide +kernel
theorem dX1_hasHill_1 : decode cX1_hasHill 1 = .ok (.ifCond .lt 15, 3) := by decide +kernel
theorem dX1_hasHill_4 : decode cX1_hasHill 4 = .ok (.iload_n 1, 1) := by decide +kernel
theorem dX1_hasHill_5 : decode cX1_hasHill 5 = .ok (.aload_n 0, 1) := by decide +kernel
theorem dX1_hasHill_6 : decode cX1_hasHill 6 = .ok (.getfield 40, 3) := by decide +kernel
theorem dX1_hasHill_9 : decode cX1_hasHill 9 = .ok (.if_icmp .ge 7, 3) := by decide +kernel
theorem dX1_hasHill_12 : decode cX1_hasHill 12 = .ok (.iconst 1, 1) := by decide +kernel
theorem dX1_hasHill_13 : decode cX1_hasHill 13 = .ok (.goto 4, 3) := by decide +kernel
theorem dX1_hasHill_16 : decode cX1_hasHill 16 = .ok (.iconst 0, 1) := by decide +kernel
theorem dX1_hasHill_17 : decode cX1_hasHill 17 = .ok (.ireturn, 1) := by decide +kernel
theorem dX1_hasMan_0 : decode cX1_hasMan 0 = .ok (.iload_n 1, 1) := by decide +kernel
theorem dX1_hasMan_1 : decode cX1_hasMan 1 = .ok (.ifCond .lt 15, 3) := by decide +kernel
theorem dX1_hasMan_4 : decode cX1_hasMan 4 = .ok (.iload_n 1, 1) := by decide +kernel
theorem dX1_hasMan_5 : decode cX1_hasMan 5 = .ok (.aload_n 0, 1) := by decide +kernel
theorem dX1_hasMan_6 : decode cX1_hasMan 6 = .ok (.getfield 46, 3) := by decide +kernel
theorem dX1_hasMan_9 : decode cX1_hasMan 9 = .ok (.if_icmp .ge 7, 3) := by decide +kernel
theorem dX1_hasMan_12 : decode cX1_hasMan 12 = .ok (.iconst 1, 1) := by decide +kernel
theorem dX1_hasMan_13 : decode cX1_hasMan 13 = .ok (.goto 4, 3) := by decide +kernel
theorem dX1_hasMan_16 : decode cX1_hasMan 16 = .ok (.iconst 0, 1) := by decide +kernel
theorem dX1_hasMan_17 : decode cX1_hasMan 17 = .ok (.ireturn, 1) := by decide +kernel
theorem dX1_rainsOn_0 : decode cX1_rainsOn 0 = .ok (.aload_n 0, 1) := by decide +kernel
theorem dX1_rainsOn_1 : decode cX1_rainsOn 1 = .ok (.getfield 49, 3) := by decide +kernel
theorem dX1_rainsOn_4 : decode cX1_rainsOn 4 = .ok (.iload_n 1, 1) := by decide +kernel
theorem dX1_rainsOn_5 : decode cX1_rainsOn 5 = .ok (.bipush 7, 2) := by decide +kernel
theorem dX1_rainsOn_7 : decode cX1_rainsOn 7 = .ok (.irem, 1) := by decide +kernel
theorem dX1_rainsOn_8 : decode cX1_rainsOn 8 = .ok (.ishr, 1) := by decide +kernel
theorem dX1_rainsOn_9 : decode cX1_rainsOn 9 = .ok (.iconst 1, 1) := by decide +kernel
theorem dX1_rainsOn_10 : decode cX1_rainsOn 10 = .ok (.iand, 1) := by decide +kernel
theorem dX1_rainsOn_11 : decode cX1_rainsOn 11 = .ok (.iconst 1, 1) := by decide +kernel
theorem dX1_rainsOn_12 : decode cX1_rainsOn 12 = .ok (.if_icmp .ne 7, 3) := by decide +kernel
theorem dX1_rainsOn_15 : decode cX1_rainsOn 15 = .ok (.iconst 1, 1) := by decide +kernel
theorem dX1_rainsOn_16 : decode cX1_rainsOn 16 = .ok (.goto 4, 3) := by decide +kernel
theorem dX1_rainsOn_19 : decode cX1_rainsOn 19 = .ok (.iconst 0, 1) := by decide +kernel
theorem dX1_rainsOn_20 : decode cX1_rainsOn 20 = .ok (.ireturn, 1) := by decide +kernel
theorem dX1_hasLedge_0 : decode cX1_hasLedge 0 = .ok (.aload_n 0, 1) := by decide +kernel
theorem dX1_hasLedge_1 : decode cX1_hasLedge 1 = .ok (.getfield 18, 3) := by decide +kernel
theorem dX1_hasLedge_4 : decode cX1_hasLedge 4 = .ok (.iload_n 1, 1) := by decide +kernel
theorem dX1_hasLedge_5 : decode cX1_hasLedge 5 = .ok (.iaload, 1) := by decide +kernel
theorem dX1_hasLedge_6 : decode cX1_hasLedge 6 = .ok (.iload_n 2, 1) := by decide +kernel
theorem dX1_hasLedge_7 : decode cX1_hasLedge 7 = .ok (.ishr, 1) := by decide +kernel
theorem dX1_hasLedge_8 : decode cX1_hasLedge 8 = .ok (.iconst 1, 1) := by decide +kernel
theorem dX1_hasLedge_9 : decode cX1_hasLedge 9 = .ok (.iand, 1) := by decide +kernel
theorem dX1_hasLedge_10 : decode cX1_hasLedge 10 = .ok (.iconst 1, 1) := by decide +kernel
theorem dX1_hasLedge_11 : decode cX1_hasLedge 11 = .ok (.if_icmp .ne 7, 3) := by decide +kernel
theorem dX1_hasLedge_14 : decode cX1_hasLedge 14 = .ok (.iconst 1, 1) := by decide +kernel
theorem dX1_hasLedge_15 : decode cX1_hasLedge 15 = .ok (.goto 4, 3) := by decide +kernel
theorem dX1_hasLedge_18 : decode cX1_hasLedge 18 = .ok (.iconst 0, 1) := by decide +kernel
theorem dX1_hasLedge_19 : decode cX1_hasLedge 19 = .ok (.ireturn, 1) := by decide +kernel
theorem dX1_isOnePlace_0 : decode cX1_isOnePlace 0 = .ok (.iconst 0, 1) := by decide +kernel
theorem dX1_isOnePlace_1 : decode cX1_isOnePlace 1 = .ok (.istore 4, 2) := by decide +kernel
theorem dX1_isOnePlace_3 : decode cX1_isOnePlace 3 = .ok (.iload 4, 2) := by decide +kernel
theorem dX1_isOnePlace_5 : decode cX1_isOnePlace 5 = .ok (.aload_n 0, 1) := by decide +kernel
theorem dX1_isOnePlace_6 : decode cX1_isOnePlace 6 = .ok (.getfield 43, 3) := by decide +kernel
theorem dX1_isOnePlace_9 : decode cX1_isOnePlace 9 = .ok (.if_icmp .ge 78, 3) := by decide +kernel
theorem dX1_isOnePlace_12 : decode cX1_isOnePlace 12 = .ok (.aload_n 0, 1) := by decide +kernel
theorem dX1_isOnePlace_13 : decode cX1_isOnePlace 13 = .ok (.getfield 24, 3) := by decide +kernel
theorem dX1_isOnePlace_16 : decode cX1_isOnePlace 16 = .ok (.iload 4, 2) := by decide +kernel
theorem dX1_isOnePlace_18 : decode cX1_isOnePlace 18 = .ok (.iaload, 1) := by decide +kernel
theorem dX1_isOnePlace_19 : decode cX1_isOnePlace 19 = .ok (.iload_n 1, 1) := by decide +kernel
theorem dX1_isOnePlace_20 : decode cX1_isOnePlace 20 = .ok (.if_icmp .ne 14, 3) := by decide +kernel
theorem dX1_isOnePlace_23 : decode cX1_isOnePlace 23 = .ok (.aload_n 0, 1) := by decide +kernel
theorem dX1_isOnePlace_24 : decode cX1_isOnePlace 24 = .ok (.getfield 27, 3) := by decide +kernel
theorem dX1_isOnePlace_27 : decode cX1_isOnePlace 27 = .ok (.iload 4, 2) := by decide +kernel
theorem dX1_isOnePlace_29 : decode cX1_isOnePlace 29 = .ok (.iaload, 1) := by decide +kernel
theorem dX1_isOnePlace_30 : decode cX1_isOnePlace 30 = .ok (.iload_n 2, 1) := by decide +kernel
theorem dX1_isOnePlace_31 : decode cX1_isOnePlace 31 = .ok (.if_icmp .eq 25, 3) := by decide +kernel
theorem dX1_isOnePlace_34 : decode cX1_isOnePlace 34 = .ok (.aload_n 0, 1) := by decide +kernel
theorem dX1_isOnePlace_35 : decode cX1_isOnePlace 35 = .ok (.getfield 24, 3) := by decide +kernel
theorem dX1_isOnePlace_38 : decode cX1_isOnePlace 38 = .ok (.iload 4, 2) := by decide +kernel
theorem dX1_isOnePlace_40 : decode cX1_isOnePlace 40 = .ok (.iaload, 1) := by decide +kernel
theorem dX1_isOnePlace_41 : decode cX1_isOnePlace 41 = .ok (.iload_n 2, 1) := by decide +kernel
theorem dX1_isOnePlace_42 : decode cX1_isOnePlace 42 = .ok (.if_icmp .ne 18, 3) := by decide +kernel
theorem dX1_isOnePlace_45 : decode cX1_isOnePlace 45 = .ok (.aload_n 0, 1) := by decide +kernel
theorem dX1_isOnePlace_46 : decode cX1_isOnePlace 46 = .ok (.getfield 27, 3) := by decide +kernel
theorem dX1_isOnePlace_49 : decode cX1_isOnePlace 49 = .ok (.iload 4, 2) := by decide +kernel
theorem dX1_isOnePlace_51 : decode cX1_isOnePlace 51 = .ok (.iaload, 1) := by decide +kernel
theorem dX1_isOnePlace_52 : decode cX1_isOnePlace 52 = .ok (.iload_n 1, 1) := by decide +kernel
theorem dX1_isOnePlace_53 : decode cX1_isOnePlace 53 = .ok (.if_icmp .ne 7, 3) := by decide +kernel
theorem dX1_isOnePlace_56 : decode cX1_isOnePlace 56 = .ok (.iconst 1, 1) := by decide +kernel
theorem dX1_isOnePlace_57 : decode cX1_isOnePlace 57 = .ok (.goto 4, 3) := by decide +kernel
theorem dX1_isOnePlace_60 : decode cX1_isOnePlace 60 = .ok (.iconst 0, 1) := by decide +kernel
theorem dX1_isOnePlace_61 : decode cX1_isOnePlace 61 = .ok (.istore 5, 2) := by decide +kernel
theorem dX1_isOnePlace_63 : decode cX1_isOnePlace 63 = .ok (.iload 5, 2) := by decide +kernel
theorem dX1_isOnePlace_65 : decode cX1_isOnePlace 65 = .ok (.ifCond .eq 16, 3) := by decide +kernel
theorem dX1_isOnePlace_68 : decode cX1_isOnePlace 68 = .ok (.aload_n 0, 1) := by decide +kernel
theorem dX1_isOnePlace_69 : decode cX1_isOnePlace 69 = .ok (.getfield 30, 3) := by decide +kernel
theorem dX1_isOnePlace_72 : decode cX1_isOnePlace 72 = .ok (.iload 4, 2) := by decide +kernel
theorem dX1_isOnePlace_74 : decode cX1_isOnePlace 74 = .ok (.iaload, 1) := by decide +kernel
theorem dX1_isOnePlace_75 : decode cX1_isOnePlace 75 = .ok (.iload_n 3, 1) := by decide +kernel
theorem dX1_isOnePlace_76 : decode cX1_isOnePlace 76 = .ok (.if_icmp .gt 5, 3) := by decide +kernel
theorem dX1_isOnePlace_79 : decode cX1_isOnePlace 79 = .ok (.iconst 1, 1) := by decide +kernel
theorem dX1_isOnePlace_80 : decode cX1_isOnePlace 80 = .ok (.ireturn, 1) := by decide +kernel
theorem dX1_isOnePlace_81 : decode cX1_isOnePlace 81 = .ok (.iinc 4 1, 3) := by decide +kernel
theorem dX1_isOnePlace_84 : decode cX1_isOnePlace 84 = .ok (.goto (-81), 3) := by decide +kernel
theorem dX1_isOnePlace_87 : decode cX1_isOnePlace 87 = .ok (.iconst 0, 1) := by decide +kernel
theorem dX1_isOnePlace_88 : decode cX1_isOnePlace 88 = .ok (.ireturn, 1) := by decide +kernel
theorem dX1_forceOf_0 : decode cX1_forceOf 0 = .ok (.iconst 0, 1) := by decide +kernel
theorem dX1_forceOf_1 : decode cX1_forceOf 1 = .ok (.istore_n 2, 1) := by decide +kernel
theorem dX1_forceOf_2 : decode cX1_forceOf 2 = .ok (.iconst 0, 1) := by decide +kernel
theorem dX1_forceOf_3 : decode cX1_forceOf 3 = .ok (.istore_n 3, 1) := by decide +kernel
theorem dX1_forceOf_4 : decode cX1_forceOf 4 = .ok (.iload_n 3, 1) := by decide +kernel
theorem dX1_forceOf_5 : decode cX1_forceOf 5 = .ok (.aload_n 0, 1) := by decide +kernel
theorem dX1_forceOf_6 : decode cX1_forceOf 6 = .ok (.getfield 46, 3) := by decide +kernel
theorem dX1_forceOf_9 : decode cX1_forceOf 9 = .ok (.if_icmp .ge 27, 3) := by decide +kernel
theorem dX1_forceOf_12 : decode cX1_forceOf 12 = .ok (.iload_n 1, 1) := by decide +kernel
theorem dX1_forceOf_13 : decode cX1_forceOf 13 = .ok (.iload_n 3, 1) := by decide +kernel
theorem dX1_forceOf_14 : decode cX1_forceOf 14 = .ok (.ishr, 1) := by decide +kernel
theorem dX1_forceOf_15 : decode cX1_forceOf 15 = .ok (.iconst 1, 1) := by decide +kernel
theorem dX1_forceOf_16 : decode cX1_forceOf 16 = .ok (.iand, 1) := by decide +kernel
theorem dX1_forceOf_17 : decode cX1_forceOf 17 = .ok (.iconst 1, 1) := by decide +kernel
theorem dX1_forceOf_18 : decode cX1_forceOf 18 = .ok (.if_icmp .ne 12, 3) := by decide +kernel
theorem dX1_forceOf_21 : decode cX1_forceOf 21 = .ok (.iload_n 2, 1) := by decide +kernel
theorem dX1_forceOf_22 : decode cX1_forceOf 22 = .ok (.aload_n 0, 1) := by decide +kernel
theorem dX1_forceOf_23 : decode cX1_forceOf 23 = .ok (.getfield 33, 3) := by decide +kernel
theorem dX1_forceOf_26 : decode cX1_forceOf 26 = .ok (.iload_n 3, 1) := by decide +kernel
theorem dX1_forceOf_27 : decode cX1_forceOf 27 = .ok (.iaload, 1) := by decide +kernel
theorem dX1_forceOf_28 : decode cX1_forceOf 28 = .ok (.iadd, 1) := by decide +kernel
theorem dX1_forceOf_29 : decode cX1_forceOf 29 = .ok (.istore_n 2, 1) := by decide +kernel
theorem dX1_forceOf_30 : decode cX1_forceOf 30 = .ok (.iinc 3 1, 3) := by decide +kernel
theorem dX1_forceOf_33 : decode cX1_forceOf 33 = .ok (.goto (-29), 3) := by decide +kernel
theorem dX1_forceOf_36 : decode cX1_forceOf 36 = .ok (.iload_n 2, 1) := by decide +kernel
theorem dX1_forceOf_37 : decode cX1_forceOf 37 = .ok (.ireturn, 1) := by decide +kernel
theorem dX1_addHill_0 : decode cX1_addHill 0 = .ok (.aload_n 0, 1) := by decide +kernel
theorem dX1_addHill_1 : decode cX1_addHill 1 = .ok (.getfield 40, 3) := by decide +kernel
theorem dX1_addHill_4 : decode cX1_addHill 4 = .ok (.iconst 4, 1) := by decide +kernel
theorem dX1_addHill_5 : decode cX1_addHill 5 = .ok (.if_icmp .ge 61, 3) := by decide +kernel
theorem dX1_addHill_8 : decode cX1_addHill 8 = .ok (.aload_n 0, 1) := by decide +kernel
theorem dX1_addHill_9 : decode cX1_addHill 9 = .ok (.getfield 9, 3) := by decide +kernel
theorem dX1_addHill_12 : decode cX1_addHill 12 = .ok (.aload_n 0, 1) := by decide +kernel
theorem dX1_addHill_13 : decode cX1_addHill 13 = .ok (.getfield 40, 3) := by decide +kernel
theorem dX1_addHill_16 : decode cX1_addHill 16 = .ok (.aload_n 1, 1) := by decide +kernel
theorem dX1_addHill_17 : decode cX1_addHill 17 = .ok (.iconst 0, 1) := by decide +kernel
theorem dX1_addHill_18 : decode cX1_addHill 18 = .ok (.iaload, 1) := by decide +kernel
theorem dX1_addHill_19 : decode cX1_addHill 19 = .ok (.iastore, 1) := by decide +kernel
theorem dX1_addHill_20 : decode cX1_addHill 20 = .ok (.aload_n 0, 1) := by decide +kernel
theorem dX1_addHill_21 : decode cX1_addHill 21 = .ok (.getfield 15, 3) := by decide +kernel
theorem dX1_addHill_24 : decode cX1_addHill 24 = .ok (.aload_n 0, 1) := by decide +kernel
theorem dX1_addHill_25 : decode cX1_addHill 25 = .ok (.getfield 40, 3) := by decide +kernel
theorem dX1_addHill_28 : decode cX1_addHill 28 = .ok (.aload_n 1, 1) := by decide +kernel
theorem dX1_addHill_29 : decode cX1_addHill 29 = .ok (.iconst 1, 1) := by decide +kernel
theorem dX1_addHill_30 : decode cX1_addHill 30 = .ok (.iaload, 1) := by decide +kernel
theorem dX1_addHill_31 : decode cX1_addHill 31 = .ok (.iastore, 1) := by decide +kernel
theorem dX1_addHill_32 : decode cX1_addHill 32 = .ok (.aload_n 0, 1) := by decide +kernel
theorem dX1_addHill_33 : decode cX1_addHill 33 = .ok (.getfield 18, 3) := by decide +kernel
theorem dX1_addHill_36 : decode cX1_addHill 36 = .ok (.aload_n 0, 1) := by decide +kernel
theorem dX1_addHill_37 : decode cX1_addHill 37 = .ok (.getfield 40, 3) := by decide +kernel
theorem dX1_addHill_40 : decode cX1_addHill 40 = .ok (.aload_n 1, 1) := by decide +kernel
theorem dX1_addHill_41 : decode cX1_addHill 41 = .ok (.iconst 2, 1) := by decide +kernel
theorem dX1_addHill_42 : decode cX1_addHill 42 = .ok (.iaload, 1) := by decide +kernel
theorem dX1_addHill_43 : decode cX1_addHill 43 = .ok (.iastore, 1) := by decide +kernel
theorem dX1_addHill_44 : decode cX1_addHill 44 = .ok (.aload_n 0, 1) := by decide +kernel
theorem dX1_addHill_45 : decode cX1_addHill 45 = .ok (.getfield 21, 3) := by decide +kernel
theorem dX1_addHill_48 : decode cX1_addHill 48 = .ok (.aload_n 0, 1) := by decide +kernel
theorem dX1_addHill_49 : decode cX1_addHill 49 = .ok (.getfield 40, 3) := by decide +kernel
theorem dX1_addHill_52 : decode cX1_addHill 52 = .ok (.aload_n 1, 1) := by decide +kernel
theorem dX1_addHill_53 : decode cX1_addHill 53 = .ok (.iconst 3, 1) := by decide +kernel
theorem dX1_addHill_54 : decode cX1_addHill 54 = .ok (.iaload, 1) := by decide +kernel
theorem dX1_addHill_55 : decode cX1_addHill 55 = .ok (.iastore, 1) := by decide +kernel
theorem dX1_addHill_56 : decode cX1_addHill 56 = .ok (.aload_n 0, 1) := by decide +kernel
theorem dX1_addHill_57 : decode cX1_addHill 57 = .ok (.dup, 1) := by decide +kernel
theorem dX1_addHill_58 : decode cX1_addHill 58 = .ok (.getfield 40, 3) := by decide +kernel
theorem dX1_addHill_61 : decode cX1_addHill 61 = .ok (.iconst 1, 1) := by decide +kernel
theorem dX1_addHill_62 : decode cX1_addHill 62 = .ok (.iadd, 1) := by decide +kernel
theorem dX1_addHill_63 : decode cX1_addHill 63 = .ok (.putfield 40, 3) := by decide +kernel
theorem dX1_addHill_66 : decode cX1_addHill 66 = .ok (.return_, 1) := by decide +kernel
theorem dX1_addJoin_0 : decode cX1_addJoin 0 = .ok (.aload_n 0, 1) := by decide +kernel
theorem dX1_addJoin_1 : decode cX1_addJoin 1 = .ok (.getfield 43, 3) := by decide +kernel
theorem dX1_addJoin_4 : decode cX1_addJoin 4 = .ok (.iconst 4, 1) := by decide +kernel
theorem dX1_addJoin_5 : decode cX1_addJoin 5 = .ok (.if_icmp .ge 49, 3) := by decide +kernel
theorem dX1_addJoin_8 : decode cX1_addJoin 8 = .ok (.aload_n 0, 1) := by decide +kernel
theorem dX1_addJoin_9 : decode cX1_addJoin 9 = .ok (.getfield 24, 3) := by decide +kernel
theorem dX1_addJoin_12 : decode cX1_addJoin 12 = .ok (.aload_n 0, 1) := by decide +kernel
theorem dX1_addJoin_13 : decode cX1_addJoin 13 = .ok (.getfield 43, 3) := by decide +kernel
theorem dX1_addJoin_16 : decode cX1_addJoin 16 = .ok (.aload_n 1, 1) := by decide +kernel
theorem dX1_addJoin_17 : decode cX1_addJoin 17 = .ok (.iconst 0, 1) := by decide +kernel
theorem dX1_addJoin_18 : decode cX1_addJoin 18 = .ok (.iaload, 1) := by decide +kernel
theorem dX1_addJoin_19 : decode cX1_addJoin 19 = .ok (.iastore, 1) := by decide +kernel
theorem dX1_addJoin_20 : decode cX1_addJoin 20 = .ok (.aload_n 0, 1) := by decide +kernel
theorem dX1_addJoin_21 : decode cX1_addJoin 21 = .ok (.getfield 27, 3) := by decide +kernel
theorem dX1_addJoin_24 : decode cX1_addJoin 24 = .ok (.aload_n 0, 1) := by decide +kernel
theorem dX1_addJoin_25 : decode cX1_addJoin 25 = .ok (.getfield 43, 3) := by decide +kernel
theorem dX1_addJoin_28 : decode cX1_addJoin 28 = .ok (.aload_n 1, 1) := by decide +kernel
theorem dX1_addJoin_29 : decode cX1_addJoin 29 = .ok (.iconst 1, 1) := by decide +kernel
theorem dX1_addJoin_30 : decode cX1_addJoin 30 = .ok (.iaload, 1) := by decide +kernel
theorem dX1_addJoin_31 : decode cX1_addJoin 31 = .ok (.iastore, 1) := by decide +kernel
theorem dX1_addJoin_32 : decode cX1_addJoin 32 = .ok (.aload_n 0, 1) := by decide +kernel
theorem dX1_addJoin_33 : decode cX1_addJoin 33 = .ok (.getfield 30, 3) := by decide +kernel
theorem dX1_addJoin_36 : decode cX1_addJoin 36 = .ok (.aload_n 0, 1) := by decide +kernel
theorem dX1_addJoin_37 : decode cX1_addJoin 37 = .ok (.getfield 43, 3) := by decide +kernel
theorem dX1_addJoin_40 : decode cX1_addJoin 40 = .ok (.aload_n 1, 1) := by decide +kernel
theorem dX1_addJoin_41 : decode cX1_addJoin 41 = .ok (.iconst 2, 1) := by decide +kernel
theorem dX1_addJoin_42 : decode cX1_addJoin 42 = .ok (.iaload, 1) := by decide +kernel
theorem dX1_addJoin_43 : decode cX1_addJoin 43 = .ok (.iastore, 1) := by decide +kernel
theorem dX1_addJoin_44 : decode cX1_addJoin 44 = .ok (.aload_n 0, 1) := by decide +kernel
theorem dX1_addJoin_45 : decode cX1_addJoin 45 = .ok (.dup, 1) := by decide +kernel
theorem dX1_addJoin_46 : decode cX1_addJoin 46 = .ok (.getfield 43, 3) := by decide +kernel
theorem dX1_addJoin_49 : decode cX1_addJoin 49 = .ok (.iconst 1, 1) := by decide +kernel
theorem dX1_addJoin_50 : decode cX1_addJoin 50 = .ok (.iadd, 1) := by decide +kernel
theorem dX1_addJoin_51 : decode cX1_addJoin 51 = .ok (.putfield 43, 3) := by decide +kernel
theorem dX1_addJoin_54 : decode cX1_addJoin 54 = .ok (.return_, 1) := by decide +kernel
theorem dX1_addMan_0 : decode cX1_addMan 0 = .ok (.aload_n 0, 1) := by decide +kernel
theorem dX1_addMan_1 : decode cX1_addMan 1 = .ok (.getfield 46, 3) := by decide +kernel
theorem dX1_addMan_4 : decode cX1_addMan 4 = .ok (.iconst 3, 1) := by decide +kernel
theorem dX1_addMan_5 : decode cX1_addMan 5 = .ok (.if_icmp .ge 23, 3) := by decide +kernel
theorem dX1_addMan_8 : decode cX1_addMan 8 = .ok (.aload_n 0, 1) := by decide +kernel
theorem dX1_addMan_9 : decode cX1_addMan 9 = .ok (.getfield 33, 3) := by decide +kernel
theorem dX1_addMan_12 : decode cX1_addMan 12 = .ok (.aload_n 0, 1) := by decide +kernel
theorem dX1_addMan_13 : decode cX1_addMan 13 = .ok (.getfield 46, 3) := by decide +kernel
theorem dX1_addMan_16 : decode cX1_addMan 16 = .ok (.iload_n 1, 1) := by decide +kernel
theorem dX1_addMan_17 : decode cX1_addMan 17 = .ok (.iastore, 1) := by decide +kernel
theorem dX1_addMan_18 : decode cX1_addMan 18 = .ok (.aload_n 0, 1) := by decide +kernel
theorem dX1_addMan_19 : decode cX1_addMan 19 = .ok (.dup, 1) := by decide +kernel
theorem dX1_addMan_20 : decode cX1_addMan 20 = .ok (.getfield 46, 3) := by decide +kernel
theorem dX1_addMan_23 : decode cX1_addMan 23 = .ok (.iconst 1, 1) := by decide +kernel
theorem dX1_addMan_24 : decode cX1_addMan 24 = .ok (.iadd, 1) := by decide +kernel
theorem dX1_addMan_25 : decode cX1_addMan 25 = .ok (.putfield 46, 3) := by decide +kernel
theorem dX1_addMan_28 : decode cX1_addMan 28 = .ok (.return_, 1) := by decide +kernel
theorem dX2_init_0 : decode cX2_init 0 = .ok (.aload_n 0, 1) := by decide +kernel
theorem dX2_init_1 : decode cX2_init 1 = .ok (.invokespecial 3, 3) := by decide +kernel
theorem dX2_init_4 : decode cX2_init 4 = .ok (.aload_n 0, 1) := by decide +kernel
theorem dX2_init_5 : decode cX2_init 5 = .ok (.iconst 4, 1) := by decide +kernel
theorem dX2_init_6 : decode cX2_init 6 = .ok (.newarray .int, 2) := by decide +kernel
theorem dX2_init_8 : decode cX2_init 8 = .ok (.putfield 9, 3) := by decide +kernel
theorem dX2_init_11 : decode cX2_init 11 = .ok (.aload_n 0, 1) := by decide +kernel
theorem dX2_init_12 : decode cX2_init 12 = .ok (.iconst 4, 1) := by decide +kernel
theorem dX2_init_13 : decode cX2_init 13 = .ok (.newarray .int, 2) := by decide +kernel
theorem dX2_init_15 : decode cX2_init 15 = .ok (.putfield 15, 3) := by decide +kernel
theorem dX2_init_18 : decode cX2_init 18 = .ok (.aload_n 0, 1) := by decide +kernel
theorem dX2_init_19 : decode cX2_init 19 = .ok (.iconst 3, 1) := by decide +kernel
theorem dX2_init_20 : decode cX2_init 20 = .ok (.newarray .int, 2) := by decide +kernel
theorem dX2_init_22 : decode cX2_init 22 = .ok (.putfield 18, 3) := by decide +kernel
theorem dX2_init_25 : decode cX2_init 25 = .ok (.aload_n 0, 1) := by decide +kernel
theorem dX2_init_26 : decode cX2_init 26 = .ok (.iconst 3, 1) := by decide +kernel
theorem dX2_init_27 : decode cX2_init 27 = .ok (.newarray .int, 2) := by decide +kernel
theorem dX2_init_29 : decode cX2_init 29 = .ok (.putfield 21, 3) := by decide +kernel
theorem dX2_init_32 : decode cX2_init 32 = .ok (.aload_n 0, 1) := by decide +kernel
theorem dX2_init_33 : decode cX2_init 33 = .ok (.bipush 20, 2) := by decide +kernel
theorem dX2_init_35 : decode cX2_init 35 = .ok (.newarray .int, 2) := by decide +kernel
theorem dX2_init_37 : decode cX2_init 37 = .ok (.putfield 24, 3) := by decide +kernel
theorem dX2_init_40 : decode cX2_init 40 = .ok (.return_, 1) := by decide +kernel
theorem dX2_begin_0 : decode cX2_begin 0 = .ok (.aload_n 0, 1) := by decide +kernel
theorem dX2_begin_1 : decode cX2_begin 1 = .ok (.iconst 0, 1) := by decide +kernel
theorem dX2_begin_2 : decode cX2_begin 2 = .ok (.putfield 27, 3) := by decide +kernel
theorem dX2_begin_5 : decode cX2_begin 5 = .ok (.aload_n 0, 1) := by decide +kernel
theorem dX2_begin_6 : decode cX2_begin 6 = .ok (.iconst 0, 1) := by decide +kernel
theorem dX2_begin_7 : decode cX2_begin 7 = .ok (.putfield 31, 3) := by decide +kernel
theorem dX2_begin_10 : decode cX2_begin 10 = .ok (.aload_n 0, 1) := by decide +kernel
theorem dX2_begin_11 : decode cX2_begin 11 = .ok (.iconst 0, 1) := by decide +kernel
theorem dX2_begin_12 : decode cX2_begin 12 = .ok (.putfield 34, 3) := by decide +kernel
theorem dX2_begin_15 : decode cX2_begin 15 = .ok (.iconst 0, 1) := by decide +kernel
theorem dX2_begin_16 : decode cX2_begin 16 = .ok (.istore_n 2, 1) := by decide +kernel
theorem dX2_begin_17 : decode cX2_begin 17 = .ok (.iload_n 2, 1) := by decide +kernel
theorem dX2_begin_18 : decode cX2_begin 18 = .ok (.iconst 4, 1) := by decide +kernel
theorem dX2_begin_19 : decode cX2_begin 19 = .ok (.if_icmp .ge 23, 3) := by decide +kernel
theorem dX2_begin_22 : decode cX2_begin 22 = .ok (.aload_n 0, 1) := by decide +kernel
theorem dX2_begin_23 : decode cX2_begin 23 = .ok (.getfield 9, 3) := by decide +kernel
theorem dX2_begin_26 : decode cX2_begin 26 = .ok (.iload_n 2, 1) := by decide +kernel
theorem dX2_begin_27 : decode cX2_begin 27 = .ok (.iconst 0, 1) := by decide +kernel
theorem dX2_begin_28 : decode cX2_begin 28 = .ok (.iastore, 1) := by decide +kernel
theorem dX2_begin_29 : decode cX2_begin 29 = .ok (.aload_n 0, 1) := by decide +kernel
theorem dX2_begin_30 : decode cX2_begin 30 = .ok (.getfield 15, 3) := by decide +kernel
theorem dX2_begin_33 : decode cX2_begin 33 = .ok (.iload_n 2, 1) := by decide +kernel
theorem dX2_begin_34 : decode cX2_begin 34 = .ok (.iconst 0, 1) := by decide +kernel
theorem dX2_begin_35 : decode cX2_begin 35 = .ok (.iastore, 1) := by decide +kernel
theorem dX2_begin_36 : decode cX2_begin 36 = .ok (.iinc 2 1, 3) := by decide +kernel
theorem dX2_begin_39 : decode cX2_begin 39 = .ok (.goto (-22), 3) := by decide +kernel
theorem dX2_begin_42 : decode cX2_begin 42 = .ok (.iconst 0, 1) := by decide +kernel
theorem dX2_begin_43 : decode cX2_begin 43 = .ok (.istore_n 2, 1) := by decide +kernel
theorem dX2_begin_44 : decode cX2_begin 44 = .ok (.iload_n 2, 1) := by decide +kernel
theorem dX2_begin_45 : decode cX2_begin 45 = .ok (.iconst 3, 1) := by decide +kernel
theorem dX2_begin_46 : decode cX2_begin 46 = .ok (.if_icmp .ge 17, 3) := by decide +kernel
theorem dX2_begin_49 : decode cX2_begin 49 = .ok (.aload_n 0, 1) := by decide +kernel
theorem dX2_begin_50 : decode cX2_begin 50 = .ok (.getfield 21, 3) := by decide +kernel
theorem dX2_begin_53 : decode cX2_begin 53 = .ok (.iload_n 2, 1) := by decide +kernel
theorem dX2_begin_54 : decode cX2_begin 54 = .ok (.bipush (-9), 2) := by decide +kernel
theorem dX2_begin_56 : decode cX2_begin 56 = .ok (.iastore, 1) := by decide +kernel
theorem dX2_begin_57 : decode cX2_begin 57 = .ok (.iinc 2 1, 3) := by decide +kernel
theorem dX2_begin_60 : decode cX2_begin 60 = .ok (.goto (-16), 3) := by decide +kernel
theorem dX2_begin_63 : decode cX2_begin 63 = .ok (.aload_n 0, 1) := by decide +kernel
theorem dX2_begin_64 : decode cX2_begin 64 = .ok (.aload_n 1, 1) := by decide +kernel
theorem dX2_begin_65 : decode cX2_begin 65 = .ok (.invokevirtual 37, 3) := by decide +kernel
theorem dX2_begin_68 : decode cX2_begin 68 = .ok (.return_, 1) := by decide +kernel
theorem dX2_copyFrom_0 : decode cX2_copyFrom 0 = .ok (.aload_n 0, 1) := by decide +kernel
theorem dX2_copyFrom_1 : decode cX2_copyFrom 1 = .ok (.aload_n 1, 1) := by decide +kernel
theorem dX2_copyFrom_2 : decode cX2_copyFrom 2 = .ok (.getfield 27, 3) := by decide +kernel
theorem dX2_copyFrom_5 : decode cX2_copyFrom 5 = .ok (.putfield 27, 3) := by decide +kernel
theorem dX2_copyFrom_8 : decode cX2_copyFrom 8 = .ok (.aload_n 0, 1) := by decide +kernel
theorem dX2_copyFrom_9 : decode cX2_copyFrom 9 = .ok (.aload_n 1, 1) := by decide +kernel
theorem dX2_copyFrom_10 : decode cX2_copyFrom 10 = .ok (.getfield 31, 3) := by decide +kernel
theorem dX2_copyFrom_13 : decode cX2_copyFrom 13 = .ok (.putfield 31, 3) := by decide +kernel
theorem dX2_copyFrom_16 : decode cX2_copyFrom 16 = .ok (.aload_n 1, 1) := by decide +kernel
theorem dX2_copyFrom_17 : decode cX2_copyFrom 17 = .ok (.getfield 9, 3) := by decide +kernel
theorem dX2_copyFrom_20 : decode cX2_copyFrom 20 = .ok (.iconst 0, 1) := by decide +kernel
theorem dX2_copyFrom_21 : decode cX2_copyFrom 21 = .ok (.aload_n 0, 1) := by decide +kernel
theorem dX2_copyFrom_22 : decode cX2_copyFrom 22 = .ok (.getfield 9, 3) := by decide +kernel
theorem dX2_copyFrom_25 : decode cX2_copyFrom 25 = .ok (.iconst 0, 1) := by decide +kernel
theorem dX2_copyFrom_26 : decode cX2_copyFrom 26 = .ok (.iconst 4, 1) := by decide +kernel
theorem dX2_copyFrom_27 : decode cX2_copyFrom 27 = .ok (.invokestatic 41, 3) := by decide +kernel
theorem dX2_copyFrom_30 : decode cX2_copyFrom 30 = .ok (.aload_n 1, 1) := by decide +kernel
theorem dX2_copyFrom_31 : decode cX2_copyFrom 31 = .ok (.getfield 15, 3) := by decide +kernel
theorem dX2_copyFrom_34 : decode cX2_copyFrom 34 = .ok (.iconst 0, 1) := by decide +kernel
theorem dX2_copyFrom_35 : decode cX2_copyFrom 35 = .ok (.aload_n 0, 1) := by decide +kernel
theorem dX2_copyFrom_36 : decode cX2_copyFrom 36 = .ok (.getfield 15, 3) := by decide +kernel
theorem dX2_copyFrom_39 : decode cX2_copyFrom 39 = .ok (.iconst 0, 1) := by decide +kernel
theorem dX2_copyFrom_40 : decode cX2_copyFrom 40 = .ok (.iconst 4, 1) := by decide +kernel
theorem dX2_copyFrom_41 : decode cX2_copyFrom 41 = .ok (.invokestatic 41, 3) := by decide +kernel
theorem dX2_copyFrom_44 : decode cX2_copyFrom 44 = .ok (.aload_n 1, 1) := by decide +kernel
theorem dX2_copyFrom_45 : decode cX2_copyFrom 45 = .ok (.getfield 18, 3) := by decide +kernel
theorem dX2_copyFrom_48 : decode cX2_copyFrom 48 = .ok (.iconst 0, 1) := by decide +kernel
theorem dX2_copyFrom_49 : decode cX2_copyFrom 49 = .ok (.aload_n 0, 1) := by decide +kernel
theorem dX2_copyFrom_50 : decode cX2_copyFrom 50 = .ok (.getfield 18, 3) := by decide +kernel
theorem dX2_copyFrom_53 : decode cX2_copyFrom 53 = .ok (.iconst 0, 1) := by decide +kernel
theorem dX2_copyFrom_54 : decode cX2_copyFrom 54 = .ok (.iconst 3, 1) := by decide +kernel
theorem dX2_copyFrom_55 : decode cX2_copyFrom 55 = .ok (.invokestatic 41, 3) := by decide +kernel
theorem dX2_copyFrom_58 : decode cX2_copyFrom 58 = .ok (.aload_n 1, 1) := by decide +kernel
theorem dX2_copyFrom_59 : decode cX2_copyFrom 59 = .ok (.getfield 21, 3) := by decide +kernel
theorem dX2_copyFrom_62 : decode cX2_copyFrom 62 = .ok (.iconst 0, 1) := by decide +kernel
theorem dX2_copyFrom_63 : decode cX2_copyFrom 63 = .ok (.aload_n 0, 1) := by decide +kernel
theorem dX2_copyFrom_64 : decode cX2_copyFrom 64 = .ok (.getfield 21, 3) := by decide +kernel
theorem dX2_copyFrom_67 : decode cX2_copyFrom 67 = .ok (.iconst 0, 1) := by decide +kernel
theorem dX2_copyFrom_68 : decode cX2_copyFrom 68 = .ok (.iconst 3, 1) := by decide +kernel
theorem dX2_copyFrom_69 : decode cX2_copyFrom 69 = .ok (.invokestatic 41, 3) := by decide +kernel
theorem dX2_copyFrom_72 : decode cX2_copyFrom 72 = .ok (.aload_n 1, 1) := by decide +kernel
theorem dX2_copyFrom_73 : decode cX2_copyFrom 73 = .ok (.getfield 24, 3) := by decide +kernel
theorem dX2_copyFrom_76 : decode cX2_copyFrom 76 = .ok (.iconst 0, 1) := by decide +kernel
theorem dX2_copyFrom_77 : decode cX2_copyFrom 77 = .ok (.aload_n 0, 1) := by decide +kernel
theorem dX2_copyFrom_78 : decode cX2_copyFrom 78 = .ok (.getfield 24, 3) := by decide +kernel
theorem dX2_copyFrom_81 : decode cX2_copyFrom 81 = .ok (.iconst 0, 1) := by decide +kernel
theorem dX2_copyFrom_82 : decode cX2_copyFrom 82 = .ok (.bipush 20, 2) := by decide +kernel
theorem dX2_copyFrom_84 : decode cX2_copyFrom 84 = .ok (.invokestatic 41, 3) := by decide +kernel
theorem dX2_copyFrom_87 : decode cX2_copyFrom 87 = .ok (.aload_n 0, 1) := by decide +kernel
theorem dX2_copyFrom_88 : decode cX2_copyFrom 88 = .ok (.aload_n 1, 1) := by decide +kernel
theorem dX2_copyFrom_89 : decode cX2_copyFrom 89 = .ok (.getfield 34, 3) := by decide +kernel
theorem dX2_copyFrom_92 : decode cX2_copyFrom 92 = .ok (.putfield 34, 3) := by decide +kernel
theorem dX2_copyFrom_95 : decode cX2_copyFrom 95 = .ok (.return_, 1) := by decide +kernel
theorem dX2_isOver_0 : decode cX2_isOver 0 = .ok (.aload_n 0, 1) := by decide +kernel
theorem dX2_isOver_1 : decode cX2_isOver 1 = .ok (.getfield 9, 3) := by decide +kernel
theorem dX2_isOver_4 : decode cX2_isOver 4 = .ok (.iload_n 2, 1) := by decide +kernel
theorem dX2_isOver_5 : decode cX2_isOver 5 = .ok (.iaload, 1) := by decide +kernel
theorem dX2_isOver_6 : decode cX2_isOver 6 = .ok (.aload_n 1, 1) := by decide +kernel
theorem dX2_isOver_7 : decode cX2_isOver 7 = .ok (.getfield 47, 3) := by decide +kernel
theorem dX2_isOver_10 : decode cX2_isOver 10 = .ok (.iload_n 2, 1) := by decide +kernel
theorem dX2_isOver_11 : decode cX2_isOver 11 = .ok (.iaload, 1) := by decide +kernel
theorem dX2_isOver_12 : decode cX2_isOver 12 = .ok (.if_icmp .lt 7, 3) := by decide +kernel
theorem dX2_isOver_15 : decode cX2_isOver 15 = .ok (.iconst 1, 1) := by decide +kernel
theorem dX2_isOver_16 : decode cX2_isOver 16 = .ok (.goto 4, 3) := by decide +kernel
theorem dX2_isOver_19 : decode cX2_isOver 19 = .ok (.iconst 0, 1) := by decide +kernel
theorem dX2_isOver_20 : decode cX2_isOver 20 = .ok (.ireturn, 1) := by decide +kernel
theorem dX2_overBits_0 : decode cX2_overBits 0 = .ok (.iconst 0, 1) := by decide +kernel
theorem dX2_overBits_1 : decode cX2_overBits 1 = .ok (.istore_n 2, 1) := by decide +kernel
theorem dX2_overBits_2 : decode cX2_overBits 2 = .ok (.iconst 0, 1) := by decide +kernel
theorem dX2_overBits_3 : decode cX2_overBits 3 = .ok (.istore_n 3, 1) := by decide +kernel
theorem dX2_overBits_4 : decode cX2_overBits 4 = .ok (.iload_n 3, 1) := by decide +kernel
theorem dX2_overBits_5 : decode cX2_overBits 5 = .ok (.aload_n 1, 1) := by decide +kernel
theorem dX2_overBits_6 : decode cX2_overBits 6 = .ok (.getfield 52, 3) := by decide +kernel
theorem dX2_overBits_9 : decode cX2_overBits 9 = .ok (.if_icmp .ge 24, 3) := by decide +kernel
theorem dX2_overBits_12 : decode cX2_overBits 12 = .ok (.aload_n 0, 1) := by decide +kernel
theorem dX2_overBits_13 : decode cX2_overBits 13 = .ok (.aload_n 1, 1) := by decide +kernel
theorem dX2_overBits_14 : decode cX2_overBits 14 = .ok (.iload_n 3, 1) := by decide +kernel
theorem dX2_overBits_15 : decode cX2_overBits 15 = .ok (.invokevirtual 55, 3) := by decide +kernel
theorem dX2_overBits_18 : decode cX2_overBits 18 = .ok (.ifCond .eq 9, 3) := by decide +kernel
theorem dX2_overBits_21 : decode cX2_overBits 21 = .ok (.iload_n 2, 1) := by decide +kernel
theorem dX2_overBits_22 : decode cX2_overBits 22 = .ok (.iconst 1, 1) := by decide +kernel
theorem dX2_overBits_23 : decode cX2_overBits 23 = .ok (.iload_n 3, 1) := by decide +kernel
theorem dX2_overBits_24 : decode cX2_overBits 24 = .ok (.ishl, 1) := by decide +kernel
theorem dX2_overBits_25 : decode cX2_overBits 25 = .ok (.ior, 1) := by decide +kernel
theorem dX2_overBits_26 : decode cX2_overBits 26 = .ok (.istore_n 2, 1) := by decide +kernel
theorem dX2_overBits_27 : decode cX2_overBits 27 = .ok (.iinc 3 1, 3) := by decide +kernel
theorem dX2_overBits_30 : decode cX2_overBits 30 = .ok (.goto (-26), 3) := by decide +kernel
theorem dX2_overBits_33 : decode cX2_overBits 33 = .ok (.iload_n 2, 1) := by decide +kernel
theorem dX2_overBits_34 : decode cX2_overBits 34 = .ok (.ireturn, 1) := by decide +kernel
theorem dX2_sizeNow_0 : decode cX2_sizeNow 0 = .ok (.iconst 1, 1) := by decide +kernel
theorem dX2_sizeNow_1 : decode cX2_sizeNow 1 = .ok (.aload_n 1, 1) := by decide +kernel
theorem dX2_sizeNow_2 : decode cX2_sizeNow 2 = .ok (.getfield 59, 3) := by decide +kernel
theorem dX2_sizeNow_5 : decode cX2_sizeNow 5 = .ok (.iload_n 2, 1) := by decide +kernel
theorem dX2_sizeNow_6 : decode cX2_sizeNow 6 = .ok (.iaload, 1) := by decide +kernel
theorem dX2_sizeNow_7 : decode cX2_sizeNow 7 = .ok (.aload_n 0, 1) := by decide +kernel
theorem dX2_sizeNow_8 : decode cX2_sizeNow 8 = .ok (.getfield 15, 3) := by decide +kernel
theorem dX2_sizeNow_11 : decode cX2_sizeNow 11 = .ok (.iload_n 2, 1) := by decide +kernel
theorem dX2_sizeNow_12 : decode cX2_sizeNow 12 = .ok (.iaload, 1) := by decide +kernel
theorem dX2_sizeNow_13 : decode cX2_sizeNow 13 = .ok (.bipush 8, 2) := by decide +kernel
theorem dX2_sizeNow_15 : decode cX2_sizeNow 15 = .ok (.idiv, 1) := by decide +kernel
theorem dX2_sizeNow_16 : decode cX2_sizeNow 16 = .ok (.isub, 1) := by decide +kernel
theorem dX2_sizeNow_17 : decode cX2_sizeNow 17 = .ok (.invokestatic 62, 3) := by decide +kernel
theorem dX2_sizeNow_20 : decode cX2_sizeNow 20 = .ok (.ireturn, 1) := by decide +kernel
theorem dX2_needOf_0 : decode cX2_needOf 0 = .ok (.aload_n 0, 1) := by decide +kernel
theorem dX2_needOf_1 : decode cX2_needOf 1 = .ok (.aload_n 1, 1) := by decide +kernel
theorem dX2_needOf_2 : decode cX2_needOf 2 = .ok (.iload_n 2, 1) := by decide +kernel
theorem dX2_needOf_3 : decode cX2_needOf 3 = .ok (.invokevirtual 68, 3) := by decide +kernel
theorem dX2_needOf_6 : decode cX2_needOf 6 = .ok (.aload_n 1, 1) := by decide +kernel
theorem dX2_needOf_7 : decode cX2_needOf 7 = .ok (.getfield 72, 3) := by decide +kernel
theorem dX2_needOf_10 : decode cX2_needOf 10 = .ok (.iload_n 2, 1) := by decide +kernel
theorem dX2_needOf_11 : decode cX2_needOf 11 = .ok (.iaload, 1) := by decide +kernel
theorem dX2_needOf_12 : decode cX2_needOf 12 = .ok (.iadd, 1) := by decide +kernel
theorem dX2_needOf_13 : decode cX2_needOf 13 = .ok (.ireturn, 1) := by decide +kernel
theorem dX2_hoursLeft_0 : decode cX2_hoursLeft 0 = .ok (.aload_n 1, 1) := by decide +kernel
theorem dX2_hoursLeft_1 : decode cX2_hoursLeft 1 = .ok (.getfield 75, 3) := by decide +kernel
theorem dX2_hoursLeft_4 : decode cX2_hoursLeft 4 = .ok (.aload_n 0, 1) := by decide +kernel
theorem dX2_hoursLeft_5 : decode cX2_hoursLeft 5 = .ok (.getfield 31, 3) := by decide +kernel
theorem dX2_hoursLeft_8 : decode cX2_hoursLeft 8 = .ok (.isub, 1) := by decide +kernel
theorem dX2_hoursLeft_9 : decode cX2_hoursLeft 9 = .ok (.ireturn, 1) := by decide +kernel
theorem dX2_menAt_0 : decode cX2_menAt 0 = .ok (.iconst 0, 1) := by decide +kernel
theorem dX2_menAt_1 : decode cX2_menAt 1 = .ok (.istore_n 3, 1) := by decide +kernel
theorem dX2_menAt_2 : decode cX2_menAt 2 = .ok (.iconst 0, 1) := by decide +kernel
theorem dX2_menAt_3 : decode cX2_menAt 3 = .ok (.istore 4, 2) := by decide +kernel
theorem dX2_menAt_5 : decode cX2_menAt 5 = .ok (.iload 4, 2) := by decide +kernel
theorem dX2_menAt_7 : decode cX2_menAt 7 = .ok (.aload_n 1, 1) := by decide +kernel
theorem dX2_menAt_8 : decode cX2_menAt 8 = .ok (.getfield 78, 3) := by decide +kernel
theorem dX2_menAt_11 : decode cX2_menAt 11 = .ok (.if_icmp .ge 23, 3) := by decide +kernel
theorem dX2_menAt_14 : decode cX2_menAt 14 = .ok (.aload_n 0, 1) := by decide +kernel
theorem dX2_menAt_15 : decode cX2_menAt 15 = .ok (.getfield 21, 3) := by decide +kernel
theorem dX2_menAt_18 : decode cX2_menAt 18 = .ok (.iload 4, 2) := by decide +kernel
theorem dX2_menAt_20 : decode cX2_menAt 20 = .ok (.iaload, 1) := by decide +kernel
theorem dX2_menAt_21 : decode cX2_menAt 21 = .ok (.iload_n 2, 1) := by decide +kernel
theorem dX2_menAt_22 : decode cX2_menAt 22 = .ok (.if_icmp .ne 6, 3) := by decide +kernel
theorem dX2_menAt_25 : decode cX2_menAt 25 = .ok (.iinc 3 1, 3) := by decide +kernel
theorem dX2_menAt_28 : decode cX2_menAt 28 = .ok (.iinc 4 1, 3) := by decide +kernel
theorem dX2_menAt_31 : decode cX2_menAt 31 = .ok (.goto (-26), 3) := by decide +kernel
theorem dX2_menAt_34 : decode cX2_menAt 34 = .ok (.iload_n 3, 1) := by decide +kernel
theorem dX2_menAt_35 : decode cX2_menAt 35 = .ok (.ireturn, 1) := by decide +kernel
theorem dX2_strengthAt_0 : decode cX2_strengthAt 0 = .ok (.iconst 0, 1) := by decide +kernel
theorem dX2_strengthAt_1 : decode cX2_strengthAt 1 = .ok (.istore_n 3, 1) := by decide +kernel
theorem dX2_strengthAt_2 : decode cX2_strengthAt 2 = .ok (.iconst 0, 1) := by decide +kernel
theorem dX2_strengthAt_3 : decode cX2_strengthAt 3 = .ok (.istore 4, 2) := by decide +kernel
theorem dX2_strengthAt_5 : decode cX2_strengthAt 5 = .ok (.iload 4, 2) := by decide +kernel
theorem dX2_strengthAt_7 : decode cX2_strengthAt 7 = .ok (.aload_n 1, 1) := by decide +kernel
theorem dX2_strengthAt_8 : decode cX2_strengthAt 8 = .ok (.getfield 78, 3) := by decide +kernel
theorem dX2_strengthAt_11 : decode cX2_strengthAt 11 = .ok (.if_icmp .ge 30, 3) := by decide +kernel
theorem dX2_strengthAt_14 : decode cX2_strengthAt 14 = .ok (.aload_n 0, 1) := by decide +kernel
theorem dX2_strengthAt_15 : decode cX2_strengthAt 15 = .ok (.getfield 21, 3) := by decide +kernel
theorem dX2_strengthAt_18 : decode cX2_strengthAt 18 = .ok (.iload 4, 2) := by decide +kernel
theorem dX2_strengthAt_20 : decode cX2_strengthAt 20 = .ok (.iaload, 1) := by decide +kernel
theorem dX2_strengthAt_21 : decode cX2_strengthAt 21 = .ok (.iload_n 2, 1) := by decide +kernel
theorem dX2_strengthAt_22 : decode cX2_strengthAt 22 = .ok (.if_icmp .ne 13, 3) := by decide +kernel
theorem dX2_strengthAt_25 : decode cX2_strengthAt 25 = .ok (.iload_n 3, 1) := by decide +kernel
theorem dX2_strengthAt_26 : decode cX2_strengthAt 26 = .ok (.aload_n 0, 1) := by decide +kernel
theorem dX2_strengthAt_27 : decode cX2_strengthAt 27 = .ok (.getfield 18, 3) := by decide +kernel
theorem dX2_strengthAt_30 : decode cX2_strengthAt 30 = .ok (.iload 4, 2) := by decide +kernel
theorem dX2_strengthAt_32 : decode cX2_strengthAt 32 = .ok (.iaload, 1) := by decide +kernel
theorem dX2_strengthAt_33 : decode cX2_strengthAt 33 = .ok (.iadd, 1) := by decide +kernel
theorem dX2_strengthAt_34 : decode cX2_strengthAt 34 = .ok (.istore_n 3, 1) := by decide +kernel
theorem dX2_strengthAt_35 : decode cX2_strengthAt 35 = .ok (.iinc 4 1, 3) := by decide +kernel
theorem dX2_strengthAt_38 : decode cX2_strengthAt 38 = .ok (.goto (-33), 3) := by decide +kernel
theorem dX2_strengthAt_41 : decode cX2_strengthAt 41 = .ok (.iload_n 3, 1) := by decide +kernel
theorem dX2_strengthAt_42 : decode cX2_strengthAt 42 = .ok (.ireturn, 1) := by decide +kernel
theorem dX2_strengthAfter_0 : decode cX2_strengthAfter 0 = .ok (.iconst 0, 1) := by decide +kernel
theorem dX2_strengthAfter_1 : decode cX2_strengthAfter 1 = .ok (.istore_n 3, 1) := by decide +kernel
theorem dX2_strengthAfter_2 : decode cX2_strengthAfter 2 = .ok (.iconst 0, 1) := by decide +kernel
theorem dX2_strengthAfter_3 : decode cX2_strengthAfter 3 = .ok (.istore 4, 2) := by decide +kernel
theorem dX2_strengthAfter_5 : decode cX2_strengthAfter 5 = .ok (.iload 4, 2) := by decide +kernel
theorem dX2_strengthAfter_7 : decode cX2_strengthAfter 7 = .ok (.aload_n 1, 1) := by decide +kernel
theorem dX2_strengthAfter_8 : decode cX2_strengthAfter 8 = .ok (.getfield 78, 3) := by decide +kernel
theorem dX2_strengthAfter_11 : decode cX2_strengthAfter 11 = .ok (.if_icmp .ge 25, 3) := by decide +kernel
theorem dX2_strengthAfter_14 : decode cX2_strengthAfter 14 = .ok (.iload_n 3, 1) := by decide +kernel
theorem dX2_strengthAfter_15 : decode cX2_strengthAfter 15 = .ok (.iconst 0, 1) := by decide +kernel
theorem dX2_strengthAfter_16 : decode cX2_strengthAfter 16 = .ok (.aload_n 0, 1) := by decide +kernel
theorem dX2_strengthAfter_17 : decode cX2_strengthAfter 17 = .ok (.getfield 18, 3) := by decide +kernel
theorem dX2_strengthAfter_20 : decode cX2_strengthAfter 20 = .ok (.iload 4, 2) := by decide +kernel
theorem dX2_strengthAfter_22 : decode cX2_strengthAfter 22 = .ok (.iaload, 1) := by decide +kernel
theorem dX2_strengthAfter_23 : decode cX2_strengthAfter 23 = .ok (.iload_n 2, 1) := by decide +kernel
theorem dX2_strengthAfter_24 : decode cX2_strengthAfter 24 = .ok (.isub, 1) := by decide +kernel
theorem dX2_strengthAfter_25 : decode cX2_strengthAfter 25 = .ok (.invokestatic 62, 3) := by decide +kernel
theorem dX2_strengthAfter_28 : decode cX2_strengthAfter 28 = .ok (.iadd, 1) := by decide +kernel
theorem dX2_strengthAfter_29 : decode cX2_strengthAfter 29 = .ok (.istore_n 3, 1) := by decide +kernel
theorem dX2_strengthAfter_30 : decode cX2_strengthAfter 30 = .ok (.iinc 4 1, 3) := by decide +kernel
theorem dX2_strengthAfter_33 : decode cX2_strengthAfter 33 = .ok (.goto (-28), 3) := by decide +kernel
theorem dX2_strengthAfter_36 : decode cX2_strengthAfter 36 = .ok (.iload_n 3, 1) := by decide +kernel
theorem dX2_strengthAfter_37 : decode cX2_strengthAfter 37 = .ok (.ireturn, 1) := by decide +kernel
theorem dX2_blockersAt_0 : decode cX2_blockersAt 0 = .ok (.iconst 0, 1) := by decide +kernel
theorem dX2_blockersAt_1 : decode cX2_blockersAt 1 = .ok (.istore 4, 2) := by decide +kernel
theorem dX2_blockersAt_3 : decode cX2_blockersAt 3 = .ok (.iconst 0, 1) := by decide +kernel
theorem dX2_blockersAt_4 : decode cX2_blockersAt 4 = .ok (.istore 5, 2) := by decide +kernel
theorem dX2_blockersAt_6 : decode cX2_blockersAt 6 = .ok (.iload 5, 2) := by decide +kernel
theorem dX2_blockersAt_8 : decode cX2_blockersAt 8 = .ok (.aload_n 1, 1) := by decide +kernel
theorem dX2_blockersAt_9 : decode cX2_blockersAt 9 = .ok (.getfield 52, 3) := by decide +kernel
theorem dX2_blockersAt_12 : decode cX2_blockersAt 12 = .ok (.if_icmp .ge 68, 3) := by decide +kernel
theorem dX2_blockersAt_15 : decode cX2_blockersAt 15 = .ok (.iload 5, 2) := by decide +kernel
theorem dX2_blockersAt_17 : decode cX2_blockersAt 17 = .ok (.iload_n 2, 1) := by decide +kernel
theorem dX2_blockersAt_18 : decode cX2_blockersAt 18 = .ok (.if_icmp .eq 28, 3) := by decide +kernel
theorem dX2_blockersAt_21 : decode cX2_blockersAt 21 = .ok (.aload_n 0, 1) := by decide +kernel
theorem dX2_blockersAt_22 : decode cX2_blockersAt 22 = .ok (.getfield 9, 3) := by decide +kernel
theorem dX2_blockersAt_25 : decode cX2_blockersAt 25 = .ok (.iload 5, 2) := by decide +kernel
theorem dX2_blockersAt_27 : decode cX2_blockersAt 27 = .ok (.iaload, 1) := by decide +kernel
theorem dX2_blockersAt_28 : decode cX2_blockersAt 28 = .ok (.iload_n 3, 1) := by decide +kernel
theorem dX2_blockersAt_29 : decode cX2_blockersAt 29 = .ok (.if_icmp .ne 17, 3) := by decide +kernel
theorem dX2_blockersAt_32 : decode cX2_blockersAt 32 = .ok (.aload_n 0, 1) := by decide +kernel
theorem dX2_blockersAt_33 : decode cX2_blockersAt 33 = .ok (.aload_n 1, 1) := by decide +kernel
theorem dX2_blockersAt_34 : decode cX2_blockersAt 34 = .ok (.iload 5, 2) := by decide +kernel
theorem dX2_blockersAt_36 : decode cX2_blockersAt 36 = .ok (.invokevirtual 55, 3) := by decide +kernel
theorem dX2_blockersAt_39 : decode cX2_blockersAt 39 = .ok (.ifCond .ne 7, 3) := by decide +kernel
theorem dX2_blockersAt_42 : decode cX2_blockersAt 42 = .ok (.iconst 1, 1) := by decide +kernel
theorem dX2_blockersAt_43 : decode cX2_blockersAt 43 = .ok (.goto 4, 3) := by decide +kernel
theorem dX2_blockersAt_46 : decode cX2_blockersAt 46 = .ok (.iconst 0, 1) := by decide +kernel
theorem dX2_blockersAt_47 : decode cX2_blockersAt 47 = .ok (.istore 6, 2) := by decide +kernel
theorem dX2_blockersAt_49 : decode cX2_blockersAt 49 = .ok (.iload 6, 2) := by decide +kernel
theorem dX2_blockersAt_51 : decode cX2_blockersAt 51 = .ok (.ifCond .eq 23, 3) := by decide +kernel
theorem dX2_blockersAt_54 : decode cX2_blockersAt 54 = .ok (.aload_n 1, 1) := by decide +kernel
theorem dX2_blockersAt_55 : decode cX2_blockersAt 55 = .ok (.iload_n 2, 1) := by decide +kernel
theorem dX2_blockersAt_56 : decode cX2_blockersAt 56 = .ok (.iload 5, 2) := by decide +kernel
theorem dX2_blockersAt_58 : decode cX2_blockersAt 58 = .ok (.iload_n 3, 1) := by decide +kernel
theorem dX2_blockersAt_59 : decode cX2_blockersAt 59 = .ok (.invokevirtual 81, 3) := by decide +kernel
theorem dX2_blockersAt_62 : decode cX2_blockersAt 62 = .ok (.ifCond .eq 12, 3) := by decide +kernel
theorem dX2_blockersAt_65 : decode cX2_blockersAt 65 = .ok (.iload 4, 2) := by decide +kernel
theorem dX2_blockersAt_67 : decode cX2_blockersAt 67 = .ok (.iconst 1, 1) := by decide +kernel
theorem dX2_blockersAt_68 : decode cX2_blockersAt 68 = .ok (.iload 5, 2) := by decide +kernel
theorem dX2_blockersAt_70 : decode cX2_blockersAt 70 = .ok (.ishl, 1) := by decide +kernel
theorem dX2_blockersAt_71 : decode cX2_blockersAt 71 = .ok (.ior, 1) := by decide +kernel
theorem dX2_blockersAt_72 : decode cX2_blockersAt 72 = .ok (.istore 4, 2) := by decide +kernel
theorem dX2_blockersAt_74 : decode cX2_blockersAt 74 = .ok (.iinc 5 1, 3) := by decide +kernel
theorem dX2_blockersAt_77 : decode cX2_blockersAt 77 = .ok (.goto (-71), 3) := by decide +kernel
theorem dX2_blockersAt_80 : decode cX2_blockersAt 80 = .ok (.iload 4, 2) := by decide +kernel
theorem dX2_blockersAt_82 : decode cX2_blockersAt 82 = .ok (.ireturn, 1) := by decide +kernel
theorem dX2_freeSteps_0 : decode cX2_freeSteps 0 = .ok (.iconst 0, 1) := by decide +kernel
theorem dX2_freeSteps_1 : decode cX2_freeSteps 1 = .ok (.istore_n 3, 1) := by decide +kernel
theorem dX2_freeSteps_2 : decode cX2_freeSteps 2 = .ok (.aload_n 0, 1) := by decide +kernel
theorem dX2_freeSteps_3 : decode cX2_freeSteps 3 = .ok (.getfield 9, 3) := by decide +kernel
theorem dX2_freeSteps_6 : decode cX2_freeSteps 6 = .ok (.iload_n 2, 1) := by decide +kernel
theorem dX2_freeSteps_7 : decode cX2_freeSteps 7 = .ok (.iaload, 1) := by decide +kernel
theorem dX2_freeSteps_8 : decode cX2_freeSteps 8 = .ok (.iconst 1, 1) := by decide +kernel
theorem dX2_freeSteps_9 : decode cX2_freeSteps 9 = .ok (.iadd, 1) := by decide +kernel
theorem dX2_freeSteps_10 : decode cX2_freeSteps 10 = .ok (.istore 4, 2) := by decide +kernel
theorem dX2_freeSteps_12 : decode cX2_freeSteps 12 = .ok (.iload 4, 2) := by decide +kernel
theorem dX2_freeSteps_14 : decode cX2_freeSteps 14 = .ok (.aload_n 1, 1) := by decide +kernel
theorem dX2_freeSteps_15 : decode cX2_freeSteps 15 = .ok (.getfield 47, 3) := by decide +kernel
theorem dX2_freeSteps_18 : decode cX2_freeSteps 18 = .ok (.iload_n 2, 1) := by decide +kernel
theorem dX2_freeSteps_19 : decode cX2_freeSteps 19 = .ok (.iaload, 1) := by decide +kernel
theorem dX2_freeSteps_20 : decode cX2_freeSteps 20 = .ok (.if_icmp .gt 26, 3) := by decide +kernel
theorem dX2_freeSteps_23 : decode cX2_freeSteps 23 = .ok (.aload_n 0, 1) := by decide +kernel
theorem dX2_freeSteps_24 : decode cX2_freeSteps 24 = .ok (.aload_n 1, 1) := by decide +kernel
theorem dX2_freeSteps_25 : decode cX2_freeSteps 25 = .ok (.iload_n 2, 1) := by decide +kernel
theorem dX2_freeSteps_26 : decode cX2_freeSteps 26 = .ok (.iload 4, 2) := by decide +kernel
theorem dX2_freeSteps_28 : decode cX2_freeSteps 28 = .ok (.invokevirtual 85, 3) := by decide +kernel
theorem dX2_freeSteps_31 : decode cX2_freeSteps 31 = .ok (.ifCond .eq 6, 3) := by decide +kernel
theorem dX2_freeSteps_34 : decode cX2_freeSteps 34 = .ok (.goto 12, 3) := by decide +kernel
theorem dX2_freeSteps_37 : decode cX2_freeSteps 37 = .ok (.iinc 3 1, 3) := by decide +kernel
theorem dX2_freeSteps_40 : decode cX2_freeSteps 40 = .ok (.iinc 4 1, 3) := by decide +kernel
theorem dX2_freeSteps_43 : decode cX2_freeSteps 43 = .ok (.goto (-31), 3) := by decide +kernel
theorem dX2_freeSteps_46 : decode cX2_freeSteps 46 = .ok (.iload_n 3, 1) := by decide +kernel
theorem dX2_freeSteps_47 : decode cX2_freeSteps 47 = .ok (.ireturn, 1) := by decide +kernel
theorem dX2_passHour_0 : decode cX2_passHour 0 = .ok (.aload_n 0, 1) := by decide +kernel
theorem dX2_passHour_1 : decode cX2_passHour 1 = .ok (.aload_n 1, 1) := by decide +kernel
theorem dX2_passHour_2 : decode cX2_passHour 2 = .ok (.invokevirtual 89, 3) := by decide +kernel
theorem dX2_passHour_5 : decode cX2_passHour 5 = .ok (.istore_n 2, 1) := by decide +kernel
theorem dX2_passHour_6 : decode cX2_passHour 6 = .ok (.iconst 0, 1) := by decide +kernel
theorem dX2_passHour_7 : decode cX2_passHour 7 = .ok (.istore_n 3, 1) := by decide +kernel
theorem dX2_passHour_8 : decode cX2_passHour 8 = .ok (.iconst 0, 1) := by decide +kernel
theorem dX2_passHour_9 : decode cX2_passHour 9 = .ok (.istore 4, 2) := by decide +kernel
theorem dX2_passHour_11 : decode cX2_passHour 11 = .ok (.iload 4, 2) := by decide +kernel
theorem dX2_passHour_13 : decode cX2_passHour 13 = .ok (.aload_n 1, 1) := by decide +kernel
theorem dX2_passHour_14 : decode cX2_passHour 14 = .ok (.getfield 52, 3) := by decide +kernel
theorem dX2_passHour_17 : decode cX2_passHour 17 = .ok (.if_icmp .ge 33, 3) := by decide +kernel
theorem dX2_passHour_20 : decode cX2_passHour 20 = .ok (.aload_n 0, 1) := by decide +kernel
theorem dX2_passHour_21 : decode cX2_passHour 21 = .ok (.aload_n 1, 1) := by decide +kernel
theorem dX2_passHour_22 : decode cX2_passHour 22 = .ok (.iload 4, 2) := by decide +kernel
theorem dX2_passHour_24 : decode cX2_passHour 24 = .ok (.invokevirtual 93, 3) := by decide +kernel
theorem dX2_passHour_27 : decode cX2_passHour 27 = .ok (.ifCond .eq 17, 3) := by decide +kernel
theorem dX2_passHour_30 : decode cX2_passHour 30 = .ok (.aload_n 0, 1) := by decide +kernel
theorem dX2_passHour_31 : decode cX2_passHour 31 = .ok (.getfield 9, 3) := by decide +kernel
theorem dX2_passHour_34 : decode cX2_passHour 34 = .ok (.iload 4, 2) := by decide +kernel
theorem dX2_passHour_36 : decode cX2_passHour 36 = .ok (.dup2, 1) := by decide +kernel
theorem dX2_passHour_37 : decode cX2_passHour 37 = .ok (.iaload, 1) := by decide +kernel
theorem dX2_passHour_38 : decode cX2_passHour 38 = .ok (.iconst 1, 1) := by decide +kernel
theorem dX2_passHour_39 : decode cX2_passHour 39 = .ok (.iadd, 1) := by decide +kernel
theorem dX2_passHour_40 : decode cX2_passHour 40 = .ok (.iastore, 1) := by decide +kernel
theorem dX2_passHour_41 : decode cX2_passHour 41 = .ok (.iinc 3 1, 3) := by decide +kernel
theorem dX2_passHour_44 : decode cX2_passHour 44 = .ok (.iinc 4 1, 3) := by decide +kernel
theorem dX2_passHour_47 : decode cX2_passHour 47 = .ok (.goto (-36), 3) := by decide +kernel
theorem dX2_passHour_50 : decode cX2_passHour 50 = .ok (.iconst 0, 1) := by decide +kernel
theorem dX2_passHour_51 : decode cX2_passHour 51 = .ok (.istore 4, 2) := by decide +kernel
theorem dX2_passHour_53 : decode cX2_passHour 53 = .ok (.iload 4, 2) := by decide +kernel
theorem dX2_passHour_55 : decode cX2_passHour 55 = .ok (.aload_n 1, 1) := by decide +kernel
theorem dX2_passHour_56 : decode cX2_passHour 56 = .ok (.getfield 78, 3) := by decide +kernel
theorem dX2_passHour_59 : decode cX2_passHour 59 = .ok (.if_icmp .ge 91, 3) := by decide +kernel
theorem dX2_passHour_62 : decode cX2_passHour 62 = .ok (.aload_n 1, 1) := by decide +kernel
theorem dX2_passHour_63 : decode cX2_passHour 63 = .ok (.aload_n 0, 1) := by decide +kernel
theorem dX2_passHour_64 : decode cX2_passHour 64 = .ok (.getfield 21, 3) := by decide +kernel
theorem dX2_passHour_67 : decode cX2_passHour 67 = .ok (.iload 4, 2) := by decide +kernel
theorem dX2_passHour_69 : decode cX2_passHour 69 = .ok (.iaload, 1) := by decide +kernel
theorem dX2_passHour_70 : decode cX2_passHour 70 = .ok (.invokevirtual 96, 3) := by decide +kernel
theorem dX2_passHour_73 : decode cX2_passHour 73 = .ok (.ifCond .eq 21, 3) := by decide +kernel
theorem dX2_passHour_76 : decode cX2_passHour 76 = .ok (.iload_n 2, 1) := by decide +kernel
theorem dX2_passHour_77 : decode cX2_passHour 77 = .ok (.aload_n 0, 1) := by decide +kernel
theorem dX2_passHour_78 : decode cX2_passHour 78 = .ok (.getfield 21, 3) := by decide +kernel
theorem dX2_passHour_81 : decode cX2_passHour 81 = .ok (.iload 4, 2) := by decide +kernel
theorem dX2_passHour_83 : decode cX2_passHour 83 = .ok (.iaload, 1) := by decide +kernel
theorem dX2_passHour_84 : decode cX2_passHour 84 = .ok (.ishr, 1) := by decide +kernel
theorem dX2_passHour_85 : decode cX2_passHour 85 = .ok (.iconst 1, 1) := by decide +kernel
theorem dX2_passHour_86 : decode cX2_passHour 86 = .ok (.iand, 1) := by decide +kernel
theorem dX2_passHour_87 : decode cX2_passHour 87 = .ok (.ifCond .ne 7, 3) := by decide +kernel
theorem dX2_passHour_90 : decode cX2_passHour 90 = .ok (.iconst 1, 1) := by decide +kernel
theorem dX2_passHour_91 : decode cX2_passHour 91 = .ok (.goto 4, 3) := by decide +kernel
theorem dX2_passHour_94 : decode cX2_passHour 94 = .ok (.iconst 0, 1) := by decide +kernel
theorem dX2_passHour_95 : decode cX2_passHour 95 = .ok (.istore 5, 2) := by decide +kernel
theorem dX2_passHour_97 : decode cX2_passHour 97 = .ok (.aload_n 0, 1) := by decide +kernel
theorem dX2_passHour_98 : decode cX2_passHour 98 = .ok (.getfield 18, 3) := by decide +kernel
theorem dX2_passHour_101 : decode cX2_passHour 101 = .ok (.iload 4, 2) := by decide +kernel
theorem dX2_passHour_103 : decode cX2_passHour 103 = .ok (.iload 5, 2) := by decide +kernel
theorem dX2_passHour_105 : decode cX2_passHour 105 = .ok (.ifCond .eq 19, 3) := by decide +kernel
theorem dX2_passHour_108 : decode cX2_passHour 108 = .ok (.iconst 0, 1) := by decide +kernel
theorem dX2_passHour_109 : decode cX2_passHour 109 = .ok (.aload_n 0, 1) := by decide +kernel
theorem dX2_passHour_110 : decode cX2_passHour 110 = .ok (.getfield 18, 3) := by decide +kernel
theorem dX2_passHour_113 : decode cX2_passHour 113 = .ok (.iload 4, 2) := by decide +kernel
theorem dX2_passHour_115 : decode cX2_passHour 115 = .ok (.iaload, 1) := by decide +kernel
theorem dX2_passHour_116 : decode cX2_passHour 116 = .ok (.iconst 1, 1) := by decide +kernel
theorem dX2_passHour_117 : decode cX2_passHour 117 = .ok (.isub, 1) := by decide +kernel
theorem dX2_passHour_118 : decode cX2_passHour 118 = .ok (.invokestatic 62, 3) := by decide +kernel
theorem dX2_passHour_121 : decode cX2_passHour 121 = .ok (.goto 22, 3) := by decide +kernel
theorem dX2_passHour_124 : decode cX2_passHour 124 = .ok (.aload_n 1, 1) := by decide +kernel
theorem dX2_passHour_125 : decode cX2_passHour 125 = .ok (.getfield 100, 3) := by decide +kernel
theorem dX2_passHour_128 : decode cX2_passHour 128 = .ok (.iload 4, 2) := by decide +kernel
theorem dX2_passHour_130 : decode cX2_passHour 130 = .ok (.iaload, 1) := by decide +kernel
theorem dX2_passHour_131 : decode cX2_passHour 131 = .ok (.aload_n 0, 1) := by decide +kernel
theorem dX2_passHour_132 : decode cX2_passHour 132 = .ok (.getfield 18, 3) := by decide +kernel
theorem dX2_passHour_135 : decode cX2_passHour 135 = .ok (.iload 4, 2) := by decide +kernel
theorem dX2_passHour_137 : decode cX2_passHour 137 = .ok (.iaload, 1) := by decide +kernel
theorem dX2_passHour_138 : decode cX2_passHour 138 = .ok (.iconst 1, 1) := by decide +kernel
theorem dX2_passHour_139 : decode cX2_passHour 139 = .ok (.iadd, 1) := by decide +kernel
theorem dX2_passHour_140 : decode cX2_passHour 140 = .ok (.invokestatic 103, 3) := by decide +kernel
theorem dX2_passHour_143 : decode cX2_passHour 143 = .ok (.iastore, 1) := by decide +kernel
theorem dX2_passHour_144 : decode cX2_passHour 144 = .ok (.iinc 4 1, 3) := by decide +kernel
theorem dX2_passHour_147 : decode cX2_passHour 147 = .ok (.goto (-94), 3) := by decide +kernel
theorem dX2_passHour_150 : decode cX2_passHour 150 = .ok (.aload_n 0, 1) := by decide +kernel
theorem dX2_passHour_151 : decode cX2_passHour 151 = .ok (.dup, 1) := by decide +kernel
theorem dX2_passHour_152 : decode cX2_passHour 152 = .ok (.getfield 31, 3) := by decide +kernel
theorem dX2_passHour_155 : decode cX2_passHour 155 = .ok (.iconst 1, 1) := by decide +kernel
theorem dX2_passHour_156 : decode cX2_passHour 156 = .ok (.iadd, 1) := by decide +kernel
theorem dX2_passHour_157 : decode cX2_passHour 157 = .ok (.putfield 31, 3) := by decide +kernel
theorem dX2_passHour_160 : decode cX2_passHour 160 = .ok (.iload_n 3, 1) := by decide +kernel
theorem dX2_passHour_161 : decode cX2_passHour 161 = .ok (.ireturn, 1) := by decide +kernel
theorem dX2_canComeUp_0 : decode cX2_canComeUp 0 = .ok (.aload_n 0, 1) := by decide +kernel
theorem dX2_canComeUp_1 : decode cX2_canComeUp 1 = .ok (.aload_n 1, 1) := by decide +kernel
theorem dX2_canComeUp_2 : decode cX2_canComeUp 2 = .ok (.iload_n 2, 1) := by decide +kernel
theorem dX2_canComeUp_3 : decode cX2_canComeUp 3 = .ok (.invokevirtual 55, 3) := by decide +kernel
theorem dX2_canComeUp_6 : decode cX2_canComeUp 6 = .ok (.ifCond .ne 39, 3) := by decide +kernel
theorem dX2_canComeUp_9 : decode cX2_canComeUp 9 = .ok (.aload_n 0, 1) := by decide +kernel
theorem dX2_canComeUp_10 : decode cX2_canComeUp 10 = .ok (.aload_n 1, 1) := by decide +kernel
theorem dX2_canComeUp_11 : decode cX2_canComeUp 11 = .ok (.iload_n 2, 1) := by decide +kernel
theorem dX2_canComeUp_12 : decode cX2_canComeUp 12 = .ok (.invokevirtual 106, 3) := by decide +kernel
theorem dX2_canComeUp_15 : decode cX2_canComeUp 15 = .ok (.aload_n 0, 1) := by decide +kernel
theorem dX2_canComeUp_16 : decode cX2_canComeUp 16 = .ok (.aload_n 1, 1) := by decide +kernel
theorem dX2_canComeUp_17 : decode cX2_canComeUp 17 = .ok (.iload_n 2, 1) := by decide +kernel
theorem dX2_canComeUp_18 : decode cX2_canComeUp 18 = .ok (.invokevirtual 109, 3) := by decide +kernel
theorem dX2_canComeUp_21 : decode cX2_canComeUp 21 = .ok (.if_icmp .lt 24, 3) := by decide +kernel
theorem dX2_canComeUp_24 : decode cX2_canComeUp 24 = .ok (.aload_n 0, 1) := by decide +kernel
theorem dX2_canComeUp_25 : decode cX2_canComeUp 25 = .ok (.aload_n 1, 1) := by decide +kernel
theorem dX2_canComeUp_26 : decode cX2_canComeUp 26 = .ok (.iload_n 2, 1) := by decide +kernel
theorem dX2_canComeUp_27 : decode cX2_canComeUp 27 = .ok (.aload_n 0, 1) := by decide +kernel
theorem dX2_canComeUp_28 : decode cX2_canComeUp 28 = .ok (.getfield 9, 3) := by decide +kernel
theorem dX2_canComeUp_31 : decode cX2_canComeUp 31 = .ok (.iload_n 2, 1) := by decide +kernel
theorem dX2_canComeUp_32 : decode cX2_canComeUp 32 = .ok (.iaload, 1) := by decide +kernel
theorem dX2_canComeUp_33 : decode cX2_canComeUp 33 = .ok (.iconst 1, 1) := by decide +kernel
theorem dX2_canComeUp_34 : decode cX2_canComeUp 34 = .ok (.iadd, 1) := by decide +kernel
theorem dX2_canComeUp_35 : decode cX2_canComeUp 35 = .ok (.invokevirtual 85, 3) := by decide +kernel
theorem dX2_canComeUp_38 : decode cX2_canComeUp 38 = .ok (.ifCond .ne 7, 3) := by decide +kernel
theorem dX2_canComeUp_41 : decode cX2_canComeUp 41 = .ok (.iconst 1, 1) := by decide +kernel
theorem dX2_canComeUp_42 : decode cX2_canComeUp 42 = .ok (.goto 4, 3) := by decide +kernel
theorem dX2_canComeUp_45 : decode cX2_canComeUp 45 = .ok (.iconst 0, 1) := by decide +kernel
theorem dX2_canComeUp_46 : decode cX2_canComeUp 46 = .ok (.ireturn, 1) := by decide +kernel
theorem dX2_passDay_0 : decode cX2_passDay 0 = .ok (.aload_n 0, 1) := by decide +kernel
theorem dX2_passDay_1 : decode cX2_passDay 1 = .ok (.aload_n 1, 1) := by decide +kernel
theorem dX2_passDay_2 : decode cX2_passDay 2 = .ok (.invokevirtual 112, 3) := by decide +kernel
theorem dX2_passDay_5 : decode cX2_passDay 5 = .ok (.istore_n 2, 1) := by decide +kernel
theorem dX2_passDay_6 : decode cX2_passDay 6 = .ok (.iconst 0, 1) := by decide +kernel
theorem dX2_passDay_7 : decode cX2_passDay 7 = .ok (.istore_n 3, 1) := by decide +kernel
theorem dX2_passDay_8 : decode cX2_passDay 8 = .ok (.iload_n 3, 1) := by decide +kernel
theorem dX2_passDay_9 : decode cX2_passDay 9 = .ok (.iload_n 2, 1) := by decide +kernel
theorem dX2_passDay_10 : decode cX2_passDay 10 = .ok (.if_icmp .ge 15, 3) := by decide +kernel
theorem dX2_passDay_13 : decode cX2_passDay 13 = .ok (.aload_n 0, 1) := by decide +kernel
theorem dX2_passDay_14 : decode cX2_passDay 14 = .ok (.aload_n 1, 1) := by decide +kernel
theorem dX2_passDay_15 : decode cX2_passDay 15 = .ok (.invokevirtual 115, 3) := by decide +kernel
theorem dX2_passDay_18 : decode cX2_passDay 18 = .ok (.pop, 1) := by decide +kernel
theorem dX2_passDay_19 : decode cX2_passDay 19 = .ok (.iinc 3 1, 3) := by decide +kernel
theorem dX2_passDay_22 : decode cX2_passDay 22 = .ok (.goto (-14), 3) := by decide +kernel
theorem dX2_passDay_25 : decode cX2_passDay 25 = .ok (.return_, 1) := by decide +kernel
theorem dX2_fallDusk_0 : decode cX2_fallDusk 0 = .ok (.iconst 0, 1) := by decide +kernel
theorem dX2_fallDusk_1 : decode cX2_fallDusk 1 = .ok (.istore_n 3, 1) := by decide +kernel
theorem dX2_fallDusk_2 : decode cX2_fallDusk 2 = .ok (.iload_n 3, 1) := by decide +kernel
theorem dX2_fallDusk_3 : decode cX2_fallDusk 3 = .ok (.aload_n 1, 1) := by decide +kernel
theorem dX2_fallDusk_4 : decode cX2_fallDusk 4 = .ok (.getfield 52, 3) := by decide +kernel
theorem dX2_fallDusk_7 : decode cX2_fallDusk 7 = .ok (.if_icmp .ge 70, 3) := by decide +kernel
theorem dX2_fallDusk_10 : decode cX2_fallDusk 10 = .ok (.aload_n 0, 1) := by decide +kernel
theorem dX2_fallDusk_11 : decode cX2_fallDusk 11 = .ok (.aload_n 1, 1) := by decide +kernel
theorem dX2_fallDusk_12 : decode cX2_fallDusk 12 = .ok (.iload_n 3, 1) := by decide +kernel
theorem dX2_fallDusk_13 : decode cX2_fallDusk 13 = .ok (.invokevirtual 55, 3) := by decide +kernel
theorem dX2_fallDusk_16 : decode cX2_fallDusk 16 = .ok (.ifCond .ne 21, 3) := by decide +kernel
theorem dX2_fallDusk_19 : decode cX2_fallDusk 19 = .ok (.iload_n 2, 1) := by decide +kernel
theorem dX2_fallDusk_20 : decode cX2_fallDusk 20 = .ok (.ifCond .ne 21, 3) := by decide +kernel
theorem dX2_fallDusk_23 : decode cX2_fallDusk 23 = .ok (.aload_n 1, 1) := by decide +kernel
theorem dX2_fallDusk_24 : decode cX2_fallDusk 24 = .ok (.iload_n 3, 1) := by decide +kernel
theorem dX2_fallDusk_25 : decode cX2_fallDusk 25 = .ok (.aload_n 0, 1) := by decide +kernel
theorem dX2_fallDusk_26 : decode cX2_fallDusk 26 = .ok (.getfield 9, 3) := by decide +kernel
theorem dX2_fallDusk_29 : decode cX2_fallDusk 29 = .ok (.iload_n 3, 1) := by decide +kernel
theorem dX2_fallDusk_30 : decode cX2_fallDusk 30 = .ok (.iaload, 1) := by decide +kernel
theorem dX2_fallDusk_31 : decode cX2_fallDusk 31 = .ok (.invokevirtual 118, 3) := by decide +kernel
theorem dX2_fallDusk_34 : decode cX2_fallDusk 34 = .ok (.ifCond .eq 7, 3) := by decide +kernel
theorem dX2_fallDusk_37 : decode cX2_fallDusk 37 = .ok (.iconst 1, 1) := by decide +kernel
theorem dX2_fallDusk_38 : decode cX2_fallDusk 38 = .ok (.goto 4, 3) := by decide +kernel
theorem dX2_fallDusk_41 : decode cX2_fallDusk 41 = .ok (.iconst 0, 1) := by decide +kernel
theorem dX2_fallDusk_42 : decode cX2_fallDusk 42 = .ok (.istore 4, 2) := by decide +kernel
theorem dX2_fallDusk_44 : decode cX2_fallDusk 44 = .ok (.iload 4, 2) := by decide +kernel
theorem dX2_fallDusk_46 : decode cX2_fallDusk 46 = .ok (.ifCond .ne 25, 3) := by decide +kernel
theorem dX2_fallDusk_49 : decode cX2_fallDusk 49 = .ok (.aload_n 0, 1) := by decide +kernel
theorem dX2_fallDusk_50 : decode cX2_fallDusk 50 = .ok (.getfield 15, 3) := by decide +kernel
theorem dX2_fallDusk_53 : decode cX2_fallDusk 53 = .ok (.iload_n 3, 1) := by decide +kernel
theorem dX2_fallDusk_54 : decode cX2_fallDusk 54 = .ok (.dup2, 1) := by decide +kernel
theorem dX2_fallDusk_55 : decode cX2_fallDusk 55 = .ok (.iaload, 1) := by decide +kernel
theorem dX2_fallDusk_56 : decode cX2_fallDusk 56 = .ok (.aload_n 0, 1) := by decide +kernel
theorem dX2_fallDusk_57 : decode cX2_fallDusk 57 = .ok (.getfield 9, 3) := by decide +kernel
theorem dX2_fallDusk_60 : decode cX2_fallDusk 60 = .ok (.iload_n 3, 1) := by decide +kernel
theorem dX2_fallDusk_61 : decode cX2_fallDusk 61 = .ok (.iaload, 1) := by decide +kernel
theorem dX2_fallDusk_62 : decode cX2_fallDusk 62 = .ok (.iadd, 1) := by decide +kernel
theorem dX2_fallDusk_63 : decode cX2_fallDusk 63 = .ok (.iastore, 1) := by decide +kernel
theorem dX2_fallDusk_64 : decode cX2_fallDusk 64 = .ok (.aload_n 0, 1) := by decide +kernel
theorem dX2_fallDusk_65 : decode cX2_fallDusk 65 = .ok (.getfield 9, 3) := by decide +kernel
theorem dX2_fallDusk_68 : decode cX2_fallDusk 68 = .ok (.iload_n 3, 1) := by decide +kernel
theorem dX2_fallDusk_69 : decode cX2_fallDusk 69 = .ok (.iconst 0, 1) := by decide +kernel
theorem dX2_fallDusk_70 : decode cX2_fallDusk 70 = .ok (.iastore, 1) := by decide +kernel
theorem dX2_fallDusk_71 : decode cX2_fallDusk 71 = .ok (.iinc 3 1, 3) := by decide +kernel
theorem dX2_fallDusk_74 : decode cX2_fallDusk 74 = .ok (.goto (-72), 3) := by decide +kernel
theorem dX2_fallDusk_77 : decode cX2_fallDusk 77 = .ok (.aload_n 0, 1) := by decide +kernel
theorem dX2_fallDusk_78 : decode cX2_fallDusk 78 = .ok (.aload_n 1, 1) := by decide +kernel
theorem dX2_fallDusk_79 : decode cX2_fallDusk 79 = .ok (.invokevirtual 37, 3) := by decide +kernel
theorem dX2_fallDusk_82 : decode cX2_fallDusk 82 = .ok (.aload_n 0, 1) := by decide +kernel
theorem dX2_fallDusk_83 : decode cX2_fallDusk 83 = .ok (.dup, 1) := by decide +kernel
theorem dX2_fallDusk_84 : decode cX2_fallDusk 84 = .ok (.getfield 27, 3) := by decide +kernel
theorem dX2_fallDusk_87 : decode cX2_fallDusk 87 = .ok (.iconst 1, 1) := by decide +kernel
theorem dX2_fallDusk_88 : decode cX2_fallDusk 88 = .ok (.iadd, 1) := by decide +kernel
theorem dX2_fallDusk_89 : decode cX2_fallDusk 89 = .ok (.putfield 27, 3) := by decide +kernel
theorem dX2_fallDusk_92 : decode cX2_fallDusk 92 = .ok (.aload_n 0, 1) := by decide +kernel
theorem dX2_fallDusk_93 : decode cX2_fallDusk 93 = .ok (.iconst 0, 1) := by decide +kernel
theorem dX2_fallDusk_94 : decode cX2_fallDusk 94 = .ok (.putfield 31, 3) := by decide +kernel
theorem dX2_fallDusk_97 : decode cX2_fallDusk 97 = .ok (.return_, 1) := by decide +kernel
theorem dX2_rest_0 : decode cX2_rest 0 = .ok (.iconst 0, 1) := by decide +kernel
theorem dX2_rest_1 : decode cX2_rest 1 = .ok (.istore_n 2, 1) := by decide +kernel
theorem dX2_rest_2 : decode cX2_rest 2 = .ok (.iload_n 2, 1) := by decide +kernel
theorem dX2_rest_3 : decode cX2_rest 3 = .ok (.aload_n 1, 1) := by decide +kernel
theorem dX2_rest_4 : decode cX2_rest 4 = .ok (.getfield 78, 3) := by decide +kernel
theorem dX2_rest_7 : decode cX2_rest 7 = .ok (.if_icmp .ge 21, 3) := by decide +kernel
theorem dX2_rest_10 : decode cX2_rest 10 = .ok (.aload_n 0, 1) := by decide +kernel
theorem dX2_rest_11 : decode cX2_rest 11 = .ok (.getfield 18, 3) := by decide +kernel
theorem dX2_rest_14 : decode cX2_rest 14 = .ok (.iload_n 2, 1) := by decide +kernel
theorem dX2_rest_15 : decode cX2_rest 15 = .ok (.aload_n 1, 1) := by decide +kernel
theorem dX2_rest_16 : decode cX2_rest 16 = .ok (.getfield 100, 3) := by decide +kernel
theorem dX2_rest_19 : decode cX2_rest 19 = .ok (.iload_n 2, 1) := by decide +kernel
theorem dX2_rest_20 : decode cX2_rest 20 = .ok (.iaload, 1) := by decide +kernel
theorem dX2_rest_21 : decode cX2_rest 21 = .ok (.iastore, 1) := by decide +kernel
theorem dX2_rest_22 : decode cX2_rest 22 = .ok (.iinc 2 1, 3) := by decide +kernel
theorem dX2_rest_25 : decode cX2_rest 25 = .ok (.goto (-23), 3) := by decide +kernel
theorem dX2_rest_28 : decode cX2_rest 28 = .ok (.return_, 1) := by decide +kernel
theorem dX2_writeDown_0 : decode cX2_writeDown 0 = .ok (.bipush 19, 2) := by decide +kernel
theorem dX2_writeDown_2 : decode cX2_writeDown 2 = .ok (.istore_n 2, 1) := by decide +kernel
theorem dX2_writeDown_3 : decode cX2_writeDown 3 = .ok (.iload_n 2, 1) := by decide +kernel
theorem dX2_writeDown_4 : decode cX2_writeDown 4 = .ok (.ifCond .le 23, 3) := by decide +kernel
theorem dX2_writeDown_7 : decode cX2_writeDown 7 = .ok (.aload_n 0, 1) := by decide +kernel
theorem dX2_writeDown_8 : decode cX2_writeDown 8 = .ok (.getfield 24, 3) := by decide +kernel
theorem dX2_writeDown_11 : decode cX2_writeDown 11 = .ok (.iload_n 2, 1) := by decide +kernel
theorem dX2_writeDown_12 : decode cX2_writeDown 12 = .ok (.aload_n 0, 1) := by decide +kernel
theorem dX2_writeDown_13 : decode cX2_writeDown 13 = .ok (.getfield 24, 3) := by decide +kernel
theorem dX2_writeDown_16 : decode cX2_writeDown 16 = .ok (.iload_n 2, 1) := by decide +kernel
theorem dX2_writeDown_17 : decode cX2_writeDown 17 = .ok (.iconst 1, 1) := by decide +kernel
theorem dX2_writeDown_18 : decode cX2_writeDown 18 = .ok (.isub, 1) := by decide +kernel
theorem dX2_writeDown_19 : decode cX2_writeDown 19 = .ok (.iaload, 1) := by decide +kernel
theorem dX2_writeDown_20 : decode cX2_writeDown 20 = .ok (.iastore, 1) := by decide +kernel
theorem dX2_writeDown_21 : decode cX2_writeDown 21 = .ok (.iinc 2 (-1), 3) := by decide +kernel
theorem dX2_writeDown_24 : decode cX2_writeDown 24 = .ok (.goto (-21), 3) := by decide +kernel
theorem dX2_writeDown_27 : decode cX2_writeDown 27 = .ok (.iconst 0, 1) := by decide +kernel
theorem dX2_writeDown_28 : decode cX2_writeDown 28 = .ok (.istore_n 2, 1) := by decide +kernel
theorem dX2_writeDown_29 : decode cX2_writeDown 29 = .ok (.iconst 0, 1) := by decide +kernel
theorem dX2_writeDown_30 : decode cX2_writeDown 30 = .ok (.istore_n 3, 1) := by decide +kernel
theorem dX2_writeDown_31 : decode cX2_writeDown 31 = .ok (.iload_n 3, 1) := by decide +kernel
theorem dX2_writeDown_32 : decode cX2_writeDown 32 = .ok (.aload_n 1, 1) := by decide +kernel
theorem dX2_writeDown_33 : decode cX2_writeDown 33 = .ok (.getfield 52, 3) := by decide +kernel
theorem dX2_writeDown_36 : decode cX2_writeDown 36 = .ok (.if_icmp .ge 22, 3) := by decide +kernel
theorem dX2_writeDown_39 : decode cX2_writeDown 39 = .ok (.iload_n 2, 1) := by decide +kernel
theorem dX2_writeDown_40 : decode cX2_writeDown 40 = .ok (.aload_n 0, 1) := by decide +kernel
theorem dX2_writeDown_41 : decode cX2_writeDown 41 = .ok (.getfield 9, 3) := by decide +kernel
theorem dX2_writeDown_44 : decode cX2_writeDown 44 = .ok (.iload_n 3, 1) := by decide +kernel
theorem dX2_writeDown_45 : decode cX2_writeDown 45 = .ok (.iaload, 1) := by decide +kernel
theorem dX2_writeDown_46 : decode cX2_writeDown 46 = .ok (.iload_n 3, 1) := by decide +kernel
theorem dX2_writeDown_47 : decode cX2_writeDown 47 = .ok (.iconst 4, 1) := by decide +kernel
theorem dX2_writeDown_48 : decode cX2_writeDown 48 = .ok (.imul, 1) := by decide +kernel
theorem dX2_writeDown_49 : decode cX2_writeDown 49 = .ok (.ishl, 1) := by decide +kernel
theorem dX2_writeDown_50 : decode cX2_writeDown 50 = .ok (.ior, 1) := by decide +kernel
theorem dX2_writeDown_51 : decode cX2_writeDown 51 = .ok (.istore_n 2, 1) := by decide +kernel
theorem dX2_writeDown_52 : decode cX2_writeDown 52 = .ok (.iinc 3 1, 3) := by decide +kernel
theorem dX2_writeDown_55 : decode cX2_writeDown 55 = .ok (.goto (-24), 3) := by decide +kernel
theorem dX2_writeDown_58 : decode cX2_writeDown 58 = .ok (.aload_n 0, 1) := by decide +kernel
theorem dX2_writeDown_59 : decode cX2_writeDown 59 = .ok (.getfield 24, 3) := by decide +kernel
theorem dX2_writeDown_62 : decode cX2_writeDown 62 = .ok (.iconst 0, 1) := by decide +kernel
theorem dX2_writeDown_63 : decode cX2_writeDown 63 = .ok (.iload_n 2, 1) := by decide +kernel
theorem dX2_writeDown_64 : decode cX2_writeDown 64 = .ok (.iastore, 1) := by decide +kernel
theorem dX2_writeDown_65 : decode cX2_writeDown 65 = .ok (.aload_n 0, 1) := by decide +kernel
theorem dX2_writeDown_66 : decode cX2_writeDown 66 = .ok (.aload_n 0, 1) := by decide +kernel
theorem dX2_writeDown_67 : decode cX2_writeDown 67 = .ok (.getfield 34, 3) := by decide +kernel
theorem dX2_writeDown_70 : decode cX2_writeDown 70 = .ok (.iconst 1, 1) := by decide +kernel
theorem dX2_writeDown_71 : decode cX2_writeDown 71 = .ok (.iadd, 1) := by decide +kernel
theorem dX2_writeDown_72 : decode cX2_writeDown 72 = .ok (.bipush 20, 2) := by decide +kernel
theorem dX2_writeDown_74 : decode cX2_writeDown 74 = .ok (.invokestatic 103, 3) := by decide +kernel
theorem dX2_writeDown_77 : decode cX2_writeDown 77 = .ok (.putfield 34, 3) := by decide +kernel
theorem dX2_writeDown_80 : decode cX2_writeDown 80 = .ok (.return_, 1) := by decide +kernel
theorem dX2_writtenStep_0 : decode cX2_writtenStep 0 = .ok (.iload_n 1, 1) := by decide +kernel
theorem dX2_writtenStep_1 : decode cX2_writtenStep 1 = .ok (.ifCond .lt 9, 3) := by decide +kernel
theorem dX2_writtenStep_4 : decode cX2_writtenStep 4 = .ok (.iload_n 1, 1) := by decide +kernel
theorem dX2_writtenStep_5 : decode cX2_writtenStep 5 = .ok (.bipush 20, 2) := by decide +kernel
theorem dX2_writtenStep_7 : decode cX2_writtenStep 7 = .ok (.if_icmp .lt 7, 3) := by decide +kernel
theorem dX2_writtenStep_10 : decode cX2_writtenStep 10 = .ok (.iconst (-1), 1) := by decide +kernel
theorem dX2_writtenStep_11 : decode cX2_writtenStep 11 = .ok (.goto 16, 3) := by decide +kernel
theorem dX2_writtenStep_14 : decode cX2_writtenStep 14 = .ok (.aload_n 0, 1) := by decide +kernel
theorem dX2_writtenStep_15 : decode cX2_writtenStep 15 = .ok (.getfield 24, 3) := by decide +kernel
theorem dX2_writtenStep_18 : decode cX2_writtenStep 18 = .ok (.iload_n 1, 1) := by decide +kernel
theorem dX2_writtenStep_19 : decode cX2_writtenStep 19 = .ok (.iaload, 1) := by decide +kernel
theorem dX2_writtenStep_20 : decode cX2_writtenStep 20 = .ok (.iload_n 2, 1) := by decide +kernel
theorem dX2_writtenStep_21 : decode cX2_writtenStep 21 = .ok (.iconst 4, 1) := by decide +kernel
theorem dX2_writtenStep_22 : decode cX2_writtenStep 22 = .ok (.imul, 1) := by decide +kernel
theorem dX2_writtenStep_23 : decode cX2_writtenStep 23 = .ok (.ishr, 1) := by decide +kernel
theorem dX2_writtenStep_24 : decode cX2_writtenStep 24 = .ok (.bipush 15, 2) := by decide +kernel
theorem dX2_writtenStep_26 : decode cX2_writtenStep 26 = .ok (.iand, 1) := by decide +kernel
theorem dX2_writtenStep_27 : decode cX2_writtenStep 27 = .ok (.ireturn, 1) := by decide +kernel
theorem dX3_init_0 : decode cX3_init 0 = .ok (.aload_n 0, 1) := by decide +kernel
theorem dX3_init_1 : decode cX3_init 1 = .ok (.invokespecial 3, 3) := by decide +kernel
theorem dX3_init_4 : decode cX3_init 4 = .ok (.aload_n 0, 1) := by decide +kernel
theorem dX3_init_5 : decode cX3_init 5 = .ok (.iconst 4, 1) := by decide +kernel
theorem dX3_init_6 : decode cX3_init 6 = .ok (.newarray .int, 2) := by decide +kernel
theorem dX3_init_8 : decode cX3_init 8 = .ok (.putfield 11, 3) := by decide +kernel
theorem dX3_init_11 : decode cX3_init 11 = .ok (.aload_n 0, 1) := by decide +kernel
theorem dX3_init_12 : decode cX3_init 12 = .ok (.aload_n 1, 1) := by decide +kernel
theorem dX3_init_13 : decode cX3_init 13 = .ok (.putfield 15, 3) := by decide +kernel
theorem dX3_init_16 : decode cX3_init 16 = .ok (.return_, 1) := by decide +kernel
theorem dX3_readAll_0 : decode cX3_readAll 0 = .ok (.aload_n 0, 1) := by decide +kernel
theorem dX3_readAll_1 : decode cX3_readAll 1 = .ok (.iload_n 1, 1) := by decide +kernel
theorem dX3_readAll_2 : decode cX3_readAll 2 = .ok (.aload_n 0, 1) := by decide +kernel
theorem dX3_readAll_3 : decode cX3_readAll 3 = .ok (.getfield 15, 3) := by decide +kernel
theorem dX3_readAll_6 : decode cX3_readAll 6 = .ok (.arraylength, 1) := by decide +kernel
theorem dX3_readAll_7 : decode cX3_readAll 7 = .ok (.invokestatic 19, 3) := by decide +kernel
theorem dX3_readAll_10 : decode cX3_readAll 10 = .ok (.putfield 25, 3) := by decide +kernel
theorem dX3_readAll_13 : decode cX3_readAll 13 = .ok (.aload_n 0, 1) := by decide +kernel
theorem dX3_readAll_14 : decode cX3_readAll 14 = .ok (.iconst 0, 1) := by decide +kernel
theorem dX3_readAll_15 : decode cX3_readAll 15 = .ok (.putfield 29, 3) := by decide +kernel
theorem dX3_readAll_18 : decode cX3_readAll 18 = .ok (.aload_n 2, 1) := by decide +kernel
theorem dX3_readAll_19 : decode cX3_readAll 19 = .ok (.invokevirtual 32, 3) := by decide +kernel
theorem dX3_readAll_22 : decode cX3_readAll 22 = .ok (.iconst 0, 1) := by decide +kernel
theorem dX3_readAll_23 : decode cX3_readAll 23 = .ok (.istore_n 3, 1) := by decide +kernel
theorem dX3_readAll_24 : decode cX3_readAll 24 = .ok (.iload_n 3, 1) := by decide +kernel
theorem dX3_readAll_25 : decode cX3_readAll 25 = .ok (.sipush 200, 3) := by decide +kernel
theorem dX3_readAll_28 : decode cX3_readAll 28 = .ok (.if_icmp .gt 33, 3) := by decide +kernel
theorem dX3_readAll_31 : decode cX3_readAll 31 = .ok (.aload_n 0, 1) := by decide +kernel
theorem dX3_readAll_32 : decode cX3_readAll 32 = .ok (.invokevirtual 37, 3) := by decide +kernel
theorem dX3_readAll_35 : decode cX3_readAll 35 = .ok (.aload_n 0, 1) := by decide +kernel
theorem dX3_readAll_36 : decode cX3_readAll 36 = .ok (.getfield 40, 3) := by decide +kernel
theorem dX3_readAll_39 : decode cX3_readAll 39 = .ok (.ifCond .ne 5, 3) := by decide +kernel
theorem dX3_readAll_42 : decode cX3_readAll 42 = .ok (.iload_n 3, 1) := by decide +kernel
theorem dX3_readAll_43 : decode cX3_readAll 43 = .ok (.ireturn, 1) := by decide +kernel
theorem dX3_readAll_44 : decode cX3_readAll 44 = .ok (.aload_n 0, 1) := by decide +kernel
theorem dX3_readAll_45 : decode cX3_readAll 45 = .ok (.aload_n 2, 1) := by decide +kernel
theorem dX3_readAll_46 : decode cX3_readAll 46 = .ok (.invokevirtual 43, 3) := by decide +kernel
theorem dX3_readAll_49 : decode cX3_readAll 49 = .ok (.ifCond .ne 6, 3) := by decide +kernel
theorem dX3_readAll_52 : decode cX3_readAll 52 = .ok (.goto 9, 3) := by decide +kernel
theorem dX3_readAll_55 : decode cX3_readAll 55 = .ok (.iinc 3 1, 3) := by decide +kernel
theorem dX3_readAll_58 : decode cX3_readAll 58 = .ok (.goto (-34), 3) := by decide +kernel
theorem dX3_readAll_61 : decode cX3_readAll 61 = .ok (.bipush (-10), 2) := by decide +kernel
theorem dX3_readAll_63 : decode cX3_readAll 63 = .ok (.aload_n 0, 1) := by decide +kernel
theorem dX3_readAll_64 : decode cX3_readAll 64 = .ok (.getfield 47, 3) := by decide +kernel
theorem dX3_readAll_67 : decode cX3_readAll 67 = .ok (.isub, 1) := by decide +kernel
theorem dX3_readAll_68 : decode cX3_readAll 68 = .ok (.ireturn, 1) := by decide +kernel
theorem dX3_readItem_0 : decode cX3_readItem 0 = .ok (.aload_n 0, 1) := by decide +kernel
theorem dX3_readItem_1 : decode cX3_readItem 1 = .ok (.getfield 40, 3) := by decide +kernel
theorem dX3_readItem_4 : decode cX3_readItem 4 = .ok (.istore_n 2, 1) := by decide +kernel
theorem dX3_readItem_5 : decode cX3_readItem 5 = .ok (.iload_n 2, 1) := by decide +kernel
theorem dX3_readItem_6 : decode cX3_readItem 6 = .ok (.aload_n 1, 1) := by decide +kernel
theorem dX3_readItem_7 : decode cX3_readItem 7 = .ok (.invokestatic 50, 3) := by decide +kernel
theorem dX3_readItem_10 : decode cX3_readItem 10 = .ok (.ifCond .ne 5, 3) := by decide +kernel
theorem dX3_readItem_13 : decode cX3_readItem 13 = .ok (.iconst 0, 1) := by decide +kernel
theorem dX3_readItem_14 : decode cX3_readItem 14 = .ok (.ireturn, 1) := by decide +kernel
theorem dX3_readItem_15 : decode cX3_readItem 15 = .ok (.iload_n 2, 1) := by decide +kernel
theorem dX3_readItem_16 : decode cX3_readItem 16 = .ok (.invokestatic 54, 3) := by decide +kernel
theorem dX3_readItem_19 : decode cX3_readItem 19 = .ok (.istore_n 3, 1) := by decide +kernel
theorem dX3_readItem_20 : decode cX3_readItem 20 = .ok (.iconst 0, 1) := by decide +kernel
theorem dX3_readItem_21 : decode cX3_readItem 21 = .ok (.istore 4, 2) := by decide +kernel
theorem dX3_readItem_23 : decode cX3_readItem 23 = .ok (.iload 4, 2) := by decide +kernel
theorem dX3_readItem_25 : decode cX3_readItem 25 = .ok (.iload_n 3, 1) := by decide +kernel
theorem dX3_readItem_26 : decode cX3_readItem 26 = .ok (.if_icmp .ge 45, 3) := by decide +kernel
theorem dX3_readItem_29 : decode cX3_readItem 29 = .ok (.aload_n 0, 1) := by decide +kernel
theorem dX3_readItem_30 : decode cX3_readItem 30 = .ok (.invokevirtual 37, 3) := by decide +kernel
theorem dX3_readItem_33 : decode cX3_readItem 33 = .ok (.aload_n 0, 1) := by decide +kernel
theorem dX3_readItem_34 : decode cX3_readItem 34 = .ok (.getfield 40, 3) := by decide +kernel
theorem dX3_readItem_37 : decode cX3_readItem 37 = .ok (.iconst 2, 1) := by decide +kernel
theorem dX3_readItem_38 : decode cX3_readItem 38 = .ok (.if_icmp .ne 14, 3) := by decide +kernel
theorem dX3_readItem_41 : decode cX3_readItem 41 = .ok (.aload_n 0, 1) := by decide +kernel
theorem dX3_readItem_42 : decode cX3_readItem 42 = .ok (.iload_n 2, 1) := by decide +kernel
theorem dX3_readItem_43 : decode cX3_readItem 43 = .ok (.iload 4, 2) := by decide +kernel
theorem dX3_readItem_45 : decode cX3_readItem 45 = .ok (.aload_n 1, 1) := by decide +kernel
theorem dX3_readItem_46 : decode cX3_readItem 46 = .ok (.invokevirtual 58, 3) := by decide +kernel
theorem dX3_readItem_49 : decode cX3_readItem 49 = .ok (.ifCond .ne 5, 3) := by decide +kernel
theorem dX3_readItem_52 : decode cX3_readItem 52 = .ok (.iconst 0, 1) := by decide +kernel
theorem dX3_readItem_53 : decode cX3_readItem 53 = .ok (.ireturn, 1) := by decide +kernel
theorem dX3_readItem_54 : decode cX3_readItem 54 = .ok (.aload_n 0, 1) := by decide +kernel
theorem dX3_readItem_55 : decode cX3_readItem 55 = .ok (.getfield 11, 3) := by decide +kernel
theorem dX3_readItem_58 : decode cX3_readItem 58 = .ok (.iload 4, 2) := by decide +kernel
theorem dX3_readItem_60 : decode cX3_readItem 60 = .ok (.aload_n 0, 1) := by decide +kernel
theorem dX3_readItem_61 : decode cX3_readItem 61 = .ok (.getfield 62, 3) := by decide +kernel
theorem dX3_readItem_64 : decode cX3_readItem 64 = .ok (.iastore, 1) := by decide +kernel
theorem dX3_readItem_65 : decode cX3_readItem 65 = .ok (.iinc 4 1, 3) := by decide +kernel
theorem dX3_readItem_68 : decode cX3_readItem 68 = .ok (.goto (-45), 3) := by decide +kernel
theorem dX3_readItem_71 : decode cX3_readItem 71 = .ok (.aload_n 0, 1) := by decide +kernel
theorem dX3_readItem_72 : decode cX3_readItem 72 = .ok (.invokevirtual 37, 3) := by decide +kernel
theorem dX3_readItem_75 : decode cX3_readItem 75 = .ok (.aload_n 0, 1) := by decide +kernel
theorem dX3_readItem_76 : decode cX3_readItem 76 = .ok (.getfield 40, 3) := by decide +kernel
theorem dX3_readItem_79 : decode cX3_readItem 79 = .ok (.bipush 59, 2) := by decide +kernel
theorem dX3_readItem_81 : decode cX3_readItem 81 = .ok (.if_icmp .eq 5, 3) := by decide +kernel
theorem dX3_readItem_84 : decode cX3_readItem 84 = .ok (.iconst 0, 1) := by decide +kernel
theorem dX3_readItem_85 : decode cX3_readItem 85 = .ok (.ireturn, 1) := by decide +kernel
theorem dX3_readItem_86 : decode cX3_readItem 86 = .ok (.aload_n 0, 1) := by decide +kernel
theorem dX3_readItem_87 : decode cX3_readItem 87 = .ok (.iload_n 2, 1) := by decide +kernel
theorem dX3_readItem_88 : decode cX3_readItem 88 = .ok (.aload_n 1, 1) := by decide +kernel
theorem dX3_readItem_89 : decode cX3_readItem 89 = .ok (.invokevirtual 65, 3) := by decide +kernel
theorem dX3_readItem_92 : decode cX3_readItem 92 = .ok (.iconst 1, 1) := by decide +kernel
theorem dX3_readItem_93 : decode cX3_readItem 93 = .ok (.ireturn, 1) := by decide +kernel
theorem dX3_canStand_0 : decode cX3_canStand 0 = .ok (.iload_n 0, 1) := by decide +kernel
theorem dX3_canStand_1 : decode cX3_canStand 1 = .ok (.tableswitch 127 104 114 #[59, 127, 73, 127, 127, 87, 127, 101, 127, 127, 114], 59) := by decide +kernel
theorem dX3_canStand_60 : decode cX3_canStand 60 = .ok (.aload_n 1, 1) := by decide +kernel
theorem dX3_canStand_61 : decode cX3_canStand 61 = .ok (.getfield 69, 3) := by decide +kernel
theorem dX3_canStand_64 : decode cX3_canStand 64 = .ok (.iconst 4, 1) := by decide +kernel
theorem dX3_canStand_65 : decode cX3_canStand 65 = .ok (.if_icmp .ge 7, 3) := by decide +kernel
theorem dX3_canStand_68 : decode cX3_canStand 68 = .ok (.iconst 1, 1) := by decide +kernel
theorem dX3_canStand_69 : decode cX3_canStand 69 = .ok (.goto 4, 3) := by decide +kernel
theorem dX3_canStand_72 : decode cX3_canStand 72 = .ok (.iconst 0, 1) := by decide +kernel
theorem dX3_canStand_73 : decode cX3_canStand 73 = .ok (.ireturn, 1) := by decide +kernel
theorem dX3_canStand_74 : decode cX3_canStand 74 = .ok (.aload_n 1, 1) := by decide +kernel
theorem dX3_canStand_75 : decode cX3_canStand 75 = .ok (.getfield 72, 3) := by decide +kernel
theorem dX3_canStand_78 : decode cX3_canStand 78 = .ok (.iconst 4, 1) := by decide +kernel
theorem dX3_canStand_79 : decode cX3_canStand 79 = .ok (.if_icmp .ge 7, 3) := by decide +kernel
theorem dX3_canStand_82 : decode cX3_canStand 82 = .ok (.iconst 1, 1) := by decide +kernel
theorem dX3_canStand_83 : decode cX3_canStand 83 = .ok (.goto 4, 3) := by decide +kernel
theorem dX3_canStand_86 : decode cX3_canStand 86 = .ok (.iconst 0, 1) := by decide +kernel
theorem dX3_canStand_87 : decode cX3_canStand 87 = .ok (.ireturn, 1) := by decide +kernel
theorem dX3_canStand_88 : decode cX3_canStand 88 = .ok (.aload_n 1, 1) := by decide +kernel
theorem dX3_canStand_89 : decode cX3_canStand 89 = .ok (.getfield 75, 3) := by decide +kernel
theorem dX3_canStand_92 : decode cX3_canStand 92 = .ok (.iconst 3, 1) := by decide +kernel
theorem dX3_canStand_93 : decode cX3_canStand 93 = .ok (.if_icmp .ge 7, 3) := by decide +kernel
theorem dX3_canStand_96 : decode cX3_canStand 96 = .ok (.iconst 1, 1) := by decide +kernel
theorem dX3_canStand_97 : decode cX3_canStand 97 = .ok (.goto 4, 3) := by decide +kernel
theorem dX3_canStand_100 : decode cX3_canStand 100 = .ok (.iconst 0, 1) := by decide +kernel
theorem dX3_canStand_101 : decode cX3_canStand 101 = .ok (.ireturn, 1) := by decide +kernel
theorem dX3_canStand_102 : decode cX3_canStand 102 = .ok (.aload_n 1, 1) := by decide +kernel
theorem dX3_canStand_103 : decode cX3_canStand 103 = .ok (.getfield 78, 3) := by decide +kernel
theorem dX3_canStand_106 : decode cX3_canStand 106 = .ok (.ifCond .ne 7, 3) := by decide +kernel
theorem dX3_canStand_109 : decode cX3_canStand 109 = .ok (.iconst 1, 1) := by decide +kernel
theorem dX3_canStand_110 : decode cX3_canStand 110 = .ok (.goto 4, 3) := by decide +kernel
theorem dX3_canStand_113 : decode cX3_canStand 113 = .ok (.iconst 0, 1) := by decide +kernel
theorem dX3_canStand_114 : decode cX3_canStand 114 = .ok (.ireturn, 1) := by decide +kernel
theorem dX3_canStand_115 : decode cX3_canStand 115 = .ok (.aload_n 1, 1) := by decide +kernel
theorem dX3_canStand_116 : decode cX3_canStand 116 = .ok (.getfield 82, 3) := by decide +kernel
theorem dX3_canStand_119 : decode cX3_canStand 119 = .ok (.ifCond .ne 7, 3) := by decide +kernel
theorem dX3_canStand_122 : decode cX3_canStand 122 = .ok (.iconst 1, 1) := by decide +kernel
theorem dX3_canStand_123 : decode cX3_canStand 123 = .ok (.goto 4, 3) := by decide +kernel
theorem dX3_canStand_126 : decode cX3_canStand 126 = .ok (.iconst 0, 1) := by decide +kernel
theorem dX3_canStand_127 : decode cX3_canStand 127 = .ok (.ireturn, 1) := by decide +kernel
theorem dX3_canStand_128 : decode cX3_canStand 128 = .ok (.iconst 0, 1) := by decide +kernel
theorem dX3_canStand_129 : decode cX3_canStand 129 = .ok (.ireturn, 1) := by decide +kernel
theorem dX3_numbersOf_0 : decode cX3_numbersOf 0 = .ok (.iload_n 0, 1) := by decide +kernel
theorem dX3_numbersOf_1 : decode cX3_numbersOf 1 = .ok (.lookupswitch 31 #[(104, 27), (106, 29)], 27) := by decide +kernel
theorem dX3_numbersOf_28 : decode cX3_numbersOf 28 = .ok (.iconst 4, 1) := by decide +kernel
theorem dX3_numbersOf_29 : decode cX3_numbersOf 29 = .ok (.ireturn, 1) := by decide +kernel
theorem dX3_numbersOf_30 : decode cX3_numbersOf 30 = .ok (.iconst 3, 1) := by decide +kernel
theorem dX3_numbersOf_31 : decode cX3_numbersOf 31 = .ok (.ireturn, 1) := by decide +kernel
theorem dX3_numbersOf_32 : decode cX3_numbersOf 32 = .ok (.iconst 1, 1) := by decide +kernel
theorem dX3_numbersOf_33 : decode cX3_numbersOf 33 = .ok (.ireturn, 1) := by decide +kernel
theorem dX3_fits_0 : decode cX3_fits 0 = .ok (.iload_n 1, 1) := by decide +kernel
theorem dX3_fits_1 : decode cX3_fits 1 = .ok (.tableswitch 85 104 111 #[47, 85, 62, 85, 85, 69, 85, 77], 47) := by decide +kernel
theorem dX3_fits_48 : decode cX3_fits 48 = .ok (.aload_n 0, 1) := by decide +kernel
theorem dX3_fits_49 : decode cX3_fits 49 = .ok (.getstatic 85, 3) := by decide +kernel
theorem dX3_fits_52 : decode cX3_fits 52 = .ok (.iload_n 2, 1) := by decide +kernel
theorem dX3_fits_53 : decode cX3_fits 53 = .ok (.iaload, 1) := by decide +kernel
theorem dX3_fits_54 : decode cX3_fits 54 = .ok (.getstatic 88, 3) := by decide +kernel
theorem dX3_fits_57 : decode cX3_fits 57 = .ok (.iload_n 2, 1) := by decide +kernel
theorem dX3_fits_58 : decode cX3_fits 58 = .ok (.iaload, 1) := by decide +kernel
theorem dX3_fits_59 : decode cX3_fits 59 = .ok (.invokevirtual 91, 3) := by decide +kernel
theorem dX3_fits_62 : decode cX3_fits 62 = .ok (.ireturn, 1) := by decide +kernel
theorem dX3_fits_63 : decode cX3_fits 63 = .ok (.aload_n 0, 1) := by decide +kernel
theorem dX3_fits_64 : decode cX3_fits 64 = .ok (.iload_n 2, 1) := by decide +kernel
theorem dX3_fits_65 : decode cX3_fits 65 = .ok (.aload_n 3, 1) := by decide +kernel
theorem dX3_fits_66 : decode cX3_fits 66 = .ok (.invokevirtual 95, 3) := by decide +kernel
theorem dX3_fits_69 : decode cX3_fits 69 = .ok (.ireturn, 1) := by decide +kernel
theorem dX3_fits_70 : decode cX3_fits 70 = .ok (.aload_n 0, 1) := by decide +kernel
theorem dX3_fits_71 : decode cX3_fits 71 = .ok (.iconst 1, 1) := by decide +kernel
theorem dX3_fits_72 : decode cX3_fits 72 = .ok (.bipush 9, 2) := by decide +kernel
theorem dX3_fits_74 : decode cX3_fits 74 = .ok (.invokevirtual 91, 3) := by decide +kernel
theorem dX3_fits_77 : decode cX3_fits 77 = .ok (.ireturn, 1) := by decide +kernel
theorem dX3_fits_78 : decode cX3_fits 78 = .ok (.aload_n 0, 1) := by decide +kernel
theorem dX3_fits_79 : decode cX3_fits 79 = .ok (.iconst 1, 1) := by decide +kernel
theorem dX3_fits_80 : decode cX3_fits 80 = .ok (.bipush 6, 2) := by decide +kernel
theorem dX3_fits_82 : decode cX3_fits 82 = .ok (.invokevirtual 91, 3) := by decide +kernel
theorem dX3_fits_85 : decode cX3_fits 85 = .ok (.ireturn, 1) := by decide +kernel
theorem dX3_fits_86 : decode cX3_fits 86 = .ok (.aload_n 0, 1) := by decide +kernel
theorem dX3_fits_87 : decode cX3_fits 87 = .ok (.iconst 0, 1) := by decide +kernel
theorem dX3_fits_88 : decode cX3_fits 88 = .ok (.bipush 127, 2) := by decide +kernel
theorem dX3_fits_90 : decode cX3_fits 90 = .ok (.invokevirtual 91, 3) := by decide +kernel
theorem dX3_fits_93 : decode cX3_fits 93 = .ok (.ireturn, 1) := by decide +kernel
theorem dX3_fitsJoin_0 : decode cX3_fitsJoin 0 = .ok (.iload_n 1, 1) := by decide +kernel
theorem dX3_fitsJoin_1 : decode cX3_fitsJoin 1 = .ok (.lookupswitch 66 #[(0, 27), (1, 36)], 27) := by decide +kernel
theorem dX3_fitsJoin_28 : decode cX3_fitsJoin 28 = .ok (.aload_n 2, 1) := by decide +kernel
theorem dX3_fitsJoin_29 : decode cX3_fitsJoin 29 = .ok (.aload_n 0, 1) := by decide +kernel
theorem dX3_fitsJoin_30 : decode cX3_fitsJoin 30 = .ok (.getfield 62, 3) := by decide +kernel
theorem dX3_fitsJoin_33 : decode cX3_fitsJoin 33 = .ok (.invokevirtual 98, 3) := by decide +kernel
theorem dX3_fitsJoin_36 : decode cX3_fitsJoin 36 = .ok (.ireturn, 1) := by decide +kernel
theorem dX3_fitsJoin_37 : decode cX3_fitsJoin 37 = .ok (.aload_n 2, 1) := by decide +kernel
theorem dX3_fitsJoin_38 : decode cX3_fitsJoin 38 = .ok (.aload_n 0, 1) := by decide +kernel
theorem dX3_fitsJoin_39 : decode cX3_fitsJoin 39 = .ok (.getfield 62, 3) := by decide +kernel
theorem dX3_fitsJoin_42 : decode cX3_fitsJoin 42 = .ok (.invokevirtual 98, 3) := by decide +kernel
theorem dX3_fitsJoin_45 : decode cX3_fitsJoin 45 = .ok (.ifCond .eq 20, 3) := by decide +kernel
theorem dX3_fitsJoin_48 : decode cX3_fitsJoin 48 = .ok (.aload_n 0, 1) := by decide +kernel
theorem dX3_fitsJoin_49 : decode cX3_fitsJoin 49 = .ok (.getfield 62, 3) := by decide +kernel
theorem dX3_fitsJoin_52 : decode cX3_fitsJoin 52 = .ok (.aload_n 0, 1) := by decide +kernel
theorem dX3_fitsJoin_53 : decode cX3_fitsJoin 53 = .ok (.getfield 11, 3) := by decide +kernel
theorem dX3_fitsJoin_56 : decode cX3_fitsJoin 56 = .ok (.iconst 0, 1) := by decide +kernel
theorem dX3_fitsJoin_57 : decode cX3_fitsJoin 57 = .ok (.iaload, 1) := by decide +kernel
theorem dX3_fitsJoin_58 : decode cX3_fitsJoin 58 = .ok (.if_icmp .eq 7, 3) := by decide +kernel
theorem dX3_fitsJoin_61 : decode cX3_fitsJoin 61 = .ok (.iconst 1, 1) := by decide +kernel
theorem dX3_fitsJoin_62 : decode cX3_fitsJoin 62 = .ok (.goto 4, 3) := by decide +kernel
theorem dX3_fitsJoin_65 : decode cX3_fitsJoin 65 = .ok (.iconst 0, 1) := by decide +kernel
theorem dX3_fitsJoin_66 : decode cX3_fitsJoin 66 = .ok (.ireturn, 1) := by decide +kernel
theorem dX3_fitsJoin_67 : decode cX3_fitsJoin 67 = .ok (.aload_n 0, 1) := by decide +kernel
theorem dX3_fitsJoin_68 : decode cX3_fitsJoin 68 = .ok (.iconst 1, 1) := by decide +kernel
theorem dX3_fitsJoin_69 : decode cX3_fitsJoin 69 = .ok (.bipush 9, 2) := by decide +kernel
theorem dX3_fitsJoin_71 : decode cX3_fitsJoin 71 = .ok (.invokevirtual 91, 3) := by decide +kernel
theorem dX3_fitsJoin_74 : decode cX3_fitsJoin 74 = .ok (.ireturn, 1) := by decide +kernel
theorem dX3_isWithin_0 : decode cX3_isWithin 0 = .ok (.aload_n 0, 1) := by decide +kernel
theorem dX3_isWithin_1 : decode cX3_isWithin 1 = .ok (.getfield 62, 3) := by decide +kernel
theorem dX3_isWithin_4 : decode cX3_isWithin 4 = .ok (.iload_n 1, 1) := by decide +kernel
theorem dX3_isWithin_5 : decode cX3_isWithin 5 = .ok (.if_icmp .lt 15, 3) := by decide +kernel
theorem dX3_isWithin_8 : decode cX3_isWithin 8 = .ok (.aload_n 0, 1) := by decide +kernel
theorem dX3_isWithin_9 : decode cX3_isWithin 9 = .ok (.getfield 62, 3) := by decide +kernel
theorem dX3_isWithin_12 : decode cX3_isWithin 12 = .ok (.iload_n 2, 1) := by decide +kernel
theorem dX3_isWithin_13 : decode cX3_isWithin 13 = .ok (.if_icmp .gt 7, 3) := by decide +kernel
theorem dX3_isWithin_16 : decode cX3_isWithin 16 = .ok (.iconst 1, 1) := by decide +kernel
theorem dX3_isWithin_17 : decode cX3_isWithin 17 = .ok (.goto 4, 3) := by decide +kernel
theorem dX3_isWithin_20 : decode cX3_isWithin 20 = .ok (.iconst 0, 1) := by decide +kernel
theorem dX3_isWithin_21 : decode cX3_isWithin 21 = .ok (.ireturn, 1) := by decide +kernel
theorem dX3_addItem_0 : decode cX3_addItem 0 = .ok (.iload_n 1, 1) := by decide +kernel
theorem dX3_addItem_1 : decode cX3_addItem 1 = .ok (.tableswitch 100 104 111 #[47, 100, 58, 100, 100, 69, 100, 82], 47) := by decide +kernel
theorem dX3_addItem_48 : decode cX3_addItem 48 = .ok (.aload_n 2, 1) := by decide +kernel
theorem dX3_addItem_49 : decode cX3_addItem 49 = .ok (.aload_n 0, 1) := by decide +kernel
theorem dX3_addItem_50 : decode cX3_addItem 50 = .ok (.getfield 11, 3) := by decide +kernel
theorem dX3_addItem_53 : decode cX3_addItem 53 = .ok (.invokevirtual 102, 3) := by decide +kernel
theorem dX3_addItem_56 : decode cX3_addItem 56 = .ok (.goto 60, 3) := by decide +kernel
theorem dX3_addItem_59 : decode cX3_addItem 59 = .ok (.aload_n 2, 1) := by decide +kernel
theorem dX3_addItem_60 : decode cX3_addItem 60 = .ok (.aload_n 0, 1) := by decide +kernel
theorem dX3_addItem_61 : decode cX3_addItem 61 = .ok (.getfield 11, 3) := by decide +kernel
theorem dX3_addItem_64 : decode cX3_addItem 64 = .ok (.invokevirtual 106, 3) := by decide +kernel
theorem dX3_addItem_67 : decode cX3_addItem 67 = .ok (.goto 49, 3) := by decide +kernel
theorem dX3_addItem_70 : decode cX3_addItem 70 = .ok (.aload_n 2, 1) := by decide +kernel
theorem dX3_addItem_71 : decode cX3_addItem 71 = .ok (.aload_n 0, 1) := by decide +kernel
theorem dX3_addItem_72 : decode cX3_addItem 72 = .ok (.getfield 11, 3) := by decide +kernel
theorem dX3_addItem_75 : decode cX3_addItem 75 = .ok (.iconst 0, 1) := by decide +kernel
theorem dX3_addItem_76 : decode cX3_addItem 76 = .ok (.iaload, 1) := by decide +kernel
theorem dX3_addItem_77 : decode cX3_addItem 77 = .ok (.invokevirtual 109, 3) := by decide +kernel
theorem dX3_addItem_80 : decode cX3_addItem 80 = .ok (.goto 36, 3) := by decide +kernel
theorem dX3_addItem_83 : decode cX3_addItem 83 = .ok (.aload_n 2, 1) := by decide +kernel
theorem dX3_addItem_84 : decode cX3_addItem 84 = .ok (.aload_n 0, 1) := by decide +kernel
theorem dX3_addItem_85 : decode cX3_addItem 85 = .ok (.getfield 11, 3) := by decide +kernel
theorem dX3_addItem_88 : decode cX3_addItem 88 = .ok (.iconst 0, 1) := by decide +kernel
theorem dX3_addItem_89 : decode cX3_addItem 89 = .ok (.iaload, 1) := by decide +kernel
theorem dX3_addItem_90 : decode cX3_addItem 90 = .ok (.putfield 113, 3) := by decide +kernel
theorem dX3_addItem_93 : decode cX3_addItem 93 = .ok (.aload_n 2, 1) := by decide +kernel
theorem dX3_addItem_94 : decode cX3_addItem 94 = .ok (.iconst 1, 1) := by decide +kernel
theorem dX3_addItem_95 : decode cX3_addItem 95 = .ok (.putfield 78, 3) := by decide +kernel
theorem dX3_addItem_98 : decode cX3_addItem 98 = .ok (.goto 18, 3) := by decide +kernel
theorem dX3_addItem_101 : decode cX3_addItem 101 = .ok (.aload_n 2, 1) := by decide +kernel
theorem dX3_addItem_102 : decode cX3_addItem 102 = .ok (.aload_n 0, 1) := by decide +kernel
theorem dX3_addItem_103 : decode cX3_addItem 103 = .ok (.getfield 11, 3) := by decide +kernel
theorem dX3_addItem_106 : decode cX3_addItem 106 = .ok (.iconst 0, 1) := by decide +kernel
theorem dX3_addItem_107 : decode cX3_addItem 107 = .ok (.iaload, 1) := by decide +kernel
theorem dX3_addItem_108 : decode cX3_addItem 108 = .ok (.putfield 116, 3) := by decide +kernel
theorem dX3_addItem_111 : decode cX3_addItem 111 = .ok (.aload_n 2, 1) := by decide +kernel
theorem dX3_addItem_112 : decode cX3_addItem 112 = .ok (.iconst 1, 1) := by decide +kernel
theorem dX3_addItem_113 : decode cX3_addItem 113 = .ok (.putfield 82, 3) := by decide +kernel
theorem dX3_addItem_116 : decode cX3_addItem 116 = .ok (.return_, 1) := by decide +kernel
theorem dX3_take_0 : decode cX3_take 0 = .ok (.aload_n 0, 1) := by decide +kernel
theorem dX3_take_1 : decode cX3_take 1 = .ok (.getfield 29, 3) := by decide +kernel
theorem dX3_take_4 : decode cX3_take 4 = .ok (.aload_n 0, 1) := by decide +kernel
theorem dX3_take_5 : decode cX3_take 5 = .ok (.getfield 25, 3) := by decide +kernel
theorem dX3_take_8 : decode cX3_take 8 = .ok (.if_icmp .ge 30, 3) := by decide +kernel
theorem dX3_take_11 : decode cX3_take 11 = .ok (.aload_n 0, 1) := by decide +kernel
theorem dX3_take_12 : decode cX3_take 12 = .ok (.getfield 15, 3) := by decide +kernel
theorem dX3_take_15 : decode cX3_take 15 = .ok (.aload_n 0, 1) := by decide +kernel
theorem dX3_take_16 : decode cX3_take 16 = .ok (.getfield 29, 3) := by decide +kernel
theorem dX3_take_19 : decode cX3_take 19 = .ok (.caload, 1) := by decide +kernel
theorem dX3_take_20 : decode cX3_take 20 = .ok (.bipush 32, 2) := by decide +kernel
theorem dX3_take_22 : decode cX3_take 22 = .ok (.if_icmp .ne 16, 3) := by decide +kernel
theorem dX3_take_25 : decode cX3_take 25 = .ok (.aload_n 0, 1) := by decide +kernel
theorem dX3_take_26 : decode cX3_take 26 = .ok (.dup, 1) := by decide +kernel
theorem dX3_take_27 : decode cX3_take 27 = .ok (.getfield 29, 3) := by decide +kernel
theorem dX3_take_30 : decode cX3_take 30 = .ok (.iconst 1, 1) := by decide +kernel
theorem dX3_take_31 : decode cX3_take 31 = .ok (.iadd, 1) := by decide +kernel
theorem dX3_take_32 : decode cX3_take 32 = .ok (.putfield 29, 3) := by decide +kernel
theorem dX3_take_35 : decode cX3_take 35 = .ok (.goto (-35), 3) := by decide +kernel
theorem dX3_take_38 : decode cX3_take 38 = .ok (.aload_n 0, 1) := by decide +kernel
theorem dX3_take_39 : decode cX3_take 39 = .ok (.aload_n 0, 1) := by decide +kernel
theorem dX3_take_40 : decode cX3_take 40 = .ok (.getfield 29, 3) := by decide +kernel
theorem dX3_take_43 : decode cX3_take 43 = .ok (.putfield 47, 3) := by decide +kernel
theorem dX3_take_46 : decode cX3_take 46 = .ok (.aload_n 0, 1) := by decide +kernel
theorem dX3_take_47 : decode cX3_take 47 = .ok (.getfield 29, 3) := by decide +kernel
theorem dX3_take_50 : decode cX3_take 50 = .ok (.aload_n 0, 1) := by decide +kernel
theorem dX3_take_51 : decode cX3_take 51 = .ok (.getfield 25, 3) := by decide +kernel
theorem dX3_take_54 : decode cX3_take 54 = .ok (.if_icmp .lt 11, 3) := by decide +kernel
theorem dX3_take_57 : decode cX3_take 57 = .ok (.aload_n 0, 1) := by decide +kernel
theorem dX3_take_58 : decode cX3_take 58 = .ok (.iconst 0, 1) := by decide +kernel
theorem dX3_take_59 : decode cX3_take 59 = .ok (.putfield 40, 3) := by decide +kernel
theorem dX3_take_62 : decode cX3_take 62 = .ok (.goto 67, 3) := by decide +kernel
theorem dX3_take_65 : decode cX3_take 65 = .ok (.aload_n 0, 1) := by decide +kernel
theorem dX3_take_66 : decode cX3_take 66 = .ok (.getfield 15, 3) := by decide +kernel
theorem dX3_take_69 : decode cX3_take 69 = .ok (.aload_n 0, 1) := by decide +kernel
theorem dX3_take_70 : decode cX3_take 70 = .ok (.getfield 29, 3) := by decide +kernel
theorem dX3_take_73 : decode cX3_take 73 = .ok (.caload, 1) := by decide +kernel
theorem dX3_take_74 : decode cX3_take 74 = .ok (.invokestatic 119, 3) := by decide +kernel
theorem dX3_take_77 : decode cX3_take 77 = .ok (.ifCond .eq 10, 3) := by decide +kernel
theorem dX3_take_80 : decode cX3_take 80 = .ok (.aload_n 0, 1) := by decide +kernel
theorem dX3_take_81 : decode cX3_take 81 = .ok (.invokevirtual 123, 3) := by decide +kernel
theorem dX3_take_84 : decode cX3_take 84 = .ok (.goto 45, 3) := by decide +kernel
theorem dX3_take_87 : decode cX3_take 87 = .ok (.aload_n 0, 1) := by decide +kernel
theorem dX3_take_88 : decode cX3_take 88 = .ok (.aload_n 0, 1) := by decide +kernel
theorem dX3_take_89 : decode cX3_take 89 = .ok (.getfield 15, 3) := by decide +kernel
theorem dX3_take_92 : decode cX3_take 92 = .ok (.aload_n 0, 1) := by decide +kernel
theorem dX3_take_93 : decode cX3_take 93 = .ok (.getfield 29, 3) := by decide +kernel
theorem dX3_take_96 : decode cX3_take 96 = .ok (.caload, 1) := by decide +kernel
theorem dX3_take_97 : decode cX3_take 97 = .ok (.invokestatic 126, 3) := by decide +kernel
theorem dX3_take_100 : decode cX3_take 100 = .ok (.ifCond .eq 15, 3) := by decide +kernel
theorem dX3_take_103 : decode cX3_take 103 = .ok (.aload_n 0, 1) := by decide +kernel
theorem dX3_take_104 : decode cX3_take 104 = .ok (.getfield 15, 3) := by decide +kernel
theorem dX3_take_107 : decode cX3_take 107 = .ok (.aload_n 0, 1) := by decide +kernel
theorem dX3_take_108 : decode cX3_take 108 = .ok (.getfield 29, 3) := by decide +kernel
theorem dX3_take_111 : decode cX3_take 111 = .ok (.caload, 1) := by decide +kernel
theorem dX3_take_112 : decode cX3_take 112 = .ok (.goto 4, 3) := by decide +kernel
theorem dX3_take_115 : decode cX3_take 115 = .ok (.iconst 1, 1) := by decide +kernel
theorem dX3_take_116 : decode cX3_take 116 = .ok (.putfield 40, 3) := by decide +kernel
theorem dX3_take_119 : decode cX3_take 119 = .ok (.aload_n 0, 1) := by decide +kernel
theorem dX3_take_120 : decode cX3_take 120 = .ok (.dup, 1) := by decide +kernel
theorem dX3_take_121 : decode cX3_take 121 = .ok (.getfield 29, 3) := by decide +kernel
theorem dX3_take_124 : decode cX3_take 124 = .ok (.iconst 1, 1) := by decide +kernel
theorem dX3_take_125 : decode cX3_take 125 = .ok (.iadd, 1) := by decide +kernel
theorem dX3_take_126 : decode cX3_take 126 = .ok (.putfield 29, 3) := by decide +kernel
theorem dX3_take_129 : decode cX3_take 129 = .ok (.return_, 1) := by decide +kernel
theorem dX3_takeNumber_0 : decode cX3_takeNumber 0 = .ok (.aload_n 0, 1) := by decide +kernel
theorem dX3_takeNumber_1 : decode cX3_takeNumber 1 = .ok (.getfield 29, 3) := by decide +kernel
theorem dX3_takeNumber_4 : decode cX3_takeNumber 4 = .ok (.aload_n 0, 1) := by decide +kernel
theorem dX3_takeNumber_5 : decode cX3_takeNumber 5 = .ok (.getfield 25, 3) := by decide +kernel
theorem dX3_takeNumber_8 : decode cX3_takeNumber 8 = .ok (.if_icmp .ge 21, 3) := by decide +kernel
theorem dX3_takeNumber_11 : decode cX3_takeNumber 11 = .ok (.aload_n 0, 1) := by decide +kernel
theorem dX3_takeNumber_12 : decode cX3_takeNumber 12 = .ok (.getfield 15, 3) := by decide +kernel
theorem dX3_takeNumber_15 : decode cX3_takeNumber 15 = .ok (.aload_n 0, 1) := by decide +kernel
theorem dX3_takeNumber_16 : decode cX3_takeNumber 16 = .ok (.getfield 29, 3) := by decide +kernel
theorem dX3_takeNumber_19 : decode cX3_takeNumber 19 = .ok (.caload, 1) := by decide +kernel
theorem dX3_takeNumber_20 : decode cX3_takeNumber 20 = .ok (.bipush 48, 2) := by decide +kernel
theorem dX3_takeNumber_22 : decode cX3_takeNumber 22 = .ok (.if_icmp .ne 7, 3) := by decide +kernel
theorem dX3_takeNumber_25 : decode cX3_takeNumber 25 = .ok (.iconst 1, 1) := by decide +kernel
theorem dX3_takeNumber_26 : decode cX3_takeNumber 26 = .ok (.goto 4, 3) := by decide +kernel
theorem dX3_takeNumber_29 : decode cX3_takeNumber 29 = .ok (.iconst 0, 1) := by decide +kernel
theorem dX3_takeNumber_30 : decode cX3_takeNumber 30 = .ok (.istore_n 1, 1) := by decide +kernel
theorem dX3_takeNumber_31 : decode cX3_takeNumber 31 = .ok (.aload_n 0, 1) := by decide +kernel
theorem dX3_takeNumber_32 : decode cX3_takeNumber 32 = .ok (.iconst 0, 1) := by decide +kernel
theorem dX3_takeNumber_33 : decode cX3_takeNumber 33 = .ok (.putfield 62, 3) := by decide +kernel
theorem dX3_takeNumber_36 : decode cX3_takeNumber 36 = .ok (.aload_n 0, 1) := by decide +kernel
theorem dX3_takeNumber_37 : decode cX3_takeNumber 37 = .ok (.getfield 29, 3) := by decide +kernel
theorem dX3_takeNumber_40 : decode cX3_takeNumber 40 = .ok (.aload_n 0, 1) := by decide +kernel
theorem dX3_takeNumber_41 : decode cX3_takeNumber 41 = .ok (.getfield 25, 3) := by decide +kernel
theorem dX3_takeNumber_44 : decode cX3_takeNumber 44 = .ok (.if_icmp .ge 65, 3) := by decide +kernel
theorem dX3_takeNumber_47 : decode cX3_takeNumber 47 = .ok (.aload_n 0, 1) := by decide +kernel
theorem dX3_takeNumber_48 : decode cX3_takeNumber 48 = .ok (.getfield 15, 3) := by decide +kernel
theorem dX3_takeNumber_51 : decode cX3_takeNumber 51 = .ok (.aload_n 0, 1) := by decide +kernel
theorem dX3_takeNumber_52 : decode cX3_takeNumber 52 = .ok (.getfield 29, 3) := by decide +kernel
theorem dX3_takeNumber_55 : decode cX3_takeNumber 55 = .ok (.caload, 1) := by decide +kernel
theorem dX3_takeNumber_56 : decode cX3_takeNumber 56 = .ok (.invokestatic 119, 3) := by decide +kernel
theorem dX3_takeNumber_59 : decode cX3_takeNumber 59 = .ok (.ifCond .eq 50, 3) := by decide +kernel
theorem dX3_takeNumber_62 : decode cX3_takeNumber 62 = .ok (.aload_n 0, 1) := by decide +kernel
theorem dX3_takeNumber_63 : decode cX3_takeNumber 63 = .ok (.getfield 62, 3) := by decide +kernel
theorem dX3_takeNumber_66 : decode cX3_takeNumber 66 = .ok (.sipush 511, 3) := by decide +kernel
theorem dX3_takeNumber_69 : decode cX3_takeNumber 69 = .ok (.if_icmp .gt 27, 3) := by decide +kernel
theorem dX3_takeNumber_72 : decode cX3_takeNumber 72 = .ok (.aload_n 0, 1) := by decide +kernel
theorem dX3_takeNumber_73 : decode cX3_takeNumber 73 = .ok (.aload_n 0, 1) := by decide +kernel
theorem dX3_takeNumber_74 : decode cX3_takeNumber 74 = .ok (.getfield 62, 3) := by decide +kernel
theorem dX3_takeNumber_77 : decode cX3_takeNumber 77 = .ok (.bipush 10, 2) := by decide +kernel
theorem dX3_takeNumber_79 : decode cX3_takeNumber 79 = .ok (.imul, 1) := by decide +kernel
theorem dX3_takeNumber_80 : decode cX3_takeNumber 80 = .ok (.aload_n 0, 1) := by decide +kernel
theorem dX3_takeNumber_81 : decode cX3_takeNumber 81 = .ok (.getfield 15, 3) := by decide +kernel
theorem dX3_takeNumber_84 : decode cX3_takeNumber 84 = .ok (.aload_n 0, 1) := by decide +kernel
theorem dX3_takeNumber_85 : decode cX3_takeNumber 85 = .ok (.getfield 29, 3) := by decide +kernel
theorem dX3_takeNumber_88 : decode cX3_takeNumber 88 = .ok (.caload, 1) := by decide +kernel
theorem dX3_takeNumber_89 : decode cX3_takeNumber 89 = .ok (.bipush 48, 2) := by decide +kernel
theorem dX3_takeNumber_91 : decode cX3_takeNumber 91 = .ok (.isub, 1) := by decide +kernel
theorem dX3_takeNumber_92 : decode cX3_takeNumber 92 = .ok (.iadd, 1) := by decide +kernel
theorem dX3_takeNumber_93 : decode cX3_takeNumber 93 = .ok (.putfield 62, 3) := by decide +kernel
theorem dX3_takeNumber_96 : decode cX3_takeNumber 96 = .ok (.aload_n 0, 1) := by decide +kernel
theorem dX3_takeNumber_97 : decode cX3_takeNumber 97 = .ok (.dup, 1) := by decide +kernel
theorem dX3_takeNumber_98 : decode cX3_takeNumber 98 = .ok (.getfield 29, 3) := by decide +kernel
theorem dX3_takeNumber_101 : decode cX3_takeNumber 101 = .ok (.iconst 1, 1) := by decide +kernel
theorem dX3_takeNumber_102 : decode cX3_takeNumber 102 = .ok (.iadd, 1) := by decide +kernel
theorem dX3_takeNumber_103 : decode cX3_takeNumber 103 = .ok (.putfield 29, 3) := by decide +kernel
theorem dX3_takeNumber_106 : decode cX3_takeNumber 106 = .ok (.goto (-70), 3) := by decide +kernel
theorem dX3_takeNumber_109 : decode cX3_takeNumber 109 = .ok (.aload_n 0, 1) := by decide +kernel
theorem dX3_takeNumber_110 : decode cX3_takeNumber 110 = .ok (.getfield 62, 3) := by decide +kernel
theorem dX3_takeNumber_113 : decode cX3_takeNumber 113 = .ok (.sipush 511, 3) := by decide +kernel
theorem dX3_takeNumber_116 : decode cX3_takeNumber 116 = .ok (.if_icmp .gt 20, 3) := by decide +kernel
theorem dX3_takeNumber_119 : decode cX3_takeNumber 119 = .ok (.iload_n 1, 1) := by decide +kernel
theorem dX3_takeNumber_120 : decode cX3_takeNumber 120 = .ok (.ifCond .eq 20, 3) := by decide +kernel
theorem dX3_takeNumber_123 : decode cX3_takeNumber 123 = .ok (.aload_n 0, 1) := by decide +kernel
theorem dX3_takeNumber_124 : decode cX3_takeNumber 124 = .ok (.getfield 29, 3) := by decide +kernel
theorem dX3_takeNumber_127 : decode cX3_takeNumber 127 = .ok (.aload_n 0, 1) := by decide +kernel
theorem dX3_takeNumber_128 : decode cX3_takeNumber 128 = .ok (.getfield 47, 3) := by decide +kernel
theorem dX3_takeNumber_131 : decode cX3_takeNumber 131 = .ok (.isub, 1) := by decide +kernel
theorem dX3_takeNumber_132 : decode cX3_takeNumber 132 = .ok (.iconst 1, 1) := by decide +kernel
theorem dX3_takeNumber_133 : decode cX3_takeNumber 133 = .ok (.if_icmp .le 7, 3) := by decide +kernel
theorem dX3_takeNumber_136 : decode cX3_takeNumber 136 = .ok (.iconst 1, 1) := by decide +kernel
theorem dX3_takeNumber_137 : decode cX3_takeNumber 137 = .ok (.goto 4, 3) := by decide +kernel
theorem dX3_takeNumber_140 : decode cX3_takeNumber 140 = .ok (.iconst 0, 1) := by decide +kernel
theorem dX3_takeNumber_141 : decode cX3_takeNumber 141 = .ok (.istore_n 2, 1) := by decide +kernel
theorem dX3_takeNumber_142 : decode cX3_takeNumber 142 = .ok (.aload_n 0, 1) := by decide +kernel
theorem dX3_takeNumber_143 : decode cX3_takeNumber 143 = .ok (.iload_n 2, 1) := by decide +kernel
theorem dX3_takeNumber_144 : decode cX3_takeNumber 144 = .ok (.ifCond .eq 7, 3) := by decide +kernel
theorem dX3_takeNumber_147 : decode cX3_takeNumber 147 = .ok (.iconst 1, 1) := by decide +kernel
theorem dX3_takeNumber_148 : decode cX3_takeNumber 148 = .ok (.goto 4, 3) := by decide +kernel
theorem dX3_takeNumber_151 : decode cX3_takeNumber 151 = .ok (.iconst 2, 1) := by decide +kernel
theorem dX3_takeNumber_152 : decode cX3_takeNumber 152 = .ok (.putfield 40, 3) := by decide +kernel
theorem dX3_takeNumber_155 : decode cX3_takeNumber 155 = .ok (.return_, 1) := by decide +kernel
theorem dX3_isDigit_0 : decode cX3_isDigit 0 = .ok (.iload_n 0, 1) := by decide +kernel
theorem dX3_isDigit_1 : decode cX3_isDigit 1 = .ok (.bipush 48, 2) := by decide +kernel
theorem dX3_isDigit_3 : decode cX3_isDigit 3 = .ok (.if_icmp .lt 13, 3) := by decide +kernel
theorem dX3_isDigit_6 : decode cX3_isDigit 6 = .ok (.iload_n 0, 1) := by decide +kernel
theorem dX3_isDigit_7 : decode cX3_isDigit 7 = .ok (.bipush 57, 2) := by decide +kernel
theorem dX3_isDigit_9 : decode cX3_isDigit 9 = .ok (.if_icmp .gt 7, 3) := by decide +kernel
theorem dX3_isDigit_12 : decode cX3_isDigit 12 = .ok (.iconst 1, 1) := by decide +kernel
theorem dX3_isDigit_13 : decode cX3_isDigit 13 = .ok (.goto 4, 3) := by decide +kernel
theorem dX3_isDigit_16 : decode cX3_isDigit 16 = .ok (.iconst 0, 1) := by decide +kernel
theorem dX3_isDigit_17 : decode cX3_isDigit 17 = .ok (.ireturn, 1) := by decide +kernel
theorem dX3_isSign_0 : decode cX3_isSign 0 = .ok (.iload_n 0, 1) := by decide +kernel
theorem dX3_isSign_1 : decode cX3_isSign 1 = .ok (.bipush 104, 2) := by decide +kernel
theorem dX3_isSign_3 : decode cX3_isSign 3 = .ok (.if_icmp .eq 33, 3) := by decide +kernel
theorem dX3_isSign_6 : decode cX3_isSign 6 = .ok (.iload_n 0, 1) := by decide +kernel
theorem dX3_isSign_7 : decode cX3_isSign 7 = .ok (.bipush 106, 2) := by decide +kernel
theorem dX3_isSign_9 : decode cX3_isSign 9 = .ok (.if_icmp .eq 27, 3) := by decide +kernel
theorem dX3_isSign_12 : decode cX3_isSign 12 = .ok (.iload_n 0, 1) := by decide +kernel
theorem dX3_isSign_13 : decode cX3_isSign 13 = .ok (.bipush 109, 2) := by decide +kernel
theorem dX3_isSign_15 : decode cX3_isSign 15 = .ok (.if_icmp .eq 21, 3) := by decide +kernel
theorem dX3_isSign_18 : decode cX3_isSign 18 = .ok (.iload_n 0, 1) := by decide +kernel
theorem dX3_isSign_19 : decode cX3_isSign 19 = .ok (.bipush 111, 2) := by decide +kernel
theorem dX3_isSign_21 : decode cX3_isSign 21 = .ok (.if_icmp .eq 15, 3) := by decide +kernel
theorem dX3_isSign_24 : decode cX3_isSign 24 = .ok (.iload_n 0, 1) := by decide +kernel
theorem dX3_isSign_25 : decode cX3_isSign 25 = .ok (.bipush 114, 2) := by decide +kernel
theorem dX3_isSign_27 : decode cX3_isSign 27 = .ok (.if_icmp .eq 9, 3) := by decide +kernel
theorem dX3_isSign_30 : decode cX3_isSign 30 = .ok (.iload_n 0, 1) := by decide +kernel
theorem dX3_isSign_31 : decode cX3_isSign 31 = .ok (.bipush 59, 2) := by decide +kernel
theorem dX3_isSign_33 : decode cX3_isSign 33 = .ok (.if_icmp .ne 7, 3) := by decide +kernel
theorem dX3_isSign_36 : decode cX3_isSign 36 = .ok (.iconst 1, 1) := by decide +kernel
theorem dX3_isSign_37 : decode cX3_isSign 37 = .ok (.goto 4, 3) := by decide +kernel
theorem dX3_isSign_40 : decode cX3_isSign 40 = .ok (.iconst 0, 1) := by decide +kernel
theorem dX3_isSign_41 : decode cX3_isSign 41 = .ok (.ireturn, 1) := by decide +kernel
theorem dJ6_bitCount_0f7a4_0 : decode cJ6_bitCount_0f7a4 0 = .ok (.iload_n 0, 1) := by decide +kernel
theorem dJ6_bitCount_0f7a4_1 : decode cJ6_bitCount_0f7a4 1 = .ok (.iload_n 0, 1) := by decide +kernel
theorem dJ6_bitCount_0f7a4_2 : decode cJ6_bitCount_0f7a4 2 = .ok (.iconst 1, 1) := by decide +kernel
theorem dJ6_bitCount_0f7a4_3 : decode cJ6_bitCount_0f7a4 3 = .ok (.iushr, 1) := by decide +kernel
theorem dJ6_bitCount_0f7a4_4 : decode cJ6_bitCount_0f7a4 4 = .ok (.ldc_w 265, 3) := by decide +kernel
theorem dJ6_bitCount_0f7a4_7 : decode cJ6_bitCount_0f7a4 7 = .ok (.iand, 1) := by decide +kernel
theorem dJ6_bitCount_0f7a4_8 : decode cJ6_bitCount_0f7a4 8 = .ok (.isub, 1) := by decide +kernel
theorem dJ6_bitCount_0f7a4_9 : decode cJ6_bitCount_0f7a4 9 = .ok (.istore_n 0, 1) := by decide +kernel
theorem dJ6_bitCount_0f7a4_10 : decode cJ6_bitCount_0f7a4 10 = .ok (.iload_n 0, 1) := by decide +kernel
theorem dJ6_bitCount_0f7a4_11 : decode cJ6_bitCount_0f7a4 11 = .ok (.ldc_w 266, 3) := by decide +kernel
theorem dJ6_bitCount_0f7a4_14 : decode cJ6_bitCount_0f7a4 14 = .ok (.iand, 1) := by decide +kernel
theorem dJ6_bitCount_0f7a4_15 : decode cJ6_bitCount_0f7a4 15 = .ok (.iload_n 0, 1) := by decide +kernel
theorem dJ6_bitCount_0f7a4_16 : decode cJ6_bitCount_0f7a4 16 = .ok (.iconst 2, 1) := by decide +kernel
theorem dJ6_bitCount_0f7a4_17 : decode cJ6_bitCount_0f7a4 17 = .ok (.iushr, 1) := by decide +kernel
theorem dJ6_bitCount_0f7a4_18 : decode cJ6_bitCount_0f7a4 18 = .ok (.ldc_w 266, 3) := by decide +kernel
theorem dJ6_bitCount_0f7a4_21 : decode cJ6_bitCount_0f7a4 21 = .ok (.iand, 1) := by decide +kernel
theorem dJ6_bitCount_0f7a4_22 : decode cJ6_bitCount_0f7a4 22 = .ok (.iadd, 1) := by decide +kernel
theorem dJ6_bitCount_0f7a4_23 : decode cJ6_bitCount_0f7a4 23 = .ok (.istore_n 0, 1) := by decide +kernel
theorem dJ6_bitCount_0f7a4_24 : decode cJ6_bitCount_0f7a4 24 = .ok (.iload_n 0, 1) := by decide +kernel
theorem dJ6_bitCount_0f7a4_25 : decode cJ6_bitCount_0f7a4 25 = .ok (.iload_n 0, 1) := by decide +kernel
theorem dJ6_bitCount_0f7a4_26 : decode cJ6_bitCount_0f7a4 26 = .ok (.iconst 4, 1) := by decide +kernel
theorem dJ6_bitCount_0f7a4_27 : decode cJ6_bitCount_0f7a4 27 = .ok (.iushr, 1) := by decide +kernel
theorem dJ6_bitCount_0f7a4_28 : decode cJ6_bitCount_0f7a4 28 = .ok (.iadd, 1) := by decide +kernel
theorem dJ6_bitCount_0f7a4_29 : decode cJ6_bitCount_0f7a4 29 = .ok (.ldc_w 267, 3) := by decide +kernel
theorem dJ6_bitCount_0f7a4_32 : decode cJ6_bitCount_0f7a4 32 = .ok (.iand, 1) := by decide +kernel
theorem dJ6_bitCount_0f7a4_33 : decode cJ6_bitCount_0f7a4 33 = .ok (.istore_n 0, 1) := by decide +kernel
theorem dJ6_bitCount_0f7a4_34 : decode cJ6_bitCount_0f7a4 34 = .ok (.iload_n 0, 1) := by decide +kernel
theorem dJ6_bitCount_0f7a4_35 : decode cJ6_bitCount_0f7a4 35 = .ok (.iload_n 0, 1) := by decide +kernel
theorem dJ6_bitCount_0f7a4_36 : decode cJ6_bitCount_0f7a4 36 = .ok (.bipush 8, 2) := by decide +kernel
theorem dJ6_bitCount_0f7a4_38 : decode cJ6_bitCount_0f7a4 38 = .ok (.iushr, 1) := by decide +kernel
theorem dJ6_bitCount_0f7a4_39 : decode cJ6_bitCount_0f7a4 39 = .ok (.iadd, 1) := by decide +kernel
theorem dJ6_bitCount_0f7a4_40 : decode cJ6_bitCount_0f7a4 40 = .ok (.istore_n 0, 1) := by decide +kernel
theorem dJ6_bitCount_0f7a4_41 : decode cJ6_bitCount_0f7a4 41 = .ok (.iload_n 0, 1) := by decide +kernel
theorem dJ6_bitCount_0f7a4_42 : decode cJ6_bitCount_0f7a4 42 = .ok (.iload_n 0, 1) := by decide +kernel
theorem dJ6_bitCount_0f7a4_43 : decode cJ6_bitCount_0f7a4 43 = .ok (.bipush 16, 2) := by decide +kernel
theorem dJ6_bitCount_0f7a4_45 : decode cJ6_bitCount_0f7a4 45 = .ok (.iushr, 1) := by decide +kernel
theorem dJ6_bitCount_0f7a4_46 : decode cJ6_bitCount_0f7a4 46 = .ok (.iadd, 1) := by decide +kernel
theorem dJ6_bitCount_0f7a4_47 : decode cJ6_bitCount_0f7a4 47 = .ok (.istore_n 0, 1) := by decide +kernel
theorem dJ6_bitCount_0f7a4_48 : decode cJ6_bitCount_0f7a4 48 = .ok (.iload_n 0, 1) := by decide +kernel
theorem dJ6_bitCount_0f7a4_49 : decode cJ6_bitCount_0f7a4 49 = .ok (.bipush 63, 2) := by decide +kernel
theorem dJ6_bitCount_0f7a4_51 : decode cJ6_bitCount_0f7a4 51 = .ok (.iand, 1) := by decide +kernel
theorem dJ6_bitCount_0f7a4_52 : decode cJ6_bitCount_0f7a4 52 = .ok (.ireturn, 1) := by decide +kernel
theorem dJ9_max_7cf53_0 : decode cJ9_max_7cf53 0 = .ok (.iload_n 0, 1) := by decide +kernel
theorem dJ9_max_7cf53_1 : decode cJ9_max_7cf53 1 = .ok (.iload_n 1, 1) := by decide +kernel
theorem dJ9_max_7cf53_2 : decode cJ9_max_7cf53 2 = .ok (.if_icmp .lt 7, 3) := by decide +kernel
theorem dJ9_max_7cf53_5 : decode cJ9_max_7cf53 5 = .ok (.iload_n 0, 1) := by decide +kernel
theorem dJ9_max_7cf53_6 : decode cJ9_max_7cf53 6 = .ok (.goto 4, 3) := by decide +kernel
theorem dJ9_max_7cf53_9 : decode cJ9_max_7cf53 9 = .ok (.iload_n 1, 1) := by decide +kernel
theorem dJ9_max_7cf53_10 : decode cJ9_max_7cf53 10 = .ok (.ireturn, 1) := by decide +kernel
theorem dJ9_min_7cf53_0 : decode cJ9_min_7cf53 0 = .ok (.iload_n 0, 1) := by decide +kernel
theorem dJ9_min_7cf53_1 : decode cJ9_min_7cf53 1 = .ok (.iload_n 1, 1) := by decide +kernel
theorem dJ9_min_7cf53_2 : decode cJ9_min_7cf53 2 = .ok (.if_icmp .gt 7, 3) := by decide +kernel
theorem dJ9_min_7cf53_5 : decode cJ9_min_7cf53 5 = .ok (.iload_n 0, 1) := by decide +kernel
theorem dJ9_min_7cf53_6 : decode cJ9_min_7cf53 6 = .ok (.goto 4, 3) := by decide +kernel
theorem dJ9_min_7cf53_9 : decode cJ9_min_7cf53 9 = .ok (.iload_n 1, 1) := by decide +kernel
theorem dJ9_min_7cf53_10 : decode cJ9_min_7cf53 10 = .ok (.ireturn, 1) := by decide +kernel
end
section
theorem dX4_init_0 : decode cX4_init 0 = .ok (.aload_n 0, 1) := by decide +kernel
theorem dX4_init_1 : decode cX4_init 1 = .ok (.invokespecial 1, 3) := by decide +kernel
theorem dX4_init_4 : decode cX4_init 4 = .ok (.aload_n 0, 1) := by decide +kernel
theorem dX4_init_5 : decode cX4_init 5 = .ok (.sipush 200, 3) := by decide +kernel
theorem dX4_init_8 : decode cX4_init 8 = .ok (.newarray .char, 2) := by decide +kernel
theorem dX4_init_10 : decode cX4_init 10 = .ok (.putfield 9, 3) := by decide +kernel
theorem dX4_init_13 : decode cX4_init 13 = .ok (.aload_n 0, 1) := by decide +kernel
theorem dX4_init_14 : decode cX4_init 14 = .ok (.new 13, 3) := by decide +kernel
theorem dX4_init_17 : decode cX4_init 17 = .ok (.dup, 1) := by decide +kernel
theorem dX4_init_18 : decode cX4_init 18 = .ok (.aload_n 0, 1) := by decide +kernel
theorem dX4_init_19 : decode cX4_init 19 = .ok (.getfield 9, 3) := by decide +kernel
theorem dX4_init_22 : decode cX4_init 22 = .ok (.invokespecial 15, 3) := by decide +kernel
theorem dX4_init_25 : decode cX4_init 25 = .ok (.putfield 18, 3) := by decide +kernel
theorem dX4_init_28 : decode cX4_init 28 = .ok (.aload_n 0, 1) := by decide +kernel
theorem dX4_init_29 : decode cX4_init 29 = .ok (.new 22, 3) := by decide +kernel
theorem dX4_init_32 : decode cX4_init 32 = .ok (.dup, 1) := by decide +kernel
theorem dX4_init_33 : decode cX4_init 33 = .ok (.invokespecial 24, 3) := by decide +kernel
theorem dX4_init_36 : decode cX4_init 36 = .ok (.putfield 25, 3) := by decide +kernel
theorem dX4_init_39 : decode cX4_init 39 = .ok (.aload_n 0, 1) := by decide +kernel
theorem dX4_init_40 : decode cX4_init 40 = .ok (.new 22, 3) := by decide +kernel
theorem dX4_init_43 : decode cX4_init 43 = .ok (.dup, 1) := by decide +kernel
theorem dX4_init_44 : decode cX4_init 44 = .ok (.invokespecial 24, 3) := by decide +kernel
theorem dX4_init_47 : decode cX4_init 47 = .ok (.putfield 29, 3) := by decide +kernel
theorem dX4_init_50 : decode cX4_init 50 = .ok (.aload_n 0, 1) := by decide +kernel
theorem dX4_init_51 : decode cX4_init 51 = .ok (.new 32, 3) := by decide +kernel
theorem dX4_init_54 : decode cX4_init 54 = .ok (.dup, 1) := by decide +kernel
theorem dX4_init_55 : decode cX4_init 55 = .ok (.invokespecial 34, 3) := by decide +kernel
theorem dX4_init_58 : decode cX4_init 58 = .ok (.putfield 35, 3) := by decide +kernel
theorem dX4_init_61 : decode cX4_init 61 = .ok (.aload_n 0, 1) := by decide +kernel
theorem dX4_init_62 : decode cX4_init 62 = .ok (.new 32, 3) := by decide +kernel
theorem dX4_init_65 : decode cX4_init 65 = .ok (.dup, 1) := by decide +kernel
theorem dX4_init_66 : decode cX4_init 66 = .ok (.invokespecial 34, 3) := by decide +kernel
theorem dX4_init_69 : decode cX4_init 69 = .ok (.putfield 39, 3) := by decide +kernel
theorem dX4_init_72 : decode cX4_init 72 = .ok (.aload_n 0, 1) := by decide +kernel
theorem dX4_init_73 : decode cX4_init 73 = .ok (.bipush 10, 2) := by decide +kernel
theorem dX4_init_75 : decode cX4_init 75 = .ok (.anewarray 32, 3) := by decide +kernel
theorem dX4_init_78 : decode cX4_init 78 = .ok (.putfield 42, 3) := by decide +kernel
theorem dX4_init_81 : decode cX4_init 81 = .ok (.aload_n 0, 1) := by decide +kernel
theorem dX4_init_82 : decode cX4_init 82 = .ok (.iconst 2, 1) := by decide +kernel
theorem dX4_init_83 : decode cX4_init 83 = .ok (.anewarray 32, 3) := by decide +kernel
theorem dX4_init_86 : decode cX4_init 86 = .ok (.putfield 46, 3) := by decide +kernel
theorem dX4_init_89 : decode cX4_init 89 = .ok (.aload_n 0, 1) := by decide +kernel
theorem dX4_init_90 : decode cX4_init 90 = .ok (.iconst 2, 1) := by decide +kernel
theorem dX4_init_91 : decode cX4_init 91 = .ok (.newarray .boolean, 2) := by decide +kernel
theorem dX4_init_93 : decode cX4_init 93 = .ok (.putfield 49, 3) := by decide +kernel
theorem dX4_init_96 : decode cX4_init 96 = .ok (.aload_n 0, 1) := by decide +kernel
theorem dX4_init_97 : decode cX4_init 97 = .ok (.bipush 6, 2) := by decide +kernel
theorem dX4_init_99 : decode cX4_init 99 = .ok (.newarray .int, 2) := by decide +kernel
theorem dX4_init_101 : decode cX4_init 101 = .ok (.putfield 53, 3) := by decide +kernel
theorem dX4_init_104 : decode cX4_init 104 = .ok (.aload_n 0, 1) := by decide +kernel
theorem dX4_init_105 : decode cX4_init 105 = .ok (.bipush 6, 2) := by decide +kernel
theorem dX4_init_107 : decode cX4_init 107 = .ok (.newarray .int, 2) := by decide +kernel
theorem dX4_init_109 : decode cX4_init 109 = .ok (.putfield 57, 3) := by decide +kernel
theorem dX4_init_112 : decode cX4_init 112 = .ok (.aload_n 0, 1) := by decide +kernel
theorem dX4_init_113 : decode cX4_init 113 = .ok (.new 60, 3) := by decide +kernel
theorem dX4_init_116 : decode cX4_init 116 = .ok (.dup, 1) := by decide +kernel
theorem dX4_init_117 : decode cX4_init 117 = .ok (.invokespecial 62, 3) := by decide +kernel
theorem dX4_init_120 : decode cX4_init 120 = .ok (.putfield 63, 3) := by decide +kernel
theorem dX4_init_123 : decode cX4_init 123 = .ok (.iconst 0, 1) := by decide +kernel
theorem dX4_init_124 : decode cX4_init 124 = .ok (.istore_n 1, 1) := by decide +kernel
theorem dX4_init_125 : decode cX4_init 125 = .ok (.iload_n 1, 1) := by decide +kernel
theorem dX4_init_126 : decode cX4_init 126 = .ok (.bipush 10, 2) := by decide +kernel
theorem dX4_init_128 : decode cX4_init 128 = .ok (.if_icmp .ge 22, 3) := by decide +kernel
theorem dX4_init_131 : decode cX4_init 131 = .ok (.aload_n 0, 1) := by decide +kernel
theorem dX4_init_132 : decode cX4_init 132 = .ok (.getfield 42, 3) := by decide +kernel
theorem dX4_init_135 : decode cX4_init 135 = .ok (.iload_n 1, 1) := by decide +kernel
theorem dX4_init_136 : decode cX4_init 136 = .ok (.new 32, 3) := by decide +kernel
theorem dX4_init_139 : decode cX4_init 139 = .ok (.dup, 1) := by decide +kernel
theorem dX4_init_140 : decode cX4_init 140 = .ok (.invokespecial 34, 3) := by decide +kernel
theorem dX4_init_143 : decode cX4_init 143 = .ok (.aastore, 1) := by decide +kernel
theorem dX4_init_144 : decode cX4_init 144 = .ok (.iinc 1 1, 3) := by decide +kernel
theorem dX4_init_147 : decode cX4_init 147 = .ok (.goto (-22), 3) := by decide +kernel
theorem dX4_init_150 : decode cX4_init 150 = .ok (.iconst 0, 1) := by decide +kernel
theorem dX4_init_151 : decode cX4_init 151 = .ok (.istore_n 1, 1) := by decide +kernel
theorem dX4_init_152 : decode cX4_init 152 = .ok (.iload_n 1, 1) := by decide +kernel
theorem dX4_init_153 : decode cX4_init 153 = .ok (.iconst 2, 1) := by decide +kernel
theorem dX4_init_154 : decode cX4_init 154 = .ok (.if_icmp .ge 22, 3) := by decide +kernel
theorem dX4_init_157 : decode cX4_init 157 = .ok (.aload_n 0, 1) := by decide +kernel
theorem dX4_init_158 : decode cX4_init 158 = .ok (.getfield 46, 3) := by decide +kernel
theorem dX4_init_161 : decode cX4_init 161 = .ok (.iload_n 1, 1) := by decide +kernel
theorem dX4_init_162 : decode cX4_init 162 = .ok (.new 32, 3) := by decide +kernel
theorem dX4_init_165 : decode cX4_init 165 = .ok (.dup, 1) := by decide +kernel
theorem dX4_init_166 : decode cX4_init 166 = .ok (.invokespecial 34, 3) := by decide +kernel
theorem dX4_init_169 : decode cX4_init 169 = .ok (.aastore, 1) := by decide +kernel
theorem dX4_init_170 : decode cX4_init 170 = .ok (.iinc 1 1, 3) := by decide +kernel
theorem dX4_init_173 : decode cX4_init 173 = .ok (.goto (-21), 3) := by decide +kernel
theorem dX4_init_176 : decode cX4_init 176 = .ok (.aload_n 0, 1) := by decide +kernel
theorem dX4_init_177 : decode cX4_init 177 = .ok (.getfield 35, 3) := by decide +kernel
theorem dX4_init_180 : decode cX4_init 180 = .ok (.aload_n 0, 1) := by decide +kernel
theorem dX4_init_181 : decode cX4_init 181 = .ok (.getfield 25, 3) := by decide +kernel
theorem dX4_init_184 : decode cX4_init 184 = .ok (.invokevirtual 67, 3) := by decide +kernel
theorem dX4_init_187 : decode cX4_init 187 = .ok (.return_, 1) := by decide +kernel
theorem dX4_type_0 : decode cX4_type 0 = .ok (.iload_n 1, 1) := by decide +kernel
theorem dX4_type_1 : decode cX4_type 1 = .ok (.ifCond .lt 10, 3) := by decide +kernel
theorem dX4_type_4 : decode cX4_type 4 = .ok (.iload_n 1, 1) := by decide +kernel
theorem dX4_type_5 : decode cX4_type 5 = .ok (.sipush 255, 3) := by decide +kernel
theorem dX4_type_8 : decode cX4_type 8 = .ok (.if_icmp .le 5, 3) := by decide +kernel
theorem dX4_type_11 : decode cX4_type 11 = .ok (.iconst (-1), 1) := by decide +kernel
theorem dX4_type_12 : decode cX4_type 12 = .ok (.ireturn, 1) := by decide +kernel
theorem dX4_type_13 : decode cX4_type 13 = .ok (.aload_n 0, 1) := by decide +kernel
theorem dX4_type_14 : decode cX4_type 14 = .ok (.getfield 71, 3) := by decide +kernel
theorem dX4_type_17 : decode cX4_type 17 = .ok (.sipush 200, 3) := by decide +kernel
theorem dX4_type_20 : decode cX4_type 20 = .ok (.if_icmp .lt 6, 3) := by decide +kernel
theorem dX4_type_23 : decode cX4_type 23 = .ok (.bipush (-3), 2) := by decide +kernel
theorem dX4_type_25 : decode cX4_type 25 = .ok (.ireturn, 1) := by decide +kernel
theorem dX4_type_26 : decode cX4_type 26 = .ok (.aload_n 0, 1) := by decide +kernel
theorem dX4_type_27 : decode cX4_type 27 = .ok (.getfield 9, 3) := by decide +kernel
theorem dX4_type_30 : decode cX4_type 30 = .ok (.aload_n 0, 1) := by decide +kernel
theorem dX4_type_31 : decode cX4_type 31 = .ok (.getfield 71, 3) := by decide +kernel
theorem dX4_type_34 : decode cX4_type 34 = .ok (.iload_n 1, 1) := by decide +kernel
theorem dX4_type_35 : decode cX4_type 35 = .ok (.i2c, 1) := by decide +kernel
theorem dX4_type_36 : decode cX4_type 36 = .ok (.castore, 1) := by decide +kernel
theorem dX4_type_37 : decode cX4_type 37 = .ok (.aload_n 0, 1) := by decide +kernel
theorem dX4_type_38 : decode cX4_type 38 = .ok (.dup, 1) := by decide +kernel
theorem dX4_type_39 : decode cX4_type 39 = .ok (.getfield 71, 3) := by decide +kernel
theorem dX4_type_42 : decode cX4_type 42 = .ok (.iconst 1, 1) := by decide +kernel
theorem dX4_type_43 : decode cX4_type 43 = .ok (.iadd, 1) := by decide +kernel
theorem dX4_type_44 : decode cX4_type 44 = .ok (.putfield 71, 3) := by decide +kernel
theorem dX4_type_47 : decode cX4_type 47 = .ok (.aload_n 0, 1) := by decide +kernel
theorem dX4_type_48 : decode cX4_type 48 = .ok (.getfield 71, 3) := by decide +kernel
theorem dX4_type_51 : decode cX4_type 51 = .ok (.ireturn, 1) := by decide +kernel
theorem dX4_clear_0 : decode cX4_clear 0 = .ok (.aload_n 0, 1) := by decide +kernel
theorem dX4_clear_1 : decode cX4_clear 1 = .ok (.getfield 71, 3) := by decide +kernel
theorem dX4_clear_4 : decode cX4_clear 4 = .ok (.istore_n 1, 1) := by decide +kernel
theorem dX4_clear_5 : decode cX4_clear 5 = .ok (.aload_n 0, 1) := by decide +kernel
theorem dX4_clear_6 : decode cX4_clear 6 = .ok (.iconst 0, 1) := by decide +kernel
theorem dX4_clear_7 : decode cX4_clear 7 = .ok (.putfield 71, 3) := by decide +kernel
theorem dX4_clear_10 : decode cX4_clear 10 = .ok (.iload_n 1, 1) := by decide +kernel
theorem dX4_clear_11 : decode cX4_clear 11 = .ok (.ireturn, 1) := by decide +kernel
theorem dX4_hills_0 : decode cX4_hills 0 = .ok (.aload_n 0, 1) := by decide +kernel
theorem dX4_hills_1 : decode cX4_hills 1 = .ok (.getfield 18, 3) := by decide +kernel
theorem dX4_hills_4 : decode cX4_hills 4 = .ok (.aload_n 0, 1) := by decide +kernel
theorem dX4_hills_5 : decode cX4_hills 5 = .ok (.getfield 71, 3) := by decide +kernel
theorem dX4_hills_8 : decode cX4_hills 8 = .ok (.aload_n 0, 1) := by decide +kernel
theorem dX4_hills_9 : decode cX4_hills 9 = .ok (.getfield 29, 3) := by decide +kernel
theorem dX4_hills_12 : decode cX4_hills 12 = .ok (.invokevirtual 75, 3) := by decide +kernel
theorem dX4_hills_15 : decode cX4_hills 15 = .ok (.istore_n 1, 1) := by decide +kernel
theorem dX4_hills_16 : decode cX4_hills 16 = .ok (.iload_n 1, 1) := by decide +kernel
theorem dX4_hills_17 : decode cX4_hills 17 = .ok (.ifCond .ge 5, 3) := by decide +kernel
theorem dX4_hills_20 : decode cX4_hills 20 = .ok (.iload_n 1, 1) := by decide +kernel
theorem dX4_hills_21 : decode cX4_hills 21 = .ok (.ireturn, 1) := by decide +kernel
theorem dX4_hills_22 : decode cX4_hills 22 = .ok (.aload_n 0, 1) := by decide +kernel
theorem dX4_hills_23 : decode cX4_hills 23 = .ok (.getfield 29, 3) := by decide +kernel
theorem dX4_hills_26 : decode cX4_hills 26 = .ok (.astore_n 2, 1) := by decide +kernel
theorem dX4_hills_27 : decode cX4_hills 27 = .ok (.aload_n 0, 1) := by decide +kernel
theorem dX4_hills_28 : decode cX4_hills 28 = .ok (.aload_n 0, 1) := by decide +kernel
theorem dX4_hills_29 : decode cX4_hills 29 = .ok (.getfield 25, 3) := by decide +kernel
theorem dX4_hills_32 : decode cX4_hills 32 = .ok (.putfield 29, 3) := by decide +kernel
theorem dX4_hills_35 : decode cX4_hills 35 = .ok (.aload_n 0, 1) := by decide +kernel
theorem dX4_hills_36 : decode cX4_hills 36 = .ok (.aload_n 2, 1) := by decide +kernel
theorem dX4_hills_37 : decode cX4_hills 37 = .ok (.putfield 25, 3) := by decide +kernel
theorem dX4_hills_40 : decode cX4_hills 40 = .ok (.aload_n 0, 1) := by decide +kernel
theorem dX4_hills_41 : decode cX4_hills 41 = .ok (.iconst 0, 1) := by decide +kernel
theorem dX4_hills_42 : decode cX4_hills 42 = .ok (.putfield 71, 3) := by decide +kernel
theorem dX4_hills_45 : decode cX4_hills 45 = .ok (.aload_n 0, 1) := by decide +kernel
theorem dX4_hills_46 : decode cX4_hills 46 = .ok (.getfield 35, 3) := by decide +kernel
theorem dX4_hills_49 : decode cX4_hills 49 = .ok (.aload_n 0, 1) := by decide +kernel
theorem dX4_hills_50 : decode cX4_hills 50 = .ok (.getfield 25, 3) := by decide +kernel
theorem dX4_hills_53 : decode cX4_hills 53 = .ok (.invokevirtual 67, 3) := by decide +kernel
theorem dX4_hills_56 : decode cX4_hills 56 = .ok (.aload_n 0, 1) := by decide +kernel
theorem dX4_hills_57 : decode cX4_hills 57 = .ok (.iconst 0, 1) := by decide +kernel
theorem dX4_hills_58 : decode cX4_hills 58 = .ok (.putfield 79, 3) := by decide +kernel
theorem dX4_hills_61 : decode cX4_hills 61 = .ok (.aload_n 0, 1) := by decide +kernel
theorem dX4_hills_62 : decode cX4_hills 62 = .ok (.iconst 0, 1) := by decide +kernel
theorem dX4_hills_63 : decode cX4_hills 63 = .ok (.putfield 82, 3) := by decide +kernel
theorem dX4_hills_66 : decode cX4_hills 66 = .ok (.iconst 0, 1) := by decide +kernel
theorem dX4_hills_67 : decode cX4_hills 67 = .ok (.istore_n 3, 1) := by decide +kernel
theorem dX4_hills_68 : decode cX4_hills 68 = .ok (.iload_n 3, 1) := by decide +kernel
theorem dX4_hills_69 : decode cX4_hills 69 = .ok (.iconst 2, 1) := by decide +kernel
theorem dX4_hills_70 : decode cX4_hills 70 = .ok (.if_icmp .ge 16, 3) := by decide +kernel
theorem dX4_hills_73 : decode cX4_hills 73 = .ok (.aload_n 0, 1) := by decide +kernel
theorem dX4_hills_74 : decode cX4_hills 74 = .ok (.getfield 49, 3) := by decide +kernel
theorem dX4_hills_77 : decode cX4_hills 77 = .ok (.iload_n 3, 1) := by decide +kernel
theorem dX4_hills_78 : decode cX4_hills 78 = .ok (.iconst 0, 1) := by decide +kernel
theorem dX4_hills_79 : decode cX4_hills 79 = .ok (.bastore, 1) := by decide +kernel
theorem dX4_hills_80 : decode cX4_hills 80 = .ok (.iinc 3 1, 3) := by decide +kernel
theorem dX4_hills_83 : decode cX4_hills 83 = .ok (.goto (-15), 3) := by decide +kernel
theorem dX4_hills_86 : decode cX4_hills 86 = .ok (.iload_n 1, 1) := by decide +kernel
theorem dX4_hills_87 : decode cX4_hills 87 = .ok (.ireturn, 1) := by decide +kernel
theorem dX4_hill_0 : decode cX4_hill 0 = .ok (.aload_n 0, 1) := by decide +kernel
theorem dX4_hill_1 : decode cX4_hill 1 = .ok (.getfield 25, 3) := by decide +kernel
theorem dX4_hill_4 : decode cX4_hill 4 = .ok (.iload_n 1, 1) := by decide +kernel
theorem dX4_hill_5 : decode cX4_hill 5 = .ok (.invokevirtual 85, 3) := by decide +kernel
theorem dX4_hill_8 : decode cX4_hill 8 = .ok (.ifCond .ne 5, 3) := by decide +kernel
theorem dX4_hill_11 : decode cX4_hill 11 = .ok (.iconst (-1), 1) := by decide +kernel
theorem dX4_hill_12 : decode cX4_hill 12 = .ok (.ireturn, 1) := by decide +kernel
theorem dX4_hill_13 : decode cX4_hill 13 = .ok (.iload_n 2, 1) := by decide +kernel
theorem dX4_hill_14 : decode cX4_hill 14 = .ok (.tableswitch 70 0 3 #[30, 40, 50, 60], 30) := by decide +kernel
theorem dX4_hill_44 : decode cX4_hill 44 = .ok (.aload_n 0, 1) := by decide +kernel
theorem dX4_hill_45 : decode cX4_hill 45 = .ok (.getfield 25, 3) := by decide +kernel
theorem dX4_hill_48 : decode cX4_hill 48 = .ok (.getfield 89, 3) := by decide +kernel
theorem dX4_hill_51 : decode cX4_hill 51 = .ok (.iload_n 1, 1) := by decide +kernel
theorem dX4_hill_52 : decode cX4_hill 52 = .ok (.iaload, 1) := by decide +kernel
theorem dX4_hill_53 : decode cX4_hill 53 = .ok (.ireturn, 1) := by decide +kernel
theorem dX4_hill_54 : decode cX4_hill 54 = .ok (.aload_n 0, 1) := by decide +kernel
theorem dX4_hill_55 : decode cX4_hill 55 = .ok (.getfield 25, 3) := by decide +kernel
theorem dX4_hill_58 : decode cX4_hill 58 = .ok (.getfield 92, 3) := by decide +kernel
theorem dX4_hill_61 : decode cX4_hill 61 = .ok (.iload_n 1, 1) := by decide +kernel
theorem dX4_hill_62 : decode cX4_hill 62 = .ok (.iaload, 1) := by decide +kernel
theorem dX4_hill_63 : decode cX4_hill 63 = .ok (.ireturn, 1) := by decide +kernel
theorem dX4_hill_64 : decode cX4_hill 64 = .ok (.aload_n 0, 1) := by decide +kernel
theorem dX4_hill_65 : decode cX4_hill 65 = .ok (.getfield 25, 3) := by decide +kernel
theorem dX4_hill_68 : decode cX4_hill 68 = .ok (.getfield 95, 3) := by decide +kernel
theorem dX4_hill_71 : decode cX4_hill 71 = .ok (.iload_n 1, 1) := by decide +kernel
theorem dX4_hill_72 : decode cX4_hill 72 = .ok (.iaload, 1) := by decide +kernel
theorem dX4_hill_73 : decode cX4_hill 73 = .ok (.ireturn, 1) := by decide +kernel
theorem dX4_hill_74 : decode cX4_hill 74 = .ok (.aload_n 0, 1) := by decide +kernel
theorem dX4_hill_75 : decode cX4_hill 75 = .ok (.getfield 25, 3) := by decide +kernel
theorem dX4_hill_78 : decode cX4_hill 78 = .ok (.getfield 98, 3) := by decide +kernel
theorem dX4_hill_81 : decode cX4_hill 81 = .ok (.iload_n 1, 1) := by decide +kernel
theorem dX4_hill_82 : decode cX4_hill 82 = .ok (.iaload, 1) := by decide +kernel
theorem dX4_hill_83 : decode cX4_hill 83 = .ok (.ireturn, 1) := by decide +kernel
theorem dX4_hill_84 : decode cX4_hill 84 = .ok (.iconst (-1), 1) := by decide +kernel
theorem dX4_hill_85 : decode cX4_hill 85 = .ok (.ireturn, 1) := by decide +kernel
theorem dX4_stone_0 : decode cX4_stone 0 = .ok (.aload_n 0, 1) := by decide +kernel
theorem dX4_stone_1 : decode cX4_stone 1 = .ok (.getfield 25, 3) := by decide +kernel
theorem dX4_stone_4 : decode cX4_stone 4 = .ok (.iload_n 1, 1) := by decide +kernel
theorem dX4_stone_5 : decode cX4_stone 5 = .ok (.invokevirtual 85, 3) := by decide +kernel
theorem dX4_stone_8 : decode cX4_stone 8 = .ok (.ifCond .ne 5, 3) := by decide +kernel
theorem dX4_stone_11 : decode cX4_stone 11 = .ok (.iconst (-1), 1) := by decide +kernel
theorem dX4_stone_12 : decode cX4_stone 12 = .ok (.ireturn, 1) := by decide +kernel
theorem dX4_stone_13 : decode cX4_stone 13 = .ok (.iload_n 2, 1) := by decide +kernel
theorem dX4_stone_14 : decode cX4_stone 14 = .ok (.tableswitch 84 0 3 #[30, 40, 53, 63], 30) := by decide +kernel
theorem dX4_stone_44 : decode cX4_stone 44 = .ok (.aload_n 0, 1) := by decide +kernel
theorem dX4_stone_45 : decode cX4_stone 45 = .ok (.getfield 35, 3) := by decide +kernel
theorem dX4_stone_48 : decode cX4_stone 48 = .ok (.getfield 101, 3) := by decide +kernel
theorem dX4_stone_51 : decode cX4_stone 51 = .ok (.iload_n 1, 1) := by decide +kernel
theorem dX4_stone_52 : decode cX4_stone 52 = .ok (.iaload, 1) := by decide +kernel
theorem dX4_stone_53 : decode cX4_stone 53 = .ok (.ireturn, 1) := by decide +kernel
theorem dX4_stone_54 : decode cX4_stone 54 = .ok (.aload_n 0, 1) := by decide +kernel
theorem dX4_stone_55 : decode cX4_stone 55 = .ok (.getfield 35, 3) := by decide +kernel
theorem dX4_stone_58 : decode cX4_stone 58 = .ok (.aload_n 0, 1) := by decide +kernel
theorem dX4_stone_59 : decode cX4_stone 59 = .ok (.getfield 25, 3) := by decide +kernel
theorem dX4_stone_62 : decode cX4_stone 62 = .ok (.iload_n 1, 1) := by decide +kernel
theorem dX4_stone_63 : decode cX4_stone 63 = .ok (.invokevirtual 104, 3) := by decide +kernel
theorem dX4_stone_66 : decode cX4_stone 66 = .ok (.ireturn, 1) := by decide +kernel
theorem dX4_stone_67 : decode cX4_stone 67 = .ok (.aload_n 0, 1) := by decide +kernel
theorem dX4_stone_68 : decode cX4_stone 68 = .ok (.getfield 35, 3) := by decide +kernel
theorem dX4_stone_71 : decode cX4_stone 71 = .ok (.getfield 108, 3) := by decide +kernel
theorem dX4_stone_74 : decode cX4_stone 74 = .ok (.iload_n 1, 1) := by decide +kernel
theorem dX4_stone_75 : decode cX4_stone 75 = .ok (.iaload, 1) := by decide +kernel
theorem dX4_stone_76 : decode cX4_stone 76 = .ok (.ireturn, 1) := by decide +kernel
theorem dX4_stone_77 : decode cX4_stone 77 = .ok (.aload_n 0, 1) := by decide +kernel
theorem dX4_stone_78 : decode cX4_stone 78 = .ok (.getfield 35, 3) := by decide +kernel
theorem dX4_stone_81 : decode cX4_stone 81 = .ok (.aload_n 0, 1) := by decide +kernel
theorem dX4_stone_82 : decode cX4_stone 82 = .ok (.getfield 25, 3) := by decide +kernel
theorem dX4_stone_85 : decode cX4_stone 85 = .ok (.iload_n 1, 1) := by decide +kernel
theorem dX4_stone_86 : decode cX4_stone 86 = .ok (.invokevirtual 111, 3) := by decide +kernel
theorem dX4_stone_89 : decode cX4_stone 89 = .ok (.ifCond .eq 7, 3) := by decide +kernel
theorem dX4_stone_92 : decode cX4_stone 92 = .ok (.iconst 1, 1) := by decide +kernel
theorem dX4_stone_93 : decode cX4_stone 93 = .ok (.goto 4, 3) := by decide +kernel
theorem dX4_stone_96 : decode cX4_stone 96 = .ok (.iconst 0, 1) := by decide +kernel
theorem dX4_stone_97 : decode cX4_stone 97 = .ok (.ireturn, 1) := by decide +kernel
theorem dX4_stone_98 : decode cX4_stone 98 = .ok (.iconst (-1), 1) := by decide +kernel
theorem dX4_stone_99 : decode cX4_stone 99 = .ok (.ireturn, 1) := by decide +kernel
theorem dX4_man_0 : decode cX4_man 0 = .ok (.aload_n 0, 1) := by decide +kernel
theorem dX4_man_1 : decode cX4_man 1 = .ok (.getfield 25, 3) := by decide +kernel
theorem dX4_man_4 : decode cX4_man 4 = .ok (.iload_n 1, 1) := by decide +kernel
theorem dX4_man_5 : decode cX4_man 5 = .ok (.invokevirtual 115, 3) := by decide +kernel
theorem dX4_man_8 : decode cX4_man 8 = .ok (.ifCond .ne 5, 3) := by decide +kernel
theorem dX4_man_11 : decode cX4_man 11 = .ok (.iconst (-1), 1) := by decide +kernel
theorem dX4_man_12 : decode cX4_man 12 = .ok (.ireturn, 1) := by decide +kernel
theorem dX4_man_13 : decode cX4_man 13 = .ok (.iload_n 2, 1) := by decide +kernel
theorem dX4_man_14 : decode cX4_man 14 = .ok (.tableswitch 56 0 2 #[26, 36, 46], 26) := by decide +kernel
theorem dX4_man_40 : decode cX4_man 40 = .ok (.aload_n 0, 1) := by decide +kernel
theorem dX4_man_41 : decode cX4_man 41 = .ok (.getfield 25, 3) := by decide +kernel
theorem dX4_man_44 : decode cX4_man 44 = .ok (.getfield 118, 3) := by decide +kernel
theorem dX4_man_47 : decode cX4_man 47 = .ok (.iload_n 1, 1) := by decide +kernel
theorem dX4_man_48 : decode cX4_man 48 = .ok (.iaload, 1) := by decide +kernel
theorem dX4_man_49 : decode cX4_man 49 = .ok (.ireturn, 1) := by decide +kernel
theorem dX4_man_50 : decode cX4_man 50 = .ok (.aload_n 0, 1) := by decide +kernel
theorem dX4_man_51 : decode cX4_man 51 = .ok (.getfield 35, 3) := by decide +kernel
theorem dX4_man_54 : decode cX4_man 54 = .ok (.getfield 121, 3) := by decide +kernel
theorem dX4_man_57 : decode cX4_man 57 = .ok (.iload_n 1, 1) := by decide +kernel
theorem dX4_man_58 : decode cX4_man 58 = .ok (.iaload, 1) := by decide +kernel
theorem dX4_man_59 : decode cX4_man 59 = .ok (.ireturn, 1) := by decide +kernel
theorem dX4_man_60 : decode cX4_man 60 = .ok (.aload_n 0, 1) := by decide +kernel
theorem dX4_man_61 : decode cX4_man 61 = .ok (.getfield 35, 3) := by decide +kernel
theorem dX4_man_64 : decode cX4_man 64 = .ok (.getfield 124, 3) := by decide +kernel
theorem dX4_man_67 : decode cX4_man 67 = .ok (.iload_n 1, 1) := by decide +kernel
theorem dX4_man_68 : decode cX4_man 68 = .ok (.iaload, 1) := by decide +kernel
theorem dX4_man_69 : decode cX4_man 69 = .ok (.ireturn, 1) := by decide +kernel
theorem dX4_man_70 : decode cX4_man 70 = .ok (.iconst (-1), 1) := by decide +kernel
theorem dX4_man_71 : decode cX4_man 71 = .ok (.ireturn, 1) := by decide +kernel
theorem dX4_now_0 : decode cX4_now 0 = .ok (.iload_n 1, 1) := by decide +kernel
theorem dX4_now_1 : decode cX4_now 1 = .ok (.tableswitch 76 0 4 #[35, 43, 51, 63, 71], 35) := by decide +kernel
theorem dX4_now_36 : decode cX4_now 36 = .ok (.aload_n 0, 1) := by decide +kernel
theorem dX4_now_37 : decode cX4_now 37 = .ok (.getfield 35, 3) := by decide +kernel
theorem dX4_now_40 : decode cX4_now 40 = .ok (.getfield 127, 3) := by decide +kernel
theorem dX4_now_43 : decode cX4_now 43 = .ok (.ireturn, 1) := by decide +kernel
theorem dX4_now_44 : decode cX4_now 44 = .ok (.aload_n 0, 1) := by decide +kernel
theorem dX4_now_45 : decode cX4_now 45 = .ok (.getfield 35, 3) := by decide +kernel
theorem dX4_now_48 : decode cX4_now 48 = .ok (.getfield 130, 3) := by decide +kernel
theorem dX4_now_51 : decode cX4_now 51 = .ok (.ireturn, 1) := by decide +kernel
theorem dX4_now_52 : decode cX4_now 52 = .ok (.aload_n 0, 1) := by decide +kernel
theorem dX4_now_53 : decode cX4_now 53 = .ok (.getfield 35, 3) := by decide +kernel
theorem dX4_now_56 : decode cX4_now 56 = .ok (.aload_n 0, 1) := by decide +kernel
theorem dX4_now_57 : decode cX4_now 57 = .ok (.getfield 25, 3) := by decide +kernel
theorem dX4_now_60 : decode cX4_now 60 = .ok (.invokevirtual 133, 3) := by decide +kernel
theorem dX4_now_63 : decode cX4_now 63 = .ok (.ireturn, 1) := by decide +kernel
theorem dX4_now_64 : decode cX4_now 64 = .ok (.aload_n 0, 1) := by decide +kernel
theorem dX4_now_65 : decode cX4_now 65 = .ok (.getfield 35, 3) := by decide +kernel
theorem dX4_now_68 : decode cX4_now 68 = .ok (.getfield 137, 3) := by decide +kernel
theorem dX4_now_71 : decode cX4_now 71 = .ok (.ireturn, 1) := by decide +kernel
theorem dX4_now_72 : decode cX4_now 72 = .ok (.aload_n 0, 1) := by decide +kernel
theorem dX4_now_73 : decode cX4_now 73 = .ok (.getfield 79, 3) := by decide +kernel
theorem dX4_now_76 : decode cX4_now 76 = .ok (.ireturn, 1) := by decide +kernel
theorem dX4_now_77 : decode cX4_now 77 = .ok (.iconst (-1), 1) := by decide +kernel
theorem dX4_now_78 : decode cX4_now 78 = .ok (.ireturn, 1) := by decide +kernel
theorem dX4_order_0 : decode cX4_order 0 = .ok (.aload_n 0, 1) := by decide +kernel
theorem dX4_order_1 : decode cX4_order 1 = .ok (.getfield 25, 3) := by decide +kernel
theorem dX4_order_4 : decode cX4_order 4 = .ok (.iload_n 1, 1) := by decide +kernel
theorem dX4_order_5 : decode cX4_order 5 = .ok (.invokevirtual 115, 3) := by decide +kernel
theorem dX4_order_8 : decode cX4_order 8 = .ok (.ifCond .eq 20, 3) := by decide +kernel
theorem dX4_order_11 : decode cX4_order 11 = .ok (.iload_n 2, 1) := by decide +kernel
theorem dX4_order_12 : decode cX4_order 12 = .ok (.bipush (-9), 2) := by decide +kernel
theorem dX4_order_14 : decode cX4_order 14 = .ok (.if_icmp .eq 16, 3) := by decide +kernel
theorem dX4_order_17 : decode cX4_order 17 = .ok (.aload_n 0, 1) := by decide +kernel
theorem dX4_order_18 : decode cX4_order 18 = .ok (.getfield 25, 3) := by decide +kernel
theorem dX4_order_21 : decode cX4_order 21 = .ok (.iload_n 2, 1) := by decide +kernel
theorem dX4_order_22 : decode cX4_order 22 = .ok (.invokevirtual 85, 3) := by decide +kernel
theorem dX4_order_25 : decode cX4_order 25 = .ok (.ifCond .ne 5, 3) := by decide +kernel
theorem dX4_order_28 : decode cX4_order 28 = .ok (.iconst (-1), 1) := by decide +kernel
theorem dX4_order_29 : decode cX4_order 29 = .ok (.ireturn, 1) := by decide +kernel
theorem dX4_order_30 : decode cX4_order 30 = .ok (.aload_n 0, 1) := by decide +kernel
theorem dX4_order_31 : decode cX4_order 31 = .ok (.invokevirtual 140, 3) := by decide +kernel
theorem dX4_order_34 : decode cX4_order 34 = .ok (.aload_n 0, 1) := by decide +kernel
theorem dX4_order_35 : decode cX4_order 35 = .ok (.getfield 35, 3) := by decide +kernel
theorem dX4_order_38 : decode cX4_order 38 = .ok (.getfield 124, 3) := by decide +kernel
theorem dX4_order_41 : decode cX4_order 41 = .ok (.iload_n 1, 1) := by decide +kernel
theorem dX4_order_42 : decode cX4_order 42 = .ok (.iaload, 1) := by decide +kernel
theorem dX4_order_43 : decode cX4_order 43 = .ok (.istore_n 3, 1) := by decide +kernel
theorem dX4_order_44 : decode cX4_order 44 = .ok (.aload_n 0, 1) := by decide +kernel
theorem dX4_order_45 : decode cX4_order 45 = .ok (.getfield 35, 3) := by decide +kernel
theorem dX4_order_48 : decode cX4_order 48 = .ok (.getfield 124, 3) := by decide +kernel
theorem dX4_order_51 : decode cX4_order 51 = .ok (.iload_n 1, 1) := by decide +kernel
theorem dX4_order_52 : decode cX4_order 52 = .ok (.iload_n 2, 1) := by decide +kernel
theorem dX4_order_53 : decode cX4_order 53 = .ok (.iastore, 1) := by decide +kernel
theorem dX4_order_54 : decode cX4_order 54 = .ok (.iload_n 3, 1) := by decide +kernel
theorem dX4_order_55 : decode cX4_order 55 = .ok (.ireturn, 1) := by decide +kernel
theorem dX4_hour_0 : decode cX4_hour 0 = .ok (.aload_n 0, 1) := by decide +kernel
theorem dX4_hour_1 : decode cX4_hour 1 = .ok (.getfield 35, 3) := by decide +kernel
theorem dX4_hour_4 : decode cX4_hour 4 = .ok (.getfield 127, 3) := by decide +kernel
theorem dX4_hour_7 : decode cX4_hour 7 = .ok (.bipush 99, 2) := by decide +kernel
theorem dX4_hour_9 : decode cX4_hour 9 = .ok (.if_icmp .lt 6, 3) := by decide +kernel
theorem dX4_hour_12 : decode cX4_hour 12 = .ok (.bipush (-2), 2) := by decide +kernel
theorem dX4_hour_14 : decode cX4_hour 14 = .ok (.ireturn, 1) := by decide +kernel
theorem dX4_hour_15 : decode cX4_hour 15 = .ok (.aload_n 0, 1) := by decide +kernel
theorem dX4_hour_16 : decode cX4_hour 16 = .ok (.invokevirtual 140, 3) := by decide +kernel
theorem dX4_hour_19 : decode cX4_hour 19 = .ok (.aload_n 0, 1) := by decide +kernel
theorem dX4_hour_20 : decode cX4_hour 20 = .ok (.getfield 35, 3) := by decide +kernel
theorem dX4_hour_23 : decode cX4_hour 23 = .ok (.aload_n 0, 1) := by decide +kernel
theorem dX4_hour_24 : decode cX4_hour 24 = .ok (.getfield 25, 3) := by decide +kernel
theorem dX4_hour_27 : decode cX4_hour 27 = .ok (.invokevirtual 143, 3) := by decide +kernel
theorem dX4_hour_30 : decode cX4_hour 30 = .ok (.istore_n 1, 1) := by decide +kernel
theorem dX4_hour_31 : decode cX4_hour 31 = .ok (.aload_n 0, 1) := by decide +kernel
theorem dX4_hour_32 : decode cX4_hour 32 = .ok (.getfield 35, 3) := by decide +kernel
theorem dX4_hour_35 : decode cX4_hour 35 = .ok (.getfield 130, 3) := by decide +kernel
theorem dX4_hour_38 : decode cX4_hour 38 = .ok (.aload_n 0, 1) := by decide +kernel
theorem dX4_hour_39 : decode cX4_hour 39 = .ok (.getfield 25, 3) := by decide +kernel
theorem dX4_hour_42 : decode cX4_hour 42 = .ok (.getfield 146, 3) := by decide +kernel
theorem dX4_hour_45 : decode cX4_hour 45 = .ok (.if_icmp .lt 39, 3) := by decide +kernel
theorem dX4_hour_48 : decode cX4_hour 48 = .ok (.aload_n 0, 1) := by decide +kernel
theorem dX4_hour_49 : decode cX4_hour 49 = .ok (.getfield 35, 3) := by decide +kernel
theorem dX4_hour_52 : decode cX4_hour 52 = .ok (.aload_n 0, 1) := by decide +kernel
theorem dX4_hour_53 : decode cX4_hour 53 = .ok (.getfield 25, 3) := by decide +kernel
theorem dX4_hour_56 : decode cX4_hour 56 = .ok (.aload_n 0, 1) := by decide +kernel
theorem dX4_hour_57 : decode cX4_hour 57 = .ok (.getfield 25, 3) := by decide +kernel
theorem dX4_hour_60 : decode cX4_hour 60 = .ok (.aload_n 0, 1) := by decide +kernel
theorem dX4_hour_61 : decode cX4_hour 61 = .ok (.getfield 35, 3) := by decide +kernel
theorem dX4_hour_64 : decode cX4_hour 64 = .ok (.getfield 127, 3) := by decide +kernel
theorem dX4_hour_67 : decode cX4_hour 67 = .ok (.invokevirtual 149, 3) := by decide +kernel
theorem dX4_hour_70 : decode cX4_hour 70 = .ok (.invokevirtual 152, 3) := by decide +kernel
theorem dX4_hour_73 : decode cX4_hour 73 = .ok (.aload_n 0, 1) := by decide +kernel
theorem dX4_hour_74 : decode cX4_hour 74 = .ok (.getfield 35, 3) := by decide +kernel
theorem dX4_hour_77 : decode cX4_hour 77 = .ok (.aload_n 0, 1) := by decide +kernel
theorem dX4_hour_78 : decode cX4_hour 78 = .ok (.getfield 25, 3) := by decide +kernel
theorem dX4_hour_81 : decode cX4_hour 81 = .ok (.invokevirtual 156, 3) := by decide +kernel
theorem dX4_hour_84 : decode cX4_hour 84 = .ok (.iload_n 1, 1) := by decide +kernel
theorem dX4_hour_85 : decode cX4_hour 85 = .ok (.ireturn, 1) := by decide +kernel
theorem dX4_undo_0 : decode cX4_undo 0 = .ok (.aload_n 0, 1) := by decide +kernel
theorem dX4_undo_1 : decode cX4_undo 1 = .ok (.getfield 79, 3) := by decide +kernel
theorem dX4_undo_4 : decode cX4_undo 4 = .ok (.ifCond .gt 6, 3) := by decide +kernel
theorem dX4_undo_7 : decode cX4_undo 7 = .ok (.bipush (-2), 2) := by decide +kernel
theorem dX4_undo_9 : decode cX4_undo 9 = .ok (.ireturn, 1) := by decide +kernel
theorem dX4_undo_10 : decode cX4_undo 10 = .ok (.aload_n 0, 1) := by decide +kernel
theorem dX4_undo_11 : decode cX4_undo 11 = .ok (.dup, 1) := by decide +kernel
theorem dX4_undo_12 : decode cX4_undo 12 = .ok (.getfield 79, 3) := by decide +kernel
theorem dX4_undo_15 : decode cX4_undo 15 = .ok (.iconst 1, 1) := by decide +kernel
theorem dX4_undo_16 : decode cX4_undo 16 = .ok (.isub, 1) := by decide +kernel
theorem dX4_undo_17 : decode cX4_undo 17 = .ok (.putfield 79, 3) := by decide +kernel
theorem dX4_undo_20 : decode cX4_undo 20 = .ok (.aload_n 0, 1) := by decide +kernel
theorem dX4_undo_21 : decode cX4_undo 21 = .ok (.getfield 35, 3) := by decide +kernel
theorem dX4_undo_24 : decode cX4_undo 24 = .ok (.aload_n 0, 1) := by decide +kernel
theorem dX4_undo_25 : decode cX4_undo 25 = .ok (.getfield 42, 3) := by decide +kernel
theorem dX4_undo_28 : decode cX4_undo 28 = .ok (.aload_n 0, 1) := by decide +kernel
theorem dX4_undo_29 : decode cX4_undo 29 = .ok (.getfield 79, 3) := by decide +kernel
theorem dX4_undo_32 : decode cX4_undo 32 = .ok (.aaload, 1) := by decide +kernel
theorem dX4_undo_33 : decode cX4_undo 33 = .ok (.invokevirtual 159, 3) := by decide +kernel
theorem dX4_undo_36 : decode cX4_undo 36 = .ok (.aload_n 0, 1) := by decide +kernel
theorem dX4_undo_37 : decode cX4_undo 37 = .ok (.getfield 79, 3) := by decide +kernel
theorem dX4_undo_40 : decode cX4_undo 40 = .ok (.ireturn, 1) := by decide +kernel
theorem dX4_remember_0 : decode cX4_remember 0 = .ok (.aload_n 0, 1) := by decide +kernel
theorem dX4_remember_1 : decode cX4_remember 1 = .ok (.getfield 79, 3) := by decide +kernel
theorem dX4_remember_4 : decode cX4_remember 4 = .ok (.bipush 10, 2) := by decide +kernel
theorem dX4_remember_6 : decode cX4_remember 6 = .ok (.if_icmp .lt 52, 3) := by decide +kernel
theorem dX4_remember_9 : decode cX4_remember 9 = .ok (.aload_n 0, 1) := by decide +kernel
theorem dX4_remember_10 : decode cX4_remember 10 = .ok (.getfield 42, 3) := by decide +kernel
theorem dX4_remember_13 : decode cX4_remember 13 = .ok (.iconst 0, 1) := by decide +kernel
theorem dX4_remember_14 : decode cX4_remember 14 = .ok (.aaload, 1) := by decide +kernel
theorem dX4_remember_15 : decode cX4_remember 15 = .ok (.astore_n 1, 1) := by decide +kernel
theorem dX4_remember_16 : decode cX4_remember 16 = .ok (.iconst 1, 1) := by decide +kernel
theorem dX4_remember_17 : decode cX4_remember 17 = .ok (.istore_n 2, 1) := by decide +kernel
theorem dX4_remember_18 : decode cX4_remember 18 = .ok (.iload_n 2, 1) := by decide +kernel
theorem dX4_remember_19 : decode cX4_remember 19 = .ok (.bipush 10, 2) := by decide +kernel
theorem dX4_remember_21 : decode cX4_remember 21 = .ok (.if_icmp .ge 23, 3) := by decide +kernel
theorem dX4_remember_24 : decode cX4_remember 24 = .ok (.aload_n 0, 1) := by decide +kernel
theorem dX4_remember_25 : decode cX4_remember 25 = .ok (.getfield 42, 3) := by decide +kernel
theorem dX4_remember_28 : decode cX4_remember 28 = .ok (.iload_n 2, 1) := by decide +kernel
theorem dX4_remember_29 : decode cX4_remember 29 = .ok (.iconst 1, 1) := by decide +kernel
theorem dX4_remember_30 : decode cX4_remember 30 = .ok (.isub, 1) := by decide +kernel
theorem dX4_remember_31 : decode cX4_remember 31 = .ok (.aload_n 0, 1) := by decide +kernel
theorem dX4_remember_32 : decode cX4_remember 32 = .ok (.getfield 42, 3) := by decide +kernel
theorem dX4_remember_35 : decode cX4_remember 35 = .ok (.iload_n 2, 1) := by decide +kernel
theorem dX4_remember_36 : decode cX4_remember 36 = .ok (.aaload, 1) := by decide +kernel
theorem dX4_remember_37 : decode cX4_remember 37 = .ok (.aastore, 1) := by decide +kernel
theorem dX4_remember_38 : decode cX4_remember 38 = .ok (.iinc 2 1, 3) := by decide +kernel
theorem dX4_remember_41 : decode cX4_remember 41 = .ok (.goto (-23), 3) := by decide +kernel
theorem dX4_remember_44 : decode cX4_remember 44 = .ok (.aload_n 0, 1) := by decide +kernel
theorem dX4_remember_45 : decode cX4_remember 45 = .ok (.getfield 42, 3) := by decide +kernel
theorem dX4_remember_48 : decode cX4_remember 48 = .ok (.bipush 9, 2) := by decide +kernel
theorem dX4_remember_50 : decode cX4_remember 50 = .ok (.aload_n 1, 1) := by decide +kernel
theorem dX4_remember_51 : decode cX4_remember 51 = .ok (.aastore, 1) := by decide +kernel
theorem dX4_remember_52 : decode cX4_remember 52 = .ok (.aload_n 0, 1) := by decide +kernel
theorem dX4_remember_53 : decode cX4_remember 53 = .ok (.bipush 9, 2) := by decide +kernel
theorem dX4_remember_55 : decode cX4_remember 55 = .ok (.putfield 79, 3) := by decide +kernel
theorem dX4_remember_58 : decode cX4_remember 58 = .ok (.aload_n 0, 1) := by decide +kernel
theorem dX4_remember_59 : decode cX4_remember 59 = .ok (.getfield 42, 3) := by decide +kernel
theorem dX4_remember_62 : decode cX4_remember 62 = .ok (.aload_n 0, 1) := by decide +kernel
theorem dX4_remember_63 : decode cX4_remember 63 = .ok (.getfield 79, 3) := by decide +kernel
theorem dX4_remember_66 : decode cX4_remember 66 = .ok (.aaload, 1) := by decide +kernel
theorem dX4_remember_67 : decode cX4_remember 67 = .ok (.aload_n 0, 1) := by decide +kernel
theorem dX4_remember_68 : decode cX4_remember 68 = .ok (.getfield 35, 3) := by decide +kernel
theorem dX4_remember_71 : decode cX4_remember 71 = .ok (.invokevirtual 159, 3) := by decide +kernel
theorem dX4_remember_74 : decode cX4_remember 74 = .ok (.aload_n 0, 1) := by decide +kernel
theorem dX4_remember_75 : decode cX4_remember 75 = .ok (.dup, 1) := by decide +kernel
theorem dX4_remember_76 : decode cX4_remember 76 = .ok (.getfield 79, 3) := by decide +kernel
theorem dX4_remember_79 : decode cX4_remember 79 = .ok (.iconst 1, 1) := by decide +kernel
theorem dX4_remember_80 : decode cX4_remember 80 = .ok (.iadd, 1) := by decide +kernel
theorem dX4_remember_81 : decode cX4_remember 81 = .ok (.putfield 79, 3) := by decide +kernel
theorem dX4_remember_84 : decode cX4_remember 84 = .ok (.return_, 1) := by decide +kernel
theorem dX4_highest_0 : decode cX4_highest 0 = .ok (.aload_n 0, 1) := by decide +kernel
theorem dX4_highest_1 : decode cX4_highest 1 = .ok (.getfield 25, 3) := by decide +kernel
theorem dX4_highest_4 : decode cX4_highest 4 = .ok (.iload_n 1, 1) := by decide +kernel
theorem dX4_highest_5 : decode cX4_highest 5 = .ok (.invokevirtual 85, 3) := by decide +kernel
theorem dX4_highest_8 : decode cX4_highest 8 = .ok (.ifCond .eq 13, 3) := by decide +kernel
theorem dX4_highest_11 : decode cX4_highest 11 = .ok (.iload_n 2, 1) := by decide +kernel
theorem dX4_highest_12 : decode cX4_highest 12 = .ok (.ifCond .ge 11, 3) := by decide +kernel
theorem dX4_highest_15 : decode cX4_highest 15 = .ok (.iload_n 2, 1) := by decide +kernel
theorem dX4_highest_16 : decode cX4_highest 16 = .ok (.bipush (-9), 2) := by decide +kernel
theorem dX4_highest_18 : decode cX4_highest 18 = .ok (.if_icmp .eq 5, 3) := by decide +kernel
theorem dX4_highest_21 : decode cX4_highest 21 = .ok (.iconst (-1), 1) := by decide +kernel
theorem dX4_highest_22 : decode cX4_highest 22 = .ok (.ireturn, 1) := by decide +kernel
theorem dX4_highest_23 : decode cX4_highest 23 = .ok (.aload_n 0, 1) := by decide +kernel
theorem dX4_highest_24 : decode cX4_highest 24 = .ok (.getfield 35, 3) := by decide +kernel
theorem dX4_highest_27 : decode cX4_highest 27 = .ok (.aload_n 0, 1) := by decide +kernel
theorem dX4_highest_28 : decode cX4_highest 28 = .ok (.getfield 25, 3) := by decide +kernel
theorem dX4_highest_31 : decode cX4_highest 31 = .ok (.invokevirtual 163, 3) := by decide +kernel
theorem dX4_highest_34 : decode cX4_highest 34 = .ok (.istore_n 3, 1) := by decide +kernel
theorem dX4_highest_35 : decode cX4_highest 35 = .ok (.iload_n 2, 1) := by decide +kernel
theorem dX4_highest_36 : decode cX4_highest 36 = .ok (.iload_n 3, 1) := by decide +kernel
theorem dX4_highest_37 : decode cX4_highest 37 = .ok (.if_icmp .ge 9, 3) := by decide +kernel
theorem dX4_highest_40 : decode cX4_highest 40 = .ok (.iload_n 2, 1) := by decide +kernel
theorem dX4_highest_41 : decode cX4_highest 41 = .ok (.bipush 6, 2) := by decide +kernel
theorem dX4_highest_43 : decode cX4_highest 43 = .ok (.if_icmp .lt 6, 3) := by decide +kernel
theorem dX4_highest_46 : decode cX4_highest 46 = .ok (.bipush (-5), 2) := by decide +kernel
theorem dX4_highest_48 : decode cX4_highest 48 = .ok (.ireturn, 1) := by decide +kernel
theorem dX4_highest_49 : decode cX4_highest 49 = .ok (.aload_n 0, 1) := by decide +kernel
theorem dX4_highest_50 : decode cX4_highest 50 = .ok (.getfield 63, 3) := by decide +kernel
theorem dX4_highest_53 : decode cX4_highest 53 = .ok (.aload_n 0, 1) := by decide +kernel
theorem dX4_highest_54 : decode cX4_highest 54 = .ok (.getfield 25, 3) := by decide +kernel
theorem dX4_highest_57 : decode cX4_highest 57 = .ok (.aload_n 0, 1) := by decide +kernel
theorem dX4_highest_58 : decode cX4_highest 58 = .ok (.getfield 35, 3) := by decide +kernel
theorem dX4_highest_61 : decode cX4_highest 61 = .ok (.iload_n 1, 1) := by decide +kernel
theorem dX4_highest_62 : decode cX4_highest 62 = .ok (.invokevirtual 166, 3) := by decide +kernel
theorem dX4_highest_65 : decode cX4_highest 65 = .ok (.iload_n 2, 1) := by decide +kernel
theorem dX4_highest_66 : decode cX4_highest 66 = .ok (.bipush (-9), 2) := by decide +kernel
theorem dX4_highest_68 : decode cX4_highest 68 = .ok (.if_icmp .ne 23, 3) := by decide +kernel
theorem dX4_highest_71 : decode cX4_highest 71 = .ok (.aload_n 0, 1) := by decide +kernel
theorem dX4_highest_72 : decode cX4_highest 72 = .ok (.getfield 35, 3) := by decide +kernel
theorem dX4_highest_75 : decode cX4_highest 75 = .ok (.getfield 101, 3) := by decide +kernel
theorem dX4_highest_78 : decode cX4_highest 78 = .ok (.iload_n 1, 1) := by decide +kernel
theorem dX4_highest_79 : decode cX4_highest 79 = .ok (.iaload, 1) := by decide +kernel
theorem dX4_highest_80 : decode cX4_highest 80 = .ok (.aload_n 0, 1) := by decide +kernel
theorem dX4_highest_81 : decode cX4_highest 81 = .ok (.getfield 63, 3) := by decide +kernel
theorem dX4_highest_84 : decode cX4_highest 84 = .ok (.getfield 170, 3) := by decide +kernel
theorem dX4_highest_87 : decode cX4_highest 87 = .ok (.iadd, 1) := by decide +kernel
theorem dX4_highest_88 : decode cX4_highest 88 = .ok (.goto 12, 3) := by decide +kernel
theorem dX4_highest_91 : decode cX4_highest 91 = .ok (.aload_n 0, 1) := by decide +kernel
theorem dX4_highest_92 : decode cX4_highest 92 = .ok (.getfield 63, 3) := by decide +kernel
theorem dX4_highest_95 : decode cX4_highest 95 = .ok (.getfield 173, 3) := by decide +kernel
theorem dX4_highest_98 : decode cX4_highest 98 = .ok (.iload_n 2, 1) := by decide +kernel
theorem dX4_highest_99 : decode cX4_highest 99 = .ok (.iaload, 1) := by decide +kernel
theorem dX4_highest_100 : decode cX4_highest 100 = .ok (.ireturn, 1) := by decide +kernel
theorem dX4_days_0 : decode cX4_days 0 = .ok (.aload_n 0, 1) := by decide +kernel
theorem dX4_days_1 : decode cX4_days 1 = .ok (.getfield 25, 3) := by decide +kernel
theorem dX4_days_4 : decode cX4_days 4 = .ok (.iload_n 1, 1) := by decide +kernel
theorem dX4_days_5 : decode cX4_days 5 = .ok (.invokevirtual 85, 3) := by decide +kernel
theorem dX4_days_8 : decode cX4_days 8 = .ok (.ifCond .ne 5, 3) := by decide +kernel
theorem dX4_days_11 : decode cX4_days 11 = .ok (.iconst (-1), 1) := by decide +kernel
theorem dX4_days_12 : decode cX4_days 12 = .ok (.ireturn, 1) := by decide +kernel
theorem dX4_days_13 : decode cX4_days 13 = .ok (.aload_n 0, 1) := by decide +kernel
theorem dX4_days_14 : decode cX4_days 14 = .ok (.getfield 35, 3) := by decide +kernel
theorem dX4_days_17 : decode cX4_days 17 = .ok (.aload_n 0, 1) := by decide +kernel
theorem dX4_days_18 : decode cX4_days 18 = .ok (.getfield 25, 3) := by decide +kernel
theorem dX4_days_21 : decode cX4_days 21 = .ok (.iload_n 1, 1) := by decide +kernel
theorem dX4_days_22 : decode cX4_days 22 = .ok (.invokevirtual 111, 3) := by decide +kernel
theorem dX4_days_25 : decode cX4_days 25 = .ok (.ifCond .eq 5, 3) := by decide +kernel
theorem dX4_days_28 : decode cX4_days 28 = .ok (.iconst 0, 1) := by decide +kernel
theorem dX4_days_29 : decode cX4_days 29 = .ok (.ireturn, 1) := by decide +kernel
theorem dX4_days_30 : decode cX4_days 30 = .ok (.aload_n 0, 1) := by decide +kernel
theorem dX4_days_31 : decode cX4_days 31 = .ok (.iload_n 1, 1) := by decide +kernel
theorem dX4_days_32 : decode cX4_days 32 = .ok (.invokevirtual 176, 3) := by decide +kernel
theorem dX4_days_35 : decode cX4_days 35 = .ok (.iconst 1, 1) := by decide +kernel
theorem dX4_days_36 : decode cX4_days 36 = .ok (.istore_n 2, 1) := by decide +kernel
theorem dX4_days_37 : decode cX4_days 37 = .ok (.iload_n 2, 1) := by decide +kernel
theorem dX4_days_38 : decode cX4_days 38 = .ok (.bipush 60, 2) := by decide +kernel
theorem dX4_days_40 : decode cX4_days 40 = .ok (.if_icmp .gt 62, 3) := by decide +kernel
theorem dX4_days_43 : decode cX4_days 43 = .ok (.aload_n 0, 1) := by decide +kernel
theorem dX4_days_44 : decode cX4_days 44 = .ok (.getfield 39, 3) := by decide +kernel
theorem dX4_days_47 : decode cX4_days 47 = .ok (.aload_n 0, 1) := by decide +kernel
theorem dX4_days_48 : decode cX4_days 48 = .ok (.getfield 25, 3) := by decide +kernel
theorem dX4_days_51 : decode cX4_days 51 = .ok (.invokevirtual 180, 3) := by decide +kernel
theorem dX4_days_54 : decode cX4_days 54 = .ok (.aload_n 0, 1) := by decide +kernel
theorem dX4_days_55 : decode cX4_days 55 = .ok (.getfield 39, 3) := by decide +kernel
theorem dX4_days_58 : decode cX4_days 58 = .ok (.aload_n 0, 1) := by decide +kernel
theorem dX4_days_59 : decode cX4_days 59 = .ok (.getfield 25, 3) := by decide +kernel
theorem dX4_days_62 : decode cX4_days 62 = .ok (.iload_n 1, 1) := by decide +kernel
theorem dX4_days_63 : decode cX4_days 63 = .ok (.invokevirtual 111, 3) := by decide +kernel
theorem dX4_days_66 : decode cX4_days 66 = .ok (.ifCond .eq 5, 3) := by decide +kernel
theorem dX4_days_69 : decode cX4_days 69 = .ok (.iload_n 2, 1) := by decide +kernel
theorem dX4_days_70 : decode cX4_days 70 = .ok (.ireturn, 1) := by decide +kernel
theorem dX4_days_71 : decode cX4_days 71 = .ok (.aload_n 0, 1) := by decide +kernel
theorem dX4_days_72 : decode cX4_days 72 = .ok (.getfield 39, 3) := by decide +kernel
theorem dX4_days_75 : decode cX4_days 75 = .ok (.aload_n 0, 1) := by decide +kernel
theorem dX4_days_76 : decode cX4_days 76 = .ok (.getfield 25, 3) := by decide +kernel
theorem dX4_days_79 : decode cX4_days 79 = .ok (.aload_n 0, 1) := by decide +kernel
theorem dX4_days_80 : decode cX4_days 80 = .ok (.getfield 25, 3) := by decide +kernel
theorem dX4_days_83 : decode cX4_days 83 = .ok (.aload_n 0, 1) := by decide +kernel
theorem dX4_days_84 : decode cX4_days 84 = .ok (.getfield 39, 3) := by decide +kernel
theorem dX4_days_87 : decode cX4_days 87 = .ok (.getfield 127, 3) := by decide +kernel
theorem dX4_days_90 : decode cX4_days 90 = .ok (.invokevirtual 149, 3) := by decide +kernel
theorem dX4_days_93 : decode cX4_days 93 = .ok (.invokevirtual 152, 3) := by decide +kernel
theorem dX4_days_96 : decode cX4_days 96 = .ok (.iinc 2 1, 3) := by decide +kernel
theorem dX4_days_99 : decode cX4_days 99 = .ok (.goto (-62), 3) := by decide +kernel
theorem dX4_days_102 : decode cX4_days 102 = .ok (.bipush (-9), 2) := by decide +kernel
theorem dX4_days_104 : decode cX4_days 104 = .ok (.ireturn, 1) := by decide +kernel
theorem dX4_little_0 : decode cX4_little 0 = .ok (.aload_n 0, 1) := by decide +kernel
theorem dX4_little_1 : decode cX4_little 1 = .ok (.getfield 25, 3) := by decide +kernel
theorem dX4_little_4 : decode cX4_little 4 = .ok (.iload_n 1, 1) := by decide +kernel
theorem dX4_little_5 : decode cX4_little 5 = .ok (.invokevirtual 85, 3) := by decide +kernel
theorem dX4_little_8 : decode cX4_little 8 = .ok (.ifCond .ne 5, 3) := by decide +kernel
theorem dX4_little_11 : decode cX4_little 11 = .ok (.iconst (-1), 1) := by decide +kernel
theorem dX4_little_12 : decode cX4_little 12 = .ok (.ireturn, 1) := by decide +kernel
theorem dX4_little_13 : decode cX4_little 13 = .ok (.aload_n 0, 1) := by decide +kernel
theorem dX4_little_14 : decode cX4_little 14 = .ok (.getfield 35, 3) := by decide +kernel
theorem dX4_little_17 : decode cX4_little 17 = .ok (.aload_n 0, 1) := by decide +kernel
theorem dX4_little_18 : decode cX4_little 18 = .ok (.getfield 25, 3) := by decide +kernel
theorem dX4_little_21 : decode cX4_little 21 = .ok (.iload_n 1, 1) := by decide +kernel
theorem dX4_little_22 : decode cX4_little 22 = .ok (.invokevirtual 111, 3) := by decide +kernel
theorem dX4_little_25 : decode cX4_little 25 = .ok (.ifCond .eq 6, 3) := by decide +kernel
theorem dX4_little_28 : decode cX4_little 28 = .ok (.bipush (-2), 2) := by decide +kernel
theorem dX4_little_30 : decode cX4_little 30 = .ok (.ireturn, 1) := by decide +kernel
theorem dX4_little_31 : decode cX4_little 31 = .ok (.aload_n 0, 1) := by decide +kernel
theorem dX4_little_32 : decode cX4_little 32 = .ok (.getfield 25, 3) := by decide +kernel
theorem dX4_little_35 : decode cX4_little 35 = .ok (.getfield 89, 3) := by decide +kernel
theorem dX4_little_38 : decode cX4_little 38 = .ok (.iload_n 1, 1) := by decide +kernel
theorem dX4_little_39 : decode cX4_little 39 = .ok (.iaload, 1) := by decide +kernel
theorem dX4_little_40 : decode cX4_little 40 = .ok (.aload_n 0, 1) := by decide +kernel
theorem dX4_little_41 : decode cX4_little 41 = .ok (.getfield 35, 3) := by decide +kernel
theorem dX4_little_44 : decode cX4_little 44 = .ok (.getfield 101, 3) := by decide +kernel
theorem dX4_little_47 : decode cX4_little 47 = .ok (.iload_n 1, 1) := by decide +kernel
theorem dX4_little_48 : decode cX4_little 48 = .ok (.iaload, 1) := by decide +kernel
theorem dX4_little_49 : decode cX4_little 49 = .ok (.isub, 1) := by decide +kernel
theorem dX4_little_50 : decode cX4_little 50 = .ok (.istore_n 2, 1) := by decide +kernel
theorem dX4_little_51 : decode cX4_little 51 = .ok (.iload_n 2, 1) := by decide +kernel
theorem dX4_little_52 : decode cX4_little 52 = .ok (.aload_n 0, 1) := by decide +kernel
theorem dX4_little_53 : decode cX4_little 53 = .ok (.getfield 35, 3) := by decide +kernel
theorem dX4_little_56 : decode cX4_little 56 = .ok (.aload_n 0, 1) := by decide +kernel
theorem dX4_little_57 : decode cX4_little 57 = .ok (.getfield 25, 3) := by decide +kernel
theorem dX4_little_60 : decode cX4_little 60 = .ok (.invokevirtual 163, 3) := by decide +kernel
theorem dX4_little_63 : decode cX4_little 63 = .ok (.if_icmp .gt 19, 3) := by decide +kernel
theorem dX4_little_66 : decode cX4_little 66 = .ok (.iload_n 2, 1) := by decide +kernel
theorem dX4_little_67 : decode cX4_little 67 = .ok (.aload_n 0, 1) := by decide +kernel
theorem dX4_little_68 : decode cX4_little 68 = .ok (.getfield 35, 3) := by decide +kernel
theorem dX4_little_71 : decode cX4_little 71 = .ok (.aload_n 0, 1) := by decide +kernel
theorem dX4_little_72 : decode cX4_little 72 = .ok (.getfield 25, 3) := by decide +kernel
theorem dX4_little_75 : decode cX4_little 75 = .ok (.iload_n 1, 1) := by decide +kernel
theorem dX4_little_76 : decode cX4_little 76 = .ok (.invokevirtual 183, 3) := by decide +kernel
theorem dX4_little_79 : decode cX4_little 79 = .ok (.if_icmp .le 6, 3) := by decide +kernel
theorem dX4_little_82 : decode cX4_little 82 = .ok (.bipush (-9), 2) := by decide +kernel
theorem dX4_little_84 : decode cX4_little 84 = .ok (.ireturn, 1) := by decide +kernel
theorem dX4_little_85 : decode cX4_little 85 = .ok (.aload_n 0, 1) := by decide +kernel
theorem dX4_little_86 : decode cX4_little 86 = .ok (.getfield 35, 3) := by decide +kernel
theorem dX4_little_89 : decode cX4_little 89 = .ok (.aload_n 0, 1) := by decide +kernel
theorem dX4_little_90 : decode cX4_little 90 = .ok (.getfield 25, 3) := by decide +kernel
theorem dX4_little_93 : decode cX4_little 93 = .ok (.iload_n 2, 1) := by decide +kernel
theorem dX4_little_94 : decode cX4_little 94 = .ok (.iconst 1, 1) := by decide +kernel
theorem dX4_little_95 : decode cX4_little 95 = .ok (.isub, 1) := by decide +kernel
theorem dX4_little_96 : decode cX4_little 96 = .ok (.invokevirtual 186, 3) := by decide +kernel
theorem dX4_little_99 : decode cX4_little 99 = .ok (.aload_n 0, 1) := by decide +kernel
theorem dX4_little_100 : decode cX4_little 100 = .ok (.getfield 25, 3) := by decide +kernel
theorem dX4_little_103 : decode cX4_little 103 = .ok (.getfield 92, 3) := by decide +kernel
theorem dX4_little_106 : decode cX4_little 106 = .ok (.iload_n 1, 1) := by decide +kernel
theorem dX4_little_107 : decode cX4_little 107 = .ok (.iaload, 1) := by decide +kernel
theorem dX4_little_108 : decode cX4_little 108 = .ok (.isub, 1) := by decide +kernel
theorem dX4_little_109 : decode cX4_little 109 = .ok (.istore_n 3, 1) := by decide +kernel
theorem dX4_little_110 : decode cX4_little 110 = .ok (.iload_n 3, 1) := by decide +kernel
theorem dX4_little_111 : decode cX4_little 111 = .ok (.iconst 1, 1) := by decide +kernel
theorem dX4_little_112 : decode cX4_little 112 = .ok (.if_icmp .ge 8, 3) := by decide +kernel
theorem dX4_little_115 : decode cX4_little 115 = .ok (.bipush (-9), 2) := by decide +kernel
theorem dX4_little_117 : decode cX4_little 117 = .ok (.goto 9, 3) := by decide +kernel
theorem dX4_little_120 : decode cX4_little 120 = .ok (.iload_n 3, 1) := by decide +kernel
theorem dX4_little_121 : decode cX4_little 121 = .ok (.bipush 9, 2) := by decide +kernel
theorem dX4_little_123 : decode cX4_little 123 = .ok (.invokestatic 189, 3) := by decide +kernel
theorem dX4_little_126 : decode cX4_little 126 = .ok (.ireturn, 1) := by decide +kernel
theorem dX4_crew_0 : decode cX4_crew 0 = .ok (.aload_n 0, 1) := by decide +kernel
theorem dX4_crew_1 : decode cX4_crew 1 = .ok (.getfield 25, 3) := by decide +kernel
theorem dX4_crew_4 : decode cX4_crew 4 = .ok (.iload_n 1, 1) := by decide +kernel
theorem dX4_crew_5 : decode cX4_crew 5 = .ok (.invokevirtual 85, 3) := by decide +kernel
theorem dX4_crew_8 : decode cX4_crew 8 = .ok (.ifCond .ne 5, 3) := by decide +kernel
theorem dX4_crew_11 : decode cX4_crew 11 = .ok (.iconst (-1), 1) := by decide +kernel
theorem dX4_crew_12 : decode cX4_crew 12 = .ok (.ireturn, 1) := by decide +kernel
theorem dX4_crew_13 : decode cX4_crew 13 = .ok (.aload_n 0, 1) := by decide +kernel
theorem dX4_crew_14 : decode cX4_crew 14 = .ok (.getfield 35, 3) := by decide +kernel
theorem dX4_crew_17 : decode cX4_crew 17 = .ok (.aload_n 0, 1) := by decide +kernel
theorem dX4_crew_18 : decode cX4_crew 18 = .ok (.getfield 25, 3) := by decide +kernel
theorem dX4_crew_21 : decode cX4_crew 21 = .ok (.iload_n 1, 1) := by decide +kernel
theorem dX4_crew_22 : decode cX4_crew 22 = .ok (.invokevirtual 195, 3) := by decide +kernel
theorem dX4_crew_25 : decode cX4_crew 25 = .ok (.istore_n 2, 1) := by decide +kernel
theorem dX4_crew_26 : decode cX4_crew 26 = .ok (.bipush (-9), 2) := by decide +kernel
theorem dX4_crew_28 : decode cX4_crew 28 = .ok (.istore_n 3, 1) := by decide +kernel
theorem dX4_crew_29 : decode cX4_crew 29 = .ok (.iconst 1, 1) := by decide +kernel
theorem dX4_crew_30 : decode cX4_crew 30 = .ok (.istore 4, 2) := by decide +kernel
theorem dX4_crew_32 : decode cX4_crew 32 = .ok (.iload 4, 2) := by decide +kernel
theorem dX4_crew_34 : decode cX4_crew 34 = .ok (.iconst 1, 1) := by decide +kernel
theorem dX4_crew_35 : decode cX4_crew 35 = .ok (.aload_n 0, 1) := by decide +kernel
theorem dX4_crew_36 : decode cX4_crew 36 = .ok (.getfield 25, 3) := by decide +kernel
theorem dX4_crew_39 : decode cX4_crew 39 = .ok (.getfield 198, 3) := by decide +kernel
theorem dX4_crew_42 : decode cX4_crew 42 = .ok (.ishl, 1) := by decide +kernel
theorem dX4_crew_43 : decode cX4_crew 43 = .ok (.if_icmp .ge 55, 3) := by decide +kernel
theorem dX4_crew_46 : decode cX4_crew 46 = .ok (.iload_n 3, 1) := by decide +kernel
theorem dX4_crew_47 : decode cX4_crew 47 = .ok (.bipush (-9), 2) := by decide +kernel
theorem dX4_crew_49 : decode cX4_crew 49 = .ok (.if_icmp .eq 15, 3) := by decide +kernel
theorem dX4_crew_52 : decode cX4_crew 52 = .ok (.iload 4, 2) := by decide +kernel
theorem dX4_crew_54 : decode cX4_crew 54 = .ok (.invokestatic 201, 3) := by decide +kernel
theorem dX4_crew_57 : decode cX4_crew 57 = .ok (.iload_n 3, 1) := by decide +kernel
theorem dX4_crew_58 : decode cX4_crew 58 = .ok (.invokestatic 201, 3) := by decide +kernel
theorem dX4_crew_61 : decode cX4_crew 61 = .ok (.if_icmp .ge 7, 3) := by decide +kernel
theorem dX4_crew_64 : decode cX4_crew 64 = .ok (.iconst 1, 1) := by decide +kernel
theorem dX4_crew_65 : decode cX4_crew 65 = .ok (.goto 4, 3) := by decide +kernel
theorem dX4_crew_68 : decode cX4_crew 68 = .ok (.iconst 0, 1) := by decide +kernel
theorem dX4_crew_69 : decode cX4_crew 69 = .ok (.istore 5, 2) := by decide +kernel
theorem dX4_crew_71 : decode cX4_crew 71 = .ok (.iload 5, 2) := by decide +kernel
theorem dX4_crew_73 : decode cX4_crew 73 = .ok (.ifCond .eq 19, 3) := by decide +kernel
theorem dX4_crew_76 : decode cX4_crew 76 = .ok (.aload_n 0, 1) := by decide +kernel
theorem dX4_crew_77 : decode cX4_crew 77 = .ok (.getfield 25, 3) := by decide +kernel
theorem dX4_crew_80 : decode cX4_crew 80 = .ok (.iload 4, 2) := by decide +kernel
theorem dX4_crew_82 : decode cX4_crew 82 = .ok (.invokevirtual 207, 3) := by decide +kernel
theorem dX4_crew_85 : decode cX4_crew 85 = .ok (.iload_n 2, 1) := by decide +kernel
theorem dX4_crew_86 : decode cX4_crew 86 = .ok (.if_icmp .lt 6, 3) := by decide +kernel
theorem dX4_crew_89 : decode cX4_crew 89 = .ok (.iload 4, 2) := by decide +kernel
theorem dX4_crew_91 : decode cX4_crew 91 = .ok (.istore_n 3, 1) := by decide +kernel
theorem dX4_crew_92 : decode cX4_crew 92 = .ok (.iinc 4 1, 3) := by decide +kernel
theorem dX4_crew_95 : decode cX4_crew 95 = .ok (.goto (-63), 3) := by decide +kernel
theorem dX4_crew_98 : decode cX4_crew 98 = .ok (.iload_n 3, 1) := by decide +kernel
theorem dX4_crew_99 : decode cX4_crew 99 = .ok (.ireturn, 1) := by decide +kernel
theorem dX4_blocks_0 : decode cX4_blocks 0 = .ok (.aload_n 0, 1) := by decide +kernel
theorem dX4_blocks_1 : decode cX4_blocks 1 = .ok (.getfield 25, 3) := by decide +kernel
theorem dX4_blocks_4 : decode cX4_blocks 4 = .ok (.iload_n 1, 1) := by decide +kernel
theorem dX4_blocks_5 : decode cX4_blocks 5 = .ok (.invokevirtual 85, 3) := by decide +kernel
theorem dX4_blocks_8 : decode cX4_blocks 8 = .ok (.ifCond .ne 5, 3) := by decide +kernel
theorem dX4_blocks_11 : decode cX4_blocks 11 = .ok (.iconst (-1), 1) := by decide +kernel
theorem dX4_blocks_12 : decode cX4_blocks 12 = .ok (.ireturn, 1) := by decide +kernel
theorem dX4_blocks_13 : decode cX4_blocks 13 = .ok (.aload_n 0, 1) := by decide +kernel
theorem dX4_blocks_14 : decode cX4_blocks 14 = .ok (.getfield 35, 3) := by decide +kernel
theorem dX4_blocks_17 : decode cX4_blocks 17 = .ok (.aload_n 0, 1) := by decide +kernel
theorem dX4_blocks_18 : decode cX4_blocks 18 = .ok (.getfield 25, 3) := by decide +kernel
theorem dX4_blocks_21 : decode cX4_blocks 21 = .ok (.iload_n 1, 1) := by decide +kernel
theorem dX4_blocks_22 : decode cX4_blocks 22 = .ok (.invokevirtual 111, 3) := by decide +kernel
theorem dX4_blocks_25 : decode cX4_blocks 25 = .ok (.ifCond .eq 7, 3) := by decide +kernel
theorem dX4_blocks_28 : decode cX4_blocks 28 = .ok (.iconst 0, 1) := by decide +kernel
theorem dX4_blocks_29 : decode cX4_blocks 29 = .ok (.goto 26, 3) := by decide +kernel
theorem dX4_blocks_32 : decode cX4_blocks 32 = .ok (.aload_n 0, 1) := by decide +kernel
theorem dX4_blocks_33 : decode cX4_blocks 33 = .ok (.getfield 35, 3) := by decide +kernel
theorem dX4_blocks_36 : decode cX4_blocks 36 = .ok (.aload_n 0, 1) := by decide +kernel
theorem dX4_blocks_37 : decode cX4_blocks 37 = .ok (.getfield 25, 3) := by decide +kernel
theorem dX4_blocks_40 : decode cX4_blocks 40 = .ok (.iload_n 1, 1) := by decide +kernel
theorem dX4_blocks_41 : decode cX4_blocks 41 = .ok (.aload_n 0, 1) := by decide +kernel
theorem dX4_blocks_42 : decode cX4_blocks 42 = .ok (.getfield 35, 3) := by decide +kernel
theorem dX4_blocks_45 : decode cX4_blocks 45 = .ok (.getfield 101, 3) := by decide +kernel
theorem dX4_blocks_48 : decode cX4_blocks 48 = .ok (.iload_n 1, 1) := by decide +kernel
theorem dX4_blocks_49 : decode cX4_blocks 49 = .ok (.iaload, 1) := by decide +kernel
theorem dX4_blocks_50 : decode cX4_blocks 50 = .ok (.iconst 1, 1) := by decide +kernel
theorem dX4_blocks_51 : decode cX4_blocks 51 = .ok (.iadd, 1) := by decide +kernel
theorem dX4_blocks_52 : decode cX4_blocks 52 = .ok (.invokevirtual 210, 3) := by decide +kernel
theorem dX4_blocks_55 : decode cX4_blocks 55 = .ok (.ireturn, 1) := by decide +kernel
theorem dX4_allPush_0 : decode cX4_allPush 0 = .ok (.aload_n 0, 1) := by decide +kernel
theorem dX4_allPush_1 : decode cX4_allPush 1 = .ok (.getfield 39, 3) := by decide +kernel
theorem dX4_allPush_4 : decode cX4_allPush 4 = .ok (.aload_n 0, 1) := by decide +kernel
theorem dX4_allPush_5 : decode cX4_allPush 5 = .ok (.getfield 35, 3) := by decide +kernel
theorem dX4_allPush_8 : decode cX4_allPush 8 = .ok (.invokevirtual 159, 3) := by decide +kernel
theorem dX4_allPush_11 : decode cX4_allPush 11 = .ok (.iconst 0, 1) := by decide +kernel
theorem dX4_allPush_12 : decode cX4_allPush 12 = .ok (.istore_n 2, 1) := by decide +kernel
theorem dX4_allPush_13 : decode cX4_allPush 13 = .ok (.iload_n 2, 1) := by decide +kernel
theorem dX4_allPush_14 : decode cX4_allPush 14 = .ok (.aload_n 0, 1) := by decide +kernel
theorem dX4_allPush_15 : decode cX4_allPush 15 = .ok (.getfield 25, 3) := by decide +kernel
theorem dX4_allPush_18 : decode cX4_allPush 18 = .ok (.getfield 198, 3) := by decide +kernel
theorem dX4_allPush_21 : decode cX4_allPush 21 = .ok (.if_icmp .ge 19, 3) := by decide +kernel
theorem dX4_allPush_24 : decode cX4_allPush 24 = .ok (.aload_n 0, 1) := by decide +kernel
theorem dX4_allPush_25 : decode cX4_allPush 25 = .ok (.getfield 39, 3) := by decide +kernel
theorem dX4_allPush_28 : decode cX4_allPush 28 = .ok (.getfield 124, 3) := by decide +kernel
theorem dX4_allPush_31 : decode cX4_allPush 31 = .ok (.iload_n 2, 1) := by decide +kernel
theorem dX4_allPush_32 : decode cX4_allPush 32 = .ok (.iload_n 1, 1) := by decide +kernel
theorem dX4_allPush_33 : decode cX4_allPush 33 = .ok (.iastore, 1) := by decide +kernel
theorem dX4_allPush_34 : decode cX4_allPush 34 = .ok (.iinc 2 1, 3) := by decide +kernel
theorem dX4_allPush_37 : decode cX4_allPush 37 = .ok (.goto (-24), 3) := by decide +kernel
theorem dX4_allPush_40 : decode cX4_allPush 40 = .ok (.return_, 1) := by decide +kernel
theorem dX4_written_0 : decode cX4_written 0 = .ok (.iload_n 1, 1) := by decide +kernel
theorem dX4_written_1 : decode cX4_written 1 = .ok (.ifCond .lt 25, 3) := by decide +kernel
theorem dX4_written_4 : decode cX4_written 4 = .ok (.iload_n 1, 1) := by decide +kernel
theorem dX4_written_5 : decode cX4_written 5 = .ok (.aload_n 0, 1) := by decide +kernel
theorem dX4_written_6 : decode cX4_written 6 = .ok (.getfield 35, 3) := by decide +kernel
theorem dX4_written_9 : decode cX4_written 9 = .ok (.getfield 137, 3) := by decide +kernel
theorem dX4_written_12 : decode cX4_written 12 = .ok (.if_icmp .ge 14, 3) := by decide +kernel
theorem dX4_written_15 : decode cX4_written 15 = .ok (.aload_n 0, 1) := by decide +kernel
theorem dX4_written_16 : decode cX4_written 16 = .ok (.getfield 25, 3) := by decide +kernel
theorem dX4_written_19 : decode cX4_written 19 = .ok (.iload_n 2, 1) := by decide +kernel
theorem dX4_written_20 : decode cX4_written 20 = .ok (.invokevirtual 85, 3) := by decide +kernel
theorem dX4_written_23 : decode cX4_written 23 = .ok (.ifCond .ne 5, 3) := by decide +kernel
theorem dX4_written_26 : decode cX4_written 26 = .ok (.iconst (-1), 1) := by decide +kernel
theorem dX4_written_27 : decode cX4_written 27 = .ok (.ireturn, 1) := by decide +kernel
theorem dX4_written_28 : decode cX4_written 28 = .ok (.aload_n 0, 1) := by decide +kernel
theorem dX4_written_29 : decode cX4_written 29 = .ok (.getfield 35, 3) := by decide +kernel
theorem dX4_written_32 : decode cX4_written 32 = .ok (.iload_n 1, 1) := by decide +kernel
theorem dX4_written_33 : decode cX4_written 33 = .ok (.iload_n 2, 1) := by decide +kernel
theorem dX4_written_34 : decode cX4_written 34 = .ok (.invokevirtual 214, 3) := by decide +kernel
theorem dX4_written_37 : decode cX4_written 37 = .ok (.ireturn, 1) := by decide +kernel
theorem dX4_saw_0 : decode cX4_saw 0 = .ok (.aload_n 0, 1) := by decide +kernel
theorem dX4_saw_1 : decode cX4_saw 1 = .ok (.getfield 25, 3) := by decide +kernel
theorem dX4_saw_4 : decode cX4_saw 4 = .ok (.iload_n 1, 1) := by decide +kernel
theorem dX4_saw_5 : decode cX4_saw 5 = .ok (.invokevirtual 85, 3) := by decide +kernel
theorem dX4_saw_8 : decode cX4_saw 8 = .ok (.ifCond .eq 13, 3) := by decide +kernel
theorem dX4_saw_11 : decode cX4_saw 11 = .ok (.iload_n 2, 1) := by decide +kernel
theorem dX4_saw_12 : decode cX4_saw 12 = .ok (.ifCond .lt 9, 3) := by decide +kernel
theorem dX4_saw_15 : decode cX4_saw 15 = .ok (.iload_n 2, 1) := by decide +kernel
theorem dX4_saw_16 : decode cX4_saw 16 = .ok (.bipush 9, 2) := by decide +kernel
theorem dX4_saw_18 : decode cX4_saw 18 = .ok (.if_icmp .le 5, 3) := by decide +kernel
theorem dX4_saw_21 : decode cX4_saw 21 = .ok (.iconst (-1), 1) := by decide +kernel
theorem dX4_saw_22 : decode cX4_saw 22 = .ok (.ireturn, 1) := by decide +kernel
theorem dX4_saw_23 : decode cX4_saw 23 = .ok (.aload_n 0, 1) := by decide +kernel
theorem dX4_saw_24 : decode cX4_saw 24 = .ok (.getfield 82, 3) := by decide +kernel
theorem dX4_saw_27 : decode cX4_saw 27 = .ok (.bipush 6, 2) := by decide +kernel
theorem dX4_saw_29 : decode cX4_saw 29 = .ok (.if_icmp .lt 6, 3) := by decide +kernel
theorem dX4_saw_32 : decode cX4_saw 32 = .ok (.bipush (-3), 2) := by decide +kernel
theorem dX4_saw_34 : decode cX4_saw 34 = .ok (.ireturn, 1) := by decide +kernel
theorem dX4_saw_35 : decode cX4_saw 35 = .ok (.aload_n 0, 1) := by decide +kernel
theorem dX4_saw_36 : decode cX4_saw 36 = .ok (.getfield 53, 3) := by decide +kernel
theorem dX4_saw_39 : decode cX4_saw 39 = .ok (.aload_n 0, 1) := by decide +kernel
theorem dX4_saw_40 : decode cX4_saw 40 = .ok (.getfield 82, 3) := by decide +kernel
theorem dX4_saw_43 : decode cX4_saw 43 = .ok (.iload_n 1, 1) := by decide +kernel
theorem dX4_saw_44 : decode cX4_saw 44 = .ok (.iastore, 1) := by decide +kernel
theorem dX4_saw_45 : decode cX4_saw 45 = .ok (.aload_n 0, 1) := by decide +kernel
theorem dX4_saw_46 : decode cX4_saw 46 = .ok (.getfield 57, 3) := by decide +kernel
theorem dX4_saw_49 : decode cX4_saw 49 = .ok (.aload_n 0, 1) := by decide +kernel
theorem dX4_saw_50 : decode cX4_saw 50 = .ok (.getfield 82, 3) := by decide +kernel
theorem dX4_saw_53 : decode cX4_saw 53 = .ok (.iload_n 2, 1) := by decide +kernel
theorem dX4_saw_54 : decode cX4_saw 54 = .ok (.iastore, 1) := by decide +kernel
theorem dX4_saw_55 : decode cX4_saw 55 = .ok (.aload_n 0, 1) := by decide +kernel
theorem dX4_saw_56 : decode cX4_saw 56 = .ok (.dup, 1) := by decide +kernel
theorem dX4_saw_57 : decode cX4_saw 57 = .ok (.getfield 82, 3) := by decide +kernel
theorem dX4_saw_60 : decode cX4_saw 60 = .ok (.iconst 1, 1) := by decide +kernel
theorem dX4_saw_61 : decode cX4_saw 61 = .ok (.iadd, 1) := by decide +kernel
theorem dX4_saw_62 : decode cX4_saw 62 = .ok (.putfield 82, 3) := by decide +kernel
theorem dX4_saw_65 : decode cX4_saw 65 = .ok (.aload_n 0, 1) := by decide +kernel
theorem dX4_saw_66 : decode cX4_saw 66 = .ok (.getfield 82, 3) := by decide +kernel
theorem dX4_saw_69 : decode cX4_saw 69 = .ok (.ireturn, 1) := by decide +kernel
theorem dX4_forget_0 : decode cX4_forget 0 = .ok (.aload_n 0, 1) := by decide +kernel
theorem dX4_forget_1 : decode cX4_forget 1 = .ok (.getfield 82, 3) := by decide +kernel
theorem dX4_forget_4 : decode cX4_forget 4 = .ok (.istore_n 1, 1) := by decide +kernel
theorem dX4_forget_5 : decode cX4_forget 5 = .ok (.aload_n 0, 1) := by decide +kernel
theorem dX4_forget_6 : decode cX4_forget 6 = .ok (.iconst 0, 1) := by decide +kernel
theorem dX4_forget_7 : decode cX4_forget 7 = .ok (.putfield 82, 3) := by decide +kernel
theorem dX4_forget_10 : decode cX4_forget 10 = .ok (.iload_n 1, 1) := by decide +kernel
theorem dX4_forget_11 : decode cX4_forget 11 = .ok (.ireturn, 1) := by decide +kernel
theorem dX4_evening_0 : decode cX4_evening 0 = .ok (.iconst 0, 1) := by decide +kernel
theorem dX4_evening_1 : decode cX4_evening 1 = .ok (.istore_n 1, 1) := by decide +kernel
theorem dX4_evening_2 : decode cX4_evening 2 = .ok (.iconst 0, 1) := by decide +kernel
theorem dX4_evening_3 : decode cX4_evening 3 = .ok (.istore_n 2, 1) := by decide +kernel
theorem dX4_evening_4 : decode cX4_evening 4 = .ok (.iload_n 2, 1) := by decide +kernel
theorem dX4_evening_5 : decode cX4_evening 5 = .ok (.aload_n 0, 1) := by decide +kernel
theorem dX4_evening_6 : decode cX4_evening 6 = .ok (.getfield 35, 3) := by decide +kernel
theorem dX4_evening_9 : decode cX4_evening 9 = .ok (.getfield 137, 3) := by decide +kernel
theorem dX4_evening_12 : decode cX4_evening 12 = .ok (.if_icmp .ge 23, 3) := by decide +kernel
theorem dX4_evening_15 : decode cX4_evening 15 = .ok (.aload_n 0, 1) := by decide +kernel
theorem dX4_evening_16 : decode cX4_evening 16 = .ok (.iload_n 2, 1) := by decide +kernel
theorem dX4_evening_17 : decode cX4_evening 17 = .ok (.invokevirtual 217, 3) := by decide +kernel
theorem dX4_evening_20 : decode cX4_evening 20 = .ok (.ifCond .eq 9, 3) := by decide +kernel
theorem dX4_evening_23 : decode cX4_evening 23 = .ok (.iload_n 1, 1) := by decide +kernel
theorem dX4_evening_24 : decode cX4_evening 24 = .ok (.iconst 1, 1) := by decide +kernel
theorem dX4_evening_25 : decode cX4_evening 25 = .ok (.iload_n 2, 1) := by decide +kernel
theorem dX4_evening_26 : decode cX4_evening 26 = .ok (.ishl, 1) := by decide +kernel
theorem dX4_evening_27 : decode cX4_evening 27 = .ok (.ior, 1) := by decide +kernel
theorem dX4_evening_28 : decode cX4_evening 28 = .ok (.istore_n 1, 1) := by decide +kernel
theorem dX4_evening_29 : decode cX4_evening 29 = .ok (.iinc 2 1, 3) := by decide +kernel
theorem dX4_evening_32 : decode cX4_evening 32 = .ok (.goto (-28), 3) := by decide +kernel
theorem dX4_evening_35 : decode cX4_evening 35 = .ok (.iload_n 1, 1) := by decide +kernel
theorem dX4_evening_36 : decode cX4_evening 36 = .ok (.ireturn, 1) := by decide +kernel
theorem dX4_odds_0 : decode cX4_odds 0 = .ok (.aload_n 0, 1) := by decide +kernel
theorem dX4_odds_1 : decode cX4_odds 1 = .ok (.getfield 25, 3) := by decide +kernel
theorem dX4_odds_4 : decode cX4_odds 4 = .ok (.iload_n 1, 1) := by decide +kernel
theorem dX4_odds_5 : decode cX4_odds 5 = .ok (.invokevirtual 85, 3) := by decide +kernel
theorem dX4_odds_8 : decode cX4_odds 8 = .ok (.ifCond .eq 34, 3) := by decide +kernel
theorem dX4_odds_11 : decode cX4_odds 11 = .ok (.iload_n 2, 1) := by decide +kernel
theorem dX4_odds_12 : decode cX4_odds 12 = .ok (.iconst 1, 1) := by decide +kernel
theorem dX4_odds_13 : decode cX4_odds 13 = .ok (.if_icmp .lt 29, 3) := by decide +kernel
theorem dX4_odds_16 : decode cX4_odds 16 = .ok (.iload_n 2, 1) := by decide +kernel
theorem dX4_odds_17 : decode cX4_odds 17 = .ok (.iconst 4, 1) := by decide +kernel
theorem dX4_odds_18 : decode cX4_odds 18 = .ok (.if_icmp .gt 24, 3) := by decide +kernel
theorem dX4_odds_21 : decode cX4_odds 21 = .ok (.iload_n 3, 1) := by decide +kernel
theorem dX4_odds_22 : decode cX4_odds 22 = .ok (.ifCond .lt 20, 3) := by decide +kernel
theorem dX4_odds_25 : decode cX4_odds 25 = .ok (.iload_n 3, 1) := by decide +kernel
theorem dX4_odds_26 : decode cX4_odds 26 = .ok (.bipush 10, 2) := by decide +kernel
theorem dX4_odds_28 : decode cX4_odds 28 = .ok (.if_icmp .gt 14, 3) := by decide +kernel
theorem dX4_odds_31 : decode cX4_odds 31 = .ok (.iload 4, 2) := by decide +kernel
theorem dX4_odds_33 : decode cX4_odds 33 = .ok (.ifCond .lt 9, 3) := by decide +kernel
theorem dX4_odds_36 : decode cX4_odds 36 = .ok (.iload 4, 2) := by decide +kernel
theorem dX4_odds_38 : decode cX4_odds 38 = .ok (.iconst 1, 1) := by decide +kernel
theorem dX4_odds_39 : decode cX4_odds 39 = .ok (.if_icmp .le 7, 3) := by decide +kernel
theorem dX4_odds_42 : decode cX4_odds 42 = .ok (.ldc2_w 220, 3) := by decide +kernel
theorem dX4_odds_45 : decode cX4_odds 45 = .ok (.lreturn, 1) := by decide +kernel
theorem dX4_odds_46 : decode cX4_odds 46 = .ok (.iload_n 2, 1) := by decide +kernel
theorem dX4_odds_47 : decode cX4_odds 47 = .ok (.iconst 1, 1) := by decide +kernel
theorem dX4_odds_48 : decode cX4_odds 48 = .ok (.isub, 1) := by decide +kernel
theorem dX4_odds_49 : decode cX4_odds 49 = .ok (.istore 5, 2) := by decide +kernel
theorem dX4_odds_51 : decode cX4_odds 51 = .ok (.lconst 0, 1) := by decide +kernel
theorem dX4_odds_52 : decode cX4_odds 52 = .ok (.lstore 6, 2) := by decide +kernel
theorem dX4_odds_54 : decode cX4_odds 54 = .ok (.iconst 0, 1) := by decide +kernel
theorem dX4_odds_55 : decode cX4_odds 55 = .ok (.istore 8, 2) := by decide +kernel
theorem dX4_odds_57 : decode cX4_odds 57 = .ok (.iload 8, 2) := by decide +kernel
theorem dX4_odds_59 : decode cX4_odds 59 = .ok (.iconst 1, 1) := by decide +kernel
theorem dX4_odds_60 : decode cX4_odds 60 = .ok (.iload 5, 2) := by decide +kernel
theorem dX4_odds_62 : decode cX4_odds 62 = .ok (.ishl, 1) := by decide +kernel
theorem dX4_odds_63 : decode cX4_odds 63 = .ok (.if_icmp .ge 44, 3) := by decide +kernel
theorem dX4_odds_66 : decode cX4_odds 66 = .ok (.iload 5, 2) := by decide +kernel
theorem dX4_odds_68 : decode cX4_odds 68 = .ok (.iload_n 3, 1) := by decide +kernel
theorem dX4_odds_69 : decode cX4_odds 69 = .ok (.iload 8, 2) := by decide +kernel
theorem dX4_odds_71 : decode cX4_odds 71 = .ok (.invokestatic 222, 3) := by decide +kernel
theorem dX4_odds_74 : decode cX4_odds 74 = .ok (.lstore 9, 2) := by decide +kernel
theorem dX4_odds_76 : decode cX4_odds 76 = .ok (.lload 9, 2) := by decide +kernel
theorem dX4_odds_78 : decode cX4_odds 78 = .ok (.lconst 0, 1) := by decide +kernel
theorem dX4_odds_79 : decode cX4_odds 79 = .ok (.lcmp, 1) := by decide +kernel
theorem dX4_odds_80 : decode cX4_odds 80 = .ok (.ifCond .le 21, 3) := by decide +kernel
theorem dX4_odds_83 : decode cX4_odds 83 = .ok (.aload_n 0, 1) := by decide +kernel
theorem dX4_odds_84 : decode cX4_odds 84 = .ok (.iload_n 1, 1) := by decide +kernel
theorem dX4_odds_85 : decode cX4_odds 85 = .ok (.iload_n 2, 1) := by decide +kernel
theorem dX4_odds_86 : decode cX4_odds 86 = .ok (.iload 8, 2) := by decide +kernel
theorem dX4_odds_88 : decode cX4_odds 88 = .ok (.invokevirtual 226, 3) := by decide +kernel
theorem dX4_odds_91 : decode cX4_odds 91 = .ok (.ifCond .eq 10, 3) := by decide +kernel
theorem dX4_odds_94 : decode cX4_odds 94 = .ok (.lload 6, 2) := by decide +kernel
theorem dX4_odds_96 : decode cX4_odds 96 = .ok (.lload 9, 2) := by decide +kernel
theorem dX4_odds_98 : decode cX4_odds 98 = .ok (.ladd, 1) := by decide +kernel
theorem dX4_odds_99 : decode cX4_odds 99 = .ok (.lstore 6, 2) := by decide +kernel
theorem dX4_odds_101 : decode cX4_odds 101 = .ok (.iinc 8 1, 3) := by decide +kernel
theorem dX4_odds_104 : decode cX4_odds 104 = .ok (.goto (-47), 3) := by decide +kernel
theorem dX4_odds_107 : decode cX4_odds 107 = .ok (.bipush 10, 2) := by decide +kernel
theorem dX4_odds_109 : decode cX4_odds 109 = .ok (.iload 5, 2) := by decide +kernel
theorem dX4_odds_111 : decode cX4_odds 111 = .ok (.invokestatic 230, 3) := by decide +kernel
theorem dX4_odds_114 : decode cX4_odds 114 = .ok (.lstore 8, 2) := by decide +kernel
theorem dX4_odds_116 : decode cX4_odds 116 = .ok (.lload 8, 2) := by decide +kernel
theorem dX4_odds_118 : decode cX4_odds 118 = .ok (.lload 6, 2) := by decide +kernel
theorem dX4_odds_120 : decode cX4_odds 120 = .ok (.invokestatic 234, 3) := by decide +kernel
theorem dX4_odds_123 : decode cX4_odds 123 = .ok (.lstore 10, 2) := by decide +kernel
theorem dX4_odds_125 : decode cX4_odds 125 = .ok (.iload 4, 2) := by decide +kernel
theorem dX4_odds_127 : decode cX4_odds 127 = .ok (.ifCond .ne 8, 3) := by decide +kernel
theorem dX4_odds_130 : decode cX4_odds 130 = .ok (.lload 6, 2) := by decide +kernel
theorem dX4_odds_132 : decode cX4_odds 132 = .ok (.goto 5, 3) := by decide +kernel
theorem dX4_odds_135 : decode cX4_odds 135 = .ok (.lload 8, 2) := by decide +kernel
theorem dX4_odds_137 : decode cX4_odds 137 = .ok (.lstore 12, 2) := by decide +kernel
theorem dX4_odds_139 : decode cX4_odds 139 = .ok (.lload 10, 2) := by decide +kernel
theorem dX4_odds_141 : decode cX4_odds 141 = .ok (.lconst 1, 1) := by decide +kernel
theorem dX4_odds_142 : decode cX4_odds 142 = .ok (.lcmp, 1) := by decide +kernel
theorem dX4_odds_143 : decode cX4_odds 143 = .ok (.ifCond .ge 8, 3) := by decide +kernel
theorem dX4_odds_146 : decode cX4_odds 146 = .ok (.lload 12, 2) := by decide +kernel
theorem dX4_odds_148 : decode cX4_odds 148 = .ok (.goto 8, 3) := by decide +kernel
theorem dX4_odds_151 : decode cX4_odds 151 = .ok (.lload 12, 2) := by decide +kernel
theorem dX4_odds_153 : decode cX4_odds 153 = .ok (.lload 10, 2) := by decide +kernel
theorem dX4_odds_155 : decode cX4_odds 155 = .ok (.ldiv, 1) := by decide +kernel
theorem dX4_odds_156 : decode cX4_odds 156 = .ok (.lreturn, 1) := by decide +kernel
theorem dX4_wear_0 : decode cX4_wear 0 = .ok (.aload_n 0, 1) := by decide +kernel
theorem dX4_wear_1 : decode cX4_wear 1 = .ok (.getfield 25, 3) := by decide +kernel
theorem dX4_wear_4 : decode cX4_wear 4 = .ok (.iload_n 1, 1) := by decide +kernel
theorem dX4_wear_5 : decode cX4_wear 5 = .ok (.invokevirtual 85, 3) := by decide +kernel
theorem dX4_wear_8 : decode cX4_wear 8 = .ok (.ifCond .eq 14, 3) := by decide +kernel
theorem dX4_wear_11 : decode cX4_wear 11 = .ok (.iload_n 2, 1) := by decide +kernel
theorem dX4_wear_12 : decode cX4_wear 12 = .ok (.iconst 1, 1) := by decide +kernel
theorem dX4_wear_13 : decode cX4_wear 13 = .ok (.if_icmp .lt 9, 3) := by decide +kernel
theorem dX4_wear_16 : decode cX4_wear 16 = .ok (.iload_n 2, 1) := by decide +kernel
theorem dX4_wear_17 : decode cX4_wear 17 = .ok (.bipush 9, 2) := by decide +kernel
theorem dX4_wear_19 : decode cX4_wear 19 = .ok (.if_icmp .le 5, 3) := by decide +kernel
theorem dX4_wear_22 : decode cX4_wear 22 = .ok (.iconst (-1), 1) := by decide +kernel
theorem dX4_wear_23 : decode cX4_wear 23 = .ok (.ireturn, 1) := by decide +kernel
theorem dX4_wear_24 : decode cX4_wear 24 = .ok (.bipush 8, 2) := by decide +kernel
theorem dX4_wear_26 : decode cX4_wear 26 = .ok (.aload_n 0, 1) := by decide +kernel
theorem dX4_wear_27 : decode cX4_wear 27 = .ok (.getfield 25, 3) := by decide +kernel
theorem dX4_wear_30 : decode cX4_wear 30 = .ok (.getfield 98, 3) := by decide +kernel
theorem dX4_wear_33 : decode cX4_wear 33 = .ok (.iload_n 1, 1) := by decide +kernel
theorem dX4_wear_34 : decode cX4_wear 34 = .ok (.iaload, 1) := by decide +kernel
theorem dX4_wear_35 : decode cX4_wear 35 = .ok (.iconst 1, 1) := by decide +kernel
theorem dX4_wear_36 : decode cX4_wear 36 = .ok (.isub, 1) := by decide +kernel
theorem dX4_wear_37 : decode cX4_wear 37 = .ok (.imul, 1) := by decide +kernel
theorem dX4_wear_38 : decode cX4_wear 38 = .ok (.aload_n 0, 1) := by decide +kernel
theorem dX4_wear_39 : decode cX4_wear 39 = .ok (.getfield 35, 3) := by decide +kernel
theorem dX4_wear_42 : decode cX4_wear 42 = .ok (.getfield 108, 3) := by decide +kernel
theorem dX4_wear_45 : decode cX4_wear 45 = .ok (.iload_n 1, 1) := by decide +kernel
theorem dX4_wear_46 : decode cX4_wear 46 = .ok (.iaload, 1) := by decide +kernel
theorem dX4_wear_47 : decode cX4_wear 47 = .ok (.isub, 1) := by decide +kernel
theorem dX4_wear_48 : decode cX4_wear 48 = .ok (.istore_n 3, 1) := by decide +kernel
theorem dX4_wear_49 : decode cX4_wear 49 = .ok (.iload_n 3, 1) := by decide +kernel
theorem dX4_wear_50 : decode cX4_wear 50 = .ok (.ifCond .gt 7, 3) := by decide +kernel
theorem dX4_wear_53 : decode cX4_wear 53 = .ok (.iconst 0, 1) := by decide +kernel
theorem dX4_wear_54 : decode cX4_wear 54 = .ok (.goto 10, 3) := by decide +kernel
theorem dX4_wear_57 : decode cX4_wear 57 = .ok (.iload_n 3, 1) := by decide +kernel
theorem dX4_wear_58 : decode cX4_wear 58 = .ok (.iload_n 2, 1) := by decide +kernel
theorem dX4_wear_59 : decode cX4_wear 59 = .ok (.iadd, 1) := by decide +kernel
theorem dX4_wear_60 : decode cX4_wear 60 = .ok (.iconst 1, 1) := by decide +kernel
theorem dX4_wear_61 : decode cX4_wear 61 = .ok (.isub, 1) := by decide +kernel
theorem dX4_wear_62 : decode cX4_wear 62 = .ok (.iload_n 2, 1) := by decide +kernel
theorem dX4_wear_63 : decode cX4_wear 63 = .ok (.idiv, 1) := by decide +kernel
theorem dX4_wear_64 : decode cX4_wear 64 = .ok (.ireturn, 1) := by decide +kernel
theorem dX4_agrees_0 : decode cX4_agrees 0 = .ok (.iconst 0, 1) := by decide +kernel
theorem dX4_agrees_1 : decode cX4_agrees 1 = .ok (.istore_n 2, 1) := by decide +kernel
theorem dX4_agrees_2 : decode cX4_agrees 2 = .ok (.iload_n 2, 1) := by decide +kernel
theorem dX4_agrees_3 : decode cX4_agrees 3 = .ok (.aload_n 0, 1) := by decide +kernel
theorem dX4_agrees_4 : decode cX4_agrees 4 = .ok (.getfield 82, 3) := by decide +kernel
theorem dX4_agrees_7 : decode cX4_agrees 7 = .ok (.if_icmp .ge 34, 3) := by decide +kernel
theorem dX4_agrees_10 : decode cX4_agrees 10 = .ok (.aload_n 0, 1) := by decide +kernel
theorem dX4_agrees_11 : decode cX4_agrees 11 = .ok (.getfield 35, 3) := by decide +kernel
theorem dX4_agrees_14 : decode cX4_agrees 14 = .ok (.iload_n 1, 1) := by decide +kernel
theorem dX4_agrees_15 : decode cX4_agrees 15 = .ok (.aload_n 0, 1) := by decide +kernel
theorem dX4_agrees_16 : decode cX4_agrees 16 = .ok (.getfield 53, 3) := by decide +kernel
theorem dX4_agrees_19 : decode cX4_agrees 19 = .ok (.iload_n 2, 1) := by decide +kernel
theorem dX4_agrees_20 : decode cX4_agrees 20 = .ok (.iaload, 1) := by decide +kernel
theorem dX4_agrees_21 : decode cX4_agrees 21 = .ok (.invokevirtual 214, 3) := by decide +kernel
theorem dX4_agrees_24 : decode cX4_agrees 24 = .ok (.aload_n 0, 1) := by decide +kernel
theorem dX4_agrees_25 : decode cX4_agrees 25 = .ok (.getfield 57, 3) := by decide +kernel
theorem dX4_agrees_28 : decode cX4_agrees 28 = .ok (.iload_n 2, 1) := by decide +kernel
theorem dX4_agrees_29 : decode cX4_agrees 29 = .ok (.iaload, 1) := by decide +kernel
theorem dX4_agrees_30 : decode cX4_agrees 30 = .ok (.if_icmp .eq 5, 3) := by decide +kernel
theorem dX4_agrees_33 : decode cX4_agrees 33 = .ok (.iconst 0, 1) := by decide +kernel
theorem dX4_agrees_34 : decode cX4_agrees 34 = .ok (.ireturn, 1) := by decide +kernel
theorem dX4_agrees_35 : decode cX4_agrees 35 = .ok (.iinc 2 1, 3) := by decide +kernel
theorem dX4_agrees_38 : decode cX4_agrees 38 = .ok (.goto (-36), 3) := by decide +kernel
theorem dX4_agrees_41 : decode cX4_agrees 41 = .ok (.iconst 1, 1) := by decide +kernel
theorem dX4_agrees_42 : decode cX4_agrees 42 = .ok (.ireturn, 1) := by decide +kernel
theorem dX4_rainWeight_0 : decode cX4_rainWeight 0 = .ok (.iload_n 2, 1) := by decide +kernel
theorem dX4_rainWeight_1 : decode cX4_rainWeight 1 = .ok (.invokestatic 201, 3) := by decide +kernel
theorem dX4_rainWeight_4 : decode cX4_rainWeight 4 = .ok (.istore_n 3, 1) := by decide +kernel
theorem dX4_rainWeight_5 : decode cX4_rainWeight 5 = .ok (.iload_n 1, 1) := by decide +kernel
theorem dX4_rainWeight_6 : decode cX4_rainWeight 6 = .ok (.iload_n 3, 1) := by decide +kernel
theorem dX4_rainWeight_7 : decode cX4_rainWeight 7 = .ok (.invokestatic 230, 3) := by decide +kernel
theorem dX4_rainWeight_10 : decode cX4_rainWeight 10 = .ok (.bipush 10, 2) := by decide +kernel
theorem dX4_rainWeight_12 : decode cX4_rainWeight 12 = .ok (.iload_n 1, 1) := by decide +kernel
theorem dX4_rainWeight_13 : decode cX4_rainWeight 13 = .ok (.isub, 1) := by decide +kernel
theorem dX4_rainWeight_14 : decode cX4_rainWeight 14 = .ok (.iload_n 0, 1) := by decide +kernel
theorem dX4_rainWeight_15 : decode cX4_rainWeight 15 = .ok (.iload_n 3, 1) := by decide +kernel
theorem dX4_rainWeight_16 : decode cX4_rainWeight 16 = .ok (.isub, 1) := by decide +kernel
theorem dX4_rainWeight_17 : decode cX4_rainWeight 17 = .ok (.invokestatic 230, 3) := by decide +kernel
theorem dX4_rainWeight_20 : decode cX4_rainWeight 20 = .ok (.lmul, 1) := by decide +kernel
theorem dX4_rainWeight_21 : decode cX4_rainWeight 21 = .ok (.lreturn, 1) := by decide +kernel
theorem dX4_isOverBehind_0 : decode cX4_isOverBehind 0 = .ok (.aload_n 0, 1) := by decide +kernel
theorem dX4_isOverBehind_1 : decode cX4_isOverBehind 1 = .ok (.iload_n 1, 1) := by decide +kernel
theorem dX4_isOverBehind_2 : decode cX4_isOverBehind 2 = .ok (.invokevirtual 176, 3) := by decide +kernel
theorem dX4_isOverBehind_5 : decode cX4_isOverBehind 5 = .ok (.iconst 0, 1) := by decide +kernel
theorem dX4_isOverBehind_6 : decode cX4_isOverBehind 6 = .ok (.istore 4, 2) := by decide +kernel
theorem dX4_isOverBehind_8 : decode cX4_isOverBehind 8 = .ok (.iload 4, 2) := by decide +kernel
theorem dX4_isOverBehind_10 : decode cX4_isOverBehind 10 = .ok (.iload_n 2, 1) := by decide +kernel
theorem dX4_isOverBehind_11 : decode cX4_isOverBehind 11 = .ok (.if_icmp .ge 63, 3) := by decide +kernel
theorem dX4_isOverBehind_14 : decode cX4_isOverBehind 14 = .ok (.aload_n 0, 1) := by decide +kernel
theorem dX4_isOverBehind_15 : decode cX4_isOverBehind 15 = .ok (.getfield 39, 3) := by decide +kernel
theorem dX4_isOverBehind_18 : decode cX4_isOverBehind 18 = .ok (.aload_n 0, 1) := by decide +kernel
theorem dX4_isOverBehind_19 : decode cX4_isOverBehind 19 = .ok (.getfield 25, 3) := by decide +kernel
theorem dX4_isOverBehind_22 : decode cX4_isOverBehind 22 = .ok (.invokevirtual 180, 3) := by decide +kernel
theorem dX4_isOverBehind_25 : decode cX4_isOverBehind 25 = .ok (.aload_n 0, 1) := by decide +kernel
theorem dX4_isOverBehind_26 : decode cX4_isOverBehind 26 = .ok (.getfield 39, 3) := by decide +kernel
theorem dX4_isOverBehind_29 : decode cX4_isOverBehind 29 = .ok (.aload_n 0, 1) := by decide +kernel
theorem dX4_isOverBehind_30 : decode cX4_isOverBehind 30 = .ok (.getfield 25, 3) := by decide +kernel
theorem dX4_isOverBehind_33 : decode cX4_isOverBehind 33 = .ok (.iload_n 1, 1) := by decide +kernel
theorem dX4_isOverBehind_34 : decode cX4_isOverBehind 34 = .ok (.invokevirtual 111, 3) := by decide +kernel
theorem dX4_isOverBehind_37 : decode cX4_isOverBehind 37 = .ok (.ifCond .eq 5, 3) := by decide +kernel
theorem dX4_isOverBehind_40 : decode cX4_isOverBehind 40 = .ok (.iconst 1, 1) := by decide +kernel
theorem dX4_isOverBehind_41 : decode cX4_isOverBehind 41 = .ok (.ireturn, 1) := by decide +kernel
theorem dX4_isOverBehind_42 : decode cX4_isOverBehind 42 = .ok (.aload_n 0, 1) := by decide +kernel
theorem dX4_isOverBehind_43 : decode cX4_isOverBehind 43 = .ok (.getfield 39, 3) := by decide +kernel
theorem dX4_isOverBehind_46 : decode cX4_isOverBehind 46 = .ok (.aload_n 0, 1) := by decide +kernel
theorem dX4_isOverBehind_47 : decode cX4_isOverBehind 47 = .ok (.getfield 25, 3) := by decide +kernel
theorem dX4_isOverBehind_50 : decode cX4_isOverBehind 50 = .ok (.iload_n 3, 1) := by decide +kernel
theorem dX4_isOverBehind_51 : decode cX4_isOverBehind 51 = .ok (.iload 4, 2) := by decide +kernel
theorem dX4_isOverBehind_53 : decode cX4_isOverBehind 53 = .ok (.ishr, 1) := by decide +kernel
theorem dX4_isOverBehind_54 : decode cX4_isOverBehind 54 = .ok (.iconst 1, 1) := by decide +kernel
theorem dX4_isOverBehind_55 : decode cX4_isOverBehind 55 = .ok (.iand, 1) := by decide +kernel
theorem dX4_isOverBehind_56 : decode cX4_isOverBehind 56 = .ok (.iconst 1, 1) := by decide +kernel
theorem dX4_isOverBehind_57 : decode cX4_isOverBehind 57 = .ok (.if_icmp .ne 7, 3) := by decide +kernel
theorem dX4_isOverBehind_60 : decode cX4_isOverBehind 60 = .ok (.iconst 1, 1) := by decide +kernel
theorem dX4_isOverBehind_61 : decode cX4_isOverBehind 61 = .ok (.goto 4, 3) := by decide +kernel
theorem dX4_isOverBehind_64 : decode cX4_isOverBehind 64 = .ok (.iconst 0, 1) := by decide +kernel
theorem dX4_isOverBehind_65 : decode cX4_isOverBehind 65 = .ok (.invokevirtual 152, 3) := by decide +kernel
theorem dX4_isOverBehind_68 : decode cX4_isOverBehind 68 = .ok (.iinc 4 1, 3) := by decide +kernel
theorem dX4_isOverBehind_71 : decode cX4_isOverBehind 71 = .ok (.goto (-63), 3) := by decide +kernel
theorem dX4_isOverBehind_74 : decode cX4_isOverBehind 74 = .ok (.iconst 0, 1) := by decide +kernel
theorem dX4_isOverBehind_75 : decode cX4_isOverBehind 75 = .ok (.ireturn, 1) := by decide +kernel
theorem dX4_power_0 : decode cX4_power 0 = .ok (.lconst 1, 1) := by decide +kernel
theorem dX4_power_1 : decode cX4_power 1 = .ok (.lstore_n 2, 1) := by decide +kernel
theorem dX4_power_2 : decode cX4_power 2 = .ok (.iconst 0, 1) := by decide +kernel
theorem dX4_power_3 : decode cX4_power 3 = .ok (.istore 4, 2) := by decide +kernel
theorem dX4_power_5 : decode cX4_power 5 = .ok (.iload 4, 2) := by decide +kernel
theorem dX4_power_7 : decode cX4_power 7 = .ok (.iload_n 1, 1) := by decide +kernel
theorem dX4_power_8 : decode cX4_power 8 = .ok (.if_icmp .ge 14, 3) := by decide +kernel
theorem dX4_power_11 : decode cX4_power 11 = .ok (.lload_n 2, 1) := by decide +kernel
theorem dX4_power_12 : decode cX4_power 12 = .ok (.iload_n 0, 1) := by decide +kernel
theorem dX4_power_13 : decode cX4_power 13 = .ok (.i2l, 1) := by decide +kernel
theorem dX4_power_14 : decode cX4_power 14 = .ok (.lmul, 1) := by decide +kernel
theorem dX4_power_15 : decode cX4_power 15 = .ok (.lstore_n 2, 1) := by decide +kernel
theorem dX4_power_16 : decode cX4_power 16 = .ok (.iinc 4 1, 3) := by decide +kernel
theorem dX4_power_19 : decode cX4_power 19 = .ok (.goto (-14), 3) := by decide +kernel
theorem dX4_power_22 : decode cX4_power 22 = .ok (.lload_n 2, 1) := by decide +kernel
theorem dX4_power_23 : decode cX4_power 23 = .ok (.lreturn, 1) := by decide +kernel
theorem dX4_commonDivisor_0 : decode cX4_commonDivisor 0 = .ok (.iconst 0, 1) := by decide +kernel
theorem dX4_commonDivisor_1 : decode cX4_commonDivisor 1 = .ok (.istore 4, 2) := by decide +kernel
theorem dX4_commonDivisor_3 : decode cX4_commonDivisor 3 = .ok (.iload 4, 2) := by decide +kernel
theorem dX4_commonDivisor_5 : decode cX4_commonDivisor 5 = .ok (.bipush 100, 2) := by decide +kernel
theorem dX4_commonDivisor_7 : decode cX4_commonDivisor 7 = .ok (.if_icmp .ge 25, 3) := by decide +kernel
theorem dX4_commonDivisor_10 : decode cX4_commonDivisor 10 = .ok (.lload_n 2, 1) := by decide +kernel
theorem dX4_commonDivisor_11 : decode cX4_commonDivisor 11 = .ok (.lconst 0, 1) := by decide +kernel
theorem dX4_commonDivisor_12 : decode cX4_commonDivisor 12 = .ok (.lcmp, 1) := by decide +kernel
theorem dX4_commonDivisor_13 : decode cX4_commonDivisor 13 = .ok (.ifCond .eq 19, 3) := by decide +kernel
theorem dX4_commonDivisor_16 : decode cX4_commonDivisor 16 = .ok (.lload_n 0, 1) := by decide +kernel
theorem dX4_commonDivisor_17 : decode cX4_commonDivisor 17 = .ok (.lload_n 2, 1) := by decide +kernel
theorem dX4_commonDivisor_18 : decode cX4_commonDivisor 18 = .ok (.lrem, 1) := by decide +kernel
theorem dX4_commonDivisor_19 : decode cX4_commonDivisor 19 = .ok (.lstore 5, 2) := by decide +kernel
theorem dX4_commonDivisor_21 : decode cX4_commonDivisor 21 = .ok (.lload_n 2, 1) := by decide +kernel
theorem dX4_commonDivisor_22 : decode cX4_commonDivisor 22 = .ok (.lstore_n 0, 1) := by decide +kernel
theorem dX4_commonDivisor_23 : decode cX4_commonDivisor 23 = .ok (.lload 5, 2) := by decide +kernel
theorem dX4_commonDivisor_25 : decode cX4_commonDivisor 25 = .ok (.lstore_n 2, 1) := by decide +kernel
theorem dX4_commonDivisor_26 : decode cX4_commonDivisor 26 = .ok (.iinc 4 1, 3) := by decide +kernel
theorem dX4_commonDivisor_29 : decode cX4_commonDivisor 29 = .ok (.goto (-26), 3) := by decide +kernel
theorem dX4_commonDivisor_32 : decode cX4_commonDivisor 32 = .ok (.lload_n 0, 1) := by decide +kernel
theorem dX4_commonDivisor_33 : decode cX4_commonDivisor 33 = .ok (.lreturn, 1) := by decide +kernel
theorem dX4_rate_0 : decode cX4_rate 0 = .ok (.iload_n 1, 1) := by decide +kernel
theorem dX4_rate_1 : decode cX4_rate 1 = .ok (.ifCond .lt 19, 3) := by decide +kernel
theorem dX4_rate_4 : decode cX4_rate 4 = .ok (.iload_n 1, 1) := by decide +kernel
theorem dX4_rate_5 : decode cX4_rate 5 = .ok (.iconst 5, 1) := by decide +kernel
theorem dX4_rate_6 : decode cX4_rate 6 = .ok (.if_icmp .gt 14, 3) := by decide +kernel
theorem dX4_rate_9 : decode cX4_rate 9 = .ok (.aload_n 0, 1) := by decide +kernel
theorem dX4_rate_10 : decode cX4_rate 10 = .ok (.getfield 25, 3) := by decide +kernel
theorem dX4_rate_13 : decode cX4_rate 13 = .ok (.iload_n 2, 1) := by decide +kernel
theorem dX4_rate_14 : decode cX4_rate 14 = .ok (.invokevirtual 85, 3) := by decide +kernel
theorem dX4_rate_17 : decode cX4_rate 17 = .ok (.ifCond .ne 6, 3) := by decide +kernel
theorem dX4_rate_20 : decode cX4_rate 20 = .ok (.ldc 238, 2) := by decide +kernel
theorem dX4_rate_22 : decode cX4_rate 22 = .ok (.ireturn, 1) := by decide +kernel
theorem dX4_rate_23 : decode cX4_rate 23 = .ok (.aload_n 0, 1) := by decide +kernel
theorem dX4_rate_24 : decode cX4_rate 24 = .ok (.iload_n 1, 1) := by decide +kernel
theorem dX4_rate_25 : decode cX4_rate 25 = .ok (.iload_n 2, 1) := by decide +kernel
theorem dX4_rate_26 : decode cX4_rate 26 = .ok (.invokevirtual 239, 3) := by decide +kernel
theorem dX4_rate_29 : decode cX4_rate 29 = .ok (.ireturn, 1) := by decide +kernel
theorem dX4_keep_0 : decode cX4_keep 0 = .ok (.iload_n 1, 1) := by decide +kernel
theorem dX4_keep_1 : decode cX4_keep 1 = .ok (.ifCond .lt 8, 3) := by decide +kernel
theorem dX4_keep_4 : decode cX4_keep 4 = .ok (.iload_n 1, 1) := by decide +kernel
theorem dX4_keep_5 : decode cX4_keep 5 = .ok (.iconst 2, 1) := by decide +kernel
theorem dX4_keep_6 : decode cX4_keep 6 = .ok (.if_icmp .lt 5, 3) := by decide +kernel
theorem dX4_keep_9 : decode cX4_keep 9 = .ok (.iconst (-1), 1) := by decide +kernel
theorem dX4_keep_10 : decode cX4_keep 10 = .ok (.ireturn, 1) := by decide +kernel
theorem dX4_keep_11 : decode cX4_keep 11 = .ok (.aload_n 0, 1) := by decide +kernel
theorem dX4_keep_12 : decode cX4_keep 12 = .ok (.getfield 46, 3) := by decide +kernel
theorem dX4_keep_15 : decode cX4_keep 15 = .ok (.iload_n 1, 1) := by decide +kernel
theorem dX4_keep_16 : decode cX4_keep 16 = .ok (.aaload, 1) := by decide +kernel
theorem dX4_keep_17 : decode cX4_keep 17 = .ok (.aload_n 0, 1) := by decide +kernel
theorem dX4_keep_18 : decode cX4_keep 18 = .ok (.getfield 35, 3) := by decide +kernel
theorem dX4_keep_21 : decode cX4_keep 21 = .ok (.invokevirtual 159, 3) := by decide +kernel
theorem dX4_keep_24 : decode cX4_keep 24 = .ok (.aload_n 0, 1) := by decide +kernel
theorem dX4_keep_25 : decode cX4_keep 25 = .ok (.getfield 49, 3) := by decide +kernel
theorem dX4_keep_28 : decode cX4_keep 28 = .ok (.iload_n 1, 1) := by decide +kernel
theorem dX4_keep_29 : decode cX4_keep 29 = .ok (.iconst 1, 1) := by decide +kernel
theorem dX4_keep_30 : decode cX4_keep 30 = .ok (.bastore, 1) := by decide +kernel
theorem dX4_keep_31 : decode cX4_keep 31 = .ok (.aload_n 0, 1) := by decide +kernel
theorem dX4_keep_32 : decode cX4_keep 32 = .ok (.getfield 35, 3) := by decide +kernel
theorem dX4_keep_35 : decode cX4_keep 35 = .ok (.getfield 127, 3) := by decide +kernel
theorem dX4_keep_38 : decode cX4_keep 38 = .ok (.ireturn, 1) := by decide +kernel
theorem dX4_back_0 : decode cX4_back 0 = .ok (.iload_n 1, 1) := by decide +kernel
theorem dX4_back_1 : decode cX4_back 1 = .ok (.ifCond .lt 8, 3) := by decide +kernel
theorem dX4_back_4 : decode cX4_back 4 = .ok (.iload_n 1, 1) := by decide +kernel
theorem dX4_back_5 : decode cX4_back 5 = .ok (.iconst 2, 1) := by decide +kernel
theorem dX4_back_6 : decode cX4_back 6 = .ok (.if_icmp .lt 5, 3) := by decide +kernel
theorem dX4_back_9 : decode cX4_back 9 = .ok (.iconst (-1), 1) := by decide +kernel
theorem dX4_back_10 : decode cX4_back 10 = .ok (.ireturn, 1) := by decide +kernel
theorem dX4_back_11 : decode cX4_back 11 = .ok (.aload_n 0, 1) := by decide +kernel
theorem dX4_back_12 : decode cX4_back 12 = .ok (.getfield 49, 3) := by decide +kernel
theorem dX4_back_15 : decode cX4_back 15 = .ok (.iload_n 1, 1) := by decide +kernel
theorem dX4_back_16 : decode cX4_back 16 = .ok (.baload, 1) := by decide +kernel
theorem dX4_back_17 : decode cX4_back 17 = .ok (.ifCond .ne 6, 3) := by decide +kernel
theorem dX4_back_20 : decode cX4_back 20 = .ok (.bipush (-2), 2) := by decide +kernel
theorem dX4_back_22 : decode cX4_back 22 = .ok (.ireturn, 1) := by decide +kernel
theorem dX4_back_23 : decode cX4_back 23 = .ok (.aload_n 0, 1) := by decide +kernel
theorem dX4_back_24 : decode cX4_back 24 = .ok (.getfield 35, 3) := by decide +kernel
theorem dX4_back_27 : decode cX4_back 27 = .ok (.aload_n 0, 1) := by decide +kernel
theorem dX4_back_28 : decode cX4_back 28 = .ok (.getfield 46, 3) := by decide +kernel
theorem dX4_back_31 : decode cX4_back 31 = .ok (.iload_n 1, 1) := by decide +kernel
theorem dX4_back_32 : decode cX4_back 32 = .ok (.aaload, 1) := by decide +kernel
theorem dX4_back_33 : decode cX4_back 33 = .ok (.invokevirtual 159, 3) := by decide +kernel
theorem dX4_back_36 : decode cX4_back 36 = .ok (.aload_n 0, 1) := by decide +kernel
theorem dX4_back_37 : decode cX4_back 37 = .ok (.iconst 0, 1) := by decide +kernel
theorem dX4_back_38 : decode cX4_back 38 = .ok (.putfield 79, 3) := by decide +kernel
theorem dX4_back_41 : decode cX4_back 41 = .ok (.aload_n 0, 1) := by decide +kernel
theorem dX4_back_42 : decode cX4_back 42 = .ok (.getfield 35, 3) := by decide +kernel
theorem dX4_back_45 : decode cX4_back 45 = .ok (.getfield 127, 3) := by decide +kernel
theorem dX4_back_48 : decode cX4_back 48 = .ok (.ireturn, 1) := by decide +kernel
theorem dX4_count_0 : decode cX4_count 0 = .ok (.iload_n 1, 1) := by decide +kernel
theorem dX4_count_1 : decode cX4_count 1 = .ok (.tableswitch 93 0 6 #[43, 51, 59, 67, 75, 83, 88], 43) := by decide +kernel
theorem dX4_count_44 : decode cX4_count 44 = .ok (.aload_n 0, 1) := by decide +kernel
theorem dX4_count_45 : decode cX4_count 45 = .ok (.getfield 25, 3) := by decide +kernel
theorem dX4_count_48 : decode cX4_count 48 = .ok (.getfield 242, 3) := by decide +kernel
theorem dX4_count_51 : decode cX4_count 51 = .ok (.ireturn, 1) := by decide +kernel
theorem dX4_count_52 : decode cX4_count 52 = .ok (.aload_n 0, 1) := by decide +kernel
theorem dX4_count_53 : decode cX4_count 53 = .ok (.getfield 25, 3) := by decide +kernel
theorem dX4_count_56 : decode cX4_count 56 = .ok (.getfield 245, 3) := by decide +kernel
theorem dX4_count_59 : decode cX4_count 59 = .ok (.ireturn, 1) := by decide +kernel
theorem dX4_count_60 : decode cX4_count 60 = .ok (.aload_n 0, 1) := by decide +kernel
theorem dX4_count_61 : decode cX4_count 61 = .ok (.getfield 25, 3) := by decide +kernel
theorem dX4_count_64 : decode cX4_count 64 = .ok (.getfield 198, 3) := by decide +kernel
theorem dX4_count_67 : decode cX4_count 67 = .ok (.ireturn, 1) := by decide +kernel
theorem dX4_count_68 : decode cX4_count 68 = .ok (.aload_n 0, 1) := by decide +kernel
theorem dX4_count_69 : decode cX4_count 69 = .ok (.getfield 25, 3) := by decide +kernel
theorem dX4_count_72 : decode cX4_count 72 = .ok (.getfield 146, 3) := by decide +kernel
theorem dX4_count_75 : decode cX4_count 75 = .ok (.ireturn, 1) := by decide +kernel
theorem dX4_count_76 : decode cX4_count 76 = .ok (.aload_n 0, 1) := by decide +kernel
theorem dX4_count_77 : decode cX4_count 77 = .ok (.getfield 25, 3) := by decide +kernel
theorem dX4_count_80 : decode cX4_count 80 = .ok (.getfield 248, 3) := by decide +kernel
theorem dX4_count_83 : decode cX4_count 83 = .ok (.ireturn, 1) := by decide +kernel
theorem dX4_count_84 : decode cX4_count 84 = .ok (.aload_n 0, 1) := by decide +kernel
theorem dX4_count_85 : decode cX4_count 85 = .ok (.getfield 82, 3) := by decide +kernel
theorem dX4_count_88 : decode cX4_count 88 = .ok (.ireturn, 1) := by decide +kernel
theorem dX4_count_89 : decode cX4_count 89 = .ok (.aload_n 0, 1) := by decide +kernel
theorem dX4_count_90 : decode cX4_count 90 = .ok (.getfield 71, 3) := by decide +kernel
theorem dX4_count_93 : decode cX4_count 93 = .ok (.ireturn, 1) := by decide +kernel
theorem dX4_count_94 : decode cX4_count 94 = .ok (.iconst (-1), 1) := by decide +kernel
theorem dX4_count_95 : decode cX4_count 95 = .ok (.ireturn, 1) := by decide +kernel
theorem dX4_trace_0 : decode cX4_trace 0 = .ok (.aload_n 0, 1) := by decide +kernel
theorem dX4_trace_1 : decode cX4_trace 1 = .ok (.getfield 251, 3) := by decide +kernel
theorem dX4_trace_4 : decode cX4_trace 4 = .ok (.lreturn, 1) := by decide +kernel
theorem dX4_rateAs_0 : decode cX4_rateAs 0 = .ok (.aload_n 0, 1) := by decide +kernel
theorem dX4_rateAs_1 : decode cX4_rateAs 1 = .ok (.dup, 1) := by decide +kernel
theorem dX4_rateAs_2 : decode cX4_rateAs 2 = .ok (.getfield 251, 3) := by decide +kernel
theorem dX4_rateAs_5 : decode cX4_rateAs 5 = .ok (.getstatic 255, 3) := by decide +kernel
theorem dX4_rateAs_8 : decode cX4_rateAs 8 = .ok (.iload_n 1, 1) := by decide +kernel
theorem dX4_rateAs_9 : decode cX4_rateAs 9 = .ok (.iaload, 1) := by decide +kernel
theorem dX4_rateAs_10 : decode cX4_rateAs 10 = .ok (.i2l, 1) := by decide +kernel
theorem dX4_rateAs_11 : decode cX4_rateAs 11 = .ok (.ladd, 1) := by decide +kernel
theorem dX4_rateAs_12 : decode cX4_rateAs 12 = .ok (.putfield 251, 3) := by decide +kernel
theorem dX4_rateAs_15 : decode cX4_rateAs 15 = .ok (.iload_n 1, 1) := by decide +kernel
theorem dX4_rateAs_16 : decode cX4_rateAs 16 = .ok (.ifCond .ne 16, 3) := by decide +kernel
theorem dX4_rateAs_19 : decode cX4_rateAs 19 = .ok (.aload_n 0, 1) := by decide +kernel
theorem dX4_rateAs_20 : decode cX4_rateAs 20 = .ok (.getfield 35, 3) := by decide +kernel
theorem dX4_rateAs_23 : decode cX4_rateAs 23 = .ok (.aload_n 0, 1) := by decide +kernel
theorem dX4_rateAs_24 : decode cX4_rateAs 24 = .ok (.getfield 25, 3) := by decide +kernel
theorem dX4_rateAs_27 : decode cX4_rateAs 27 = .ok (.iload_n 2, 1) := by decide +kernel
theorem dX4_rateAs_28 : decode cX4_rateAs 28 = .ok (.invokevirtual 104, 3) := by decide +kernel
theorem dX4_rateAs_31 : decode cX4_rateAs 31 = .ok (.ireturn, 1) := by decide +kernel
theorem dX4_rateAs_32 : decode cX4_rateAs 32 = .ok (.aload_n 0, 1) := by decide +kernel
theorem dX4_rateAs_33 : decode cX4_rateAs 33 = .ok (.getstatic 258, 3) := by decide +kernel
theorem dX4_rateAs_36 : decode cX4_rateAs 36 = .ok (.iload_n 1, 1) := by decide +kernel
theorem dX4_rateAs_37 : decode cX4_rateAs 37 = .ok (.iaload, 1) := by decide +kernel
theorem dX4_rateAs_38 : decode cX4_rateAs 38 = .ok (.iload_n 2, 1) := by decide +kernel
theorem dX4_rateAs_39 : decode cX4_rateAs 39 = .ok (.invokevirtual 239, 3) := by decide +kernel
theorem dX4_rateAs_42 : decode cX4_rateAs 42 = .ok (.istore_n 3, 1) := by decide +kernel
theorem dX4_rateAs_43 : decode cX4_rateAs 43 = .ok (.iload_n 1, 1) := by decide +kernel
theorem dX4_rateAs_44 : decode cX4_rateAs 44 = .ok (.tableswitch 64 1 4 #[32, 44, 56, 60], 32) := by decide +kernel
theorem dX4_rateAs_76 : decode cX4_rateAs 76 = .ok (.iload_n 3, 1) := by decide +kernel
theorem dX4_rateAs_77 : decode cX4_rateAs 77 = .ok (.aload_n 0, 1) := by decide +kernel
theorem dX4_rateAs_78 : decode cX4_rateAs 78 = .ok (.getfield 35, 3) := by decide +kernel
theorem dX4_rateAs_81 : decode cX4_rateAs 81 = .ok (.getfield 101, 3) := by decide +kernel
theorem dX4_rateAs_84 : decode cX4_rateAs 84 = .ok (.iload_n 2, 1) := by decide +kernel
theorem dX4_rateAs_85 : decode cX4_rateAs 85 = .ok (.iaload, 1) := by decide +kernel
theorem dX4_rateAs_86 : decode cX4_rateAs 86 = .ok (.iadd, 1) := by decide +kernel
theorem dX4_rateAs_87 : decode cX4_rateAs 87 = .ok (.ireturn, 1) := by decide +kernel
theorem dX4_rateAs_88 : decode cX4_rateAs 88 = .ok (.iload_n 3, 1) := by decide +kernel
theorem dX4_rateAs_89 : decode cX4_rateAs 89 = .ok (.aload_n 0, 1) := by decide +kernel
theorem dX4_rateAs_90 : decode cX4_rateAs 90 = .ok (.getfield 25, 3) := by decide +kernel
theorem dX4_rateAs_93 : decode cX4_rateAs 93 = .ok (.getfield 92, 3) := by decide +kernel
theorem dX4_rateAs_96 : decode cX4_rateAs 96 = .ok (.iload_n 2, 1) := by decide +kernel
theorem dX4_rateAs_97 : decode cX4_rateAs 97 = .ok (.iaload, 1) := by decide +kernel
theorem dX4_rateAs_98 : decode cX4_rateAs 98 = .ok (.isub, 1) := by decide +kernel
theorem dX4_rateAs_99 : decode cX4_rateAs 99 = .ok (.ireturn, 1) := by decide +kernel
theorem dX4_rateAs_100 : decode cX4_rateAs 100 = .ok (.iconst 2, 1) := by decide +kernel
theorem dX4_rateAs_101 : decode cX4_rateAs 101 = .ok (.iload_n 3, 1) := by decide +kernel
theorem dX4_rateAs_102 : decode cX4_rateAs 102 = .ok (.imul, 1) := by decide +kernel
theorem dX4_rateAs_103 : decode cX4_rateAs 103 = .ok (.ireturn, 1) := by decide +kernel
theorem dX4_rateAs_104 : decode cX4_rateAs 104 = .ok (.iload_n 3, 1) := by decide +kernel
theorem dX4_rateAs_105 : decode cX4_rateAs 105 = .ok (.iload_n 2, 1) := by decide +kernel
theorem dX4_rateAs_106 : decode cX4_rateAs 106 = .ok (.iadd, 1) := by decide +kernel
theorem dX4_rateAs_107 : decode cX4_rateAs 107 = .ok (.ireturn, 1) := by decide +kernel
theorem dX4_rateAs_108 : decode cX4_rateAs 108 = .ok (.iload_n 3, 1) := by decide +kernel
theorem dX4_rateAs_109 : decode cX4_rateAs 109 = .ok (.aload_n 0, 1) := by decide +kernel
theorem dX4_rateAs_110 : decode cX4_rateAs 110 = .ok (.getfield 35, 3) := by decide +kernel
theorem dX4_rateAs_113 : decode cX4_rateAs 113 = .ok (.aload_n 0, 1) := by decide +kernel
theorem dX4_rateAs_114 : decode cX4_rateAs 114 = .ok (.getfield 25, 3) := by decide +kernel
theorem dX4_rateAs_117 : decode cX4_rateAs 117 = .ok (.iload_n 2, 1) := by decide +kernel
theorem dX4_rateAs_118 : decode cX4_rateAs 118 = .ok (.invokevirtual 261, 3) := by decide +kernel
theorem dX4_rateAs_121 : decode cX4_rateAs 121 = .ok (.iadd, 1) := by decide +kernel
theorem dX4_rateAs_122 : decode cX4_rateAs 122 = .ok (.ireturn, 1) := by decide +kernel
end
section
theorem dX5_init_0 : decode cX5_init 0 = .ok (.aload_n 0, 1) := by decide +kernel
theorem dX5_init_1 : decode cX5_init 1 = .ok (.invokespecial 1, 3) := by decide +kernel
theorem dX5_init_4 : decode cX5_init 4 = .ok (.aload_n 0, 1) := by decide +kernel
theorem dX5_init_5 : decode cX5_init 5 = .ok (.sipush 1400, 3) := by decide +kernel
theorem dX5_init_8 : decode cX5_init 8 = .ok (.newarray .int, 2) := by decide +kernel
theorem dX5_init_10 : decode cX5_init 10 = .ok (.putfield 7, 3) := by decide +kernel
theorem dX5_init_13 : decode cX5_init 13 = .ok (.aload_n 0, 1) := by decide +kernel
theorem dX5_init_14 : decode cX5_init 14 = .ok (.iconst 2, 1) := by decide +kernel
theorem dX5_init_15 : decode cX5_init 15 = .ok (.newarray .boolean, 2) := by decide +kernel
theorem dX5_init_17 : decode cX5_init 17 = .ok (.putfield 13, 3) := by decide +kernel
theorem dX5_init_20 : decode cX5_init 20 = .ok (.aload_n 0, 1) := by decide +kernel
theorem dX5_init_21 : decode cX5_init 21 = .ok (.bipush 8, 2) := by decide +kernel
theorem dX5_init_23 : decode cX5_init 23 = .ok (.newarray .int, 2) := by decide +kernel
theorem dX5_init_25 : decode cX5_init 25 = .ok (.putfield 17, 3) := by decide +kernel
theorem dX5_init_28 : decode cX5_init 28 = .ok (.aload_n 0, 1) := by decide +kernel
theorem dX5_init_29 : decode cX5_init 29 = .ok (.bipush 8, 2) := by decide +kernel
theorem dX5_init_31 : decode cX5_init 31 = .ok (.newarray .int, 2) := by decide +kernel
theorem dX5_init_33 : decode cX5_init 33 = .ok (.putfield 20, 3) := by decide +kernel
theorem dX5_init_36 : decode cX5_init 36 = .ok (.aload_n 0, 1) := by decide +kernel
theorem dX5_init_37 : decode cX5_init 37 = .ok (.bipush 8, 2) := by decide +kernel
theorem dX5_init_39 : decode cX5_init 39 = .ok (.newarray .int, 2) := by decide +kernel
theorem dX5_init_41 : decode cX5_init 41 = .ok (.putfield 23, 3) := by decide +kernel
theorem dX5_init_44 : decode cX5_init 44 = .ok (.aload_n 0, 1) := by decide +kernel
theorem dX5_init_45 : decode cX5_init 45 = .ok (.bipush 8, 2) := by decide +kernel
theorem dX5_init_47 : decode cX5_init 47 = .ok (.newarray .int, 2) := by decide +kernel
theorem dX5_init_49 : decode cX5_init 49 = .ok (.putfield 26, 3) := by decide +kernel
theorem dX5_init_52 : decode cX5_init 52 = .ok (.aload_n 0, 1) := by decide +kernel
theorem dX5_init_53 : decode cX5_init 53 = .ok (.bipush 8, 2) := by decide +kernel
theorem dX5_init_55 : decode cX5_init 55 = .ok (.newarray .int, 2) := by decide +kernel
theorem dX5_init_57 : decode cX5_init 57 = .ok (.putfield 29, 3) := by decide +kernel
theorem dX5_init_60 : decode cX5_init 60 = .ok (.aload_n 0, 1) := by decide +kernel
theorem dX5_init_61 : decode cX5_init 61 = .ok (.bipush 8, 2) := by decide +kernel
theorem dX5_init_63 : decode cX5_init 63 = .ok (.newarray .int, 2) := by decide +kernel
theorem dX5_init_65 : decode cX5_init 65 = .ok (.putfield 32, 3) := by decide +kernel
theorem dX5_init_68 : decode cX5_init 68 = .ok (.aload_n 0, 1) := by decide +kernel
theorem dX5_init_69 : decode cX5_init 69 = .ok (.bipush 8, 2) := by decide +kernel
theorem dX5_init_71 : decode cX5_init 71 = .ok (.newarray .int, 2) := by decide +kernel
theorem dX5_init_73 : decode cX5_init 73 = .ok (.putfield 35, 3) := by decide +kernel
theorem dX5_init_76 : decode cX5_init 76 = .ok (.aload_n 0, 1) := by decide +kernel
theorem dX5_init_77 : decode cX5_init 77 = .ok (.bipush 6, 2) := by decide +kernel
theorem dX5_init_79 : decode cX5_init 79 = .ok (.newarray .int, 2) := by decide +kernel
theorem dX5_init_81 : decode cX5_init 81 = .ok (.putfield 38, 3) := by decide +kernel
theorem dX5_init_84 : decode cX5_init 84 = .ok (.aload_n 0, 1) := by decide +kernel
theorem dX5_init_85 : decode cX5_init 85 = .ok (.sipush 200, 3) := by decide +kernel
theorem dX5_init_88 : decode cX5_init 88 = .ok (.newarray .int, 2) := by decide +kernel
theorem dX5_init_90 : decode cX5_init 90 = .ok (.putfield 41, 3) := by decide +kernel
theorem dX5_init_93 : decode cX5_init 93 = .ok (.aload_n 0, 1) := by decide +kernel
theorem dX5_init_94 : decode cX5_init 94 = .ok (.bipush 6, 2) := by decide +kernel
theorem dX5_init_96 : decode cX5_init 96 = .ok (.newarray .int, 2) := by decide +kernel
theorem dX5_init_98 : decode cX5_init 98 = .ok (.putfield 44, 3) := by decide +kernel
theorem dX5_init_101 : decode cX5_init 101 = .ok (.aload_n 0, 1) := by decide +kernel
theorem dX5_init_102 : decode cX5_init 102 = .ok (.bipush 6, 2) := by decide +kernel
theorem dX5_init_104 : decode cX5_init 104 = .ok (.newarray .int, 2) := by decide +kernel
theorem dX5_init_106 : decode cX5_init 106 = .ok (.putfield 47, 3) := by decide +kernel
theorem dX5_init_109 : decode cX5_init 109 = .ok (.aload_n 0, 1) := by decide +kernel
theorem dX5_init_110 : decode cX5_init 110 = .ok (.iconst 4, 1) := by decide +kernel
theorem dX5_init_111 : decode cX5_init 111 = .ok (.putfield 50, 3) := by decide +kernel
theorem dX5_init_114 : decode cX5_init 114 = .ok (.aload_n 0, 1) := by decide +kernel
theorem dX5_init_115 : decode cX5_init 115 = .ok (.invokevirtual 54, 3) := by decide +kernel
theorem dX5_init_118 : decode cX5_init 118 = .ok (.return_, 1) := by decide +kernel
theorem dX5_in_0 : decode cX5_in 0 = .ok (.lload_n 0, 1) := by decide +kernel
theorem dX5_in_1 : decode cX5_in 1 = .ok (.lload_n 2, 1) := by decide +kernel
theorem dX5_in_2 : decode cX5_in 2 = .ok (.lcmp, 1) := by decide +kernel
theorem dX5_in_3 : decode cX5_in 3 = .ok (.ifCond .lt 14, 3) := by decide +kernel
theorem dX5_in_6 : decode cX5_in 6 = .ok (.lload_n 0, 1) := by decide +kernel
theorem dX5_in_7 : decode cX5_in 7 = .ok (.lload 4, 2) := by decide +kernel
theorem dX5_in_9 : decode cX5_in 9 = .ok (.lcmp, 1) := by decide +kernel
theorem dX5_in_10 : decode cX5_in 10 = .ok (.ifCond .gt 7, 3) := by decide +kernel
theorem dX5_in_13 : decode cX5_in 13 = .ok (.iconst 1, 1) := by decide +kernel
theorem dX5_in_14 : decode cX5_in 14 = .ok (.goto 4, 3) := by decide +kernel
theorem dX5_in_17 : decode cX5_in 17 = .ok (.iconst 0, 1) := by decide +kernel
theorem dX5_in_18 : decode cX5_in 18 = .ok (.ireturn, 1) := by decide +kernel
theorem dX5_one_0 : decode cX5_one 0 = .ok (.iload_n 0, 1) := by decide +kernel
theorem dX5_one_1 : decode cX5_one 1 = .ok (.ifCond .eq 7, 3) := by decide +kernel
theorem dX5_one_4 : decode cX5_one 4 = .ok (.iconst 1, 1) := by decide +kernel
theorem dX5_one_5 : decode cX5_one 5 = .ok (.goto 4, 3) := by decide +kernel
theorem dX5_one_8 : decode cX5_one 8 = .ok (.iconst 0, 1) := by decide +kernel
theorem dX5_one_9 : decode cX5_one 9 = .ok (.ireturn, 1) := by decide +kernel
theorem dX5_has_0 : decode cX5_has 0 = .ok (.iload_n 0, 1) := by decide +kernel
theorem dX5_has_1 : decode cX5_has 1 = .ok (.iload_n 1, 1) := by decide +kernel
theorem dX5_has_2 : decode cX5_has 2 = .ok (.ishr, 1) := by decide +kernel
theorem dX5_has_3 : decode cX5_has 3 = .ok (.iconst 1, 1) := by decide +kernel
theorem dX5_has_4 : decode cX5_has 4 = .ok (.iand, 1) := by decide +kernel
theorem dX5_has_5 : decode cX5_has 5 = .ok (.iconst 1, 1) := by decide +kernel
theorem dX5_has_6 : decode cX5_has 6 = .ok (.if_icmp .ne 7, 3) := by decide +kernel
theorem dX5_has_9 : decode cX5_has 9 = .ok (.iconst 1, 1) := by decide +kernel
theorem dX5_has_10 : decode cX5_has 10 = .ok (.goto 4, 3) := by decide +kernel
theorem dX5_has_13 : decode cX5_has 13 = .ok (.iconst 0, 1) := by decide +kernel
theorem dX5_has_14 : decode cX5_has 14 = .ok (.ireturn, 1) := by decide +kernel
theorem dX5_ones_0 : decode cX5_ones 0 = .ok (.iconst 0, 1) := by decide +kernel
theorem dX5_ones_1 : decode cX5_ones 1 = .ok (.istore_n 1, 1) := by decide +kernel
theorem dX5_ones_2 : decode cX5_ones 2 = .ok (.iconst 0, 1) := by decide +kernel
theorem dX5_ones_3 : decode cX5_ones 3 = .ok (.istore_n 2, 1) := by decide +kernel
theorem dX5_ones_4 : decode cX5_ones 4 = .ok (.iload_n 2, 1) := by decide +kernel
theorem dX5_ones_5 : decode cX5_ones 5 = .ok (.bipush 8, 2) := by decide +kernel
theorem dX5_ones_7 : decode cX5_ones 7 = .ok (.if_icmp .ge 17, 3) := by decide +kernel
theorem dX5_ones_10 : decode cX5_ones 10 = .ok (.iload_n 1, 1) := by decide +kernel
theorem dX5_ones_11 : decode cX5_ones 11 = .ok (.iload_n 0, 1) := by decide +kernel
theorem dX5_ones_12 : decode cX5_ones 12 = .ok (.iload_n 2, 1) := by decide +kernel
theorem dX5_ones_13 : decode cX5_ones 13 = .ok (.ishr, 1) := by decide +kernel
theorem dX5_ones_14 : decode cX5_ones 14 = .ok (.iconst 1, 1) := by decide +kernel
theorem dX5_ones_15 : decode cX5_ones 15 = .ok (.iand, 1) := by decide +kernel
theorem dX5_ones_16 : decode cX5_ones 16 = .ok (.iadd, 1) := by decide +kernel
theorem dX5_ones_17 : decode cX5_ones 17 = .ok (.istore_n 1, 1) := by decide +kernel
theorem dX5_ones_18 : decode cX5_ones 18 = .ok (.iinc 2 1, 3) := by decide +kernel
theorem dX5_ones_21 : decode cX5_ones 21 = .ok (.goto (-17), 3) := by decide +kernel
theorem dX5_ones_24 : decode cX5_ones 24 = .ok (.iload_n 1, 1) := by decide +kernel
theorem dX5_ones_25 : decode cX5_ones 25 = .ok (.ireturn, 1) := by decide +kernel
theorem dX5_type_0 : decode cX5_type 0 = .ok (.iload_n 1, 1) := by decide +kernel
theorem dX5_type_1 : decode cX5_type 1 = .ok (.i2l, 1) := by decide +kernel
theorem dX5_type_2 : decode cX5_type 2 = .ok (.lconst 0, 1) := by decide +kernel
theorem dX5_type_3 : decode cX5_type 3 = .ok (.ldc2_w 57, 3) := by decide +kernel
theorem dX5_type_6 : decode cX5_type 6 = .ok (.invokestatic 59, 3) := by decide +kernel
theorem dX5_type_9 : decode cX5_type 9 = .ok (.ifCond .ne 5, 3) := by decide +kernel
theorem dX5_type_12 : decode cX5_type 12 = .ok (.iconst (-1), 1) := by decide +kernel
theorem dX5_type_13 : decode cX5_type 13 = .ok (.ireturn, 1) := by decide +kernel
theorem dX5_type_14 : decode cX5_type 14 = .ok (.aload_n 0, 1) := by decide +kernel
theorem dX5_type_15 : decode cX5_type 15 = .ok (.getfield 63, 3) := by decide +kernel
theorem dX5_type_18 : decode cX5_type 18 = .ok (.sipush 200, 3) := by decide +kernel
theorem dX5_type_21 : decode cX5_type 21 = .ok (.if_icmp .ne 6, 3) := by decide +kernel
theorem dX5_type_24 : decode cX5_type 24 = .ok (.bipush (-3), 2) := by decide +kernel
theorem dX5_type_26 : decode cX5_type 26 = .ok (.ireturn, 1) := by decide +kernel
theorem dX5_type_27 : decode cX5_type 27 = .ok (.aload_n 0, 1) := by decide +kernel
theorem dX5_type_28 : decode cX5_type 28 = .ok (.getfield 41, 3) := by decide +kernel
theorem dX5_type_31 : decode cX5_type 31 = .ok (.aload_n 0, 1) := by decide +kernel
theorem dX5_type_32 : decode cX5_type 32 = .ok (.getfield 63, 3) := by decide +kernel
theorem dX5_type_35 : decode cX5_type 35 = .ok (.iload_n 1, 1) := by decide +kernel
theorem dX5_type_36 : decode cX5_type 36 = .ok (.iastore, 1) := by decide +kernel
theorem dX5_type_37 : decode cX5_type 37 = .ok (.aload_n 0, 1) := by decide +kernel
theorem dX5_type_38 : decode cX5_type 38 = .ok (.dup, 1) := by decide +kernel
theorem dX5_type_39 : decode cX5_type 39 = .ok (.getfield 63, 3) := by decide +kernel
theorem dX5_type_42 : decode cX5_type 42 = .ok (.iconst 1, 1) := by decide +kernel
theorem dX5_type_43 : decode cX5_type 43 = .ok (.iadd, 1) := by decide +kernel
theorem dX5_type_44 : decode cX5_type 44 = .ok (.putfield 63, 3) := by decide +kernel
theorem dX5_type_47 : decode cX5_type 47 = .ok (.aload_n 0, 1) := by decide +kernel
theorem dX5_type_48 : decode cX5_type 48 = .ok (.getfield 63, 3) := by decide +kernel
theorem dX5_type_51 : decode cX5_type 51 = .ok (.ireturn, 1) := by decide +kernel
theorem dX5_clear_0 : decode cX5_clear 0 = .ok (.aload_n 0, 1) := by decide +kernel
theorem dX5_clear_1 : decode cX5_clear 1 = .ok (.getfield 63, 3) := by decide +kernel
theorem dX5_clear_4 : decode cX5_clear 4 = .ok (.istore_n 1, 1) := by decide +kernel
theorem dX5_clear_5 : decode cX5_clear 5 = .ok (.aload_n 0, 1) := by decide +kernel
theorem dX5_clear_6 : decode cX5_clear 6 = .ok (.iconst 0, 1) := by decide +kernel
theorem dX5_clear_7 : decode cX5_clear 7 = .ok (.putfield 63, 3) := by decide +kernel
theorem dX5_clear_10 : decode cX5_clear 10 = .ok (.iload_n 1, 1) := by decide +kernel
theorem dX5_clear_11 : decode cX5_clear 11 = .ok (.ireturn, 1) := by decide +kernel
theorem dX5_isFigure_0 : decode cX5_isFigure 0 = .ok (.iload_n 0, 1) := by decide +kernel
theorem dX5_isFigure_1 : decode cX5_isFigure 1 = .ok (.i2l, 1) := by decide +kernel
theorem dX5_isFigure_2 : decode cX5_isFigure 2 = .ok (.ldc2_w 66, 3) := by decide +kernel
theorem dX5_isFigure_5 : decode cX5_isFigure 5 = .ok (.ldc2_w 68, 3) := by decide +kernel
theorem dX5_isFigure_8 : decode cX5_isFigure 8 = .ok (.invokestatic 59, 3) := by decide +kernel
theorem dX5_isFigure_11 : decode cX5_isFigure 11 = .ok (.ireturn, 1) := by decide +kernel
theorem dX5_next_0 : decode cX5_next 0 = .ok (.aload_n 0, 1) := by decide +kernel
theorem dX5_next_1 : decode cX5_next 1 = .ok (.getfield 70, 3) := by decide +kernel
theorem dX5_next_4 : decode cX5_next 4 = .ok (.aload_n 0, 1) := by decide +kernel
theorem dX5_next_5 : decode cX5_next 5 = .ok (.getfield 63, 3) := by decide +kernel
theorem dX5_next_8 : decode cX5_next 8 = .ok (.if_icmp .ge 30, 3) := by decide +kernel
theorem dX5_next_11 : decode cX5_next 11 = .ok (.aload_n 0, 1) := by decide +kernel
theorem dX5_next_12 : decode cX5_next 12 = .ok (.getfield 41, 3) := by decide +kernel
theorem dX5_next_15 : decode cX5_next 15 = .ok (.aload_n 0, 1) := by decide +kernel
theorem dX5_next_16 : decode cX5_next 16 = .ok (.getfield 70, 3) := by decide +kernel
theorem dX5_next_19 : decode cX5_next 19 = .ok (.iaload, 1) := by decide +kernel
theorem dX5_next_20 : decode cX5_next 20 = .ok (.bipush 32, 2) := by decide +kernel
theorem dX5_next_22 : decode cX5_next 22 = .ok (.if_icmp .ne 16, 3) := by decide +kernel
theorem dX5_next_25 : decode cX5_next 25 = .ok (.aload_n 0, 1) := by decide +kernel
theorem dX5_next_26 : decode cX5_next 26 = .ok (.dup, 1) := by decide +kernel
theorem dX5_next_27 : decode cX5_next 27 = .ok (.getfield 70, 3) := by decide +kernel
theorem dX5_next_30 : decode cX5_next 30 = .ok (.iconst 1, 1) := by decide +kernel
theorem dX5_next_31 : decode cX5_next 31 = .ok (.iadd, 1) := by decide +kernel
theorem dX5_next_32 : decode cX5_next 32 = .ok (.putfield 70, 3) := by decide +kernel
theorem dX5_next_35 : decode cX5_next 35 = .ok (.goto (-35), 3) := by decide +kernel
theorem dX5_next_38 : decode cX5_next 38 = .ok (.aload_n 0, 1) := by decide +kernel
theorem dX5_next_39 : decode cX5_next 39 = .ok (.aload_n 0, 1) := by decide +kernel
theorem dX5_next_40 : decode cX5_next 40 = .ok (.getfield 70, 3) := by decide +kernel
theorem dX5_next_43 : decode cX5_next 43 = .ok (.putfield 73, 3) := by decide +kernel
theorem dX5_next_46 : decode cX5_next 46 = .ok (.aload_n 0, 1) := by decide +kernel
theorem dX5_next_47 : decode cX5_next 47 = .ok (.getfield 70, 3) := by decide +kernel
theorem dX5_next_50 : decode cX5_next 50 = .ok (.aload_n 0, 1) := by decide +kernel
theorem dX5_next_51 : decode cX5_next 51 = .ok (.getfield 63, 3) := by decide +kernel
theorem dX5_next_54 : decode cX5_next 54 = .ok (.if_icmp .ne 11, 3) := by decide +kernel
theorem dX5_next_57 : decode cX5_next 57 = .ok (.aload_n 0, 1) := by decide +kernel
theorem dX5_next_58 : decode cX5_next 58 = .ok (.iconst (-1), 1) := by decide +kernel
theorem dX5_next_59 : decode cX5_next 59 = .ok (.putfield 76, 3) := by decide +kernel
theorem dX5_next_62 : decode cX5_next 62 = .ok (.goto 226, 3) := by decide +kernel
theorem dX5_next_65 : decode cX5_next 65 = .ok (.aload_n 0, 1) := by decide +kernel
theorem dX5_next_66 : decode cX5_next 66 = .ok (.getfield 41, 3) := by decide +kernel
theorem dX5_next_69 : decode cX5_next 69 = .ok (.aload_n 0, 1) := by decide +kernel
theorem dX5_next_70 : decode cX5_next 70 = .ok (.getfield 70, 3) := by decide +kernel
theorem dX5_next_73 : decode cX5_next 73 = .ok (.iaload, 1) := by decide +kernel
theorem dX5_next_74 : decode cX5_next 74 = .ok (.invokestatic 79, 3) := by decide +kernel
theorem dX5_next_77 : decode cX5_next 77 = .ok (.ifCond .eq 145, 3) := by decide +kernel
theorem dX5_next_80 : decode cX5_next 80 = .ok (.aload_n 0, 1) := by decide +kernel
theorem dX5_next_81 : decode cX5_next 81 = .ok (.iconst 0, 1) := by decide +kernel
theorem dX5_next_82 : decode cX5_next 82 = .ok (.putfield 83, 3) := by decide +kernel
theorem dX5_next_85 : decode cX5_next 85 = .ok (.aload_n 0, 1) := by decide +kernel
theorem dX5_next_86 : decode cX5_next 86 = .ok (.getfield 41, 3) := by decide +kernel
theorem dX5_next_89 : decode cX5_next 89 = .ok (.aload_n 0, 1) := by decide +kernel
theorem dX5_next_90 : decode cX5_next 90 = .ok (.getfield 70, 3) := by decide +kernel
theorem dX5_next_93 : decode cX5_next 93 = .ok (.iaload, 1) := by decide +kernel
theorem dX5_next_94 : decode cX5_next 94 = .ok (.bipush 48, 2) := by decide +kernel
theorem dX5_next_96 : decode cX5_next 96 = .ok (.if_icmp .ne 7, 3) := by decide +kernel
theorem dX5_next_99 : decode cX5_next 99 = .ok (.iconst 1, 1) := by decide +kernel
theorem dX5_next_100 : decode cX5_next 100 = .ok (.goto 4, 3) := by decide +kernel
theorem dX5_next_103 : decode cX5_next 103 = .ok (.iconst 0, 1) := by decide +kernel
theorem dX5_next_104 : decode cX5_next 104 = .ok (.istore_n 1, 1) := by decide +kernel
theorem dX5_next_105 : decode cX5_next 105 = .ok (.iconst 0, 1) := by decide +kernel
theorem dX5_next_106 : decode cX5_next 106 = .ok (.istore_n 2, 1) := by decide +kernel
theorem dX5_next_107 : decode cX5_next 107 = .ok (.aload_n 0, 1) := by decide +kernel
theorem dX5_next_108 : decode cX5_next 108 = .ok (.getfield 70, 3) := by decide +kernel
theorem dX5_next_111 : decode cX5_next 111 = .ok (.aload_n 0, 1) := by decide +kernel
theorem dX5_next_112 : decode cX5_next 112 = .ok (.getfield 63, 3) := by decide +kernel
theorem dX5_next_115 : decode cX5_next 115 = .ok (.if_icmp .ge 75, 3) := by decide +kernel
theorem dX5_next_118 : decode cX5_next 118 = .ok (.aload_n 0, 1) := by decide +kernel
theorem dX5_next_119 : decode cX5_next 119 = .ok (.getfield 41, 3) := by decide +kernel
theorem dX5_next_122 : decode cX5_next 122 = .ok (.aload_n 0, 1) := by decide +kernel
theorem dX5_next_123 : decode cX5_next 123 = .ok (.getfield 70, 3) := by decide +kernel
theorem dX5_next_126 : decode cX5_next 126 = .ok (.iaload, 1) := by decide +kernel
theorem dX5_next_127 : decode cX5_next 127 = .ok (.invokestatic 79, 3) := by decide +kernel
theorem dX5_next_130 : decode cX5_next 130 = .ok (.ifCond .eq 60, 3) := by decide +kernel
theorem dX5_next_133 : decode cX5_next 133 = .ok (.aload_n 0, 1) := by decide +kernel
theorem dX5_next_134 : decode cX5_next 134 = .ok (.aload_n 0, 1) := by decide +kernel
theorem dX5_next_135 : decode cX5_next 135 = .ok (.getfield 83, 3) := by decide +kernel
theorem dX5_next_138 : decode cX5_next 138 = .ok (.sipush 9999, 3) := by decide +kernel
theorem dX5_next_141 : decode cX5_next 141 = .ok (.if_icmp .le 10, 3) := by decide +kernel
theorem dX5_next_144 : decode cX5_next 144 = .ok (.aload_n 0, 1) := by decide +kernel
theorem dX5_next_145 : decode cX5_next 145 = .ok (.getfield 83, 3) := by decide +kernel
theorem dX5_next_148 : decode cX5_next 148 = .ok (.goto 23, 3) := by decide +kernel
theorem dX5_next_151 : decode cX5_next 151 = .ok (.bipush 10, 2) := by decide +kernel
theorem dX5_next_153 : decode cX5_next 153 = .ok (.aload_n 0, 1) := by decide +kernel
theorem dX5_next_154 : decode cX5_next 154 = .ok (.getfield 83, 3) := by decide +kernel
theorem dX5_next_157 : decode cX5_next 157 = .ok (.imul, 1) := by decide +kernel
theorem dX5_next_158 : decode cX5_next 158 = .ok (.aload_n 0, 1) := by decide +kernel
theorem dX5_next_159 : decode cX5_next 159 = .ok (.getfield 41, 3) := by decide +kernel
theorem dX5_next_162 : decode cX5_next 162 = .ok (.aload_n 0, 1) := by decide +kernel
theorem dX5_next_163 : decode cX5_next 163 = .ok (.getfield 70, 3) := by decide +kernel
theorem dX5_next_166 : decode cX5_next 166 = .ok (.iaload, 1) := by decide +kernel
theorem dX5_next_167 : decode cX5_next 167 = .ok (.iadd, 1) := by decide +kernel
theorem dX5_next_168 : decode cX5_next 168 = .ok (.bipush 48, 2) := by decide +kernel
theorem dX5_next_170 : decode cX5_next 170 = .ok (.isub, 1) := by decide +kernel
theorem dX5_next_171 : decode cX5_next 171 = .ok (.putfield 83, 3) := by decide +kernel
theorem dX5_next_174 : decode cX5_next 174 = .ok (.iinc 2 1, 3) := by decide +kernel
theorem dX5_next_177 : decode cX5_next 177 = .ok (.aload_n 0, 1) := by decide +kernel
theorem dX5_next_178 : decode cX5_next 178 = .ok (.dup, 1) := by decide +kernel
theorem dX5_next_179 : decode cX5_next 179 = .ok (.getfield 70, 3) := by decide +kernel
theorem dX5_next_182 : decode cX5_next 182 = .ok (.iconst 1, 1) := by decide +kernel
theorem dX5_next_183 : decode cX5_next 183 = .ok (.iadd, 1) := by decide +kernel
theorem dX5_next_184 : decode cX5_next 184 = .ok (.putfield 70, 3) := by decide +kernel
theorem dX5_next_187 : decode cX5_next 187 = .ok (.goto (-80), 3) := by decide +kernel
theorem dX5_next_190 : decode cX5_next 190 = .ok (.aload_n 0, 1) := by decide +kernel
theorem dX5_next_191 : decode cX5_next 191 = .ok (.aload_n 0, 1) := by decide +kernel
theorem dX5_next_192 : decode cX5_next 192 = .ok (.getfield 83, 3) := by decide +kernel
theorem dX5_next_195 : decode cX5_next 195 = .ok (.sipush 511, 3) := by decide +kernel
theorem dX5_next_198 : decode cX5_next 198 = .ok (.if_icmp .gt 12, 3) := by decide +kernel
theorem dX5_next_201 : decode cX5_next 201 = .ok (.iload_n 1, 1) := by decide +kernel
theorem dX5_next_202 : decode cX5_next 202 = .ok (.ifCond .eq 13, 3) := by decide +kernel
theorem dX5_next_205 : decode cX5_next 205 = .ok (.iload_n 2, 1) := by decide +kernel
theorem dX5_next_206 : decode cX5_next 206 = .ok (.iconst 1, 1) := by decide +kernel
theorem dX5_next_207 : decode cX5_next 207 = .ok (.if_icmp .le 8, 3) := by decide +kernel
theorem dX5_next_210 : decode cX5_next 210 = .ok (.bipush (-2), 2) := by decide +kernel
theorem dX5_next_212 : decode cX5_next 212 = .ok (.goto 4, 3) := by decide +kernel
theorem dX5_next_215 : decode cX5_next 215 = .ok (.iconst 0, 1) := by decide +kernel
theorem dX5_next_216 : decode cX5_next 216 = .ok (.putfield 76, 3) := by decide +kernel
theorem dX5_next_219 : decode cX5_next 219 = .ok (.goto 69, 3) := by decide +kernel
theorem dX5_next_222 : decode cX5_next 222 = .ok (.aload_n 0, 1) := by decide +kernel
theorem dX5_next_223 : decode cX5_next 223 = .ok (.getfield 41, 3) := by decide +kernel
theorem dX5_next_226 : decode cX5_next 226 = .ok (.aload_n 0, 1) := by decide +kernel
theorem dX5_next_227 : decode cX5_next 227 = .ok (.getfield 70, 3) := by decide +kernel
theorem dX5_next_230 : decode cX5_next 230 = .ok (.iaload, 1) := by decide +kernel
theorem dX5_next_231 : decode cX5_next 231 = .ok (.istore_n 1, 1) := by decide +kernel
theorem dX5_next_232 : decode cX5_next 232 = .ok (.aload_n 0, 1) := by decide +kernel
theorem dX5_next_233 : decode cX5_next 233 = .ok (.dup, 1) := by decide +kernel
theorem dX5_next_234 : decode cX5_next 234 = .ok (.getfield 70, 3) := by decide +kernel
theorem dX5_next_237 : decode cX5_next 237 = .ok (.iconst 1, 1) := by decide +kernel
theorem dX5_next_238 : decode cX5_next 238 = .ok (.iadd, 1) := by decide +kernel
theorem dX5_next_239 : decode cX5_next 239 = .ok (.putfield 70, 3) := by decide +kernel
theorem dX5_next_242 : decode cX5_next 242 = .ok (.aload_n 0, 1) := by decide +kernel
theorem dX5_next_243 : decode cX5_next 243 = .ok (.iload_n 1, 1) := by decide +kernel
theorem dX5_next_244 : decode cX5_next 244 = .ok (.bipush 104, 2) := by decide +kernel
theorem dX5_next_246 : decode cX5_next 246 = .ok (.if_icmp .eq 33, 3) := by decide +kernel
theorem dX5_next_249 : decode cX5_next 249 = .ok (.iload_n 1, 1) := by decide +kernel
theorem dX5_next_250 : decode cX5_next 250 = .ok (.bipush 106, 2) := by decide +kernel
theorem dX5_next_252 : decode cX5_next 252 = .ok (.if_icmp .eq 27, 3) := by decide +kernel
theorem dX5_next_255 : decode cX5_next 255 = .ok (.iload_n 1, 1) := by decide +kernel
theorem dX5_next_256 : decode cX5_next 256 = .ok (.bipush 109, 2) := by decide +kernel
theorem dX5_next_258 : decode cX5_next 258 = .ok (.if_icmp .eq 21, 3) := by decide +kernel
theorem dX5_next_261 : decode cX5_next 261 = .ok (.iload_n 1, 1) := by decide +kernel
theorem dX5_next_262 : decode cX5_next 262 = .ok (.bipush 111, 2) := by decide +kernel
theorem dX5_next_264 : decode cX5_next 264 = .ok (.if_icmp .eq 15, 3) := by decide +kernel
theorem dX5_next_267 : decode cX5_next 267 = .ok (.iload_n 1, 1) := by decide +kernel
theorem dX5_next_268 : decode cX5_next 268 = .ok (.bipush 114, 2) := by decide +kernel
theorem dX5_next_270 : decode cX5_next 270 = .ok (.if_icmp .eq 9, 3) := by decide +kernel
theorem dX5_next_273 : decode cX5_next 273 = .ok (.iload_n 1, 1) := by decide +kernel
theorem dX5_next_274 : decode cX5_next 274 = .ok (.bipush 59, 2) := by decide +kernel
theorem dX5_next_276 : decode cX5_next 276 = .ok (.if_icmp .ne 7, 3) := by decide +kernel
theorem dX5_next_279 : decode cX5_next 279 = .ok (.iload_n 1, 1) := by decide +kernel
theorem dX5_next_280 : decode cX5_next 280 = .ok (.goto 5, 3) := by decide +kernel
theorem dX5_next_283 : decode cX5_next 283 = .ok (.bipush (-2), 2) := by decide +kernel
theorem dX5_next_285 : decode cX5_next 285 = .ok (.putfield 76, 3) := by decide +kernel
theorem dX5_next_288 : decode cX5_next 288 = .ok (.return_, 1) := by decide +kernel
theorem dX5_want_0 : decode cX5_want 0 = .ok (.iload_n 1, 1) := by decide +kernel
theorem dX5_want_1 : decode cX5_want 1 = .ok (.ifCond .ne 18, 3) := by decide +kernel
theorem dX5_want_4 : decode cX5_want 4 = .ok (.aload_n 0, 1) := by decide +kernel
theorem dX5_want_5 : decode cX5_want 5 = .ok (.getfield 86, 3) := by decide +kernel
theorem dX5_want_8 : decode cX5_want 8 = .ok (.ifCond .ge 11, 3) := by decide +kernel
theorem dX5_want_11 : decode cX5_want 11 = .ok (.aload_n 0, 1) := by decide +kernel
theorem dX5_want_12 : decode cX5_want 12 = .ok (.aload_n 0, 1) := by decide +kernel
theorem dX5_want_13 : decode cX5_want 13 = .ok (.getfield 73, 3) := by decide +kernel
theorem dX5_want_16 : decode cX5_want 16 = .ok (.putfield 86, 3) := by decide +kernel
theorem dX5_want_19 : decode cX5_want 19 = .ok (.aload_n 0, 1) := by decide +kernel
theorem dX5_want_20 : decode cX5_want 20 = .ok (.getfield 86, 3) := by decide +kernel
theorem dX5_want_23 : decode cX5_want 23 = .ok (.ifCond .ge 7, 3) := by decide +kernel
theorem dX5_want_26 : decode cX5_want 26 = .ok (.iconst 1, 1) := by decide +kernel
theorem dX5_want_27 : decode cX5_want 27 = .ok (.goto 4, 3) := by decide +kernel
theorem dX5_want_30 : decode cX5_want 30 = .ok (.iconst 0, 1) := by decide +kernel
theorem dX5_want_31 : decode cX5_want 31 = .ok (.ireturn, 1) := by decide +kernel
theorem dX5_takeNumber_0 : decode cX5_takeNumber 0 = .ok (.aload_n 0, 1) := by decide +kernel
theorem dX5_takeNumber_1 : decode cX5_takeNumber 1 = .ok (.getfield 86, 3) := by decide +kernel
theorem dX5_takeNumber_4 : decode cX5_takeNumber 4 = .ok (.ifCond .lt 5, 3) := by decide +kernel
theorem dX5_takeNumber_7 : decode cX5_takeNumber 7 = .ok (.iconst 0, 1) := by decide +kernel
theorem dX5_takeNumber_8 : decode cX5_takeNumber 8 = .ok (.ireturn, 1) := by decide +kernel
theorem dX5_takeNumber_9 : decode cX5_takeNumber 9 = .ok (.aload_n 0, 1) := by decide +kernel
theorem dX5_takeNumber_10 : decode cX5_takeNumber 10 = .ok (.invokevirtual 89, 3) := by decide +kernel
theorem dX5_takeNumber_13 : decode cX5_takeNumber 13 = .ok (.aload_n 0, 1) := by decide +kernel
theorem dX5_takeNumber_14 : decode cX5_takeNumber 14 = .ok (.aload_n 0, 1) := by decide +kernel
theorem dX5_takeNumber_15 : decode cX5_takeNumber 15 = .ok (.getfield 76, 3) := by decide +kernel
theorem dX5_takeNumber_18 : decode cX5_takeNumber 18 = .ok (.ifCond .ne 22, 3) := by decide +kernel
theorem dX5_takeNumber_21 : decode cX5_takeNumber 21 = .ok (.aload_n 0, 1) := by decide +kernel
theorem dX5_takeNumber_22 : decode cX5_takeNumber 22 = .ok (.getfield 83, 3) := by decide +kernel
theorem dX5_takeNumber_25 : decode cX5_takeNumber 25 = .ok (.i2l, 1) := by decide +kernel
theorem dX5_takeNumber_26 : decode cX5_takeNumber 26 = .ok (.iload_n 1, 1) := by decide +kernel
theorem dX5_takeNumber_27 : decode cX5_takeNumber 27 = .ok (.i2l, 1) := by decide +kernel
theorem dX5_takeNumber_28 : decode cX5_takeNumber 28 = .ok (.iload_n 2, 1) := by decide +kernel
theorem dX5_takeNumber_29 : decode cX5_takeNumber 29 = .ok (.i2l, 1) := by decide +kernel
theorem dX5_takeNumber_30 : decode cX5_takeNumber 30 = .ok (.invokestatic 59, 3) := by decide +kernel
theorem dX5_takeNumber_33 : decode cX5_takeNumber 33 = .ok (.ifCond .eq 7, 3) := by decide +kernel
theorem dX5_takeNumber_36 : decode cX5_takeNumber 36 = .ok (.iconst 1, 1) := by decide +kernel
theorem dX5_takeNumber_37 : decode cX5_takeNumber 37 = .ok (.goto 4, 3) := by decide +kernel
theorem dX5_takeNumber_40 : decode cX5_takeNumber 40 = .ok (.iconst 0, 1) := by decide +kernel
theorem dX5_takeNumber_41 : decode cX5_takeNumber 41 = .ok (.invokevirtual 92, 3) := by decide +kernel
theorem dX5_takeNumber_44 : decode cX5_takeNumber 44 = .ok (.ifCond .eq 10, 3) := by decide +kernel
theorem dX5_takeNumber_47 : decode cX5_takeNumber 47 = .ok (.aload_n 0, 1) := by decide +kernel
theorem dX5_takeNumber_48 : decode cX5_takeNumber 48 = .ok (.getfield 83, 3) := by decide +kernel
theorem dX5_takeNumber_51 : decode cX5_takeNumber 51 = .ok (.goto 4, 3) := by decide +kernel
theorem dX5_takeNumber_54 : decode cX5_takeNumber 54 = .ok (.iconst 0, 1) := by decide +kernel
theorem dX5_takeNumber_55 : decode cX5_takeNumber 55 = .ok (.ireturn, 1) := by decide +kernel
theorem dX5_takeHill_0 : decode cX5_takeHill 0 = .ok (.iconst 4, 1) := by decide +kernel
theorem dX5_takeHill_1 : decode cX5_takeHill 1 = .ok (.aload_n 0, 1) := by decide +kernel
theorem dX5_takeHill_2 : decode cX5_takeHill 2 = .ok (.getfield 96, 3) := by decide +kernel
theorem dX5_takeHill_5 : decode cX5_takeHill 5 = .ok (.iadd, 1) := by decide +kernel
theorem dX5_takeHill_6 : decode cX5_takeHill 6 = .ok (.istore_n 1, 1) := by decide +kernel
theorem dX5_takeHill_7 : decode cX5_takeHill 7 = .ok (.aload_n 0, 1) := by decide +kernel
theorem dX5_takeHill_8 : decode cX5_takeHill 8 = .ok (.getfield 17, 3) := by decide +kernel
theorem dX5_takeHill_11 : decode cX5_takeHill 11 = .ok (.iload_n 1, 1) := by decide +kernel
theorem dX5_takeHill_12 : decode cX5_takeHill 12 = .ok (.aload_n 0, 1) := by decide +kernel
theorem dX5_takeHill_13 : decode cX5_takeHill 13 = .ok (.iconst 2, 1) := by decide +kernel
theorem dX5_takeHill_14 : decode cX5_takeHill 14 = .ok (.bipush 9, 2) := by decide +kernel
theorem dX5_takeHill_16 : decode cX5_takeHill 16 = .ok (.invokevirtual 99, 3) := by decide +kernel
theorem dX5_takeHill_19 : decode cX5_takeHill 19 = .ok (.iastore, 1) := by decide +kernel
theorem dX5_takeHill_20 : decode cX5_takeHill 20 = .ok (.aload_n 0, 1) := by decide +kernel
theorem dX5_takeHill_21 : decode cX5_takeHill 21 = .ok (.getfield 20, 3) := by decide +kernel
theorem dX5_takeHill_24 : decode cX5_takeHill 24 = .ok (.iload_n 1, 1) := by decide +kernel
theorem dX5_takeHill_25 : decode cX5_takeHill 25 = .ok (.aload_n 0, 1) := by decide +kernel
theorem dX5_takeHill_26 : decode cX5_takeHill 26 = .ok (.iconst 0, 1) := by decide +kernel
theorem dX5_takeHill_27 : decode cX5_takeHill 27 = .ok (.iconst 5, 1) := by decide +kernel
theorem dX5_takeHill_28 : decode cX5_takeHill 28 = .ok (.invokevirtual 99, 3) := by decide +kernel
theorem dX5_takeHill_31 : decode cX5_takeHill 31 = .ok (.iastore, 1) := by decide +kernel
theorem dX5_takeHill_32 : decode cX5_takeHill 32 = .ok (.aload_n 0, 1) := by decide +kernel
theorem dX5_takeHill_33 : decode cX5_takeHill 33 = .ok (.getfield 23, 3) := by decide +kernel
theorem dX5_takeHill_36 : decode cX5_takeHill 36 = .ok (.iload_n 1, 1) := by decide +kernel
theorem dX5_takeHill_37 : decode cX5_takeHill 37 = .ok (.aload_n 0, 1) := by decide +kernel
theorem dX5_takeHill_38 : decode cX5_takeHill 38 = .ok (.iconst 0, 1) := by decide +kernel
theorem dX5_takeHill_39 : decode cX5_takeHill 39 = .ok (.sipush 511, 3) := by decide +kernel
theorem dX5_takeHill_42 : decode cX5_takeHill 42 = .ok (.invokevirtual 99, 3) := by decide +kernel
theorem dX5_takeHill_45 : decode cX5_takeHill 45 = .ok (.iastore, 1) := by decide +kernel
theorem dX5_takeHill_46 : decode cX5_takeHill 46 = .ok (.aload_n 0, 1) := by decide +kernel
theorem dX5_takeHill_47 : decode cX5_takeHill 47 = .ok (.getfield 26, 3) := by decide +kernel
theorem dX5_takeHill_50 : decode cX5_takeHill 50 = .ok (.iload_n 1, 1) := by decide +kernel
theorem dX5_takeHill_51 : decode cX5_takeHill 51 = .ok (.aload_n 0, 1) := by decide +kernel
theorem dX5_takeHill_52 : decode cX5_takeHill 52 = .ok (.iconst 1, 1) := by decide +kernel
theorem dX5_takeHill_53 : decode cX5_takeHill 53 = .ok (.bipush 9, 2) := by decide +kernel
theorem dX5_takeHill_55 : decode cX5_takeHill 55 = .ok (.invokevirtual 99, 3) := by decide +kernel
theorem dX5_takeHill_58 : decode cX5_takeHill 58 = .ok (.iastore, 1) := by decide +kernel
theorem dX5_takeHill_59 : decode cX5_takeHill 59 = .ok (.aload_n 0, 1) := by decide +kernel
theorem dX5_takeHill_60 : decode cX5_takeHill 60 = .ok (.dup, 1) := by decide +kernel
theorem dX5_takeHill_61 : decode cX5_takeHill 61 = .ok (.getfield 96, 3) := by decide +kernel
theorem dX5_takeHill_64 : decode cX5_takeHill 64 = .ok (.iconst 1, 1) := by decide +kernel
theorem dX5_takeHill_65 : decode cX5_takeHill 65 = .ok (.iadd, 1) := by decide +kernel
theorem dX5_takeHill_66 : decode cX5_takeHill 66 = .ok (.putfield 96, 3) := by decide +kernel
theorem dX5_takeHill_69 : decode cX5_takeHill 69 = .ok (.return_, 1) := by decide +kernel
theorem dX5_takeJoin_0 : decode cX5_takeJoin 0 = .ok (.iconst 4, 1) := by decide +kernel
theorem dX5_takeJoin_1 : decode cX5_takeJoin 1 = .ok (.aload_n 0, 1) := by decide +kernel
theorem dX5_takeJoin_2 : decode cX5_takeJoin 2 = .ok (.getfield 103, 3) := by decide +kernel
theorem dX5_takeJoin_5 : decode cX5_takeJoin 5 = .ok (.iadd, 1) := by decide +kernel
theorem dX5_takeJoin_6 : decode cX5_takeJoin 6 = .ok (.istore_n 1, 1) := by decide +kernel
theorem dX5_takeJoin_7 : decode cX5_takeJoin 7 = .ok (.aload_n 0, 1) := by decide +kernel
theorem dX5_takeJoin_8 : decode cX5_takeJoin 8 = .ok (.getfield 29, 3) := by decide +kernel
theorem dX5_takeJoin_11 : decode cX5_takeJoin 11 = .ok (.iload_n 1, 1) := by decide +kernel
theorem dX5_takeJoin_12 : decode cX5_takeJoin 12 = .ok (.aload_n 0, 1) := by decide +kernel
theorem dX5_takeJoin_13 : decode cX5_takeJoin 13 = .ok (.iconst 0, 1) := by decide +kernel
theorem dX5_takeJoin_14 : decode cX5_takeJoin 14 = .ok (.aload_n 0, 1) := by decide +kernel
theorem dX5_takeJoin_15 : decode cX5_takeJoin 15 = .ok (.getfield 96, 3) := by decide +kernel
theorem dX5_takeJoin_18 : decode cX5_takeJoin 18 = .ok (.iconst 1, 1) := by decide +kernel
theorem dX5_takeJoin_19 : decode cX5_takeJoin 19 = .ok (.isub, 1) := by decide +kernel
theorem dX5_takeJoin_20 : decode cX5_takeJoin 20 = .ok (.invokevirtual 99, 3) := by decide +kernel
theorem dX5_takeJoin_23 : decode cX5_takeJoin 23 = .ok (.iastore, 1) := by decide +kernel
theorem dX5_takeJoin_24 : decode cX5_takeJoin 24 = .ok (.aload_n 0, 1) := by decide +kernel
theorem dX5_takeJoin_25 : decode cX5_takeJoin 25 = .ok (.getfield 32, 3) := by decide +kernel
theorem dX5_takeJoin_28 : decode cX5_takeJoin 28 = .ok (.iload_n 1, 1) := by decide +kernel
theorem dX5_takeJoin_29 : decode cX5_takeJoin 29 = .ok (.aload_n 0, 1) := by decide +kernel
theorem dX5_takeJoin_30 : decode cX5_takeJoin 30 = .ok (.iconst 0, 1) := by decide +kernel
theorem dX5_takeJoin_31 : decode cX5_takeJoin 31 = .ok (.aload_n 0, 1) := by decide +kernel
theorem dX5_takeJoin_32 : decode cX5_takeJoin 32 = .ok (.getfield 96, 3) := by decide +kernel
theorem dX5_takeJoin_35 : decode cX5_takeJoin 35 = .ok (.iconst 1, 1) := by decide +kernel
theorem dX5_takeJoin_36 : decode cX5_takeJoin 36 = .ok (.isub, 1) := by decide +kernel
theorem dX5_takeJoin_37 : decode cX5_takeJoin 37 = .ok (.invokevirtual 99, 3) := by decide +kernel
theorem dX5_takeJoin_40 : decode cX5_takeJoin 40 = .ok (.iastore, 1) := by decide +kernel
theorem dX5_takeJoin_41 : decode cX5_takeJoin 41 = .ok (.aload_n 0, 1) := by decide +kernel
theorem dX5_takeJoin_42 : decode cX5_takeJoin 42 = .ok (.aload_n 0, 1) := by decide +kernel
theorem dX5_takeJoin_43 : decode cX5_takeJoin 43 = .ok (.getfield 86, 3) := by decide +kernel
theorem dX5_takeJoin_46 : decode cX5_takeJoin 46 = .ok (.ifCond .ge 18, 3) := by decide +kernel
theorem dX5_takeJoin_49 : decode cX5_takeJoin 49 = .ok (.aload_n 0, 1) := by decide +kernel
theorem dX5_takeJoin_50 : decode cX5_takeJoin 50 = .ok (.getfield 29, 3) := by decide +kernel
theorem dX5_takeJoin_53 : decode cX5_takeJoin 53 = .ok (.iload_n 1, 1) := by decide +kernel
theorem dX5_takeJoin_54 : decode cX5_takeJoin 54 = .ok (.iaload, 1) := by decide +kernel
theorem dX5_takeJoin_55 : decode cX5_takeJoin 55 = .ok (.aload_n 0, 1) := by decide +kernel
theorem dX5_takeJoin_56 : decode cX5_takeJoin 56 = .ok (.getfield 32, 3) := by decide +kernel
theorem dX5_takeJoin_59 : decode cX5_takeJoin 59 = .ok (.iload_n 1, 1) := by decide +kernel
theorem dX5_takeJoin_60 : decode cX5_takeJoin 60 = .ok (.iaload, 1) := by decide +kernel
theorem dX5_takeJoin_61 : decode cX5_takeJoin 61 = .ok (.if_icmp .eq 7, 3) := by decide +kernel
theorem dX5_takeJoin_64 : decode cX5_takeJoin 64 = .ok (.iconst 1, 1) := by decide +kernel
theorem dX5_takeJoin_65 : decode cX5_takeJoin 65 = .ok (.goto 4, 3) := by decide +kernel
theorem dX5_takeJoin_68 : decode cX5_takeJoin 68 = .ok (.iconst 0, 1) := by decide +kernel
theorem dX5_takeJoin_69 : decode cX5_takeJoin 69 = .ok (.invokevirtual 92, 3) := by decide +kernel
theorem dX5_takeJoin_72 : decode cX5_takeJoin 72 = .ok (.istore_n 2, 1) := by decide +kernel
theorem dX5_takeJoin_73 : decode cX5_takeJoin 73 = .ok (.aload_n 0, 1) := by decide +kernel
theorem dX5_takeJoin_74 : decode cX5_takeJoin 74 = .ok (.getfield 35, 3) := by decide +kernel
theorem dX5_takeJoin_77 : decode cX5_takeJoin 77 = .ok (.iload_n 1, 1) := by decide +kernel
theorem dX5_takeJoin_78 : decode cX5_takeJoin 78 = .ok (.aload_n 0, 1) := by decide +kernel
theorem dX5_takeJoin_79 : decode cX5_takeJoin 79 = .ok (.iconst 1, 1) := by decide +kernel
theorem dX5_takeJoin_80 : decode cX5_takeJoin 80 = .ok (.bipush 9, 2) := by decide +kernel
theorem dX5_takeJoin_82 : decode cX5_takeJoin 82 = .ok (.invokevirtual 99, 3) := by decide +kernel
theorem dX5_takeJoin_85 : decode cX5_takeJoin 85 = .ok (.iastore, 1) := by decide +kernel
theorem dX5_takeJoin_86 : decode cX5_takeJoin 86 = .ok (.aload_n 0, 1) := by decide +kernel
theorem dX5_takeJoin_87 : decode cX5_takeJoin 87 = .ok (.dup, 1) := by decide +kernel
theorem dX5_takeJoin_88 : decode cX5_takeJoin 88 = .ok (.getfield 103, 3) := by decide +kernel
theorem dX5_takeJoin_91 : decode cX5_takeJoin 91 = .ok (.iconst 1, 1) := by decide +kernel
theorem dX5_takeJoin_92 : decode cX5_takeJoin 92 = .ok (.iadd, 1) := by decide +kernel
theorem dX5_takeJoin_93 : decode cX5_takeJoin 93 = .ok (.putfield 103, 3) := by decide +kernel
theorem dX5_takeJoin_96 : decode cX5_takeJoin 96 = .ok (.return_, 1) := by decide +kernel
theorem dX5_takeItem_0 : decode cX5_takeItem 0 = .ok (.aload_n 0, 1) := by decide +kernel
theorem dX5_takeItem_1 : decode cX5_takeItem 1 = .ok (.getfield 76, 3) := by decide +kernel
theorem dX5_takeItem_4 : decode cX5_takeItem 4 = .ok (.bipush 104, 2) := by decide +kernel
theorem dX5_takeItem_6 : decode cX5_takeItem 6 = .ok (.if_icmp .ne 30, 3) := by decide +kernel
theorem dX5_takeItem_9 : decode cX5_takeItem 9 = .ok (.aload_n 0, 1) := by decide +kernel
theorem dX5_takeItem_10 : decode cX5_takeItem 10 = .ok (.aload_n 0, 1) := by decide +kernel
theorem dX5_takeItem_11 : decode cX5_takeItem 11 = .ok (.getfield 96, 3) := by decide +kernel
theorem dX5_takeItem_14 : decode cX5_takeItem 14 = .ok (.iconst 4, 1) := by decide +kernel
theorem dX5_takeItem_15 : decode cX5_takeItem 15 = .ok (.if_icmp .ge 7, 3) := by decide +kernel
theorem dX5_takeItem_18 : decode cX5_takeItem 18 = .ok (.iconst 1, 1) := by decide +kernel
theorem dX5_takeItem_19 : decode cX5_takeItem 19 = .ok (.goto 4, 3) := by decide +kernel
theorem dX5_takeItem_22 : decode cX5_takeItem 22 = .ok (.iconst 0, 1) := by decide +kernel
theorem dX5_takeItem_23 : decode cX5_takeItem 23 = .ok (.invokevirtual 92, 3) := by decide +kernel
theorem dX5_takeItem_26 : decode cX5_takeItem 26 = .ok (.ifCond .eq 215, 3) := by decide +kernel
theorem dX5_takeItem_29 : decode cX5_takeItem 29 = .ok (.aload_n 0, 1) := by decide +kernel
theorem dX5_takeItem_30 : decode cX5_takeItem 30 = .ok (.invokevirtual 106, 3) := by decide +kernel
theorem dX5_takeItem_33 : decode cX5_takeItem 33 = .ok (.goto 208, 3) := by decide +kernel
theorem dX5_takeItem_36 : decode cX5_takeItem 36 = .ok (.aload_n 0, 1) := by decide +kernel
theorem dX5_takeItem_37 : decode cX5_takeItem 37 = .ok (.getfield 76, 3) := by decide +kernel
theorem dX5_takeItem_40 : decode cX5_takeItem 40 = .ok (.bipush 106, 2) := by decide +kernel
theorem dX5_takeItem_42 : decode cX5_takeItem 42 = .ok (.if_icmp .ne 30, 3) := by decide +kernel
theorem dX5_takeItem_45 : decode cX5_takeItem 45 = .ok (.aload_n 0, 1) := by decide +kernel
theorem dX5_takeItem_46 : decode cX5_takeItem 46 = .ok (.aload_n 0, 1) := by decide +kernel
theorem dX5_takeItem_47 : decode cX5_takeItem 47 = .ok (.getfield 103, 3) := by decide +kernel
theorem dX5_takeItem_50 : decode cX5_takeItem 50 = .ok (.iconst 4, 1) := by decide +kernel
theorem dX5_takeItem_51 : decode cX5_takeItem 51 = .ok (.if_icmp .ge 7, 3) := by decide +kernel
theorem dX5_takeItem_54 : decode cX5_takeItem 54 = .ok (.iconst 1, 1) := by decide +kernel
theorem dX5_takeItem_55 : decode cX5_takeItem 55 = .ok (.goto 4, 3) := by decide +kernel
theorem dX5_takeItem_58 : decode cX5_takeItem 58 = .ok (.iconst 0, 1) := by decide +kernel
theorem dX5_takeItem_59 : decode cX5_takeItem 59 = .ok (.invokevirtual 92, 3) := by decide +kernel
theorem dX5_takeItem_62 : decode cX5_takeItem 62 = .ok (.ifCond .eq 179, 3) := by decide +kernel
theorem dX5_takeItem_65 : decode cX5_takeItem 65 = .ok (.aload_n 0, 1) := by decide +kernel
theorem dX5_takeItem_66 : decode cX5_takeItem 66 = .ok (.invokevirtual 109, 3) := by decide +kernel
theorem dX5_takeItem_69 : decode cX5_takeItem 69 = .ok (.goto 172, 3) := by decide +kernel
theorem dX5_takeItem_72 : decode cX5_takeItem 72 = .ok (.aload_n 0, 1) := by decide +kernel
theorem dX5_takeItem_73 : decode cX5_takeItem 73 = .ok (.getfield 76, 3) := by decide +kernel
theorem dX5_takeItem_76 : decode cX5_takeItem 76 = .ok (.bipush 109, 2) := by decide +kernel
theorem dX5_takeItem_78 : decode cX5_takeItem 78 = .ok (.if_icmp .ne 54, 3) := by decide +kernel
theorem dX5_takeItem_81 : decode cX5_takeItem 81 = .ok (.aload_n 0, 1) := by decide +kernel
theorem dX5_takeItem_82 : decode cX5_takeItem 82 = .ok (.aload_n 0, 1) := by decide +kernel
theorem dX5_takeItem_83 : decode cX5_takeItem 83 = .ok (.getfield 112, 3) := by decide +kernel
theorem dX5_takeItem_86 : decode cX5_takeItem 86 = .ok (.iconst 3, 1) := by decide +kernel
theorem dX5_takeItem_87 : decode cX5_takeItem 87 = .ok (.if_icmp .ge 7, 3) := by decide +kernel
theorem dX5_takeItem_90 : decode cX5_takeItem 90 = .ok (.iconst 1, 1) := by decide +kernel
theorem dX5_takeItem_91 : decode cX5_takeItem 91 = .ok (.goto 4, 3) := by decide +kernel
theorem dX5_takeItem_94 : decode cX5_takeItem 94 = .ok (.iconst 0, 1) := by decide +kernel
theorem dX5_takeItem_95 : decode cX5_takeItem 95 = .ok (.invokevirtual 92, 3) := by decide +kernel
theorem dX5_takeItem_98 : decode cX5_takeItem 98 = .ok (.ifCond .eq 143, 3) := by decide +kernel
theorem dX5_takeItem_101 : decode cX5_takeItem 101 = .ok (.aload_n 0, 1) := by decide +kernel
theorem dX5_takeItem_102 : decode cX5_takeItem 102 = .ok (.getfield 38, 3) := by decide +kernel
theorem dX5_takeItem_105 : decode cX5_takeItem 105 = .ok (.iconst 3, 1) := by decide +kernel
theorem dX5_takeItem_106 : decode cX5_takeItem 106 = .ok (.aload_n 0, 1) := by decide +kernel
theorem dX5_takeItem_107 : decode cX5_takeItem 107 = .ok (.getfield 112, 3) := by decide +kernel
theorem dX5_takeItem_110 : decode cX5_takeItem 110 = .ok (.iadd, 1) := by decide +kernel
theorem dX5_takeItem_111 : decode cX5_takeItem 111 = .ok (.aload_n 0, 1) := by decide +kernel
theorem dX5_takeItem_112 : decode cX5_takeItem 112 = .ok (.iconst 1, 1) := by decide +kernel
theorem dX5_takeItem_113 : decode cX5_takeItem 113 = .ok (.bipush 9, 2) := by decide +kernel
theorem dX5_takeItem_115 : decode cX5_takeItem 115 = .ok (.invokevirtual 99, 3) := by decide +kernel
theorem dX5_takeItem_118 : decode cX5_takeItem 118 = .ok (.iastore, 1) := by decide +kernel
theorem dX5_takeItem_119 : decode cX5_takeItem 119 = .ok (.aload_n 0, 1) := by decide +kernel
theorem dX5_takeItem_120 : decode cX5_takeItem 120 = .ok (.dup, 1) := by decide +kernel
theorem dX5_takeItem_121 : decode cX5_takeItem 121 = .ok (.getfield 112, 3) := by decide +kernel
theorem dX5_takeItem_124 : decode cX5_takeItem 124 = .ok (.iconst 1, 1) := by decide +kernel
theorem dX5_takeItem_125 : decode cX5_takeItem 125 = .ok (.iadd, 1) := by decide +kernel
theorem dX5_takeItem_126 : decode cX5_takeItem 126 = .ok (.putfield 112, 3) := by decide +kernel
theorem dX5_takeItem_129 : decode cX5_takeItem 129 = .ok (.goto 112, 3) := by decide +kernel
theorem dX5_takeItem_132 : decode cX5_takeItem 132 = .ok (.aload_n 0, 1) := by decide +kernel
theorem dX5_takeItem_133 : decode cX5_takeItem 133 = .ok (.getfield 76, 3) := by decide +kernel
theorem dX5_takeItem_136 : decode cX5_takeItem 136 = .ok (.bipush 111, 2) := by decide +kernel
theorem dX5_takeItem_138 : decode cX5_takeItem 138 = .ok (.if_icmp .ne 50, 3) := by decide +kernel
theorem dX5_takeItem_141 : decode cX5_takeItem 141 = .ok (.aload_n 0, 1) := by decide +kernel
theorem dX5_takeItem_142 : decode cX5_takeItem 142 = .ok (.aload_n 0, 1) := by decide +kernel
theorem dX5_takeItem_143 : decode cX5_takeItem 143 = .ok (.getfield 115, 3) := by decide +kernel
theorem dX5_takeItem_146 : decode cX5_takeItem 146 = .ok (.iconst 0, 1) := by decide +kernel
theorem dX5_takeItem_147 : decode cX5_takeItem 147 = .ok (.invokestatic 118, 3) := by decide +kernel
theorem dX5_takeItem_150 : decode cX5_takeItem 150 = .ok (.ifCond .ne 7, 3) := by decide +kernel
theorem dX5_takeItem_153 : decode cX5_takeItem 153 = .ok (.iconst 1, 1) := by decide +kernel
theorem dX5_takeItem_154 : decode cX5_takeItem 154 = .ok (.goto 4, 3) := by decide +kernel
theorem dX5_takeItem_157 : decode cX5_takeItem 157 = .ok (.iconst 0, 1) := by decide +kernel
theorem dX5_takeItem_158 : decode cX5_takeItem 158 = .ok (.invokevirtual 92, 3) := by decide +kernel
theorem dX5_takeItem_161 : decode cX5_takeItem 161 = .ok (.ifCond .eq 80, 3) := by decide +kernel
theorem dX5_takeItem_164 : decode cX5_takeItem 164 = .ok (.aload_n 0, 1) := by decide +kernel
theorem dX5_takeItem_165 : decode cX5_takeItem 165 = .ok (.dup, 1) := by decide +kernel
theorem dX5_takeItem_166 : decode cX5_takeItem 166 = .ok (.getfield 115, 3) := by decide +kernel
theorem dX5_takeItem_169 : decode cX5_takeItem 169 = .ok (.iconst 1, 1) := by decide +kernel
theorem dX5_takeItem_170 : decode cX5_takeItem 170 = .ok (.ior, 1) := by decide +kernel
theorem dX5_takeItem_171 : decode cX5_takeItem 171 = .ok (.putfield 115, 3) := by decide +kernel
theorem dX5_takeItem_174 : decode cX5_takeItem 174 = .ok (.aload_n 0, 1) := by decide +kernel
theorem dX5_takeItem_175 : decode cX5_takeItem 175 = .ok (.aload_n 0, 1) := by decide +kernel
theorem dX5_takeItem_176 : decode cX5_takeItem 176 = .ok (.iconst 1, 1) := by decide +kernel
theorem dX5_takeItem_177 : decode cX5_takeItem 177 = .ok (.bipush 6, 2) := by decide +kernel
theorem dX5_takeItem_179 : decode cX5_takeItem 179 = .ok (.invokevirtual 99, 3) := by decide +kernel
theorem dX5_takeItem_182 : decode cX5_takeItem 182 = .ok (.putfield 122, 3) := by decide +kernel
theorem dX5_takeItem_185 : decode cX5_takeItem 185 = .ok (.goto 56, 3) := by decide +kernel
theorem dX5_takeItem_188 : decode cX5_takeItem 188 = .ok (.aload_n 0, 1) := by decide +kernel
theorem dX5_takeItem_189 : decode cX5_takeItem 189 = .ok (.aload_n 0, 1) := by decide +kernel
theorem dX5_takeItem_190 : decode cX5_takeItem 190 = .ok (.getfield 76, 3) := by decide +kernel
theorem dX5_takeItem_193 : decode cX5_takeItem 193 = .ok (.bipush 114, 2) := by decide +kernel
theorem dX5_takeItem_195 : decode cX5_takeItem 195 = .ok (.if_icmp .ne 18, 3) := by decide +kernel
theorem dX5_takeItem_198 : decode cX5_takeItem 198 = .ok (.aload_n 0, 1) := by decide +kernel
theorem dX5_takeItem_199 : decode cX5_takeItem 199 = .ok (.getfield 115, 3) := by decide +kernel
theorem dX5_takeItem_202 : decode cX5_takeItem 202 = .ok (.iconst 1, 1) := by decide +kernel
theorem dX5_takeItem_203 : decode cX5_takeItem 203 = .ok (.invokestatic 118, 3) := by decide +kernel
theorem dX5_takeItem_206 : decode cX5_takeItem 206 = .ok (.ifCond .ne 7, 3) := by decide +kernel
theorem dX5_takeItem_209 : decode cX5_takeItem 209 = .ok (.iconst 1, 1) := by decide +kernel
theorem dX5_takeItem_210 : decode cX5_takeItem 210 = .ok (.goto 4, 3) := by decide +kernel
theorem dX5_takeItem_213 : decode cX5_takeItem 213 = .ok (.iconst 0, 1) := by decide +kernel
theorem dX5_takeItem_214 : decode cX5_takeItem 214 = .ok (.invokevirtual 92, 3) := by decide +kernel
theorem dX5_takeItem_217 : decode cX5_takeItem 217 = .ok (.ifCond .eq 24, 3) := by decide +kernel
theorem dX5_takeItem_220 : decode cX5_takeItem 220 = .ok (.aload_n 0, 1) := by decide +kernel
theorem dX5_takeItem_221 : decode cX5_takeItem 221 = .ok (.dup, 1) := by decide +kernel
theorem dX5_takeItem_222 : decode cX5_takeItem 222 = .ok (.getfield 115, 3) := by decide +kernel
theorem dX5_takeItem_225 : decode cX5_takeItem 225 = .ok (.iconst 2, 1) := by decide +kernel
theorem dX5_takeItem_226 : decode cX5_takeItem 226 = .ok (.ior, 1) := by decide +kernel
theorem dX5_takeItem_227 : decode cX5_takeItem 227 = .ok (.putfield 115, 3) := by decide +kernel
theorem dX5_takeItem_230 : decode cX5_takeItem 230 = .ok (.aload_n 0, 1) := by decide +kernel
theorem dX5_takeItem_231 : decode cX5_takeItem 231 = .ok (.aload_n 0, 1) := by decide +kernel
theorem dX5_takeItem_232 : decode cX5_takeItem 232 = .ok (.iconst 0, 1) := by decide +kernel
theorem dX5_takeItem_233 : decode cX5_takeItem 233 = .ok (.bipush 127, 2) := by decide +kernel
theorem dX5_takeItem_235 : decode cX5_takeItem 235 = .ok (.invokevirtual 99, 3) := by decide +kernel
theorem dX5_takeItem_238 : decode cX5_takeItem 238 = .ok (.putfield 125, 3) := by decide +kernel
theorem dX5_takeItem_241 : decode cX5_takeItem 241 = .ok (.return_, 1) := by decide +kernel
theorem dX5_hills_0 : decode cX5_hills 0 = .ok (.aload_n 0, 1) := by decide +kernel
theorem dX5_hills_1 : decode cX5_hills 1 = .ok (.iconst 0, 1) := by decide +kernel
theorem dX5_hills_2 : decode cX5_hills 2 = .ok (.putfield 70, 3) := by decide +kernel
theorem dX5_hills_5 : decode cX5_hills 5 = .ok (.aload_n 0, 1) := by decide +kernel
theorem dX5_hills_6 : decode cX5_hills 6 = .ok (.iconst (-1), 1) := by decide +kernel
theorem dX5_hills_7 : decode cX5_hills 7 = .ok (.putfield 86, 3) := by decide +kernel
theorem dX5_hills_10 : decode cX5_hills 10 = .ok (.aload_n 0, 1) := by decide +kernel
theorem dX5_hills_11 : decode cX5_hills 11 = .ok (.iconst 0, 1) := by decide +kernel
theorem dX5_hills_12 : decode cX5_hills 12 = .ok (.putfield 96, 3) := by decide +kernel
theorem dX5_hills_15 : decode cX5_hills 15 = .ok (.aload_n 0, 1) := by decide +kernel
theorem dX5_hills_16 : decode cX5_hills 16 = .ok (.iconst 0, 1) := by decide +kernel
theorem dX5_hills_17 : decode cX5_hills 17 = .ok (.putfield 103, 3) := by decide +kernel
theorem dX5_hills_20 : decode cX5_hills 20 = .ok (.aload_n 0, 1) := by decide +kernel
theorem dX5_hills_21 : decode cX5_hills 21 = .ok (.iconst 0, 1) := by decide +kernel
theorem dX5_hills_22 : decode cX5_hills 22 = .ok (.putfield 112, 3) := by decide +kernel
theorem dX5_hills_25 : decode cX5_hills 25 = .ok (.aload_n 0, 1) := by decide +kernel
theorem dX5_hills_26 : decode cX5_hills 26 = .ok (.iconst 4, 1) := by decide +kernel
theorem dX5_hills_27 : decode cX5_hills 27 = .ok (.putfield 122, 3) := by decide +kernel
theorem dX5_hills_30 : decode cX5_hills 30 = .ok (.aload_n 0, 1) := by decide +kernel
theorem dX5_hills_31 : decode cX5_hills 31 = .ok (.iconst 0, 1) := by decide +kernel
theorem dX5_hills_32 : decode cX5_hills 32 = .ok (.putfield 125, 3) := by decide +kernel
theorem dX5_hills_35 : decode cX5_hills 35 = .ok (.aload_n 0, 1) := by decide +kernel
theorem dX5_hills_36 : decode cX5_hills 36 = .ok (.iconst 0, 1) := by decide +kernel
theorem dX5_hills_37 : decode cX5_hills 37 = .ok (.putfield 115, 3) := by decide +kernel
theorem dX5_hills_40 : decode cX5_hills 40 = .ok (.iconst 0, 1) := by decide +kernel
theorem dX5_hills_41 : decode cX5_hills 41 = .ok (.istore_n 1, 1) := by decide +kernel
theorem dX5_hills_42 : decode cX5_hills 42 = .ok (.aload_n 0, 1) := by decide +kernel
theorem dX5_hills_43 : decode cX5_hills 43 = .ok (.invokevirtual 89, 3) := by decide +kernel
theorem dX5_hills_46 : decode cX5_hills 46 = .ok (.aload_n 0, 1) := by decide +kernel
theorem dX5_hills_47 : decode cX5_hills 47 = .ok (.getfield 86, 3) := by decide +kernel
theorem dX5_hills_50 : decode cX5_hills 50 = .ok (.ifCond .ge 57, 3) := by decide +kernel
theorem dX5_hills_53 : decode cX5_hills 53 = .ok (.aload_n 0, 1) := by decide +kernel
theorem dX5_hills_54 : decode cX5_hills 54 = .ok (.getfield 76, 3) := by decide +kernel
theorem dX5_hills_57 : decode cX5_hills 57 = .ok (.iconst (-1), 1) := by decide +kernel
theorem dX5_hills_58 : decode cX5_hills 58 = .ok (.if_icmp .eq 49, 3) := by decide +kernel
theorem dX5_hills_61 : decode cX5_hills 61 = .ok (.aload_n 0, 1) := by decide +kernel
theorem dX5_hills_62 : decode cX5_hills 62 = .ok (.invokevirtual 128, 3) := by decide +kernel
theorem dX5_hills_65 : decode cX5_hills 65 = .ok (.aload_n 0, 1) := by decide +kernel
theorem dX5_hills_66 : decode cX5_hills 66 = .ok (.getfield 86, 3) := by decide +kernel
theorem dX5_hills_69 : decode cX5_hills 69 = .ok (.ifCond .ge (-23), 3) := by decide +kernel
theorem dX5_hills_72 : decode cX5_hills 72 = .ok (.aload_n 0, 1) := by decide +kernel
theorem dX5_hills_73 : decode cX5_hills 73 = .ok (.invokevirtual 89, 3) := by decide +kernel
theorem dX5_hills_76 : decode cX5_hills 76 = .ok (.aload_n 0, 1) := by decide +kernel
theorem dX5_hills_77 : decode cX5_hills 77 = .ok (.aload_n 0, 1) := by decide +kernel
theorem dX5_hills_78 : decode cX5_hills 78 = .ok (.getfield 76, 3) := by decide +kernel
theorem dX5_hills_81 : decode cX5_hills 81 = .ok (.bipush 59, 2) := by decide +kernel
theorem dX5_hills_83 : decode cX5_hills 83 = .ok (.if_icmp .ne 7, 3) := by decide +kernel
theorem dX5_hills_86 : decode cX5_hills 86 = .ok (.iconst 1, 1) := by decide +kernel
theorem dX5_hills_87 : decode cX5_hills 87 = .ok (.goto 4, 3) := by decide +kernel
theorem dX5_hills_90 : decode cX5_hills 90 = .ok (.iconst 0, 1) := by decide +kernel
theorem dX5_hills_91 : decode cX5_hills 91 = .ok (.invokevirtual 92, 3) := by decide +kernel
theorem dX5_hills_94 : decode cX5_hills 94 = .ok (.ifCond .eq (-48), 3) := by decide +kernel
theorem dX5_hills_97 : decode cX5_hills 97 = .ok (.iinc 1 1, 3) := by decide +kernel
theorem dX5_hills_100 : decode cX5_hills 100 = .ok (.aload_n 0, 1) := by decide +kernel
theorem dX5_hills_101 : decode cX5_hills 101 = .ok (.invokevirtual 89, 3) := by decide +kernel
theorem dX5_hills_104 : decode cX5_hills 104 = .ok (.goto (-58), 3) := by decide +kernel
theorem dX5_hills_107 : decode cX5_hills 107 = .ok (.aload_n 0, 1) := by decide +kernel
theorem dX5_hills_108 : decode cX5_hills 108 = .ok (.getfield 86, 3) := by decide +kernel
theorem dX5_hills_111 : decode cX5_hills 111 = .ok (.ifCond .lt 11, 3) := by decide +kernel
theorem dX5_hills_114 : decode cX5_hills 114 = .ok (.bipush (-10), 2) := by decide +kernel
theorem dX5_hills_116 : decode cX5_hills 116 = .ok (.aload_n 0, 1) := by decide +kernel
theorem dX5_hills_117 : decode cX5_hills 117 = .ok (.getfield 86, 3) := by decide +kernel
theorem dX5_hills_120 : decode cX5_hills 120 = .ok (.isub, 1) := by decide +kernel
theorem dX5_hills_121 : decode cX5_hills 121 = .ok (.ireturn, 1) := by decide +kernel
theorem dX5_hills_122 : decode cX5_hills 122 = .ok (.aload_n 0, 1) := by decide +kernel
theorem dX5_hills_123 : decode cX5_hills 123 = .ok (.iconst 0, 1) := by decide +kernel
theorem dX5_hills_124 : decode cX5_hills 124 = .ok (.putfield 63, 3) := by decide +kernel
theorem dX5_hills_127 : decode cX5_hills 127 = .ok (.aload_n 0, 1) := by decide +kernel
theorem dX5_hills_128 : decode cX5_hills 128 = .ok (.aload_n 0, 1) := by decide +kernel
theorem dX5_hills_129 : decode cX5_hills 129 = .ok (.getfield 96, 3) := by decide +kernel
theorem dX5_hills_132 : decode cX5_hills 132 = .ok (.putfield 131, 3) := by decide +kernel
theorem dX5_hills_135 : decode cX5_hills 135 = .ok (.aload_n 0, 1) := by decide +kernel
theorem dX5_hills_136 : decode cX5_hills 136 = .ok (.aload_n 0, 1) := by decide +kernel
theorem dX5_hills_137 : decode cX5_hills 137 = .ok (.getfield 103, 3) := by decide +kernel
theorem dX5_hills_140 : decode cX5_hills 140 = .ok (.putfield 134, 3) := by decide +kernel
theorem dX5_hills_143 : decode cX5_hills 143 = .ok (.aload_n 0, 1) := by decide +kernel
theorem dX5_hills_144 : decode cX5_hills 144 = .ok (.aload_n 0, 1) := by decide +kernel
theorem dX5_hills_145 : decode cX5_hills 145 = .ok (.getfield 112, 3) := by decide +kernel
theorem dX5_hills_148 : decode cX5_hills 148 = .ok (.putfield 137, 3) := by decide +kernel
theorem dX5_hills_151 : decode cX5_hills 151 = .ok (.aload_n 0, 1) := by decide +kernel
theorem dX5_hills_152 : decode cX5_hills 152 = .ok (.aload_n 0, 1) := by decide +kernel
theorem dX5_hills_153 : decode cX5_hills 153 = .ok (.getfield 122, 3) := by decide +kernel
theorem dX5_hills_156 : decode cX5_hills 156 = .ok (.putfield 50, 3) := by decide +kernel
theorem dX5_hills_159 : decode cX5_hills 159 = .ok (.aload_n 0, 1) := by decide +kernel
theorem dX5_hills_160 : decode cX5_hills 160 = .ok (.aload_n 0, 1) := by decide +kernel
theorem dX5_hills_161 : decode cX5_hills 161 = .ok (.getfield 125, 3) := by decide +kernel
theorem dX5_hills_164 : decode cX5_hills 164 = .ok (.putfield 140, 3) := by decide +kernel
theorem dX5_hills_167 : decode cX5_hills 167 = .ok (.iconst 0, 1) := by decide +kernel
theorem dX5_hills_168 : decode cX5_hills 168 = .ok (.istore_n 2, 1) := by decide +kernel
theorem dX5_hills_169 : decode cX5_hills 169 = .ok (.iload_n 2, 1) := by decide +kernel
theorem dX5_hills_170 : decode cX5_hills 170 = .ok (.iconst 4, 1) := by decide +kernel
theorem dX5_hills_171 : decode cX5_hills 171 = .ok (.if_icmp .ge 107, 3) := by decide +kernel
theorem dX5_hills_174 : decode cX5_hills 174 = .ok (.aload_n 0, 1) := by decide +kernel
theorem dX5_hills_175 : decode cX5_hills 175 = .ok (.getfield 17, 3) := by decide +kernel
theorem dX5_hills_178 : decode cX5_hills 178 = .ok (.iload_n 2, 1) := by decide +kernel
theorem dX5_hills_179 : decode cX5_hills 179 = .ok (.aload_n 0, 1) := by decide +kernel
theorem dX5_hills_180 : decode cX5_hills 180 = .ok (.getfield 17, 3) := by decide +kernel
theorem dX5_hills_183 : decode cX5_hills 183 = .ok (.iconst 4, 1) := by decide +kernel
theorem dX5_hills_184 : decode cX5_hills 184 = .ok (.iload_n 2, 1) := by decide +kernel
theorem dX5_hills_185 : decode cX5_hills 185 = .ok (.iadd, 1) := by decide +kernel
theorem dX5_hills_186 : decode cX5_hills 186 = .ok (.iaload, 1) := by decide +kernel
theorem dX5_hills_187 : decode cX5_hills 187 = .ok (.iastore, 1) := by decide +kernel
theorem dX5_hills_188 : decode cX5_hills 188 = .ok (.aload_n 0, 1) := by decide +kernel
theorem dX5_hills_189 : decode cX5_hills 189 = .ok (.getfield 20, 3) := by decide +kernel
theorem dX5_hills_192 : decode cX5_hills 192 = .ok (.iload_n 2, 1) := by decide +kernel
theorem dX5_hills_193 : decode cX5_hills 193 = .ok (.aload_n 0, 1) := by decide +kernel
theorem dX5_hills_194 : decode cX5_hills 194 = .ok (.getfield 20, 3) := by decide +kernel
theorem dX5_hills_197 : decode cX5_hills 197 = .ok (.iconst 4, 1) := by decide +kernel
theorem dX5_hills_198 : decode cX5_hills 198 = .ok (.iload_n 2, 1) := by decide +kernel
theorem dX5_hills_199 : decode cX5_hills 199 = .ok (.iadd, 1) := by decide +kernel
theorem dX5_hills_200 : decode cX5_hills 200 = .ok (.iaload, 1) := by decide +kernel
theorem dX5_hills_201 : decode cX5_hills 201 = .ok (.iastore, 1) := by decide +kernel
theorem dX5_hills_202 : decode cX5_hills 202 = .ok (.aload_n 0, 1) := by decide +kernel
theorem dX5_hills_203 : decode cX5_hills 203 = .ok (.getfield 23, 3) := by decide +kernel
theorem dX5_hills_206 : decode cX5_hills 206 = .ok (.iload_n 2, 1) := by decide +kernel
theorem dX5_hills_207 : decode cX5_hills 207 = .ok (.aload_n 0, 1) := by decide +kernel
theorem dX5_hills_208 : decode cX5_hills 208 = .ok (.getfield 23, 3) := by decide +kernel
theorem dX5_hills_211 : decode cX5_hills 211 = .ok (.iconst 4, 1) := by decide +kernel
theorem dX5_hills_212 : decode cX5_hills 212 = .ok (.iload_n 2, 1) := by decide +kernel
theorem dX5_hills_213 : decode cX5_hills 213 = .ok (.iadd, 1) := by decide +kernel
theorem dX5_hills_214 : decode cX5_hills 214 = .ok (.iaload, 1) := by decide +kernel
theorem dX5_hills_215 : decode cX5_hills 215 = .ok (.iastore, 1) := by decide +kernel
theorem dX5_hills_216 : decode cX5_hills 216 = .ok (.aload_n 0, 1) := by decide +kernel
theorem dX5_hills_217 : decode cX5_hills 217 = .ok (.getfield 26, 3) := by decide +kernel
theorem dX5_hills_220 : decode cX5_hills 220 = .ok (.iload_n 2, 1) := by decide +kernel
theorem dX5_hills_221 : decode cX5_hills 221 = .ok (.aload_n 0, 1) := by decide +kernel
theorem dX5_hills_222 : decode cX5_hills 222 = .ok (.getfield 26, 3) := by decide +kernel
theorem dX5_hills_225 : decode cX5_hills 225 = .ok (.iconst 4, 1) := by decide +kernel
theorem dX5_hills_226 : decode cX5_hills 226 = .ok (.iload_n 2, 1) := by decide +kernel
theorem dX5_hills_227 : decode cX5_hills 227 = .ok (.iadd, 1) := by decide +kernel
theorem dX5_hills_228 : decode cX5_hills 228 = .ok (.iaload, 1) := by decide +kernel
theorem dX5_hills_229 : decode cX5_hills 229 = .ok (.iastore, 1) := by decide +kernel
theorem dX5_hills_230 : decode cX5_hills 230 = .ok (.aload_n 0, 1) := by decide +kernel
theorem dX5_hills_231 : decode cX5_hills 231 = .ok (.getfield 29, 3) := by decide +kernel
theorem dX5_hills_234 : decode cX5_hills 234 = .ok (.iload_n 2, 1) := by decide +kernel
theorem dX5_hills_235 : decode cX5_hills 235 = .ok (.aload_n 0, 1) := by decide +kernel
theorem dX5_hills_236 : decode cX5_hills 236 = .ok (.getfield 29, 3) := by decide +kernel
theorem dX5_hills_239 : decode cX5_hills 239 = .ok (.iconst 4, 1) := by decide +kernel
theorem dX5_hills_240 : decode cX5_hills 240 = .ok (.iload_n 2, 1) := by decide +kernel
theorem dX5_hills_241 : decode cX5_hills 241 = .ok (.iadd, 1) := by decide +kernel
theorem dX5_hills_242 : decode cX5_hills 242 = .ok (.iaload, 1) := by decide +kernel
theorem dX5_hills_243 : decode cX5_hills 243 = .ok (.iastore, 1) := by decide +kernel
theorem dX5_hills_244 : decode cX5_hills 244 = .ok (.aload_n 0, 1) := by decide +kernel
theorem dX5_hills_245 : decode cX5_hills 245 = .ok (.getfield 32, 3) := by decide +kernel
theorem dX5_hills_248 : decode cX5_hills 248 = .ok (.iload_n 2, 1) := by decide +kernel
theorem dX5_hills_249 : decode cX5_hills 249 = .ok (.aload_n 0, 1) := by decide +kernel
theorem dX5_hills_250 : decode cX5_hills 250 = .ok (.getfield 32, 3) := by decide +kernel
theorem dX5_hills_253 : decode cX5_hills 253 = .ok (.iconst 4, 1) := by decide +kernel
theorem dX5_hills_254 : decode cX5_hills 254 = .ok (.iload_n 2, 1) := by decide +kernel
theorem dX5_hills_255 : decode cX5_hills 255 = .ok (.iadd, 1) := by decide +kernel
theorem dX5_hills_256 : decode cX5_hills 256 = .ok (.iaload, 1) := by decide +kernel
theorem dX5_hills_257 : decode cX5_hills 257 = .ok (.iastore, 1) := by decide +kernel
theorem dX5_hills_258 : decode cX5_hills 258 = .ok (.aload_n 0, 1) := by decide +kernel
theorem dX5_hills_259 : decode cX5_hills 259 = .ok (.getfield 35, 3) := by decide +kernel
theorem dX5_hills_262 : decode cX5_hills 262 = .ok (.iload_n 2, 1) := by decide +kernel
theorem dX5_hills_263 : decode cX5_hills 263 = .ok (.aload_n 0, 1) := by decide +kernel
theorem dX5_hills_264 : decode cX5_hills 264 = .ok (.getfield 35, 3) := by decide +kernel
theorem dX5_hills_267 : decode cX5_hills 267 = .ok (.iconst 4, 1) := by decide +kernel
theorem dX5_hills_268 : decode cX5_hills 268 = .ok (.iload_n 2, 1) := by decide +kernel
theorem dX5_hills_269 : decode cX5_hills 269 = .ok (.iadd, 1) := by decide +kernel
theorem dX5_hills_270 : decode cX5_hills 270 = .ok (.iaload, 1) := by decide +kernel
theorem dX5_hills_271 : decode cX5_hills 271 = .ok (.iastore, 1) := by decide +kernel
theorem dX5_hills_272 : decode cX5_hills 272 = .ok (.iinc 2 1, 3) := by decide +kernel
theorem dX5_hills_275 : decode cX5_hills 275 = .ok (.goto (-106), 3) := by decide +kernel
theorem dX5_hills_278 : decode cX5_hills 278 = .ok (.iconst 0, 1) := by decide +kernel
theorem dX5_hills_279 : decode cX5_hills 279 = .ok (.istore_n 2, 1) := by decide +kernel
theorem dX5_hills_280 : decode cX5_hills 280 = .ok (.iload_n 2, 1) := by decide +kernel
theorem dX5_hills_281 : decode cX5_hills 281 = .ok (.iconst 3, 1) := by decide +kernel
theorem dX5_hills_282 : decode cX5_hills 282 = .ok (.if_icmp .ge 23, 3) := by decide +kernel
theorem dX5_hills_285 : decode cX5_hills 285 = .ok (.aload_n 0, 1) := by decide +kernel
theorem dX5_hills_286 : decode cX5_hills 286 = .ok (.getfield 38, 3) := by decide +kernel
theorem dX5_hills_289 : decode cX5_hills 289 = .ok (.iload_n 2, 1) := by decide +kernel
theorem dX5_hills_290 : decode cX5_hills 290 = .ok (.aload_n 0, 1) := by decide +kernel
theorem dX5_hills_291 : decode cX5_hills 291 = .ok (.getfield 38, 3) := by decide +kernel
theorem dX5_hills_294 : decode cX5_hills 294 = .ok (.iconst 3, 1) := by decide +kernel
theorem dX5_hills_295 : decode cX5_hills 295 = .ok (.iload_n 2, 1) := by decide +kernel
theorem dX5_hills_296 : decode cX5_hills 296 = .ok (.iadd, 1) := by decide +kernel
theorem dX5_hills_297 : decode cX5_hills 297 = .ok (.iaload, 1) := by decide +kernel
theorem dX5_hills_298 : decode cX5_hills 298 = .ok (.iastore, 1) := by decide +kernel
theorem dX5_hills_299 : decode cX5_hills 299 = .ok (.iinc 2 1, 3) := by decide +kernel
theorem dX5_hills_302 : decode cX5_hills 302 = .ok (.goto (-22), 3) := by decide +kernel
theorem dX5_hills_305 : decode cX5_hills 305 = .ok (.aload_n 0, 1) := by decide +kernel
theorem dX5_hills_306 : decode cX5_hills 306 = .ok (.invokevirtual 54, 3) := by decide +kernel
theorem dX5_hills_309 : decode cX5_hills 309 = .ok (.iload_n 1, 1) := by decide +kernel
theorem dX5_hills_310 : decode cX5_hills 310 = .ok (.ireturn, 1) := by decide +kernel
theorem dX5_begin_0 : decode cX5_begin 0 = .ok (.iconst 0, 1) := by decide +kernel
theorem dX5_begin_1 : decode cX5_begin 1 = .ok (.istore_n 1, 1) := by decide +kernel
theorem dX5_begin_2 : decode cX5_begin 2 = .ok (.iload_n 1, 1) := by decide +kernel
theorem dX5_begin_3 : decode cX5_begin 3 = .ok (.bipush 100, 2) := by decide +kernel
theorem dX5_begin_5 : decode cX5_begin 5 = .ok (.if_icmp .ge 16, 3) := by decide +kernel
theorem dX5_begin_8 : decode cX5_begin 8 = .ok (.aload_n 0, 1) := by decide +kernel
theorem dX5_begin_9 : decode cX5_begin 9 = .ok (.getfield 7, 3) := by decide +kernel
theorem dX5_begin_12 : decode cX5_begin 12 = .ok (.iload_n 1, 1) := by decide +kernel
theorem dX5_begin_13 : decode cX5_begin 13 = .ok (.iconst 0, 1) := by decide +kernel
theorem dX5_begin_14 : decode cX5_begin 14 = .ok (.iastore, 1) := by decide +kernel
theorem dX5_begin_15 : decode cX5_begin 15 = .ok (.iinc 1 1, 3) := by decide +kernel
theorem dX5_begin_18 : decode cX5_begin 18 = .ok (.goto (-16), 3) := by decide +kernel
theorem dX5_begin_21 : decode cX5_begin 21 = .ok (.iconst 0, 1) := by decide +kernel
theorem dX5_begin_22 : decode cX5_begin 22 = .ok (.istore_n 1, 1) := by decide +kernel
theorem dX5_begin_23 : decode cX5_begin 23 = .ok (.iload_n 1, 1) := by decide +kernel
theorem dX5_begin_24 : decode cX5_begin 24 = .ok (.iconst 3, 1) := by decide +kernel
theorem dX5_begin_25 : decode cX5_begin 25 = .ok (.if_icmp .ge 35, 3) := by decide +kernel
theorem dX5_begin_28 : decode cX5_begin 28 = .ok (.aload_n 0, 1) := by decide +kernel
theorem dX5_begin_29 : decode cX5_begin 29 = .ok (.getfield 7, 3) := by decide +kernel
theorem dX5_begin_32 : decode cX5_begin 32 = .ok (.bipush 8, 2) := by decide +kernel
theorem dX5_begin_34 : decode cX5_begin 34 = .ok (.iload_n 1, 1) := by decide +kernel
theorem dX5_begin_35 : decode cX5_begin 35 = .ok (.iadd, 1) := by decide +kernel
theorem dX5_begin_36 : decode cX5_begin 36 = .ok (.aload_n 0, 1) := by decide +kernel
theorem dX5_begin_37 : decode cX5_begin 37 = .ok (.getfield 38, 3) := by decide +kernel
theorem dX5_begin_40 : decode cX5_begin 40 = .ok (.iload_n 1, 1) := by decide +kernel
theorem dX5_begin_41 : decode cX5_begin 41 = .ok (.iaload, 1) := by decide +kernel
theorem dX5_begin_42 : decode cX5_begin 42 = .ok (.iastore, 1) := by decide +kernel
theorem dX5_begin_43 : decode cX5_begin 43 = .ok (.aload_n 0, 1) := by decide +kernel
theorem dX5_begin_44 : decode cX5_begin 44 = .ok (.getfield 7, 3) := by decide +kernel
theorem dX5_begin_47 : decode cX5_begin 47 = .ok (.bipush 11, 2) := by decide +kernel
theorem dX5_begin_49 : decode cX5_begin 49 = .ok (.iload_n 1, 1) := by decide +kernel
theorem dX5_begin_50 : decode cX5_begin 50 = .ok (.iadd, 1) := by decide +kernel
theorem dX5_begin_51 : decode cX5_begin 51 = .ok (.bipush (-9), 2) := by decide +kernel
theorem dX5_begin_53 : decode cX5_begin 53 = .ok (.iastore, 1) := by decide +kernel
theorem dX5_begin_54 : decode cX5_begin 54 = .ok (.iinc 1 1, 3) := by decide +kernel
theorem dX5_begin_57 : decode cX5_begin 57 = .ok (.goto (-34), 3) := by decide +kernel
theorem dX5_begin_60 : decode cX5_begin 60 = .ok (.aload_n 0, 1) := by decide +kernel
theorem dX5_begin_61 : decode cX5_begin 61 = .ok (.iconst 0, 1) := by decide +kernel
theorem dX5_begin_62 : decode cX5_begin 62 = .ok (.putfield 143, 3) := by decide +kernel
theorem dX5_begin_65 : decode cX5_begin 65 = .ok (.aload_n 0, 1) := by decide +kernel
theorem dX5_begin_66 : decode cX5_begin 66 = .ok (.iconst 0, 1) := by decide +kernel
theorem dX5_begin_67 : decode cX5_begin 67 = .ok (.putfield 146, 3) := by decide +kernel
theorem dX5_begin_70 : decode cX5_begin 70 = .ok (.aload_n 0, 1) := by decide +kernel
theorem dX5_begin_71 : decode cX5_begin 71 = .ok (.getfield 13, 3) := by decide +kernel
theorem dX5_begin_74 : decode cX5_begin 74 = .ok (.iconst 0, 1) := by decide +kernel
theorem dX5_begin_75 : decode cX5_begin 75 = .ok (.iconst 0, 1) := by decide +kernel
theorem dX5_begin_76 : decode cX5_begin 76 = .ok (.bastore, 1) := by decide +kernel
theorem dX5_begin_77 : decode cX5_begin 77 = .ok (.aload_n 0, 1) := by decide +kernel
theorem dX5_begin_78 : decode cX5_begin 78 = .ok (.getfield 13, 3) := by decide +kernel
theorem dX5_begin_81 : decode cX5_begin 81 = .ok (.iconst 1, 1) := by decide +kernel
theorem dX5_begin_82 : decode cX5_begin 82 = .ok (.iconst 0, 1) := by decide +kernel
theorem dX5_begin_83 : decode cX5_begin 83 = .ok (.bastore, 1) := by decide +kernel
theorem dX5_begin_84 : decode cX5_begin 84 = .ok (.return_, 1) := by decide +kernel
theorem dX5_isHill_0 : decode cX5_isHill 0 = .ok (.iload_n 1, 1) := by decide +kernel
theorem dX5_isHill_1 : decode cX5_isHill 1 = .ok (.i2l, 1) := by decide +kernel
theorem dX5_isHill_2 : decode cX5_isHill 2 = .ok (.lconst 0, 1) := by decide +kernel
theorem dX5_isHill_3 : decode cX5_isHill 3 = .ok (.aload_n 0, 1) := by decide +kernel
theorem dX5_isHill_4 : decode cX5_isHill 4 = .ok (.getfield 131, 3) := by decide +kernel
theorem dX5_isHill_7 : decode cX5_isHill 7 = .ok (.iconst 1, 1) := by decide +kernel
theorem dX5_isHill_8 : decode cX5_isHill 8 = .ok (.isub, 1) := by decide +kernel
theorem dX5_isHill_9 : decode cX5_isHill 9 = .ok (.i2l, 1) := by decide +kernel
theorem dX5_isHill_10 : decode cX5_isHill 10 = .ok (.invokestatic 59, 3) := by decide +kernel
theorem dX5_isHill_13 : decode cX5_isHill 13 = .ok (.ireturn, 1) := by decide +kernel
theorem dX5_isMan_0 : decode cX5_isMan 0 = .ok (.iload_n 1, 1) := by decide +kernel
theorem dX5_isMan_1 : decode cX5_isMan 1 = .ok (.i2l, 1) := by decide +kernel
theorem dX5_isMan_2 : decode cX5_isMan 2 = .ok (.lconst 0, 1) := by decide +kernel
theorem dX5_isMan_3 : decode cX5_isMan 3 = .ok (.aload_n 0, 1) := by decide +kernel
theorem dX5_isMan_4 : decode cX5_isMan 4 = .ok (.getfield 137, 3) := by decide +kernel
theorem dX5_isMan_7 : decode cX5_isMan 7 = .ok (.iconst 1, 1) := by decide +kernel
theorem dX5_isMan_8 : decode cX5_isMan 8 = .ok (.isub, 1) := by decide +kernel
theorem dX5_isMan_9 : decode cX5_isMan 9 = .ok (.i2l, 1) := by decide +kernel
theorem dX5_isMan_10 : decode cX5_isMan 10 = .ok (.invokestatic 59, 3) := by decide +kernel
theorem dX5_isMan_13 : decode cX5_isMan 13 = .ok (.ireturn, 1) := by decide +kernel
theorem dX5_hill_0 : decode cX5_hill 0 = .ok (.aload_n 0, 1) := by decide +kernel
theorem dX5_hill_1 : decode cX5_hill 1 = .ok (.iload_n 1, 1) := by decide +kernel
theorem dX5_hill_2 : decode cX5_hill 2 = .ok (.invokevirtual 149, 3) := by decide +kernel
theorem dX5_hill_5 : decode cX5_hill 5 = .ok (.ifCond .ne 5, 3) := by decide +kernel
theorem dX5_hill_8 : decode cX5_hill 8 = .ok (.iconst (-1), 1) := by decide +kernel
theorem dX5_hill_9 : decode cX5_hill 9 = .ok (.ireturn, 1) := by decide +kernel
theorem dX5_hill_10 : decode cX5_hill 10 = .ok (.iload_n 2, 1) := by decide +kernel
theorem dX5_hill_11 : decode cX5_hill 11 = .ok (.ifCond .ne 12, 3) := by decide +kernel
theorem dX5_hill_14 : decode cX5_hill 14 = .ok (.aload_n 0, 1) := by decide +kernel
theorem dX5_hill_15 : decode cX5_hill 15 = .ok (.getfield 17, 3) := by decide +kernel
theorem dX5_hill_18 : decode cX5_hill 18 = .ok (.iload_n 1, 1) := by decide +kernel
theorem dX5_hill_19 : decode cX5_hill 19 = .ok (.iaload, 1) := by decide +kernel
theorem dX5_hill_20 : decode cX5_hill 20 = .ok (.goto 46, 3) := by decide +kernel
theorem dX5_hill_23 : decode cX5_hill 23 = .ok (.iload_n 2, 1) := by decide +kernel
theorem dX5_hill_24 : decode cX5_hill 24 = .ok (.iconst 1, 1) := by decide +kernel
theorem dX5_hill_25 : decode cX5_hill 25 = .ok (.if_icmp .ne 12, 3) := by decide +kernel
theorem dX5_hill_28 : decode cX5_hill 28 = .ok (.aload_n 0, 1) := by decide +kernel
theorem dX5_hill_29 : decode cX5_hill 29 = .ok (.getfield 20, 3) := by decide +kernel
theorem dX5_hill_32 : decode cX5_hill 32 = .ok (.iload_n 1, 1) := by decide +kernel
theorem dX5_hill_33 : decode cX5_hill 33 = .ok (.iaload, 1) := by decide +kernel
theorem dX5_hill_34 : decode cX5_hill 34 = .ok (.goto 32, 3) := by decide +kernel
theorem dX5_hill_37 : decode cX5_hill 37 = .ok (.iload_n 2, 1) := by decide +kernel
theorem dX5_hill_38 : decode cX5_hill 38 = .ok (.iconst 2, 1) := by decide +kernel
theorem dX5_hill_39 : decode cX5_hill 39 = .ok (.if_icmp .ne 12, 3) := by decide +kernel
theorem dX5_hill_42 : decode cX5_hill 42 = .ok (.aload_n 0, 1) := by decide +kernel
theorem dX5_hill_43 : decode cX5_hill 43 = .ok (.getfield 23, 3) := by decide +kernel
theorem dX5_hill_46 : decode cX5_hill 46 = .ok (.iload_n 1, 1) := by decide +kernel
theorem dX5_hill_47 : decode cX5_hill 47 = .ok (.iaload, 1) := by decide +kernel
theorem dX5_hill_48 : decode cX5_hill 48 = .ok (.goto 18, 3) := by decide +kernel
theorem dX5_hill_51 : decode cX5_hill 51 = .ok (.iload_n 2, 1) := by decide +kernel
theorem dX5_hill_52 : decode cX5_hill 52 = .ok (.iconst 3, 1) := by decide +kernel
theorem dX5_hill_53 : decode cX5_hill 53 = .ok (.if_icmp .ne 12, 3) := by decide +kernel
theorem dX5_hill_56 : decode cX5_hill 56 = .ok (.aload_n 0, 1) := by decide +kernel
theorem dX5_hill_57 : decode cX5_hill 57 = .ok (.getfield 26, 3) := by decide +kernel
theorem dX5_hill_60 : decode cX5_hill 60 = .ok (.iload_n 1, 1) := by decide +kernel
theorem dX5_hill_61 : decode cX5_hill 61 = .ok (.iaload, 1) := by decide +kernel
theorem dX5_hill_62 : decode cX5_hill 62 = .ok (.goto 4, 3) := by decide +kernel
theorem dX5_hill_65 : decode cX5_hill 65 = .ok (.iconst (-1), 1) := by decide +kernel
theorem dX5_hill_66 : decode cX5_hill 66 = .ok (.ireturn, 1) := by decide +kernel
theorem dX5_sizeBy_0 : decode cX5_sizeBy 0 = .ok (.aload_n 0, 1) := by decide +kernel
theorem dX5_sizeBy_1 : decode cX5_sizeBy 1 = .ok (.getfield 26, 3) := by decide +kernel
theorem dX5_sizeBy_4 : decode cX5_sizeBy 4 = .ok (.iload_n 1, 1) := by decide +kernel
theorem dX5_sizeBy_5 : decode cX5_sizeBy 5 = .ok (.iaload, 1) := by decide +kernel
theorem dX5_sizeBy_6 : decode cX5_sizeBy 6 = .ok (.iload_n 2, 1) := by decide +kernel
theorem dX5_sizeBy_7 : decode cX5_sizeBy 7 = .ok (.bipush 8, 2) := by decide +kernel
theorem dX5_sizeBy_9 : decode cX5_sizeBy 9 = .ok (.idiv, 1) := by decide +kernel
theorem dX5_sizeBy_10 : decode cX5_sizeBy 10 = .ok (.isub, 1) := by decide +kernel
theorem dX5_sizeBy_11 : decode cX5_sizeBy 11 = .ok (.istore_n 3, 1) := by decide +kernel
theorem dX5_sizeBy_12 : decode cX5_sizeBy 12 = .ok (.iload_n 3, 1) := by decide +kernel
theorem dX5_sizeBy_13 : decode cX5_sizeBy 13 = .ok (.iconst 1, 1) := by decide +kernel
theorem dX5_sizeBy_14 : decode cX5_sizeBy 14 = .ok (.if_icmp .ge 7, 3) := by decide +kernel
theorem dX5_sizeBy_17 : decode cX5_sizeBy 17 = .ok (.iconst 1, 1) := by decide +kernel
theorem dX5_sizeBy_18 : decode cX5_sizeBy 18 = .ok (.goto 4, 3) := by decide +kernel
theorem dX5_sizeBy_21 : decode cX5_sizeBy 21 = .ok (.iload_n 3, 1) := by decide +kernel
theorem dX5_sizeBy_22 : decode cX5_sizeBy 22 = .ok (.ireturn, 1) := by decide +kernel
theorem dX5_sizeIn_0 : decode cX5_sizeIn 0 = .ok (.aload_n 0, 1) := by decide +kernel
theorem dX5_sizeIn_1 : decode cX5_sizeIn 1 = .ok (.iload_n 2, 1) := by decide +kernel
theorem dX5_sizeIn_2 : decode cX5_sizeIn 2 = .ok (.aload_n 0, 1) := by decide +kernel
theorem dX5_sizeIn_3 : decode cX5_sizeIn 3 = .ok (.getfield 7, 3) := by decide +kernel
theorem dX5_sizeIn_6 : decode cX5_sizeIn 6 = .ok (.iload_n 1, 1) := by decide +kernel
theorem dX5_sizeIn_7 : decode cX5_sizeIn 7 = .ok (.iconst 4, 1) := by decide +kernel
theorem dX5_sizeIn_8 : decode cX5_sizeIn 8 = .ok (.iadd, 1) := by decide +kernel
theorem dX5_sizeIn_9 : decode cX5_sizeIn 9 = .ok (.iload_n 2, 1) := by decide +kernel
theorem dX5_sizeIn_10 : decode cX5_sizeIn 10 = .ok (.iadd, 1) := by decide +kernel
theorem dX5_sizeIn_11 : decode cX5_sizeIn 11 = .ok (.iaload, 1) := by decide +kernel
theorem dX5_sizeIn_12 : decode cX5_sizeIn 12 = .ok (.invokevirtual 152, 3) := by decide +kernel
theorem dX5_sizeIn_15 : decode cX5_sizeIn 15 = .ok (.ireturn, 1) := by decide +kernel
theorem dX5_isOver_0 : decode cX5_isOver 0 = .ok (.aload_n 0, 1) := by decide +kernel
theorem dX5_isOver_1 : decode cX5_isOver 1 = .ok (.getfield 7, 3) := by decide +kernel
theorem dX5_isOver_4 : decode cX5_isOver 4 = .ok (.iload_n 1, 1) := by decide +kernel
theorem dX5_isOver_5 : decode cX5_isOver 5 = .ok (.iload_n 2, 1) := by decide +kernel
theorem dX5_isOver_6 : decode cX5_isOver 6 = .ok (.iadd, 1) := by decide +kernel
theorem dX5_isOver_7 : decode cX5_isOver 7 = .ok (.iaload, 1) := by decide +kernel
theorem dX5_isOver_8 : decode cX5_isOver 8 = .ok (.aload_n 0, 1) := by decide +kernel
theorem dX5_isOver_9 : decode cX5_isOver 9 = .ok (.getfield 17, 3) := by decide +kernel
theorem dX5_isOver_12 : decode cX5_isOver 12 = .ok (.iload_n 2, 1) := by decide +kernel
theorem dX5_isOver_13 : decode cX5_isOver 13 = .ok (.iaload, 1) := by decide +kernel
theorem dX5_isOver_14 : decode cX5_isOver 14 = .ok (.if_icmp .ne 7, 3) := by decide +kernel
theorem dX5_isOver_17 : decode cX5_isOver 17 = .ok (.iconst 1, 1) := by decide +kernel
theorem dX5_isOver_18 : decode cX5_isOver 18 = .ok (.goto 4, 3) := by decide +kernel
theorem dX5_isOver_21 : decode cX5_isOver 21 = .ok (.iconst 0, 1) := by decide +kernel
theorem dX5_isOver_22 : decode cX5_isOver 22 = .ok (.ireturn, 1) := by decide +kernel
theorem dX5_stone_0 : decode cX5_stone 0 = .ok (.aload_n 0, 1) := by decide +kernel
theorem dX5_stone_1 : decode cX5_stone 1 = .ok (.iload_n 1, 1) := by decide +kernel
theorem dX5_stone_2 : decode cX5_stone 2 = .ok (.invokevirtual 149, 3) := by decide +kernel
theorem dX5_stone_5 : decode cX5_stone 5 = .ok (.ifCond .ne 5, 3) := by decide +kernel
theorem dX5_stone_8 : decode cX5_stone 8 = .ok (.iconst (-1), 1) := by decide +kernel
theorem dX5_stone_9 : decode cX5_stone 9 = .ok (.ireturn, 1) := by decide +kernel
theorem dX5_stone_10 : decode cX5_stone 10 = .ok (.iload_n 2, 1) := by decide +kernel
theorem dX5_stone_11 : decode cX5_stone 11 = .ok (.ifCond .ne 12, 3) := by decide +kernel
theorem dX5_stone_14 : decode cX5_stone 14 = .ok (.aload_n 0, 1) := by decide +kernel
theorem dX5_stone_15 : decode cX5_stone 15 = .ok (.getfield 7, 3) := by decide +kernel
theorem dX5_stone_18 : decode cX5_stone 18 = .ok (.iload_n 1, 1) := by decide +kernel
theorem dX5_stone_19 : decode cX5_stone 19 = .ok (.iaload, 1) := by decide +kernel
theorem dX5_stone_20 : decode cX5_stone 20 = .ok (.goto 51, 3) := by decide +kernel
theorem dX5_stone_23 : decode cX5_stone 23 = .ok (.iload_n 2, 1) := by decide +kernel
theorem dX5_stone_24 : decode cX5_stone 24 = .ok (.iconst 1, 1) := by decide +kernel
theorem dX5_stone_25 : decode cX5_stone 25 = .ok (.if_icmp .ne 12, 3) := by decide +kernel
theorem dX5_stone_28 : decode cX5_stone 28 = .ok (.aload_n 0, 1) := by decide +kernel
theorem dX5_stone_29 : decode cX5_stone 29 = .ok (.iconst 0, 1) := by decide +kernel
theorem dX5_stone_30 : decode cX5_stone 30 = .ok (.iload_n 1, 1) := by decide +kernel
theorem dX5_stone_31 : decode cX5_stone 31 = .ok (.invokevirtual 155, 3) := by decide +kernel
theorem dX5_stone_34 : decode cX5_stone 34 = .ok (.goto 37, 3) := by decide +kernel
theorem dX5_stone_37 : decode cX5_stone 37 = .ok (.iload_n 2, 1) := by decide +kernel
theorem dX5_stone_38 : decode cX5_stone 38 = .ok (.iconst 2, 1) := by decide +kernel
theorem dX5_stone_39 : decode cX5_stone 39 = .ok (.if_icmp .ne 14, 3) := by decide +kernel
theorem dX5_stone_42 : decode cX5_stone 42 = .ok (.aload_n 0, 1) := by decide +kernel
theorem dX5_stone_43 : decode cX5_stone 43 = .ok (.getfield 7, 3) := by decide +kernel
theorem dX5_stone_46 : decode cX5_stone 46 = .ok (.iconst 4, 1) := by decide +kernel
theorem dX5_stone_47 : decode cX5_stone 47 = .ok (.iload_n 1, 1) := by decide +kernel
theorem dX5_stone_48 : decode cX5_stone 48 = .ok (.iadd, 1) := by decide +kernel
theorem dX5_stone_49 : decode cX5_stone 49 = .ok (.iaload, 1) := by decide +kernel
theorem dX5_stone_50 : decode cX5_stone 50 = .ok (.goto 21, 3) := by decide +kernel
theorem dX5_stone_53 : decode cX5_stone 53 = .ok (.iload_n 2, 1) := by decide +kernel
theorem dX5_stone_54 : decode cX5_stone 54 = .ok (.iconst 3, 1) := by decide +kernel
theorem dX5_stone_55 : decode cX5_stone 55 = .ok (.if_icmp .ne 15, 3) := by decide +kernel
theorem dX5_stone_58 : decode cX5_stone 58 = .ok (.aload_n 0, 1) := by decide +kernel
theorem dX5_stone_59 : decode cX5_stone 59 = .ok (.iconst 0, 1) := by decide +kernel
theorem dX5_stone_60 : decode cX5_stone 60 = .ok (.iload_n 1, 1) := by decide +kernel
theorem dX5_stone_61 : decode cX5_stone 61 = .ok (.invokevirtual 158, 3) := by decide +kernel
theorem dX5_stone_64 : decode cX5_stone 64 = .ok (.invokestatic 161, 3) := by decide +kernel
theorem dX5_stone_67 : decode cX5_stone 67 = .ok (.goto 4, 3) := by decide +kernel
theorem dX5_stone_70 : decode cX5_stone 70 = .ok (.iconst (-1), 1) := by decide +kernel
theorem dX5_stone_71 : decode cX5_stone 71 = .ok (.ireturn, 1) := by decide +kernel
theorem dX5_man_0 : decode cX5_man 0 = .ok (.aload_n 0, 1) := by decide +kernel
theorem dX5_man_1 : decode cX5_man 1 = .ok (.iload_n 1, 1) := by decide +kernel
theorem dX5_man_2 : decode cX5_man 2 = .ok (.invokevirtual 165, 3) := by decide +kernel
theorem dX5_man_5 : decode cX5_man 5 = .ok (.ifCond .ne 5, 3) := by decide +kernel
theorem dX5_man_8 : decode cX5_man 8 = .ok (.iconst (-1), 1) := by decide +kernel
theorem dX5_man_9 : decode cX5_man 9 = .ok (.ireturn, 1) := by decide +kernel
theorem dX5_man_10 : decode cX5_man 10 = .ok (.iload_n 2, 1) := by decide +kernel
theorem dX5_man_11 : decode cX5_man 11 = .ok (.ifCond .ne 12, 3) := by decide +kernel
theorem dX5_man_14 : decode cX5_man 14 = .ok (.aload_n 0, 1) := by decide +kernel
theorem dX5_man_15 : decode cX5_man 15 = .ok (.getfield 38, 3) := by decide +kernel
theorem dX5_man_18 : decode cX5_man 18 = .ok (.iload_n 1, 1) := by decide +kernel
theorem dX5_man_19 : decode cX5_man 19 = .ok (.iaload, 1) := by decide +kernel
theorem dX5_man_20 : decode cX5_man 20 = .ok (.goto 38, 3) := by decide +kernel
theorem dX5_man_23 : decode cX5_man 23 = .ok (.iload_n 2, 1) := by decide +kernel
theorem dX5_man_24 : decode cX5_man 24 = .ok (.iconst 1, 1) := by decide +kernel
theorem dX5_man_25 : decode cX5_man 25 = .ok (.if_icmp .ne 15, 3) := by decide +kernel
theorem dX5_man_28 : decode cX5_man 28 = .ok (.aload_n 0, 1) := by decide +kernel
theorem dX5_man_29 : decode cX5_man 29 = .ok (.getfield 7, 3) := by decide +kernel
theorem dX5_man_32 : decode cX5_man 32 = .ok (.bipush 8, 2) := by decide +kernel
theorem dX5_man_34 : decode cX5_man 34 = .ok (.iload_n 1, 1) := by decide +kernel
theorem dX5_man_35 : decode cX5_man 35 = .ok (.iadd, 1) := by decide +kernel
theorem dX5_man_36 : decode cX5_man 36 = .ok (.iaload, 1) := by decide +kernel
theorem dX5_man_37 : decode cX5_man 37 = .ok (.goto 21, 3) := by decide +kernel
theorem dX5_man_40 : decode cX5_man 40 = .ok (.iload_n 2, 1) := by decide +kernel
theorem dX5_man_41 : decode cX5_man 41 = .ok (.iconst 2, 1) := by decide +kernel
theorem dX5_man_42 : decode cX5_man 42 = .ok (.if_icmp .ne 15, 3) := by decide +kernel
theorem dX5_man_45 : decode cX5_man 45 = .ok (.aload_n 0, 1) := by decide +kernel
theorem dX5_man_46 : decode cX5_man 46 = .ok (.getfield 7, 3) := by decide +kernel
theorem dX5_man_49 : decode cX5_man 49 = .ok (.bipush 11, 2) := by decide +kernel
theorem dX5_man_51 : decode cX5_man 51 = .ok (.iload_n 1, 1) := by decide +kernel
theorem dX5_man_52 : decode cX5_man 52 = .ok (.iadd, 1) := by decide +kernel
theorem dX5_man_53 : decode cX5_man 53 = .ok (.iaload, 1) := by decide +kernel
theorem dX5_man_54 : decode cX5_man 54 = .ok (.goto 4, 3) := by decide +kernel
theorem dX5_man_57 : decode cX5_man 57 = .ok (.iconst (-1), 1) := by decide +kernel
theorem dX5_man_58 : decode cX5_man 58 = .ok (.ireturn, 1) := by decide +kernel
theorem dX5_over_0 : decode cX5_over 0 = .ok (.iconst 0, 1) := by decide +kernel
theorem dX5_over_1 : decode cX5_over 1 = .ok (.istore_n 1, 1) := by decide +kernel
theorem dX5_over_2 : decode cX5_over 2 = .ok (.iconst 0, 1) := by decide +kernel
theorem dX5_over_3 : decode cX5_over 3 = .ok (.istore_n 2, 1) := by decide +kernel
theorem dX5_over_4 : decode cX5_over 4 = .ok (.iload_n 2, 1) := by decide +kernel
theorem dX5_over_5 : decode cX5_over 5 = .ok (.aload_n 0, 1) := by decide +kernel
theorem dX5_over_6 : decode cX5_over 6 = .ok (.getfield 131, 3) := by decide +kernel
theorem dX5_over_9 : decode cX5_over 9 = .ok (.if_icmp .ge 23, 3) := by decide +kernel
theorem dX5_over_12 : decode cX5_over 12 = .ok (.iload_n 1, 1) := by decide +kernel
theorem dX5_over_13 : decode cX5_over 13 = .ok (.aload_n 0, 1) := by decide +kernel
theorem dX5_over_14 : decode cX5_over 14 = .ok (.iconst 0, 1) := by decide +kernel
theorem dX5_over_15 : decode cX5_over 15 = .ok (.iload_n 2, 1) := by decide +kernel
theorem dX5_over_16 : decode cX5_over 16 = .ok (.invokevirtual 158, 3) := by decide +kernel
theorem dX5_over_19 : decode cX5_over 19 = .ok (.invokestatic 161, 3) := by decide +kernel
theorem dX5_over_22 : decode cX5_over 22 = .ok (.iload_n 2, 1) := by decide +kernel
theorem dX5_over_23 : decode cX5_over 23 = .ok (.ishl, 1) := by decide +kernel
theorem dX5_over_24 : decode cX5_over 24 = .ok (.ior, 1) := by decide +kernel
theorem dX5_over_25 : decode cX5_over 25 = .ok (.istore_n 1, 1) := by decide +kernel
theorem dX5_over_26 : decode cX5_over 26 = .ok (.iinc 2 1, 3) := by decide +kernel
theorem dX5_over_29 : decode cX5_over 29 = .ok (.goto (-25), 3) := by decide +kernel
theorem dX5_over_32 : decode cX5_over 32 = .ok (.iload_n 1, 1) := by decide +kernel
theorem dX5_over_33 : decode cX5_over 33 = .ok (.ireturn, 1) := by decide +kernel
theorem dX5_now_0 : decode cX5_now 0 = .ok (.iload_n 1, 1) := by decide +kernel
theorem dX5_now_1 : decode cX5_now 1 = .ok (.tableswitch 69 0 4 #[35, 43, 51, 56, 64], 35) := by decide +kernel
theorem dX5_now_36 : decode cX5_now 36 = .ok (.aload_n 0, 1) := by decide +kernel
theorem dX5_now_37 : decode cX5_now 37 = .ok (.getfield 7, 3) := by decide +kernel
theorem dX5_now_40 : decode cX5_now 40 = .ok (.bipush 14, 2) := by decide +kernel
theorem dX5_now_42 : decode cX5_now 42 = .ok (.iaload, 1) := by decide +kernel
theorem dX5_now_43 : decode cX5_now 43 = .ok (.ireturn, 1) := by decide +kernel
theorem dX5_now_44 : decode cX5_now 44 = .ok (.aload_n 0, 1) := by decide +kernel
theorem dX5_now_45 : decode cX5_now 45 = .ok (.getfield 7, 3) := by decide +kernel
theorem dX5_now_48 : decode cX5_now 48 = .ok (.bipush 15, 2) := by decide +kernel
theorem dX5_now_50 : decode cX5_now 50 = .ok (.iaload, 1) := by decide +kernel
theorem dX5_now_51 : decode cX5_now 51 = .ok (.ireturn, 1) := by decide +kernel
theorem dX5_now_52 : decode cX5_now 52 = .ok (.aload_n 0, 1) := by decide +kernel
theorem dX5_now_53 : decode cX5_now 53 = .ok (.invokevirtual 168, 3) := by decide +kernel
theorem dX5_now_56 : decode cX5_now 56 = .ok (.ireturn, 1) := by decide +kernel
theorem dX5_now_57 : decode cX5_now 57 = .ok (.aload_n 0, 1) := by decide +kernel
theorem dX5_now_58 : decode cX5_now 58 = .ok (.getfield 7, 3) := by decide +kernel
theorem dX5_now_61 : decode cX5_now 61 = .ok (.bipush 16, 2) := by decide +kernel
theorem dX5_now_63 : decode cX5_now 63 = .ok (.iaload, 1) := by decide +kernel
theorem dX5_now_64 : decode cX5_now 64 = .ok (.ireturn, 1) := by decide +kernel
theorem dX5_now_65 : decode cX5_now 65 = .ok (.aload_n 0, 1) := by decide +kernel
theorem dX5_now_66 : decode cX5_now 66 = .ok (.getfield 146, 3) := by decide +kernel
theorem dX5_now_69 : decode cX5_now 69 = .ok (.ireturn, 1) := by decide +kernel
theorem dX5_now_70 : decode cX5_now 70 = .ok (.iconst (-1), 1) := by decide +kernel
theorem dX5_now_71 : decode cX5_now 71 = .ok (.ireturn, 1) := by decide +kernel
theorem dX5_blocksIn_0 : decode cX5_blocksIn 0 = .ok (.iconst 0, 1) := by decide +kernel
theorem dX5_blocksIn_1 : decode cX5_blocksIn 1 = .ok (.istore 4, 2) := by decide +kernel
theorem dX5_blocksIn_3 : decode cX5_blocksIn 3 = .ok (.iconst 0, 1) := by decide +kernel
theorem dX5_blocksIn_4 : decode cX5_blocksIn 4 = .ok (.istore 5, 2) := by decide +kernel
theorem dX5_blocksIn_6 : decode cX5_blocksIn 6 = .ok (.iload 5, 2) := by decide +kernel
theorem dX5_blocksIn_8 : decode cX5_blocksIn 8 = .ok (.aload_n 0, 1) := by decide +kernel
theorem dX5_blocksIn_9 : decode cX5_blocksIn 9 = .ok (.getfield 134, 3) := by decide +kernel
theorem dX5_blocksIn_12 : decode cX5_blocksIn 12 = .ok (.if_icmp .ge 119, 3) := by decide +kernel
theorem dX5_blocksIn_15 : decode cX5_blocksIn 15 = .ok (.aload_n 0, 1) := by decide +kernel
theorem dX5_blocksIn_16 : decode cX5_blocksIn 16 = .ok (.getfield 29, 3) := by decide +kernel
theorem dX5_blocksIn_19 : decode cX5_blocksIn 19 = .ok (.iload 5, 2) := by decide +kernel
theorem dX5_blocksIn_21 : decode cX5_blocksIn 21 = .ok (.iaload, 1) := by decide +kernel
theorem dX5_blocksIn_22 : decode cX5_blocksIn 22 = .ok (.iload_n 2, 1) := by decide +kernel
theorem dX5_blocksIn_23 : decode cX5_blocksIn 23 = .ok (.if_icmp .ne 13, 3) := by decide +kernel
theorem dX5_blocksIn_26 : decode cX5_blocksIn 26 = .ok (.aload_n 0, 1) := by decide +kernel
theorem dX5_blocksIn_27 : decode cX5_blocksIn 27 = .ok (.getfield 32, 3) := by decide +kernel
theorem dX5_blocksIn_30 : decode cX5_blocksIn 30 = .ok (.iload 5, 2) := by decide +kernel
theorem dX5_blocksIn_32 : decode cX5_blocksIn 32 = .ok (.iaload, 1) := by decide +kernel
theorem dX5_blocksIn_33 : decode cX5_blocksIn 33 = .ok (.goto 26, 3) := by decide +kernel
theorem dX5_blocksIn_36 : decode cX5_blocksIn 36 = .ok (.aload_n 0, 1) := by decide +kernel
theorem dX5_blocksIn_37 : decode cX5_blocksIn 37 = .ok (.getfield 32, 3) := by decide +kernel
theorem dX5_blocksIn_40 : decode cX5_blocksIn 40 = .ok (.iload 5, 2) := by decide +kernel
theorem dX5_blocksIn_42 : decode cX5_blocksIn 42 = .ok (.iaload, 1) := by decide +kernel
theorem dX5_blocksIn_43 : decode cX5_blocksIn 43 = .ok (.iload_n 2, 1) := by decide +kernel
theorem dX5_blocksIn_44 : decode cX5_blocksIn 44 = .ok (.if_icmp .ne 13, 3) := by decide +kernel
theorem dX5_blocksIn_47 : decode cX5_blocksIn 47 = .ok (.aload_n 0, 1) := by decide +kernel
theorem dX5_blocksIn_48 : decode cX5_blocksIn 48 = .ok (.getfield 29, 3) := by decide +kernel
theorem dX5_blocksIn_51 : decode cX5_blocksIn 51 = .ok (.iload 5, 2) := by decide +kernel
theorem dX5_blocksIn_53 : decode cX5_blocksIn 53 = .ok (.iaload, 1) := by decide +kernel
theorem dX5_blocksIn_54 : decode cX5_blocksIn 54 = .ok (.goto 5, 3) := by decide +kernel
theorem dX5_blocksIn_57 : decode cX5_blocksIn 57 = .ok (.bipush (-9), 2) := by decide +kernel
theorem dX5_blocksIn_59 : decode cX5_blocksIn 59 = .ok (.istore 6, 2) := by decide +kernel
theorem dX5_blocksIn_61 : decode cX5_blocksIn 61 = .ok (.iload 6, 2) := by decide +kernel
theorem dX5_blocksIn_63 : decode cX5_blocksIn 63 = .ok (.ifCond .lt 41, 3) := by decide +kernel
theorem dX5_blocksIn_66 : decode cX5_blocksIn 66 = .ok (.aload_n 0, 1) := by decide +kernel
theorem dX5_blocksIn_67 : decode cX5_blocksIn 67 = .ok (.getfield 35, 3) := by decide +kernel
theorem dX5_blocksIn_70 : decode cX5_blocksIn 70 = .ok (.iload 5, 2) := by decide +kernel
theorem dX5_blocksIn_72 : decode cX5_blocksIn 72 = .ok (.iaload, 1) := by decide +kernel
theorem dX5_blocksIn_73 : decode cX5_blocksIn 73 = .ok (.iload_n 3, 1) := by decide +kernel
theorem dX5_blocksIn_74 : decode cX5_blocksIn 74 = .ok (.if_icmp .gt 30, 3) := by decide +kernel
theorem dX5_blocksIn_77 : decode cX5_blocksIn 77 = .ok (.aload_n 0, 1) := by decide +kernel
theorem dX5_blocksIn_78 : decode cX5_blocksIn 78 = .ok (.getfield 7, 3) := by decide +kernel
theorem dX5_blocksIn_81 : decode cX5_blocksIn 81 = .ok (.iload_n 1, 1) := by decide +kernel
theorem dX5_blocksIn_82 : decode cX5_blocksIn 82 = .ok (.iload 6, 2) := by decide +kernel
theorem dX5_blocksIn_84 : decode cX5_blocksIn 84 = .ok (.iadd, 1) := by decide +kernel
theorem dX5_blocksIn_85 : decode cX5_blocksIn 85 = .ok (.iaload, 1) := by decide +kernel
theorem dX5_blocksIn_86 : decode cX5_blocksIn 86 = .ok (.iload_n 3, 1) := by decide +kernel
theorem dX5_blocksIn_87 : decode cX5_blocksIn 87 = .ok (.if_icmp .ne 17, 3) := by decide +kernel
theorem dX5_blocksIn_90 : decode cX5_blocksIn 90 = .ok (.aload_n 0, 1) := by decide +kernel
theorem dX5_blocksIn_91 : decode cX5_blocksIn 91 = .ok (.iload_n 1, 1) := by decide +kernel
theorem dX5_blocksIn_92 : decode cX5_blocksIn 92 = .ok (.iload 6, 2) := by decide +kernel
theorem dX5_blocksIn_94 : decode cX5_blocksIn 94 = .ok (.invokevirtual 158, 3) := by decide +kernel
theorem dX5_blocksIn_97 : decode cX5_blocksIn 97 = .ok (.ifCond .ne 7, 3) := by decide +kernel
theorem dX5_blocksIn_100 : decode cX5_blocksIn 100 = .ok (.iconst 1, 1) := by decide +kernel
theorem dX5_blocksIn_101 : decode cX5_blocksIn 101 = .ok (.goto 4, 3) := by decide +kernel
theorem dX5_blocksIn_104 : decode cX5_blocksIn 104 = .ok (.iconst 0, 1) := by decide +kernel
theorem dX5_blocksIn_105 : decode cX5_blocksIn 105 = .ok (.istore 7, 2) := by decide +kernel
theorem dX5_blocksIn_107 : decode cX5_blocksIn 107 = .ok (.iload 4, 2) := by decide +kernel
theorem dX5_blocksIn_109 : decode cX5_blocksIn 109 = .ok (.iload 7, 2) := by decide +kernel
theorem dX5_blocksIn_111 : decode cX5_blocksIn 111 = .ok (.ifCond .eq 10, 3) := by decide +kernel
theorem dX5_blocksIn_114 : decode cX5_blocksIn 114 = .ok (.iconst 1, 1) := by decide +kernel
theorem dX5_blocksIn_115 : decode cX5_blocksIn 115 = .ok (.iload 6, 2) := by decide +kernel
theorem dX5_blocksIn_117 : decode cX5_blocksIn 117 = .ok (.ishl, 1) := by decide +kernel
theorem dX5_blocksIn_118 : decode cX5_blocksIn 118 = .ok (.goto 4, 3) := by decide +kernel
theorem dX5_blocksIn_121 : decode cX5_blocksIn 121 = .ok (.iconst 0, 1) := by decide +kernel
theorem dX5_blocksIn_122 : decode cX5_blocksIn 122 = .ok (.ior, 1) := by decide +kernel
theorem dX5_blocksIn_123 : decode cX5_blocksIn 123 = .ok (.istore 4, 2) := by decide +kernel
theorem dX5_blocksIn_125 : decode cX5_blocksIn 125 = .ok (.iinc 5 1, 3) := by decide +kernel
theorem dX5_blocksIn_128 : decode cX5_blocksIn 128 = .ok (.goto (-122), 3) := by decide +kernel
theorem dX5_blocksIn_131 : decode cX5_blocksIn 131 = .ok (.iload 4, 2) := by decide +kernel
theorem dX5_blocksIn_133 : decode cX5_blocksIn 133 = .ok (.ireturn, 1) := by decide +kernel
theorem dX5_copy_0 : decode cX5_copy 0 = .ok (.iconst 0, 1) := by decide +kernel
theorem dX5_copy_1 : decode cX5_copy 1 = .ok (.istore_n 3, 1) := by decide +kernel
theorem dX5_copy_2 : decode cX5_copy 2 = .ok (.iload_n 3, 1) := by decide +kernel
theorem dX5_copy_3 : decode cX5_copy 3 = .ok (.bipush 100, 2) := by decide +kernel
theorem dX5_copy_5 : decode cX5_copy 5 = .ok (.if_icmp .ge 25, 3) := by decide +kernel
theorem dX5_copy_8 : decode cX5_copy 8 = .ok (.aload_n 0, 1) := by decide +kernel
theorem dX5_copy_9 : decode cX5_copy 9 = .ok (.getfield 7, 3) := by decide +kernel
theorem dX5_copy_12 : decode cX5_copy 12 = .ok (.iload_n 2, 1) := by decide +kernel
theorem dX5_copy_13 : decode cX5_copy 13 = .ok (.iload_n 3, 1) := by decide +kernel
theorem dX5_copy_14 : decode cX5_copy 14 = .ok (.iadd, 1) := by decide +kernel
theorem dX5_copy_15 : decode cX5_copy 15 = .ok (.aload_n 0, 1) := by decide +kernel
theorem dX5_copy_16 : decode cX5_copy 16 = .ok (.getfield 7, 3) := by decide +kernel
theorem dX5_copy_19 : decode cX5_copy 19 = .ok (.iload_n 1, 1) := by decide +kernel
theorem dX5_copy_20 : decode cX5_copy 20 = .ok (.iload_n 3, 1) := by decide +kernel
theorem dX5_copy_21 : decode cX5_copy 21 = .ok (.iadd, 1) := by decide +kernel
theorem dX5_copy_22 : decode cX5_copy 22 = .ok (.iaload, 1) := by decide +kernel
theorem dX5_copy_23 : decode cX5_copy 23 = .ok (.iastore, 1) := by decide +kernel
theorem dX5_copy_24 : decode cX5_copy 24 = .ok (.iinc 3 1, 3) := by decide +kernel
theorem dX5_copy_27 : decode cX5_copy 27 = .ok (.goto (-25), 3) := by decide +kernel
theorem dX5_copy_30 : decode cX5_copy 30 = .ok (.return_, 1) := by decide +kernel
theorem dX5_remember_0 : decode cX5_remember 0 = .ok (.aload_n 0, 1) := by decide +kernel
theorem dX5_remember_1 : decode cX5_remember 1 = .ok (.getfield 146, 3) := by decide +kernel
theorem dX5_remember_4 : decode cX5_remember 4 = .ok (.bipush 10, 2) := by decide +kernel
theorem dX5_remember_6 : decode cX5_remember 6 = .ok (.if_icmp .ne 49, 3) := by decide +kernel
theorem dX5_remember_9 : decode cX5_remember 9 = .ok (.iconst 1, 1) := by decide +kernel
theorem dX5_remember_10 : decode cX5_remember 10 = .ok (.istore_n 1, 1) := by decide +kernel
theorem dX5_remember_11 : decode cX5_remember 11 = .ok (.iload_n 1, 1) := by decide +kernel
theorem dX5_remember_12 : decode cX5_remember 12 = .ok (.bipush 10, 2) := by decide +kernel
theorem dX5_remember_14 : decode cX5_remember 14 = .ok (.if_icmp .ge 31, 3) := by decide +kernel
theorem dX5_remember_17 : decode cX5_remember 17 = .ok (.aload_n 0, 1) := by decide +kernel
theorem dX5_remember_18 : decode cX5_remember 18 = .ok (.sipush 400, 3) := by decide +kernel
theorem dX5_remember_21 : decode cX5_remember 21 = .ok (.bipush 100, 2) := by decide +kernel
theorem dX5_remember_23 : decode cX5_remember 23 = .ok (.iload_n 1, 1) := by decide +kernel
theorem dX5_remember_24 : decode cX5_remember 24 = .ok (.imul, 1) := by decide +kernel
theorem dX5_remember_25 : decode cX5_remember 25 = .ok (.iadd, 1) := by decide +kernel
theorem dX5_remember_26 : decode cX5_remember 26 = .ok (.sipush 400, 3) := by decide +kernel
theorem dX5_remember_29 : decode cX5_remember 29 = .ok (.bipush 100, 2) := by decide +kernel
theorem dX5_remember_31 : decode cX5_remember 31 = .ok (.iload_n 1, 1) := by decide +kernel
theorem dX5_remember_32 : decode cX5_remember 32 = .ok (.iconst 1, 1) := by decide +kernel
theorem dX5_remember_33 : decode cX5_remember 33 = .ok (.isub, 1) := by decide +kernel
theorem dX5_remember_34 : decode cX5_remember 34 = .ok (.imul, 1) := by decide +kernel
theorem dX5_remember_35 : decode cX5_remember 35 = .ok (.iadd, 1) := by decide +kernel
theorem dX5_remember_36 : decode cX5_remember 36 = .ok (.invokevirtual 172, 3) := by decide +kernel
theorem dX5_remember_39 : decode cX5_remember 39 = .ok (.iinc 1 1, 3) := by decide +kernel
theorem dX5_remember_42 : decode cX5_remember 42 = .ok (.goto (-31), 3) := by decide +kernel
theorem dX5_remember_45 : decode cX5_remember 45 = .ok (.aload_n 0, 1) := by decide +kernel
theorem dX5_remember_46 : decode cX5_remember 46 = .ok (.dup, 1) := by decide +kernel
theorem dX5_remember_47 : decode cX5_remember 47 = .ok (.getfield 146, 3) := by decide +kernel
theorem dX5_remember_50 : decode cX5_remember 50 = .ok (.iconst 1, 1) := by decide +kernel
theorem dX5_remember_51 : decode cX5_remember 51 = .ok (.isub, 1) := by decide +kernel
theorem dX5_remember_52 : decode cX5_remember 52 = .ok (.putfield 146, 3) := by decide +kernel
theorem dX5_remember_55 : decode cX5_remember 55 = .ok (.aload_n 0, 1) := by decide +kernel
theorem dX5_remember_56 : decode cX5_remember 56 = .ok (.iconst 0, 1) := by decide +kernel
theorem dX5_remember_57 : decode cX5_remember 57 = .ok (.sipush 400, 3) := by decide +kernel
theorem dX5_remember_60 : decode cX5_remember 60 = .ok (.bipush 100, 2) := by decide +kernel
theorem dX5_remember_62 : decode cX5_remember 62 = .ok (.aload_n 0, 1) := by decide +kernel
theorem dX5_remember_63 : decode cX5_remember 63 = .ok (.getfield 146, 3) := by decide +kernel
theorem dX5_remember_66 : decode cX5_remember 66 = .ok (.imul, 1) := by decide +kernel
theorem dX5_remember_67 : decode cX5_remember 67 = .ok (.iadd, 1) := by decide +kernel
theorem dX5_remember_68 : decode cX5_remember 68 = .ok (.invokevirtual 172, 3) := by decide +kernel
theorem dX5_remember_71 : decode cX5_remember 71 = .ok (.aload_n 0, 1) := by decide +kernel
theorem dX5_remember_72 : decode cX5_remember 72 = .ok (.dup, 1) := by decide +kernel
theorem dX5_remember_73 : decode cX5_remember 73 = .ok (.getfield 146, 3) := by decide +kernel
theorem dX5_remember_76 : decode cX5_remember 76 = .ok (.iconst 1, 1) := by decide +kernel
theorem dX5_remember_77 : decode cX5_remember 77 = .ok (.iadd, 1) := by decide +kernel
theorem dX5_remember_78 : decode cX5_remember 78 = .ok (.putfield 146, 3) := by decide +kernel
theorem dX5_remember_81 : decode cX5_remember 81 = .ok (.return_, 1) := by decide +kernel
theorem dX5_order_0 : decode cX5_order 0 = .ok (.aload_n 0, 1) := by decide +kernel
theorem dX5_order_1 : decode cX5_order 1 = .ok (.iload_n 1, 1) := by decide +kernel
theorem dX5_order_2 : decode cX5_order 2 = .ok (.invokevirtual 165, 3) := by decide +kernel
theorem dX5_order_5 : decode cX5_order 5 = .ok (.ifCond .eq 17, 3) := by decide +kernel
theorem dX5_order_8 : decode cX5_order 8 = .ok (.iload_n 2, 1) := by decide +kernel
theorem dX5_order_9 : decode cX5_order 9 = .ok (.bipush (-9), 2) := by decide +kernel
theorem dX5_order_11 : decode cX5_order 11 = .ok (.if_icmp .eq 13, 3) := by decide +kernel
theorem dX5_order_14 : decode cX5_order 14 = .ok (.aload_n 0, 1) := by decide +kernel
theorem dX5_order_15 : decode cX5_order 15 = .ok (.iload_n 2, 1) := by decide +kernel
theorem dX5_order_16 : decode cX5_order 16 = .ok (.invokevirtual 149, 3) := by decide +kernel
theorem dX5_order_19 : decode cX5_order 19 = .ok (.ifCond .ne 5, 3) := by decide +kernel
theorem dX5_order_22 : decode cX5_order 22 = .ok (.iconst (-1), 1) := by decide +kernel
theorem dX5_order_23 : decode cX5_order 23 = .ok (.ireturn, 1) := by decide +kernel
theorem dX5_order_24 : decode cX5_order 24 = .ok (.aload_n 0, 1) := by decide +kernel
theorem dX5_order_25 : decode cX5_order 25 = .ok (.invokevirtual 176, 3) := by decide +kernel
theorem dX5_order_28 : decode cX5_order 28 = .ok (.aload_n 0, 1) := by decide +kernel
theorem dX5_order_29 : decode cX5_order 29 = .ok (.getfield 7, 3) := by decide +kernel
theorem dX5_order_32 : decode cX5_order 32 = .ok (.bipush 11, 2) := by decide +kernel
theorem dX5_order_34 : decode cX5_order 34 = .ok (.iload_n 1, 1) := by decide +kernel
theorem dX5_order_35 : decode cX5_order 35 = .ok (.iadd, 1) := by decide +kernel
theorem dX5_order_36 : decode cX5_order 36 = .ok (.iaload, 1) := by decide +kernel
theorem dX5_order_37 : decode cX5_order 37 = .ok (.istore_n 3, 1) := by decide +kernel
theorem dX5_order_38 : decode cX5_order 38 = .ok (.aload_n 0, 1) := by decide +kernel
theorem dX5_order_39 : decode cX5_order 39 = .ok (.getfield 7, 3) := by decide +kernel
theorem dX5_order_42 : decode cX5_order 42 = .ok (.bipush 11, 2) := by decide +kernel
theorem dX5_order_44 : decode cX5_order 44 = .ok (.iload_n 1, 1) := by decide +kernel
theorem dX5_order_45 : decode cX5_order 45 = .ok (.iadd, 1) := by decide +kernel
theorem dX5_order_46 : decode cX5_order 46 = .ok (.iload_n 2, 1) := by decide +kernel
theorem dX5_order_47 : decode cX5_order 47 = .ok (.iastore, 1) := by decide +kernel
theorem dX5_order_48 : decode cX5_order 48 = .ok (.iload_n 3, 1) := by decide +kernel
theorem dX5_order_49 : decode cX5_order 49 = .ok (.ireturn, 1) := by decide +kernel
theorem dX5_pushOf_0 : decode cX5_pushOf 0 = .ok (.iconst 0, 1) := by decide +kernel
theorem dX5_pushOf_1 : decode cX5_pushOf 1 = .ok (.istore_n 3, 1) := by decide +kernel
theorem dX5_pushOf_2 : decode cX5_pushOf 2 = .ok (.iconst 0, 1) := by decide +kernel
theorem dX5_pushOf_3 : decode cX5_pushOf 3 = .ok (.istore 4, 2) := by decide +kernel
theorem dX5_pushOf_5 : decode cX5_pushOf 5 = .ok (.iload 4, 2) := by decide +kernel
theorem dX5_pushOf_7 : decode cX5_pushOf 7 = .ok (.aload_n 0, 1) := by decide +kernel
theorem dX5_pushOf_8 : decode cX5_pushOf 8 = .ok (.getfield 137, 3) := by decide +kernel
theorem dX5_pushOf_11 : decode cX5_pushOf 11 = .ok (.if_icmp .ge 44, 3) := by decide +kernel
theorem dX5_pushOf_14 : decode cX5_pushOf 14 = .ok (.iload_n 3, 1) := by decide +kernel
theorem dX5_pushOf_15 : decode cX5_pushOf 15 = .ok (.aload_n 0, 1) := by decide +kernel
theorem dX5_pushOf_16 : decode cX5_pushOf 16 = .ok (.getfield 7, 3) := by decide +kernel
theorem dX5_pushOf_19 : decode cX5_pushOf 19 = .ok (.iload_n 1, 1) := by decide +kernel
theorem dX5_pushOf_20 : decode cX5_pushOf 20 = .ok (.bipush 11, 2) := by decide +kernel
theorem dX5_pushOf_22 : decode cX5_pushOf 22 = .ok (.iadd, 1) := by decide +kernel
theorem dX5_pushOf_23 : decode cX5_pushOf 23 = .ok (.iload 4, 2) := by decide +kernel
theorem dX5_pushOf_25 : decode cX5_pushOf 25 = .ok (.iadd, 1) := by decide +kernel
theorem dX5_pushOf_26 : decode cX5_pushOf 26 = .ok (.iaload, 1) := by decide +kernel
theorem dX5_pushOf_27 : decode cX5_pushOf 27 = .ok (.iload_n 2, 1) := by decide +kernel
theorem dX5_pushOf_28 : decode cX5_pushOf 28 = .ok (.if_icmp .ne 18, 3) := by decide +kernel
theorem dX5_pushOf_31 : decode cX5_pushOf 31 = .ok (.aload_n 0, 1) := by decide +kernel
theorem dX5_pushOf_32 : decode cX5_pushOf 32 = .ok (.getfield 7, 3) := by decide +kernel
theorem dX5_pushOf_35 : decode cX5_pushOf 35 = .ok (.iload_n 1, 1) := by decide +kernel
theorem dX5_pushOf_36 : decode cX5_pushOf 36 = .ok (.bipush 8, 2) := by decide +kernel
theorem dX5_pushOf_38 : decode cX5_pushOf 38 = .ok (.iadd, 1) := by decide +kernel
theorem dX5_pushOf_39 : decode cX5_pushOf 39 = .ok (.iload 4, 2) := by decide +kernel
theorem dX5_pushOf_41 : decode cX5_pushOf 41 = .ok (.iadd, 1) := by decide +kernel
theorem dX5_pushOf_42 : decode cX5_pushOf 42 = .ok (.iaload, 1) := by decide +kernel
theorem dX5_pushOf_43 : decode cX5_pushOf 43 = .ok (.goto 4, 3) := by decide +kernel
theorem dX5_pushOf_46 : decode cX5_pushOf 46 = .ok (.iconst 0, 1) := by decide +kernel
theorem dX5_pushOf_47 : decode cX5_pushOf 47 = .ok (.iadd, 1) := by decide +kernel
theorem dX5_pushOf_48 : decode cX5_pushOf 48 = .ok (.istore_n 3, 1) := by decide +kernel
theorem dX5_pushOf_49 : decode cX5_pushOf 49 = .ok (.iinc 4 1, 3) := by decide +kernel
theorem dX5_pushOf_52 : decode cX5_pushOf 52 = .ok (.goto (-47), 3) := by decide +kernel
theorem dX5_pushOf_55 : decode cX5_pushOf 55 = .ok (.iload_n 3, 1) := by decide +kernel
theorem dX5_pushOf_56 : decode cX5_pushOf 56 = .ok (.ireturn, 1) := by decide +kernel
theorem dX5_overIn_0 : decode cX5_overIn 0 = .ok (.iconst 0, 1) := by decide +kernel
theorem dX5_overIn_1 : decode cX5_overIn 1 = .ok (.istore_n 2, 1) := by decide +kernel
theorem dX5_overIn_2 : decode cX5_overIn 2 = .ok (.iconst 0, 1) := by decide +kernel
theorem dX5_overIn_3 : decode cX5_overIn 3 = .ok (.istore_n 3, 1) := by decide +kernel
theorem dX5_overIn_4 : decode cX5_overIn 4 = .ok (.iload_n 3, 1) := by decide +kernel
theorem dX5_overIn_5 : decode cX5_overIn 5 = .ok (.aload_n 0, 1) := by decide +kernel
theorem dX5_overIn_6 : decode cX5_overIn 6 = .ok (.getfield 131, 3) := by decide +kernel
theorem dX5_overIn_9 : decode cX5_overIn 9 = .ok (.if_icmp .ge 23, 3) := by decide +kernel
theorem dX5_overIn_12 : decode cX5_overIn 12 = .ok (.iload_n 2, 1) := by decide +kernel
theorem dX5_overIn_13 : decode cX5_overIn 13 = .ok (.aload_n 0, 1) := by decide +kernel
theorem dX5_overIn_14 : decode cX5_overIn 14 = .ok (.iload_n 1, 1) := by decide +kernel
theorem dX5_overIn_15 : decode cX5_overIn 15 = .ok (.iload_n 3, 1) := by decide +kernel
theorem dX5_overIn_16 : decode cX5_overIn 16 = .ok (.invokevirtual 158, 3) := by decide +kernel
theorem dX5_overIn_19 : decode cX5_overIn 19 = .ok (.invokestatic 161, 3) := by decide +kernel
theorem dX5_overIn_22 : decode cX5_overIn 22 = .ok (.iload_n 3, 1) := by decide +kernel
theorem dX5_overIn_23 : decode cX5_overIn 23 = .ok (.ishl, 1) := by decide +kernel
theorem dX5_overIn_24 : decode cX5_overIn 24 = .ok (.ior, 1) := by decide +kernel
theorem dX5_overIn_25 : decode cX5_overIn 25 = .ok (.istore_n 2, 1) := by decide +kernel
theorem dX5_overIn_26 : decode cX5_overIn 26 = .ok (.iinc 3 1, 3) := by decide +kernel
theorem dX5_overIn_29 : decode cX5_overIn 29 = .ok (.goto (-25), 3) := by decide +kernel
theorem dX5_overIn_32 : decode cX5_overIn 32 = .ok (.iload_n 2, 1) := by decide +kernel
theorem dX5_overIn_33 : decode cX5_overIn 33 = .ok (.ireturn, 1) := by decide +kernel
theorem dX5_tire_0 : decode cX5_tire 0 = .ok (.iconst 0, 1) := by decide +kernel
theorem dX5_tire_1 : decode cX5_tire 1 = .ok (.istore_n 3, 1) := by decide +kernel
theorem dX5_tire_2 : decode cX5_tire 2 = .ok (.iload_n 3, 1) := by decide +kernel
theorem dX5_tire_3 : decode cX5_tire 3 = .ok (.aload_n 0, 1) := by decide +kernel
theorem dX5_tire_4 : decode cX5_tire 4 = .ok (.getfield 137, 3) := by decide +kernel
theorem dX5_tire_7 : decode cX5_tire 7 = .ok (.if_icmp .ge 99, 3) := by decide +kernel
theorem dX5_tire_10 : decode cX5_tire 10 = .ok (.aload_n 0, 1) := by decide +kernel
theorem dX5_tire_11 : decode cX5_tire 11 = .ok (.getfield 7, 3) := by decide +kernel
theorem dX5_tire_14 : decode cX5_tire 14 = .ok (.iload_n 1, 1) := by decide +kernel
theorem dX5_tire_15 : decode cX5_tire 15 = .ok (.bipush 11, 2) := by decide +kernel
theorem dX5_tire_17 : decode cX5_tire 17 = .ok (.iadd, 1) := by decide +kernel
theorem dX5_tire_18 : decode cX5_tire 18 = .ok (.iload_n 3, 1) := by decide +kernel
theorem dX5_tire_19 : decode cX5_tire 19 = .ok (.iadd, 1) := by decide +kernel
theorem dX5_tire_20 : decode cX5_tire 20 = .ok (.iaload, 1) := by decide +kernel
theorem dX5_tire_21 : decode cX5_tire 21 = .ok (.istore 4, 2) := by decide +kernel
theorem dX5_tire_23 : decode cX5_tire 23 = .ok (.aload_n 0, 1) := by decide +kernel
theorem dX5_tire_24 : decode cX5_tire 24 = .ok (.getfield 7, 3) := by decide +kernel
theorem dX5_tire_27 : decode cX5_tire 27 = .ok (.iload_n 1, 1) := by decide +kernel
theorem dX5_tire_28 : decode cX5_tire 28 = .ok (.bipush 8, 2) := by decide +kernel
theorem dX5_tire_30 : decode cX5_tire 30 = .ok (.iadd, 1) := by decide +kernel
theorem dX5_tire_31 : decode cX5_tire 31 = .ok (.iload_n 3, 1) := by decide +kernel
theorem dX5_tire_32 : decode cX5_tire 32 = .ok (.iadd, 1) := by decide +kernel
theorem dX5_tire_33 : decode cX5_tire 33 = .ok (.iaload, 1) := by decide +kernel
theorem dX5_tire_34 : decode cX5_tire 34 = .ok (.iload 4, 2) := by decide +kernel
theorem dX5_tire_36 : decode cX5_tire 36 = .ok (.bipush (-9), 2) := by decide +kernel
theorem dX5_tire_38 : decode cX5_tire 38 = .ok (.if_icmp .eq 16, 3) := by decide +kernel
theorem dX5_tire_41 : decode cX5_tire 41 = .ok (.iload_n 2, 1) := by decide +kernel
theorem dX5_tire_42 : decode cX5_tire 42 = .ok (.iload 4, 2) := by decide +kernel
theorem dX5_tire_44 : decode cX5_tire 44 = .ok (.invokestatic 118, 3) := by decide +kernel
theorem dX5_tire_47 : decode cX5_tire 47 = .ok (.ifCond .ne 7, 3) := by decide +kernel
theorem dX5_tire_50 : decode cX5_tire 50 = .ok (.iconst (-1), 1) := by decide +kernel
theorem dX5_tire_51 : decode cX5_tire 51 = .ok (.goto 4, 3) := by decide +kernel
theorem dX5_tire_54 : decode cX5_tire 54 = .ok (.iconst 1, 1) := by decide +kernel
theorem dX5_tire_55 : decode cX5_tire 55 = .ok (.iadd, 1) := by decide +kernel
theorem dX5_tire_56 : decode cX5_tire 56 = .ok (.istore 5, 2) := by decide +kernel
theorem dX5_tire_58 : decode cX5_tire 58 = .ok (.aload_n 0, 1) := by decide +kernel
theorem dX5_tire_59 : decode cX5_tire 59 = .ok (.getfield 7, 3) := by decide +kernel
theorem dX5_tire_62 : decode cX5_tire 62 = .ok (.iload_n 1, 1) := by decide +kernel
theorem dX5_tire_63 : decode cX5_tire 63 = .ok (.bipush 8, 2) := by decide +kernel
theorem dX5_tire_65 : decode cX5_tire 65 = .ok (.iadd, 1) := by decide +kernel
theorem dX5_tire_66 : decode cX5_tire 66 = .ok (.iload_n 3, 1) := by decide +kernel
theorem dX5_tire_67 : decode cX5_tire 67 = .ok (.iadd, 1) := by decide +kernel
theorem dX5_tire_68 : decode cX5_tire 68 = .ok (.iload 5, 2) := by decide +kernel
theorem dX5_tire_70 : decode cX5_tire 70 = .ok (.ifCond .ge 7, 3) := by decide +kernel
theorem dX5_tire_73 : decode cX5_tire 73 = .ok (.iconst 0, 1) := by decide +kernel
theorem dX5_tire_74 : decode cX5_tire 74 = .ok (.goto 25, 3) := by decide +kernel
theorem dX5_tire_77 : decode cX5_tire 77 = .ok (.iload 5, 2) := by decide +kernel
theorem dX5_tire_79 : decode cX5_tire 79 = .ok (.aload_n 0, 1) := by decide +kernel
theorem dX5_tire_80 : decode cX5_tire 80 = .ok (.getfield 38, 3) := by decide +kernel
theorem dX5_tire_83 : decode cX5_tire 83 = .ok (.iload_n 3, 1) := by decide +kernel
theorem dX5_tire_84 : decode cX5_tire 84 = .ok (.iaload, 1) := by decide +kernel
theorem dX5_tire_85 : decode cX5_tire 85 = .ok (.if_icmp .le 12, 3) := by decide +kernel
theorem dX5_tire_88 : decode cX5_tire 88 = .ok (.aload_n 0, 1) := by decide +kernel
theorem dX5_tire_89 : decode cX5_tire 89 = .ok (.getfield 38, 3) := by decide +kernel
theorem dX5_tire_92 : decode cX5_tire 92 = .ok (.iload_n 3, 1) := by decide +kernel
theorem dX5_tire_93 : decode cX5_tire 93 = .ok (.iaload, 1) := by decide +kernel
theorem dX5_tire_94 : decode cX5_tire 94 = .ok (.goto 5, 3) := by decide +kernel
theorem dX5_tire_97 : decode cX5_tire 97 = .ok (.iload 5, 2) := by decide +kernel
theorem dX5_tire_99 : decode cX5_tire 99 = .ok (.iastore, 1) := by decide +kernel
theorem dX5_tire_100 : decode cX5_tire 100 = .ok (.iinc 3 1, 3) := by decide +kernel
theorem dX5_tire_103 : decode cX5_tire 103 = .ok (.goto (-101), 3) := by decide +kernel
theorem dX5_tire_106 : decode cX5_tire 106 = .ok (.return_, 1) := by decide +kernel
theorem dX5_push_0 : decode cX5_push 0 = .ok (.aload_n 0, 1) := by decide +kernel
theorem dX5_push_1 : decode cX5_push 1 = .ok (.iload_n 1, 1) := by decide +kernel
theorem dX5_push_2 : decode cX5_push 2 = .ok (.invokevirtual 179, 3) := by decide +kernel
theorem dX5_push_5 : decode cX5_push 5 = .ok (.istore_n 2, 1) := by decide +kernel
theorem dX5_push_6 : decode cX5_push 6 = .ok (.iconst 0, 1) := by decide +kernel
theorem dX5_push_7 : decode cX5_push 7 = .ok (.istore_n 3, 1) := by decide +kernel
theorem dX5_push_8 : decode cX5_push 8 = .ok (.iconst 0, 1) := by decide +kernel
theorem dX5_push_9 : decode cX5_push 9 = .ok (.istore 4, 2) := by decide +kernel
theorem dX5_push_11 : decode cX5_push 11 = .ok (.iload 4, 2) := by decide +kernel
theorem dX5_push_13 : decode cX5_push 13 = .ok (.aload_n 0, 1) := by decide +kernel
theorem dX5_push_14 : decode cX5_push 14 = .ok (.getfield 131, 3) := by decide +kernel
theorem dX5_push_17 : decode cX5_push 17 = .ok (.if_icmp .ge 96, 3) := by decide +kernel
theorem dX5_push_20 : decode cX5_push 20 = .ok (.iload_n 2, 1) := by decide +kernel
theorem dX5_push_21 : decode cX5_push 21 = .ok (.iload 4, 2) := by decide +kernel
theorem dX5_push_23 : decode cX5_push 23 = .ok (.invokestatic 118, 3) := by decide +kernel
theorem dX5_push_26 : decode cX5_push 26 = .ok (.ifCond .ne 53, 3) := by decide +kernel
theorem dX5_push_29 : decode cX5_push 29 = .ok (.aload_n 0, 1) := by decide +kernel
theorem dX5_push_30 : decode cX5_push 30 = .ok (.iload_n 1, 1) := by decide +kernel
theorem dX5_push_31 : decode cX5_push 31 = .ok (.iload 4, 2) := by decide +kernel
theorem dX5_push_33 : decode cX5_push 33 = .ok (.invokevirtual 183, 3) := by decide +kernel
theorem dX5_push_36 : decode cX5_push 36 = .ok (.aload_n 0, 1) := by decide +kernel
theorem dX5_push_37 : decode cX5_push 37 = .ok (.iload_n 1, 1) := by decide +kernel
theorem dX5_push_38 : decode cX5_push 38 = .ok (.iload 4, 2) := by decide +kernel
theorem dX5_push_40 : decode cX5_push 40 = .ok (.invokevirtual 155, 3) := by decide +kernel
theorem dX5_push_43 : decode cX5_push 43 = .ok (.aload_n 0, 1) := by decide +kernel
theorem dX5_push_44 : decode cX5_push 44 = .ok (.getfield 20, 3) := by decide +kernel
theorem dX5_push_47 : decode cX5_push 47 = .ok (.iload 4, 2) := by decide +kernel
theorem dX5_push_49 : decode cX5_push 49 = .ok (.iaload, 1) := by decide +kernel
theorem dX5_push_50 : decode cX5_push 50 = .ok (.iadd, 1) := by decide +kernel
theorem dX5_push_51 : decode cX5_push 51 = .ok (.if_icmp .lt 28, 3) := by decide +kernel
theorem dX5_push_54 : decode cX5_push 54 = .ok (.aload_n 0, 1) := by decide +kernel
theorem dX5_push_55 : decode cX5_push 55 = .ok (.iload_n 1, 1) := by decide +kernel
theorem dX5_push_56 : decode cX5_push 56 = .ok (.iload 4, 2) := by decide +kernel
theorem dX5_push_58 : decode cX5_push 58 = .ok (.aload_n 0, 1) := by decide +kernel
theorem dX5_push_59 : decode cX5_push 59 = .ok (.getfield 7, 3) := by decide +kernel
theorem dX5_push_62 : decode cX5_push 62 = .ok (.iload_n 1, 1) := by decide +kernel
theorem dX5_push_63 : decode cX5_push 63 = .ok (.iload 4, 2) := by decide +kernel
theorem dX5_push_65 : decode cX5_push 65 = .ok (.iadd, 1) := by decide +kernel
theorem dX5_push_66 : decode cX5_push 66 = .ok (.iaload, 1) := by decide +kernel
theorem dX5_push_67 : decode cX5_push 67 = .ok (.iconst 1, 1) := by decide +kernel
theorem dX5_push_68 : decode cX5_push 68 = .ok (.iadd, 1) := by decide +kernel
theorem dX5_push_69 : decode cX5_push 69 = .ok (.invokevirtual 186, 3) := by decide +kernel
theorem dX5_push_72 : decode cX5_push 72 = .ok (.ifCond .ne 7, 3) := by decide +kernel
theorem dX5_push_75 : decode cX5_push 75 = .ok (.iconst 1, 1) := by decide +kernel
theorem dX5_push_76 : decode cX5_push 76 = .ok (.goto 4, 3) := by decide +kernel
theorem dX5_push_79 : decode cX5_push 79 = .ok (.iconst 0, 1) := by decide +kernel
theorem dX5_push_80 : decode cX5_push 80 = .ok (.istore 5, 2) := by decide +kernel
theorem dX5_push_82 : decode cX5_push 82 = .ok (.aload_n 0, 1) := by decide +kernel
theorem dX5_push_83 : decode cX5_push 83 = .ok (.getfield 7, 3) := by decide +kernel
theorem dX5_push_86 : decode cX5_push 86 = .ok (.iload_n 1, 1) := by decide +kernel
theorem dX5_push_87 : decode cX5_push 87 = .ok (.iload 4, 2) := by decide +kernel
theorem dX5_push_89 : decode cX5_push 89 = .ok (.iadd, 1) := by decide +kernel
theorem dX5_push_90 : decode cX5_push 90 = .ok (.dup2, 1) := by decide +kernel
theorem dX5_push_91 : decode cX5_push 91 = .ok (.iaload, 1) := by decide +kernel
theorem dX5_push_92 : decode cX5_push 92 = .ok (.iload 5, 2) := by decide +kernel
theorem dX5_push_94 : decode cX5_push 94 = .ok (.invokestatic 161, 3) := by decide +kernel
theorem dX5_push_97 : decode cX5_push 97 = .ok (.iadd, 1) := by decide +kernel
theorem dX5_push_98 : decode cX5_push 98 = .ok (.iastore, 1) := by decide +kernel
theorem dX5_push_99 : decode cX5_push 99 = .ok (.iload_n 3, 1) := by decide +kernel
theorem dX5_push_100 : decode cX5_push 100 = .ok (.iload 5, 2) := by decide +kernel
theorem dX5_push_102 : decode cX5_push 102 = .ok (.invokestatic 161, 3) := by decide +kernel
theorem dX5_push_105 : decode cX5_push 105 = .ok (.iadd, 1) := by decide +kernel
theorem dX5_push_106 : decode cX5_push 106 = .ok (.istore_n 3, 1) := by decide +kernel
theorem dX5_push_107 : decode cX5_push 107 = .ok (.iinc 4 1, 3) := by decide +kernel
theorem dX5_push_110 : decode cX5_push 110 = .ok (.goto (-99), 3) := by decide +kernel
theorem dX5_push_113 : decode cX5_push 113 = .ok (.aload_n 0, 1) := by decide +kernel
theorem dX5_push_114 : decode cX5_push 114 = .ok (.iload_n 1, 1) := by decide +kernel
theorem dX5_push_115 : decode cX5_push 115 = .ok (.iload_n 2, 1) := by decide +kernel
theorem dX5_push_116 : decode cX5_push 116 = .ok (.invokevirtual 190, 3) := by decide +kernel
theorem dX5_push_119 : decode cX5_push 119 = .ok (.iload_n 3, 1) := by decide +kernel
theorem dX5_push_120 : decode cX5_push 120 = .ok (.ireturn, 1) := by decide +kernel
theorem dX5_dusk_0 : decode cX5_dusk 0 = .ok (.iconst 0, 1) := by decide +kernel
theorem dX5_dusk_1 : decode cX5_dusk 1 = .ok (.istore_n 3, 1) := by decide +kernel
theorem dX5_dusk_2 : decode cX5_dusk 2 = .ok (.iload_n 3, 1) := by decide +kernel
theorem dX5_dusk_3 : decode cX5_dusk 3 = .ok (.aload_n 0, 1) := by decide +kernel
theorem dX5_dusk_4 : decode cX5_dusk 4 = .ok (.getfield 131, 3) := by decide +kernel
theorem dX5_dusk_7 : decode cX5_dusk 7 = .ok (.if_icmp .ge 115, 3) := by decide +kernel
theorem dX5_dusk_10 : decode cX5_dusk 10 = .ok (.aload_n 0, 1) := by decide +kernel
theorem dX5_dusk_11 : decode cX5_dusk 11 = .ok (.iload_n 1, 1) := by decide +kernel
theorem dX5_dusk_12 : decode cX5_dusk 12 = .ok (.iload_n 3, 1) := by decide +kernel
theorem dX5_dusk_13 : decode cX5_dusk 13 = .ok (.invokevirtual 158, 3) := by decide +kernel
theorem dX5_dusk_16 : decode cX5_dusk 16 = .ok (.ifCond .ne 38, 3) := by decide +kernel
theorem dX5_dusk_19 : decode cX5_dusk 19 = .ok (.aload_n 0, 1) := by decide +kernel
theorem dX5_dusk_20 : decode cX5_dusk 20 = .ok (.getfield 7, 3) := by decide +kernel
theorem dX5_dusk_23 : decode cX5_dusk 23 = .ok (.iload_n 1, 1) := by decide +kernel
theorem dX5_dusk_24 : decode cX5_dusk 24 = .ok (.iload_n 3, 1) := by decide +kernel
theorem dX5_dusk_25 : decode cX5_dusk 25 = .ok (.iadd, 1) := by decide +kernel
theorem dX5_dusk_26 : decode cX5_dusk 26 = .ok (.iaload, 1) := by decide +kernel
theorem dX5_dusk_27 : decode cX5_dusk 27 = .ok (.ifCond .eq 27, 3) := by decide +kernel
theorem dX5_dusk_30 : decode cX5_dusk 30 = .ok (.aload_n 0, 1) := by decide +kernel
theorem dX5_dusk_31 : decode cX5_dusk 31 = .ok (.getfield 23, 3) := by decide +kernel
theorem dX5_dusk_34 : decode cX5_dusk 34 = .ok (.iload_n 3, 1) := by decide +kernel
theorem dX5_dusk_35 : decode cX5_dusk 35 = .ok (.iaload, 1) := by decide +kernel
theorem dX5_dusk_36 : decode cX5_dusk 36 = .ok (.aload_n 0, 1) := by decide +kernel
theorem dX5_dusk_37 : decode cX5_dusk 37 = .ok (.getfield 7, 3) := by decide +kernel
theorem dX5_dusk_40 : decode cX5_dusk 40 = .ok (.iload_n 1, 1) := by decide +kernel
theorem dX5_dusk_41 : decode cX5_dusk 41 = .ok (.iload_n 3, 1) := by decide +kernel
theorem dX5_dusk_42 : decode cX5_dusk 42 = .ok (.iadd, 1) := by decide +kernel
theorem dX5_dusk_43 : decode cX5_dusk 43 = .ok (.iaload, 1) := by decide +kernel
theorem dX5_dusk_44 : decode cX5_dusk 44 = .ok (.invokestatic 118, 3) := by decide +kernel
theorem dX5_dusk_47 : decode cX5_dusk 47 = .ok (.ifCond .eq 11, 3) := by decide +kernel
theorem dX5_dusk_50 : decode cX5_dusk 50 = .ok (.iload_n 2, 1) := by decide +kernel
theorem dX5_dusk_51 : decode cX5_dusk 51 = .ok (.ifCond .ne 7, 3) := by decide +kernel
theorem dX5_dusk_54 : decode cX5_dusk 54 = .ok (.iconst 1, 1) := by decide +kernel
theorem dX5_dusk_55 : decode cX5_dusk 55 = .ok (.goto 4, 3) := by decide +kernel
theorem dX5_dusk_58 : decode cX5_dusk 58 = .ok (.iconst 0, 1) := by decide +kernel
theorem dX5_dusk_59 : decode cX5_dusk 59 = .ok (.istore 4, 2) := by decide +kernel
theorem dX5_dusk_61 : decode cX5_dusk 61 = .ok (.aload_n 0, 1) := by decide +kernel
theorem dX5_dusk_62 : decode cX5_dusk 62 = .ok (.getfield 7, 3) := by decide +kernel
theorem dX5_dusk_65 : decode cX5_dusk 65 = .ok (.iload_n 1, 1) := by decide +kernel
theorem dX5_dusk_66 : decode cX5_dusk 66 = .ok (.iconst 4, 1) := by decide +kernel
theorem dX5_dusk_67 : decode cX5_dusk 67 = .ok (.iadd, 1) := by decide +kernel
theorem dX5_dusk_68 : decode cX5_dusk 68 = .ok (.iload_n 3, 1) := by decide +kernel
theorem dX5_dusk_69 : decode cX5_dusk 69 = .ok (.iadd, 1) := by decide +kernel
theorem dX5_dusk_70 : decode cX5_dusk 70 = .ok (.dup2, 1) := by decide +kernel
theorem dX5_dusk_71 : decode cX5_dusk 71 = .ok (.iaload, 1) := by decide +kernel
theorem dX5_dusk_72 : decode cX5_dusk 72 = .ok (.iload 4, 2) := by decide +kernel
theorem dX5_dusk_74 : decode cX5_dusk 74 = .ok (.ifCond .eq 7, 3) := by decide +kernel
theorem dX5_dusk_77 : decode cX5_dusk 77 = .ok (.iconst 0, 1) := by decide +kernel
theorem dX5_dusk_78 : decode cX5_dusk 78 = .ok (.goto 11, 3) := by decide +kernel
theorem dX5_dusk_81 : decode cX5_dusk 81 = .ok (.aload_n 0, 1) := by decide +kernel
theorem dX5_dusk_82 : decode cX5_dusk 82 = .ok (.getfield 7, 3) := by decide +kernel
theorem dX5_dusk_85 : decode cX5_dusk 85 = .ok (.iload_n 1, 1) := by decide +kernel
theorem dX5_dusk_86 : decode cX5_dusk 86 = .ok (.iload_n 3, 1) := by decide +kernel
theorem dX5_dusk_87 : decode cX5_dusk 87 = .ok (.iadd, 1) := by decide +kernel
theorem dX5_dusk_88 : decode cX5_dusk 88 = .ok (.iaload, 1) := by decide +kernel
theorem dX5_dusk_89 : decode cX5_dusk 89 = .ok (.iadd, 1) := by decide +kernel
theorem dX5_dusk_90 : decode cX5_dusk 90 = .ok (.iastore, 1) := by decide +kernel
theorem dX5_dusk_91 : decode cX5_dusk 91 = .ok (.aload_n 0, 1) := by decide +kernel
theorem dX5_dusk_92 : decode cX5_dusk 92 = .ok (.getfield 7, 3) := by decide +kernel
theorem dX5_dusk_95 : decode cX5_dusk 95 = .ok (.iload_n 1, 1) := by decide +kernel
theorem dX5_dusk_96 : decode cX5_dusk 96 = .ok (.iload_n 3, 1) := by decide +kernel
theorem dX5_dusk_97 : decode cX5_dusk 97 = .ok (.iadd, 1) := by decide +kernel
theorem dX5_dusk_98 : decode cX5_dusk 98 = .ok (.iload 4, 2) := by decide +kernel
theorem dX5_dusk_100 : decode cX5_dusk 100 = .ok (.ifCond .eq 14, 3) := by decide +kernel
theorem dX5_dusk_103 : decode cX5_dusk 103 = .ok (.aload_n 0, 1) := by decide +kernel
theorem dX5_dusk_104 : decode cX5_dusk 104 = .ok (.getfield 7, 3) := by decide +kernel
theorem dX5_dusk_107 : decode cX5_dusk 107 = .ok (.iload_n 1, 1) := by decide +kernel
theorem dX5_dusk_108 : decode cX5_dusk 108 = .ok (.iload_n 3, 1) := by decide +kernel
theorem dX5_dusk_109 : decode cX5_dusk 109 = .ok (.iadd, 1) := by decide +kernel
theorem dX5_dusk_110 : decode cX5_dusk 110 = .ok (.iaload, 1) := by decide +kernel
theorem dX5_dusk_111 : decode cX5_dusk 111 = .ok (.goto 4, 3) := by decide +kernel
theorem dX5_dusk_114 : decode cX5_dusk 114 = .ok (.iconst 0, 1) := by decide +kernel
theorem dX5_dusk_115 : decode cX5_dusk 115 = .ok (.iastore, 1) := by decide +kernel
theorem dX5_dusk_116 : decode cX5_dusk 116 = .ok (.iinc 3 1, 3) := by decide +kernel
theorem dX5_dusk_119 : decode cX5_dusk 119 = .ok (.goto (-117), 3) := by decide +kernel
theorem dX5_dusk_122 : decode cX5_dusk 122 = .ok (.iconst 0, 1) := by decide +kernel
theorem dX5_dusk_123 : decode cX5_dusk 123 = .ok (.istore_n 3, 1) := by decide +kernel
theorem dX5_dusk_124 : decode cX5_dusk 124 = .ok (.iload_n 3, 1) := by decide +kernel
theorem dX5_dusk_125 : decode cX5_dusk 125 = .ok (.aload_n 0, 1) := by decide +kernel
theorem dX5_dusk_126 : decode cX5_dusk 126 = .ok (.getfield 137, 3) := by decide +kernel
theorem dX5_dusk_129 : decode cX5_dusk 129 = .ok (.if_icmp .ge 26, 3) := by decide +kernel
theorem dX5_dusk_132 : decode cX5_dusk 132 = .ok (.aload_n 0, 1) := by decide +kernel
theorem dX5_dusk_133 : decode cX5_dusk 133 = .ok (.getfield 7, 3) := by decide +kernel
theorem dX5_dusk_136 : decode cX5_dusk 136 = .ok (.iload_n 1, 1) := by decide +kernel
theorem dX5_dusk_137 : decode cX5_dusk 137 = .ok (.bipush 8, 2) := by decide +kernel
theorem dX5_dusk_139 : decode cX5_dusk 139 = .ok (.iadd, 1) := by decide +kernel
theorem dX5_dusk_140 : decode cX5_dusk 140 = .ok (.iload_n 3, 1) := by decide +kernel
theorem dX5_dusk_141 : decode cX5_dusk 141 = .ok (.iadd, 1) := by decide +kernel
theorem dX5_dusk_142 : decode cX5_dusk 142 = .ok (.aload_n 0, 1) := by decide +kernel
theorem dX5_dusk_143 : decode cX5_dusk 143 = .ok (.getfield 38, 3) := by decide +kernel
theorem dX5_dusk_146 : decode cX5_dusk 146 = .ok (.iload_n 3, 1) := by decide +kernel
theorem dX5_dusk_147 : decode cX5_dusk 147 = .ok (.iaload, 1) := by decide +kernel
theorem dX5_dusk_148 : decode cX5_dusk 148 = .ok (.iastore, 1) := by decide +kernel
theorem dX5_dusk_149 : decode cX5_dusk 149 = .ok (.iinc 3 1, 3) := by decide +kernel
theorem dX5_dusk_152 : decode cX5_dusk 152 = .ok (.goto (-28), 3) := by decide +kernel
theorem dX5_dusk_155 : decode cX5_dusk 155 = .ok (.bipush 19, 2) := by decide +kernel
theorem dX5_dusk_157 : decode cX5_dusk 157 = .ok (.istore_n 3, 1) := by decide +kernel
theorem dX5_dusk_158 : decode cX5_dusk 158 = .ok (.iload_n 3, 1) := by decide +kernel
theorem dX5_dusk_159 : decode cX5_dusk 159 = .ok (.ifCond .le 58, 3) := by decide +kernel
theorem dX5_dusk_162 : decode cX5_dusk 162 = .ok (.iconst 0, 1) := by decide +kernel
theorem dX5_dusk_163 : decode cX5_dusk 163 = .ok (.istore 4, 2) := by decide +kernel
theorem dX5_dusk_165 : decode cX5_dusk 165 = .ok (.iload 4, 2) := by decide +kernel
theorem dX5_dusk_167 : decode cX5_dusk 167 = .ok (.iconst 4, 1) := by decide +kernel
theorem dX5_dusk_168 : decode cX5_dusk 168 = .ok (.if_icmp .ge 43, 3) := by decide +kernel
theorem dX5_dusk_171 : decode cX5_dusk 171 = .ok (.aload_n 0, 1) := by decide +kernel
theorem dX5_dusk_172 : decode cX5_dusk 172 = .ok (.getfield 7, 3) := by decide +kernel
theorem dX5_dusk_175 : decode cX5_dusk 175 = .ok (.iload_n 1, 1) := by decide +kernel
theorem dX5_dusk_176 : decode cX5_dusk 176 = .ok (.bipush 20, 2) := by decide +kernel
theorem dX5_dusk_178 : decode cX5_dusk 178 = .ok (.iadd, 1) := by decide +kernel
theorem dX5_dusk_179 : decode cX5_dusk 179 = .ok (.iconst 4, 1) := by decide +kernel
theorem dX5_dusk_180 : decode cX5_dusk 180 = .ok (.iload_n 3, 1) := by decide +kernel
theorem dX5_dusk_181 : decode cX5_dusk 181 = .ok (.imul, 1) := by decide +kernel
theorem dX5_dusk_182 : decode cX5_dusk 182 = .ok (.iadd, 1) := by decide +kernel
theorem dX5_dusk_183 : decode cX5_dusk 183 = .ok (.iload 4, 2) := by decide +kernel
theorem dX5_dusk_185 : decode cX5_dusk 185 = .ok (.iadd, 1) := by decide +kernel
theorem dX5_dusk_186 : decode cX5_dusk 186 = .ok (.aload_n 0, 1) := by decide +kernel
theorem dX5_dusk_187 : decode cX5_dusk 187 = .ok (.getfield 7, 3) := by decide +kernel
theorem dX5_dusk_190 : decode cX5_dusk 190 = .ok (.iload_n 1, 1) := by decide +kernel
theorem dX5_dusk_191 : decode cX5_dusk 191 = .ok (.bipush 20, 2) := by decide +kernel
theorem dX5_dusk_193 : decode cX5_dusk 193 = .ok (.iadd, 1) := by decide +kernel
theorem dX5_dusk_194 : decode cX5_dusk 194 = .ok (.iconst 4, 1) := by decide +kernel
theorem dX5_dusk_195 : decode cX5_dusk 195 = .ok (.iload_n 3, 1) := by decide +kernel
theorem dX5_dusk_196 : decode cX5_dusk 196 = .ok (.iconst 1, 1) := by decide +kernel
theorem dX5_dusk_197 : decode cX5_dusk 197 = .ok (.isub, 1) := by decide +kernel
theorem dX5_dusk_198 : decode cX5_dusk 198 = .ok (.imul, 1) := by decide +kernel
theorem dX5_dusk_199 : decode cX5_dusk 199 = .ok (.iadd, 1) := by decide +kernel
theorem dX5_dusk_200 : decode cX5_dusk 200 = .ok (.iload 4, 2) := by decide +kernel
theorem dX5_dusk_202 : decode cX5_dusk 202 = .ok (.iadd, 1) := by decide +kernel
theorem dX5_dusk_203 : decode cX5_dusk 203 = .ok (.iaload, 1) := by decide +kernel
theorem dX5_dusk_204 : decode cX5_dusk 204 = .ok (.iastore, 1) := by decide +kernel
theorem dX5_dusk_205 : decode cX5_dusk 205 = .ok (.iinc 4 1, 3) := by decide +kernel
theorem dX5_dusk_208 : decode cX5_dusk 208 = .ok (.goto (-43), 3) := by decide +kernel
theorem dX5_dusk_211 : decode cX5_dusk 211 = .ok (.iinc 3 (-1), 3) := by decide +kernel
theorem dX5_dusk_214 : decode cX5_dusk 214 = .ok (.goto (-56), 3) := by decide +kernel
theorem dX5_dusk_217 : decode cX5_dusk 217 = .ok (.iconst 0, 1) := by decide +kernel
theorem dX5_dusk_218 : decode cX5_dusk 218 = .ok (.istore_n 3, 1) := by decide +kernel
theorem dX5_dusk_219 : decode cX5_dusk 219 = .ok (.iload_n 3, 1) := by decide +kernel
theorem dX5_dusk_220 : decode cX5_dusk 220 = .ok (.iconst 4, 1) := by decide +kernel
theorem dX5_dusk_221 : decode cX5_dusk 221 = .ok (.if_icmp .ge 28, 3) := by decide +kernel
theorem dX5_dusk_224 : decode cX5_dusk 224 = .ok (.aload_n 0, 1) := by decide +kernel
theorem dX5_dusk_225 : decode cX5_dusk 225 = .ok (.getfield 7, 3) := by decide +kernel
theorem dX5_dusk_228 : decode cX5_dusk 228 = .ok (.iload_n 1, 1) := by decide +kernel
theorem dX5_dusk_229 : decode cX5_dusk 229 = .ok (.bipush 20, 2) := by decide +kernel
theorem dX5_dusk_231 : decode cX5_dusk 231 = .ok (.iadd, 1) := by decide +kernel
theorem dX5_dusk_232 : decode cX5_dusk 232 = .ok (.iload_n 3, 1) := by decide +kernel
theorem dX5_dusk_233 : decode cX5_dusk 233 = .ok (.iadd, 1) := by decide +kernel
theorem dX5_dusk_234 : decode cX5_dusk 234 = .ok (.aload_n 0, 1) := by decide +kernel
theorem dX5_dusk_235 : decode cX5_dusk 235 = .ok (.getfield 7, 3) := by decide +kernel
theorem dX5_dusk_238 : decode cX5_dusk 238 = .ok (.iload_n 1, 1) := by decide +kernel
theorem dX5_dusk_239 : decode cX5_dusk 239 = .ok (.iload_n 3, 1) := by decide +kernel
theorem dX5_dusk_240 : decode cX5_dusk 240 = .ok (.iadd, 1) := by decide +kernel
theorem dX5_dusk_241 : decode cX5_dusk 241 = .ok (.iaload, 1) := by decide +kernel
theorem dX5_dusk_242 : decode cX5_dusk 242 = .ok (.iastore, 1) := by decide +kernel
theorem dX5_dusk_243 : decode cX5_dusk 243 = .ok (.iinc 3 1, 3) := by decide +kernel
theorem dX5_dusk_246 : decode cX5_dusk 246 = .ok (.goto (-27), 3) := by decide +kernel
theorem dX5_dusk_249 : decode cX5_dusk 249 = .ok (.aload_n 0, 1) := by decide +kernel
theorem dX5_dusk_250 : decode cX5_dusk 250 = .ok (.getfield 7, 3) := by decide +kernel
theorem dX5_dusk_253 : decode cX5_dusk 253 = .ok (.iload_n 1, 1) := by decide +kernel
theorem dX5_dusk_254 : decode cX5_dusk 254 = .ok (.bipush 16, 2) := by decide +kernel
theorem dX5_dusk_256 : decode cX5_dusk 256 = .ok (.iadd, 1) := by decide +kernel
theorem dX5_dusk_257 : decode cX5_dusk 257 = .ok (.dup2, 1) := by decide +kernel
theorem dX5_dusk_258 : decode cX5_dusk 258 = .ok (.iaload, 1) := by decide +kernel
theorem dX5_dusk_259 : decode cX5_dusk 259 = .ok (.aload_n 0, 1) := by decide +kernel
theorem dX5_dusk_260 : decode cX5_dusk 260 = .ok (.getfield 7, 3) := by decide +kernel
theorem dX5_dusk_263 : decode cX5_dusk 263 = .ok (.iload_n 1, 1) := by decide +kernel
theorem dX5_dusk_264 : decode cX5_dusk 264 = .ok (.bipush 16, 2) := by decide +kernel
theorem dX5_dusk_266 : decode cX5_dusk 266 = .ok (.iadd, 1) := by decide +kernel
theorem dX5_dusk_267 : decode cX5_dusk 267 = .ok (.iaload, 1) := by decide +kernel
theorem dX5_dusk_268 : decode cX5_dusk 268 = .ok (.bipush 20, 2) := by decide +kernel
theorem dX5_dusk_270 : decode cX5_dusk 270 = .ok (.if_icmp .ge 7, 3) := by decide +kernel
theorem dX5_dusk_273 : decode cX5_dusk 273 = .ok (.iconst 1, 1) := by decide +kernel
theorem dX5_dusk_274 : decode cX5_dusk 274 = .ok (.goto 4, 3) := by decide +kernel
theorem dX5_dusk_277 : decode cX5_dusk 277 = .ok (.iconst 0, 1) := by decide +kernel
theorem dX5_dusk_278 : decode cX5_dusk 278 = .ok (.iadd, 1) := by decide +kernel
theorem dX5_dusk_279 : decode cX5_dusk 279 = .ok (.iastore, 1) := by decide +kernel
theorem dX5_dusk_280 : decode cX5_dusk 280 = .ok (.aload_n 0, 1) := by decide +kernel
theorem dX5_dusk_281 : decode cX5_dusk 281 = .ok (.getfield 7, 3) := by decide +kernel
theorem dX5_dusk_284 : decode cX5_dusk 284 = .ok (.iload_n 1, 1) := by decide +kernel
theorem dX5_dusk_285 : decode cX5_dusk 285 = .ok (.bipush 14, 2) := by decide +kernel
theorem dX5_dusk_287 : decode cX5_dusk 287 = .ok (.iadd, 1) := by decide +kernel
theorem dX5_dusk_288 : decode cX5_dusk 288 = .ok (.dup2, 1) := by decide +kernel
theorem dX5_dusk_289 : decode cX5_dusk 289 = .ok (.iaload, 1) := by decide +kernel
theorem dX5_dusk_290 : decode cX5_dusk 290 = .ok (.iconst 1, 1) := by decide +kernel
theorem dX5_dusk_291 : decode cX5_dusk 291 = .ok (.iadd, 1) := by decide +kernel
theorem dX5_dusk_292 : decode cX5_dusk 292 = .ok (.iastore, 1) := by decide +kernel
theorem dX5_dusk_293 : decode cX5_dusk 293 = .ok (.aload_n 0, 1) := by decide +kernel
theorem dX5_dusk_294 : decode cX5_dusk 294 = .ok (.getfield 7, 3) := by decide +kernel
theorem dX5_dusk_297 : decode cX5_dusk 297 = .ok (.iload_n 1, 1) := by decide +kernel
theorem dX5_dusk_298 : decode cX5_dusk 298 = .ok (.bipush 15, 2) := by decide +kernel
theorem dX5_dusk_300 : decode cX5_dusk 300 = .ok (.iadd, 1) := by decide +kernel
theorem dX5_dusk_301 : decode cX5_dusk 301 = .ok (.iconst 0, 1) := by decide +kernel
theorem dX5_dusk_302 : decode cX5_dusk 302 = .ok (.iastore, 1) := by decide +kernel
theorem dX5_dusk_303 : decode cX5_dusk 303 = .ok (.return_, 1) := by decide +kernel
theorem dX5_rainsOn_0 : decode cX5_rainsOn 0 = .ok (.aload_n 0, 1) := by decide +kernel
theorem dX5_rainsOn_1 : decode cX5_rainsOn 1 = .ok (.getfield 140, 3) := by decide +kernel
theorem dX5_rainsOn_4 : decode cX5_rainsOn 4 = .ok (.iload_n 1, 1) := by decide +kernel
theorem dX5_rainsOn_5 : decode cX5_rainsOn 5 = .ok (.bipush 7, 2) := by decide +kernel
theorem dX5_rainsOn_7 : decode cX5_rainsOn 7 = .ok (.irem, 1) := by decide +kernel
theorem dX5_rainsOn_8 : decode cX5_rainsOn 8 = .ok (.invokestatic 118, 3) := by decide +kernel
theorem dX5_rainsOn_11 : decode cX5_rainsOn 11 = .ok (.ireturn, 1) := by decide +kernel
theorem dX5_hour_0 : decode cX5_hour 0 = .ok (.aload_n 0, 1) := by decide +kernel
theorem dX5_hour_1 : decode cX5_hour 1 = .ok (.getfield 7, 3) := by decide +kernel
theorem dX5_hour_4 : decode cX5_hour 4 = .ok (.bipush 14, 2) := by decide +kernel
theorem dX5_hour_6 : decode cX5_hour 6 = .ok (.iaload, 1) := by decide +kernel
theorem dX5_hour_7 : decode cX5_hour 7 = .ok (.bipush 99, 2) := by decide +kernel
theorem dX5_hour_9 : decode cX5_hour 9 = .ok (.if_icmp .ne 6, 3) := by decide +kernel
theorem dX5_hour_12 : decode cX5_hour 12 = .ok (.bipush (-2), 2) := by decide +kernel
theorem dX5_hour_14 : decode cX5_hour 14 = .ok (.ireturn, 1) := by decide +kernel
theorem dX5_hour_15 : decode cX5_hour 15 = .ok (.aload_n 0, 1) := by decide +kernel
theorem dX5_hour_16 : decode cX5_hour 16 = .ok (.invokevirtual 176, 3) := by decide +kernel
theorem dX5_hour_19 : decode cX5_hour 19 = .ok (.aload_n 0, 1) := by decide +kernel
theorem dX5_hour_20 : decode cX5_hour 20 = .ok (.iconst 0, 1) := by decide +kernel
theorem dX5_hour_21 : decode cX5_hour 21 = .ok (.invokevirtual 193, 3) := by decide +kernel
theorem dX5_hour_24 : decode cX5_hour 24 = .ok (.istore_n 1, 1) := by decide +kernel
theorem dX5_hour_25 : decode cX5_hour 25 = .ok (.aload_n 0, 1) := by decide +kernel
theorem dX5_hour_26 : decode cX5_hour 26 = .ok (.getfield 7, 3) := by decide +kernel
theorem dX5_hour_29 : decode cX5_hour 29 = .ok (.bipush 15, 2) := by decide +kernel
theorem dX5_hour_31 : decode cX5_hour 31 = .ok (.dup2, 1) := by decide +kernel
theorem dX5_hour_32 : decode cX5_hour 32 = .ok (.iaload, 1) := by decide +kernel
theorem dX5_hour_33 : decode cX5_hour 33 = .ok (.iconst 1, 1) := by decide +kernel
theorem dX5_hour_34 : decode cX5_hour 34 = .ok (.iadd, 1) := by decide +kernel
theorem dX5_hour_35 : decode cX5_hour 35 = .ok (.iastore, 1) := by decide +kernel
theorem dX5_hour_36 : decode cX5_hour 36 = .ok (.aload_n 0, 1) := by decide +kernel
theorem dX5_hour_37 : decode cX5_hour 37 = .ok (.getfield 7, 3) := by decide +kernel
theorem dX5_hour_40 : decode cX5_hour 40 = .ok (.bipush 15, 2) := by decide +kernel
theorem dX5_hour_42 : decode cX5_hour 42 = .ok (.iaload, 1) := by decide +kernel
theorem dX5_hour_43 : decode cX5_hour 43 = .ok (.aload_n 0, 1) := by decide +kernel
theorem dX5_hour_44 : decode cX5_hour 44 = .ok (.getfield 50, 3) := by decide +kernel
theorem dX5_hour_47 : decode cX5_hour 47 = .ok (.if_icmp .ne 19, 3) := by decide +kernel
theorem dX5_hour_50 : decode cX5_hour 50 = .ok (.aload_n 0, 1) := by decide +kernel
theorem dX5_hour_51 : decode cX5_hour 51 = .ok (.iconst 0, 1) := by decide +kernel
theorem dX5_hour_52 : decode cX5_hour 52 = .ok (.aload_n 0, 1) := by decide +kernel
theorem dX5_hour_53 : decode cX5_hour 53 = .ok (.aload_n 0, 1) := by decide +kernel
theorem dX5_hour_54 : decode cX5_hour 54 = .ok (.getfield 7, 3) := by decide +kernel
theorem dX5_hour_57 : decode cX5_hour 57 = .ok (.bipush 14, 2) := by decide +kernel
theorem dX5_hour_59 : decode cX5_hour 59 = .ok (.iaload, 1) := by decide +kernel
theorem dX5_hour_60 : decode cX5_hour 60 = .ok (.invokevirtual 196, 3) := by decide +kernel
theorem dX5_hour_63 : decode cX5_hour 63 = .ok (.invokevirtual 199, 3) := by decide +kernel
theorem dX5_hour_66 : decode cX5_hour 66 = .ok (.iload_n 1, 1) := by decide +kernel
theorem dX5_hour_67 : decode cX5_hour 67 = .ok (.ireturn, 1) := by decide +kernel
theorem dX5_undo_0 : decode cX5_undo 0 = .ok (.aload_n 0, 1) := by decide +kernel
theorem dX5_undo_1 : decode cX5_undo 1 = .ok (.getfield 146, 3) := by decide +kernel
theorem dX5_undo_4 : decode cX5_undo 4 = .ok (.ifCond .ne 6, 3) := by decide +kernel
theorem dX5_undo_7 : decode cX5_undo 7 = .ok (.bipush (-2), 2) := by decide +kernel
theorem dX5_undo_9 : decode cX5_undo 9 = .ok (.ireturn, 1) := by decide +kernel
theorem dX5_undo_10 : decode cX5_undo 10 = .ok (.aload_n 0, 1) := by decide +kernel
theorem dX5_undo_11 : decode cX5_undo 11 = .ok (.dup, 1) := by decide +kernel
theorem dX5_undo_12 : decode cX5_undo 12 = .ok (.getfield 146, 3) := by decide +kernel
theorem dX5_undo_15 : decode cX5_undo 15 = .ok (.iconst 1, 1) := by decide +kernel
theorem dX5_undo_16 : decode cX5_undo 16 = .ok (.isub, 1) := by decide +kernel
theorem dX5_undo_17 : decode cX5_undo 17 = .ok (.putfield 146, 3) := by decide +kernel
theorem dX5_undo_20 : decode cX5_undo 20 = .ok (.aload_n 0, 1) := by decide +kernel
theorem dX5_undo_21 : decode cX5_undo 21 = .ok (.sipush 400, 3) := by decide +kernel
theorem dX5_undo_24 : decode cX5_undo 24 = .ok (.bipush 100, 2) := by decide +kernel
theorem dX5_undo_26 : decode cX5_undo 26 = .ok (.aload_n 0, 1) := by decide +kernel
theorem dX5_undo_27 : decode cX5_undo 27 = .ok (.getfield 146, 3) := by decide +kernel
theorem dX5_undo_30 : decode cX5_undo 30 = .ok (.imul, 1) := by decide +kernel
theorem dX5_undo_31 : decode cX5_undo 31 = .ok (.iadd, 1) := by decide +kernel
theorem dX5_undo_32 : decode cX5_undo 32 = .ok (.iconst 0, 1) := by decide +kernel
theorem dX5_undo_33 : decode cX5_undo 33 = .ok (.invokevirtual 172, 3) := by decide +kernel
theorem dX5_undo_36 : decode cX5_undo 36 = .ok (.aload_n 0, 1) := by decide +kernel
theorem dX5_undo_37 : decode cX5_undo 37 = .ok (.getfield 146, 3) := by decide +kernel
theorem dX5_undo_40 : decode cX5_undo 40 = .ok (.ireturn, 1) := by decide +kernel
theorem dX5_orderAll_0 : decode cX5_orderAll 0 = .ok (.iconst 0, 1) := by decide +kernel
theorem dX5_orderAll_1 : decode cX5_orderAll 1 = .ok (.istore 4, 2) := by decide +kernel
theorem dX5_orderAll_3 : decode cX5_orderAll 3 = .ok (.iload 4, 2) := by decide +kernel
theorem dX5_orderAll_5 : decode cX5_orderAll 5 = .ok (.aload_n 0, 1) := by decide +kernel
theorem dX5_orderAll_6 : decode cX5_orderAll 6 = .ok (.getfield 137, 3) := by decide +kernel
theorem dX5_orderAll_9 : decode cX5_orderAll 9 = .ok (.if_icmp .ge 36, 3) := by decide +kernel
theorem dX5_orderAll_12 : decode cX5_orderAll 12 = .ok (.aload_n 0, 1) := by decide +kernel
theorem dX5_orderAll_13 : decode cX5_orderAll 13 = .ok (.getfield 7, 3) := by decide +kernel
theorem dX5_orderAll_16 : decode cX5_orderAll 16 = .ok (.iload_n 1, 1) := by decide +kernel
theorem dX5_orderAll_17 : decode cX5_orderAll 17 = .ok (.bipush 11, 2) := by decide +kernel
theorem dX5_orderAll_19 : decode cX5_orderAll 19 = .ok (.iadd, 1) := by decide +kernel
theorem dX5_orderAll_20 : decode cX5_orderAll 20 = .ok (.iload 4, 2) := by decide +kernel
theorem dX5_orderAll_22 : decode cX5_orderAll 22 = .ok (.iadd, 1) := by decide +kernel
theorem dX5_orderAll_23 : decode cX5_orderAll 23 = .ok (.iload_n 3, 1) := by decide +kernel
theorem dX5_orderAll_24 : decode cX5_orderAll 24 = .ok (.iload 4, 2) := by decide +kernel
theorem dX5_orderAll_26 : decode cX5_orderAll 26 = .ok (.invokestatic 118, 3) := by decide +kernel
theorem dX5_orderAll_29 : decode cX5_orderAll 29 = .ok (.ifCond .eq 7, 3) := by decide +kernel
theorem dX5_orderAll_32 : decode cX5_orderAll 32 = .ok (.iload_n 2, 1) := by decide +kernel
theorem dX5_orderAll_33 : decode cX5_orderAll 33 = .ok (.goto 5, 3) := by decide +kernel
theorem dX5_orderAll_36 : decode cX5_orderAll 36 = .ok (.bipush (-9), 2) := by decide +kernel
theorem dX5_orderAll_38 : decode cX5_orderAll 38 = .ok (.iastore, 1) := by decide +kernel
theorem dX5_orderAll_39 : decode cX5_orderAll 39 = .ok (.iinc 4 1, 3) := by decide +kernel
theorem dX5_orderAll_42 : decode cX5_orderAll 42 = .ok (.goto (-39), 3) := by decide +kernel
theorem dX5_orderAll_45 : decode cX5_orderAll 45 = .ok (.return_, 1) := by decide +kernel
theorem dX5_stepBy_0 : decode cX5_stepBy 0 = .ok (.aload_n 0, 1) := by decide +kernel
theorem dX5_stepBy_1 : decode cX5_stepBy 1 = .ok (.iconst 0, 1) := by decide +kernel
theorem dX5_stepBy_2 : decode cX5_stepBy 2 = .ok (.bipush 100, 2) := by decide +kernel
theorem dX5_stepBy_4 : decode cX5_stepBy 4 = .ok (.invokevirtual 172, 3) := by decide +kernel
theorem dX5_stepBy_7 : decode cX5_stepBy 7 = .ok (.iconst 0, 1) := by decide +kernel
theorem dX5_stepBy_8 : decode cX5_stepBy 8 = .ok (.istore 4, 2) := by decide +kernel
theorem dX5_stepBy_10 : decode cX5_stepBy 10 = .ok (.iload 4, 2) := by decide +kernel
theorem dX5_stepBy_12 : decode cX5_stepBy 12 = .ok (.iload_n 3, 1) := by decide +kernel
theorem dX5_stepBy_13 : decode cX5_stepBy 13 = .ok (.if_icmp .ge 130, 3) := by decide +kernel
theorem dX5_stepBy_16 : decode cX5_stepBy 16 = .ok (.aload_n 0, 1) := by decide +kernel
theorem dX5_stepBy_17 : decode cX5_stepBy 17 = .ok (.bipush 100, 2) := by decide +kernel
theorem dX5_stepBy_19 : decode cX5_stepBy 19 = .ok (.iload_n 1, 1) := by decide +kernel
theorem dX5_stepBy_20 : decode cX5_stepBy 20 = .ok (.iload_n 2, 1) := by decide +kernel
theorem dX5_stepBy_21 : decode cX5_stepBy 21 = .ok (.iconst 3, 1) := by decide +kernel
theorem dX5_stepBy_22 : decode cX5_stepBy 22 = .ok (.iload_n 3, 1) := by decide +kernel
theorem dX5_stepBy_23 : decode cX5_stepBy 23 = .ok (.iconst 1, 1) := by decide +kernel
theorem dX5_stepBy_24 : decode cX5_stepBy 24 = .ok (.isub, 1) := by decide +kernel
theorem dX5_stepBy_25 : decode cX5_stepBy 25 = .ok (.iload 4, 2) := by decide +kernel
theorem dX5_stepBy_27 : decode cX5_stepBy 27 = .ok (.isub, 1) := by decide +kernel
theorem dX5_stepBy_28 : decode cX5_stepBy 28 = .ok (.imul, 1) := by decide +kernel
theorem dX5_stepBy_29 : decode cX5_stepBy 29 = .ok (.ishr, 1) := by decide +kernel
theorem dX5_stepBy_30 : decode cX5_stepBy 30 = .ok (.bipush 7, 2) := by decide +kernel
theorem dX5_stepBy_32 : decode cX5_stepBy 32 = .ok (.iand, 1) := by decide +kernel
theorem dX5_stepBy_33 : decode cX5_stepBy 33 = .ok (.invokevirtual 203, 3) := by decide +kernel
theorem dX5_stepBy_36 : decode cX5_stepBy 36 = .ok (.aload_n 0, 1) := by decide +kernel
theorem dX5_stepBy_37 : decode cX5_stepBy 37 = .ok (.bipush 100, 2) := by decide +kernel
theorem dX5_stepBy_39 : decode cX5_stepBy 39 = .ok (.iload_n 1, 1) := by decide +kernel
theorem dX5_stepBy_40 : decode cX5_stepBy 40 = .ok (.invokevirtual 158, 3) := by decide +kernel
theorem dX5_stepBy_43 : decode cX5_stepBy 43 = .ok (.istore 5, 2) := by decide +kernel
theorem dX5_stepBy_45 : decode cX5_stepBy 45 = .ok (.iload 5, 2) := by decide +kernel
theorem dX5_stepBy_47 : decode cX5_stepBy 47 = .ok (.ifCond .ne 52, 3) := by decide +kernel
theorem dX5_stepBy_50 : decode cX5_stepBy 50 = .ok (.aload_n 0, 1) := by decide +kernel
theorem dX5_stepBy_51 : decode cX5_stepBy 51 = .ok (.bipush 100, 2) := by decide +kernel
theorem dX5_stepBy_53 : decode cX5_stepBy 53 = .ok (.iload_n 1, 1) := by decide +kernel
theorem dX5_stepBy_54 : decode cX5_stepBy 54 = .ok (.invokevirtual 183, 3) := by decide +kernel
theorem dX5_stepBy_57 : decode cX5_stepBy 57 = .ok (.aload_n 0, 1) := by decide +kernel
theorem dX5_stepBy_58 : decode cX5_stepBy 58 = .ok (.bipush 100, 2) := by decide +kernel
theorem dX5_stepBy_60 : decode cX5_stepBy 60 = .ok (.iload_n 1, 1) := by decide +kernel
theorem dX5_stepBy_61 : decode cX5_stepBy 61 = .ok (.invokevirtual 155, 3) := by decide +kernel
theorem dX5_stepBy_64 : decode cX5_stepBy 64 = .ok (.aload_n 0, 1) := by decide +kernel
theorem dX5_stepBy_65 : decode cX5_stepBy 65 = .ok (.getfield 20, 3) := by decide +kernel
theorem dX5_stepBy_68 : decode cX5_stepBy 68 = .ok (.iload_n 1, 1) := by decide +kernel
theorem dX5_stepBy_69 : decode cX5_stepBy 69 = .ok (.iaload, 1) := by decide +kernel
theorem dX5_stepBy_70 : decode cX5_stepBy 70 = .ok (.iadd, 1) := by decide +kernel
theorem dX5_stepBy_71 : decode cX5_stepBy 71 = .ok (.if_icmp .lt 28, 3) := by decide +kernel
theorem dX5_stepBy_74 : decode cX5_stepBy 74 = .ok (.aload_n 0, 1) := by decide +kernel
theorem dX5_stepBy_75 : decode cX5_stepBy 75 = .ok (.bipush 100, 2) := by decide +kernel
theorem dX5_stepBy_77 : decode cX5_stepBy 77 = .ok (.iload_n 1, 1) := by decide +kernel
theorem dX5_stepBy_78 : decode cX5_stepBy 78 = .ok (.aload_n 0, 1) := by decide +kernel
theorem dX5_stepBy_79 : decode cX5_stepBy 79 = .ok (.getfield 7, 3) := by decide +kernel
theorem dX5_stepBy_82 : decode cX5_stepBy 82 = .ok (.bipush 100, 2) := by decide +kernel
theorem dX5_stepBy_84 : decode cX5_stepBy 84 = .ok (.iload_n 1, 1) := by decide +kernel
theorem dX5_stepBy_85 : decode cX5_stepBy 85 = .ok (.iadd, 1) := by decide +kernel
theorem dX5_stepBy_86 : decode cX5_stepBy 86 = .ok (.iaload, 1) := by decide +kernel
theorem dX5_stepBy_87 : decode cX5_stepBy 87 = .ok (.iconst 1, 1) := by decide +kernel
theorem dX5_stepBy_88 : decode cX5_stepBy 88 = .ok (.iadd, 1) := by decide +kernel
theorem dX5_stepBy_89 : decode cX5_stepBy 89 = .ok (.invokevirtual 186, 3) := by decide +kernel
theorem dX5_stepBy_92 : decode cX5_stepBy 92 = .ok (.ifCond .ne 7, 3) := by decide +kernel
theorem dX5_stepBy_95 : decode cX5_stepBy 95 = .ok (.iconst 1, 1) := by decide +kernel
theorem dX5_stepBy_96 : decode cX5_stepBy 96 = .ok (.goto 4, 3) := by decide +kernel
theorem dX5_stepBy_99 : decode cX5_stepBy 99 = .ok (.iconst 0, 1) := by decide +kernel
theorem dX5_stepBy_100 : decode cX5_stepBy 100 = .ok (.istore 6, 2) := by decide +kernel
theorem dX5_stepBy_102 : decode cX5_stepBy 102 = .ok (.aload_n 0, 1) := by decide +kernel
theorem dX5_stepBy_103 : decode cX5_stepBy 103 = .ok (.getfield 7, 3) := by decide +kernel
theorem dX5_stepBy_106 : decode cX5_stepBy 106 = .ok (.bipush 100, 2) := by decide +kernel
theorem dX5_stepBy_108 : decode cX5_stepBy 108 = .ok (.iload_n 1, 1) := by decide +kernel
theorem dX5_stepBy_109 : decode cX5_stepBy 109 = .ok (.iadd, 1) := by decide +kernel
theorem dX5_stepBy_110 : decode cX5_stepBy 110 = .ok (.dup2, 1) := by decide +kernel
theorem dX5_stepBy_111 : decode cX5_stepBy 111 = .ok (.iaload, 1) := by decide +kernel
theorem dX5_stepBy_112 : decode cX5_stepBy 112 = .ok (.iload 6, 2) := by decide +kernel
theorem dX5_stepBy_114 : decode cX5_stepBy 114 = .ok (.invokestatic 161, 3) := by decide +kernel
theorem dX5_stepBy_117 : decode cX5_stepBy 117 = .ok (.iadd, 1) := by decide +kernel
theorem dX5_stepBy_118 : decode cX5_stepBy 118 = .ok (.iastore, 1) := by decide +kernel
theorem dX5_stepBy_119 : decode cX5_stepBy 119 = .ok (.aload_n 0, 1) := by decide +kernel
theorem dX5_stepBy_120 : decode cX5_stepBy 120 = .ok (.bipush 100, 2) := by decide +kernel
theorem dX5_stepBy_122 : decode cX5_stepBy 122 = .ok (.iload 5, 2) := by decide +kernel
theorem dX5_stepBy_124 : decode cX5_stepBy 124 = .ok (.ifCond .eq 9, 3) := by decide +kernel
theorem dX5_stepBy_127 : decode cX5_stepBy 127 = .ok (.iconst 1, 1) := by decide +kernel
theorem dX5_stepBy_128 : decode cX5_stepBy 128 = .ok (.iload_n 1, 1) := by decide +kernel
theorem dX5_stepBy_129 : decode cX5_stepBy 129 = .ok (.ishl, 1) := by decide +kernel
theorem dX5_stepBy_130 : decode cX5_stepBy 130 = .ok (.goto 4, 3) := by decide +kernel
theorem dX5_stepBy_133 : decode cX5_stepBy 133 = .ok (.iconst 0, 1) := by decide +kernel
theorem dX5_stepBy_134 : decode cX5_stepBy 134 = .ok (.invokevirtual 190, 3) := by decide +kernel
theorem dX5_stepBy_137 : decode cX5_stepBy 137 = .ok (.iinc 4 1, 3) := by decide +kernel
theorem dX5_stepBy_140 : decode cX5_stepBy 140 = .ok (.goto (-130), 3) := by decide +kernel
theorem dX5_stepBy_143 : decode cX5_stepBy 143 = .ok (.aload_n 0, 1) := by decide +kernel
theorem dX5_stepBy_144 : decode cX5_stepBy 144 = .ok (.getfield 7, 3) := by decide +kernel
theorem dX5_stepBy_147 : decode cX5_stepBy 147 = .ok (.bipush 100, 2) := by decide +kernel
theorem dX5_stepBy_149 : decode cX5_stepBy 149 = .ok (.iload_n 1, 1) := by decide +kernel
theorem dX5_stepBy_150 : decode cX5_stepBy 150 = .ok (.iadd, 1) := by decide +kernel
theorem dX5_stepBy_151 : decode cX5_stepBy 151 = .ok (.iaload, 1) := by decide +kernel
theorem dX5_stepBy_152 : decode cX5_stepBy 152 = .ok (.ireturn, 1) := by decide +kernel
theorem dX5_isCode_0 : decode cX5_isCode 0 = .ok (.iconst 1, 1) := by decide +kernel
theorem dX5_isCode_1 : decode cX5_isCode 1 = .ok (.istore_n 3, 1) := by decide +kernel
theorem dX5_isCode_2 : decode cX5_isCode 2 = .ok (.iconst 0, 1) := by decide +kernel
theorem dX5_isCode_3 : decode cX5_isCode 3 = .ok (.istore 4, 2) := by decide +kernel
theorem dX5_isCode_5 : decode cX5_isCode 5 = .ok (.iload 4, 2) := by decide +kernel
theorem dX5_isCode_7 : decode cX5_isCode 7 = .ok (.iload_n 2, 1) := by decide +kernel
theorem dX5_isCode_8 : decode cX5_isCode 8 = .ok (.if_icmp .ge 37, 3) := by decide +kernel
theorem dX5_isCode_11 : decode cX5_isCode 11 = .ok (.iload_n 3, 1) := by decide +kernel
theorem dX5_isCode_12 : decode cX5_isCode 12 = .ok (.ifCond .eq 33, 3) := by decide +kernel
theorem dX5_isCode_15 : decode cX5_isCode 15 = .ok (.iload_n 1, 1) := by decide +kernel
theorem dX5_isCode_16 : decode cX5_isCode 16 = .ok (.iconst 3, 1) := by decide +kernel
theorem dX5_isCode_17 : decode cX5_isCode 17 = .ok (.iload 4, 2) := by decide +kernel
theorem dX5_isCode_19 : decode cX5_isCode 19 = .ok (.imul, 1) := by decide +kernel
theorem dX5_isCode_20 : decode cX5_isCode 20 = .ok (.ishr, 1) := by decide +kernel
theorem dX5_isCode_21 : decode cX5_isCode 21 = .ok (.bipush 7, 2) := by decide +kernel
theorem dX5_isCode_23 : decode cX5_isCode 23 = .ok (.iand, 1) := by decide +kernel
theorem dX5_isCode_24 : decode cX5_isCode 24 = .ok (.iconst 1, 1) := by decide +kernel
theorem dX5_isCode_25 : decode cX5_isCode 25 = .ok (.aload_n 0, 1) := by decide +kernel
theorem dX5_isCode_26 : decode cX5_isCode 26 = .ok (.getfield 137, 3) := by decide +kernel
theorem dX5_isCode_29 : decode cX5_isCode 29 = .ok (.ishl, 1) := by decide +kernel
theorem dX5_isCode_30 : decode cX5_isCode 30 = .ok (.if_icmp .ge 7, 3) := by decide +kernel
theorem dX5_isCode_33 : decode cX5_isCode 33 = .ok (.iconst 1, 1) := by decide +kernel
theorem dX5_isCode_34 : decode cX5_isCode 34 = .ok (.goto 4, 3) := by decide +kernel
theorem dX5_isCode_37 : decode cX5_isCode 37 = .ok (.iconst 0, 1) := by decide +kernel
theorem dX5_isCode_38 : decode cX5_isCode 38 = .ok (.istore_n 3, 1) := by decide +kernel
theorem dX5_isCode_39 : decode cX5_isCode 39 = .ok (.iinc 4 1, 3) := by decide +kernel
theorem dX5_isCode_42 : decode cX5_isCode 42 = .ok (.goto (-37), 3) := by decide +kernel
theorem dX5_isCode_45 : decode cX5_isCode 45 = .ok (.iload_n 3, 1) := by decide +kernel
theorem dX5_isCode_46 : decode cX5_isCode 46 = .ok (.ireturn, 1) := by decide +kernel
theorem dX5_highest_0 : decode cX5_highest 0 = .ok (.aload_n 0, 1) := by decide +kernel
theorem dX5_highest_1 : decode cX5_highest 1 = .ok (.iload_n 1, 1) := by decide +kernel
theorem dX5_highest_2 : decode cX5_highest 2 = .ok (.invokevirtual 149, 3) := by decide +kernel
theorem dX5_highest_5 : decode cX5_highest 5 = .ok (.ifCond .eq 13, 3) := by decide +kernel
theorem dX5_highest_8 : decode cX5_highest 8 = .ok (.iload_n 2, 1) := by decide +kernel
theorem dX5_highest_9 : decode cX5_highest 9 = .ok (.ifCond .ge 11, 3) := by decide +kernel
theorem dX5_highest_12 : decode cX5_highest 12 = .ok (.iload_n 2, 1) := by decide +kernel
theorem dX5_highest_13 : decode cX5_highest 13 = .ok (.bipush (-9), 2) := by decide +kernel
theorem dX5_highest_15 : decode cX5_highest 15 = .ok (.if_icmp .eq 5, 3) := by decide +kernel
theorem dX5_highest_18 : decode cX5_highest 18 = .ok (.iconst (-1), 1) := by decide +kernel
theorem dX5_highest_19 : decode cX5_highest 19 = .ok (.ireturn, 1) := by decide +kernel
theorem dX5_highest_20 : decode cX5_highest 20 = .ok (.aload_n 0, 1) := by decide +kernel
theorem dX5_highest_21 : decode cX5_highest 21 = .ok (.getfield 50, 3) := by decide +kernel
theorem dX5_highest_24 : decode cX5_highest 24 = .ok (.aload_n 0, 1) := by decide +kernel
theorem dX5_highest_25 : decode cX5_highest 25 = .ok (.getfield 7, 3) := by decide +kernel
theorem dX5_highest_28 : decode cX5_highest 28 = .ok (.bipush 15, 2) := by decide +kernel
theorem dX5_highest_30 : decode cX5_highest 30 = .ok (.iaload, 1) := by decide +kernel
theorem dX5_highest_31 : decode cX5_highest 31 = .ok (.isub, 1) := by decide +kernel
theorem dX5_highest_32 : decode cX5_highest 32 = .ok (.istore_n 3, 1) := by decide +kernel
theorem dX5_highest_33 : decode cX5_highest 33 = .ok (.iconst 0, 1) := by decide +kernel
theorem dX5_highest_34 : decode cX5_highest 34 = .ok (.istore 4, 2) := by decide +kernel
theorem dX5_highest_36 : decode cX5_highest 36 = .ok (.iconst (-1), 1) := by decide +kernel
theorem dX5_highest_37 : decode cX5_highest 37 = .ok (.istore 5, 2) := by decide +kernel
theorem dX5_highest_39 : decode cX5_highest 39 = .ok (.aload_n 0, 1) := by decide +kernel
theorem dX5_highest_40 : decode cX5_highest 40 = .ok (.iconst 0, 1) := by decide +kernel
theorem dX5_highest_41 : decode cX5_highest 41 = .ok (.iload_n 1, 1) := by decide +kernel
theorem dX5_highest_42 : decode cX5_highest 42 = .ok (.invokevirtual 158, 3) := by decide +kernel
theorem dX5_highest_45 : decode cX5_highest 45 = .ok (.istore 6, 2) := by decide +kernel
theorem dX5_highest_47 : decode cX5_highest 47 = .ok (.iconst 0, 1) := by decide +kernel
theorem dX5_highest_48 : decode cX5_highest 48 = .ok (.istore 7, 2) := by decide +kernel
theorem dX5_highest_50 : decode cX5_highest 50 = .ok (.iload 7, 2) := by decide +kernel
theorem dX5_highest_52 : decode cX5_highest 52 = .ok (.iconst 1, 1) := by decide +kernel
theorem dX5_highest_53 : decode cX5_highest 53 = .ok (.iconst 3, 1) := by decide +kernel
theorem dX5_highest_54 : decode cX5_highest 54 = .ok (.iload_n 3, 1) := by decide +kernel
theorem dX5_highest_55 : decode cX5_highest 55 = .ok (.imul, 1) := by decide +kernel
theorem dX5_highest_56 : decode cX5_highest 56 = .ok (.ishl, 1) := by decide +kernel
theorem dX5_highest_57 : decode cX5_highest 57 = .ok (.if_icmp .ge 53, 3) := by decide +kernel
theorem dX5_highest_60 : decode cX5_highest 60 = .ok (.iload 6, 2) := by decide +kernel
theorem dX5_highest_62 : decode cX5_highest 62 = .ok (.ifCond .ne 48, 3) := by decide +kernel
theorem dX5_highest_65 : decode cX5_highest 65 = .ok (.aload_n 0, 1) := by decide +kernel
theorem dX5_highest_66 : decode cX5_highest 66 = .ok (.iload 7, 2) := by decide +kernel
theorem dX5_highest_68 : decode cX5_highest 68 = .ok (.iload_n 3, 1) := by decide +kernel
theorem dX5_highest_69 : decode cX5_highest 69 = .ok (.invokevirtual 207, 3) := by decide +kernel
theorem dX5_highest_72 : decode cX5_highest 72 = .ok (.ifCond .eq 14, 3) := by decide +kernel
theorem dX5_highest_75 : decode cX5_highest 75 = .ok (.aload_n 0, 1) := by decide +kernel
theorem dX5_highest_76 : decode cX5_highest 76 = .ok (.iload_n 1, 1) := by decide +kernel
theorem dX5_highest_77 : decode cX5_highest 77 = .ok (.iload 7, 2) := by decide +kernel
theorem dX5_highest_79 : decode cX5_highest 79 = .ok (.iload_n 3, 1) := by decide +kernel
theorem dX5_highest_80 : decode cX5_highest 80 = .ok (.invokevirtual 210, 3) := by decide +kernel
theorem dX5_highest_83 : decode cX5_highest 83 = .ok (.goto 4, 3) := by decide +kernel
theorem dX5_highest_86 : decode cX5_highest 86 = .ok (.iconst (-1), 1) := by decide +kernel
theorem dX5_highest_87 : decode cX5_highest 87 = .ok (.istore 8, 2) := by decide +kernel
theorem dX5_highest_89 : decode cX5_highest 89 = .ok (.iload 8, 2) := by decide +kernel
theorem dX5_highest_91 : decode cX5_highest 91 = .ok (.iload 5, 2) := by decide +kernel
theorem dX5_highest_93 : decode cX5_highest 93 = .ok (.if_icmp .le 11, 3) := by decide +kernel
theorem dX5_highest_96 : decode cX5_highest 96 = .ok (.iload 7, 2) := by decide +kernel
theorem dX5_highest_98 : decode cX5_highest 98 = .ok (.istore 4, 2) := by decide +kernel
theorem dX5_highest_100 : decode cX5_highest 100 = .ok (.iload 8, 2) := by decide +kernel
theorem dX5_highest_102 : decode cX5_highest 102 = .ok (.istore 5, 2) := by decide +kernel
theorem dX5_highest_104 : decode cX5_highest 104 = .ok (.iinc 7 1, 3) := by decide +kernel
theorem dX5_highest_107 : decode cX5_highest 107 = .ok (.goto (-57), 3) := by decide +kernel
theorem dX5_highest_110 : decode cX5_highest 110 = .ok (.iload_n 2, 1) := by decide +kernel
theorem dX5_highest_111 : decode cX5_highest 111 = .ok (.bipush (-9), 2) := by decide +kernel
theorem dX5_highest_113 : decode cX5_highest 113 = .ok (.if_icmp .ne 20, 3) := by decide +kernel
theorem dX5_highest_116 : decode cX5_highest 116 = .ok (.iload 6, 2) := by decide +kernel
theorem dX5_highest_118 : decode cX5_highest 118 = .ok (.ifCond .eq 12, 3) := by decide +kernel
theorem dX5_highest_121 : decode cX5_highest 121 = .ok (.aload_n 0, 1) := by decide +kernel
theorem dX5_highest_122 : decode cX5_highest 122 = .ok (.getfield 17, 3) := by decide +kernel
theorem dX5_highest_125 : decode cX5_highest 125 = .ok (.iload_n 1, 1) := by decide +kernel
theorem dX5_highest_126 : decode cX5_highest 126 = .ok (.iaload, 1) := by decide +kernel
theorem dX5_highest_127 : decode cX5_highest 127 = .ok (.goto 5, 3) := by decide +kernel
theorem dX5_highest_130 : decode cX5_highest 130 = .ok (.iload 5, 2) := by decide +kernel
theorem dX5_highest_132 : decode cX5_highest 132 = .ok (.ireturn, 1) := by decide +kernel
theorem dX5_highest_133 : decode cX5_highest 133 = .ok (.iload_n 2, 1) := by decide +kernel
theorem dX5_highest_134 : decode cX5_highest 134 = .ok (.iload_n 3, 1) := by decide +kernel
theorem dX5_highest_135 : decode cX5_highest 135 = .ok (.if_icmp .lt 8, 3) := by decide +kernel
theorem dX5_highest_138 : decode cX5_highest 138 = .ok (.bipush (-5), 2) := by decide +kernel
theorem dX5_highest_140 : decode cX5_highest 140 = .ok (.goto 16, 3) := by decide +kernel
theorem dX5_highest_143 : decode cX5_highest 143 = .ok (.iload 4, 2) := by decide +kernel
theorem dX5_highest_145 : decode cX5_highest 145 = .ok (.iconst 3, 1) := by decide +kernel
theorem dX5_highest_146 : decode cX5_highest 146 = .ok (.iload_n 3, 1) := by decide +kernel
theorem dX5_highest_147 : decode cX5_highest 147 = .ok (.iconst 1, 1) := by decide +kernel
theorem dX5_highest_148 : decode cX5_highest 148 = .ok (.isub, 1) := by decide +kernel
theorem dX5_highest_149 : decode cX5_highest 149 = .ok (.iload_n 2, 1) := by decide +kernel
theorem dX5_highest_150 : decode cX5_highest 150 = .ok (.isub, 1) := by decide +kernel
theorem dX5_highest_151 : decode cX5_highest 151 = .ok (.imul, 1) := by decide +kernel
theorem dX5_highest_152 : decode cX5_highest 152 = .ok (.ishr, 1) := by decide +kernel
theorem dX5_highest_153 : decode cX5_highest 153 = .ok (.bipush 7, 2) := by decide +kernel
theorem dX5_highest_155 : decode cX5_highest 155 = .ok (.iand, 1) := by decide +kernel
theorem dX5_highest_156 : decode cX5_highest 156 = .ok (.ireturn, 1) := by decide +kernel
theorem dX5_goToDusk_0 : decode cX5_goToDusk 0 = .ok (.aload_n 0, 1) := by decide +kernel
theorem dX5_goToDusk_1 : decode cX5_goToDusk 1 = .ok (.getfield 7, 3) := by decide +kernel
theorem dX5_goToDusk_4 : decode cX5_goToDusk 4 = .ok (.iload_n 1, 1) := by decide +kernel
theorem dX5_goToDusk_5 : decode cX5_goToDusk 5 = .ok (.bipush 15, 2) := by decide +kernel
theorem dX5_goToDusk_7 : decode cX5_goToDusk 7 = .ok (.iadd, 1) := by decide +kernel
theorem dX5_goToDusk_8 : decode cX5_goToDusk 8 = .ok (.iaload, 1) := by decide +kernel
theorem dX5_goToDusk_9 : decode cX5_goToDusk 9 = .ok (.aload_n 0, 1) := by decide +kernel
theorem dX5_goToDusk_10 : decode cX5_goToDusk 10 = .ok (.getfield 50, 3) := by decide +kernel
theorem dX5_goToDusk_13 : decode cX5_goToDusk 13 = .ok (.if_icmp .ge 25, 3) := by decide +kernel
theorem dX5_goToDusk_16 : decode cX5_goToDusk 16 = .ok (.aload_n 0, 1) := by decide +kernel
theorem dX5_goToDusk_17 : decode cX5_goToDusk 17 = .ok (.iload_n 1, 1) := by decide +kernel
theorem dX5_goToDusk_18 : decode cX5_goToDusk 18 = .ok (.invokevirtual 193, 3) := by decide +kernel
theorem dX5_goToDusk_21 : decode cX5_goToDusk 21 = .ok (.istore_n 3, 1) := by decide +kernel
theorem dX5_goToDusk_22 : decode cX5_goToDusk 22 = .ok (.aload_n 0, 1) := by decide +kernel
theorem dX5_goToDusk_23 : decode cX5_goToDusk 23 = .ok (.getfield 7, 3) := by decide +kernel
theorem dX5_goToDusk_26 : decode cX5_goToDusk 26 = .ok (.iload_n 1, 1) := by decide +kernel
theorem dX5_goToDusk_27 : decode cX5_goToDusk 27 = .ok (.bipush 15, 2) := by decide +kernel
theorem dX5_goToDusk_29 : decode cX5_goToDusk 29 = .ok (.iadd, 1) := by decide +kernel
theorem dX5_goToDusk_30 : decode cX5_goToDusk 30 = .ok (.dup2, 1) := by decide +kernel
theorem dX5_goToDusk_31 : decode cX5_goToDusk 31 = .ok (.iaload, 1) := by decide +kernel
theorem dX5_goToDusk_32 : decode cX5_goToDusk 32 = .ok (.iconst 1, 1) := by decide +kernel
theorem dX5_goToDusk_33 : decode cX5_goToDusk 33 = .ok (.iadd, 1) := by decide +kernel
theorem dX5_goToDusk_34 : decode cX5_goToDusk 34 = .ok (.iastore, 1) := by decide +kernel
theorem dX5_goToDusk_35 : decode cX5_goToDusk 35 = .ok (.goto (-35), 3) := by decide +kernel
theorem dX5_goToDusk_38 : decode cX5_goToDusk 38 = .ok (.aload_n 0, 1) := by decide +kernel
theorem dX5_goToDusk_39 : decode cX5_goToDusk 39 = .ok (.iload_n 1, 1) := by decide +kernel
theorem dX5_goToDusk_40 : decode cX5_goToDusk 40 = .ok (.iload_n 2, 1) := by decide +kernel
theorem dX5_goToDusk_41 : decode cX5_goToDusk 41 = .ok (.invokevirtual 199, 3) := by decide +kernel
theorem dX5_goToDusk_44 : decode cX5_goToDusk 44 = .ok (.return_, 1) := by decide +kernel
theorem dX5_days_0 : decode cX5_days 0 = .ok (.aload_n 0, 1) := by decide +kernel
theorem dX5_days_1 : decode cX5_days 1 = .ok (.iload_n 1, 1) := by decide +kernel
theorem dX5_days_2 : decode cX5_days 2 = .ok (.invokevirtual 149, 3) := by decide +kernel
theorem dX5_days_5 : decode cX5_days 5 = .ok (.ifCond .ne 5, 3) := by decide +kernel
theorem dX5_days_8 : decode cX5_days 8 = .ok (.iconst (-1), 1) := by decide +kernel
theorem dX5_days_9 : decode cX5_days 9 = .ok (.ireturn, 1) := by decide +kernel
theorem dX5_days_10 : decode cX5_days 10 = .ok (.aload_n 0, 1) := by decide +kernel
theorem dX5_days_11 : decode cX5_days 11 = .ok (.iconst 0, 1) := by decide +kernel
theorem dX5_days_12 : decode cX5_days 12 = .ok (.bipush 100, 2) := by decide +kernel
theorem dX5_days_14 : decode cX5_days 14 = .ok (.invokevirtual 172, 3) := by decide +kernel
theorem dX5_days_17 : decode cX5_days 17 = .ok (.aload_n 0, 1) := by decide +kernel
theorem dX5_days_18 : decode cX5_days 18 = .ok (.bipush 100, 2) := by decide +kernel
theorem dX5_days_20 : decode cX5_days 20 = .ok (.iload_n 1, 1) := by decide +kernel
theorem dX5_days_21 : decode cX5_days 21 = .ok (.bipush 7, 2) := by decide +kernel
theorem dX5_days_23 : decode cX5_days 23 = .ok (.invokevirtual 203, 3) := by decide +kernel
theorem dX5_days_26 : decode cX5_days 26 = .ok (.iconst 0, 1) := by decide +kernel
theorem dX5_days_27 : decode cX5_days 27 = .ok (.istore_n 2, 1) := by decide +kernel
theorem dX5_days_28 : decode cX5_days 28 = .ok (.iload_n 2, 1) := by decide +kernel
theorem dX5_days_29 : decode cX5_days 29 = .ok (.bipush 60, 2) := by decide +kernel
theorem dX5_days_31 : decode cX5_days 31 = .ok (.if_icmp .gt 38, 3) := by decide +kernel
theorem dX5_days_34 : decode cX5_days 34 = .ok (.aload_n 0, 1) := by decide +kernel
theorem dX5_days_35 : decode cX5_days 35 = .ok (.bipush 100, 2) := by decide +kernel
theorem dX5_days_37 : decode cX5_days 37 = .ok (.iload_n 1, 1) := by decide +kernel
theorem dX5_days_38 : decode cX5_days 38 = .ok (.invokevirtual 158, 3) := by decide +kernel
theorem dX5_days_41 : decode cX5_days 41 = .ok (.ifCond .eq 5, 3) := by decide +kernel
theorem dX5_days_44 : decode cX5_days 44 = .ok (.iload_n 2, 1) := by decide +kernel
theorem dX5_days_45 : decode cX5_days 45 = .ok (.ireturn, 1) := by decide +kernel
theorem dX5_days_46 : decode cX5_days 46 = .ok (.aload_n 0, 1) := by decide +kernel
theorem dX5_days_47 : decode cX5_days 47 = .ok (.bipush 100, 2) := by decide +kernel
theorem dX5_days_49 : decode cX5_days 49 = .ok (.aload_n 0, 1) := by decide +kernel
theorem dX5_days_50 : decode cX5_days 50 = .ok (.aload_n 0, 1) := by decide +kernel
theorem dX5_days_51 : decode cX5_days 51 = .ok (.getfield 7, 3) := by decide +kernel
theorem dX5_days_54 : decode cX5_days 54 = .ok (.bipush 114, 2) := by decide +kernel
theorem dX5_days_56 : decode cX5_days 56 = .ok (.iaload, 1) := by decide +kernel
theorem dX5_days_57 : decode cX5_days 57 = .ok (.invokevirtual 196, 3) := by decide +kernel
theorem dX5_days_60 : decode cX5_days 60 = .ok (.invokevirtual 213, 3) := by decide +kernel
theorem dX5_days_63 : decode cX5_days 63 = .ok (.iinc 2 1, 3) := by decide +kernel
theorem dX5_days_66 : decode cX5_days 66 = .ok (.goto (-38), 3) := by decide +kernel
theorem dX5_days_69 : decode cX5_days 69 = .ok (.bipush (-9), 2) := by decide +kernel
theorem dX5_days_71 : decode cX5_days 71 = .ok (.ireturn, 1) := by decide +kernel
theorem dX5_isOverBy_0 : decode cX5_isOverBy 0 = .ok (.aload_n 0, 1) := by decide +kernel
theorem dX5_isOverBy_1 : decode cX5_isOverBy 1 = .ok (.iconst 0, 1) := by decide +kernel
theorem dX5_isOverBy_2 : decode cX5_isOverBy 2 = .ok (.bipush 100, 2) := by decide +kernel
theorem dX5_isOverBy_4 : decode cX5_isOverBy 4 = .ok (.invokevirtual 172, 3) := by decide +kernel
theorem dX5_isOverBy_7 : decode cX5_isOverBy 7 = .ok (.aload_n 0, 1) := by decide +kernel
theorem dX5_isOverBy_8 : decode cX5_isOverBy 8 = .ok (.bipush 100, 2) := by decide +kernel
theorem dX5_isOverBy_10 : decode cX5_isOverBy 10 = .ok (.iload_n 1, 1) := by decide +kernel
theorem dX5_isOverBy_11 : decode cX5_isOverBy 11 = .ok (.bipush 7, 2) := by decide +kernel
theorem dX5_isOverBy_13 : decode cX5_isOverBy 13 = .ok (.invokevirtual 203, 3) := by decide +kernel
theorem dX5_isOverBy_16 : decode cX5_isOverBy 16 = .ok (.aload_n 0, 1) := by decide +kernel
theorem dX5_isOverBy_17 : decode cX5_isOverBy 17 = .ok (.getfield 7, 3) := by decide +kernel
theorem dX5_isOverBy_20 : decode cX5_isOverBy 20 = .ok (.bipush 15, 2) := by decide +kernel
theorem dX5_isOverBy_22 : decode cX5_isOverBy 22 = .ok (.iaload, 1) := by decide +kernel
theorem dX5_isOverBy_23 : decode cX5_isOverBy 23 = .ok (.istore_n 3, 1) := by decide +kernel
theorem dX5_isOverBy_24 : decode cX5_isOverBy 24 = .ok (.iload_n 3, 1) := by decide +kernel
theorem dX5_isOverBy_25 : decode cX5_isOverBy 25 = .ok (.aload_n 0, 1) := by decide +kernel
theorem dX5_isOverBy_26 : decode cX5_isOverBy 26 = .ok (.getfield 50, 3) := by decide +kernel
theorem dX5_isOverBy_29 : decode cX5_isOverBy 29 = .ok (.if_icmp .ge 89, 3) := by decide +kernel
theorem dX5_isOverBy_32 : decode cX5_isOverBy 32 = .ok (.aload_n 0, 1) := by decide +kernel
theorem dX5_isOverBy_33 : decode cX5_isOverBy 33 = .ok (.bipush 100, 2) := by decide +kernel
theorem dX5_isOverBy_35 : decode cX5_isOverBy 35 = .ok (.iload_n 1, 1) := by decide +kernel
theorem dX5_isOverBy_36 : decode cX5_isOverBy 36 = .ok (.invokevirtual 158, 3) := by decide +kernel
theorem dX5_isOverBy_39 : decode cX5_isOverBy 39 = .ok (.ifCond .ne 46, 3) := by decide +kernel
theorem dX5_isOverBy_42 : decode cX5_isOverBy 42 = .ok (.aload_n 0, 1) := by decide +kernel
theorem dX5_isOverBy_43 : decode cX5_isOverBy 43 = .ok (.bipush 100, 2) := by decide +kernel
theorem dX5_isOverBy_45 : decode cX5_isOverBy 45 = .ok (.iload_n 1, 1) := by decide +kernel
theorem dX5_isOverBy_46 : decode cX5_isOverBy 46 = .ok (.invokevirtual 183, 3) := by decide +kernel
theorem dX5_isOverBy_49 : decode cX5_isOverBy 49 = .ok (.iload_n 2, 1) := by decide +kernel
theorem dX5_isOverBy_50 : decode cX5_isOverBy 50 = .ok (.aload_n 0, 1) := by decide +kernel
theorem dX5_isOverBy_51 : decode cX5_isOverBy 51 = .ok (.getfield 20, 3) := by decide +kernel
theorem dX5_isOverBy_54 : decode cX5_isOverBy 54 = .ok (.iload_n 1, 1) := by decide +kernel
theorem dX5_isOverBy_55 : decode cX5_isOverBy 55 = .ok (.iaload, 1) := by decide +kernel
theorem dX5_isOverBy_56 : decode cX5_isOverBy 56 = .ok (.iadd, 1) := by decide +kernel
theorem dX5_isOverBy_57 : decode cX5_isOverBy 57 = .ok (.if_icmp .lt 28, 3) := by decide +kernel
theorem dX5_isOverBy_60 : decode cX5_isOverBy 60 = .ok (.aload_n 0, 1) := by decide +kernel
theorem dX5_isOverBy_61 : decode cX5_isOverBy 61 = .ok (.bipush 100, 2) := by decide +kernel
theorem dX5_isOverBy_63 : decode cX5_isOverBy 63 = .ok (.iload_n 1, 1) := by decide +kernel
theorem dX5_isOverBy_64 : decode cX5_isOverBy 64 = .ok (.aload_n 0, 1) := by decide +kernel
theorem dX5_isOverBy_65 : decode cX5_isOverBy 65 = .ok (.getfield 7, 3) := by decide +kernel
theorem dX5_isOverBy_68 : decode cX5_isOverBy 68 = .ok (.bipush 100, 2) := by decide +kernel
theorem dX5_isOverBy_70 : decode cX5_isOverBy 70 = .ok (.iload_n 1, 1) := by decide +kernel
theorem dX5_isOverBy_71 : decode cX5_isOverBy 71 = .ok (.iadd, 1) := by decide +kernel
theorem dX5_isOverBy_72 : decode cX5_isOverBy 72 = .ok (.iaload, 1) := by decide +kernel
theorem dX5_isOverBy_73 : decode cX5_isOverBy 73 = .ok (.iconst 1, 1) := by decide +kernel
theorem dX5_isOverBy_74 : decode cX5_isOverBy 74 = .ok (.iadd, 1) := by decide +kernel
theorem dX5_isOverBy_75 : decode cX5_isOverBy 75 = .ok (.invokevirtual 186, 3) := by decide +kernel
theorem dX5_isOverBy_78 : decode cX5_isOverBy 78 = .ok (.ifCond .ne 7, 3) := by decide +kernel
theorem dX5_isOverBy_81 : decode cX5_isOverBy 81 = .ok (.iconst 1, 1) := by decide +kernel
theorem dX5_isOverBy_82 : decode cX5_isOverBy 82 = .ok (.goto 4, 3) := by decide +kernel
theorem dX5_isOverBy_85 : decode cX5_isOverBy 85 = .ok (.iconst 0, 1) := by decide +kernel
theorem dX5_isOverBy_86 : decode cX5_isOverBy 86 = .ok (.istore 4, 2) := by decide +kernel
theorem dX5_isOverBy_88 : decode cX5_isOverBy 88 = .ok (.aload_n 0, 1) := by decide +kernel
theorem dX5_isOverBy_89 : decode cX5_isOverBy 89 = .ok (.getfield 7, 3) := by decide +kernel
theorem dX5_isOverBy_92 : decode cX5_isOverBy 92 = .ok (.bipush 100, 2) := by decide +kernel
theorem dX5_isOverBy_94 : decode cX5_isOverBy 94 = .ok (.iload_n 1, 1) := by decide +kernel
theorem dX5_isOverBy_95 : decode cX5_isOverBy 95 = .ok (.iadd, 1) := by decide +kernel
theorem dX5_isOverBy_96 : decode cX5_isOverBy 96 = .ok (.dup2, 1) := by decide +kernel
theorem dX5_isOverBy_97 : decode cX5_isOverBy 97 = .ok (.iaload, 1) := by decide +kernel
theorem dX5_isOverBy_98 : decode cX5_isOverBy 98 = .ok (.iload 4, 2) := by decide +kernel
theorem dX5_isOverBy_100 : decode cX5_isOverBy 100 = .ok (.invokestatic 161, 3) := by decide +kernel
theorem dX5_isOverBy_103 : decode cX5_isOverBy 103 = .ok (.iadd, 1) := by decide +kernel
theorem dX5_isOverBy_104 : decode cX5_isOverBy 104 = .ok (.iastore, 1) := by decide +kernel
theorem dX5_isOverBy_105 : decode cX5_isOverBy 105 = .ok (.aload_n 0, 1) := by decide +kernel
theorem dX5_isOverBy_106 : decode cX5_isOverBy 106 = .ok (.bipush 100, 2) := by decide +kernel
theorem dX5_isOverBy_108 : decode cX5_isOverBy 108 = .ok (.iconst 0, 1) := by decide +kernel
theorem dX5_isOverBy_109 : decode cX5_isOverBy 109 = .ok (.invokevirtual 190, 3) := by decide +kernel
theorem dX5_isOverBy_112 : decode cX5_isOverBy 112 = .ok (.iinc 3 1, 3) := by decide +kernel
theorem dX5_isOverBy_115 : decode cX5_isOverBy 115 = .ok (.goto (-91), 3) := by decide +kernel
theorem dX5_isOverBy_118 : decode cX5_isOverBy 118 = .ok (.aload_n 0, 1) := by decide +kernel
theorem dX5_isOverBy_119 : decode cX5_isOverBy 119 = .ok (.bipush 100, 2) := by decide +kernel
theorem dX5_isOverBy_121 : decode cX5_isOverBy 121 = .ok (.iload_n 1, 1) := by decide +kernel
theorem dX5_isOverBy_122 : decode cX5_isOverBy 122 = .ok (.invokevirtual 158, 3) := by decide +kernel
theorem dX5_isOverBy_125 : decode cX5_isOverBy 125 = .ok (.ireturn, 1) := by decide +kernel
theorem dX5_little_0 : decode cX5_little 0 = .ok (.aload_n 0, 1) := by decide +kernel
theorem dX5_little_1 : decode cX5_little 1 = .ok (.iload_n 1, 1) := by decide +kernel
theorem dX5_little_2 : decode cX5_little 2 = .ok (.invokevirtual 149, 3) := by decide +kernel
theorem dX5_little_5 : decode cX5_little 5 = .ok (.ifCond .ne 5, 3) := by decide +kernel
theorem dX5_little_8 : decode cX5_little 8 = .ok (.iconst (-1), 1) := by decide +kernel
theorem dX5_little_9 : decode cX5_little 9 = .ok (.ireturn, 1) := by decide +kernel
theorem dX5_little_10 : decode cX5_little 10 = .ok (.aload_n 0, 1) := by decide +kernel
theorem dX5_little_11 : decode cX5_little 11 = .ok (.iconst 0, 1) := by decide +kernel
theorem dX5_little_12 : decode cX5_little 12 = .ok (.iload_n 1, 1) := by decide +kernel
theorem dX5_little_13 : decode cX5_little 13 = .ok (.invokevirtual 158, 3) := by decide +kernel
theorem dX5_little_16 : decode cX5_little 16 = .ok (.ifCond .eq 6, 3) := by decide +kernel
theorem dX5_little_19 : decode cX5_little 19 = .ok (.bipush (-2), 2) := by decide +kernel
theorem dX5_little_21 : decode cX5_little 21 = .ok (.ireturn, 1) := by decide +kernel
theorem dX5_little_22 : decode cX5_little 22 = .ok (.bipush 9, 2) := by decide +kernel
theorem dX5_little_24 : decode cX5_little 24 = .ok (.istore_n 2, 1) := by decide +kernel
theorem dX5_little_25 : decode cX5_little 25 = .ok (.iload_n 2, 1) := by decide +kernel
theorem dX5_little_26 : decode cX5_little 26 = .ok (.ifCond .le 20, 3) := by decide +kernel
theorem dX5_little_29 : decode cX5_little 29 = .ok (.aload_n 0, 1) := by decide +kernel
theorem dX5_little_30 : decode cX5_little 30 = .ok (.iload_n 1, 1) := by decide +kernel
theorem dX5_little_31 : decode cX5_little 31 = .ok (.iload_n 2, 1) := by decide +kernel
theorem dX5_little_32 : decode cX5_little 32 = .ok (.invokevirtual 216, 3) := by decide +kernel
theorem dX5_little_35 : decode cX5_little 35 = .ok (.ifCond .eq 5, 3) := by decide +kernel
theorem dX5_little_38 : decode cX5_little 38 = .ok (.iload_n 2, 1) := by decide +kernel
theorem dX5_little_39 : decode cX5_little 39 = .ok (.ireturn, 1) := by decide +kernel
theorem dX5_little_40 : decode cX5_little 40 = .ok (.iinc 2 (-1), 3) := by decide +kernel
theorem dX5_little_43 : decode cX5_little 43 = .ok (.goto (-18), 3) := by decide +kernel
theorem dX5_little_46 : decode cX5_little 46 = .ok (.bipush (-9), 2) := by decide +kernel
theorem dX5_little_48 : decode cX5_little 48 = .ok (.ireturn, 1) := by decide +kernel
theorem dX5_crew_0 : decode cX5_crew 0 = .ok (.aload_n 0, 1) := by decide +kernel
theorem dX5_crew_1 : decode cX5_crew 1 = .ok (.iload_n 1, 1) := by decide +kernel
theorem dX5_crew_2 : decode cX5_crew 2 = .ok (.invokevirtual 149, 3) := by decide +kernel
theorem dX5_crew_5 : decode cX5_crew 5 = .ok (.ifCond .ne 5, 3) := by decide +kernel
theorem dX5_crew_8 : decode cX5_crew 8 = .ok (.iconst (-1), 1) := by decide +kernel
theorem dX5_crew_9 : decode cX5_crew 9 = .ok (.ireturn, 1) := by decide +kernel
theorem dX5_crew_10 : decode cX5_crew 10 = .ok (.bipush (-9), 2) := by decide +kernel
theorem dX5_crew_12 : decode cX5_crew 12 = .ok (.istore_n 2, 1) := by decide +kernel
theorem dX5_crew_13 : decode cX5_crew 13 = .ok (.iconst 0, 1) := by decide +kernel
theorem dX5_crew_14 : decode cX5_crew 14 = .ok (.istore_n 3, 1) := by decide +kernel
theorem dX5_crew_15 : decode cX5_crew 15 = .ok (.iload_n 3, 1) := by decide +kernel
theorem dX5_crew_16 : decode cX5_crew 16 = .ok (.iconst 1, 1) := by decide +kernel
theorem dX5_crew_17 : decode cX5_crew 17 = .ok (.aload_n 0, 1) := by decide +kernel
theorem dX5_crew_18 : decode cX5_crew 18 = .ok (.getfield 137, 3) := by decide +kernel
theorem dX5_crew_21 : decode cX5_crew 21 = .ok (.ishl, 1) := by decide +kernel
theorem dX5_crew_22 : decode cX5_crew 22 = .ok (.if_icmp .ge 106, 3) := by decide +kernel
theorem dX5_crew_25 : decode cX5_crew 25 = .ok (.iconst 0, 1) := by decide +kernel
theorem dX5_crew_26 : decode cX5_crew 26 = .ok (.istore 4, 2) := by decide +kernel
theorem dX5_crew_28 : decode cX5_crew 28 = .ok (.iconst 0, 1) := by decide +kernel
theorem dX5_crew_29 : decode cX5_crew 29 = .ok (.istore 5, 2) := by decide +kernel
theorem dX5_crew_31 : decode cX5_crew 31 = .ok (.iload 5, 2) := by decide +kernel
theorem dX5_crew_33 : decode cX5_crew 33 = .ok (.aload_n 0, 1) := by decide +kernel
theorem dX5_crew_34 : decode cX5_crew 34 = .ok (.getfield 137, 3) := by decide +kernel
theorem dX5_crew_37 : decode cX5_crew 37 = .ok (.if_icmp .ge 34, 3) := by decide +kernel
theorem dX5_crew_40 : decode cX5_crew 40 = .ok (.iload 4, 2) := by decide +kernel
theorem dX5_crew_42 : decode cX5_crew 42 = .ok (.iload_n 3, 1) := by decide +kernel
theorem dX5_crew_43 : decode cX5_crew 43 = .ok (.iload 5, 2) := by decide +kernel
theorem dX5_crew_45 : decode cX5_crew 45 = .ok (.invokestatic 118, 3) := by decide +kernel
theorem dX5_crew_48 : decode cX5_crew 48 = .ok (.ifCond .eq 13, 3) := by decide +kernel
theorem dX5_crew_51 : decode cX5_crew 51 = .ok (.aload_n 0, 1) := by decide +kernel
theorem dX5_crew_52 : decode cX5_crew 52 = .ok (.getfield 38, 3) := by decide +kernel
theorem dX5_crew_55 : decode cX5_crew 55 = .ok (.iload 5, 2) := by decide +kernel
theorem dX5_crew_57 : decode cX5_crew 57 = .ok (.iaload, 1) := by decide +kernel
theorem dX5_crew_58 : decode cX5_crew 58 = .ok (.goto 4, 3) := by decide +kernel
theorem dX5_crew_61 : decode cX5_crew 61 = .ok (.iconst 0, 1) := by decide +kernel
theorem dX5_crew_62 : decode cX5_crew 62 = .ok (.iadd, 1) := by decide +kernel
theorem dX5_crew_63 : decode cX5_crew 63 = .ok (.istore 4, 2) := by decide +kernel
theorem dX5_crew_65 : decode cX5_crew 65 = .ok (.iinc 5 1, 3) := by decide +kernel
theorem dX5_crew_68 : decode cX5_crew 68 = .ok (.goto (-37), 3) := by decide +kernel
theorem dX5_crew_71 : decode cX5_crew 71 = .ok (.iload 4, 2) := by decide +kernel
theorem dX5_crew_73 : decode cX5_crew 73 = .ok (.aload_n 0, 1) := by decide +kernel
theorem dX5_crew_74 : decode cX5_crew 74 = .ok (.iconst 0, 1) := by decide +kernel
theorem dX5_crew_75 : decode cX5_crew 75 = .ok (.iload_n 1, 1) := by decide +kernel
theorem dX5_crew_76 : decode cX5_crew 76 = .ok (.invokevirtual 155, 3) := by decide +kernel
theorem dX5_crew_79 : decode cX5_crew 79 = .ok (.aload_n 0, 1) := by decide +kernel
theorem dX5_crew_80 : decode cX5_crew 80 = .ok (.getfield 20, 3) := by decide +kernel
theorem dX5_crew_83 : decode cX5_crew 83 = .ok (.iload_n 1, 1) := by decide +kernel
theorem dX5_crew_84 : decode cX5_crew 84 = .ok (.iaload, 1) := by decide +kernel
theorem dX5_crew_85 : decode cX5_crew 85 = .ok (.iadd, 1) := by decide +kernel
theorem dX5_crew_86 : decode cX5_crew 86 = .ok (.if_icmp .lt 22, 3) := by decide +kernel
theorem dX5_crew_89 : decode cX5_crew 89 = .ok (.iload_n 2, 1) := by decide +kernel
theorem dX5_crew_90 : decode cX5_crew 90 = .ok (.ifCond .lt 14, 3) := by decide +kernel
theorem dX5_crew_93 : decode cX5_crew 93 = .ok (.iload_n 3, 1) := by decide +kernel
theorem dX5_crew_94 : decode cX5_crew 94 = .ok (.invokestatic 219, 3) := by decide +kernel
theorem dX5_crew_97 : decode cX5_crew 97 = .ok (.iload_n 2, 1) := by decide +kernel
theorem dX5_crew_98 : decode cX5_crew 98 = .ok (.invokestatic 219, 3) := by decide +kernel
theorem dX5_crew_101 : decode cX5_crew 101 = .ok (.if_icmp .ge 7, 3) := by decide +kernel
theorem dX5_crew_104 : decode cX5_crew 104 = .ok (.iconst 1, 1) := by decide +kernel
theorem dX5_crew_105 : decode cX5_crew 105 = .ok (.goto 4, 3) := by decide +kernel
theorem dX5_crew_108 : decode cX5_crew 108 = .ok (.iconst 0, 1) := by decide +kernel
theorem dX5_crew_109 : decode cX5_crew 109 = .ok (.istore 5, 2) := by decide +kernel
theorem dX5_crew_111 : decode cX5_crew 111 = .ok (.iload 5, 2) := by decide +kernel
theorem dX5_crew_113 : decode cX5_crew 113 = .ok (.ifCond .eq 7, 3) := by decide +kernel
theorem dX5_crew_116 : decode cX5_crew 116 = .ok (.iload_n 3, 1) := by decide +kernel
theorem dX5_crew_117 : decode cX5_crew 117 = .ok (.goto 4, 3) := by decide +kernel
theorem dX5_crew_120 : decode cX5_crew 120 = .ok (.iload_n 2, 1) := by decide +kernel
theorem dX5_crew_121 : decode cX5_crew 121 = .ok (.istore_n 2, 1) := by decide +kernel
theorem dX5_crew_122 : decode cX5_crew 122 = .ok (.iinc 3 1, 3) := by decide +kernel
theorem dX5_crew_125 : decode cX5_crew 125 = .ok (.goto (-110), 3) := by decide +kernel
theorem dX5_crew_128 : decode cX5_crew 128 = .ok (.iload_n 2, 1) := by decide +kernel
theorem dX5_crew_129 : decode cX5_crew 129 = .ok (.ireturn, 1) := by decide +kernel
theorem dX5_blocks_0 : decode cX5_blocks 0 = .ok (.aload_n 0, 1) := by decide +kernel
theorem dX5_blocks_1 : decode cX5_blocks 1 = .ok (.iload_n 1, 1) := by decide +kernel
theorem dX5_blocks_2 : decode cX5_blocks 2 = .ok (.invokevirtual 149, 3) := by decide +kernel
theorem dX5_blocks_5 : decode cX5_blocks 5 = .ok (.ifCond .ne 7, 3) := by decide +kernel
theorem dX5_blocks_8 : decode cX5_blocks 8 = .ok (.iconst (-1), 1) := by decide +kernel
theorem dX5_blocks_9 : decode cX5_blocks 9 = .ok (.goto 30, 3) := by decide +kernel
theorem dX5_blocks_12 : decode cX5_blocks 12 = .ok (.aload_n 0, 1) := by decide +kernel
theorem dX5_blocks_13 : decode cX5_blocks 13 = .ok (.iconst 0, 1) := by decide +kernel
theorem dX5_blocks_14 : decode cX5_blocks 14 = .ok (.iload_n 1, 1) := by decide +kernel
theorem dX5_blocks_15 : decode cX5_blocks 15 = .ok (.invokevirtual 158, 3) := by decide +kernel
theorem dX5_blocks_18 : decode cX5_blocks 18 = .ok (.ifCond .eq 7, 3) := by decide +kernel
theorem dX5_blocks_21 : decode cX5_blocks 21 = .ok (.iconst 0, 1) := by decide +kernel
theorem dX5_blocks_22 : decode cX5_blocks 22 = .ok (.goto 17, 3) := by decide +kernel
theorem dX5_blocks_25 : decode cX5_blocks 25 = .ok (.aload_n 0, 1) := by decide +kernel
theorem dX5_blocks_26 : decode cX5_blocks 26 = .ok (.iconst 0, 1) := by decide +kernel
theorem dX5_blocks_27 : decode cX5_blocks 27 = .ok (.iload_n 1, 1) := by decide +kernel
theorem dX5_blocks_28 : decode cX5_blocks 28 = .ok (.aload_n 0, 1) := by decide +kernel
theorem dX5_blocks_29 : decode cX5_blocks 29 = .ok (.getfield 7, 3) := by decide +kernel
theorem dX5_blocks_32 : decode cX5_blocks 32 = .ok (.iload_n 1, 1) := by decide +kernel
theorem dX5_blocks_33 : decode cX5_blocks 33 = .ok (.iaload, 1) := by decide +kernel
theorem dX5_blocks_34 : decode cX5_blocks 34 = .ok (.iconst 1, 1) := by decide +kernel
theorem dX5_blocks_35 : decode cX5_blocks 35 = .ok (.iadd, 1) := by decide +kernel
theorem dX5_blocks_36 : decode cX5_blocks 36 = .ok (.invokevirtual 186, 3) := by decide +kernel
theorem dX5_blocks_39 : decode cX5_blocks 39 = .ok (.ireturn, 1) := by decide +kernel
theorem dX5_written_0 : decode cX5_written 0 = .ok (.aload_n 0, 1) := by decide +kernel
theorem dX5_written_1 : decode cX5_written 1 = .ok (.iload_n 2, 1) := by decide +kernel
theorem dX5_written_2 : decode cX5_written 2 = .ok (.invokevirtual 149, 3) := by decide +kernel
theorem dX5_written_5 : decode cX5_written 5 = .ok (.ifCond .eq 38, 3) := by decide +kernel
theorem dX5_written_8 : decode cX5_written 8 = .ok (.iload_n 1, 1) := by decide +kernel
theorem dX5_written_9 : decode cX5_written 9 = .ok (.i2l, 1) := by decide +kernel
theorem dX5_written_10 : decode cX5_written 10 = .ok (.lconst 0, 1) := by decide +kernel
theorem dX5_written_11 : decode cX5_written 11 = .ok (.aload_n 0, 1) := by decide +kernel
theorem dX5_written_12 : decode cX5_written 12 = .ok (.getfield 7, 3) := by decide +kernel
theorem dX5_written_15 : decode cX5_written 15 = .ok (.bipush 16, 2) := by decide +kernel
theorem dX5_written_17 : decode cX5_written 17 = .ok (.iaload, 1) := by decide +kernel
theorem dX5_written_18 : decode cX5_written 18 = .ok (.iconst 1, 1) := by decide +kernel
theorem dX5_written_19 : decode cX5_written 19 = .ok (.isub, 1) := by decide +kernel
theorem dX5_written_20 : decode cX5_written 20 = .ok (.i2l, 1) := by decide +kernel
theorem dX5_written_21 : decode cX5_written 21 = .ok (.invokestatic 59, 3) := by decide +kernel
theorem dX5_written_24 : decode cX5_written 24 = .ok (.ifCond .eq 19, 3) := by decide +kernel
theorem dX5_written_27 : decode cX5_written 27 = .ok (.aload_n 0, 1) := by decide +kernel
theorem dX5_written_28 : decode cX5_written 28 = .ok (.getfield 7, 3) := by decide +kernel
theorem dX5_written_31 : decode cX5_written 31 = .ok (.bipush 20, 2) := by decide +kernel
theorem dX5_written_33 : decode cX5_written 33 = .ok (.iconst 4, 1) := by decide +kernel
theorem dX5_written_34 : decode cX5_written 34 = .ok (.iload_n 1, 1) := by decide +kernel
theorem dX5_written_35 : decode cX5_written 35 = .ok (.imul, 1) := by decide +kernel
theorem dX5_written_36 : decode cX5_written 36 = .ok (.iadd, 1) := by decide +kernel
theorem dX5_written_37 : decode cX5_written 37 = .ok (.iload_n 2, 1) := by decide +kernel
theorem dX5_written_38 : decode cX5_written 38 = .ok (.iadd, 1) := by decide +kernel
theorem dX5_written_39 : decode cX5_written 39 = .ok (.iaload, 1) := by decide +kernel
theorem dX5_written_40 : decode cX5_written 40 = .ok (.goto 4, 3) := by decide +kernel
theorem dX5_written_43 : decode cX5_written 43 = .ok (.iconst (-1), 1) := by decide +kernel
theorem dX5_written_44 : decode cX5_written 44 = .ok (.ireturn, 1) := by decide +kernel
theorem dX5_saw_0 : decode cX5_saw 0 = .ok (.aload_n 0, 1) := by decide +kernel
theorem dX5_saw_1 : decode cX5_saw 1 = .ok (.iload_n 1, 1) := by decide +kernel
theorem dX5_saw_2 : decode cX5_saw 2 = .ok (.invokevirtual 149, 3) := by decide +kernel
theorem dX5_saw_5 : decode cX5_saw 5 = .ok (.ifCond .eq 15, 3) := by decide +kernel
theorem dX5_saw_8 : decode cX5_saw 8 = .ok (.iload_n 2, 1) := by decide +kernel
theorem dX5_saw_9 : decode cX5_saw 9 = .ok (.i2l, 1) := by decide +kernel
theorem dX5_saw_10 : decode cX5_saw 10 = .ok (.lconst 0, 1) := by decide +kernel
theorem dX5_saw_11 : decode cX5_saw 11 = .ok (.ldc2_w 222, 3) := by decide +kernel
theorem dX5_saw_14 : decode cX5_saw 14 = .ok (.invokestatic 59, 3) := by decide +kernel
theorem dX5_saw_17 : decode cX5_saw 17 = .ok (.ifCond .ne 5, 3) := by decide +kernel
theorem dX5_saw_20 : decode cX5_saw 20 = .ok (.iconst (-1), 1) := by decide +kernel
theorem dX5_saw_21 : decode cX5_saw 21 = .ok (.ireturn, 1) := by decide +kernel
theorem dX5_saw_22 : decode cX5_saw 22 = .ok (.aload_n 0, 1) := by decide +kernel
theorem dX5_saw_23 : decode cX5_saw 23 = .ok (.getfield 143, 3) := by decide +kernel
theorem dX5_saw_26 : decode cX5_saw 26 = .ok (.bipush 6, 2) := by decide +kernel
theorem dX5_saw_28 : decode cX5_saw 28 = .ok (.if_icmp .ne 6, 3) := by decide +kernel
theorem dX5_saw_31 : decode cX5_saw 31 = .ok (.bipush (-3), 2) := by decide +kernel
theorem dX5_saw_33 : decode cX5_saw 33 = .ok (.ireturn, 1) := by decide +kernel
theorem dX5_saw_34 : decode cX5_saw 34 = .ok (.aload_n 0, 1) := by decide +kernel
theorem dX5_saw_35 : decode cX5_saw 35 = .ok (.getfield 44, 3) := by decide +kernel
theorem dX5_saw_38 : decode cX5_saw 38 = .ok (.aload_n 0, 1) := by decide +kernel
theorem dX5_saw_39 : decode cX5_saw 39 = .ok (.getfield 143, 3) := by decide +kernel
theorem dX5_saw_42 : decode cX5_saw 42 = .ok (.iload_n 1, 1) := by decide +kernel
theorem dX5_saw_43 : decode cX5_saw 43 = .ok (.iastore, 1) := by decide +kernel
theorem dX5_saw_44 : decode cX5_saw 44 = .ok (.aload_n 0, 1) := by decide +kernel
theorem dX5_saw_45 : decode cX5_saw 45 = .ok (.getfield 47, 3) := by decide +kernel
theorem dX5_saw_48 : decode cX5_saw 48 = .ok (.aload_n 0, 1) := by decide +kernel
theorem dX5_saw_49 : decode cX5_saw 49 = .ok (.getfield 143, 3) := by decide +kernel
theorem dX5_saw_52 : decode cX5_saw 52 = .ok (.iload_n 2, 1) := by decide +kernel
theorem dX5_saw_53 : decode cX5_saw 53 = .ok (.iastore, 1) := by decide +kernel
theorem dX5_saw_54 : decode cX5_saw 54 = .ok (.aload_n 0, 1) := by decide +kernel
theorem dX5_saw_55 : decode cX5_saw 55 = .ok (.dup, 1) := by decide +kernel
theorem dX5_saw_56 : decode cX5_saw 56 = .ok (.getfield 143, 3) := by decide +kernel
theorem dX5_saw_59 : decode cX5_saw 59 = .ok (.iconst 1, 1) := by decide +kernel
theorem dX5_saw_60 : decode cX5_saw 60 = .ok (.iadd, 1) := by decide +kernel
theorem dX5_saw_61 : decode cX5_saw 61 = .ok (.putfield 143, 3) := by decide +kernel
theorem dX5_saw_64 : decode cX5_saw 64 = .ok (.aload_n 0, 1) := by decide +kernel
theorem dX5_saw_65 : decode cX5_saw 65 = .ok (.getfield 143, 3) := by decide +kernel
theorem dX5_saw_68 : decode cX5_saw 68 = .ok (.ireturn, 1) := by decide +kernel
theorem dX5_forget_0 : decode cX5_forget 0 = .ok (.aload_n 0, 1) := by decide +kernel
theorem dX5_forget_1 : decode cX5_forget 1 = .ok (.getfield 143, 3) := by decide +kernel
theorem dX5_forget_4 : decode cX5_forget 4 = .ok (.istore_n 1, 1) := by decide +kernel
theorem dX5_forget_5 : decode cX5_forget 5 = .ok (.aload_n 0, 1) := by decide +kernel
theorem dX5_forget_6 : decode cX5_forget 6 = .ok (.iconst 0, 1) := by decide +kernel
theorem dX5_forget_7 : decode cX5_forget 7 = .ok (.putfield 143, 3) := by decide +kernel
theorem dX5_forget_10 : decode cX5_forget 10 = .ok (.iload_n 1, 1) := by decide +kernel
theorem dX5_forget_11 : decode cX5_forget 11 = .ok (.ireturn, 1) := by decide +kernel
theorem dX5_evening_0 : decode cX5_evening 0 = .ok (.iconst 0, 1) := by decide +kernel
theorem dX5_evening_1 : decode cX5_evening 1 = .ok (.istore_n 1, 1) := by decide +kernel
theorem dX5_evening_2 : decode cX5_evening 2 = .ok (.iconst 0, 1) := by decide +kernel
theorem dX5_evening_3 : decode cX5_evening 3 = .ok (.istore_n 2, 1) := by decide +kernel
theorem dX5_evening_4 : decode cX5_evening 4 = .ok (.iload_n 2, 1) := by decide +kernel
theorem dX5_evening_5 : decode cX5_evening 5 = .ok (.aload_n 0, 1) := by decide +kernel
theorem dX5_evening_6 : decode cX5_evening 6 = .ok (.getfield 7, 3) := by decide +kernel
theorem dX5_evening_9 : decode cX5_evening 9 = .ok (.bipush 16, 2) := by decide +kernel
theorem dX5_evening_11 : decode cX5_evening 11 = .ok (.iaload, 1) := by decide +kernel
theorem dX5_evening_12 : decode cX5_evening 12 = .ok (.if_icmp .ge 77, 3) := by decide +kernel
theorem dX5_evening_15 : decode cX5_evening 15 = .ok (.iconst 1, 1) := by decide +kernel
theorem dX5_evening_16 : decode cX5_evening 16 = .ok (.istore_n 3, 1) := by decide +kernel
theorem dX5_evening_17 : decode cX5_evening 17 = .ok (.iconst 0, 1) := by decide +kernel
theorem dX5_evening_18 : decode cX5_evening 18 = .ok (.istore 4, 2) := by decide +kernel
theorem dX5_evening_20 : decode cX5_evening 20 = .ok (.iload 4, 2) := by decide +kernel
theorem dX5_evening_22 : decode cX5_evening 22 = .ok (.aload_n 0, 1) := by decide +kernel
theorem dX5_evening_23 : decode cX5_evening 23 = .ok (.getfield 143, 3) := by decide +kernel
theorem dX5_evening_26 : decode cX5_evening 26 = .ok (.if_icmp .ge 48, 3) := by decide +kernel
theorem dX5_evening_29 : decode cX5_evening 29 = .ok (.iload_n 3, 1) := by decide +kernel
theorem dX5_evening_30 : decode cX5_evening 30 = .ok (.ifCond .eq 36, 3) := by decide +kernel
theorem dX5_evening_33 : decode cX5_evening 33 = .ok (.aload_n 0, 1) := by decide +kernel
theorem dX5_evening_34 : decode cX5_evening 34 = .ok (.getfield 7, 3) := by decide +kernel
theorem dX5_evening_37 : decode cX5_evening 37 = .ok (.bipush 20, 2) := by decide +kernel
theorem dX5_evening_39 : decode cX5_evening 39 = .ok (.iconst 4, 1) := by decide +kernel
theorem dX5_evening_40 : decode cX5_evening 40 = .ok (.iload_n 2, 1) := by decide +kernel
theorem dX5_evening_41 : decode cX5_evening 41 = .ok (.imul, 1) := by decide +kernel
theorem dX5_evening_42 : decode cX5_evening 42 = .ok (.iadd, 1) := by decide +kernel
theorem dX5_evening_43 : decode cX5_evening 43 = .ok (.aload_n 0, 1) := by decide +kernel
theorem dX5_evening_44 : decode cX5_evening 44 = .ok (.getfield 44, 3) := by decide +kernel
theorem dX5_evening_47 : decode cX5_evening 47 = .ok (.iload 4, 2) := by decide +kernel
theorem dX5_evening_49 : decode cX5_evening 49 = .ok (.iaload, 1) := by decide +kernel
theorem dX5_evening_50 : decode cX5_evening 50 = .ok (.iadd, 1) := by decide +kernel
theorem dX5_evening_51 : decode cX5_evening 51 = .ok (.iaload, 1) := by decide +kernel
theorem dX5_evening_52 : decode cX5_evening 52 = .ok (.aload_n 0, 1) := by decide +kernel
theorem dX5_evening_53 : decode cX5_evening 53 = .ok (.getfield 47, 3) := by decide +kernel
theorem dX5_evening_56 : decode cX5_evening 56 = .ok (.iload 4, 2) := by decide +kernel
theorem dX5_evening_58 : decode cX5_evening 58 = .ok (.iaload, 1) := by decide +kernel
theorem dX5_evening_59 : decode cX5_evening 59 = .ok (.if_icmp .ne 7, 3) := by decide +kernel
theorem dX5_evening_62 : decode cX5_evening 62 = .ok (.iconst 1, 1) := by decide +kernel
theorem dX5_evening_63 : decode cX5_evening 63 = .ok (.goto 4, 3) := by decide +kernel
theorem dX5_evening_66 : decode cX5_evening 66 = .ok (.iconst 0, 1) := by decide +kernel
theorem dX5_evening_67 : decode cX5_evening 67 = .ok (.istore_n 3, 1) := by decide +kernel
theorem dX5_evening_68 : decode cX5_evening 68 = .ok (.iinc 4 1, 3) := by decide +kernel
theorem dX5_evening_71 : decode cX5_evening 71 = .ok (.goto (-51), 3) := by decide +kernel
theorem dX5_evening_74 : decode cX5_evening 74 = .ok (.iload_n 1, 1) := by decide +kernel
theorem dX5_evening_75 : decode cX5_evening 75 = .ok (.iload_n 3, 1) := by decide +kernel
theorem dX5_evening_76 : decode cX5_evening 76 = .ok (.invokestatic 161, 3) := by decide +kernel
theorem dX5_evening_79 : decode cX5_evening 79 = .ok (.iload_n 2, 1) := by decide +kernel
theorem dX5_evening_80 : decode cX5_evening 80 = .ok (.ishl, 1) := by decide +kernel
theorem dX5_evening_81 : decode cX5_evening 81 = .ok (.ior, 1) := by decide +kernel
theorem dX5_evening_82 : decode cX5_evening 82 = .ok (.istore_n 1, 1) := by decide +kernel
theorem dX5_evening_83 : decode cX5_evening 83 = .ok (.iinc 2 1, 3) := by decide +kernel
theorem dX5_evening_86 : decode cX5_evening 86 = .ok (.goto (-82), 3) := by decide +kernel
theorem dX5_evening_89 : decode cX5_evening 89 = .ok (.iload_n 1, 1) := by decide +kernel
theorem dX5_evening_90 : decode cX5_evening 90 = .ok (.ireturn, 1) := by decide +kernel
theorem dX5_common_0 : decode cX5_common 0 = .ok (.lload_n 0, 1) := by decide +kernel
theorem dX5_common_1 : decode cX5_common 1 = .ok (.lstore 4, 2) := by decide +kernel
theorem dX5_common_3 : decode cX5_common 3 = .ok (.lload_n 2, 1) := by decide +kernel
theorem dX5_common_4 : decode cX5_common 4 = .ok (.lstore 6, 2) := by decide +kernel
theorem dX5_common_6 : decode cX5_common 6 = .ok (.lload 6, 2) := by decide +kernel
theorem dX5_common_8 : decode cX5_common 8 = .ok (.lconst 0, 1) := by decide +kernel
theorem dX5_common_9 : decode cX5_common 9 = .ok (.lcmp, 1) := by decide +kernel
theorem dX5_common_10 : decode cX5_common 10 = .ok (.ifCond .le 21, 3) := by decide +kernel
theorem dX5_common_13 : decode cX5_common 13 = .ok (.lload 4, 2) := by decide +kernel
theorem dX5_common_15 : decode cX5_common 15 = .ok (.lload 6, 2) := by decide +kernel
theorem dX5_common_17 : decode cX5_common 17 = .ok (.lrem, 1) := by decide +kernel
theorem dX5_common_18 : decode cX5_common 18 = .ok (.lstore 8, 2) := by decide +kernel
theorem dX5_common_20 : decode cX5_common 20 = .ok (.lload 6, 2) := by decide +kernel
theorem dX5_common_22 : decode cX5_common 22 = .ok (.lstore 4, 2) := by decide +kernel
theorem dX5_common_24 : decode cX5_common 24 = .ok (.lload 8, 2) := by decide +kernel
theorem dX5_common_26 : decode cX5_common 26 = .ok (.lstore 6, 2) := by decide +kernel
theorem dX5_common_28 : decode cX5_common 28 = .ok (.goto (-22), 3) := by decide +kernel
theorem dX5_common_31 : decode cX5_common 31 = .ok (.lload 4, 2) := by decide +kernel
theorem dX5_common_33 : decode cX5_common 33 = .ok (.lreturn, 1) := by decide +kernel
theorem dX5_odds_0 : decode cX5_odds 0 = .ok (.aload_n 0, 1) := by decide +kernel
theorem dX5_odds_1 : decode cX5_odds 1 = .ok (.iload_n 1, 1) := by decide +kernel
theorem dX5_odds_2 : decode cX5_odds 2 = .ok (.invokevirtual 149, 3) := by decide +kernel
theorem dX5_odds_5 : decode cX5_odds 5 = .ok (.ifCond .eq 38, 3) := by decide +kernel
theorem dX5_odds_8 : decode cX5_odds 8 = .ok (.iload_n 2, 1) := by decide +kernel
theorem dX5_odds_9 : decode cX5_odds 9 = .ok (.i2l, 1) := by decide +kernel
theorem dX5_odds_10 : decode cX5_odds 10 = .ok (.lconst 1, 1) := by decide +kernel
theorem dX5_odds_11 : decode cX5_odds 11 = .ok (.ldc2_w 224, 3) := by decide +kernel
theorem dX5_odds_14 : decode cX5_odds 14 = .ok (.invokestatic 59, 3) := by decide +kernel
theorem dX5_odds_17 : decode cX5_odds 17 = .ok (.ifCond .eq 26, 3) := by decide +kernel
theorem dX5_odds_20 : decode cX5_odds 20 = .ok (.iload_n 3, 1) := by decide +kernel
theorem dX5_odds_21 : decode cX5_odds 21 = .ok (.i2l, 1) := by decide +kernel
theorem dX5_odds_22 : decode cX5_odds 22 = .ok (.lconst 0, 1) := by decide +kernel
theorem dX5_odds_23 : decode cX5_odds 23 = .ok (.ldc2_w 226, 3) := by decide +kernel
theorem dX5_odds_26 : decode cX5_odds 26 = .ok (.invokestatic 59, 3) := by decide +kernel
theorem dX5_odds_29 : decode cX5_odds 29 = .ok (.ifCond .eq 14, 3) := by decide +kernel
theorem dX5_odds_32 : decode cX5_odds 32 = .ok (.iload 4, 2) := by decide +kernel
theorem dX5_odds_34 : decode cX5_odds 34 = .ok (.i2l, 1) := by decide +kernel
theorem dX5_odds_35 : decode cX5_odds 35 = .ok (.lconst 0, 1) := by decide +kernel
theorem dX5_odds_36 : decode cX5_odds 36 = .ok (.lconst 1, 1) := by decide +kernel
theorem dX5_odds_37 : decode cX5_odds 37 = .ok (.invokestatic 59, 3) := by decide +kernel
theorem dX5_odds_40 : decode cX5_odds 40 = .ok (.ifCond .ne 7, 3) := by decide +kernel
theorem dX5_odds_43 : decode cX5_odds 43 = .ok (.ldc2_w 228, 3) := by decide +kernel
theorem dX5_odds_46 : decode cX5_odds 46 = .ok (.lreturn, 1) := by decide +kernel
theorem dX5_odds_47 : decode cX5_odds 47 = .ok (.lconst 0, 1) := by decide +kernel
theorem dX5_odds_48 : decode cX5_odds 48 = .ok (.lstore 5, 2) := by decide +kernel
theorem dX5_odds_50 : decode cX5_odds 50 = .ok (.lconst 1, 1) := by decide +kernel
theorem dX5_odds_51 : decode cX5_odds 51 = .ok (.lstore 7, 2) := by decide +kernel
theorem dX5_odds_53 : decode cX5_odds 53 = .ok (.iconst 0, 1) := by decide +kernel
theorem dX5_odds_54 : decode cX5_odds 54 = .ok (.istore 9, 2) := by decide +kernel
theorem dX5_odds_56 : decode cX5_odds 56 = .ok (.iload 9, 2) := by decide +kernel
theorem dX5_odds_58 : decode cX5_odds 58 = .ok (.iload_n 2, 1) := by decide +kernel
theorem dX5_odds_59 : decode cX5_odds 59 = .ok (.if_icmp .ge 17, 3) := by decide +kernel
theorem dX5_odds_62 : decode cX5_odds 62 = .ok (.lload 7, 2) := by decide +kernel
theorem dX5_odds_64 : decode cX5_odds 64 = .ok (.ldc2_w 226, 3) := by decide +kernel
theorem dX5_odds_67 : decode cX5_odds 67 = .ok (.lmul, 1) := by decide +kernel
theorem dX5_odds_68 : decode cX5_odds 68 = .ok (.lstore 7, 2) := by decide +kernel
theorem dX5_odds_70 : decode cX5_odds 70 = .ok (.iinc 9 1, 3) := by decide +kernel
theorem dX5_odds_73 : decode cX5_odds 73 = .ok (.goto (-17), 3) := by decide +kernel
theorem dX5_odds_76 : decode cX5_odds 76 = .ok (.iconst 0, 1) := by decide +kernel
theorem dX5_odds_77 : decode cX5_odds 77 = .ok (.istore 9, 2) := by decide +kernel
theorem dX5_odds_79 : decode cX5_odds 79 = .ok (.iload 9, 2) := by decide +kernel
theorem dX5_odds_81 : decode cX5_odds 81 = .ok (.iconst 1, 1) := by decide +kernel
theorem dX5_odds_82 : decode cX5_odds 82 = .ok (.iload_n 2, 1) := by decide +kernel
theorem dX5_odds_83 : decode cX5_odds 83 = .ok (.ishl, 1) := by decide +kernel
theorem dX5_odds_84 : decode cX5_odds 84 = .ok (.if_icmp .ge 102, 3) := by decide +kernel
theorem dX5_odds_87 : decode cX5_odds 87 = .ok (.aload_n 0, 1) := by decide +kernel
theorem dX5_odds_88 : decode cX5_odds 88 = .ok (.iconst 0, 1) := by decide +kernel
theorem dX5_odds_89 : decode cX5_odds 89 = .ok (.bipush 100, 2) := by decide +kernel
theorem dX5_odds_91 : decode cX5_odds 91 = .ok (.invokevirtual 172, 3) := by decide +kernel
theorem dX5_odds_94 : decode cX5_odds 94 = .ok (.aload_n 0, 1) := by decide +kernel
theorem dX5_odds_95 : decode cX5_odds 95 = .ok (.bipush 100, 2) := by decide +kernel
theorem dX5_odds_97 : decode cX5_odds 97 = .ok (.iload_n 1, 1) := by decide +kernel
theorem dX5_odds_98 : decode cX5_odds 98 = .ok (.bipush 7, 2) := by decide +kernel
theorem dX5_odds_100 : decode cX5_odds 100 = .ok (.invokevirtual 203, 3) := by decide +kernel
theorem dX5_odds_103 : decode cX5_odds 103 = .ok (.lconst 1, 1) := by decide +kernel
theorem dX5_odds_104 : decode cX5_odds 104 = .ok (.lstore 10, 2) := by decide +kernel
theorem dX5_odds_106 : decode cX5_odds 106 = .ok (.iconst 0, 1) := by decide +kernel
theorem dX5_odds_107 : decode cX5_odds 107 = .ok (.istore 12, 2) := by decide +kernel
theorem dX5_odds_109 : decode cX5_odds 109 = .ok (.iload 12, 2) := by decide +kernel
theorem dX5_odds_111 : decode cX5_odds 111 = .ok (.iload_n 2, 1) := by decide +kernel
theorem dX5_odds_112 : decode cX5_odds 112 = .ok (.if_icmp .ge 47, 3) := by decide +kernel
theorem dX5_odds_115 : decode cX5_odds 115 = .ok (.aload_n 0, 1) := by decide +kernel
theorem dX5_odds_116 : decode cX5_odds 116 = .ok (.bipush 100, 2) := by decide +kernel
theorem dX5_odds_118 : decode cX5_odds 118 = .ok (.iload 9, 2) := by decide +kernel
theorem dX5_odds_120 : decode cX5_odds 120 = .ok (.iload 12, 2) := by decide +kernel
theorem dX5_odds_122 : decode cX5_odds 122 = .ok (.invokestatic 118, 3) := by decide +kernel
theorem dX5_odds_125 : decode cX5_odds 125 = .ok (.invokevirtual 213, 3) := by decide +kernel
theorem dX5_odds_128 : decode cX5_odds 128 = .ok (.lload 10, 2) := by decide +kernel
theorem dX5_odds_130 : decode cX5_odds 130 = .ok (.iload 9, 2) := by decide +kernel
theorem dX5_odds_132 : decode cX5_odds 132 = .ok (.iload 12, 2) := by decide +kernel
theorem dX5_odds_134 : decode cX5_odds 134 = .ok (.invokestatic 118, 3) := by decide +kernel
theorem dX5_odds_137 : decode cX5_odds 137 = .ok (.ifCond .eq 8, 3) := by decide +kernel
theorem dX5_odds_140 : decode cX5_odds 140 = .ok (.iload_n 3, 1) := by decide +kernel
theorem dX5_odds_141 : decode cX5_odds 141 = .ok (.i2l, 1) := by decide +kernel
theorem dX5_odds_142 : decode cX5_odds 142 = .ok (.goto 8, 3) := by decide +kernel
theorem dX5_odds_145 : decode cX5_odds 145 = .ok (.bipush 10, 2) := by decide +kernel
theorem dX5_odds_147 : decode cX5_odds 147 = .ok (.iload_n 3, 1) := by decide +kernel
theorem dX5_odds_148 : decode cX5_odds 148 = .ok (.isub, 1) := by decide +kernel
theorem dX5_odds_149 : decode cX5_odds 149 = .ok (.i2l, 1) := by decide +kernel
theorem dX5_odds_150 : decode cX5_odds 150 = .ok (.lmul, 1) := by decide +kernel
theorem dX5_odds_151 : decode cX5_odds 151 = .ok (.lstore 10, 2) := by decide +kernel
theorem dX5_odds_153 : decode cX5_odds 153 = .ok (.iinc 12 1, 3) := by decide +kernel
theorem dX5_odds_156 : decode cX5_odds 156 = .ok (.goto (-47), 3) := by decide +kernel
theorem dX5_odds_159 : decode cX5_odds 159 = .ok (.lload 5, 2) := by decide +kernel
theorem dX5_odds_161 : decode cX5_odds 161 = .ok (.aload_n 0, 1) := by decide +kernel
theorem dX5_odds_162 : decode cX5_odds 162 = .ok (.bipush 100, 2) := by decide +kernel
theorem dX5_odds_164 : decode cX5_odds 164 = .ok (.iload_n 1, 1) := by decide +kernel
theorem dX5_odds_165 : decode cX5_odds 165 = .ok (.invokevirtual 158, 3) := by decide +kernel
theorem dX5_odds_168 : decode cX5_odds 168 = .ok (.ifCond .eq 8, 3) := by decide +kernel
theorem dX5_odds_171 : decode cX5_odds 171 = .ok (.lload 10, 2) := by decide +kernel
theorem dX5_odds_173 : decode cX5_odds 173 = .ok (.goto 4, 3) := by decide +kernel
theorem dX5_odds_176 : decode cX5_odds 176 = .ok (.lconst 0, 1) := by decide +kernel
theorem dX5_odds_177 : decode cX5_odds 177 = .ok (.ladd, 1) := by decide +kernel
theorem dX5_odds_178 : decode cX5_odds 178 = .ok (.lstore 5, 2) := by decide +kernel
theorem dX5_odds_180 : decode cX5_odds 180 = .ok (.iinc 9 1, 3) := by decide +kernel
theorem dX5_odds_183 : decode cX5_odds 183 = .ok (.goto (-104), 3) := by decide +kernel
theorem dX5_odds_186 : decode cX5_odds 186 = .ok (.lload 7, 2) := by decide +kernel
theorem dX5_odds_188 : decode cX5_odds 188 = .ok (.lload 5, 2) := by decide +kernel
theorem dX5_odds_190 : decode cX5_odds 190 = .ok (.invokestatic 230, 3) := by decide +kernel
theorem dX5_odds_193 : decode cX5_odds 193 = .ok (.lstore 9, 2) := by decide +kernel
theorem dX5_odds_195 : decode cX5_odds 195 = .ok (.iload 4, 2) := by decide +kernel
theorem dX5_odds_197 : decode cX5_odds 197 = .ok (.ifCond .ne 11, 3) := by decide +kernel
theorem dX5_odds_200 : decode cX5_odds 200 = .ok (.lload 5, 2) := by decide +kernel
theorem dX5_odds_202 : decode cX5_odds 202 = .ok (.lload 9, 2) := by decide +kernel
theorem dX5_odds_204 : decode cX5_odds 204 = .ok (.ldiv, 1) := by decide +kernel
theorem dX5_odds_205 : decode cX5_odds 205 = .ok (.goto 8, 3) := by decide +kernel
theorem dX5_odds_208 : decode cX5_odds 208 = .ok (.lload 7, 2) := by decide +kernel
theorem dX5_odds_210 : decode cX5_odds 210 = .ok (.lload 9, 2) := by decide +kernel
theorem dX5_odds_212 : decode cX5_odds 212 = .ok (.ldiv, 1) := by decide +kernel
theorem dX5_odds_213 : decode cX5_odds 213 = .ok (.lreturn, 1) := by decide +kernel
theorem dX5_wear_0 : decode cX5_wear 0 = .ok (.aload_n 0, 1) := by decide +kernel
theorem dX5_wear_1 : decode cX5_wear 1 = .ok (.iload_n 1, 1) := by decide +kernel
theorem dX5_wear_2 : decode cX5_wear 2 = .ok (.invokevirtual 149, 3) := by decide +kernel
theorem dX5_wear_5 : decode cX5_wear 5 = .ok (.ifCond .eq 15, 3) := by decide +kernel
theorem dX5_wear_8 : decode cX5_wear 8 = .ok (.iload_n 2, 1) := by decide +kernel
theorem dX5_wear_9 : decode cX5_wear 9 = .ok (.i2l, 1) := by decide +kernel
theorem dX5_wear_10 : decode cX5_wear 10 = .ok (.lconst 1, 1) := by decide +kernel
theorem dX5_wear_11 : decode cX5_wear 11 = .ok (.ldc2_w 222, 3) := by decide +kernel
theorem dX5_wear_14 : decode cX5_wear 14 = .ok (.invokestatic 59, 3) := by decide +kernel
theorem dX5_wear_17 : decode cX5_wear 17 = .ok (.ifCond .ne 5, 3) := by decide +kernel
theorem dX5_wear_20 : decode cX5_wear 20 = .ok (.iconst (-1), 1) := by decide +kernel
theorem dX5_wear_21 : decode cX5_wear 21 = .ok (.ireturn, 1) := by decide +kernel
theorem dX5_wear_22 : decode cX5_wear 22 = .ok (.iconst 0, 1) := by decide +kernel
theorem dX5_wear_23 : decode cX5_wear 23 = .ok (.istore_n 3, 1) := by decide +kernel
theorem dX5_wear_24 : decode cX5_wear 24 = .ok (.aload_n 0, 1) := by decide +kernel
theorem dX5_wear_25 : decode cX5_wear 25 = .ok (.iload_n 1, 1) := by decide +kernel
theorem dX5_wear_26 : decode cX5_wear 26 = .ok (.aload_n 0, 1) := by decide +kernel
theorem dX5_wear_27 : decode cX5_wear 27 = .ok (.getfield 7, 3) := by decide +kernel
theorem dX5_wear_30 : decode cX5_wear 30 = .ok (.iconst 4, 1) := by decide +kernel
theorem dX5_wear_31 : decode cX5_wear 31 = .ok (.iload_n 1, 1) := by decide +kernel
theorem dX5_wear_32 : decode cX5_wear 32 = .ok (.iadd, 1) := by decide +kernel
theorem dX5_wear_33 : decode cX5_wear 33 = .ok (.iaload, 1) := by decide +kernel
theorem dX5_wear_34 : decode cX5_wear 34 = .ok (.iload_n 3, 1) := by decide +kernel
theorem dX5_wear_35 : decode cX5_wear 35 = .ok (.iload_n 2, 1) := by decide +kernel
theorem dX5_wear_36 : decode cX5_wear 36 = .ok (.imul, 1) := by decide +kernel
theorem dX5_wear_37 : decode cX5_wear 37 = .ok (.iadd, 1) := by decide +kernel
theorem dX5_wear_38 : decode cX5_wear 38 = .ok (.invokevirtual 152, 3) := by decide +kernel
theorem dX5_wear_41 : decode cX5_wear 41 = .ok (.iconst 1, 1) := by decide +kernel
theorem dX5_wear_42 : decode cX5_wear 42 = .ok (.if_icmp .le 9, 3) := by decide +kernel
theorem dX5_wear_45 : decode cX5_wear 45 = .ok (.iinc 3 1, 3) := by decide +kernel
theorem dX5_wear_48 : decode cX5_wear 48 = .ok (.goto (-24), 3) := by decide +kernel
theorem dX5_wear_51 : decode cX5_wear 51 = .ok (.iload_n 3, 1) := by decide +kernel
theorem dX5_wear_52 : decode cX5_wear 52 = .ok (.ireturn, 1) := by decide +kernel
theorem dX5_stoneRate_0 : decode cX5_stoneRate 0 = .ok (.aload_n 0, 1) := by decide +kernel
theorem dX5_stoneRate_1 : decode cX5_stoneRate 1 = .ok (.dup, 1) := by decide +kernel
theorem dX5_stoneRate_2 : decode cX5_stoneRate 2 = .ok (.getfield 234, 3) := by decide +kernel
theorem dX5_stoneRate_5 : decode cX5_stoneRate 5 = .ok (.lconst 1, 1) := by decide +kernel
theorem dX5_stoneRate_6 : decode cX5_stoneRate 6 = .ok (.ladd, 1) := by decide +kernel
theorem dX5_stoneRate_7 : decode cX5_stoneRate 7 = .ok (.putfield 234, 3) := by decide +kernel
theorem dX5_stoneRate_10 : decode cX5_stoneRate 10 = .ok (.aload_n 0, 1) := by decide +kernel
theorem dX5_stoneRate_11 : decode cX5_stoneRate 11 = .ok (.iconst 0, 1) := by decide +kernel
theorem dX5_stoneRate_12 : decode cX5_stoneRate 12 = .ok (.iload_n 1, 1) := by decide +kernel
theorem dX5_stoneRate_13 : decode cX5_stoneRate 13 = .ok (.invokevirtual 155, 3) := by decide +kernel
theorem dX5_stoneRate_16 : decode cX5_stoneRate 16 = .ok (.ireturn, 1) := by decide +kernel
theorem dX5_roundRate_0 : decode cX5_roundRate 0 = .ok (.aload_n 0, 1) := by decide +kernel
theorem dX5_roundRate_1 : decode cX5_roundRate 1 = .ok (.dup, 1) := by decide +kernel
theorem dX5_roundRate_2 : decode cX5_roundRate 2 = .ok (.getfield 234, 3) := by decide +kernel
theorem dX5_roundRate_5 : decode cX5_roundRate 5 = .ok (.ldc2_w 226, 3) := by decide +kernel
theorem dX5_roundRate_8 : decode cX5_roundRate 8 = .ok (.ladd, 1) := by decide +kernel
theorem dX5_roundRate_9 : decode cX5_roundRate 9 = .ok (.putfield 234, 3) := by decide +kernel
theorem dX5_roundRate_12 : decode cX5_roundRate 12 = .ok (.aload_n 0, 1) := by decide +kernel
theorem dX5_roundRate_13 : decode cX5_roundRate 13 = .ok (.iload_n 1, 1) := by decide +kernel
theorem dX5_roundRate_14 : decode cX5_roundRate 14 = .ok (.invokevirtual 238, 3) := by decide +kernel
theorem dX5_roundRate_17 : decode cX5_roundRate 17 = .ok (.aload_n 0, 1) := by decide +kernel
theorem dX5_roundRate_18 : decode cX5_roundRate 18 = .ok (.getfield 7, 3) := by decide +kernel
theorem dX5_roundRate_21 : decode cX5_roundRate 21 = .ok (.iload_n 1, 1) := by decide +kernel
theorem dX5_roundRate_22 : decode cX5_roundRate 22 = .ok (.iaload, 1) := by decide +kernel
theorem dX5_roundRate_23 : decode cX5_roundRate 23 = .ok (.iadd, 1) := by decide +kernel
theorem dX5_roundRate_24 : decode cX5_roundRate 24 = .ok (.ireturn, 1) := by decide +kernel
theorem dX5_splitRate_0 : decode cX5_splitRate 0 = .ok (.aload_n 0, 1) := by decide +kernel
theorem dX5_splitRate_1 : decode cX5_splitRate 1 = .ok (.dup, 1) := by decide +kernel
theorem dX5_splitRate_2 : decode cX5_splitRate 2 = .ok (.getfield 234, 3) := by decide +kernel
theorem dX5_splitRate_5 : decode cX5_splitRate 5 = .ok (.ldc2_w 241, 3) := by decide +kernel
theorem dX5_splitRate_8 : decode cX5_splitRate 8 = .ok (.ladd, 1) := by decide +kernel
theorem dX5_splitRate_9 : decode cX5_splitRate 9 = .ok (.putfield 234, 3) := by decide +kernel
theorem dX5_splitRate_12 : decode cX5_splitRate 12 = .ok (.aload_n 0, 1) := by decide +kernel
theorem dX5_splitRate_13 : decode cX5_splitRate 13 = .ok (.iload_n 1, 1) := by decide +kernel
theorem dX5_splitRate_14 : decode cX5_splitRate 14 = .ok (.invokevirtual 238, 3) := by decide +kernel
theorem dX5_splitRate_17 : decode cX5_splitRate 17 = .ok (.aload_n 0, 1) := by decide +kernel
theorem dX5_splitRate_18 : decode cX5_splitRate 18 = .ok (.getfield 20, 3) := by decide +kernel
theorem dX5_splitRate_21 : decode cX5_splitRate 21 = .ok (.iload_n 1, 1) := by decide +kernel
theorem dX5_splitRate_22 : decode cX5_splitRate 22 = .ok (.iaload, 1) := by decide +kernel
theorem dX5_splitRate_23 : decode cX5_splitRate 23 = .ok (.isub, 1) := by decide +kernel
theorem dX5_splitRate_24 : decode cX5_splitRate 24 = .ok (.ireturn, 1) := by decide +kernel
theorem dX5_wetRate_0 : decode cX5_wetRate 0 = .ok (.aload_n 0, 1) := by decide +kernel
theorem dX5_wetRate_1 : decode cX5_wetRate 1 = .ok (.dup, 1) := by decide +kernel
theorem dX5_wetRate_2 : decode cX5_wetRate 2 = .ok (.getfield 234, 3) := by decide +kernel
theorem dX5_wetRate_5 : decode cX5_wetRate 5 = .ok (.ldc2_w 243, 3) := by decide +kernel
theorem dX5_wetRate_8 : decode cX5_wetRate 8 = .ok (.ladd, 1) := by decide +kernel
theorem dX5_wetRate_9 : decode cX5_wetRate 9 = .ok (.putfield 234, 3) := by decide +kernel
theorem dX5_wetRate_12 : decode cX5_wetRate 12 = .ok (.iconst 2, 1) := by decide +kernel
theorem dX5_wetRate_13 : decode cX5_wetRate 13 = .ok (.aload_n 0, 1) := by decide +kernel
theorem dX5_wetRate_14 : decode cX5_wetRate 14 = .ok (.iload_n 1, 1) := by decide +kernel
theorem dX5_wetRate_15 : decode cX5_wetRate 15 = .ok (.invokevirtual 245, 3) := by decide +kernel
theorem dX5_wetRate_18 : decode cX5_wetRate 18 = .ok (.imul, 1) := by decide +kernel
theorem dX5_wetRate_19 : decode cX5_wetRate 19 = .ok (.ireturn, 1) := by decide +kernel
theorem dX5_lentRate_0 : decode cX5_lentRate 0 = .ok (.aload_n 0, 1) := by decide +kernel
theorem dX5_lentRate_1 : decode cX5_lentRate 1 = .ok (.dup, 1) := by decide +kernel
theorem dX5_lentRate_2 : decode cX5_lentRate 2 = .ok (.getfield 234, 3) := by decide +kernel
theorem dX5_lentRate_5 : decode cX5_lentRate 5 = .ok (.ldc2_w 248, 3) := by decide +kernel
theorem dX5_lentRate_8 : decode cX5_lentRate 8 = .ok (.ladd, 1) := by decide +kernel
theorem dX5_lentRate_9 : decode cX5_lentRate 9 = .ok (.putfield 234, 3) := by decide +kernel
theorem dX5_lentRate_12 : decode cX5_lentRate 12 = .ok (.aload_n 0, 1) := by decide +kernel
theorem dX5_lentRate_13 : decode cX5_lentRate 13 = .ok (.iload_n 1, 1) := by decide +kernel
theorem dX5_lentRate_14 : decode cX5_lentRate 14 = .ok (.invokevirtual 250, 3) := by decide +kernel
theorem dX5_lentRate_17 : decode cX5_lentRate 17 = .ok (.iload_n 1, 1) := by decide +kernel
theorem dX5_lentRate_18 : decode cX5_lentRate 18 = .ok (.iadd, 1) := by decide +kernel
theorem dX5_lentRate_19 : decode cX5_lentRate 19 = .ok (.ireturn, 1) := by decide +kernel
theorem dX5_hollowRate_0 : decode cX5_hollowRate 0 = .ok (.aload_n 0, 1) := by decide +kernel
theorem dX5_hollowRate_1 : decode cX5_hollowRate 1 = .ok (.dup, 1) := by decide +kernel
theorem dX5_hollowRate_2 : decode cX5_hollowRate 2 = .ok (.getfield 234, 3) := by decide +kernel
theorem dX5_hollowRate_5 : decode cX5_hollowRate 5 = .ok (.ldc2_w 253, 3) := by decide +kernel
theorem dX5_hollowRate_8 : decode cX5_hollowRate 8 = .ok (.ladd, 1) := by decide +kernel
theorem dX5_hollowRate_9 : decode cX5_hollowRate 9 = .ok (.putfield 234, 3) := by decide +kernel
theorem dX5_hollowRate_12 : decode cX5_hollowRate 12 = .ok (.iconst 0, 1) := by decide +kernel
theorem dX5_hollowRate_13 : decode cX5_hollowRate 13 = .ok (.istore_n 2, 1) := by decide +kernel
theorem dX5_hollowRate_14 : decode cX5_hollowRate 14 = .ok (.iconst 0, 1) := by decide +kernel
theorem dX5_hollowRate_15 : decode cX5_hollowRate 15 = .ok (.istore_n 3, 1) := by decide +kernel
theorem dX5_hollowRate_16 : decode cX5_hollowRate 16 = .ok (.iload_n 3, 1) := by decide +kernel
theorem dX5_hollowRate_17 : decode cX5_hollowRate 17 = .ok (.aload_n 0, 1) := by decide +kernel
theorem dX5_hollowRate_18 : decode cX5_hollowRate 18 = .ok (.getfield 137, 3) := by decide +kernel
theorem dX5_hollowRate_21 : decode cX5_hollowRate 21 = .ok (.if_icmp .ge 33, 3) := by decide +kernel
theorem dX5_hollowRate_24 : decode cX5_hollowRate 24 = .ok (.iload_n 2, 1) := by decide +kernel
theorem dX5_hollowRate_25 : decode cX5_hollowRate 25 = .ok (.aload_n 0, 1) := by decide +kernel
theorem dX5_hollowRate_26 : decode cX5_hollowRate 26 = .ok (.getfield 7, 3) := by decide +kernel
theorem dX5_hollowRate_29 : decode cX5_hollowRate 29 = .ok (.bipush 11, 2) := by decide +kernel
theorem dX5_hollowRate_31 : decode cX5_hollowRate 31 = .ok (.iload_n 3, 1) := by decide +kernel
theorem dX5_hollowRate_32 : decode cX5_hollowRate 32 = .ok (.iadd, 1) := by decide +kernel
theorem dX5_hollowRate_33 : decode cX5_hollowRate 33 = .ok (.iaload, 1) := by decide +kernel
theorem dX5_hollowRate_34 : decode cX5_hollowRate 34 = .ok (.iload_n 1, 1) := by decide +kernel
theorem dX5_hollowRate_35 : decode cX5_hollowRate 35 = .ok (.if_icmp .ne 7, 3) := by decide +kernel
theorem dX5_hollowRate_38 : decode cX5_hollowRate 38 = .ok (.iconst 1, 1) := by decide +kernel
theorem dX5_hollowRate_39 : decode cX5_hollowRate 39 = .ok (.goto 4, 3) := by decide +kernel
theorem dX5_hollowRate_42 : decode cX5_hollowRate 42 = .ok (.iconst 0, 1) := by decide +kernel
theorem dX5_hollowRate_43 : decode cX5_hollowRate 43 = .ok (.invokestatic 161, 3) := by decide +kernel
theorem dX5_hollowRate_46 : decode cX5_hollowRate 46 = .ok (.iadd, 1) := by decide +kernel
theorem dX5_hollowRate_47 : decode cX5_hollowRate 47 = .ok (.istore_n 2, 1) := by decide +kernel
theorem dX5_hollowRate_48 : decode cX5_hollowRate 48 = .ok (.iinc 3 1, 3) := by decide +kernel
theorem dX5_hollowRate_51 : decode cX5_hollowRate 51 = .ok (.goto (-35), 3) := by decide +kernel
theorem dX5_hollowRate_54 : decode cX5_hollowRate 54 = .ok (.aload_n 0, 1) := by decide +kernel
theorem dX5_hollowRate_55 : decode cX5_hollowRate 55 = .ok (.iload_n 1, 1) := by decide +kernel
theorem dX5_hollowRate_56 : decode cX5_hollowRate 56 = .ok (.invokevirtual 238, 3) := by decide +kernel
theorem dX5_hollowRate_59 : decode cX5_hollowRate 59 = .ok (.iload_n 2, 1) := by decide +kernel
theorem dX5_hollowRate_60 : decode cX5_hollowRate 60 = .ok (.iadd, 1) := by decide +kernel
theorem dX5_hollowRate_61 : decode cX5_hollowRate 61 = .ok (.ireturn, 1) := by decide +kernel
theorem dX5_rate_0 : decode cX5_rate 0 = .ok (.iload_n 1, 1) := by decide +kernel
theorem dX5_rate_1 : decode cX5_rate 1 = .ok (.i2l, 1) := by decide +kernel
theorem dX5_rate_2 : decode cX5_rate 2 = .ok (.lconst 0, 1) := by decide +kernel
theorem dX5_rate_3 : decode cX5_rate 3 = .ok (.ldc2_w 255, 3) := by decide +kernel
theorem dX5_rate_6 : decode cX5_rate 6 = .ok (.invokestatic 59, 3) := by decide +kernel
theorem dX5_rate_9 : decode cX5_rate 9 = .ok (.ifCond .eq 11, 3) := by decide +kernel
theorem dX5_rate_12 : decode cX5_rate 12 = .ok (.aload_n 0, 1) := by decide +kernel
theorem dX5_rate_13 : decode cX5_rate 13 = .ok (.iload_n 2, 1) := by decide +kernel
theorem dX5_rate_14 : decode cX5_rate 14 = .ok (.invokevirtual 149, 3) := by decide +kernel
theorem dX5_rate_17 : decode cX5_rate 17 = .ok (.ifCond .ne 7, 3) := by decide +kernel
theorem dX5_rate_20 : decode cX5_rate 20 = .ok (.ldc_w 257, 3) := by decide +kernel
theorem dX5_rate_23 : decode cX5_rate 23 = .ok (.ireturn, 1) := by decide +kernel
theorem dX5_rate_24 : decode cX5_rate 24 = .ok (.iload_n 1, 1) := by decide +kernel
theorem dX5_rate_25 : decode cX5_rate 25 = .ok (.tableswitch 65 0 4 #[35, 41, 47, 53, 59], 35) := by decide +kernel
theorem dX5_rate_60 : decode cX5_rate 60 = .ok (.aload_n 0, 1) := by decide +kernel
theorem dX5_rate_61 : decode cX5_rate 61 = .ok (.iload_n 2, 1) := by decide +kernel
theorem dX5_rate_62 : decode cX5_rate 62 = .ok (.invokevirtual 238, 3) := by decide +kernel
theorem dX5_rate_65 : decode cX5_rate 65 = .ok (.ireturn, 1) := by decide +kernel
theorem dX5_rate_66 : decode cX5_rate 66 = .ok (.aload_n 0, 1) := by decide +kernel
theorem dX5_rate_67 : decode cX5_rate 67 = .ok (.iload_n 2, 1) := by decide +kernel
theorem dX5_rate_68 : decode cX5_rate 68 = .ok (.invokevirtual 245, 3) := by decide +kernel
theorem dX5_rate_71 : decode cX5_rate 71 = .ok (.ireturn, 1) := by decide +kernel
theorem dX5_rate_72 : decode cX5_rate 72 = .ok (.aload_n 0, 1) := by decide +kernel
theorem dX5_rate_73 : decode cX5_rate 73 = .ok (.iload_n 2, 1) := by decide +kernel
theorem dX5_rate_74 : decode cX5_rate 74 = .ok (.invokevirtual 250, 3) := by decide +kernel
theorem dX5_rate_77 : decode cX5_rate 77 = .ok (.ireturn, 1) := by decide +kernel
theorem dX5_rate_78 : decode cX5_rate 78 = .ok (.aload_n 0, 1) := by decide +kernel
theorem dX5_rate_79 : decode cX5_rate 79 = .ok (.iload_n 2, 1) := by decide +kernel
theorem dX5_rate_80 : decode cX5_rate 80 = .ok (.invokevirtual 258, 3) := by decide +kernel
theorem dX5_rate_83 : decode cX5_rate 83 = .ok (.ireturn, 1) := by decide +kernel
theorem dX5_rate_84 : decode cX5_rate 84 = .ok (.aload_n 0, 1) := by decide +kernel
theorem dX5_rate_85 : decode cX5_rate 85 = .ok (.iload_n 2, 1) := by decide +kernel
theorem dX5_rate_86 : decode cX5_rate 86 = .ok (.invokevirtual 261, 3) := by decide +kernel
theorem dX5_rate_89 : decode cX5_rate 89 = .ok (.ireturn, 1) := by decide +kernel
theorem dX5_rate_90 : decode cX5_rate 90 = .ok (.aload_n 0, 1) := by decide +kernel
theorem dX5_rate_91 : decode cX5_rate 91 = .ok (.iload_n 2, 1) := by decide +kernel
theorem dX5_rate_92 : decode cX5_rate 92 = .ok (.invokevirtual 264, 3) := by decide +kernel
theorem dX5_rate_95 : decode cX5_rate 95 = .ok (.ireturn, 1) := by decide +kernel
theorem dX5_keep_0 : decode cX5_keep 0 = .ok (.iload_n 1, 1) := by decide +kernel
theorem dX5_keep_1 : decode cX5_keep 1 = .ok (.i2l, 1) := by decide +kernel
theorem dX5_keep_2 : decode cX5_keep 2 = .ok (.lconst 0, 1) := by decide +kernel
theorem dX5_keep_3 : decode cX5_keep 3 = .ok (.lconst 1, 1) := by decide +kernel
theorem dX5_keep_4 : decode cX5_keep 4 = .ok (.invokestatic 59, 3) := by decide +kernel
theorem dX5_keep_7 : decode cX5_keep 7 = .ok (.ifCond .ne 5, 3) := by decide +kernel
theorem dX5_keep_10 : decode cX5_keep 10 = .ok (.iconst (-1), 1) := by decide +kernel
theorem dX5_keep_11 : decode cX5_keep 11 = .ok (.ireturn, 1) := by decide +kernel
theorem dX5_keep_12 : decode cX5_keep 12 = .ok (.aload_n 0, 1) := by decide +kernel
theorem dX5_keep_13 : decode cX5_keep 13 = .ok (.iconst 0, 1) := by decide +kernel
theorem dX5_keep_14 : decode cX5_keep 14 = .ok (.sipush 200, 3) := by decide +kernel
theorem dX5_keep_17 : decode cX5_keep 17 = .ok (.bipush 100, 2) := by decide +kernel
theorem dX5_keep_19 : decode cX5_keep 19 = .ok (.iload_n 1, 1) := by decide +kernel
theorem dX5_keep_20 : decode cX5_keep 20 = .ok (.imul, 1) := by decide +kernel
theorem dX5_keep_21 : decode cX5_keep 21 = .ok (.iadd, 1) := by decide +kernel
theorem dX5_keep_22 : decode cX5_keep 22 = .ok (.invokevirtual 172, 3) := by decide +kernel
theorem dX5_keep_25 : decode cX5_keep 25 = .ok (.aload_n 0, 1) := by decide +kernel
theorem dX5_keep_26 : decode cX5_keep 26 = .ok (.getfield 13, 3) := by decide +kernel
theorem dX5_keep_29 : decode cX5_keep 29 = .ok (.iload_n 1, 1) := by decide +kernel
theorem dX5_keep_30 : decode cX5_keep 30 = .ok (.iconst 1, 1) := by decide +kernel
theorem dX5_keep_31 : decode cX5_keep 31 = .ok (.bastore, 1) := by decide +kernel
theorem dX5_keep_32 : decode cX5_keep 32 = .ok (.aload_n 0, 1) := by decide +kernel
theorem dX5_keep_33 : decode cX5_keep 33 = .ok (.getfield 7, 3) := by decide +kernel
theorem dX5_keep_36 : decode cX5_keep 36 = .ok (.bipush 14, 2) := by decide +kernel
theorem dX5_keep_38 : decode cX5_keep 38 = .ok (.iaload, 1) := by decide +kernel
theorem dX5_keep_39 : decode cX5_keep 39 = .ok (.ireturn, 1) := by decide +kernel
theorem dX5_back_0 : decode cX5_back 0 = .ok (.iload_n 1, 1) := by decide +kernel
theorem dX5_back_1 : decode cX5_back 1 = .ok (.i2l, 1) := by decide +kernel
theorem dX5_back_2 : decode cX5_back 2 = .ok (.lconst 0, 1) := by decide +kernel
theorem dX5_back_3 : decode cX5_back 3 = .ok (.lconst 1, 1) := by decide +kernel
theorem dX5_back_4 : decode cX5_back 4 = .ok (.invokestatic 59, 3) := by decide +kernel
theorem dX5_back_7 : decode cX5_back 7 = .ok (.ifCond .ne 5, 3) := by decide +kernel
theorem dX5_back_10 : decode cX5_back 10 = .ok (.iconst (-1), 1) := by decide +kernel
theorem dX5_back_11 : decode cX5_back 11 = .ok (.ireturn, 1) := by decide +kernel
theorem dX5_back_12 : decode cX5_back 12 = .ok (.aload_n 0, 1) := by decide +kernel
theorem dX5_back_13 : decode cX5_back 13 = .ok (.getfield 13, 3) := by decide +kernel
theorem dX5_back_16 : decode cX5_back 16 = .ok (.iload_n 1, 1) := by decide +kernel
theorem dX5_back_17 : decode cX5_back 17 = .ok (.baload, 1) := by decide +kernel
theorem dX5_back_18 : decode cX5_back 18 = .ok (.ifCond .ne 6, 3) := by decide +kernel
theorem dX5_back_21 : decode cX5_back 21 = .ok (.bipush (-2), 2) := by decide +kernel
theorem dX5_back_23 : decode cX5_back 23 = .ok (.ireturn, 1) := by decide +kernel
theorem dX5_back_24 : decode cX5_back 24 = .ok (.aload_n 0, 1) := by decide +kernel
theorem dX5_back_25 : decode cX5_back 25 = .ok (.sipush 200, 3) := by decide +kernel
theorem dX5_back_28 : decode cX5_back 28 = .ok (.bipush 100, 2) := by decide +kernel
theorem dX5_back_30 : decode cX5_back 30 = .ok (.iload_n 1, 1) := by decide +kernel
theorem dX5_back_31 : decode cX5_back 31 = .ok (.imul, 1) := by decide +kernel
theorem dX5_back_32 : decode cX5_back 32 = .ok (.iadd, 1) := by decide +kernel
theorem dX5_back_33 : decode cX5_back 33 = .ok (.iconst 0, 1) := by decide +kernel
theorem dX5_back_34 : decode cX5_back 34 = .ok (.invokevirtual 172, 3) := by decide +kernel
theorem dX5_back_37 : decode cX5_back 37 = .ok (.aload_n 0, 1) := by decide +kernel
theorem dX5_back_38 : decode cX5_back 38 = .ok (.iconst 0, 1) := by decide +kernel
theorem dX5_back_39 : decode cX5_back 39 = .ok (.putfield 146, 3) := by decide +kernel
theorem dX5_back_42 : decode cX5_back 42 = .ok (.aload_n 0, 1) := by decide +kernel
theorem dX5_back_43 : decode cX5_back 43 = .ok (.getfield 7, 3) := by decide +kernel
theorem dX5_back_46 : decode cX5_back 46 = .ok (.bipush 14, 2) := by decide +kernel
theorem dX5_back_48 : decode cX5_back 48 = .ok (.iaload, 1) := by decide +kernel
theorem dX5_back_49 : decode cX5_back 49 = .ok (.ireturn, 1) := by decide +kernel
theorem dX5_count_0 : decode cX5_count 0 = .ok (.iload_n 1, 1) := by decide +kernel
theorem dX5_count_1 : decode cX5_count 1 = .ok (.tableswitch 78 0 6 #[43, 48, 53, 58, 63, 68, 73], 43) := by decide +kernel
theorem dX5_count_44 : decode cX5_count 44 = .ok (.aload_n 0, 1) := by decide +kernel
theorem dX5_count_45 : decode cX5_count 45 = .ok (.getfield 131, 3) := by decide +kernel
theorem dX5_count_48 : decode cX5_count 48 = .ok (.ireturn, 1) := by decide +kernel
theorem dX5_count_49 : decode cX5_count 49 = .ok (.aload_n 0, 1) := by decide +kernel
theorem dX5_count_50 : decode cX5_count 50 = .ok (.getfield 134, 3) := by decide +kernel
theorem dX5_count_53 : decode cX5_count 53 = .ok (.ireturn, 1) := by decide +kernel
theorem dX5_count_54 : decode cX5_count 54 = .ok (.aload_n 0, 1) := by decide +kernel
theorem dX5_count_55 : decode cX5_count 55 = .ok (.getfield 137, 3) := by decide +kernel
theorem dX5_count_58 : decode cX5_count 58 = .ok (.ireturn, 1) := by decide +kernel
theorem dX5_count_59 : decode cX5_count 59 = .ok (.aload_n 0, 1) := by decide +kernel
theorem dX5_count_60 : decode cX5_count 60 = .ok (.getfield 50, 3) := by decide +kernel
theorem dX5_count_63 : decode cX5_count 63 = .ok (.ireturn, 1) := by decide +kernel
theorem dX5_count_64 : decode cX5_count 64 = .ok (.aload_n 0, 1) := by decide +kernel
theorem dX5_count_65 : decode cX5_count 65 = .ok (.getfield 140, 3) := by decide +kernel
theorem dX5_count_68 : decode cX5_count 68 = .ok (.ireturn, 1) := by decide +kernel
theorem dX5_count_69 : decode cX5_count 69 = .ok (.aload_n 0, 1) := by decide +kernel
theorem dX5_count_70 : decode cX5_count 70 = .ok (.getfield 143, 3) := by decide +kernel
theorem dX5_count_73 : decode cX5_count 73 = .ok (.ireturn, 1) := by decide +kernel
theorem dX5_count_74 : decode cX5_count 74 = .ok (.aload_n 0, 1) := by decide +kernel
theorem dX5_count_75 : decode cX5_count 75 = .ok (.getfield 63, 3) := by decide +kernel
theorem dX5_count_78 : decode cX5_count 78 = .ok (.ireturn, 1) := by decide +kernel
theorem dX5_count_79 : decode cX5_count 79 = .ok (.iconst (-1), 1) := by decide +kernel
theorem dX5_count_80 : decode cX5_count 80 = .ok (.ireturn, 1) := by decide +kernel
theorem dX5_trace_0 : decode cX5_trace 0 = .ok (.aload_n 0, 1) := by decide +kernel
theorem dX5_trace_1 : decode cX5_trace 1 = .ok (.getfield 234, 3) := by decide +kernel
theorem dX5_trace_4 : decode cX5_trace 4 = .ok (.lreturn, 1) := by decide +kernel
end
section
theorem dL_law_0 : decode cL_law 0 = .ok (.new 7, 3) := by decide +kernel
theorem dL_law_3 : decode cL_law 3 = .ok (.dup, 1) := by decide +kernel
theorem dL_law_4 : decode cL_law 4 = .ok (.invokespecial 9, 3) := by decide +kernel
theorem dL_law_7 : decode cL_law 7 = .ok (.astore_n 1, 1) := by decide +kernel
theorem dL_law_8 : decode cL_law 8 = .ok (.new 10, 3) := by decide +kernel
theorem dL_law_11 : decode cL_law 11 = .ok (.dup, 1) := by decide +kernel
theorem dL_law_12 : decode cL_law 12 = .ok (.invokespecial 12, 3) := by decide +kernel
theorem dL_law_15 : decode cL_law 15 = .ok (.astore_n 2, 1) := by decide +kernel
theorem dL_law_16 : decode cL_law 16 = .ok (.iconst 0, 1) := by decide +kernel
theorem dL_law_17 : decode cL_law 17 = .ok (.istore_n 3, 1) := by decide +kernel
theorem dL_law_18 : decode cL_law 18 = .ok (.iload_n 3, 1) := by decide +kernel
theorem dL_law_19 : decode cL_law 19 = .ok (.aload_n 0, 1) := by decide +kernel
theorem dL_law_20 : decode cL_law 20 = .ok (.arraylength, 1) := by decide +kernel
theorem dL_law_21 : decode cL_law 21 = .ok (.iconst 5, 1) := by decide +kernel
theorem dL_law_22 : decode cL_law 22 = .ok (.isub, 1) := by decide +kernel
theorem dL_law_23 : decode cL_law 23 = .ok (.if_icmp .gt 785, 3) := by decide +kernel
theorem dL_law_26 : decode cL_law 26 = .ok (.aload_n 0, 1) := by decide +kernel
theorem dL_law_27 : decode cL_law 27 = .ok (.iload_n 3, 1) := by decide +kernel
theorem dL_law_28 : decode cL_law 28 = .ok (.iaload, 1) := by decide +kernel
theorem dL_law_29 : decode cL_law 29 = .ok (.bipush 31, 2) := by decide +kernel
theorem dL_law_31 : decode cL_law 31 = .ok (.iand, 1) := by decide +kernel
theorem dL_law_32 : decode cL_law 32 = .ok (.tableswitch 770 0 25 #[120, 143, 156, 169, 202, 235, 268, 291, 324, 337, 350, 383, 406, 429, 452, 475, 508, 541, 554, 567, 621, 654, 687, 710, 733, 756], 120) := by decide +kernel
theorem dL_law_152 : decode cL_law 152 = .ok (.aload_n 1, 1) := by decide +kernel
theorem dL_law_153 : decode cL_law 153 = .ok (.aload_n 0, 1) := by decide +kernel
theorem dL_law_154 : decode cL_law 154 = .ok (.iload_n 3, 1) := by decide +kernel
theorem dL_law_155 : decode cL_law 155 = .ok (.iconst 1, 1) := by decide +kernel
theorem dL_law_156 : decode cL_law 156 = .ok (.iadd, 1) := by decide +kernel
theorem dL_law_157 : decode cL_law 157 = .ok (.iaload, 1) := by decide +kernel
theorem dL_law_158 : decode cL_law 158 = .ok (.invokevirtual 13, 3) := by decide +kernel
theorem dL_law_161 : decode cL_law 161 = .ok (.aload_n 2, 1) := by decide +kernel
theorem dL_law_162 : decode cL_law 162 = .ok (.aload_n 0, 1) := by decide +kernel
theorem dL_law_163 : decode cL_law 163 = .ok (.iload_n 3, 1) := by decide +kernel
theorem dL_law_164 : decode cL_law 164 = .ok (.iconst 1, 1) := by decide +kernel
theorem dL_law_165 : decode cL_law 165 = .ok (.iadd, 1) := by decide +kernel
theorem dL_law_166 : decode cL_law 166 = .ok (.iaload, 1) := by decide +kernel
theorem dL_law_167 : decode cL_law 167 = .ok (.invokevirtual 17, 3) := by decide +kernel
theorem dL_law_170 : decode cL_law 170 = .ok (.if_icmp .eq 632, 3) := by decide +kernel
theorem dL_law_173 : decode cL_law 173 = .ok (.iconst 0, 1) := by decide +kernel
theorem dL_law_174 : decode cL_law 174 = .ok (.ireturn, 1) := by decide +kernel
theorem dL_law_175 : decode cL_law 175 = .ok (.aload_n 1, 1) := by decide +kernel
theorem dL_law_176 : decode cL_law 176 = .ok (.invokevirtual 18, 3) := by decide +kernel
theorem dL_law_179 : decode cL_law 179 = .ok (.aload_n 2, 1) := by decide +kernel
theorem dL_law_180 : decode cL_law 180 = .ok (.invokevirtual 22, 3) := by decide +kernel
theorem dL_law_183 : decode cL_law 183 = .ok (.if_icmp .eq 619, 3) := by decide +kernel
theorem dL_law_186 : decode cL_law 186 = .ok (.iconst 0, 1) := by decide +kernel
theorem dL_law_187 : decode cL_law 187 = .ok (.ireturn, 1) := by decide +kernel
theorem dL_law_188 : decode cL_law 188 = .ok (.aload_n 1, 1) := by decide +kernel
theorem dL_law_189 : decode cL_law 189 = .ok (.invokevirtual 23, 3) := by decide +kernel
theorem dL_law_192 : decode cL_law 192 = .ok (.aload_n 2, 1) := by decide +kernel
theorem dL_law_193 : decode cL_law 193 = .ok (.invokevirtual 26, 3) := by decide +kernel
theorem dL_law_196 : decode cL_law 196 = .ok (.if_icmp .eq 606, 3) := by decide +kernel
theorem dL_law_199 : decode cL_law 199 = .ok (.iconst 0, 1) := by decide +kernel
theorem dL_law_200 : decode cL_law 200 = .ok (.ireturn, 1) := by decide +kernel
theorem dL_law_201 : decode cL_law 201 = .ok (.aload_n 1, 1) := by decide +kernel
theorem dL_law_202 : decode cL_law 202 = .ok (.aload_n 0, 1) := by decide +kernel
theorem dL_law_203 : decode cL_law 203 = .ok (.iload_n 3, 1) := by decide +kernel
theorem dL_law_204 : decode cL_law 204 = .ok (.iconst 1, 1) := by decide +kernel
theorem dL_law_205 : decode cL_law 205 = .ok (.iadd, 1) := by decide +kernel
theorem dL_law_206 : decode cL_law 206 = .ok (.iaload, 1) := by decide +kernel
theorem dL_law_207 : decode cL_law 207 = .ok (.aload_n 0, 1) := by decide +kernel
theorem dL_law_208 : decode cL_law 208 = .ok (.iload_n 3, 1) := by decide +kernel
theorem dL_law_209 : decode cL_law 209 = .ok (.iconst 2, 1) := by decide +kernel
theorem dL_law_210 : decode cL_law 210 = .ok (.iadd, 1) := by decide +kernel
theorem dL_law_211 : decode cL_law 211 = .ok (.iaload, 1) := by decide +kernel
theorem dL_law_212 : decode cL_law 212 = .ok (.invokevirtual 27, 3) := by decide +kernel
theorem dL_law_215 : decode cL_law 215 = .ok (.aload_n 2, 1) := by decide +kernel
theorem dL_law_216 : decode cL_law 216 = .ok (.aload_n 0, 1) := by decide +kernel
theorem dL_law_217 : decode cL_law 217 = .ok (.iload_n 3, 1) := by decide +kernel
theorem dL_law_218 : decode cL_law 218 = .ok (.iconst 1, 1) := by decide +kernel
theorem dL_law_219 : decode cL_law 219 = .ok (.iadd, 1) := by decide +kernel
theorem dL_law_220 : decode cL_law 220 = .ok (.iaload, 1) := by decide +kernel
theorem dL_law_221 : decode cL_law 221 = .ok (.aload_n 0, 1) := by decide +kernel
theorem dL_law_222 : decode cL_law 222 = .ok (.iload_n 3, 1) := by decide +kernel
theorem dL_law_223 : decode cL_law 223 = .ok (.iconst 2, 1) := by decide +kernel
theorem dL_law_224 : decode cL_law 224 = .ok (.iadd, 1) := by decide +kernel
theorem dL_law_225 : decode cL_law 225 = .ok (.iaload, 1) := by decide +kernel
theorem dL_law_226 : decode cL_law 226 = .ok (.invokevirtual 31, 3) := by decide +kernel
theorem dL_law_229 : decode cL_law 229 = .ok (.if_icmp .eq 573, 3) := by decide +kernel
theorem dL_law_232 : decode cL_law 232 = .ok (.iconst 0, 1) := by decide +kernel
theorem dL_law_233 : decode cL_law 233 = .ok (.ireturn, 1) := by decide +kernel
theorem dL_law_234 : decode cL_law 234 = .ok (.aload_n 1, 1) := by decide +kernel
theorem dL_law_235 : decode cL_law 235 = .ok (.aload_n 0, 1) := by decide +kernel
theorem dL_law_236 : decode cL_law 236 = .ok (.iload_n 3, 1) := by decide +kernel
theorem dL_law_237 : decode cL_law 237 = .ok (.iconst 1, 1) := by decide +kernel
theorem dL_law_238 : decode cL_law 238 = .ok (.iadd, 1) := by decide +kernel
theorem dL_law_239 : decode cL_law 239 = .ok (.iaload, 1) := by decide +kernel
theorem dL_law_240 : decode cL_law 240 = .ok (.aload_n 0, 1) := by decide +kernel
theorem dL_law_241 : decode cL_law 241 = .ok (.iload_n 3, 1) := by decide +kernel
theorem dL_law_242 : decode cL_law 242 = .ok (.iconst 2, 1) := by decide +kernel
theorem dL_law_243 : decode cL_law 243 = .ok (.iadd, 1) := by decide +kernel
theorem dL_law_244 : decode cL_law 244 = .ok (.iaload, 1) := by decide +kernel
theorem dL_law_245 : decode cL_law 245 = .ok (.invokevirtual 32, 3) := by decide +kernel
theorem dL_law_248 : decode cL_law 248 = .ok (.aload_n 2, 1) := by decide +kernel
theorem dL_law_249 : decode cL_law 249 = .ok (.aload_n 0, 1) := by decide +kernel
theorem dL_law_250 : decode cL_law 250 = .ok (.iload_n 3, 1) := by decide +kernel
theorem dL_law_251 : decode cL_law 251 = .ok (.iconst 1, 1) := by decide +kernel
theorem dL_law_252 : decode cL_law 252 = .ok (.iadd, 1) := by decide +kernel
theorem dL_law_253 : decode cL_law 253 = .ok (.iaload, 1) := by decide +kernel
theorem dL_law_254 : decode cL_law 254 = .ok (.aload_n 0, 1) := by decide +kernel
theorem dL_law_255 : decode cL_law 255 = .ok (.iload_n 3, 1) := by decide +kernel
theorem dL_law_256 : decode cL_law 256 = .ok (.iconst 2, 1) := by decide +kernel
theorem dL_law_257 : decode cL_law 257 = .ok (.iadd, 1) := by decide +kernel
theorem dL_law_258 : decode cL_law 258 = .ok (.iaload, 1) := by decide +kernel
theorem dL_law_259 : decode cL_law 259 = .ok (.invokevirtual 35, 3) := by decide +kernel
theorem dL_law_262 : decode cL_law 262 = .ok (.if_icmp .eq 540, 3) := by decide +kernel
theorem dL_law_265 : decode cL_law 265 = .ok (.iconst 0, 1) := by decide +kernel
theorem dL_law_266 : decode cL_law 266 = .ok (.ireturn, 1) := by decide +kernel
theorem dL_law_267 : decode cL_law 267 = .ok (.aload_n 1, 1) := by decide +kernel
theorem dL_law_268 : decode cL_law 268 = .ok (.aload_n 0, 1) := by decide +kernel
theorem dL_law_269 : decode cL_law 269 = .ok (.iload_n 3, 1) := by decide +kernel
theorem dL_law_270 : decode cL_law 270 = .ok (.iconst 1, 1) := by decide +kernel
theorem dL_law_271 : decode cL_law 271 = .ok (.iadd, 1) := by decide +kernel
theorem dL_law_272 : decode cL_law 272 = .ok (.iaload, 1) := by decide +kernel
theorem dL_law_273 : decode cL_law 273 = .ok (.aload_n 0, 1) := by decide +kernel
theorem dL_law_274 : decode cL_law 274 = .ok (.iload_n 3, 1) := by decide +kernel
theorem dL_law_275 : decode cL_law 275 = .ok (.iconst 2, 1) := by decide +kernel
theorem dL_law_276 : decode cL_law 276 = .ok (.iadd, 1) := by decide +kernel
theorem dL_law_277 : decode cL_law 277 = .ok (.iaload, 1) := by decide +kernel
theorem dL_law_278 : decode cL_law 278 = .ok (.invokevirtual 36, 3) := by decide +kernel
theorem dL_law_281 : decode cL_law 281 = .ok (.aload_n 2, 1) := by decide +kernel
theorem dL_law_282 : decode cL_law 282 = .ok (.aload_n 0, 1) := by decide +kernel
theorem dL_law_283 : decode cL_law 283 = .ok (.iload_n 3, 1) := by decide +kernel
theorem dL_law_284 : decode cL_law 284 = .ok (.iconst 1, 1) := by decide +kernel
theorem dL_law_285 : decode cL_law 285 = .ok (.iadd, 1) := by decide +kernel
theorem dL_law_286 : decode cL_law 286 = .ok (.iaload, 1) := by decide +kernel
theorem dL_law_287 : decode cL_law 287 = .ok (.aload_n 0, 1) := by decide +kernel
theorem dL_law_288 : decode cL_law 288 = .ok (.iload_n 3, 1) := by decide +kernel
theorem dL_law_289 : decode cL_law 289 = .ok (.iconst 2, 1) := by decide +kernel
theorem dL_law_290 : decode cL_law 290 = .ok (.iadd, 1) := by decide +kernel
theorem dL_law_291 : decode cL_law 291 = .ok (.iaload, 1) := by decide +kernel
theorem dL_law_292 : decode cL_law 292 = .ok (.invokevirtual 39, 3) := by decide +kernel
theorem dL_law_295 : decode cL_law 295 = .ok (.if_icmp .eq 507, 3) := by decide +kernel
theorem dL_law_298 : decode cL_law 298 = .ok (.iconst 0, 1) := by decide +kernel
theorem dL_law_299 : decode cL_law 299 = .ok (.ireturn, 1) := by decide +kernel
theorem dL_law_300 : decode cL_law 300 = .ok (.aload_n 1, 1) := by decide +kernel
theorem dL_law_301 : decode cL_law 301 = .ok (.aload_n 0, 1) := by decide +kernel
theorem dL_law_302 : decode cL_law 302 = .ok (.iload_n 3, 1) := by decide +kernel
theorem dL_law_303 : decode cL_law 303 = .ok (.iconst 1, 1) := by decide +kernel
theorem dL_law_304 : decode cL_law 304 = .ok (.iadd, 1) := by decide +kernel
theorem dL_law_305 : decode cL_law 305 = .ok (.iaload, 1) := by decide +kernel
theorem dL_law_306 : decode cL_law 306 = .ok (.invokevirtual 40, 3) := by decide +kernel
theorem dL_law_309 : decode cL_law 309 = .ok (.aload_n 2, 1) := by decide +kernel
theorem dL_law_310 : decode cL_law 310 = .ok (.aload_n 0, 1) := by decide +kernel
theorem dL_law_311 : decode cL_law 311 = .ok (.iload_n 3, 1) := by decide +kernel
theorem dL_law_312 : decode cL_law 312 = .ok (.iconst 1, 1) := by decide +kernel
theorem dL_law_313 : decode cL_law 313 = .ok (.iadd, 1) := by decide +kernel
theorem dL_law_314 : decode cL_law 314 = .ok (.iaload, 1) := by decide +kernel
theorem dL_law_315 : decode cL_law 315 = .ok (.invokevirtual 43, 3) := by decide +kernel
theorem dL_law_318 : decode cL_law 318 = .ok (.if_icmp .eq 484, 3) := by decide +kernel
theorem dL_law_321 : decode cL_law 321 = .ok (.iconst 0, 1) := by decide +kernel
theorem dL_law_322 : decode cL_law 322 = .ok (.ireturn, 1) := by decide +kernel
theorem dL_law_323 : decode cL_law 323 = .ok (.aload_n 1, 1) := by decide +kernel
theorem dL_law_324 : decode cL_law 324 = .ok (.aload_n 0, 1) := by decide +kernel
theorem dL_law_325 : decode cL_law 325 = .ok (.iload_n 3, 1) := by decide +kernel
theorem dL_law_326 : decode cL_law 326 = .ok (.iconst 1, 1) := by decide +kernel
theorem dL_law_327 : decode cL_law 327 = .ok (.iadd, 1) := by decide +kernel
theorem dL_law_328 : decode cL_law 328 = .ok (.iaload, 1) := by decide +kernel
theorem dL_law_329 : decode cL_law 329 = .ok (.aload_n 0, 1) := by decide +kernel
theorem dL_law_330 : decode cL_law 330 = .ok (.iload_n 3, 1) := by decide +kernel
theorem dL_law_331 : decode cL_law 331 = .ok (.iconst 2, 1) := by decide +kernel
theorem dL_law_332 : decode cL_law 332 = .ok (.iadd, 1) := by decide +kernel
theorem dL_law_333 : decode cL_law 333 = .ok (.iaload, 1) := by decide +kernel
theorem dL_law_334 : decode cL_law 334 = .ok (.invokevirtual 44, 3) := by decide +kernel
theorem dL_law_337 : decode cL_law 337 = .ok (.aload_n 2, 1) := by decide +kernel
theorem dL_law_338 : decode cL_law 338 = .ok (.aload_n 0, 1) := by decide +kernel
theorem dL_law_339 : decode cL_law 339 = .ok (.iload_n 3, 1) := by decide +kernel
theorem dL_law_340 : decode cL_law 340 = .ok (.iconst 1, 1) := by decide +kernel
theorem dL_law_341 : decode cL_law 341 = .ok (.iadd, 1) := by decide +kernel
theorem dL_law_342 : decode cL_law 342 = .ok (.iaload, 1) := by decide +kernel
theorem dL_law_343 : decode cL_law 343 = .ok (.aload_n 0, 1) := by decide +kernel
theorem dL_law_344 : decode cL_law 344 = .ok (.iload_n 3, 1) := by decide +kernel
theorem dL_law_345 : decode cL_law 345 = .ok (.iconst 2, 1) := by decide +kernel
theorem dL_law_346 : decode cL_law 346 = .ok (.iadd, 1) := by decide +kernel
theorem dL_law_347 : decode cL_law 347 = .ok (.iaload, 1) := by decide +kernel
theorem dL_law_348 : decode cL_law 348 = .ok (.invokevirtual 47, 3) := by decide +kernel
theorem dL_law_351 : decode cL_law 351 = .ok (.if_icmp .eq 451, 3) := by decide +kernel
theorem dL_law_354 : decode cL_law 354 = .ok (.iconst 0, 1) := by decide +kernel
theorem dL_law_355 : decode cL_law 355 = .ok (.ireturn, 1) := by decide +kernel
theorem dL_law_356 : decode cL_law 356 = .ok (.aload_n 1, 1) := by decide +kernel
theorem dL_law_357 : decode cL_law 357 = .ok (.invokevirtual 48, 3) := by decide +kernel
theorem dL_law_360 : decode cL_law 360 = .ok (.aload_n 2, 1) := by decide +kernel
theorem dL_law_361 : decode cL_law 361 = .ok (.invokevirtual 51, 3) := by decide +kernel
theorem dL_law_364 : decode cL_law 364 = .ok (.if_icmp .eq 438, 3) := by decide +kernel
theorem dL_law_367 : decode cL_law 367 = .ok (.iconst 0, 1) := by decide +kernel
theorem dL_law_368 : decode cL_law 368 = .ok (.ireturn, 1) := by decide +kernel
theorem dL_law_369 : decode cL_law 369 = .ok (.aload_n 1, 1) := by decide +kernel
theorem dL_law_370 : decode cL_law 370 = .ok (.invokevirtual 52, 3) := by decide +kernel
theorem dL_law_373 : decode cL_law 373 = .ok (.aload_n 2, 1) := by decide +kernel
theorem dL_law_374 : decode cL_law 374 = .ok (.invokevirtual 55, 3) := by decide +kernel
theorem dL_law_377 : decode cL_law 377 = .ok (.if_icmp .eq 425, 3) := by decide +kernel
theorem dL_law_380 : decode cL_law 380 = .ok (.iconst 0, 1) := by decide +kernel
theorem dL_law_381 : decode cL_law 381 = .ok (.ireturn, 1) := by decide +kernel
theorem dL_law_382 : decode cL_law 382 = .ok (.aload_n 1, 1) := by decide +kernel
theorem dL_law_383 : decode cL_law 383 = .ok (.aload_n 0, 1) := by decide +kernel
theorem dL_law_384 : decode cL_law 384 = .ok (.iload_n 3, 1) := by decide +kernel
theorem dL_law_385 : decode cL_law 385 = .ok (.iconst 1, 1) := by decide +kernel
theorem dL_law_386 : decode cL_law 386 = .ok (.iadd, 1) := by decide +kernel
theorem dL_law_387 : decode cL_law 387 = .ok (.iaload, 1) := by decide +kernel
theorem dL_law_388 : decode cL_law 388 = .ok (.aload_n 0, 1) := by decide +kernel
theorem dL_law_389 : decode cL_law 389 = .ok (.iload_n 3, 1) := by decide +kernel
theorem dL_law_390 : decode cL_law 390 = .ok (.iconst 2, 1) := by decide +kernel
theorem dL_law_391 : decode cL_law 391 = .ok (.iadd, 1) := by decide +kernel
theorem dL_law_392 : decode cL_law 392 = .ok (.iaload, 1) := by decide +kernel
theorem dL_law_393 : decode cL_law 393 = .ok (.invokevirtual 56, 3) := by decide +kernel
theorem dL_law_396 : decode cL_law 396 = .ok (.aload_n 2, 1) := by decide +kernel
theorem dL_law_397 : decode cL_law 397 = .ok (.aload_n 0, 1) := by decide +kernel
theorem dL_law_398 : decode cL_law 398 = .ok (.iload_n 3, 1) := by decide +kernel
theorem dL_law_399 : decode cL_law 399 = .ok (.iconst 1, 1) := by decide +kernel
theorem dL_law_400 : decode cL_law 400 = .ok (.iadd, 1) := by decide +kernel
theorem dL_law_401 : decode cL_law 401 = .ok (.iaload, 1) := by decide +kernel
theorem dL_law_402 : decode cL_law 402 = .ok (.aload_n 0, 1) := by decide +kernel
theorem dL_law_403 : decode cL_law 403 = .ok (.iload_n 3, 1) := by decide +kernel
theorem dL_law_404 : decode cL_law 404 = .ok (.iconst 2, 1) := by decide +kernel
theorem dL_law_405 : decode cL_law 405 = .ok (.iadd, 1) := by decide +kernel
theorem dL_law_406 : decode cL_law 406 = .ok (.iaload, 1) := by decide +kernel
theorem dL_law_407 : decode cL_law 407 = .ok (.invokevirtual 59, 3) := by decide +kernel
theorem dL_law_410 : decode cL_law 410 = .ok (.if_icmp .eq 392, 3) := by decide +kernel
theorem dL_law_413 : decode cL_law 413 = .ok (.iconst 0, 1) := by decide +kernel
theorem dL_law_414 : decode cL_law 414 = .ok (.ireturn, 1) := by decide +kernel
theorem dL_law_415 : decode cL_law 415 = .ok (.aload_n 1, 1) := by decide +kernel
theorem dL_law_416 : decode cL_law 416 = .ok (.aload_n 0, 1) := by decide +kernel
theorem dL_law_417 : decode cL_law 417 = .ok (.iload_n 3, 1) := by decide +kernel
theorem dL_law_418 : decode cL_law 418 = .ok (.iconst 1, 1) := by decide +kernel
theorem dL_law_419 : decode cL_law 419 = .ok (.iadd, 1) := by decide +kernel
theorem dL_law_420 : decode cL_law 420 = .ok (.iaload, 1) := by decide +kernel
theorem dL_law_421 : decode cL_law 421 = .ok (.invokevirtual 60, 3) := by decide +kernel
theorem dL_law_424 : decode cL_law 424 = .ok (.aload_n 2, 1) := by decide +kernel
theorem dL_law_425 : decode cL_law 425 = .ok (.aload_n 0, 1) := by decide +kernel
theorem dL_law_426 : decode cL_law 426 = .ok (.iload_n 3, 1) := by decide +kernel
theorem dL_law_427 : decode cL_law 427 = .ok (.iconst 1, 1) := by decide +kernel
theorem dL_law_428 : decode cL_law 428 = .ok (.iadd, 1) := by decide +kernel
theorem dL_law_429 : decode cL_law 429 = .ok (.iaload, 1) := by decide +kernel
theorem dL_law_430 : decode cL_law 430 = .ok (.invokevirtual 63, 3) := by decide +kernel
theorem dL_law_433 : decode cL_law 433 = .ok (.if_icmp .eq 369, 3) := by decide +kernel
theorem dL_law_436 : decode cL_law 436 = .ok (.iconst 0, 1) := by decide +kernel
theorem dL_law_437 : decode cL_law 437 = .ok (.ireturn, 1) := by decide +kernel
theorem dL_law_438 : decode cL_law 438 = .ok (.aload_n 1, 1) := by decide +kernel
theorem dL_law_439 : decode cL_law 439 = .ok (.aload_n 0, 1) := by decide +kernel
theorem dL_law_440 : decode cL_law 440 = .ok (.iload_n 3, 1) := by decide +kernel
theorem dL_law_441 : decode cL_law 441 = .ok (.iconst 1, 1) := by decide +kernel
theorem dL_law_442 : decode cL_law 442 = .ok (.iadd, 1) := by decide +kernel
theorem dL_law_443 : decode cL_law 443 = .ok (.iaload, 1) := by decide +kernel
theorem dL_law_444 : decode cL_law 444 = .ok (.invokevirtual 64, 3) := by decide +kernel
theorem dL_law_447 : decode cL_law 447 = .ok (.aload_n 2, 1) := by decide +kernel
theorem dL_law_448 : decode cL_law 448 = .ok (.aload_n 0, 1) := by decide +kernel
theorem dL_law_449 : decode cL_law 449 = .ok (.iload_n 3, 1) := by decide +kernel
theorem dL_law_450 : decode cL_law 450 = .ok (.iconst 1, 1) := by decide +kernel
theorem dL_law_451 : decode cL_law 451 = .ok (.iadd, 1) := by decide +kernel
theorem dL_law_452 : decode cL_law 452 = .ok (.iaload, 1) := by decide +kernel
theorem dL_law_453 : decode cL_law 453 = .ok (.invokevirtual 67, 3) := by decide +kernel
theorem dL_law_456 : decode cL_law 456 = .ok (.if_icmp .eq 346, 3) := by decide +kernel
theorem dL_law_459 : decode cL_law 459 = .ok (.iconst 0, 1) := by decide +kernel
theorem dL_law_460 : decode cL_law 460 = .ok (.ireturn, 1) := by decide +kernel
theorem dL_law_461 : decode cL_law 461 = .ok (.aload_n 1, 1) := by decide +kernel
theorem dL_law_462 : decode cL_law 462 = .ok (.aload_n 0, 1) := by decide +kernel
theorem dL_law_463 : decode cL_law 463 = .ok (.iload_n 3, 1) := by decide +kernel
theorem dL_law_464 : decode cL_law 464 = .ok (.iconst 1, 1) := by decide +kernel
theorem dL_law_465 : decode cL_law 465 = .ok (.iadd, 1) := by decide +kernel
theorem dL_law_466 : decode cL_law 466 = .ok (.iaload, 1) := by decide +kernel
theorem dL_law_467 : decode cL_law 467 = .ok (.invokevirtual 68, 3) := by decide +kernel
theorem dL_law_470 : decode cL_law 470 = .ok (.aload_n 2, 1) := by decide +kernel
theorem dL_law_471 : decode cL_law 471 = .ok (.aload_n 0, 1) := by decide +kernel
theorem dL_law_472 : decode cL_law 472 = .ok (.iload_n 3, 1) := by decide +kernel
theorem dL_law_473 : decode cL_law 473 = .ok (.iconst 1, 1) := by decide +kernel
theorem dL_law_474 : decode cL_law 474 = .ok (.iadd, 1) := by decide +kernel
theorem dL_law_475 : decode cL_law 475 = .ok (.iaload, 1) := by decide +kernel
theorem dL_law_476 : decode cL_law 476 = .ok (.invokevirtual 71, 3) := by decide +kernel
theorem dL_law_479 : decode cL_law 479 = .ok (.if_icmp .eq 323, 3) := by decide +kernel
theorem dL_law_482 : decode cL_law 482 = .ok (.iconst 0, 1) := by decide +kernel
theorem dL_law_483 : decode cL_law 483 = .ok (.ireturn, 1) := by decide +kernel
theorem dL_law_484 : decode cL_law 484 = .ok (.aload_n 1, 1) := by decide +kernel
theorem dL_law_485 : decode cL_law 485 = .ok (.aload_n 0, 1) := by decide +kernel
theorem dL_law_486 : decode cL_law 486 = .ok (.iload_n 3, 1) := by decide +kernel
theorem dL_law_487 : decode cL_law 487 = .ok (.iconst 1, 1) := by decide +kernel
theorem dL_law_488 : decode cL_law 488 = .ok (.iadd, 1) := by decide +kernel
theorem dL_law_489 : decode cL_law 489 = .ok (.iaload, 1) := by decide +kernel
theorem dL_law_490 : decode cL_law 490 = .ok (.invokevirtual 72, 3) := by decide +kernel
theorem dL_law_493 : decode cL_law 493 = .ok (.aload_n 2, 1) := by decide +kernel
theorem dL_law_494 : decode cL_law 494 = .ok (.aload_n 0, 1) := by decide +kernel
theorem dL_law_495 : decode cL_law 495 = .ok (.iload_n 3, 1) := by decide +kernel
theorem dL_law_496 : decode cL_law 496 = .ok (.iconst 1, 1) := by decide +kernel
theorem dL_law_497 : decode cL_law 497 = .ok (.iadd, 1) := by decide +kernel
theorem dL_law_498 : decode cL_law 498 = .ok (.iaload, 1) := by decide +kernel
theorem dL_law_499 : decode cL_law 499 = .ok (.invokevirtual 75, 3) := by decide +kernel
theorem dL_law_502 : decode cL_law 502 = .ok (.if_icmp .eq 300, 3) := by decide +kernel
theorem dL_law_505 : decode cL_law 505 = .ok (.iconst 0, 1) := by decide +kernel
theorem dL_law_506 : decode cL_law 506 = .ok (.ireturn, 1) := by decide +kernel
theorem dL_law_507 : decode cL_law 507 = .ok (.aload_n 1, 1) := by decide +kernel
theorem dL_law_508 : decode cL_law 508 = .ok (.aload_n 0, 1) := by decide +kernel
theorem dL_law_509 : decode cL_law 509 = .ok (.iload_n 3, 1) := by decide +kernel
theorem dL_law_510 : decode cL_law 510 = .ok (.iconst 1, 1) := by decide +kernel
theorem dL_law_511 : decode cL_law 511 = .ok (.iadd, 1) := by decide +kernel
theorem dL_law_512 : decode cL_law 512 = .ok (.iaload, 1) := by decide +kernel
theorem dL_law_513 : decode cL_law 513 = .ok (.aload_n 0, 1) := by decide +kernel
theorem dL_law_514 : decode cL_law 514 = .ok (.iload_n 3, 1) := by decide +kernel
theorem dL_law_515 : decode cL_law 515 = .ok (.iconst 2, 1) := by decide +kernel
theorem dL_law_516 : decode cL_law 516 = .ok (.iadd, 1) := by decide +kernel
theorem dL_law_517 : decode cL_law 517 = .ok (.iaload, 1) := by decide +kernel
theorem dL_law_518 : decode cL_law 518 = .ok (.invokevirtual 76, 3) := by decide +kernel
theorem dL_law_521 : decode cL_law 521 = .ok (.aload_n 2, 1) := by decide +kernel
theorem dL_law_522 : decode cL_law 522 = .ok (.aload_n 0, 1) := by decide +kernel
theorem dL_law_523 : decode cL_law 523 = .ok (.iload_n 3, 1) := by decide +kernel
theorem dL_law_524 : decode cL_law 524 = .ok (.iconst 1, 1) := by decide +kernel
theorem dL_law_525 : decode cL_law 525 = .ok (.iadd, 1) := by decide +kernel
theorem dL_law_526 : decode cL_law 526 = .ok (.iaload, 1) := by decide +kernel
theorem dL_law_527 : decode cL_law 527 = .ok (.aload_n 0, 1) := by decide +kernel
theorem dL_law_528 : decode cL_law 528 = .ok (.iload_n 3, 1) := by decide +kernel
theorem dL_law_529 : decode cL_law 529 = .ok (.iconst 2, 1) := by decide +kernel
theorem dL_law_530 : decode cL_law 530 = .ok (.iadd, 1) := by decide +kernel
theorem dL_law_531 : decode cL_law 531 = .ok (.iaload, 1) := by decide +kernel
theorem dL_law_532 : decode cL_law 532 = .ok (.invokevirtual 79, 3) := by decide +kernel
theorem dL_law_535 : decode cL_law 535 = .ok (.if_icmp .eq 267, 3) := by decide +kernel
theorem dL_law_538 : decode cL_law 538 = .ok (.iconst 0, 1) := by decide +kernel
theorem dL_law_539 : decode cL_law 539 = .ok (.ireturn, 1) := by decide +kernel
theorem dL_law_540 : decode cL_law 540 = .ok (.aload_n 1, 1) := by decide +kernel
theorem dL_law_541 : decode cL_law 541 = .ok (.aload_n 0, 1) := by decide +kernel
theorem dL_law_542 : decode cL_law 542 = .ok (.iload_n 3, 1) := by decide +kernel
theorem dL_law_543 : decode cL_law 543 = .ok (.iconst 1, 1) := by decide +kernel
theorem dL_law_544 : decode cL_law 544 = .ok (.iadd, 1) := by decide +kernel
theorem dL_law_545 : decode cL_law 545 = .ok (.iaload, 1) := by decide +kernel
theorem dL_law_546 : decode cL_law 546 = .ok (.aload_n 0, 1) := by decide +kernel
theorem dL_law_547 : decode cL_law 547 = .ok (.iload_n 3, 1) := by decide +kernel
theorem dL_law_548 : decode cL_law 548 = .ok (.iconst 2, 1) := by decide +kernel
theorem dL_law_549 : decode cL_law 549 = .ok (.iadd, 1) := by decide +kernel
theorem dL_law_550 : decode cL_law 550 = .ok (.iaload, 1) := by decide +kernel
theorem dL_law_551 : decode cL_law 551 = .ok (.invokevirtual 80, 3) := by decide +kernel
theorem dL_law_554 : decode cL_law 554 = .ok (.aload_n 2, 1) := by decide +kernel
theorem dL_law_555 : decode cL_law 555 = .ok (.aload_n 0, 1) := by decide +kernel
theorem dL_law_556 : decode cL_law 556 = .ok (.iload_n 3, 1) := by decide +kernel
theorem dL_law_557 : decode cL_law 557 = .ok (.iconst 1, 1) := by decide +kernel
theorem dL_law_558 : decode cL_law 558 = .ok (.iadd, 1) := by decide +kernel
theorem dL_law_559 : decode cL_law 559 = .ok (.iaload, 1) := by decide +kernel
theorem dL_law_560 : decode cL_law 560 = .ok (.aload_n 0, 1) := by decide +kernel
theorem dL_law_561 : decode cL_law 561 = .ok (.iload_n 3, 1) := by decide +kernel
theorem dL_law_562 : decode cL_law 562 = .ok (.iconst 2, 1) := by decide +kernel
theorem dL_law_563 : decode cL_law 563 = .ok (.iadd, 1) := by decide +kernel
theorem dL_law_564 : decode cL_law 564 = .ok (.iaload, 1) := by decide +kernel
theorem dL_law_565 : decode cL_law 565 = .ok (.invokevirtual 83, 3) := by decide +kernel
theorem dL_law_568 : decode cL_law 568 = .ok (.if_icmp .eq 234, 3) := by decide +kernel
theorem dL_law_571 : decode cL_law 571 = .ok (.iconst 0, 1) := by decide +kernel
theorem dL_law_572 : decode cL_law 572 = .ok (.ireturn, 1) := by decide +kernel
theorem dL_law_573 : decode cL_law 573 = .ok (.aload_n 1, 1) := by decide +kernel
theorem dL_law_574 : decode cL_law 574 = .ok (.invokevirtual 84, 3) := by decide +kernel
theorem dL_law_577 : decode cL_law 577 = .ok (.aload_n 2, 1) := by decide +kernel
theorem dL_law_578 : decode cL_law 578 = .ok (.invokevirtual 87, 3) := by decide +kernel
theorem dL_law_581 : decode cL_law 581 = .ok (.if_icmp .eq 221, 3) := by decide +kernel
theorem dL_law_584 : decode cL_law 584 = .ok (.iconst 0, 1) := by decide +kernel
theorem dL_law_585 : decode cL_law 585 = .ok (.ireturn, 1) := by decide +kernel
theorem dL_law_586 : decode cL_law 586 = .ok (.aload_n 1, 1) := by decide +kernel
theorem dL_law_587 : decode cL_law 587 = .ok (.invokevirtual 88, 3) := by decide +kernel
theorem dL_law_590 : decode cL_law 590 = .ok (.aload_n 2, 1) := by decide +kernel
theorem dL_law_591 : decode cL_law 591 = .ok (.invokevirtual 91, 3) := by decide +kernel
theorem dL_law_594 : decode cL_law 594 = .ok (.if_icmp .eq 208, 3) := by decide +kernel
theorem dL_law_597 : decode cL_law 597 = .ok (.iconst 0, 1) := by decide +kernel
theorem dL_law_598 : decode cL_law 598 = .ok (.ireturn, 1) := by decide +kernel
theorem dL_law_599 : decode cL_law 599 = .ok (.aload_n 1, 1) := by decide +kernel
theorem dL_law_600 : decode cL_law 600 = .ok (.aload_n 0, 1) := by decide +kernel
theorem dL_law_601 : decode cL_law 601 = .ok (.iload_n 3, 1) := by decide +kernel
theorem dL_law_602 : decode cL_law 602 = .ok (.iconst 1, 1) := by decide +kernel
theorem dL_law_603 : decode cL_law 603 = .ok (.iadd, 1) := by decide +kernel
theorem dL_law_604 : decode cL_law 604 = .ok (.iaload, 1) := by decide +kernel
theorem dL_law_605 : decode cL_law 605 = .ok (.aload_n 0, 1) := by decide +kernel
theorem dL_law_606 : decode cL_law 606 = .ok (.iload_n 3, 1) := by decide +kernel
theorem dL_law_607 : decode cL_law 607 = .ok (.iconst 2, 1) := by decide +kernel
theorem dL_law_608 : decode cL_law 608 = .ok (.iadd, 1) := by decide +kernel
theorem dL_law_609 : decode cL_law 609 = .ok (.iaload, 1) := by decide +kernel
theorem dL_law_610 : decode cL_law 610 = .ok (.aload_n 0, 1) := by decide +kernel
theorem dL_law_611 : decode cL_law 611 = .ok (.iload_n 3, 1) := by decide +kernel
theorem dL_law_612 : decode cL_law 612 = .ok (.iconst 3, 1) := by decide +kernel
theorem dL_law_613 : decode cL_law 613 = .ok (.iadd, 1) := by decide +kernel
theorem dL_law_614 : decode cL_law 614 = .ok (.iaload, 1) := by decide +kernel
theorem dL_law_615 : decode cL_law 615 = .ok (.aload_n 0, 1) := by decide +kernel
theorem dL_law_616 : decode cL_law 616 = .ok (.iload_n 3, 1) := by decide +kernel
theorem dL_law_617 : decode cL_law 617 = .ok (.iconst 4, 1) := by decide +kernel
theorem dL_law_618 : decode cL_law 618 = .ok (.iadd, 1) := by decide +kernel
theorem dL_law_619 : decode cL_law 619 = .ok (.iaload, 1) := by decide +kernel
theorem dL_law_620 : decode cL_law 620 = .ok (.invokevirtual 92, 3) := by decide +kernel
theorem dL_law_623 : decode cL_law 623 = .ok (.aload_n 2, 1) := by decide +kernel
theorem dL_law_624 : decode cL_law 624 = .ok (.aload_n 0, 1) := by decide +kernel
theorem dL_law_625 : decode cL_law 625 = .ok (.iload_n 3, 1) := by decide +kernel
theorem dL_law_626 : decode cL_law 626 = .ok (.iconst 1, 1) := by decide +kernel
theorem dL_law_627 : decode cL_law 627 = .ok (.iadd, 1) := by decide +kernel
theorem dL_law_628 : decode cL_law 628 = .ok (.iaload, 1) := by decide +kernel
theorem dL_law_629 : decode cL_law 629 = .ok (.aload_n 0, 1) := by decide +kernel
theorem dL_law_630 : decode cL_law 630 = .ok (.iload_n 3, 1) := by decide +kernel
theorem dL_law_631 : decode cL_law 631 = .ok (.iconst 2, 1) := by decide +kernel
theorem dL_law_632 : decode cL_law 632 = .ok (.iadd, 1) := by decide +kernel
theorem dL_law_633 : decode cL_law 633 = .ok (.iaload, 1) := by decide +kernel
theorem dL_law_634 : decode cL_law 634 = .ok (.aload_n 0, 1) := by decide +kernel
theorem dL_law_635 : decode cL_law 635 = .ok (.iload_n 3, 1) := by decide +kernel
theorem dL_law_636 : decode cL_law 636 = .ok (.iconst 3, 1) := by decide +kernel
theorem dL_law_637 : decode cL_law 637 = .ok (.iadd, 1) := by decide +kernel
theorem dL_law_638 : decode cL_law 638 = .ok (.iaload, 1) := by decide +kernel
theorem dL_law_639 : decode cL_law 639 = .ok (.aload_n 0, 1) := by decide +kernel
theorem dL_law_640 : decode cL_law 640 = .ok (.iload_n 3, 1) := by decide +kernel
theorem dL_law_641 : decode cL_law 641 = .ok (.iconst 4, 1) := by decide +kernel
theorem dL_law_642 : decode cL_law 642 = .ok (.iadd, 1) := by decide +kernel
theorem dL_law_643 : decode cL_law 643 = .ok (.iaload, 1) := by decide +kernel
theorem dL_law_644 : decode cL_law 644 = .ok (.invokevirtual 96, 3) := by decide +kernel
theorem dL_law_647 : decode cL_law 647 = .ok (.lcmp, 1) := by decide +kernel
theorem dL_law_648 : decode cL_law 648 = .ok (.ifCond .eq 154, 3) := by decide +kernel
theorem dL_law_651 : decode cL_law 651 = .ok (.iconst 0, 1) := by decide +kernel
theorem dL_law_652 : decode cL_law 652 = .ok (.ireturn, 1) := by decide +kernel
theorem dL_law_653 : decode cL_law 653 = .ok (.aload_n 1, 1) := by decide +kernel
theorem dL_law_654 : decode cL_law 654 = .ok (.aload_n 0, 1) := by decide +kernel
theorem dL_law_655 : decode cL_law 655 = .ok (.iload_n 3, 1) := by decide +kernel
theorem dL_law_656 : decode cL_law 656 = .ok (.iconst 1, 1) := by decide +kernel
theorem dL_law_657 : decode cL_law 657 = .ok (.iadd, 1) := by decide +kernel
theorem dL_law_658 : decode cL_law 658 = .ok (.iaload, 1) := by decide +kernel
theorem dL_law_659 : decode cL_law 659 = .ok (.aload_n 0, 1) := by decide +kernel
theorem dL_law_660 : decode cL_law 660 = .ok (.iload_n 3, 1) := by decide +kernel
theorem dL_law_661 : decode cL_law 661 = .ok (.iconst 2, 1) := by decide +kernel
theorem dL_law_662 : decode cL_law 662 = .ok (.iadd, 1) := by decide +kernel
theorem dL_law_663 : decode cL_law 663 = .ok (.iaload, 1) := by decide +kernel
theorem dL_law_664 : decode cL_law 664 = .ok (.invokevirtual 97, 3) := by decide +kernel
theorem dL_law_667 : decode cL_law 667 = .ok (.aload_n 2, 1) := by decide +kernel
theorem dL_law_668 : decode cL_law 668 = .ok (.aload_n 0, 1) := by decide +kernel
theorem dL_law_669 : decode cL_law 669 = .ok (.iload_n 3, 1) := by decide +kernel
theorem dL_law_670 : decode cL_law 670 = .ok (.iconst 1, 1) := by decide +kernel
theorem dL_law_671 : decode cL_law 671 = .ok (.iadd, 1) := by decide +kernel
theorem dL_law_672 : decode cL_law 672 = .ok (.iaload, 1) := by decide +kernel
theorem dL_law_673 : decode cL_law 673 = .ok (.aload_n 0, 1) := by decide +kernel
theorem dL_law_674 : decode cL_law 674 = .ok (.iload_n 3, 1) := by decide +kernel
theorem dL_law_675 : decode cL_law 675 = .ok (.iconst 2, 1) := by decide +kernel
theorem dL_law_676 : decode cL_law 676 = .ok (.iadd, 1) := by decide +kernel
theorem dL_law_677 : decode cL_law 677 = .ok (.iaload, 1) := by decide +kernel
theorem dL_law_678 : decode cL_law 678 = .ok (.invokevirtual 100, 3) := by decide +kernel
theorem dL_law_681 : decode cL_law 681 = .ok (.if_icmp .eq 121, 3) := by decide +kernel
theorem dL_law_684 : decode cL_law 684 = .ok (.iconst 0, 1) := by decide +kernel
theorem dL_law_685 : decode cL_law 685 = .ok (.ireturn, 1) := by decide +kernel
theorem dL_law_686 : decode cL_law 686 = .ok (.aload_n 1, 1) := by decide +kernel
theorem dL_law_687 : decode cL_law 687 = .ok (.aload_n 0, 1) := by decide +kernel
theorem dL_law_688 : decode cL_law 688 = .ok (.iload_n 3, 1) := by decide +kernel
theorem dL_law_689 : decode cL_law 689 = .ok (.iconst 1, 1) := by decide +kernel
theorem dL_law_690 : decode cL_law 690 = .ok (.iadd, 1) := by decide +kernel
theorem dL_law_691 : decode cL_law 691 = .ok (.iaload, 1) := by decide +kernel
theorem dL_law_692 : decode cL_law 692 = .ok (.aload_n 0, 1) := by decide +kernel
theorem dL_law_693 : decode cL_law 693 = .ok (.iload_n 3, 1) := by decide +kernel
theorem dL_law_694 : decode cL_law 694 = .ok (.iconst 2, 1) := by decide +kernel
theorem dL_law_695 : decode cL_law 695 = .ok (.iadd, 1) := by decide +kernel
theorem dL_law_696 : decode cL_law 696 = .ok (.iaload, 1) := by decide +kernel
theorem dL_law_697 : decode cL_law 697 = .ok (.invokevirtual 101, 3) := by decide +kernel
theorem dL_law_700 : decode cL_law 700 = .ok (.aload_n 2, 1) := by decide +kernel
theorem dL_law_701 : decode cL_law 701 = .ok (.aload_n 0, 1) := by decide +kernel
theorem dL_law_702 : decode cL_law 702 = .ok (.iload_n 3, 1) := by decide +kernel
theorem dL_law_703 : decode cL_law 703 = .ok (.iconst 1, 1) := by decide +kernel
theorem dL_law_704 : decode cL_law 704 = .ok (.iadd, 1) := by decide +kernel
theorem dL_law_705 : decode cL_law 705 = .ok (.iaload, 1) := by decide +kernel
theorem dL_law_706 : decode cL_law 706 = .ok (.aload_n 0, 1) := by decide +kernel
theorem dL_law_707 : decode cL_law 707 = .ok (.iload_n 3, 1) := by decide +kernel
theorem dL_law_708 : decode cL_law 708 = .ok (.iconst 2, 1) := by decide +kernel
theorem dL_law_709 : decode cL_law 709 = .ok (.iadd, 1) := by decide +kernel
theorem dL_law_710 : decode cL_law 710 = .ok (.iaload, 1) := by decide +kernel
theorem dL_law_711 : decode cL_law 711 = .ok (.invokevirtual 104, 3) := by decide +kernel
theorem dL_law_714 : decode cL_law 714 = .ok (.if_icmp .eq 88, 3) := by decide +kernel
theorem dL_law_717 : decode cL_law 717 = .ok (.iconst 0, 1) := by decide +kernel
theorem dL_law_718 : decode cL_law 718 = .ok (.ireturn, 1) := by decide +kernel
theorem dL_law_719 : decode cL_law 719 = .ok (.aload_n 1, 1) := by decide +kernel
theorem dL_law_720 : decode cL_law 720 = .ok (.aload_n 0, 1) := by decide +kernel
theorem dL_law_721 : decode cL_law 721 = .ok (.iload_n 3, 1) := by decide +kernel
theorem dL_law_722 : decode cL_law 722 = .ok (.iconst 1, 1) := by decide +kernel
theorem dL_law_723 : decode cL_law 723 = .ok (.iadd, 1) := by decide +kernel
theorem dL_law_724 : decode cL_law 724 = .ok (.iaload, 1) := by decide +kernel
theorem dL_law_725 : decode cL_law 725 = .ok (.invokevirtual 105, 3) := by decide +kernel
theorem dL_law_728 : decode cL_law 728 = .ok (.aload_n 2, 1) := by decide +kernel
theorem dL_law_729 : decode cL_law 729 = .ok (.aload_n 0, 1) := by decide +kernel
theorem dL_law_730 : decode cL_law 730 = .ok (.iload_n 3, 1) := by decide +kernel
theorem dL_law_731 : decode cL_law 731 = .ok (.iconst 1, 1) := by decide +kernel
theorem dL_law_732 : decode cL_law 732 = .ok (.iadd, 1) := by decide +kernel
theorem dL_law_733 : decode cL_law 733 = .ok (.iaload, 1) := by decide +kernel
theorem dL_law_734 : decode cL_law 734 = .ok (.invokevirtual 108, 3) := by decide +kernel
theorem dL_law_737 : decode cL_law 737 = .ok (.if_icmp .eq 65, 3) := by decide +kernel
theorem dL_law_740 : decode cL_law 740 = .ok (.iconst 0, 1) := by decide +kernel
theorem dL_law_741 : decode cL_law 741 = .ok (.ireturn, 1) := by decide +kernel
theorem dL_law_742 : decode cL_law 742 = .ok (.aload_n 1, 1) := by decide +kernel
theorem dL_law_743 : decode cL_law 743 = .ok (.aload_n 0, 1) := by decide +kernel
theorem dL_law_744 : decode cL_law 744 = .ok (.iload_n 3, 1) := by decide +kernel
theorem dL_law_745 : decode cL_law 745 = .ok (.iconst 1, 1) := by decide +kernel
theorem dL_law_746 : decode cL_law 746 = .ok (.iadd, 1) := by decide +kernel
theorem dL_law_747 : decode cL_law 747 = .ok (.iaload, 1) := by decide +kernel
theorem dL_law_748 : decode cL_law 748 = .ok (.invokevirtual 109, 3) := by decide +kernel
theorem dL_law_751 : decode cL_law 751 = .ok (.aload_n 2, 1) := by decide +kernel
theorem dL_law_752 : decode cL_law 752 = .ok (.aload_n 0, 1) := by decide +kernel
theorem dL_law_753 : decode cL_law 753 = .ok (.iload_n 3, 1) := by decide +kernel
theorem dL_law_754 : decode cL_law 754 = .ok (.iconst 1, 1) := by decide +kernel
theorem dL_law_755 : decode cL_law 755 = .ok (.iadd, 1) := by decide +kernel
theorem dL_law_756 : decode cL_law 756 = .ok (.iaload, 1) := by decide +kernel
theorem dL_law_757 : decode cL_law 757 = .ok (.invokevirtual 112, 3) := by decide +kernel
theorem dL_law_760 : decode cL_law 760 = .ok (.if_icmp .eq 42, 3) := by decide +kernel
theorem dL_law_763 : decode cL_law 763 = .ok (.iconst 0, 1) := by decide +kernel
theorem dL_law_764 : decode cL_law 764 = .ok (.ireturn, 1) := by decide +kernel
theorem dL_law_765 : decode cL_law 765 = .ok (.aload_n 1, 1) := by decide +kernel
theorem dL_law_766 : decode cL_law 766 = .ok (.aload_n 0, 1) := by decide +kernel
theorem dL_law_767 : decode cL_law 767 = .ok (.iload_n 3, 1) := by decide +kernel
theorem dL_law_768 : decode cL_law 768 = .ok (.iconst 1, 1) := by decide +kernel
theorem dL_law_769 : decode cL_law 769 = .ok (.iadd, 1) := by decide +kernel
theorem dL_law_770 : decode cL_law 770 = .ok (.iaload, 1) := by decide +kernel
theorem dL_law_771 : decode cL_law 771 = .ok (.invokevirtual 113, 3) := by decide +kernel
theorem dL_law_774 : decode cL_law 774 = .ok (.aload_n 2, 1) := by decide +kernel
theorem dL_law_775 : decode cL_law 775 = .ok (.aload_n 0, 1) := by decide +kernel
theorem dL_law_776 : decode cL_law 776 = .ok (.iload_n 3, 1) := by decide +kernel
theorem dL_law_777 : decode cL_law 777 = .ok (.iconst 1, 1) := by decide +kernel
theorem dL_law_778 : decode cL_law 778 = .ok (.iadd, 1) := by decide +kernel
theorem dL_law_779 : decode cL_law 779 = .ok (.iaload, 1) := by decide +kernel
theorem dL_law_780 : decode cL_law 780 = .ok (.invokevirtual 116, 3) := by decide +kernel
theorem dL_law_783 : decode cL_law 783 = .ok (.if_icmp .eq 19, 3) := by decide +kernel
theorem dL_law_786 : decode cL_law 786 = .ok (.iconst 0, 1) := by decide +kernel
theorem dL_law_787 : decode cL_law 787 = .ok (.ireturn, 1) := by decide +kernel
theorem dL_law_788 : decode cL_law 788 = .ok (.aload_n 1, 1) := by decide +kernel
theorem dL_law_789 : decode cL_law 789 = .ok (.invokevirtual 117, 3) := by decide +kernel
theorem dL_law_792 : decode cL_law 792 = .ok (.aload_n 2, 1) := by decide +kernel
theorem dL_law_793 : decode cL_law 793 = .ok (.invokevirtual 121, 3) := by decide +kernel
theorem dL_law_796 : decode cL_law 796 = .ok (.lcmp, 1) := by decide +kernel
theorem dL_law_797 : decode cL_law 797 = .ok (.ifCond .eq 5, 3) := by decide +kernel
theorem dL_law_800 : decode cL_law 800 = .ok (.iconst 0, 1) := by decide +kernel
theorem dL_law_801 : decode cL_law 801 = .ok (.ireturn, 1) := by decide +kernel
theorem dL_law_802 : decode cL_law 802 = .ok (.iinc 3 5, 3) := by decide +kernel
theorem dL_law_805 : decode cL_law 805 = .ok (.goto (-787), 3) := by decide +kernel
theorem dL_law_808 : decode cL_law 808 = .ok (.iconst 1, 1) := by decide +kernel
theorem dL_law_809 : decode cL_law 809 = .ok (.ireturn, 1) := by decide +kernel
end
section
def momL : List Nat := [22, 28, 50, 56, 62, 68, 74, 80, 86, 92, 98, 104, 110, 116]
def lndL : List Nat := [4, 13]
def isM (c : Nat) : Prop := c ∈ momL
def isL (c : Nat) : Prop := c ∈ lndL
def refT : List (Nat × Nat × Nat) := [(22, 2, 23), (22, 3, 24), (22, 4, 25), (22, 5, 26), (22, 6, 27), (28, 2, 29), (28, 3, 30), (28, 4, 31), (28, 5, 32), (28, 6, 33), (50, 2, 51), (50, 3, 52), (50, 4, 53), (50, 5, 54), (50, 6, 55), (56, 2, 57), (56, 3, 58), (56, 4, 59), (56, 5, 60), (56, 6, 61), (62, 2, 63), (62, 3, 64), (62, 4, 65), (62, 5, 66), (62, 6, 67), (68, 2, 69), (68, 3, 70), (68, 4, 71), (68, 5, 72), (68, 6, 73), (74, 2, 75), (74, 3, 76), (74, 4, 77), (74, 5, 78), (74, 6, 79), (80, 2, 81), (80, 3, 82), (80, 4, 83), (80, 5, 84), (80, 6, 85), (86, 2, 87), (86, 3, 88), (86, 4, 89), (86, 5, 90), (86, 6, 91), (92, 2, 93), (92, 3, 94), (92, 4, 95), (92, 5, 96), (92, 6, 97), (98, 2, 99), (98, 3, 100), (98, 4, 101), (98, 5, 102), (98, 6, 103), (104, 2, 105), (104, 3, 106), (104, 4, 107), (104, 5, 108), (104, 6, 109), (110, 2, 111), (110, 3, 112), (110, 4, 113), (110, 5, 114), (110, 6, 115), (116, 2, 117), (116, 3, 118), (116, 4, 119), (116, 5, 120), (116, 6, 121), (4, 1, 5), (4, 2, 6), (4, 3, 7), (4, 4, 8), (4, 6, 9), (4, 7, 10), (4, 8, 11), (4, 10, 12), (13, 1, 14), (13, 2, 15), (13, 3, 16), (13, 4, 17), (13, 6, 18), (13, 7, 19), (13, 8, 20), (13, 10, 21), (0, 0, 1), (0, 2, 2), (0, 5, 22), (0, 6, 28), (0, 7, 34), (0, 9, 35), (0, 10, 36), (0, 11, 37), (0, 12, 38), (0, 14, 39), (2, 0, 1), (2, 1, 3), (39, 0, 40), (39, 1, 48), (39, 2, 49), (35, 0, 110), (35, 1, 116), (40, 0, 41), (40, 1, 42), (40, 2, 43), (40, 3, 44), (40, 4, 45), (40, 5, 46), (40, 6, 47), (122, 0, 123), (122, 1, 124), (122, 2, 125), (122, 3, 126), (122, 4, 127), (122, 5, 128), (122, 6, 129), (122, 7, 130), (122, 8, 131), (122, 9, 132), (122, 21, 133), (122, 29, 134), (122, 30, 135)]
/-- the references that never change -/
def WG (G : MG) : Prop := ∀ q ∈ refT, G q.1 q.2.1 = some q.2.2
section WGS
variable {G : MG} {c : Nat}
theorem sM0_ : ∀ c ∈ momL, shn 136 (c + 0) = (2, 8) := by decide +kernel
theorem sM0 (h : isM c) : shn 136 c = (2, 8) := sM0_ c h
theorem sM1_ : ∀ c ∈ momL, shn 136 (c + 1) = (6, 4) := by decide +kernel
theorem sM1 (h : isM c) : shn 136 (c + 1) = (6, 4) := sM1_ c h
theorem sM2_ : ∀ c ∈ momL, shn 136 (c + 2) = (6, 4) := by decide +kernel
theorem sM2 (h : isM c) : shn 136 (c + 2) = (6, 4) := sM2_ c h
theorem sM3_ : ∀ c ∈ momL, shn 136 (c + 3) = (6, 3) := by decide +kernel
theorem sM3 (h : isM c) : shn 136 (c + 3) = (6, 3) := sM3_ c h
theorem sM4_ : ∀ c ∈ momL, shn 136 (c + 4) = (6, 3) := by decide +kernel
theorem sM4 (h : isM c) : shn 136 (c + 4) = (6, 3) := sM4_ c h
theorem sM5_ : ∀ c ∈ momL, shn 136 (c + 5) = (6, 20) := by decide +kernel
theorem sM5 (h : isM c) : shn 136 (c + 5) = (6, 20) := sM5_ c h
theorem gM2_ : ∀ c ∈ momL, (c, 2, c + 1) ∈ refT := by decide +kernel
theorem gM2 (hG : WG G) (h : isM c) : G c 2 = some (c + 1) := hG _ (gM2_ c h)
theorem gM3_ : ∀ c ∈ momL, (c, 3, c + 2) ∈ refT := by decide +kernel
theorem gM3 (hG : WG G) (h : isM c) : G c 3 = some (c + 2) := hG _ (gM3_ c h)
theorem gM4_ : ∀ c ∈ momL, (c, 4, c + 3) ∈ refT := by decide +kernel
theorem gM4 (hG : WG G) (h : isM c) : G c 4 = some (c + 3) := hG _ (gM4_ c h)
theorem gM5_ : ∀ c ∈ momL, (c, 5, c + 4) ∈ refT := by decide +kernel
theorem gM5 (hG : WG G) (h : isM c) : G c 5 = some (c + 4) := hG _ (gM5_ c h)
theorem gM6_ : ∀ c ∈ momL, (c, 6, c + 5) ∈ refT := by decide +kernel
theorem gM6 (hG : WG G) (h : isM c) : G c 6 = some (c + 5) := hG _ (gM6_ c h)
theorem sL0_ : ∀ c ∈ lndL, shn 136 (c + 0) = (1, 15) := by decide +kernel
theorem sL0 (h : isL c) : shn 136 c = (1, 15) := sL0_ c h
theorem sL1_ : ∀ c ∈ lndL, shn 136 (c + 1) = (6, 4) := by decide +kernel
theorem sL1 (h : isL c) : shn 136 (c + 1) = (6, 4) := sL1_ c h
theorem sL2_ : ∀ c ∈ lndL, shn 136 (c + 2) = (6, 4) := by decide +kernel
theorem sL2 (h : isL c) : shn 136 (c + 2) = (6, 4) := sL2_ c h
theorem sL3_ : ∀ c ∈ lndL, shn 136 (c + 3) = (6, 4) := by decide +kernel
theorem sL3 (h : isL c) : shn 136 (c + 3) = (6, 4) := sL3_ c h
theorem sL4_ : ∀ c ∈ lndL, shn 136 (c + 4) = (6, 4) := by decide +kernel
theorem sL4 (h : isL c) : shn 136 (c + 4) = (6, 4) := sL4_ c h
theorem sL5_ : ∀ c ∈ lndL, shn 136 (c + 5) = (6, 4) := by decide +kernel
theorem sL5 (h : isL c) : shn 136 (c + 5) = (6, 4) := sL5_ c h
theorem sL6_ : ∀ c ∈ lndL, shn 136 (c + 6) = (6, 4) := by decide +kernel
theorem sL6 (h : isL c) : shn 136 (c + 6) = (6, 4) := sL6_ c h
theorem sL7_ : ∀ c ∈ lndL, shn 136 (c + 7) = (6, 4) := by decide +kernel
theorem sL7 (h : isL c) : shn 136 (c + 7) = (6, 4) := sL7_ c h
theorem sL8_ : ∀ c ∈ lndL, shn 136 (c + 8) = (6, 3) := by decide +kernel
theorem sL8 (h : isL c) : shn 136 (c + 8) = (6, 3) := sL8_ c h
theorem gL1_ : ∀ c ∈ lndL, (c, 1, c + 1) ∈ refT := by decide +kernel
theorem gL1 (hG : WG G) (h : isL c) : G c 1 = some (c + 1) := hG _ (gL1_ c h)
theorem gL2_ : ∀ c ∈ lndL, (c, 2, c + 2) ∈ refT := by decide +kernel
theorem gL2 (hG : WG G) (h : isL c) : G c 2 = some (c + 2) := hG _ (gL2_ c h)
theorem gL3_ : ∀ c ∈ lndL, (c, 3, c + 3) ∈ refT := by decide +kernel
theorem gL3 (hG : WG G) (h : isL c) : G c 3 = some (c + 3) := hG _ (gL3_ c h)
theorem gL4_ : ∀ c ∈ lndL, (c, 4, c + 4) ∈ refT := by decide +kernel
theorem gL4 (hG : WG G) (h : isL c) : G c 4 = some (c + 4) := hG _ (gL4_ c h)
theorem gL6_ : ∀ c ∈ lndL, (c, 6, c + 5) ∈ refT := by decide +kernel
theorem gL6 (hG : WG G) (h : isL c) : G c 6 = some (c + 5) := hG _ (gL6_ c h)
theorem gL7_ : ∀ c ∈ lndL, (c, 7, c + 6) ∈ refT := by decide +kernel
theorem gL7 (hG : WG G) (h : isL c) : G c 7 = some (c + 6) := hG _ (gL7_ c h)
theorem gL8_ : ∀ c ∈ lndL, (c, 8, c + 7) ∈ refT := by decide +kernel
theorem gL8 (hG : WG G) (h : isL c) : G c 8 = some (c + 7) := hG _ (gL8_ c h)
theorem gL10_ : ∀ c ∈ lndL, (c, 10, c + 8) ∈ refT := by decide +kernel
theorem gL10 (hG : WG G) (h : isL c) : G c 10 = some (c + 8) := hG _ (gL10_ c h)
theorem wg_0_0 (hG : WG G) : G 0 0 = some 1 := hG (0, 0, 1) (by decide +kernel)
theorem wg_0_2 (hG : WG G) : G 0 2 = some 2 := hG (0, 2, 2) (by decide +kernel)
theorem wg_0_5 (hG : WG G) : G 0 5 = some 22 := hG (0, 5, 22) (by decide +kernel)
theorem wg_0_6 (hG : WG G) : G 0 6 = some 28 := hG (0, 6, 28) (by decide +kernel)
theorem wg_0_7 (hG : WG G) : G 0 7 = some 34 := hG (0, 7, 34) (by decide +kernel)
theorem wg_0_9 (hG : WG G) : G 0 9 = some 35 := hG (0, 9, 35) (by decide +kernel)
theorem wg_0_10 (hG : WG G) : G 0 10 = some 36 := hG (0, 10, 36) (by decide +kernel)
theorem wg_0_11 (hG : WG G) : G 0 11 = some 37 := hG (0, 11, 37) (by decide +kernel)
theorem wg_0_12 (hG : WG G) : G 0 12 = some 38 := hG (0, 12, 38) (by decide +kernel)
theorem wg_0_14 (hG : WG G) : G 0 14 = some 39 := hG (0, 14, 39) (by decide +kernel)
theorem wg_2_0 (hG : WG G) : G 2 0 = some 1 := hG (2, 0, 1) (by decide +kernel)
theorem wg_2_1 (hG : WG G) : G 2 1 = some 3 := hG (2, 1, 3) (by decide +kernel)
theorem wg_39_0 (hG : WG G) : G 39 0 = some 40 := hG (39, 0, 40) (by decide +kernel)
theorem wg_39_1 (hG : WG G) : G 39 1 = some 48 := hG (39, 1, 48) (by decide +kernel)
theorem wg_39_2 (hG : WG G) : G 39 2 = some 49 := hG (39, 2, 49) (by decide +kernel)
theorem wg_35_0 (hG : WG G) : G 35 0 = some 110 := hG (35, 0, 110) (by decide +kernel)
theorem wg_35_1 (hG : WG G) : G 35 1 = some 116 := hG (35, 1, 116) (by decide +kernel)
theorem wg_40_0 (hG : WG G) : G 40 0 = some 41 := hG (40, 0, 41) (by decide +kernel)
theorem wg_40_1 (hG : WG G) : G 40 1 = some 42 := hG (40, 1, 42) (by decide +kernel)
theorem wg_40_2 (hG : WG G) : G 40 2 = some 43 := hG (40, 2, 43) (by decide +kernel)
theorem wg_40_3 (hG : WG G) : G 40 3 = some 44 := hG (40, 3, 44) (by decide +kernel)
theorem wg_40_4 (hG : WG G) : G 40 4 = some 45 := hG (40, 4, 45) (by decide +kernel)
theorem wg_40_5 (hG : WG G) : G 40 5 = some 46 := hG (40, 5, 46) (by decide +kernel)
theorem wg_40_6 (hG : WG G) : G 40 6 = some 47 := hG (40, 6, 47) (by decide +kernel)
theorem wg_122_0 (hG : WG G) : G 122 0 = some 123 := hG (122, 0, 123) (by decide +kernel)
theorem wg_122_1 (hG : WG G) : G 122 1 = some 124 := hG (122, 1, 124) (by decide +kernel)
theorem wg_122_2 (hG : WG G) : G 122 2 = some 125 := hG (122, 2, 125) (by decide +kernel)
theorem wg_122_3 (hG : WG G) : G 122 3 = some 126 := hG (122, 3, 126) (by decide +kernel)
theorem wg_122_4 (hG : WG G) : G 122 4 = some 127 := hG (122, 4, 127) (by decide +kernel)
theorem wg_122_5 (hG : WG G) : G 122 5 = some 128 := hG (122, 5, 128) (by decide +kernel)
theorem wg_122_6 (hG : WG G) : G 122 6 = some 129 := hG (122, 6, 129) (by decide +kernel)
theorem wg_122_7 (hG : WG G) : G 122 7 = some 130 := hG (122, 7, 130) (by decide +kernel)
theorem wg_122_8 (hG : WG G) : G 122 8 = some 131 := hG (122, 8, 131) (by decide +kernel)
theorem wg_122_9 (hG : WG G) : G 122 9 = some 132 := hG (122, 9, 132) (by decide +kernel)
theorem wg_122_21 (hG : WG G) : G 122 21 = some 133 := hG (122, 21, 133) (by decide +kernel)
theorem wg_122_29 (hG : WG G) : G 122 29 = some 134 := hG (122, 29, 134) (by decide +kernel)
theorem wg_122_30 (hG : WG G) : G 122 30 = some 135 := hG (122, 30, 135) (by decide +kernel)
theorem wg_40 (hG : WG G) {j : Nat} (h : j < 7) : G 40 j = some (41 + j) := by
  have : ∀ j, j < 7 → (40, j, 41 + j) ∈ refT := by decide +kernel
  exact hG _ (this j h)
theorem sh_4x : ∀ j, j < 7 → shn 136 (41 + j) = (6, 3) := by decide +kernel
theorem wg_35 (hG : WG G) {j : Nat} (h : j < 2) : G 35 j = some (110 + 6 * j) := by
  have : ∀ j, j < 2 → (35, j, 110 + 6 * j) ∈ refT := by decide +kernel
  exact hG _ (this j h)
theorem isM_img {j : Nat} (h : j < 2) : isM (110 + 6 * j) := by
  have : ∀ j, j < 2 → 110 + 6 * j ∈ momL := by decide +kernel
  exact this j h
theorem isM_22 : isM 22 := by unfold isM; decide
theorem isM_28 : isM 28 := by unfold isM; decide
theorem isL_4 : isL 4 := by unfold isL; decide
theorem isL_13 : isL 13 := by unfold isL; decide
theorem isM_lt (h : isM c) : 22 ≤ c ∧ c < 117 := by
  have : ∀ c ∈ momL, 22 ≤ c ∧ c < 117 := by decide +kernel
  exact this c h
theorem isL_or (h : isL c) : c = 4 ∨ c = 13 := by
  have : ∀ c ∈ lndL, c = 4 ∨ c = 13 := by decide +kernel
  exact this c h
theorem WG_lnd (hG : WG G) {s : Nat} (hs : s = 3 ∨ s = 4) (v : Option Nat) : WG (u2 G 0 s v) := by
  have h0 : ∀ q ∈ refT, ¬ (q.1 = 0 ∧ (q.2.1 = 3 ∨ q.2.1 = 4)) := by decide +kernel
  intro q hq
  rw [u2_ne _ _ (fun z => h0 q hq ⟨z.1, by rcases hs with rfl | rfl; exact Or.inl z.2; exact Or.inr z.2⟩)]
  exact hG q hq
theorem WG_past (hG : WG G) {s : Nat} (v : Option Nat) : WG (u2 G 34 s v) := by
  have h0 : ∀ q ∈ refT, ¬ q.1 = 34 := by decide +kernel
  intro q hq
  rw [u2_ne _ _ (fun z => h0 q hq z.1)]
  exact hG q hq
end WGS
/-- fewer known locals -/
def wk : List (Option Value) → List (Option Value) → Prop
  | [], [] => True
  | _ :: l, none :: l2 => wk l l2
  | a :: l, some v :: l2 => a = some v ∧ wk l l2
  | _, _ => False
theorem wk_at : ∀ {l l2 : List (Option Value)}, wk l l2 → l2.length = l.length ∧ ∀ (k : Nat) (v : Value), l2[k]? = some (some v) → l[k]? = some (some v)
  | [], [], _ => ⟨rfl, fun k v h => h⟩
  | [], _ :: _, h => h.elim
  | _ :: _, [], h => h.elim
  | a :: l, none :: l2, h => by
    obtain ⟨h1, h2⟩ := wk_at (l := l) (l2 := l2) h
    refine ⟨by simp [h1], fun k v hk => ?_⟩
    cases k with
    | zero => simp at hk
    | succ k => simp only [List.getElem?_cons_succ] at hk ⊢; exact h2 k v hk
  | a :: l, some w :: l2, h => by
    obtain ⟨rfl, h⟩ := h
    obtain ⟨h1, h2⟩ := wk_at (l := l) (l2 := l2) h
    refine ⟨by simp [h1], fun k v hk => ?_⟩
    cases k with
    | zero => exact hk
    | succ k => simp only [List.getElem?_cons_succ] at hk ⊢; exact h2 k v hk
theorem E_wk {d : Nat} {M : Mt} {n0 pc : Nat} {ls ls2 : List (Option Value)} {st : List Value} {n : Nat} {I : MI} {G : MG} {J : MJ} {Φ : Ph} (hw : wk ls ls2) (k : Ev d M n0 pc ls2 st n I G J Φ) : Ev d M n0 pc ls st n I G J Φ := by
  intro K B p l e R s m args below meth c H locs Q a hC hR h0 hI hO hS hL hQ
  obtain ⟨lx, h1, h2, h3⟩ := hL
  obtain ⟨w1, w2⟩ := wk_at hw
  exact k K B p l e R s m args below meth c H locs Q a hC hR h0 hI hO hS ⟨lx, h1, w1.trans h2, fun k v hk => h3 k v (w2 k v hk)⟩ hQ
/-- a field whose content is known -/
theorem E_getw {d : Nat} {M : Mt} {n0 pc : Nat} {ls : List (Option Value)} {st : List Value} {n : Nat} {I : MI} {G : MG} {J : MJ} {Φ : Ph} {ix : Nat} (ci k c z : Nat) (v : Int32) (hd : decode M.2.1 pc = .ok (.getfield ix, 3)) (hf : FL M.1.cls ix ci k) (hk : fkd ci k = 0) (hs : shn n c = (ci, z)) (hv : I c k = v) (kk : Ev d M n0 (pc + 3) ls (.int v :: st) n I G J Φ) : Ev d M n0 pc ls (.ref c :: st) n I G J Φ := by
  subst hv
  exact E_geti ci k c z hd hf hk hs kk
end
section
set_option maxRecDepth 100000 in
theorem w_X3_take {d : Nat} {I : MI} {G : MG} {J : MJ} {Φ : Ph} (hG : WG G)  (hy : ((I 2 2) ≤ (I 2 3) → (((u2 I 2 4 (I 2 3)) 2 3) < ((u2 I 2 4 (I 2 3)) 2 2) → vp_in ((u2 I 2 4 (I 2 3)) 2 3) 200 ∧ (Ev d mX3_isDigit 136 0 [some (.int ((u2 I 2 4 (I 2 3)) 1 ((u2 I 2 4 (I 2 3)) 2 3).toNatClampNeg))] [] 136 (u2 I 2 4 (I 2 3)) G J (fun r n I4 G4 J4 => ∃ v4 : Int32, r = some (.int v4) ∧ n = 136 ∧ (u2 I 2 4 (I 2 3)) = I4 ∧ G = G4 ∧ J = J4 ∧ ((v4 = 0 → vp_in ((u2 I 2 4 (I 2 3)) 2 3) 200 ∧ (Ev d mX3_isSign 136 0 [some (.int ((u2 I 2 4 (I 2 3)) 1 ((u2 I 2 4 (I 2 3)) 2 3).toNatClampNeg))] [] 136 (u2 I 2 4 (I 2 3)) G J (fun r n I7 G7 J7 => ∃ v7 : Int32, r = some (.int v7) ∧ n = 136 ∧ (u2 I 2 4 (I 2 3)) = I7 ∧ G = G7 ∧ J = J7 ∧ ((v7 = 0 → Φ none 136 (u2 (u2 (u2 I 2 4 (I 2 3)) 2 5 (1 : Int32)) 2 3 (((u2 (u2 I 2 4 (I 2 3)) 2 5 (1 : Int32)) 2 3) + (1 : Int32))) G J) ∧ (¬ v7 = 0 → vp_in ((u2 I 2 4 (I 2 3)) 2 3) 200 ∧ (Φ none 136 (u2 (u2 (u2 I 2 4 (I 2 3)) 2 5 ((u2 I 2 4 (I 2 3)) 1 ((u2 I 2 4 (I 2 3)) 2 3).toNatClampNeg)) 2 3 (((u2 (u2 I 2 4 (I 2 3)) 2 5 ((u2 I 2 4 (I 2 3)) 1 ((u2 I 2 4 (I 2 3)) 2 3).toNatClampNeg)) 2 3) + (1 : Int32))) G J)))))) ∧ (¬ v4 = 0 → Ev d mX3_takeNumber 136 0 [some (.ref 2), none, none] [] 136 (u2 I 2 4 (I 2 3)) G J (fun r n I10 G10 J10 => r = none ∧ n = 136 ∧ G = G10 ∧ J = J10 ∧ (Φ none 136 I10 G J))))))) ∧ (¬ ((u2 I 2 4 (I 2 3)) 2 3) < ((u2 I 2 4 (I 2 3)) 2 2) → Φ none 136 (u2 (u2 I 2 4 (I 2 3)) 2 5 (0 : Int32)) G J)) ∧ (¬ (I 2 2) ≤ (I 2 3) → vp_in (I 2 3) 200 ∧ ((¬ (I 1 (I 2 3).toNatClampNeg) = (32 : Int32) → (((u2 I 2 4 (I 2 3)) 2 3) < ((u2 I 2 4 (I 2 3)) 2 2) → vp_in ((u2 I 2 4 (I 2 3)) 2 3) 200 ∧ (Ev d mX3_isDigit 136 0 [some (.int ((u2 I 2 4 (I 2 3)) 1 ((u2 I 2 4 (I 2 3)) 2 3).toNatClampNeg))] [] 136 (u2 I 2 4 (I 2 3)) G J (fun r n I15 G15 J15 => ∃ v15 : Int32, r = some (.int v15) ∧ n = 136 ∧ (u2 I 2 4 (I 2 3)) = I15 ∧ G = G15 ∧ J = J15 ∧ ((v15 = 0 → vp_in ((u2 I 2 4 (I 2 3)) 2 3) 200 ∧ (Ev d mX3_isSign 136 0 [some (.int ((u2 I 2 4 (I 2 3)) 1 ((u2 I 2 4 (I 2 3)) 2 3).toNatClampNeg))] [] 136 (u2 I 2 4 (I 2 3)) G J (fun r n I18 G18 J18 => ∃ v18 : Int32, r = some (.int v18) ∧ n = 136 ∧ (u2 I 2 4 (I 2 3)) = I18 ∧ G = G18 ∧ J = J18 ∧ ((v18 = 0 → Φ none 136 (u2 (u2 (u2 I 2 4 (I 2 3)) 2 5 (1 : Int32)) 2 3 (((u2 (u2 I 2 4 (I 2 3)) 2 5 (1 : Int32)) 2 3) + (1 : Int32))) G J) ∧ (¬ v18 = 0 → vp_in ((u2 I 2 4 (I 2 3)) 2 3) 200 ∧ (Φ none 136 (u2 (u2 (u2 I 2 4 (I 2 3)) 2 5 ((u2 I 2 4 (I 2 3)) 1 ((u2 I 2 4 (I 2 3)) 2 3).toNatClampNeg)) 2 3 (((u2 (u2 I 2 4 (I 2 3)) 2 5 ((u2 I 2 4 (I 2 3)) 1 ((u2 I 2 4 (I 2 3)) 2 3).toNatClampNeg)) 2 3) + (1 : Int32))) G J)))))) ∧ (¬ v15 = 0 → Ev d mX3_takeNumber 136 0 [some (.ref 2), none, none] [] 136 (u2 I 2 4 (I 2 3)) G J (fun r n I21 G21 J21 => r = none ∧ n = 136 ∧ G = G21 ∧ J = J21 ∧ (Φ none 136 I21 G J))))))) ∧ (¬ ((u2 I 2 4 (I 2 3)) 2 3) < ((u2 I 2 4 (I 2 3)) 2 2) → Φ none 136 (u2 (u2 I 2 4 (I 2 3)) 2 5 (0 : Int32)) G J)) ∧ ((I 1 (I 2 3).toNatClampNeg) = (32 : Int32) → Ev (d + 1) mX3_take 136 0 [some (.ref 2)] [] 136 (u2 I 2 3 ((I 2 3) + (1 : Int32))) G J Φ)))) : Ev (d + 1) mX3_take 136 0 [some (.ref 2)] [] 136 I G J Φ := by
  refine E_aload_n 0 dX3_take_0 rfl rfl ?_
  refine E_geti 3 3 2 7 dX3_take_1 fl_RX3_29 rfl sh_2 ?_
  refine E_aload_n 0 dX3_take_4 rfl rfl ?_
  refine E_geti 3 2 2 7 dX3_take_5 fl_RX3_25 rfl sh_2 ?_
  refine E_icmp_ge 38 dX3_take_8 rfl (fun h1 => ?_) (fun h1 => ?_)
  · replace hy := hy.1 h1
    refine E_aload_n 0 dX3_take_38 rfl rfl ?_
    refine E_aload_n 0 dX3_take_39 rfl rfl ?_
    refine E_geti 3 3 2 7 dX3_take_40 fl_RX3_29 rfl sh_2 ?_
    refine E_puti 3 4 2 7 dX3_take_43 fl_RX3_47 rfl sh_2 ⟨_, rfl, rfl⟩ rfl rfl ?_
    refine E_aload_n 0 dX3_take_46 rfl rfl ?_
    refine E_geti 3 3 2 7 dX3_take_47 fl_RX3_29 rfl sh_2 ?_
    refine E_aload_n 0 dX3_take_50 rfl rfl ?_
    refine E_geti 3 2 2 7 dX3_take_51 fl_RX3_25 rfl sh_2 ?_
    refine E_icmp_lt 65 dX3_take_54 rfl (fun h2 => ?_) (fun h2 => ?_)
    · replace hy := hy.1 h2
      refine E_aload_n 0 dX3_take_65 rfl rfl ?_
      refine E_getr 3 0 2 7 1 dX3_take_66 fl_RX3_15 rfl sh_2 (wg_2_0 hG) ?_
      refine E_aload_n 0 dX3_take_69 rfl rfl ?_
      refine E_geti 3 3 2 7 dX3_take_70 fl_RX3_29 rfl sh_2 ?_
      have c3 := hy.1
      replace hy := hy.2
      refine E_ca 1 200 ((u2 I 2 4 (I 2 3)) 2 3).toNatClampNeg dX3_take_73 sh_1 c3 rfl ?_
      refine E_cs (M := mX3_take) (pc := 74) (As := [.int ((u2 I 2 4 (I 2 3)) 1 ((u2 I 2 4 (I 2 3)) 2 3).toNatClampNeg)]) (st := []) mX3_isDigit 1 dX3_take_74 lk_RX3_119 rfl (Nat.le_of_ble_eq_true rfl) ⟨rfl, rfl⟩ (Nat.le_of_ble_eq_true rfl) rfl hy ?_
      rintro r n I4 G4 J4 ⟨v4, rfl, rfl, rfl, rfl, rfl, hy⟩
      show Ev (d + 1) mX3_take 136 77 [some (.ref 2)] [.int v4] 136 (u2 I 2 4 (I 2 3)) G J Φ
      refine E_if_eq 87 dX3_take_77 rfl (fun h5 => ?_) (fun h5 => ?_)
      · replace hy := hy.1 h5
        refine E_aload_n 0 dX3_take_87 rfl rfl ?_
        refine E_aload_n 0 dX3_take_88 rfl rfl ?_
        refine E_getr 3 0 2 7 1 dX3_take_89 fl_RX3_15 rfl sh_2 (wg_2_0 hG) ?_
        refine E_aload_n 0 dX3_take_92 rfl rfl ?_
        refine E_geti 3 3 2 7 dX3_take_93 fl_RX3_29 rfl sh_2 ?_
        have c6 := hy.1
        replace hy := hy.2
        refine E_ca 1 200 ((u2 I 2 4 (I 2 3)) 2 3).toNatClampNeg dX3_take_96 sh_1 c6 rfl ?_
        refine E_cs (M := mX3_take) (pc := 97) (As := [.int ((u2 I 2 4 (I 2 3)) 1 ((u2 I 2 4 (I 2 3)) 2 3).toNatClampNeg)]) (st := [.ref 2]) mX3_isSign 1 dX3_take_97 lk_RX3_126 rfl (Nat.le_of_ble_eq_true rfl) ⟨rfl, rfl⟩ (Nat.le_of_ble_eq_true rfl) rfl hy ?_
        rintro r n I7 G7 J7 ⟨v7, rfl, rfl, rfl, rfl, rfl, hy⟩
        show Ev (d + 1) mX3_take 136 100 [some (.ref 2)] [.int v7, .ref 2] 136 (u2 I 2 4 (I 2 3)) G J Φ
        refine E_if_eq 115 dX3_take_100 rfl (fun h8 => ?_) (fun h8 => ?_)
        · replace hy := hy.1 h8
          refine E_iconst (1 : Int32) dX3_take_115 rfl ?_
          refine E_puti 3 5 2 7 dX3_take_116 fl_RX3_40 rfl sh_2 ⟨_, rfl, rfl⟩ rfl rfl ?_
          refine E_aload_n 0 dX3_take_119 rfl rfl ?_
          refine E_dup dX3_take_120 rfl ?_
          refine E_geti 3 3 2 7 dX3_take_121 fl_RX3_29 rfl sh_2 ?_
          refine E_iconst (1 : Int32) dX3_take_124 rfl ?_
          refine E_iadd dX3_take_125 ?_
          refine E_puti 3 3 2 7 dX3_take_126 fl_RX3_29 rfl sh_2 ⟨_, rfl, rfl⟩ rfl rfl ?_
          exact E_rv dX3_take_129 rfl ⟨rfl, rfl⟩ hy
        · replace hy := hy.2 h8
          refine E_aload_n 0 dX3_take_103 rfl rfl ?_
          refine E_getr 3 0 2 7 1 dX3_take_104 fl_RX3_15 rfl sh_2 (wg_2_0 hG) ?_
          refine E_aload_n 0 dX3_take_107 rfl rfl ?_
          refine E_geti 3 3 2 7 dX3_take_108 fl_RX3_29 rfl sh_2 ?_
          have c9 := hy.1
          replace hy := hy.2
          refine E_ca 1 200 ((u2 I 2 4 (I 2 3)) 2 3).toNatClampNeg dX3_take_111 sh_1 c9 rfl ?_
          refine E_goto 116 dX3_take_112 rfl ?_
          refine E_puti 3 5 2 7 dX3_take_116 fl_RX3_40 rfl sh_2 ⟨_, rfl, rfl⟩ rfl rfl ?_
          refine E_aload_n 0 dX3_take_119 rfl rfl ?_
          refine E_dup dX3_take_120 rfl ?_
          refine E_geti 3 3 2 7 dX3_take_121 fl_RX3_29 rfl sh_2 ?_
          refine E_iconst (1 : Int32) dX3_take_124 rfl ?_
          refine E_iadd dX3_take_125 ?_
          refine E_puti 3 3 2 7 dX3_take_126 fl_RX3_29 rfl sh_2 ⟨_, rfl, rfl⟩ rfl rfl ?_
          exact E_rv dX3_take_129 rfl ⟨rfl, rfl⟩ hy
      · replace hy := hy.2 h5
        refine E_aload_n 0 dX3_take_80 rfl rfl ?_
        refine E_cv (M := mX3_take) (pc := 81) (As := []) (st := []) mX3_takeNumber 0 3 7 dX3_take_81 lk_RX3_123 ⟨_, rfl, rfl⟩ sh_2 rfl (Nat.le_of_ble_eq_true rfl) ⟨rfl, rfl⟩ (Nat.le_of_ble_eq_true rfl) rfl hy ?_
        rintro r n I10 G10 J10 ⟨rfl, rfl, rfl, rfl, hy⟩
        show Ev (d + 1) mX3_take 136 84 [some (.ref 2)] [] 136 I10 G J Φ
        refine E_goto 129 dX3_take_84 rfl ?_
        exact E_rv dX3_take_129 rfl ⟨rfl, rfl⟩ hy
    · replace hy := hy.2 h2
      refine E_aload_n 0 dX3_take_57 rfl rfl ?_
      refine E_iconst (0 : Int32) dX3_take_58 rfl ?_
      refine E_puti 3 5 2 7 dX3_take_59 fl_RX3_40 rfl sh_2 ⟨_, rfl, rfl⟩ rfl rfl ?_
      refine E_goto 129 dX3_take_62 rfl ?_
      exact E_rv dX3_take_129 rfl ⟨rfl, rfl⟩ hy
  · replace hy := hy.2 h1
    refine E_aload_n 0 dX3_take_11 rfl rfl ?_
    refine E_getr 3 0 2 7 1 dX3_take_12 fl_RX3_15 rfl sh_2 (wg_2_0 hG) ?_
    refine E_aload_n 0 dX3_take_15 rfl rfl ?_
    refine E_geti 3 3 2 7 dX3_take_16 fl_RX3_29 rfl sh_2 ?_
    have c11 := hy.1
    replace hy := hy.2
    refine E_ca 1 200 (I 2 3).toNatClampNeg dX3_take_19 sh_1 c11 rfl ?_
    refine E_bipush (32 : Int32) dX3_take_20 rfl ?_
    refine E_icmp_ne 38 dX3_take_22 rfl (fun h12 => ?_) (fun h12 => ?_)
    · replace hy := hy.1 h12
      refine E_aload_n 0 dX3_take_38 rfl rfl ?_
      refine E_aload_n 0 dX3_take_39 rfl rfl ?_
      refine E_geti 3 3 2 7 dX3_take_40 fl_RX3_29 rfl sh_2 ?_
      refine E_puti 3 4 2 7 dX3_take_43 fl_RX3_47 rfl sh_2 ⟨_, rfl, rfl⟩ rfl rfl ?_
      refine E_aload_n 0 dX3_take_46 rfl rfl ?_
      refine E_geti 3 3 2 7 dX3_take_47 fl_RX3_29 rfl sh_2 ?_
      refine E_aload_n 0 dX3_take_50 rfl rfl ?_
      refine E_geti 3 2 2 7 dX3_take_51 fl_RX3_25 rfl sh_2 ?_
      refine E_icmp_lt 65 dX3_take_54 rfl (fun h13 => ?_) (fun h13 => ?_)
      · replace hy := hy.1 h13
        refine E_aload_n 0 dX3_take_65 rfl rfl ?_
        refine E_getr 3 0 2 7 1 dX3_take_66 fl_RX3_15 rfl sh_2 (wg_2_0 hG) ?_
        refine E_aload_n 0 dX3_take_69 rfl rfl ?_
        refine E_geti 3 3 2 7 dX3_take_70 fl_RX3_29 rfl sh_2 ?_
        have c14 := hy.1
        replace hy := hy.2
        refine E_ca 1 200 ((u2 I 2 4 (I 2 3)) 2 3).toNatClampNeg dX3_take_73 sh_1 c14 rfl ?_
        refine E_cs (M := mX3_take) (pc := 74) (As := [.int ((u2 I 2 4 (I 2 3)) 1 ((u2 I 2 4 (I 2 3)) 2 3).toNatClampNeg)]) (st := []) mX3_isDigit 1 dX3_take_74 lk_RX3_119 rfl (Nat.le_of_ble_eq_true rfl) ⟨rfl, rfl⟩ (Nat.le_of_ble_eq_true rfl) rfl hy ?_
        rintro r n I15 G15 J15 ⟨v15, rfl, rfl, rfl, rfl, rfl, hy⟩
        show Ev (d + 1) mX3_take 136 77 [some (.ref 2)] [.int v15] 136 (u2 I 2 4 (I 2 3)) G J Φ
        refine E_if_eq 87 dX3_take_77 rfl (fun h16 => ?_) (fun h16 => ?_)
        · replace hy := hy.1 h16
          refine E_aload_n 0 dX3_take_87 rfl rfl ?_
          refine E_aload_n 0 dX3_take_88 rfl rfl ?_
          refine E_getr 3 0 2 7 1 dX3_take_89 fl_RX3_15 rfl sh_2 (wg_2_0 hG) ?_
          refine E_aload_n 0 dX3_take_92 rfl rfl ?_
          refine E_geti 3 3 2 7 dX3_take_93 fl_RX3_29 rfl sh_2 ?_
          have c17 := hy.1
          replace hy := hy.2
          refine E_ca 1 200 ((u2 I 2 4 (I 2 3)) 2 3).toNatClampNeg dX3_take_96 sh_1 c17 rfl ?_
          refine E_cs (M := mX3_take) (pc := 97) (As := [.int ((u2 I 2 4 (I 2 3)) 1 ((u2 I 2 4 (I 2 3)) 2 3).toNatClampNeg)]) (st := [.ref 2]) mX3_isSign 1 dX3_take_97 lk_RX3_126 rfl (Nat.le_of_ble_eq_true rfl) ⟨rfl, rfl⟩ (Nat.le_of_ble_eq_true rfl) rfl hy ?_
          rintro r n I18 G18 J18 ⟨v18, rfl, rfl, rfl, rfl, rfl, hy⟩
          show Ev (d + 1) mX3_take 136 100 [some (.ref 2)] [.int v18, .ref 2] 136 (u2 I 2 4 (I 2 3)) G J Φ
          refine E_if_eq 115 dX3_take_100 rfl (fun h19 => ?_) (fun h19 => ?_)
          · replace hy := hy.1 h19
            refine E_iconst (1 : Int32) dX3_take_115 rfl ?_
            refine E_puti 3 5 2 7 dX3_take_116 fl_RX3_40 rfl sh_2 ⟨_, rfl, rfl⟩ rfl rfl ?_
            refine E_aload_n 0 dX3_take_119 rfl rfl ?_
            refine E_dup dX3_take_120 rfl ?_
            refine E_geti 3 3 2 7 dX3_take_121 fl_RX3_29 rfl sh_2 ?_
            refine E_iconst (1 : Int32) dX3_take_124 rfl ?_
            refine E_iadd dX3_take_125 ?_
            refine E_puti 3 3 2 7 dX3_take_126 fl_RX3_29 rfl sh_2 ⟨_, rfl, rfl⟩ rfl rfl ?_
            exact E_rv dX3_take_129 rfl ⟨rfl, rfl⟩ hy
          · replace hy := hy.2 h19
            refine E_aload_n 0 dX3_take_103 rfl rfl ?_
            refine E_getr 3 0 2 7 1 dX3_take_104 fl_RX3_15 rfl sh_2 (wg_2_0 hG) ?_
            refine E_aload_n 0 dX3_take_107 rfl rfl ?_
            refine E_geti 3 3 2 7 dX3_take_108 fl_RX3_29 rfl sh_2 ?_
            have c20 := hy.1
            replace hy := hy.2
            refine E_ca 1 200 ((u2 I 2 4 (I 2 3)) 2 3).toNatClampNeg dX3_take_111 sh_1 c20 rfl ?_
            refine E_goto 116 dX3_take_112 rfl ?_
            refine E_puti 3 5 2 7 dX3_take_116 fl_RX3_40 rfl sh_2 ⟨_, rfl, rfl⟩ rfl rfl ?_
            refine E_aload_n 0 dX3_take_119 rfl rfl ?_
            refine E_dup dX3_take_120 rfl ?_
            refine E_geti 3 3 2 7 dX3_take_121 fl_RX3_29 rfl sh_2 ?_
            refine E_iconst (1 : Int32) dX3_take_124 rfl ?_
            refine E_iadd dX3_take_125 ?_
            refine E_puti 3 3 2 7 dX3_take_126 fl_RX3_29 rfl sh_2 ⟨_, rfl, rfl⟩ rfl rfl ?_
            exact E_rv dX3_take_129 rfl ⟨rfl, rfl⟩ hy
        · replace hy := hy.2 h16
          refine E_aload_n 0 dX3_take_80 rfl rfl ?_
          refine E_cv (M := mX3_take) (pc := 81) (As := []) (st := []) mX3_takeNumber 0 3 7 dX3_take_81 lk_RX3_123 ⟨_, rfl, rfl⟩ sh_2 rfl (Nat.le_of_ble_eq_true rfl) ⟨rfl, rfl⟩ (Nat.le_of_ble_eq_true rfl) rfl hy ?_
          rintro r n I21 G21 J21 ⟨rfl, rfl, rfl, rfl, hy⟩
          show Ev (d + 1) mX3_take 136 84 [some (.ref 2)] [] 136 I21 G J Φ
          refine E_goto 129 dX3_take_84 rfl ?_
          exact E_rv dX3_take_129 rfl ⟨rfl, rfl⟩ hy
      · replace hy := hy.2 h13
        refine E_aload_n 0 dX3_take_57 rfl rfl ?_
        refine E_iconst (0 : Int32) dX3_take_58 rfl ?_
        refine E_puti 3 5 2 7 dX3_take_59 fl_RX3_40 rfl sh_2 ⟨_, rfl, rfl⟩ rfl rfl ?_
        refine E_goto 129 dX3_take_62 rfl ?_
        exact E_rv dX3_take_129 rfl ⟨rfl, rfl⟩ hy
    · replace hy := hy.2 (Decidable.not_not.mp h12)
      refine E_aload_n 0 dX3_take_25 rfl rfl ?_
      refine E_dup dX3_take_26 rfl ?_
      refine E_geti 3 3 2 7 dX3_take_27 fl_RX3_29 rfl sh_2 ?_
      refine E_iconst (1 : Int32) dX3_take_30 rfl ?_
      refine E_iadd dX3_take_31 ?_
      refine E_puti 3 3 2 7 dX3_take_32 fl_RX3_29 rfl sh_2 ⟨_, rfl, rfl⟩ rfl rfl ?_
      refine E_goto 0 dX3_take_35 rfl ?_
      exact hy

set_option maxRecDepth 100000 in
theorem w_X3_take_0 {d : Nat} {I : MI} {G : MG} {J : MJ} {Φ : Ph} (hG : WG G)  (hy : ((I 2 2) ≤ (I 2 3) → (((u2 I 2 4 (I 2 3)) 2 3) < ((u2 I 2 4 (I 2 3)) 2 2) → vp_in ((u2 I 2 4 (I 2 3)) 2 3) 200 ∧ (Ev d mX3_isDigit 136 0 [some (.int ((u2 I 2 4 (I 2 3)) 1 ((u2 I 2 4 (I 2 3)) 2 3).toNatClampNeg))] [] 136 (u2 I 2 4 (I 2 3)) G J (fun r n I4 G4 J4 => ∃ v4 : Int32, r = some (.int v4) ∧ n = 136 ∧ (u2 I 2 4 (I 2 3)) = I4 ∧ G = G4 ∧ J = J4 ∧ ((v4 = 0 → vp_in ((u2 I 2 4 (I 2 3)) 2 3) 200 ∧ (Ev d mX3_isSign 136 0 [some (.int ((u2 I 2 4 (I 2 3)) 1 ((u2 I 2 4 (I 2 3)) 2 3).toNatClampNeg))] [] 136 (u2 I 2 4 (I 2 3)) G J (fun r n I7 G7 J7 => ∃ v7 : Int32, r = some (.int v7) ∧ n = 136 ∧ (u2 I 2 4 (I 2 3)) = I7 ∧ G = G7 ∧ J = J7 ∧ ((v7 = 0 → Φ none 136 (u2 (u2 (u2 I 2 4 (I 2 3)) 2 5 (1 : Int32)) 2 3 (((u2 (u2 I 2 4 (I 2 3)) 2 5 (1 : Int32)) 2 3) + (1 : Int32))) G J) ∧ (¬ v7 = 0 → vp_in ((u2 I 2 4 (I 2 3)) 2 3) 200 ∧ (Φ none 136 (u2 (u2 (u2 I 2 4 (I 2 3)) 2 5 ((u2 I 2 4 (I 2 3)) 1 ((u2 I 2 4 (I 2 3)) 2 3).toNatClampNeg)) 2 3 (((u2 (u2 I 2 4 (I 2 3)) 2 5 ((u2 I 2 4 (I 2 3)) 1 ((u2 I 2 4 (I 2 3)) 2 3).toNatClampNeg)) 2 3) + (1 : Int32))) G J)))))) ∧ (¬ v4 = 0 → Ev d mX3_takeNumber 136 0 [some (.ref 2), none, none] [] 136 (u2 I 2 4 (I 2 3)) G J (fun r n I10 G10 J10 => r = none ∧ n = 136 ∧ G = G10 ∧ J = J10 ∧ (Φ none 136 I10 G J))))))) ∧ (¬ ((u2 I 2 4 (I 2 3)) 2 3) < ((u2 I 2 4 (I 2 3)) 2 2) → Φ none 136 (u2 (u2 I 2 4 (I 2 3)) 2 5 (0 : Int32)) G J)) ∧ (¬ (I 2 2) ≤ (I 2 3) → vp_in (I 2 3) 200 ∧ ((¬ (I 1 (I 2 3).toNatClampNeg) = (32 : Int32) → (((u2 I 2 4 (I 2 3)) 2 3) < ((u2 I 2 4 (I 2 3)) 2 2) → vp_in ((u2 I 2 4 (I 2 3)) 2 3) 200 ∧ (Ev d mX3_isDigit 136 0 [some (.int ((u2 I 2 4 (I 2 3)) 1 ((u2 I 2 4 (I 2 3)) 2 3).toNatClampNeg))] [] 136 (u2 I 2 4 (I 2 3)) G J (fun r n I15 G15 J15 => ∃ v15 : Int32, r = some (.int v15) ∧ n = 136 ∧ (u2 I 2 4 (I 2 3)) = I15 ∧ G = G15 ∧ J = J15 ∧ ((v15 = 0 → vp_in ((u2 I 2 4 (I 2 3)) 2 3) 200 ∧ (Ev d mX3_isSign 136 0 [some (.int ((u2 I 2 4 (I 2 3)) 1 ((u2 I 2 4 (I 2 3)) 2 3).toNatClampNeg))] [] 136 (u2 I 2 4 (I 2 3)) G J (fun r n I18 G18 J18 => ∃ v18 : Int32, r = some (.int v18) ∧ n = 136 ∧ (u2 I 2 4 (I 2 3)) = I18 ∧ G = G18 ∧ J = J18 ∧ ((v18 = 0 → Φ none 136 (u2 (u2 (u2 I 2 4 (I 2 3)) 2 5 (1 : Int32)) 2 3 (((u2 (u2 I 2 4 (I 2 3)) 2 5 (1 : Int32)) 2 3) + (1 : Int32))) G J) ∧ (¬ v18 = 0 → vp_in ((u2 I 2 4 (I 2 3)) 2 3) 200 ∧ (Φ none 136 (u2 (u2 (u2 I 2 4 (I 2 3)) 2 5 ((u2 I 2 4 (I 2 3)) 1 ((u2 I 2 4 (I 2 3)) 2 3).toNatClampNeg)) 2 3 (((u2 (u2 I 2 4 (I 2 3)) 2 5 ((u2 I 2 4 (I 2 3)) 1 ((u2 I 2 4 (I 2 3)) 2 3).toNatClampNeg)) 2 3) + (1 : Int32))) G J)))))) ∧ (¬ v15 = 0 → Ev d mX3_takeNumber 136 0 [some (.ref 2), none, none] [] 136 (u2 I 2 4 (I 2 3)) G J (fun r n I21 G21 J21 => r = none ∧ n = 136 ∧ G = G21 ∧ J = J21 ∧ (Φ none 136 I21 G J))))))) ∧ (¬ ((u2 I 2 4 (I 2 3)) 2 3) < ((u2 I 2 4 (I 2 3)) 2 2) → Φ none 136 (u2 (u2 I 2 4 (I 2 3)) 2 5 (0 : Int32)) G J)) ∧ ((I 1 (I 2 3).toNatClampNeg) = (32 : Int32) → Ev (d + 1) mX3_take 136 0 [some (.ref 2)] [] 136 (u2 I 2 3 ((I 2 3) + (1 : Int32))) G J Φ)))) : Ev (d + 1) mX3_take 136 0 [some (.ref 2)] [] 136 I G J Φ := by
  refine E_aload_n 0 dX3_take_0 rfl rfl ?_
  refine E_geti 3 3 2 7 dX3_take_1 fl_RX3_29 rfl sh_2 ?_
  refine E_aload_n 0 dX3_take_4 rfl rfl ?_
  refine E_geti 3 2 2 7 dX3_take_5 fl_RX3_25 rfl sh_2 ?_
  refine E_icmp_ge 38 dX3_take_8 rfl (fun h1 => ?_) (fun h1 => ?_)
  · replace hy := hy.1 h1
    refine E_aload_n 0 dX3_take_38 rfl rfl ?_
    refine E_aload_n 0 dX3_take_39 rfl rfl ?_
    refine E_geti 3 3 2 7 dX3_take_40 fl_RX3_29 rfl sh_2 ?_
    refine E_puti 3 4 2 7 dX3_take_43 fl_RX3_47 rfl sh_2 ⟨_, rfl, rfl⟩ rfl rfl ?_
    refine E_aload_n 0 dX3_take_46 rfl rfl ?_
    refine E_geti 3 3 2 7 dX3_take_47 fl_RX3_29 rfl sh_2 ?_
    refine E_aload_n 0 dX3_take_50 rfl rfl ?_
    refine E_geti 3 2 2 7 dX3_take_51 fl_RX3_25 rfl sh_2 ?_
    refine E_icmp_lt 65 dX3_take_54 rfl (fun h2 => ?_) (fun h2 => ?_)
    · replace hy := hy.1 h2
      refine E_aload_n 0 dX3_take_65 rfl rfl ?_
      refine E_getr 3 0 2 7 1 dX3_take_66 fl_RX3_15 rfl sh_2 (wg_2_0 hG) ?_
      refine E_aload_n 0 dX3_take_69 rfl rfl ?_
      refine E_geti 3 3 2 7 dX3_take_70 fl_RX3_29 rfl sh_2 ?_
      have c3 := hy.1
      replace hy := hy.2
      refine E_ca 1 200 ((u2 I 2 4 (I 2 3)) 2 3).toNatClampNeg dX3_take_73 sh_1 c3 rfl ?_
      refine E_cs (M := mX3_take) (pc := 74) (As := [.int ((u2 I 2 4 (I 2 3)) 1 ((u2 I 2 4 (I 2 3)) 2 3).toNatClampNeg)]) (st := []) mX3_isDigit 1 dX3_take_74 lk_RX3_119 rfl (Nat.le_of_ble_eq_true rfl) ⟨rfl, rfl⟩ (Nat.le_of_ble_eq_true rfl) rfl hy ?_
      rintro r n I4 G4 J4 ⟨v4, rfl, rfl, rfl, rfl, rfl, hy⟩
      show Ev (d + 1) mX3_take 136 77 [some (.ref 2)] [.int v4] 136 (u2 I 2 4 (I 2 3)) G J Φ
      refine E_if_eq 87 dX3_take_77 rfl (fun h5 => ?_) (fun h5 => ?_)
      · replace hy := hy.1 h5
        refine E_aload_n 0 dX3_take_87 rfl rfl ?_
        refine E_aload_n 0 dX3_take_88 rfl rfl ?_
        refine E_getr 3 0 2 7 1 dX3_take_89 fl_RX3_15 rfl sh_2 (wg_2_0 hG) ?_
        refine E_aload_n 0 dX3_take_92 rfl rfl ?_
        refine E_geti 3 3 2 7 dX3_take_93 fl_RX3_29 rfl sh_2 ?_
        have c6 := hy.1
        replace hy := hy.2
        refine E_ca 1 200 ((u2 I 2 4 (I 2 3)) 2 3).toNatClampNeg dX3_take_96 sh_1 c6 rfl ?_
        refine E_cs (M := mX3_take) (pc := 97) (As := [.int ((u2 I 2 4 (I 2 3)) 1 ((u2 I 2 4 (I 2 3)) 2 3).toNatClampNeg)]) (st := [.ref 2]) mX3_isSign 1 dX3_take_97 lk_RX3_126 rfl (Nat.le_of_ble_eq_true rfl) ⟨rfl, rfl⟩ (Nat.le_of_ble_eq_true rfl) rfl hy ?_
        rintro r n I7 G7 J7 ⟨v7, rfl, rfl, rfl, rfl, rfl, hy⟩
        show Ev (d + 1) mX3_take 136 100 [some (.ref 2)] [.int v7, .ref 2] 136 (u2 I 2 4 (I 2 3)) G J Φ
        refine E_if_eq 115 dX3_take_100 rfl (fun h8 => ?_) (fun h8 => ?_)
        · replace hy := hy.1 h8
          refine E_iconst (1 : Int32) dX3_take_115 rfl ?_
          refine E_puti 3 5 2 7 dX3_take_116 fl_RX3_40 rfl sh_2 ⟨_, rfl, rfl⟩ rfl rfl ?_
          refine E_aload_n 0 dX3_take_119 rfl rfl ?_
          refine E_dup dX3_take_120 rfl ?_
          refine E_geti 3 3 2 7 dX3_take_121 fl_RX3_29 rfl sh_2 ?_
          refine E_iconst (1 : Int32) dX3_take_124 rfl ?_
          refine E_iadd dX3_take_125 ?_
          refine E_puti 3 3 2 7 dX3_take_126 fl_RX3_29 rfl sh_2 ⟨_, rfl, rfl⟩ rfl rfl ?_
          exact E_rv dX3_take_129 rfl ⟨rfl, rfl⟩ hy
        · replace hy := hy.2 h8
          refine E_aload_n 0 dX3_take_103 rfl rfl ?_
          refine E_getr 3 0 2 7 1 dX3_take_104 fl_RX3_15 rfl sh_2 (wg_2_0 hG) ?_
          refine E_aload_n 0 dX3_take_107 rfl rfl ?_
          refine E_geti 3 3 2 7 dX3_take_108 fl_RX3_29 rfl sh_2 ?_
          have c9 := hy.1
          replace hy := hy.2
          refine E_ca 1 200 ((u2 I 2 4 (I 2 3)) 2 3).toNatClampNeg dX3_take_111 sh_1 c9 rfl ?_
          refine E_goto 116 dX3_take_112 rfl ?_
          refine E_puti 3 5 2 7 dX3_take_116 fl_RX3_40 rfl sh_2 ⟨_, rfl, rfl⟩ rfl rfl ?_
          refine E_aload_n 0 dX3_take_119 rfl rfl ?_
          refine E_dup dX3_take_120 rfl ?_
          refine E_geti 3 3 2 7 dX3_take_121 fl_RX3_29 rfl sh_2 ?_
          refine E_iconst (1 : Int32) dX3_take_124 rfl ?_
          refine E_iadd dX3_take_125 ?_
          refine E_puti 3 3 2 7 dX3_take_126 fl_RX3_29 rfl sh_2 ⟨_, rfl, rfl⟩ rfl rfl ?_
          exact E_rv dX3_take_129 rfl ⟨rfl, rfl⟩ hy
      · replace hy := hy.2 h5
        refine E_aload_n 0 dX3_take_80 rfl rfl ?_
        refine E_cv (M := mX3_take) (pc := 81) (As := []) (st := []) mX3_takeNumber 0 3 7 dX3_take_81 lk_RX3_123 ⟨_, rfl, rfl⟩ sh_2 rfl (Nat.le_of_ble_eq_true rfl) ⟨rfl, rfl⟩ (Nat.le_of_ble_eq_true rfl) rfl hy ?_
        rintro r n I10 G10 J10 ⟨rfl, rfl, rfl, rfl, hy⟩
        show Ev (d + 1) mX3_take 136 84 [some (.ref 2)] [] 136 I10 G J Φ
        refine E_goto 129 dX3_take_84 rfl ?_
        exact E_rv dX3_take_129 rfl ⟨rfl, rfl⟩ hy
    · replace hy := hy.2 h2
      refine E_aload_n 0 dX3_take_57 rfl rfl ?_
      refine E_iconst (0 : Int32) dX3_take_58 rfl ?_
      refine E_puti 3 5 2 7 dX3_take_59 fl_RX3_40 rfl sh_2 ⟨_, rfl, rfl⟩ rfl rfl ?_
      refine E_goto 129 dX3_take_62 rfl ?_
      exact E_rv dX3_take_129 rfl ⟨rfl, rfl⟩ hy
  · replace hy := hy.2 h1
    refine E_aload_n 0 dX3_take_11 rfl rfl ?_
    refine E_getr 3 0 2 7 1 dX3_take_12 fl_RX3_15 rfl sh_2 (wg_2_0 hG) ?_
    refine E_aload_n 0 dX3_take_15 rfl rfl ?_
    refine E_geti 3 3 2 7 dX3_take_16 fl_RX3_29 rfl sh_2 ?_
    have c11 := hy.1
    replace hy := hy.2
    refine E_ca 1 200 (I 2 3).toNatClampNeg dX3_take_19 sh_1 c11 rfl ?_
    refine E_bipush (32 : Int32) dX3_take_20 rfl ?_
    refine E_icmp_ne 38 dX3_take_22 rfl (fun h12 => ?_) (fun h12 => ?_)
    · replace hy := hy.1 h12
      refine E_aload_n 0 dX3_take_38 rfl rfl ?_
      refine E_aload_n 0 dX3_take_39 rfl rfl ?_
      refine E_geti 3 3 2 7 dX3_take_40 fl_RX3_29 rfl sh_2 ?_
      refine E_puti 3 4 2 7 dX3_take_43 fl_RX3_47 rfl sh_2 ⟨_, rfl, rfl⟩ rfl rfl ?_
      refine E_aload_n 0 dX3_take_46 rfl rfl ?_
      refine E_geti 3 3 2 7 dX3_take_47 fl_RX3_29 rfl sh_2 ?_
      refine E_aload_n 0 dX3_take_50 rfl rfl ?_
      refine E_geti 3 2 2 7 dX3_take_51 fl_RX3_25 rfl sh_2 ?_
      refine E_icmp_lt 65 dX3_take_54 rfl (fun h13 => ?_) (fun h13 => ?_)
      · replace hy := hy.1 h13
        refine E_aload_n 0 dX3_take_65 rfl rfl ?_
        refine E_getr 3 0 2 7 1 dX3_take_66 fl_RX3_15 rfl sh_2 (wg_2_0 hG) ?_
        refine E_aload_n 0 dX3_take_69 rfl rfl ?_
        refine E_geti 3 3 2 7 dX3_take_70 fl_RX3_29 rfl sh_2 ?_
        have c14 := hy.1
        replace hy := hy.2
        refine E_ca 1 200 ((u2 I 2 4 (I 2 3)) 2 3).toNatClampNeg dX3_take_73 sh_1 c14 rfl ?_
        refine E_cs (M := mX3_take) (pc := 74) (As := [.int ((u2 I 2 4 (I 2 3)) 1 ((u2 I 2 4 (I 2 3)) 2 3).toNatClampNeg)]) (st := []) mX3_isDigit 1 dX3_take_74 lk_RX3_119 rfl (Nat.le_of_ble_eq_true rfl) ⟨rfl, rfl⟩ (Nat.le_of_ble_eq_true rfl) rfl hy ?_
        rintro r n I15 G15 J15 ⟨v15, rfl, rfl, rfl, rfl, rfl, hy⟩
        show Ev (d + 1) mX3_take 136 77 [some (.ref 2)] [.int v15] 136 (u2 I 2 4 (I 2 3)) G J Φ
        refine E_if_eq 87 dX3_take_77 rfl (fun h16 => ?_) (fun h16 => ?_)
        · replace hy := hy.1 h16
          refine E_aload_n 0 dX3_take_87 rfl rfl ?_
          refine E_aload_n 0 dX3_take_88 rfl rfl ?_
          refine E_getr 3 0 2 7 1 dX3_take_89 fl_RX3_15 rfl sh_2 (wg_2_0 hG) ?_
          refine E_aload_n 0 dX3_take_92 rfl rfl ?_
          refine E_geti 3 3 2 7 dX3_take_93 fl_RX3_29 rfl sh_2 ?_
          have c17 := hy.1
          replace hy := hy.2
          refine E_ca 1 200 ((u2 I 2 4 (I 2 3)) 2 3).toNatClampNeg dX3_take_96 sh_1 c17 rfl ?_
          refine E_cs (M := mX3_take) (pc := 97) (As := [.int ((u2 I 2 4 (I 2 3)) 1 ((u2 I 2 4 (I 2 3)) 2 3).toNatClampNeg)]) (st := [.ref 2]) mX3_isSign 1 dX3_take_97 lk_RX3_126 rfl (Nat.le_of_ble_eq_true rfl) ⟨rfl, rfl⟩ (Nat.le_of_ble_eq_true rfl) rfl hy ?_
          rintro r n I18 G18 J18 ⟨v18, rfl, rfl, rfl, rfl, rfl, hy⟩
          show Ev (d + 1) mX3_take 136 100 [some (.ref 2)] [.int v18, .ref 2] 136 (u2 I 2 4 (I 2 3)) G J Φ
          refine E_if_eq 115 dX3_take_100 rfl (fun h19 => ?_) (fun h19 => ?_)
          · replace hy := hy.1 h19
            refine E_iconst (1 : Int32) dX3_take_115 rfl ?_
            refine E_puti 3 5 2 7 dX3_take_116 fl_RX3_40 rfl sh_2 ⟨_, rfl, rfl⟩ rfl rfl ?_
            refine E_aload_n 0 dX3_take_119 rfl rfl ?_
            refine E_dup dX3_take_120 rfl ?_
            refine E_geti 3 3 2 7 dX3_take_121 fl_RX3_29 rfl sh_2 ?_
            refine E_iconst (1 : Int32) dX3_take_124 rfl ?_
            refine E_iadd dX3_take_125 ?_
            refine E_puti 3 3 2 7 dX3_take_126 fl_RX3_29 rfl sh_2 ⟨_, rfl, rfl⟩ rfl rfl ?_
            exact E_rv dX3_take_129 rfl ⟨rfl, rfl⟩ hy
          · replace hy := hy.2 h19
            refine E_aload_n 0 dX3_take_103 rfl rfl ?_
            refine E_getr 3 0 2 7 1 dX3_take_104 fl_RX3_15 rfl sh_2 (wg_2_0 hG) ?_
            refine E_aload_n 0 dX3_take_107 rfl rfl ?_
            refine E_geti 3 3 2 7 dX3_take_108 fl_RX3_29 rfl sh_2 ?_
            have c20 := hy.1
            replace hy := hy.2
            refine E_ca 1 200 ((u2 I 2 4 (I 2 3)) 2 3).toNatClampNeg dX3_take_111 sh_1 c20 rfl ?_
            refine E_goto 116 dX3_take_112 rfl ?_
            refine E_puti 3 5 2 7 dX3_take_116 fl_RX3_40 rfl sh_2 ⟨_, rfl, rfl⟩ rfl rfl ?_
            refine E_aload_n 0 dX3_take_119 rfl rfl ?_
            refine E_dup dX3_take_120 rfl ?_
            refine E_geti 3 3 2 7 dX3_take_121 fl_RX3_29 rfl sh_2 ?_
            refine E_iconst (1 : Int32) dX3_take_124 rfl ?_
            refine E_iadd dX3_take_125 ?_
            refine E_puti 3 3 2 7 dX3_take_126 fl_RX3_29 rfl sh_2 ⟨_, rfl, rfl⟩ rfl rfl ?_
            exact E_rv dX3_take_129 rfl ⟨rfl, rfl⟩ hy
        · replace hy := hy.2 h16
          refine E_aload_n 0 dX3_take_80 rfl rfl ?_
          refine E_cv (M := mX3_take) (pc := 81) (As := []) (st := []) mX3_takeNumber 0 3 7 dX3_take_81 lk_RX3_123 ⟨_, rfl, rfl⟩ sh_2 rfl (Nat.le_of_ble_eq_true rfl) ⟨rfl, rfl⟩ (Nat.le_of_ble_eq_true rfl) rfl hy ?_
          rintro r n I21 G21 J21 ⟨rfl, rfl, rfl, rfl, hy⟩
          show Ev (d + 1) mX3_take 136 84 [some (.ref 2)] [] 136 I21 G J Φ
          refine E_goto 129 dX3_take_84 rfl ?_
          exact E_rv dX3_take_129 rfl ⟨rfl, rfl⟩ hy
      · replace hy := hy.2 h13
        refine E_aload_n 0 dX3_take_57 rfl rfl ?_
        refine E_iconst (0 : Int32) dX3_take_58 rfl ?_
        refine E_puti 3 5 2 7 dX3_take_59 fl_RX3_40 rfl sh_2 ⟨_, rfl, rfl⟩ rfl rfl ?_
        refine E_goto 129 dX3_take_62 rfl ?_
        exact E_rv dX3_take_129 rfl ⟨rfl, rfl⟩ hy
    · replace hy := hy.2 (Decidable.not_not.mp h12)
      refine E_aload_n 0 dX3_take_25 rfl rfl ?_
      refine E_dup dX3_take_26 rfl ?_
      refine E_geti 3 3 2 7 dX3_take_27 fl_RX3_29 rfl sh_2 ?_
      refine E_iconst (1 : Int32) dX3_take_30 rfl ?_
      refine E_iadd dX3_take_31 ?_
      refine E_puti 3 3 2 7 dX3_take_32 fl_RX3_29 rfl sh_2 ⟨_, rfl, rfl⟩ rfl rfl ?_
      refine E_goto 0 dX3_take_35 rfl ?_
      exact hy
end
