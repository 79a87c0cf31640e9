section
-- ===== PART A: goes FIRST, ahead of the names: the tables' words, and 'selects' of the private methods out of them =====
/-- a private method of a class that the tables say can be made, by its rows of tables_1 -/
def lw_okq (q : MethodName × Nat) : Prop := (q.1.cls ≠ "java/lang/invoke/MethodHandle" ∧ q.1.cls ≠ "java/lang/invoke/VarHandle") ∧ Cond.instantiable q.1.cls q.2 ∈ tables_1 ∧ Cond.privateMethod q.1 ∈ tables_1 ∧ Cond.instanceMethod q.1 ∈ tables_1
theorem lw_p0 : lw_okq (⟨"DuskStones", "remember", "()V"⟩, 16) := ⟨⟨by decide +kernel, by decide +kernel⟩, List.mem_of_getElem? (i := 11) (by decide +kernel), List.mem_of_getElem? (i := 381) (by decide +kernel), List.mem_of_getElem? (i := 382) (by decide +kernel)⟩
theorem lw_p1 : lw_okq (⟨"DuskStones", "allPush", "(I)V"⟩, 16) := ⟨⟨by decide +kernel, by decide +kernel⟩, List.mem_of_getElem? (i := 11) (by decide +kernel), List.mem_of_getElem? (i := 488) (by decide +kernel), List.mem_of_getElem? (i := 489) (by decide +kernel)⟩
theorem lw_p2 : lw_okq (⟨"DuskStones", "agrees", "(I)Z"⟩, 16) := ⟨⟨by decide +kernel, by decide +kernel⟩, List.mem_of_getElem? (i := 11) (by decide +kernel), List.mem_of_getElem? (i := 548) (by decide +kernel), List.mem_of_getElem? (i := 549) (by decide +kernel)⟩
theorem lw_p3 : lw_okq (⟨"DuskStones", "isOverBehind", "(III)Z"⟩, 16) := ⟨⟨by decide +kernel, by decide +kernel⟩, List.mem_of_getElem? (i := 11) (by decide +kernel), List.mem_of_getElem? (i := 563) (by decide +kernel), List.mem_of_getElem? (i := 564) (by decide +kernel)⟩
theorem lw_p4 : lw_okq (⟨"DuskStones", "rateAs", "(II)I"⟩, 16) := ⟨⟨by decide +kernel, by decide +kernel⟩, List.mem_of_getElem? (i := 11) (by decide +kernel), List.mem_of_getElem? (i := 579) (by decide +kernel), List.mem_of_getElem? (i := 580) (by decide +kernel)⟩
theorem lw_p5 : lw_okq (⟨"DuskStonesModel", "begin", "()V"⟩, 33) := ⟨⟨by decide +kernel, by decide +kernel⟩, List.mem_of_getElem? (i := 607) (by decide +kernel), List.mem_of_getElem? (i := 613) (by decide +kernel), List.mem_of_getElem? (i := 614) (by decide +kernel)⟩
theorem lw_p6 : lw_okq (⟨"DuskStonesModel", "next", "()V"⟩, 33) := ⟨⟨by decide +kernel, by decide +kernel⟩, List.mem_of_getElem? (i := 607) (by decide +kernel), List.mem_of_getElem? (i := 733) (by decide +kernel), List.mem_of_getElem? (i := 734) (by decide +kernel)⟩
theorem lw_p7 : lw_okq (⟨"DuskStonesModel", "takeItem", "()V"⟩, 33) := ⟨⟨by decide +kernel, by decide +kernel⟩, List.mem_of_getElem? (i := 607) (by decide +kernel), List.mem_of_getElem? (i := 742) (by decide +kernel), List.mem_of_getElem? (i := 743) (by decide +kernel)⟩
theorem lw_p8 : lw_okq (⟨"DuskStonesModel", "want", "(Z)Z"⟩, 33) := ⟨⟨by decide +kernel, by decide +kernel⟩, List.mem_of_getElem? (i := 607) (by decide +kernel), List.mem_of_getElem? (i := 746) (by decide +kernel), List.mem_of_getElem? (i := 747) (by decide +kernel)⟩
theorem lw_p9 : lw_okq (⟨"DuskStonesModel", "takeHill", "()V"⟩, 33) := ⟨⟨by decide +kernel, by decide +kernel⟩, List.mem_of_getElem? (i := 607) (by decide +kernel), List.mem_of_getElem? (i := 750) (by decide +kernel), List.mem_of_getElem? (i := 751) (by decide +kernel)⟩
theorem lw_p10 : lw_okq (⟨"DuskStonesModel", "takeNumber", "(II)I"⟩, 33) := ⟨⟨by decide +kernel, by decide +kernel⟩, List.mem_of_getElem? (i := 607) (by decide +kernel), List.mem_of_getElem? (i := 754) (by decide +kernel), List.mem_of_getElem? (i := 755) (by decide +kernel)⟩
theorem lw_p11 : lw_okq (⟨"DuskStonesModel", "takeJoin", "()V"⟩, 33) := ⟨⟨by decide +kernel, by decide +kernel⟩, List.mem_of_getElem? (i := 607) (by decide +kernel), List.mem_of_getElem? (i := 758) (by decide +kernel), List.mem_of_getElem? (i := 759) (by decide +kernel)⟩
theorem lw_p12 : lw_okq (⟨"DuskStonesModel", "isHill", "(I)Z"⟩, 33) := ⟨⟨by decide +kernel, by decide +kernel⟩, List.mem_of_getElem? (i := 607) (by decide +kernel), List.mem_of_getElem? (i := 769) (by decide +kernel), List.mem_of_getElem? (i := 770) (by decide +kernel)⟩
theorem lw_p13 : lw_okq (⟨"DuskStonesModel", "sizeIn", "(II)I"⟩, 33) := ⟨⟨by decide +kernel, by decide +kernel⟩, List.mem_of_getElem? (i := 607) (by decide +kernel), List.mem_of_getElem? (i := 777) (by decide +kernel), List.mem_of_getElem? (i := 778) (by decide +kernel)⟩
theorem lw_p14 : lw_okq (⟨"DuskStonesModel", "sizeBy", "(II)I"⟩, 33) := ⟨⟨by decide +kernel, by decide +kernel⟩, List.mem_of_getElem? (i := 607) (by decide +kernel), List.mem_of_getElem? (i := 781) (by decide +kernel), List.mem_of_getElem? (i := 782) (by decide +kernel)⟩
theorem lw_p15 : lw_okq (⟨"DuskStonesModel", "isOver", "(II)Z"⟩, 33) := ⟨⟨by decide +kernel, by decide +kernel⟩, List.mem_of_getElem? (i := 607) (by decide +kernel), List.mem_of_getElem? (i := 785) (by decide +kernel), List.mem_of_getElem? (i := 786) (by decide +kernel)⟩
def lw_privs_1 : List (MethodName × Nat) := [(⟨"DuskStones", "remember", "()V"⟩, 16), (⟨"DuskStones", "allPush", "(I)V"⟩, 16), (⟨"DuskStones", "agrees", "(I)Z"⟩, 16), (⟨"DuskStones", "isOverBehind", "(III)Z"⟩, 16), (⟨"DuskStones", "rateAs", "(II)I"⟩, 16), (⟨"DuskStonesModel", "begin", "()V"⟩, 33), (⟨"DuskStonesModel", "next", "()V"⟩, 33), (⟨"DuskStonesModel", "takeItem", "()V"⟩, 33), (⟨"DuskStonesModel", "want", "(Z)Z"⟩, 33), (⟨"DuskStonesModel", "takeHill", "()V"⟩, 33), (⟨"DuskStonesModel", "takeNumber", "(II)I"⟩, 33), (⟨"DuskStonesModel", "takeJoin", "()V"⟩, 33), (⟨"DuskStonesModel", "isHill", "(I)Z"⟩, 33), (⟨"DuskStonesModel", "sizeIn", "(II)I"⟩, 33), (⟨"DuskStonesModel", "sizeBy", "(II)I"⟩, 33), (⟨"DuskStonesModel", "isOver", "(II)Z"⟩, 33)]
theorem lw_r1 : ∀ q ∈ lw_privs_1, lw_okq q := List.forall_mem_cons.mpr ⟨lw_p0, List.forall_mem_cons.mpr ⟨lw_p1, List.forall_mem_cons.mpr ⟨lw_p2, List.forall_mem_cons.mpr ⟨lw_p3, List.forall_mem_cons.mpr ⟨lw_p4, List.forall_mem_cons.mpr ⟨lw_p5, List.forall_mem_cons.mpr ⟨lw_p6, List.forall_mem_cons.mpr ⟨lw_p7, List.forall_mem_cons.mpr ⟨lw_p8, List.forall_mem_cons.mpr ⟨lw_p9, List.forall_mem_cons.mpr ⟨lw_p10, List.forall_mem_cons.mpr ⟨lw_p11, List.forall_mem_cons.mpr ⟨lw_p12, List.forall_mem_cons.mpr ⟨lw_p13, List.forall_mem_cons.mpr ⟨lw_p14, List.forall_mem_cons.mpr ⟨lw_p15, fun _ h => absurd h List.not_mem_nil⟩⟩⟩⟩⟩⟩⟩⟩⟩⟩⟩⟩⟩⟩⟩⟩
theorem lw_p16 : lw_okq (⟨"DuskStonesModel", "isMan", "(I)Z"⟩, 33) := ⟨⟨by decide +kernel, by decide +kernel⟩, List.mem_of_getElem? (i := 607) (by decide +kernel), List.mem_of_getElem? (i := 796) (by decide +kernel), List.mem_of_getElem? (i := 797) (by decide +kernel)⟩
theorem lw_p17 : lw_okq (⟨"DuskStonesModel", "over", "()I"⟩, 33) := ⟨⟨by decide +kernel, by decide +kernel⟩, List.mem_of_getElem? (i := 607) (by decide +kernel), List.mem_of_getElem? (i := 804) (by decide +kernel), List.mem_of_getElem? (i := 805) (by decide +kernel)⟩
theorem lw_p18 : lw_okq (⟨"DuskStonesModel", "remember", "()V"⟩, 33) := ⟨⟨by decide +kernel, by decide +kernel⟩, List.mem_of_getElem? (i := 607) (by decide +kernel), List.mem_of_getElem? (i := 812) (by decide +kernel), List.mem_of_getElem? (i := 813) (by decide +kernel)⟩
theorem lw_p19 : lw_okq (⟨"DuskStonesModel", "copy", "(II)V"⟩, 33) := ⟨⟨by decide +kernel, by decide +kernel⟩, List.mem_of_getElem? (i := 607) (by decide +kernel), List.mem_of_getElem? (i := 816) (by decide +kernel), List.mem_of_getElem? (i := 817) (by decide +kernel)⟩
theorem lw_p20 : lw_okq (⟨"DuskStonesModel", "push", "(I)I"⟩, 33) := ⟨⟨by decide +kernel, by decide +kernel⟩, List.mem_of_getElem? (i := 607) (by decide +kernel), List.mem_of_getElem? (i := 824) (by decide +kernel), List.mem_of_getElem? (i := 825) (by decide +kernel)⟩
theorem lw_p21 : lw_okq (⟨"DuskStonesModel", "overIn", "(I)I"⟩, 33) := ⟨⟨by decide +kernel, by decide +kernel⟩, List.mem_of_getElem? (i := 607) (by decide +kernel), List.mem_of_getElem? (i := 828) (by decide +kernel), List.mem_of_getElem? (i := 829) (by decide +kernel)⟩
theorem lw_p22 : lw_okq (⟨"DuskStonesModel", "pushOf", "(II)I"⟩, 33) := ⟨⟨by decide +kernel, by decide +kernel⟩, List.mem_of_getElem? (i := 607) (by decide +kernel), List.mem_of_getElem? (i := 832) (by decide +kernel), List.mem_of_getElem? (i := 833) (by decide +kernel)⟩
theorem lw_p23 : lw_okq (⟨"DuskStonesModel", "blocksIn", "(III)I"⟩, 33) := ⟨⟨by decide +kernel, by decide +kernel⟩, List.mem_of_getElem? (i := 607) (by decide +kernel), List.mem_of_getElem? (i := 836) (by decide +kernel), List.mem_of_getElem? (i := 837) (by decide +kernel)⟩
theorem lw_p24 : lw_okq (⟨"DuskStonesModel", "tire", "(II)V"⟩, 33) := ⟨⟨by decide +kernel, by decide +kernel⟩, List.mem_of_getElem? (i := 607) (by decide +kernel), List.mem_of_getElem? (i := 840) (by decide +kernel), List.mem_of_getElem? (i := 841) (by decide +kernel)⟩
theorem lw_p25 : lw_okq (⟨"DuskStonesModel", "rainsOn", "(I)Z"⟩, 33) := ⟨⟨by decide +kernel, by decide +kernel⟩, List.mem_of_getElem? (i := 607) (by decide +kernel), List.mem_of_getElem? (i := 844) (by decide +kernel), List.mem_of_getElem? (i := 845) (by decide +kernel)⟩
theorem lw_p26 : lw_okq (⟨"DuskStonesModel", "dusk", "(IZ)V"⟩, 33) := ⟨⟨by decide +kernel, by decide +kernel⟩, List.mem_of_getElem? (i := 607) (by decide +kernel), List.mem_of_getElem? (i := 848) (by decide +kernel), List.mem_of_getElem? (i := 849) (by decide +kernel)⟩
theorem lw_p27 : lw_okq (⟨"DuskStonesModel", "isCode", "(II)Z"⟩, 33) := ⟨⟨by decide +kernel, by decide +kernel⟩, List.mem_of_getElem? (i := 607) (by decide +kernel), List.mem_of_getElem? (i := 860) (by decide +kernel), List.mem_of_getElem? (i := 861) (by decide +kernel)⟩
theorem lw_p28 : lw_okq (⟨"DuskStonesModel", "stepBy", "(III)I"⟩, 33) := ⟨⟨by decide +kernel, by decide +kernel⟩, List.mem_of_getElem? (i := 607) (by decide +kernel), List.mem_of_getElem? (i := 864) (by decide +kernel), List.mem_of_getElem? (i := 865) (by decide +kernel)⟩
theorem lw_p29 : lw_okq (⟨"DuskStonesModel", "orderAll", "(III)V"⟩, 33) := ⟨⟨by decide +kernel, by decide +kernel⟩, List.mem_of_getElem? (i := 607) (by decide +kernel), List.mem_of_getElem? (i := 868) (by decide +kernel), List.mem_of_getElem? (i := 869) (by decide +kernel)⟩
theorem lw_p30 : lw_okq (⟨"DuskStonesModel", "goToDusk", "(IZ)V"⟩, 33) := ⟨⟨by decide +kernel, by decide +kernel⟩, List.mem_of_getElem? (i := 607) (by decide +kernel), List.mem_of_getElem? (i := 876) (by decide +kernel), List.mem_of_getElem? (i := 877) (by decide +kernel)⟩
theorem lw_p31 : lw_okq (⟨"DuskStonesModel", "isOverBy", "(II)Z"⟩, 33) := ⟨⟨by decide +kernel, by decide +kernel⟩, List.mem_of_getElem? (i := 607) (by decide +kernel), List.mem_of_getElem? (i := 884) (by decide +kernel), List.mem_of_getElem? (i := 885) (by decide +kernel)⟩
def lw_privs_2 : List (MethodName × Nat) := [(⟨"DuskStonesModel", "isMan", "(I)Z"⟩, 33), (⟨"DuskStonesModel", "over", "()I"⟩, 33), (⟨"DuskStonesModel", "remember", "()V"⟩, 33), (⟨"DuskStonesModel", "copy", "(II)V"⟩, 33), (⟨"DuskStonesModel", "push", "(I)I"⟩, 33), (⟨"DuskStonesModel", "overIn", "(I)I"⟩, 33), (⟨"DuskStonesModel", "pushOf", "(II)I"⟩, 33), (⟨"DuskStonesModel", "blocksIn", "(III)I"⟩, 33), (⟨"DuskStonesModel", "tire", "(II)V"⟩, 33), (⟨"DuskStonesModel", "rainsOn", "(I)Z"⟩, 33), (⟨"DuskStonesModel", "dusk", "(IZ)V"⟩, 33), (⟨"DuskStonesModel", "isCode", "(II)Z"⟩, 33), (⟨"DuskStonesModel", "stepBy", "(III)I"⟩, 33), (⟨"DuskStonesModel", "orderAll", "(III)V"⟩, 33), (⟨"DuskStonesModel", "goToDusk", "(IZ)V"⟩, 33), (⟨"DuskStonesModel", "isOverBy", "(II)Z"⟩, 33)]
theorem lw_r2 : ∀ q ∈ lw_privs_2, lw_okq q := List.forall_mem_cons.mpr ⟨lw_p16, List.forall_mem_cons.mpr ⟨lw_p17, List.forall_mem_cons.mpr ⟨lw_p18, List.forall_mem_cons.mpr ⟨lw_p19, List.forall_mem_cons.mpr ⟨lw_p20, List.forall_mem_cons.mpr ⟨lw_p21, List.forall_mem_cons.mpr ⟨lw_p22, List.forall_mem_cons.mpr ⟨lw_p23, List.forall_mem_cons.mpr ⟨lw_p24, List.forall_mem_cons.mpr ⟨lw_p25, List.forall_mem_cons.mpr ⟨lw_p26, List.forall_mem_cons.mpr ⟨lw_p27, List.forall_mem_cons.mpr ⟨lw_p28, List.forall_mem_cons.mpr ⟨lw_p29, List.forall_mem_cons.mpr ⟨lw_p30, List.forall_mem_cons.mpr ⟨lw_p31, fun _ h => absurd h List.not_mem_nil⟩⟩⟩⟩⟩⟩⟩⟩⟩⟩⟩⟩⟩⟩⟩⟩
theorem lw_p32 : lw_okq (⟨"DuskStonesModel", "stoneRate", "(I)I"⟩, 33) := ⟨⟨by decide +kernel, by decide +kernel⟩, List.mem_of_getElem? (i := 607) (by decide +kernel), List.mem_of_getElem? (i := 936) (by decide +kernel), List.mem_of_getElem? (i := 937) (by decide +kernel)⟩
theorem lw_p33 : lw_okq (⟨"DuskStonesModel", "roundRate", "(I)I"⟩, 33) := ⟨⟨by decide +kernel, by decide +kernel⟩, List.mem_of_getElem? (i := 607) (by decide +kernel), List.mem_of_getElem? (i := 940) (by decide +kernel), List.mem_of_getElem? (i := 941) (by decide +kernel)⟩
theorem lw_p34 : lw_okq (⟨"DuskStonesModel", "splitRate", "(I)I"⟩, 33) := ⟨⟨by decide +kernel, by decide +kernel⟩, List.mem_of_getElem? (i := 607) (by decide +kernel), List.mem_of_getElem? (i := 944) (by decide +kernel), List.mem_of_getElem? (i := 945) (by decide +kernel)⟩
theorem lw_p35 : lw_okq (⟨"DuskStonesModel", "wetRate", "(I)I"⟩, 33) := ⟨⟨by decide +kernel, by decide +kernel⟩, List.mem_of_getElem? (i := 607) (by decide +kernel), List.mem_of_getElem? (i := 949) (by decide +kernel), List.mem_of_getElem? (i := 950) (by decide +kernel)⟩
theorem lw_p36 : lw_okq (⟨"DuskStonesModel", "lentRate", "(I)I"⟩, 33) := ⟨⟨by decide +kernel, by decide +kernel⟩, List.mem_of_getElem? (i := 607) (by decide +kernel), List.mem_of_getElem? (i := 954) (by decide +kernel), List.mem_of_getElem? (i := 955) (by decide +kernel)⟩
theorem lw_p37 : lw_okq (⟨"DuskStonesModel", "hollowRate", "(I)I"⟩, 33) := ⟨⟨by decide +kernel, by decide +kernel⟩, List.mem_of_getElem? (i := 607) (by decide +kernel), List.mem_of_getElem? (i := 959) (by decide +kernel), List.mem_of_getElem? (i := 960) (by decide +kernel)⟩
def lw_privs_3 : List (MethodName × Nat) := [(⟨"DuskStonesModel", "stoneRate", "(I)I"⟩, 33), (⟨"DuskStonesModel", "roundRate", "(I)I"⟩, 33), (⟨"DuskStonesModel", "splitRate", "(I)I"⟩, 33), (⟨"DuskStonesModel", "wetRate", "(I)I"⟩, 33), (⟨"DuskStonesModel", "lentRate", "(I)I"⟩, 33), (⟨"DuskStonesModel", "hollowRate", "(I)I"⟩, 33)]
theorem lw_r3 : ∀ q ∈ lw_privs_3, lw_okq q := List.forall_mem_cons.mpr ⟨lw_p32, List.forall_mem_cons.mpr ⟨lw_p33, List.forall_mem_cons.mpr ⟨lw_p34, List.forall_mem_cons.mpr ⟨lw_p35, List.forall_mem_cons.mpr ⟨lw_p36, List.forall_mem_cons.mpr ⟨lw_p37, fun _ h => absurd h List.not_mem_nil⟩⟩⟩⟩⟩⟩
def lw_privs : List (MethodName × Nat) := lw_privs_1 ++ (lw_privs_2 ++ (lw_privs_3))
def lw_tbl : List Cond := k2_sels lw_privs ++ tables_1
theorem lw_privs_ok : ∀ q ∈ lw_privs, lw_okq q := by
  show ∀ q ∈ lw_privs_1 ++ (lw_privs_2 ++ (lw_privs_3)), lw_okq q
  exact List.forall_mem_append.mpr ⟨lw_r1, List.forall_mem_append.mpr ⟨lw_r2, lw_r3⟩⟩

def RX0 : String := "DuskStones$Climb"
def TX0 : u_T := fun k => match k with
  | 0 => ("DuskStones$Climb", "strength", "[[I", true)
  | 1 => ("DuskStones$Climb", "row", "[I", true)
  | 2 => ("DuskStones$Climb", "bestRow", "[I", true)
  | 3 => ("DuskStones$Climb", "best", "I", false)
  | 4 => ("DuskStones$Climb", "need", "I", false)
  | 5 => ("DuskStones$Climb", "hours", "I", false)
  | _ => ("DuskStones$Climb", "free", "I", false)
def tyX0 : Nat → FieldType := fun k => match k with
  | 0 => .array (.array .int)
  | 1 => .array .int
  | 2 => .array .int
  | 3 => .int
  | 4 => .int
  | 5 => .int
  | _ => .int
theorem nmX0 : ∀ a, a < 7 → ∀ b, b < 7 → a ≠ b → (TX0 a).2.1 ≠ (TX0 b).2.1 := by decide +kernel
theorem tyX0_ok : ∀ k, k < 7 → parseFieldDescriptor (TX0 k).2.2.1 = some (tyX0 k) := by decide +kernel
abbrev cX0_init : ByteArray := prog_2_method_1_code
def yX0_init : MethodName := ⟨RX0, "<init>", "()V"⟩
abbrev cX0_search : ByteArray := prog_2_method_2_code
def yX0_search : MethodName := ⟨RX0, "search", "(LDuskStones$Land;LDuskStones$Moment;I)V"⟩
abbrev cX0_explore : ByteArray := prog_2_method_3_code
def yX0_explore : MethodName := ⟨RX0, "explore", "(LDuskStones$Land;II)V"⟩
abbrev cX0_keepRow : ByteArray := prog_2_method_4_code
def yX0_keepRow : MethodName := ⟨RX0, "keepRow", "(II)V"⟩
abbrev cX0_isJustEnough : ByteArray := prog_2_method_5_code
def yX0_isJustEnough : MethodName := ⟨RX0, "isJustEnough", "(LDuskStones$Land;II)Z"⟩
abbrev cX0_isIn : ByteArray := prog_2_method_6_code
def yX0_isIn : MethodName := ⟨RX0, "isIn", "(II)Z"⟩
abbrev cX0_tire : ByteArray := prog_2_method_7_code
def yX0_tire : MethodName := ⟨RX0, "tire", "(LDuskStones$Land;II)V"⟩
def RX1 : String := "DuskStones$Land"
def TX1 : u_T := fun k => match k with
  | 0 => ("DuskStones$Land", "hills", "I", false)
  | 1 => ("DuskStones$Land", "high", "[I", true)
  | 2 => ("DuskStones$Land", "slope", "[I", true)
  | 3 => ("DuskStones$Land", "ledges", "[I", true)
  | 4 => ("DuskStones$Land", "size", "[I", true)
  | 5 => ("DuskStones$Land", "joins", "I", false)
  | 6 => ("DuskStones$Land", "joinA", "[I", true)
  | 7 => ("DuskStones$Land", "joinB", "[I", true)
  | 8 => ("DuskStones$Land", "joinFrom", "[I", true)
  | 9 => ("DuskStones$Land", "men", "I", false)
  | 10 => ("DuskStones$Land", "force", "[I", true)
  | 11 => ("DuskStones$Land", "hours", "I", false)
  | 12 => ("DuskStones$Land", "rain", "I", false)
  | 13 => ("DuskStones$Land", "hoursTold", "Z", false)
  | _ => ("DuskStones$Land", "rainTold", "Z", false)
def tyX1 : Nat → FieldType := fun k => match k with
  | 0 => .int
  | 1 => .array .int
  | 2 => .array .int
  | 3 => .array .int
  | 4 => .array .int
  | 5 => .int
  | 6 => .array .int
  | 7 => .array .int
  | 8 => .array .int
  | 9 => .int
  | 10 => .array .int
  | 11 => .int
  | 12 => .int
  | 13 => .boolean
  | _ => .boolean
theorem nmX1 : ∀ a, a < 15 → ∀ b, b < 15 → a ≠ b → (TX1 a).2.1 ≠ (TX1 b).2.1 := by decide +kernel
theorem tyX1_ok : ∀ k, k < 15 → parseFieldDescriptor (TX1 k).2.2.1 = some (tyX1 k) := by decide +kernel
abbrev cX1_init : ByteArray := prog_3_method_1_code
def yX1_init : MethodName := ⟨RX1, "<init>", "()V"⟩
abbrev cX1_empty : ByteArray := prog_3_method_2_code
def yX1_empty : MethodName := ⟨RX1, "empty", "()V"⟩
abbrev cX1_hasHill : ByteArray := prog_3_method_3_code
def yX1_hasHill : MethodName := ⟨RX1, "hasHill", "(I)Z"⟩
abbrev cX1_hasMan : ByteArray := prog_3_method_4_code
def yX1_hasMan : MethodName := ⟨RX1, "hasMan", "(I)Z"⟩
abbrev cX1_rainsOn : ByteArray := prog_3_method_5_code
def yX1_rainsOn : MethodName := ⟨RX1, "rainsOn", "(I)Z"⟩
abbrev cX1_hasLedge : ByteArray := prog_3_method_6_code
def yX1_hasLedge : MethodName := ⟨RX1, "hasLedge", "(II)Z"⟩
abbrev cX1_isOnePlace : ByteArray := prog_3_method_7_code
def yX1_isOnePlace : MethodName := ⟨RX1, "isOnePlace", "(III)Z"⟩
abbrev cX1_forceOf : ByteArray := prog_3_method_8_code
def yX1_forceOf : MethodName := ⟨RX1, "forceOf", "(I)I"⟩
abbrev cX1_addHill : ByteArray := prog_3_method_9_code
def yX1_addHill : MethodName := ⟨RX1, "addHill", "([I)V"⟩
abbrev cX1_addJoin : ByteArray := prog_3_method_10_code
def yX1_addJoin : MethodName := ⟨RX1, "addJoin", "([I)V"⟩
abbrev cX1_addMan : ByteArray := prog_3_method_11_code
def yX1_addMan : MethodName := ⟨RX1, "addMan", "(I)V"⟩
def RX2 : String := "DuskStones$Moment"
def TX2 : u_T := fun k => match k with
  | 0 => ("DuskStones$Moment", "day", "I", false)
  | 1 => ("DuskStones$Moment", "hour", "I", false)
  | 2 => ("DuskStones$Moment", "step", "[I", true)
  | 3 => ("DuskStones$Moment", "rolled", "[I", true)
  | 4 => ("DuskStones$Moment", "strength", "[I", true)
  | 5 => ("DuskStones$Moment", "order", "[I", true)
  | 6 => ("DuskStones$Moment", "evening", "[I", true)
  | _ => ("DuskStones$Moment", "evenings", "I", false)
def tyX2 : Nat → FieldType := fun k => match k with
  | 0 => .int
  | 1 => .int
  | 2 => .array .int
  | 3 => .array .int
  | 4 => .array .int
  | 5 => .array .int
  | 6 => .array .int
  | _ => .int
theorem nmX2 : ∀ a, a < 8 → ∀ b, b < 8 → a ≠ b → (TX2 a).2.1 ≠ (TX2 b).2.1 := by decide +kernel
theorem tyX2_ok : ∀ k, k < 8 → parseFieldDescriptor (TX2 k).2.2.1 = some (tyX2 k) := by decide +kernel
abbrev cX2_init : ByteArray := prog_4_method_1_code
def yX2_init : MethodName := ⟨RX2, "<init>", "()V"⟩
abbrev cX2_begin : ByteArray := prog_4_method_2_code
def yX2_begin : MethodName := ⟨RX2, "begin", "(LDuskStones$Land;)V"⟩
abbrev cX2_copyFrom : ByteArray := prog_4_method_3_code
def yX2_copyFrom : MethodName := ⟨RX2, "copyFrom", "(LDuskStones$Moment;)V"⟩
abbrev cX2_isOver : ByteArray := prog_4_method_4_code
def yX2_isOver : MethodName := ⟨RX2, "isOver", "(LDuskStones$Land;I)Z"⟩
abbrev cX2_overBits : ByteArray := prog_4_method_5_code
def yX2_overBits : MethodName := ⟨RX2, "overBits", "(LDuskStones$Land;)I"⟩
abbrev cX2_sizeNow : ByteArray := prog_4_method_6_code
def yX2_sizeNow : MethodName := ⟨RX2, "sizeNow", "(LDuskStones$Land;I)I"⟩
abbrev cX2_needOf : ByteArray := prog_4_method_7_code
def yX2_needOf : MethodName := ⟨RX2, "needOf", "(LDuskStones$Land;I)I"⟩
abbrev cX2_hoursLeft : ByteArray := prog_4_method_8_code
def yX2_hoursLeft : MethodName := ⟨RX2, "hoursLeft", "(LDuskStones$Land;)I"⟩
abbrev cX2_menAt : ByteArray := prog_4_method_9_code
def yX2_menAt : MethodName := ⟨RX2, "menAt", "(LDuskStones$Land;I)I"⟩
abbrev cX2_strengthAt : ByteArray := prog_4_method_10_code
def yX2_strengthAt : MethodName := ⟨RX2, "strengthAt", "(LDuskStones$Land;I)I"⟩
abbrev cX2_strengthAfter : ByteArray := prog_4_method_11_code
def yX2_strengthAfter : MethodName := ⟨RX2, "strengthAfter", "(LDuskStones$Land;I)I"⟩
abbrev cX2_blockersAt : ByteArray := prog_4_method_12_code
def yX2_blockersAt : MethodName := ⟨RX2, "blockersAt", "(LDuskStones$Land;II)I"⟩
abbrev cX2_freeSteps : ByteArray := prog_4_method_13_code
def yX2_freeSteps : MethodName := ⟨RX2, "freeSteps", "(LDuskStones$Land;I)I"⟩
abbrev cX2_passHour : ByteArray := prog_4_method_14_code
def yX2_passHour : MethodName := ⟨RX2, "passHour", "(LDuskStones$Land;)I"⟩
abbrev cX2_canComeUp : ByteArray := prog_4_method_15_code
def yX2_canComeUp : MethodName := ⟨RX2, "canComeUp", "(LDuskStones$Land;I)Z"⟩
abbrev cX2_passDay : ByteArray := prog_4_method_16_code
def yX2_passDay : MethodName := ⟨RX2, "passDay", "(LDuskStones$Land;)V"⟩
abbrev cX2_fallDusk : ByteArray := prog_4_method_17_code
def yX2_fallDusk : MethodName := ⟨RX2, "fallDusk", "(LDuskStones$Land;Z)V"⟩
abbrev cX2_rest : ByteArray := prog_4_method_18_code
def yX2_rest : MethodName := ⟨RX2, "rest", "(LDuskStones$Land;)V"⟩
abbrev cX2_writeDown : ByteArray := prog_4_method_19_code
def yX2_writeDown : MethodName := ⟨RX2, "writeDown", "(LDuskStones$Land;)V"⟩
abbrev cX2_writtenStep : ByteArray := prog_4_method_20_code
def yX2_writtenStep : MethodName := ⟨RX2, "writtenStep", "(II)I"⟩
def RX3 : String := "DuskStones$Reader"
def TX3 : u_T := fun k => match k with
  | 0 => ("DuskStones$Reader", "text", "[C", true)
  | 1 => ("DuskStones$Reader", "numbers", "[I", true)
  | 2 => ("DuskStones$Reader", "length", "I", false)
  | 3 => ("DuskStones$Reader", "next", "I", false)
  | 4 => ("DuskStones$Reader", "place", "I", false)
  | 5 => ("DuskStones$Reader", "token", "I", false)
  | _ => ("DuskStones$Reader", "value", "I", false)
def tyX3 : Nat → FieldType := fun k => match k with
  | 0 => .array .char
  | 1 => .array .int
  | 2 => .int
  | 3 => .int
  | 4 => .int
  | 5 => .int
  | _ => .int
theorem nmX3 : ∀ a, a < 7 → ∀ b, b < 7 → a ≠ b → (TX3 a).2.1 ≠ (TX3 b).2.1 := by decide +kernel
theorem tyX3_ok : ∀ k, k < 7 → parseFieldDescriptor (TX3 k).2.2.1 = some (tyX3 k) := by decide +kernel
abbrev cX3_init : ByteArray := prog_5_method_1_code
def yX3_init : MethodName := ⟨RX3, "<init>", "([C)V"⟩
abbrev cX3_readAll : ByteArray := prog_5_method_2_code
def yX3_readAll : MethodName := ⟨RX3, "readAll", "(ILDuskStones$Land;)I"⟩
abbrev cX3_readItem : ByteArray := prog_5_method_3_code
def yX3_readItem : MethodName := ⟨RX3, "readItem", "(LDuskStones$Land;)Z"⟩
abbrev cX3_canStand : ByteArray := prog_5_method_4_code
def yX3_canStand : MethodName := ⟨RX3, "canStand", "(ILDuskStones$Land;)Z"⟩
abbrev cX3_numbersOf : ByteArray := prog_5_method_5_code
def yX3_numbersOf : MethodName := ⟨RX3, "numbersOf", "(I)I"⟩
abbrev cX3_fits : ByteArray := prog_5_method_6_code
def yX3_fits : MethodName := ⟨RX3, "fits", "(IILDuskStones$Land;)Z"⟩
abbrev cX3_fitsJoin : ByteArray := prog_5_method_7_code
def yX3_fitsJoin : MethodName := ⟨RX3, "fitsJoin", "(ILDuskStones$Land;)Z"⟩
abbrev cX3_isWithin : ByteArray := prog_5_method_8_code
def yX3_isWithin : MethodName := ⟨RX3, "isWithin", "(II)Z"⟩
abbrev cX3_addItem : ByteArray := prog_5_method_9_code
def yX3_addItem : MethodName := ⟨RX3, "addItem", "(ILDuskStones$Land;)V"⟩
abbrev cX3_take : ByteArray := prog_5_method_10_code
def yX3_take : MethodName := ⟨RX3, "take", "()V"⟩
abbrev cX3_takeNumber : ByteArray := prog_5_method_11_code
def yX3_takeNumber : MethodName := ⟨RX3, "takeNumber", "()V"⟩
abbrev cX3_isDigit : ByteArray := prog_5_method_12_code
def yX3_isDigit : MethodName := ⟨RX3, "isDigit", "(C)Z"⟩
abbrev cX3_isSign : ByteArray := prog_5_method_13_code
def yX3_isSign : MethodName := ⟨RX3, "isSign", "(C)Z"⟩
def RX4 : String := "DuskStones"
def TX4 : u_T := fun k => match k with
  | 0 => ("DuskStones", "text", "[C", true)
  | 1 => ("DuskStones", "letters", "I", false)
  | 2 => ("DuskStones", "reader", "LDuskStones$Reader;", true)
  | 3 => ("DuskStones", "land", "LDuskStones$Land;", false)
  | 4 => ("DuskStones", "draft", "LDuskStones$Land;", false)
  | 5 => ("DuskStones", "present", "LDuskStones$Moment;", true)
  | 6 => ("DuskStones", "trial", "LDuskStones$Moment;", true)
  | 7 => ("DuskStones", "past", "[LDuskStones$Moment;", true)
  | 8 => ("DuskStones", "pastCount", "I", false)
  | 9 => ("DuskStones", "images", "[LDuskStones$Moment;", true)
  | 10 => ("DuskStones", "kept", "[Z", true)
  | 11 => ("DuskStones", "seenHill", "[I", true)
  | 12 => ("DuskStones", "seenStep", "[I", true)
  | 13 => ("DuskStones", "seenCount", "I", false)
  | 14 => ("DuskStones", "climb", "LDuskStones$Climb;", true)
  | _ => ("DuskStones", "traceSum", "J", false)
def tyX4 : Nat → FieldType := fun k => match k with
  | 0 => .array .char
  | 1 => .int
  | 2 => .object "DuskStones$Reader"
  | 3 => .object "DuskStones$Land"
  | 4 => .object "DuskStones$Land"
  | 5 => .object "DuskStones$Moment"
  | 6 => .object "DuskStones$Moment"
  | 7 => .array (.object "DuskStones$Moment")
  | 8 => .int
  | 9 => .array (.object "DuskStones$Moment")
  | 10 => .array .boolean
  | 11 => .array .int
  | 12 => .array .int
  | 13 => .int
  | 14 => .object "DuskStones$Climb"
  | _ => .long
theorem nmX4 : ∀ a, a < 16 → ∀ b, b < 16 → a ≠ b → (TX4 a).2.1 ≠ (TX4 b).2.1 := by decide +kernel
theorem tyX4_ok : ∀ k, k < 16 → parseFieldDescriptor (TX4 k).2.2.1 = some (tyX4 k) := by decide +kernel
abbrev cX4_init : ByteArray := prog_1_method_1_code
def yX4_init : MethodName := ⟨RX4, "<init>", "()V"⟩
abbrev cX4_type : ByteArray := prog_1_method_2_code
def yX4_type : MethodName := ⟨RX4, "type", "(I)I"⟩
abbrev cX4_clear : ByteArray := prog_1_method_3_code
def yX4_clear : MethodName := ⟨RX4, "clear", "()I"⟩
abbrev cX4_hills : ByteArray := prog_1_method_4_code
def yX4_hills : MethodName := ⟨RX4, "hills", "()I"⟩
abbrev cX4_hill : ByteArray := prog_1_method_5_code
def yX4_hill : MethodName := ⟨RX4, "hill", "(II)I"⟩
abbrev cX4_stone : ByteArray := prog_1_method_6_code
def yX4_stone : MethodName := ⟨RX4, "stone", "(II)I"⟩
abbrev cX4_man : ByteArray := prog_1_method_7_code
def yX4_man : MethodName := ⟨RX4, "man", "(II)I"⟩
abbrev cX4_now : ByteArray := prog_1_method_8_code
def yX4_now : MethodName := ⟨RX4, "now", "(I)I"⟩
abbrev cX4_order : ByteArray := prog_1_method_9_code
def yX4_order : MethodName := ⟨RX4, "order", "(II)I"⟩
abbrev cX4_hour : ByteArray := prog_1_method_10_code
def yX4_hour : MethodName := ⟨RX4, "hour", "()I"⟩
abbrev cX4_undo : ByteArray := prog_1_method_11_code
def yX4_undo : MethodName := ⟨RX4, "undo", "()I"⟩
abbrev cX4_remember : ByteArray := prog_1_method_12_code
def yX4_remember : MethodName := ⟨RX4, "remember", "()V"⟩
abbrev cX4_highest : ByteArray := prog_1_method_13_code
def yX4_highest : MethodName := ⟨RX4, "highest", "(II)I"⟩
abbrev cX4_days : ByteArray := prog_1_method_14_code
def yX4_days : MethodName := ⟨RX4, "days", "(I)I"⟩
abbrev cX4_little : ByteArray := prog_1_method_15_code
def yX4_little : MethodName := ⟨RX4, "little", "(I)I"⟩
abbrev cX4_crew : ByteArray := prog_1_method_16_code
def yX4_crew : MethodName := ⟨RX4, "crew", "(I)I"⟩
abbrev cX4_blocks : ByteArray := prog_1_method_17_code
def yX4_blocks : MethodName := ⟨RX4, "blocks", "(I)I"⟩
abbrev cX4_allPush : ByteArray := prog_1_method_18_code
def yX4_allPush : MethodName := ⟨RX4, "allPush", "(I)V"⟩
abbrev cX4_written : ByteArray := prog_1_method_19_code
def yX4_written : MethodName := ⟨RX4, "written", "(II)I"⟩
abbrev cX4_saw : ByteArray := prog_1_method_20_code
def yX4_saw : MethodName := ⟨RX4, "saw", "(II)I"⟩
abbrev cX4_forget : ByteArray := prog_1_method_21_code
def yX4_forget : MethodName := ⟨RX4, "forget", "()I"⟩
abbrev cX4_evening : ByteArray := prog_1_method_22_code
def yX4_evening : MethodName := ⟨RX4, "evening", "()I"⟩
abbrev cX4_odds : ByteArray := prog_1_method_23_code
def yX4_odds : MethodName := ⟨RX4, "odds", "(IIII)J"⟩
abbrev cX4_wear : ByteArray := prog_1_method_24_code
def yX4_wear : MethodName := ⟨RX4, "wear", "(II)I"⟩
abbrev cX4_agrees : ByteArray := prog_1_method_25_code
def yX4_agrees : MethodName := ⟨RX4, "agrees", "(I)Z"⟩
abbrev cX4_rainWeight : ByteArray := prog_1_method_26_code
def yX4_rainWeight : MethodName := ⟨RX4, "rainWeight", "(III)J"⟩
abbrev cX4_isOverBehind : ByteArray := prog_1_method_27_code
def yX4_isOverBehind : MethodName := ⟨RX4, "isOverBehind", "(III)Z"⟩
abbrev cX4_power : ByteArray := prog_1_method_28_code
def yX4_power : MethodName := ⟨RX4, "power", "(II)J"⟩
abbrev cX4_commonDivisor : ByteArray := prog_1_method_29_code
def yX4_commonDivisor : MethodName := ⟨RX4, "commonDivisor", "(JJ)J"⟩
abbrev cX4_rate : ByteArray := prog_1_method_30_code
def yX4_rate : MethodName := ⟨RX4, "rate", "(II)I"⟩
abbrev cX4_keep : ByteArray := prog_1_method_31_code
def yX4_keep : MethodName := ⟨RX4, "keep", "(I)I"⟩
abbrev cX4_back : ByteArray := prog_1_method_32_code
def yX4_back : MethodName := ⟨RX4, "back", "(I)I"⟩
abbrev cX4_count : ByteArray := prog_1_method_33_code
def yX4_count : MethodName := ⟨RX4, "count", "(I)I"⟩
abbrev cX4_trace : ByteArray := prog_1_method_34_code
def yX4_trace : MethodName := ⟨RX4, "trace", "()J"⟩
abbrev cX4_rateAs : ByteArray := prog_1_method_35_code
def yX4_rateAs : MethodName := ⟨RX4, "rateAs", "(II)I"⟩
def RX5 : String := "DuskStonesModel"
def TX5 : u_T := fun k => match k with
  | 0 => ("DuskStonesModel", "w", "[I", true)
  | 1 => ("DuskStonesModel", "isKept", "[Z", true)
  | 2 => ("DuskStonesModel", "high", "[I", true)
  | 3 => ("DuskStonesModel", "slope", "[I", true)
  | 4 => ("DuskStonesModel", "ledges", "[I", true)
  | 5 => ("DuskStonesModel", "size", "[I", true)
  | 6 => ("DuskStonesModel", "joinOne", "[I", true)
  | 7 => ("DuskStonesModel", "joinTwo", "[I", true)
  | 8 => ("DuskStonesModel", "joinFrom", "[I", true)
  | 9 => ("DuskStonesModel", "force", "[I", true)
  | 10 => ("DuskStonesModel", "hills", "I", false)
  | 11 => ("DuskStonesModel", "joins", "I", false)
  | 12 => ("DuskStonesModel", "men", "I", false)
  | 13 => ("DuskStonesModel", "hours", "I", false)
  | 14 => ("DuskStonesModel", "rain", "I", false)
  | 15 => ("DuskStonesModel", "newHills", "I", false)
  | 16 => ("DuskStonesModel", "newJoins", "I", false)
  | 17 => ("DuskStonesModel", "newMen", "I", false)
  | 18 => ("DuskStonesModel", "newHours", "I", false)
  | 19 => ("DuskStonesModel", "newRain", "I", false)
  | 20 => ("DuskStonesModel", "told", "I", false)
  | 21 => ("DuskStonesModel", "text", "[I", true)
  | 22 => ("DuskStonesModel", "textSize", "I", false)
  | 23 => ("DuskStonesModel", "at", "I", false)
  | 24 => ("DuskStonesModel", "first", "I", false)
  | 25 => ("DuskStonesModel", "kind", "I", false)
  | 26 => ("DuskStonesModel", "number", "I", false)
  | 27 => ("DuskStonesModel", "faultAt", "I", false)
  | 28 => ("DuskStonesModel", "undoMany", "I", false)
  | 29 => ("DuskStonesModel", "sightHill", "[I", true)
  | 30 => ("DuskStonesModel", "sightStep", "[I", true)
  | 31 => ("DuskStonesModel", "sightMany", "I", false)
  | _ => ("DuskStonesModel", "trace", "J", false)
def tyX5 : Nat → FieldType := fun k => match k with
  | 0 => .array .int
  | 1 => .array .boolean
  | 2 => .array .int
  | 3 => .array .int
  | 4 => .array .int
  | 5 => .array .int
  | 6 => .array .int
  | 7 => .array .int
  | 8 => .array .int
  | 9 => .array .int
  | 10 => .int
  | 11 => .int
  | 12 => .int
  | 13 => .int
  | 14 => .int
  | 15 => .int
  | 16 => .int
  | 17 => .int
  | 18 => .int
  | 19 => .int
  | 20 => .int
  | 21 => .array .int
  | 22 => .int
  | 23 => .int
  | 24 => .int
  | 25 => .int
  | 26 => .int
  | 27 => .int
  | 28 => .int
  | 29 => .array .int
  | 30 => .array .int
  | 31 => .int
  | _ => .long
theorem nmX5 : ∀ a, a < 33 → ∀ b, b < 33 → a ≠ b → (TX5 a).2.1 ≠ (TX5 b).2.1 := by decide +kernel
theorem tyX5_ok : ∀ k, k < 33 → parseFieldDescriptor (TX5 k).2.2.1 = some (tyX5 k) := by decide +kernel
abbrev cX5_init : ByteArray := prog_7_method_1_code
def yX5_init : MethodName := ⟨RX5, "<init>", "()V"⟩
abbrev cX5_in : ByteArray := prog_7_method_3_code
def yX5_in : MethodName := ⟨RX5, "in", "(JJJ)Z"⟩
abbrev cX5_one : ByteArray := prog_7_method_4_code
def yX5_one : MethodName := ⟨RX5, "one", "(Z)I"⟩
abbrev cX5_has : ByteArray := prog_7_method_5_code
def yX5_has : MethodName := ⟨RX5, "has", "(II)Z"⟩
abbrev cX5_ones : ByteArray := prog_7_method_6_code
def yX5_ones : MethodName := ⟨RX5, "ones", "(I)I"⟩
abbrev cX5_type : ByteArray := prog_7_method_7_code
def yX5_type : MethodName := ⟨RX5, "type", "(I)I"⟩
abbrev cX5_clear : ByteArray := prog_7_method_8_code
def yX5_clear : MethodName := ⟨RX5, "clear", "()I"⟩
abbrev cX5_isFigure : ByteArray := prog_7_method_9_code
def yX5_isFigure : MethodName := ⟨RX5, "isFigure", "(I)Z"⟩
abbrev cX5_next : ByteArray := prog_7_method_10_code
def yX5_next : MethodName := ⟨RX5, "next", "()V"⟩
abbrev cX5_want : ByteArray := prog_7_method_11_code
def yX5_want : MethodName := ⟨RX5, "want", "(Z)Z"⟩
abbrev cX5_takeNumber : ByteArray := prog_7_method_12_code
def yX5_takeNumber : MethodName := ⟨RX5, "takeNumber", "(II)I"⟩
abbrev cX5_takeHill : ByteArray := prog_7_method_13_code
def yX5_takeHill : MethodName := ⟨RX5, "takeHill", "()V"⟩
abbrev cX5_takeJoin : ByteArray := prog_7_method_14_code
def yX5_takeJoin : MethodName := ⟨RX5, "takeJoin", "()V"⟩
abbrev cX5_takeItem : ByteArray := prog_7_method_15_code
def yX5_takeItem : MethodName := ⟨RX5, "takeItem", "()V"⟩
abbrev cX5_hills : ByteArray := prog_7_method_16_code
def yX5_hills : MethodName := ⟨RX5, "hills", "()I"⟩
abbrev cX5_begin : ByteArray := prog_7_method_17_code
def yX5_begin : MethodName := ⟨RX5, "begin", "()V"⟩
abbrev cX5_isHill : ByteArray := prog_7_method_18_code
def yX5_isHill : MethodName := ⟨RX5, "isHill", "(I)Z"⟩
abbrev cX5_isMan : ByteArray := prog_7_method_19_code
def yX5_isMan : MethodName := ⟨RX5, "isMan", "(I)Z"⟩
abbrev cX5_hill : ByteArray := prog_7_method_20_code
def yX5_hill : MethodName := ⟨RX5, "hill", "(II)I"⟩
abbrev cX5_sizeBy : ByteArray := prog_7_method_21_code
def yX5_sizeBy : MethodName := ⟨RX5, "sizeBy", "(II)I"⟩
abbrev cX5_sizeIn : ByteArray := prog_7_method_22_code
def yX5_sizeIn : MethodName := ⟨RX5, "sizeIn", "(II)I"⟩
abbrev cX5_isOver : ByteArray := prog_7_method_23_code
def yX5_isOver : MethodName := ⟨RX5, "isOver", "(II)Z"⟩
abbrev cX5_stone : ByteArray := prog_7_method_24_code
def yX5_stone : MethodName := ⟨RX5, "stone", "(II)I"⟩
abbrev cX5_man : ByteArray := prog_7_method_25_code
def yX5_man : MethodName := ⟨RX5, "man", "(II)I"⟩
abbrev cX5_over : ByteArray := prog_7_method_26_code
def yX5_over : MethodName := ⟨RX5, "over", "()I"⟩
abbrev cX5_now : ByteArray := prog_7_method_27_code
def yX5_now : MethodName := ⟨RX5, "now", "(I)I"⟩
abbrev cX5_blocksIn : ByteArray := prog_7_method_28_code
def yX5_blocksIn : MethodName := ⟨RX5, "blocksIn", "(III)I"⟩
abbrev cX5_copy : ByteArray := prog_7_method_29_code
def yX5_copy : MethodName := ⟨RX5, "copy", "(II)V"⟩
abbrev cX5_remember : ByteArray := prog_7_method_30_code
def yX5_remember : MethodName := ⟨RX5, "remember", "()V"⟩
abbrev cX5_order : ByteArray := prog_7_method_31_code
def yX5_order : MethodName := ⟨RX5, "order", "(II)I"⟩
abbrev cX5_pushOf : ByteArray := prog_7_method_32_code
def yX5_pushOf : MethodName := ⟨RX5, "pushOf", "(II)I"⟩
abbrev cX5_overIn : ByteArray := prog_7_method_33_code
def yX5_overIn : MethodName := ⟨RX5, "overIn", "(I)I"⟩
abbrev cX5_tire : ByteArray := prog_7_method_34_code
def yX5_tire : MethodName := ⟨RX5, "tire", "(II)V"⟩
abbrev cX5_push : ByteArray := prog_7_method_35_code
def yX5_push : MethodName := ⟨RX5, "push", "(I)I"⟩
abbrev cX5_dusk : ByteArray := prog_7_method_36_code
def yX5_dusk : MethodName := ⟨RX5, "dusk", "(IZ)V"⟩
abbrev cX5_rainsOn : ByteArray := prog_7_method_37_code
def yX5_rainsOn : MethodName := ⟨RX5, "rainsOn", "(I)Z"⟩
abbrev cX5_hour : ByteArray := prog_7_method_38_code
def yX5_hour : MethodName := ⟨RX5, "hour", "()I"⟩
abbrev cX5_undo : ByteArray := prog_7_method_39_code
def yX5_undo : MethodName := ⟨RX5, "undo", "()I"⟩
abbrev cX5_orderAll : ByteArray := prog_7_method_40_code
def yX5_orderAll : MethodName := ⟨RX5, "orderAll", "(III)V"⟩
abbrev cX5_stepBy : ByteArray := prog_7_method_41_code
def yX5_stepBy : MethodName := ⟨RX5, "stepBy", "(III)I"⟩
abbrev cX5_isCode : ByteArray := prog_7_method_42_code
def yX5_isCode : MethodName := ⟨RX5, "isCode", "(II)Z"⟩
abbrev cX5_highest : ByteArray := prog_7_method_43_code
def yX5_highest : MethodName := ⟨RX5, "highest", "(II)I"⟩
abbrev cX5_goToDusk : ByteArray := prog_7_method_44_code
def yX5_goToDusk : MethodName := ⟨RX5, "goToDusk", "(IZ)V"⟩
abbrev cX5_days : ByteArray := prog_7_method_45_code
def yX5_days : MethodName := ⟨RX5, "days", "(I)I"⟩
abbrev cX5_isOverBy : ByteArray := prog_7_method_46_code
def yX5_isOverBy : MethodName := ⟨RX5, "isOverBy", "(II)Z"⟩
abbrev cX5_little : ByteArray := prog_7_method_47_code
def yX5_little : MethodName := ⟨RX5, "little", "(I)I"⟩
abbrev cX5_crew : ByteArray := prog_7_method_48_code
def yX5_crew : MethodName := ⟨RX5, "crew", "(I)I"⟩
abbrev cX5_blocks : ByteArray := prog_7_method_49_code
def yX5_blocks : MethodName := ⟨RX5, "blocks", "(I)I"⟩
abbrev cX5_written : ByteArray := prog_7_method_50_code
def yX5_written : MethodName := ⟨RX5, "written", "(II)I"⟩
abbrev cX5_saw : ByteArray := prog_7_method_51_code
def yX5_saw : MethodName := ⟨RX5, "saw", "(II)I"⟩
abbrev cX5_forget : ByteArray := prog_7_method_52_code
def yX5_forget : MethodName := ⟨RX5, "forget", "()I"⟩
abbrev cX5_evening : ByteArray := prog_7_method_53_code
def yX5_evening : MethodName := ⟨RX5, "evening", "()I"⟩
abbrev cX5_common : ByteArray := prog_7_method_54_code
def yX5_common : MethodName := ⟨RX5, "common", "(JJ)J"⟩
abbrev cX5_odds : ByteArray := prog_7_method_55_code
def yX5_odds : MethodName := ⟨RX5, "odds", "(IIII)J"⟩
abbrev cX5_wear : ByteArray := prog_7_method_56_code
def yX5_wear : MethodName := ⟨RX5, "wear", "(II)I"⟩
abbrev cX5_stoneRate : ByteArray := prog_7_method_57_code
def yX5_stoneRate : MethodName := ⟨RX5, "stoneRate", "(I)I"⟩
abbrev cX5_roundRate : ByteArray := prog_7_method_58_code
def yX5_roundRate : MethodName := ⟨RX5, "roundRate", "(I)I"⟩
abbrev cX5_splitRate : ByteArray := prog_7_method_59_code
def yX5_splitRate : MethodName := ⟨RX5, "splitRate", "(I)I"⟩
abbrev cX5_wetRate : ByteArray := prog_7_method_60_code
def yX5_wetRate : MethodName := ⟨RX5, "wetRate", "(I)I"⟩
abbrev cX5_lentRate : ByteArray := prog_7_method_61_code
def yX5_lentRate : MethodName := ⟨RX5, "lentRate", "(I)I"⟩
abbrev cX5_hollowRate : ByteArray := prog_7_method_62_code
def yX5_hollowRate : MethodName := ⟨RX5, "hollowRate", "(I)I"⟩
abbrev cX5_rate : ByteArray := prog_7_method_63_code
def yX5_rate : MethodName := ⟨RX5, "rate", "(II)I"⟩
abbrev cX5_keep : ByteArray := prog_7_method_64_code
def yX5_keep : MethodName := ⟨RX5, "keep", "(I)I"⟩
abbrev cX5_back : ByteArray := prog_7_method_65_code
def yX5_back : MethodName := ⟨RX5, "back", "(I)I"⟩
abbrev cX5_count : ByteArray := prog_7_method_66_code
def yX5_count : MethodName := ⟨RX5, "count", "(I)I"⟩
abbrev cX5_trace : ByteArray := prog_7_method_67_code
def yX5_trace : MethodName := ⟨RX5, "trace", "()J"⟩
def RJ6 : String := "java/lang/Integer"
abbrev cJ6_bitCount_0f7a4 : ByteArray := prog_8_method_49_code
def yJ6_bitCount_0f7a4 : MethodName := ⟨RJ6, "bitCount", "(I)I"⟩
def RJ9 : String := "java/lang/Math"
abbrev cJ9_max_7cf53 : ByteArray := prog_9_method_65_code
def yJ9_max_7cf53 : MethodName := ⟨RJ9, "max", "(II)I"⟩
abbrev cJ9_min_7cf53 : ByteArray := prog_9_method_69_code
def yJ9_min_7cf53 : MethodName := ⟨RJ9, "min", "(II)I"⟩
def RJ10 : String := "java/lang/System"
def RL : String := "DuskStonesLaw"
abbrev cL_law : ByteArray := code
def yL_law : MethodName := ⟨RL, "law", "([I)Z"⟩
abbrev vwCl : List vw_C := [(RX0, TX0, 7), (RX1, TX1, 15), (RX2, TX2, 8), (RX3, TX3, 7), (RX4, TX4, 16), (RX5, TX5, 33)]
end
section
/-! ===== the words of the tables that every method carries ===== -/
def tb : List Cond := lw_tbl.filter goodWord
theorem tb_of {i : Nat} {w : Cond} (h : lw_tbl[i]? = some w) (hg : goodWord w = true) : w ∈ tb := List.mem_filter.mpr ⟨List.mem_of_getElem? h, hg⟩
theorem tb_lw {w : Cond} (h : w ∈ tb) : w ∈ lw_tbl := (List.mem_filter.mp h).1
theorem tb_good {ws : List Cond} (h : ∀ w ∈ ws, w ∈ tb) : GoodIn tb ws := fun w hw => ⟨h w hw, good_of_word (List.mem_filter.mp (h w hw)).2⟩
/-! ===== memory: ints, references (numbers of cells), longs, by cell and place ===== -/
abbrev MI : Type := Nat → Nat → Int32
abbrev MG : Type := Nat → Nat → Option Nat
abbrev MJ : Type := Nat → Nat → Int64
/-- a method: name, code, locals, return type, cells and slots that it makes -/
abbrev Mt : Type := MethodName × ByteArray × Nat × Option FieldType × Nat × Nat
/-- where a cell lies; the classes of arrays; classes and slots of objects; the base -/
abbrev Pk : Type := (Nat → Nat) × (Nat → ClassId) × va_G × Nat
/-- the cells in the order in which they are made: kind (0 to 5 the classes of vwCl, 6 int[], 7 char[], 8 boolean[], 9 Moment[], 10 int[][]) and length -/
def shL : List (Nat × Nat) := [(4, 16), (7, 200), (3, 7), (6, 4), (1, 15), (6, 4), (6, 4), (6, 4), (6, 4), (6, 4), (6, 4), (6, 4), (6, 3), (1, 15), (6, 4), (6, 4), (6, 4), (6, 4), (6, 4), (6, 4), (6, 4), (6, 3), (2, 8), (6, 4), (6, 4), (6, 3), (6, 3), (6, 20), (2, 8), (6, 4), (6, 4), (6, 3), (6, 3), (6, 20), (9, 10), (9, 2), (8, 2), (6, 6), (6, 6), (0, 7), (10, 7), (6, 3), (6, 3), (6, 3), (6, 3), (6, 3), (6, 3), (6, 3), (6, 6), (6, 6), (2, 8), (6, 4), (6, 4), (6, 3), (6, 3), (6, 20), (2, 8), (6, 4), (6, 4), (6, 3), (6, 3), (6, 20), (2, 8), (6, 4), (6, 4), (6, 3), (6, 3), (6, 20), (2, 8), (6, 4), (6, 4), (6, 3), (6, 3), (6, 20), (2, 8), (6, 4), (6, 4), (6, 3), (6, 3), (6, 20), (2, 8), (6, 4), (6, 4), (6, 3), (6, 3), (6, 20), (2, 8), (6, 4), (6, 4), (6, 3), (6, 3), (6, 20), (2, 8), (6, 4), (6, 4), (6, 3), (6, 3), (6, 20), (2, 8), (6, 4), (6, 4), (6, 3), (6, 3), (6, 20), (2, 8), (6, 4), (6, 4), (6, 3), (6, 3), (6, 20), (2, 8), (6, 4), (6, 4), (6, 3), (6, 3), (6, 20), (2, 8), (6, 4), (6, 4), (6, 3), (6, 3), (6, 20), (5, 33), (6, 1400), (8, 2), (6, 8), (6, 8), (6, 8), (6, 8), (6, 8), (6, 8), (6, 8), (6, 6), (6, 200), (6, 6), (6, 6)]
def shp (c : Nat) : Nat × Nat := shL.getD c (99, 0)
def pre (n : Nat) : Nat := ((shL.take n).map (fun q => q.2)).sum
def fkL : List (List Nat) := [[1, 1, 1, 0, 0, 0, 0], [0, 1, 1, 1, 1, 0, 1, 1, 1, 0, 1, 0, 0, 0, 0], [0, 0, 1, 1, 1, 1, 1, 0], [1, 1, 0, 0, 0, 0, 0], [1, 0, 1, 1, 1, 1, 1, 1, 0, 1, 1, 1, 1, 0, 1, 2], [1, 1, 1, 1, 1, 1, 1, 1, 1, 1, 0, 0, 0, 0, 0, 0, 0, 0, 0, 0, 0, 1, 0, 0, 0, 0, 0, 0, 0, 1, 1, 0, 2]]
def fkd (ci k : Nat) : Nat := (fkL.getD ci []).getD k 0
/-- the shape of a cell that has been made -/
def shn (n c : Nat) : Nat × Nat := if c < n then shp c else (99, 0)
theorem shn_lt {n c k z : Nat} (h : shn n c = (k, z)) (hk : k < 99) : c < n ∧ shp c = (k, z) := by
  unfold shn at h
  split at h
  · exact ⟨by assumption, h⟩
  · cases h; omega
def cvv (ad : Nat → Nat) (v : Value) : Value := match v with
  | .ref k => .ref (ad k)
  | w => w
theorem cvv_cat (ad : Nat → Nat) (v : Value) : (cvv ad v).category = v.category := by cases v <;> rfl
theorem cvv_rf (ad : Nat → Nat) (r : Option Nat) : va_rf (r.map ad) = cvv ad (va_rf r) := by cases r <;> rfl
def fval (ad : Nat → Nat) (I : MI) (G : MG) (J : MJ) (ci c k : Nat) : Value :=
  if fkd ci k = 0 then .int (I c k) else if fkd ci k = 1 then va_rf ((G c k).map ad) else .long (J c k)
def celE (K : Pk) (I : MI) (G : MG) (J : MJ) (c : Nat) : va_E :=
  if (shp c).1 < 6 then .inr ((shp c).1, (List.range (shp c).2).map (fval K.1 I G J (shp c).1 c))
  else if (shp c).1 < 9 then .inl (K.2.1 ((shp c).1 - 6), (shp c).2, .inl (I c))
  else .inl (K.2.1 ((shp c).1 - 6), (shp c).2, .inr (.inr (.inr (.inr (fun i => (G c i).map K.1)))))
def wsO (K : Pk) (n : Nat) (I : MI) (G : MG) (J : MJ) : va_W := (List.range n).map (fun c => (K.1 c, celE K I G J c))
def Aw (K : Pk) : Nat → Prop := fun q => K.2.2.2 ≤ q
def u2 {α : Type} (f : Nat → Nat → α) (c k : Nat) (v : α) : Nat → Nat → α := fun x y => if x = c ∧ y = k then v else f x y
theorem u2_at {α : Type} (f : Nat → Nat → α) (c k : Nat) (v : α) : u2 f c k v c k = v := if_pos ⟨rfl, rfl⟩
theorem u2_row {α : Type} (f : Nat → Nat → α) {c x : Nat} (k : Nat) (v : α) (h : x ≠ c) : u2 f c k v x = f x := funext fun y => if_neg fun q => h q.1
theorem u2_ne {α : Type} (f : Nat → Nat → α) {c k x y : Nat} (v : α) (h : ¬ (x = c ∧ y = k)) : u2 f c k v x y = f x y := if_neg h
theorem u2_upd (f : MI) (c k : Nat) (v : Int32) : u2 f c k v c = upd (f c) k v := funext fun y => by simp [u2, upd]
theorem u2_up {α : Type} (f : Nat → Nat → α) (c k : Nat) (v : α) : u2 f c k v c = va_up (f c) k v := funext fun y => by simp [u2, va_up]
/-- row c replaced -/
def ur {α : Type} (f : Nat → Nat → α) (c : Nat) (r : Nat → α) : Nat → Nat → α := fun x => if x = c then r else f x
theorem ur_at {α : Type} (f : Nat → Nat → α) (c : Nat) (r : Nat → α) : ur f c r c = r := if_pos rfl
theorem ur_ne {α : Type} (f : Nat → Nat → α) {c x : Nat} (r : Nat → α) (h : x ≠ c) : ur f c r x = f x := if_neg h
theorem celE_congr {K : Pk} {I I' : MI} {G G' : MG} {J J' : MJ} {x : Nat} (h1 : I' x = I x) (h2 : G' x = G x) (h3 : J' x = J x) : celE K I' G' J' x = celE K I G J x := by
  unfold celE fval
  rw [h1, h2, h3]
theorem wsO_at {K : Pk} {n c : Nat} {I : MI} {G : MG} {J : MJ} (h : c < n) : (wsO K n I G J)[c]? = some (K.1 c, celE K I G J c) := by
  simp [wsO, h]
theorem wsO_set {K : Pk} {n c : Nat} {I I' : MI} {G G' : MG} {J J' : MJ} (h : c < n) (h1 : ∀ x, x ≠ c → I' x = I x) (h2 : ∀ x, x ≠ c → G' x = G x) (h3 : ∀ x, x ≠ c → J' x = J x) : (wsO K n I G J).set c (K.1 c, celE K I' G' J' c) = wsO K n I' G' J' := by
  apply List.ext_getElem?
  intro i
  by_cases hi : i = c
  · subst hi
    rw [List.getElem?_set_self (by simp [wsO, h]), wsO_at h]
  · rw [List.getElem?_set_ne (Ne.symm hi)]
    by_cases hl : i < n
    · rw [wsO_at hl, wsO_at hl, celE_congr (h1 i hi) (h2 i hi) (h3 i hi)]
    · rw [List.getElem?_eq_none (by simp [wsO]; omega), List.getElem?_eq_none (by simp [wsO]; omega)]
theorem wsO_succ {K : Pk} {n : Nat} {I I' : MI} {G G' : MG} {J J' : MJ} {e : va_E} (h1 : ∀ x, x < n → I' x = I x) (h2 : ∀ x, x < n → G' x = G x) (h3 : ∀ x, x < n → J' x = J x) (he : celE K I' G' J' n = e) : wsO K n I G J ++ [(K.1 n, e)] = wsO K (n + 1) I' G' J' := by
  subst he
  unfold wsO
  rw [List.range_succ, List.map_append]
  congr 1
  apply List.map_congr_left
  intro x hx
  have hx := List.mem_range.mp hx
  rw [celE_congr (h1 x hx) (h2 x hx) (h3 x hx)]
def Had (K : Pk) : Prop := ∀ k, k < 1000 → K.1 k = K.2.2.2 + k
theorem wsO_D {K : Pk} {n : Nat} {I : MI} {G : MG} {J : MJ} (h : Had K) (hn : n ≤ 1000) : va_D (Aw K) (wsO K n I G J) := by
  have key : ∀ (k : Nat) (q : Nat × va_E), (wsO K n I G J)[k]? = some q → k < n ∧ q.1 = K.2.2.2 + k := by
    intro k q hk
    have hl : k < n := by
      have := (List.getElem?_eq_some_iff.mp hk).1
      simpa [wsO] using this
    rw [wsO_at hl] at hk
    cases hk
    exact ⟨hl, h k (by omega)⟩
  refine ⟨fun i j p q hi hj e => ?_, fun k q hk => ?_⟩
  · have h1 := key i p hi
    have h2 := key j q hj
    omega
  · have h1 := key k q hk
    unfold Aw
    omega
/-- the heap holds the first n cells, and nothing behind them -/
def Iw (K : Pk) (n : Nat) (I : MI) (G : MG) (J : MJ) (H : Heap) : Prop := va_P K.2.2.1 vwCl (wsO K n I G J) H ∧ H.size = K.2.2.2 + n ∧ n ≤ 1000
/-- the script (1000) and the four static rows (1001 ..): ints that nobody writes; their lengths stand in G -/
def oul (G : MG) (c : Nat) : Nat := (G c 0).getD 0
def Ou0 (K : Pk) (B : MI × MG) (s : State) : Prop :=
  (∀ c, 1000 ≤ c → c < 1005 → va_X (K.1 c) (oul B.2 c) (B.1 c) s s.heap ∧ K.1 c < K.2.2.2) ∧
  va_Z "DuskStones" "KIND_ABOVE" "[I" (.ref (K.1 1001)) (Aw K) s s.heap ∧ va_Z "DuskStones" "KIND_TRACE" "[I" (.ref (K.1 1002)) (Aw K) s s.heap ∧
  va_Z "DuskStones$Reader" "HILL_LEAST" "[I" (.ref (K.1 1003)) (Aw K) s s.heap ∧ va_Z "DuskStones$Reader" "HILL_MOST" "[I" (.ref (K.1 1004)) (Aw K) s s.heap
/-- .. as at the method's start (B) -/
def Out (K : Pk) (B : MI × MG) (I : MI) (G : MG) (s : State) : Prop := Ou0 K B s ∧ ∀ x, 1000 ≤ x → I x = B.1 x ∧ G x = B.2 x
theorem Out.mem {K : Pk} {B : MI × MG} {I I' : MI} {G G' : MG} {s : State} (h : Out K B I G s) (h1 : ∀ x, 1000 ≤ x → I' x = I x) (h2 : ∀ x, 1000 ≤ x → G' x = G x) : Out K B I' G' s :=
  ⟨h.1, fun x hx => ⟨(h1 x hx).trans (h.2 x hx).1, (h2 x hx).trans (h.2 x hx).2⟩⟩
theorem Out.cell {K : Pk} {B : MI × MG} {I : MI} {G : MG} {s : State} (h : Out K B I G s) (c : Nat) (h1 : 1000 ≤ c) (h2 : c < 1005) : va_X (K.1 c) (oul G c) (I c) s s.heap ∧ K.1 c < K.2.2.2 := by
  have q := h.1.1 c h1 h2
  obtain ⟨e1, e2⟩ := h.2 c h1
  unfold oul at q ⊢
  rw [e1, e2]
  exact q
theorem Out.move {K : Pk} {B : MI × MG} {I : MI} {G : MG} {s U : State} (h : Out K B I G s) (hvm : s.vm.Alike U.vm) (hq : ∀ a : Nat, a < K.2.2.2 → U.heap[a]? = s.heap[a]?) : Out K (I, G) I G U := by
  have hz : ∀ a : Nat, a < s.heap.size → ¬ Aw K a → U.heap[a]? = s.heap[a]? := fun a _ h2 => hq a (Nat.not_le.mp h2)
  obtain ⟨-, z1, z2, z3, z4⟩ := h.1
  refine ⟨⟨fun c a b => ?_, (z1.kept hz).moved hvm, (z2.kept hz).moved hvm, (z3.kept hz).moved hvm, (z4.kept hz).moved hvm⟩, fun _ _ => ⟨rfl, rfl⟩⟩
  have q := h.cell c a b
  exact ⟨(q.1.kept (hq _ q.2)).moved hvm, q.2⟩
def tyK (K : Pk) : List (ClassId × FieldType) := [(K.2.1 0, .int), (K.2.1 1, .char), (K.2.1 2, .boolean), (K.2.1 3, .object RX2), (K.2.1 4, .array .int)]
/-- words that don't ride with the others -/
def Xw (s : State) : Prop := va_Nw (.methodLinkNest RX4 24 yX1_init RX4) s ∧ va_Nw (.methodLinkNest RX4 34 yX2_init RX4) s ∧ va_Nw (.methodLinkNest RX4 62 yX0_init RX4) s ∧ (Cond.arrayOver (.object RX2)).before #[] s = true ∧ (Cond.arrayOver (.array .int)).before #[] s = true
def Cx (K : Pk) (M : Mt) (p : Program) (s : State) (m : MethodId) (args : Array Value) (meth : Method) (c : Code) : Prop :=
  CallFix p m c M.2.1 M.2.2.1 s args tb M.1.cls ∧ meth.sig.returnType = M.2.2.2.1 ∧ meth.locks = false ∧ meth.name = M.1.name ∧ va_K K.2.2.1 vwCl (tyK K) s ∧ Xw s ∧ Had K
def Rk (d : Nat) (M : Mt) (R : Room) : Prop := d ≤ R.frames ∧ d * 64 ≤ R.locals ∧ M.2.2.2.2.1 ≤ R.cells ∧ M.2.2.2.2.2 ≤ R.slots
/-- the locals: what the list knows, the frame holds -/
def Lv (ad : Nat → Nat) (N : Nat) (ls : List (Option Value)) (a : Array Slot) : Prop := ∃ l, lv_has a N l ∧ ls.length = N ∧ ∀ (k : Nat) (v : Value), ls[k]? = some (some v) → (k, cvv ad v) ∈ l
def RetAt (M : Mt) (pc : Nat) (r : Option Value) : Prop :=
  (∃ v : Int32, r = some (.int v) ∧ decode M.2.1 pc = .ok (.ireturn, 1) ∧ (M.2.2.2.1 = some .int ∨ (M.2.2.2.1 = some .boolean ∧ narrow .boolean (.int v) = .int v))) ∨
  (∃ v : Int64, r = some (.long v) ∧ decode M.2.1 pc = .ok (.lreturn, 1) ∧ M.2.2.2.1 = some .long) ∨ (r = none ∧ decode M.2.1 pc = .ok (.return_, 1) ∧ M.2.2.2.1 = none)
abbrev Ph : Type := Option Value → Nat → MI → MG → MJ → Prop
def Rt (K : Pk) (B : MI × MG) (M : Mt) (n0 : Nat) (Φ : Ph) (p : Program) (l : Launch) (e : Env) (R : Room) (s : State) (m : MethodId) (args : Array Value) (below : List Frame) (meth : Method) (c : Code) (Q : State → Prop) : Prop :=
  ∀ (r : Option Value) (n1 : Nat) (I1 : MI) (G1 : MG) (J1 : MJ) (H1 : Heap) (locs1 : List Loc) (pc1 : Nat) (a1 : Array Slot), Φ r n1 I1 G1 J1 → Iw K n1 I1 G1 J1 H1 → Out K B I1 G1 s → va_S (Aw K) s.heap H1 locs1 → RetAt M pc1 r → n1 = n0 + M.2.2.2.2.1 → pre n1 = pre n0 + M.2.2.2.2.2 →
    W p l e R s m args below meth c H1 locs1 M.2.2.2.2.1 M.2.2.2.2.2 Q (F0 m pc1 a1 (r.toList.map (cvv K.1)))
/-- THE JUDGEMENT: at depth d, in method M that was entered with n0 cells, from pc, locals, stack and memory on the machine comes to the method's end, and there Φ holds of answer and memory -/
def Ev (d : Nat) (M : Mt) (n0 pc : Nat) (ls : List (Option Value)) (st : List Value) (n : Nat) (I : MI) (G : MG) (J : MJ) (Φ : Ph) : Prop :=
  ∀ (K : Pk) (B : MI × MG) (p : Program) (l : Launch) (e : Env) (R : Room) (s : State) (m : MethodId) (args : Array Value) (below : List Frame) (meth : Method) (c : Code) (H : Heap) (locs : List Loc) (Q : State → Prop) (a : Array Slot),
    Cx K M p s m args meth c → Rk d M R → s.heap.size = K.2.2.2 + n0 → Iw K n I G J H → Out K B I G s → va_S (Aw K) s.heap H locs → Lv K.1 M.2.2.1 ls a → Rt K B M n0 Φ p l e R s m args below meth c Q →
    W p l e R s m args below meth c H locs (n - n0) (pre n - pre n0) Q (F0 m pc a (st.map (cvv K.1)))
theorem Ev.mono {d d' : Nat} {M : Mt} {n0 pc : Nat} {ls : List (Option Value)} {st : List Value} {n : Nat} {I : MI} {G : MG} {J : MJ} {Φ : Ph} (h : d ≤ d') (k : Ev d M n0 pc ls st n I G J Φ) : Ev d' M n0 pc ls st n I G J Φ :=
  fun K B p l e R s m args below meth c H locs Q a hC hR => k K B p l e R s m args below meth c H locs Q a hC ⟨Nat.le_trans h hR.1, Nat.le_trans (Nat.mul_le_mul_right 64 h) hR.2.1, hR.2.2⟩
theorem Ev.post {d : Nat} {M : Mt} {n0 pc : Nat} {ls : List (Option Value)} {st : List Value} {n : Nat} {I : MI} {G : MG} {J : MJ} {Φ Ψ : Ph} (h : ∀ r n I G J, Φ r n I G J → Ψ r n I G J) (k : Ev d M n0 pc ls st n I G J Φ) : Ev d M n0 pc ls st n I G J Ψ :=
  fun K B p l e R s m args below meth c H locs Q a hC hR h0 hI hO hS hL hQ => k K B p l e R s m args below meth c H locs Q a hC hR h0 hI hO hS hL (fun r n1 I1 G1 J1 H1 l1 pc1 a1 q => hQ r n1 I1 G1 J1 H1 l1 pc1 a1 (h _ _ _ _ _ q))
/-- a step that only the stack and the pc feel -/
theorem Ev.of {d : Nat} {M : Mt} {n0 pc pc' : Nat} {ls : List (Option Value)} {st st' : List Value} {n : Nat} {I : MI} {G : MG} {J : MJ} {Φ : Ph}
    (h : ∀ (K : Pk) (B : MI × MG) (p : Program) (l : Launch) (e : Env) (R : Room) (s : State) (m : MethodId) (args : Array Value) (below : List Frame) (meth : Method) (c : Code) (H : Heap) (locs : List Loc) (cells slots : Nat) (Q : State → Prop) (a : Array Slot), Cx K M p s m args meth c → Lv K.1 M.2.2.1 ls a → W p l e R s m args below meth c H locs cells slots Q (F0 m pc' a (st'.map (cvv K.1))) → W p l e R s m args below meth c H locs cells slots Q (F0 m pc a (st.map (cvv K.1))))
    (k : Ev d M n0 pc' ls st' n I G J Φ) : Ev d M n0 pc ls st n I G J Φ :=
  fun K B p l e R s m args below meth c H locs Q a hC hR h0 hI hO hS hL hQ => h K B p l e R s m args below meth c H locs _ _ Q a hC hL (k K B p l e R s m args below meth c H locs Q a hC hR h0 hI hO hS hL hQ)
theorem Lv.at {ad : Nat → Nat} {N : Nat} {ls : List (Option Value)} {a : Array Slot} (h : Lv ad N ls a) {k : Nat} {v : Value} (hk : ls[k]? = some (some v)) : a[k]? = some (.val (cvv ad v)) := by
  obtain ⟨l, h1, -, h2⟩ := h
  exact h1.2.2 _ (h2 k v hk)
/-- what a store of one word leaves of the locals -/
def sto (ls : List (Option Value)) (i : Nat) (v : Value) : List (Option Value) := (match i with
  | 0 => ls
  | j + 1 => match ls.getD j none with
    | some w => if w.category = 2 then ls.set j none else ls
    | none => ls).set i (some v)
def sto2 (ls : List (Option Value)) (i : Nat) (v : Value) : List (Option Value) := (sto ls i v).set (i + 1) none
theorem sto_len (ls : List (Option Value)) (i : Nat) (v : Value) : (sto ls i v).length = ls.length := by
  unfold sto
  split
  · simp
  · split
    · split <;> simp
    · simp
theorem sto_get {ls : List (Option Value)} {i k : Nat} {v w : Value} (h : (sto ls i v)[k]? = some (some w)) : (k = i ∧ w = v) ∨ (k ≠ i ∧ ls[k]? = some (some w) ∧ ¬ (k + 1 = i ∧ w.category = 2)) := by
  by_cases hk : k = i
  · subst hk
    refine Or.inl ⟨rfl, ?_⟩
    unfold sto at h
    have hl := (List.getElem?_eq_some_iff.mp h).1
    rw [List.length_set] at hl
    rw [List.getElem?_set_self hl] at h
    cases h
    rfl
  · refine Or.inr ⟨hk, ?_⟩
    unfold sto at h
    rw [List.getElem?_set_ne (Ne.symm hk)] at h
    cases i with
    | zero => exact ⟨h, fun q => by omega⟩
    | succ j =>
      dsimp only at h
      cases hj : ls.getD j none with
      | none =>
        rw [hj] at h
        refine ⟨h, fun q => ?_⟩
        have e : k = j := by omega
        subst e
        rw [List.getD_eq_getElem?_getD, h] at hj
        cases hj
      | some u =>
        rw [hj] at h
        dsimp only at h
        by_cases hu : u.category = 2
        · rw [if_pos hu] at h
          by_cases e : k = j
          · subst e
            have hl := (List.getElem?_eq_some_iff.mp h).1
            rw [List.length_set] at hl
            rw [List.getElem?_set_self hl] at h
            cases h
          · rw [List.getElem?_set_ne (Ne.symm e)] at h
            exact ⟨h, fun q => by omega⟩
        · rw [if_neg hu] at h
          refine ⟨h, fun q => ?_⟩
          have e : k = j := by omega
          subst e
          rw [List.getD_eq_getElem?_getD, h] at hj
          cases hj
          exact hu q.2
/-- a step that stores into a local -/
theorem Lv_sto {ad : Nat → Nat} {N i : Nat} {ls : List (Option Value)} {a : Array Slot} {v : Value} {l : List (Nat × Value)} (hl : ls.length = N) (h2 : ∀ (k : Nat) (v : Value), ls[k]? = some (some v) → (k, cvv ad v) ∈ l)
    (h : lv_has a N ((i, cvv ad v) :: l.filter (fun q => !(q.1 == i) && !(q.1 + 1 == i && q.2.category == 2)))) : Lv ad N (sto ls i v) a := by
  refine ⟨_, h, (sto_len ls i v).trans hl, fun k w hk => ?_⟩
  rcases sto_get hk with ⟨rfl, rfl⟩ | ⟨q1, q2, q3⟩
  · exact List.mem_cons_self
  · refine List.mem_cons_of_mem _ (List.mem_filter.mpr ⟨h2 k w q2, ?_⟩)
    simp only [cvv_cat, Bool.and_eq_true, Bool.not_eq_true', beq_eq_false_iff_ne, ne_eq, Bool.and_eq_false_iff]
    refine ⟨q1, ?_⟩
    by_cases e : k + 1 = i
    · exact Or.inr (fun z => q3 ⟨e, z⟩)
    · exact Or.inl e
theorem Lv_sto2 {ad : Nat → Nat} {N i : Nat} {ls : List (Option Value)} {a : Array Slot} {v : Value} {l : List (Nat × Value)} (hl : ls.length = N) (h2 : ∀ (k : Nat) (v : Value), ls[k]? = some (some v) → (k, cvv ad v) ∈ l)
    (h : lv_has a N ((i, cvv ad v) :: l.filter (fun q => !(q.1 == i) && (!(q.1 == i + 1) && !(q.1 + 1 == i && q.2.category == 2))))) : Lv ad N (sto2 ls i v) a := by
  refine ⟨_, h, by unfold sto2; rw [List.length_set, sto_len, hl], fun k w hk => ?_⟩
  unfold sto2 at hk
  have hne : k ≠ i + 1 := by
    intro e
    subst e
    have hl2 := (List.getElem?_eq_some_iff.mp hk).1
    rw [List.length_set] at hl2
    rw [List.getElem?_set_self hl2] at hk
    cases hk
  rw [List.getElem?_set_ne (Ne.symm hne)] at hk
  rcases sto_get hk with ⟨rfl, rfl⟩ | ⟨q1, q2, q3⟩
  · exact List.mem_cons_self
  · refine List.mem_cons_of_mem _ (List.mem_filter.mpr ⟨h2 k w q2, ?_⟩)
    simp only [cvv_cat, Bool.and_eq_true, Bool.not_eq_true', beq_eq_false_iff_ne, ne_eq, Bool.and_eq_false_iff]
    refine ⟨q1, hne, ?_⟩
    by_cases e : k + 1 = i
    · exact Or.inr (fun z => q3 ⟨e, z⟩)
    · exact Or.inl e
end
section
section RULES
variable {d : Nat} {M : Mt} {n0 pc : Nat} {ls : List (Option Value)} {st : List Value} {n : Nat} {I : MI} {G : MG} {J : MJ} {Φ : Ph}
theorem E_iconst {z : Int} (v : Int32) (hd : decode M.2.1 pc = .ok (.iconst z, 1)) (hv : Int32.ofInt z = v) (k : Ev d M n0 (pc + 1) ls (.int v :: st) n I G J Φ) : Ev d M n0 (pc) ls (st) n I G J Φ :=
  Ev.of (fun K B p l e R s m args below meth c H locs cells slots Q a hC hL k => lv_iconst (v := v) hC.1.1 hC.1.2.1 hd hv k) k
theorem E_bipush {z : Int} (v : Int32) (hd : decode M.2.1 pc = .ok (.bipush z, 2)) (hv : (Int8.ofInt z).toInt32 = v) (k : Ev d M n0 (pc + 2) ls (.int v :: st) n I G J Φ) : Ev d M n0 (pc) ls (st) n I G J Φ :=
  Ev.of (fun K B p l e R s m args below meth c H locs cells slots Q a hC hL k => lv_bipush (v := v) hC.1.1 hC.1.2.1 hd hv k) k
theorem E_sipush {z : Int} (v : Int32) (hd : decode M.2.1 pc = .ok (.sipush z, 3)) (hv : (Int16.ofInt z).toInt32 = v) (k : Ev d M n0 (pc + 3) ls (.int v :: st) n I G J Φ) : Ev d M n0 (pc) ls (st) n I G J Φ :=
  Ev.of (fun K B p l e R s m args below meth c H locs cells slots Q a hC hL k => lv_sipush (v := v) hC.1.1 hC.1.2.1 hd hv k) k
theorem E_lconst {z : Fin 2} (v : Int64) (hd : decode M.2.1 pc = .ok (.lconst z, 1)) (hv : Int64.ofNat (z : Nat) = v) (k : Ev d M n0 (pc + 1) ls (.long v :: st) n I G J Φ) : Ev d M n0 (pc) ls (st) n I G J Φ :=
  Ev.of (fun K B p l e R s m args below meth c H locs cells slots Q a hC hL k => lv_lconst (v := v) hC.1.1 hC.1.2.1 hd hv k) k
theorem E_ldc {ix : Nat} (v : Int32) (hd : decode M.2.1 pc = .ok (.ldc ix, 2)) (hw : Cond.constant M.1.cls ix v ∈ tb) (k : Ev d M n0 (pc + 2) ls (.int v :: st) n I G J Φ) : Ev d M n0 (pc) ls (st) n I G J Φ :=
  Ev.of (fun K B p l e R s m args below meth c H locs cells slots Q a hC hL k => lv_ldc hC.1.1 hC.1.2.1 hC.1.2.2.2.1 (hC.1.2.2.2.2 _ hw) hd k) k
theorem E_ldcw {ix : Nat} (v : Int32) (hd : decode M.2.1 pc = .ok (.ldc_w ix, 3)) (hw : Cond.constant M.1.cls ix v ∈ tb) (k : Ev d M n0 (pc + 3) ls (.int v :: st) n I G J Φ) : Ev d M n0 (pc) ls (st) n I G J Φ :=
  Ev.of (fun K B p l e R s m args below meth c H locs cells slots Q a hC hL k => lv_ldcw hC.1.1 hC.1.2.1 hC.1.2.2.2.1 (hC.1.2.2.2.2 _ hw) hd k) k
theorem E_ldc2 {ix : Nat} (v : Int64) (hd : decode M.2.1 pc = .ok (.ldc2_w ix, 3)) (hw : Cond.constantLong M.1.cls ix v ∈ tb) (k : Ev d M n0 (pc + 3) ls (.long v :: st) n I G J Φ) : Ev d M n0 (pc) ls (st) n I G J Φ :=
  Ev.of (fun K B p l e R s m args below meth c H locs cells slots Q a hC hL k => lv_ldc2 hC.1.1 hC.1.2.1 hC.1.2.2.2.1 (hC.1.2.2.2.2 _ hw) hd k) k
theorem E_iload_n {q : Fin 4} (i : Nat) {x : Int32} (hd : decode M.2.1 pc = .ok (.iload_n q, 1)) (hi : (q : Nat) = i) (hl : ls[i]? = some (some (.int x))) (k : Ev d M n0 (pc + 1) ls (.int x :: st) n I G J Φ) : Ev d M n0 (pc) ls (st) n I G J Φ :=
  Ev.of (fun K B p l e R s m args below meth c H locs cells slots Q a hC hL k => lv_iload_n hC.1.1 hC.1.2.1 hd hi (hL.at hl) k) k
theorem E_iload {i : Nat} {x : Int32} (hd : decode M.2.1 pc = .ok (.iload i, 2)) (hl : ls[i]? = some (some (.int x))) (k : Ev d M n0 (pc + 2) ls (.int x :: st) n I G J Φ) : Ev d M n0 (pc) ls (st) n I G J Φ :=
  Ev.of (fun K B p l e R s m args below meth c H locs cells slots Q a hC hL k => lv_iload hC.1.1 hC.1.2.1 hd (hL.at hl) k) k
theorem E_istore_n {q : Fin 4} (i : Nat) {x : Int32} (hd : decode M.2.1 pc = .ok (.istore_n q, 1)) (hi : (q : Nat) = i) (hn : i < M.2.2.1) (k : Ev d M n0 (pc + 1) (sto ls i (.int x)) (st) n I G J Φ) : Ev d M n0 (pc) ls (.int x :: st) n I G J Φ := by
  intro K B p l e R s m args below meth c H locs Q a hC hR h0 hI hO hS hL hQ
  obtain ⟨lx, h1, h2, h3⟩ := hL
  refine lv_istore_n hC.1.1 hC.1.2.1 hd hi h1 hn rfl (fun a2 hl2 => ?_)
  exact k K B p l e R s m args below meth c H locs Q a2 hC hR h0 hI hO hS (Lv_sto (v := .int x) h2 h3 hl2) hQ
theorem E_istore {i : Nat} {x : Int32} (hd : decode M.2.1 pc = .ok (.istore i, 2)) (hn : i < M.2.2.1) (k : Ev d M n0 (pc + 2) (sto ls i (.int x)) (st) n I G J Φ) : Ev d M n0 (pc) ls (.int x :: st) n I G J Φ := by
  intro K B p l e R s m args below meth c H locs Q a hC hR h0 hI hO hS hL hQ
  obtain ⟨lx, h1, h2, h3⟩ := hL
  refine lv_istore hC.1.1 hC.1.2.1 hd h1 hn rfl (fun a2 hl2 => ?_)
  exact k K B p l e R s m args below meth c H locs Q a2 hC hR h0 hI hO hS (Lv_sto (v := .int x) h2 h3 hl2) hQ
theorem E_lload_n {q : Fin 4} (i : Nat) {x : Int64} (hd : decode M.2.1 pc = .ok (.lload_n q, 1)) (hi : (q : Nat) = i) (hl : ls[i]? = some (some (.long x))) (k : Ev d M n0 (pc + 1) ls (.long x :: st) n I G J Φ) : Ev d M n0 (pc) ls (st) n I G J Φ :=
  Ev.of (fun K B p l e R s m args below meth c H locs cells slots Q a hC hL k => lv_lload_n hC.1.1 hC.1.2.1 hd hi (hL.at hl) k) k
theorem E_lload {i : Nat} {x : Int64} (hd : decode M.2.1 pc = .ok (.lload i, 2)) (hl : ls[i]? = some (some (.long x))) (k : Ev d M n0 (pc + 2) ls (.long x :: st) n I G J Φ) : Ev d M n0 (pc) ls (st) n I G J Φ :=
  Ev.of (fun K B p l e R s m args below meth c H locs cells slots Q a hC hL k => lv_lload hC.1.1 hC.1.2.1 hd (hL.at hl) k) k
theorem E_lstore_n {q : Fin 4} (i : Nat) {x : Int64} (hd : decode M.2.1 pc = .ok (.lstore_n q, 1)) (hi : (q : Nat) = i) (hn : i + 1 < M.2.2.1) (k : Ev d M n0 (pc + 1) (sto2 ls i (.long x)) (st) n I G J Φ) : Ev d M n0 (pc) ls (.long x :: st) n I G J Φ := by
  intro K B p l e R s m args below meth c H locs Q a hC hR h0 hI hO hS hL hQ
  obtain ⟨lx, h1, h2, h3⟩ := hL
  refine lv_lstore_n hC.1.1 hC.1.2.1 hd hi h1 hn rfl (fun a2 hl2 => ?_)
  exact k K B p l e R s m args below meth c H locs Q a2 hC hR h0 hI hO hS (Lv_sto2 (v := .long x) h2 h3 hl2) hQ
theorem E_lstore {i : Nat} {x : Int64} (hd : decode M.2.1 pc = .ok (.lstore i, 2)) (hn : i + 1 < M.2.2.1) (k : Ev d M n0 (pc + 2) (sto2 ls i (.long x)) (st) n I G J Φ) : Ev d M n0 (pc) ls (.long x :: st) n I G J Φ := by
  intro K B p l e R s m args below meth c H locs Q a hC hR h0 hI hO hS hL hQ
  obtain ⟨lx, h1, h2, h3⟩ := hL
  refine lv_lstore hC.1.1 hC.1.2.1 hd h1 hn rfl (fun a2 hl2 => ?_)
  exact k K B p l e R s m args below meth c H locs Q a2 hC hR h0 hI hO hS (Lv_sto2 (v := .long x) h2 h3 hl2) hQ
theorem E_aload_n {q : Fin 4} (i : Nat) {x : Nat} (hd : decode M.2.1 pc = .ok (.aload_n q, 1)) (hi : (q : Nat) = i) (hl : ls[i]? = some (some (.ref x))) (k : Ev d M n0 (pc + 1) ls (.ref x :: st) n I G J Φ) : Ev d M n0 (pc) ls (st) n I G J Φ :=
  Ev.of (fun K B p l e R s m args below meth c H locs cells slots Q a hC hL k => lv_aload_n hC.1.1 hC.1.2.1 hd hi (hL.at hl) k) k
theorem E_aload {i : Nat} {x : Nat} (hd : decode M.2.1 pc = .ok (.aload i, 2)) (hl : ls[i]? = some (some (.ref x))) (k : Ev d M n0 (pc + 2) ls (.ref x :: st) n I G J Φ) : Ev d M n0 (pc) ls (st) n I G J Φ :=
  Ev.of (fun K B p l e R s m args below meth c H locs cells slots Q a hC hL k => lv_aload hC.1.1 hC.1.2.1 hd (hL.at hl) k) k
theorem E_astore_n {q : Fin 4} (i : Nat) {x : Nat} (hd : decode M.2.1 pc = .ok (.astore_n q, 1)) (hi : (q : Nat) = i) (hn : i < M.2.2.1) (k : Ev d M n0 (pc + 1) (sto ls i (.ref x)) (st) n I G J Φ) : Ev d M n0 (pc) ls (.ref x :: st) n I G J Φ := by
  intro K B p l e R s m args below meth c H locs Q a hC hR h0 hI hO hS hL hQ
  obtain ⟨lx, h1, h2, h3⟩ := hL
  refine lv_astore_n hC.1.1 hC.1.2.1 hd hi h1 hn rfl (fun a2 hl2 => ?_)
  exact k K B p l e R s m args below meth c H locs Q a2 hC hR h0 hI hO hS (Lv_sto (v := .ref x) h2 h3 hl2) hQ
theorem E_astore {i : Nat} {x : Nat} (hd : decode M.2.1 pc = .ok (.astore i, 2)) (hn : i < M.2.2.1) (k : Ev d M n0 (pc + 2) (sto ls i (.ref x)) (st) n I G J Φ) : Ev d M n0 (pc) ls (.ref x :: st) n I G J Φ := by
  intro K B p l e R s m args below meth c H locs Q a hC hR h0 hI hO hS hL hQ
  obtain ⟨lx, h1, h2, h3⟩ := hL
  refine lv_astore hC.1.1 hC.1.2.1 hd h1 hn rfl (fun a2 hl2 => ?_)
  exact k K B p l e R s m args below meth c H locs Q a2 hC hR h0 hI hO hS (Lv_sto (v := .ref x) h2 h3 hl2) hQ
theorem E_iinc {i : Nat} {z : Int} {x : Int32} (v : Int32) (hd : decode M.2.1 pc = .ok (.iinc i z, 3)) (hl : ls[i]? = some (some (.int x))) (hv : x + Int32.ofInt z = v) (hn : i < M.2.2.1) (k : Ev d M n0 (pc + 3) (sto ls i (.int v)) st n I G J Φ) : Ev d M n0 pc ls st n I G J Φ := by
  intro K B p l e R s m args below meth c H locs Q a hC hR h0 hI hO hS hL hQ
  obtain ⟨lx, h1, h2, h3⟩ := hL
  obtain ⟨j, hj⟩ := List.getElem?_of_mem (h3 i _ hl)
  refine lv_iinc (v := v) hC.1.1 hC.1.2.1 hd h1 (k := j) hj hv hn rfl (fun a2 hl2 => ?_)
  exact k K B p l e R s m args below meth c H locs Q a2 hC hR h0 hI hO hS (Lv_sto (v := .int v) h2 h3 hl2) hQ
theorem E_iadd {x y : Int32} (hd : decode M.2.1 pc = .ok (.iadd, 1)) (k : Ev d M n0 (pc + 1) ls (.int (x + y) :: st) n I G J Φ) : Ev d M n0 (pc) ls (.int y :: .int x :: st) n I G J Φ :=
  Ev.of (fun K B p l e R s m args below meth c H locs cells slots Q a hC hL k => lv_iadd hC.1.1 hC.1.2.1 hd k) k
theorem E_isub {x y : Int32} (hd : decode M.2.1 pc = .ok (.isub, 1)) (k : Ev d M n0 (pc + 1) ls (.int (x - y) :: st) n I G J Φ) : Ev d M n0 (pc) ls (.int y :: .int x :: st) n I G J Φ :=
  Ev.of (fun K B p l e R s m args below meth c H locs cells slots Q a hC hL k => lv_isub hC.1.1 hC.1.2.1 hd k) k
theorem E_imul {x y : Int32} (hd : decode M.2.1 pc = .ok (.imul, 1)) (k : Ev d M n0 (pc + 1) ls (.int (x * y) :: st) n I G J Φ) : Ev d M n0 (pc) ls (.int y :: .int x :: st) n I G J Φ :=
  Ev.of (fun K B p l e R s m args below meth c H locs cells slots Q a hC hL k => lv_imul hC.1.1 hC.1.2.1 hd k) k
theorem E_iand {x y : Int32} (hd : decode M.2.1 pc = .ok (.iand, 1)) (k : Ev d M n0 (pc + 1) ls (.int (x &&& y) :: st) n I G J Φ) : Ev d M n0 (pc) ls (.int y :: .int x :: st) n I G J Φ :=
  Ev.of (fun K B p l e R s m args below meth c H locs cells slots Q a hC hL k => lv_iand hC.1.1 hC.1.2.1 hd k) k
theorem E_ior {x y : Int32} (hd : decode M.2.1 pc = .ok (.ior, 1)) (k : Ev d M n0 (pc + 1) ls (.int (x ||| y) :: st) n I G J Φ) : Ev d M n0 (pc) ls (.int y :: .int x :: st) n I G J Φ :=
  Ev.of (fun K B p l e R s m args below meth c H locs cells slots Q a hC hL k => lv_ior hC.1.1 hC.1.2.1 hd k) k
theorem E_ishl {x y : Int32} (hd : decode M.2.1 pc = .ok (.ishl, 1)) (k : Ev d M n0 (pc + 1) ls (.int (x <<< (y &&& 31)) :: st) n I G J Φ) : Ev d M n0 (pc) ls (.int y :: .int x :: st) n I G J Φ :=
  Ev.of (fun K B p l e R s m args below meth c H locs cells slots Q a hC hL k => lv_ishl hC.1.1 hC.1.2.1 hd k) k
theorem E_ishr {x y : Int32} (hd : decode M.2.1 pc = .ok (.ishr, 1)) (k : Ev d M n0 (pc + 1) ls (.int (x >>> (y &&& 31)) :: st) n I G J Φ) : Ev d M n0 (pc) ls (.int y :: .int x :: st) n I G J Φ :=
  Ev.of (fun K B p l e R s m args below meth c H locs cells slots Q a hC hL k => lv_ishr hC.1.1 hC.1.2.1 hd k) k
theorem E_iushr {x y : Int32} (hd : decode M.2.1 pc = .ok (.iushr, 1)) (k : Ev d M n0 (pc + 1) ls (.int (x.toUInt32 >>> (y.toUInt32 &&& Int32.toUInt32 31)).toInt32 :: st) n I G J Φ) : Ev d M n0 (pc) ls (.int y :: .int x :: st) n I G J Φ :=
  Ev.of (fun K B p l e R s m args below meth c H locs cells slots Q a hC hL k => lv_iushr hC.1.1 hC.1.2.1 hd rfl k) k
theorem E_idiv {x y : Int32} (hd : decode M.2.1 pc = .ok (.idiv, 1)) (hne : ¬ y = 0) (k : Ev d M n0 (pc + 1) ls (.int (x / y) :: st) n I G J Φ) : Ev d M n0 (pc) ls (.int y :: .int x :: st) n I G J Φ :=
  Ev.of (fun K B p l e R s m args below meth c H locs cells slots Q a hC hL k => lv_idiv hC.1.1 hC.1.2.1 hd hne k) k
theorem E_irem {x y : Int32} (hd : decode M.2.1 pc = .ok (.irem, 1)) (hne : ¬ y = 0) (k : Ev d M n0 (pc + 1) ls (.int (x - x / y * y) :: st) n I G J Φ) : Ev d M n0 (pc) ls (.int y :: .int x :: st) n I G J Φ :=
  Ev.of (fun K B p l e R s m args below meth c H locs cells slots Q a hC hL k => lv_irem hC.1.1 hC.1.2.1 hd hne k) k
theorem E_ladd {x y : Int64} (hd : decode M.2.1 pc = .ok (.ladd, 1)) (k : Ev d M n0 (pc + 1) ls (.long (x + y) :: st) n I G J Φ) : Ev d M n0 (pc) ls (.long y :: .long x :: st) n I G J Φ :=
  Ev.of (fun K B p l e R s m args below meth c H locs cells slots Q a hC hL k => lv_ladd hC.1.1 hC.1.2.1 hd k) k
theorem E_lmul {x y : Int64} (hd : decode M.2.1 pc = .ok (.lmul, 1)) (k : Ev d M n0 (pc + 1) ls (.long (x * y) :: st) n I G J Φ) : Ev d M n0 (pc) ls (.long y :: .long x :: st) n I G J Φ :=
  Ev.of (fun K B p l e R s m args below meth c H locs cells slots Q a hC hL k => lv_lmul hC.1.1 hC.1.2.1 hd k) k
theorem E_ldiv {x y : Int64} (hd : decode M.2.1 pc = .ok (.ldiv, 1)) (hne : ¬ y = 0) (k : Ev d M n0 (pc + 1) ls (.long (x / y) :: st) n I G J Φ) : Ev d M n0 (pc) ls (.long y :: .long x :: st) n I G J Φ :=
  Ev.of (fun K B p l e R s m args below meth c H locs cells slots Q a hC hL k => lv_ldiv hC.1.1 hC.1.2.1 hd hne k) k
theorem E_lrem {x y : Int64} (hd : decode M.2.1 pc = .ok (.lrem, 1)) (hne : ¬ y = 0) (k : Ev d M n0 (pc + 1) ls (.long (x - x / y * y) :: st) n I G J Φ) : Ev d M n0 (pc) ls (.long y :: .long x :: st) n I G J Φ :=
  Ev.of (fun K B p l e R s m args below meth c H locs cells slots Q a hC hL k => lv_lrem hC.1.1 hC.1.2.1 hd hne k) k
theorem E_lcmp {x y : Int64} (hd : decode M.2.1 pc = .ok (.lcmp, 1)) (k : Ev d M n0 (pc + 1) ls (.int (lg_cmp x y) :: st) n I G J Φ) : Ev d M n0 (pc) ls (.long y :: .long x :: st) n I G J Φ :=
  Ev.of (fun K B p l e R s m args below meth c H locs cells slots Q a hC hL k => W.lcmp hC.1.1 hC.1.2.1 hd k) k
theorem E_i2l {x : Int32} (hd : decode M.2.1 pc = .ok (.i2l, 1)) (k : Ev d M n0 (pc + 1) ls (.long x.toInt64 :: st) n I G J Φ) : Ev d M n0 (pc) ls (.int x :: st) n I G J Φ :=
  Ev.of (fun K B p l e R s m args below meth c H locs cells slots Q a hC hL k => lv_i2l hC.1.1 hC.1.2.1 hd rfl k) k
theorem E_i2c {x : Int32} (hd : decode M.2.1 pc = .ok (.i2c, 1)) (k : Ev d M n0 (pc + 1) ls (.int (x.toUInt32 % 65536).toInt32 :: st) n I G J Φ) : Ev d M n0 (pc) ls (.int x :: st) n I G J Φ :=
  Ev.of (fun K B p l e R s m args below meth c H locs cells slots Q a hC hL k => lv_i2c hC.1.1 hC.1.2.1 hd rfl k) k
theorem E_dup {v : Value} (hd : decode M.2.1 pc = .ok (.dup, 1)) (hv : v.category = 1) (k : Ev d M n0 (pc + 1) ls (v :: v :: st) n I G J Φ) : Ev d M n0 (pc) ls (v :: st) n I G J Φ :=
  Ev.of (fun K B p l e R s m args below meth c H locs cells slots Q a hC hL k => lv_dup hC.1.1 hC.1.2.1 hd (by rw [cvv_cat]; exact hv) k) k
theorem E_pop {v : Value} (hd : decode M.2.1 pc = .ok (.pop, 1)) (hv : v.category = 1) (k : Ev d M n0 (pc + 1) ls (st) n I G J Φ) : Ev d M n0 (pc) ls (v :: st) n I G J Φ :=
  Ev.of (fun K B p l e R s m args below meth c H locs cells slots Q a hC hL k => lv_pop hC.1.1 hC.1.2.1 hd (by rw [cvv_cat]; exact hv) k) k
theorem E_dup2 {v w : Value} (hd : decode M.2.1 pc = .ok (.dup2, 1)) (hv : v.category = 1) (hw : w.category = 1) (k : Ev d M n0 (pc + 1) ls (v :: w :: v :: w :: st) n I G J Φ) : Ev d M n0 (pc) ls (v :: w :: st) n I G J Φ :=
  Ev.of (fun K B p l e R s m args below meth c H locs cells slots Q a hC hL k => lv_dup2_11 hC.1.1 hC.1.2.1 hd (by rw [cvv_cat]; exact hv) (by rw [cvv_cat]; exact hw) k) k
theorem E_dup2l {v : Value} (hd : decode M.2.1 pc = .ok (.dup2, 1)) (hv : v.category = 2) (k : Ev d M n0 (pc + 1) ls (v :: v :: st) n I G J Φ) : Ev d M n0 (pc) ls (v :: st) n I G J Φ :=
  Ev.of (fun K B p l e R s m args below meth c H locs cells slots Q a hC hL k => lv_dup2_2 hC.1.1 hC.1.2.1 hd (by rw [cvv_cat]; exact hv) k) k
theorem E_if_eq {x : Int32} {off : Int} (tgt : Nat) (hd : decode M.2.1 pc = .ok (.ifCond .eq off, 3)) (ht : (pc : Int) + off = (tgt : Int)) (kt : x = 0 → Ev d M n0 (tgt) ls (st) n I G J Φ) (kf : ¬ (x = 0) → Ev d M n0 (pc + 3) ls (st) n I G J Φ) : Ev d M n0 (pc) ls (.int x :: st) n I G J Φ :=
  fun K B p l e R s m args below meth c H locs Q a hC hR h0 hI hO hS hL hQ => lv_if_eq hC.1.1 hC.1.2.1 hd ht (fun q => kt (by simpa using q) K B p l e R s m args below meth c H locs Q a hC hR h0 hI hO hS hL hQ) (fun q => kf (by simpa using q) K B p l e R s m args below meth c H locs Q a hC hR h0 hI hO hS hL hQ)
theorem E_icmp_eq {x y : Int32} {off : Int} (tgt : Nat) (hd : decode M.2.1 pc = .ok (.if_icmp .eq off, 3)) (ht : (pc : Int) + off = (tgt : Int)) (kt : x = y → Ev d M n0 (tgt) ls (st) n I G J Φ) (kf : ¬ (x = y) → Ev d M n0 (pc + 3) ls (st) n I G J Φ) : Ev d M n0 (pc) ls (.int y :: .int x :: st) n I G J Φ :=
  fun K B p l e R s m args below meth c H locs Q a hC hR h0 hI hO hS hL hQ => lv_icmp_eq hC.1.1 hC.1.2.1 hd ht (fun q => kt (by simpa using q) K B p l e R s m args below meth c H locs Q a hC hR h0 hI hO hS hL hQ) (fun q => kf (by simpa using q) K B p l e R s m args below meth c H locs Q a hC hR h0 hI hO hS hL hQ)
theorem E_if_ne {x : Int32} {off : Int} (tgt : Nat) (hd : decode M.2.1 pc = .ok (.ifCond .ne off, 3)) (ht : (pc : Int) + off = (tgt : Int)) (kt : ¬ x = 0 → Ev d M n0 (tgt) ls (st) n I G J Φ) (kf : ¬ (¬ x = 0) → Ev d M n0 (pc + 3) ls (st) n I G J Φ) : Ev d M n0 (pc) ls (.int x :: st) n I G J Φ :=
  fun K B p l e R s m args below meth c H locs Q a hC hR h0 hI hO hS hL hQ => lv_if_ne hC.1.1 hC.1.2.1 hd ht (fun q => kt (by simpa using q) K B p l e R s m args below meth c H locs Q a hC hR h0 hI hO hS hL hQ) (fun q => kf (by simpa using q) K B p l e R s m args below meth c H locs Q a hC hR h0 hI hO hS hL hQ)
theorem E_icmp_ne {x y : Int32} {off : Int} (tgt : Nat) (hd : decode M.2.1 pc = .ok (.if_icmp .ne off, 3)) (ht : (pc : Int) + off = (tgt : Int)) (kt : ¬ x = y → Ev d M n0 (tgt) ls (st) n I G J Φ) (kf : ¬ (¬ x = y) → Ev d M n0 (pc + 3) ls (st) n I G J Φ) : Ev d M n0 (pc) ls (.int y :: .int x :: st) n I G J Φ :=
  fun K B p l e R s m args below meth c H locs Q a hC hR h0 hI hO hS hL hQ => lv_icmp_ne hC.1.1 hC.1.2.1 hd ht (fun q => kt (by simpa using q) K B p l e R s m args below meth c H locs Q a hC hR h0 hI hO hS hL hQ) (fun q => kf (by simpa using q) K B p l e R s m args below meth c H locs Q a hC hR h0 hI hO hS hL hQ)
theorem E_if_lt {x : Int32} {off : Int} (tgt : Nat) (hd : decode M.2.1 pc = .ok (.ifCond .lt off, 3)) (ht : (pc : Int) + off = (tgt : Int)) (kt : x < 0 → Ev d M n0 (tgt) ls (st) n I G J Φ) (kf : ¬ (x < 0) → Ev d M n0 (pc + 3) ls (st) n I G J Φ) : Ev d M n0 (pc) ls (.int x :: st) n I G J Φ :=
  fun K B p l e R s m args below meth c H locs Q a hC hR h0 hI hO hS hL hQ => lv_if_lt hC.1.1 hC.1.2.1 hd ht (fun q => kt (by simpa using q) K B p l e R s m args below meth c H locs Q a hC hR h0 hI hO hS hL hQ) (fun q => kf (by simpa using q) K B p l e R s m args below meth c H locs Q a hC hR h0 hI hO hS hL hQ)
theorem E_icmp_lt {x y : Int32} {off : Int} (tgt : Nat) (hd : decode M.2.1 pc = .ok (.if_icmp .lt off, 3)) (ht : (pc : Int) + off = (tgt : Int)) (kt : x < y → Ev d M n0 (tgt) ls (st) n I G J Φ) (kf : ¬ (x < y) → Ev d M n0 (pc + 3) ls (st) n I G J Φ) : Ev d M n0 (pc) ls (.int y :: .int x :: st) n I G J Φ :=
  fun K B p l e R s m args below meth c H locs Q a hC hR h0 hI hO hS hL hQ => lv_icmp_lt hC.1.1 hC.1.2.1 hd ht (fun q => kt (by simpa using q) K B p l e R s m args below meth c H locs Q a hC hR h0 hI hO hS hL hQ) (fun q => kf (by simpa using q) K B p l e R s m args below meth c H locs Q a hC hR h0 hI hO hS hL hQ)
theorem E_if_ge {x : Int32} {off : Int} (tgt : Nat) (hd : decode M.2.1 pc = .ok (.ifCond .ge off, 3)) (ht : (pc : Int) + off = (tgt : Int)) (kt : 0 ≤ x → Ev d M n0 (tgt) ls (st) n I G J Φ) (kf : ¬ (0 ≤ x) → Ev d M n0 (pc + 3) ls (st) n I G J Φ) : Ev d M n0 (pc) ls (.int x :: st) n I G J Φ :=
  fun K B p l e R s m args below meth c H locs Q a hC hR h0 hI hO hS hL hQ => lv_if_ge hC.1.1 hC.1.2.1 hd ht (fun q => kt (by simpa using q) K B p l e R s m args below meth c H locs Q a hC hR h0 hI hO hS hL hQ) (fun q => kf (by simpa using q) K B p l e R s m args below meth c H locs Q a hC hR h0 hI hO hS hL hQ)
theorem E_icmp_ge {x y : Int32} {off : Int} (tgt : Nat) (hd : decode M.2.1 pc = .ok (.if_icmp .ge off, 3)) (ht : (pc : Int) + off = (tgt : Int)) (kt : y ≤ x → Ev d M n0 (tgt) ls (st) n I G J Φ) (kf : ¬ (y ≤ x) → Ev d M n0 (pc + 3) ls (st) n I G J Φ) : Ev d M n0 (pc) ls (.int y :: .int x :: st) n I G J Φ :=
  fun K B p l e R s m args below meth c H locs Q a hC hR h0 hI hO hS hL hQ => lv_icmp_ge hC.1.1 hC.1.2.1 hd ht (fun q => kt (by simpa using q) K B p l e R s m args below meth c H locs Q a hC hR h0 hI hO hS hL hQ) (fun q => kf (by simpa using q) K B p l e R s m args below meth c H locs Q a hC hR h0 hI hO hS hL hQ)
theorem E_if_gt {x : Int32} {off : Int} (tgt : Nat) (hd : decode M.2.1 pc = .ok (.ifCond .gt off, 3)) (ht : (pc : Int) + off = (tgt : Int)) (kt : 0 < x → Ev d M n0 (tgt) ls (st) n I G J Φ) (kf : ¬ (0 < x) → Ev d M n0 (pc + 3) ls (st) n I G J Φ) : Ev d M n0 (pc) ls (.int x :: st) n I G J Φ :=
  fun K B p l e R s m args below meth c H locs Q a hC hR h0 hI hO hS hL hQ => lv_if_gt hC.1.1 hC.1.2.1 hd ht (fun q => kt (by simpa using q) K B p l e R s m args below meth c H locs Q a hC hR h0 hI hO hS hL hQ) (fun q => kf (by simpa using q) K B p l e R s m args below meth c H locs Q a hC hR h0 hI hO hS hL hQ)
theorem E_icmp_gt {x y : Int32} {off : Int} (tgt : Nat) (hd : decode M.2.1 pc = .ok (.if_icmp .gt off, 3)) (ht : (pc : Int) + off = (tgt : Int)) (kt : y < x → Ev d M n0 (tgt) ls (st) n I G J Φ) (kf : ¬ (y < x) → Ev d M n0 (pc + 3) ls (st) n I G J Φ) : Ev d M n0 (pc) ls (.int y :: .int x :: st) n I G J Φ :=
  fun K B p l e R s m args below meth c H locs Q a hC hR h0 hI hO hS hL hQ => lv_icmp_gt hC.1.1 hC.1.2.1 hd ht (fun q => kt (by simpa using q) K B p l e R s m args below meth c H locs Q a hC hR h0 hI hO hS hL hQ) (fun q => kf (by simpa using q) K B p l e R s m args below meth c H locs Q a hC hR h0 hI hO hS hL hQ)
theorem E_if_le {x : Int32} {off : Int} (tgt : Nat) (hd : decode M.2.1 pc = .ok (.ifCond .le off, 3)) (ht : (pc : Int) + off = (tgt : Int)) (kt : x ≤ 0 → Ev d M n0 (tgt) ls (st) n I G J Φ) (kf : ¬ (x ≤ 0) → Ev d M n0 (pc + 3) ls (st) n I G J Φ) : Ev d M n0 (pc) ls (.int x :: st) n I G J Φ :=
  fun K B p l e R s m args below meth c H locs Q a hC hR h0 hI hO hS hL hQ => lv_if_le hC.1.1 hC.1.2.1 hd ht (fun q => kt (by simpa using q) K B p l e R s m args below meth c H locs Q a hC hR h0 hI hO hS hL hQ) (fun q => kf (by simpa using q) K B p l e R s m args below meth c H locs Q a hC hR h0 hI hO hS hL hQ)
theorem E_icmp_le {x y : Int32} {off : Int} (tgt : Nat) (hd : decode M.2.1 pc = .ok (.if_icmp .le off, 3)) (ht : (pc : Int) + off = (tgt : Int)) (kt : x ≤ y → Ev d M n0 (tgt) ls (st) n I G J Φ) (kf : ¬ (x ≤ y) → Ev d M n0 (pc + 3) ls (st) n I G J Φ) : Ev d M n0 (pc) ls (.int y :: .int x :: st) n I G J Φ :=
  fun K B p l e R s m args below meth c H locs Q a hC hR h0 hI hO hS hL hQ => lv_icmp_le hC.1.1 hC.1.2.1 hd ht (fun q => kt (by simpa using q) K B p l e R s m args below meth c H locs Q a hC hR h0 hI hO hS hL hQ) (fun q => kf (by simpa using q) K B p l e R s m args below meth c H locs Q a hC hR h0 hI hO hS hL hQ)
theorem E_goto {off : Int} (tgt : Nat) (hd : decode M.2.1 pc = .ok (.goto off, 3)) (ht : (pc : Int) + off = (tgt : Int)) (k : Ev d M n0 (tgt) ls (st) n I G J Φ) : Ev d M n0 (pc) ls (st) n I G J Φ :=
  Ev.of (fun K B p l e R s m args below meth c H locs cells slots Q a hC hL k => lv_goto hC.1.1 hC.1.2.1 hd ht k) k
/-- a switch over i, i + 1 ..: the case, or the rest -/
def SW (x : Int32) (P : Nat → Prop) (dt : Nat) : Nat → List Nat → Prop
  | _, [] => P dt
  | i, t :: ts => (x = nI i → P t) ∧ (¬ x = nI i → SW x P dt (i + 1) ts)
theorem SW_in {x : Int32} {P : Nat → Prop} {dt : Nat} : ∀ {ts : List Nat} {i j t : Nat}, SW x P dt i ts → ts[j]? = some t → x = nI (i + j) → i + ts.length < 2 ^ 31 → P t
  | [], i, j, t, _, h, _, _ => by simp at h
  | u :: us, i, j, t, h, hj, hx, hb => by
    cases j with
    | zero =>
      rw [List.getElem?_cons_zero] at hj
      cases hj
      exact h.1 hx
    | succ j =>
      rw [List.getElem?_cons_succ] at hj
      simp only [List.length_cons] at hb
      have hl := (List.getElem?_eq_some_iff.mp hj).1
      refine SW_in (h.2 (fun e => ?_)) hj (by rw [hx]; congr 1; omega) (by omega)
      rw [hx] at e
      have := (nI_eq (by omega) (by omega)).mp e
      omega
theorem SW_out {x : Int32} {P : Nat → Prop} {dt : Nat} : ∀ {ts : List Nat} {i : Nat}, SW x P dt i ts → (∀ j, j < ts.length → ¬ x = nI (i + j)) → P dt
  | [], i, h, _ => h
  | u :: us, i, h, hx => SW_out (h.2 (hx 0 (by simp))) (fun j hj => by have := hx (j + 1) (by simp; omega); rw [show i + (j + 1) = i + 1 + j by omega] at this; exact this)
theorem E_tsw {x : Int32} {dflt hi : Int} {offs : Array Int} {len : Nat} (lo : Nat) (ts : List Nat) (dt : Nat) (hd : decode M.2.1 pc = .ok (.tableswitch dflt (lo : Int) hi offs, len)) (ht : offs.toList.map (fun o => (pc : Int) + o) = ts.map (fun (t : Nat) => (Int.ofNat t))) (hh : hi + 1 = (lo : Int) + (ts.length : Int)) (hdt : (pc : Int) + dflt = (dt : Int)) (hb : lo + ts.length < 2 ^ 31)
    (k : SW x (fun t => Ev d M n0 t ls st n I G J Φ) dt lo ts) : Ev d M n0 pc ls (.int x :: st) n I G J Φ := by
  intro K B p l e R s m args below meth c H locs Q a hC hR h0 hI hO hS hL hQ
  by_cases h1 : x.toInt < (lo : Int) ∨ hi < x.toInt
  · refine lv_tableOut hC.1.1 hC.1.2.1 hd h1 hdt ?_
    refine SW_out k (fun j hj e => ?_) K B p l e R s m args below meth c H locs Q a hC hR h0 hI hO hS hL hQ
    rw [e, nI_toInt (by omega)] at h1
    omega
  · obtain ⟨j, hj⟩ : ∃ j : Nat, x.toInt = ((lo + j : Nat) : Int) := ⟨(x.toInt - lo).toNat, by omega⟩
    have hjl : j < ts.length := by omega
    have hx : x = nI (lo + j) := Int32.toInt_inj.mp (by rw [hj, nI_toInt (by omega)])
    have hts : ts[j]? = some ts[j] := List.getElem?_eq_getElem hjl
    have hlen : offs.toList.length = ts.length := by have := congrArg List.length ht; simpa using this
    have hjo : j < offs.size := by rw [← Array.length_toList]; omega
    have ho : offs[j]? = some offs[j] := Array.getElem?_eq_getElem hjo
    have he : (pc : Int) + offs[j] = (ts[j] : Int) := by
      have := congrArg (fun z => z[j]?) ht
      simp only [List.getElem?_map, Array.getElem?_toList, ho, hts, Option.map_some, Option.some.injEq] at this
      exact this
    refine lv_tableIn hC.1.1 hC.1.2.1 hd (by omega) (by omega) (off := offs[j]) (by rw [show (x.toInt - (lo : Int)).toNat = j by omega]; exact ho) he ?_
    exact SW_in k hts hx hb K B p l e R s m args below meth c H locs Q a hC hR h0 hI hO hS hL hQ
/-- a switch over keys -/
def KW (x : Int32) (P : Nat → Prop) (dt : Nat) : List (Int32 × Nat) → Prop
  | [] => P dt
  | q :: ts => (x = q.1 → P q.2) ∧ (¬ x = q.1 → KW x P dt ts)
theorem KW_go {x : Int32} {P : Nat → Prop} {dt pc : Nat} {dflt : Int} (hdt : (pc : Int) + dflt = (dt : Int)) : ∀ {ts : List (Int32 × Nat)} {ps : List (Int × Int)}, KW x P dt ts → ps.map (fun q => (q.1, (pc : Int) + q.2)) = ts.map (fun q => (q.1.toInt, (q.2 : Int))) → ∃ t : Nat, P t ∧ (pc : Int) + Op.lookupswitch.offset ps dflt x.toInt = (t : Int)
  | [], [], h, _ => ⟨dt, h, by simpa [Op.lookupswitch.offset] using hdt⟩
  | [], _ :: _, _, e => by simp at e
  | _ :: _, [], _, e => by simp at e
  | q :: ts, (a, o) :: ps, h, e => by
    simp only [List.map_cons, List.cons.injEq, Prod.mk.injEq] at e
    obtain ⟨⟨e1, e2⟩, e3⟩ := e
    by_cases hx : x = q.1
    · refine ⟨q.2, h.1 hx, ?_⟩
      rw [Op.lookupswitch.offset_cons, if_pos (by rw [hx, e1])]
      exact e2
    · obtain ⟨t, h1, h2⟩ := KW_go hdt (h.2 hx) e3
      refine ⟨t, h1, ?_⟩
      rw [lv_osw hx e1.symm]
      exact h2
theorem E_lsw {x : Int32} {dflt : Int} {ps : Array (Int × Int)} {len : Nat} (ts : List (Int32 × Nat)) (dt : Nat) (hd : decode M.2.1 pc = .ok (.lookupswitch dflt ps, len)) (hp : (ps.toList.zip (ps.toList.drop 1)).all (fun (a, next) => a.1 < next.1) = true) (ht : ps.toList.map (fun q => (q.1, (pc : Int) + q.2)) = ts.map (fun q => (q.1.toInt, (q.2 : Int)))) (hdt : (pc : Int) + dflt = (dt : Int))
    (k : KW x (fun t => Ev d M n0 t ls st n I G J Φ) dt ts) : Ev d M n0 pc ls (.int x :: st) n I G J Φ := by
  intro K B p l e R s m args below meth c H locs Q a hC hR h0 hI hO hS hL hQ
  obtain ⟨t, h1, h2⟩ := KW_go hdt k ht
  exact lv_lookup hC.1.1 hC.1.2.1 hd hp rfl h2 (h1 K B p l e R s m args below meth c H locs Q a hC hR h0 hI hO hS hL hQ)
/-! returns -/
theorem E_iret {v : Int32} (hd : decode M.2.1 pc = .ok (.ireturn, 1)) (hr : M.2.2.2.1 = some .int ∨ (M.2.2.2.1 = some .boolean ∧ narrow .boolean (.int v) = .int v)) (hn : n = n0 + M.2.2.2.2.1) (hs : pre n = pre n0 + M.2.2.2.2.2) (k : Φ (some (.int v)) n I G J) : Ev d M n0 pc ls [.int v] n I G J Φ := by
  intro K B p l e R s m args below meth c H locs Q a hC hR h0 hI hO hS hL hQ
  have hw := hQ (some (.int v)) n I G J H locs pc a k hI hO hS (Or.inl ⟨v, rfl, hd, hr⟩) hn hs
  rw [show n - n0 = M.2.2.2.2.1 by omega, show pre n - pre n0 = M.2.2.2.2.2 by omega]
  exact hw
theorem E_lret {v : Int64} (hd : decode M.2.1 pc = .ok (.lreturn, 1)) (hr : M.2.2.2.1 = some .long) (hn : n = n0 + M.2.2.2.2.1) (hs : pre n = pre n0 + M.2.2.2.2.2) (k : Φ (some (.long v)) n I G J) : Ev d M n0 pc ls [.long v] n I G J Φ := by
  intro K B p l e R s m args below meth c H locs Q a hC hR h0 hI hO hS hL hQ
  have hw := hQ (some (.long v)) n I G J H locs pc a k hI hO hS (Or.inr (Or.inl ⟨v, rfl, hd, hr⟩)) hn hs
  rw [show n - n0 = M.2.2.2.2.1 by omega, show pre n - pre n0 = M.2.2.2.2.2 by omega]
  exact hw
theorem E_vret (hd : decode M.2.1 pc = .ok (.return_, 1)) (hr : M.2.2.2.1 = none) (hn : n = n0 + M.2.2.2.2.1) (hs : pre n = pre n0 + M.2.2.2.2.2) (k : Φ none n I G J) : Ev d M n0 pc ls [] n I G J Φ := by
  intro K B p l e R s m args below meth c H locs Q a hC hR h0 hI hO hS hL hQ
  have hw := hQ none n I G J H locs pc a k hI hO hS (Or.inr (Or.inr ⟨rfl, hd, hr⟩)) hn hs
  rw [show n - n0 = M.2.2.2.2.1 by omega, show pre n - pre n0 = M.2.2.2.2.2 by omega]
  exact hw
end RULES
end
section
/-! ===== the classes' own rows ===== -/
theorem in_0 : ∀ w ∈ u_ws RX0 TX0 7, w ∈ tb := by decide +kernel
theorem in_1 : ∀ w ∈ u_ws RX1 TX1 15, w ∈ tb := by decide +kernel
theorem in_2 : ∀ w ∈ u_ws RX2 TX2 8, w ∈ tb := by decide +kernel
theorem in_3 : ∀ w ∈ u_ws RX3 TX3 7, w ∈ tb := by decide +kernel
theorem in_4 : ∀ w ∈ u_ws RX4 TX4 16, w ∈ tb := by decide +kernel
theorem in_5 : ∀ w ∈ u_ws RX5 TX5 33, w ∈ tb := by decide +kernel
def tyA (ci : Nat) : Nat → FieldType := match ci with
  | 0 => tyX0 | 1 => tyX1 | 2 => tyX2 | 3 => tyX3 | 4 => tyX4 | _ => tyX5
theorem cls_6 {ci : Nat} {q : vw_C} (h : vwCl[ci]? = some q) : ci < 6 := by
  have := (List.getElem?_eq_some_iff.mp h).1
  simpa [vwCl] using this
theorem cls_all {P : Nat → vw_C → Prop} (h0 : P 0 (RX0, TX0, 7)) (h1 : P 1 (RX1, TX1, 15)) (h2 : P 2 (RX2, TX2, 8)) (h3 : P 3 (RX3, TX3, 7)) (h4 : P 4 (RX4, TX4, 16)) (h5 : P 5 (RX5, TX5, 33)) : ∀ (ci : Nat) (q : vw_C), vwCl[ci]? = some q → P ci q := by
  intro ci q h
  match ci, h with
  | 0, h => cases h; exact h0
  | 1, h => cases h; exact h1
  | 2, h => cases h; exact h2
  | 3, h => cases h; exact h3
  | 4, h => cases h; exact h4
  | 5, h => cases h; exact h5
  | k + 6, h => exact absurd (cls_6 h) (by omega)
theorem cls_in : ∀ (ci : Nat) (q : vw_C), vwCl[ci]? = some q → ∀ w ∈ u_ws q.1 q.2.1 q.2.2, w ∈ tb := cls_all in_0 in_1 in_2 in_3 in_4 in_5
theorem cls_ty : ∀ (ci : Nat) (q : vw_C), vwCl[ci]? = some q → ∀ k, k < q.2.2 → parseFieldDescriptor (q.2.1 k).2.2.1 = some (tyA ci k) := cls_all tyX0_ok tyX1_ok tyX2_ok tyX3_ok tyX4_ok tyX5_ok
theorem cls_nm : ∀ (ci : Nat) (q : vw_C), vwCl[ci]? = some q → ∀ a, a < q.2.2 → ∀ b, b < q.2.2 → a ≠ b → (q.2.1 a).2.1 ≠ (q.2.1 b).2.1 := cls_all nmX0 nmX1 nmX2 nmX3 nmX4 nmX5
theorem sh_obj : ∀ x ∈ shL, x.1 < 6 → (vwCl[x.1]?).map (fun q => q.2.2) = some x.2 := by decide +kernel
theorem sh_mem {c : Nat} {x : Nat × Nat} (h : shp c = x) (hx : x.1 ≠ 99) : x ∈ shL := by
  unfold shp at h
  rw [List.getD_eq_getElem?_getD] at h
  cases hc : shL[c]? with
  | none => rw [hc] at h; subst h; exact absurd rfl hx
  | some y =>
    rw [hc] at h
    subst h
    exact List.mem_of_getElem? hc
theorem sh_size {c ci z : Nat} {q : vw_C} (h : shp c = (ci, z)) (h6 : ci < 6) (hq : vwCl[ci]? = some q) : q.2.2 = z := by
  have := sh_obj _ (sh_mem h (by show ci ≠ 99; omega)) h6
  simp only at this
  rw [hq] at this
  exact Option.some.inj this
theorem cel_obj {K : Pk} {I : MI} {G : MG} {J : MJ} {c ci z : Nat} (h : shp c = (ci, z)) (h6 : ci < 6) : celE K I G J c = .inr (ci, (List.range z).map (fval K.1 I G J ci c)) := by
  unfold celE
  rw [h, if_pos h6]
theorem cel_int {K : Pk} {I : MI} {G : MG} {J : MJ} {c ci z : Nat} (h : shp c = (ci, z)) (h6 : 6 ≤ ci) (h9 : ci < 9) : celE K I G J c = .inl (K.2.1 (ci - 6), z, .inl (I c)) := by
  unfold celE
  rw [h, if_neg (Nat.not_lt.mpr h6), if_pos h9]
theorem cel_ref {K : Pk} {I : MI} {G : MG} {J : MJ} {c ci z : Nat} (h : shp c = (ci, z)) (h9 : 9 ≤ ci) : celE K I G J c = .inl (K.2.1 (ci - 6), z, .inr (.inr (.inr (.inr (fun i => (G c i).map K.1))))) := by
  unfold celE
  rw [h]
  dsimp only
  rw [if_neg (show ¬ ci < 6 by omega), if_neg (show ¬ ci < 9 by omega)]
/-- the field behind a constant of a class: class and place -/
def FL (own : String) (ix ci k : Nat) : Prop := ∃ q : vw_C, vwCl[ci]? = some q ∧ k < q.2.2 ∧ Cond.fieldLink own ix q.1 (q.2.1 k).2.1 (q.2.1 k).2.2.1 ∈ tb ∧ (q.2.1 k).1 = q.1
theorem Iw_set {K : Pk} {n c : Nat} {I I' : MI} {G G' : MG} {J J' : MJ} {H H1 : Heap} (hI : Iw K n I G J H) (had : Had K) (hc : c < n) (z : H1.size = H.size) (oq : ∀ q : Nat, q ≠ K.1 c → H1[q]? = H[q]?) (he : va_at K.2.2.1 vwCl (K.1 c, celE K I' G' J' c) H1) (h1 : ∀ x, x ≠ c → I' x = I x) (h2 : ∀ x, x ≠ c → G' x = G x) (h3 : ∀ x, x ≠ c → J' x = J x) : Iw K n I' G' J' H1 := by
  refine ⟨?_, z.trans hI.2.1, hI.2.2⟩
  rw [← wsO_set hc h1 h2 h3]
  exact hI.1.set (wsO_D had hI.2.2) (wsO_at hc) he oq
theorem Iw_A {K : Pk} {n c : Nat} {I : MI} {G : MG} {J : MJ} {H : Heap} (hI : Iw K n I G J H) (had : Had K) (hc : c < n) : Aw K (K.1 c) := by
  unfold Aw
  rw [had c (by have := hI.2.2; omega)]
  omega
theorem fv_set {ad : Nat → Nat} {I I' : MI} {G G' : MG} {J J' : MJ} {ci c k z : Nat} {v : Value} (hk : k < z) (hv : fval ad I' G' J' ci c k = v) (hne : ∀ j, j ≠ k → fval ad I' G' J' ci c j = fval ad I G J ci c j) : (List.range z).map (fval ad I' G' J' ci c) = ((List.range z).map (fval ad I G J ci c)).set k v := by
  apply List.ext_getElem?
  intro j
  by_cases hj : j = k
  · subst hj
    rw [List.getElem?_set_self (by simp [hk])]
    simp [hk, hv]
  · rw [List.getElem?_set_ne (Ne.symm hj)]
    simp only [List.getElem?_map]
    by_cases hz : j < z
    · rw [List.getElem?_range hz]
      simp [hne j hj]
    · rw [List.getElem?_eq_none (by simp; omega)]
      rfl
section MEM
variable {d : Nat} {M : Mt} {n0 pc : Nat} {ls : List (Option Value)} {st : List Value} {n : Nat} {I : MI} {G : MG} {J : MJ} {Φ : Ph}
theorem E_getv {ix : Nat} (ci k c z : Nat) {v : Value} (hd : decode M.2.1 pc = .ok (.getfield ix, 3)) (hf : FL M.1.cls ix ci k) (hs : shn n c = (ci, z)) (hv : ∀ ad : Nat → Nat, fval ad I G J ci c k = cvv ad v) (kk : Ev d M n0 (pc + 3) ls (v :: st) n I G J Φ) : Ev d M n0 pc ls (.ref c :: st) n I G J Φ := by
  intro K B p l e R s m args below meth cd H locs Q a hC hR h0 hI hO hS hL hQ
  obtain ⟨q, hq, hk, hw, hdc⟩ := hf
  have h6 := cls_6 hq
  obtain ⟨hcn, hsh⟩ := shn_lt hs (by omega)
  have hz := sh_size hsh h6 hq
  refine va_get (C := q.1) (T := q.2.1) (N := q.2.2) hC.1.1 hC.1.2.1 hC.1.2.2.2.2 (cls_in ci q hq) hC.1.2.2.2.1 hC.2.2.2.2.1 hI.1 c ((wsO_at hcn).trans (by rw [cel_obj hsh h6])) hq k hk (hC.1.2.2.2.2 _ hw) (fun x h => by rw [← hdc]; exact h) (v := cvv K.1 v) (by simp [← hz, hk, hv]) hd ?_
  exact kk K B p l e R s m args below meth cd H locs Q a hC hR h0 hI hO hS hL hQ
theorem E_geti {ix : Nat} (ci k c z : Nat) (hd : decode M.2.1 pc = .ok (.getfield ix, 3)) (hf : FL M.1.cls ix ci k) (hk : fkd ci k = 0) (hs : shn n c = (ci, z)) (kk : Ev d M n0 (pc + 3) ls (.int (I c k) :: st) n I G J Φ) : Ev d M n0 pc ls (.ref c :: st) n I G J Φ :=
  E_getv ci k c z hd hf hs (fun ad => by simp [fval, hk, cvv]) kk
theorem E_getl {ix : Nat} (ci k c z : Nat) (hd : decode M.2.1 pc = .ok (.getfield ix, 3)) (hf : FL M.1.cls ix ci k) (hk : fkd ci k = 2) (hs : shn n c = (ci, z)) (kk : Ev d M n0 (pc + 3) ls (.long (J c k) :: st) n I G J Φ) : Ev d M n0 pc ls (.ref c :: st) n I G J Φ :=
  E_getv ci k c z hd hf hs (fun ad => by simp [fval, hk, cvv]) kk
theorem E_getr {ix : Nat} (ci k c z r : Nat) (hd : decode M.2.1 pc = .ok (.getfield ix, 3)) (hf : FL M.1.cls ix ci k) (hk : fkd ci k = 1) (hs : shn n c = (ci, z)) (hr : G c k = some r) (kk : Ev d M n0 (pc + 3) ls (.ref r :: st) n I G J Φ) : Ev d M n0 pc ls (.ref c :: st) n I G J Φ :=
  E_getv ci k c z hd hf hs (fun ad => by simp [fval, hk, cvv, hr, va_rf]) kk
/-- a put into a field, final or not -/
theorem E_putv {ix : Nat} (ci k c z : Nat) {v : Value} {I' : MI} {G' : MG} {J' : MJ} (hd : decode M.2.1 pc = .ok (.putfield ix, 3)) (hf : FL M.1.cls ix ci k) (hs : shn n c = (ci, z))
    (hfin : (∃ q, vwCl[ci]? = some q ∧ (q.2.1 k).2.2.2 = false) ∨ (∃ q, vwCl[ci]? = some q ∧ (q.2.1 k).2.2.2 = true ∧ q.1 = M.1.cls ∧ M.1.name = "<init>"))
    (hn : narrow (tyA ci k) v = v) (hft : ∀ ad : Nat → Nat, fits (tyA ci k) (cvv ad v) = true ∧ narrow (tyA ci k) (cvv ad v) = cvv ad v) (hv : ∀ ad : Nat → Nat, fval ad I' G' J' ci c k = cvv ad v) (hne : ∀ (ad : Nat → Nat) (j : Nat), j ≠ k → fval ad I' G' J' ci c j = fval ad I G J ci c j)
    (h1 : ∀ x, x ≠ c → I' x = I x) (h2 : ∀ x, x ≠ c → G' x = G x) (h3 : ∀ x, x ≠ c → J' x = J x) (kk : Ev d M n0 (pc + 3) ls st n I' G' J' Φ) : Ev d M n0 pc ls (v :: .ref c :: st) n I G J Φ := by
  intro K B p l e R s m args below meth cd H locs Q a hC hR h0 hI hO hS hL hQ
  have had := hC.2.2.2.2.2.2
  obtain ⟨q, hq, hk, hw, hdc⟩ := hf
  have h6 := cls_6 hq
  obtain ⟨hcn, hsh⟩ := shn_lt hs (by omega)
  have hz := sh_size hsh h6 hq
  have hts := hC.1.2.2.2.2
  have hown := hC.1.2.2.2.1
  have hin := cls_in ci q hq
  have hap := va_apart (own := M.1.cls) hts hin (tyA ci) (cls_ty ci q hq) (cls_nm ci q hq) hC.2.2.2.2.1 hq
  have he : (wsO K n I G J)[c]? = some (K.1 c, .inr (ci, (List.range z).map (fval K.1 I G J ci c))) := (wsO_at hcn).trans (by rw [cel_obj hsh h6])
  obtain ⟨r, hr1, cell, q1, q2, q3, q4⟩ := hI.1 c _ he
  have hr : r = q := Option.some.inj (hr1.symm.trans hq)
  subst hr
  obtain ⟨hSl, hfc, kC, hkC, hkind⟩ := hC.2.2.2.2.1.1 ci _ hq
  obtain ⟨cf, kf, fi, f, hi, hsl⟩ := hSl k hk
  have hlay := hts _ (hin _ (u_in_lay hk))
  unfold u_lay at hlay
  have hst := (u_facts hfc hkC (u_lays hts hin hk) hi).1
  have hdt := cls_ty ci r hq k hk
  have hc1000 : c < 1000 := by have := hI.2.2; omega
  have fin : ∀ H1 : Heap, H1[K.1 c]? = some (cell.setSlot f.slot (cvv K.1 v)) → H1.size = H.size → (∀ x : Nat, x ≠ K.1 c → H1[x]? = H[x]?) → W p l e R s m args below meth cd H1 (locs ++ [⟨K.1 c, f.slot⟩]) (n - n0) (pre n - pre n0) Q (F0 m (pc + 3) a (st.map (cvv K.1))) := by
    intro H1 e1 e2 e3
    rw [hsl] at e1 ⊢
    refine kk K B p l e R s m args below meth cd H1 _ Q a hC hR h0 (Iw_set hI had hcn e2 e3 ?_ h1 h2 h3) (hO.mem (fun x hx => h1 x (by omega)) (fun x hx => h2 x (by omega))) (hS.put e2 e3 (Iw_A hI had hcn)) hL hQ
    rw [cel_obj hsh h6, fv_set (by omega) (hv K.1) (hne K.1)]
    exact ⟨_, hq, t_OB.to (V := updV (vp_V _) k (cvv K.1 v)) ⟨_, e1, q2, q3, t_set q4 hap hk _⟩ (fun j _ => vp_updV_set (by simp; omega) _ j)⟩
  rcases hfin with ⟨q', hq', hf'⟩ | ⟨q', hq', hf', hcl, hnm⟩
  · cases hq.symm.trans hq'
    rw [if_neg (by rw [hf']; decide)] at hlay
    have h6' := u_store hfc hkC hkind hlay hi hdt (hft K.1).2 (hft K.1).1
    exact W.putK hC.1.1 hC.1.2.1 (f := f) ⟨hown, hts _ hw, ⟨_, _, _, by rw [← hdc]; exact hi⟩, hst⟩ (by rw [q2]; exact h6') q1 q3 (by rw [hsl]; exact k2_hasslot (q4 k hk)) rfl rfl hd fin
  · cases hq.symm.trans hq'
    rw [if_pos hf'] at hlay
    have hcf : m.cls = cf := by
      obtain ⟨_, _, c', _, _, _, -, -, hf2, -, -, -, hown2, -⟩ := Cond.laysFinal_spec hlay
      have e1 : c' = cf := by have := hi.symm.trans hf2; simp at this; exact this.1.symm
      rw [hdc, hcl] at hown2
      rw [← e1]; exact Option.some.inj (hown.symm.trans hown2)
    have h6' := u_fits hfc hkC hkind (Or.inr hlay) hi hdt (hft K.1).2 (hft K.1).1
    exact W.putFinK hC.1.1 hC.1.2.1 hown (hts _ hw) (by rw [← hdc]; exact hi) hst hcf (by rw [hC.2.2.2.1, hnm]) (by rw [q2]; exact h6') q1 q3 (by rw [hsl]; exact k2_hasslot (q4 k hk)) rfl rfl hd fin
theorem E_puti {ix : Nat} (ci k c z : Nat) {x : Int32} (hd : decode M.2.1 pc = .ok (.putfield ix, 3)) (hf : FL M.1.cls ix ci k) (hk : fkd ci k = 0) (hs : shn n c = (ci, z)) (hfin : ∃ q, vwCl[ci]? = some q ∧ (q.2.1 k).2.2.2 = false) (hn : narrow (tyA ci k) (.int x) = .int x) (hft : fits (tyA ci k) (.int x) = true) (kk : Ev d M n0 (pc + 3) ls st n (u2 I c k x) G J Φ) : Ev d M n0 pc ls (.int x :: .ref c :: st) n I G J Φ :=
  E_putv ci k c z hd hf hs (Or.inl hfin) hn (fun ad => ⟨hft, hn⟩) (fun ad => by simp [fval, hk, cvv, u2]) (fun ad j hj => by simp [fval, u2, hj]) (fun x hx => u2_row _ _ _ hx) (fun _ _ => rfl) (fun _ _ => rfl) kk
theorem E_putl {ix : Nat} (ci k c z : Nat) {x : Int64} (hd : decode M.2.1 pc = .ok (.putfield ix, 3)) (hf : FL M.1.cls ix ci k) (hk : fkd ci k = 2) (hs : shn n c = (ci, z)) (hfin : ∃ q, vwCl[ci]? = some q ∧ (q.2.1 k).2.2.2 = false) (hn : narrow (tyA ci k) (.long x) = .long x) (hft : fits (tyA ci k) (.long x) = true) (kk : Ev d M n0 (pc + 3) ls st n I G (u2 J c k x) Φ) : Ev d M n0 pc ls (.long x :: .ref c :: st) n I G J Φ :=
  E_putv ci k c z hd hf hs (Or.inl hfin) hn (fun ad => ⟨hft, hn⟩) (fun ad => by simp [fval, hk, cvv, u2]) (fun ad j hj => by simp [fval, u2, hj]) (fun _ _ => rfl) (fun _ _ => rfl) (fun x hx => u2_row _ _ _ hx) kk
theorem E_putr {ix : Nat} (ci k c z r : Nat) (hd : decode M.2.1 pc = .ok (.putfield ix, 3)) (hf : FL M.1.cls ix ci k) (hk : fkd ci k = 1) (hs : shn n c = (ci, z)) (hfin : (∃ q, vwCl[ci]? = some q ∧ (q.2.1 k).2.2.2 = false) ∨ (∃ q, vwCl[ci]? = some q ∧ (q.2.1 k).2.2.2 = true ∧ q.1 = M.1.cls ∧ M.1.name = "<init>")) (hn : ∀ r, narrow (tyA ci k) (.ref r) = .ref r) (hft : ∀ r, fits (tyA ci k) (.ref r) = true) (kk : Ev d M n0 (pc + 3) ls st n I (u2 G c k (some r)) J Φ) : Ev d M n0 pc ls (.ref r :: .ref c :: st) n I G J Φ :=
  E_putv ci k c z hd hf hs hfin (hn r) (fun ad => ⟨hft (ad r), hn (ad r)⟩) (fun ad => by simp [fval, hk, cvv, u2, va_rf]) (fun ad j hj => by simp [fval, u2, hj]) (fun _ _ => rfl) (fun x hx => u2_row _ _ _ hx) (fun _ _ => rfl) kk
end MEM
end
section
section ARR
variable {d : Nat} {M : Mt} {n0 pc : Nat} {ls : List (Option Value)} {st : List Value} {n : Nat} {I : MI} {G : MG} {J : MJ} {Φ : Ph}
theorem ty_at {K : Pk} : (tyK K)[0]? = some (K.2.1 0, .int) ∧ (tyK K)[1]? = some (K.2.1 1, .char) ∧ (tyK K)[2]? = some (K.2.1 2, .boolean) ∧ (tyK K)[3]? = some (K.2.1 3, .object RX2) ∧ (tyK K)[4]? = some (K.2.1 4, .array .int) := ⟨rfl, rfl, rfl, rfl, rfl⟩
theorem E_iald {i : Int32} (c z : Nat) (hd : decode M.2.1 pc = .ok (.iaload, 1)) (hs : shn n c = (6, z)) (hin : vp_in i z) (k : Ev d M n0 (pc + 1) ls (.int (I c i.toNatClampNeg) :: st) n I G J Φ) : Ev d M n0 pc ls (.int i :: .ref c :: st) n I G J Φ := by
  intro K B p l e R s m args below meth cd H locs Q a hC hR h0 hI hO hS hL hQ
  obtain ⟨hcn, hsh⟩ := shn_lt hs (by omega)
  exact va_iald hC.1.1 hC.1.2.1 hC.2.2.2.2.1 hI.1 c 0 ((wsO_at hcn).trans (by rw [cel_int hsh (by omega) (by omega)])) ty_at.1 hin hd (k K B p l e R s m args below meth cd H locs Q a hC hR h0 hI hO hS hL hQ)
theorem E_cald {i : Int32} (c z : Nat) (hd : decode M.2.1 pc = .ok (.caload, 1)) (hs : shn n c = (7, z)) (hin : vp_in i z) (k : Ev d M n0 (pc + 1) ls (.int (I c i.toNatClampNeg) :: st) n I G J Φ) : Ev d M n0 pc ls (.int i :: .ref c :: st) n I G J Φ := by
  intro K B p l e R s m args below meth cd H locs Q a hC hR h0 hI hO hS hL hQ
  obtain ⟨hcn, hsh⟩ := shn_lt hs (by omega)
  exact va_cald hC.1.1 hC.1.2.1 hC.2.2.2.2.1 hI.1 c 1 ((wsO_at hcn).trans (by rw [cel_int hsh (by omega) (by omega)])) ty_at.2.1 hin hd (k K B p l e R s m args below meth cd H locs Q a hC hR h0 hI hO hS hL hQ)
theorem E_zald {i : Int32} (c z : Nat) (hd : decode M.2.1 pc = .ok (.baload, 1)) (hs : shn n c = (8, z)) (hin : vp_in i z) (k : Ev d M n0 (pc + 1) ls (.int (I c i.toNatClampNeg) :: st) n I G J Φ) : Ev d M n0 pc ls (.int i :: .ref c :: st) n I G J Φ := by
  intro K B p l e R s m args below meth cd H locs Q a hC hR h0 hI hO hS hL hQ
  obtain ⟨hcn, hsh⟩ := shn_lt hs (by omega)
  exact va_zald hC.1.1 hC.1.2.1 hC.2.2.2.2.1 hI.1 c 2 ((wsO_at hcn).trans (by rw [cel_int hsh (by omega) (by omega)])) ty_at.2.2.1 hin hd (k K B p l e R s m args below meth cd H locs Q a hC hR h0 hI hO hS hL hQ)
theorem E_aald {i : Int32} (c z r : Nat) (hd : decode M.2.1 pc = .ok (.aaload, 1)) (hs : shn n c = (9, z)) (hin : vp_in i z) (hr : G c i.toNatClampNeg = some r) (k : Ev d M n0 (pc + 1) ls (.ref r :: st) n I G J Φ) : Ev d M n0 pc ls (.int i :: .ref c :: st) n I G J Φ := by
  intro K B p l e R s m args below meth cd H locs Q a hC hR h0 hI hO hS hL hQ
  obtain ⟨hcn, hsh⟩ := shn_lt hs (by omega)
  refine va_aldq (C := RX2) hC.1.1 hC.1.2.1 hC.2.2.2.2.1 hI.1 c 3 ((wsO_at hcn).trans (by rw [cel_ref hsh (by omega)])) ty_at.2.2.2.1 hin hd ?_
  rw [hr]
  exact k K B p l e R s m args below meth cd H locs Q a hC hR h0 hI hO hS hL hQ
theorem E_aald2 {i : Int32} (c z r : Nat) (hd : decode M.2.1 pc = .ok (.aaload, 1)) (hs : shn n c = (10, z)) (hin : vp_in i z) (hr : G c i.toNatClampNeg = some r) (k : Ev d M n0 (pc + 1) ls (.ref r :: st) n I G J Φ) : Ev d M n0 pc ls (.int i :: .ref c :: st) n I G J Φ := by
  intro K B p l e R s m args below meth cd H locs Q a hC hR h0 hI hO hS hL hQ
  obtain ⟨hcn, hsh⟩ := shn_lt hs (by omega)
  have ha : (wsO K n I G J)[c]? = some (K.1 c, .inl (K.2.1 4, z, .inr (.inr (.inr (.inr (fun i => (G c i).map K.1)))))) := (wsO_at hcn).trans (by rw [cel_ref hsh (by omega)])
  have hlt : i.toNatClampNeg < z := Nat.not_le.mp fun q => hin (Or.inr q)
  refine W.aald (v := .ref (K.1 r)) (ty := .array .int) hC.1.1 hC.1.2.1 (hI.1 c _ ha) ((hC.2.2.2.2.1.2 4 _ ty_at.2.2.2.2).1 z (fun j => va_rf ((G c j).map K.1))) rfl (fun q => by cases q) (by show ¬ (i < 0 ∨ (arrV _ _ _).slots.size ≤ _); rw [arrV_size]; exact hin) (by show (arrV _ _ _).slots[_]? = _; rw [arrV_read _ _ hlt]; show some (va_rf ((G c i.toNatClampNeg).map K.1)) = _; rw [hr]; rfl) rfl rfl hd ?_
  exact k K B p l e R s m args below meth cd H locs Q a hC hR h0 hI hO hS hL hQ
theorem E_alenc (c z : Nat) (v : Int32) (hd : decode M.2.1 pc = .ok (.arraylength, 1)) (hs : shn n c = (7, z)) (hv : Int32.ofNat z = v) (k : Ev d M n0 (pc + 1) ls (.int v :: st) n I G J Φ) : Ev d M n0 pc ls (.ref c :: st) n I G J Φ := by
  intro K B p l e R s m args below meth cd H locs Q a hC hR h0 hI hO hS hL hQ
  obtain ⟨hcn, hsh⟩ := shn_lt hs (by omega)
  exact va_alen hC.1.1 hC.1.2.1 hC.2.2.2.2.1 hI.1 c 1 ((wsO_at hcn).trans (by rw [cel_int hsh (by omega) (by omega)])) ty_at.2.1 hv hd (k K B p l e R s m args below meth cd H locs Q a hC hR h0 hI hO hS hL hQ)
/-! the script and the static rows -/
theorem E_ould {i : Int32} (c : Nat) (hd : decode M.2.1 pc = .ok (.iaload, 1)) (h1 : 1000 ≤ c) (h2 : c < 1005) (hin : vp_in i (oul G c)) (k : Ev d M n0 (pc + 1) ls (.int (I c i.toNatClampNeg) :: st) n I G J Φ) : Ev d M n0 pc ls (.int i :: .ref c :: st) n I G J Φ := by
  intro K B p l e R s m args below meth cd H locs Q a hC hR h0 hI hO hS hL hQ
  obtain ⟨hX, hb⟩ := hO.cell c h1 h2
  exact va_sld (A := Aw K) hC.1.1 hC.1.2.1 hX (by omega) (fun q => by unfold Aw at q; omega) hS hin hd (k K B p l e R s m args below meth cd H locs Q a hC hR h0 hI hO hS hL hQ)
theorem E_oulen (c : Nat) (hd : decode M.2.1 pc = .ok (.arraylength, 1)) (h1 : 1000 ≤ c) (h2 : c < 1005) (k : Ev d M n0 (pc + 1) ls (.int (nI (oul G c)) :: st) n I G J Φ) : Ev d M n0 pc ls (.ref c :: st) n I G J Φ := by
  intro K B p l e R s m args below meth cd H locs Q a hC hR h0 hI hO hS hL hQ
  obtain ⟨hX, hb⟩ := hO.cell c h1 h2
  exact va_slen (A := Aw K) hC.1.1 hC.1.2.1 hX (by omega) (fun q => by unfold Aw at q; omega) hS hd (k K B p l e R s m args below meth cd H locs Q a hC hR h0 hI hO hS hL hQ)
theorem E_gets {ix : Nat} (C nm : String) (r : Nat) (hd : decode M.2.1 pc = .ok (.getstatic ix, 3)) (hz : ∀ (K : Pk) (B : MI × MG) (s : State), Ou0 K B s → va_Z C nm "[I" (.ref (K.1 r)) (Aw K) s s.heap) (hw : Cond.fieldLink M.1.cls ix C nm "[I" ∈ tb) (k : Ev d M n0 (pc + 3) ls (.ref r :: st) n I G J Φ) : Ev d M n0 pc ls st n I G J Φ := by
  intro K B p l e R s m args below meth cd H locs Q a hC hR h0 hI hO hS hL hQ
  exact va_gets hC.1.1 hC.1.2.1 (hz K B s hO.1) hS hC.1.2.2.2.1 (hC.1.2.2.2.2 _ hw) (fun _ h => h) hd (k K B p l e R s m args below meth cd H locs Q a hC hR h0 hI hO hS hL hQ)
/-! stores into rows of ints -/
theorem row_at {K : Pk} {I : MI} {G : MG} {J : MJ} {c ci z j : Nat} {x : Int32} {H1 : Heap} (hsh : shp c = (ci, z)) (h6 : 6 ≤ ci) (h9 : ci < 9) (e : H1[K.1 c]? = some ((vp_cell (K.2.1 (ci - 6)) (z, .inl (I c))).setSlot j (.int x))) : va_at K.2.2.1 vwCl (K.1 c, celE K (u2 I c j x) G J c) H1 := by
  rw [cel_int hsh h6 h9, u2_upd]
  show H1[K.1 c]? = some (vp_cell _ _)
  rw [e, vp_cell_i, vp_cell_i, arrV_store]
  congr 2
  funext q
  by_cases hq : q = j
  · subst hq
    simp [updV, upd]
  · simp [updV, upd, hq]
theorem E_iast {i x : Int32} (c z : Nat) (hd : decode M.2.1 pc = .ok (.iastore, 1)) (hs : shn n c = (6, z)) (hin : vp_in i z) (k : Ev d M n0 (pc + 1) ls st n (u2 I c i.toNatClampNeg x) G J Φ) : Ev d M n0 pc ls (.int x :: .int i :: .ref c :: st) n I G J Φ := by
  intro K B p l e R s m args below meth cd H locs Q a hC hR h0 hI hO hS hL hQ
  have had := hC.2.2.2.2.2.2
  obtain ⟨hcn, hsh⟩ := shn_lt hs (by omega)
  have hb := hI.2.2
  have ha : (wsO K n I G J)[c]? = some (K.1 c, .inl (K.2.1 0, z, .inl (I c))) := (wsO_at hcn).trans (by rw [cel_int hsh (by omega) (by omega)])
  refine W.iast hC.1.1 hC.1.2.1 (hI.1 c _ ha) ((hC.2.2.2.2.1.2 0 _ ty_at.1).1 z (fun j => .int (I c j))) (fun q => by cases q) (by show ¬ (i < 0 ∨ (arrV _ _ _).slots.size ≤ _); rw [arrV_size]; exact hin) rfl rfl hd fun H1 e1 zz oq => ?_
  exact k K B p l e R s m args below meth cd H1 _ Q a hC hR h0 (Iw_set hI had hcn zz oq (row_at hsh (by omega) (by omega) e1) (fun x hx => u2_row _ _ _ hx) (fun _ _ => rfl) (fun _ _ => rfl)) (hO.mem (fun x hx => u2_row _ _ _ (by omega)) (fun _ _ => rfl)) (hS.put zz oq (Iw_A hI had hcn)) hL hQ
theorem E_cast {i x y : Int32} (c z : Nat) (hd : decode M.2.1 pc = .ok (.castore, 1)) (hs : shn n c = (7, z)) (hin : vp_in i z) (hx : narrow .char (.int x) = .int y) (k : Ev d M n0 (pc + 1) ls st n (u2 I c i.toNatClampNeg y) G J Φ) : Ev d M n0 pc ls (.int x :: .int i :: .ref c :: st) n I G J Φ := by
  intro K B p l e R s m args below meth cd H locs Q a hC hR h0 hI hO hS hL hQ
  have had := hC.2.2.2.2.2.2
  obtain ⟨hcn, hsh⟩ := shn_lt hs (by omega)
  have hb := hI.2.2
  have ha : (wsO K n I G J)[c]? = some (K.1 c, .inl (K.2.1 1, z, .inl (I c))) := (wsO_at hcn).trans (by rw [cel_int hsh (by omega) (by omega)])
  refine W.cast hC.1.1 hC.1.2.1 (hI.1 c _ ha) ((hC.2.2.2.2.1.2 1 _ ty_at.2.1).1 z (fun j => .int (I c j))) (fun q => by cases q) (by show ¬ (i < 0 ∨ (arrV _ _ _).slots.size ≤ _); rw [arrV_size]; exact hin) rfl rfl hd fun H1 e1 zz oq => ?_
  rw [hx] at e1
  exact k K B p l e R s m args below meth cd H1 _ Q a hC hR h0 (Iw_set hI had hcn zz oq (row_at hsh (by omega) (by omega) e1) (fun x hx => u2_row _ _ _ hx) (fun _ _ => rfl) (fun _ _ => rfl)) (hO.mem (fun x hx => u2_row _ _ _ (by omega)) (fun _ _ => rfl)) (hS.put zz oq (Iw_A hI had hcn)) hL hQ
theorem E_zast {i x y : Int32} (c z : Nat) (hd : decode M.2.1 pc = .ok (.bastore, 1)) (hs : shn n c = (8, z)) (hin : vp_in i z) (hx : narrow .boolean (.int x) = .int y) (k : Ev d M n0 (pc + 1) ls st n (u2 I c i.toNatClampNeg y) G J Φ) : Ev d M n0 pc ls (.int x :: .int i :: .ref c :: st) n I G J Φ := by
  intro K B p l e R s m args below meth cd H locs Q a hC hR h0 hI hO hS hL hQ
  have had := hC.2.2.2.2.2.2
  obtain ⟨hcn, hsh⟩ := shn_lt hs (by omega)
  have hb := hI.2.2
  have ha : (wsO K n I G J)[c]? = some (K.1 c, .inl (K.2.1 2, z, .inl (I c))) := (wsO_at hcn).trans (by rw [cel_int hsh (by omega) (by omega)])
  refine W.zast hC.1.1 hC.1.2.1 (hI.1 c _ ha) ((hC.2.2.2.2.1.2 2 _ ty_at.2.2.1).1 z (fun j => .int (I c j))) (fun q => by cases q) (by show ¬ (i < 0 ∨ (arrV _ _ _).slots.size ≤ _); rw [arrV_size]; exact hin) rfl rfl hd fun H1 e1 zz oq => ?_
  rw [hx] at e1
  exact k K B p l e R s m args below meth cd H1 _ Q a hC hR h0 (Iw_set hI had hcn zz oq (row_at hsh (by omega) (by omega) e1) (fun x hx => u2_row _ _ _ hx) (fun _ _ => rfl) (fun _ _ => rfl)) (hO.mem (fun x hx => u2_row _ _ _ (by omega)) (fun _ _ => rfl)) (hS.put zz oq (Iw_A hI had hcn)) hL hQ
/-- a moment into a row of moments -/
theorem E_aast {i : Int32} (c z r zr : Nat) (hd : decode M.2.1 pc = .ok (.aastore, 1)) (hs : shn n c = (9, z)) (hr : shn n r = (2, zr)) (hin : vp_in i z) (k : Ev d M n0 (pc + 1) ls st n I (u2 G c i.toNatClampNeg (some r)) J Φ) : Ev d M n0 pc ls (.ref r :: .int i :: .ref c :: st) n I G J Φ := by
  intro K B p l e R s m args below meth cd H locs Q a hC hR h0 hI hO hS hL hQ
  have had := hC.2.2.2.2.2.2
  obtain ⟨hcn, hsh⟩ := shn_lt hs (by omega)
  obtain ⟨hrn, hrh⟩ := shn_lt hr (by omega)
  have hb := hI.2.2
  have ha : (wsO K n I G J)[c]? = some (K.1 c, .inl (K.2.1 3, z, .inr (.inr (.inr (.inr (fun i => (G c i).map K.1)))))) := (wsO_at hcn).trans (by rw [cel_ref hsh (by omega)])
  have hv : (wsO K n I G J)[r]? = some (K.1 r, .inr (2, (List.range zr).map (fval K.1 I G J 2 r))) := (wsO_at hrn).trans (by rw [cel_obj hrh (by omega)])
  have hlt : i.toNatClampNeg < z := Nat.not_le.mp fun q => hin (Or.inr q)
  have hn0 : ¬ i < 0 := fun q => hin (Or.inl q)
  obtain ⟨r', hr', cellV, g1, g2, g3, -⟩ := hI.1 r _ hv
  have hcls := (hC.2.2.2.2.1.1 2 (RX2, TX2, 8) rfl).2
  obtain ⟨kA, comp, k1, k2, k3, -⟩ := (hC.2.2.2.2.1.2 3 _ ty_at.2.2.2.1).2
  have hcomp : comp = K.2.2.1.1 2 := Option.some.inj (k3.symm.trans hcls.1)
  subst hcomp
  obtain ⟨kC, hkC, -⟩ := hcls.2
  refine W.aast hC.1.1 hC.1.2.1 (hI.1 c _ ha) (fun q h => by cases h) (fun h => by cases h) k1 k2 rfl hkC ⟨hn0, by show _ < (arrV _ _ _).slots.size; rw [arrV_size]; exact hlt⟩ g1 (fun q h => by rw [g3] at h; cases h) (by rw [g2]; exact hkC) (by rw [g2]; exact va_assign hcls) rfl rfl hd fun H1 e1 zz oq => ?_
  refine k K B p l e R s m args below meth cd H1 _ Q a hC hR h0 (Iw_set hI had hcn zz oq ?_ (fun _ _ => rfl) (fun x hx => u2_row _ _ _ hx) (fun _ _ => rfl)) (hO.mem (fun _ _ => rfl) (fun x hx => u2_row _ _ _ (by omega))) (hS.put zz oq (Iw_A hI had hcn)) hL hQ
  rw [cel_ref hsh (by omega)]
  show H1[K.1 c]? = some (vp_cell _ _)
  rw [e1, vp_cell_q, vp_cell_q, arrV_store]
  congr 2
  funext q
  by_cases hq : q = i.toNatClampNeg
  · subst hq
    simp [updV, u2, va_rf]
  · simp [updV, u2, hq]
/-- System.arraycopy of ints between two rows -/
theorem E_copy {ix : Nat} {sp dp w : Int32} (c1 z1 c2 z2 : Nat) (hd : decode M.2.1 pc = .ok (.invokestatic ix, 3)) (hw : Cond.methodLink M.1.cls ix arraycopyName ∈ tb ∧ Cond.native arraycopyName ∈ tb ∧ Cond.static arraycopyName ∈ tb ∧ Cond.initialized "java/lang/System" ∈ tb) (hs1 : shn n c1 = (6, z1)) (hs2 : shn n c2 = (6, z2)) (hsp : ¬ sp < 0) (hdp : ¬ dp < 0) (hww : ¬ w < 0) (hb1 : sp.toNatClampNeg + w.toNatClampNeg ≤ z1) (hb2 : dp.toNatClampNeg + w.toNatClampNeg ≤ z2) (hcat : (st.map fun v => v.category).sum ≤ 8) (hdd : 1 ≤ d)
    (k : Ev d M n0 (pc + 3) ls st n (ur I c2 (va_cpy (I c1) (I c2) sp.toNatClampNeg dp.toNatClampNeg w.toNatClampNeg)) G J Φ) : Ev d M n0 pc ls (.int w :: .int dp :: .ref c2 :: .int sp :: .ref c1 :: st) n I G J Φ := by
  intro K B p l e R s m args below meth cd H locs Q a hC hR h0 hI hO hS hL hQ
  have had := hC.2.2.2.2.2.2
  have hts := hC.1.2.2.2.2
  obtain ⟨hcn1, hsh1⟩ := shn_lt hs1 (by omega)
  obtain ⟨hcn2, hsh2⟩ := shn_lt hs2 (by omega)
  have hb := hI.2.2
  have ha1 : (wsO K n I G J)[c1]? = some (K.1 c1, .inl (K.2.1 0, z1, .inl (I c1))) := (wsO_at hcn1).trans (by rw [cel_int hsh1 (by omega) (by omega)])
  have ha2 : (wsO K n I G J)[c2]? = some (K.1 c2, .inl (K.2.1 0, z2, .inl (I c2))) := (wsO_at hcn2).trans (by rw [cel_int hsh2 (by omega) (by omega)])
  have nn : ∀ z : Int32, ¬ z < 0 → z.toInt = (z.toNatClampNeg : Int) := by
    intro z hz
    have hz0 : (0 : Int) ≤ z.toInt := by
      have := Int32.not_lt.mp hz
      simpa using Int32.le_iff_toInt_le.mp this
    show z.toInt = ((z.toInt.toNat : Nat) : Int)
    omega
  intro T hT X
  have hc0 : H[K.1 c1]? = some (vp_cell (K.2.1 0) (z1, .inl (I c1))) := hI.1 c1 _ ha1
  have hc1 : H[K.1 c2]? = some (vp_cell (K.2.1 0) (z2, .inl (I c2))) := hI.1 c2 _ ha2
  obtain ⟨-, k0, hk0, cm0, hkk0⟩ := (hC.2.2.2.2.1.2 0 _ ty_at.1).1 z1 (fun j => .int (I c1 j))
  have hcatm : ((st.map (cvv K.1)).map fun v => v.category).sum = (st.map fun v => v.category).sum := by
    rw [List.map_map]
    congr 1
    exact List.map_congr_left (fun v _ => cvv_cat K.1 v)
  have hlo : 64 ≤ R.locals := by have := hR.2.1; omega
  obtain ⟨vm', X', step⟩ := X.arraycopy hC.1.1 hC.1.2.2.2.1 (hts _ hw.1) (hts _ hw.2.1) (hts _ hw.2.2.1) (hts _ hw.2.2.2) (src := K.1 c1) (dst := K.1 c2) (cs := vp_cell (K.2.1 0) (z1, .inl (I c1))) (cd := vp_cell (K.2.1 0) (z2, .inl (I c2))) (srcPos := sp) (destPos := dp) (n := w) (by rw [hT]; exact hc0) (by rw [hT]; exact hc1)
    (fun _ h => by cases h) (fun _ h => by cases h) (fun h => by cases h) (fun h => by cases h) hk0 hk0 hkk0 hkk0 (by simp [refKind]) hsp hdp hww
    (by rw [nn sp hsp, nn w hww]; show ¬ _ > ((arrV (K.2.1 0) z1 (fun j => .int (I c1 j))).slots.size : Int); rw [arrV_size]; omega)
    (by rw [nn dp hdp, nn w hww]; show ¬ _ > ((arrV (K.2.1 0) z2 (fun j => .int (I c2 j))).slots.size : Int); rw [arrV_size]; omega)
    (fun vm₁ _ i hi => by
      have e : (vp_cell (K.2.1 0) (z1, .inl (I c1))).slots.getD (sp.toNatClampNeg + i) .null = .int (I c1 (sp.toNatClampNeg + i)) := by
        show (arrV (K.2.1 0) z1 (fun j => .int (I c1 j))).slots.getD _ _ = _
        rw [Array.getD_eq_getD_getElem?, arrV_read _ _ (by omega)]
        rfl
      refine ⟨?_, ?_⟩
      · rw [e]
        rfl
      · rw [e]
        exact trivial)
    (g := F0 m pc a (.int w :: .int dp :: .ref (K.1 c2) :: .int sp :: .ref (K.1 c1) :: st.map (cvv K.1))) rfl (by obtain ⟨lx, h1, -⟩ := hL; exact h1.1.trans hC.1.2.2.1.symm) (rest := st.map (cvv K.1)) rfl (by rw [hC.1.2.1]; exact hd) (by have := hR.1; omega) (by have h9 : nativeFrameWords "java/lang/System" "arraycopy" 5 + 11 ≤ 56 := (by decide +kernel); show 2 * 0 + _ + _ ≤ _; rw [hcatm]; omega)
  have e1 : copied (vp_cell (K.2.1 0) (z1, .inl (I c1))) (vp_cell (K.2.1 0) (z2, .inl (I c2))) sp dp w = vp_cell (K.2.1 0) (z2, .inl (va_cpy (I c1) (I c2) sp.toNatClampNeg dp.toNatClampNeg w.toNatClampNeg)) := va_copied (fun z => .int z) (K.2.1 0) (K.2.1 0) (I c1) (I c2) hb1
  rw [e1] at X' step
  have hl : K.1 c2 < H.size := (Array.getElem?_eq_some_iff.mp hc1).1
  generalize hcell : vp_cell (K.2.1 0) (z2, .inl (va_cpy (I c1) (I c2) sp.toNatClampNeg dp.toNatClampNeg w.toNatClampNeg)) = cell at X' step
  have hheap : ((T.setVm vm').setCell (K.1 c2) cell).heap = H.setIfInBounds (K.1 c2) cell := by rw [← hT]; rfl
  have oq : ∀ q : Nat, q ≠ K.1 c2 → (H.setIfInBounds (K.1 c2) cell)[q]? = H[q]? := fun q hq => by simp [Array.getElem?_setIfInBounds, Ne.symm hq]
  obtain ⟨t, a1, b1⟩ := k K B p l e R s m args below meth cd (H.setIfInBounds (K.1 c2) cell) _ Q a hC hR h0 (Iw_set hI had hcn2 (by simp) oq (by
      rw [cel_int hsh2 (by omega) (by omega), ur_at]
      show (H.setIfInBounds (K.1 c2) cell)[K.1 c2]? = some (vp_cell _ _)
      rw [hcell]
      simp [Array.getElem?_setIfInBounds, hl]) (fun x hx => ur_ne _ _ hx) (fun _ _ => rfl) (fun _ _ => rfl)) (hO.mem (fun x hx => ur_ne _ _ (by omega)) (fun _ _ => rfl)) ⟨by simp; exact hS.1, fun q g1 g2 => by
      rw [oq q (fun e => g2 (by rw [e]; exact Iw_A hI had hcn2))]
      exact hS.2.1 q g1 g2, fun q hq => by
      rcases List.mem_append.mp hq with h | h
      · exact hS.2.2 q h
      · obtain ⟨zz, -, hzz⟩ := List.mem_map.mp h
        rw [← hzz]
        exact Iw_A hI had hcn2⟩ hL hQ _ hheap X'
  exact ⟨t, step t a1, b1⟩
end ARR
end
section
/-! ===== entry, calls ===== -/
def ent : List Value → List (Option Value)
  | [] => []
  | v :: vs => if v.category = 2 then some v :: none :: ent vs else some v :: ent vs
def entN (N : Nat) (vs : List Value) : List (Option Value) := ent vs ++ List.replicate (N - (ent vs).length) none
theorem ent_len (ad : Nat → Nat) : ∀ vs : List Value, (lg_sl (vs.map (cvv ad))).length = (ent vs).length
  | [] => rfl
  | v :: vs => by
    have ih := ent_len ad vs
    unfold lg_sl at ih ⊢
    simp only [List.map_cons, List.flatMap_cons, List.length_append, cvv_cat, ent, ih]
    by_cases h : v.category = 2
    · simp [h]; omega
    · simp [h]; omega
theorem ent_in (ad : Nat → Nat) : ∀ (vs : List Value) (i k : Nat) (v : Value), (ent vs)[k]? = some (some v) → (i + k, cvv ad v) ∈ lv_args i (vs.map (cvv ad))
  | [], i, k, v, h => by simp [ent] at h
  | w :: vs, i, k, v, h => by
    simp only [List.map_cons, lv_args, cvv_cat]
    unfold ent at h
    by_cases hw : w.category = 2
    · rw [if_pos hw] at h
      rw [if_pos hw]
      match k, h with
      | 0, h => simp at h; subst h; exact List.mem_cons_self
      | 1, h => simp at h
      | k + 2, h =>
        simp only [List.getElem?_cons_succ] at h
        have := ent_in ad vs (i + 2) k v h
        rw [show i + (k + 2) = i + 2 + k by omega]
        exact List.mem_cons_of_mem _ this
    · rw [if_neg hw] at h
      rw [if_neg hw]
      match k, h with
      | 0, h => simp at h; subst h; exact List.mem_cons_self
      | k + 1, h =>
        simp only [List.getElem?_cons_succ] at h
        have := ent_in ad vs (i + 1) k v h
        rw [show i + (k + 1) = i + 1 + k by omega]
        exact List.mem_cons_of_mem _ this
theorem Lv_ent {ad : Nat → Nat} {N : Nat} {vs : List Value} (h : (ent vs).length ≤ N) : Lv ad N (entN N vs) ((lg_sl (vs.map (cvv ad)) ++ List.replicate (N - (lg_sl (vs.map (cvv ad))).length) Slot.unset).toArray) := by
  refine ⟨_, lv_entry (vs.map (cvv ad)) (by rw [ent_len]; exact h), by simp [entN]; omega, fun k v hk => ?_⟩
  unfold entN at hk
  by_cases hl : k < (ent vs).length
  · rw [List.getElem?_append_left hl] at hk
    have := ent_in ad vs 0 k v hk
    rwa [Nat.zero_add] at this
  · rw [List.getElem?_append_right (by omega), List.getElem?_replicate] at hk
    split at hk <;> cases hk
theorem Xw.moved {s U : State} (hW : s.WarmedH U.vm) (h : Xw s) : Xw U :=
  ⟨h.1.warmM hW, h.2.1.warmM hW, h.2.2.1.warmM hW, va_AO.moved hW.alike h.2.2.2.1, Jvm.Stand.arrayOver_alikeB hW.alike h.2.2.2.2⟩
theorem Xw.same {s U : State} (hv : s.vm = U.vm) (h : Xw s) : Xw U :=
  ⟨h.1.same rfl hv, h.2.1.same rfl hv, h.2.2.1.same rfl hv, va_AO.moved (by rw [hv]; exact Vm.Alike.refl _) h.2.2.2.1, Jvm.Stand.arrayOver_alikeB (by rw [hv]; exact Vm.Alike.refl _) h.2.2.2.2⟩
/-- what a callee finds -/
def PcB (K : Pk) (n : Nat) (I : MI) (G : MG) (J : MJ) (U : State) : Prop := U.heap.size = K.2.2.2 + n ∧ Iw K n I G J U.heap ∧ va_K K.2.2.1 vwCl (tyK K) U ∧ Out K (I, G) I G U ∧ Xw U
/-- what it leaves -/
def QcB (K : Pk) (M : Mt) (n : Nat) (I : MI) (G : MG) (Ψ : Ph) : Array Value → State → Outcome → State → Prop := fun _ st0 oc t =>
  (∃ (r : Option Value) (n1 : Nat) (I1 : MI) (G1 : MG) (J1 : MJ), oc = .returned (r.map (cvv K.1)) ∧ Ψ r n1 I1 G1 J1 ∧ n1 = n + M.2.2.2.2.1 ∧ pre n1 = pre n + M.2.2.2.2.2 ∧ Iw K n1 I1 G1 J1 t.heap ∧ ∀ x, 1000 ≤ x → I1 x = I x ∧ G1 x = G x) ∧ va_F (Aw K) st0 t
def rmD (d : Nat) (M : Mt) : Room := { frames := d, cells := M.2.2.2.2.1, slots := M.2.2.2.2.2, locals := d * 64 }
def wsM (M : Mt) : List Cond := Cond.code M.1 M.2.1 M.2.2.1 M.2.2.2.1 :: tb
set_option maxHeartbeats 1000000 in
theorem Met_of {d n : Nat} {M : Mt} {vs : List Value} {I : MI} {G : MG} {J : MJ} {Ψ : Ph} (l : Launch) (K : Pk) (had : Had K) (hpl : plainName M.1.cls = true) (hlen : (ent vs).length ≤ M.2.2.1) (h : Ev d M n 0 (entN M.2.2.1 vs) [] n I G J Ψ) :
    Met l M.1 (wsM M) (rmD d M) (va_Pc (vs.map (cvv K.1)) (PcB K n I G J)) (QcB K M n I G Ψ) M.2.2.2.2.1 M.2.2.2.2.2 (Aw K) := by
  refine Met.ofW (cc := M.2.1) (maxL := M.2.2.1) (ret := M.2.2.2.1) hpl rfl ?_
  intro p e s m args below meth c s₁ B hml hv
  obtain ⟨rfl, hsz, hI, hK, hO, hX⟩ := hv
  have hts := atoms_spec (ws := wsM M) B.pre
  have hown : s.vm.findClass M.1.cls = some m.cls := findClass_of_methodNamed B.named
  have hlocks := B.notSynchronized
  have hnm : meth.name = M.1.name := (name_of_methodNamed B.named B.method).1
  have hr := B.returns
  rw [lg_entry_eq]
  have hC : Cx K M p s m (vs.map (cvv K.1)).toArray meth c := ⟨⟨B.exec, B.bytes, hml, hown, fun w hw => hts w (List.mem_cons_of_mem _ hw)⟩, hr, hlocks, hnm, hK, hX, had⟩
  have hw := h K (I, G) p l e (rmD d M) s m (vs.map (cvv K.1)).toArray below meth c s.heap [] (MQ below (QcB K M n I G Ψ) (vs.map (cvv K.1)).toArray s M.2.2.2.2.1 M.2.2.2.2.2 (Aw K)) _ hC ⟨Nat.le_refl _, Nat.le_refl _, Nat.le_refl _, Nat.le_refl _⟩ hsz hI hO va_S.rf (Lv_ent hlen) ?_
  · rw [Nat.sub_self, Nat.sub_self] at hw
    exact hw
  · intro r n1 I1 G1 J1 H1 locs1 pc1 a1 hΨ hI1 hO1 hS1 hat h1 h2
    have hq : ∀ t : State, t.heap = H1 → s.WarmedH t.vm → QcB K M n I G Ψ (vs.map (cvv K.1)).toArray s (.returned (r.map (cvv K.1))) t := fun t ht hW =>
      ⟨⟨r, n1, I1, G1, J1, rfl, hΨ, h1, h2, by rw [ht]; exact hI1, hO1.2⟩, hS1.F ht⟩
    rcases hat with ⟨v, rfl, hd, hrt⟩ | ⟨v, rfl, hd, hrt⟩ | ⟨rfl, hd, hrt⟩
    · rcases hrt with hrt | ⟨hrt, hnr⟩
      · exact W.iret (v := v) B.exec B.bytes (hr.trans hrt) hq hS1.2.2 hd
      · exact W.zret (v := v) B.exec B.bytes (hr.trans hrt) hnr hq hS1.2.2 hd
    · exact W.lret (v := v) B.exec B.bytes (hr.trans hrt) hq hS1.2.2 hd
    · exact W.vret B.exec B.bytes (hr.trans hrt) hq hS1.2.2 hd
theorem cat_cvv (ad : Nat → Nat) (st : List Value) : ((st.map (cvv ad)).map fun v => v.category).sum = (st.map fun v => v.category).sum := by
  rw [List.map_map]
  congr 1
  exact List.map_congr_left (fun v _ => cvv_cat ad v)
section CALL
variable {d : Nat} {M : Mt} {n0 pc : Nat} {ls : List (Option Value)} {st : List Value} {n : Nat} {I : MI} {G : MG} {J : MJ} {Φ : Ph}
/-- behind a call -/
theorem E_run {M2 : Mt} {Ψ : Ph} {K : Pk} {B : MI × MG} {p : Program} {l : Launch} {e : Env} {R : Room} {s : State} {m : MethodId} {args : Array Value} {below : List Frame} {meth : Method} {c : Code} {H : Heap} {locs : List Loc} {Q : State → Prop} {a : Array Slot} {stk rest : List Value} {as : Array Value}
    (hr : va_Run p l e R s m args below meth c H locs (n - n0) (pre n - pre n0) M2.2.2.2.2.1 M2.2.2.2.2.2 (F0 m pc a stk) (rest.map (cvv K.1)) (QcB K M2 n I G Ψ as) (Aw K))
    (hk : ∀ r n1 I1 G1 J1, Ψ r n1 I1 G1 J1 → Ev d M n0 (pc + 3) ls (r.toList ++ rest) n1 I1 G1 J1 Φ) (hn : n0 ≤ n) (hpn : pre n0 ≤ pre n)
    (hC : Cx K M p s m args meth c) (hR : Rk d M R) (h0 : s.heap.size = K.2.2.2 + n0) (hI : Iw K n I G J H) (hO : Out K B I G s) (hS : va_S (Aw K) s.heap H locs) (hL : Lv K.1 M.2.2.1 ls a) (hQ : Rt K B M n0 Φ p l e R s m args below meth c Q) :
    W p l e R s m args below meth c H locs (n - n0) (pre n - pre n0) Q (F0 m pc a stk) := by
  intro T hT X
  obtain ⟨v, st₀, t, T', L, e0, X', hL2, e1, e2, ⟨⟨r, n1, I1, G1, J1, hv, hΨ, g1, g2, hI1, hag⟩, hz, hkp⟩, stp⟩ := hr T hT X
  cases hv
  rw [e0] at hz hkp
  have hS1 : va_S (Aw K) s.heap T'.heap (locs ++ L) := ⟨Nat.le_trans hS.1 (by rw [e1]; exact hz), fun q h1 h2 => by rw [e1, hkp q (Nat.lt_of_lt_of_le h1 hS.1) h2]; exact hS.2.1 q h1 h2, fun q hq => by
    rcases List.mem_append.mp hq with h | h
    · exact hS.2.2 q h
    · exact hL2 q h⟩
  have hw := hk r n1 I1 G1 J1 hΨ K B p l e R s m args below meth c T'.heap (locs ++ L) Q a hC hR h0 (by rw [e1]; exact hI1) (hO.mem (fun x hx => (hag x hx).1) (fun x hx => (hag x hx).2)) hS1 hL hQ
  rw [show n1 - n0 = n - n0 + M2.2.2.2.2.1 by omega, show pre n1 - pre n0 = pre n - pre n0 + M2.2.2.2.2.2 by omega] at hw
  obtain ⟨t2, a1, b1⟩ := hw T' rfl X'
  refine ⟨t2, stp t2 ?_, b1⟩
  cases r with
  | none => exact a1
  | some w => exact a1
theorem PcB_of {K : Pk} {B : MI × MG} {s : State} {H : Heap} {locs : List Loc} {p : Program} {m : MethodId} {args : Array Value} {meth : Method} {c : Code} (hC : Cx K M p s m args meth c) (h0 : s.heap.size = K.2.2.2 + n0) (hI : Iw K n I G J H) (hO : Out K B I G s) (hS : va_S (Aw K) s.heap H locs) (U : State) (hU : U.heap = H) (hW : s.WarmedH U.vm) : PcB K n I G J U :=
  ⟨by rw [hU]; exact hI.2.1, by rw [hU]; exact hI, va_K.moved hW.alike hC.2.2.2.2.1, hO.move hW.alike (fun q hq => by rw [hU]; exact hS.2.1 q (by omega) (fun z => by unfold Aw at z; omega)), hC.2.2.2.2.2.1.moved hW⟩
theorem PcB_blind {K : Pk} {vs : List Value} : FrameBlind (va_Pc vs (PcB K n I G J)) := by
  intro a U g mk q
  obtain ⟨q0, q1, q2, q3, q4, q5⟩ := q
  exact ⟨q0, q1, q2, va_K.moved (u := U) (U := U.calling g mk a) (Vm.Alike.refl U.vm) q3, q4.move (U := U.calling g mk a) (Vm.Alike.refl U.vm) (fun _ _ => rfl), q5.same rfl⟩
/-- words of a call of an instance method, of a static one, of a constructor -/
def LkV (own : String) (ix : Nat) (M2 : Mt) (w : Nat) : Prop := Cond.methodLink own ix M2.1 ∈ tb ∧ Cond.instanceMethod M2.1 ∈ tb ∧ Cond.selects M2.1.cls M2.1 M2.1 ∈ tb ∧ Cond.initialized M2.1.cls ∈ tb ∧ Cond.code M2.1 M2.2.1 M2.2.2.1 M2.2.2.2.1 ∈ tb ∧ (plainName M2.1.cls = true ∧ M2.1.cls ≠ "java/lang/invoke/MethodHandle" ∧ M2.1.cls ≠ "java/lang/invoke/VarHandle" ∧ (parseMethodDescriptor M2.1.desc).map (fun d => d.parameters.length) = some w) ∧ M2.2.2.1 ≤ 45
def LkS (own : String) (ix : Nat) (M2 : Mt) (w : Nat) : Prop := Cond.methodLink own ix M2.1 ∈ tb ∧ Cond.static M2.1 ∈ tb ∧ Cond.initialized M2.1.cls ∈ tb ∧ Cond.code M2.1 M2.2.1 M2.2.2.1 M2.2.2.2.1 ∈ tb ∧ (plainName M2.1.cls = true ∧ M2.1.cls ≠ "java/lang/invoke/MethodHandle" ∧ M2.1.cls ≠ "java/lang/invoke/VarHandle" ∧ (parseMethodDescriptor M2.1.desc).map (fun d => d.parameters.length) = some w) ∧ M2.2.2.1 ≤ 45
def LkI (own : String) (ix : Nat) (M2 : Mt) (w : Nat) : Prop := (Cond.methodLink own ix M2.1 ∈ tb ∨ (own = RX4 ∧ ((ix = 24 ∧ M2.1 = yX1_init) ∨ (ix = 34 ∧ M2.1 = yX2_init) ∨ (ix = 62 ∧ M2.1 = yX0_init)))) ∧ Cond.instanceMethod M2.1 ∈ tb ∧ Cond.initialized M2.1.cls ∈ tb ∧ Cond.code M2.1 M2.2.1 M2.2.2.1 none ∈ tb ∧ M2.2.2.2.1 = none ∧ M2.1.name = "<init>" ∧ (plainName M2.1.cls = true ∧ M2.1.cls ≠ "java/lang/invoke/MethodHandle" ∧ M2.1.cls ≠ "java/lang/invoke/VarHandle" ∧ (parseMethodDescriptor M2.1.desc).map (fun d => d.parameters.length) = some w) ∧ M2.2.2.1 ≤ 45
theorem Rk_call {d : Nat} {M M2 : Mt} {R : Room} (hR : Rk (d + 1) M R) (h : M2.2.2.1 ≤ 45) : (rmD d M2).frames + 1 ≤ R.frames ∧ 8 + (M2.2.2.1 + 11) + (rmD d M2).locals ≤ R.locals := by
  obtain ⟨h1, h2, -⟩ := hR
  refine ⟨h1, ?_⟩
  show 8 + (M2.2.2.1 + 11) + d * 64 ≤ R.locals
  omega
theorem wsM_good {M2 : Mt} (h : Cond.code M2.1 M2.2.1 M2.2.2.1 M2.2.2.2.1 ∈ tb) : GoodIn tb (wsM M2) := tb_good (fun w hw => (List.mem_cons.mp hw).elim (fun q => q ▸ h) id)
set_option maxHeartbeats 1000000 in
/-- a call of an instance method on cell b -/
theorem E_invv {ix : Nat} (M2 : Mt) (w ci z : Nat) {b : Nat} {As : List Value} {Ψ : Ph} (hd : decode M.2.1 pc = .ok (.invokevirtual ix, 3)) (hw : LkV M.1.cls ix M2 w) (hci : ∃ q, vwCl[ci]? = some q ∧ q.1 = M2.1.cls) (hs : shn n b = (ci, z)) (hA : As.length = w) (hcat : (st.map fun v => v.category).sum ≤ 8) (hn : n0 ≤ n) (hpn : pre n0 ≤ pre n) (hm1 : n - n0 + M2.2.2.2.2.1 ≤ M.2.2.2.2.1) (hm2 : pre n - pre n0 + M2.2.2.2.2.2 ≤ M.2.2.2.2.2) (hlen : (ent (.ref b :: As)).length ≤ M2.2.2.1)
    (h : Ev d M2 n 0 (entN M2.2.2.1 (.ref b :: As)) [] n I G J Ψ) (hk : ∀ r n1 I1 G1 J1, Ψ r n1 I1 G1 J1 → Ev (d + 1) M n0 (pc + 3) ls (r.toList ++ st) n1 I1 G1 J1 Φ) {stk : List Value} (hst : stk = As.reverse ++ .ref b :: st) : Ev (d + 1) M n0 pc ls stk n I G J Φ := by
  intro K B p l e R s m args below meth c H locs Q a hC hR h0 hI hO hS hL hQ
  subst hst
  have had := hC.2.2.2.2.2.2
  obtain ⟨w1, w2, w3, w4, w5, ⟨p1, p2, p3, p4⟩, w6⟩ := hw
  obtain ⟨q, hq, hqc⟩ := hci
  have h6 := cls_6 hq
  obtain ⟨hbn, hbh⟩ := shn_lt hs (by omega)
  have hv : (wsO K n I G J)[b]? = some (K.1 b, .inr (ci, (List.range z).map (fval K.1 I G J ci b))) := (wsO_at hbn).trans (by rw [cel_obj hbh h6])
  have hts := hC.1.2.2.2.2
  have hmet := Met_of l K had p1 hlen h
  have hcw : CallW R s args M.1.cls M2.1.cls ix M2.1 M2.2.1 M2.2.2.1 M2.2.2.2.1 (wsM M2) (rmD d M2) M2.2.2.2.2.1 M2.2.2.2.2.2 w := cwV w hts (tb_good (fun x hx => by
    unfold wsV at hx
    rcases List.mem_append.mp hx with hx | hx
    · simp only [List.mem_cons, List.not_mem_nil, or_false] at hx
      rcases hx with rfl | rfl | rfl | rfl
      · exact w1
      · exact w2
      · exact w3
      · exact w4
    · exact (wsM_good w5 x hx).1)) rfl rfl rfl ⟨rfl, p2, p3, p4⟩ (Rk_call hR w6)
  have hrun := va_runV (g := F0 m pc a ((As.reverse ++ .ref b :: st).map (cvv K.1))) (As := As.map (cvv K.1)) (rest := st.map (cvv K.1)) (H := H) (locs := locs) (cells := n - n0) (slots := pre n - pre n0) (e := e) (below := below) (meth := meth) (l := l) hC.1 hmet hcw ⟨PcB_blind, by rw [← hqc]; exact va_recv hC.2.2.2.2.1 hI.1 hq hv, fun U hU hW => ⟨rfl, PcB_of hC h0 hI hO hS U hU hW⟩⟩ rfl (by rw [List.length_map]; exact hA) (by obtain ⟨lx, h1, -⟩ := hL; exact h1.1) (by simp [cvv]) (lv_room (by rw [cat_cvv]; exact hcat)) hd ⟨Nat.le_trans hm1 hR.2.2.1, Nat.le_trans hm2 hR.2.2.2⟩
  exact E_run hrun hk hn hpn hC hR h0 hI hO hS hL hQ
set_option maxHeartbeats 1000000 in
/-- a call of a static method -/
theorem E_invs {ix : Nat} (M2 : Mt) (w : Nat) {As : List Value} {Ψ : Ph} (hd : decode M.2.1 pc = .ok (.invokestatic ix, 3)) (hw : LkS M.1.cls ix M2 w) (hA : As.length = w) (hcat : (st.map fun v => v.category).sum ≤ 8) (hn : n0 ≤ n) (hpn : pre n0 ≤ pre n) (hm1 : n - n0 + M2.2.2.2.2.1 ≤ M.2.2.2.2.1) (hm2 : pre n - pre n0 + M2.2.2.2.2.2 ≤ M.2.2.2.2.2) (hlen : (ent As).length ≤ M2.2.2.1)
    (h : Ev d M2 n 0 (entN M2.2.2.1 As) [] n I G J Ψ) (hk : ∀ r n1 I1 G1 J1, Ψ r n1 I1 G1 J1 → Ev (d + 1) M n0 (pc + 3) ls (r.toList ++ st) n1 I1 G1 J1 Φ) {stk : List Value} (hst : stk = As.reverse ++ st) : Ev (d + 1) M n0 pc ls stk n I G J Φ := by
  intro K B p l e R s m args below meth c H locs Q a hC hR h0 hI hO hS hL hQ
  subst hst
  have had := hC.2.2.2.2.2.2
  obtain ⟨w1, w2, w4, w5, ⟨p1, p2, p3, p4⟩, w6⟩ := hw
  have hts := hC.1.2.2.2.2
  have hmet := Met_of l K had p1 hlen h
  have hcw := va_cwS (R := R) (own := M.1.cls) (index := ix) (rm := rmD d M2) (mc := M2.2.2.2.2.1) (ms := M2.2.2.2.2.2) w hts (tb_good (ws := va_wsS M.1.cls ix M2.1 (wsM M2)) (fun x hx => by
    unfold va_wsS at hx
    rcases List.mem_append.mp hx with hx | hx
    · simp only [List.mem_cons, List.not_mem_nil, or_false] at hx
      rcases hx with rfl | rfl | rfl
      · exact w1
      · exact w2
      · exact w4
    · exact (wsM_good w5 x hx).1)) rfl rfl rfl ⟨p2, p3, p4⟩ (Rk_call hR w6)
  have hrun := va_runS (g := F0 m pc a ((As.reverse ++ st).map (cvv K.1))) (As := As.map (cvv K.1)) (rest := st.map (cvv K.1)) (H := H) (locs := locs) (cells := n - n0) (slots := pre n - pre n0) (e := e) (below := below) (meth := meth) (l := l) hC.1 hmet hcw ⟨PcB_blind, fun U hU hW => ⟨rfl, PcB_of hC h0 hI hO hS U hU hW⟩⟩ rfl (by rw [List.length_map]; exact hA) (by obtain ⟨lx, h1, -⟩ := hL; exact h1.1) (by simp) (lv_room (by rw [cat_cvv]; exact hcat)) hd ⟨Nat.le_trans hm1 hR.2.2.1, Nat.le_trans hm2 hR.2.2.2⟩
  exact E_run hrun hk hn hpn hC hR h0 hI hO hS hL hQ
set_option maxHeartbeats 1000000 in
/-- a call of a constructor -/
theorem E_invi {ix : Nat} (M2 : Mt) (w : Nat) {b : Nat} {As : List Value} {Ψ : Ph} (hd : decode M.2.1 pc = .ok (.invokespecial ix, 3)) (hw : LkI M.1.cls ix M2 w) (hA : As.length = w) (hcat : (st.map fun v => v.category).sum ≤ 8) (hn : n0 ≤ n) (hpn : pre n0 ≤ pre n) (hm1 : n - n0 + M2.2.2.2.2.1 ≤ M.2.2.2.2.1) (hm2 : pre n - pre n0 + M2.2.2.2.2.2 ≤ M.2.2.2.2.2) (hlen : (ent (.ref b :: As)).length ≤ M2.2.2.1)
    (h : Ev d M2 n 0 (entN M2.2.2.1 (.ref b :: As)) [] n I G J Ψ) (hk : ∀ r n1 I1 G1 J1, Ψ r n1 I1 G1 J1 → Ev (d + 1) M n0 (pc + 3) ls (r.toList ++ st) n1 I1 G1 J1 Φ) {stk : List Value} (hst : stk = As.reverse ++ .ref b :: st) : Ev (d + 1) M n0 pc ls stk n I G J Φ := by
  intro K B p l e R s m args below meth c H locs Q a hC hR h0 hI hO hS hL hQ
  subst hst
  have had := hC.2.2.2.2.2.2
  obtain ⟨w1, w2, w4, w5, w7, w8, ⟨p1, p2, p3, p4⟩, w6⟩ := hw
  have hts := hC.1.2.2.2.2
  have hmet := Met_of l K had p1 hlen h
  have hgd : GoodIn tb (wsM M2) := wsM_good (by rw [w7]; exact w5)
  have hpre : PreS s H (va_Pc ((Value.ref b :: As).map (cvv K.1)) (PcB K n I G J)) (.ref (K.1 b) :: As.map (cvv K.1)) := ⟨PcB_blind, fun U hU hW => ⟨rfl, PcB_of hC h0 hI hO hS U hU hW⟩⟩
  rcases w1 with w1 | ⟨hown, w1⟩
  · have hcw := cwI (R := R) (own := M.1.cls) (index := ix) (ws := wsM M2) (bytes := M2.2.1) (maxL := M2.2.2.1) (rm := rmD d M2) (mc := M2.2.2.2.2.1) (ms := M2.2.2.2.2.2) w hts hgd (by unfold wsM; rw [w7]) rfl rfl (hts _ w4) (hts _ w1) (hts _ w2) w8 ⟨p2, p3, p4⟩ (Rk_call hR w6)
    have hrun := va_runI (g := F0 m pc a ((As.reverse ++ .ref b :: st).map (cvv K.1))) (b := K.1 b) (As := As.map (cvv K.1)) (rest := st.map (cvv K.1)) (H := H) (locs := locs) (cells := n - n0) (slots := pre n - pre n0) (e := e) (below := below) (meth := meth) (l := l) hC.1 hmet hcw hpre rfl (by rw [List.length_map]; exact hA) (by obtain ⟨lx, h1, -⟩ := hL; exact h1.1) (by simp [cvv]) (lv_room (by rw [cat_cvv]; exact hcat)) hd ⟨Nat.le_trans hm1 hR.2.2.1, Nat.le_trans hm2 hR.2.2.2⟩
    exact E_run hrun hk hn hpn hC hR h0 hI hO hS hL hQ
  · have hlk : va_Nw (.methodLinkNest M.1.cls ix M2.1 RX4) s := by
      have hX := hC.2.2.2.2.2.1
      rw [hown]
      rcases w1 with ⟨rfl, e2⟩ | ⟨rfl, e2⟩ | ⟨rfl, e2⟩
      · rw [e2]; exact hX.1
      · rw [e2]; exact hX.2.1
      · rw [e2]; exact hX.2.2.1
    have hcw := va_cnB (R := R) (own := M.1.cls) (index := ix) (ws := wsM M2) (bytes := M2.2.1) (maxL := M2.2.2.1) (ret := none) (rm := rmD d M2) (mc := M2.2.2.2.2.1) (ms := M2.2.2.2.2.2) w hts hgd (by unfold wsM; rw [w7]) rfl rfl hlk (hts _ w4) ⟨p2, p3, p4⟩ (Rk_call hR w6)
    have hrun := va_runIN (g := F0 m pc a ((As.reverse ++ .ref b :: st).map (cvv K.1))) (b := K.1 b) (As := As.map (cvv K.1)) (rest := st.map (cvv K.1)) (H := H) (locs := locs) (cells := n - n0) (slots := pre n - pre n0) (e := e) (below := below) (meth := meth) (l := l) hC.1 hmet ⟨hcw, w8, hts _ w2⟩ hpre rfl (by rw [List.length_map]; exact hA) (by obtain ⟨lx, h1, -⟩ := hL; exact h1.1) (by simp [cvv]) (lv_room (by rw [cat_cvv]; exact hcat)) hd ⟨Nat.le_trans hm1 hR.2.2.1, Nat.le_trans hm2 hR.2.2.2⟩
    exact E_run hrun hk hn hpn hC hR h0 hI hO hS hL hQ
/-- Object's own constructor -/
theorem E_obj {ix b : Nat} (hd : decode M.2.1 pc = .ok (.invokespecial ix, 3)) (hw : Cond.methodLink M.1.cls ix objectInit ∈ tb ∧ Cond.instanceMethod objectInit ∈ tb ∧ Cond.code objectInit ⟨#[0xb1]⟩ 1 none ∈ tb) (hcat : (st.map fun v => v.category).sum ≤ 8) (hdd : 1 ≤ d) (k : Ev d M n0 (pc + 3) ls st n I G J Φ) : Ev d M n0 pc ls (.ref b :: st) n I G J Φ := by
  intro K B p l e R s m args below meth c H locs Q a hC hR h0 hI hO hS hL hQ
  have hts := hC.1.2.2.2.2
  have hlo : 64 ≤ R.locals := by have := hR.2.1; omega
  refine W.objInit hC.1.1 hC.1.2.1 hC.1.2.2.2.1 (hts _ hw.1) (hts _ hw.2.1) (hts _ hw.2.2) rfl (by obtain ⟨lx, h1, -⟩ := hL; exact h1.1.trans hC.1.2.2.1.symm) (a := K.1 b) (rest := st.map (cvv K.1)) rfl hd (by have := hR.1; omega) ?_ (k K B p l e R s m args below meth c H locs Q a hC hR h0 hI hO hS hL hQ)
  have := lv_room (m := m) (pc := pc) (ls := a) (rest := (.ref b :: st).map (cvv K.1)) (st := st.map (cvv K.1)) (by rw [cat_cvv]; exact hcat)
  omega
end CALL
end
section
/-! ===== new cells ===== -/
theorem dfl_all : ∀ (ci : Nat) (q : vw_C), vwCl[ci]? = some q → ∀ j, j < q.2.2 → defaultValue (tyA ci j) = (if fkd ci j = 0 then .int 0 else if fkd ci j = 1 then .null else .long 0) := cls_all (by decide +kernel) (by decide +kernel) (by decide +kernel) (by decide +kernel) (by decide +kernel) (by decide +kernel)
section ALLOC
variable {d : Nat} {M : Mt} {n0 pc : Nat} {ls : List (Option Value)} {st : List Value} {n : Nat} {I : MI} {G : MG} {J : MJ} {Φ : Ph}
/-- the world with one cell more -/
theorem Iw_push {K : Pk} {I' : MI} {G' : MG} {J' : MJ} {H H1 : Heap} (hI : Iw K n I G J H) (hn : n < 1000) (z : H1.size = H.size + 1) (oq : ∀ q : Nat, q < H.size → H1[q]? = H[q]?) (he : va_at K.2.2.1 vwCl (K.1 n, celE K I' G' J' n) H1) (h1 : ∀ x, x < n → I' x = I x) (h2 : ∀ x, x < n → G' x = G x) (h3 : ∀ x, x < n → J' x = J x) : Iw K (n + 1) I' G' J' H1 := by
  refine ⟨?_, by rw [z, hI.2.1]; omega, by omega⟩
  rw [← wsO_succ h1 h2 h3 rfl]
  refine (hI.1.kept (fun k x hx => oq x.1 ((hI.1 k x hx).lt))).app (fun k x hx => ?_)
  have hz : k < 1 := (List.getElem?_eq_some_iff.mp hx).1
  rw [show k = 0 by omega] at hx
  cases hx
  exact he
theorem vS_push {K : Pk} {H0 H H1 : Heap} {locs : List Loc} (hS : va_S (Aw K) H0 H locs) (z : H.size ≤ H1.size) (oq : ∀ q : Nat, q < H.size → H1[q]? = H[q]?) : va_S (Aw K) H0 H1 locs :=
  ⟨Nat.le_trans hS.1 z, fun x h1 h2 => (oq x (Nat.lt_of_lt_of_le h1 hS.1)).trans (hS.2.1 x h1 h2), hS.2.2⟩
theorem E_new {ix : Nat} (ci z : Nat) (hd : decode M.2.1 pc = .ok (.new ix, 3)) (hq : ∃ q, vwCl[ci]? = some q ∧ q.2.2 = z ∧ Cond.classLink M.1.cls ix q.1 ∈ tb ∧ Cond.instantiable q.1 z ∈ tb ∧ Cond.initialized q.1 ∈ tb) (hs : shp n = (ci, z)) (hn : n < 1000) (hn0 : n0 ≤ n) (hpn : pre n0 ≤ pre n) (hp : pre (n + 1) = pre n + z) (hm1 : n - n0 + 1 ≤ M.2.2.2.2.1) (hm2 : pre n - pre n0 + z ≤ M.2.2.2.2.2)
    (k : Ev d M n0 (pc + 3) ls (.ref n :: st) (n + 1) (ur I n (fun _ => 0)) (ur G n (fun _ => none)) (ur J n (fun _ => 0)) Φ) : Ev d M n0 pc ls st n I G J Φ := by
  intro K B p l e R s m args below meth c H locs Q a hC hR h0 hI hO hS hL hQ
  have had := hC.2.2.2.2.2.2
  have hts := hC.1.2.2.2.2
  obtain ⟨q, hq, hz, w1, w2, w3⟩ := hq
  have hKn := hC.2.2.2.2.1.1 ci _ hq
  have hsz : H.size = K.1 n := by rw [hI.2.1, had n hn]
  refine W.newcK hC.1.1 hC.1.2.1 hC.1.2.2.2.1 (hts _ w1) (hts _ w2) (hts _ w3) rfl hd (Nat.le_trans hm1 hR.2.2.1) (Nat.le_trans hm2 hR.2.2.2) hKn.2.1 hsz fun H1 kC hkC e1 z1 o1 => ?_
  have hw := k K B p l e R s m args below meth c H1 locs Q a hC hR h0 (Iw_push hI hn (by rw [z1, hsz]) (fun x hx => o1 x (by rw [← hsz]; exact hx)) ?_ (fun x hx => ur_ne _ _ (by omega)) (fun x hx => ur_ne _ _ (by omega)) (fun x hx => ur_ne _ _ (by omega))) (hO.mem (fun x hx => ur_ne _ _ (by omega)) (fun x hx => ur_ne _ _ (by omega))) (vS_push hS (by rw [z1, hsz]; omega) (fun x hx => o1 x (by rw [← hsz]; exact hx))) hL hQ
  · rw [show n + 1 - n0 = n - n0 + 1 by omega, show pre (n + 1) - pre n0 = pre n - pre n0 + z by omega] at hw
    exact hw
  · rw [cel_obj hs (cls_6 hq)]
    refine ⟨q, hq, (u_born (tyA ci) hts (cls_in ci q hq) hKn hkC e1 (cls_ty ci q hq)).to (fun j hj => ?_)⟩
    rw [dfl_all ci q hq j hj]
    simp only [vp_V, List.getD_eq_getElem?_getD, List.getElem?_map, List.getElem?_range (show j < z by omega), Option.map_some, Option.getD_some, fval, ur_at, va_rf, Option.map_none]
def aTy : Nat → ArrayType := fun t => if t = 0 then .int else if t = 1 then .char else .boolean
theorem E_newa {at_ : ArrayType} {w : Int32} (t z : Nat) (hd : decode M.2.1 pc = .ok (.newarray at_, 2)) (ht : t < 3) (hat : at_ = aTy t) (hw : Cond.arrayClass (newarray.typeOf at_) ∈ tb) (hs : shp n = (6 + t, z)) (hwn : ¬ w < 0) (hwz : w.toNatClampNeg = z) (hzb : z ≤ 100000) (hn : n < 1000) (hn0 : n0 ≤ n) (hpn : pre n0 ≤ pre n) (hp : pre (n + 1) = pre n + z) (hm1 : n - n0 + 1 ≤ M.2.2.2.2.1) (hm2 : pre n - pre n0 + z ≤ M.2.2.2.2.2)
    (k : Ev d M n0 (pc + 2) ls (.ref n :: st) (n + 1) (ur I n (fun _ => 0)) (ur G n (fun _ => none)) (ur J n (fun _ => 0)) Φ) : Ev d M n0 pc ls (.int w :: st) n I G J Φ := by
  intro K B p l e R s m args below meth c H locs Q a hC hR h0 hI hO hS hL hQ
  have had := hC.2.2.2.2.2.2
  have hts := hC.1.2.2.2.2
  have hsz : H.size = K.1 n := by rw [hI.2.1, had n hn]
  refine va_newaK (rest := st.map (cvv K.1)) hC.1.1 hC.1.2.1 (hts _ hw) rfl hd rfl hwn hwz (by subst hat; rcases (show t = 0 ∨ t = 1 ∨ t = 2 by omega) with rfl | rfl | rfl <;> simp [aTy, newarray.typeOf, componentBytes] <;> omega) (Nat.le_trans hm1 hR.2.2.1) (Nat.le_trans hm2 hR.2.2.2) hsz fun H1 cA e1 z1 o1 hAr hNm => ?_
  have hcA : cA = K.2.1 t := by
    subst hat
    rcases (show t = 0 ∨ t = 1 ∨ t = 2 by omega) with rfl | rfl | rfl
    · exact Option.some.inj (hNm.symm.trans (hC.2.2.2.2.1.2 0 _ ty_at.1).2)
    · exact Option.some.inj (hNm.symm.trans (hC.2.2.2.2.1.2 1 _ ty_at.2.1).2)
    · exact Option.some.inj (hNm.symm.trans (hC.2.2.2.2.1.2 2 _ ty_at.2.2.1).2)
  have hdf : defaultValue (newarray.typeOf at_) = .int 0 := by
    subst hat
    rcases (show t = 0 ∨ t = 1 ∨ t = 2 by omega) with rfl | rfl | rfl <;> rfl
  have hw2 := k K B p l e R s m args below meth c H1 locs Q a hC hR h0 (Iw_push hI hn (by rw [z1, hsz]) (fun x hx => o1 x (by rw [← hsz]; exact hx)) ?_ (fun x hx => ur_ne _ _ (by omega)) (fun x hx => ur_ne _ _ (by omega)) (fun x hx => ur_ne _ _ (by omega))) (hO.mem (fun x hx => ur_ne _ _ (by omega)) (fun x hx => ur_ne _ _ (by omega))) (vS_push hS (by rw [z1, hsz]; omega) (fun x hx => o1 x (by rw [← hsz]; exact hx))) hL hQ
  · rw [show n + 1 - n0 = n - n0 + 1 by omega, show pre (n + 1) - pre n0 = pre n - pre n0 + z by omega] at hw2
    exact hw2
  · rw [cel_int hs (by omega) (by omega), ur_at]
    show H1[K.1 n]? = some (vp_cell _ _)
    rw [e1, hcA, hdf, vp_cell_i, show 6 + t - 6 = t by omega]
theorem E_anew {ix : Nat} {w : Int32} (z : Nat) (hd : decode M.2.1 pc = .ok (.anewarray ix, 3)) (hw : Cond.classLink M.1.cls ix RX2 ∈ tb) (hs : shp n = (9, z)) (hwn : ¬ w < 0) (hwz : w.toNatClampNeg = z) (hzb : z ≤ 100000) (hn : n < 1000) (hn0 : n0 ≤ n) (hpn : pre n0 ≤ pre n) (hp : pre (n + 1) = pre n + z) (hm1 : n - n0 + 1 ≤ M.2.2.2.2.1) (hm2 : pre n - pre n0 + z ≤ M.2.2.2.2.2)
    (k : Ev d M n0 (pc + 3) ls (.ref n :: st) (n + 1) (ur I n (fun _ => 0)) (ur G n (fun _ => none)) (ur J n (fun _ => 0)) Φ) : Ev d M n0 pc ls (.int w :: st) n I G J Φ := by
  intro K B p l e R s m args below meth c H locs Q a hC hR h0 hI hO hS hL hQ
  have had := hC.2.2.2.2.2.2
  have hts := hC.1.2.2.2.2
  have hsz : H.size = K.1 n := by rw [hI.2.1, had n hn]
  subst hwz
  refine W.anew (rest := st.map (cvv K.1)) hC.1.1 hC.1.2.1 hC.1.2.2.2.1 (hts _ hw) (va_AO.use hC.2.2.2.2.2.1.2.2.2.1) rfl hd rfl hwn (by omega) (Nat.le_trans hm1 hR.2.2.1) (Nat.le_trans hm2 hR.2.2.2) fun cA kA comp f1 f2 f3 f4 => ?_
  generalize hH1 : H.push ({ cls := cA, slots := Array.replicate w.toNatClampNeg .null, vm := .none } : Cell) = H1
  have z1 : H1.size = H.size + 1 := by rw [← hH1, Array.size_push]
  have e1 : H1[H.size]? = some (arrV cA w.toNatClampNeg (fun _ => .null)) := by rw [← hH1, Array.getElem?_push_size, ← arrV_new]
  have o1 : ∀ q : Nat, q < H.size → H1[q]? = H[q]? := fun q hq => by rw [← hH1, Array.getElem?_push, if_neg (Nat.ne_of_lt hq)]
  have hcA : cA = K.2.1 3 := by
    obtain ⟨kA', comp', -, -, -, h5⟩ := (hC.2.2.2.2.1.2 3 _ ty_at.2.2.2.1).2
    exact Option.some.inj (f1.symm.trans h5)
  have hw2 := k K B p l e R s m args below meth c H1 locs Q a hC hR h0 (Iw_push hI hn z1 o1 ?_ (fun x hx => ur_ne _ _ (by omega)) (fun x hx => ur_ne _ _ (by omega)) (fun x hx => ur_ne _ _ (by omega))) (hO.mem (fun x hx => ur_ne _ _ (by omega)) (fun x hx => ur_ne _ _ (by omega))) (vS_push hS (by rw [z1]; omega) o1) hL hQ
  · rw [show n + 1 - n0 = n - n0 + 1 by omega, show pre (n + 1) - pre n0 = pre n - pre n0 + w.toNatClampNeg by omega] at hw2
    rw [hsz]
    exact hw2
  · rw [cel_ref hs (by omega), ur_at]
    show H1[K.1 n]? = some (vp_cell _ _)
    rw [← hsz, e1, hcA, vp_cell_q]
    rfl
/-- w rows from cell n on are nought -/
def zrI (I : MI) (n w : Nat) : MI := fun x => if n ≤ x ∧ x < n + w then fun _ => 0 else I x
def zrJ (J : MJ) (n w : Nat) : MJ := fun x => if n ≤ x ∧ x < n + w then fun _ => 0 else J x
def zrG (G : MG) (n w : Nat) : MG := fun x => if x = n then fun i => if i + 1 < w then some (n + 1 + i) else none else if n ≤ x ∧ x < n + w then fun _ => none else G x
set_option maxHeartbeats 1000000 in
theorem E_mna {ix : Nat} {w v : Int32} (N z : Nat) (hd : decode M.2.1 pc = .ok (.multianewarray ix 2, 4)) (hw : Cond.classLink M.1.cls ix "[[I" ∈ tb ∧ Cond.arrayClass .int ∈ tb) (hs : shp n = (10, N)) (hss : ∀ j, j < N → shp (n + 1 + j) = (6, z)) (hwn : ¬ w < 0) (hvn : ¬ v < 0) (hwz : w.toNatClampNeg = N) (hvz : v.toNatClampNeg = z) (hzb : z ≤ 1000) (hNb : N ≤ 1000) (hn : n + 1 + N ≤ 1000) (hn0 : n0 ≤ n) (hpn : pre n0 ≤ pre n) (hp : pre (n + 1 + N) = pre n + N + N * z) (hm1 : n - n0 + (1 + N) ≤ M.2.2.2.2.1) (hm2 : pre n - pre n0 + (N + N * z) ≤ M.2.2.2.2.2)
    (k : Ev d M n0 (pc + 4) ls (.ref n :: st) (n + 1 + N) (zrI I n (N + 1)) (zrG G n (N + 1)) (zrJ J n (N + 1)) Φ) : Ev d M n0 pc ls (.int v :: .int w :: st) n I G J Φ := by
  intro K B p l e R s m args below meth c H locs Q a hC hR h0 hI hO hS hL hQ
  have had := hC.2.2.2.2.2.2
  have hts := hC.1.2.2.2.2
  have hsz : H.size = K.1 n := by rw [hI.2.1, had n (by omega)]
  subst hwz
  subst hvz
  intro T hT Xs
  obtain ⟨vm₁, cA, comp, -, fA, fC, hO2, -, X', step⟩ := Xs.multianewarray2F hC.1.1 hC.1.2.2.2.1 (ty := .int) (hts _ hw.1) (Jvm.Stand.arrayOver_alikeB (Vm.Alike.refl _) hC.2.2.2.2.2.1.2.2.2.2) (hts _ hw.2) (g := F0 m pc a (.int v :: .int w :: st.map (cvv K.1))) rfl (by rw [hC.1.2.1]; exact hd) rfl hwn hvn (by omega) (by simp [componentBytes]; omega) (by omega) rfl rfl (Nat.le_trans hm1 hR.2.2.1) (Nat.le_trans hm2 hR.2.2.2)
  have hcA : cA = K.2.1 4 := Option.some.inj (fA.symm.trans (hC.2.2.2.2.1.2 4 _ ty_at.2.2.2.2).2)
  have hcC : comp = K.2.1 0 := Option.some.inj (fC.symm.trans (hC.2.2.2.2.1.2 0 _ ty_at.1).2)
  subst hcA
  subst hcC
  generalize hF : Jvm.Free.Multi.fill (T.setVm vm₁) (K.2.1 4) (K.2.1 0) w.toNatClampNeg v.toNatClampNeg (defaultValue .int) w.toNatClampNeg = F at X' step
  have hTh : (T.setVm vm₁).heap = H := hT
  obtain ⟨f1, f2, -, -⟩ := Jvm.Free.Multi.fill_facts (T.setVm vm₁) (K.2.1 4) (K.2.1 0) w.toNatClampNeg v.toNatClampNeg (defaultValue .int) w.toNatClampNeg
  rw [hF, hTh] at f1 f2
  have hold : ∀ x : Nat, x < H.size → F.heap[x]? = H[x]? := fun x hx => by
    have := Jvm.Free.Multi.fill_old (T.setVm vm₁) (K.2.1 4) (K.2.1 0) w.toNatClampNeg v.toNatClampNeg (defaultValue .int) (a := x) (by rw [hTh]; exact hx) w.toNatClampNeg
    rw [hF, hTh] at this
    exact this
  have hrow : ∀ j : Nat, j < w.toNatClampNeg → F.heap[H.size + 1 + j]? = some (vp_cell (K.2.1 0) (v.toNatClampNeg, .inl (fun _ => 0))) := fun j hj => by
    have := Jvm.Free.Multi.fill_inner (T.setVm vm₁) (K.2.1 4) (K.2.1 0) w.toNatClampNeg v.toNatClampNeg (defaultValue .int) w.toNatClampNeg j hj
    rw [hF, hTh] at this
    rw [this, vp_cell_i, ← arrV_new]
    rfl
  have hI1 : Iw K (n + 1 + w.toNatClampNeg) (zrI I n (w.toNatClampNeg + 1)) (zrG G n (w.toNatClampNeg + 1)) (zrJ J n (w.toNatClampNeg + 1)) F.heap := by
    refine ⟨fun i q hq => ?_, by rw [f1, hI.2.1]; omega, hn⟩
    have hil : i < n + 1 + w.toNatClampNeg := by
      have := (List.getElem?_eq_some_iff.mp hq).1
      simpa [wsO] using this
    rw [wsO_at hil] at hq
    cases hq
    rcases Nat.lt_trichotomy i n with hlt | heq | hgt
    · rw [celE_congr (I := I) (G := G) (J := J) (by unfold zrI; rw [if_neg (by omega)]) (by unfold zrG; rw [if_neg (by omega), if_neg (by omega)]) (by unfold zrJ; rw [if_neg (by omega)])]
      exact (hI.1 i _ (wsO_at hlt)).kept (hold _ ((hI.1 i _ (wsO_at hlt)).lt))
    · subst heq
      rw [cel_ref hs (by omega)]
      show F.heap[K.1 i]? = some (vp_cell _ _)
      rw [← hsz, f2, vp_cell_q]
      have key : ∀ t : Nat, Jvm.Free.Multi.outerC (K.2.1 4) w.toNatClampNeg H.size t = arrV (K.2.1 4) w.toNatClampNeg (fun j => va_rf (if j < t then some (H.size + 1 + j) else none)) := by
        intro t
        induction t with
        | zero =>
          show ({ cls := K.2.1 4, slots := Array.replicate w.toNatClampNeg .null, vm := .none } : Cell) = _
          rw [arrV_new]
          refine congrArg (arrV (K.2.1 4) w.toNatClampNeg) (funext fun j => ?_)
          simp [va_rf]
        | succ t ih =>
          show (Jvm.Free.Multi.outerC (K.2.1 4) w.toNatClampNeg H.size t).setSlot t (.ref (H.size + 1 + t)) = _
          rw [ih, arrV_store]
          refine congrArg (arrV (K.2.1 4) w.toNatClampNeg) (funext fun j => ?_)
          by_cases e9 : j = t
          · subst e9
            simp [updV, va_rf]
          · by_cases h9 : j < t
            · simp [updV, e9, h9, Nat.lt_succ_of_lt h9]
            · simp [updV, e9, h9, show ¬ j < t + 1 by omega]
      rw [key]
      congr 2
      funext j
      have hadj : w.toNatClampNeg ≤ 1000 := hNb
      by_cases hj : j < w.toNatClampNeg
      · have h10 : K.1 (i + 1 + j) = H.size + 1 + j := by rw [had (i + 1 + j) (by omega), hI.2.1]; omega
        simp [zrG, hj, h10]
      · simp [zrG, hj]
    · obtain ⟨j, rfl⟩ : ∃ j, i = n + 1 + j := ⟨i - n - 1, by omega⟩
      rw [cel_int (hss j (by omega)) (by omega) (by omega)]
      show F.heap[K.1 (n + 1 + j)]? = some (vp_cell _ _)
      have h10 : K.1 (n + 1 + j) = H.size + 1 + j := by rw [had (n + 1 + j) (by omega), hI.2.1]; omega
      rw [h10, hrow j (by omega)]
      unfold zrI
      rw [if_pos (by omega)]
  have hw2 := k K B p l e R s m args below meth c F.heap locs Q a hC hR h0 hI1 (hO.mem (fun x hx => by unfold zrI; rw [if_neg (by omega)]) (fun x hx => by unfold zrG; rw [if_neg (by omega), if_neg (by omega)])) (vS_push hS (by rw [f1]; omega) hold) hL hQ
  rw [show n + 1 + w.toNatClampNeg - n0 = n - n0 + 1 + w.toNatClampNeg by omega, show pre (n + 1 + w.toNatClampNeg) - pre n0 = pre n - pre n0 + w.toNatClampNeg + w.toNatClampNeg * v.toNatClampNeg by omega] at hw2
  obtain ⟨t, a1, b1⟩ := hw2 F rfl X'
  refine ⟨t, step t ?_, b1⟩
  have e9 : T.heap.size = K.1 n := by rw [hT, hsz]
  rw [e9]
  exact a1
end ALLOC
end
