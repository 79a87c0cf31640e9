section
-- ===== PART A: goes FIRST, ahead of the names: the tables' words, and 'selects' of the private methods out of them =====
/-- a private method of a class that the tables say can be made, by its rows of tables_1 -/
def lw_okq (q : MethodName × Nat) : Prop := (q.1.cls ≠ "java/lang/invoke/MethodHandle" ∧ q.1.cls ≠ "java/lang/invoke/VarHandle") ∧ Cond.instantiable q.1.cls q.2 ∈ tables_1 ∧ Cond.privateMethod q.1 ∈ tables_1 ∧ Cond.instanceMethod q.1 ∈ tables_1
theorem lw_p0 : lw_okq (⟨"DuskStones", "remember", "()V"⟩, 16) := ⟨⟨by decide +kernel, by decide +kernel⟩, List.mem_of_getElem? (i := 11) (by decide +kernel), List.mem_of_getElem? (i := 381) (by decide +kernel), List.mem_of_getElem? (i := 382) (by decide +kernel)⟩
theorem lw_p1 : lw_okq (⟨"DuskStones", "allPush", "(I)V"⟩, 16) := ⟨⟨by decide +kernel, by decide +kernel⟩, List.mem_of_getElem? (i := 11) (by decide +kernel), List.mem_of_getElem? (i := 488) (by decide +kernel), List.mem_of_getElem? (i := 489) (by decide +kernel)⟩
theorem lw_p2 : lw_okq (⟨"DuskStones", "agrees", "(I)Z"⟩, 16) := ⟨⟨by decide +kernel, by decide +kernel⟩, List.mem_of_getElem? (i := 11) (by decide +kernel), List.mem_of_getElem? (i := 548) (by decide +kernel), List.mem_of_getElem? (i := 549) (by decide +kernel)⟩
theorem lw_p3 : lw_okq (⟨"DuskStones", "isOverBehind", "(III)Z"⟩, 16) := ⟨⟨by decide +kernel, by decide +kernel⟩, List.mem_of_getElem? (i := 11) (by decide +kernel), List.mem_of_getElem? (i := 563) (by decide +kernel), List.mem_of_getElem? (i := 564) (by decide +kernel)⟩
theorem lw_p4 : lw_okq (⟨"DuskStones", "rateAs", "(II)I"⟩, 16) := ⟨⟨by decide +kernel, by decide +kernel⟩, List.mem_of_getElem? (i := 11) (by decide +kernel), List.mem_of_getElem? (i := 579) (by decide +kernel), List.mem_of_getElem? (i := 580) (by decide +kernel)⟩
theorem lw_p5 : lw_okq (⟨"DuskStonesModel", "begin", "()V"⟩, 33) := ⟨⟨by decide +kernel, by decide +kernel⟩, List.mem_of_getElem? (i := 607) (by decide +kernel), List.mem_of_getElem? (i := 613) (by decide +kernel), List.mem_of_getElem? (i := 614) (by decide +kernel)⟩
theorem lw_p6 : lw_okq (⟨"DuskStonesModel", "next", "()V"⟩, 33) := ⟨⟨by decide +kernel, by decide +kernel⟩, List.mem_of_getElem? (i := 607) (by decide +kernel), List.mem_of_getElem? (i := 733) (by decide +kernel), List.mem_of_getElem? (i := 734) (by decide +kernel)⟩
theorem lw_p7 : lw_okq (⟨"DuskStonesModel", "takeItem", "()V"⟩, 33) := ⟨⟨by decide +kernel, by decide +kernel⟩, List.mem_of_getElem? (i := 607) (by decide +kernel), List.mem_of_getElem? (i := 742) (by decide +kernel), List.mem_of_getElem? (i := 743) (by decide +kernel)⟩
theorem lw_p8 : lw_okq (⟨"DuskStonesModel", "want", "(Z)Z"⟩, 33) := ⟨⟨by decide +kernel, by decide +kernel⟩, List.mem_of_getElem? (i := 607) (by decide +kernel), List.mem_of_getElem? (i := 746) (by decide +kernel), List.mem_of_getElem? (i := 747) (by decide +kernel)⟩
theorem lw_p9 : lw_okq (⟨"DuskStonesModel", "takeHill", "()V"⟩, 33) := ⟨⟨by decide +kernel, by decide +kernel⟩, List.mem_of_getElem? (i := 607) (by decide +kernel), List.mem_of_getElem? (i := 750) (by decide +kernel), List.mem_of_getElem? (i := 751) (by decide +kernel)⟩
theorem lw_p10 : lw_okq (⟨"DuskStonesModel", "takeNumber", "(II)I"⟩, 33) := ⟨⟨by decide +kernel, by decide +kernel⟩, List.mem_of_getElem? (i := 607) (by decide +kernel), List.mem_of_getElem? (i := 754) (by decide +kernel), List.mem_of_getElem? (i := 755) (by decide +kernel)⟩
theorem lw_p11 : lw_okq (⟨"DuskStonesModel", "takeJoin", "()V"⟩, 33) := ⟨⟨by decide +kernel, by decide +kernel⟩, List.mem_of_getElem? (i := 607) (by decide +kernel), List.mem_of_getElem? (i := 758) (by decide +kernel), List.mem_of_getElem? (i := 759) (by decide +kernel)⟩
theorem lw_p12 : lw_okq (⟨"DuskStonesModel", "isHill", "(I)Z"⟩, 33) := ⟨⟨by decide +kernel, by decide +kernel⟩, List.mem_of_getElem? (i := 607) (by decide +kernel), List.mem_of_getElem? (i := 769) (by decide +kernel), List.mem_of_getElem? (i := 770) (by decide +kernel)⟩
theorem lw_p13 : lw_okq (⟨"DuskStonesModel", "sizeIn", "(II)I"⟩, 33) := ⟨⟨by decide +kernel, by decide +kernel⟩, List.mem_of_getElem? (i := 607) (by decide +kernel), List.mem_of_getElem? (i := 777) (by decide +kernel), List.mem_of_getElem? (i := 778) (by decide +kernel)⟩
theorem lw_p14 : lw_okq (⟨"DuskStonesModel", "sizeBy", "(II)I"⟩, 33) := ⟨⟨by decide +kernel, by decide +kernel⟩, List.mem_of_getElem? (i := 607) (by decide +kernel), List.mem_of_getElem? (i := 781) (by decide +kernel), List.mem_of_getElem? (i := 782) (by decide +kernel)⟩
theorem lw_p15 : lw_okq (⟨"DuskStonesModel", "isOver", "(II)Z"⟩, 33) := ⟨⟨by decide +kernel, by decide +kernel⟩, List.mem_of_getElem? (i := 607) (by decide +kernel), List.mem_of_getElem? (i := 785) (by decide +kernel), List.mem_of_getElem? (i := 786) (by decide +kernel)⟩
def lw_privs_1 : List (MethodName × Nat) := [(⟨"DuskStones", "remember", "()V"⟩, 16), (⟨"DuskStones", "allPush", "(I)V"⟩, 16), (⟨"DuskStones", "agrees", "(I)Z"⟩, 16), (⟨"DuskStones", "isOverBehind", "(III)Z"⟩, 16), (⟨"DuskStones", "rateAs", "(II)I"⟩, 16), (⟨"DuskStonesModel", "begin", "()V"⟩, 33), (⟨"DuskStonesModel", "next", "()V"⟩, 33), (⟨"DuskStonesModel", "takeItem", "()V"⟩, 33), (⟨"DuskStonesModel", "want", "(Z)Z"⟩, 33), (⟨"DuskStonesModel", "takeHill", "()V"⟩, 33), (⟨"DuskStonesModel", "takeNumber", "(II)I"⟩, 33), (⟨"DuskStonesModel", "takeJoin", "()V"⟩, 33), (⟨"DuskStonesModel", "isHill", "(I)Z"⟩, 33), (⟨"DuskStonesModel", "sizeIn", "(II)I"⟩, 33), (⟨"DuskStonesModel", "sizeBy", "(II)I"⟩, 33), (⟨"DuskStonesModel", "isOver", "(II)Z"⟩, 33)]
theorem lw_r1 : ∀ q ∈ lw_privs_1, lw_okq q := List.forall_mem_cons.mpr ⟨lw_p0, List.forall_mem_cons.mpr ⟨lw_p1, List.forall_mem_cons.mpr ⟨lw_p2, List.forall_mem_cons.mpr ⟨lw_p3, List.forall_mem_cons.mpr ⟨lw_p4, List.forall_mem_cons.mpr ⟨lw_p5, List.forall_mem_cons.mpr ⟨lw_p6, List.forall_mem_cons.mpr ⟨lw_p7, List.forall_mem_cons.mpr ⟨lw_p8, List.forall_mem_cons.mpr ⟨lw_p9, List.forall_mem_cons.mpr ⟨lw_p10, List.forall_mem_cons.mpr ⟨lw_p11, List.forall_mem_cons.mpr ⟨lw_p12, List.forall_mem_cons.mpr ⟨lw_p13, List.forall_mem_cons.mpr ⟨lw_p14, List.forall_mem_cons.mpr ⟨lw_p15, fun _ h => absurd h List.not_mem_nil⟩⟩⟩⟩⟩⟩⟩⟩⟩⟩⟩⟩⟩⟩⟩⟩
theorem lw_p16 : lw_okq (⟨"DuskStonesModel", "isMan", "(I)Z"⟩, 33) := ⟨⟨by decide +kernel, by decide +kernel⟩, List.mem_of_getElem? (i := 607) (by decide +kernel), List.mem_of_getElem? (i := 796) (by decide +kernel), List.mem_of_getElem? (i := 797) (by decide +kernel)⟩
theorem lw_p17 : lw_okq (⟨"DuskStonesModel", "over", "()I"⟩, 33) := ⟨⟨by decide +kernel, by decide +kernel⟩, List.mem_of_getElem? (i := 607) (by decide +kernel), List.mem_of_getElem? (i := 804) (by decide +kernel), List.mem_of_getElem? (i := 805) (by decide +kernel)⟩
theorem lw_p18 : lw_okq (⟨"DuskStonesModel", "remember", "()V"⟩, 33) := ⟨⟨by decide +kernel, by decide +kernel⟩, List.mem_of_getElem? (i := 607) (by decide +kernel), List.mem_of_getElem? (i := 812) (by decide +kernel), List.mem_of_getElem? (i := 813) (by decide +kernel)⟩
theorem lw_p19 : lw_okq (⟨"DuskStonesModel", "copy", "(II)V"⟩, 33) := ⟨⟨by decide +kernel, by decide +kernel⟩, List.mem_of_getElem? (i := 607) (by decide +kernel), List.mem_of_getElem? (i := 816) (by decide +kernel), List.mem_of_getElem? (i := 817) (by decide +kernel)⟩
theorem lw_p20 : lw_okq (⟨"DuskStonesModel", "push", "(I)I"⟩, 33) := ⟨⟨by decide +kernel, by decide +kernel⟩, List.mem_of_getElem? (i := 607) (by decide +kernel), List.mem_of_getElem? (i := 824) (by decide +kernel), List.mem_of_getElem? (i := 825) (by decide +kernel)⟩
theorem lw_p21 : lw_okq (⟨"DuskStonesModel", "overIn", "(I)I"⟩, 33) := ⟨⟨by decide +kernel, by decide +kernel⟩, List.mem_of_getElem? (i := 607) (by decide +kernel), List.mem_of_getElem? (i := 828) (by decide +kernel), List.mem_of_getElem? (i := 829) (by decide +kernel)⟩
theorem lw_p22 : lw_okq (⟨"DuskStonesModel", "pushOf", "(II)I"⟩, 33) := ⟨⟨by decide +kernel, by decide +kernel⟩, List.mem_of_getElem? (i := 607) (by decide +kernel), List.mem_of_getElem? (i := 832) (by decide +kernel), List.mem_of_getElem? (i := 833) (by decide +kernel)⟩
theorem lw_p23 : lw_okq (⟨"DuskStonesModel", "blocksIn", "(III)I"⟩, 33) := ⟨⟨by decide +kernel, by decide +kernel⟩, List.mem_of_getElem? (i := 607) (by decide +kernel), List.mem_of_getElem? (i := 836) (by decide +kernel), List.mem_of_getElem? (i := 837) (by decide +kernel)⟩
theorem lw_p24 : lw_okq (⟨"DuskStonesModel", "tire", "(II)V"⟩, 33) := ⟨⟨by decide +kernel, by decide +kernel⟩, List.mem_of_getElem? (i := 607) (by decide +kernel), List.mem_of_getElem? (i := 840) (by decide +kernel), List.mem_of_getElem? (i := 841) (by decide +kernel)⟩
theorem lw_p25 : lw_okq (⟨"DuskStonesModel", "rainsOn", "(I)Z"⟩, 33) := ⟨⟨by decide +kernel, by decide +kernel⟩, List.mem_of_getElem? (i := 607) (by decide +kernel), List.mem_of_getElem? (i := 844) (by decide +kernel), List.mem_of_getElem? (i := 845) (by decide +kernel)⟩
theorem lw_p26 : lw_okq (⟨"DuskStonesModel", "dusk", "(IZ)V"⟩, 33) := ⟨⟨by decide +kernel, by decide +kernel⟩, List.mem_of_getElem? (i := 607) (by decide +kernel), List.mem_of_getElem? (i := 848) (by decide +kernel), List.mem_of_getElem? (i := 849) (by decide +kernel)⟩
theorem lw_p27 : lw_okq (⟨"DuskStonesModel", "isCode", "(II)Z"⟩, 33) := ⟨⟨by decide +kernel, by decide +kernel⟩, List.mem_of_getElem? (i := 607) (by decide +kernel), List.mem_of_getElem? (i := 860) (by decide +kernel), List.mem_of_getElem? (i := 861) (by decide +kernel)⟩
theorem lw_p28 : lw_okq (⟨"DuskStonesModel", "stepBy", "(III)I"⟩, 33) := ⟨⟨by decide +kernel, by decide +kernel⟩, List.mem_of_getElem? (i := 607) (by decide +kernel), List.mem_of_getElem? (i := 864) (by decide +kernel), List.mem_of_getElem? (i := 865) (by decide +kernel)⟩
theorem lw_p29 : lw_okq (⟨"DuskStonesModel", "orderAll", "(III)V"⟩, 33) := ⟨⟨by decide +kernel, by decide +kernel⟩, List.mem_of_getElem? (i := 607) (by decide +kernel), List.mem_of_getElem? (i := 868) (by decide +kernel), List.mem_of_getElem? (i := 869) (by decide +kernel)⟩
theorem lw_p30 : lw_okq (⟨"DuskStonesModel", "goToDusk", "(IZ)V"⟩, 33) := ⟨⟨by decide +kernel, by decide +kernel⟩, List.mem_of_getElem? (i := 607) (by decide +kernel), List.mem_of_getElem? (i := 876) (by decide +kernel), List.mem_of_getElem? (i := 877) (by decide +kernel)⟩
theorem lw_p31 : lw_okq (⟨"DuskStonesModel", "isOverBy", "(II)Z"⟩, 33) := ⟨⟨by decide +kernel, by decide +kernel⟩, List.mem_of_getElem? (i := 607) (by decide +kernel), List.mem_of_getElem? (i := 884) (by decide +kernel), List.mem_of_getElem? (i := 885) (by decide +kernel)⟩
def lw_privs_2 : List (MethodName × Nat) := [(⟨"DuskStonesModel", "isMan", "(I)Z"⟩, 33), (⟨"DuskStonesModel", "over", "()I"⟩, 33), (⟨"DuskStonesModel", "remember", "()V"⟩, 33), (⟨"DuskStonesModel", "copy", "(II)V"⟩, 33), (⟨"DuskStonesModel", "push", "(I)I"⟩, 33), (⟨"DuskStonesModel", "overIn", "(I)I"⟩, 33), (⟨"DuskStonesModel", "pushOf", "(II)I"⟩, 33), (⟨"DuskStonesModel", "blocksIn", "(III)I"⟩, 33), (⟨"DuskStonesModel", "tire", "(II)V"⟩, 33), (⟨"DuskStonesModel", "rainsOn", "(I)Z"⟩, 33), (⟨"DuskStonesModel", "dusk", "(IZ)V"⟩, 33), (⟨"DuskStonesModel", "isCode", "(II)Z"⟩, 33), (⟨"DuskStonesModel", "stepBy", "(III)I"⟩, 33), (⟨"DuskStonesModel", "orderAll", "(III)V"⟩, 33), (⟨"DuskStonesModel", "goToDusk", "(IZ)V"⟩, 33), (⟨"DuskStonesModel", "isOverBy", "(II)Z"⟩, 33)]
theorem lw_r2 : ∀ q ∈ lw_privs_2, lw_okq q := List.forall_mem_cons.mpr ⟨lw_p16, List.forall_mem_cons.mpr ⟨lw_p17, List.forall_mem_cons.mpr ⟨lw_p18, List.forall_mem_cons.mpr ⟨lw_p19, List.forall_mem_cons.mpr ⟨lw_p20, List.forall_mem_cons.mpr ⟨lw_p21, List.forall_mem_cons.mpr ⟨lw_p22, List.forall_mem_cons.mpr ⟨lw_p23, List.forall_mem_cons.mpr ⟨lw_p24, List.forall_mem_cons.mpr ⟨lw_p25, List.forall_mem_cons.mpr ⟨lw_p26, List.forall_mem_cons.mpr ⟨lw_p27, List.forall_mem_cons.mpr ⟨lw_p28, List.forall_mem_cons.mpr ⟨lw_p29, List.forall_mem_cons.mpr ⟨lw_p30, List.forall_mem_cons.mpr ⟨lw_p31, fun _ h => absurd h List.not_mem_nil⟩⟩⟩⟩⟩⟩⟩⟩⟩⟩⟩⟩⟩⟩⟩⟩
theorem lw_p32 : lw_okq (⟨"DuskStonesModel", "stoneRate", "(I)I"⟩, 33) := ⟨⟨by decide +kernel, by decide +kernel⟩, List.mem_of_getElem? (i := 607) (by decide +kernel), List.mem_of_getElem? (i := 936) (by decide +kernel), List.mem_of_getElem? (i := 937) (by decide +kernel)⟩
theorem lw_p33 : lw_okq (⟨"DuskStonesModel", "roundRate", "(I)I"⟩, 33) := ⟨⟨by decide +kernel, by decide +kernel⟩, List.mem_of_getElem? (i := 607) (by decide +kernel), List.mem_of_getElem? (i := 940) (by decide +kernel), List.mem_of_getElem? (i := 941) (by decide +kernel)⟩
theorem lw_p34 : lw_okq (⟨"DuskStonesModel", "splitRate", "(I)I"⟩, 33) := ⟨⟨by decide +kernel, by decide +kernel⟩, List.mem_of_getElem? (i := 607) (by decide +kernel), List.mem_of_getElem? (i := 944) (by decide +kernel), List.mem_of_getElem? (i := 945) (by decide +kernel)⟩
theorem lw_p35 : lw_okq (⟨"DuskStonesModel", "wetRate", "(I)I"⟩, 33) := ⟨⟨by decide +kernel, by decide +kernel⟩, List.mem_of_getElem? (i := 607) (by decide +kernel), List.mem_of_getElem? (i := 949) (by decide +kernel), List.mem_of_getElem? (i := 950) (by decide +kernel)⟩
theorem lw_p36 : lw_okq (⟨"DuskStonesModel", "lentRate", "(I)I"⟩, 33) := ⟨⟨by decide +kernel, by decide +kernel⟩, List.mem_of_getElem? (i := 607) (by decide +kernel), List.mem_of_getElem? (i := 954) (by decide +kernel), List.mem_of_getElem? (i := 955) (by decide +kernel)⟩
theorem lw_p37 : lw_okq (⟨"DuskStonesModel", "hollowRate", "(I)I"⟩, 33) := ⟨⟨by decide +kernel, by decide +kernel⟩, List.mem_of_getElem? (i := 607) (by decide +kernel), List.mem_of_getElem? (i := 959) (by decide +kernel), List.mem_of_getElem? (i := 960) (by decide +kernel)⟩
def lw_privs_3 : List (MethodName × Nat) := [(⟨"DuskStonesModel", "stoneRate", "(I)I"⟩, 33), (⟨"DuskStonesModel", "roundRate", "(I)I"⟩, 33), (⟨"DuskStonesModel", "splitRate", "(I)I"⟩, 33), (⟨"DuskStonesModel", "wetRate", "(I)I"⟩, 33), (⟨"DuskStonesModel", "lentRate", "(I)I"⟩, 33), (⟨"DuskStonesModel", "hollowRate", "(I)I"⟩, 33)]
theorem lw_r3 : ∀ q ∈ lw_privs_3, lw_okq q := List.forall_mem_cons.mpr ⟨lw_p32, List.forall_mem_cons.mpr ⟨lw_p33, List.forall_mem_cons.mpr ⟨lw_p34, List.forall_mem_cons.mpr ⟨lw_p35, List.forall_mem_cons.mpr ⟨lw_p36, List.forall_mem_cons.mpr ⟨lw_p37, fun _ h => absurd h List.not_mem_nil⟩⟩⟩⟩⟩⟩
def lw_privs : List (MethodName × Nat) := lw_privs_1 ++ (lw_privs_2 ++ (lw_privs_3))
def lw_tbl : List Cond := k2_sels lw_privs ++ tables_1
theorem lw_privs_ok : ∀ q ∈ lw_privs, lw_okq q := by
  show ∀ q ∈ lw_privs_1 ++ (lw_privs_2 ++ (lw_privs_3)), lw_okq q
  exact List.forall_mem_append.mpr ⟨lw_r1, List.forall_mem_append.mpr ⟨lw_r2, lw_r3⟩⟩

def RX0 : String := "DuskStones$Climb"
def TX0 : u_T := fun k => match k with
  | 0 => ("DuskStones$Climb", "strength", "[[I", true)
  | 1 => ("DuskStones$Climb", "row", "[I", true)
  | 2 => ("DuskStones$Climb", "bestRow", "[I", true)
  | 3 => ("DuskStones$Climb", "best", "I", false)
  | 4 => ("DuskStones$Climb", "need", "I", false)
  | 5 => ("DuskStones$Climb", "hours", "I", false)
  | _ => ("DuskStones$Climb", "free", "I", false)
def tyX0 : Nat → FieldType := fun k => match k with
  | 0 => .array (.array .int)
  | 1 => .array .int
  | 2 => .array .int
  | 3 => .int
  | 4 => .int
  | 5 => .int
  | _ => .int
theorem nmX0 : ∀ a, a < 7 → ∀ b, b < 7 → a ≠ b → (TX0 a).2.1 ≠ (TX0 b).2.1 := by decide +kernel
theorem tyX0_ok : ∀ k, k < 7 → parseFieldDescriptor (TX0 k).2.2.1 = some (tyX0 k) := by decide +kernel
abbrev cX0_init : ByteArray := prog_2_method_1_code
def yX0_init : MethodName := ⟨RX0, "<init>", "()V"⟩
abbrev cX0_search : ByteArray := prog_2_method_2_code
def yX0_search : MethodName := ⟨RX0, "search", "(LDuskStones$Land;LDuskStones$Moment;I)V"⟩
abbrev cX0_explore : ByteArray := prog_2_method_3_code
def yX0_explore : MethodName := ⟨RX0, "explore", "(LDuskStones$Land;II)V"⟩
abbrev cX0_keepRow : ByteArray := prog_2_method_4_code
def yX0_keepRow : MethodName := ⟨RX0, "keepRow", "(II)V"⟩
abbrev cX0_isJustEnough : ByteArray := prog_2_method_5_code
def yX0_isJustEnough : MethodName := ⟨RX0, "isJustEnough", "(LDuskStones$Land;II)Z"⟩
abbrev cX0_isIn : ByteArray := prog_2_method_6_code
def yX0_isIn : MethodName := ⟨RX0, "isIn", "(II)Z"⟩
abbrev cX0_tire : ByteArray := prog_2_method_7_code
def yX0_tire : MethodName := ⟨RX0, "tire", "(LDuskStones$Land;II)V"⟩
def RX1 : String := "DuskStones$Land"
def TX1 : u_T := fun k => match k with
  | 0 => ("DuskStones$Land", "hills", "I", false)
  | 1 => ("DuskStones$Land", "high", "[I", true)
  | 2 => ("DuskStones$Land", "slope", "[I", true)
  | 3 => ("DuskStones$Land", "ledges", "[I", true)
  | 4 => ("DuskStones$Land", "size", "[I", true)
  | 5 => ("DuskStones$Land", "joins", "I", false)
  | 6 => ("DuskStones$Land", "joinA", "[I", true)
  | 7 => ("DuskStones$Land", "joinB", "[I", true)
  | 8 => ("DuskStones$Land", "joinFrom", "[I", true)
  | 9 => ("DuskStones$Land", "men", "I", false)
  | 10 => ("DuskStones$Land", "force", "[I", true)
  | 11 => ("DuskStones$Land", "hours", "I", false)
  | 12 => ("DuskStones$Land", "rain", "I", false)
  | 13 => ("DuskStones$Land", "hoursTold", "Z", false)
  | _ => ("DuskStones$Land", "rainTold", "Z", false)
def tyX1 : Nat → FieldType := fun k => match k with
  | 0 => .int
  | 1 => .array .int
  | 2 => .array .int
  | 3 => .array .int
  | 4 => .array .int
  | 5 => .int
  | 6 => .array .int
  | 7 => .array .int
  | 8 => .array .int
  | 9 => .int
  | 10 => .array .int
  | 11 => .int
  | 12 => .int
  | 13 => .boolean
  | _ => .boolean
theorem nmX1 : ∀ a, a < 15 → ∀ b, b < 15 → a ≠ b → (TX1 a).2.1 ≠ (TX1 b).2.1 := by decide +kernel
theorem tyX1_ok : ∀ k, k < 15 → parseFieldDescriptor (TX1 k).2.2.1 = some (tyX1 k) := by decide +kernel
abbrev cX1_init : ByteArray := prog_3_method_1_code
def yX1_init : MethodName := ⟨RX1, "<init>", "()V"⟩
abbrev cX1_empty : ByteArray := prog_3_method_2_code
def yX1_empty : MethodName := ⟨RX1, "empty", "()V"⟩
abbrev cX1_hasHill : ByteArray := prog_3_method_3_code
def yX1_hasHill : MethodName := ⟨RX1, "hasHill", "(I)Z"⟩
abbrev cX1_hasMan : ByteArray := prog_3_method_4_code
def yX1_hasMan : MethodName := ⟨RX1, "hasMan", "(I)Z"⟩
abbrev cX1_rainsOn : ByteArray := prog_3_method_5_code
def yX1_rainsOn : MethodName := ⟨RX1, "rainsOn", "(I)Z"⟩
abbrev cX1_hasLedge : ByteArray := prog_3_method_6_code
def yX1_hasLedge : MethodName := ⟨RX1, "hasLedge", "(II)Z"⟩
abbrev cX1_isOnePlace : ByteArray := prog_3_method_7_code
def yX1_isOnePlace : MethodName := ⟨RX1, "isOnePlace", "(III)Z"⟩
abbrev cX1_forceOf : ByteArray := prog_3_method_8_code
def yX1_forceOf : MethodName := ⟨RX1, "forceOf", "(I)I"⟩
abbrev cX1_addHill : ByteArray := prog_3_method_9_code
def yX1_addHill : MethodName := ⟨RX1, "addHill", "([I)V"⟩
abbrev cX1_addJoin : ByteArray := prog_3_method_10_code
def yX1_addJoin : MethodName := ⟨RX1, "addJoin", "([I)V"⟩
abbrev cX1_addMan : ByteArray := prog_3_method_11_code
def yX1_addMan : MethodName := ⟨RX1, "addMan", "(I)V"⟩
def RX2 : String := "DuskStones$Moment"
def TX2 : u_T := fun k => match k with
  | 0 => ("DuskStones$Moment", "day", "I", false)
  | 1 => ("DuskStones$Moment", "hour", "I", false)
  | 2 => ("DuskStones$Moment", "step", "[I", true)
  | 3 => ("DuskStones$Moment", "rolled", "[I", true)
  | 4 => ("DuskStones$Moment", "strength", "[I", true)
  | 5 => ("DuskStones$Moment", "order", "[I", true)
  | 6 => ("DuskStones$Moment", "evening", "[I", true)
  | _ => ("DuskStones$Moment", "evenings", "I", false)
def tyX2 : Nat → FieldType := fun k => match k with
  | 0 => .int
  | 1 => .int
  | 2 => .array .int
  | 3 => .array .int
  | 4 => .array .int
  | 5 => .array .int
  | 6 => .array .int
  | _ => .int
theorem nmX2 : ∀ a, a < 8 → ∀ b, b < 8 → a ≠ b → (TX2 a).2.1 ≠ (TX2 b).2.1 := by decide +kernel
theorem tyX2_ok : ∀ k, k < 8 → parseFieldDescriptor (TX2 k).2.2.1 = some (tyX2 k) := by decide +kernel
abbrev cX2_init : ByteArray := prog_4_method_1_code
def yX2_init : MethodName := ⟨RX2, "<init>", "()V"⟩
abbrev cX2_begin : ByteArray := prog_4_method_2_code
def yX2_begin : MethodName := ⟨RX2, "begin", "(LDuskStones$Land;)V"⟩
abbrev cX2_copyFrom : ByteArray := prog_4_method_3_code
def yX2_copyFrom : MethodName := ⟨RX2, "copyFrom", "(LDuskStones$Moment;)V"⟩
abbrev cX2_isOver : ByteArray := prog_4_method_4_code
def yX2_isOver : MethodName := ⟨RX2, "isOver", "(LDuskStones$Land;I)Z"⟩
abbrev cX2_overBits : ByteArray := prog_4_method_5_code
def yX2_overBits : MethodName := ⟨RX2, "overBits", "(LDuskStones$Land;)I"⟩
abbrev cX2_sizeNow : ByteArray := prog_4_method_6_code
def yX2_sizeNow : MethodName := ⟨RX2, "sizeNow", "(LDuskStones$Land;I)I"⟩
abbrev cX2_needOf : ByteArray := prog_4_method_7_code
def yX2_needOf : MethodName := ⟨RX2, "needOf", "(LDuskStones$Land;I)I"⟩
abbrev cX2_hoursLeft : ByteArray := prog_4_method_8_code
def yX2_hoursLeft : MethodName := ⟨RX2, "hoursLeft", "(LDuskStones$Land;)I"⟩
abbrev cX2_menAt : ByteArray := prog_4_method_9_code
def yX2_menAt : MethodName := ⟨RX2, "menAt", "(LDuskStones$Land;I)I"⟩
abbrev cX2_strengthAt : ByteArray := prog_4_method_10_code
def yX2_strengthAt : MethodName := ⟨RX2, "strengthAt", "(LDuskStones$Land;I)I"⟩
abbrev cX2_strengthAfter : ByteArray := prog_4_method_11_code
def yX2_strengthAfter : MethodName := ⟨RX2, "strengthAfter", "(LDuskStones$Land;I)I"⟩
abbrev cX2_blockersAt : ByteArray := prog_4_method_12_code
def yX2_blockersAt : MethodName := ⟨RX2, "blockersAt", "(LDuskStones$Land;II)I"⟩
abbrev cX2_freeSteps : ByteArray := prog_4_method_13_code
def yX2_freeSteps : MethodName := ⟨RX2, "freeSteps", "(LDuskStones$Land;I)I"⟩
abbrev cX2_passHour : ByteArray := prog_4_method_14_code
def yX2_passHour : MethodName := ⟨RX2, "passHour", "(LDuskStones$Land;)I"⟩
abbrev cX2_canComeUp : ByteArray := prog_4_method_15_code
def yX2_canComeUp : MethodName := ⟨RX2, "canComeUp", "(LDuskStones$Land;I)Z"⟩
abbrev cX2_passDay : ByteArray := prog_4_method_16_code
def yX2_passDay : MethodName := ⟨RX2, "passDay", "(LDuskStones$Land;)V"⟩
abbrev cX2_fallDusk : ByteArray := prog_4_method_17_code
def yX2_fallDusk : MethodName := ⟨RX2, "fallDusk", "(LDuskStones$Land;Z)V"⟩
abbrev cX2_rest : ByteArray := prog_4_method_18_code
def yX2_rest : MethodName := ⟨RX2, "rest", "(LDuskStones$Land;)V"⟩
abbrev cX2_writeDown : ByteArray := prog_4_method_19_code
def yX2_writeDown : MethodName := ⟨RX2, "writeDown", "(LDuskStones$Land;)V"⟩
abbrev cX2_writtenStep : ByteArray := prog_4_method_20_code
def yX2_writtenStep : MethodName := ⟨RX2, "writtenStep", "(II)I"⟩
def RX3 : String := "DuskStones$Reader"
def TX3 : u_T := fun k => match k with
  | 0 => ("DuskStones$Reader", "text", "[C", true)
  | 1 => ("DuskStones$Reader", "numbers", "[I", true)
  | 2 => ("DuskStones$Reader", "length", "I", false)
  | 3 => ("DuskStones$Reader", "next", "I", false)
  | 4 => ("DuskStones$Reader", "place", "I", false)
  | 5 => ("DuskStones$Reader", "token", "I", false)
  | _ => ("DuskStones$Reader", "value", "I", false)
def tyX3 : Nat → FieldType := fun k => match k with
  | 0 => .array .char
  | 1 => .array .int
  | 2 => .int
  | 3 => .int
  | 4 => .int
  | 5 => .int
  | _ => .int
theorem nmX3 : ∀ a, a < 7 → ∀ b, b < 7 → a ≠ b → (TX3 a).2.1 ≠ (TX3 b).2.1 := by decide +kernel
theorem tyX3_ok : ∀ k, k < 7 → parseFieldDescriptor (TX3 k).2.2.1 = some (tyX3 k) := by decide +kernel
abbrev cX3_init : ByteArray := prog_5_method_1_code
def yX3_init : MethodName := ⟨RX3, "<init>", "([C)V"⟩
abbrev cX3_readAll : ByteArray := prog_5_method_2_code
def yX3_readAll : MethodName := ⟨RX3, "readAll", "(ILDuskStones$Land;)I"⟩
abbrev cX3_readItem : ByteArray := prog_5_method_3_code
def yX3_readItem : MethodName := ⟨RX3, "readItem", "(LDuskStones$Land;)Z"⟩
abbrev cX3_canStand : ByteArray := prog_5_method_4_code
def yX3_canStand : MethodName := ⟨RX3, "canStand", "(ILDuskStones$Land;)Z"⟩
abbrev cX3_numbersOf : ByteArray := prog_5_method_5_code
def yX3_numbersOf : MethodName := ⟨RX3, "numbersOf", "(I)I"⟩
abbrev cX3_fits : ByteArray := prog_5_method_6_code
def yX3_fits : MethodName := ⟨RX3, "fits", "(IILDuskStones$Land;)Z"⟩
abbrev cX3_fitsJoin : ByteArray := prog_5_method_7_code
def yX3_fitsJoin : MethodName := ⟨RX3, "fitsJoin", "(ILDuskStones$Land;)Z"⟩
abbrev cX3_isWithin : ByteArray := prog_5_method_8_code
def yX3_isWithin : MethodName := ⟨RX3, "isWithin", "(II)Z"⟩
abbrev cX3_addItem : ByteArray := prog_5_method_9_code
def yX3_addItem : MethodName := ⟨RX3, "addItem", "(ILDuskStones$Land;)V"⟩
abbrev cX3_take : ByteArray := prog_5_method_10_code
def yX3_take : MethodName := ⟨RX3, "take", "()V"⟩
abbrev cX3_takeNumber : ByteArray := prog_5_method_11_code
def yX3_takeNumber : MethodName := ⟨RX3, "takeNumber", "()V"⟩
abbrev cX3_isDigit : ByteArray := prog_5_method_12_code
def yX3_isDigit : MethodName := ⟨RX3, "isDigit", "(C)Z"⟩
abbrev cX3_isSign : ByteArray := prog_5_method_13_code
def yX3_isSign : MethodName := ⟨RX3, "isSign", "(C)Z"⟩
def RX4 : String := "DuskStones"
def TX4 : u_T := fun k => match k with
  | 0 => ("DuskStones", "text", "[C", true)
  | 1 => ("DuskStones", "letters", "I", false)
  | 2 => ("DuskStones", "reader", "LDuskStones$Reader;", true)
  | 3 => ("DuskStones", "land", "LDuskStones$Land;", false)
  | 4 => ("DuskStones", "draft", "LDuskStones$Land;", false)
  | 5 => ("DuskStones", "present", "LDuskStones$Moment;", true)
  | 6 => ("DuskStones", "trial", "LDuskStones$Moment;", true)
  | 7 => ("DuskStones", "past", "[LDuskStones$Moment;", true)
  | 8 => ("DuskStones", "pastCount", "I", false)
  | 9 => ("DuskStones", "images", "[LDuskStones$Moment;", true)
  | 10 => ("DuskStones", "kept", "[Z", true)
  | 11 => ("DuskStones", "seenHill", "[I", true)
  | 12 => ("DuskStones", "seenStep", "[I", true)
  | 13 => ("DuskStones", "seenCount", "I", false)
  | 14 => ("DuskStones", "climb", "LDuskStones$Climb;", true)
  | _ => ("DuskStones", "traceSum", "J", false)
def tyX4 : Nat → FieldType := fun k => match k with
  | 0 => .array .char
  | 1 => .int
  | 2 => .object "DuskStones$Reader"
  | 3 => .object "DuskStones$Land"
  | 4 => .object "DuskStones$Land"
  | 5 => .object "DuskStones$Moment"
  | 6 => .object "DuskStones$Moment"
  | 7 => .array (.object "DuskStones$Moment")
  | 8 => .int
  | 9 => .array (.object "DuskStones$Moment")
  | 10 => .array .boolean
  | 11 => .array .int
  | 12 => .array .int
  | 13 => .int
  | 14 => .object "DuskStones$Climb"
  | _ => .long
theorem nmX4 : ∀ a, a < 16 → ∀ b, b < 16 → a ≠ b → (TX4 a).2.1 ≠ (TX4 b).2.1 := by decide +kernel
theorem tyX4_ok : ∀ k, k < 16 → parseFieldDescriptor (TX4 k).2.2.1 = some (tyX4 k) := by decide +kernel
abbrev cX4_init : ByteArray := prog_1_method_1_code
def yX4_init : MethodName := ⟨RX4, "<init>", "()V"⟩
abbrev cX4_type : ByteArray := prog_1_method_2_code
def yX4_type : MethodName := ⟨RX4, "type", "(I)I"⟩
abbrev cX4_clear : ByteArray := prog_1_method_3_code
def yX4_clear : MethodName := ⟨RX4, "clear", "()I"⟩
abbrev cX4_hills : ByteArray := prog_1_method_4_code
def yX4_hills : MethodName := ⟨RX4, "hills", "()I"⟩
abbrev cX4_hill : ByteArray := prog_1_method_5_code
def yX4_hill : MethodName := ⟨RX4, "hill", "(II)I"⟩
abbrev cX4_stone : ByteArray := prog_1_method_6_code
def yX4_stone : MethodName := ⟨RX4, "stone", "(II)I"⟩
abbrev cX4_man : ByteArray := prog_1_method_7_code
def yX4_man : MethodName := ⟨RX4, "man", "(II)I"⟩
abbrev cX4_now : ByteArray := prog_1_method_8_code
def yX4_now : MethodName := ⟨RX4, "now", "(I)I"⟩
abbrev cX4_order : ByteArray := prog_1_method_9_code
def yX4_order : MethodName := ⟨RX4, "order", "(II)I"⟩
abbrev cX4_hour : ByteArray := prog_1_method_10_code
def yX4_hour : MethodName := ⟨RX4, "hour", "()I"⟩
abbrev cX4_undo : ByteArray := prog_1_method_11_code
def yX4_undo : MethodName := ⟨RX4, "undo", "()I"⟩
abbrev cX4_remember : ByteArray := prog_1_method_12_code
def yX4_remember : MethodName := ⟨RX4, "remember", "()V"⟩
abbrev cX4_highest : ByteArray := prog_1_method_13_code
def yX4_highest : MethodName := ⟨RX4, "highest", "(II)I"⟩
abbrev cX4_days : ByteArray := prog_1_method_14_code
def yX4_days : MethodName := ⟨RX4, "days", "(I)I"⟩
abbrev cX4_little : ByteArray := prog_1_method_15_code
def yX4_little : MethodName := ⟨RX4, "little", "(I)I"⟩
abbrev cX4_crew : ByteArray := prog_1_method_16_code
def yX4_crew : MethodName := ⟨RX4, "crew", "(I)I"⟩
abbrev cX4_blocks : ByteArray := prog_1_method_17_code
def yX4_blocks : MethodName := ⟨RX4, "blocks", "(I)I"⟩
abbrev cX4_allPush : ByteArray := prog_1_method_18_code
def yX4_allPush : MethodName := ⟨RX4, "allPush", "(I)V"⟩
abbrev cX4_written : ByteArray := prog_1_method_19_code
def yX4_written : MethodName := ⟨RX4, "written", "(II)I"⟩
abbrev cX4_saw : ByteArray := prog_1_method_20_code
def yX4_saw : MethodName := ⟨RX4, "saw", "(II)I"⟩
abbrev cX4_forget : ByteArray := prog_1_method_21_code
def yX4_forget : MethodName := ⟨RX4, "forget", "()I"⟩
abbrev cX4_evening : ByteArray := prog_1_method_22_code
def yX4_evening : MethodName := ⟨RX4, "evening", "()I"⟩
abbrev cX4_odds : ByteArray := prog_1_method_23_code
def yX4_odds : MethodName := ⟨RX4, "odds", "(IIII)J"⟩
abbrev cX4_wear : ByteArray := prog_1_method_24_code
def yX4_wear : MethodName := ⟨RX4, "wear", "(II)I"⟩
abbrev cX4_agrees : ByteArray := prog_1_method_25_code
def yX4_agrees : MethodName := ⟨RX4, "agrees", "(I)Z"⟩
abbrev cX4_rainWeight : ByteArray := prog_1_method_26_code
def yX4_rainWeight : MethodName := ⟨RX4, "rainWeight", "(III)J"⟩
abbrev cX4_isOverBehind : ByteArray := prog_1_method_27_code
def yX4_isOverBehind : MethodName := ⟨RX4, "isOverBehind", "(III)Z"⟩
abbrev cX4_power : ByteArray := prog_1_method_28_code
def yX4_power : MethodName := ⟨RX4, "power", "(II)J"⟩
abbrev cX4_commonDivisor : ByteArray := prog_1_method_29_code
def yX4_commonDivisor : MethodName := ⟨RX4, "commonDivisor", "(JJ)J"⟩
abbrev cX4_rate : ByteArray := prog_1_method_30_code
def yX4_rate : MethodName := ⟨RX4, "rate", "(II)I"⟩
abbrev cX4_keep : ByteArray := prog_1_method_31_code
def yX4_keep : MethodName := ⟨RX4, "keep", "(I)I"⟩
abbrev cX4_back : ByteArray := prog_1_method_32_code
def yX4_back : MethodName := ⟨RX4, "back", "(I)I"⟩
abbrev cX4_count : ByteArray := prog_1_method_33_code
def yX4_count : MethodName := ⟨RX4, "count", "(I)I"⟩
abbrev cX4_trace : ByteArray := prog_1_method_34_code
def yX4_trace : MethodName := ⟨RX4, "trace", "()J"⟩
abbrev cX4_rateAs : ByteArray := prog_1_method_35_code
def yX4_rateAs : MethodName := ⟨RX4, "rateAs", "(II)I"⟩
def RX5 : String := "DuskStonesModel"
def TX5 : u_T := fun k => match k with
  | 0 => ("DuskStonesModel", "w", "[I", true)
  | 1 => ("DuskStonesModel", "isKept", "[Z", true)
  | 2 => ("DuskStonesModel", "high", "[I", true)
  | 3 => ("DuskStonesModel", "slope", "[I", true)
  | 4 => ("DuskStonesModel", "ledges", "[I", true)
  | 5 => ("DuskStonesModel", "size", "[I", true)
  | 6 => ("DuskStonesModel", "joinOne", "[I", true)
  | 7 => ("DuskStonesModel", "joinTwo", "[I", true)
  | 8 => ("DuskStonesModel", "joinFrom", "[I", true)
  | 9 => ("DuskStonesModel", "force", "[I", true)
  | 10 => ("DuskStonesModel", "hills", "I", false)
  | 11 => ("DuskStonesModel", "joins", "I", false)
  | 12 => ("DuskStonesModel", "men", "I", false)
  | 13 => ("DuskStonesModel", "hours", "I", false)
  | 14 => ("DuskStonesModel", "rain", "I", false)
  | 15 => ("DuskStonesModel", "newHills", "I", false)
  | 16 => ("DuskStonesModel", "newJoins", "I", false)
  | 17 => ("DuskStonesModel", "newMen", "I", false)
  | 18 => ("DuskStonesModel", "newHours", "I", false)
  | 19 => ("DuskStonesModel", "newRain", "I", false)
  | 20 => ("DuskStonesModel", "told", "I", false)
  | 21 => ("DuskStonesModel", "text", "[I", true)
  | 22 => ("DuskStonesModel", "textSize", "I", false)
  | 23 => ("DuskStonesModel", "at", "I", false)
  | 24 => ("DuskStonesModel", "first", "I", false)
  | 25 => ("DuskStonesModel", "kind", "I", false)
  | 26 => ("DuskStonesModel", "number", "I", false)
  | 27 => ("DuskStonesModel", "faultAt", "I", false)
  | 28 => ("DuskStonesModel", "undoMany", "I", false)
  | 29 => ("DuskStonesModel", "sightHill", "[I", true)
  | 30 => ("DuskStonesModel", "sightStep", "[I", true)
  | 31 => ("DuskStonesModel", "sightMany", "I", false)
  | _ => ("DuskStonesModel", "trace", "J", false)
def tyX5 : Nat → FieldType := fun k => match k with
  | 0 => .array .int
  | 1 => .array .boolean
  | 2 => .array .int
  | 3 => .array .int
  | 4 => .array .int
  | 5 => .array .int
  | 6 => .array .int
  | 7 => .array .int
  | 8 => .array .int
  | 9 => .array .int
  | 10 => .int
  | 11 => .int
  | 12 => .int
  | 13 => .int
  | 14 => .int
  | 15 => .int
  | 16 => .int
  | 17 => .int
  | 18 => .int
  | 19 => .int
  | 20 => .int
  | 21 => .array .int
  | 22 => .int
  | 23 => .int
  | 24 => .int
  | 25 => .int
  | 26 => .int
  | 27 => .int
  | 28 => .int
  | 29 => .array .int
  | 30 => .array .int
  | 31 => .int
  | _ => .long
theorem nmX5 : ∀ a, a < 33 → ∀ b, b < 33 → a ≠ b → (TX5 a).2.1 ≠ (TX5 b).2.1 := by decide +kernel
theorem tyX5_ok : ∀ k, k < 33 → parseFieldDescriptor (TX5 k).2.2.1 = some (tyX5 k) := by decide +kernel
abbrev cX5_init : ByteArray := prog_7_method_1_code
def yX5_init : MethodName := ⟨RX5, "<init>", "()V"⟩
abbrev cX5_in : ByteArray := prog_7_method_3_code
def yX5_in : MethodName := ⟨RX5, "in", "(JJJ)Z"⟩
abbrev cX5_one : ByteArray := prog_7_method_4_code
def yX5_one : MethodName := ⟨RX5, "one", "(Z)I"⟩
abbrev cX5_has : ByteArray := prog_7_method_5_code
def yX5_has : MethodName := ⟨RX5, "has", "(II)Z"⟩
abbrev cX5_ones : ByteArray := prog_7_method_6_code
def yX5_ones : MethodName := ⟨RX5, "ones", "(I)I"⟩
abbrev cX5_type : ByteArray := prog_7_method_7_code
def yX5_type : MethodName := ⟨RX5, "type", "(I)I"⟩
abbrev cX5_clear : ByteArray := prog_7_method_8_code
def yX5_clear : MethodName := ⟨RX5, "clear", "()I"⟩
abbrev cX5_isFigure : ByteArray := prog_7_method_9_code
def yX5_isFigure : MethodName := ⟨RX5, "isFigure", "(I)Z"⟩
abbrev cX5_next : ByteArray := prog_7_method_10_code
def yX5_next : MethodName := ⟨RX5, "next", "()V"⟩
abbrev cX5_want : ByteArray := prog_7_method_11_code
def yX5_want : MethodName := ⟨RX5, "want", "(Z)Z"⟩
abbrev cX5_takeNumber : ByteArray := prog_7_method_12_code
def yX5_takeNumber : MethodName := ⟨RX5, "takeNumber", "(II)I"⟩
abbrev cX5_takeHill : ByteArray := prog_7_method_13_code
def yX5_takeHill : MethodName := ⟨RX5, "takeHill", "()V"⟩
abbrev cX5_takeJoin : ByteArray := prog_7_method_14_code
def yX5_takeJoin : MethodName := ⟨RX5, "takeJoin", "()V"⟩
abbrev cX5_takeItem : ByteArray := prog_7_method_15_code
def yX5_takeItem : MethodName := ⟨RX5, "takeItem", "()V"⟩
abbrev cX5_hills : ByteArray := prog_7_method_16_code
def yX5_hills : MethodName := ⟨RX5, "hills", "()I"⟩
abbrev cX5_begin : ByteArray := prog_7_method_17_code
def yX5_begin : MethodName := ⟨RX5, "begin", "()V"⟩
abbrev cX5_isHill : ByteArray := prog_7_method_18_code
def yX5_isHill : MethodName := ⟨RX5, "isHill", "(I)Z"⟩
abbrev cX5_isMan : ByteArray := prog_7_method_19_code
def yX5_isMan : MethodName := ⟨RX5, "isMan", "(I)Z"⟩
abbrev cX5_hill : ByteArray := prog_7_method_20_code
def yX5_hill : MethodName := ⟨RX5, "hill", "(II)I"⟩
abbrev cX5_sizeBy : ByteArray := prog_7_method_21_code
def yX5_sizeBy : MethodName := ⟨RX5, "sizeBy", "(II)I"⟩
abbrev cX5_sizeIn : ByteArray := prog_7_method_22_code
def yX5_sizeIn : MethodName := ⟨RX5, "sizeIn", "(II)I"⟩
abbrev cX5_isOver : ByteArray := prog_7_method_23_code
def yX5_isOver : MethodName := ⟨RX5, "isOver", "(II)Z"⟩
abbrev cX5_stone : ByteArray := prog_7_method_24_code
def yX5_stone : MethodName := ⟨RX5, "stone", "(II)I"⟩
abbrev cX5_man : ByteArray := prog_7_method_25_code
def yX5_man : MethodName := ⟨RX5, "man", "(II)I"⟩
abbrev cX5_over : ByteArray := prog_7_method_26_code
def yX5_over : MethodName := ⟨RX5, "over", "()I"⟩
abbrev cX5_now : ByteArray := prog_7_method_27_code
def yX5_now : MethodName := ⟨RX5, "now", "(I)I"⟩
abbrev cX5_blocksIn : ByteArray := prog_7_method_28_code
def yX5_blocksIn : MethodName := ⟨RX5, "blocksIn", "(III)I"⟩
abbrev cX5_copy : ByteArray := prog_7_method_29_code
def yX5_copy : MethodName := ⟨RX5, "copy", "(II)V"⟩
abbrev cX5_remember : ByteArray := prog_7_method_30_code
def yX5_remember : MethodName := ⟨RX5, "remember", "()V"⟩
abbrev cX5_order : ByteArray := prog_7_method_31_code
def yX5_order : MethodName := ⟨RX5, "order", "(II)I"⟩
abbrev cX5_pushOf : ByteArray := prog_7_method_32_code
def yX5_pushOf : MethodName := ⟨RX5, "pushOf", "(II)I"⟩
abbrev cX5_overIn : ByteArray := prog_7_method_33_code
def yX5_overIn : MethodName := ⟨RX5, "overIn", "(I)I"⟩
abbrev cX5_tire : ByteArray := prog_7_method_34_code
def yX5_tire : MethodName := ⟨RX5, "tire", "(II)V"⟩
abbrev cX5_push : ByteArray := prog_7_method_35_code
def yX5_push : MethodName := ⟨RX5, "push", "(I)I"⟩
abbrev cX5_dusk : ByteArray := prog_7_method_36_code
def yX5_dusk : MethodName := ⟨RX5, "dusk", "(IZ)V"⟩
abbrev cX5_rainsOn : ByteArray := prog_7_method_37_code
def yX5_rainsOn : MethodName := ⟨RX5, "rainsOn", "(I)Z"⟩
abbrev cX5_hour : ByteArray := prog_7_method_38_code
def yX5_hour : MethodName := ⟨RX5, "hour", "()I"⟩
abbrev cX5_undo : ByteArray := prog_7_method_39_code
def yX5_undo : MethodName := ⟨RX5, "undo", "()I"⟩
abbrev cX5_orderAll : ByteArray := prog_7_method_40_code
def yX5_orderAll : MethodName := ⟨RX5, "orderAll", "(III)V"⟩
abbrev cX5_stepBy : ByteArray := prog_7_method_41_code
def yX5_stepBy : MethodName := ⟨RX5, "stepBy", "(III)I"⟩
abbrev cX5_isCode : ByteArray := prog_7_method_42_code
def yX5_isCode : MethodName := ⟨RX5, "isCode", "(II)Z"⟩
abbrev cX5_highest : ByteArray := prog_7_method_43_code
def yX5_highest : MethodName := ⟨RX5, "highest", "(II)I"⟩
abbrev cX5_goToDusk : ByteArray := prog_7_method_44_code
def yX5_goToDusk : MethodName := ⟨RX5, "goToDusk", "(IZ)V"⟩
abbrev cX5_days : ByteArray := prog_7_method_45_code
def yX5_days : MethodName := ⟨RX5, "days", "(I)I"⟩
abbrev cX5_isOverBy : ByteArray := prog_7_method_46_code
def yX5_isOverBy : MethodName := ⟨RX5, "isOverBy", "(II)Z"⟩
abbrev cX5_little : ByteArray := prog_7_method_47_code
def yX5_little : MethodName := ⟨RX5, "little", "(I)I"⟩
abbrev cX5_crew : ByteArray := prog_7_method_48_code
def yX5_crew : MethodName := ⟨RX5, "crew", "(I)I"⟩
abbrev cX5_blocks : ByteArray := prog_7_method_49_code
def yX5_blocks : MethodName := ⟨RX5, "blocks", "(I)I"⟩
abbrev cX5_written : ByteArray := prog_7_method_50_code
def yX5_written : MethodName := ⟨RX5, "written", "(II)I"⟩
abbrev cX5_saw : ByteArray := prog_7_method_51_code
def yX5_saw : MethodName := ⟨RX5, "saw", "(II)I"⟩
abbrev cX5_forget : ByteArray := prog_7_method_52_code
def yX5_forget : MethodName := ⟨RX5, "forget", "()I"⟩
abbrev cX5_evening : ByteArray := prog_7_method_53_code
def yX5_evening : MethodName := ⟨RX5, "evening", "()I"⟩
abbrev cX5_common : ByteArray := prog_7_method_54_code
def yX5_common : MethodName := ⟨RX5, "common", "(JJ)J"⟩
abbrev cX5_odds : ByteArray := prog_7_method_55_code
def yX5_odds : MethodName := ⟨RX5, "odds", "(IIII)J"⟩
abbrev cX5_wear : ByteArray := prog_7_method_56_code
def yX5_wear : MethodName := ⟨RX5, "wear", "(II)I"⟩
abbrev cX5_stoneRate : ByteArray := prog_7_method_57_code
def yX5_stoneRate : MethodName := ⟨RX5, "stoneRate", "(I)I"⟩
abbrev cX5_roundRate : ByteArray := prog_7_method_58_code
def yX5_roundRate : MethodName := ⟨RX5, "roundRate", "(I)I"⟩
abbrev cX5_splitRate : ByteArray := prog_7_method_59_code
def yX5_splitRate : MethodName := ⟨RX5, "splitRate", "(I)I"⟩
abbrev cX5_wetRate : ByteArray := prog_7_method_60_code
def yX5_wetRate : MethodName := ⟨RX5, "wetRate", "(I)I"⟩
abbrev cX5_lentRate : ByteArray := prog_7_method_61_code
def yX5_lentRate : MethodName := ⟨RX5, "lentRate", "(I)I"⟩
abbrev cX5_hollowRate : ByteArray := prog_7_method_62_code
def yX5_hollowRate : MethodName := ⟨RX5, "hollowRate", "(I)I"⟩
abbrev cX5_rate : ByteArray := prog_7_method_63_code
def yX5_rate : MethodName := ⟨RX5, "rate", "(II)I"⟩
abbrev cX5_keep : ByteArray := prog_7_method_64_code
def yX5_keep : MethodName := ⟨RX5, "keep", "(I)I"⟩
abbrev cX5_back : ByteArray := prog_7_method_65_code
def yX5_back : MethodName := ⟨RX5, "back", "(I)I"⟩
abbrev cX5_count : ByteArray := prog_7_method_66_code
def yX5_count : MethodName := ⟨RX5, "count", "(I)I"⟩
abbrev cX5_trace : ByteArray := prog_7_method_67_code
def yX5_trace : MethodName := ⟨RX5, "trace", "()J"⟩
def RJ6 : String := "java/lang/Integer"
abbrev cJ6_bitCount_0f7a4 : ByteArray := prog_8_method_49_code
def yJ6_bitCount_0f7a4 : MethodName := ⟨RJ6, "bitCount", "(I)I"⟩
def RJ9 : String := "java/lang/Math"
abbrev cJ9_max_7cf53 : ByteArray := prog_9_method_65_code
def yJ9_max_7cf53 : MethodName := ⟨RJ9, "max", "(II)I"⟩
abbrev cJ9_min_7cf53 : ByteArray := prog_9_method_69_code
def yJ9_min_7cf53 : MethodName := ⟨RJ9, "min", "(II)I"⟩
def RJ10 : String := "java/lang/System"
def RL : String := "DuskStonesLaw"
abbrev cL_law : ByteArray := code
def yL_law : MethodName := ⟨RL, "law", "([I)Z"⟩
abbrev vwCl : List vw_C := [(RX0, TX0, 7), (RX1, TX1, 15), (RX2, TX2, 8), (RX3, TX3, 7), (RX4, TX4, 16), (RX5, TX5, 33)]
end
section
/-! ===== the words of the tables that every method carries ===== -/
def tb : List Cond := lw_tbl.filter goodWord
theorem tb_of {i : Nat} {w : Cond} (h : lw_tbl[i]? = some w) (hg : goodWord w = true) : w ∈ tb := List.mem_filter.mpr ⟨List.mem_of_getElem? h, hg⟩
theorem tb_lw {w : Cond} (h : w ∈ tb) : w ∈ lw_tbl := (List.mem_filter.mp h).1
theorem tb_good {ws : List Cond} (h : ∀ w ∈ ws, w ∈ tb) : GoodIn tb ws := fun w hw => ⟨h w hw, good_of_word (List.mem_filter.mp (h w hw)).2⟩
/-! ===== memory: ints, references (numbers of cells), longs, by cell and place ===== -/
abbrev MI : Type := Nat → Nat → Int32
abbrev MG : Type := Nat → Nat → Option Nat
abbrev MJ : Type := Nat → Nat → Int64
/-- a method: name, code, locals, return type, cells and slots that it makes -/
abbrev Mt : Type := MethodName × ByteArray × Nat × Option FieldType × Nat × Nat
/-- where a cell lies; the classes of arrays; classes and slots of objects; the base -/
abbrev Pk : Type := (Nat → Nat) × (Nat → ClassId) × va_G × Nat
/-- the cells in the order in which they are made: kind (0 to 5 the classes of vwCl, 6 int[], 7 char[], 8 boolean[], 9 Moment[], 10 int[][]) and length -/
def shL : List (Nat × Nat) := [(4, 16), (7, 200), (3, 7), (6, 4), (1, 15), (6, 4), (6, 4), (6, 4), (6, 4), (6, 4), (6, 4), (6, 4), (6, 3), (1, 15), (6, 4), (6, 4), (6, 4), (6, 4), (6, 4), (6, 4), (6, 4), (6, 3), (2, 8), (6, 4), (6, 4), (6, 3), (6, 3), (6, 20), (2, 8), (6, 4), (6, 4), (6, 3), (6, 3), (6, 20), (9, 10), (9, 2), (8, 2), (6, 6), (6, 6), (0, 7), (10, 7), (6, 3), (6, 3), (6, 3), (6, 3), (6, 3), (6, 3), (6, 3), (6, 6), (6, 6), (2, 8), (6, 4), (6, 4), (6, 3), (6, 3), (6, 20), (2, 8), (6, 4), (6, 4), (6, 3), (6, 3), (6, 20), (2, 8), (6, 4), (6, 4), (6, 3), (6, 3), (6, 20), (2, 8), (6, 4), (6, 4), (6, 3), (6, 3), (6, 20), (2, 8), (6, 4), (6, 4), (6, 3), (6, 3), (6, 20), (2, 8), (6, 4), (6, 4), (6, 3), (6, 3), (6, 20), (2, 8), (6, 4), (6, 4), (6, 3), (6, 3), (6, 20), (2, 8), (6, 4), (6, 4), (6, 3), (6, 3), (6, 20), (2, 8), (6, 4), (6, 4), (6, 3), (6, 3), (6, 20), (2, 8), (6, 4), (6, 4), (6, 3), (6, 3), (6, 20), (2, 8), (6, 4), (6, 4), (6, 3), (6, 3), (6, 20), (2, 8), (6, 4), (6, 4), (6, 3), (6, 3), (6, 20), (5, 33), (6, 1400), (8, 2), (6, 8), (6, 8), (6, 8), (6, 8), (6, 8), (6, 8), (6, 8), (6, 6), (6, 200), (6, 6), (6, 6)]
def shp (c : Nat) : Nat × Nat := shL.getD c (99, 0)
def pre (n : Nat) : Nat := ((shL.take n).map (fun q => q.2)).sum
def fkL : List (List Nat) := [[1, 1, 1, 0, 0, 0, 0], [0, 1, 1, 1, 1, 0, 1, 1, 1, 0, 1, 0, 0, 0, 0], [0, 0, 1, 1, 1, 1, 1, 0], [1, 1, 0, 0, 0, 0, 0], [1, 0, 1, 1, 1, 1, 1, 1, 0, 1, 1, 1, 1, 0, 1, 2], [1, 1, 1, 1, 1, 1, 1, 1, 1, 1, 0, 0, 0, 0, 0, 0, 0, 0, 0, 0, 0, 1, 0, 0, 0, 0, 0, 0, 0, 1, 1, 0, 2]]
def fkd (ci k : Nat) : Nat := (fkL.getD ci []).getD k 0
/-- the shape of a cell that has been made -/
def shn (n c : Nat) : Nat × Nat := if c < n then shp c else (99, 0)
theorem shn_lt {n c k z : Nat} (h : shn n c = (k, z)) (hk : k < 99) : c < n ∧ shp c = (k, z) := by
  unfold shn at h
  split at h
  · exact ⟨by assumption, h⟩
  · cases h; omega
def cvv (ad : Nat → Nat) (v : Value) : Value := match v with
  | .ref k => .ref (ad k)
  | w => w
theorem cvv_cat (ad : Nat → Nat) (v : Value) : (cvv ad v).category = v.category := by cases v <;> rfl
theorem cvv_rf (ad : Nat → Nat) (r : Option Nat) : va_rf (r.map ad) = cvv ad (va_rf r) := by cases r <;> rfl
def fval (ad : Nat → Nat) (I : MI) (G : MG) (J : MJ) (ci c k : Nat) : Value :=
  if fkd ci k = 0 then .int (I c k) else if fkd ci k = 1 then va_rf ((G c k).map ad) else .long (J c k)
def celE (K : Pk) (I : MI) (G : MG) (J : MJ) (c : Nat) : va_E :=
  if (shp c).1 < 6 then .inr ((shp c).1, (List.range (shp c).2).map (fval K.1 I G J (shp c).1 c))
  else if (shp c).1 < 9 then .inl (K.2.1 ((shp c).1 - 6), (shp c).2, .inl (I c))
  else .inl (K.2.1 ((shp c).1 - 6), (shp c).2, .inr (.inr (.inr (.inr (fun i => (G c i).map K.1)))))
def wsO (K : Pk) (n : Nat) (I : MI) (G : MG) (J : MJ) : va_W := (List.range n).map (fun c => (K.1 c, celE K I G J c))
def Aw (K : Pk) : Nat → Prop := fun q => K.2.2.2 ≤ q
def u2 {α : Type} (f : Nat → Nat → α) (c k : Nat) (v : α) : Nat → Nat → α := fun x y => if x = c ∧ y = k then v else f x y
theorem u2_at {α : Type} (f : Nat → Nat → α) (c k : Nat) (v : α) : u2 f c k v c k = v := if_pos ⟨rfl, rfl⟩
theorem u2_row {α : Type} (f : Nat → Nat → α) {c x : Nat} (k : Nat) (v : α) (h : x ≠ c) : u2 f c k v x = f x := funext fun y => if_neg fun q => h q.1
theorem u2_ne {α : Type} (f : Nat → Nat → α) {c k x y : Nat} (v : α) (h : ¬ (x = c ∧ y = k)) : u2 f c k v x y = f x y := if_neg h
theorem u2_upd (f : MI) (c k : Nat) (v : Int32) : u2 f c k v c = upd (f c) k v := funext fun y => by simp [u2, upd]
theorem u2_up {α : Type} (f : Nat → Nat → α) (c k : Nat) (v : α) : u2 f c k v c = va_up (f c) k v := funext fun y => by simp [u2, va_up]
/-- row c replaced -/
def ur {α : Type} (f : Nat → Nat → α) (c : Nat) (r : Nat → α) : Nat → Nat → α := fun x => if x = c then r else f x
theorem ur_at {α : Type} (f : Nat → Nat → α) (c : Nat) (r : Nat → α) : ur f c r c = r := if_pos rfl
theorem ur_ne {α : Type} (f : Nat → Nat → α) {c x : Nat} (r : Nat → α) (h : x ≠ c) : ur f c r x = f x := if_neg h
theorem celE_congr {K : Pk} {I I' : MI} {G G' : MG} {J J' : MJ} {x : Nat} (h1 : I' x = I x) (h2 : G' x = G x) (h3 : J' x = J x) : celE K I' G' J' x = celE K I G J x := by
  unfold celE fval
  rw [h1, h2, h3]
theorem wsO_at {K : Pk} {n c : Nat} {I : MI} {G : MG} {J : MJ} (h : c < n) : (wsO K n I G J)[c]? = some (K.1 c, celE K I G J c) := by
  simp [wsO, h]
theorem wsO_set {K : Pk} {n c : Nat} {I I' : MI} {G G' : MG} {J J' : MJ} (h : c < n) (h1 : ∀ x, x ≠ c → I' x = I x) (h2 : ∀ x, x ≠ c → G' x = G x) (h3 : ∀ x, x ≠ c → J' x = J x) : (wsO K n I G J).set c (K.1 c, celE K I' G' J' c) = wsO K n I' G' J' := by
  apply List.ext_getElem?
  intro i
  by_cases hi : i = c
  · subst hi
    rw [List.getElem?_set_self (by simp [wsO, h]), wsO_at h]
  · rw [List.getElem?_set_ne (Ne.symm hi)]
    by_cases hl : i < n
    · rw [wsO_at hl, wsO_at hl, celE_congr (h1 i hi) (h2 i hi) (h3 i hi)]
    · rw [List.getElem?_eq_none (by simp [wsO]; omega), List.getElem?_eq_none (by simp [wsO]; omega)]
theorem wsO_succ {K : Pk} {n : Nat} {I I' : MI} {G G' : MG} {J J' : MJ} {e : va_E} (h1 : ∀ x, x < n → I' x = I x) (h2 : ∀ x, x < n → G' x = G x) (h3 : ∀ x, x < n → J' x = J x) (he : celE K I' G' J' n = e) : wsO K n I G J ++ [(K.1 n, e)] = wsO K (n + 1) I' G' J' := by
  subst he
  unfold wsO
  rw [List.range_succ, List.map_append]
  congr 1
  apply List.map_congr_left
  intro x hx
  have hx := List.mem_range.mp hx
  rw [celE_congr (h1 x hx) (h2 x hx) (h3 x hx)]
def Had (K : Pk) : Prop := ∀ k, k < 1000 → K.1 k = K.2.2.2 + k
theorem wsO_D {K : Pk} {n : Nat} {I : MI} {G : MG} {J : MJ} (h : Had K) (hn : n ≤ 1000) : va_D (Aw K) (wsO K n I G J) := by
  have key : ∀ (k : Nat) (q : Nat × va_E), (wsO K n I G J)[k]? = some q → k < n ∧ q.1 = K.2.2.2 + k := by
    intro k q hk
    have hl : k < n := by
      have := (List.getElem?_eq_some_iff.mp hk).1
      simpa [wsO] using this
    rw [wsO_at hl] at hk
    cases hk
    exact ⟨hl, h k (by omega)⟩
  refine ⟨fun i j p q hi hj e => ?_, fun k q hk => ?_⟩
  · have h1 := key i p hi
    have h2 := key j q hj
    omega
  · have h1 := key k q hk
    unfold Aw
    omega
/-- the heap holds the first n cells, and nothing behind them -/
def Iw (K : Pk) (n : Nat) (I : MI) (G : MG) (J : MJ) (H : Heap) : Prop := va_P K.2.2.1 vwCl (wsO K n I G J) H ∧ H.size = K.2.2.2 + n ∧ n ≤ 1000
/-- the script (1000) and the four static rows (1001 ..): ints that nobody writes; their lengths stand in G -/
def oul (G : MG) (c : Nat) : Nat := (G c 0).getD 0
def Ou0 (K : Pk) (B : MI × MG) (s : State) : Prop :=
  (∀ c, 1000 ≤ c → c < 1005 → va_X (K.1 c) (oul B.2 c) (B.1 c) s s.heap ∧ K.1 c < K.2.2.2) ∧
  va_Z "DuskStones" "KIND_ABOVE" "[I" (.ref (K.1 1001)) (Aw K) s s.heap ∧ va_Z "DuskStones" "KIND_TRACE" "[I" (.ref (K.1 1002)) (Aw K) s s.heap ∧
  va_Z "DuskStones$Reader" "HILL_LEAST" "[I" (.ref (K.1 1003)) (Aw K) s s.heap ∧ va_Z "DuskStones$Reader" "HILL_MOST" "[I" (.ref (K.1 1004)) (Aw K) s s.heap
/-- .. as at the method's start (B) -/
def Out (K : Pk) (B : MI × MG) (I : MI) (G : MG) (s : State) : Prop := Ou0 K B s ∧ ∀ x, 1000 ≤ x → I x = B.1 x ∧ G x = B.2 x
theorem Out.mem {K : Pk} {B : MI × MG} {I I' : MI} {G G' : MG} {s : State} (h : Out K B I G s) (h1 : ∀ x, 1000 ≤ x → I' x = I x) (h2 : ∀ x, 1000 ≤ x → G' x = G x) : Out K B I' G' s :=
  ⟨h.1, fun x hx => ⟨(h1 x hx).trans (h.2 x hx).1, (h2 x hx).trans (h.2 x hx).2⟩⟩
theorem Out.cell {K : Pk} {B : MI × MG} {I : MI} {G : MG} {s : State} (h : Out K B I G s) (c : Nat) (h1 : 1000 ≤ c) (h2 : c < 1005) : va_X (K.1 c) (oul G c) (I c) s s.heap ∧ K.1 c < K.2.2.2 := by
  have q := h.1.1 c h1 h2
  obtain ⟨e1, e2⟩ := h.2 c h1
  unfold oul at q ⊢
  rw [e1, e2]
  exact q
theorem Out.move {K : Pk} {B : MI × MG} {I : MI} {G : MG} {s U : State} (h : Out K B I G s) (hvm : s.vm.Alike U.vm) (hq : ∀ a : Nat, a < K.2.2.2 → U.heap[a]? = s.heap[a]?) : Out K (I, G) I G U := by
  have hz : ∀ a : Nat, a < s.heap.size → ¬ Aw K a → U.heap[a]? = s.heap[a]? := fun a _ h2 => hq a (Nat.not_le.mp h2)
  obtain ⟨-, z1, z2, z3, z4⟩ := h.1
  refine ⟨⟨fun c a b => ?_, (z1.kept hz).moved hvm, (z2.kept hz).moved hvm, (z3.kept hz).moved hvm, (z4.kept hz).moved hvm⟩, fun _ _ => ⟨rfl, rfl⟩⟩
  have q := h.cell c a b
  exact ⟨(q.1.kept (hq _ q.2)).moved hvm, q.2⟩
def tyK (K : Pk) : List (ClassId × FieldType) := [(K.2.1 0, .int), (K.2.1 1, .char), (K.2.1 2, .boolean), (K.2.1 3, .object RX2), (K.2.1 4, .array .int)]
/-- words that don't ride with the others -/
def Xw (s : State) : Prop := va_Nw (.methodLinkNest RX4 24 yX1_init RX4) s ∧ va_Nw (.methodLinkNest RX4 34 yX2_init RX4) s ∧ va_Nw (.methodLinkNest RX4 62 yX0_init RX4) s ∧ (Cond.arrayOver (.object RX2)).before #[] s = true ∧ (Cond.arrayOver (.array .int)).before #[] s = true
def Cx (K : Pk) (M : Mt) (p : Program) (s : State) (m : MethodId) (args : Array Value) (meth : Method) (c : Code) : Prop :=
  CallFix p m c M.2.1 M.2.2.1 s args tb M.1.cls ∧ meth.sig.returnType = M.2.2.2.1 ∧ meth.locks = false ∧ meth.name = M.1.name ∧ va_K K.2.2.1 vwCl (tyK K) s ∧ Xw s ∧ Had K
def Rk (d : Nat) (M : Mt) (R : Room) : Prop := d ≤ R.frames ∧ d * 64 ≤ R.locals ∧ M.2.2.2.2.1 ≤ R.cells ∧ M.2.2.2.2.2 ≤ R.slots
/-- the locals: what the list knows, the frame holds -/
def Lv (ad : Nat → Nat) (N : Nat) (ls : List (Option Value)) (a : Array Slot) : Prop := ∃ l, lv_has a N l ∧ ls.length = N ∧ ∀ (k : Nat) (v : Value), ls[k]? = some (some v) → (k, cvv ad v) ∈ l
def RetAt (M : Mt) (pc : Nat) (r : Option Value) : Prop :=
  (∃ v : Int32, r = some (.int v) ∧ decode M.2.1 pc = .ok (.ireturn, 1) ∧ (M.2.2.2.1 = some .int ∨ (M.2.2.2.1 = some .boolean ∧ narrow .boolean (.int v) = .int v))) ∨
  (∃ v : Int64, r = some (.long v) ∧ decode M.2.1 pc = .ok (.lreturn, 1) ∧ M.2.2.2.1 = some .long) ∨ (r = none ∧ decode M.2.1 pc = .ok (.return_, 1) ∧ M.2.2.2.1 = none)
abbrev Ph : Type := Option Value → Nat → MI → MG → MJ → Prop
def Rt (K : Pk) (B : MI × MG) (M : Mt) (n0 : Nat) (Φ : Ph) (p : Program) (l : Launch) (e : Env) (R : Room) (s : State) (m : MethodId) (args : Array Value) (below : List Frame) (meth : Method) (c : Code) (Q : State → Prop) : Prop :=
  ∀ (r : Option Value) (n1 : Nat) (I1 : MI) (G1 : MG) (J1 : MJ) (H1 : Heap) (locs1 : List Loc) (pc1 : Nat) (a1 : Array Slot), Φ r n1 I1 G1 J1 → Iw K n1 I1 G1 J1 H1 → Out K B I1 G1 s → va_S (Aw K) s.heap H1 locs1 → RetAt M pc1 r → n1 = n0 + M.2.2.2.2.1 → pre n1 = pre n0 + M.2.2.2.2.2 →
    W p l e R s m args below meth c H1 locs1 M.2.2.2.2.1 M.2.2.2.2.2 Q (F0 m pc1 a1 (r.toList.map (cvv K.1)))
/-- THE JUDGEMENT: at depth d, in method M that was entered with n0 cells, from pc, locals, stack and memory on the machine comes to the method's end, and there Φ holds of answer and memory -/
def Ev (d : Nat) (M : Mt) (n0 pc : Nat) (ls : List (Option Value)) (st : List Value) (n : Nat) (I : MI) (G : MG) (J : MJ) (Φ : Ph) : Prop :=
  ∀ (K : Pk) (B : MI × MG) (p : Program) (l : Launch) (e : Env) (R : Room) (s : State) (m : MethodId) (args : Array Value) (below : List Frame) (meth : Method) (c : Code) (H : Heap) (locs : List Loc) (Q : State → Prop) (a : Array Slot),
    Cx K M p s m args meth c → Rk d M R → s.heap.size = K.2.2.2 + n0 → Iw K n I G J H → Out K B I G s → va_S (Aw K) s.heap H locs → Lv K.1 M.2.2.1 ls a → Rt K B M n0 Φ p l e R s m args below meth c Q →
    W p l e R s m args below meth c H locs (n - n0) (pre n - pre n0) Q (F0 m pc a (st.map (cvv K.1)))
theorem Ev.mono {d d' : Nat} {M : Mt} {n0 pc : Nat} {ls : List (Option Value)} {st : List Value} {n : Nat} {I : MI} {G : MG} {J : MJ} {Φ : Ph} (h : d ≤ d') (k : Ev d M n0 pc ls st n I G J Φ) : Ev d' M n0 pc ls st n I G J Φ :=
  fun K B p l e R s m args below meth c H locs Q a hC hR => k K B p l e R s m args below meth c H locs Q a hC ⟨Nat.le_trans h hR.1, Nat.le_trans (Nat.mul_le_mul_right 64 h) hR.2.1, hR.2.2⟩
theorem Ev.post {d : Nat} {M : Mt} {n0 pc : Nat} {ls : List (Option Value)} {st : List Value} {n : Nat} {I : MI} {G : MG} {J : MJ} {Φ Ψ : Ph} (h : ∀ r n I G J, Φ r n I G J → Ψ r n I G J) (k : Ev d M n0 pc ls st n I G J Φ) : Ev d M n0 pc ls st n I G J Ψ :=
  fun K B p l e R s m args below meth c H locs Q a hC hR h0 hI hO hS hL hQ => k K B p l e R s m args below meth c H locs Q a hC hR h0 hI hO hS hL (fun r n1 I1 G1 J1 H1 l1 pc1 a1 q => hQ r n1 I1 G1 J1 H1 l1 pc1 a1 (h _ _ _ _ _ q))
/-- a step that only the stack and the pc feel -/
theorem Ev.of {d : Nat} {M : Mt} {n0 pc pc' : Nat} {ls : List (Option Value)} {st st' : List Value} {n : Nat} {I : MI} {G : MG} {J : MJ} {Φ : Ph}
    (h : ∀ (K : Pk) (B : MI × MG) (p : Program) (l : Launch) (e : Env) (R : Room) (s : State) (m : MethodId) (args : Array Value) (below : List Frame) (meth : Method) (c : Code) (H : Heap) (locs : List Loc) (cells slots : Nat) (Q : State → Prop) (a : Array Slot), Cx K M p s m args meth c → Lv K.1 M.2.2.1 ls a → W p l e R s m args below meth c H locs cells slots Q (F0 m pc' a (st'.map (cvv K.1))) → W p l e R s m args below meth c H locs cells slots Q (F0 m pc a (st.map (cvv K.1))))
    (k : Ev d M n0 pc' ls st' n I G J Φ) : Ev d M n0 pc ls st n I G J Φ :=
  fun K B p l e R s m args below meth c H locs Q a hC hR h0 hI hO hS hL hQ => h K B p l e R s m args below meth c H locs _ _ Q a hC hL (k K B p l e R s m args below meth c H locs Q a hC hR h0 hI hO hS hL hQ)
theorem Lv.at {ad : Nat → Nat} {N : Nat} {ls : List (Option Value)} {a : Array Slot} (h : Lv ad N ls a) {k : Nat} {v : Value} (hk : ls[k]? = some (some v)) : a[k]? = some (.val (cvv ad v)) := by
  obtain ⟨l, h1, -, h2⟩ := h
  exact h1.2.2 _ (h2 k v hk)
/-- what a store of one word leaves of the locals -/
def sto (ls : List (Option Value)) (i : Nat) (v : Value) : List (Option Value) := (match i with
  | 0 => ls
  | j + 1 => match ls.getD j none with
    | some w => if w.category = 2 then ls.set j none else ls
    | none => ls).set i (some v)
def sto2 (ls : List (Option Value)) (i : Nat) (v : Value) : List (Option Value) := (sto ls i v).set (i + 1) none
theorem sto_len (ls : List (Option Value)) (i : Nat) (v : Value) : (sto ls i v).length = ls.length := by
  unfold sto
  split
  · simp
  · split
    · split <;> simp
    · simp
theorem sto_get {ls : List (Option Value)} {i k : Nat} {v w : Value} (h : (sto ls i v)[k]? = some (some w)) : (k = i ∧ w = v) ∨ (k ≠ i ∧ ls[k]? = some (some w) ∧ ¬ (k + 1 = i ∧ w.category = 2)) := by
  by_cases hk : k = i
  · subst hk
    refine Or.inl ⟨rfl, ?_⟩
    unfold sto at h
    have hl := (List.getElem?_eq_some_iff.mp h).1
    rw [List.length_set] at hl
    rw [List.getElem?_set_self hl] at h
    cases h
    rfl
  · refine Or.inr ⟨hk, ?_⟩
    unfold sto at h
    rw [List.getElem?_set_ne (Ne.symm hk)] at h
    cases i with
    | zero => exact ⟨h, fun q => by omega⟩
    | succ j =>
      dsimp only at h
      cases hj : ls.getD j none with
      | none =>
        rw [hj] at h
        refine ⟨h, fun q => ?_⟩
        have e : k = j := by omega
        subst e
        rw [List.getD_eq_getElem?_getD, h] at hj
        cases hj
      | some u =>
        rw [hj] at h
        dsimp only at h
        by_cases hu : u.category = 2
        · rw [if_pos hu] at h
          by_cases e : k = j
          · subst e
            have hl := (List.getElem?_eq_some_iff.mp h).1
            rw [List.length_set] at hl
            rw [List.getElem?_set_self hl] at h
            cases h
          · rw [List.getElem?_set_ne (Ne.symm e)] at h
            exact ⟨h, fun q => by omega⟩
        · rw [if_neg hu] at h
          refine ⟨h, fun q => ?_⟩
          have e : k = j := by omega
          subst e
          rw [List.getD_eq_getElem?_getD, h] at hj
          cases hj
          exact hu q.2
/-- a step that stores into a local -/
theorem Lv_sto {ad : Nat → Nat} {N i : Nat} {ls : List (Option Value)} {a : Array Slot} {v : Value} {l : List (Nat × Value)} (hl : ls.length = N) (h2 : ∀ (k : Nat) (v : Value), ls[k]? = some (some v) → (k, cvv ad v) ∈ l)
    (h : lv_has a N ((i, cvv ad v) :: l.filter (fun q => !(q.1 == i) && !(q.1 + 1 == i && q.2.category == 2)))) : Lv ad N (sto ls i v) a := by
  refine ⟨_, h, (sto_len ls i v).trans hl, fun k w hk => ?_⟩
  rcases sto_get hk with ⟨rfl, rfl⟩ | ⟨q1, q2, q3⟩
  · exact List.mem_cons_self
  · refine List.mem_cons_of_mem _ (List.mem_filter.mpr ⟨h2 k w q2, ?_⟩)
    simp only [cvv_cat, Bool.and_eq_true, Bool.not_eq_true', beq_eq_false_iff_ne, ne_eq, Bool.and_eq_false_iff]
    refine ⟨q1, ?_⟩
    by_cases e : k + 1 = i
    · exact Or.inr (fun z => q3 ⟨e, z⟩)
    · exact Or.inl e
theorem Lv_sto2 {ad : Nat → Nat} {N i : Nat} {ls : List (Option Value)} {a : Array Slot} {v : Value} {l : List (Nat × Value)} (hl : ls.length = N) (h2 : ∀ (k : Nat) (v : Value), ls[k]? = some (some v) → (k, cvv ad v) ∈ l)
    (h : lv_has a N ((i, cvv ad v) :: l.filter (fun q => !(q.1 == i) && (!(q.1 == i + 1) && !(q.1 + 1 == i && q.2.category == 2))))) : Lv ad N (sto2 ls i v) a := by
  refine ⟨_, h, by unfold sto2; rw [List.length_set, sto_len, hl], fun k w hk => ?_⟩
  unfold sto2 at hk
  have hne : k ≠ i + 1 := by
    intro e
    subst e
    have hl2 := (List.getElem?_eq_some_iff.mp hk).1
    rw [List.length_set] at hl2
    rw [List.getElem?_set_self hl2] at hk
    cases hk
  rw [List.getElem?_set_ne (Ne.symm hne)] at hk
  rcases sto_get hk with ⟨rfl, rfl⟩ | ⟨q1, q2, q3⟩
  · exact List.mem_cons_self
  · refine List.mem_cons_of_mem _ (List.mem_filter.mpr ⟨h2 k w q2, ?_⟩)
    simp only [cvv_cat, Bool.and_eq_true, Bool.not_eq_true', beq_eq_false_iff_ne, ne_eq, Bool.and_eq_false_iff]
    refine ⟨q1, hne, ?_⟩
    by_cases e : k + 1 = i
    · exact Or.inr (fun z => q3 ⟨e, z⟩)
    · exact Or.inl e
end
section
section RULES
variable {d : Nat} {M : Mt} {n0 pc : Nat} {ls : List (Option Value)} {st : List Value} {n : Nat} {I : MI} {G : MG} {J : MJ} {Φ : Ph}
theorem E_iconst {z : Int} (v : Int32) (hd : decode M.2.1 pc = .ok (.iconst z, 1)) (hv : Int32.ofInt z = v) (k : Ev d M n0 (pc + 1) ls (.int v :: st) n I G J Φ) : Ev d M n0 (pc) ls (st) n I G J Φ :=
  Ev.of (fun K B p l e R s m args below meth c H locs cells slots Q a hC hL k => lv_iconst (v := v) hC.1.1 hC.1.2.1 hd hv k) k
theorem E_bipush {z : Int} (v : Int32) (hd : decode M.2.1 pc = .ok (.bipush z, 2)) (hv : (Int8.ofInt z).toInt32 = v) (k : Ev d M n0 (pc + 2) ls (.int v :: st) n I G J Φ) : Ev d M n0 (pc) ls (st) n I G J Φ :=
  Ev.of (fun K B p l e R s m args below meth c H locs cells slots Q a hC hL k => lv_bipush (v := v) hC.1.1 hC.1.2.1 hd hv k) k
theorem E_sipush {z : Int} (v : Int32) (hd : decode M.2.1 pc = .ok (.sipush z, 3)) (hv : (Int16.ofInt z).toInt32 = v) (k : Ev d M n0 (pc + 3) ls (.int v :: st) n I G J Φ) : Ev d M n0 (pc) ls (st) n I G J Φ :=
  Ev.of (fun K B p l e R s m args below meth c H locs cells slots Q a hC hL k => lv_sipush (v := v) hC.1.1 hC.1.2.1 hd hv k) k
theorem E_lconst {z : Fin 2} (v : Int64) (hd : decode M.2.1 pc = .ok (.lconst z, 1)) (hv : Int64.ofNat (z : Nat) = v) (k : Ev d M n0 (pc + 1) ls (.long v :: st) n I G J Φ) : Ev d M n0 (pc) ls (st) n I G J Φ :=
  Ev.of (fun K B p l e R s m args below meth c H locs cells slots Q a hC hL k => lv_lconst (v := v) hC.1.1 hC.1.2.1 hd hv k) k
theorem E_ldc {ix : Nat} (v : Int32) (hd : decode M.2.1 pc = .ok (.ldc ix, 2)) (hw : Cond.constant M.1.cls ix v ∈ tb) (k : Ev d M n0 (pc + 2) ls (.int v :: st) n I G J Φ) : Ev d M n0 (pc) ls (st) n I G J Φ :=
  Ev.of (fun K B p l e R s m args below meth c H locs cells slots Q a hC hL k => lv_ldc hC.1.1 hC.1.2.1 hC.1.2.2.2.1 (hC.1.2.2.2.2 _ hw) hd k) k
theorem E_ldcw {ix : Nat} (v : Int32) (hd : decode M.2.1 pc = .ok (.ldc_w ix, 3)) (hw : Cond.constant M.1.cls ix v ∈ tb) (k : Ev d M n0 (pc + 3) ls (.int v :: st) n I G J Φ) : Ev d M n0 (pc) ls (st) n I G J Φ :=
  Ev.of (fun K B p l e R s m args below meth c H locs cells slots Q a hC hL k => lv_ldcw hC.1.1 hC.1.2.1 hC.1.2.2.2.1 (hC.1.2.2.2.2 _ hw) hd k) k
theorem E_ldc2 {ix : Nat} (v : Int64) (hd : decode M.2.1 pc = .ok (.ldc2_w ix, 3)) (hw : Cond.constantLong M.1.cls ix v ∈ tb) (k : Ev d M n0 (pc + 3) ls (.long v :: st) n I G J Φ) : Ev d M n0 (pc) ls (st) n I G J Φ :=
  Ev.of (fun K B p l e R s m args below meth c H locs cells slots Q a hC hL k => lv_ldc2 hC.1.1 hC.1.2.1 hC.1.2.2.2.1 (hC.1.2.2.2.2 _ hw) hd k) k
theorem E_iload_n {q : Fin 4} (i : Nat) {x : Int32} (hd : decode M.2.1 pc = .ok (.iload_n q, 1)) (hi : (q : Nat) = i) (hl : ls[i]? = some (some (.int x))) (k : Ev d M n0 (pc + 1) ls (.int x :: st) n I G J Φ) : Ev d M n0 (pc) ls (st) n I G J Φ :=
  Ev.of (fun K B p l e R s m args below meth c H locs cells slots Q a hC hL k => lv_iload_n hC.1.1 hC.1.2.1 hd hi (hL.at hl) k) k
theorem E_iload {i : Nat} {x : Int32} (hd : decode M.2.1 pc = .ok (.iload i, 2)) (hl : ls[i]? = some (some (.int x))) (k : Ev d M n0 (pc + 2) ls (.int x :: st) n I G J Φ) : Ev d M n0 (pc) ls (st) n I G J Φ :=
  Ev.of (fun K B p l e R s m args below meth c H locs cells slots Q a hC hL k => lv_iload hC.1.1 hC.1.2.1 hd (hL.at hl) k) k
theorem E_istore_n {q : Fin 4} (i : Nat) {x : Int32} (hd : decode M.2.1 pc = .ok (.istore_n q, 1)) (hi : (q : Nat) = i) (hn : i < M.2.2.1) (k : Ev d M n0 (pc + 1) (sto ls i (.int x)) (st) n I G J Φ) : Ev d M n0 (pc) ls (.int x :: st) n I G J Φ := by
  intro K B p l e R s m args below meth c H locs Q a hC hR h0 hI hO hS hL hQ
  obtain ⟨lx, h1, h2, h3⟩ := hL
  refine lv_istore_n hC.1.1 hC.1.2.1 hd hi h1 hn rfl (fun a2 hl2 => ?_)
  exact k K B p l e R s m args below meth c H locs Q a2 hC hR h0 hI hO hS (Lv_sto (v := .int x) h2 h3 hl2) hQ
theorem E_istore {i : Nat} {x : Int32} (hd : decode M.2.1 pc = .ok (.istore i, 2)) (hn : i < M.2.2.1) (k : Ev d M n0 (pc + 2) (sto ls i (.int x)) (st) n I G J Φ) : Ev d M n0 (pc) ls (.int x :: st) n I G J Φ := by
  intro K B p l e R s m args below meth c H locs Q a hC hR h0 hI hO hS hL hQ
  obtain ⟨lx, h1, h2, h3⟩ := hL
  refine lv_istore hC.1.1 hC.1.2.1 hd h1 hn rfl (fun a2 hl2 => ?_)
  exact k K B p l e R s m args below meth c H locs Q a2 hC hR h0 hI hO hS (Lv_sto (v := .int x) h2 h3 hl2) hQ
theorem E_lload_n {q : Fin 4} (i : Nat) {x : Int64} (hd : decode M.2.1 pc = .ok (.lload_n q, 1)) (hi : (q : Nat) = i) (hl : ls[i]? = some (some (.long x))) (k : Ev d M n0 (pc + 1) ls (.long x :: st) n I G J Φ) : Ev d M n0 (pc) ls (st) n I G J Φ :=
  Ev.of (fun K B p l e R s m args below meth c H locs cells slots Q a hC hL k => lv_lload_n hC.1.1 hC.1.2.1 hd hi (hL.at hl) k) k
theorem E_lload {i : Nat} {x : Int64} (hd : decode M.2.1 pc = .ok (.lload i, 2)) (hl : ls[i]? = some (some (.long x))) (k : Ev d M n0 (pc + 2) ls (.long x :: st) n I G J Φ) : Ev d M n0 (pc) ls (st) n I G J Φ :=
  Ev.of (fun K B p l e R s m args below meth c H locs cells slots Q a hC hL k => lv_lload hC.1.1 hC.1.2.1 hd (hL.at hl) k) k
theorem E_lstore_n {q : Fin 4} (i : Nat) {x : Int64} (hd : decode M.2.1 pc = .ok (.lstore_n q, 1)) (hi : (q : Nat) = i) (hn : i + 1 < M.2.2.1) (k : Ev d M n0 (pc + 1) (sto2 ls i (.long x)) (st) n I G J Φ) : Ev d M n0 (pc) ls (.long x :: st) n I G J Φ := by
  intro K B p l e R s m args below meth c H locs Q a hC hR h0 hI hO hS hL hQ
  obtain ⟨lx, h1, h2, h3⟩ := hL
  refine lv_lstore_n hC.1.1 hC.1.2.1 hd hi h1 hn rfl (fun a2 hl2 => ?_)
  exact k K B p l e R s m args below meth c H locs Q a2 hC hR h0 hI hO hS (Lv_sto2 (v := .long x) h2 h3 hl2) hQ
theorem E_lstore {i : Nat} {x : Int64} (hd : decode M.2.1 pc = .ok (.lstore i, 2)) (hn : i + 1 < M.2.2.1) (k : Ev d M n0 (pc + 2) (sto2 ls i (.long x)) (st) n I G J Φ) : Ev d M n0 (pc) ls (.long x :: st) n I G J Φ := by
  intro K B p l e R s m args below meth c H locs Q a hC hR h0 hI hO hS hL hQ
  obtain ⟨lx, h1, h2, h3⟩ := hL
  refine lv_lstore hC.1.1 hC.1.2.1 hd h1 hn rfl (fun a2 hl2 => ?_)
  exact k K B p l e R s m args below meth c H locs Q a2 hC hR h0 hI hO hS (Lv_sto2 (v := .long x) h2 h3 hl2) hQ
theorem E_aload_n {q : Fin 4} (i : Nat) {x : Nat} (hd : decode M.2.1 pc = .ok (.aload_n q, 1)) (hi : (q : Nat) = i) (hl : ls[i]? = some (some (.ref x))) (k : Ev d M n0 (pc + 1) ls (.ref x :: st) n I G J Φ) : Ev d M n0 (pc) ls (st) n I G J Φ :=
  Ev.of (fun K B p l e R s m args below meth c H locs cells slots Q a hC hL k => lv_aload_n hC.1.1 hC.1.2.1 hd hi (hL.at hl) k) k
theorem E_aload {i : Nat} {x : Nat} (hd : decode M.2.1 pc = .ok (.aload i, 2)) (hl : ls[i]? = some (some (.ref x))) (k : Ev d M n0 (pc + 2) ls (.ref x :: st) n I G J Φ) : Ev d M n0 (pc) ls (st) n I G J Φ :=
  Ev.of (fun K B p l e R s m args below meth c H locs cells slots Q a hC hL k => lv_aload hC.1.1 hC.1.2.1 hd (hL.at hl) k) k
theorem E_astore_n {q : Fin 4} (i : Nat) {x : Nat} (hd : decode M.2.1 pc = .ok (.astore_n q, 1)) (hi : (q : Nat) = i) (hn : i < M.2.2.1) (k : Ev d M n0 (pc + 1) (sto ls i (.ref x)) (st) n I G J Φ) : Ev d M n0 (pc) ls (.ref x :: st) n I G J Φ := by
  intro K B p l e R s m args below meth c H locs Q a hC hR h0 hI hO hS hL hQ
  obtain ⟨lx, h1, h2, h3⟩ := hL
  refine lv_astore_n hC.1.1 hC.1.2.1 hd hi h1 hn rfl (fun a2 hl2 => ?_)
  exact k K B p l e R s m args below meth c H locs Q a2 hC hR h0 hI hO hS (Lv_sto (v := .ref x) h2 h3 hl2) hQ
theorem E_astore {i : Nat} {x : Nat} (hd : decode M.2.1 pc = .ok (.astore i, 2)) (hn : i < M.2.2.1) (k : Ev d M n0 (pc + 2) (sto ls i (.ref x)) (st) n I G J Φ) : Ev d M n0 (pc) ls (.ref x :: st) n I G J Φ := by
  intro K B p l e R s m args below meth c H locs Q a hC hR h0 hI hO hS hL hQ
  obtain ⟨lx, h1, h2, h3⟩ := hL
  refine lv_astore hC.1.1 hC.1.2.1 hd h1 hn rfl (fun a2 hl2 => ?_)
  exact k K B p l e R s m args below meth c H locs Q a2 hC hR h0 hI hO hS (Lv_sto (v := .ref x) h2 h3 hl2) hQ
theorem E_iinc {i : Nat} {z : Int} {x : Int32} (v : Int32) (hd : decode M.2.1 pc = .ok (.iinc i z, 3)) (hl : ls[i]? = some (some (.int x))) (hv : x + Int32.ofInt z = v) (hn : i < M.2.2.1) (k : Ev d M n0 (pc + 3) (sto ls i (.int v)) st n I G J Φ) : Ev d M n0 pc ls st n I G J Φ := by
  intro K B p l e R s m args below meth c H locs Q a hC hR h0 hI hO hS hL hQ
  obtain ⟨lx, h1, h2, h3⟩ := hL
  obtain ⟨j, hj⟩ := List.getElem?_of_mem (h3 i _ hl)
  refine lv_iinc (v := v) hC.1.1 hC.1.2.1 hd h1 (k := j) hj hv hn rfl (fun a2 hl2 => ?_)
  exact k K B p l e R s m args below meth c H locs Q a2 hC hR h0 hI hO hS (Lv_sto (v := .int v) h2 h3 hl2) hQ
theorem E_iadd {x y : Int32} (hd : decode M.2.1 pc = .ok (.iadd, 1)) (k : Ev d M n0 (pc + 1) ls (.int (x + y) :: st) n I G J Φ) : Ev d M n0 (pc) ls (.int y :: .int x :: st) n I G J Φ :=
  Ev.of (fun K B p l e R s m args below meth c H locs cells slots Q a hC hL k => lv_iadd hC.1.1 hC.1.2.1 hd k) k
theorem E_isub {x y : Int32} (hd : decode M.2.1 pc = .ok (.isub, 1)) (k : Ev d M n0 (pc + 1) ls (.int (x - y) :: st) n I G J Φ) : Ev d M n0 (pc) ls (.int y :: .int x :: st) n I G J Φ :=
  Ev.of (fun K B p l e R s m args below meth c H locs cells slots Q a hC hL k => lv_isub hC.1.1 hC.1.2.1 hd k) k
theorem E_imul {x y : Int32} (hd : decode M.2.1 pc = .ok (.imul, 1)) (k : Ev d M n0 (pc + 1) ls (.int (x * y) :: st) n I G J Φ) : Ev d M n0 (pc) ls (.int y :: .int x :: st) n I G J Φ :=
  Ev.of (fun K B p l e R s m args below meth c H locs cells slots Q a hC hL k => lv_imul hC.1.1 hC.1.2.1 hd k) k
theorem E_iand {x y : Int32} (hd : decode M.2.1 pc = .ok (.iand, 1)) (k : Ev d M n0 (pc + 1) ls (.int (x &&& y) :: st) n I G J Φ) : Ev d M n0 (pc) ls (.int y :: .int x :: st) n I G J Φ :=
  Ev.of (fun K B p l e R s m args below meth c H locs cells slots Q a hC hL k => lv_iand hC.1.1 hC.1.2.1 hd k) k
theorem E_ior {x y : Int32} (hd : decode M.2.1 pc = .ok (.ior, 1)) (k : Ev d M n0 (pc + 1) ls (.int (x ||| y) :: st) n I G J Φ) : Ev d M n0 (pc) ls (.int y :: .int x :: st) n I G J Φ :=
  Ev.of (fun K B p l e R s m args below meth c H locs cells slots Q a hC hL k => lv_ior hC.1.1 hC.1.2.1 hd k) k
theorem E_ishl {x y : Int32} (hd : decode M.2.1 pc = .ok (.ishl, 1)) (k : Ev d M n0 (pc + 1) ls (.int (x <<< (y &&& 31)) :: st) n I G J Φ) : Ev d M n0 (pc) ls (.int y :: .int x :: st) n I G J Φ :=
  Ev.of (fun K B p l e R s m args below meth c H locs cells slots Q a hC hL k => lv_ishl hC.1.1 hC.1.2.1 hd k) k
theorem E_ishr {x y : Int32} (hd : decode M.2.1 pc = .ok (.ishr, 1)) (k : Ev d M n0 (pc + 1) ls (.int (x >>> (y &&& 31)) :: st) n I G J Φ) : Ev d M n0 (pc) ls (.int y :: .int x :: st) n I G J Φ :=
  Ev.of (fun K B p l e R s m args below meth c H locs cells slots Q a hC hL k => lv_ishr hC.1.1 hC.1.2.1 hd k) k
theorem E_iushr {x y : Int32} (hd : decode M.2.1 pc = .ok (.iushr, 1)) (k : Ev d M n0 (pc + 1) ls (.int (x.toUInt32 >>> (y.toUInt32 &&& Int32.toUInt32 31)).toInt32 :: st) n I G J Φ) : Ev d M n0 (pc) ls (.int y :: .int x :: st) n I G J Φ :=
  Ev.of (fun K B p l e R s m args below meth c H locs cells slots Q a hC hL k => lv_iushr hC.1.1 hC.1.2.1 hd rfl k) k
theorem E_idiv {x y : Int32} (hd : decode M.2.1 pc = .ok (.idiv, 1)) (hne : ¬ y = 0) (k : Ev d M n0 (pc + 1) ls (.int (x / y) :: st) n I G J Φ) : Ev d M n0 (pc) ls (.int y :: .int x :: st) n I G J Φ :=
  Ev.of (fun K B p l e R s m args below meth c H locs cells slots Q a hC hL k => lv_idiv hC.1.1 hC.1.2.1 hd hne k) k
theorem E_irem {x y : Int32} (hd : decode M.2.1 pc = .ok (.irem, 1)) (hne : ¬ y = 0) (k : Ev d M n0 (pc + 1) ls (.int (x - x / y * y) :: st) n I G J Φ) : Ev d M n0 (pc) ls (.int y :: .int x :: st) n I G J Φ :=
  Ev.of (fun K B p l e R s m args below meth c H locs cells slots Q a hC hL k => lv_irem hC.1.1 hC.1.2.1 hd hne k) k
theorem E_ladd {x y : Int64} (hd : decode M.2.1 pc = .ok (.ladd, 1)) (k : Ev d M n0 (pc + 1) ls (.long (x + y) :: st) n I G J Φ) : Ev d M n0 (pc) ls (.long y :: .long x :: st) n I G J Φ :=
  Ev.of (fun K B p l e R s m args below meth c H locs cells slots Q a hC hL k => lv_ladd hC.1.1 hC.1.2.1 hd k) k
theorem E_lmul {x y : Int64} (hd : decode M.2.1 pc = .ok (.lmul, 1)) (k : Ev d M n0 (pc + 1) ls (.long (x * y) :: st) n I G J Φ) : Ev d M n0 (pc) ls (.long y :: .long x :: st) n I G J Φ :=
  Ev.of (fun K B p l e R s m args below meth c H locs cells slots Q a hC hL k => lv_lmul hC.1.1 hC.1.2.1 hd k) k
theorem E_ldiv {x y : Int64} (hd : decode M.2.1 pc = .ok (.ldiv, 1)) (hne : ¬ y = 0) (k : Ev d M n0 (pc + 1) ls (.long (x / y) :: st) n I G J Φ) : Ev d M n0 (pc) ls (.long y :: .long x :: st) n I G J Φ :=
  Ev.of (fun K B p l e R s m args below meth c H locs cells slots Q a hC hL k => lv_ldiv hC.1.1 hC.1.2.1 hd hne k) k
theorem E_lrem {x y : Int64} (hd : decode M.2.1 pc = .ok (.lrem, 1)) (hne : ¬ y = 0) (k : Ev d M n0 (pc + 1) ls (.long (x - x / y * y) :: st) n I G J Φ) : Ev d M n0 (pc) ls (.long y :: .long x :: st) n I G J Φ :=
  Ev.of (fun K B p l e R s m args below meth c H locs cells slots Q a hC hL k => lv_lrem hC.1.1 hC.1.2.1 hd hne k) k
theorem E_lcmp {x y : Int64} (hd : decode M.2.1 pc = .ok (.lcmp, 1)) (k : Ev d M n0 (pc + 1) ls (.int (lg_cmp x y) :: st) n I G J Φ) : Ev d M n0 (pc) ls (.long y :: .long x :: st) n I G J Φ :=
  Ev.of (fun K B p l e R s m args below meth c H locs cells slots Q a hC hL k => W.lcmp hC.1.1 hC.1.2.1 hd k) k
theorem E_i2l {x : Int32} (hd : decode M.2.1 pc = .ok (.i2l, 1)) (k : Ev d M n0 (pc + 1) ls (.long x.toInt64 :: st) n I G J Φ) : Ev d M n0 (pc) ls (.int x :: st) n I G J Φ :=
  Ev.of (fun K B p l e R s m args below meth c H locs cells slots Q a hC hL k => lv_i2l hC.1.1 hC.1.2.1 hd rfl k) k
theorem E_i2c {x : Int32} (hd : decode M.2.1 pc = .ok (.i2c, 1)) (k : Ev d M n0 (pc + 1) ls (.int (x.toUInt32 % 65536).toInt32 :: st) n I G J Φ) : Ev d M n0 (pc) ls (.int x :: st) n I G J Φ :=
  Ev.of (fun K B p l e R s m args below meth c H locs cells slots Q a hC hL k => lv_i2c hC.1.1 hC.1.2.1 hd rfl k) k
theorem E_dup {v : Value} (hd : decode M.2.1 pc = .ok (.dup, 1)) (hv : v.category = 1) (k : Ev d M n0 (pc + 1) ls (v :: v :: st) n I G J Φ) : Ev d M n0 (pc) ls (v :: st) n I G J Φ :=
  Ev.of (fun K B p l e R s m args below meth c H locs cells slots Q a hC hL k => lv_dup hC.1.1 hC.1.2.1 hd (by rw [cvv_cat]; exact hv) k) k
theorem E_pop {v : Value} (hd : decode M.2.1 pc = .ok (.pop, 1)) (hv : v.category = 1) (k : Ev d M n0 (pc + 1) ls (st) n I G J Φ) : Ev d M n0 (pc) ls (v :: st) n I G J Φ :=
  Ev.of (fun K B p l e R s m args below meth c H locs cells slots Q a hC hL k => lv_pop hC.1.1 hC.1.2.1 hd (by rw [cvv_cat]; exact hv) k) k
theorem E_dup2 {v w : Value} (hd : decode M.2.1 pc = .ok (.dup2, 1)) (hv : v.category = 1) (hw : w.category = 1) (k : Ev d M n0 (pc + 1) ls (v :: w :: v :: w :: st) n I G J Φ) : Ev d M n0 (pc) ls (v :: w :: st) n I G J Φ :=
  Ev.of (fun K B p l e R s m args below meth c H locs cells slots Q a hC hL k => lv_dup2_11 hC.1.1 hC.1.2.1 hd (by rw [cvv_cat]; exact hv) (by rw [cvv_cat]; exact hw) k) k
theorem E_dup2l {v : Value} (hd : decode M.2.1 pc = .ok (.dup2, 1)) (hv : v.category = 2) (k : Ev d M n0 (pc + 1) ls (v :: v :: st) n I G J Φ) : Ev d M n0 (pc) ls (v :: st) n I G J Φ :=
  Ev.of (fun K B p l e R s m args below meth c H locs cells slots Q a hC hL k => lv_dup2_2 hC.1.1 hC.1.2.1 hd (by rw [cvv_cat]; exact hv) k) k
theorem E_if_eq {x : Int32} {off : Int} (tgt : Nat) (hd : decode M.2.1 pc = .ok (.ifCond .eq off, 3)) (ht : (pc : Int) + off = (tgt : Int)) (kt : x = 0 → Ev d M n0 (tgt) ls (st) n I G J Φ) (kf : ¬ (x = 0) → Ev d M n0 (pc + 3) ls (st) n I G J Φ) : Ev d M n0 (pc) ls (.int x :: st) n I G J Φ :=
  fun K B p l e R s m args below meth c H locs Q a hC hR h0 hI hO hS hL hQ => lv_if_eq hC.1.1 hC.1.2.1 hd ht (fun q => kt (by simpa using q) K B p l e R s m args below meth c H locs Q a hC hR h0 hI hO hS hL hQ) (fun q => kf (by simpa using q) K B p l e R s m args below meth c H locs Q a hC hR h0 hI hO hS hL hQ)
theorem E_icmp_eq {x y : Int32} {off : Int} (tgt : Nat) (hd : decode M.2.1 pc = .ok (.if_icmp .eq off, 3)) (ht : (pc : Int) + off = (tgt : Int)) (kt : x = y → Ev d M n0 (tgt) ls (st) n I G J Φ) (kf : ¬ (x = y) → Ev d M n0 (pc + 3) ls (st) n I G J Φ) : Ev d M n0 (pc) ls (.int y :: .int x :: st) n I G J Φ :=
  fun K B p l e R s m args below meth c H locs Q a hC hR h0 hI hO hS hL hQ => lv_icmp_eq hC.1.1 hC.1.2.1 hd ht (fun q => kt (by simpa using q) K B p l e R s m args below meth c H locs Q a hC hR h0 hI hO hS hL hQ) (fun q => kf (by simpa using q) K B p l e R s m args below meth c H locs Q a hC hR h0 hI hO hS hL hQ)
theorem E_if_ne {x : Int32} {off : Int} (tgt : Nat) (hd : decode M.2.1 pc = .ok (.ifCond .ne off, 3)) (ht : (pc : Int) + off = (tgt : Int)) (kt : ¬ x = 0 → Ev d M n0 (tgt) ls (st) n I G J Φ) (kf : ¬ (¬ x = 0) → Ev d M n0 (pc + 3) ls (st) n I G J Φ) : Ev d M n0 (pc) ls (.int x :: st) n I G J Φ :=
  fun K B p l e R s m args below meth c H locs Q a hC hR h0 hI hO hS hL hQ => lv_if_ne hC.1.1 hC.1.2.1 hd ht (fun q => kt (by simpa using q) K B p l e R s m args below meth c H locs Q a hC hR h0 hI hO hS hL hQ) (fun q => kf (by simpa using q) K B p l e R s m args below meth c H locs Q a hC hR h0 hI hO hS hL hQ)
theorem E_icmp_ne {x y : Int32} {off : Int} (tgt : Nat) (hd : decode M.2.1 pc = .ok (.if_icmp .ne off, 3)) (ht : (pc : Int) + off = (tgt : Int)) (kt : ¬ x = y → Ev d M n0 (tgt) ls (st) n I G J Φ) (kf : ¬ (¬ x = y) → Ev d M n0 (pc + 3) ls (st) n I G J Φ) : Ev d M n0 (pc) ls (.int y :: .int x :: st) n I G J Φ :=
  fun K B p l e R s m args below meth c H locs Q a hC hR h0 hI hO hS hL hQ => lv_icmp_ne hC.1.1 hC.1.2.1 hd ht (fun q => kt (by simpa using q) K B p l e R s m args below meth c H locs Q a hC hR h0 hI hO hS hL hQ) (fun q => kf (by simpa using q) K B p l e R s m args below meth c H locs Q a hC hR h0 hI hO hS hL hQ)
theorem E_if_lt {x : Int32} {off : Int} (tgt : Nat) (hd : decode M.2.1 pc = .ok (.ifCond .lt off, 3)) (ht : (pc : Int) + off = (tgt : Int)) (kt : x < 0 → Ev d M n0 (tgt) ls (st) n I G J Φ) (kf : ¬ (x < 0) → Ev d M n0 (pc + 3) ls (st) n I G J Φ) : Ev d M n0 (pc) ls (.int x :: st) n I G J Φ :=
  fun K B p l e R s m args below meth c H locs Q a hC hR h0 hI hO hS hL hQ => lv_if_lt hC.1.1 hC.1.2.1 hd ht (fun q => kt (by simpa using q) K B p l e R s m args below meth c H locs Q a hC hR h0 hI hO hS hL hQ) (fun q => kf (by simpa using q) K B p l e R s m args below meth c H locs Q a hC hR h0 hI hO hS hL hQ)
theorem E_icmp_lt {x y : Int32} {off : Int} (tgt : Nat) (hd : decode M.2.1 pc = .ok (.if_icmp .lt off, 3)) (ht : (pc : Int) + off = (tgt : Int)) (kt : x < y → Ev d M n0 (tgt) ls (st) n I G J Φ) (kf : ¬ (x < y) → Ev d M n0 (pc + 3) ls (st) n I G J Φ) : Ev d M n0 (pc) ls (.int y :: .int x :: st) n I G J Φ :=
  fun K B p l e R s m args below meth c H locs Q a hC hR h0 hI hO hS hL hQ => lv_icmp_lt hC.1.1 hC.1.2.1 hd ht (fun q => kt (by simpa using q) K B p l e R s m args below meth c H locs Q a hC hR h0 hI hO hS hL hQ) (fun q => kf (by simpa using q) K B p l e R s m args below meth c H locs Q a hC hR h0 hI hO hS hL hQ)
theorem E_if_ge {x : Int32} {off : Int} (tgt : Nat) (hd : decode M.2.1 pc = .ok (.ifCond .ge off, 3)) (ht : (pc : Int) + off = (tgt : Int)) (kt : 0 ≤ x → Ev d M n0 (tgt) ls (st) n I G J Φ) (kf : ¬ (0 ≤ x) → Ev d M n0 (pc + 3) ls (st) n I G J Φ) : Ev d M n0 (pc) ls (.int x :: st) n I G J Φ :=
  fun K B p l e R s m args below meth c H locs Q a hC hR h0 hI hO hS hL hQ => lv_if_ge hC.1.1 hC.1.2.1 hd ht (fun q => kt (by simpa using q) K B p l e R s m args below meth c H locs Q a hC hR h0 hI hO hS hL hQ) (fun q => kf (by simpa using q) K B p l e R s m args below meth c H locs Q a hC hR h0 hI hO hS hL hQ)
theorem E_icmp_ge {x y : Int32} {off : Int} (tgt : Nat) (hd : decode M.2.1 pc = .ok (.if_icmp .ge off, 3)) (ht : (pc : Int) + off = (tgt : Int)) (kt : y ≤ x → Ev d M n0 (tgt) ls (st) n I G J Φ) (kf : ¬ (y ≤ x) → Ev d M n0 (pc + 3) ls (st) n I G J Φ) : Ev d M n0 (pc) ls (.int y :: .int x :: st) n I G J Φ :=
  fun K B p l e R s m args below meth c H locs Q a hC hR h0 hI hO hS hL hQ => lv_icmp_ge hC.1.1 hC.1.2.1 hd ht (fun q => kt (by simpa using q) K B p l e R s m args below meth c H locs Q a hC hR h0 hI hO hS hL hQ) (fun q => kf (by simpa using q) K B p l e R s m args below meth c H locs Q a hC hR h0 hI hO hS hL hQ)
theorem E_if_gt {x : Int32} {off : Int} (tgt : Nat) (hd : decode M.2.1 pc = .ok (.ifCond .gt off, 3)) (ht : (pc : Int) + off = (tgt : Int)) (kt : 0 < x → Ev d M n0 (tgt) ls (st) n I G J Φ) (kf : ¬ (0 < x) → Ev d M n0 (pc + 3) ls (st) n I G J Φ) : Ev d M n0 (pc) ls (.int x :: st) n I G J Φ :=
  fun K B p l e R s m args below meth c H locs Q a hC hR h0 hI hO hS hL hQ => lv_if_gt hC.1.1 hC.1.2.1 hd ht (fun q => kt (by simpa using q) K B p l e R s m args below meth c H locs Q a hC hR h0 hI hO hS hL hQ) (fun q => kf (by simpa using q) K B p l e R s m args below meth c H locs Q a hC hR h0 hI hO hS hL hQ)
theorem E_icmp_gt {x y : Int32} {off : Int} (tgt : Nat) (hd : decode M.2.1 pc = .ok (.if_icmp .gt off, 3)) (ht : (pc : Int) + off = (tgt : Int)) (kt : y < x → Ev d M n0 (tgt) ls (st) n I G J Φ) (kf : ¬ (y < x) → Ev d M n0 (pc + 3) ls (st) n I G J Φ) : Ev d M n0 (pc) ls (.int y :: .int x :: st) n I G J Φ :=
  fun K B p l e R s m args below meth c H locs Q a hC hR h0 hI hO hS hL hQ => lv_icmp_gt hC.1.1 hC.1.2.1 hd ht (fun q => kt (by simpa using q) K B p l e R s m args below meth c H locs Q a hC hR h0 hI hO hS hL hQ) (fun q => kf (by simpa using q) K B p l e R s m args below meth c H locs Q a hC hR h0 hI hO hS hL hQ)
theorem E_if_le {x : Int32} {off : Int} (tgt : Nat) (hd : decode M.2.1 pc = .ok (.ifCond .le off, 3)) (ht : (pc : Int) + off = (tgt : Int)) (kt : x ≤ 0 → Ev d M n0 (tgt) ls (st) n I G J Φ) (kf : ¬ (x ≤ 0) → Ev d M n0 (pc + 3) ls (st) n I G J Φ) : Ev d M n0 (pc) ls (.int x :: st) n I G J Φ :=
  fun K B p l e R s m args below meth c H locs Q a hC hR h0 hI hO hS hL hQ => lv_if_le hC.1.1 hC.1.2.1 hd ht (fun q => kt (by simpa using q) K B p l e R s m args below meth c H locs Q a hC hR h0 hI hO hS hL hQ) (fun q => kf (by simpa using q) K B p l e R s m args below meth c H locs Q a hC hR h0 hI hO hS hL hQ)
theorem E_icmp_le {x y : Int32} {off : Int} (tgt : Nat) (hd : decode M.2.1 pc = .ok (.if_icmp .le off, 3)) (ht : (pc : Int) + off = (tgt : Int)) (kt : x ≤ y → Ev d M n0 (tgt) ls (st) n I G J Φ) (kf : ¬ (x ≤ y) → Ev d M n0 (pc + 3) ls (st) n I G J Φ) : Ev d M n0 (pc) ls (.int y :: .int x :: st) n I G J Φ :=
  fun K B p l e R s m args below meth c H locs Q a hC hR h0 hI hO hS hL hQ => lv_icmp_le hC.1.1 hC.1.2.1 hd ht (fun q => kt (by simpa using q) K B p l e R s m args below meth c H locs Q a hC hR h0 hI hO hS hL hQ) (fun q => kf (by simpa using q) K B p l e R s m args below meth c H locs Q a hC hR h0 hI hO hS hL hQ)
theorem E_goto {off : Int} (tgt : Nat) (hd : decode M.2.1 pc = .ok (.goto off, 3)) (ht : (pc : Int) + off = (tgt : Int)) (k : Ev d M n0 (tgt) ls (st) n I G J Φ) : Ev d M n0 (pc) ls (st) n I G J Φ :=
  Ev.of (fun K B p l e R s m args below meth c H locs cells slots Q a hC hL k => lv_goto hC.1.1 hC.1.2.1 hd ht k) k
/-- a switch over i, i + 1 ..: the case, or the rest -/
def SW (x : Int32) (P : Nat → Prop) (dt : Nat) : Nat → List Nat → Prop
  | _, [] => P dt
  | i, t :: ts => (x = nI i → P t) ∧ (¬ x = nI i → SW x P dt (i + 1) ts)
theorem SW_in {x : Int32} {P : Nat → Prop} {dt : Nat} : ∀ {ts : List Nat} {i j t : Nat}, SW x P dt i ts → ts[j]? = some t → x = nI (i + j) → i + ts.length < 2 ^ 31 → P t
  | [], i, j, t, _, h, _, _ => by simp at h
  | u :: us, i, j, t, h, hj, hx, hb => by
    cases j with
    | zero =>
      rw [List.getElem?_cons_zero] at hj
      cases hj
      exact h.1 hx
    | succ j =>
      rw [List.getElem?_cons_succ] at hj
      simp only [List.length_cons] at hb
      have hl := (List.getElem?_eq_some_iff.mp hj).1
      refine SW_in (h.2 (fun e => ?_)) hj (by rw [hx]; congr 1; omega) (by omega)
      rw [hx] at e
      have := (nI_eq (by omega) (by omega)).mp e
      omega
theorem SW_out {x : Int32} {P : Nat → Prop} {dt : Nat} : ∀ {ts : List Nat} {i : Nat}, SW x P dt i ts → (∀ j, j < ts.length → ¬ x = nI (i + j)) → P dt
  | [], i, h, _ => h
  | u :: us, i, h, hx => SW_out (h.2 (hx 0 (by simp))) (fun j hj => by have := hx (j + 1) (by simp; omega); rw [show i + (j + 1) = i + 1 + j by omega] at this; exact this)
theorem E_tsw {x : Int32} {dflt hi : Int} {offs : Array Int} {len : Nat} (lo : Nat) (ts : List Nat) (dt : Nat) (hd : decode M.2.1 pc = .ok (.tableswitch dflt (lo : Int) hi offs, len)) (ht : offs.toList.map (fun o => (pc : Int) + o) = ts.map (fun (t : Nat) => (Int.ofNat t))) (hh : hi + 1 = (lo : Int) + (ts.length : Int)) (hdt : (pc : Int) + dflt = (dt : Int)) (hb : lo + ts.length < 2 ^ 31)
    (k : SW x (fun t => Ev d M n0 t ls st n I G J Φ) dt lo ts) : Ev d M n0 pc ls (.int x :: st) n I G J Φ := by
  intro K B p l e R s m args below meth c H locs Q a hC hR h0 hI hO hS hL hQ
  by_cases h1 : x.toInt < (lo : Int) ∨ hi < x.toInt
  · refine lv_tableOut hC.1.1 hC.1.2.1 hd h1 hdt ?_
    refine SW_out k (fun j hj e => ?_) K B p l e R s m args below meth c H locs Q a hC hR h0 hI hO hS hL hQ
    rw [e, nI_toInt (by omega)] at h1
    omega
  · obtain ⟨j, hj⟩ : ∃ j : Nat, x.toInt = ((lo + j : Nat) : Int) := ⟨(x.toInt - lo).toNat, by omega⟩
    have hjl : j < ts.length := by omega
    have hx : x = nI (lo + j) := Int32.toInt_inj.mp (by rw [hj, nI_toInt (by omega)])
    have hts : ts[j]? = some ts[j] := List.getElem?_eq_getElem hjl
    have hlen : offs.toList.length = ts.length := by have := congrArg List.length ht; simpa using this
    have hjo : j < offs.size := by rw [← Array.length_toList]; omega
    have ho : offs[j]? = some offs[j] := Array.getElem?_eq_getElem hjo
    have he : (pc : Int) + offs[j] = (ts[j] : Int) := by
      have := congrArg (fun z => z[j]?) ht
      simp only [List.getElem?_map, Array.getElem?_toList, ho, hts, Option.map_some, Option.some.injEq] at this
      exact this
    refine lv_tableIn hC.1.1 hC.1.2.1 hd (by omega) (by omega) (off := offs[j]) (by rw [show (x.toInt - (lo : Int)).toNat = j by omega]; exact ho) he ?_
    exact SW_in k hts hx hb K B p l e R s m args below meth c H locs Q a hC hR h0 hI hO hS hL hQ
/-- a switch over keys -/
def KW (x : Int32) (P : Nat → Prop) (dt : Nat) : List (Int32 × Nat) → Prop
  | [] => P dt
  | q :: ts => (x = q.1 → P q.2) ∧ (¬ x = q.1 → KW x P dt ts)
theorem KW_go {x : Int32} {P : Nat → Prop} {dt pc : Nat} {dflt : Int} (hdt : (pc : Int) + dflt = (dt : Int)) : ∀ {ts : List (Int32 × Nat)} {ps : List (Int × Int)}, KW x P dt ts → ps.map (fun q => (q.1, (pc : Int) + q.2)) = ts.map (fun q => (q.1.toInt, (q.2 : Int))) → ∃ t : Nat, P t ∧ (pc : Int) + Op.lookupswitch.offset ps dflt x.toInt = (t : Int)
  | [], [], h, _ => ⟨dt, h, by simpa [Op.lookupswitch.offset] using hdt⟩
  | [], _ :: _, _, e => by simp at e
  | _ :: _, [], _, e => by simp at e
  | q :: ts, (a, o) :: ps, h, e => by
    simp only [List.map_cons, List.cons.injEq, Prod.mk.injEq] at e
    obtain ⟨⟨e1, e2⟩, e3⟩ := e
    by_cases hx : x = q.1
    · refine ⟨q.2, h.1 hx, ?_⟩
      rw [Op.lookupswitch.offset_cons, if_pos (by rw [hx, e1])]
      exact e2
    · obtain ⟨t, h1, h2⟩ := KW_go hdt (h.2 hx) e3
      refine ⟨t, h1, ?_⟩
      rw [lv_osw hx e1.symm]
      exact h2
theorem E_lsw {x : Int32} {dflt : Int} {ps : Array (Int × Int)} {len : Nat} (ts : List (Int32 × Nat)) (dt : Nat) (hd : decode M.2.1 pc = .ok (.lookupswitch dflt ps, len)) (hp : (ps.toList.zip (ps.toList.drop 1)).all (fun (a, next) => a.1 < next.1) = true) (ht : ps.toList.map (fun q => (q.1, (pc : Int) + q.2)) = ts.map (fun q => (q.1.toInt, (q.2 : Int)))) (hdt : (pc : Int) + dflt = (dt : Int))
    (k : KW x (fun t => Ev d M n0 t ls st n I G J Φ) dt ts) : Ev d M n0 pc ls (.int x :: st) n I G J Φ := by
  intro K B p l e R s m args below meth c H locs Q a hC hR h0 hI hO hS hL hQ
  obtain ⟨t, h1, h2⟩ := KW_go hdt k ht
  exact lv_lookup hC.1.1 hC.1.2.1 hd hp rfl h2 (h1 K B p l e R s m args below meth c H locs Q a hC hR h0 hI hO hS hL hQ)
/-! returns -/
theorem E_iret {v : Int32} (hd : decode M.2.1 pc = .ok (.ireturn, 1)) (hr : M.2.2.2.1 = some .int ∨ (M.2.2.2.1 = some .boolean ∧ narrow .boolean (.int v) = .int v)) (hn : n = n0 + M.2.2.2.2.1) (hs : pre n = pre n0 + M.2.2.2.2.2) (k : Φ (some (.int v)) n I G J) : Ev d M n0 pc ls [.int v] n I G J Φ := by
  intro K B p l e R s m args below meth c H locs Q a hC hR h0 hI hO hS hL hQ
  have hw := hQ (some (.int v)) n I G J H locs pc a k hI hO hS (Or.inl ⟨v, rfl, hd, hr⟩) hn hs
  rw [show n - n0 = M.2.2.2.2.1 by omega, show pre n - pre n0 = M.2.2.2.2.2 by omega]
  exact hw
theorem E_lret {v : Int64} (hd : decode M.2.1 pc = .ok (.lreturn, 1)) (hr : M.2.2.2.1 = some .long) (hn : n = n0 + M.2.2.2.2.1) (hs : pre n = pre n0 + M.2.2.2.2.2) (k : Φ (some (.long v)) n I G J) : Ev d M n0 pc ls [.long v] n I G J Φ := by
  intro K B p l e R s m args below meth c H locs Q a hC hR h0 hI hO hS hL hQ
  have hw := hQ (some (.long v)) n I G J H locs pc a k hI hO hS (Or.inr (Or.inl ⟨v, rfl, hd, hr⟩)) hn hs
  rw [show n - n0 = M.2.2.2.2.1 by omega, show pre n - pre n0 = M.2.2.2.2.2 by omega]
  exact hw
theorem E_vret (hd : decode M.2.1 pc = .ok (.return_, 1)) (hr : M.2.2.2.1 = none) (hn : n = n0 + M.2.2.2.2.1) (hs : pre n = pre n0 + M.2.2.2.2.2) (k : Φ none n I G J) : Ev d M n0 pc ls [] n I G J Φ := by
  intro K B p l e R s m args below meth c H locs Q a hC hR h0 hI hO hS hL hQ
  have hw := hQ none n I G J H locs pc a k hI hO hS (Or.inr (Or.inr ⟨rfl, hd, hr⟩)) hn hs
  rw [show n - n0 = M.2.2.2.2.1 by omega, show pre n - pre n0 = M.2.2.2.2.2 by omega]
  exact hw
end RULES
end
section
/-! ===== the classes' own rows ===== -/
theorem in_0 : ∀ w ∈ u_ws RX0 TX0 7, w ∈ tb := by decide +kernel
theorem in_1 : ∀ w ∈ u_ws RX1 TX1 15, w ∈ tb := by decide +kernel
theorem in_2 : ∀ w ∈ u_ws RX2 TX2 8, w ∈ tb := by decide +kernel
theorem in_3 : ∀ w ∈ u_ws RX3 TX3 7, w ∈ tb := by decide +kernel
theorem in_4 : ∀ w ∈ u_ws RX4 TX4 16, w ∈ tb := by decide +kernel
theorem in_5 : ∀ w ∈ u_ws RX5 TX5 33, w ∈ tb := by decide +kernel
def tyA (ci : Nat) : Nat → FieldType := match ci with
  | 0 => tyX0 | 1 => tyX1 | 2 => tyX2 | 3 => tyX3 | 4 => tyX4 | _ => tyX5
theorem cls_6 {ci : Nat} {q : vw_C} (h : vwCl[ci]? = some q) : ci < 6 := by
  have := (List.getElem?_eq_some_iff.mp h).1
  simpa [vwCl] using this
theorem cls_all {P : Nat → vw_C → Prop} (h0 : P 0 (RX0, TX0, 7)) (h1 : P 1 (RX1, TX1, 15)) (h2 : P 2 (RX2, TX2, 8)) (h3 : P 3 (RX3, TX3, 7)) (h4 : P 4 (RX4, TX4, 16)) (h5 : P 5 (RX5, TX5, 33)) : ∀ (ci : Nat) (q : vw_C), vwCl[ci]? = some q → P ci q := by
  intro ci q h
  match ci, h with
  | 0, h => cases h; exact h0
  | 1, h => cases h; exact h1
  | 2, h => cases h; exact h2
  | 3, h => cases h; exact h3
  | 4, h => cases h; exact h4
  | 5, h => cases h; exact h5
  | k + 6, h => exact absurd (cls_6 h) (by omega)
theorem cls_in : ∀ (ci : Nat) (q : vw_C), vwCl[ci]? = some q → ∀ w ∈ u_ws q.1 q.2.1 q.2.2, w ∈ tb := cls_all in_0 in_1 in_2 in_3 in_4 in_5
theorem cls_ty : ∀ (ci : Nat) (q : vw_C), vwCl[ci]? = some q → ∀ k, k < q.2.2 → parseFieldDescriptor (q.2.1 k).2.2.1 = some (tyA ci k) := cls_all tyX0_ok tyX1_ok tyX2_ok tyX3_ok tyX4_ok tyX5_ok
theorem cls_nm : ∀ (ci : Nat) (q : vw_C), vwCl[ci]? = some q → ∀ a, a < q.2.2 → ∀ b, b < q.2.2 → a ≠ b → (q.2.1 a).2.1 ≠ (q.2.1 b).2.1 := cls_all nmX0 nmX1 nmX2 nmX3 nmX4 nmX5
theorem sh_obj : ∀ x ∈ shL, x.1 < 6 → (vwCl[x.1]?).map (fun q => q.2.2) = some x.2 := by decide +kernel
theorem sh_mem {c : Nat} {x : Nat × Nat} (h : shp c = x) (hx : x.1 ≠ 99) : x ∈ shL := by
  unfold shp at h
  rw [List.getD_eq_getElem?_getD] at h
  cases hc : shL[c]? with
  | none => rw [hc] at h; subst h; exact absurd rfl hx
  | some y =>
    rw [hc] at h
    subst h
    exact List.mem_of_getElem? hc
theorem sh_size {c ci z : Nat} {q : vw_C} (h : shp c = (ci, z)) (h6 : ci < 6) (hq : vwCl[ci]? = some q) : q.2.2 = z := by
  have := sh_obj _ (sh_mem h (by show ci ≠ 99; omega)) h6
  simp only at this
  rw [hq] at this
  exact Option.some.inj this
theorem cel_obj {K : Pk} {I : MI} {G : MG} {J : MJ} {c ci z : Nat} (h : shp c = (ci, z)) (h6 : ci < 6) : celE K I G J c = .inr (ci, (List.range z).map (fval K.1 I G J ci c)) := by
  unfold celE
  rw [h, if_pos h6]
theorem cel_int {K : Pk} {I : MI} {G : MG} {J : MJ} {c ci z : Nat} (h : shp c = (ci, z)) (h6 : 6 ≤ ci) (h9 : ci < 9) : celE K I G J c = .inl (K.2.1 (ci - 6), z, .inl (I c)) := by
  unfold celE
  rw [h, if_neg (Nat.not_lt.mpr h6), if_pos h9]
theorem cel_ref {K : Pk} {I : MI} {G : MG} {J : MJ} {c ci z : Nat} (h : shp c = (ci, z)) (h9 : 9 ≤ ci) : celE K I G J c = .inl (K.2.1 (ci - 6), z, .inr (.inr (.inr (.inr (fun i => (G c i).map K.1))))) := by
  unfold celE
  rw [h]
  dsimp only
  rw [if_neg (show ¬ ci < 6 by omega), if_neg (show ¬ ci < 9 by omega)]
/-- the field behind a constant of a class: class and place -/
def FL (own : String) (ix ci k : Nat) : Prop := ∃ q : vw_C, vwCl[ci]? = some q ∧ k < q.2.2 ∧ Cond.fieldLink own ix q.1 (q.2.1 k).2.1 (q.2.1 k).2.2.1 ∈ tb ∧ (q.2.1 k).1 = q.1
theorem Iw_set {K : Pk} {n c : Nat} {I I' : MI} {G G' : MG} {J J' : MJ} {H H1 : Heap} (hI : Iw K n I G J H) (had : Had K) (hc : c < n) (z : H1.size = H.size) (oq : ∀ q : Nat, q ≠ K.1 c → H1[q]? = H[q]?) (he : va_at K.2.2.1 vwCl (K.1 c, celE K I' G' J' c) H1) (h1 : ∀ x, x ≠ c → I' x = I x) (h2 : ∀ x, x ≠ c → G' x = G x) (h3 : ∀ x, x ≠ c → J' x = J x) : Iw K n I' G' J' H1 := by
  refine ⟨?_, z.trans hI.2.1, hI.2.2⟩
  rw [← wsO_set hc h1 h2 h3]
  exact hI.1.set (wsO_D had hI.2.2) (wsO_at hc) he oq
theorem Iw_A {K : Pk} {n c : Nat} {I : MI} {G : MG} {J : MJ} {H : Heap} (hI : Iw K n I G J H) (had : Had K) (hc : c < n) : Aw K (K.1 c) := by
  unfold Aw
  rw [had c (by have := hI.2.2; omega)]
  omega
theorem fv_set {ad : Nat → Nat} {I I' : MI} {G G' : MG} {J J' : MJ} {ci c k z : Nat} {v : Value} (hk : k < z) (hv : fval ad I' G' J' ci c k = v) (hne : ∀ j, j ≠ k → fval ad I' G' J' ci c j = fval ad I G J ci c j) : (List.range z).map (fval ad I' G' J' ci c) = ((List.range z).map (fval ad I G J ci c)).set k v := by
  apply List.ext_getElem?
  intro j
  by_cases hj : j = k
  · subst hj
    rw [List.getElem?_set_self (by simp [hk])]
    simp [hk, hv]
  · rw [List.getElem?_set_ne (Ne.symm hj)]
    simp only [List.getElem?_map]
    by_cases hz : j < z
    · rw [List.getElem?_range hz]
      simp [hne j hj]
    · rw [List.getElem?_eq_none (by simp; omega)]
      rfl
section MEM
variable {d : Nat} {M : Mt} {n0 pc : Nat} {ls : List (Option Value)} {st : List Value} {n : Nat} {I : MI} {G : MG} {J : MJ} {Φ : Ph}
theorem E_getv {ix : Nat} (ci k c z : Nat) {v : Value} (hd : decode M.2.1 pc = .ok (.getfield ix, 3)) (hf : FL M.1.cls ix ci k) (hs : shn n c = (ci, z)) (hv : ∀ ad : Nat → Nat, fval ad I G J ci c k = cvv ad v) (kk : Ev d M n0 (pc + 3) ls (v :: st) n I G J Φ) : Ev d M n0 pc ls (.ref c :: st) n I G J Φ := by
  intro K B p l e R s m args below meth cd H locs Q a hC hR h0 hI hO hS hL hQ
  obtain ⟨q, hq, hk, hw, hdc⟩ := hf
  have h6 := cls_6 hq
  obtain ⟨hcn, hsh⟩ := shn_lt hs (by omega)
  have hz := sh_size hsh h6 hq
  refine va_get (C := q.1) (T := q.2.1) (N := q.2.2) hC.1.1 hC.1.2.1 hC.1.2.2.2.2 (cls_in ci q hq) hC.1.2.2.2.1 hC.2.2.2.2.1 hI.1 c ((wsO_at hcn).trans (by rw [cel_obj hsh h6])) hq k hk (hC.1.2.2.2.2 _ hw) (fun x h => by rw [← hdc]; exact h) (v := cvv K.1 v) (by simp [← hz, hk, hv]) hd ?_
  exact kk K B p l e R s m args below meth cd H locs Q a hC hR h0 hI hO hS hL hQ
theorem E_geti {ix : Nat} (ci k c z : Nat) (hd : decode M.2.1 pc = .ok (.getfield ix, 3)) (hf : FL M.1.cls ix ci k) (hk : fkd ci k = 0) (hs : shn n c = (ci, z)) (kk : Ev d M n0 (pc + 3) ls (.int (I c k) :: st) n I G J Φ) : Ev d M n0 pc ls (.ref c :: st) n I G J Φ :=
  E_getv ci k c z hd hf hs (fun ad => by simp [fval, hk, cvv]) kk
theorem E_getl {ix : Nat} (ci k c z : Nat) (hd : decode M.2.1 pc = .ok (.getfield ix, 3)) (hf : FL M.1.cls ix ci k) (hk : fkd ci k = 2) (hs : shn n c = (ci, z)) (kk : Ev d M n0 (pc + 3) ls (.long (J c k) :: st) n I G J Φ) : Ev d M n0 pc ls (.ref c :: st) n I G J Φ :=
  E_getv ci k c z hd hf hs (fun ad => by simp [fval, hk, cvv]) kk
theorem E_getr {ix : Nat} (ci k c z r : Nat) (hd : decode M.2.1 pc = .ok (.getfield ix, 3)) (hf : FL M.1.cls ix ci k) (hk : fkd ci k = 1) (hs : shn n c = (ci, z)) (hr : G c k = some r) (kk : Ev d M n0 (pc + 3) ls (.ref r :: st) n I G J Φ) : Ev d M n0 pc ls (.ref c :: st) n I G J Φ :=
  E_getv ci k c z hd hf hs (fun ad => by simp [fval, hk, cvv, hr, va_rf]) kk
/-- a put into a field, final or not -/
theorem E_putv {ix : Nat} (ci k c z : Nat) {v : Value} {I' : MI} {G' : MG} {J' : MJ} (hd : decode M.2.1 pc = .ok (.putfield ix, 3)) (hf : FL M.1.cls ix ci k) (hs : shn n c = (ci, z))
    (hfin : (∃ q, vwCl[ci]? = some q ∧ (q.2.1 k).2.2.2 = false) ∨ (∃ q, vwCl[ci]? = some q ∧ (q.2.1 k).2.2.2 = true ∧ q.1 = M.1.cls ∧ M.1.name = "<init>"))
    (hn : narrow (tyA ci k) v = v) (hft : ∀ ad : Nat → Nat, fits (tyA ci k) (cvv ad v) = true ∧ narrow (tyA ci k) (cvv ad v) = cvv ad v) (hv : ∀ ad : Nat → Nat, fval ad I' G' J' ci c k = cvv ad v) (hne : ∀ (ad : Nat → Nat) (j : Nat), j ≠ k → fval ad I' G' J' ci c j = fval ad I G J ci c j)
    (h1 : ∀ x, x ≠ c → I' x = I x) (h2 : ∀ x, x ≠ c → G' x = G x) (h3 : ∀ x, x ≠ c → J' x = J x) (kk : Ev d M n0 (pc + 3) ls st n I' G' J' Φ) : Ev d M n0 pc ls (v :: .ref c :: st) n I G J Φ := by
  intro K B p l e R s m args below meth cd H locs Q a hC hR h0 hI hO hS hL hQ
  have had := hC.2.2.2.2.2.2
  obtain ⟨q, hq, hk, hw, hdc⟩ := hf
  have h6 := cls_6 hq
  obtain ⟨hcn, hsh⟩ := shn_lt hs (by omega)
  have hz := sh_size hsh h6 hq
  have hts := hC.1.2.2.2.2
  have hown := hC.1.2.2.2.1
  have hin := cls_in ci q hq
  have hap := va_apart (own := M.1.cls) hts hin (tyA ci) (cls_ty ci q hq) (cls_nm ci q hq) hC.2.2.2.2.1 hq
  have he : (wsO K n I G J)[c]? = some (K.1 c, .inr (ci, (List.range z).map (fval K.1 I G J ci c))) := (wsO_at hcn).trans (by rw [cel_obj hsh h6])
  obtain ⟨r, hr1, cell, q1, q2, q3, q4⟩ := hI.1 c _ he
  have hr : r = q := Option.some.inj (hr1.symm.trans hq)
  subst hr
  obtain ⟨hSl, hfc, kC, hkC, hkind⟩ := hC.2.2.2.2.1.1 ci _ hq
  obtain ⟨cf, kf, fi, f, hi, hsl⟩ := hSl k hk
  have hlay := hts _ (hin _ (u_in_lay hk))
  unfold u_lay at hlay
  have hst := (u_facts hfc hkC (u_lays hts hin hk) hi).1
  have hdt := cls_ty ci r hq k hk
  have hc1000 : c < 1000 := by have := hI.2.2; omega
  have fin : ∀ H1 : Heap, H1[K.1 c]? = some (cell.setSlot f.slot (cvv K.1 v)) → H1.size = H.size → (∀ x : Nat, x ≠ K.1 c → H1[x]? = H[x]?) → W p l e R s m args below meth cd H1 (locs ++ [⟨K.1 c, f.slot⟩]) (n - n0) (pre n - pre n0) Q (F0 m (pc + 3) a (st.map (cvv K.1))) := by
    intro H1 e1 e2 e3
    rw [hsl] at e1 ⊢
    refine kk K B p l e R s m args below meth cd H1 _ Q a hC hR h0 (Iw_set hI had hcn e2 e3 ?_ h1 h2 h3) (hO.mem (fun x hx => h1 x (by omega)) (fun x hx => h2 x (by omega))) (hS.put e2 e3 (Iw_A hI had hcn)) hL hQ
    rw [cel_obj hsh h6, fv_set (by omega) (hv K.1) (hne K.1)]
    exact ⟨_, hq, t_OB.to (V := updV (vp_V _) k (cvv K.1 v)) ⟨_, e1, q2, q3, t_set q4 hap hk _⟩ (fun j _ => vp_updV_set (by simp; omega) _ j)⟩
  rcases hfin with ⟨q', hq', hf'⟩ | ⟨q', hq', hf', hcl, hnm⟩
  · cases hq.symm.trans hq'
    rw [if_neg (by rw [hf']; decide)] at hlay
    have h6' := u_store hfc hkC hkind hlay hi hdt (hft K.1).2 (hft K.1).1
    exact W.putK hC.1.1 hC.1.2.1 (f := f) ⟨hown, hts _ hw, ⟨_, _, _, by rw [← hdc]; exact hi⟩, hst⟩ (by rw [q2]; exact h6') q1 q3 (by rw [hsl]; exact k2_hasslot (q4 k hk)) rfl rfl hd fin
  · cases hq.symm.trans hq'
    rw [if_pos hf'] at hlay
    have hcf : m.cls = cf := by
      obtain ⟨_, _, c', _, _, _, -, -, hf2, -, -, -, hown2, -⟩ := Cond.laysFinal_spec hlay
      have e1 : c' = cf := by have := hi.symm.trans hf2; simp at this; exact this.1.symm
      rw [hdc, hcl] at hown2
      rw [← e1]; exact Option.some.inj (hown.symm.trans hown2)
    have h6' := u_fits hfc hkC hkind (Or.inr hlay) hi hdt (hft K.1).2 (hft K.1).1
    exact W.putFinK hC.1.1 hC.1.2.1 hown (hts _ hw) (by rw [← hdc]; exact hi) hst hcf (by rw [hC.2.2.2.1, hnm]) (by rw [q2]; exact h6') q1 q3 (by rw [hsl]; exact k2_hasslot (q4 k hk)) rfl rfl hd fin
theorem E_puti {ix : Nat} (ci k c z : Nat) {x : Int32} (hd : decode M.2.1 pc = .ok (.putfield ix, 3)) (hf : FL M.1.cls ix ci k) (hk : fkd ci k = 0) (hs : shn n c = (ci, z)) (hfin : ∃ q, vwCl[ci]? = some q ∧ (q.2.1 k).2.2.2 = false) (hn : narrow (tyA ci k) (.int x) = .int x) (hft : fits (tyA ci k) (.int x) = true) (kk : Ev d M n0 (pc + 3) ls st n (u2 I c k x) G J Φ) : Ev d M n0 pc ls (.int x :: .ref c :: st) n I G J Φ :=
  E_putv ci k c z hd hf hs (Or.inl hfin) hn (fun ad => ⟨hft, hn⟩) (fun ad => by simp [fval, hk, cvv, u2]) (fun ad j hj => by simp [fval, u2, hj]) (fun x hx => u2_row _ _ _ hx) (fun _ _ => rfl) (fun _ _ => rfl) kk
theorem E_putl {ix : Nat} (ci k c z : Nat) {x : Int64} (hd : decode M.2.1 pc = .ok (.putfield ix, 3)) (hf : FL M.1.cls ix ci k) (hk : fkd ci k = 2) (hs : shn n c = (ci, z)) (hfin : ∃ q, vwCl[ci]? = some q ∧ (q.2.1 k).2.2.2 = false) (hn : narrow (tyA ci k) (.long x) = .long x) (hft : fits (tyA ci k) (.long x) = true) (kk : Ev d M n0 (pc + 3) ls st n I G (u2 J c k x) Φ) : Ev d M n0 pc ls (.long x :: .ref c :: st) n I G J Φ :=
  E_putv ci k c z hd hf hs (Or.inl hfin) hn (fun ad => ⟨hft, hn⟩) (fun ad => by simp [fval, hk, cvv, u2]) (fun ad j hj => by simp [fval, u2, hj]) (fun _ _ => rfl) (fun _ _ => rfl) (fun x hx => u2_row _ _ _ hx) kk
theorem E_putr {ix : Nat} (ci k c z r : Nat) (hd : decode M.2.1 pc = .ok (.putfield ix, 3)) (hf : FL M.1.cls ix ci k) (hk : fkd ci k = 1) (hs : shn n c = (ci, z)) (hfin : (∃ q, vwCl[ci]? = some q ∧ (q.2.1 k).2.2.2 = false) ∨ (∃ q, vwCl[ci]? = some q ∧ (q.2.1 k).2.2.2 = true ∧ q.1 = M.1.cls ∧ M.1.name = "<init>")) (hn : ∀ r, narrow (tyA ci k) (.ref r) = .ref r) (hft : ∀ r, fits (tyA ci k) (.ref r) = true) (kk : Ev d M n0 (pc + 3) ls st n I (u2 G c k (some r)) J Φ) : Ev d M n0 pc ls (.ref r :: .ref c :: st) n I G J Φ :=
  E_putv ci k c z hd hf hs hfin (hn r) (fun ad => ⟨hft (ad r), hn (ad r)⟩) (fun ad => by simp [fval, hk, cvv, u2, va_rf]) (fun ad j hj => by simp [fval, u2, hj]) (fun _ _ => rfl) (fun x hx => u2_row _ _ _ hx) (fun _ _ => rfl) kk
end MEM
end
section
section ARR
variable {d : Nat} {M : Mt} {n0 pc : Nat} {ls : List (Option Value)} {st : List Value} {n : Nat} {I : MI} {G : MG} {J : MJ} {Φ : Ph}
theorem ty_at {K : Pk} : (tyK K)[0]? = some (K.2.1 0, .int) ∧ (tyK K)[1]? = some (K.2.1 1, .char) ∧ (tyK K)[2]? = some (K.2.1 2, .boolean) ∧ (tyK K)[3]? = some (K.2.1 3, .object RX2) ∧ (tyK K)[4]? = some (K.2.1 4, .array .int) := ⟨rfl, rfl, rfl, rfl, rfl⟩
theorem E_iald {i : Int32} (c z : Nat) (hd : decode M.2.1 pc = .ok (.iaload, 1)) (hs : shn n c = (6, z)) (hin : vp_in i z) (k : Ev d M n0 (pc + 1) ls (.int (I c i.toNatClampNeg) :: st) n I G J Φ) : Ev d M n0 pc ls (.int i :: .ref c :: st) n I G J Φ := by
  intro K B p l e R s m args below meth cd H locs Q a hC hR h0 hI hO hS hL hQ
  obtain ⟨hcn, hsh⟩ := shn_lt hs (by omega)
  exact va_iald hC.1.1 hC.1.2.1 hC.2.2.2.2.1 hI.1 c 0 ((wsO_at hcn).trans (by rw [cel_int hsh (by omega) (by omega)])) ty_at.1 hin hd (k K B p l e R s m args below meth cd H locs Q a hC hR h0 hI hO hS hL hQ)
theorem E_cald {i : Int32} (c z : Nat) (hd : decode M.2.1 pc = .ok (.caload, 1)) (hs : shn n c = (7, z)) (hin : vp_in i z) (k : Ev d M n0 (pc + 1) ls (.int (I c i.toNatClampNeg) :: st) n I G J Φ) : Ev d M n0 pc ls (.int i :: .ref c :: st) n I G J Φ := by
  intro K B p l e R s m args below meth cd H locs Q a hC hR h0 hI hO hS hL hQ
  obtain ⟨hcn, hsh⟩ := shn_lt hs (by omega)
  exact va_cald hC.1.1 hC.1.2.1 hC.2.2.2.2.1 hI.1 c 1 ((wsO_at hcn).trans (by rw [cel_int hsh (by omega) (by omega)])) ty_at.2.1 hin hd (k K B p l e R s m args below meth cd H locs Q a hC hR h0 hI hO hS hL hQ)
theorem E_zald {i : Int32} (c z : Nat) (hd : decode M.2.1 pc = .ok (.baload, 1)) (hs : shn n c = (8, z)) (hin : vp_in i z) (k : Ev d M n0 (pc + 1) ls (.int (I c i.toNatClampNeg) :: st) n I G J Φ) : Ev d M n0 pc ls (.int i :: .ref c :: st) n I G J Φ := by
  intro K B p l e R s m args below meth cd H locs Q a hC hR h0 hI hO hS hL hQ
  obtain ⟨hcn, hsh⟩ := shn_lt hs (by omega)
  exact va_zald hC.1.1 hC.1.2.1 hC.2.2.2.2.1 hI.1 c 2 ((wsO_at hcn).trans (by rw [cel_int hsh (by omega) (by omega)])) ty_at.2.2.1 hin hd (k K B p l e R s m args below meth cd H locs Q a hC hR h0 hI hO hS hL hQ)
theorem E_aald {i : Int32} (c z r : Nat) (hd : decode M.2.1 pc = .ok (.aaload, 1)) (hs : shn n c = (9, z)) (hin : vp_in i z) (hr : G c i.toNatClampNeg = some r) (k : Ev d M n0 (pc + 1) ls (.ref r :: st) n I G J Φ) : Ev d M n0 pc ls (.int i :: .ref c :: st) n I G J Φ := by
  intro K B p l e R s m args below meth cd H locs Q a hC hR h0 hI hO hS hL hQ
  obtain ⟨hcn, hsh⟩ := shn_lt hs (by omega)
  refine va_aldq (C := RX2) hC.1.1 hC.1.2.1 hC.2.2.2.2.1 hI.1 c 3 ((wsO_at hcn).trans (by rw [cel_ref hsh (by omega)])) ty_at.2.2.2.1 hin hd ?_
  rw [hr]
  exact k K B p l e R s m args below meth cd H locs Q a hC hR h0 hI hO hS hL hQ
theorem E_aald2 {i : Int32} (c z r : Nat) (hd : decode M.2.1 pc = .ok (.aaload, 1)) (hs : shn n c = (10, z)) (hin : vp_in i z) (hr : G c i.toNatClampNeg = some r) (k : Ev d M n0 (pc + 1) ls (.ref r :: st) n I G J Φ) : Ev d M n0 pc ls (.int i :: .ref c :: st) n I G J Φ := by
  intro K B p l e R s m args below meth cd H locs Q a hC hR h0 hI hO hS hL hQ
  obtain ⟨hcn, hsh⟩ := shn_lt hs (by omega)
  have ha : (wsO K n I G J)[c]? = some (K.1 c, .inl (K.2.1 4, z, .inr (.inr (.inr (.inr (fun i => (G c i).map K.1)))))) := (wsO_at hcn).trans (by rw [cel_ref hsh (by omega)])
  have hlt : i.toNatClampNeg < z := Nat.not_le.mp fun q => hin (Or.inr q)
  refine W.aald (v := .ref (K.1 r)) (ty := .array .int) hC.1.1 hC.1.2.1 (hI.1 c _ ha) ((hC.2.2.2.2.1.2 4 _ ty_at.2.2.2.2).1 z (fun j => va_rf ((G c j).map K.1))) rfl (fun q => by cases q) (by show ¬ (i < 0 ∨ (arrV _ _ _).slots.size ≤ _); rw [arrV_size]; exact hin) (by show (arrV _ _ _).slots[_]? = _; rw [arrV_read _ _ hlt]; show some (va_rf ((G c i.toNatClampNeg).map K.1)) = _; rw [hr]; rfl) rfl rfl hd ?_
  exact k K B p l e R s m args below meth cd H locs Q a hC hR h0 hI hO hS hL hQ
theorem E_alenc (c z : Nat) (v : Int32) (hd : decode M.2.1 pc = .ok (.arraylength, 1)) (hs : shn n c = (7, z)) (hv : Int32.ofNat z = v) (k : Ev d M n0 (pc + 1) ls (.int v :: st) n I G J Φ) : Ev d M n0 pc ls (.ref c :: st) n I G J Φ := by
  intro K B p l e R s m args below meth cd H locs Q a hC hR h0 hI hO hS hL hQ
  obtain ⟨hcn, hsh⟩ := shn_lt hs (by omega)
  exact va_alen hC.1.1 hC.1.2.1 hC.2.2.2.2.1 hI.1 c 1 ((wsO_at hcn).trans (by rw [cel_int hsh (by omega) (by omega)])) ty_at.2.1 hv hd (k K B p l e R s m args below meth cd H locs Q a hC hR h0 hI hO hS hL hQ)
/-! the script and the static rows -/
theorem E_ould {i : Int32} (c : Nat) (hd : decode M.2.1 pc = .ok (.iaload, 1)) (h1 : 1000 ≤ c) (h2 : c < 1005) (hin : vp_in i (oul G c)) (k : Ev d M n0 (pc + 1) ls (.int (I c i.toNatClampNeg) :: st) n I G J Φ) : Ev d M n0 pc ls (.int i :: .ref c :: st) n I G J Φ := by
  intro K B p l e R s m args below meth cd H locs Q a hC hR h0 hI hO hS hL hQ
  obtain ⟨hX, hb⟩ := hO.cell c h1 h2
  exact va_sld (A := Aw K) hC.1.1 hC.1.2.1 hX (by omega) (fun q => by unfold Aw at q; omega) hS hin hd (k K B p l e R s m args below meth cd H locs Q a hC hR h0 hI hO hS hL hQ)
theorem E_oulen (c : Nat) (hd : decode M.2.1 pc = .ok (.arraylength, 1)) (h1 : 1000 ≤ c) (h2 : c < 1005) (k : Ev d M n0 (pc + 1) ls (.int (nI (oul G c)) :: st) n I G J Φ) : Ev d M n0 pc ls (.ref c :: st) n I G J Φ := by
  intro K B p l e R s m args below meth cd H locs Q a hC hR h0 hI hO hS hL hQ
  obtain ⟨hX, hb⟩ := hO.cell c h1 h2
  exact va_slen (A := Aw K) hC.1.1 hC.1.2.1 hX (by omega) (fun q => by unfold Aw at q; omega) hS hd (k K B p l e R s m args below meth cd H locs Q a hC hR h0 hI hO hS hL hQ)
theorem E_gets {ix : Nat} (C nm : String) (r : Nat) (hd : decode M.2.1 pc = .ok (.getstatic ix, 3)) (hz : ∀ (K : Pk) (B : MI × MG) (s : State), Ou0 K B s → va_Z C nm "[I" (.ref (K.1 r)) (Aw K) s s.heap) (hw : Cond.fieldLink M.1.cls ix C nm "[I" ∈ tb) (k : Ev d M n0 (pc + 3) ls (.ref r :: st) n I G J Φ) : Ev d M n0 pc ls st n I G J Φ := by
  intro K B p l e R s m args below meth cd H locs Q a hC hR h0 hI hO hS hL hQ
  exact va_gets hC.1.1 hC.1.2.1 (hz K B s hO.1) hS hC.1.2.2.2.1 (hC.1.2.2.2.2 _ hw) (fun _ h => h) hd (k K B p l e R s m args below meth cd H locs Q a hC hR h0 hI hO hS hL hQ)
/-! stores into rows of ints -/
theorem row_at {K : Pk} {I : MI} {G : MG} {J : MJ} {c ci z j : Nat} {x : Int32} {H1 : Heap} (hsh : shp c = (ci, z)) (h6 : 6 ≤ ci) (h9 : ci < 9) (e : H1[K.1 c]? = some ((vp_cell (K.2.1 (ci - 6)) (z, .inl (I c))).setSlot j (.int x))) : va_at K.2.2.1 vwCl (K.1 c, celE K (u2 I c j x) G J c) H1 := by
  rw [cel_int hsh h6 h9, u2_upd]
  show H1[K.1 c]? = some (vp_cell _ _)
  rw [e, vp_cell_i, vp_cell_i, arrV_store]
  congr 2
  funext q
  by_cases hq : q = j
  · subst hq
    simp [updV, upd]
  · simp [updV, upd, hq]
theorem E_iast {i x : Int32} (c z : Nat) (hd : decode M.2.1 pc = .ok (.iastore, 1)) (hs : shn n c = (6, z)) (hin : vp_in i z) (k : Ev d M n0 (pc + 1) ls st n (u2 I c i.toNatClampNeg x) G J Φ) : Ev d M n0 pc ls (.int x :: .int i :: .ref c :: st) n I G J Φ := by
  intro K B p l e R s m args below meth cd H locs Q a hC hR h0 hI hO hS hL hQ
  have had := hC.2.2.2.2.2.2
  obtain ⟨hcn, hsh⟩ := shn_lt hs (by omega)
  have hb := hI.2.2
  have ha : (wsO K n I G J)[c]? = some (K.1 c, .inl (K.2.1 0, z, .inl (I c))) := (wsO_at hcn).trans (by rw [cel_int hsh (by omega) (by omega)])
  refine W.iast hC.1.1 hC.1.2.1 (hI.1 c _ ha) ((hC.2.2.2.2.1.2 0 _ ty_at.1).1 z (fun j => .int (I c j))) (fun q => by cases q) (by show ¬ (i < 0 ∨ (arrV _ _ _).slots.size ≤ _); rw [arrV_size]; exact hin) rfl rfl hd fun H1 e1 zz oq => ?_
  exact k K B p l e R s m args below meth cd H1 _ Q a hC hR h0 (Iw_set hI had hcn zz oq (row_at hsh (by omega) (by omega) e1) (fun x hx => u2_row _ _ _ hx) (fun _ _ => rfl) (fun _ _ => rfl)) (hO.mem (fun x hx => u2_row _ _ _ (by omega)) (fun _ _ => rfl)) (hS.put zz oq (Iw_A hI had hcn)) hL hQ
theorem E_cast {i x y : Int32} (c z : Nat) (hd : decode M.2.1 pc = .ok (.castore, 1)) (hs : shn n c = (7, z)) (hin : vp_in i z) (hx : narrow .char (.int x) = .int y) (k : Ev d M n0 (pc + 1) ls st n (u2 I c i.toNatClampNeg y) G J Φ) : Ev d M n0 pc ls (.int x :: .int i :: .ref c :: st) n I G J Φ := by
  intro K B p l e R s m args below meth cd H locs Q a hC hR h0 hI hO hS hL hQ
  have had := hC.2.2.2.2.2.2
  obtain ⟨hcn, hsh⟩ := shn_lt hs (by omega)
  have hb := hI.2.2
  have ha : (wsO K n I G J)[c]? = some (K.1 c, .inl (K.2.1 1, z, .inl (I c))) := (wsO_at hcn).trans (by rw [cel_int hsh (by omega) (by omega)])
  refine W.cast hC.1.1 hC.1.2.1 (hI.1 c _ ha) ((hC.2.2.2.2.1.2 1 _ ty_at.2.1).1 z (fun j => .int (I c j))) (fun q => by cases q) (by show ¬ (i < 0 ∨ (arrV _ _ _).slots.size ≤ _); rw [arrV_size]; exact hin) rfl rfl hd fun H1 e1 zz oq => ?_
  rw [hx] at e1
  exact k K B p l e R s m args below meth cd H1 _ Q a hC hR h0 (Iw_set hI had hcn zz oq (row_at hsh (by omega) (by omega) e1) (fun x hx => u2_row _ _ _ hx) (fun _ _ => rfl) (fun _ _ => rfl)) (hO.mem (fun x hx => u2_row _ _ _ (by omega)) (fun _ _ => rfl)) (hS.put zz oq (Iw_A hI had hcn)) hL hQ
theorem E_zast {i x y : Int32} (c z : Nat) (hd : decode M.2.1 pc = .ok (.bastore, 1)) (hs : shn n c = (8, z)) (hin : vp_in i z) (hx : narrow .boolean (.int x) = .int y) (k : Ev d M n0 (pc + 1) ls st n (u2 I c i.toNatClampNeg y) G J Φ) : Ev d M n0 pc ls (.int x :: .int i :: .ref c :: st) n I G J Φ := by
  intro K B p l e R s m args below meth cd H locs Q a hC hR h0 hI hO hS hL hQ
  have had := hC.2.2.2.2.2.2
  obtain ⟨hcn, hsh⟩ := shn_lt hs (by omega)
  have hb := hI.2.2
  have ha : (wsO K n I G J)[c]? = some (K.1 c, .inl (K.2.1 2, z, .inl (I c))) := (wsO_at hcn).trans (by rw [cel_int hsh (by omega) (by omega)])
  refine W.zast hC.1.1 hC.1.2.1 (hI.1 c _ ha) ((hC.2.2.2.2.1.2 2 _ ty_at.2.2.1).1 z (fun j => .int (I c j))) (fun q => by cases q) (by show ¬ (i < 0 ∨ (arrV _ _ _).slots.size ≤ _); rw [arrV_size]; exact hin) rfl rfl hd fun H1 e1 zz oq => ?_
  rw [hx] at e1
  exact k K B p l e R s m args below meth cd H1 _ Q a hC hR h0 (Iw_set hI had hcn zz oq (row_at hsh (by omega) (by omega) e1) (fun x hx => u2_row _ _ _ hx) (fun _ _ => rfl) (fun _ _ => rfl)) (hO.mem (fun x hx => u2_row _ _ _ (by omega)) (fun _ _ => rfl)) (hS.put zz oq (Iw_A hI had hcn)) hL hQ
/-- a moment into a row of moments -/
theorem E_aast {i : Int32} (c z r zr : Nat) (hd : decode M.2.1 pc = .ok (.aastore, 1)) (hs : shn n c = (9, z)) (hr : shn n r = (2, zr)) (hin : vp_in i z) (k : Ev d M n0 (pc + 1) ls st n I (u2 G c i.toNatClampNeg (some r)) J Φ) : Ev d M n0 pc ls (.ref r :: .int i :: .ref c :: st) n I G J Φ := by
  intro K B p l e R s m args below meth cd H locs Q a hC hR h0 hI hO hS hL hQ
  have had := hC.2.2.2.2.2.2
  obtain ⟨hcn, hsh⟩ := shn_lt hs (by omega)
  obtain ⟨hrn, hrh⟩ := shn_lt hr (by omega)
  have hb := hI.2.2
  have ha : (wsO K n I G J)[c]? = some (K.1 c, .inl (K.2.1 3, z, .inr (.inr (.inr (.inr (fun i => (G c i).map K.1)))))) := (wsO_at hcn).trans (by rw [cel_ref hsh (by omega)])
  have hv : (wsO K n I G J)[r]? = some (K.1 r, .inr (2, (List.range zr).map (fval K.1 I G J 2 r))) := (wsO_at hrn).trans (by rw [cel_obj hrh (by omega)])
  have hlt : i.toNatClampNeg < z := Nat.not_le.mp fun q => hin (Or.inr q)
  have hn0 : ¬ i < 0 := fun q => hin (Or.inl q)
  obtain ⟨r', hr', cellV, g1, g2, g3, -⟩ := hI.1 r _ hv
  have hcls := (hC.2.2.2.2.1.1 2 (RX2, TX2, 8) rfl).2
  obtain ⟨kA, comp, k1, k2, k3, -⟩ := (hC.2.2.2.2.1.2 3 _ ty_at.2.2.2.1).2
  have hcomp : comp = K.2.2.1.1 2 := Option.some.inj (k3.symm.trans hcls.1)
  subst hcomp
  obtain ⟨kC, hkC, -⟩ := hcls.2
  refine W.aast hC.1.1 hC.1.2.1 (hI.1 c _ ha) (fun q h => by cases h) (fun h => by cases h) k1 k2 rfl hkC ⟨hn0, by show _ < (arrV _ _ _).slots.size; rw [arrV_size]; exact hlt⟩ g1 (fun q h => by rw [g3] at h; cases h) (by rw [g2]; exact hkC) (by rw [g2]; exact va_assign hcls) rfl rfl hd fun H1 e1 zz oq => ?_
  refine k K B p l e R s m args below meth cd H1 _ Q a hC hR h0 (Iw_set hI had hcn zz oq ?_ (fun _ _ => rfl) (fun x hx => u2_row _ _ _ hx) (fun _ _ => rfl)) (hO.mem (fun _ _ => rfl) (fun x hx => u2_row _ _ _ (by omega))) (hS.put zz oq (Iw_A hI had hcn)) hL hQ
  rw [cel_ref hsh (by omega)]
  show H1[K.1 c]? = some (vp_cell _ _)
  rw [e1, vp_cell_q, vp_cell_q, arrV_store]
  congr 2
  funext q
  by_cases hq : q = i.toNatClampNeg
  · subst hq
    simp [updV, u2, va_rf]
  · simp [updV, u2, hq]
/-- System.arraycopy of ints between two rows -/
theorem E_copy {ix : Nat} {sp dp w : Int32} (c1 z1 c2 z2 : Nat) (hd : decode M.2.1 pc = .ok (.invokestatic ix, 3)) (hw : Cond.methodLink M.1.cls ix arraycopyName ∈ tb ∧ Cond.native arraycopyName ∈ tb ∧ Cond.static arraycopyName ∈ tb ∧ Cond.initialized "java/lang/System" ∈ tb) (hs1 : shn n c1 = (6, z1)) (hs2 : shn n c2 = (6, z2)) (hsp : ¬ sp < 0) (hdp : ¬ dp < 0) (hww : ¬ w < 0) (hb1 : sp.toNatClampNeg + w.toNatClampNeg ≤ z1) (hb2 : dp.toNatClampNeg + w.toNatClampNeg ≤ z2) (hcat : (st.map fun v => v.category).sum ≤ 8) (hdd : 1 ≤ d)
    (k : Ev d M n0 (pc + 3) ls st n (ur I c2 (va_cpy (I c1) (I c2) sp.toNatClampNeg dp.toNatClampNeg w.toNatClampNeg)) G J Φ) : Ev d M n0 pc ls (.int w :: .int dp :: .ref c2 :: .int sp :: .ref c1 :: st) n I G J Φ := by
  intro K B p l e R s m args below meth cd H locs Q a hC hR h0 hI hO hS hL hQ
  have had := hC.2.2.2.2.2.2
  have hts := hC.1.2.2.2.2
  obtain ⟨hcn1, hsh1⟩ := shn_lt hs1 (by omega)
  obtain ⟨hcn2, hsh2⟩ := shn_lt hs2 (by omega)
  have hb := hI.2.2
  have ha1 : (wsO K n I G J)[c1]? = some (K.1 c1, .inl (K.2.1 0, z1, .inl (I c1))) := (wsO_at hcn1).trans (by rw [cel_int hsh1 (by omega) (by omega)])
  have ha2 : (wsO K n I G J)[c2]? = some (K.1 c2, .inl (K.2.1 0, z2, .inl (I c2))) := (wsO_at hcn2).trans (by rw [cel_int hsh2 (by omega) (by omega)])
  have nn : ∀ z : Int32, ¬ z < 0 → z.toInt = (z.toNatClampNeg : Int) := by
    intro z hz
    have hz0 : (0 : Int) ≤ z.toInt := by
      have := Int32.not_lt.mp hz
      simpa using Int32.le_iff_toInt_le.mp this
    show z.toInt = ((z.toInt.toNat : Nat) : Int)
    omega
  intro T hT X
  have hc0 : H[K.1 c1]? = some (vp_cell (K.2.1 0) (z1, .inl (I c1))) := hI.1 c1 _ ha1
  have hc1 : H[K.1 c2]? = some (vp_cell (K.2.1 0) (z2, .inl (I c2))) := hI.1 c2 _ ha2
  obtain ⟨-, k0, hk0, cm0, hkk0⟩ := (hC.2.2.2.2.1.2 0 _ ty_at.1).1 z1 (fun j => .int (I c1 j))
  have hcatm : ((st.map (cvv K.1)).map fun v => v.category).sum = (st.map fun v => v.category).sum := by
    rw [List.map_map]
    congr 1
    exact List.map_congr_left (fun v _ => cvv_cat K.1 v)
  have hlo : 64 ≤ R.locals := by have := hR.2.1; omega
  obtain ⟨vm', X', step⟩ := X.arraycopy hC.1.1 hC.1.2.2.2.1 (hts _ hw.1) (hts _ hw.2.1) (hts _ hw.2.2.1) (hts _ hw.2.2.2) (src := K.1 c1) (dst := K.1 c2) (cs := vp_cell (K.2.1 0) (z1, .inl (I c1))) (cd := vp_cell (K.2.1 0) (z2, .inl (I c2))) (srcPos := sp) (destPos := dp) (n := w) (by rw [hT]; exact hc0) (by rw [hT]; exact hc1)
    (fun _ h => by cases h) (fun _ h => by cases h) (fun h => by cases h) (fun h => by cases h) hk0 hk0 hkk0 hkk0 (by simp [refKind]) hsp hdp hww
    (by rw [nn sp hsp, nn w hww]; show ¬ _ > ((arrV (K.2.1 0) z1 (fun j => .int (I c1 j))).slots.size : Int); rw [arrV_size]; omega)
    (by rw [nn dp hdp, nn w hww]; show ¬ _ > ((arrV (K.2.1 0) z2 (fun j => .int (I c2 j))).slots.size : Int); rw [arrV_size]; omega)
    (fun vm₁ _ i hi => by
      have e : (vp_cell (K.2.1 0) (z1, .inl (I c1))).slots.getD (sp.toNatClampNeg + i) .null = .int (I c1 (sp.toNatClampNeg + i)) := by
        show (arrV (K.2.1 0) z1 (fun j => .int (I c1 j))).slots.getD _ _ = _
        rw [Array.getD_eq_getD_getElem?, arrV_read _ _ (by omega)]
        rfl
      refine ⟨?_, ?_⟩
      · rw [e]
        rfl
      · rw [e]
        exact trivial)
    (g := F0 m pc a (.int w :: .int dp :: .ref (K.1 c2) :: .int sp :: .ref (K.1 c1) :: st.map (cvv K.1))) rfl (by obtain ⟨lx, h1, -⟩ := hL; exact h1.1.trans hC.1.2.2.1.symm) (rest := st.map (cvv K.1)) rfl (by rw [hC.1.2.1]; exact hd) (by have := hR.1; omega) (by have h9 : nativeFrameWords "java/lang/System" "arraycopy" 5 + 11 ≤ 56 := (by decide +kernel); show 2 * 0 + _ + _ ≤ _; rw [hcatm]; omega)
  have e1 : copied (vp_cell (K.2.1 0) (z1, .inl (I c1))) (vp_cell (K.2.1 0) (z2, .inl (I c2))) sp dp w = vp_cell (K.2.1 0) (z2, .inl (va_cpy (I c1) (I c2) sp.toNatClampNeg dp.toNatClampNeg w.toNatClampNeg)) := va_copied (fun z => .int z) (K.2.1 0) (K.2.1 0) (I c1) (I c2) hb1
  rw [e1] at X' step
  have hl : K.1 c2 < H.size := (Array.getElem?_eq_some_iff.mp hc1).1
  generalize hcell : vp_cell (K.2.1 0) (z2, .inl (va_cpy (I c1) (I c2) sp.toNatClampNeg dp.toNatClampNeg w.toNatClampNeg)) = cell at X' step
  have hheap : ((T.setVm vm').setCell (K.1 c2) cell).heap = H.setIfInBounds (K.1 c2) cell := by rw [← hT]; rfl
  have oq : ∀ q : Nat, q ≠ K.1 c2 → (H.setIfInBounds (K.1 c2) cell)[q]? = H[q]? := fun q hq => by simp [Array.getElem?_setIfInBounds, Ne.symm hq]
  obtain ⟨t, a1, b1⟩ := k K B p l e R s m args below meth cd (H.setIfInBounds (K.1 c2) cell) _ Q a hC hR h0 (Iw_set hI had hcn2 (by simp) oq (by
      rw [cel_int hsh2 (by omega) (by omega), ur_at]
      show (H.setIfInBounds (K.1 c2) cell)[K.1 c2]? = some (vp_cell _ _)
      rw [hcell]
      simp [Array.getElem?_setIfInBounds, hl]) (fun x hx => ur_ne _ _ hx) (fun _ _ => rfl) (fun _ _ => rfl)) (hO.mem (fun x hx => ur_ne _ _ (by omega)) (fun _ _ => rfl)) ⟨by simp; exact hS.1, fun q g1 g2 => by
      rw [oq q (fun e => g2 (by rw [e]; exact Iw_A hI had hcn2))]
      exact hS.2.1 q g1 g2, fun q hq => by
      rcases List.mem_append.mp hq with h | h
      · exact hS.2.2 q h
      · obtain ⟨zz, -, hzz⟩ := List.mem_map.mp h
        rw [← hzz]
        exact Iw_A hI had hcn2⟩ hL hQ _ hheap X'
  exact ⟨t, step t a1, b1⟩
end ARR
end
section
/-! ===== entry, calls ===== -/
def ent : List Value → List (Option Value)
  | [] => []
  | v :: vs => if v.category = 2 then some v :: none :: ent vs else some v :: ent vs
def entN (N : Nat) (vs : List Value) : List (Option Value) := ent vs ++ List.replicate (N - (ent vs).length) none
theorem ent_len (ad : Nat → Nat) : ∀ vs : List Value, (lg_sl (vs.map (cvv ad))).length = (ent vs).length
  | [] => rfl
  | v :: vs => by
    have ih := ent_len ad vs
    unfold lg_sl at ih ⊢
    simp only [List.map_cons, List.flatMap_cons, List.length_append, cvv_cat, ent, ih]
    by_cases h : v.category = 2
    · simp [h]; omega
    · simp [h]; omega
theorem ent_in (ad : Nat → Nat) : ∀ (vs : List Value) (i k : Nat) (v : Value), (ent vs)[k]? = some (some v) → (i + k, cvv ad v) ∈ lv_args i (vs.map (cvv ad))
  | [], i, k, v, h => by simp [ent] at h
  | w :: vs, i, k, v, h => by
    simp only [List.map_cons, lv_args, cvv_cat]
    unfold ent at h
    by_cases hw : w.category = 2
    · rw [if_pos hw] at h
      rw [if_pos hw]
      match k, h with
      | 0, h => simp at h; subst h; exact List.mem_cons_self
      | 1, h => simp at h
      | k + 2, h =>
        simp only [List.getElem?_cons_succ] at h
        have := ent_in ad vs (i + 2) k v h
        rw [show i + (k + 2) = i + 2 + k by omega]
        exact List.mem_cons_of_mem _ this
    · rw [if_neg hw] at h
      rw [if_neg hw]
      match k, h with
      | 0, h => simp at h; subst h; exact List.mem_cons_self
      | k + 1, h =>
        simp only [List.getElem?_cons_succ] at h
        have := ent_in ad vs (i + 1) k v h
        rw [show i + (k + 1) = i + 1 + k by omega]
        exact List.mem_cons_of_mem _ this
theorem Lv_ent {ad : Nat → Nat} {N : Nat} {vs : List Value} (h : (ent vs).length ≤ N) : Lv ad N (entN N vs) ((lg_sl (vs.map (cvv ad)) ++ List.replicate (N - (lg_sl (vs.map (cvv ad))).length) Slot.unset).toArray) := by
  refine ⟨_, lv_entry (vs.map (cvv ad)) (by rw [ent_len]; exact h), by simp [entN]; omega, fun k v hk => ?_⟩
  unfold entN at hk
  by_cases hl : k < (ent vs).length
  · rw [List.getElem?_append_left hl] at hk
    have := ent_in ad vs 0 k v hk
    rwa [Nat.zero_add] at this
  · rw [List.getElem?_append_right (by omega), List.getElem?_replicate] at hk
    split at hk <;> cases hk
theorem Xw.moved {s U : State} (hW : s.WarmedH U.vm) (h : Xw s) : Xw U :=
  ⟨h.1.warmM hW, h.2.1.warmM hW, h.2.2.1.warmM hW, va_AO.moved hW.alike h.2.2.2.1, Jvm.Stand.arrayOver_alikeB hW.alike h.2.2.2.2⟩
theorem Xw.same {s U : State} (hv : s.vm = U.vm) (h : Xw s) : Xw U :=
  ⟨h.1.same rfl hv, h.2.1.same rfl hv, h.2.2.1.same rfl hv, va_AO.moved (by rw [hv]; exact Vm.Alike.refl _) h.2.2.2.1, Jvm.Stand.arrayOver_alikeB (by rw [hv]; exact Vm.Alike.refl _) h.2.2.2.2⟩
/-- what a callee finds -/
def PcB (K : Pk) (n : Nat) (I : MI) (G : MG) (J : MJ) (U : State) : Prop := U.heap.size = K.2.2.2 + n ∧ Iw K n I G J U.heap ∧ va_K K.2.2.1 vwCl (tyK K) U ∧ Out K (I, G) I G U ∧ Xw U
/-- what it leaves -/
def QcB (K : Pk) (M : Mt) (n : Nat) (I : MI) (G : MG) (Ψ : Ph) : Array Value → State → Outcome → State → Prop := fun _ st0 oc t =>
  (∃ (r : Option Value) (n1 : Nat) (I1 : MI) (G1 : MG) (J1 : MJ), oc = .returned (r.map (cvv K.1)) ∧ Ψ r n1 I1 G1 J1 ∧ n1 = n + M.2.2.2.2.1 ∧ pre n1 = pre n + M.2.2.2.2.2 ∧ Iw K n1 I1 G1 J1 t.heap ∧ ∀ x, 1000 ≤ x → I1 x = I x ∧ G1 x = G x) ∧ va_F (Aw K) st0 t
def rmD (d : Nat) (M : Mt) : Room := { frames := d, cells := M.2.2.2.2.1, slots := M.2.2.2.2.2, locals := d * 64 }
def wsM (M : Mt) : List Cond := Cond.code M.1 M.2.1 M.2.2.1 M.2.2.2.1 :: tb
set_option maxHeartbeats 1000000 in
theorem Met_of {d n : Nat} {M : Mt} {vs : List Value} {I : MI} {G : MG} {J : MJ} {Ψ : Ph} (l : Launch) (K : Pk) (had : Had K) (hpl : plainName M.1.cls = true) (hlen : (ent vs).length ≤ M.2.2.1) (h : Ev d M n 0 (entN M.2.2.1 vs) [] n I G J Ψ) :
    Met l M.1 (wsM M) (rmD d M) (va_Pc (vs.map (cvv K.1)) (PcB K n I G J)) (QcB K M n I G Ψ) M.2.2.2.2.1 M.2.2.2.2.2 (Aw K) := by
  refine Met.ofW (cc := M.2.1) (maxL := M.2.2.1) (ret := M.2.2.2.1) hpl rfl ?_
  intro p e s m args below meth c s₁ B hml hv
  obtain ⟨rfl, hsz, hI, hK, hO, hX⟩ := hv
  have hts := atoms_spec (ws := wsM M) B.pre
  have hown : s.vm.findClass M.1.cls = some m.cls := findClass_of_methodNamed B.named
  have hlocks := B.notSynchronized
  have hnm : meth.name = M.1.name := (name_of_methodNamed B.named B.method).1
  have hr := B.returns
  rw [lg_entry_eq]
  have hC : Cx K M p s m (vs.map (cvv K.1)).toArray meth c := ⟨⟨B.exec, B.bytes, hml, hown, fun w hw => hts w (List.mem_cons_of_mem _ hw)⟩, hr, hlocks, hnm, hK, hX, had⟩
  have hw := h K (I, G) p l e (rmD d M) s m (vs.map (cvv K.1)).toArray below meth c s.heap [] (MQ below (QcB K M n I G Ψ) (vs.map (cvv K.1)).toArray s M.2.2.2.2.1 M.2.2.2.2.2 (Aw K)) _ hC ⟨Nat.le_refl _, Nat.le_refl _, Nat.le_refl _, Nat.le_refl _⟩ hsz hI hO va_S.rf (Lv_ent hlen) ?_
  · rw [Nat.sub_self, Nat.sub_self] at hw
    exact hw
  · intro r n1 I1 G1 J1 H1 locs1 pc1 a1 hΨ hI1 hO1 hS1 hat h1 h2
    have hq : ∀ t : State, t.heap = H1 → s.WarmedH t.vm → QcB K M n I G Ψ (vs.map (cvv K.1)).toArray s (.returned (r.map (cvv K.1))) t := fun t ht hW =>
      ⟨⟨r, n1, I1, G1, J1, rfl, hΨ, h1, h2, by rw [ht]; exact hI1, hO1.2⟩, hS1.F ht⟩
    rcases hat with ⟨v, rfl, hd, hrt⟩ | ⟨v, rfl, hd, hrt⟩ | ⟨rfl, hd, hrt⟩
    · rcases hrt with hrt | ⟨hrt, hnr⟩
      · exact W.iret (v := v) B.exec B.bytes (hr.trans hrt) hq hS1.2.2 hd
      · exact W.zret (v := v) B.exec B.bytes (hr.trans hrt) hnr hq hS1.2.2 hd
    · exact W.lret (v := v) B.exec B.bytes (hr.trans hrt) hq hS1.2.2 hd
    · exact W.vret B.exec B.bytes (hr.trans hrt) hq hS1.2.2 hd
theorem cat_cvv (ad : Nat → Nat) (st : List Value) : ((st.map (cvv ad)).map fun v => v.category).sum = (st.map fun v => v.category).sum := by
  rw [List.map_map]
  congr 1
  exact List.map_congr_left (fun v _ => cvv_cat ad v)
section CALL
variable {d : Nat} {M : Mt} {n0 pc : Nat} {ls : List (Option Value)} {st : List Value} {n : Nat} {I : MI} {G : MG} {J : MJ} {Φ : Ph}
/-- behind a call -/
theorem E_run {M2 : Mt} {Ψ : Ph} {K : Pk} {B : MI × MG} {p : Program} {l : Launch} {e : Env} {R : Room} {s : State} {m : MethodId} {args : Array Value} {below : List Frame} {meth : Method} {c : Code} {H : Heap} {locs : List Loc} {Q : State → Prop} {a : Array Slot} {stk rest : List Value} {as : Array Value}
    (hr : va_Run p l e R s m args below meth c H locs (n - n0) (pre n - pre n0) M2.2.2.2.2.1 M2.2.2.2.2.2 (F0 m pc a stk) (rest.map (cvv K.1)) (QcB K M2 n I G Ψ as) (Aw K))
    (hk : ∀ r n1 I1 G1 J1, Ψ r n1 I1 G1 J1 → Ev d M n0 (pc + 3) ls (r.toList ++ rest) n1 I1 G1 J1 Φ) (hn : n0 ≤ n) (hpn : pre n0 ≤ pre n)
    (hC : Cx K M p s m args meth c) (hR : Rk d M R) (h0 : s.heap.size = K.2.2.2 + n0) (hI : Iw K n I G J H) (hO : Out K B I G s) (hS : va_S (Aw K) s.heap H locs) (hL : Lv K.1 M.2.2.1 ls a) (hQ : Rt K B M n0 Φ p l e R s m args below meth c Q) :
    W p l e R s m args below meth c H locs (n - n0) (pre n - pre n0) Q (F0 m pc a stk) := by
  intro T hT X
  obtain ⟨v, st₀, t, T', L, e0, X', hL2, e1, e2, ⟨⟨r, n1, I1, G1, J1, hv, hΨ, g1, g2, hI1, hag⟩, hz, hkp⟩, stp⟩ := hr T hT X
  cases hv
  rw [e0] at hz hkp
  have hS1 : va_S (Aw K) s.heap T'.heap (locs ++ L) := ⟨Nat.le_trans hS.1 (by rw [e1]; exact hz), fun q h1 h2 => by rw [e1, hkp q (Nat.lt_of_lt_of_le h1 hS.1) h2]; exact hS.2.1 q h1 h2, fun q hq => by
    rcases List.mem_append.mp hq with h | h
    · exact hS.2.2 q h
    · exact hL2 q h⟩
  have hw := hk r n1 I1 G1 J1 hΨ K B p l e R s m args below meth c T'.heap (locs ++ L) Q a hC hR h0 (by rw [e1]; exact hI1) (hO.mem (fun x hx => (hag x hx).1) (fun x hx => (hag x hx).2)) hS1 hL hQ
  rw [show n1 - n0 = n - n0 + M2.2.2.2.2.1 by omega, show pre n1 - pre n0 = pre n - pre n0 + M2.2.2.2.2.2 by omega] at hw
  obtain ⟨t2, a1, b1⟩ := hw T' rfl X'
  refine ⟨t2, stp t2 ?_, b1⟩
  cases r with
  | none => exact a1
  | some w => exact a1
theorem PcB_of {K : Pk} {B : MI × MG} {s : State} {H : Heap} {locs : List Loc} {p : Program} {m : MethodId} {args : Array Value} {meth : Method} {c : Code} (hC : Cx K M p s m args meth c) (h0 : s.heap.size = K.2.2.2 + n0) (hI : Iw K n I G J H) (hO : Out K B I G s) (hS : va_S (Aw K) s.heap H locs) (U : State) (hU : U.heap = H) (hW : s.WarmedH U.vm) : PcB K n I G J U :=
  ⟨by rw [hU]; exact hI.2.1, by rw [hU]; exact hI, va_K.moved hW.alike hC.2.2.2.2.1, hO.move hW.alike (fun q hq => by rw [hU]; exact hS.2.1 q (by omega) (fun z => by unfold Aw at z; omega)), hC.2.2.2.2.2.1.moved hW⟩
theorem PcB_blind {K : Pk} {vs : List Value} : FrameBlind (va_Pc vs (PcB K n I G J)) := by
  intro a U g mk q
  obtain ⟨q0, q1, q2, q3, q4, q5⟩ := q
  exact ⟨q0, q1, q2, va_K.moved (u := U) (U := U.calling g mk a) (Vm.Alike.refl U.vm) q3, q4.move (U := U.calling g mk a) (Vm.Alike.refl U.vm) (fun _ _ => rfl), q5.same rfl⟩
/-- words of a call of an instance method, of a static one, of a constructor -/
def LkV (own : String) (ix : Nat) (M2 : Mt) (w : Nat) : Prop := Cond.methodLink own ix M2.1 ∈ tb ∧ Cond.instanceMethod M2.1 ∈ tb ∧ Cond.selects M2.1.cls M2.1 M2.1 ∈ tb ∧ Cond.initialized M2.1.cls ∈ tb ∧ Cond.code M2.1 M2.2.1 M2.2.2.1 M2.2.2.2.1 ∈ tb ∧ (plainName M2.1.cls = true ∧ M2.1.cls ≠ "java/lang/invoke/MethodHandle" ∧ M2.1.cls ≠ "java/lang/invoke/VarHandle" ∧ (parseMethodDescriptor M2.1.desc).map (fun d => d.parameters.length) = some w) ∧ M2.2.2.1 ≤ 45
def LkS (own : String) (ix : Nat) (M2 : Mt) (w : Nat) : Prop := Cond.methodLink own ix M2.1 ∈ tb ∧ Cond.static M2.1 ∈ tb ∧ Cond.initialized M2.1.cls ∈ tb ∧ Cond.code M2.1 M2.2.1 M2.2.2.1 M2.2.2.2.1 ∈ tb ∧ (plainName M2.1.cls = true ∧ M2.1.cls ≠ "java/lang/invoke/MethodHandle" ∧ M2.1.cls ≠ "java/lang/invoke/VarHandle" ∧ (parseMethodDescriptor M2.1.desc).map (fun d => d.parameters.length) = some w) ∧ M2.2.2.1 ≤ 45
def LkI (own : String) (ix : Nat) (M2 : Mt) (w : Nat) : Prop := (Cond.methodLink own ix M2.1 ∈ tb ∨ (own = RX4 ∧ ((ix = 24 ∧ M2.1 = yX1_init) ∨ (ix = 34 ∧ M2.1 = yX2_init) ∨ (ix = 62 ∧ M2.1 = yX0_init)))) ∧ Cond.instanceMethod M2.1 ∈ tb ∧ Cond.initialized M2.1.cls ∈ tb ∧ Cond.code M2.1 M2.2.1 M2.2.2.1 none ∈ tb ∧ M2.2.2.2.1 = none ∧ M2.1.name = "<init>" ∧ (plainName M2.1.cls = true ∧ M2.1.cls ≠ "java/lang/invoke/MethodHandle" ∧ M2.1.cls ≠ "java/lang/invoke/VarHandle" ∧ (parseMethodDescriptor M2.1.desc).map (fun d => d.parameters.length) = some w) ∧ M2.2.2.1 ≤ 45
theorem Rk_call {d : Nat} {M M2 : Mt} {R : Room} (hR : Rk (d + 1) M R) (h : M2.2.2.1 ≤ 45) : (rmD d M2).frames + 1 ≤ R.frames ∧ 8 + (M2.2.2.1 + 11) + (rmD d M2).locals ≤ R.locals := by
  obtain ⟨h1, h2, -⟩ := hR
  refine ⟨h1, ?_⟩
  show 8 + (M2.2.2.1 + 11) + d * 64 ≤ R.locals
  omega
theorem wsM_good {M2 : Mt} (h : Cond.code M2.1 M2.2.1 M2.2.2.1 M2.2.2.2.1 ∈ tb) : GoodIn tb (wsM M2) := tb_good (fun w hw => (List.mem_cons.mp hw).elim (fun q => q ▸ h) id)
set_option maxHeartbeats 1000000 in
/-- a call of an instance method on cell b -/
theorem E_invv {ix : Nat} (M2 : Mt) (w ci z : Nat) {b : Nat} {As : List Value} {Ψ : Ph} (hd : decode M.2.1 pc = .ok (.invokevirtual ix, 3)) (hw : LkV M.1.cls ix M2 w) (hci : ∃ q, vwCl[ci]? = some q ∧ q.1 = M2.1.cls) (hs : shn n b = (ci, z)) (hA : As.length = w) (hcat : (st.map fun v => v.category).sum ≤ 8) (hn : n0 ≤ n) (hpn : pre n0 ≤ pre n) (hm1 : n - n0 + M2.2.2.2.2.1 ≤ M.2.2.2.2.1) (hm2 : pre n - pre n0 + M2.2.2.2.2.2 ≤ M.2.2.2.2.2) (hlen : (ent (.ref b :: As)).length ≤ M2.2.2.1)
    (h : Ev d M2 n 0 (entN M2.2.2.1 (.ref b :: As)) [] n I G J Ψ) (hk : ∀ r n1 I1 G1 J1, Ψ r n1 I1 G1 J1 → Ev (d + 1) M n0 (pc + 3) ls (r.toList ++ st) n1 I1 G1 J1 Φ) {stk : List Value} (hst : stk = As.reverse ++ .ref b :: st) : Ev (d + 1) M n0 pc ls stk n I G J Φ := by
  intro K B p l e R s m args below meth c H locs Q a hC hR h0 hI hO hS hL hQ
  subst hst
  have had := hC.2.2.2.2.2.2
  obtain ⟨w1, w2, w3, w4, w5, ⟨p1, p2, p3, p4⟩, w6⟩ := hw
  obtain ⟨q, hq, hqc⟩ := hci
  have h6 := cls_6 hq
  obtain ⟨hbn, hbh⟩ := shn_lt hs (by omega)
  have hv : (wsO K n I G J)[b]? = some (K.1 b, .inr (ci, (List.range z).map (fval K.1 I G J ci b))) := (wsO_at hbn).trans (by rw [cel_obj hbh h6])
  have hts := hC.1.2.2.2.2
  have hmet := Met_of l K had p1 hlen h
  have hcw : CallW R s args M.1.cls M2.1.cls ix M2.1 M2.2.1 M2.2.2.1 M2.2.2.2.1 (wsM M2) (rmD d M2) M2.2.2.2.2.1 M2.2.2.2.2.2 w := cwV w hts (tb_good (fun x hx => by
    unfold wsV at hx
    rcases List.mem_append.mp hx with hx | hx
    · simp only [List.mem_cons, List.not_mem_nil, or_false] at hx
      rcases hx with rfl | rfl | rfl | rfl
      · exact w1
      · exact w2
      · exact w3
      · exact w4
    · exact (wsM_good w5 x hx).1)) rfl rfl rfl ⟨rfl, p2, p3, p4⟩ (Rk_call hR w6)
  have hrun := va_runV (g := F0 m pc a ((As.reverse ++ .ref b :: st).map (cvv K.1))) (As := As.map (cvv K.1)) (rest := st.map (cvv K.1)) (H := H) (locs := locs) (cells := n - n0) (slots := pre n - pre n0) (e := e) (below := below) (meth := meth) (l := l) hC.1 hmet hcw ⟨PcB_blind, by rw [← hqc]; exact va_recv hC.2.2.2.2.1 hI.1 hq hv, fun U hU hW => ⟨rfl, PcB_of hC h0 hI hO hS U hU hW⟩⟩ rfl (by rw [List.length_map]; exact hA) (by obtain ⟨lx, h1, -⟩ := hL; exact h1.1) (by simp [cvv]) (lv_room (by rw [cat_cvv]; exact hcat)) hd ⟨Nat.le_trans hm1 hR.2.2.1, Nat.le_trans hm2 hR.2.2.2⟩
  exact E_run hrun hk hn hpn hC hR h0 hI hO hS hL hQ
set_option maxHeartbeats 1000000 in
/-- a call of a static method -/
theorem E_invs {ix : Nat} (M2 : Mt) (w : Nat) {As : List Value} {Ψ : Ph} (hd : decode M.2.1 pc = .ok (.invokestatic ix, 3)) (hw : LkS M.1.cls ix M2 w) (hA : As.length = w) (hcat : (st.map fun v => v.category).sum ≤ 8) (hn : n0 ≤ n) (hpn : pre n0 ≤ pre n) (hm1 : n - n0 + M2.2.2.2.2.1 ≤ M.2.2.2.2.1) (hm2 : pre n - pre n0 + M2.2.2.2.2.2 ≤ M.2.2.2.2.2) (hlen : (ent As).length ≤ M2.2.2.1)
    (h : Ev d M2 n 0 (entN M2.2.2.1 As) [] n I G J Ψ) (hk : ∀ r n1 I1 G1 J1, Ψ r n1 I1 G1 J1 → Ev (d + 1) M n0 (pc + 3) ls (r.toList ++ st) n1 I1 G1 J1 Φ) {stk : List Value} (hst : stk = As.reverse ++ st) : Ev (d + 1) M n0 pc ls stk n I G J Φ := by
  intro K B p l e R s m args below meth c H locs Q a hC hR h0 hI hO hS hL hQ
  subst hst
  have had := hC.2.2.2.2.2.2
  obtain ⟨w1, w2, w4, w5, ⟨p1, p2, p3, p4⟩, w6⟩ := hw
  have hts := hC.1.2.2.2.2
  have hmet := Met_of l K had p1 hlen h
  have hcw := va_cwS (R := R) (own := M.1.cls) (index := ix) (rm := rmD d M2) (mc := M2.2.2.2.2.1) (ms := M2.2.2.2.2.2) w hts (tb_good (ws := va_wsS M.1.cls ix M2.1 (wsM M2)) (fun x hx => by
    unfold va_wsS at hx
    rcases List.mem_append.mp hx with hx | hx
    · simp only [List.mem_cons, List.not_mem_nil, or_false] at hx
      rcases hx with rfl | rfl | rfl
      · exact w1
      · exact w2
      · exact w4
    · exact (wsM_good w5 x hx).1)) rfl rfl rfl ⟨p2, p3, p4⟩ (Rk_call hR w6)
  have hrun := va_runS (g := F0 m pc a ((As.reverse ++ st).map (cvv K.1))) (As := As.map (cvv K.1)) (rest := st.map (cvv K.1)) (H := H) (locs := locs) (cells := n - n0) (slots := pre n - pre n0) (e := e) (below := below) (meth := meth) (l := l) hC.1 hmet hcw ⟨PcB_blind, fun U hU hW => ⟨rfl, PcB_of hC h0 hI hO hS U hU hW⟩⟩ rfl (by rw [List.length_map]; exact hA) (by obtain ⟨lx, h1, -⟩ := hL; exact h1.1) (by simp) (lv_room (by rw [cat_cvv]; exact hcat)) hd ⟨Nat.le_trans hm1 hR.2.2.1, Nat.le_trans hm2 hR.2.2.2⟩
  exact E_run hrun hk hn hpn hC hR h0 hI hO hS hL hQ
set_option maxHeartbeats 1000000 in
/-- a call of a constructor -/
theorem E_invi {ix : Nat} (M2 : Mt) (w : Nat) {b : Nat} {As : List Value} {Ψ : Ph} (hd : decode M.2.1 pc = .ok (.invokespecial ix, 3)) (hw : LkI M.1.cls ix M2 w) (hA : As.length = w) (hcat : (st.map fun v => v.category).sum ≤ 8) (hn : n0 ≤ n) (hpn : pre n0 ≤ pre n) (hm1 : n - n0 + M2.2.2.2.2.1 ≤ M.2.2.2.2.1) (hm2 : pre n - pre n0 + M2.2.2.2.2.2 ≤ M.2.2.2.2.2) (hlen : (ent (.ref b :: As)).length ≤ M2.2.2.1)
    (h : Ev d M2 n 0 (entN M2.2.2.1 (.ref b :: As)) [] n I G J Ψ) (hk : ∀ r n1 I1 G1 J1, Ψ r n1 I1 G1 J1 → Ev (d + 1) M n0 (pc + 3) ls (r.toList ++ st) n1 I1 G1 J1 Φ) {stk : List Value} (hst : stk = As.reverse ++ .ref b :: st) : Ev (d + 1) M n0 pc ls stk n I G J Φ := by
  intro K B p l e R s m args below meth c H locs Q a hC hR h0 hI hO hS hL hQ
  subst hst
  have had := hC.2.2.2.2.2.2
  obtain ⟨w1, w2, w4, w5, w7, w8, ⟨p1, p2, p3, p4⟩, w6⟩ := hw
  have hts := hC.1.2.2.2.2
  have hmet := Met_of l K had p1 hlen h
  have hgd : GoodIn tb (wsM M2) := wsM_good (by rw [w7]; exact w5)
  have hpre : PreS s H (va_Pc ((Value.ref b :: As).map (cvv K.1)) (PcB K n I G J)) (.ref (K.1 b) :: As.map (cvv K.1)) := ⟨PcB_blind, fun U hU hW => ⟨rfl, PcB_of hC h0 hI hO hS U hU hW⟩⟩
  rcases w1 with w1 | ⟨hown, w1⟩
  · have hcw := cwI (R := R) (own := M.1.cls) (index := ix) (ws := wsM M2) (bytes := M2.2.1) (maxL := M2.2.2.1) (rm := rmD d M2) (mc := M2.2.2.2.2.1) (ms := M2.2.2.2.2.2) w hts hgd (by unfold wsM; rw [w7]) rfl rfl (hts _ w4) (hts _ w1) (hts _ w2) w8 ⟨p2, p3, p4⟩ (Rk_call hR w6)
    have hrun := va_runI (g := F0 m pc a ((As.reverse ++ .ref b :: st).map (cvv K.1))) (b := K.1 b) (As := As.map (cvv K.1)) (rest := st.map (cvv K.1)) (H := H) (locs := locs) (cells := n - n0) (slots := pre n - pre n0) (e := e) (below := below) (meth := meth) (l := l) hC.1 hmet hcw hpre rfl (by rw [List.length_map]; exact hA) (by obtain ⟨lx, h1, -⟩ := hL; exact h1.1) (by simp [cvv]) (lv_room (by rw [cat_cvv]; exact hcat)) hd ⟨Nat.le_trans hm1 hR.2.2.1, Nat.le_trans hm2 hR.2.2.2⟩
    exact E_run hrun hk hn hpn hC hR h0 hI hO hS hL hQ
  · have hlk : va_Nw (.methodLinkNest M.1.cls ix M2.1 RX4) s := by
      have hX := hC.2.2.2.2.2.1
      rw [hown]
      rcases w1 with ⟨rfl, e2⟩ | ⟨rfl, e2⟩ | ⟨rfl, e2⟩
      · rw [e2]; exact hX.1
      · rw [e2]; exact hX.2.1
      · rw [e2]; exact hX.2.2.1
    have hcw := va_cnB (R := R) (own := M.1.cls) (index := ix) (ws := wsM M2) (bytes := M2.2.1) (maxL := M2.2.2.1) (ret := none) (rm := rmD d M2) (mc := M2.2.2.2.2.1) (ms := M2.2.2.2.2.2) w hts hgd (by unfold wsM; rw [w7]) rfl rfl hlk (hts _ w4) ⟨p2, p3, p4⟩ (Rk_call hR w6)
    have hrun := va_runIN (g := F0 m pc a ((As.reverse ++ .ref b :: st).map (cvv K.1))) (b := K.1 b) (As := As.map (cvv K.1)) (rest := st.map (cvv K.1)) (H := H) (locs := locs) (cells := n - n0) (slots := pre n - pre n0) (e := e) (below := below) (meth := meth) (l := l) hC.1 hmet ⟨hcw, w8, hts _ w2⟩ hpre rfl (by rw [List.length_map]; exact hA) (by obtain ⟨lx, h1, -⟩ := hL; exact h1.1) (by simp [cvv]) (lv_room (by rw [cat_cvv]; exact hcat)) hd ⟨Nat.le_trans hm1 hR.2.2.1, Nat.le_trans hm2 hR.2.2.2⟩
    exact E_run hrun hk hn hpn hC hR h0 hI hO hS hL hQ
/-- Object's own constructor -/
theorem E_obj {ix b : Nat} (hd : decode M.2.1 pc = .ok (.invokespecial ix, 3)) (hw : Cond.methodLink M.1.cls ix objectInit ∈ tb ∧ Cond.instanceMethod objectInit ∈ tb ∧ Cond.code objectInit ⟨#[0xb1]⟩ 1 none ∈ tb) (hcat : (st.map fun v => v.category).sum ≤ 8) (hdd : 1 ≤ d) (k : Ev d M n0 (pc + 3) ls st n I G J Φ) : Ev d M n0 pc ls (.ref b :: st) n I G J Φ := by
  intro K B p l e R s m args below meth c H locs Q a hC hR h0 hI hO hS hL hQ
  have hts := hC.1.2.2.2.2
  have hlo : 64 ≤ R.locals := by have := hR.2.1; omega
  refine W.objInit hC.1.1 hC.1.2.1 hC.1.2.2.2.1 (hts _ hw.1) (hts _ hw.2.1) (hts _ hw.2.2) rfl (by obtain ⟨lx, h1, -⟩ := hL; exact h1.1.trans hC.1.2.2.1.symm) (a := K.1 b) (rest := st.map (cvv K.1)) rfl hd (by have := hR.1; omega) ?_ (k K B p l e R s m args below meth c H locs Q a hC hR h0 hI hO hS hL hQ)
  have := lv_room (m := m) (pc := pc) (ls := a) (rest := (.ref b :: st).map (cvv K.1)) (st := st.map (cvv K.1)) (by rw [cat_cvv]; exact hcat)
  omega
end CALL
end
section
/-! ===== new cells ===== -/
theorem dfl_all : ∀ (ci : Nat) (q : vw_C), vwCl[ci]? = some q → ∀ j, j < q.2.2 → defaultValue (tyA ci j) = (if fkd ci j = 0 then .int 0 else if fkd ci j = 1 then .null else .long 0) := cls_all (by decide +kernel) (by decide +kernel) (by decide +kernel) (by decide +kernel) (by decide +kernel) (by decide +kernel)
section ALLOC
variable {d : Nat} {M : Mt} {n0 pc : Nat} {ls : List (Option Value)} {st : List Value} {n : Nat} {I : MI} {G : MG} {J : MJ} {Φ : Ph}
/-- the world with one cell more -/
theorem Iw_push {K : Pk} {I' : MI} {G' : MG} {J' : MJ} {H H1 : Heap} (hI : Iw K n I G J H) (hn : n < 1000) (z : H1.size = H.size + 1) (oq : ∀ q : Nat, q < H.size → H1[q]? = H[q]?) (he : va_at K.2.2.1 vwCl (K.1 n, celE K I' G' J' n) H1) (h1 : ∀ x, x < n → I' x = I x) (h2 : ∀ x, x < n → G' x = G x) (h3 : ∀ x, x < n → J' x = J x) : Iw K (n + 1) I' G' J' H1 := by
  refine ⟨?_, by rw [z, hI.2.1]; omega, by omega⟩
  rw [← wsO_succ h1 h2 h3 rfl]
  refine (hI.1.kept (fun k x hx => oq x.1 ((hI.1 k x hx).lt))).app (fun k x hx => ?_)
  have hz : k < 1 := (List.getElem?_eq_some_iff.mp hx).1
  rw [show k = 0 by omega] at hx
  cases hx
  exact he
theorem vS_push {K : Pk} {H0 H H1 : Heap} {locs : List Loc} (hS : va_S (Aw K) H0 H locs) (z : H.size ≤ H1.size) (oq : ∀ q : Nat, q < H.size → H1[q]? = H[q]?) : va_S (Aw K) H0 H1 locs :=
  ⟨Nat.le_trans hS.1 z, fun x h1 h2 => (oq x (Nat.lt_of_lt_of_le h1 hS.1)).trans (hS.2.1 x h1 h2), hS.2.2⟩
theorem E_new {ix : Nat} (ci z : Nat) (hd : decode M.2.1 pc = .ok (.new ix, 3)) (hq : ∃ q, vwCl[ci]? = some q ∧ q.2.2 = z ∧ Cond.classLink M.1.cls ix q.1 ∈ tb ∧ Cond.instantiable q.1 z ∈ tb ∧ Cond.initialized q.1 ∈ tb) (hs : shp n = (ci, z)) (hn : n < 1000) (hn0 : n0 ≤ n) (hpn : pre n0 ≤ pre n) (hp : pre (n + 1) = pre n + z) (hm1 : n - n0 + 1 ≤ M.2.2.2.2.1) (hm2 : pre n - pre n0 + z ≤ M.2.2.2.2.2)
    (k : Ev d M n0 (pc + 3) ls (.ref n :: st) (n + 1) (ur I n (fun _ => 0)) (ur G n (fun _ => none)) (ur J n (fun _ => 0)) Φ) : Ev d M n0 pc ls st n I G J Φ := by
  intro K B p l e R s m args below meth c H locs Q a hC hR h0 hI hO hS hL hQ
  have had := hC.2.2.2.2.2.2
  have hts := hC.1.2.2.2.2
  obtain ⟨q, hq, hz, w1, w2, w3⟩ := hq
  have hKn := hC.2.2.2.2.1.1 ci _ hq
  have hsz : H.size = K.1 n := by rw [hI.2.1, had n hn]
  refine W.newcK hC.1.1 hC.1.2.1 hC.1.2.2.2.1 (hts _ w1) (hts _ w2) (hts _ w3) rfl hd (Nat.le_trans hm1 hR.2.2.1) (Nat.le_trans hm2 hR.2.2.2) hKn.2.1 hsz fun H1 kC hkC e1 z1 o1 => ?_
  have hw := k K B p l e R s m args below meth c H1 locs Q a hC hR h0 (Iw_push hI hn (by rw [z1, hsz]) (fun x hx => o1 x (by rw [← hsz]; exact hx)) ?_ (fun x hx => ur_ne _ _ (by omega)) (fun x hx => ur_ne _ _ (by omega)) (fun x hx => ur_ne _ _ (by omega))) (hO.mem (fun x hx => ur_ne _ _ (by omega)) (fun x hx => ur_ne _ _ (by omega))) (vS_push hS (by rw [z1, hsz]; omega) (fun x hx => o1 x (by rw [← hsz]; exact hx))) hL hQ
  · rw [show n + 1 - n0 = n - n0 + 1 by omega, show pre (n + 1) - pre n0 = pre n - pre n0 + z by omega] at hw
    exact hw
  · rw [cel_obj hs (cls_6 hq)]
    refine ⟨q, hq, (u_born (tyA ci) hts (cls_in ci q hq) hKn hkC e1 (cls_ty ci q hq)).to (fun j hj => ?_)⟩
    rw [dfl_all ci q hq j hj]
    simp only [vp_V, List.getD_eq_getElem?_getD, List.getElem?_map, List.getElem?_range (show j < z by omega), Option.map_some, Option.getD_some, fval, ur_at, va_rf, Option.map_none]
def aTy : Nat → ArrayType := fun t => if t = 0 then .int else if t = 1 then .char else .boolean
theorem E_newa {at_ : ArrayType} {w : Int32} (t z : Nat) (hd : decode M.2.1 pc = .ok (.newarray at_, 2)) (ht : t < 3) (hat : at_ = aTy t) (hw : Cond.arrayClass (newarray.typeOf at_) ∈ tb) (hs : shp n = (6 + t, z)) (hwn : ¬ w < 0) (hwz : w.toNatClampNeg = z) (hzb : z ≤ 100000) (hn : n < 1000) (hn0 : n0 ≤ n) (hpn : pre n0 ≤ pre n) (hp : pre (n + 1) = pre n + z) (hm1 : n - n0 + 1 ≤ M.2.2.2.2.1) (hm2 : pre n - pre n0 + z ≤ M.2.2.2.2.2)
    (k : Ev d M n0 (pc + 2) ls (.ref n :: st) (n + 1) (ur I n (fun _ => 0)) (ur G n (fun _ => none)) (ur J n (fun _ => 0)) Φ) : Ev d M n0 pc ls (.int w :: st) n I G J Φ := by
  intro K B p l e R s m args below meth c H locs Q a hC hR h0 hI hO hS hL hQ
  have had := hC.2.2.2.2.2.2
  have hts := hC.1.2.2.2.2
  have hsz : H.size = K.1 n := by rw [hI.2.1, had n hn]
  refine va_newaK (rest := st.map (cvv K.1)) hC.1.1 hC.1.2.1 (hts _ hw) rfl hd rfl hwn hwz (by subst hat; rcases (show t = 0 ∨ t = 1 ∨ t = 2 by omega) with rfl | rfl | rfl <;> simp [aTy, newarray.typeOf, componentBytes] <;> omega) (Nat.le_trans hm1 hR.2.2.1) (Nat.le_trans hm2 hR.2.2.2) hsz fun H1 cA e1 z1 o1 hAr hNm => ?_
  have hcA : cA = K.2.1 t := by
    subst hat
    rcases (show t = 0 ∨ t = 1 ∨ t = 2 by omega) with rfl | rfl | rfl
    · exact Option.some.inj (hNm.symm.trans (hC.2.2.2.2.1.2 0 _ ty_at.1).2)
    · exact Option.some.inj (hNm.symm.trans (hC.2.2.2.2.1.2 1 _ ty_at.2.1).2)
    · exact Option.some.inj (hNm.symm.trans (hC.2.2.2.2.1.2 2 _ ty_at.2.2.1).2)
  have hdf : defaultValue (newarray.typeOf at_) = .int 0 := by
    subst hat
    rcases (show t = 0 ∨ t = 1 ∨ t = 2 by omega) with rfl | rfl | rfl <;> rfl
  have hw2 := k K B p l e R s m args below meth c H1 locs Q a hC hR h0 (Iw_push hI hn (by rw [z1, hsz]) (fun x hx => o1 x (by rw [← hsz]; exact hx)) ?_ (fun x hx => ur_ne _ _ (by omega)) (fun x hx => ur_ne _ _ (by omega)) (fun x hx => ur_ne _ _ (by omega))) (hO.mem (fun x hx => ur_ne _ _ (by omega)) (fun x hx => ur_ne _ _ (by omega))) (vS_push hS (by rw [z1, hsz]; omega) (fun x hx => o1 x (by rw [← hsz]; exact hx))) hL hQ
  · rw [show n + 1 - n0 = n - n0 + 1 by omega, show pre (n + 1) - pre n0 = pre n - pre n0 + z by omega] at hw2
    exact hw2
  · rw [cel_int hs (by omega) (by omega), ur_at]
    show H1[K.1 n]? = some (vp_cell _ _)
    rw [e1, hcA, hdf, vp_cell_i, show 6 + t - 6 = t by omega]
theorem E_anew {ix : Nat} {w : Int32} (z : Nat) (hd : decode M.2.1 pc = .ok (.anewarray ix, 3)) (hw : Cond.classLink M.1.cls ix RX2 ∈ tb) (hs : shp n = (9, z)) (hwn : ¬ w < 0) (hwz : w.toNatClampNeg = z) (hzb : z ≤ 100000) (hn : n < 1000) (hn0 : n0 ≤ n) (hpn : pre n0 ≤ pre n) (hp : pre (n + 1) = pre n + z) (hm1 : n - n0 + 1 ≤ M.2.2.2.2.1) (hm2 : pre n - pre n0 + z ≤ M.2.2.2.2.2)
    (k : Ev d M n0 (pc + 3) ls (.ref n :: st) (n + 1) (ur I n (fun _ => 0)) (ur G n (fun _ => none)) (ur J n (fun _ => 0)) Φ) : Ev d M n0 pc ls (.int w :: st) n I G J Φ := by
  intro K B p l e R s m args below meth c H locs Q a hC hR h0 hI hO hS hL hQ
  have had := hC.2.2.2.2.2.2
  have hts := hC.1.2.2.2.2
  have hsz : H.size = K.1 n := by rw [hI.2.1, had n hn]
  subst hwz
  refine W.anew (rest := st.map (cvv K.1)) hC.1.1 hC.1.2.1 hC.1.2.2.2.1 (hts _ hw) (va_AO.use hC.2.2.2.2.2.1.2.2.2.1) rfl hd rfl hwn (by omega) (Nat.le_trans hm1 hR.2.2.1) (Nat.le_trans hm2 hR.2.2.2) fun cA kA comp f1 f2 f3 f4 => ?_
  generalize hH1 : H.push ({ cls := cA, slots := Array.replicate w.toNatClampNeg .null, vm := .none } : Cell) = H1
  have z1 : H1.size = H.size + 1 := by rw [← hH1, Array.size_push]
  have e1 : H1[H.size]? = some (arrV cA w.toNatClampNeg (fun _ => .null)) := by rw [← hH1, Array.getElem?_push_size, ← arrV_new]
  have o1 : ∀ q : Nat, q < H.size → H1[q]? = H[q]? := fun q hq => by rw [← hH1, Array.getElem?_push, if_neg (Nat.ne_of_lt hq)]
  have hcA : cA = K.2.1 3 := by
    obtain ⟨kA', comp', -, -, -, h5⟩ := (hC.2.2.2.2.1.2 3 _ ty_at.2.2.2.1).2
    exact Option.some.inj (f1.symm.trans h5)
  have hw2 := k K B p l e R s m args below meth c H1 locs Q a hC hR h0 (Iw_push hI hn z1 o1 ?_ (fun x hx => ur_ne _ _ (by omega)) (fun x hx => ur_ne _ _ (by omega)) (fun x hx => ur_ne _ _ (by omega))) (hO.mem (fun x hx => ur_ne _ _ (by omega)) (fun x hx => ur_ne _ _ (by omega))) (vS_push hS (by rw [z1]; omega) o1) hL hQ
  · rw [show n + 1 - n0 = n - n0 + 1 by omega, show pre (n + 1) - pre n0 = pre n - pre n0 + w.toNatClampNeg by omega] at hw2
    rw [hsz]
    exact hw2
  · rw [cel_ref hs (by omega), ur_at]
    show H1[K.1 n]? = some (vp_cell _ _)
    rw [← hsz, e1, hcA, vp_cell_q]
    rfl
/-- w rows from cell n on are nought -/
def zrI (I : MI) (n w : Nat) : MI := fun x => if n ≤ x ∧ x < n + w then fun _ => 0 else I x
def zrJ (J : MJ) (n w : Nat) : MJ := fun x => if n ≤ x ∧ x < n + w then fun _ => 0 else J x
def zrG (G : MG) (n w : Nat) : MG := fun x => if x = n then fun i => if i + 1 < w then some (n + 1 + i) else none else if n ≤ x ∧ x < n + w then fun _ => none else G x
set_option maxHeartbeats 1000000 in
theorem E_mna {ix : Nat} {w v : Int32} (N z : Nat) (hd : decode M.2.1 pc = .ok (.multianewarray ix 2, 4)) (hw : Cond.classLink M.1.cls ix "[[I" ∈ tb ∧ Cond.arrayClass .int ∈ tb) (hs : shp n = (10, N)) (hss : ∀ j, j < N → shp (n + 1 + j) = (6, z)) (hwn : ¬ w < 0) (hvn : ¬ v < 0) (hwz : w.toNatClampNeg = N) (hvz : v.toNatClampNeg = z) (hzb : z ≤ 1000) (hNb : N ≤ 1000) (hn : n + 1 + N ≤ 1000) (hn0 : n0 ≤ n) (hpn : pre n0 ≤ pre n) (hp : pre (n + 1 + N) = pre n + N + N * z) (hm1 : n - n0 + (1 + N) ≤ M.2.2.2.2.1) (hm2 : pre n - pre n0 + (N + N * z) ≤ M.2.2.2.2.2)
    (k : Ev d M n0 (pc + 4) ls (.ref n :: st) (n + 1 + N) (zrI I n (N + 1)) (zrG G n (N + 1)) (zrJ J n (N + 1)) Φ) : Ev d M n0 pc ls (.int v :: .int w :: st) n I G J Φ := by
  intro K B p l e R s m args below meth c H locs Q a hC hR h0 hI hO hS hL hQ
  have had := hC.2.2.2.2.2.2
  have hts := hC.1.2.2.2.2
  have hsz : H.size = K.1 n := by rw [hI.2.1, had n (by omega)]
  subst hwz
  subst hvz
  intro T hT Xs
  obtain ⟨vm₁, cA, comp, -, fA, fC, hO2, -, X', step⟩ := Xs.multianewarray2F hC.1.1 hC.1.2.2.2.1 (ty := .int) (hts _ hw.1) (Jvm.Stand.arrayOver_alikeB (Vm.Alike.refl _) hC.2.2.2.2.2.1.2.2.2.2) (hts _ hw.2) (g := F0 m pc a (.int v :: .int w :: st.map (cvv K.1))) rfl (by rw [hC.1.2.1]; exact hd) rfl hwn hvn (by omega) (by simp [componentBytes]; omega) (by omega) rfl rfl (Nat.le_trans hm1 hR.2.2.1) (Nat.le_trans hm2 hR.2.2.2)
  have hcA : cA = K.2.1 4 := Option.some.inj (fA.symm.trans (hC.2.2.2.2.1.2 4 _ ty_at.2.2.2.2).2)
  have hcC : comp = K.2.1 0 := Option.some.inj (fC.symm.trans (hC.2.2.2.2.1.2 0 _ ty_at.1).2)
  subst hcA
  subst hcC
  generalize hF : Jvm.Free.Multi.fill (T.setVm vm₁) (K.2.1 4) (K.2.1 0) w.toNatClampNeg v.toNatClampNeg (defaultValue .int) w.toNatClampNeg = F at X' step
  have hTh : (T.setVm vm₁).heap = H := hT
  obtain ⟨f1, f2, -, -⟩ := Jvm.Free.Multi.fill_facts (T.setVm vm₁) (K.2.1 4) (K.2.1 0) w.toNatClampNeg v.toNatClampNeg (defaultValue .int) w.toNatClampNeg
  rw [hF, hTh] at f1 f2
  have hold : ∀ x : Nat, x < H.size → F.heap[x]? = H[x]? := fun x hx => by
    have := Jvm.Free.Multi.fill_old (T.setVm vm₁) (K.2.1 4) (K.2.1 0) w.toNatClampNeg v.toNatClampNeg (defaultValue .int) (a := x) (by rw [hTh]; exact hx) w.toNatClampNeg
    rw [hF, hTh] at this
    exact this
  have hrow : ∀ j : Nat, j < w.toNatClampNeg → F.heap[H.size + 1 + j]? = some (vp_cell (K.2.1 0) (v.toNatClampNeg, .inl (fun _ => 0))) := fun j hj => by
    have := Jvm.Free.Multi.fill_inner (T.setVm vm₁) (K.2.1 4) (K.2.1 0) w.toNatClampNeg v.toNatClampNeg (defaultValue .int) w.toNatClampNeg j hj
    rw [hF, hTh] at this
    rw [this, vp_cell_i, ← arrV_new]
    rfl
  have hI1 : Iw K (n + 1 + w.toNatClampNeg) (zrI I n (w.toNatClampNeg + 1)) (zrG G n (w.toNatClampNeg + 1)) (zrJ J n (w.toNatClampNeg + 1)) F.heap := by
    refine ⟨fun i q hq => ?_, by rw [f1, hI.2.1]; omega, hn⟩
    have hil : i < n + 1 + w.toNatClampNeg := by
      have := (List.getElem?_eq_some_iff.mp hq).1
      simpa [wsO] using this
    rw [wsO_at hil] at hq
    cases hq
    rcases Nat.lt_trichotomy i n with hlt | heq | hgt
    · rw [celE_congr (I := I) (G := G) (J := J) (by unfold zrI; rw [if_neg (by omega)]) (by unfold zrG; rw [if_neg (by omega), if_neg (by omega)]) (by unfold zrJ; rw [if_neg (by omega)])]
      exact (hI.1 i _ (wsO_at hlt)).kept (hold _ ((hI.1 i _ (wsO_at hlt)).lt))
    · subst heq
      rw [cel_ref hs (by omega)]
      show F.heap[K.1 i]? = some (vp_cell _ _)
      rw [← hsz, f2, vp_cell_q]
      have key : ∀ t : Nat, Jvm.Free.Multi.outerC (K.2.1 4) w.toNatClampNeg H.size t = arrV (K.2.1 4) w.toNatClampNeg (fun j => va_rf (if j < t then some (H.size + 1 + j) else none)) := by
        intro t
        induction t with
        | zero =>
          show ({ cls := K.2.1 4, slots := Array.replicate w.toNatClampNeg .null, vm := .none } : Cell) = _
          rw [arrV_new]
          refine congrArg (arrV (K.2.1 4) w.toNatClampNeg) (funext fun j => ?_)
          simp [va_rf]
        | succ t ih =>
          show (Jvm.Free.Multi.outerC (K.2.1 4) w.toNatClampNeg H.size t).setSlot t (.ref (H.size + 1 + t)) = _
          rw [ih, arrV_store]
          refine congrArg (arrV (K.2.1 4) w.toNatClampNeg) (funext fun j => ?_)
          by_cases e9 : j = t
          · subst e9
            simp [updV, va_rf]
          · by_cases h9 : j < t
            · simp [updV, e9, h9, Nat.lt_succ_of_lt h9]
            · simp [updV, e9, h9, show ¬ j < t + 1 by omega]
      rw [key]
      congr 2
      funext j
      have hadj : w.toNatClampNeg ≤ 1000 := hNb
      by_cases hj : j < w.toNatClampNeg
      · have h10 : K.1 (i + 1 + j) = H.size + 1 + j := by rw [had (i + 1 + j) (by omega), hI.2.1]; omega
        simp [zrG, hj, h10]
      · simp [zrG, hj]
    · obtain ⟨j, rfl⟩ : ∃ j, i = n + 1 + j := ⟨i - n - 1, by omega⟩
      rw [cel_int (hss j (by omega)) (by omega) (by omega)]
      show F.heap[K.1 (n + 1 + j)]? = some (vp_cell _ _)
      have h10 : K.1 (n + 1 + j) = H.size + 1 + j := by rw [had (n + 1 + j) (by omega), hI.2.1]; omega
      rw [h10, hrow j (by omega)]
      unfold zrI
      rw [if_pos (by omega)]
  have hw2 := k K B p l e R s m args below meth c F.heap locs Q a hC hR h0 hI1 (hO.mem (fun x hx => by unfold zrI; rw [if_neg (by omega)]) (fun x hx => by unfold zrG; rw [if_neg (by omega), if_neg (by omega)])) (vS_push hS (by rw [f1]; omega) hold) hL hQ
  rw [show n + 1 + w.toNatClampNeg - n0 = n - n0 + 1 + w.toNatClampNeg by omega, show pre (n + 1 + w.toNatClampNeg) - pre n0 = pre n - pre n0 + w.toNatClampNeg + w.toNatClampNeg * v.toNatClampNeg by omega] at hw2
  obtain ⟨t, a1, b1⟩ := hw2 F rfl X'
  refine ⟨t, step t ?_, b1⟩
  have e9 : T.heap.size = K.1 n := by rw [hT, hsz]
  rw [e9]
  exact a1
end ALLOC
end
section
/-! ===== shorter forms ===== -/
theorem vpd {i : Int32} {n : Nat} (h : decide (¬ (i < 0 ∨ n ≤ i.toNatClampNeg)) = true) : vp_in i n := by unfold vp_in; exact of_decide_eq_true h
section CONV
variable {d : Nat} {M : Mt} {n0 pc : Nat} {ls : List (Option Value)} {st : List Value} {n : Nat} {I : MI} {G : MG} {J : MJ} {Φ : Ph}
theorem E_max {ix : Nat} {x y : Int32} (hd : decode M.2.1 pc = .ok (.invokestatic ix, 3)) (hw : Cond.methodLink M.1.cls ix Lib.Math.max.name ∈ tb ∧ Cond.static Lib.Math.max.name ∈ tb ∧ Cond.initialized "java/lang/Math" ∈ tb ∧ Cond.code Lib.Math.max.name Lib.Math.max.code 2 (some .int) ∈ tb) (hcat : (st.map fun v => v.category).sum ≤ 8) (k : Ev (d + 1) M n (pc + 3) ls (.int (if x < y then y else x) :: st) n I G J Φ) : Ev (d + 1) M n pc ls (.int y :: .int x :: st) n I G J Φ := by
  intro K B p l e R s m args below meth c H locs Q a hC hR h0 hI hO hS hL hQ
  have hts := hC.1.2.2.2.2
  have hlo : 64 ≤ R.locals := by have := hR.2.1; omega
  exact va_mmax (rest := st.map (cvv K.1)) hC.1.1 hC.1.2.1 (by obtain ⟨lx, h1, -⟩ := hL; exact hC.1.2.2.1.trans h1.1.symm) hC.1.2.2.2.1 (hts _ hw.1) (hts _ hw.2.1) (hts _ hw.2.2.1) (hts _ hw.2.2.2) (by have := hR.1; omega) (by rw [cat_cvv]; omega) (by omega) (by omega) hd (k K B p l e R s m args below meth c H locs Q a hC hR h0 hI hO hS hL hQ)
theorem E_min {ix : Nat} {x y : Int32} (hd : decode M.2.1 pc = .ok (.invokestatic ix, 3)) (hw : Cond.methodLink M.1.cls ix Lib.Math.min.name ∈ tb ∧ Cond.static Lib.Math.min.name ∈ tb ∧ Cond.initialized "java/lang/Math" ∈ tb ∧ Cond.code Lib.Math.min.name Lib.Math.min.code 2 (some .int) ∈ tb) (hcat : (st.map fun v => v.category).sum ≤ 8) (k : Ev (d + 1) M n (pc + 3) ls (.int (if y < x then y else x) :: st) n I G J Φ) : Ev (d + 1) M n pc ls (.int y :: .int x :: st) n I G J Φ := by
  intro K B p l e R s m args below meth c H locs Q a hC hR h0 hI hO hS hL hQ
  have hts := hC.1.2.2.2.2
  have hlo : 64 ≤ R.locals := by have := hR.2.1; omega
  exact va_mmin (rest := st.map (cvv K.1)) hC.1.1 hC.1.2.1 (by obtain ⟨lx, h1, -⟩ := hL; exact hC.1.2.2.1.trans h1.1.symm) hC.1.2.2.2.1 (hts _ hw.1) (hts _ hw.2.1) (hts _ hw.2.2.1) (hts _ hw.2.2.2) (by have := hR.1; omega) (by rw [cat_cvv]; omega) (by omega) (by omega) hd (k K B p l e R s m args below meth c H locs Q a hC hR h0 hI hO hS hL hQ)
/-- calls that make nothing -/
theorem E_cv {ix : Nat} (M2 : Mt) (w ci z : Nat) {b : Nat} {As : List Value} {Ψ : Ph} (hd : decode M.2.1 pc = .ok (.invokevirtual ix, 3)) (hw : LkV M.1.cls ix M2 w) (hci : ∃ q, vwCl[ci]? = some q ∧ q.1 = M2.1.cls) (hs : shn n b = (ci, z)) (hA : As.length = w) (hcat : (st.map fun v => v.category).sum ≤ 8) (hz : M2.2.2.2.2.1 = 0 ∧ M2.2.2.2.2.2 = 0) (hlen : (ent (.ref b :: As)).length ≤ M2.2.2.1) {stk : List Value} (hst : stk = As.reverse ++ .ref b :: st)
    (h : Ev d M2 n 0 (entN M2.2.2.1 (.ref b :: As)) [] n I G J Ψ) (hk : ∀ r n1 I1 G1 J1, Ψ r n1 I1 G1 J1 → Ev (d + 1) M n (pc + 3) ls (r.toList ++ st) n1 I1 G1 J1 Φ) : Ev (d + 1) M n pc ls stk n I G J Φ :=
  E_invv M2 w ci z hd hw hci hs hA hcat (Nat.le_refl _) (Nat.le_refl _) (by rw [hz.1]; omega) (by rw [hz.2]; omega) hlen h hk hst
theorem E_cs {ix : Nat} (M2 : Mt) (w : Nat) {As : List Value} {Ψ : Ph} (hd : decode M.2.1 pc = .ok (.invokestatic ix, 3)) (hw : LkS M.1.cls ix M2 w) (hA : As.length = w) (hcat : (st.map fun v => v.category).sum ≤ 8) (hz : M2.2.2.2.2.1 = 0 ∧ M2.2.2.2.2.2 = 0) (hlen : (ent As).length ≤ M2.2.2.1) {stk : List Value} (hst : stk = As.reverse ++ st)
    (h : Ev d M2 n 0 (entN M2.2.2.1 As) [] n I G J Ψ) (hk : ∀ r n1 I1 G1 J1, Ψ r n1 I1 G1 J1 → Ev (d + 1) M n (pc + 3) ls (r.toList ++ st) n1 I1 G1 J1 Φ) : Ev (d + 1) M n pc ls stk n I G J Φ :=
  E_invs M2 w hd hw hA hcat (Nat.le_refl _) (Nat.le_refl _) (by rw [hz.1]; omega) (by rw [hz.2]; omega) hlen h hk hst
/-- indices by their numbers -/
theorem E_ia {i : Int32} (c z j : Nat) (hd : decode M.2.1 pc = .ok (.iaload, 1)) (hs : shn n c = (6, z)) (hin : vp_in i z) (hj : i.toNatClampNeg = j) (k : Ev d M n0 (pc + 1) ls (.int (I c j) :: st) n I G J Φ) : Ev d M n0 pc ls (.int i :: .ref c :: st) n I G J Φ := by
  subst hj
  exact E_iald c z hd hs hin k
theorem E_ca {i : Int32} (c z j : Nat) (hd : decode M.2.1 pc = .ok (.caload, 1)) (hs : shn n c = (7, z)) (hin : vp_in i z) (hj : i.toNatClampNeg = j) (k : Ev d M n0 (pc + 1) ls (.int (I c j) :: st) n I G J Φ) : Ev d M n0 pc ls (.int i :: .ref c :: st) n I G J Φ := by
  subst hj
  exact E_cald c z hd hs hin k
theorem E_za {i : Int32} (c z j : Nat) (hd : decode M.2.1 pc = .ok (.baload, 1)) (hs : shn n c = (8, z)) (hin : vp_in i z) (hj : i.toNatClampNeg = j) (k : Ev d M n0 (pc + 1) ls (.int (I c j) :: st) n I G J Φ) : Ev d M n0 pc ls (.int i :: .ref c :: st) n I G J Φ := by
  subst hj
  exact E_zald c z hd hs hin k
theorem E_is {i x : Int32} (c z j : Nat) (hd : decode M.2.1 pc = .ok (.iastore, 1)) (hs : shn n c = (6, z)) (hin : vp_in i z) (hj : i.toNatClampNeg = j) (k : Ev d M n0 (pc + 1) ls st n (u2 I c j x) G J Φ) : Ev d M n0 pc ls (.int x :: .int i :: .ref c :: st) n I G J Φ := by
  subst hj
  exact E_iast c z hd hs hin k
theorem E_cs1 {i x : Int32} (c z j : Nat) (y : Int32) (hd : decode M.2.1 pc = .ok (.castore, 1)) (hs : shn n c = (7, z)) (hin : vp_in i z) (hj : i.toNatClampNeg = j) (hx : narrow .char (.int x) = .int y) (k : Ev d M n0 (pc + 1) ls st n (u2 I c j y) G J Φ) : Ev d M n0 pc ls (.int x :: .int i :: .ref c :: st) n I G J Φ := by
  subst hj
  exact E_cast c z hd hs hin hx k
theorem E_zs {i x : Int32} (c z j : Nat) (y : Int32) (hd : decode M.2.1 pc = .ok (.bastore, 1)) (hs : shn n c = (8, z)) (hin : vp_in i z) (hj : i.toNatClampNeg = j) (hx : narrow .boolean (.int x) = .int y) (k : Ev d M n0 (pc + 1) ls st n (u2 I c j y) G J Φ) : Ev d M n0 pc ls (.int x :: .int i :: .ref c :: st) n I G J Φ := by
  subst hj
  exact E_zast c z hd hs hin hx k
theorem E_aa {i : Int32} (c z j r : Nat) (hd : decode M.2.1 pc = .ok (.aaload, 1)) (hs : shn n c = (9, z)) (hin : vp_in i z) (hj : i.toNatClampNeg = j) (hr : G c j = some r) (k : Ev d M n0 (pc + 1) ls (.ref r :: st) n I G J Φ) : Ev d M n0 pc ls (.int i :: .ref c :: st) n I G J Φ := by
  subst hj
  exact E_aald c z r hd hs hin hr k
theorem E_ag {i : Int32} (c z j r : Nat) (hd : decode M.2.1 pc = .ok (.aaload, 1)) (hs : shn n c = (10, z)) (hin : vp_in i z) (hj : i.toNatClampNeg = j) (hr : G c j = some r) (k : Ev d M n0 (pc + 1) ls (.ref r :: st) n I G J Φ) : Ev d M n0 pc ls (.int i :: .ref c :: st) n I G J Φ := by
  subst hj
  exact E_aald2 c z r hd hs hin hr k
theorem E_as {i : Int32} (c z j r zr : Nat) (hd : decode M.2.1 pc = .ok (.aastore, 1)) (hs : shn n c = (9, z)) (hr : shn n r = (2, zr)) (hin : vp_in i z) (hj : i.toNatClampNeg = j) (k : Ev d M n0 (pc + 1) ls st n I (u2 G c j (some r)) J Φ) : Ev d M n0 pc ls (.ref r :: .int i :: .ref c :: st) n I G J Φ := by
  subst hj
  exact E_aast c z r zr hd hs hr hin k
theorem E_ou {i : Int32} (c j : Nat) (hd : decode M.2.1 pc = .ok (.iaload, 1)) (h1 : 1000 ≤ c) (h2 : c < 1005) (hin : vp_in i (oul G c)) (hj : i.toNatClampNeg = j) (k : Ev d M n0 (pc + 1) ls (.int (I c j) :: st) n I G J Φ) : Ev d M n0 pc ls (.int i :: .ref c :: st) n I G J Φ := by
  subst hj
  exact E_ould c hd h1 h2 hin k
/-- returns of methods that make nothing -/
theorem E_ri {v : Int32} (hd : decode M.2.1 pc = .ok (.ireturn, 1)) (hr : M.2.2.2.1 = some .int) (hz : M.2.2.2.2.1 = 0 ∧ M.2.2.2.2.2 = 0) (k : Φ (some (.int v)) n I G J) : Ev d M n pc ls [.int v] n I G J Φ := E_iret hd (Or.inl hr) (by rw [hz.1]; rfl) (by rw [hz.2]; rfl) k
theorem E_rz {v : Int32} (hd : decode M.2.1 pc = .ok (.ireturn, 1)) (hr : M.2.2.2.1 = some .boolean) (hv : narrow .boolean (.int v) = .int v) (hz : M.2.2.2.2.1 = 0 ∧ M.2.2.2.2.2 = 0) (k : Φ (some (.int v)) n I G J) : Ev d M n pc ls [.int v] n I G J Φ := E_iret hd (Or.inr ⟨hr, hv⟩) (by rw [hz.1]; rfl) (by rw [hz.2]; rfl) k
theorem E_rl {v : Int64} (hd : decode M.2.1 pc = .ok (.lreturn, 1)) (hr : M.2.2.2.1 = some .long) (hz : M.2.2.2.2.1 = 0 ∧ M.2.2.2.2.2 = 0) (k : Φ (some (.long v)) n I G J) : Ev d M n pc ls [.long v] n I G J Φ := E_lret hd hr (by rw [hz.1]; rfl) (by rw [hz.2]; rfl) k
theorem E_rv (hd : decode M.2.1 pc = .ok (.return_, 1)) (hr : M.2.2.2.1 = none) (hz : M.2.2.2.2.1 = 0 ∧ M.2.2.2.2.2 = 0) (k : Φ none n I G J) : Ev d M n pc ls [] n I G J Φ := E_vret hd hr (by rw [hz.1]; rfl) (by rw [hz.2]; rfl) k
end CONV
end
section
abbrev mJ6_bitCount_0f7a4 : Mt := (yJ6_bitCount_0f7a4, cJ6_bitCount_0f7a4, 1, some .int, 0, 0)
abbrev mJ9_max_7cf53 : Mt := (yJ9_max_7cf53, cJ9_max_7cf53, 2, some .int, 0, 0)
abbrev mJ9_min_7cf53 : Mt := (yJ9_min_7cf53, cJ9_min_7cf53, 2, some .int, 0, 0)
abbrev mL_law : Mt := (yL_law, cL_law, 4, some .boolean, 136, 2689)
abbrev mX0_explore : Mt := (yX0_explore, cX0_explore, 5, none, 0, 0)
abbrev mX0_init : Mt := (yX0_init, cX0_init, 1, none, 10, 40)
abbrev mX0_isIn : Mt := (yX0_isIn, cX0_isIn, 2, some .boolean, 0, 0)
abbrev mX0_isJustEnough : Mt := (yX0_isJustEnough, cX0_isJustEnough, 6, some .boolean, 0, 0)
abbrev mX0_keepRow : Mt := (yX0_keepRow, cX0_keepRow, 4, none, 0, 0)
abbrev mX0_search : Mt := (yX0_search, cX0_search, 4, none, 0, 0)
abbrev mX0_tire : Mt := (yX0_tire, cX0_tire, 6, none, 0, 0)
abbrev mX1_addHill : Mt := (yX1_addHill, cX1_addHill, 2, none, 0, 0)
abbrev mX1_addJoin : Mt := (yX1_addJoin, cX1_addJoin, 2, none, 0, 0)
abbrev mX1_addMan : Mt := (yX1_addMan, cX1_addMan, 2, none, 0, 0)
abbrev mX1_empty : Mt := (yX1_empty, cX1_empty, 1, none, 0, 0)
abbrev mX1_forceOf : Mt := (yX1_forceOf, cX1_forceOf, 4, some .int, 0, 0)
abbrev mX1_hasHill : Mt := (yX1_hasHill, cX1_hasHill, 2, some .boolean, 0, 0)
abbrev mX1_hasLedge : Mt := (yX1_hasLedge, cX1_hasLedge, 3, some .boolean, 0, 0)
abbrev mX1_hasMan : Mt := (yX1_hasMan, cX1_hasMan, 2, some .boolean, 0, 0)
abbrev mX1_init : Mt := (yX1_init, cX1_init, 1, none, 8, 31)
abbrev mX1_isOnePlace : Mt := (yX1_isOnePlace, cX1_isOnePlace, 6, some .boolean, 0, 0)
abbrev mX1_rainsOn : Mt := (yX1_rainsOn, cX1_rainsOn, 2, some .boolean, 0, 0)
abbrev mX2_begin : Mt := (yX2_begin, cX2_begin, 3, none, 0, 0)
abbrev mX2_blockersAt : Mt := (yX2_blockersAt, cX2_blockersAt, 7, some .int, 0, 0)
abbrev mX2_canComeUp : Mt := (yX2_canComeUp, cX2_canComeUp, 3, some .boolean, 0, 0)
abbrev mX2_copyFrom : Mt := (yX2_copyFrom, cX2_copyFrom, 2, none, 0, 0)
abbrev mX2_fallDusk : Mt := (yX2_fallDusk, cX2_fallDusk, 5, none, 0, 0)
abbrev mX2_freeSteps : Mt := (yX2_freeSteps, cX2_freeSteps, 5, some .int, 0, 0)
abbrev mX2_hoursLeft : Mt := (yX2_hoursLeft, cX2_hoursLeft, 2, some .int, 0, 0)
abbrev mX2_init : Mt := (yX2_init, cX2_init, 1, none, 5, 34)
abbrev mX2_isOver : Mt := (yX2_isOver, cX2_isOver, 3, some .boolean, 0, 0)
abbrev mX2_menAt : Mt := (yX2_menAt, cX2_menAt, 5, some .int, 0, 0)
abbrev mX2_needOf : Mt := (yX2_needOf, cX2_needOf, 3, some .int, 0, 0)
abbrev mX2_overBits : Mt := (yX2_overBits, cX2_overBits, 4, some .int, 0, 0)
abbrev mX2_passDay : Mt := (yX2_passDay, cX2_passDay, 4, none, 0, 0)
abbrev mX2_passHour : Mt := (yX2_passHour, cX2_passHour, 6, some .int, 0, 0)
abbrev mX2_rest : Mt := (yX2_rest, cX2_rest, 3, none, 0, 0)
abbrev mX2_sizeNow : Mt := (yX2_sizeNow, cX2_sizeNow, 3, some .int, 0, 0)
abbrev mX2_strengthAfter : Mt := (yX2_strengthAfter, cX2_strengthAfter, 5, some .int, 0, 0)
abbrev mX2_strengthAt : Mt := (yX2_strengthAt, cX2_strengthAt, 5, some .int, 0, 0)
abbrev mX2_writeDown : Mt := (yX2_writeDown, cX2_writeDown, 4, none, 0, 0)
abbrev mX2_writtenStep : Mt := (yX2_writtenStep, cX2_writtenStep, 3, some .int, 0, 0)
abbrev mX3_addItem : Mt := (yX3_addItem, cX3_addItem, 3, none, 0, 0)
abbrev mX3_canStand : Mt := (yX3_canStand, cX3_canStand, 2, some .boolean, 0, 0)
abbrev mX3_fits : Mt := (yX3_fits, cX3_fits, 4, some .boolean, 0, 0)
abbrev mX3_fitsJoin : Mt := (yX3_fitsJoin, cX3_fitsJoin, 3, some .boolean, 0, 0)
abbrev mX3_init : Mt := (yX3_init, cX3_init, 2, none, 1, 4)
abbrev mX3_isDigit : Mt := (yX3_isDigit, cX3_isDigit, 1, some .boolean, 0, 0)
abbrev mX3_isSign : Mt := (yX3_isSign, cX3_isSign, 1, some .boolean, 0, 0)
abbrev mX3_isWithin : Mt := (yX3_isWithin, cX3_isWithin, 3, some .boolean, 0, 0)
abbrev mX3_numbersOf : Mt := (yX3_numbersOf, cX3_numbersOf, 1, some .int, 0, 0)
abbrev mX3_readAll : Mt := (yX3_readAll, cX3_readAll, 4, some .int, 0, 0)
abbrev mX3_readItem : Mt := (yX3_readItem, cX3_readItem, 5, some .boolean, 0, 0)
abbrev mX3_take : Mt := (yX3_take, cX3_take, 1, none, 0, 0)
abbrev mX3_takeNumber : Mt := (yX3_takeNumber, cX3_takeNumber, 3, none, 0, 0)
abbrev mX4_agrees : Mt := (yX4_agrees, cX4_agrees, 3, some .boolean, 0, 0)
abbrev mX4_allPush : Mt := (yX4_allPush, cX4_allPush, 3, none, 0, 0)
abbrev mX4_back : Mt := (yX4_back, cX4_back, 2, some .int, 0, 0)
abbrev mX4_blocks : Mt := (yX4_blocks, cX4_blocks, 2, some .int, 0, 0)
abbrev mX4_clear : Mt := (yX4_clear, cX4_clear, 2, some .int, 0, 0)
abbrev mX4_commonDivisor : Mt := (yX4_commonDivisor, cX4_commonDivisor, 7, some .long, 0, 0)
abbrev mX4_count : Mt := (yX4_count, cX4_count, 2, some .int, 0, 0)
abbrev mX4_crew : Mt := (yX4_crew, cX4_crew, 6, some .int, 0, 0)
abbrev mX4_days : Mt := (yX4_days, cX4_days, 3, some .int, 0, 0)
abbrev mX4_evening : Mt := (yX4_evening, cX4_evening, 3, some .int, 0, 0)
abbrev mX4_forget : Mt := (yX4_forget, cX4_forget, 2, some .int, 0, 0)
abbrev mX4_highest : Mt := (yX4_highest, cX4_highest, 4, some .int, 0, 0)
abbrev mX4_hill : Mt := (yX4_hill, cX4_hill, 3, some .int, 0, 0)
abbrev mX4_hills : Mt := (yX4_hills, cX4_hills, 4, some .int, 0, 0)
abbrev mX4_hour : Mt := (yX4_hour, cX4_hour, 2, some .int, 0, 0)
abbrev mX4_init : Mt := (yX4_init, cX4_init, 2, none, 121, 964)
abbrev mX4_isOverBehind : Mt := (yX4_isOverBehind, cX4_isOverBehind, 5, some .boolean, 0, 0)
abbrev mX4_keep : Mt := (yX4_keep, cX4_keep, 2, some .int, 0, 0)
abbrev mX4_little : Mt := (yX4_little, cX4_little, 4, some .int, 0, 0)
abbrev mX4_man : Mt := (yX4_man, cX4_man, 3, some .int, 0, 0)
abbrev mX4_now : Mt := (yX4_now, cX4_now, 2, some .int, 0, 0)
abbrev mX4_odds : Mt := (yX4_odds, cX4_odds, 14, some .long, 0, 0)
abbrev mX4_order : Mt := (yX4_order, cX4_order, 4, some .int, 0, 0)
abbrev mX4_power : Mt := (yX4_power, cX4_power, 5, some .long, 0, 0)
abbrev mX4_rainWeight : Mt := (yX4_rainWeight, cX4_rainWeight, 4, some .long, 0, 0)
abbrev mX4_rate : Mt := (yX4_rate, cX4_rate, 3, some .int, 0, 0)
abbrev mX4_rateAs : Mt := (yX4_rateAs, cX4_rateAs, 4, some .int, 0, 0)
abbrev mX4_remember : Mt := (yX4_remember, cX4_remember, 3, none, 0, 0)
abbrev mX4_saw : Mt := (yX4_saw, cX4_saw, 3, some .int, 0, 0)
abbrev mX4_stone : Mt := (yX4_stone, cX4_stone, 3, some .int, 0, 0)
abbrev mX4_trace : Mt := (yX4_trace, cX4_trace, 1, some .long, 0, 0)
abbrev mX4_type : Mt := (yX4_type, cX4_type, 2, some .int, 0, 0)
abbrev mX4_undo : Mt := (yX4_undo, cX4_undo, 1, some .int, 0, 0)
abbrev mX4_wear : Mt := (yX4_wear, cX4_wear, 4, some .int, 0, 0)
abbrev mX4_written : Mt := (yX4_written, cX4_written, 3, some .int, 0, 0)
abbrev mX5_back : Mt := (yX5_back, cX5_back, 2, some .int, 0, 0)
abbrev mX5_begin : Mt := (yX5_begin, cX5_begin, 2, none, 0, 0)
abbrev mX5_blocks : Mt := (yX5_blocks, cX5_blocks, 2, some .int, 0, 0)
abbrev mX5_blocksIn : Mt := (yX5_blocksIn, cX5_blocksIn, 8, some .int, 0, 0)
abbrev mX5_clear : Mt := (yX5_clear, cX5_clear, 2, some .int, 0, 0)
abbrev mX5_common : Mt := (yX5_common, cX5_common, 10, some .long, 0, 0)
abbrev mX5_copy : Mt := (yX5_copy, cX5_copy, 4, none, 0, 0)
abbrev mX5_count : Mt := (yX5_count, cX5_count, 2, some .int, 0, 0)
abbrev mX5_crew : Mt := (yX5_crew, cX5_crew, 6, some .int, 0, 0)
abbrev mX5_days : Mt := (yX5_days, cX5_days, 3, some .int, 0, 0)
abbrev mX5_dusk : Mt := (yX5_dusk, cX5_dusk, 5, none, 0, 0)
abbrev mX5_evening : Mt := (yX5_evening, cX5_evening, 5, some .int, 0, 0)
abbrev mX5_forget : Mt := (yX5_forget, cX5_forget, 2, some .int, 0, 0)
abbrev mX5_goToDusk : Mt := (yX5_goToDusk, cX5_goToDusk, 4, none, 0, 0)
abbrev mX5_has : Mt := (yX5_has, cX5_has, 2, some .boolean, 0, 0)
abbrev mX5_highest : Mt := (yX5_highest, cX5_highest, 9, some .int, 0, 0)
abbrev mX5_hill : Mt := (yX5_hill, cX5_hill, 3, some .int, 0, 0)
abbrev mX5_hills : Mt := (yX5_hills, cX5_hills, 3, some .int, 0, 0)
abbrev mX5_hollowRate : Mt := (yX5_hollowRate, cX5_hollowRate, 4, some .int, 0, 0)
abbrev mX5_hour : Mt := (yX5_hour, cX5_hour, 2, some .int, 0, 0)
abbrev mX5_in : Mt := (yX5_in, cX5_in, 6, some .boolean, 0, 0)
abbrev mX5_init : Mt := (yX5_init, cX5_init, 1, none, 13, 1676)
abbrev mX5_isCode : Mt := (yX5_isCode, cX5_isCode, 5, some .boolean, 0, 0)
abbrev mX5_isFigure : Mt := (yX5_isFigure, cX5_isFigure, 1, some .boolean, 0, 0)
abbrev mX5_isHill : Mt := (yX5_isHill, cX5_isHill, 2, some .boolean, 0, 0)
abbrev mX5_isMan : Mt := (yX5_isMan, cX5_isMan, 2, some .boolean, 0, 0)
abbrev mX5_isOver : Mt := (yX5_isOver, cX5_isOver, 3, some .boolean, 0, 0)
abbrev mX5_isOverBy : Mt := (yX5_isOverBy, cX5_isOverBy, 5, some .boolean, 0, 0)
abbrev mX5_keep : Mt := (yX5_keep, cX5_keep, 2, some .int, 0, 0)
abbrev mX5_lentRate : Mt := (yX5_lentRate, cX5_lentRate, 2, some .int, 0, 0)
abbrev mX5_little : Mt := (yX5_little, cX5_little, 3, some .int, 0, 0)
abbrev mX5_man : Mt := (yX5_man, cX5_man, 3, some .int, 0, 0)
abbrev mX5_next : Mt := (yX5_next, cX5_next, 3, none, 0, 0)
abbrev mX5_now : Mt := (yX5_now, cX5_now, 2, some .int, 0, 0)
abbrev mX5_odds : Mt := (yX5_odds, cX5_odds, 13, some .long, 0, 0)
abbrev mX5_one : Mt := (yX5_one, cX5_one, 1, some .int, 0, 0)
abbrev mX5_ones : Mt := (yX5_ones, cX5_ones, 3, some .int, 0, 0)
abbrev mX5_order : Mt := (yX5_order, cX5_order, 4, some .int, 0, 0)
abbrev mX5_orderAll : Mt := (yX5_orderAll, cX5_orderAll, 5, none, 0, 0)
abbrev mX5_over : Mt := (yX5_over, cX5_over, 3, some .int, 0, 0)
abbrev mX5_overIn : Mt := (yX5_overIn, cX5_overIn, 4, some .int, 0, 0)
abbrev mX5_push : Mt := (yX5_push, cX5_push, 6, some .int, 0, 0)
abbrev mX5_pushOf : Mt := (yX5_pushOf, cX5_pushOf, 5, some .int, 0, 0)
abbrev mX5_rainsOn : Mt := (yX5_rainsOn, cX5_rainsOn, 2, some .boolean, 0, 0)
abbrev mX5_rate : Mt := (yX5_rate, cX5_rate, 3, some .int, 0, 0)
abbrev mX5_remember : Mt := (yX5_remember, cX5_remember, 2, none, 0, 0)
abbrev mX5_roundRate : Mt := (yX5_roundRate, cX5_roundRate, 2, some .int, 0, 0)
abbrev mX5_saw : Mt := (yX5_saw, cX5_saw, 3, some .int, 0, 0)
abbrev mX5_sizeBy : Mt := (yX5_sizeBy, cX5_sizeBy, 4, some .int, 0, 0)
abbrev mX5_sizeIn : Mt := (yX5_sizeIn, cX5_sizeIn, 3, some .int, 0, 0)
abbrev mX5_splitRate : Mt := (yX5_splitRate, cX5_splitRate, 2, some .int, 0, 0)
abbrev mX5_stepBy : Mt := (yX5_stepBy, cX5_stepBy, 7, some .int, 0, 0)
abbrev mX5_stone : Mt := (yX5_stone, cX5_stone, 3, some .int, 0, 0)
abbrev mX5_stoneRate : Mt := (yX5_stoneRate, cX5_stoneRate, 2, some .int, 0, 0)
abbrev mX5_takeHill : Mt := (yX5_takeHill, cX5_takeHill, 2, none, 0, 0)
abbrev mX5_takeItem : Mt := (yX5_takeItem, cX5_takeItem, 1, none, 0, 0)
abbrev mX5_takeJoin : Mt := (yX5_takeJoin, cX5_takeJoin, 3, none, 0, 0)
abbrev mX5_takeNumber : Mt := (yX5_takeNumber, cX5_takeNumber, 3, some .int, 0, 0)
abbrev mX5_tire : Mt := (yX5_tire, cX5_tire, 6, none, 0, 0)
abbrev mX5_trace : Mt := (yX5_trace, cX5_trace, 1, some .long, 0, 0)
abbrev mX5_type : Mt := (yX5_type, cX5_type, 2, some .int, 0, 0)
abbrev mX5_undo : Mt := (yX5_undo, cX5_undo, 1, some .int, 0, 0)
abbrev mX5_want : Mt := (yX5_want, cX5_want, 2, some .boolean, 0, 0)
abbrev mX5_wear : Mt := (yX5_wear, cX5_wear, 4, some .int, 0, 0)
abbrev mX5_wetRate : Mt := (yX5_wetRate, cX5_wetRate, 2, some .int, 0, 0)
abbrev mX5_written : Mt := (yX5_written, cX5_written, 3, some .int, 0, 0)
theorem tq_0 {w : Cond} (h : w ∈ k2_sels lw_privs) (hg : goodWord w = true) : w ∈ tb := List.mem_filter.mpr ⟨List.mem_append_left _ h, hg⟩
theorem tq_1 {w : Cond} (h : w ∈ tables_1_1) (hg : goodWord w = true) : w ∈ tb := List.mem_filter.mpr ⟨List.mem_append_right _ (List.mem_append_left _ h), hg⟩
theorem tq_2 {w : Cond} (h : w ∈ tables_1_2) (hg : goodWord w = true) : w ∈ tb := List.mem_filter.mpr ⟨List.mem_append_right _ (List.mem_append_right _ (List.mem_append_left _ h)), hg⟩
theorem tq_3 {w : Cond} (h : w ∈ tables_1_3) (hg : goodWord w = true) : w ∈ tb := List.mem_filter.mpr ⟨List.mem_append_right _ (List.mem_append_right _ (List.mem_append_right _ (List.mem_append_left _ h))), hg⟩
theorem tq_4 {w : Cond} (h : w ∈ tables_1_4) (hg : goodWord w = true) : w ∈ tb := List.mem_filter.mpr ⟨List.mem_append_right _ (List.mem_append_right _ (List.mem_append_right _ (List.mem_append_right _ (List.mem_append_left _ h)))), hg⟩
theorem tq_5 {w : Cond} (h : w ∈ tables_1_5) (hg : goodWord w = true) : w ∈ tb := List.mem_filter.mpr ⟨List.mem_append_right _ (List.mem_append_right _ (List.mem_append_right _ (List.mem_append_right _ (List.mem_append_right _ h)))), hg⟩
theorem tw_fieldLink {L : List Cond} (i : Nat) {own : String} {ix : Nat} {ref name desc : String} (h : (match L[i]? with | some (.fieldLink a b c d e) => a == own && b == ix && c == ref && d == name && e == desc | _ => false) = true) : Cond.fieldLink own ix ref name desc ∈ L := by
  split at h
  · rename_i a b c d e he
    simp only [Bool.and_eq_true, beq_iff_eq] at h
    obtain ⟨⟨⟨⟨rfl, rfl⟩, rfl⟩, rfl⟩, rfl⟩ := h
    exact List.mem_of_getElem? he
  · cases h
theorem tw_methodLink {L : List Cond} (i : Nat) {own : String} {ix : Nat} {y : MethodName} (h : (match L[i]? with | some (.methodLink a b c) => a == own && b == ix && decide (c = y) | _ => false) = true) : Cond.methodLink own ix y ∈ L := by
  split at h
  · rename_i a b c he
    simp only [Bool.and_eq_true, beq_iff_eq, decide_eq_true_eq] at h
    obtain ⟨⟨rfl, rfl⟩, rfl⟩ := h
    exact List.mem_of_getElem? he
  · cases h
theorem tw_instanceMethod {L : List Cond} (i : Nat) {y : MethodName} (h : (match L[i]? with | some (.instanceMethod c) => decide (c = y) | _ => false) = true) : Cond.instanceMethod y ∈ L := by
  split at h
  · rename_i c he
    simp only [decide_eq_true_eq] at h
    subst h
    exact List.mem_of_getElem? he
  · cases h
theorem tw_static {L : List Cond} (i : Nat) {y : MethodName} (h : (match L[i]? with | some (.static c) => decide (c = y) | _ => false) = true) : Cond.static y ∈ L := by
  split at h
  · rename_i c he
    simp only [decide_eq_true_eq] at h
    subst h
    exact List.mem_of_getElem? he
  · cases h
theorem tw_selects {L : List Cond} (i : Nat) {C : String} {y z : MethodName} (h : (match L[i]? with | some (.selects a c e) => a == C && decide (c = y) && decide (e = z) | _ => false) = true) : Cond.selects C y z ∈ L := by
  split at h
  · rename_i a c e he
    simp only [Bool.and_eq_true, beq_iff_eq, decide_eq_true_eq] at h
    obtain ⟨⟨rfl, rfl⟩, rfl⟩ := h
    exact List.mem_of_getElem? he
  · cases h
theorem tw_d {L : List Cond} (i : Nat) {w : Cond} (h : L[i]? = some w) : w ∈ L := List.mem_of_getElem? h
theorem an_RX4_32 : Cond.classLink RX4 32 RX2 ∈ tb := (tq_1 (w := Cond.classLink RX4 32 RX2) (tw_d 126 (by decide +kernel)) rfl)
theorem fl_RX4_9 : FL RX4 9 4 0 := ⟨(RX4, TX4, 16), rfl, by decide, (tq_1 (w := Cond.fieldLink RX4 9 "DuskStones" "text" "[C") (tw_fieldLink 207 (by decide +kernel)) rfl), rfl⟩
theorem fl_RX4_18 : FL RX4 18 4 2 := ⟨(RX4, TX4, 16), rfl, by decide, (tq_1 (w := Cond.fieldLink RX4 18 "DuskStones" "reader" "LDuskStones$Reader;") (tw_fieldLink 209 (by decide +kernel)) rfl), rfl⟩
theorem fl_RX4_25 : FL RX4 25 4 3 := ⟨(RX4, TX4, 16), rfl, by decide, (tq_1 (w := Cond.fieldLink RX4 25 "DuskStones" "land" "LDuskStones$Land;") (tw_fieldLink 210 (by decide +kernel)) rfl), rfl⟩
theorem fl_RX4_29 : FL RX4 29 4 4 := ⟨(RX4, TX4, 16), rfl, by decide, (tq_1 (w := Cond.fieldLink RX4 29 "DuskStones" "draft" "LDuskStones$Land;") (tw_fieldLink 211 (by decide +kernel)) rfl), rfl⟩
theorem fl_RX4_35 : FL RX4 35 4 5 := ⟨(RX4, TX4, 16), rfl, by decide, (tq_1 (w := Cond.fieldLink RX4 35 "DuskStones" "present" "LDuskStones$Moment;") (tw_fieldLink 212 (by decide +kernel)) rfl), rfl⟩
theorem fl_RX4_39 : FL RX4 39 4 6 := ⟨(RX4, TX4, 16), rfl, by decide, (tq_1 (w := Cond.fieldLink RX4 39 "DuskStones" "trial" "LDuskStones$Moment;") (tw_fieldLink 213 (by decide +kernel)) rfl), rfl⟩
theorem fl_RX4_42 : FL RX4 42 4 7 := ⟨(RX4, TX4, 16), rfl, by decide, (tq_1 (w := Cond.fieldLink RX4 42 "DuskStones" "past" "[LDuskStones$Moment;") (tw_fieldLink 214 (by decide +kernel)) rfl), rfl⟩
theorem fl_RX4_46 : FL RX4 46 4 9 := ⟨(RX4, TX4, 16), rfl, by decide, (tq_1 (w := Cond.fieldLink RX4 46 "DuskStones" "images" "[LDuskStones$Moment;") (tw_fieldLink 216 (by decide +kernel)) rfl), rfl⟩
theorem fl_RX4_49 : FL RX4 49 4 10 := ⟨(RX4, TX4, 16), rfl, by decide, (tq_1 (w := Cond.fieldLink RX4 49 "DuskStones" "kept" "[Z") (tw_fieldLink 217 (by decide +kernel)) rfl), rfl⟩
theorem fl_RX4_53 : FL RX4 53 4 11 := ⟨(RX4, TX4, 16), rfl, by decide, (tq_1 (w := Cond.fieldLink RX4 53 "DuskStones" "seenHill" "[I") (tw_fieldLink 218 (by decide +kernel)) rfl), rfl⟩
theorem fl_RX4_57 : FL RX4 57 4 12 := ⟨(RX4, TX4, 16), rfl, by decide, (tq_1 (w := Cond.fieldLink RX4 57 "DuskStones" "seenStep" "[I") (tw_fieldLink 219 (by decide +kernel)) rfl), rfl⟩
theorem fl_RX4_63 : FL RX4 63 4 14 := ⟨(RX4, TX4, 16), rfl, by decide, (tq_1 (w := Cond.fieldLink RX4 63 "DuskStones" "climb" "LDuskStones$Climb;") (tw_fieldLink 221 (by decide +kernel)) rfl), rfl⟩
theorem fl_RX4_71 : FL RX4 71 4 1 := ⟨(RX4, TX4, 16), rfl, by decide, (tq_1 (w := Cond.fieldLink RX4 71 "DuskStones" "letters" "I") (tw_fieldLink 208 (by decide +kernel)) rfl), rfl⟩
theorem fl_RX4_79 : FL RX4 79 4 8 := ⟨(RX4, TX4, 16), rfl, by decide, (tq_1 (w := Cond.fieldLink RX4 79 "DuskStones" "pastCount" "I") (tw_fieldLink 215 (by decide +kernel)) rfl), rfl⟩
theorem fl_RX4_82 : FL RX4 82 4 13 := ⟨(RX4, TX4, 16), rfl, by decide, (tq_1 (w := Cond.fieldLink RX4 82 "DuskStones" "seenCount" "I") (tw_fieldLink 220 (by decide +kernel)) rfl), rfl⟩
theorem fl_RX4_89 : FL RX4 89 1 1 := ⟨(RX1, TX1, 15), rfl, by decide, (tq_1 (w := Cond.fieldLink RX4 89 "DuskStones$Land" "high" "[I") (tw_fieldLink 60 (by decide +kernel)) rfl), rfl⟩
theorem fl_RX4_92 : FL RX4 92 1 2 := ⟨(RX1, TX1, 15), rfl, by decide, (tq_1 (w := Cond.fieldLink RX4 92 "DuskStones$Land" "slope" "[I") (tw_fieldLink 62 (by decide +kernel)) rfl), rfl⟩
theorem fl_RX4_95 : FL RX4 95 1 3 := ⟨(RX1, TX1, 15), rfl, by decide, (tq_1 (w := Cond.fieldLink RX4 95 "DuskStones$Land" "ledges" "[I") (tw_fieldLink 65 (by decide +kernel)) rfl), rfl⟩
theorem fl_RX4_98 : FL RX4 98 1 4 := ⟨(RX1, TX1, 15), rfl, by decide, (tq_1 (w := Cond.fieldLink RX4 98 "DuskStones$Land" "size" "[I") (tw_fieldLink 67 (by decide +kernel)) rfl), rfl⟩
theorem fl_RX4_101 : FL RX4 101 2 2 := ⟨(RX2, TX2, 8), rfl, by decide, (tq_1 (w := Cond.fieldLink RX4 101 "DuskStones$Moment" "step" "[I") (tw_fieldLink 137 (by decide +kernel)) rfl), rfl⟩
theorem fl_RX4_108 : FL RX4 108 2 3 := ⟨(RX2, TX2, 8), rfl, by decide, (tq_1 (w := Cond.fieldLink RX4 108 "DuskStones$Moment" "rolled" "[I") (tw_fieldLink 139 (by decide +kernel)) rfl), rfl⟩
theorem fl_RX4_118 : FL RX4 118 1 10 := ⟨(RX1, TX1, 15), rfl, by decide, (tq_1 (w := Cond.fieldLink RX4 118 "DuskStones$Land" "force" "[I") (tw_fieldLink 81 (by decide +kernel)) rfl), rfl⟩
theorem fl_RX4_121 : FL RX4 121 2 4 := ⟨(RX2, TX2, 8), rfl, by decide, (tq_1 (w := Cond.fieldLink RX4 121 "DuskStones$Moment" "strength" "[I") (tw_fieldLink 142 (by decide +kernel)) rfl), rfl⟩
theorem fl_RX4_124 : FL RX4 124 2 5 := ⟨(RX2, TX2, 8), rfl, by decide, (tq_1 (w := Cond.fieldLink RX4 124 "DuskStones$Moment" "order" "[I") (tw_fieldLink 144 (by decide +kernel)) rfl), rfl⟩
theorem fl_RX4_127 : FL RX4 127 2 0 := ⟨(RX2, TX2, 8), rfl, by decide, (tq_1 (w := Cond.fieldLink RX4 127 "DuskStones$Moment" "day" "I") (tw_fieldLink 133 (by decide +kernel)) rfl), rfl⟩
theorem fl_RX4_130 : FL RX4 130 2 1 := ⟨(RX2, TX2, 8), rfl, by decide, (tq_1 (w := Cond.fieldLink RX4 130 "DuskStones$Moment" "hour" "I") (tw_fieldLink 135 (by decide +kernel)) rfl), rfl⟩
theorem fl_RX4_137 : FL RX4 137 2 7 := ⟨(RX2, TX2, 8), rfl, by decide, (tq_1 (w := Cond.fieldLink RX4 137 "DuskStones$Moment" "evenings" "I") (tw_fieldLink 147 (by decide +kernel)) rfl), rfl⟩
theorem fl_RX4_146 : FL RX4 146 1 11 := ⟨(RX1, TX1, 15), rfl, by decide, (tq_1 (w := Cond.fieldLink RX4 146 "DuskStones$Land" "hours" "I") (tw_fieldLink 87 (by decide +kernel)) rfl), rfl⟩
theorem fl_RX4_170 : FL RX4 170 0 3 := ⟨(RX0, TX0, 7), rfl, by decide, (tq_1 (w := Cond.fieldLink RX4 170 "DuskStones$Climb" "best" "I") (tw_fieldLink 179 (by decide +kernel)) rfl), rfl⟩
theorem fl_RX4_173 : FL RX4 173 0 2 := ⟨(RX0, TX0, 7), rfl, by decide, (tq_1 (w := Cond.fieldLink RX4 173 "DuskStones$Climb" "bestRow" "[I") (tw_fieldLink 177 (by decide +kernel)) rfl), rfl⟩
theorem fl_RX4_198 : FL RX4 198 1 9 := ⟨(RX1, TX1, 15), rfl, by decide, (tq_1 (w := Cond.fieldLink RX4 198 "DuskStones$Land" "men" "I") (tw_fieldLink 79 (by decide +kernel)) rfl), rfl⟩
theorem fl_RX4_242 : FL RX4 242 1 0 := ⟨(RX1, TX1, 15), rfl, by decide, (tq_1 (w := Cond.fieldLink RX4 242 "DuskStones$Land" "hills" "I") (tw_fieldLink 57 (by decide +kernel)) rfl), rfl⟩
theorem fl_RX4_245 : FL RX4 245 1 5 := ⟨(RX1, TX1, 15), rfl, by decide, (tq_1 (w := Cond.fieldLink RX4 245 "DuskStones$Land" "joins" "I") (tw_fieldLink 71 (by decide +kernel)) rfl), rfl⟩
theorem fl_RX4_248 : FL RX4 248 1 12 := ⟨(RX1, TX1, 15), rfl, by decide, (tq_1 (w := Cond.fieldLink RX4 248 "DuskStones$Land" "rain" "I") (tw_fieldLink 90 (by decide +kernel)) rfl), rfl⟩
theorem fl_RX4_251 : FL RX4 251 4 15 := ⟨(RX4, TX4, 16), rfl, by decide, (tq_1 (w := Cond.fieldLink RX4 251 "DuskStones" "traceSum" "J") (tw_fieldLink 222 (by decide +kernel)) rfl), rfl⟩
theorem fl_RX0_11 : FL RX0 11 0 0 := ⟨(RX0, TX0, 7), rfl, by decide, (tq_1 (w := Cond.fieldLink RX0 11 "DuskStones$Climb" "strength" "[[I") (tw_fieldLink 174 (by decide +kernel)) rfl), rfl⟩
theorem fl_RX0_16 : FL RX0 16 0 1 := ⟨(RX0, TX0, 7), rfl, by decide, (tq_1 (w := Cond.fieldLink RX0 16 "DuskStones$Climb" "row" "[I") (tw_fieldLink 175 (by decide +kernel)) rfl), rfl⟩
theorem fl_RX0_20 : FL RX0 20 0 2 := ⟨(RX0, TX0, 7), rfl, by decide, (tq_1 (w := Cond.fieldLink RX0 20 "DuskStones$Climb" "bestRow" "[I") (tw_fieldLink 176 (by decide +kernel)) rfl), rfl⟩
theorem fl_RX0_29 : FL RX0 29 0 4 := ⟨(RX0, TX0, 7), rfl, by decide, (tq_1 (w := Cond.fieldLink RX0 29 "DuskStones$Climb" "need" "I") (tw_fieldLink 180 (by decide +kernel)) rfl), rfl⟩
theorem fl_RX0_43 : FL RX0 43 0 5 := ⟨(RX0, TX0, 7), rfl, by decide, (tq_1 (w := Cond.fieldLink RX0 43 "DuskStones$Climb" "hours" "I") (tw_fieldLink 181 (by decide +kernel)) rfl), rfl⟩
theorem fl_RX0_49 : FL RX0 49 0 6 := ⟨(RX0, TX0, 7), rfl, by decide, (tq_1 (w := Cond.fieldLink RX0 49 "DuskStones$Climb" "free" "I") (tw_fieldLink 182 (by decide +kernel)) rfl), rfl⟩
theorem fl_RX0_52 : FL RX0 52 2 4 := ⟨(RX2, TX2, 8), rfl, by decide, (tq_1 (w := Cond.fieldLink RX0 52 "DuskStones$Moment" "strength" "[I") (tw_fieldLink 141 (by decide +kernel)) rfl), rfl⟩
theorem fl_RX0_68 : FL RX0 68 0 3 := ⟨(RX0, TX0, 7), rfl, by decide, (tq_1 (w := Cond.fieldLink RX0 68 "DuskStones$Climb" "best" "I") (tw_fieldLink 178 (by decide +kernel)) rfl), rfl⟩
theorem fl_RX0_71 : FL RX0 71 1 9 := ⟨(RX1, TX1, 15), rfl, by decide, (tq_1 (w := Cond.fieldLink RX0 71 "DuskStones$Land" "men" "I") (tw_fieldLink 76 (by decide +kernel)) rfl), rfl⟩
theorem fl_RX0_90 : FL RX0 90 1 10 := ⟨(RX1, TX1, 15), rfl, by decide, (tq_1 (w := Cond.fieldLink RX0 90 "DuskStones$Land" "force" "[I") (tw_fieldLink 82 (by decide +kernel)) rfl), rfl⟩
theorem fl_RX1_9 : FL RX1 9 1 1 := ⟨(RX1, TX1, 15), rfl, by decide, (tq_1 (w := Cond.fieldLink RX1 9 "DuskStones$Land" "high" "[I") (tw_fieldLink 58 (by decide +kernel)) rfl), rfl⟩
theorem fl_RX1_15 : FL RX1 15 1 2 := ⟨(RX1, TX1, 15), rfl, by decide, (tq_1 (w := Cond.fieldLink RX1 15 "DuskStones$Land" "slope" "[I") (tw_fieldLink 61 (by decide +kernel)) rfl), rfl⟩
theorem fl_RX1_18 : FL RX1 18 1 3 := ⟨(RX1, TX1, 15), rfl, by decide, (tq_1 (w := Cond.fieldLink RX1 18 "DuskStones$Land" "ledges" "[I") (tw_fieldLink 64 (by decide +kernel)) rfl), rfl⟩
theorem fl_RX1_21 : FL RX1 21 1 4 := ⟨(RX1, TX1, 15), rfl, by decide, (tq_1 (w := Cond.fieldLink RX1 21 "DuskStones$Land" "size" "[I") (tw_fieldLink 66 (by decide +kernel)) rfl), rfl⟩
theorem fl_RX1_24 : FL RX1 24 1 6 := ⟨(RX1, TX1, 15), rfl, by decide, (tq_1 (w := Cond.fieldLink RX1 24 "DuskStones$Land" "joinA" "[I") (tw_fieldLink 72 (by decide +kernel)) rfl), rfl⟩
theorem fl_RX1_27 : FL RX1 27 1 7 := ⟨(RX1, TX1, 15), rfl, by decide, (tq_1 (w := Cond.fieldLink RX1 27 "DuskStones$Land" "joinB" "[I") (tw_fieldLink 73 (by decide +kernel)) rfl), rfl⟩
theorem fl_RX1_30 : FL RX1 30 1 8 := ⟨(RX1, TX1, 15), rfl, by decide, (tq_1 (w := Cond.fieldLink RX1 30 "DuskStones$Land" "joinFrom" "[I") (tw_fieldLink 74 (by decide +kernel)) rfl), rfl⟩
theorem fl_RX1_33 : FL RX1 33 1 10 := ⟨(RX1, TX1, 15), rfl, by decide, (tq_1 (w := Cond.fieldLink RX1 33 "DuskStones$Land" "force" "[I") (tw_fieldLink 80 (by decide +kernel)) rfl), rfl⟩
theorem fl_RX1_40 : FL RX1 40 1 0 := ⟨(RX1, TX1, 15), rfl, by decide, (tq_1 (w := Cond.fieldLink RX1 40 "DuskStones$Land" "hills" "I") (tw_fieldLink 54 (by decide +kernel)) rfl), rfl⟩
theorem fl_RX1_43 : FL RX1 43 1 5 := ⟨(RX1, TX1, 15), rfl, by decide, (tq_1 (w := Cond.fieldLink RX1 43 "DuskStones$Land" "joins" "I") (tw_fieldLink 69 (by decide +kernel)) rfl), rfl⟩
theorem fl_RX1_46 : FL RX1 46 1 9 := ⟨(RX1, TX1, 15), rfl, by decide, (tq_1 (w := Cond.fieldLink RX1 46 "DuskStones$Land" "men" "I") (tw_fieldLink 75 (by decide +kernel)) rfl), rfl⟩
theorem fl_RX1_49 : FL RX1 49 1 12 := ⟨(RX1, TX1, 15), rfl, by decide, (tq_1 (w := Cond.fieldLink RX1 49 "DuskStones$Land" "rain" "I") (tw_fieldLink 88 (by decide +kernel)) rfl), rfl⟩
theorem fl_RX2_9 : FL RX2 9 2 2 := ⟨(RX2, TX2, 8), rfl, by decide, (tq_1 (w := Cond.fieldLink RX2 9 "DuskStones$Moment" "step" "[I") (tw_fieldLink 136 (by decide +kernel)) rfl), rfl⟩
theorem fl_RX2_15 : FL RX2 15 2 3 := ⟨(RX2, TX2, 8), rfl, by decide, (tq_1 (w := Cond.fieldLink RX2 15 "DuskStones$Moment" "rolled" "[I") (tw_fieldLink 138 (by decide +kernel)) rfl), rfl⟩
theorem fl_RX2_18 : FL RX2 18 2 4 := ⟨(RX2, TX2, 8), rfl, by decide, (tq_1 (w := Cond.fieldLink RX2 18 "DuskStones$Moment" "strength" "[I") (tw_fieldLink 140 (by decide +kernel)) rfl), rfl⟩
theorem fl_RX2_21 : FL RX2 21 2 5 := ⟨(RX2, TX2, 8), rfl, by decide, (tq_1 (w := Cond.fieldLink RX2 21 "DuskStones$Moment" "order" "[I") (tw_fieldLink 143 (by decide +kernel)) rfl), rfl⟩
theorem fl_RX2_24 : FL RX2 24 2 6 := ⟨(RX2, TX2, 8), rfl, by decide, (tq_1 (w := Cond.fieldLink RX2 24 "DuskStones$Moment" "evening" "[I") (tw_fieldLink 145 (by decide +kernel)) rfl), rfl⟩
theorem fl_RX2_27 : FL RX2 27 2 0 := ⟨(RX2, TX2, 8), rfl, by decide, (tq_1 (w := Cond.fieldLink RX2 27 "DuskStones$Moment" "day" "I") (tw_fieldLink 132 (by decide +kernel)) rfl), rfl⟩
theorem fl_RX2_31 : FL RX2 31 2 1 := ⟨(RX2, TX2, 8), rfl, by decide, (tq_1 (w := Cond.fieldLink RX2 31 "DuskStones$Moment" "hour" "I") (tw_fieldLink 134 (by decide +kernel)) rfl), rfl⟩
theorem fl_RX2_34 : FL RX2 34 2 7 := ⟨(RX2, TX2, 8), rfl, by decide, (tq_1 (w := Cond.fieldLink RX2 34 "DuskStones$Moment" "evenings" "I") (tw_fieldLink 146 (by decide +kernel)) rfl), rfl⟩
theorem fl_RX2_47 : FL RX2 47 1 1 := ⟨(RX1, TX1, 15), rfl, by decide, (tq_1 (w := Cond.fieldLink RX2 47 "DuskStones$Land" "high" "[I") (tw_fieldLink 59 (by decide +kernel)) rfl), rfl⟩
theorem fl_RX2_52 : FL RX2 52 1 0 := ⟨(RX1, TX1, 15), rfl, by decide, (tq_1 (w := Cond.fieldLink RX2 52 "DuskStones$Land" "hills" "I") (tw_fieldLink 56 (by decide +kernel)) rfl), rfl⟩
theorem fl_RX2_59 : FL RX2 59 1 4 := ⟨(RX1, TX1, 15), rfl, by decide, (tq_1 (w := Cond.fieldLink RX2 59 "DuskStones$Land" "size" "[I") (tw_fieldLink 68 (by decide +kernel)) rfl), rfl⟩
theorem fl_RX2_72 : FL RX2 72 1 2 := ⟨(RX1, TX1, 15), rfl, by decide, (tq_1 (w := Cond.fieldLink RX2 72 "DuskStones$Land" "slope" "[I") (tw_fieldLink 63 (by decide +kernel)) rfl), rfl⟩
theorem fl_RX2_75 : FL RX2 75 1 11 := ⟨(RX1, TX1, 15), rfl, by decide, (tq_1 (w := Cond.fieldLink RX2 75 "DuskStones$Land" "hours" "I") (tw_fieldLink 85 (by decide +kernel)) rfl), rfl⟩
theorem fl_RX2_78 : FL RX2 78 1 9 := ⟨(RX1, TX1, 15), rfl, by decide, (tq_1 (w := Cond.fieldLink RX2 78 "DuskStones$Land" "men" "I") (tw_fieldLink 78 (by decide +kernel)) rfl), rfl⟩
theorem fl_RX2_100 : FL RX2 100 1 10 := ⟨(RX1, TX1, 15), rfl, by decide, (tq_1 (w := Cond.fieldLink RX2 100 "DuskStones$Land" "force" "[I") (tw_fieldLink 83 (by decide +kernel)) rfl), rfl⟩
theorem fl_RX3_11 : FL RX3 11 3 1 := ⟨(RX3, TX3, 7), rfl, by decide, (tq_1 (w := Cond.fieldLink RX3 11 "DuskStones$Reader" "numbers" "[I") (tw_fieldLink 25 (by decide +kernel)) rfl), rfl⟩
theorem fl_RX3_15 : FL RX3 15 3 0 := ⟨(RX3, TX3, 7), rfl, by decide, (tq_1 (w := Cond.fieldLink RX3 15 "DuskStones$Reader" "text" "[C") (tw_fieldLink 24 (by decide +kernel)) rfl), rfl⟩
theorem fl_RX3_25 : FL RX3 25 3 2 := ⟨(RX3, TX3, 7), rfl, by decide, (tq_1 (w := Cond.fieldLink RX3 25 "DuskStones$Reader" "length" "I") (tw_fieldLink 26 (by decide +kernel)) rfl), rfl⟩
theorem fl_RX3_29 : FL RX3 29 3 3 := ⟨(RX3, TX3, 7), rfl, by decide, (tq_1 (w := Cond.fieldLink RX3 29 "DuskStones$Reader" "next" "I") (tw_fieldLink 27 (by decide +kernel)) rfl), rfl⟩
theorem fl_RX3_40 : FL RX3 40 3 5 := ⟨(RX3, TX3, 7), rfl, by decide, (tq_1 (w := Cond.fieldLink RX3 40 "DuskStones$Reader" "token" "I") (tw_fieldLink 29 (by decide +kernel)) rfl), rfl⟩
theorem fl_RX3_47 : FL RX3 47 3 4 := ⟨(RX3, TX3, 7), rfl, by decide, (tq_1 (w := Cond.fieldLink RX3 47 "DuskStones$Reader" "place" "I") (tw_fieldLink 28 (by decide +kernel)) rfl), rfl⟩
theorem fl_RX3_62 : FL RX3 62 3 6 := ⟨(RX3, TX3, 7), rfl, by decide, (tq_1 (w := Cond.fieldLink RX3 62 "DuskStones$Reader" "value" "I") (tw_fieldLink 30 (by decide +kernel)) rfl), rfl⟩
theorem fl_RX3_69 : FL RX3 69 1 0 := ⟨(RX1, TX1, 15), rfl, by decide, (tq_1 (w := Cond.fieldLink RX3 69 "DuskStones$Land" "hills" "I") (tw_fieldLink 55 (by decide +kernel)) rfl), rfl⟩
theorem fl_RX3_72 : FL RX3 72 1 5 := ⟨(RX1, TX1, 15), rfl, by decide, (tq_1 (w := Cond.fieldLink RX3 72 "DuskStones$Land" "joins" "I") (tw_fieldLink 70 (by decide +kernel)) rfl), rfl⟩
theorem fl_RX3_75 : FL RX3 75 1 9 := ⟨(RX1, TX1, 15), rfl, by decide, (tq_1 (w := Cond.fieldLink RX3 75 "DuskStones$Land" "men" "I") (tw_fieldLink 77 (by decide +kernel)) rfl), rfl⟩
theorem fl_RX3_78 : FL RX3 78 1 13 := ⟨(RX1, TX1, 15), rfl, by decide, (tq_1 (w := Cond.fieldLink RX3 78 "DuskStones$Land" "hoursTold" "Z") (tw_fieldLink 92 (by decide +kernel)) rfl), rfl⟩
theorem fl_RX3_82 : FL RX3 82 1 14 := ⟨(RX1, TX1, 15), rfl, by decide, (tq_1 (w := Cond.fieldLink RX3 82 "DuskStones$Land" "rainTold" "Z") (tw_fieldLink 94 (by decide +kernel)) rfl), rfl⟩
theorem fl_RX5_7 : FL RX5 7 5 0 := ⟨(RX5, TX5, 33), rfl, by decide, (tq_3 (w := Cond.fieldLink RX5 7 "DuskStonesModel" "w" "[I") (tw_fieldLink 136 (by decide +kernel)) rfl), rfl⟩
theorem fl_RX5_13 : FL RX5 13 5 1 := ⟨(RX5, TX5, 33), rfl, by decide, (tq_3 (w := Cond.fieldLink RX5 13 "DuskStonesModel" "isKept" "[Z") (tw_fieldLink 137 (by decide +kernel)) rfl), rfl⟩
theorem fl_RX5_17 : FL RX5 17 5 2 := ⟨(RX5, TX5, 33), rfl, by decide, (tq_3 (w := Cond.fieldLink RX5 17 "DuskStonesModel" "high" "[I") (tw_fieldLink 138 (by decide +kernel)) rfl), rfl⟩
theorem fl_RX5_20 : FL RX5 20 5 3 := ⟨(RX5, TX5, 33), rfl, by decide, (tq_3 (w := Cond.fieldLink RX5 20 "DuskStonesModel" "slope" "[I") (tw_fieldLink 139 (by decide +kernel)) rfl), rfl⟩
theorem fl_RX5_23 : FL RX5 23 5 4 := ⟨(RX5, TX5, 33), rfl, by decide, (tq_3 (w := Cond.fieldLink RX5 23 "DuskStonesModel" "ledges" "[I") (tw_fieldLink 140 (by decide +kernel)) rfl), rfl⟩
theorem fl_RX5_26 : FL RX5 26 5 5 := ⟨(RX5, TX5, 33), rfl, by decide, (tq_3 (w := Cond.fieldLink RX5 26 "DuskStonesModel" "size" "[I") (tw_fieldLink 141 (by decide +kernel)) rfl), rfl⟩
theorem fl_RX5_29 : FL RX5 29 5 6 := ⟨(RX5, TX5, 33), rfl, by decide, (tq_3 (w := Cond.fieldLink RX5 29 "DuskStonesModel" "joinOne" "[I") (tw_fieldLink 142 (by decide +kernel)) rfl), rfl⟩
theorem fl_RX5_32 : FL RX5 32 5 7 := ⟨(RX5, TX5, 33), rfl, by decide, (tq_3 (w := Cond.fieldLink RX5 32 "DuskStonesModel" "joinTwo" "[I") (tw_fieldLink 143 (by decide +kernel)) rfl), rfl⟩
theorem fl_RX5_35 : FL RX5 35 5 8 := ⟨(RX5, TX5, 33), rfl, by decide, (tq_3 (w := Cond.fieldLink RX5 35 "DuskStonesModel" "joinFrom" "[I") (tw_fieldLink 144 (by decide +kernel)) rfl), rfl⟩
theorem fl_RX5_38 : FL RX5 38 5 9 := ⟨(RX5, TX5, 33), rfl, by decide, (tq_3 (w := Cond.fieldLink RX5 38 "DuskStonesModel" "force" "[I") (tw_fieldLink 145 (by decide +kernel)) rfl), rfl⟩
theorem fl_RX5_41 : FL RX5 41 5 21 := ⟨(RX5, TX5, 33), rfl, by decide, (tq_3 (w := Cond.fieldLink RX5 41 "DuskStonesModel" "text" "[I") (tw_fieldLink 157 (by decide +kernel)) rfl), rfl⟩
theorem fl_RX5_44 : FL RX5 44 5 29 := ⟨(RX5, TX5, 33), rfl, by decide, (tq_3 (w := Cond.fieldLink RX5 44 "DuskStonesModel" "sightHill" "[I") (tw_fieldLink 165 (by decide +kernel)) rfl), rfl⟩
theorem fl_RX5_47 : FL RX5 47 5 30 := ⟨(RX5, TX5, 33), rfl, by decide, (tq_3 (w := Cond.fieldLink RX5 47 "DuskStonesModel" "sightStep" "[I") (tw_fieldLink 166 (by decide +kernel)) rfl), rfl⟩
theorem fl_RX5_50 : FL RX5 50 5 13 := ⟨(RX5, TX5, 33), rfl, by decide, (tq_3 (w := Cond.fieldLink RX5 50 "DuskStonesModel" "hours" "I") (tw_fieldLink 149 (by decide +kernel)) rfl), rfl⟩
theorem fl_RX5_63 : FL RX5 63 5 22 := ⟨(RX5, TX5, 33), rfl, by decide, (tq_3 (w := Cond.fieldLink RX5 63 "DuskStonesModel" "textSize" "I") (tw_fieldLink 158 (by decide +kernel)) rfl), rfl⟩
theorem fl_RX5_70 : FL RX5 70 5 23 := ⟨(RX5, TX5, 33), rfl, by decide, (tq_3 (w := Cond.fieldLink RX5 70 "DuskStonesModel" "at" "I") (tw_fieldLink 159 (by decide +kernel)) rfl), rfl⟩
theorem fl_RX5_73 : FL RX5 73 5 24 := ⟨(RX5, TX5, 33), rfl, by decide, (tq_3 (w := Cond.fieldLink RX5 73 "DuskStonesModel" "first" "I") (tw_fieldLink 160 (by decide +kernel)) rfl), rfl⟩
theorem fl_RX5_76 : FL RX5 76 5 25 := ⟨(RX5, TX5, 33), rfl, by decide, (tq_3 (w := Cond.fieldLink RX5 76 "DuskStonesModel" "kind" "I") (tw_fieldLink 161 (by decide +kernel)) rfl), rfl⟩
theorem fl_RX5_83 : FL RX5 83 5 26 := ⟨(RX5, TX5, 33), rfl, by decide, (tq_3 (w := Cond.fieldLink RX5 83 "DuskStonesModel" "number" "I") (tw_fieldLink 162 (by decide +kernel)) rfl), rfl⟩
theorem fl_RX5_86 : FL RX5 86 5 27 := ⟨(RX5, TX5, 33), rfl, by decide, (tq_3 (w := Cond.fieldLink RX5 86 "DuskStonesModel" "faultAt" "I") (tw_fieldLink 163 (by decide +kernel)) rfl), rfl⟩
theorem fl_RX5_96 : FL RX5 96 5 15 := ⟨(RX5, TX5, 33), rfl, by decide, (tq_3 (w := Cond.fieldLink RX5 96 "DuskStonesModel" "newHills" "I") (tw_fieldLink 151 (by decide +kernel)) rfl), rfl⟩
theorem fl_RX5_103 : FL RX5 103 5 16 := ⟨(RX5, TX5, 33), rfl, by decide, (tq_3 (w := Cond.fieldLink RX5 103 "DuskStonesModel" "newJoins" "I") (tw_fieldLink 152 (by decide +kernel)) rfl), rfl⟩
theorem fl_RX5_112 : FL RX5 112 5 17 := ⟨(RX5, TX5, 33), rfl, by decide, (tq_3 (w := Cond.fieldLink RX5 112 "DuskStonesModel" "newMen" "I") (tw_fieldLink 153 (by decide +kernel)) rfl), rfl⟩
theorem fl_RX5_115 : FL RX5 115 5 20 := ⟨(RX5, TX5, 33), rfl, by decide, (tq_3 (w := Cond.fieldLink RX5 115 "DuskStonesModel" "told" "I") (tw_fieldLink 156 (by decide +kernel)) rfl), rfl⟩
theorem fl_RX5_122 : FL RX5 122 5 18 := ⟨(RX5, TX5, 33), rfl, by decide, (tq_3 (w := Cond.fieldLink RX5 122 "DuskStonesModel" "newHours" "I") (tw_fieldLink 154 (by decide +kernel)) rfl), rfl⟩
theorem fl_RX5_125 : FL RX5 125 5 19 := ⟨(RX5, TX5, 33), rfl, by decide, (tq_3 (w := Cond.fieldLink RX5 125 "DuskStonesModel" "newRain" "I") (tw_fieldLink 155 (by decide +kernel)) rfl), rfl⟩
theorem fl_RX5_131 : FL RX5 131 5 10 := ⟨(RX5, TX5, 33), rfl, by decide, (tq_3 (w := Cond.fieldLink RX5 131 "DuskStonesModel" "hills" "I") (tw_fieldLink 146 (by decide +kernel)) rfl), rfl⟩
theorem fl_RX5_134 : FL RX5 134 5 11 := ⟨(RX5, TX5, 33), rfl, by decide, (tq_3 (w := Cond.fieldLink RX5 134 "DuskStonesModel" "joins" "I") (tw_fieldLink 147 (by decide +kernel)) rfl), rfl⟩
theorem fl_RX5_137 : FL RX5 137 5 12 := ⟨(RX5, TX5, 33), rfl, by decide, (tq_3 (w := Cond.fieldLink RX5 137 "DuskStonesModel" "men" "I") (tw_fieldLink 148 (by decide +kernel)) rfl), rfl⟩
theorem fl_RX5_140 : FL RX5 140 5 14 := ⟨(RX5, TX5, 33), rfl, by decide, (tq_3 (w := Cond.fieldLink RX5 140 "DuskStonesModel" "rain" "I") (tw_fieldLink 150 (by decide +kernel)) rfl), rfl⟩
theorem fl_RX5_143 : FL RX5 143 5 31 := ⟨(RX5, TX5, 33), rfl, by decide, (tq_3 (w := Cond.fieldLink RX5 143 "DuskStonesModel" "sightMany" "I") (tw_fieldLink 167 (by decide +kernel)) rfl), rfl⟩
theorem fl_RX5_146 : FL RX5 146 5 28 := ⟨(RX5, TX5, 33), rfl, by decide, (tq_3 (w := Cond.fieldLink RX5 146 "DuskStonesModel" "undoMany" "I") (tw_fieldLink 164 (by decide +kernel)) rfl), rfl⟩
theorem fl_RX5_234 : FL RX5 234 5 32 := ⟨(RX5, TX5, 33), rfl, by decide, (tq_3 (w := Cond.fieldLink RX5 234 "DuskStonesModel" "trace" "J") (tw_fieldLink 168 (by decide +kernel)) rfl), rfl⟩
theorem gs_RX4_255 : Cond.fieldLink RX4 255 "DuskStones" "KIND_TRACE" "[I" ∈ tb := (tq_3 (w := Cond.fieldLink RX4 255 "DuskStones" "KIND_TRACE" "[I") (tw_fieldLink 102 (by decide +kernel)) rfl)
theorem gs_RX4_258 : Cond.fieldLink RX4 258 "DuskStones" "KIND_ABOVE" "[I" ∈ tb := (tq_3 (w := Cond.fieldLink RX4 258 "DuskStones" "KIND_ABOVE" "[I") (tw_fieldLink 104 (by decide +kernel)) rfl)
theorem gs_RX3_85 : Cond.fieldLink RX3 85 "DuskStones$Reader" "HILL_LEAST" "[I" ∈ tb := (tq_2 (w := Cond.fieldLink RX3 85 "DuskStones$Reader" "HILL_LEAST" "[I") (tw_fieldLink 67 (by decide +kernel)) rfl)
theorem gs_RX3_88 : Cond.fieldLink RX3 88 "DuskStones$Reader" "HILL_MOST" "[I" ∈ tb := (tq_2 (w := Cond.fieldLink RX3 88 "DuskStones$Reader" "HILL_MOST" "[I") (tw_fieldLink 69 (by decide +kernel)) rfl)
theorem lk_RX4_1 : Cond.methodLink RX4 1 objectInit ∈ tb ∧ Cond.instanceMethod objectInit ∈ tb ∧ Cond.code objectInit ⟨#[0xb1]⟩ 1 none ∈ tb := ⟨(tq_1 (w := Cond.methodLink RX4 1 objectInit) (tw_methodLink 15 (by decide +kernel)) rfl), (tq_1 (w := Cond.instanceMethod objectInit) (tw_instanceMethod 16 (by decide +kernel)) rfl), (tq_1 (w := Cond.code objectInit ⟨#[0xb1]⟩ 1 none) (tw_d 17 (by decide +kernel)) rfl)⟩
theorem tz_0 : Cond.initialized RX3 ∈ tb := (tq_1 (w := Cond.initialized RX3) (tw_d 2 (by decide +kernel)) rfl)
theorem tz_1 : Cond.code yX3_init cX3_init 2 none ∈ tb := (tq_1 (w := Cond.code yX3_init cX3_init 2 none) (tw_d 22 (by decide +kernel)) rfl)
theorem lk_RX4_15 : LkI RX4 15 mX3_init 1 := ⟨Or.inl (tq_1 (w := Cond.methodLink RX4 15 yX3_init) (tw_methodLink 20 (by decide +kernel)) rfl), (tq_1 (w := Cond.instanceMethod yX3_init) (tw_instanceMethod 21 (by decide +kernel)) rfl), tz_0, tz_1, rfl, rfl, ⟨by decide +kernel, by decide +kernel, by decide +kernel, by decide +kernel⟩, by decide⟩
theorem tz_2 : Cond.initialized RX1 ∈ tb := (tq_1 (w := Cond.initialized RX1) (tw_d 3 (by decide +kernel)) rfl)
theorem tz_3 : Cond.code yX1_init cX1_init 1 none ∈ tb := (tq_1 (w := Cond.code yX1_init cX1_init 1 none) (tw_d 52 (by decide +kernel)) rfl)
theorem lk_RX4_24 : LkI RX4 24 mX1_init 0 := ⟨Or.inr ⟨rfl, by decide⟩, (tq_1 (w := Cond.instanceMethod yX1_init) (tw_instanceMethod 51 (by decide +kernel)) rfl), tz_2, tz_3, rfl, rfl, ⟨by decide +kernel, by decide +kernel, by decide +kernel, by decide +kernel⟩, by decide⟩
theorem tz_4 : Cond.initialized RX2 ∈ tb := (tq_1 (w := Cond.initialized RX2) (tw_d 4 (by decide +kernel)) rfl)
theorem tz_5 : Cond.code yX2_init cX2_init 1 none ∈ tb := (tq_1 (w := Cond.code yX2_init cX2_init 1 none) (tw_d 130 (by decide +kernel)) rfl)
theorem lk_RX4_34 : LkI RX4 34 mX2_init 0 := ⟨Or.inr ⟨rfl, by decide⟩, (tq_1 (w := Cond.instanceMethod yX2_init) (tw_instanceMethod 129 (by decide +kernel)) rfl), tz_4, tz_5, rfl, rfl, ⟨by decide +kernel, by decide +kernel, by decide +kernel, by decide +kernel⟩, by decide⟩
theorem tz_6 : Cond.initialized RX0 ∈ tb := (tq_1 (w := Cond.initialized RX0) (tw_d 5 (by decide +kernel)) rfl)
theorem tz_7 : Cond.code yX0_init cX0_init 1 none ∈ tb := (tq_1 (w := Cond.code yX0_init cX0_init 1 none) (tw_d 170 (by decide +kernel)) rfl)
theorem lk_RX4_62 : LkI RX4 62 mX0_init 0 := ⟨Or.inr ⟨rfl, by decide⟩, (tq_1 (w := Cond.instanceMethod yX0_init) (tw_instanceMethod 169 (by decide +kernel)) rfl), tz_6, tz_7, rfl, rfl, ⟨by decide +kernel, by decide +kernel, by decide +kernel, by decide +kernel⟩, by decide⟩
theorem lk_RX0_3 : Cond.methodLink RX0 3 objectInit ∈ tb ∧ Cond.instanceMethod objectInit ∈ tb ∧ Cond.code objectInit ⟨#[0xb1]⟩ 1 none ∈ tb := ⟨(tq_1 (w := Cond.methodLink RX0 3 objectInit) (tw_methodLink 171 (by decide +kernel)) rfl), (tq_1 (w := Cond.instanceMethod objectInit) (tw_instanceMethod 16 (by decide +kernel)) rfl), (tq_1 (w := Cond.code objectInit ⟨#[0xb1]⟩ 1 none) (tw_d 17 (by decide +kernel)) rfl)⟩
theorem lk_RX1_3 : Cond.methodLink RX1 3 objectInit ∈ tb ∧ Cond.instanceMethod objectInit ∈ tb ∧ Cond.code objectInit ⟨#[0xb1]⟩ 1 none ∈ tb := ⟨(tq_1 (w := Cond.methodLink RX1 3 objectInit) (tw_methodLink 53 (by decide +kernel)) rfl), (tq_1 (w := Cond.instanceMethod objectInit) (tw_instanceMethod 16 (by decide +kernel)) rfl), (tq_1 (w := Cond.code objectInit ⟨#[0xb1]⟩ 1 none) (tw_d 17 (by decide +kernel)) rfl)⟩
theorem lk_RX2_3 : Cond.methodLink RX2 3 objectInit ∈ tb ∧ Cond.instanceMethod objectInit ∈ tb ∧ Cond.code objectInit ⟨#[0xb1]⟩ 1 none ∈ tb := ⟨(tq_1 (w := Cond.methodLink RX2 3 objectInit) (tw_methodLink 131 (by decide +kernel)) rfl), (tq_1 (w := Cond.instanceMethod objectInit) (tw_instanceMethod 16 (by decide +kernel)) rfl), (tq_1 (w := Cond.code objectInit ⟨#[0xb1]⟩ 1 none) (tw_d 17 (by decide +kernel)) rfl)⟩
theorem lk_RX3_3 : Cond.methodLink RX3 3 objectInit ∈ tb ∧ Cond.instanceMethod objectInit ∈ tb ∧ Cond.code objectInit ⟨#[0xb1]⟩ 1 none ∈ tb := ⟨(tq_1 (w := Cond.methodLink RX3 3 objectInit) (tw_methodLink 23 (by decide +kernel)) rfl), (tq_1 (w := Cond.instanceMethod objectInit) (tw_instanceMethod 16 (by decide +kernel)) rfl), (tq_1 (w := Cond.code objectInit ⟨#[0xb1]⟩ 1 none) (tw_d 17 (by decide +kernel)) rfl)⟩
theorem tz_8 : Cond.initialized RX4 ∈ tb := (tq_1 (w := Cond.initialized RX4) (tw_d 1 (by decide +kernel)) rfl)
theorem tz_9 : Cond.code yX4_init cX4_init 2 none ∈ tb := (tq_1 (w := Cond.code yX4_init cX4_init 2 none) (tw_d 14 (by decide +kernel)) rfl)
theorem lk_RL_9 : LkI RL 9 mX4_init 0 := ⟨Or.inl (tq_1 (w := Cond.methodLink RL 9 yX4_init) (tw_methodLink 12 (by decide +kernel)) rfl), (tq_1 (w := Cond.instanceMethod yX4_init) (tw_instanceMethod 13 (by decide +kernel)) rfl), tz_8, tz_9, rfl, rfl, ⟨by decide +kernel, by decide +kernel, by decide +kernel, by decide +kernel⟩, by decide⟩
theorem tz_10 : Cond.initialized RX5 ∈ tb := (tq_1 (w := Cond.initialized RX5) (tw_d 6 (by decide +kernel)) rfl)
theorem tz_11 : Cond.code yX5_init cX5_init 1 none ∈ tb := (tq_3 (w := Cond.code yX5_init cX5_init 1 none) (tw_d 130 (by decide +kernel)) rfl)
theorem lk_RL_12 : LkI RL 12 mX5_init 0 := ⟨Or.inl (tq_3 (w := Cond.methodLink RL 12 yX5_init) (tw_methodLink 128 (by decide +kernel)) rfl), (tq_3 (w := Cond.instanceMethod yX5_init) (tw_instanceMethod 129 (by decide +kernel)) rfl), tz_10, tz_11, rfl, rfl, ⟨by decide +kernel, by decide +kernel, by decide +kernel, by decide +kernel⟩, by decide⟩
theorem lk_RX5_1 : Cond.methodLink RX5 1 objectInit ∈ tb ∧ Cond.instanceMethod objectInit ∈ tb ∧ Cond.code objectInit ⟨#[0xb1]⟩ 1 none ∈ tb := ⟨(tq_3 (w := Cond.methodLink RX5 1 objectInit) (tw_methodLink 131 (by decide +kernel)) rfl), (tq_1 (w := Cond.instanceMethod objectInit) (tw_instanceMethod 16 (by decide +kernel)) rfl), (tq_1 (w := Cond.code objectInit ⟨#[0xb1]⟩ 1 none) (tw_d 17 (by decide +kernel)) rfl)⟩
theorem lk_RX4_189 : Cond.methodLink RX4 189 Lib.Math.min.name ∈ tb ∧ Cond.static Lib.Math.min.name ∈ tb ∧ Cond.initialized "java/lang/Math" ∈ tb ∧ Cond.code Lib.Math.min.name Lib.Math.min.code 2 (some .int) ∈ tb := ⟨(tq_3 (w := Cond.methodLink RX4 189 Lib.Math.min.name) (tw_methodLink 26 (by decide +kernel)) rfl), (tq_2 (w := Cond.static Lib.Math.min.name) (tw_static 33 (by decide +kernel)) rfl), (tq_1 (w := Cond.initialized "java/lang/Math") (tw_d 7 (by decide +kernel)) rfl), (tq_2 (w := Cond.code Lib.Math.min.name Lib.Math.min.code 2 (some .int)) (tw_d 34 (by decide +kernel)) rfl)⟩
theorem tz_12 : Cond.initialized RJ6 ∈ tb := (tq_1 (w := Cond.initialized RJ6) (tw_d 9 (by decide +kernel)) rfl)
theorem tz_13 : Cond.code yJ6_bitCount_0f7a4 cJ6_bitCount_0f7a4 1 (some .int) ∈ tb := (tq_3 (w := Cond.code yJ6_bitCount_0f7a4 cJ6_bitCount_0f7a4 1 (some .int)) (tw_d 34 (by decide +kernel)) rfl)
theorem tz_14 : Cond.static yJ6_bitCount_0f7a4 ∈ tb := (tq_3 (w := Cond.static yJ6_bitCount_0f7a4) (tw_static 33 (by decide +kernel)) rfl)
theorem lk_RX4_201 : LkS RX4 201 mJ6_bitCount_0f7a4 1 := ⟨(tq_3 (w := Cond.methodLink RX4 201 yJ6_bitCount_0f7a4) (tw_methodLink 32 (by decide +kernel)) rfl), tz_14, tz_12, tz_13, ⟨by decide +kernel, by decide +kernel, by decide +kernel, by decide +kernel⟩, by decide⟩
theorem tz_15 : Cond.code yX4_rainWeight cX4_rainWeight 4 (some .long) ∈ tb := (tq_3 (w := Cond.code yX4_rainWeight cX4_rainWeight 4 (some .long)) (tw_d 78 (by decide +kernel)) rfl)
theorem tz_16 : Cond.static yX4_rainWeight ∈ tb := (tq_3 (w := Cond.static yX4_rainWeight) (tw_static 77 (by decide +kernel)) rfl)
theorem lk_RX4_222 : LkS RX4 222 mX4_rainWeight 3 := ⟨(tq_3 (w := Cond.methodLink RX4 222 yX4_rainWeight) (tw_methodLink 76 (by decide +kernel)) rfl), tz_16, tz_8, tz_15, ⟨by decide +kernel, by decide +kernel, by decide +kernel, by decide +kernel⟩, by decide⟩
theorem tz_17 : Cond.code yX4_power cX4_power 5 (some .long) ∈ tb := (tq_3 (w := Cond.code yX4_power cX4_power 5 (some .long)) (tw_d 81 (by decide +kernel)) rfl)
theorem tz_18 : Cond.static yX4_power ∈ tb := (tq_3 (w := Cond.static yX4_power) (tw_static 80 (by decide +kernel)) rfl)
theorem lk_RX4_230 : LkS RX4 230 mX4_power 2 := ⟨(tq_3 (w := Cond.methodLink RX4 230 yX4_power) (tw_methodLink 79 (by decide +kernel)) rfl), tz_18, tz_8, tz_17, ⟨by decide +kernel, by decide +kernel, by decide +kernel, by decide +kernel⟩, by decide⟩
theorem tz_19 : Cond.code yX4_commonDivisor cX4_commonDivisor 7 (some .long) ∈ tb := (tq_3 (w := Cond.code yX4_commonDivisor cX4_commonDivisor 7 (some .long)) (tw_d 88 (by decide +kernel)) rfl)
theorem tz_20 : Cond.static yX4_commonDivisor ∈ tb := (tq_3 (w := Cond.static yX4_commonDivisor) (tw_static 87 (by decide +kernel)) rfl)
theorem lk_RX4_234 : LkS RX4 234 mX4_commonDivisor 2 := ⟨(tq_3 (w := Cond.methodLink RX4 234 yX4_commonDivisor) (tw_methodLink 86 (by decide +kernel)) rfl), tz_20, tz_8, tz_19, ⟨by decide +kernel, by decide +kernel, by decide +kernel, by decide +kernel⟩, by decide⟩
theorem lk_RX0_37 : Cond.methodLink RX0 37 Lib.Math.min.name ∈ tb ∧ Cond.static Lib.Math.min.name ∈ tb ∧ Cond.initialized "java/lang/Math" ∈ tb ∧ Cond.code Lib.Math.min.name Lib.Math.min.code 2 (some .int) ∈ tb := ⟨(tq_2 (w := Cond.methodLink RX0 37 Lib.Math.min.name) (tw_methodLink 217 (by decide +kernel)) rfl), (tq_2 (w := Cond.static Lib.Math.min.name) (tw_static 33 (by decide +kernel)) rfl), (tq_1 (w := Cond.initialized "java/lang/Math") (tw_d 7 (by decide +kernel)) rfl), (tq_2 (w := Cond.code Lib.Math.min.name Lib.Math.min.code 2 (some .int)) (tw_d 34 (by decide +kernel)) rfl)⟩
theorem lk_RX0_54 : Cond.methodLink RX0 54 arraycopyName ∈ tb ∧ Cond.native arraycopyName ∈ tb ∧ Cond.static arraycopyName ∈ tb ∧ Cond.initialized "java/lang/System" ∈ tb := ⟨(tq_2 (w := Cond.methodLink RX0 54 arraycopyName) (tw_methodLink 222 (by decide +kernel)) rfl), (tq_2 (w := Cond.native arraycopyName) (tw_d 150 (by decide +kernel)) rfl), (tq_2 (w := Cond.static arraycopyName) (tw_static 149 (by decide +kernel)) rfl), (tq_1 (w := Cond.initialized "java/lang/System") (tw_d 8 (by decide +kernel)) rfl)⟩
theorem tz_21 : Cond.code yX0_isIn cX0_isIn 2 (some .boolean) ∈ tb := (tq_2 (w := Cond.code yX0_isIn cX0_isIn 2 (some .boolean)) (tw_d 237 (by decide +kernel)) rfl)
theorem tz_22 : Cond.static yX0_isIn ∈ tb := (tq_2 (w := Cond.static yX0_isIn) (tw_static 236 (by decide +kernel)) rfl)
theorem lk_RX0_83 : LkS RX0 83 mX0_isIn 2 := ⟨(tq_2 (w := Cond.methodLink RX0 83 yX0_isIn) (tw_methodLink 235 (by decide +kernel)) rfl), tz_22, tz_6, tz_21, ⟨by decide +kernel, by decide +kernel, by decide +kernel, by decide +kernel⟩, by decide⟩
theorem lk_RX0_87 : Cond.methodLink RX0 87 Lib.Math.max.name ∈ tb ∧ Cond.static Lib.Math.max.name ∈ tb ∧ Cond.initialized "java/lang/Math" ∈ tb ∧ Cond.code Lib.Math.max.name Lib.Math.max.code 2 (some .int) ∈ tb := ⟨(tq_3 (w := Cond.methodLink RX0 87 Lib.Math.max.name) (tw_methodLink 2 (by decide +kernel)) rfl), (tq_2 (w := Cond.static Lib.Math.max.name) (tw_static 113 (by decide +kernel)) rfl), (tq_1 (w := Cond.initialized "java/lang/Math") (tw_d 7 (by decide +kernel)) rfl), (tq_2 (w := Cond.code Lib.Math.max.name Lib.Math.max.code 2 (some .int)) (tw_d 114 (by decide +kernel)) rfl)⟩
theorem lk_RX2_41 : Cond.methodLink RX2 41 arraycopyName ∈ tb ∧ Cond.native arraycopyName ∈ tb ∧ Cond.static arraycopyName ∈ tb ∧ Cond.initialized "java/lang/System" ∈ tb := ⟨(tq_2 (w := Cond.methodLink RX2 41 arraycopyName) (tw_methodLink 148 (by decide +kernel)) rfl), (tq_2 (w := Cond.native arraycopyName) (tw_d 150 (by decide +kernel)) rfl), (tq_2 (w := Cond.static arraycopyName) (tw_static 149 (by decide +kernel)) rfl), (tq_1 (w := Cond.initialized "java/lang/System") (tw_d 8 (by decide +kernel)) rfl)⟩
theorem lk_RX2_62 : Cond.methodLink RX2 62 Lib.Math.max.name ∈ tb ∧ Cond.static Lib.Math.max.name ∈ tb ∧ Cond.initialized "java/lang/Math" ∈ tb ∧ Cond.code Lib.Math.max.name Lib.Math.max.code 2 (some .int) ∈ tb := ⟨(tq_2 (w := Cond.methodLink RX2 62 Lib.Math.max.name) (tw_methodLink 112 (by decide +kernel)) rfl), (tq_2 (w := Cond.static Lib.Math.max.name) (tw_static 113 (by decide +kernel)) rfl), (tq_1 (w := Cond.initialized "java/lang/Math") (tw_d 7 (by decide +kernel)) rfl), (tq_2 (w := Cond.code Lib.Math.max.name Lib.Math.max.code 2 (some .int)) (tw_d 114 (by decide +kernel)) rfl)⟩
theorem lk_RX2_103 : Cond.methodLink RX2 103 Lib.Math.min.name ∈ tb ∧ Cond.static Lib.Math.min.name ∈ tb ∧ Cond.initialized "java/lang/Math" ∈ tb ∧ Cond.code Lib.Math.min.name Lib.Math.min.code 2 (some .int) ∈ tb := ⟨(tq_2 (w := Cond.methodLink RX2 103 Lib.Math.min.name) (tw_methodLink 182 (by decide +kernel)) rfl), (tq_2 (w := Cond.static Lib.Math.min.name) (tw_static 33 (by decide +kernel)) rfl), (tq_1 (w := Cond.initialized "java/lang/Math") (tw_d 7 (by decide +kernel)) rfl), (tq_2 (w := Cond.code Lib.Math.min.name Lib.Math.min.code 2 (some .int)) (tw_d 34 (by decide +kernel)) rfl)⟩
theorem lk_RX3_19 : Cond.methodLink RX3 19 Lib.Math.min.name ∈ tb ∧ Cond.static Lib.Math.min.name ∈ tb ∧ Cond.initialized "java/lang/Math" ∈ tb ∧ Cond.code Lib.Math.min.name Lib.Math.min.code 2 (some .int) ∈ tb := ⟨(tq_2 (w := Cond.methodLink RX3 19 Lib.Math.min.name) (tw_methodLink 32 (by decide +kernel)) rfl), (tq_2 (w := Cond.static Lib.Math.min.name) (tw_static 33 (by decide +kernel)) rfl), (tq_1 (w := Cond.initialized "java/lang/Math") (tw_d 7 (by decide +kernel)) rfl), (tq_2 (w := Cond.code Lib.Math.min.name Lib.Math.min.code 2 (some .int)) (tw_d 34 (by decide +kernel)) rfl)⟩
theorem tz_23 : Cond.code yX3_canStand cX3_canStand 2 (some .boolean) ∈ tb := (tq_2 (w := Cond.code yX3_canStand cX3_canStand 2 (some .boolean)) (tw_d 59 (by decide +kernel)) rfl)
theorem tz_24 : Cond.static yX3_canStand ∈ tb := (tq_2 (w := Cond.static yX3_canStand) (tw_static 58 (by decide +kernel)) rfl)
theorem lk_RX3_50 : LkS RX3 50 mX3_canStand 2 := ⟨(tq_2 (w := Cond.methodLink RX3 50 yX3_canStand) (tw_methodLink 57 (by decide +kernel)) rfl), tz_24, tz_0, tz_23, ⟨by decide +kernel, by decide +kernel, by decide +kernel, by decide +kernel⟩, by decide⟩
theorem tz_25 : Cond.code yX3_numbersOf cX3_numbersOf 1 (some .int) ∈ tb := (tq_2 (w := Cond.code yX3_numbersOf cX3_numbersOf 1 (some .int)) (tw_d 62 (by decide +kernel)) rfl)
theorem tz_26 : Cond.static yX3_numbersOf ∈ tb := (tq_2 (w := Cond.static yX3_numbersOf) (tw_static 61 (by decide +kernel)) rfl)
theorem lk_RX3_54 : LkS RX3 54 mX3_numbersOf 1 := ⟨(tq_2 (w := Cond.methodLink RX3 54 yX3_numbersOf) (tw_methodLink 60 (by decide +kernel)) rfl), tz_26, tz_0, tz_25, ⟨by decide +kernel, by decide +kernel, by decide +kernel, by decide +kernel⟩, by decide⟩
theorem tz_27 : Cond.code yX3_isDigit cX3_isDigit 1 (some .boolean) ∈ tb := (tq_2 (w := Cond.code yX3_isDigit cX3_isDigit 1 (some .boolean)) (tw_d 45 (by decide +kernel)) rfl)
theorem tz_28 : Cond.static yX3_isDigit ∈ tb := (tq_2 (w := Cond.static yX3_isDigit) (tw_static 44 (by decide +kernel)) rfl)
theorem lk_RX3_119 : LkS RX3 119 mX3_isDigit 1 := ⟨(tq_2 (w := Cond.methodLink RX3 119 yX3_isDigit) (tw_methodLink 43 (by decide +kernel)) rfl), tz_28, tz_0, tz_27, ⟨by decide +kernel, by decide +kernel, by decide +kernel, by decide +kernel⟩, by decide⟩
theorem tz_29 : Cond.code yX3_isSign cX3_isSign 1 (some .boolean) ∈ tb := (tq_2 (w := Cond.code yX3_isSign cX3_isSign 1 (some .boolean)) (tw_d 52 (by decide +kernel)) rfl)
theorem tz_30 : Cond.static yX3_isSign ∈ tb := (tq_2 (w := Cond.static yX3_isSign) (tw_static 51 (by decide +kernel)) rfl)
theorem lk_RX3_126 : LkS RX3 126 mX3_isSign 1 := ⟨(tq_2 (w := Cond.methodLink RX3 126 yX3_isSign) (tw_methodLink 50 (by decide +kernel)) rfl), tz_30, tz_0, tz_29, ⟨by decide +kernel, by decide +kernel, by decide +kernel, by decide +kernel⟩, by decide⟩
theorem tz_31 : Cond.code yX5_in cX5_in 6 (some .boolean) ∈ tb := (tq_4 (w := Cond.code yX5_in cX5_in 6 (some .boolean)) (tw_d 3 (by decide +kernel)) rfl)
theorem tz_32 : Cond.static yX5_in ∈ tb := (tq_4 (w := Cond.static yX5_in) (tw_static 2 (by decide +kernel)) rfl)
theorem lk_RX5_59 : LkS RX5 59 mX5_in 3 := ⟨(tq_4 (w := Cond.methodLink RX5 59 yX5_in) (tw_methodLink 1 (by decide +kernel)) rfl), tz_32, tz_10, tz_31, ⟨by decide +kernel, by decide +kernel, by decide +kernel, by decide +kernel⟩, by decide⟩
theorem tz_33 : Cond.code yX5_isFigure cX5_isFigure 1 (some .boolean) ∈ tb := (tq_4 (w := Cond.code yX5_isFigure cX5_isFigure 1 (some .boolean)) (tw_d 18 (by decide +kernel)) rfl)
theorem tz_34 : Cond.static yX5_isFigure ∈ tb := (tq_4 (w := Cond.static yX5_isFigure) (tw_static 17 (by decide +kernel)) rfl)
theorem lk_RX5_79 : LkS RX5 79 mX5_isFigure 1 := ⟨(tq_4 (w := Cond.methodLink RX5 79 yX5_isFigure) (tw_methodLink 16 (by decide +kernel)) rfl), tz_34, tz_10, tz_33, ⟨by decide +kernel, by decide +kernel, by decide +kernel, by decide +kernel⟩, by decide⟩
theorem tz_35 : Cond.code yX5_has cX5_has 2 (some .boolean) ∈ tb := (tq_4 (w := Cond.code yX5_has cX5_has 2 (some .boolean)) (tw_d 43 (by decide +kernel)) rfl)
theorem tz_36 : Cond.static yX5_has ∈ tb := (tq_4 (w := Cond.static yX5_has) (tw_static 42 (by decide +kernel)) rfl)
theorem lk_RX5_118 : LkS RX5 118 mX5_has 2 := ⟨(tq_4 (w := Cond.methodLink RX5 118 yX5_has) (tw_methodLink 41 (by decide +kernel)) rfl), tz_36, tz_10, tz_35, ⟨by decide +kernel, by decide +kernel, by decide +kernel, by decide +kernel⟩, by decide⟩
theorem tz_37 : Cond.code yX5_one cX5_one 1 (some .int) ∈ tb := (tq_4 (w := Cond.code yX5_one cX5_one 1 (some .int)) (tw_d 70 (by decide +kernel)) rfl)
theorem tz_38 : Cond.static yX5_one ∈ tb := (tq_4 (w := Cond.static yX5_one) (tw_static 69 (by decide +kernel)) rfl)
theorem lk_RX5_161 : LkS RX5 161 mX5_one 1 := ⟨(tq_4 (w := Cond.methodLink RX5 161 yX5_one) (tw_methodLink 68 (by decide +kernel)) rfl), tz_38, tz_10, tz_37, ⟨by decide +kernel, by decide +kernel, by decide +kernel, by decide +kernel⟩, by decide⟩
theorem tz_39 : Cond.code yX5_ones cX5_ones 3 (some .int) ∈ tb := (tq_4 (w := Cond.code yX5_ones cX5_ones 3 (some .int)) (tw_d 173 (by decide +kernel)) rfl)
theorem tz_40 : Cond.static yX5_ones ∈ tb := (tq_4 (w := Cond.static yX5_ones) (tw_static 172 (by decide +kernel)) rfl)
theorem lk_RX5_219 : LkS RX5 219 mX5_ones 1 := ⟨(tq_4 (w := Cond.methodLink RX5 219 yX5_ones) (tw_methodLink 171 (by decide +kernel)) rfl), tz_40, tz_10, tz_39, ⟨by decide +kernel, by decide +kernel, by decide +kernel, by decide +kernel⟩, by decide⟩
theorem tz_41 : Cond.code yX5_common cX5_common 10 (some .long) ∈ tb := (tq_4 (w := Cond.code yX5_common cX5_common 10 (some .long)) (tw_d 204 (by decide +kernel)) rfl)
theorem tz_42 : Cond.static yX5_common ∈ tb := (tq_4 (w := Cond.static yX5_common) (tw_static 203 (by decide +kernel)) rfl)
theorem lk_RX5_230 : LkS RX5 230 mX5_common 2 := ⟨(tq_4 (w := Cond.methodLink RX5 230 yX5_common) (tw_methodLink 202 (by decide +kernel)) rfl), tz_42, tz_10, tz_41, ⟨by decide +kernel, by decide +kernel, by decide +kernel, by decide +kernel⟩, by decide⟩
theorem tz_43 : Cond.code yX2_begin cX2_begin 3 none ∈ tb := (tq_1 (w := Cond.code yX2_begin cX2_begin 3 none) (tw_d 202 (by decide +kernel)) rfl)
theorem tz_44 : Cond.instanceMethod yX2_begin ∈ tb := (tq_1 (w := Cond.instanceMethod yX2_begin) (tw_instanceMethod 200 (by decide +kernel)) rfl)
theorem tz_45 : Cond.selects RX2 yX2_begin yX2_begin ∈ tb := (tq_1 (w := Cond.selects RX2 yX2_begin yX2_begin) (tw_selects 201 (by decide +kernel)) rfl)
theorem lk_RX4_67 : LkV RX4 67 mX2_begin 1 := ⟨(tq_1 (w := Cond.methodLink RX4 67 yX2_begin) (tw_methodLink 199 (by decide +kernel)) rfl), tz_44, tz_45, tz_4, tz_43, ⟨by decide +kernel, by decide +kernel, by decide +kernel, by decide +kernel⟩, by decide⟩
theorem tz_46 : Cond.code yX3_readAll cX3_readAll 4 (some .int) ∈ tb := (tq_2 (w := Cond.code yX3_readAll cX3_readAll 4 (some .int)) (tw_d 31 (by decide +kernel)) rfl)
theorem tz_47 : Cond.instanceMethod yX3_readAll ∈ tb := (tq_2 (w := Cond.instanceMethod yX3_readAll) (tw_instanceMethod 29 (by decide +kernel)) rfl)
theorem tz_48 : Cond.selects RX3 yX3_readAll yX3_readAll ∈ tb := (tq_2 (w := Cond.selects RX3 yX3_readAll yX3_readAll) (tw_selects 30 (by decide +kernel)) rfl)
theorem lk_RX4_75 : LkV RX4 75 mX3_readAll 2 := ⟨(tq_2 (w := Cond.methodLink RX4 75 yX3_readAll) (tw_methodLink 28 (by decide +kernel)) rfl), tz_47, tz_48, tz_0, tz_46, ⟨by decide +kernel, by decide +kernel, by decide +kernel, by decide +kernel⟩, by decide⟩
theorem tz_49 : Cond.code yX1_hasHill cX1_hasHill 2 (some .boolean) ∈ tb := (tq_2 (w := Cond.code yX1_hasHill cX1_hasHill 2 (some .boolean)) (tw_d 82 (by decide +kernel)) rfl)
theorem tz_50 : Cond.instanceMethod yX1_hasHill ∈ tb := (tq_2 (w := Cond.instanceMethod yX1_hasHill) (tw_instanceMethod 80 (by decide +kernel)) rfl)
theorem tz_51 : Cond.selects RX1 yX1_hasHill yX1_hasHill ∈ tb := (tq_2 (w := Cond.selects RX1 yX1_hasHill yX1_hasHill) (tw_selects 81 (by decide +kernel)) rfl)
theorem lk_RX4_85 : LkV RX4 85 mX1_hasHill 1 := ⟨(tq_2 (w := Cond.methodLink RX4 85 yX1_hasHill) (tw_methodLink 103 (by decide +kernel)) rfl), tz_50, tz_51, tz_2, tz_49, ⟨by decide +kernel, by decide +kernel, by decide +kernel, by decide +kernel⟩, by decide⟩
theorem tz_52 : Cond.code yX2_sizeNow cX2_sizeNow 3 (some .int) ∈ tb := (tq_2 (w := Cond.code yX2_sizeNow cX2_sizeNow 3 (some .int)) (tw_d 111 (by decide +kernel)) rfl)
theorem tz_53 : Cond.instanceMethod yX2_sizeNow ∈ tb := (tq_2 (w := Cond.instanceMethod yX2_sizeNow) (tw_instanceMethod 109 (by decide +kernel)) rfl)
theorem tz_54 : Cond.selects RX2 yX2_sizeNow yX2_sizeNow ∈ tb := (tq_2 (w := Cond.selects RX2 yX2_sizeNow yX2_sizeNow) (tw_selects 110 (by decide +kernel)) rfl)
theorem lk_RX4_104 : LkV RX4 104 mX2_sizeNow 2 := ⟨(tq_2 (w := Cond.methodLink RX4 104 yX2_sizeNow) (tw_methodLink 108 (by decide +kernel)) rfl), tz_53, tz_54, tz_4, tz_52, ⟨by decide +kernel, by decide +kernel, by decide +kernel, by decide +kernel⟩, by decide⟩
theorem tz_55 : Cond.code yX2_isOver cX2_isOver 3 (some .boolean) ∈ tb := (tq_2 (w := Cond.code yX2_isOver cX2_isOver 3 (some .boolean)) (tw_d 118 (by decide +kernel)) rfl)
theorem tz_56 : Cond.instanceMethod yX2_isOver ∈ tb := (tq_2 (w := Cond.instanceMethod yX2_isOver) (tw_instanceMethod 116 (by decide +kernel)) rfl)
theorem tz_57 : Cond.selects RX2 yX2_isOver yX2_isOver ∈ tb := (tq_2 (w := Cond.selects RX2 yX2_isOver yX2_isOver) (tw_selects 117 (by decide +kernel)) rfl)
theorem lk_RX4_111 : LkV RX4 111 mX2_isOver 2 := ⟨(tq_2 (w := Cond.methodLink RX4 111 yX2_isOver) (tw_methodLink 115 (by decide +kernel)) rfl), tz_56, tz_57, tz_4, tz_55, ⟨by decide +kernel, by decide +kernel, by decide +kernel, by decide +kernel⟩, by decide⟩
theorem tz_58 : Cond.code yX1_hasMan cX1_hasMan 2 (some .boolean) ∈ tb := (tq_2 (w := Cond.code yX1_hasMan cX1_hasMan 2 (some .boolean)) (tw_d 126 (by decide +kernel)) rfl)
theorem tz_59 : Cond.instanceMethod yX1_hasMan ∈ tb := (tq_2 (w := Cond.instanceMethod yX1_hasMan) (tw_instanceMethod 124 (by decide +kernel)) rfl)
theorem tz_60 : Cond.selects RX1 yX1_hasMan yX1_hasMan ∈ tb := (tq_2 (w := Cond.selects RX1 yX1_hasMan yX1_hasMan) (tw_selects 125 (by decide +kernel)) rfl)
theorem lk_RX4_115 : LkV RX4 115 mX1_hasMan 1 := ⟨(tq_2 (w := Cond.methodLink RX4 115 yX1_hasMan) (tw_methodLink 123 (by decide +kernel)) rfl), tz_59, tz_60, tz_2, tz_58, ⟨by decide +kernel, by decide +kernel, by decide +kernel, by decide +kernel⟩, by decide⟩
theorem tz_61 : Cond.code yX2_overBits cX2_overBits 4 (some .int) ∈ tb := (tq_2 (w := Cond.code yX2_overBits cX2_overBits 4 (some .int)) (tw_d 134 (by decide +kernel)) rfl)
theorem tz_62 : Cond.instanceMethod yX2_overBits ∈ tb := (tq_2 (w := Cond.instanceMethod yX2_overBits) (tw_instanceMethod 132 (by decide +kernel)) rfl)
theorem tz_63 : Cond.selects RX2 yX2_overBits yX2_overBits ∈ tb := (tq_2 (w := Cond.selects RX2 yX2_overBits yX2_overBits) (tw_selects 133 (by decide +kernel)) rfl)
theorem lk_RX4_133 : LkV RX4 133 mX2_overBits 1 := ⟨(tq_2 (w := Cond.methodLink RX4 133 yX2_overBits) (tw_methodLink 131 (by decide +kernel)) rfl), tz_62, tz_63, tz_4, tz_61, ⟨by decide +kernel, by decide +kernel, by decide +kernel, by decide +kernel⟩, by decide⟩
theorem tz_64 : Cond.code yX4_remember cX4_remember 3 none ∈ tb := (tq_2 (w := Cond.code yX4_remember cX4_remember 3 none) (tw_d 143 (by decide +kernel)) rfl)
theorem tz_65 : Cond.instanceMethod yX4_remember ∈ tb := (tq_2 (w := Cond.instanceMethod yX4_remember) (tw_instanceMethod 142 (by decide +kernel)) rfl)
theorem tz_66 : Cond.selects RX4 yX4_remember yX4_remember ∈ tb := (tq_0 (w := Cond.selects RX4 yX4_remember yX4_remember) (tw_selects 0 (by decide +kernel)) rfl)
theorem lk_RX4_140 : LkV RX4 140 mX4_remember 0 := ⟨(tq_2 (w := Cond.methodLink RX4 140 yX4_remember) (tw_methodLink 140 (by decide +kernel)) rfl), tz_65, tz_66, tz_8, tz_64, ⟨by decide +kernel, by decide +kernel, by decide +kernel, by decide +kernel⟩, by decide⟩
theorem tz_67 : Cond.code yX2_passHour cX2_passHour 6 (some .int) ∈ tb := (tq_2 (w := Cond.code yX2_passHour cX2_passHour 6 (some .int)) (tw_d 158 (by decide +kernel)) rfl)
theorem tz_68 : Cond.instanceMethod yX2_passHour ∈ tb := (tq_2 (w := Cond.instanceMethod yX2_passHour) (tw_instanceMethod 156 (by decide +kernel)) rfl)
theorem tz_69 : Cond.selects RX2 yX2_passHour yX2_passHour ∈ tb := (tq_2 (w := Cond.selects RX2 yX2_passHour yX2_passHour) (tw_selects 157 (by decide +kernel)) rfl)
theorem lk_RX4_143 : LkV RX4 143 mX2_passHour 1 := ⟨(tq_2 (w := Cond.methodLink RX4 143 yX2_passHour) (tw_methodLink 155 (by decide +kernel)) rfl), tz_68, tz_69, tz_4, tz_67, ⟨by decide +kernel, by decide +kernel, by decide +kernel, by decide +kernel⟩, by decide⟩
theorem tz_70 : Cond.code yX1_rainsOn cX1_rainsOn 2 (some .boolean) ∈ tb := (tq_2 (w := Cond.code yX1_rainsOn cX1_rainsOn 2 (some .boolean)) (tw_d 186 (by decide +kernel)) rfl)
theorem tz_71 : Cond.instanceMethod yX1_rainsOn ∈ tb := (tq_2 (w := Cond.instanceMethod yX1_rainsOn) (tw_instanceMethod 184 (by decide +kernel)) rfl)
theorem tz_72 : Cond.selects RX1 yX1_rainsOn yX1_rainsOn ∈ tb := (tq_2 (w := Cond.selects RX1 yX1_rainsOn yX1_rainsOn) (tw_selects 185 (by decide +kernel)) rfl)
theorem lk_RX4_149 : LkV RX4 149 mX1_rainsOn 1 := ⟨(tq_2 (w := Cond.methodLink RX4 149 yX1_rainsOn) (tw_methodLink 183 (by decide +kernel)) rfl), tz_71, tz_72, tz_2, tz_70, ⟨by decide +kernel, by decide +kernel, by decide +kernel, by decide +kernel⟩, by decide⟩
theorem tz_73 : Cond.code yX2_fallDusk cX2_fallDusk 5 none ∈ tb := (tq_2 (w := Cond.code yX2_fallDusk cX2_fallDusk 5 none) (tw_d 190 (by decide +kernel)) rfl)
theorem tz_74 : Cond.instanceMethod yX2_fallDusk ∈ tb := (tq_2 (w := Cond.instanceMethod yX2_fallDusk) (tw_instanceMethod 188 (by decide +kernel)) rfl)
theorem tz_75 : Cond.selects RX2 yX2_fallDusk yX2_fallDusk ∈ tb := (tq_2 (w := Cond.selects RX2 yX2_fallDusk yX2_fallDusk) (tw_selects 189 (by decide +kernel)) rfl)
theorem lk_RX4_152 : LkV RX4 152 mX2_fallDusk 2 := ⟨(tq_2 (w := Cond.methodLink RX4 152 yX2_fallDusk) (tw_methodLink 187 (by decide +kernel)) rfl), tz_74, tz_75, tz_4, tz_73, ⟨by decide +kernel, by decide +kernel, by decide +kernel, by decide +kernel⟩, by decide⟩
theorem tz_76 : Cond.code yX2_writeDown cX2_writeDown 4 none ∈ tb := (tq_2 (w := Cond.code yX2_writeDown cX2_writeDown 4 none) (tw_d 198 (by decide +kernel)) rfl)
theorem tz_77 : Cond.instanceMethod yX2_writeDown ∈ tb := (tq_2 (w := Cond.instanceMethod yX2_writeDown) (tw_instanceMethod 196 (by decide +kernel)) rfl)
theorem tz_78 : Cond.selects RX2 yX2_writeDown yX2_writeDown ∈ tb := (tq_2 (w := Cond.selects RX2 yX2_writeDown yX2_writeDown) (tw_selects 197 (by decide +kernel)) rfl)
theorem lk_RX4_156 : LkV RX4 156 mX2_writeDown 1 := ⟨(tq_2 (w := Cond.methodLink RX4 156 yX2_writeDown) (tw_methodLink 195 (by decide +kernel)) rfl), tz_77, tz_78, tz_4, tz_76, ⟨by decide +kernel, by decide +kernel, by decide +kernel, by decide +kernel⟩, by decide⟩
theorem tz_79 : Cond.code yX2_copyFrom cX2_copyFrom 2 none ∈ tb := (tq_2 (w := Cond.code yX2_copyFrom cX2_copyFrom 2 none) (tw_d 147 (by decide +kernel)) rfl)
theorem tz_80 : Cond.instanceMethod yX2_copyFrom ∈ tb := (tq_2 (w := Cond.instanceMethod yX2_copyFrom) (tw_instanceMethod 145 (by decide +kernel)) rfl)
theorem tz_81 : Cond.selects RX2 yX2_copyFrom yX2_copyFrom ∈ tb := (tq_2 (w := Cond.selects RX2 yX2_copyFrom yX2_copyFrom) (tw_selects 146 (by decide +kernel)) rfl)
theorem lk_RX4_159 : LkV RX4 159 mX2_copyFrom 1 := ⟨(tq_2 (w := Cond.methodLink RX4 159 yX2_copyFrom) (tw_methodLink 144 (by decide +kernel)) rfl), tz_80, tz_81, tz_4, tz_79, ⟨by decide +kernel, by decide +kernel, by decide +kernel, by decide +kernel⟩, by decide⟩
theorem tz_82 : Cond.code yX2_hoursLeft cX2_hoursLeft 2 (some .int) ∈ tb := (tq_2 (w := Cond.code yX2_hoursLeft cX2_hoursLeft 2 (some .int)) (tw_d 210 (by decide +kernel)) rfl)
theorem tz_83 : Cond.instanceMethod yX2_hoursLeft ∈ tb := (tq_2 (w := Cond.instanceMethod yX2_hoursLeft) (tw_instanceMethod 208 (by decide +kernel)) rfl)
theorem tz_84 : Cond.selects RX2 yX2_hoursLeft yX2_hoursLeft ∈ tb := (tq_2 (w := Cond.selects RX2 yX2_hoursLeft yX2_hoursLeft) (tw_selects 209 (by decide +kernel)) rfl)
theorem lk_RX4_163 : LkV RX4 163 mX2_hoursLeft 1 := ⟨(tq_2 (w := Cond.methodLink RX4 163 yX2_hoursLeft) (tw_methodLink 207 (by decide +kernel)) rfl), tz_83, tz_84, tz_4, tz_82, ⟨by decide +kernel, by decide +kernel, by decide +kernel, by decide +kernel⟩, by decide⟩
theorem tz_85 : Cond.code yX0_search cX0_search 4 none ∈ tb := (tq_2 (w := Cond.code yX0_search cX0_search 4 none) (tw_d 214 (by decide +kernel)) rfl)
theorem tz_86 : Cond.instanceMethod yX0_search ∈ tb := (tq_2 (w := Cond.instanceMethod yX0_search) (tw_instanceMethod 212 (by decide +kernel)) rfl)
theorem tz_87 : Cond.selects RX0 yX0_search yX0_search ∈ tb := (tq_2 (w := Cond.selects RX0 yX0_search yX0_search) (tw_selects 213 (by decide +kernel)) rfl)
theorem lk_RX4_166 : LkV RX4 166 mX0_search 3 := ⟨(tq_2 (w := Cond.methodLink RX4 166 yX0_search) (tw_methodLink 211 (by decide +kernel)) rfl), tz_86, tz_87, tz_6, tz_85, ⟨by decide +kernel, by decide +kernel, by decide +kernel, by decide +kernel⟩, by decide⟩
theorem tz_88 : Cond.code yX4_allPush cX4_allPush 3 none ∈ tb := (tq_3 (w := Cond.code yX4_allPush cX4_allPush 3 none) (tw_d 10 (by decide +kernel)) rfl)
theorem tz_89 : Cond.instanceMethod yX4_allPush ∈ tb := (tq_3 (w := Cond.instanceMethod yX4_allPush) (tw_instanceMethod 9 (by decide +kernel)) rfl)
theorem tz_90 : Cond.selects RX4 yX4_allPush yX4_allPush ∈ tb := (tq_0 (w := Cond.selects RX4 yX4_allPush yX4_allPush) (tw_selects 1 (by decide +kernel)) rfl)
theorem lk_RX4_176 : LkV RX4 176 mX4_allPush 1 := ⟨(tq_3 (w := Cond.methodLink RX4 176 yX4_allPush) (tw_methodLink 7 (by decide +kernel)) rfl), tz_89, tz_90, tz_8, tz_88, ⟨by decide +kernel, by decide +kernel, by decide +kernel, by decide +kernel⟩, by decide⟩
theorem tz_91 : Cond.code yX2_passDay cX2_passDay 4 none ∈ tb := (tq_3 (w := Cond.code yX2_passDay cX2_passDay 4 none) (tw_d 14 (by decide +kernel)) rfl)
theorem tz_92 : Cond.instanceMethod yX2_passDay ∈ tb := (tq_3 (w := Cond.instanceMethod yX2_passDay) (tw_instanceMethod 12 (by decide +kernel)) rfl)
theorem tz_93 : Cond.selects RX2 yX2_passDay yX2_passDay ∈ tb := (tq_3 (w := Cond.selects RX2 yX2_passDay yX2_passDay) (tw_selects 13 (by decide +kernel)) rfl)
theorem lk_RX4_180 : LkV RX4 180 mX2_passDay 1 := ⟨(tq_3 (w := Cond.methodLink RX4 180 yX2_passDay) (tw_methodLink 11 (by decide +kernel)) rfl), tz_92, tz_93, tz_4, tz_91, ⟨by decide +kernel, by decide +kernel, by decide +kernel, by decide +kernel⟩, by decide⟩
theorem tz_94 : Cond.code yX2_freeSteps cX2_freeSteps 5 (some .int) ∈ tb := (tq_2 (w := Cond.code yX2_freeSteps cX2_freeSteps 5 (some .int)) (tw_d 221 (by decide +kernel)) rfl)
theorem tz_95 : Cond.instanceMethod yX2_freeSteps ∈ tb := (tq_2 (w := Cond.instanceMethod yX2_freeSteps) (tw_instanceMethod 219 (by decide +kernel)) rfl)
theorem tz_96 : Cond.selects RX2 yX2_freeSteps yX2_freeSteps ∈ tb := (tq_2 (w := Cond.selects RX2 yX2_freeSteps yX2_freeSteps) (tw_selects 220 (by decide +kernel)) rfl)
theorem lk_RX4_183 : LkV RX4 183 mX2_freeSteps 2 := ⟨(tq_3 (w := Cond.methodLink RX4 183 yX2_freeSteps) (tw_methodLink 21 (by decide +kernel)) rfl), tz_95, tz_96, tz_4, tz_94, ⟨by decide +kernel, by decide +kernel, by decide +kernel, by decide +kernel⟩, by decide⟩
theorem tz_97 : Cond.code yX2_strengthAfter cX2_strengthAfter 5 (some .int) ∈ tb := (tq_3 (w := Cond.code yX2_strengthAfter cX2_strengthAfter 5 (some .int)) (tw_d 25 (by decide +kernel)) rfl)
theorem tz_98 : Cond.instanceMethod yX2_strengthAfter ∈ tb := (tq_3 (w := Cond.instanceMethod yX2_strengthAfter) (tw_instanceMethod 23 (by decide +kernel)) rfl)
theorem tz_99 : Cond.selects RX2 yX2_strengthAfter yX2_strengthAfter ∈ tb := (tq_3 (w := Cond.selects RX2 yX2_strengthAfter yX2_strengthAfter) (tw_selects 24 (by decide +kernel)) rfl)
theorem lk_RX4_186 : LkV RX4 186 mX2_strengthAfter 2 := ⟨(tq_3 (w := Cond.methodLink RX4 186 yX2_strengthAfter) (tw_methodLink 22 (by decide +kernel)) rfl), tz_98, tz_99, tz_4, tz_97, ⟨by decide +kernel, by decide +kernel, by decide +kernel, by decide +kernel⟩, by decide⟩
theorem tz_100 : Cond.code yX2_needOf cX2_needOf 3 (some .int) ∈ tb := (tq_2 (w := Cond.code yX2_needOf cX2_needOf 3 (some .int)) (tw_d 171 (by decide +kernel)) rfl)
theorem tz_101 : Cond.instanceMethod yX2_needOf ∈ tb := (tq_2 (w := Cond.instanceMethod yX2_needOf) (tw_instanceMethod 169 (by decide +kernel)) rfl)
theorem tz_102 : Cond.selects RX2 yX2_needOf yX2_needOf ∈ tb := (tq_2 (w := Cond.selects RX2 yX2_needOf yX2_needOf) (tw_selects 170 (by decide +kernel)) rfl)
theorem lk_RX4_195 : LkV RX4 195 mX2_needOf 2 := ⟨(tq_3 (w := Cond.methodLink RX4 195 yX2_needOf) (tw_methodLink 31 (by decide +kernel)) rfl), tz_101, tz_102, tz_4, tz_100, ⟨by decide +kernel, by decide +kernel, by decide +kernel, by decide +kernel⟩, by decide⟩
theorem tz_103 : Cond.code yX1_forceOf cX1_forceOf 4 (some .int) ∈ tb := (tq_3 (w := Cond.code yX1_forceOf cX1_forceOf 4 (some .int)) (tw_d 41 (by decide +kernel)) rfl)
theorem tz_104 : Cond.instanceMethod yX1_forceOf ∈ tb := (tq_3 (w := Cond.instanceMethod yX1_forceOf) (tw_instanceMethod 39 (by decide +kernel)) rfl)
theorem tz_105 : Cond.selects RX1 yX1_forceOf yX1_forceOf ∈ tb := (tq_3 (w := Cond.selects RX1 yX1_forceOf yX1_forceOf) (tw_selects 40 (by decide +kernel)) rfl)
theorem lk_RX4_207 : LkV RX4 207 mX1_forceOf 1 := ⟨(tq_3 (w := Cond.methodLink RX4 207 yX1_forceOf) (tw_methodLink 38 (by decide +kernel)) rfl), tz_104, tz_105, tz_2, tz_103, ⟨by decide +kernel, by decide +kernel, by decide +kernel, by decide +kernel⟩, by decide⟩
theorem tz_106 : Cond.code yX2_blockersAt cX2_blockersAt 7 (some .int) ∈ tb := (tq_2 (w := Cond.code yX2_blockersAt cX2_blockersAt 7 (some .int)) (tw_d 176 (by decide +kernel)) rfl)
theorem tz_107 : Cond.instanceMethod yX2_blockersAt ∈ tb := (tq_2 (w := Cond.instanceMethod yX2_blockersAt) (tw_instanceMethod 174 (by decide +kernel)) rfl)
theorem tz_108 : Cond.selects RX2 yX2_blockersAt yX2_blockersAt ∈ tb := (tq_2 (w := Cond.selects RX2 yX2_blockersAt yX2_blockersAt) (tw_selects 175 (by decide +kernel)) rfl)
theorem lk_RX4_210 : LkV RX4 210 mX2_blockersAt 3 := ⟨(tq_3 (w := Cond.methodLink RX4 210 yX2_blockersAt) (tw_methodLink 46 (by decide +kernel)) rfl), tz_107, tz_108, tz_4, tz_106, ⟨by decide +kernel, by decide +kernel, by decide +kernel, by decide +kernel⟩, by decide⟩
theorem tz_109 : Cond.code yX2_writtenStep cX2_writtenStep 3 (some .int) ∈ tb := (tq_3 (w := Cond.code yX2_writtenStep cX2_writtenStep 3 (some .int)) (tw_d 54 (by decide +kernel)) rfl)
theorem tz_110 : Cond.instanceMethod yX2_writtenStep ∈ tb := (tq_3 (w := Cond.instanceMethod yX2_writtenStep) (tw_instanceMethod 52 (by decide +kernel)) rfl)
theorem tz_111 : Cond.selects RX2 yX2_writtenStep yX2_writtenStep ∈ tb := (tq_3 (w := Cond.selects RX2 yX2_writtenStep yX2_writtenStep) (tw_selects 53 (by decide +kernel)) rfl)
theorem lk_RX4_214 : LkV RX4 214 mX2_writtenStep 2 := ⟨(tq_3 (w := Cond.methodLink RX4 214 yX2_writtenStep) (tw_methodLink 51 (by decide +kernel)) rfl), tz_110, tz_111, tz_4, tz_109, ⟨by decide +kernel, by decide +kernel, by decide +kernel, by decide +kernel⟩, by decide⟩
theorem tz_112 : Cond.code yX4_agrees cX4_agrees 3 (some .boolean) ∈ tb := (tq_3 (w := Cond.code yX4_agrees cX4_agrees 3 (some .boolean)) (tw_d 70 (by decide +kernel)) rfl)
theorem tz_113 : Cond.instanceMethod yX4_agrees ∈ tb := (tq_3 (w := Cond.instanceMethod yX4_agrees) (tw_instanceMethod 69 (by decide +kernel)) rfl)
theorem tz_114 : Cond.selects RX4 yX4_agrees yX4_agrees ∈ tb := (tq_0 (w := Cond.selects RX4 yX4_agrees yX4_agrees) (tw_selects 2 (by decide +kernel)) rfl)
theorem lk_RX4_217 : LkV RX4 217 mX4_agrees 1 := ⟨(tq_3 (w := Cond.methodLink RX4 217 yX4_agrees) (tw_methodLink 67 (by decide +kernel)) rfl), tz_113, tz_114, tz_8, tz_112, ⟨by decide +kernel, by decide +kernel, by decide +kernel, by decide +kernel⟩, by decide⟩
theorem tz_115 : Cond.code yX4_isOverBehind cX4_isOverBehind 5 (some .boolean) ∈ tb := (tq_3 (w := Cond.code yX4_isOverBehind cX4_isOverBehind 5 (some .boolean)) (tw_d 85 (by decide +kernel)) rfl)
theorem tz_116 : Cond.instanceMethod yX4_isOverBehind ∈ tb := (tq_3 (w := Cond.instanceMethod yX4_isOverBehind) (tw_instanceMethod 84 (by decide +kernel)) rfl)
theorem tz_117 : Cond.selects RX4 yX4_isOverBehind yX4_isOverBehind ∈ tb := (tq_0 (w := Cond.selects RX4 yX4_isOverBehind yX4_isOverBehind) (tw_selects 3 (by decide +kernel)) rfl)
theorem lk_RX4_226 : LkV RX4 226 mX4_isOverBehind 3 := ⟨(tq_3 (w := Cond.methodLink RX4 226 yX4_isOverBehind) (tw_methodLink 82 (by decide +kernel)) rfl), tz_116, tz_117, tz_8, tz_115, ⟨by decide +kernel, by decide +kernel, by decide +kernel, by decide +kernel⟩, by decide⟩
theorem tz_118 : Cond.code yX4_rateAs cX4_rateAs 4 (some .int) ∈ tb := (tq_3 (w := Cond.code yX4_rateAs cX4_rateAs 4 (some .int)) (tw_d 101 (by decide +kernel)) rfl)
theorem tz_119 : Cond.instanceMethod yX4_rateAs ∈ tb := (tq_3 (w := Cond.instanceMethod yX4_rateAs) (tw_instanceMethod 100 (by decide +kernel)) rfl)
theorem tz_120 : Cond.selects RX4 yX4_rateAs yX4_rateAs ∈ tb := (tq_0 (w := Cond.selects RX4 yX4_rateAs yX4_rateAs) (tw_selects 4 (by decide +kernel)) rfl)
theorem lk_RX4_239 : LkV RX4 239 mX4_rateAs 2 := ⟨(tq_3 (w := Cond.methodLink RX4 239 yX4_rateAs) (tw_methodLink 98 (by decide +kernel)) rfl), tz_119, tz_120, tz_8, tz_118, ⟨by decide +kernel, by decide +kernel, by decide +kernel, by decide +kernel⟩, by decide⟩
theorem tz_121 : Cond.code yX2_menAt cX2_menAt 5 (some .int) ∈ tb := (tq_3 (w := Cond.code yX2_menAt cX2_menAt 5 (some .int)) (tw_d 109 (by decide +kernel)) rfl)
theorem tz_122 : Cond.instanceMethod yX2_menAt ∈ tb := (tq_3 (w := Cond.instanceMethod yX2_menAt) (tw_instanceMethod 107 (by decide +kernel)) rfl)
theorem tz_123 : Cond.selects RX2 yX2_menAt yX2_menAt ∈ tb := (tq_3 (w := Cond.selects RX2 yX2_menAt yX2_menAt) (tw_selects 108 (by decide +kernel)) rfl)
theorem lk_RX4_261 : LkV RX4 261 mX2_menAt 2 := ⟨(tq_3 (w := Cond.methodLink RX4 261 yX2_menAt) (tw_methodLink 106 (by decide +kernel)) rfl), tz_122, tz_123, tz_4, tz_121, ⟨by decide +kernel, by decide +kernel, by decide +kernel, by decide +kernel⟩, by decide⟩
theorem lk_RX0_23 : LkV RX0 23 mX2_needOf 2 := ⟨(tq_2 (w := Cond.methodLink RX0 23 yX2_needOf) (tw_methodLink 215 (by decide +kernel)) rfl), tz_101, tz_102, tz_4, tz_100, ⟨by decide +kernel, by decide +kernel, by decide +kernel, by decide +kernel⟩, by decide⟩
theorem lk_RX0_33 : LkV RX0 33 mX2_hoursLeft 1 := ⟨(tq_2 (w := Cond.methodLink RX0 33 yX2_hoursLeft) (tw_methodLink 216 (by decide +kernel)) rfl), tz_83, tz_84, tz_4, tz_82, ⟨by decide +kernel, by decide +kernel, by decide +kernel, by decide +kernel⟩, by decide⟩
theorem lk_RX0_46 : LkV RX0 46 mX2_freeSteps 2 := ⟨(tq_2 (w := Cond.methodLink RX0 46 yX2_freeSteps) (tw_methodLink 218 (by decide +kernel)) rfl), tz_95, tz_96, tz_4, tz_94, ⟨by decide +kernel, by decide +kernel, by decide +kernel, by decide +kernel⟩, by decide⟩
theorem tz_124 : Cond.code yX0_keepRow cX0_keepRow 4 none ∈ tb := (tq_2 (w := Cond.code yX0_keepRow cX0_keepRow 4 none) (tw_d 226 (by decide +kernel)) rfl)
theorem tz_125 : Cond.instanceMethod yX0_keepRow ∈ tb := (tq_2 (w := Cond.instanceMethod yX0_keepRow) (tw_instanceMethod 224 (by decide +kernel)) rfl)
theorem tz_126 : Cond.selects RX0 yX0_keepRow yX0_keepRow ∈ tb := (tq_2 (w := Cond.selects RX0 yX0_keepRow yX0_keepRow) (tw_selects 225 (by decide +kernel)) rfl)
theorem lk_RX0_60 : LkV RX0 60 mX0_keepRow 2 := ⟨(tq_2 (w := Cond.methodLink RX0 60 yX0_keepRow) (tw_methodLink 223 (by decide +kernel)) rfl), tz_125, tz_126, tz_6, tz_124, ⟨by decide +kernel, by decide +kernel, by decide +kernel, by decide +kernel⟩, by decide⟩
theorem tz_127 : Cond.code yX0_explore cX0_explore 5 none ∈ tb := (tq_2 (w := Cond.code yX0_explore cX0_explore 5 none) (tw_d 230 (by decide +kernel)) rfl)
theorem tz_128 : Cond.instanceMethod yX0_explore ∈ tb := (tq_2 (w := Cond.instanceMethod yX0_explore) (tw_instanceMethod 228 (by decide +kernel)) rfl)
theorem tz_129 : Cond.selects RX0 yX0_explore yX0_explore ∈ tb := (tq_2 (w := Cond.selects RX0 yX0_explore yX0_explore) (tw_selects 229 (by decide +kernel)) rfl)
theorem lk_RX0_64 : LkV RX0 64 mX0_explore 3 := ⟨(tq_2 (w := Cond.methodLink RX0 64 yX0_explore) (tw_methodLink 227 (by decide +kernel)) rfl), tz_128, tz_129, tz_6, tz_127, ⟨by decide +kernel, by decide +kernel, by decide +kernel, by decide +kernel⟩, by decide⟩
theorem tz_130 : Cond.code yX0_isJustEnough cX0_isJustEnough 6 (some .boolean) ∈ tb := (tq_2 (w := Cond.code yX0_isJustEnough cX0_isJustEnough 6 (some .boolean)) (tw_d 234 (by decide +kernel)) rfl)
theorem tz_131 : Cond.instanceMethod yX0_isJustEnough ∈ tb := (tq_2 (w := Cond.instanceMethod yX0_isJustEnough) (tw_instanceMethod 232 (by decide +kernel)) rfl)
theorem tz_132 : Cond.selects RX0 yX0_isJustEnough yX0_isJustEnough ∈ tb := (tq_2 (w := Cond.selects RX0 yX0_isJustEnough yX0_isJustEnough) (tw_selects 233 (by decide +kernel)) rfl)
theorem lk_RX0_76 : LkV RX0 76 mX0_isJustEnough 3 := ⟨(tq_2 (w := Cond.methodLink RX0 76 yX0_isJustEnough) (tw_methodLink 231 (by decide +kernel)) rfl), tz_131, tz_132, tz_6, tz_130, ⟨by decide +kernel, by decide +kernel, by decide +kernel, by decide +kernel⟩, by decide⟩
theorem tz_133 : Cond.code yX0_tire cX0_tire 6 none ∈ tb := (tq_3 (w := Cond.code yX0_tire cX0_tire 6 none) (tw_d 1 (by decide +kernel)) rfl)
theorem tz_134 : Cond.instanceMethod yX0_tire ∈ tb := (tq_2 (w := Cond.instanceMethod yX0_tire) (tw_instanceMethod 239 (by decide +kernel)) rfl)
theorem tz_135 : Cond.selects RX0 yX0_tire yX0_tire ∈ tb := (tq_3 (w := Cond.selects RX0 yX0_tire yX0_tire) (tw_selects 0 (by decide +kernel)) rfl)
theorem lk_RX0_80 : LkV RX0 80 mX0_tire 3 := ⟨(tq_2 (w := Cond.methodLink RX0 80 yX0_tire) (tw_methodLink 238 (by decide +kernel)) rfl), tz_134, tz_135, tz_6, tz_133, ⟨by decide +kernel, by decide +kernel, by decide +kernel, by decide +kernel⟩, by decide⟩
theorem tz_136 : Cond.code yX2_rest cX2_rest 3 none ∈ tb := (tq_1 (w := Cond.code yX2_rest cX2_rest 3 none) (tw_d 206 (by decide +kernel)) rfl)
theorem tz_137 : Cond.instanceMethod yX2_rest ∈ tb := (tq_1 (w := Cond.instanceMethod yX2_rest) (tw_instanceMethod 204 (by decide +kernel)) rfl)
theorem tz_138 : Cond.selects RX2 yX2_rest yX2_rest ∈ tb := (tq_1 (w := Cond.selects RX2 yX2_rest yX2_rest) (tw_selects 205 (by decide +kernel)) rfl)
theorem lk_RX2_37 : LkV RX2 37 mX2_rest 1 := ⟨(tq_1 (w := Cond.methodLink RX2 37 yX2_rest) (tw_methodLink 203 (by decide +kernel)) rfl), tz_137, tz_138, tz_4, tz_136, ⟨by decide +kernel, by decide +kernel, by decide +kernel, by decide +kernel⟩, by decide⟩
theorem lk_RX2_55 : LkV RX2 55 mX2_isOver 2 := ⟨(tq_2 (w := Cond.methodLink RX2 55 yX2_isOver) (tw_methodLink 135 (by decide +kernel)) rfl), tz_56, tz_57, tz_4, tz_55, ⟨by decide +kernel, by decide +kernel, by decide +kernel, by decide +kernel⟩, by decide⟩
theorem lk_RX2_68 : LkV RX2 68 mX2_sizeNow 2 := ⟨(tq_2 (w := Cond.methodLink RX2 68 yX2_sizeNow) (tw_methodLink 172 (by decide +kernel)) rfl), tz_53, tz_54, tz_4, tz_52, ⟨by decide +kernel, by decide +kernel, by decide +kernel, by decide +kernel⟩, by decide⟩
theorem tz_139 : Cond.code yX1_isOnePlace cX1_isOnePlace 6 (some .boolean) ∈ tb := (tq_2 (w := Cond.code yX1_isOnePlace cX1_isOnePlace 6 (some .boolean)) (tw_d 180 (by decide +kernel)) rfl)
theorem tz_140 : Cond.instanceMethod yX1_isOnePlace ∈ tb := (tq_2 (w := Cond.instanceMethod yX1_isOnePlace) (tw_instanceMethod 178 (by decide +kernel)) rfl)
theorem tz_141 : Cond.selects RX1 yX1_isOnePlace yX1_isOnePlace ∈ tb := (tq_2 (w := Cond.selects RX1 yX1_isOnePlace yX1_isOnePlace) (tw_selects 179 (by decide +kernel)) rfl)
theorem lk_RX2_81 : LkV RX2 81 mX1_isOnePlace 3 := ⟨(tq_2 (w := Cond.methodLink RX2 81 yX1_isOnePlace) (tw_methodLink 177 (by decide +kernel)) rfl), tz_140, tz_141, tz_2, tz_139, ⟨by decide +kernel, by decide +kernel, by decide +kernel, by decide +kernel⟩, by decide⟩
theorem lk_RX2_85 : LkV RX2 85 mX2_blockersAt 3 := ⟨(tq_2 (w := Cond.methodLink RX2 85 yX2_blockersAt) (tw_methodLink 173 (by decide +kernel)) rfl), tz_107, tz_108, tz_4, tz_106, ⟨by decide +kernel, by decide +kernel, by decide +kernel, by decide +kernel⟩, by decide⟩
theorem lk_RX2_89 : LkV RX2 89 mX2_overBits 1 := ⟨(tq_2 (w := Cond.methodLink RX2 89 yX2_overBits) (tw_methodLink 159 (by decide +kernel)) rfl), tz_62, tz_63, tz_4, tz_61, ⟨by decide +kernel, by decide +kernel, by decide +kernel, by decide +kernel⟩, by decide⟩
theorem tz_142 : Cond.code yX2_canComeUp cX2_canComeUp 3 (some .boolean) ∈ tb := (tq_2 (w := Cond.code yX2_canComeUp cX2_canComeUp 3 (some .boolean)) (tw_d 163 (by decide +kernel)) rfl)
theorem tz_143 : Cond.instanceMethod yX2_canComeUp ∈ tb := (tq_2 (w := Cond.instanceMethod yX2_canComeUp) (tw_instanceMethod 161 (by decide +kernel)) rfl)
theorem tz_144 : Cond.selects RX2 yX2_canComeUp yX2_canComeUp ∈ tb := (tq_2 (w := Cond.selects RX2 yX2_canComeUp yX2_canComeUp) (tw_selects 162 (by decide +kernel)) rfl)
theorem lk_RX2_93 : LkV RX2 93 mX2_canComeUp 2 := ⟨(tq_2 (w := Cond.methodLink RX2 93 yX2_canComeUp) (tw_methodLink 160 (by decide +kernel)) rfl), tz_143, tz_144, tz_4, tz_142, ⟨by decide +kernel, by decide +kernel, by decide +kernel, by decide +kernel⟩, by decide⟩
theorem lk_RX2_96 : LkV RX2 96 mX1_hasHill 1 := ⟨(tq_2 (w := Cond.methodLink RX2 96 yX1_hasHill) (tw_methodLink 181 (by decide +kernel)) rfl), tz_50, tz_51, tz_2, tz_49, ⟨by decide +kernel, by decide +kernel, by decide +kernel, by decide +kernel⟩, by decide⟩
theorem tz_145 : Cond.code yX2_strengthAt cX2_strengthAt 5 (some .int) ∈ tb := (tq_2 (w := Cond.code yX2_strengthAt cX2_strengthAt 5 (some .int)) (tw_d 167 (by decide +kernel)) rfl)
theorem tz_146 : Cond.instanceMethod yX2_strengthAt ∈ tb := (tq_2 (w := Cond.instanceMethod yX2_strengthAt) (tw_instanceMethod 165 (by decide +kernel)) rfl)
theorem tz_147 : Cond.selects RX2 yX2_strengthAt yX2_strengthAt ∈ tb := (tq_2 (w := Cond.selects RX2 yX2_strengthAt yX2_strengthAt) (tw_selects 166 (by decide +kernel)) rfl)
theorem lk_RX2_106 : LkV RX2 106 mX2_strengthAt 2 := ⟨(tq_2 (w := Cond.methodLink RX2 106 yX2_strengthAt) (tw_methodLink 164 (by decide +kernel)) rfl), tz_146, tz_147, tz_4, tz_145, ⟨by decide +kernel, by decide +kernel, by decide +kernel, by decide +kernel⟩, by decide⟩
theorem lk_RX2_109 : LkV RX2 109 mX2_needOf 2 := ⟨(tq_2 (w := Cond.methodLink RX2 109 yX2_needOf) (tw_methodLink 168 (by decide +kernel)) rfl), tz_101, tz_102, tz_4, tz_100, ⟨by decide +kernel, by decide +kernel, by decide +kernel, by decide +kernel⟩, by decide⟩
theorem lk_RX2_112 : LkV RX2 112 mX2_hoursLeft 1 := ⟨(tq_3 (w := Cond.methodLink RX2 112 yX2_hoursLeft) (tw_methodLink 15 (by decide +kernel)) rfl), tz_83, tz_84, tz_4, tz_82, ⟨by decide +kernel, by decide +kernel, by decide +kernel, by decide +kernel⟩, by decide⟩
theorem lk_RX2_115 : LkV RX2 115 mX2_passHour 1 := ⟨(tq_3 (w := Cond.methodLink RX2 115 yX2_passHour) (tw_methodLink 16 (by decide +kernel)) rfl), tz_68, tz_69, tz_4, tz_67, ⟨by decide +kernel, by decide +kernel, by decide +kernel, by decide +kernel⟩, by decide⟩
theorem tz_148 : Cond.code yX1_hasLedge cX1_hasLedge 3 (some .boolean) ∈ tb := (tq_2 (w := Cond.code yX1_hasLedge cX1_hasLedge 3 (some .boolean)) (tw_d 194 (by decide +kernel)) rfl)
theorem tz_149 : Cond.instanceMethod yX1_hasLedge ∈ tb := (tq_2 (w := Cond.instanceMethod yX1_hasLedge) (tw_instanceMethod 192 (by decide +kernel)) rfl)
theorem tz_150 : Cond.selects RX1 yX1_hasLedge yX1_hasLedge ∈ tb := (tq_2 (w := Cond.selects RX1 yX1_hasLedge yX1_hasLedge) (tw_selects 193 (by decide +kernel)) rfl)
theorem lk_RX2_118 : LkV RX2 118 mX1_hasLedge 2 := ⟨(tq_2 (w := Cond.methodLink RX2 118 yX1_hasLedge) (tw_methodLink 191 (by decide +kernel)) rfl), tz_149, tz_150, tz_2, tz_148, ⟨by decide +kernel, by decide +kernel, by decide +kernel, by decide +kernel⟩, by decide⟩
theorem tz_151 : Cond.code yX1_empty cX1_empty 1 none ∈ tb := (tq_2 (w := Cond.code yX1_empty cX1_empty 1 none) (tw_d 38 (by decide +kernel)) rfl)
theorem tz_152 : Cond.instanceMethod yX1_empty ∈ tb := (tq_2 (w := Cond.instanceMethod yX1_empty) (tw_instanceMethod 36 (by decide +kernel)) rfl)
theorem tz_153 : Cond.selects RX1 yX1_empty yX1_empty ∈ tb := (tq_2 (w := Cond.selects RX1 yX1_empty yX1_empty) (tw_selects 37 (by decide +kernel)) rfl)
theorem lk_RX3_32 : LkV RX3 32 mX1_empty 0 := ⟨(tq_2 (w := Cond.methodLink RX3 32 yX1_empty) (tw_methodLink 35 (by decide +kernel)) rfl), tz_152, tz_153, tz_2, tz_151, ⟨by decide +kernel, by decide +kernel, by decide +kernel, by decide +kernel⟩, by decide⟩
theorem tz_154 : Cond.code yX3_take cX3_take 1 none ∈ tb := (tq_2 (w := Cond.code yX3_take cX3_take 1 none) (tw_d 42 (by decide +kernel)) rfl)
theorem tz_155 : Cond.instanceMethod yX3_take ∈ tb := (tq_2 (w := Cond.instanceMethod yX3_take) (tw_instanceMethod 40 (by decide +kernel)) rfl)
theorem tz_156 : Cond.selects RX3 yX3_take yX3_take ∈ tb := (tq_2 (w := Cond.selects RX3 yX3_take yX3_take) (tw_selects 41 (by decide +kernel)) rfl)
theorem lk_RX3_37 : LkV RX3 37 mX3_take 0 := ⟨(tq_2 (w := Cond.methodLink RX3 37 yX3_take) (tw_methodLink 39 (by decide +kernel)) rfl), tz_155, tz_156, tz_0, tz_154, ⟨by decide +kernel, by decide +kernel, by decide +kernel, by decide +kernel⟩, by decide⟩
theorem tz_157 : Cond.code yX3_readItem cX3_readItem 5 (some .boolean) ∈ tb := (tq_2 (w := Cond.code yX3_readItem cX3_readItem 5 (some .boolean)) (tw_d 56 (by decide +kernel)) rfl)
theorem tz_158 : Cond.instanceMethod yX3_readItem ∈ tb := (tq_2 (w := Cond.instanceMethod yX3_readItem) (tw_instanceMethod 54 (by decide +kernel)) rfl)
theorem tz_159 : Cond.selects RX3 yX3_readItem yX3_readItem ∈ tb := (tq_2 (w := Cond.selects RX3 yX3_readItem yX3_readItem) (tw_selects 55 (by decide +kernel)) rfl)
theorem lk_RX3_43 : LkV RX3 43 mX3_readItem 1 := ⟨(tq_2 (w := Cond.methodLink RX3 43 yX3_readItem) (tw_methodLink 53 (by decide +kernel)) rfl), tz_158, tz_159, tz_0, tz_157, ⟨by decide +kernel, by decide +kernel, by decide +kernel, by decide +kernel⟩, by decide⟩
theorem tz_160 : Cond.code yX3_fits cX3_fits 4 (some .boolean) ∈ tb := (tq_2 (w := Cond.code yX3_fits cX3_fits 4 (some .boolean)) (tw_d 66 (by decide +kernel)) rfl)
theorem tz_161 : Cond.instanceMethod yX3_fits ∈ tb := (tq_2 (w := Cond.instanceMethod yX3_fits) (tw_instanceMethod 64 (by decide +kernel)) rfl)
theorem tz_162 : Cond.selects RX3 yX3_fits yX3_fits ∈ tb := (tq_2 (w := Cond.selects RX3 yX3_fits yX3_fits) (tw_selects 65 (by decide +kernel)) rfl)
theorem lk_RX3_58 : LkV RX3 58 mX3_fits 3 := ⟨(tq_2 (w := Cond.methodLink RX3 58 yX3_fits) (tw_methodLink 63 (by decide +kernel)) rfl), tz_161, tz_162, tz_0, tz_160, ⟨by decide +kernel, by decide +kernel, by decide +kernel, by decide +kernel⟩, by decide⟩
theorem tz_163 : Cond.code yX3_addItem cX3_addItem 3 none ∈ tb := (tq_2 (w := Cond.code yX3_addItem cX3_addItem 3 none) (tw_d 86 (by decide +kernel)) rfl)
theorem tz_164 : Cond.instanceMethod yX3_addItem ∈ tb := (tq_2 (w := Cond.instanceMethod yX3_addItem) (tw_instanceMethod 84 (by decide +kernel)) rfl)
theorem tz_165 : Cond.selects RX3 yX3_addItem yX3_addItem ∈ tb := (tq_2 (w := Cond.selects RX3 yX3_addItem yX3_addItem) (tw_selects 85 (by decide +kernel)) rfl)
theorem lk_RX3_65 : LkV RX3 65 mX3_addItem 2 := ⟨(tq_2 (w := Cond.methodLink RX3 65 yX3_addItem) (tw_methodLink 83 (by decide +kernel)) rfl), tz_164, tz_165, tz_0, tz_163, ⟨by decide +kernel, by decide +kernel, by decide +kernel, by decide +kernel⟩, by decide⟩
theorem tz_166 : Cond.code yX3_isWithin cX3_isWithin 3 (some .boolean) ∈ tb := (tq_2 (w := Cond.code yX3_isWithin cX3_isWithin 3 (some .boolean)) (tw_d 74 (by decide +kernel)) rfl)
theorem tz_167 : Cond.instanceMethod yX3_isWithin ∈ tb := (tq_2 (w := Cond.instanceMethod yX3_isWithin) (tw_instanceMethod 72 (by decide +kernel)) rfl)
theorem tz_168 : Cond.selects RX3 yX3_isWithin yX3_isWithin ∈ tb := (tq_2 (w := Cond.selects RX3 yX3_isWithin yX3_isWithin) (tw_selects 73 (by decide +kernel)) rfl)
theorem lk_RX3_91 : LkV RX3 91 mX3_isWithin 2 := ⟨(tq_2 (w := Cond.methodLink RX3 91 yX3_isWithin) (tw_methodLink 71 (by decide +kernel)) rfl), tz_167, tz_168, tz_0, tz_166, ⟨by decide +kernel, by decide +kernel, by decide +kernel, by decide +kernel⟩, by decide⟩
theorem tz_169 : Cond.code yX3_fitsJoin cX3_fitsJoin 3 (some .boolean) ∈ tb := (tq_2 (w := Cond.code yX3_fitsJoin cX3_fitsJoin 3 (some .boolean)) (tw_d 78 (by decide +kernel)) rfl)
theorem tz_170 : Cond.instanceMethod yX3_fitsJoin ∈ tb := (tq_2 (w := Cond.instanceMethod yX3_fitsJoin) (tw_instanceMethod 76 (by decide +kernel)) rfl)
theorem tz_171 : Cond.selects RX3 yX3_fitsJoin yX3_fitsJoin ∈ tb := (tq_2 (w := Cond.selects RX3 yX3_fitsJoin yX3_fitsJoin) (tw_selects 77 (by decide +kernel)) rfl)
theorem lk_RX3_95 : LkV RX3 95 mX3_fitsJoin 2 := ⟨(tq_2 (w := Cond.methodLink RX3 95 yX3_fitsJoin) (tw_methodLink 75 (by decide +kernel)) rfl), tz_170, tz_171, tz_0, tz_169, ⟨by decide +kernel, by decide +kernel, by decide +kernel, by decide +kernel⟩, by decide⟩
theorem lk_RX3_98 : LkV RX3 98 mX1_hasHill 1 := ⟨(tq_2 (w := Cond.methodLink RX3 98 yX1_hasHill) (tw_methodLink 79 (by decide +kernel)) rfl), tz_50, tz_51, tz_2, tz_49, ⟨by decide +kernel, by decide +kernel, by decide +kernel, by decide +kernel⟩, by decide⟩
theorem tz_172 : Cond.code yX1_addHill cX1_addHill 2 none ∈ tb := (tq_2 (w := Cond.code yX1_addHill cX1_addHill 2 none) (tw_d 90 (by decide +kernel)) rfl)
theorem tz_173 : Cond.instanceMethod yX1_addHill ∈ tb := (tq_2 (w := Cond.instanceMethod yX1_addHill) (tw_instanceMethod 88 (by decide +kernel)) rfl)
theorem tz_174 : Cond.selects RX1 yX1_addHill yX1_addHill ∈ tb := (tq_2 (w := Cond.selects RX1 yX1_addHill yX1_addHill) (tw_selects 89 (by decide +kernel)) rfl)
theorem lk_RX3_102 : LkV RX3 102 mX1_addHill 1 := ⟨(tq_2 (w := Cond.methodLink RX3 102 yX1_addHill) (tw_methodLink 87 (by decide +kernel)) rfl), tz_173, tz_174, tz_2, tz_172, ⟨by decide +kernel, by decide +kernel, by decide +kernel, by decide +kernel⟩, by decide⟩
theorem tz_175 : Cond.code yX1_addJoin cX1_addJoin 2 none ∈ tb := (tq_2 (w := Cond.code yX1_addJoin cX1_addJoin 2 none) (tw_d 94 (by decide +kernel)) rfl)
theorem tz_176 : Cond.instanceMethod yX1_addJoin ∈ tb := (tq_2 (w := Cond.instanceMethod yX1_addJoin) (tw_instanceMethod 92 (by decide +kernel)) rfl)
theorem tz_177 : Cond.selects RX1 yX1_addJoin yX1_addJoin ∈ tb := (tq_2 (w := Cond.selects RX1 yX1_addJoin yX1_addJoin) (tw_selects 93 (by decide +kernel)) rfl)
theorem lk_RX3_106 : LkV RX3 106 mX1_addJoin 1 := ⟨(tq_2 (w := Cond.methodLink RX3 106 yX1_addJoin) (tw_methodLink 91 (by decide +kernel)) rfl), tz_176, tz_177, tz_2, tz_175, ⟨by decide +kernel, by decide +kernel, by decide +kernel, by decide +kernel⟩, by decide⟩
theorem tz_178 : Cond.code yX1_addMan cX1_addMan 2 none ∈ tb := (tq_2 (w := Cond.code yX1_addMan cX1_addMan 2 none) (tw_d 98 (by decide +kernel)) rfl)
theorem tz_179 : Cond.instanceMethod yX1_addMan ∈ tb := (tq_2 (w := Cond.instanceMethod yX1_addMan) (tw_instanceMethod 96 (by decide +kernel)) rfl)
theorem tz_180 : Cond.selects RX1 yX1_addMan yX1_addMan ∈ tb := (tq_2 (w := Cond.selects RX1 yX1_addMan yX1_addMan) (tw_selects 97 (by decide +kernel)) rfl)
theorem lk_RX3_109 : LkV RX3 109 mX1_addMan 1 := ⟨(tq_2 (w := Cond.methodLink RX3 109 yX1_addMan) (tw_methodLink 95 (by decide +kernel)) rfl), tz_179, tz_180, tz_2, tz_178, ⟨by decide +kernel, by decide +kernel, by decide +kernel, by decide +kernel⟩, by decide⟩
theorem tz_181 : Cond.code yX3_takeNumber cX3_takeNumber 3 none ∈ tb := (tq_2 (w := Cond.code yX3_takeNumber cX3_takeNumber 3 none) (tw_d 49 (by decide +kernel)) rfl)
theorem tz_182 : Cond.instanceMethod yX3_takeNumber ∈ tb := (tq_2 (w := Cond.instanceMethod yX3_takeNumber) (tw_instanceMethod 47 (by decide +kernel)) rfl)
theorem tz_183 : Cond.selects RX3 yX3_takeNumber yX3_takeNumber ∈ tb := (tq_2 (w := Cond.selects RX3 yX3_takeNumber yX3_takeNumber) (tw_selects 48 (by decide +kernel)) rfl)
theorem lk_RX3_123 : LkV RX3 123 mX3_takeNumber 0 := ⟨(tq_2 (w := Cond.methodLink RX3 123 yX3_takeNumber) (tw_methodLink 46 (by decide +kernel)) rfl), tz_182, tz_183, tz_0, tz_181, ⟨by decide +kernel, by decide +kernel, by decide +kernel, by decide +kernel⟩, by decide⟩
theorem tz_184 : Cond.code yX4_type cX4_type 2 (some .int) ∈ tb := (tq_2 (w := Cond.code yX4_type cX4_type 2 (some .int)) (tw_d 19 (by decide +kernel)) rfl)
theorem tz_185 : Cond.instanceMethod yX4_type ∈ tb := (tq_2 (w := Cond.instanceMethod yX4_type) (tw_instanceMethod 17 (by decide +kernel)) rfl)
theorem tz_186 : Cond.selects RX4 yX4_type yX4_type ∈ tb := (tq_2 (w := Cond.selects RX4 yX4_type yX4_type) (tw_selects 18 (by decide +kernel)) rfl)
theorem lk_RL_13 : LkV RL 13 mX4_type 1 := ⟨(tq_2 (w := Cond.methodLink RL 13 yX4_type) (tw_methodLink 16 (by decide +kernel)) rfl), tz_185, tz_186, tz_8, tz_184, ⟨by decide +kernel, by decide +kernel, by decide +kernel, by decide +kernel⟩, by decide⟩
theorem tz_187 : Cond.code yX5_type cX5_type 2 (some .int) ∈ tb := (tq_3 (w := Cond.code yX5_type cX5_type 2 (some .int)) (tw_d 239 (by decide +kernel)) rfl)
theorem tz_188 : Cond.instanceMethod yX5_type ∈ tb := (tq_3 (w := Cond.instanceMethod yX5_type) (tw_instanceMethod 237 (by decide +kernel)) rfl)
theorem tz_189 : Cond.selects RX5 yX5_type yX5_type ∈ tb := (tq_3 (w := Cond.selects RX5 yX5_type yX5_type) (tw_selects 238 (by decide +kernel)) rfl)
theorem lk_RL_17 : LkV RL 17 mX5_type 1 := ⟨(tq_3 (w := Cond.methodLink RL 17 yX5_type) (tw_methodLink 236 (by decide +kernel)) rfl), tz_188, tz_189, tz_10, tz_187, ⟨by decide +kernel, by decide +kernel, by decide +kernel, by decide +kernel⟩, by decide⟩
theorem tz_190 : Cond.code yX4_clear cX4_clear 2 (some .int) ∈ tb := (tq_2 (w := Cond.code yX4_clear cX4_clear 2 (some .int)) (tw_d 23 (by decide +kernel)) rfl)
theorem tz_191 : Cond.instanceMethod yX4_clear ∈ tb := (tq_2 (w := Cond.instanceMethod yX4_clear) (tw_instanceMethod 21 (by decide +kernel)) rfl)
theorem tz_192 : Cond.selects RX4 yX4_clear yX4_clear ∈ tb := (tq_2 (w := Cond.selects RX4 yX4_clear yX4_clear) (tw_selects 22 (by decide +kernel)) rfl)
theorem lk_RL_18 : LkV RL 18 mX4_clear 0 := ⟨(tq_2 (w := Cond.methodLink RL 18 yX4_clear) (tw_methodLink 20 (by decide +kernel)) rfl), tz_191, tz_192, tz_8, tz_190, ⟨by decide +kernel, by decide +kernel, by decide +kernel, by decide +kernel⟩, by decide⟩
theorem tz_193 : Cond.code yX5_clear cX5_clear 2 (some .int) ∈ tb := (tq_4 (w := Cond.code yX5_clear cX5_clear 2 (some .int)) (tw_d 7 (by decide +kernel)) rfl)
theorem tz_194 : Cond.instanceMethod yX5_clear ∈ tb := (tq_4 (w := Cond.instanceMethod yX5_clear) (tw_instanceMethod 5 (by decide +kernel)) rfl)
theorem tz_195 : Cond.selects RX5 yX5_clear yX5_clear ∈ tb := (tq_4 (w := Cond.selects RX5 yX5_clear yX5_clear) (tw_selects 6 (by decide +kernel)) rfl)
theorem lk_RL_22 : LkV RL 22 mX5_clear 0 := ⟨(tq_4 (w := Cond.methodLink RL 22 yX5_clear) (tw_methodLink 4 (by decide +kernel)) rfl), tz_194, tz_195, tz_10, tz_193, ⟨by decide +kernel, by decide +kernel, by decide +kernel, by decide +kernel⟩, by decide⟩
theorem tz_196 : Cond.code yX4_hills cX4_hills 4 (some .int) ∈ tb := (tq_2 (w := Cond.code yX4_hills cX4_hills 4 (some .int)) (tw_d 27 (by decide +kernel)) rfl)
theorem tz_197 : Cond.instanceMethod yX4_hills ∈ tb := (tq_2 (w := Cond.instanceMethod yX4_hills) (tw_instanceMethod 25 (by decide +kernel)) rfl)
theorem tz_198 : Cond.selects RX4 yX4_hills yX4_hills ∈ tb := (tq_2 (w := Cond.selects RX4 yX4_hills yX4_hills) (tw_selects 26 (by decide +kernel)) rfl)
theorem lk_RL_23 : LkV RL 23 mX4_hills 0 := ⟨(tq_2 (w := Cond.methodLink RL 23 yX4_hills) (tw_methodLink 24 (by decide +kernel)) rfl), tz_197, tz_198, tz_8, tz_196, ⟨by decide +kernel, by decide +kernel, by decide +kernel, by decide +kernel⟩, by decide⟩
theorem tz_199 : Cond.code yX5_hills cX5_hills 3 (some .int) ∈ tb := (tq_4 (w := Cond.code yX5_hills cX5_hills 3 (some .int)) (tw_d 11 (by decide +kernel)) rfl)
theorem tz_200 : Cond.instanceMethod yX5_hills ∈ tb := (tq_4 (w := Cond.instanceMethod yX5_hills) (tw_instanceMethod 9 (by decide +kernel)) rfl)
theorem tz_201 : Cond.selects RX5 yX5_hills yX5_hills ∈ tb := (tq_4 (w := Cond.selects RX5 yX5_hills yX5_hills) (tw_selects 10 (by decide +kernel)) rfl)
theorem lk_RL_26 : LkV RL 26 mX5_hills 0 := ⟨(tq_4 (w := Cond.methodLink RL 26 yX5_hills) (tw_methodLink 8 (by decide +kernel)) rfl), tz_200, tz_201, tz_10, tz_199, ⟨by decide +kernel, by decide +kernel, by decide +kernel, by decide +kernel⟩, by decide⟩
theorem tz_202 : Cond.code yX4_hill cX4_hill 3 (some .int) ∈ tb := (tq_2 (w := Cond.code yX4_hill cX4_hill 3 (some .int)) (tw_d 102 (by decide +kernel)) rfl)
theorem tz_203 : Cond.instanceMethod yX4_hill ∈ tb := (tq_2 (w := Cond.instanceMethod yX4_hill) (tw_instanceMethod 100 (by decide +kernel)) rfl)
theorem tz_204 : Cond.selects RX4 yX4_hill yX4_hill ∈ tb := (tq_2 (w := Cond.selects RX4 yX4_hill yX4_hill) (tw_selects 101 (by decide +kernel)) rfl)
theorem lk_RL_27 : LkV RL 27 mX4_hill 2 := ⟨(tq_2 (w := Cond.methodLink RL 27 yX4_hill) (tw_methodLink 99 (by decide +kernel)) rfl), tz_203, tz_204, tz_8, tz_202, ⟨by decide +kernel, by decide +kernel, by decide +kernel, by decide +kernel⟩, by decide⟩
theorem tz_205 : Cond.code yX5_hill cX5_hill 3 (some .int) ∈ tb := (tq_4 (w := Cond.code yX5_hill cX5_hill 3 (some .int)) (tw_d 47 (by decide +kernel)) rfl)
theorem tz_206 : Cond.instanceMethod yX5_hill ∈ tb := (tq_4 (w := Cond.instanceMethod yX5_hill) (tw_instanceMethod 45 (by decide +kernel)) rfl)
theorem tz_207 : Cond.selects RX5 yX5_hill yX5_hill ∈ tb := (tq_4 (w := Cond.selects RX5 yX5_hill yX5_hill) (tw_selects 46 (by decide +kernel)) rfl)
theorem lk_RL_31 : LkV RL 31 mX5_hill 2 := ⟨(tq_4 (w := Cond.methodLink RL 31 yX5_hill) (tw_methodLink 44 (by decide +kernel)) rfl), tz_206, tz_207, tz_10, tz_205, ⟨by decide +kernel, by decide +kernel, by decide +kernel, by decide +kernel⟩, by decide⟩
theorem tz_208 : Cond.code yX4_stone cX4_stone 3 (some .int) ∈ tb := (tq_2 (w := Cond.code yX4_stone cX4_stone 3 (some .int)) (tw_d 107 (by decide +kernel)) rfl)
theorem tz_209 : Cond.instanceMethod yX4_stone ∈ tb := (tq_2 (w := Cond.instanceMethod yX4_stone) (tw_instanceMethod 105 (by decide +kernel)) rfl)
theorem tz_210 : Cond.selects RX4 yX4_stone yX4_stone ∈ tb := (tq_2 (w := Cond.selects RX4 yX4_stone yX4_stone) (tw_selects 106 (by decide +kernel)) rfl)
theorem lk_RL_32 : LkV RL 32 mX4_stone 2 := ⟨(tq_2 (w := Cond.methodLink RL 32 yX4_stone) (tw_methodLink 104 (by decide +kernel)) rfl), tz_209, tz_210, tz_8, tz_208, ⟨by decide +kernel, by decide +kernel, by decide +kernel, by decide +kernel⟩, by decide⟩
theorem tz_211 : Cond.code yX5_stone cX5_stone 3 (some .int) ∈ tb := (tq_4 (w := Cond.code yX5_stone cX5_stone 3 (some .int)) (tw_d 55 (by decide +kernel)) rfl)
theorem tz_212 : Cond.instanceMethod yX5_stone ∈ tb := (tq_4 (w := Cond.instanceMethod yX5_stone) (tw_instanceMethod 53 (by decide +kernel)) rfl)
theorem tz_213 : Cond.selects RX5 yX5_stone yX5_stone ∈ tb := (tq_4 (w := Cond.selects RX5 yX5_stone yX5_stone) (tw_selects 54 (by decide +kernel)) rfl)
theorem lk_RL_35 : LkV RL 35 mX5_stone 2 := ⟨(tq_4 (w := Cond.methodLink RL 35 yX5_stone) (tw_methodLink 52 (by decide +kernel)) rfl), tz_212, tz_213, tz_10, tz_211, ⟨by decide +kernel, by decide +kernel, by decide +kernel, by decide +kernel⟩, by decide⟩
theorem tz_214 : Cond.code yX4_man cX4_man 3 (some .int) ∈ tb := (tq_2 (w := Cond.code yX4_man cX4_man 3 (some .int)) (tw_d 122 (by decide +kernel)) rfl)
theorem tz_215 : Cond.instanceMethod yX4_man ∈ tb := (tq_2 (w := Cond.instanceMethod yX4_man) (tw_instanceMethod 120 (by decide +kernel)) rfl)
theorem tz_216 : Cond.selects RX4 yX4_man yX4_man ∈ tb := (tq_2 (w := Cond.selects RX4 yX4_man yX4_man) (tw_selects 121 (by decide +kernel)) rfl)
theorem lk_RL_36 : LkV RL 36 mX4_man 2 := ⟨(tq_2 (w := Cond.methodLink RL 36 yX4_man) (tw_methodLink 119 (by decide +kernel)) rfl), tz_215, tz_216, tz_8, tz_214, ⟨by decide +kernel, by decide +kernel, by decide +kernel, by decide +kernel⟩, by decide⟩
theorem tz_217 : Cond.code yX5_man cX5_man 3 (some .int) ∈ tb := (tq_4 (w := Cond.code yX5_man cX5_man 3 (some .int)) (tw_d 74 (by decide +kernel)) rfl)
theorem tz_218 : Cond.instanceMethod yX5_man ∈ tb := (tq_4 (w := Cond.instanceMethod yX5_man) (tw_instanceMethod 72 (by decide +kernel)) rfl)
theorem tz_219 : Cond.selects RX5 yX5_man yX5_man ∈ tb := (tq_4 (w := Cond.selects RX5 yX5_man yX5_man) (tw_selects 73 (by decide +kernel)) rfl)
theorem lk_RL_39 : LkV RL 39 mX5_man 2 := ⟨(tq_4 (w := Cond.methodLink RL 39 yX5_man) (tw_methodLink 71 (by decide +kernel)) rfl), tz_218, tz_219, tz_10, tz_217, ⟨by decide +kernel, by decide +kernel, by decide +kernel, by decide +kernel⟩, by decide⟩
theorem tz_220 : Cond.code yX4_now cX4_now 2 (some .int) ∈ tb := (tq_2 (w := Cond.code yX4_now cX4_now 2 (some .int)) (tw_d 130 (by decide +kernel)) rfl)
theorem tz_221 : Cond.instanceMethod yX4_now ∈ tb := (tq_2 (w := Cond.instanceMethod yX4_now) (tw_instanceMethod 128 (by decide +kernel)) rfl)
theorem tz_222 : Cond.selects RX4 yX4_now yX4_now ∈ tb := (tq_2 (w := Cond.selects RX4 yX4_now yX4_now) (tw_selects 129 (by decide +kernel)) rfl)
theorem lk_RL_40 : LkV RL 40 mX4_now 1 := ⟨(tq_2 (w := Cond.methodLink RL 40 yX4_now) (tw_methodLink 127 (by decide +kernel)) rfl), tz_221, tz_222, tz_8, tz_220, ⟨by decide +kernel, by decide +kernel, by decide +kernel, by decide +kernel⟩, by decide⟩
theorem tz_223 : Cond.code yX5_now cX5_now 2 (some .int) ∈ tb := (tq_4 (w := Cond.code yX5_now cX5_now 2 (some .int)) (tw_d 82 (by decide +kernel)) rfl)
theorem tz_224 : Cond.instanceMethod yX5_now ∈ tb := (tq_4 (w := Cond.instanceMethod yX5_now) (tw_instanceMethod 80 (by decide +kernel)) rfl)
theorem tz_225 : Cond.selects RX5 yX5_now yX5_now ∈ tb := (tq_4 (w := Cond.selects RX5 yX5_now yX5_now) (tw_selects 81 (by decide +kernel)) rfl)
theorem lk_RL_43 : LkV RL 43 mX5_now 1 := ⟨(tq_4 (w := Cond.methodLink RL 43 yX5_now) (tw_methodLink 79 (by decide +kernel)) rfl), tz_224, tz_225, tz_10, tz_223, ⟨by decide +kernel, by decide +kernel, by decide +kernel, by decide +kernel⟩, by decide⟩
theorem tz_226 : Cond.code yX4_order cX4_order 4 (some .int) ∈ tb := (tq_2 (w := Cond.code yX4_order cX4_order 4 (some .int)) (tw_d 139 (by decide +kernel)) rfl)
theorem tz_227 : Cond.instanceMethod yX4_order ∈ tb := (tq_2 (w := Cond.instanceMethod yX4_order) (tw_instanceMethod 137 (by decide +kernel)) rfl)
theorem tz_228 : Cond.selects RX4 yX4_order yX4_order ∈ tb := (tq_2 (w := Cond.selects RX4 yX4_order yX4_order) (tw_selects 138 (by decide +kernel)) rfl)
theorem lk_RL_44 : LkV RL 44 mX4_order 2 := ⟨(tq_2 (w := Cond.methodLink RL 44 yX4_order) (tw_methodLink 136 (by decide +kernel)) rfl), tz_227, tz_228, tz_8, tz_226, ⟨by decide +kernel, by decide +kernel, by decide +kernel, by decide +kernel⟩, by decide⟩
theorem tz_229 : Cond.code yX5_order cX5_order 4 (some .int) ∈ tb := (tq_4 (w := Cond.code yX5_order cX5_order 4 (some .int)) (tw_d 90 (by decide +kernel)) rfl)
theorem tz_230 : Cond.instanceMethod yX5_order ∈ tb := (tq_4 (w := Cond.instanceMethod yX5_order) (tw_instanceMethod 88 (by decide +kernel)) rfl)
theorem tz_231 : Cond.selects RX5 yX5_order yX5_order ∈ tb := (tq_4 (w := Cond.selects RX5 yX5_order yX5_order) (tw_selects 89 (by decide +kernel)) rfl)
theorem lk_RL_47 : LkV RL 47 mX5_order 2 := ⟨(tq_4 (w := Cond.methodLink RL 47 yX5_order) (tw_methodLink 87 (by decide +kernel)) rfl), tz_230, tz_231, tz_10, tz_229, ⟨by decide +kernel, by decide +kernel, by decide +kernel, by decide +kernel⟩, by decide⟩
theorem tz_232 : Cond.code yX4_hour cX4_hour 2 (some .int) ∈ tb := (tq_2 (w := Cond.code yX4_hour cX4_hour 2 (some .int)) (tw_d 154 (by decide +kernel)) rfl)
theorem tz_233 : Cond.instanceMethod yX4_hour ∈ tb := (tq_2 (w := Cond.instanceMethod yX4_hour) (tw_instanceMethod 152 (by decide +kernel)) rfl)
theorem tz_234 : Cond.selects RX4 yX4_hour yX4_hour ∈ tb := (tq_2 (w := Cond.selects RX4 yX4_hour yX4_hour) (tw_selects 153 (by decide +kernel)) rfl)
theorem lk_RL_48 : LkV RL 48 mX4_hour 0 := ⟨(tq_2 (w := Cond.methodLink RL 48 yX4_hour) (tw_methodLink 151 (by decide +kernel)) rfl), tz_233, tz_234, tz_8, tz_232, ⟨by decide +kernel, by decide +kernel, by decide +kernel, by decide +kernel⟩, by decide⟩
theorem tz_235 : Cond.code yX5_hour cX5_hour 2 (some .int) ∈ tb := (tq_4 (w := Cond.code yX5_hour cX5_hour 2 (some .int)) (tw_d 102 (by decide +kernel)) rfl)
theorem tz_236 : Cond.instanceMethod yX5_hour ∈ tb := (tq_4 (w := Cond.instanceMethod yX5_hour) (tw_instanceMethod 100 (by decide +kernel)) rfl)
theorem tz_237 : Cond.selects RX5 yX5_hour yX5_hour ∈ tb := (tq_4 (w := Cond.selects RX5 yX5_hour yX5_hour) (tw_selects 101 (by decide +kernel)) rfl)
theorem lk_RL_51 : LkV RL 51 mX5_hour 0 := ⟨(tq_4 (w := Cond.methodLink RL 51 yX5_hour) (tw_methodLink 99 (by decide +kernel)) rfl), tz_236, tz_237, tz_10, tz_235, ⟨by decide +kernel, by decide +kernel, by decide +kernel, by decide +kernel⟩, by decide⟩
theorem tz_238 : Cond.code yX4_undo cX4_undo 1 (some .int) ∈ tb := (tq_2 (w := Cond.code yX4_undo cX4_undo 1 (some .int)) (tw_d 202 (by decide +kernel)) rfl)
theorem tz_239 : Cond.instanceMethod yX4_undo ∈ tb := (tq_2 (w := Cond.instanceMethod yX4_undo) (tw_instanceMethod 200 (by decide +kernel)) rfl)
theorem tz_240 : Cond.selects RX4 yX4_undo yX4_undo ∈ tb := (tq_2 (w := Cond.selects RX4 yX4_undo yX4_undo) (tw_selects 201 (by decide +kernel)) rfl)
theorem lk_RL_52 : LkV RL 52 mX4_undo 0 := ⟨(tq_2 (w := Cond.methodLink RL 52 yX4_undo) (tw_methodLink 199 (by decide +kernel)) rfl), tz_239, tz_240, tz_8, tz_238, ⟨by decide +kernel, by decide +kernel, by decide +kernel, by decide +kernel⟩, by decide⟩
theorem tz_241 : Cond.code yX5_undo cX5_undo 1 (some .int) ∈ tb := (tq_4 (w := Cond.code yX5_undo cX5_undo 1 (some .int)) (tw_d 134 (by decide +kernel)) rfl)
theorem tz_242 : Cond.instanceMethod yX5_undo ∈ tb := (tq_4 (w := Cond.instanceMethod yX5_undo) (tw_instanceMethod 132 (by decide +kernel)) rfl)
theorem tz_243 : Cond.selects RX5 yX5_undo yX5_undo ∈ tb := (tq_4 (w := Cond.selects RX5 yX5_undo yX5_undo) (tw_selects 133 (by decide +kernel)) rfl)
theorem lk_RL_55 : LkV RL 55 mX5_undo 0 := ⟨(tq_4 (w := Cond.methodLink RL 55 yX5_undo) (tw_methodLink 131 (by decide +kernel)) rfl), tz_242, tz_243, tz_10, tz_241, ⟨by decide +kernel, by decide +kernel, by decide +kernel, by decide +kernel⟩, by decide⟩
theorem tz_244 : Cond.code yX4_highest cX4_highest 4 (some .int) ∈ tb := (tq_2 (w := Cond.code yX4_highest cX4_highest 4 (some .int)) (tw_d 206 (by decide +kernel)) rfl)
theorem tz_245 : Cond.instanceMethod yX4_highest ∈ tb := (tq_2 (w := Cond.instanceMethod yX4_highest) (tw_instanceMethod 204 (by decide +kernel)) rfl)
theorem tz_246 : Cond.selects RX4 yX4_highest yX4_highest ∈ tb := (tq_2 (w := Cond.selects RX4 yX4_highest yX4_highest) (tw_selects 205 (by decide +kernel)) rfl)
theorem lk_RL_56 : LkV RL 56 mX4_highest 2 := ⟨(tq_2 (w := Cond.methodLink RL 56 yX4_highest) (tw_methodLink 203 (by decide +kernel)) rfl), tz_245, tz_246, tz_8, tz_244, ⟨by decide +kernel, by decide +kernel, by decide +kernel, by decide +kernel⟩, by decide⟩
theorem tz_247 : Cond.code yX5_highest cX5_highest 9 (some .int) ∈ tb := (tq_4 (w := Cond.code yX5_highest cX5_highest 9 (some .int)) (tw_d 138 (by decide +kernel)) rfl)
theorem tz_248 : Cond.instanceMethod yX5_highest ∈ tb := (tq_4 (w := Cond.instanceMethod yX5_highest) (tw_instanceMethod 136 (by decide +kernel)) rfl)
theorem tz_249 : Cond.selects RX5 yX5_highest yX5_highest ∈ tb := (tq_4 (w := Cond.selects RX5 yX5_highest yX5_highest) (tw_selects 137 (by decide +kernel)) rfl)
theorem lk_RL_59 : LkV RL 59 mX5_highest 2 := ⟨(tq_4 (w := Cond.methodLink RL 59 yX5_highest) (tw_methodLink 135 (by decide +kernel)) rfl), tz_248, tz_249, tz_10, tz_247, ⟨by decide +kernel, by decide +kernel, by decide +kernel, by decide +kernel⟩, by decide⟩
theorem tz_250 : Cond.code yX4_days cX4_days 3 (some .int) ∈ tb := (tq_3 (w := Cond.code yX4_days cX4_days 3 (some .int)) (tw_d 6 (by decide +kernel)) rfl)
theorem tz_251 : Cond.instanceMethod yX4_days ∈ tb := (tq_3 (w := Cond.instanceMethod yX4_days) (tw_instanceMethod 4 (by decide +kernel)) rfl)
theorem tz_252 : Cond.selects RX4 yX4_days yX4_days ∈ tb := (tq_3 (w := Cond.selects RX4 yX4_days yX4_days) (tw_selects 5 (by decide +kernel)) rfl)
theorem lk_RL_60 : LkV RL 60 mX4_days 1 := ⟨(tq_3 (w := Cond.methodLink RL 60 yX4_days) (tw_methodLink 3 (by decide +kernel)) rfl), tz_251, tz_252, tz_8, tz_250, ⟨by decide +kernel, by decide +kernel, by decide +kernel, by decide +kernel⟩, by decide⟩
theorem tz_253 : Cond.code yX5_days cX5_days 3 (some .int) ∈ tb := (tq_4 (w := Cond.code yX5_days cX5_days 3 (some .int)) (tw_d 154 (by decide +kernel)) rfl)
theorem tz_254 : Cond.instanceMethod yX5_days ∈ tb := (tq_4 (w := Cond.instanceMethod yX5_days) (tw_instanceMethod 152 (by decide +kernel)) rfl)
theorem tz_255 : Cond.selects RX5 yX5_days yX5_days ∈ tb := (tq_4 (w := Cond.selects RX5 yX5_days yX5_days) (tw_selects 153 (by decide +kernel)) rfl)
theorem lk_RL_63 : LkV RL 63 mX5_days 1 := ⟨(tq_4 (w := Cond.methodLink RL 63 yX5_days) (tw_methodLink 151 (by decide +kernel)) rfl), tz_254, tz_255, tz_10, tz_253, ⟨by decide +kernel, by decide +kernel, by decide +kernel, by decide +kernel⟩, by decide⟩
theorem tz_256 : Cond.code yX4_little cX4_little 4 (some .int) ∈ tb := (tq_3 (w := Cond.code yX4_little cX4_little 4 (some .int)) (tw_d 20 (by decide +kernel)) rfl)
theorem tz_257 : Cond.instanceMethod yX4_little ∈ tb := (tq_3 (w := Cond.instanceMethod yX4_little) (tw_instanceMethod 18 (by decide +kernel)) rfl)
theorem tz_258 : Cond.selects RX4 yX4_little yX4_little ∈ tb := (tq_3 (w := Cond.selects RX4 yX4_little yX4_little) (tw_selects 19 (by decide +kernel)) rfl)
theorem lk_RL_64 : LkV RL 64 mX4_little 1 := ⟨(tq_3 (w := Cond.methodLink RL 64 yX4_little) (tw_methodLink 17 (by decide +kernel)) rfl), tz_257, tz_258, tz_8, tz_256, ⟨by decide +kernel, by decide +kernel, by decide +kernel, by decide +kernel⟩, by decide⟩
theorem tz_259 : Cond.code yX5_little cX5_little 3 (some .int) ∈ tb := (tq_4 (w := Cond.code yX5_little cX5_little 3 (some .int)) (tw_d 162 (by decide +kernel)) rfl)
theorem tz_260 : Cond.instanceMethod yX5_little ∈ tb := (tq_4 (w := Cond.instanceMethod yX5_little) (tw_instanceMethod 160 (by decide +kernel)) rfl)
theorem tz_261 : Cond.selects RX5 yX5_little yX5_little ∈ tb := (tq_4 (w := Cond.selects RX5 yX5_little yX5_little) (tw_selects 161 (by decide +kernel)) rfl)
theorem lk_RL_67 : LkV RL 67 mX5_little 1 := ⟨(tq_4 (w := Cond.methodLink RL 67 yX5_little) (tw_methodLink 159 (by decide +kernel)) rfl), tz_260, tz_261, tz_10, tz_259, ⟨by decide +kernel, by decide +kernel, by decide +kernel, by decide +kernel⟩, by decide⟩
theorem tz_262 : Cond.code yX4_crew cX4_crew 6 (some .int) ∈ tb := (tq_3 (w := Cond.code yX4_crew cX4_crew 6 (some .int)) (tw_d 30 (by decide +kernel)) rfl)
theorem tz_263 : Cond.instanceMethod yX4_crew ∈ tb := (tq_3 (w := Cond.instanceMethod yX4_crew) (tw_instanceMethod 28 (by decide +kernel)) rfl)
theorem tz_264 : Cond.selects RX4 yX4_crew yX4_crew ∈ tb := (tq_3 (w := Cond.selects RX4 yX4_crew yX4_crew) (tw_selects 29 (by decide +kernel)) rfl)
theorem lk_RL_68 : LkV RL 68 mX4_crew 1 := ⟨(tq_3 (w := Cond.methodLink RL 68 yX4_crew) (tw_methodLink 27 (by decide +kernel)) rfl), tz_263, tz_264, tz_8, tz_262, ⟨by decide +kernel, by decide +kernel, by decide +kernel, by decide +kernel⟩, by decide⟩
theorem tz_265 : Cond.code yX5_crew cX5_crew 6 (some .int) ∈ tb := (tq_4 (w := Cond.code yX5_crew cX5_crew 6 (some .int)) (tw_d 170 (by decide +kernel)) rfl)
theorem tz_266 : Cond.instanceMethod yX5_crew ∈ tb := (tq_4 (w := Cond.instanceMethod yX5_crew) (tw_instanceMethod 168 (by decide +kernel)) rfl)
theorem tz_267 : Cond.selects RX5 yX5_crew yX5_crew ∈ tb := (tq_4 (w := Cond.selects RX5 yX5_crew yX5_crew) (tw_selects 169 (by decide +kernel)) rfl)
theorem lk_RL_71 : LkV RL 71 mX5_crew 1 := ⟨(tq_4 (w := Cond.methodLink RL 71 yX5_crew) (tw_methodLink 167 (by decide +kernel)) rfl), tz_266, tz_267, tz_10, tz_265, ⟨by decide +kernel, by decide +kernel, by decide +kernel, by decide +kernel⟩, by decide⟩
theorem tz_268 : Cond.code yX4_blocks cX4_blocks 2 (some .int) ∈ tb := (tq_3 (w := Cond.code yX4_blocks cX4_blocks 2 (some .int)) (tw_d 45 (by decide +kernel)) rfl)
theorem tz_269 : Cond.instanceMethod yX4_blocks ∈ tb := (tq_3 (w := Cond.instanceMethod yX4_blocks) (tw_instanceMethod 43 (by decide +kernel)) rfl)
theorem tz_270 : Cond.selects RX4 yX4_blocks yX4_blocks ∈ tb := (tq_3 (w := Cond.selects RX4 yX4_blocks yX4_blocks) (tw_selects 44 (by decide +kernel)) rfl)
theorem lk_RL_72 : LkV RL 72 mX4_blocks 1 := ⟨(tq_3 (w := Cond.methodLink RL 72 yX4_blocks) (tw_methodLink 42 (by decide +kernel)) rfl), tz_269, tz_270, tz_8, tz_268, ⟨by decide +kernel, by decide +kernel, by decide +kernel, by decide +kernel⟩, by decide⟩
theorem tz_271 : Cond.code yX5_blocks cX5_blocks 2 (some .int) ∈ tb := (tq_4 (w := Cond.code yX5_blocks cX5_blocks 2 (some .int)) (tw_d 177 (by decide +kernel)) rfl)
theorem tz_272 : Cond.instanceMethod yX5_blocks ∈ tb := (tq_4 (w := Cond.instanceMethod yX5_blocks) (tw_instanceMethod 175 (by decide +kernel)) rfl)
theorem tz_273 : Cond.selects RX5 yX5_blocks yX5_blocks ∈ tb := (tq_4 (w := Cond.selects RX5 yX5_blocks yX5_blocks) (tw_selects 176 (by decide +kernel)) rfl)
theorem lk_RL_75 : LkV RL 75 mX5_blocks 1 := ⟨(tq_4 (w := Cond.methodLink RL 75 yX5_blocks) (tw_methodLink 174 (by decide +kernel)) rfl), tz_272, tz_273, tz_10, tz_271, ⟨by decide +kernel, by decide +kernel, by decide +kernel, by decide +kernel⟩, by decide⟩
theorem tz_274 : Cond.code yX4_written cX4_written 3 (some .int) ∈ tb := (tq_3 (w := Cond.code yX4_written cX4_written 3 (some .int)) (tw_d 50 (by decide +kernel)) rfl)
theorem tz_275 : Cond.instanceMethod yX4_written ∈ tb := (tq_3 (w := Cond.instanceMethod yX4_written) (tw_instanceMethod 48 (by decide +kernel)) rfl)
theorem tz_276 : Cond.selects RX4 yX4_written yX4_written ∈ tb := (tq_3 (w := Cond.selects RX4 yX4_written yX4_written) (tw_selects 49 (by decide +kernel)) rfl)
theorem lk_RL_76 : LkV RL 76 mX4_written 2 := ⟨(tq_3 (w := Cond.methodLink RL 76 yX4_written) (tw_methodLink 47 (by decide +kernel)) rfl), tz_275, tz_276, tz_8, tz_274, ⟨by decide +kernel, by decide +kernel, by decide +kernel, by decide +kernel⟩, by decide⟩
theorem tz_277 : Cond.code yX5_written cX5_written 3 (some .int) ∈ tb := (tq_4 (w := Cond.code yX5_written cX5_written 3 (some .int)) (tw_d 181 (by decide +kernel)) rfl)
theorem tz_278 : Cond.instanceMethod yX5_written ∈ tb := (tq_4 (w := Cond.instanceMethod yX5_written) (tw_instanceMethod 179 (by decide +kernel)) rfl)
theorem tz_279 : Cond.selects RX5 yX5_written yX5_written ∈ tb := (tq_4 (w := Cond.selects RX5 yX5_written yX5_written) (tw_selects 180 (by decide +kernel)) rfl)
theorem lk_RL_79 : LkV RL 79 mX5_written 2 := ⟨(tq_4 (w := Cond.methodLink RL 79 yX5_written) (tw_methodLink 178 (by decide +kernel)) rfl), tz_278, tz_279, tz_10, tz_277, ⟨by decide +kernel, by decide +kernel, by decide +kernel, by decide +kernel⟩, by decide⟩
theorem tz_280 : Cond.code yX4_saw cX4_saw 3 (some .int) ∈ tb := (tq_3 (w := Cond.code yX4_saw cX4_saw 3 (some .int)) (tw_d 58 (by decide +kernel)) rfl)
theorem tz_281 : Cond.instanceMethod yX4_saw ∈ tb := (tq_3 (w := Cond.instanceMethod yX4_saw) (tw_instanceMethod 56 (by decide +kernel)) rfl)
theorem tz_282 : Cond.selects RX4 yX4_saw yX4_saw ∈ tb := (tq_3 (w := Cond.selects RX4 yX4_saw yX4_saw) (tw_selects 57 (by decide +kernel)) rfl)
theorem lk_RL_80 : LkV RL 80 mX4_saw 2 := ⟨(tq_3 (w := Cond.methodLink RL 80 yX4_saw) (tw_methodLink 55 (by decide +kernel)) rfl), tz_281, tz_282, tz_8, tz_280, ⟨by decide +kernel, by decide +kernel, by decide +kernel, by decide +kernel⟩, by decide⟩
theorem tz_283 : Cond.code yX5_saw cX5_saw 3 (some .int) ∈ tb := (tq_4 (w := Cond.code yX5_saw cX5_saw 3 (some .int)) (tw_d 185 (by decide +kernel)) rfl)
theorem tz_284 : Cond.instanceMethod yX5_saw ∈ tb := (tq_4 (w := Cond.instanceMethod yX5_saw) (tw_instanceMethod 183 (by decide +kernel)) rfl)
theorem tz_285 : Cond.selects RX5 yX5_saw yX5_saw ∈ tb := (tq_4 (w := Cond.selects RX5 yX5_saw yX5_saw) (tw_selects 184 (by decide +kernel)) rfl)
theorem lk_RL_83 : LkV RL 83 mX5_saw 2 := ⟨(tq_4 (w := Cond.methodLink RL 83 yX5_saw) (tw_methodLink 182 (by decide +kernel)) rfl), tz_284, tz_285, tz_10, tz_283, ⟨by decide +kernel, by decide +kernel, by decide +kernel, by decide +kernel⟩, by decide⟩
theorem tz_286 : Cond.code yX4_forget cX4_forget 2 (some .int) ∈ tb := (tq_3 (w := Cond.code yX4_forget cX4_forget 2 (some .int)) (tw_d 62 (by decide +kernel)) rfl)
theorem tz_287 : Cond.instanceMethod yX4_forget ∈ tb := (tq_3 (w := Cond.instanceMethod yX4_forget) (tw_instanceMethod 60 (by decide +kernel)) rfl)
theorem tz_288 : Cond.selects RX4 yX4_forget yX4_forget ∈ tb := (tq_3 (w := Cond.selects RX4 yX4_forget yX4_forget) (tw_selects 61 (by decide +kernel)) rfl)
theorem lk_RL_84 : LkV RL 84 mX4_forget 0 := ⟨(tq_3 (w := Cond.methodLink RL 84 yX4_forget) (tw_methodLink 59 (by decide +kernel)) rfl), tz_287, tz_288, tz_8, tz_286, ⟨by decide +kernel, by decide +kernel, by decide +kernel, by decide +kernel⟩, by decide⟩
theorem tz_289 : Cond.code yX5_forget cX5_forget 2 (some .int) ∈ tb := (tq_4 (w := Cond.code yX5_forget cX5_forget 2 (some .int)) (tw_d 190 (by decide +kernel)) rfl)
theorem tz_290 : Cond.instanceMethod yX5_forget ∈ tb := (tq_4 (w := Cond.instanceMethod yX5_forget) (tw_instanceMethod 188 (by decide +kernel)) rfl)
theorem tz_291 : Cond.selects RX5 yX5_forget yX5_forget ∈ tb := (tq_4 (w := Cond.selects RX5 yX5_forget yX5_forget) (tw_selects 189 (by decide +kernel)) rfl)
theorem lk_RL_87 : LkV RL 87 mX5_forget 0 := ⟨(tq_4 (w := Cond.methodLink RL 87 yX5_forget) (tw_methodLink 187 (by decide +kernel)) rfl), tz_290, tz_291, tz_10, tz_289, ⟨by decide +kernel, by decide +kernel, by decide +kernel, by decide +kernel⟩, by decide⟩
theorem tz_292 : Cond.code yX4_evening cX4_evening 3 (some .int) ∈ tb := (tq_3 (w := Cond.code yX4_evening cX4_evening 3 (some .int)) (tw_d 66 (by decide +kernel)) rfl)
theorem tz_293 : Cond.instanceMethod yX4_evening ∈ tb := (tq_3 (w := Cond.instanceMethod yX4_evening) (tw_instanceMethod 64 (by decide +kernel)) rfl)
theorem tz_294 : Cond.selects RX4 yX4_evening yX4_evening ∈ tb := (tq_3 (w := Cond.selects RX4 yX4_evening yX4_evening) (tw_selects 65 (by decide +kernel)) rfl)
theorem lk_RL_88 : LkV RL 88 mX4_evening 0 := ⟨(tq_3 (w := Cond.methodLink RL 88 yX4_evening) (tw_methodLink 63 (by decide +kernel)) rfl), tz_293, tz_294, tz_8, tz_292, ⟨by decide +kernel, by decide +kernel, by decide +kernel, by decide +kernel⟩, by decide⟩
theorem tz_295 : Cond.code yX5_evening cX5_evening 5 (some .int) ∈ tb := (tq_4 (w := Cond.code yX5_evening cX5_evening 5 (some .int)) (tw_d 194 (by decide +kernel)) rfl)
theorem tz_296 : Cond.instanceMethod yX5_evening ∈ tb := (tq_4 (w := Cond.instanceMethod yX5_evening) (tw_instanceMethod 192 (by decide +kernel)) rfl)
theorem tz_297 : Cond.selects RX5 yX5_evening yX5_evening ∈ tb := (tq_4 (w := Cond.selects RX5 yX5_evening yX5_evening) (tw_selects 193 (by decide +kernel)) rfl)
theorem lk_RL_91 : LkV RL 91 mX5_evening 0 := ⟨(tq_4 (w := Cond.methodLink RL 91 yX5_evening) (tw_methodLink 191 (by decide +kernel)) rfl), tz_296, tz_297, tz_10, tz_295, ⟨by decide +kernel, by decide +kernel, by decide +kernel, by decide +kernel⟩, by decide⟩
theorem tz_298 : Cond.code yX4_odds cX4_odds 14 (some .long) ∈ tb := (tq_3 (w := Cond.code yX4_odds cX4_odds 14 (some .long)) (tw_d 74 (by decide +kernel)) rfl)
theorem tz_299 : Cond.instanceMethod yX4_odds ∈ tb := (tq_3 (w := Cond.instanceMethod yX4_odds) (tw_instanceMethod 72 (by decide +kernel)) rfl)
theorem tz_300 : Cond.selects RX4 yX4_odds yX4_odds ∈ tb := (tq_3 (w := Cond.selects RX4 yX4_odds yX4_odds) (tw_selects 73 (by decide +kernel)) rfl)
theorem lk_RL_92 : LkV RL 92 mX4_odds 4 := ⟨(tq_3 (w := Cond.methodLink RL 92 yX4_odds) (tw_methodLink 71 (by decide +kernel)) rfl), tz_299, tz_300, tz_8, tz_298, ⟨by decide +kernel, by decide +kernel, by decide +kernel, by decide +kernel⟩, by decide⟩
theorem tz_301 : Cond.code yX5_odds cX5_odds 13 (some .long) ∈ tb := (tq_4 (w := Cond.code yX5_odds cX5_odds 13 (some .long)) (tw_d 198 (by decide +kernel)) rfl)
theorem tz_302 : Cond.instanceMethod yX5_odds ∈ tb := (tq_4 (w := Cond.instanceMethod yX5_odds) (tw_instanceMethod 196 (by decide +kernel)) rfl)
theorem tz_303 : Cond.selects RX5 yX5_odds yX5_odds ∈ tb := (tq_4 (w := Cond.selects RX5 yX5_odds yX5_odds) (tw_selects 197 (by decide +kernel)) rfl)
theorem lk_RL_96 : LkV RL 96 mX5_odds 4 := ⟨(tq_4 (w := Cond.methodLink RL 96 yX5_odds) (tw_methodLink 195 (by decide +kernel)) rfl), tz_302, tz_303, tz_10, tz_301, ⟨by decide +kernel, by decide +kernel, by decide +kernel, by decide +kernel⟩, by decide⟩
theorem tz_304 : Cond.code yX4_wear cX4_wear 4 (some .int) ∈ tb := (tq_3 (w := Cond.code yX4_wear cX4_wear 4 (some .int)) (tw_d 92 (by decide +kernel)) rfl)
theorem tz_305 : Cond.instanceMethod yX4_wear ∈ tb := (tq_3 (w := Cond.instanceMethod yX4_wear) (tw_instanceMethod 90 (by decide +kernel)) rfl)
theorem tz_306 : Cond.selects RX4 yX4_wear yX4_wear ∈ tb := (tq_3 (w := Cond.selects RX4 yX4_wear yX4_wear) (tw_selects 91 (by decide +kernel)) rfl)
theorem lk_RL_97 : LkV RL 97 mX4_wear 2 := ⟨(tq_3 (w := Cond.methodLink RL 97 yX4_wear) (tw_methodLink 89 (by decide +kernel)) rfl), tz_305, tz_306, tz_8, tz_304, ⟨by decide +kernel, by decide +kernel, by decide +kernel, by decide +kernel⟩, by decide⟩
theorem tz_307 : Cond.code yX5_wear cX5_wear 4 (some .int) ∈ tb := (tq_4 (w := Cond.code yX5_wear cX5_wear 4 (some .int)) (tw_d 208 (by decide +kernel)) rfl)
theorem tz_308 : Cond.instanceMethod yX5_wear ∈ tb := (tq_4 (w := Cond.instanceMethod yX5_wear) (tw_instanceMethod 206 (by decide +kernel)) rfl)
theorem tz_309 : Cond.selects RX5 yX5_wear yX5_wear ∈ tb := (tq_4 (w := Cond.selects RX5 yX5_wear yX5_wear) (tw_selects 207 (by decide +kernel)) rfl)
theorem lk_RL_100 : LkV RL 100 mX5_wear 2 := ⟨(tq_4 (w := Cond.methodLink RL 100 yX5_wear) (tw_methodLink 205 (by decide +kernel)) rfl), tz_308, tz_309, tz_10, tz_307, ⟨by decide +kernel, by decide +kernel, by decide +kernel, by decide +kernel⟩, by decide⟩
theorem tz_310 : Cond.code yX4_rate cX4_rate 3 (some .int) ∈ tb := (tq_3 (w := Cond.code yX4_rate cX4_rate 3 (some .int)) (tw_d 96 (by decide +kernel)) rfl)
theorem tz_311 : Cond.instanceMethod yX4_rate ∈ tb := (tq_3 (w := Cond.instanceMethod yX4_rate) (tw_instanceMethod 94 (by decide +kernel)) rfl)
theorem tz_312 : Cond.selects RX4 yX4_rate yX4_rate ∈ tb := (tq_3 (w := Cond.selects RX4 yX4_rate yX4_rate) (tw_selects 95 (by decide +kernel)) rfl)
theorem lk_RL_101 : LkV RL 101 mX4_rate 2 := ⟨(tq_3 (w := Cond.methodLink RL 101 yX4_rate) (tw_methodLink 93 (by decide +kernel)) rfl), tz_311, tz_312, tz_8, tz_310, ⟨by decide +kernel, by decide +kernel, by decide +kernel, by decide +kernel⟩, by decide⟩
theorem tz_313 : Cond.code yX5_rate cX5_rate 3 (some .int) ∈ tb := (tq_4 (w := Cond.code yX5_rate cX5_rate 3 (some .int)) (tw_d 212 (by decide +kernel)) rfl)
theorem tz_314 : Cond.instanceMethod yX5_rate ∈ tb := (tq_4 (w := Cond.instanceMethod yX5_rate) (tw_instanceMethod 210 (by decide +kernel)) rfl)
theorem tz_315 : Cond.selects RX5 yX5_rate yX5_rate ∈ tb := (tq_4 (w := Cond.selects RX5 yX5_rate yX5_rate) (tw_selects 211 (by decide +kernel)) rfl)
theorem lk_RL_104 : LkV RL 104 mX5_rate 2 := ⟨(tq_4 (w := Cond.methodLink RL 104 yX5_rate) (tw_methodLink 209 (by decide +kernel)) rfl), tz_314, tz_315, tz_10, tz_313, ⟨by decide +kernel, by decide +kernel, by decide +kernel, by decide +kernel⟩, by decide⟩
theorem tz_316 : Cond.code yX4_keep cX4_keep 2 (some .int) ∈ tb := (tq_3 (w := Cond.code yX4_keep cX4_keep 2 (some .int)) (tw_d 113 (by decide +kernel)) rfl)
theorem tz_317 : Cond.instanceMethod yX4_keep ∈ tb := (tq_3 (w := Cond.instanceMethod yX4_keep) (tw_instanceMethod 111 (by decide +kernel)) rfl)
theorem tz_318 : Cond.selects RX4 yX4_keep yX4_keep ∈ tb := (tq_3 (w := Cond.selects RX4 yX4_keep yX4_keep) (tw_selects 112 (by decide +kernel)) rfl)
theorem lk_RL_105 : LkV RL 105 mX4_keep 1 := ⟨(tq_3 (w := Cond.methodLink RL 105 yX4_keep) (tw_methodLink 110 (by decide +kernel)) rfl), tz_317, tz_318, tz_8, tz_316, ⟨by decide +kernel, by decide +kernel, by decide +kernel, by decide +kernel⟩, by decide⟩
theorem tz_319 : Cond.code yX5_keep cX5_keep 2 (some .int) ∈ tb := (tq_5 (w := Cond.code yX5_keep cX5_keep 2 (some .int)) (tw_d 6 (by decide +kernel)) rfl)
theorem tz_320 : Cond.instanceMethod yX5_keep ∈ tb := (tq_5 (w := Cond.instanceMethod yX5_keep) (tw_instanceMethod 4 (by decide +kernel)) rfl)
theorem tz_321 : Cond.selects RX5 yX5_keep yX5_keep ∈ tb := (tq_5 (w := Cond.selects RX5 yX5_keep yX5_keep) (tw_selects 5 (by decide +kernel)) rfl)
theorem lk_RL_108 : LkV RL 108 mX5_keep 1 := ⟨(tq_5 (w := Cond.methodLink RL 108 yX5_keep) (tw_methodLink 3 (by decide +kernel)) rfl), tz_320, tz_321, tz_10, tz_319, ⟨by decide +kernel, by decide +kernel, by decide +kernel, by decide +kernel⟩, by decide⟩
theorem tz_322 : Cond.code yX4_back cX4_back 2 (some .int) ∈ tb := (tq_3 (w := Cond.code yX4_back cX4_back 2 (some .int)) (tw_d 117 (by decide +kernel)) rfl)
theorem tz_323 : Cond.instanceMethod yX4_back ∈ tb := (tq_3 (w := Cond.instanceMethod yX4_back) (tw_instanceMethod 115 (by decide +kernel)) rfl)
theorem tz_324 : Cond.selects RX4 yX4_back yX4_back ∈ tb := (tq_3 (w := Cond.selects RX4 yX4_back yX4_back) (tw_selects 116 (by decide +kernel)) rfl)
theorem lk_RL_109 : LkV RL 109 mX4_back 1 := ⟨(tq_3 (w := Cond.methodLink RL 109 yX4_back) (tw_methodLink 114 (by decide +kernel)) rfl), tz_323, tz_324, tz_8, tz_322, ⟨by decide +kernel, by decide +kernel, by decide +kernel, by decide +kernel⟩, by decide⟩
theorem tz_325 : Cond.code yX5_back cX5_back 2 (some .int) ∈ tb := (tq_5 (w := Cond.code yX5_back cX5_back 2 (some .int)) (tw_d 10 (by decide +kernel)) rfl)
theorem tz_326 : Cond.instanceMethod yX5_back ∈ tb := (tq_5 (w := Cond.instanceMethod yX5_back) (tw_instanceMethod 8 (by decide +kernel)) rfl)
theorem tz_327 : Cond.selects RX5 yX5_back yX5_back ∈ tb := (tq_5 (w := Cond.selects RX5 yX5_back yX5_back) (tw_selects 9 (by decide +kernel)) rfl)
theorem lk_RL_112 : LkV RL 112 mX5_back 1 := ⟨(tq_5 (w := Cond.methodLink RL 112 yX5_back) (tw_methodLink 7 (by decide +kernel)) rfl), tz_326, tz_327, tz_10, tz_325, ⟨by decide +kernel, by decide +kernel, by decide +kernel, by decide +kernel⟩, by decide⟩
theorem tz_328 : Cond.code yX4_count cX4_count 2 (some .int) ∈ tb := (tq_3 (w := Cond.code yX4_count cX4_count 2 (some .int)) (tw_d 121 (by decide +kernel)) rfl)
theorem tz_329 : Cond.instanceMethod yX4_count ∈ tb := (tq_3 (w := Cond.instanceMethod yX4_count) (tw_instanceMethod 119 (by decide +kernel)) rfl)
theorem tz_330 : Cond.selects RX4 yX4_count yX4_count ∈ tb := (tq_3 (w := Cond.selects RX4 yX4_count yX4_count) (tw_selects 120 (by decide +kernel)) rfl)
theorem lk_RL_113 : LkV RL 113 mX4_count 1 := ⟨(tq_3 (w := Cond.methodLink RL 113 yX4_count) (tw_methodLink 118 (by decide +kernel)) rfl), tz_329, tz_330, tz_8, tz_328, ⟨by decide +kernel, by decide +kernel, by decide +kernel, by decide +kernel⟩, by decide⟩
theorem tz_331 : Cond.code yX5_count cX5_count 2 (some .int) ∈ tb := (tq_5 (w := Cond.code yX5_count cX5_count 2 (some .int)) (tw_d 14 (by decide +kernel)) rfl)
theorem tz_332 : Cond.instanceMethod yX5_count ∈ tb := (tq_5 (w := Cond.instanceMethod yX5_count) (tw_instanceMethod 12 (by decide +kernel)) rfl)
theorem tz_333 : Cond.selects RX5 yX5_count yX5_count ∈ tb := (tq_5 (w := Cond.selects RX5 yX5_count yX5_count) (tw_selects 13 (by decide +kernel)) rfl)
theorem lk_RL_116 : LkV RL 116 mX5_count 1 := ⟨(tq_5 (w := Cond.methodLink RL 116 yX5_count) (tw_methodLink 11 (by decide +kernel)) rfl), tz_332, tz_333, tz_10, tz_331, ⟨by decide +kernel, by decide +kernel, by decide +kernel, by decide +kernel⟩, by decide⟩
theorem tz_334 : Cond.code yX4_trace cX4_trace 1 (some .long) ∈ tb := (tq_3 (w := Cond.code yX4_trace cX4_trace 1 (some .long)) (tw_d 125 (by decide +kernel)) rfl)
theorem tz_335 : Cond.instanceMethod yX4_trace ∈ tb := (tq_3 (w := Cond.instanceMethod yX4_trace) (tw_instanceMethod 123 (by decide +kernel)) rfl)
theorem tz_336 : Cond.selects RX4 yX4_trace yX4_trace ∈ tb := (tq_3 (w := Cond.selects RX4 yX4_trace yX4_trace) (tw_selects 124 (by decide +kernel)) rfl)
theorem lk_RL_117 : LkV RL 117 mX4_trace 0 := ⟨(tq_3 (w := Cond.methodLink RL 117 yX4_trace) (tw_methodLink 122 (by decide +kernel)) rfl), tz_335, tz_336, tz_8, tz_334, ⟨by decide +kernel, by decide +kernel, by decide +kernel, by decide +kernel⟩, by decide⟩
theorem tz_337 : Cond.code yX5_trace cX5_trace 1 (some .long) ∈ tb := (tq_5 (w := Cond.code yX5_trace cX5_trace 1 (some .long)) (tw_d 18 (by decide +kernel)) rfl)
theorem tz_338 : Cond.instanceMethod yX5_trace ∈ tb := (tq_5 (w := Cond.instanceMethod yX5_trace) (tw_instanceMethod 16 (by decide +kernel)) rfl)
theorem tz_339 : Cond.selects RX5 yX5_trace yX5_trace ∈ tb := (tq_5 (w := Cond.selects RX5 yX5_trace yX5_trace) (tw_selects 17 (by decide +kernel)) rfl)
theorem lk_RL_121 : LkV RL 121 mX5_trace 0 := ⟨(tq_5 (w := Cond.methodLink RL 121 yX5_trace) (tw_methodLink 15 (by decide +kernel)) rfl), tz_338, tz_339, tz_10, tz_337, ⟨by decide +kernel, by decide +kernel, by decide +kernel, by decide +kernel⟩, by decide⟩
theorem tz_340 : Cond.code yX5_begin cX5_begin 2 none ∈ tb := (tq_3 (w := Cond.code yX5_begin cX5_begin 2 none) (tw_d 135 (by decide +kernel)) rfl)
theorem tz_341 : Cond.instanceMethod yX5_begin ∈ tb := (tq_3 (w := Cond.instanceMethod yX5_begin) (tw_instanceMethod 134 (by decide +kernel)) rfl)
theorem tz_342 : Cond.selects RX5 yX5_begin yX5_begin ∈ tb := (tq_0 (w := Cond.selects RX5 yX5_begin yX5_begin) (tw_selects 5 (by decide +kernel)) rfl)
theorem lk_RX5_54 : LkV RX5 54 mX5_begin 0 := ⟨(tq_3 (w := Cond.methodLink RX5 54 yX5_begin) (tw_methodLink 132 (by decide +kernel)) rfl), tz_341, tz_342, tz_10, tz_340, ⟨by decide +kernel, by decide +kernel, by decide +kernel, by decide +kernel⟩, by decide⟩
theorem tz_343 : Cond.code yX5_next cX5_next 3 none ∈ tb := (tq_4 (w := Cond.code yX5_next cX5_next 3 none) (tw_d 15 (by decide +kernel)) rfl)
theorem tz_344 : Cond.instanceMethod yX5_next ∈ tb := (tq_4 (w := Cond.instanceMethod yX5_next) (tw_instanceMethod 14 (by decide +kernel)) rfl)
theorem tz_345 : Cond.selects RX5 yX5_next yX5_next ∈ tb := (tq_0 (w := Cond.selects RX5 yX5_next yX5_next) (tw_selects 6 (by decide +kernel)) rfl)
theorem lk_RX5_89 : LkV RX5 89 mX5_next 0 := ⟨(tq_4 (w := Cond.methodLink RX5 89 yX5_next) (tw_methodLink 12 (by decide +kernel)) rfl), tz_344, tz_345, tz_10, tz_343, ⟨by decide +kernel, by decide +kernel, by decide +kernel, by decide +kernel⟩, by decide⟩
theorem tz_346 : Cond.code yX5_want cX5_want 2 (some .boolean) ∈ tb := (tq_4 (w := Cond.code yX5_want cX5_want 2 (some .boolean)) (tw_d 28 (by decide +kernel)) rfl)
theorem tz_347 : Cond.instanceMethod yX5_want ∈ tb := (tq_4 (w := Cond.instanceMethod yX5_want) (tw_instanceMethod 27 (by decide +kernel)) rfl)
theorem tz_348 : Cond.selects RX5 yX5_want yX5_want ∈ tb := (tq_0 (w := Cond.selects RX5 yX5_want yX5_want) (tw_selects 8 (by decide +kernel)) rfl)
theorem lk_RX5_92 : LkV RX5 92 mX5_want 1 := ⟨(tq_4 (w := Cond.methodLink RX5 92 yX5_want) (tw_methodLink 25 (by decide +kernel)) rfl), tz_347, tz_348, tz_10, tz_346, ⟨by decide +kernel, by decide +kernel, by decide +kernel, by decide +kernel⟩, by decide⟩
theorem tz_349 : Cond.code yX5_takeNumber cX5_takeNumber 3 (some .int) ∈ tb := (tq_4 (w := Cond.code yX5_takeNumber cX5_takeNumber 3 (some .int)) (tw_d 36 (by decide +kernel)) rfl)
theorem tz_350 : Cond.instanceMethod yX5_takeNumber ∈ tb := (tq_4 (w := Cond.instanceMethod yX5_takeNumber) (tw_instanceMethod 35 (by decide +kernel)) rfl)
theorem tz_351 : Cond.selects RX5 yX5_takeNumber yX5_takeNumber ∈ tb := (tq_0 (w := Cond.selects RX5 yX5_takeNumber yX5_takeNumber) (tw_selects 10 (by decide +kernel)) rfl)
theorem lk_RX5_99 : LkV RX5 99 mX5_takeNumber 2 := ⟨(tq_4 (w := Cond.methodLink RX5 99 yX5_takeNumber) (tw_methodLink 33 (by decide +kernel)) rfl), tz_350, tz_351, tz_10, tz_349, ⟨by decide +kernel, by decide +kernel, by decide +kernel, by decide +kernel⟩, by decide⟩
theorem tz_352 : Cond.code yX5_takeHill cX5_takeHill 2 none ∈ tb := (tq_4 (w := Cond.code yX5_takeHill cX5_takeHill 2 none) (tw_d 32 (by decide +kernel)) rfl)
theorem tz_353 : Cond.instanceMethod yX5_takeHill ∈ tb := (tq_4 (w := Cond.instanceMethod yX5_takeHill) (tw_instanceMethod 31 (by decide +kernel)) rfl)
theorem tz_354 : Cond.selects RX5 yX5_takeHill yX5_takeHill ∈ tb := (tq_0 (w := Cond.selects RX5 yX5_takeHill yX5_takeHill) (tw_selects 9 (by decide +kernel)) rfl)
theorem lk_RX5_106 : LkV RX5 106 mX5_takeHill 0 := ⟨(tq_4 (w := Cond.methodLink RX5 106 yX5_takeHill) (tw_methodLink 29 (by decide +kernel)) rfl), tz_353, tz_354, tz_10, tz_352, ⟨by decide +kernel, by decide +kernel, by decide +kernel, by decide +kernel⟩, by decide⟩
theorem tz_355 : Cond.code yX5_takeJoin cX5_takeJoin 3 none ∈ tb := (tq_4 (w := Cond.code yX5_takeJoin cX5_takeJoin 3 none) (tw_d 40 (by decide +kernel)) rfl)
theorem tz_356 : Cond.instanceMethod yX5_takeJoin ∈ tb := (tq_4 (w := Cond.instanceMethod yX5_takeJoin) (tw_instanceMethod 39 (by decide +kernel)) rfl)
theorem tz_357 : Cond.selects RX5 yX5_takeJoin yX5_takeJoin ∈ tb := (tq_0 (w := Cond.selects RX5 yX5_takeJoin yX5_takeJoin) (tw_selects 11 (by decide +kernel)) rfl)
theorem lk_RX5_109 : LkV RX5 109 mX5_takeJoin 0 := ⟨(tq_4 (w := Cond.methodLink RX5 109 yX5_takeJoin) (tw_methodLink 37 (by decide +kernel)) rfl), tz_356, tz_357, tz_10, tz_355, ⟨by decide +kernel, by decide +kernel, by decide +kernel, by decide +kernel⟩, by decide⟩
theorem tz_358 : Cond.code yX5_takeItem cX5_takeItem 1 none ∈ tb := (tq_4 (w := Cond.code yX5_takeItem cX5_takeItem 1 none) (tw_d 24 (by decide +kernel)) rfl)
theorem tz_359 : Cond.instanceMethod yX5_takeItem ∈ tb := (tq_4 (w := Cond.instanceMethod yX5_takeItem) (tw_instanceMethod 23 (by decide +kernel)) rfl)
theorem tz_360 : Cond.selects RX5 yX5_takeItem yX5_takeItem ∈ tb := (tq_0 (w := Cond.selects RX5 yX5_takeItem yX5_takeItem) (tw_selects 7 (by decide +kernel)) rfl)
theorem lk_RX5_128 : LkV RX5 128 mX5_takeItem 0 := ⟨(tq_4 (w := Cond.methodLink RX5 128 yX5_takeItem) (tw_methodLink 21 (by decide +kernel)) rfl), tz_359, tz_360, tz_10, tz_358, ⟨by decide +kernel, by decide +kernel, by decide +kernel, by decide +kernel⟩, by decide⟩
theorem tz_361 : Cond.code yX5_isHill cX5_isHill 2 (some .boolean) ∈ tb := (tq_4 (w := Cond.code yX5_isHill cX5_isHill 2 (some .boolean)) (tw_d 51 (by decide +kernel)) rfl)
theorem tz_362 : Cond.instanceMethod yX5_isHill ∈ tb := (tq_4 (w := Cond.instanceMethod yX5_isHill) (tw_instanceMethod 50 (by decide +kernel)) rfl)
theorem tz_363 : Cond.selects RX5 yX5_isHill yX5_isHill ∈ tb := (tq_0 (w := Cond.selects RX5 yX5_isHill yX5_isHill) (tw_selects 12 (by decide +kernel)) rfl)
theorem lk_RX5_149 : LkV RX5 149 mX5_isHill 1 := ⟨(tq_4 (w := Cond.methodLink RX5 149 yX5_isHill) (tw_methodLink 48 (by decide +kernel)) rfl), tz_362, tz_363, tz_10, tz_361, ⟨by decide +kernel, by decide +kernel, by decide +kernel, by decide +kernel⟩, by decide⟩
theorem tz_364 : Cond.code yX5_sizeBy cX5_sizeBy 4 (some .int) ∈ tb := (tq_4 (w := Cond.code yX5_sizeBy cX5_sizeBy 4 (some .int)) (tw_d 63 (by decide +kernel)) rfl)
theorem tz_365 : Cond.instanceMethod yX5_sizeBy ∈ tb := (tq_4 (w := Cond.instanceMethod yX5_sizeBy) (tw_instanceMethod 62 (by decide +kernel)) rfl)
theorem tz_366 : Cond.selects RX5 yX5_sizeBy yX5_sizeBy ∈ tb := (tq_0 (w := Cond.selects RX5 yX5_sizeBy yX5_sizeBy) (tw_selects 14 (by decide +kernel)) rfl)
theorem lk_RX5_152 : LkV RX5 152 mX5_sizeBy 2 := ⟨(tq_4 (w := Cond.methodLink RX5 152 yX5_sizeBy) (tw_methodLink 60 (by decide +kernel)) rfl), tz_365, tz_366, tz_10, tz_364, ⟨by decide +kernel, by decide +kernel, by decide +kernel, by decide +kernel⟩, by decide⟩
theorem tz_367 : Cond.code yX5_sizeIn cX5_sizeIn 3 (some .int) ∈ tb := (tq_4 (w := Cond.code yX5_sizeIn cX5_sizeIn 3 (some .int)) (tw_d 59 (by decide +kernel)) rfl)
theorem tz_368 : Cond.instanceMethod yX5_sizeIn ∈ tb := (tq_4 (w := Cond.instanceMethod yX5_sizeIn) (tw_instanceMethod 58 (by decide +kernel)) rfl)
theorem tz_369 : Cond.selects RX5 yX5_sizeIn yX5_sizeIn ∈ tb := (tq_0 (w := Cond.selects RX5 yX5_sizeIn yX5_sizeIn) (tw_selects 13 (by decide +kernel)) rfl)
theorem lk_RX5_155 : LkV RX5 155 mX5_sizeIn 2 := ⟨(tq_4 (w := Cond.methodLink RX5 155 yX5_sizeIn) (tw_methodLink 56 (by decide +kernel)) rfl), tz_368, tz_369, tz_10, tz_367, ⟨by decide +kernel, by decide +kernel, by decide +kernel, by decide +kernel⟩, by decide⟩
theorem tz_370 : Cond.code yX5_isOver cX5_isOver 3 (some .boolean) ∈ tb := (tq_4 (w := Cond.code yX5_isOver cX5_isOver 3 (some .boolean)) (tw_d 67 (by decide +kernel)) rfl)
theorem tz_371 : Cond.instanceMethod yX5_isOver ∈ tb := (tq_4 (w := Cond.instanceMethod yX5_isOver) (tw_instanceMethod 66 (by decide +kernel)) rfl)
theorem tz_372 : Cond.selects RX5 yX5_isOver yX5_isOver ∈ tb := (tq_0 (w := Cond.selects RX5 yX5_isOver yX5_isOver) (tw_selects 15 (by decide +kernel)) rfl)
theorem lk_RX5_158 : LkV RX5 158 mX5_isOver 2 := ⟨(tq_4 (w := Cond.methodLink RX5 158 yX5_isOver) (tw_methodLink 64 (by decide +kernel)) rfl), tz_371, tz_372, tz_10, tz_370, ⟨by decide +kernel, by decide +kernel, by decide +kernel, by decide +kernel⟩, by decide⟩
theorem tz_373 : Cond.code yX5_isMan cX5_isMan 2 (some .boolean) ∈ tb := (tq_4 (w := Cond.code yX5_isMan cX5_isMan 2 (some .boolean)) (tw_d 78 (by decide +kernel)) rfl)
theorem tz_374 : Cond.instanceMethod yX5_isMan ∈ tb := (tq_4 (w := Cond.instanceMethod yX5_isMan) (tw_instanceMethod 77 (by decide +kernel)) rfl)
theorem tz_375 : Cond.selects RX5 yX5_isMan yX5_isMan ∈ tb := (tq_0 (w := Cond.selects RX5 yX5_isMan yX5_isMan) (tw_selects 16 (by decide +kernel)) rfl)
theorem lk_RX5_165 : LkV RX5 165 mX5_isMan 1 := ⟨(tq_4 (w := Cond.methodLink RX5 165 yX5_isMan) (tw_methodLink 75 (by decide +kernel)) rfl), tz_374, tz_375, tz_10, tz_373, ⟨by decide +kernel, by decide +kernel, by decide +kernel, by decide +kernel⟩, by decide⟩
theorem tz_376 : Cond.code yX5_over cX5_over 3 (some .int) ∈ tb := (tq_4 (w := Cond.code yX5_over cX5_over 3 (some .int)) (tw_d 86 (by decide +kernel)) rfl)
theorem tz_377 : Cond.instanceMethod yX5_over ∈ tb := (tq_4 (w := Cond.instanceMethod yX5_over) (tw_instanceMethod 85 (by decide +kernel)) rfl)
theorem tz_378 : Cond.selects RX5 yX5_over yX5_over ∈ tb := (tq_0 (w := Cond.selects RX5 yX5_over yX5_over) (tw_selects 17 (by decide +kernel)) rfl)
theorem lk_RX5_168 : LkV RX5 168 mX5_over 0 := ⟨(tq_4 (w := Cond.methodLink RX5 168 yX5_over) (tw_methodLink 83 (by decide +kernel)) rfl), tz_377, tz_378, tz_10, tz_376, ⟨by decide +kernel, by decide +kernel, by decide +kernel, by decide +kernel⟩, by decide⟩
theorem tz_379 : Cond.code yX5_copy cX5_copy 4 none ∈ tb := (tq_4 (w := Cond.code yX5_copy cX5_copy 4 none) (tw_d 98 (by decide +kernel)) rfl)
theorem tz_380 : Cond.instanceMethod yX5_copy ∈ tb := (tq_4 (w := Cond.instanceMethod yX5_copy) (tw_instanceMethod 97 (by decide +kernel)) rfl)
theorem tz_381 : Cond.selects RX5 yX5_copy yX5_copy ∈ tb := (tq_0 (w := Cond.selects RX5 yX5_copy yX5_copy) (tw_selects 19 (by decide +kernel)) rfl)
theorem lk_RX5_172 : LkV RX5 172 mX5_copy 2 := ⟨(tq_4 (w := Cond.methodLink RX5 172 yX5_copy) (tw_methodLink 95 (by decide +kernel)) rfl), tz_380, tz_381, tz_10, tz_379, ⟨by decide +kernel, by decide +kernel, by decide +kernel, by decide +kernel⟩, by decide⟩
theorem tz_382 : Cond.code yX5_remember cX5_remember 2 none ∈ tb := (tq_4 (w := Cond.code yX5_remember cX5_remember 2 none) (tw_d 94 (by decide +kernel)) rfl)
theorem tz_383 : Cond.instanceMethod yX5_remember ∈ tb := (tq_4 (w := Cond.instanceMethod yX5_remember) (tw_instanceMethod 93 (by decide +kernel)) rfl)
theorem tz_384 : Cond.selects RX5 yX5_remember yX5_remember ∈ tb := (tq_0 (w := Cond.selects RX5 yX5_remember yX5_remember) (tw_selects 18 (by decide +kernel)) rfl)
theorem lk_RX5_176 : LkV RX5 176 mX5_remember 0 := ⟨(tq_4 (w := Cond.methodLink RX5 176 yX5_remember) (tw_methodLink 91 (by decide +kernel)) rfl), tz_383, tz_384, tz_10, tz_382, ⟨by decide +kernel, by decide +kernel, by decide +kernel, by decide +kernel⟩, by decide⟩
theorem tz_385 : Cond.code yX5_overIn cX5_overIn 4 (some .int) ∈ tb := (tq_4 (w := Cond.code yX5_overIn cX5_overIn 4 (some .int)) (tw_d 110 (by decide +kernel)) rfl)
theorem tz_386 : Cond.instanceMethod yX5_overIn ∈ tb := (tq_4 (w := Cond.instanceMethod yX5_overIn) (tw_instanceMethod 109 (by decide +kernel)) rfl)
theorem tz_387 : Cond.selects RX5 yX5_overIn yX5_overIn ∈ tb := (tq_0 (w := Cond.selects RX5 yX5_overIn yX5_overIn) (tw_selects 21 (by decide +kernel)) rfl)
theorem lk_RX5_179 : LkV RX5 179 mX5_overIn 1 := ⟨(tq_4 (w := Cond.methodLink RX5 179 yX5_overIn) (tw_methodLink 107 (by decide +kernel)) rfl), tz_386, tz_387, tz_10, tz_385, ⟨by decide +kernel, by decide +kernel, by decide +kernel, by decide +kernel⟩, by decide⟩
theorem tz_388 : Cond.code yX5_pushOf cX5_pushOf 5 (some .int) ∈ tb := (tq_4 (w := Cond.code yX5_pushOf cX5_pushOf 5 (some .int)) (tw_d 114 (by decide +kernel)) rfl)
theorem tz_389 : Cond.instanceMethod yX5_pushOf ∈ tb := (tq_4 (w := Cond.instanceMethod yX5_pushOf) (tw_instanceMethod 113 (by decide +kernel)) rfl)
theorem tz_390 : Cond.selects RX5 yX5_pushOf yX5_pushOf ∈ tb := (tq_0 (w := Cond.selects RX5 yX5_pushOf yX5_pushOf) (tw_selects 22 (by decide +kernel)) rfl)
theorem lk_RX5_183 : LkV RX5 183 mX5_pushOf 2 := ⟨(tq_4 (w := Cond.methodLink RX5 183 yX5_pushOf) (tw_methodLink 111 (by decide +kernel)) rfl), tz_389, tz_390, tz_10, tz_388, ⟨by decide +kernel, by decide +kernel, by decide +kernel, by decide +kernel⟩, by decide⟩
theorem tz_391 : Cond.code yX5_blocksIn cX5_blocksIn 8 (some .int) ∈ tb := (tq_4 (w := Cond.code yX5_blocksIn cX5_blocksIn 8 (some .int)) (tw_d 118 (by decide +kernel)) rfl)
theorem tz_392 : Cond.instanceMethod yX5_blocksIn ∈ tb := (tq_4 (w := Cond.instanceMethod yX5_blocksIn) (tw_instanceMethod 117 (by decide +kernel)) rfl)
theorem tz_393 : Cond.selects RX5 yX5_blocksIn yX5_blocksIn ∈ tb := (tq_0 (w := Cond.selects RX5 yX5_blocksIn yX5_blocksIn) (tw_selects 23 (by decide +kernel)) rfl)
theorem lk_RX5_186 : LkV RX5 186 mX5_blocksIn 3 := ⟨(tq_4 (w := Cond.methodLink RX5 186 yX5_blocksIn) (tw_methodLink 115 (by decide +kernel)) rfl), tz_392, tz_393, tz_10, tz_391, ⟨by decide +kernel, by decide +kernel, by decide +kernel, by decide +kernel⟩, by decide⟩
theorem tz_394 : Cond.code yX5_tire cX5_tire 6 none ∈ tb := (tq_4 (w := Cond.code yX5_tire cX5_tire 6 none) (tw_d 122 (by decide +kernel)) rfl)
theorem tz_395 : Cond.instanceMethod yX5_tire ∈ tb := (tq_4 (w := Cond.instanceMethod yX5_tire) (tw_instanceMethod 121 (by decide +kernel)) rfl)
theorem tz_396 : Cond.selects RX5 yX5_tire yX5_tire ∈ tb := (tq_0 (w := Cond.selects RX5 yX5_tire yX5_tire) (tw_selects 24 (by decide +kernel)) rfl)
theorem lk_RX5_190 : LkV RX5 190 mX5_tire 2 := ⟨(tq_4 (w := Cond.methodLink RX5 190 yX5_tire) (tw_methodLink 119 (by decide +kernel)) rfl), tz_395, tz_396, tz_10, tz_394, ⟨by decide +kernel, by decide +kernel, by decide +kernel, by decide +kernel⟩, by decide⟩
theorem tz_397 : Cond.code yX5_push cX5_push 6 (some .int) ∈ tb := (tq_4 (w := Cond.code yX5_push cX5_push 6 (some .int)) (tw_d 106 (by decide +kernel)) rfl)
theorem tz_398 : Cond.instanceMethod yX5_push ∈ tb := (tq_4 (w := Cond.instanceMethod yX5_push) (tw_instanceMethod 105 (by decide +kernel)) rfl)
theorem tz_399 : Cond.selects RX5 yX5_push yX5_push ∈ tb := (tq_0 (w := Cond.selects RX5 yX5_push yX5_push) (tw_selects 20 (by decide +kernel)) rfl)
theorem lk_RX5_193 : LkV RX5 193 mX5_push 1 := ⟨(tq_4 (w := Cond.methodLink RX5 193 yX5_push) (tw_methodLink 103 (by decide +kernel)) rfl), tz_398, tz_399, tz_10, tz_397, ⟨by decide +kernel, by decide +kernel, by decide +kernel, by decide +kernel⟩, by decide⟩
theorem tz_400 : Cond.code yX5_rainsOn cX5_rainsOn 2 (some .boolean) ∈ tb := (tq_4 (w := Cond.code yX5_rainsOn cX5_rainsOn 2 (some .boolean)) (tw_d 126 (by decide +kernel)) rfl)
theorem tz_401 : Cond.instanceMethod yX5_rainsOn ∈ tb := (tq_4 (w := Cond.instanceMethod yX5_rainsOn) (tw_instanceMethod 125 (by decide +kernel)) rfl)
theorem tz_402 : Cond.selects RX5 yX5_rainsOn yX5_rainsOn ∈ tb := (tq_0 (w := Cond.selects RX5 yX5_rainsOn yX5_rainsOn) (tw_selects 25 (by decide +kernel)) rfl)
theorem lk_RX5_196 : LkV RX5 196 mX5_rainsOn 1 := ⟨(tq_4 (w := Cond.methodLink RX5 196 yX5_rainsOn) (tw_methodLink 123 (by decide +kernel)) rfl), tz_401, tz_402, tz_10, tz_400, ⟨by decide +kernel, by decide +kernel, by decide +kernel, by decide +kernel⟩, by decide⟩
theorem tz_403 : Cond.code yX5_dusk cX5_dusk 5 none ∈ tb := (tq_4 (w := Cond.code yX5_dusk cX5_dusk 5 none) (tw_d 130 (by decide +kernel)) rfl)
theorem tz_404 : Cond.instanceMethod yX5_dusk ∈ tb := (tq_4 (w := Cond.instanceMethod yX5_dusk) (tw_instanceMethod 129 (by decide +kernel)) rfl)
theorem tz_405 : Cond.selects RX5 yX5_dusk yX5_dusk ∈ tb := (tq_0 (w := Cond.selects RX5 yX5_dusk yX5_dusk) (tw_selects 26 (by decide +kernel)) rfl)
theorem lk_RX5_199 : LkV RX5 199 mX5_dusk 2 := ⟨(tq_4 (w := Cond.methodLink RX5 199 yX5_dusk) (tw_methodLink 127 (by decide +kernel)) rfl), tz_404, tz_405, tz_10, tz_403, ⟨by decide +kernel, by decide +kernel, by decide +kernel, by decide +kernel⟩, by decide⟩
theorem tz_406 : Cond.code yX5_orderAll cX5_orderAll 5 none ∈ tb := (tq_4 (w := Cond.code yX5_orderAll cX5_orderAll 5 none) (tw_d 150 (by decide +kernel)) rfl)
theorem tz_407 : Cond.instanceMethod yX5_orderAll ∈ tb := (tq_4 (w := Cond.instanceMethod yX5_orderAll) (tw_instanceMethod 149 (by decide +kernel)) rfl)
theorem tz_408 : Cond.selects RX5 yX5_orderAll yX5_orderAll ∈ tb := (tq_0 (w := Cond.selects RX5 yX5_orderAll yX5_orderAll) (tw_selects 29 (by decide +kernel)) rfl)
theorem lk_RX5_203 : LkV RX5 203 mX5_orderAll 3 := ⟨(tq_4 (w := Cond.methodLink RX5 203 yX5_orderAll) (tw_methodLink 147 (by decide +kernel)) rfl), tz_407, tz_408, tz_10, tz_406, ⟨by decide +kernel, by decide +kernel, by decide +kernel, by decide +kernel⟩, by decide⟩
theorem tz_409 : Cond.code yX5_isCode cX5_isCode 5 (some .boolean) ∈ tb := (tq_4 (w := Cond.code yX5_isCode cX5_isCode 5 (some .boolean)) (tw_d 142 (by decide +kernel)) rfl)
theorem tz_410 : Cond.instanceMethod yX5_isCode ∈ tb := (tq_4 (w := Cond.instanceMethod yX5_isCode) (tw_instanceMethod 141 (by decide +kernel)) rfl)
theorem tz_411 : Cond.selects RX5 yX5_isCode yX5_isCode ∈ tb := (tq_0 (w := Cond.selects RX5 yX5_isCode yX5_isCode) (tw_selects 27 (by decide +kernel)) rfl)
theorem lk_RX5_207 : LkV RX5 207 mX5_isCode 2 := ⟨(tq_4 (w := Cond.methodLink RX5 207 yX5_isCode) (tw_methodLink 139 (by decide +kernel)) rfl), tz_410, tz_411, tz_10, tz_409, ⟨by decide +kernel, by decide +kernel, by decide +kernel, by decide +kernel⟩, by decide⟩
theorem tz_412 : Cond.code yX5_stepBy cX5_stepBy 7 (some .int) ∈ tb := (tq_4 (w := Cond.code yX5_stepBy cX5_stepBy 7 (some .int)) (tw_d 146 (by decide +kernel)) rfl)
theorem tz_413 : Cond.instanceMethod yX5_stepBy ∈ tb := (tq_4 (w := Cond.instanceMethod yX5_stepBy) (tw_instanceMethod 145 (by decide +kernel)) rfl)
theorem tz_414 : Cond.selects RX5 yX5_stepBy yX5_stepBy ∈ tb := (tq_0 (w := Cond.selects RX5 yX5_stepBy yX5_stepBy) (tw_selects 28 (by decide +kernel)) rfl)
theorem lk_RX5_210 : LkV RX5 210 mX5_stepBy 3 := ⟨(tq_4 (w := Cond.methodLink RX5 210 yX5_stepBy) (tw_methodLink 143 (by decide +kernel)) rfl), tz_413, tz_414, tz_10, tz_412, ⟨by decide +kernel, by decide +kernel, by decide +kernel, by decide +kernel⟩, by decide⟩
theorem tz_415 : Cond.code yX5_goToDusk cX5_goToDusk 4 none ∈ tb := (tq_4 (w := Cond.code yX5_goToDusk cX5_goToDusk 4 none) (tw_d 158 (by decide +kernel)) rfl)
theorem tz_416 : Cond.instanceMethod yX5_goToDusk ∈ tb := (tq_4 (w := Cond.instanceMethod yX5_goToDusk) (tw_instanceMethod 157 (by decide +kernel)) rfl)
theorem tz_417 : Cond.selects RX5 yX5_goToDusk yX5_goToDusk ∈ tb := (tq_0 (w := Cond.selects RX5 yX5_goToDusk yX5_goToDusk) (tw_selects 30 (by decide +kernel)) rfl)
theorem lk_RX5_213 : LkV RX5 213 mX5_goToDusk 2 := ⟨(tq_4 (w := Cond.methodLink RX5 213 yX5_goToDusk) (tw_methodLink 155 (by decide +kernel)) rfl), tz_416, tz_417, tz_10, tz_415, ⟨by decide +kernel, by decide +kernel, by decide +kernel, by decide +kernel⟩, by decide⟩
theorem tz_418 : Cond.code yX5_isOverBy cX5_isOverBy 5 (some .boolean) ∈ tb := (tq_4 (w := Cond.code yX5_isOverBy cX5_isOverBy 5 (some .boolean)) (tw_d 166 (by decide +kernel)) rfl)
theorem tz_419 : Cond.instanceMethod yX5_isOverBy ∈ tb := (tq_4 (w := Cond.instanceMethod yX5_isOverBy) (tw_instanceMethod 165 (by decide +kernel)) rfl)
theorem tz_420 : Cond.selects RX5 yX5_isOverBy yX5_isOverBy ∈ tb := (tq_0 (w := Cond.selects RX5 yX5_isOverBy yX5_isOverBy) (tw_selects 31 (by decide +kernel)) rfl)
theorem lk_RX5_216 : LkV RX5 216 mX5_isOverBy 2 := ⟨(tq_4 (w := Cond.methodLink RX5 216 yX5_isOverBy) (tw_methodLink 163 (by decide +kernel)) rfl), tz_419, tz_420, tz_10, tz_418, ⟨by decide +kernel, by decide +kernel, by decide +kernel, by decide +kernel⟩, by decide⟩
theorem tz_421 : Cond.code yX5_stoneRate cX5_stoneRate 2 (some .int) ∈ tb := (tq_4 (w := Cond.code yX5_stoneRate cX5_stoneRate 2 (some .int)) (tw_d 218 (by decide +kernel)) rfl)
theorem tz_422 : Cond.instanceMethod yX5_stoneRate ∈ tb := (tq_4 (w := Cond.instanceMethod yX5_stoneRate) (tw_instanceMethod 217 (by decide +kernel)) rfl)
theorem tz_423 : Cond.selects RX5 yX5_stoneRate yX5_stoneRate ∈ tb := (tq_0 (w := Cond.selects RX5 yX5_stoneRate yX5_stoneRate) (tw_selects 32 (by decide +kernel)) rfl)
theorem lk_RX5_238 : LkV RX5 238 mX5_stoneRate 1 := ⟨(tq_4 (w := Cond.methodLink RX5 238 yX5_stoneRate) (tw_methodLink 215 (by decide +kernel)) rfl), tz_422, tz_423, tz_10, tz_421, ⟨by decide +kernel, by decide +kernel, by decide +kernel, by decide +kernel⟩, by decide⟩
theorem tz_424 : Cond.code yX5_roundRate cX5_roundRate 2 (some .int) ∈ tb := (tq_4 (w := Cond.code yX5_roundRate cX5_roundRate 2 (some .int)) (tw_d 222 (by decide +kernel)) rfl)
theorem tz_425 : Cond.instanceMethod yX5_roundRate ∈ tb := (tq_4 (w := Cond.instanceMethod yX5_roundRate) (tw_instanceMethod 221 (by decide +kernel)) rfl)
theorem tz_426 : Cond.selects RX5 yX5_roundRate yX5_roundRate ∈ tb := (tq_0 (w := Cond.selects RX5 yX5_roundRate yX5_roundRate) (tw_selects 33 (by decide +kernel)) rfl)
theorem lk_RX5_245 : LkV RX5 245 mX5_roundRate 1 := ⟨(tq_4 (w := Cond.methodLink RX5 245 yX5_roundRate) (tw_methodLink 219 (by decide +kernel)) rfl), tz_425, tz_426, tz_10, tz_424, ⟨by decide +kernel, by decide +kernel, by decide +kernel, by decide +kernel⟩, by decide⟩
theorem tz_427 : Cond.code yX5_splitRate cX5_splitRate 2 (some .int) ∈ tb := (tq_4 (w := Cond.code yX5_splitRate cX5_splitRate 2 (some .int)) (tw_d 226 (by decide +kernel)) rfl)
theorem tz_428 : Cond.instanceMethod yX5_splitRate ∈ tb := (tq_4 (w := Cond.instanceMethod yX5_splitRate) (tw_instanceMethod 225 (by decide +kernel)) rfl)
theorem tz_429 : Cond.selects RX5 yX5_splitRate yX5_splitRate ∈ tb := (tq_0 (w := Cond.selects RX5 yX5_splitRate yX5_splitRate) (tw_selects 34 (by decide +kernel)) rfl)
theorem lk_RX5_250 : LkV RX5 250 mX5_splitRate 1 := ⟨(tq_4 (w := Cond.methodLink RX5 250 yX5_splitRate) (tw_methodLink 223 (by decide +kernel)) rfl), tz_428, tz_429, tz_10, tz_427, ⟨by decide +kernel, by decide +kernel, by decide +kernel, by decide +kernel⟩, by decide⟩
theorem tz_430 : Cond.code yX5_wetRate cX5_wetRate 2 (some .int) ∈ tb := (tq_4 (w := Cond.code yX5_wetRate cX5_wetRate 2 (some .int)) (tw_d 231 (by decide +kernel)) rfl)
theorem tz_431 : Cond.instanceMethod yX5_wetRate ∈ tb := (tq_4 (w := Cond.instanceMethod yX5_wetRate) (tw_instanceMethod 230 (by decide +kernel)) rfl)
theorem tz_432 : Cond.selects RX5 yX5_wetRate yX5_wetRate ∈ tb := (tq_0 (w := Cond.selects RX5 yX5_wetRate yX5_wetRate) (tw_selects 35 (by decide +kernel)) rfl)
theorem lk_RX5_258 : LkV RX5 258 mX5_wetRate 1 := ⟨(tq_4 (w := Cond.methodLink RX5 258 yX5_wetRate) (tw_methodLink 228 (by decide +kernel)) rfl), tz_431, tz_432, tz_10, tz_430, ⟨by decide +kernel, by decide +kernel, by decide +kernel, by decide +kernel⟩, by decide⟩
theorem tz_433 : Cond.code yX5_lentRate cX5_lentRate 2 (some .int) ∈ tb := (tq_4 (w := Cond.code yX5_lentRate cX5_lentRate 2 (some .int)) (tw_d 236 (by decide +kernel)) rfl)
theorem tz_434 : Cond.instanceMethod yX5_lentRate ∈ tb := (tq_4 (w := Cond.instanceMethod yX5_lentRate) (tw_instanceMethod 235 (by decide +kernel)) rfl)
theorem tz_435 : Cond.selects RX5 yX5_lentRate yX5_lentRate ∈ tb := (tq_0 (w := Cond.selects RX5 yX5_lentRate yX5_lentRate) (tw_selects 36 (by decide +kernel)) rfl)
theorem lk_RX5_261 : LkV RX5 261 mX5_lentRate 1 := ⟨(tq_4 (w := Cond.methodLink RX5 261 yX5_lentRate) (tw_methodLink 233 (by decide +kernel)) rfl), tz_434, tz_435, tz_10, tz_433, ⟨by decide +kernel, by decide +kernel, by decide +kernel, by decide +kernel⟩, by decide⟩
theorem tz_436 : Cond.code yX5_hollowRate cX5_hollowRate 4 (some .int) ∈ tb := (tq_5 (w := Cond.code yX5_hollowRate cX5_hollowRate 4 (some .int)) (tw_d 1 (by decide +kernel)) rfl)
theorem tz_437 : Cond.instanceMethod yX5_hollowRate ∈ tb := (tq_5 (w := Cond.instanceMethod yX5_hollowRate) (tw_instanceMethod 0 (by decide +kernel)) rfl)
theorem tz_438 : Cond.selects RX5 yX5_hollowRate yX5_hollowRate ∈ tb := (tq_0 (w := Cond.selects RX5 yX5_hollowRate yX5_hollowRate) (tw_selects 37 (by decide +kernel)) rfl)
theorem lk_RX5_264 : LkV RX5 264 mX5_hollowRate 1 := ⟨(tq_4 (w := Cond.methodLink RX5 264 yX5_hollowRate) (tw_methodLink 238 (by decide +kernel)) rfl), tz_437, tz_438, tz_10, tz_436, ⟨by decide +kernel, by decide +kernel, by decide +kernel, by decide +kernel⟩, by decide⟩
theorem cs_RX4_238 : Cond.constant RX4 238 (-1000000) ∈ tb := (tq_3 (w := Cond.constant RX4 238 (-1000000)) (tw_d 97 (by decide +kernel)) rfl)
theorem cl_RX4_220 : Cond.constantLong RX4 220 (-1) ∈ tb := (tq_3 (w := Cond.constantLong RX4 220 (-1)) (tw_d 75 (by decide +kernel)) rfl)
theorem cl_RX5_57 : Cond.constantLong RX5 57 (255) ∈ tb := (tq_4 (w := Cond.constantLong RX5 57 (255)) (tw_d 0 (by decide +kernel)) rfl)
theorem cl_RX5_66 : Cond.constantLong RX5 66 (48) ∈ tb := (tq_4 (w := Cond.constantLong RX5 66 (48)) (tw_d 19 (by decide +kernel)) rfl)
theorem cl_RX5_68 : Cond.constantLong RX5 68 (57) ∈ tb := (tq_4 (w := Cond.constantLong RX5 68 (57)) (tw_d 20 (by decide +kernel)) rfl)
theorem cl_RX5_222 : Cond.constantLong RX5 222 (9) ∈ tb := (tq_4 (w := Cond.constantLong RX5 222 (9)) (tw_d 186 (by decide +kernel)) rfl)
theorem cl_RX5_224 : Cond.constantLong RX5 224 (4) ∈ tb := (tq_4 (w := Cond.constantLong RX5 224 (4)) (tw_d 199 (by decide +kernel)) rfl)
theorem cl_RX5_226 : Cond.constantLong RX5 226 (10) ∈ tb := (tq_4 (w := Cond.constantLong RX5 226 (10)) (tw_d 200 (by decide +kernel)) rfl)
theorem cl_RX5_228 : Cond.constantLong RX5 228 (-1) ∈ tb := (tq_4 (w := Cond.constantLong RX5 228 (-1)) (tw_d 201 (by decide +kernel)) rfl)
theorem cl_RX5_241 : Cond.constantLong RX5 241 (100) ∈ tb := (tq_4 (w := Cond.constantLong RX5 241 (100)) (tw_d 227 (by decide +kernel)) rfl)
theorem cl_RX5_243 : Cond.constantLong RX5 243 (1000) ∈ tb := (tq_4 (w := Cond.constantLong RX5 243 (1000)) (tw_d 232 (by decide +kernel)) rfl)
theorem cl_RX5_248 : Cond.constantLong RX5 248 (10000) ∈ tb := (tq_4 (w := Cond.constantLong RX5 248 (10000)) (tw_d 237 (by decide +kernel)) rfl)
theorem cl_RX5_253 : Cond.constantLong RX5 253 (100000) ∈ tb := (tq_5 (w := Cond.constantLong RX5 253 (100000)) (tw_d 2 (by decide +kernel)) rfl)
theorem cl_RX5_255 : Cond.constantLong RX5 255 (5) ∈ tb := (tq_4 (w := Cond.constantLong RX5 255 (5)) (tw_d 213 (by decide +kernel)) rfl)
theorem cs_RX5_257 : Cond.constant RX5 257 (-1000000) ∈ tb := (tq_4 (w := Cond.constant RX5 257 (-1000000)) (tw_d 214 (by decide +kernel)) rfl)
theorem cs_RJ6_265 : Cond.constant RJ6 265 (1431655765) ∈ tb := (tq_3 (w := Cond.constant RJ6 265 (1431655765)) (tw_d 35 (by decide +kernel)) rfl)
theorem cs_RJ6_266 : Cond.constant RJ6 266 (858993459) ∈ tb := (tq_3 (w := Cond.constant RJ6 266 (858993459)) (tw_d 36 (by decide +kernel)) rfl)
theorem cs_RJ6_267 : Cond.constant RJ6 267 (252645135) ∈ tb := (tq_3 (w := Cond.constant RJ6 267 (252645135)) (tw_d 37 (by decide +kernel)) rfl)
theorem mn_RX0_9 : Cond.classLink RX0 9 "[[I" ∈ tb ∧ Cond.arrayClass .int ∈ tb := ⟨(tq_1 (w := Cond.classLink RX0 9 "[[I") (tw_d 172 (by decide +kernel)) rfl), (tq_1 (w := Cond.arrayClass .int) (tw_d 47 (by decide +kernel)) rfl)⟩
theorem nw_RX4_13 : ∃ q, vwCl[3]? = some q ∧ q.2.2 = 7 ∧ Cond.classLink RX4 13 q.1 ∈ tb ∧ Cond.instantiable q.1 7 ∈ tb ∧ Cond.initialized q.1 ∈ tb := ⟨(RX3, TX3, 7), rfl, rfl, (tq_1 (w := Cond.classLink RX4 13 RX3) (tw_d 18 (by decide +kernel)) rfl), (tq_1 (w := Cond.instantiable RX3 7) (tw_d 19 (by decide +kernel)) rfl), (tq_1 (w := Cond.initialized RX3) (tw_d 2 (by decide +kernel)) rfl)⟩
theorem nw_RX4_22 : ∃ q, vwCl[1]? = some q ∧ q.2.2 = 15 ∧ Cond.classLink RX4 22 q.1 ∈ tb ∧ Cond.instantiable q.1 15 ∈ tb ∧ Cond.initialized q.1 ∈ tb := ⟨(RX1, TX1, 15), rfl, rfl, (tq_1 (w := Cond.classLink RX4 22 RX1) (tw_d 48 (by decide +kernel)) rfl), (tq_1 (w := Cond.instantiable RX1 15) (tw_d 49 (by decide +kernel)) rfl), (tq_1 (w := Cond.initialized RX1) (tw_d 3 (by decide +kernel)) rfl)⟩
theorem nw_RX4_32 : ∃ q, vwCl[2]? = some q ∧ q.2.2 = 8 ∧ Cond.classLink RX4 32 q.1 ∈ tb ∧ Cond.instantiable q.1 8 ∈ tb ∧ Cond.initialized q.1 ∈ tb := ⟨(RX2, TX2, 8), rfl, rfl, (tq_1 (w := Cond.classLink RX4 32 RX2) (tw_d 126 (by decide +kernel)) rfl), (tq_1 (w := Cond.instantiable RX2 8) (tw_d 127 (by decide +kernel)) rfl), (tq_1 (w := Cond.initialized RX2) (tw_d 4 (by decide +kernel)) rfl)⟩
theorem nw_RX4_60 : ∃ q, vwCl[0]? = some q ∧ q.2.2 = 7 ∧ Cond.classLink RX4 60 q.1 ∈ tb ∧ Cond.instantiable q.1 7 ∈ tb ∧ Cond.initialized q.1 ∈ tb := ⟨(RX0, TX0, 7), rfl, rfl, (tq_1 (w := Cond.classLink RX4 60 RX0) (tw_d 166 (by decide +kernel)) rfl), (tq_1 (w := Cond.instantiable RX0 7) (tw_d 167 (by decide +kernel)) rfl), (tq_1 (w := Cond.initialized RX0) (tw_d 5 (by decide +kernel)) rfl)⟩
theorem nw_RL_7 : ∃ q, vwCl[4]? = some q ∧ q.2.2 = 16 ∧ Cond.classLink RL 7 q.1 ∈ tb ∧ Cond.instantiable q.1 16 ∈ tb ∧ Cond.initialized q.1 ∈ tb := ⟨(RX4, TX4, 16), rfl, rfl, (tq_1 (w := Cond.classLink RL 7 RX4) (tw_d 10 (by decide +kernel)) rfl), (tq_1 (w := Cond.instantiable RX4 16) (tw_d 11 (by decide +kernel)) rfl), (tq_1 (w := Cond.initialized RX4) (tw_d 1 (by decide +kernel)) rfl)⟩
theorem nw_RL_10 : ∃ q, vwCl[5]? = some q ∧ q.2.2 = 33 ∧ Cond.classLink RL 10 q.1 ∈ tb ∧ Cond.instantiable q.1 33 ∈ tb ∧ Cond.initialized q.1 ∈ tb := ⟨(RX5, TX5, 33), rfl, rfl, (tq_3 (w := Cond.classLink RL 10 RX5) (tw_d 126 (by decide +kernel)) rfl), (tq_3 (w := Cond.instantiable RX5 33) (tw_d 127 (by decide +kernel)) rfl), (tq_1 (w := Cond.initialized RX5) (tw_d 6 (by decide +kernel)) rfl)⟩
theorem fl_RX1_36 : FL RX1 36 1 11 := ⟨(RX1, TX1, 15), rfl, by decide, (tq_1 (w := Cond.fieldLink RX1 36 "DuskStones$Land" "hours" "I") (tw_fieldLink 84 (by decide +kernel)) rfl), rfl⟩
theorem fl_RX1_52 : FL RX1 52 1 13 := ⟨(RX1, TX1, 15), rfl, by decide, (tq_1 (w := Cond.fieldLink RX1 52 "DuskStones$Land" "hoursTold" "Z") (tw_fieldLink 91 (by decide +kernel)) rfl), rfl⟩
theorem fl_RX1_56 : FL RX1 56 1 14 := ⟨(RX1, TX1, 15), rfl, by decide, (tq_1 (w := Cond.fieldLink RX1 56 "DuskStones$Land" "rainTold" "Z") (tw_fieldLink 93 (by decide +kernel)) rfl), rfl⟩
theorem fl_RX3_113 : FL RX3 113 1 11 := ⟨(RX1, TX1, 15), rfl, by decide, (tq_1 (w := Cond.fieldLink RX3 113 "DuskStones$Land" "hours" "I") (tw_fieldLink 86 (by decide +kernel)) rfl), rfl⟩
theorem fl_RX3_116 : FL RX3 116 1 12 := ⟨(RX1, TX1, 15), rfl, by decide, (tq_1 (w := Cond.fieldLink RX3 116 "DuskStones$Land" "rain" "I") (tw_fieldLink 89 (by decide +kernel)) rfl), rfl⟩
theorem ac_int : Cond.arrayClass .int ∈ tb := (tq_1 (w := Cond.arrayClass .int) (tw_d 47 (by decide +kernel)) rfl)
theorem ac_char : Cond.arrayClass .char ∈ tb := (tq_1 (w := Cond.arrayClass .char) (tw_d 46 (by decide +kernel)) rfl)
theorem ac_boolean : Cond.arrayClass .boolean ∈ tb := (tq_1 (w := Cond.arrayClass .boolean) (tw_d 198 (by decide +kernel)) rfl)
theorem sh_0 : shn 136 0 = (4, 16) := rfl
theorem sh_1 : shn 136 1 = (7, 200) := rfl
theorem sh_2 : shn 136 2 = (3, 7) := rfl
theorem sh_3 : shn 136 3 = (6, 4) := rfl
theorem sh_4 : shn 136 4 = (1, 15) := rfl
theorem sh_5 : shn 136 5 = (6, 4) := rfl
theorem sh_6 : shn 136 6 = (6, 4) := rfl
theorem sh_7 : shn 136 7 = (6, 4) := rfl
theorem sh_8 : shn 136 8 = (6, 4) := rfl
theorem sh_9 : shn 136 9 = (6, 4) := rfl
theorem sh_10 : shn 136 10 = (6, 4) := rfl
theorem sh_11 : shn 136 11 = (6, 4) := rfl
theorem sh_12 : shn 136 12 = (6, 3) := rfl
theorem sh_13 : shn 136 13 = (1, 15) := rfl
theorem sh_14 : shn 136 14 = (6, 4) := rfl
theorem sh_15 : shn 136 15 = (6, 4) := rfl
theorem sh_16 : shn 136 16 = (6, 4) := rfl
theorem sh_17 : shn 136 17 = (6, 4) := rfl
theorem sh_18 : shn 136 18 = (6, 4) := rfl
theorem sh_19 : shn 136 19 = (6, 4) := rfl
theorem sh_20 : shn 136 20 = (6, 4) := rfl
theorem sh_21 : shn 136 21 = (6, 3) := rfl
theorem sh_22 : shn 136 22 = (2, 8) := rfl
theorem sh_23 : shn 136 23 = (6, 4) := rfl
theorem sh_24 : shn 136 24 = (6, 4) := rfl
theorem sh_25 : shn 136 25 = (6, 3) := rfl
theorem sh_26 : shn 136 26 = (6, 3) := rfl
theorem sh_27 : shn 136 27 = (6, 20) := rfl
theorem sh_28 : shn 136 28 = (2, 8) := rfl
theorem sh_29 : shn 136 29 = (6, 4) := rfl
theorem sh_30 : shn 136 30 = (6, 4) := rfl
theorem sh_31 : shn 136 31 = (6, 3) := rfl
theorem sh_32 : shn 136 32 = (6, 3) := rfl
theorem sh_33 : shn 136 33 = (6, 20) := rfl
theorem sh_34 : shn 136 34 = (9, 10) := rfl
theorem sh_35 : shn 136 35 = (9, 2) := rfl
theorem sh_36 : shn 136 36 = (8, 2) := rfl
theorem sh_37 : shn 136 37 = (6, 6) := rfl
theorem sh_38 : shn 136 38 = (6, 6) := rfl
theorem sh_39 : shn 136 39 = (0, 7) := rfl
theorem sh_40 : shn 136 40 = (10, 7) := rfl
theorem sh_41 : shn 136 41 = (6, 3) := rfl
theorem sh_42 : shn 136 42 = (6, 3) := rfl
theorem sh_43 : shn 136 43 = (6, 3) := rfl
theorem sh_44 : shn 136 44 = (6, 3) := rfl
theorem sh_45 : shn 136 45 = (6, 3) := rfl
theorem sh_46 : shn 136 46 = (6, 3) := rfl
theorem sh_47 : shn 136 47 = (6, 3) := rfl
theorem sh_48 : shn 136 48 = (6, 6) := rfl
theorem sh_49 : shn 136 49 = (6, 6) := rfl
theorem sh_50 : shn 136 50 = (2, 8) := rfl
theorem sh_51 : shn 136 51 = (6, 4) := rfl
theorem sh_52 : shn 136 52 = (6, 4) := rfl
theorem sh_53 : shn 136 53 = (6, 3) := rfl
theorem sh_54 : shn 136 54 = (6, 3) := rfl
theorem sh_55 : shn 136 55 = (6, 20) := rfl
theorem sh_56 : shn 136 56 = (2, 8) := rfl
theorem sh_57 : shn 136 57 = (6, 4) := rfl
theorem sh_58 : shn 136 58 = (6, 4) := rfl
theorem sh_59 : shn 136 59 = (6, 3) := rfl
theorem sh_60 : shn 136 60 = (6, 3) := rfl
theorem sh_61 : shn 136 61 = (6, 20) := rfl
theorem sh_62 : shn 136 62 = (2, 8) := rfl
theorem sh_63 : shn 136 63 = (6, 4) := rfl
theorem sh_64 : shn 136 64 = (6, 4) := rfl
theorem sh_65 : shn 136 65 = (6, 3) := rfl
theorem sh_66 : shn 136 66 = (6, 3) := rfl
theorem sh_67 : shn 136 67 = (6, 20) := rfl
theorem sh_68 : shn 136 68 = (2, 8) := rfl
theorem sh_69 : shn 136 69 = (6, 4) := rfl
theorem sh_70 : shn 136 70 = (6, 4) := rfl
theorem sh_71 : shn 136 71 = (6, 3) := rfl
theorem sh_72 : shn 136 72 = (6, 3) := rfl
theorem sh_73 : shn 136 73 = (6, 20) := rfl
theorem sh_74 : shn 136 74 = (2, 8) := rfl
theorem sh_75 : shn 136 75 = (6, 4) := rfl
theorem sh_76 : shn 136 76 = (6, 4) := rfl
theorem sh_77 : shn 136 77 = (6, 3) := rfl
theorem sh_78 : shn 136 78 = (6, 3) := rfl
theorem sh_79 : shn 136 79 = (6, 20) := rfl
theorem sh_80 : shn 136 80 = (2, 8) := rfl
theorem sh_81 : shn 136 81 = (6, 4) := rfl
theorem sh_82 : shn 136 82 = (6, 4) := rfl
theorem sh_83 : shn 136 83 = (6, 3) := rfl
theorem sh_84 : shn 136 84 = (6, 3) := rfl
theorem sh_85 : shn 136 85 = (6, 20) := rfl
theorem sh_86 : shn 136 86 = (2, 8) := rfl
theorem sh_87 : shn 136 87 = (6, 4) := rfl
theorem sh_88 : shn 136 88 = (6, 4) := rfl
theorem sh_89 : shn 136 89 = (6, 3) := rfl
theorem sh_90 : shn 136 90 = (6, 3) := rfl
theorem sh_91 : shn 136 91 = (6, 20) := rfl
theorem sh_92 : shn 136 92 = (2, 8) := rfl
theorem sh_93 : shn 136 93 = (6, 4) := rfl
theorem sh_94 : shn 136 94 = (6, 4) := rfl
theorem sh_95 : shn 136 95 = (6, 3) := rfl
theorem sh_96 : shn 136 96 = (6, 3) := rfl
theorem sh_97 : shn 136 97 = (6, 20) := rfl
theorem sh_98 : shn 136 98 = (2, 8) := rfl
theorem sh_99 : shn 136 99 = (6, 4) := rfl
theorem sh_100 : shn 136 100 = (6, 4) := rfl
theorem sh_101 : shn 136 101 = (6, 3) := rfl
theorem sh_102 : shn 136 102 = (6, 3) := rfl
theorem sh_103 : shn 136 103 = (6, 20) := rfl
theorem sh_104 : shn 136 104 = (2, 8) := rfl
theorem sh_105 : shn 136 105 = (6, 4) := rfl
theorem sh_106 : shn 136 106 = (6, 4) := rfl
theorem sh_107 : shn 136 107 = (6, 3) := rfl
theorem sh_108 : shn 136 108 = (6, 3) := rfl
theorem sh_109 : shn 136 109 = (6, 20) := rfl
theorem sh_110 : shn 136 110 = (2, 8) := rfl
theorem sh_111 : shn 136 111 = (6, 4) := rfl
theorem sh_112 : shn 136 112 = (6, 4) := rfl
theorem sh_113 : shn 136 113 = (6, 3) := rfl
theorem sh_114 : shn 136 114 = (6, 3) := rfl
theorem sh_115 : shn 136 115 = (6, 20) := rfl
theorem sh_116 : shn 136 116 = (2, 8) := rfl
theorem sh_117 : shn 136 117 = (6, 4) := rfl
theorem sh_118 : shn 136 118 = (6, 4) := rfl
theorem sh_119 : shn 136 119 = (6, 3) := rfl
theorem sh_120 : shn 136 120 = (6, 3) := rfl
theorem sh_121 : shn 136 121 = (6, 20) := rfl
theorem sh_122 : shn 136 122 = (5, 33) := rfl
theorem sh_123 : shn 136 123 = (6, 1400) := rfl
theorem sh_124 : shn 136 124 = (8, 2) := rfl
theorem sh_125 : shn 136 125 = (6, 8) := rfl
theorem sh_126 : shn 136 126 = (6, 8) := rfl
theorem sh_127 : shn 136 127 = (6, 8) := rfl
theorem sh_128 : shn 136 128 = (6, 8) := rfl
theorem sh_129 : shn 136 129 = (6, 8) := rfl
theorem sh_130 : shn 136 130 = (6, 8) := rfl
theorem sh_131 : shn 136 131 = (6, 8) := rfl
theorem sh_132 : shn 136 132 = (6, 6) := rfl
theorem sh_133 : shn 136 133 = (6, 200) := rfl
theorem sh_134 : shn 136 134 = (6, 6) := rfl
theorem sh_135 : shn 136 135 = (6, 6) := rfl
end
