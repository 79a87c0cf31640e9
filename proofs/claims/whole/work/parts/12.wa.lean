set_option maxRecDepth 100000 in
theorem w_J6_bitCount_0f7a4 {d : Nat} {I : MI} {G : MG} {J : MJ} {Φ : Ph} (hG : WG G) (x0 : Int32) (hy : Φ (some (.int ((((((((x0 - ((x0.toUInt32 >>> ((1 : Int32).toUInt32 &&& Int32.toUInt32 31)).toInt32 &&& (1431655765 : Int32))) &&& (858993459 : Int32)) + (((x0 - ((x0.toUInt32 >>> ((1 : Int32).toUInt32 &&& Int32.toUInt32 31)).toInt32 &&& (1431655765 : Int32))).toUInt32 >>> ((2 : Int32).toUInt32 &&& Int32.toUInt32 31)).toInt32 &&& (858993459 : Int32))) + ((((x0 - ((x0.toUInt32 >>> ((1 : Int32).toUInt32 &&& Int32.toUInt32 31)).toInt32 &&& (1431655765 : Int32))) &&& (858993459 : Int32)) + (((x0 - ((x0.toUInt32 >>> ((1 : Int32).toUInt32 &&& Int32.toUInt32 31)).toInt32 &&& (1431655765 : Int32))).toUInt32 >>> ((2 : Int32).toUInt32 &&& Int32.toUInt32 31)).toInt32 &&& (858993459 : Int32))).toUInt32 >>> ((4 : Int32).toUInt32 &&& Int32.toUInt32 31)).toInt32) &&& (252645135 : Int32)) + ((((((x0 - ((x0.toUInt32 >>> ((1 : Int32).toUInt32 &&& Int32.toUInt32 31)).toInt32 &&& (1431655765 : Int32))) &&& (858993459 : Int32)) + (((x0 - ((x0.toUInt32 >>> ((1 : Int32).toUInt32 &&& Int32.toUInt32 31)).toInt32 &&& (1431655765 : Int32))).toUInt32 >>> ((2 : Int32).toUInt32 &&& Int32.toUInt32 31)).toInt32 &&& (858993459 : Int32))) + ((((x0 - ((x0.toUInt32 >>> ((1 : Int32).toUInt32 &&& Int32.toUInt32 31)).toInt32 &&& (1431655765 : Int32))) &&& (858993459 : Int32)) + (((x0 - ((x0.toUInt32 >>> ((1 : Int32).toUInt32 &&& Int32.toUInt32 31)).toInt32 &&& (1431655765 : Int32))).toUInt32 >>> ((2 : Int32).toUInt32 &&& Int32.toUInt32 31)).toInt32 &&& (858993459 : Int32))).toUInt32 >>> ((4 : Int32).toUInt32 &&& Int32.toUInt32 31)).toInt32) &&& (252645135 : Int32)).toUInt32 >>> ((8 : Int32).toUInt32 &&& Int32.toUInt32 31)).toInt32) + (((((((x0 - ((x0.toUInt32 >>> ((1 : Int32).toUInt32 &&& Int32.toUInt32 31)).toInt32 &&& (1431655765 : Int32))) &&& (858993459 : Int32)) + (((x0 - ((x0.toUInt32 >>> ((1 : Int32).toUInt32 &&& Int32.toUInt32 31)).toInt32 &&& (1431655765 : Int32))).toUInt32 >>> ((2 : Int32).toUInt32 &&& Int32.toUInt32 31)).toInt32 &&& (858993459 : Int32))) + ((((x0 - ((x0.toUInt32 >>> ((1 : Int32).toUInt32 &&& Int32.toUInt32 31)).toInt32 &&& (1431655765 : Int32))) &&& (858993459 : Int32)) + (((x0 - ((x0.toUInt32 >>> ((1 : Int32).toUInt32 &&& Int32.toUInt32 31)).toInt32 &&& (1431655765 : Int32))).toUInt32 >>> ((2 : Int32).toUInt32 &&& Int32.toUInt32 31)).toInt32 &&& (858993459 : Int32))).toUInt32 >>> ((4 : Int32).toUInt32 &&& Int32.toUInt32 31)).toInt32) &&& (252645135 : Int32)) + ((((((x0 - ((x0.toUInt32 >>> ((1 : Int32).toUInt32 &&& Int32.toUInt32 31)).toInt32 &&& (1431655765 : Int32))) &&& (858993459 : Int32)) + (((x0 - ((x0.toUInt32 >>> ((1 : Int32).toUInt32 &&& Int32.toUInt32 31)).toInt32 &&& (1431655765 : Int32))).toUInt32 >>> ((2 : Int32).toUInt32 &&& Int32.toUInt32 31)).toInt32 &&& (858993459 : Int32))) + ((((x0 - ((x0.toUInt32 >>> ((1 : Int32).toUInt32 &&& Int32.toUInt32 31)).toInt32 &&& (1431655765 : Int32))) &&& (858993459 : Int32)) + (((x0 - ((x0.toUInt32 >>> ((1 : Int32).toUInt32 &&& Int32.toUInt32 31)).toInt32 &&& (1431655765 : Int32))).toUInt32 >>> ((2 : Int32).toUInt32 &&& Int32.toUInt32 31)).toInt32 &&& (858993459 : Int32))).toUInt32 >>> ((4 : Int32).toUInt32 &&& Int32.toUInt32 31)).toInt32) &&& (252645135 : Int32)).toUInt32 >>> ((8 : Int32).toUInt32 &&& Int32.toUInt32 31)).toInt32).toUInt32 >>> ((16 : Int32).toUInt32 &&& Int32.toUInt32 31)).toInt32) &&& (63 : Int32)))) 136 I G J) : Ev d mJ6_bitCount_0f7a4 136 0 [some (.int x0)] [] 136 I G J Φ := by
  refine E_iload_n 0 dJ6_bitCount_0f7a4_0 rfl rfl ?_
  refine E_iload_n 0 dJ6_bitCount_0f7a4_1 rfl rfl ?_
  refine E_iconst (1 : Int32) dJ6_bitCount_0f7a4_2 rfl ?_
  refine E_iushr dJ6_bitCount_0f7a4_3 ?_
  refine E_ldcw (1431655765 : Int32) dJ6_bitCount_0f7a4_4 cs_RJ6_265 ?_
  refine E_iand dJ6_bitCount_0f7a4_7 ?_
  refine E_isub dJ6_bitCount_0f7a4_8 ?_
  refine E_istore_n 0 dJ6_bitCount_0f7a4_9 rfl (Nat.le_of_ble_eq_true rfl) (?_ : Ev d mJ6_bitCount_0f7a4 136 10 [some (.int (x0 - ((x0.toUInt32 >>> ((1 : Int32).toUInt32 &&& Int32.toUInt32 31)).toInt32 &&& (1431655765 : Int32))))] [] 136 I G J Φ)
  refine E_iload_n 0 dJ6_bitCount_0f7a4_10 rfl rfl ?_
  refine E_ldcw (858993459 : Int32) dJ6_bitCount_0f7a4_11 cs_RJ6_266 ?_
  refine E_iand dJ6_bitCount_0f7a4_14 ?_
  refine E_iload_n 0 dJ6_bitCount_0f7a4_15 rfl rfl ?_
  refine E_iconst (2 : Int32) dJ6_bitCount_0f7a4_16 rfl ?_
  refine E_iushr dJ6_bitCount_0f7a4_17 ?_
  refine E_ldcw (858993459 : Int32) dJ6_bitCount_0f7a4_18 cs_RJ6_266 ?_
  refine E_iand dJ6_bitCount_0f7a4_21 ?_
  refine E_iadd dJ6_bitCount_0f7a4_22 ?_
  refine E_istore_n 0 dJ6_bitCount_0f7a4_23 rfl (Nat.le_of_ble_eq_true rfl) (?_ : Ev d mJ6_bitCount_0f7a4 136 24 [some (.int (((x0 - ((x0.toUInt32 >>> ((1 : Int32).toUInt32 &&& Int32.toUInt32 31)).toInt32 &&& (1431655765 : Int32))) &&& (858993459 : Int32)) + (((x0 - ((x0.toUInt32 >>> ((1 : Int32).toUInt32 &&& Int32.toUInt32 31)).toInt32 &&& (1431655765 : Int32))).toUInt32 >>> ((2 : Int32).toUInt32 &&& Int32.toUInt32 31)).toInt32 &&& (858993459 : Int32))))] [] 136 I G J Φ)
  refine E_iload_n 0 dJ6_bitCount_0f7a4_24 rfl rfl ?_
  refine E_iload_n 0 dJ6_bitCount_0f7a4_25 rfl rfl ?_
  refine E_iconst (4 : Int32) dJ6_bitCount_0f7a4_26 rfl ?_
  refine E_iushr dJ6_bitCount_0f7a4_27 ?_
  refine E_iadd dJ6_bitCount_0f7a4_28 ?_
  refine E_ldcw (252645135 : Int32) dJ6_bitCount_0f7a4_29 cs_RJ6_267 ?_
  refine E_iand dJ6_bitCount_0f7a4_32 ?_
  refine E_istore_n 0 dJ6_bitCount_0f7a4_33 rfl (Nat.le_of_ble_eq_true rfl) (?_ : Ev d mJ6_bitCount_0f7a4 136 34 [some (.int (((((x0 - ((x0.toUInt32 >>> ((1 : Int32).toUInt32 &&& Int32.toUInt32 31)).toInt32 &&& (1431655765 : Int32))) &&& (858993459 : Int32)) + (((x0 - ((x0.toUInt32 >>> ((1 : Int32).toUInt32 &&& Int32.toUInt32 31)).toInt32 &&& (1431655765 : Int32))).toUInt32 >>> ((2 : Int32).toUInt32 &&& Int32.toUInt32 31)).toInt32 &&& (858993459 : Int32))) + ((((x0 - ((x0.toUInt32 >>> ((1 : Int32).toUInt32 &&& Int32.toUInt32 31)).toInt32 &&& (1431655765 : Int32))) &&& (858993459 : Int32)) + (((x0 - ((x0.toUInt32 >>> ((1 : Int32).toUInt32 &&& Int32.toUInt32 31)).toInt32 &&& (1431655765 : Int32))).toUInt32 >>> ((2 : Int32).toUInt32 &&& Int32.toUInt32 31)).toInt32 &&& (858993459 : Int32))).toUInt32 >>> ((4 : Int32).toUInt32 &&& Int32.toUInt32 31)).toInt32) &&& (252645135 : Int32)))] [] 136 I G J Φ)
  refine E_iload_n 0 dJ6_bitCount_0f7a4_34 rfl rfl ?_
  refine E_iload_n 0 dJ6_bitCount_0f7a4_35 rfl rfl ?_
  refine E_bipush (8 : Int32) dJ6_bitCount_0f7a4_36 rfl ?_
  refine E_iushr dJ6_bitCount_0f7a4_38 ?_
  refine E_iadd dJ6_bitCount_0f7a4_39 ?_
  refine E_istore_n 0 dJ6_bitCount_0f7a4_40 rfl (Nat.le_of_ble_eq_true rfl) (?_ : Ev d mJ6_bitCount_0f7a4 136 41 [some (.int ((((((x0 - ((x0.toUInt32 >>> ((1 : Int32).toUInt32 &&& Int32.toUInt32 31)).toInt32 &&& (1431655765 : Int32))) &&& (858993459 : Int32)) + (((x0 - ((x0.toUInt32 >>> ((1 : Int32).toUInt32 &&& Int32.toUInt32 31)).toInt32 &&& (1431655765 : Int32))).toUInt32 >>> ((2 : Int32).toUInt32 &&& Int32.toUInt32 31)).toInt32 &&& (858993459 : Int32))) + ((((x0 - ((x0.toUInt32 >>> ((1 : Int32).toUInt32 &&& Int32.toUInt32 31)).toInt32 &&& (1431655765 : Int32))) &&& (858993459 : Int32)) + (((x0 - ((x0.toUInt32 >>> ((1 : Int32).toUInt32 &&& Int32.toUInt32 31)).toInt32 &&& (1431655765 : Int32))).toUInt32 >>> ((2 : Int32).toUInt32 &&& Int32.toUInt32 31)).toInt32 &&& (858993459 : Int32))).toUInt32 >>> ((4 : Int32).toUInt32 &&& Int32.toUInt32 31)).toInt32) &&& (252645135 : Int32)) + ((((((x0 - ((x0.toUInt32 >>> ((1 : Int32).toUInt32 &&& Int32.toUInt32 31)).toInt32 &&& (1431655765 : Int32))) &&& (858993459 : Int32)) + (((x0 - ((x0.toUInt32 >>> ((1 : Int32).toUInt32 &&& Int32.toUInt32 31)).toInt32 &&& (1431655765 : Int32))).toUInt32 >>> ((2 : Int32).toUInt32 &&& Int32.toUInt32 31)).toInt32 &&& (858993459 : Int32))) + ((((x0 - ((x0.toUInt32 >>> ((1 : Int32).toUInt32 &&& Int32.toUInt32 31)).toInt32 &&& (1431655765 : Int32))) &&& (858993459 : Int32)) + (((x0 - ((x0.toUInt32 >>> ((1 : Int32).toUInt32 &&& Int32.toUInt32 31)).toInt32 &&& (1431655765 : Int32))).toUInt32 >>> ((2 : Int32).toUInt32 &&& Int32.toUInt32 31)).toInt32 &&& (858993459 : Int32))).toUInt32 >>> ((4 : Int32).toUInt32 &&& Int32.toUInt32 31)).toInt32) &&& (252645135 : Int32)).toUInt32 >>> ((8 : Int32).toUInt32 &&& Int32.toUInt32 31)).toInt32))] [] 136 I G J Φ)
  refine E_iload_n 0 dJ6_bitCount_0f7a4_41 rfl rfl ?_
  refine E_iload_n 0 dJ6_bitCount_0f7a4_42 rfl rfl ?_
  refine E_bipush (16 : Int32) dJ6_bitCount_0f7a4_43 rfl ?_
  refine E_iushr dJ6_bitCount_0f7a4_45 ?_
  refine E_iadd dJ6_bitCount_0f7a4_46 ?_
  refine E_istore_n 0 dJ6_bitCount_0f7a4_47 rfl (Nat.le_of_ble_eq_true rfl) (?_ : Ev d mJ6_bitCount_0f7a4 136 48 [some (.int (((((((x0 - ((x0.toUInt32 >>> ((1 : Int32).toUInt32 &&& Int32.toUInt32 31)).toInt32 &&& (1431655765 : Int32))) &&& (858993459 : Int32)) + (((x0 - ((x0.toUInt32 >>> ((1 : Int32).toUInt32 &&& Int32.toUInt32 31)).toInt32 &&& (1431655765 : Int32))).toUInt32 >>> ((2 : Int32).toUInt32 &&& Int32.toUInt32 31)).toInt32 &&& (858993459 : Int32))) + ((((x0 - ((x0.toUInt32 >>> ((1 : Int32).toUInt32 &&& Int32.toUInt32 31)).toInt32 &&& (1431655765 : Int32))) &&& (858993459 : Int32)) + (((x0 - ((x0.toUInt32 >>> ((1 : Int32).toUInt32 &&& Int32.toUInt32 31)).toInt32 &&& (1431655765 : Int32))).toUInt32 >>> ((2 : Int32).toUInt32 &&& Int32.toUInt32 31)).toInt32 &&& (858993459 : Int32))).toUInt32 >>> ((4 : Int32).toUInt32 &&& Int32.toUInt32 31)).toInt32) &&& (252645135 : Int32)) + ((((((x0 - ((x0.toUInt32 >>> ((1 : Int32).toUInt32 &&& Int32.toUInt32 31)).toInt32 &&& (1431655765 : Int32))) &&& (858993459 : Int32)) + (((x0 - ((x0.toUInt32 >>> ((1 : Int32).toUInt32 &&& Int32.toUInt32 31)).toInt32 &&& (1431655765 : Int32))).toUInt32 >>> ((2 : Int32).toUInt32 &&& Int32.toUInt32 31)).toInt32 &&& (858993459 : Int32))) + ((((x0 - ((x0.toUInt32 >>> ((1 : Int32).toUInt32 &&& Int32.toUInt32 31)).toInt32 &&& (1431655765 : Int32))) &&& (858993459 : Int32)) + (((x0 - ((x0.toUInt32 >>> ((1 : Int32).toUInt32 &&& Int32.toUInt32 31)).toInt32 &&& (1431655765 : Int32))).toUInt32 >>> ((2 : Int32).toUInt32 &&& Int32.toUInt32 31)).toInt32 &&& (858993459 : Int32))).toUInt32 >>> ((4 : Int32).toUInt32 &&& Int32.toUInt32 31)).toInt32) &&& (252645135 : Int32)).toUInt32 >>> ((8 : Int32).toUInt32 &&& Int32.toUInt32 31)).toInt32) + (((((((x0 - ((x0.toUInt32 >>> ((1 : Int32).toUInt32 &&& Int32.toUInt32 31)).toInt32 &&& (1431655765 : Int32))) &&& (858993459 : Int32)) + (((x0 - ((x0.toUInt32 >>> ((1 : Int32).toUInt32 &&& Int32.toUInt32 31)).toInt32 &&& (1431655765 : Int32))).toUInt32 >>> ((2 : Int32).toUInt32 &&& Int32.toUInt32 31)).toInt32 &&& (858993459 : Int32))) + ((((x0 - ((x0.toUInt32 >>> ((1 : Int32).toUInt32 &&& Int32.toUInt32 31)).toInt32 &&& (1431655765 : Int32))) &&& (858993459 : Int32)) + (((x0 - ((x0.toUInt32 >>> ((1 : Int32).toUInt32 &&& Int32.toUInt32 31)).toInt32 &&& (1431655765 : Int32))).toUInt32 >>> ((2 : Int32).toUInt32 &&& Int32.toUInt32 31)).toInt32 &&& (858993459 : Int32))).toUInt32 >>> ((4 : Int32).toUInt32 &&& Int32.toUInt32 31)).toInt32) &&& (252645135 : Int32)) + ((((((x0 - ((x0.toUInt32 >>> ((1 : Int32).toUInt32 &&& Int32.toUInt32 31)).toInt32 &&& (1431655765 : Int32))) &&& (858993459 : Int32)) + (((x0 - ((x0.toUInt32 >>> ((1 : Int32).toUInt32 &&& Int32.toUInt32 31)).toInt32 &&& (1431655765 : Int32))).toUInt32 >>> ((2 : Int32).toUInt32 &&& Int32.toUInt32 31)).toInt32 &&& (858993459 : Int32))) + ((((x0 - ((x0.toUInt32 >>> ((1 : Int32).toUInt32 &&& Int32.toUInt32 31)).toInt32 &&& (1431655765 : Int32))) &&& (858993459 : Int32)) + (((x0 - ((x0.toUInt32 >>> ((1 : Int32).toUInt32 &&& Int32.toUInt32 31)).toInt32 &&& (1431655765 : Int32))).toUInt32 >>> ((2 : Int32).toUInt32 &&& Int32.toUInt32 31)).toInt32 &&& (858993459 : Int32))).toUInt32 >>> ((4 : Int32).toUInt32 &&& Int32.toUInt32 31)).toInt32) &&& (252645135 : Int32)).toUInt32 >>> ((8 : Int32).toUInt32 &&& Int32.toUInt32 31)).toInt32).toUInt32 >>> ((16 : Int32).toUInt32 &&& Int32.toUInt32 31)).toInt32))] [] 136 I G J Φ)
  refine E_iload_n 0 dJ6_bitCount_0f7a4_48 rfl rfl ?_
  refine E_bipush (63 : Int32) dJ6_bitCount_0f7a4_49 rfl ?_
  refine E_iand dJ6_bitCount_0f7a4_51 ?_
  exact E_ri dJ6_bitCount_0f7a4_52 rfl ⟨rfl, rfl⟩ hy
set_option maxRecDepth 100000 in
theorem w_X0_explore {d : Nat} {I : MI} {G : MG} {J : MJ} {Φ : Ph} (hG : WG G) {a : Nat} (ha : isL a) (x2 : Int32) (x3 : Int32) (hy : (x3 ≤ (I 39 3) → ((I 39 5) ≤ x2 → Φ none 136 I G J) ∧ (¬ (I 39 5) ≤ x2 → ((I 39 6) ≤ (I 39 3) → Φ none 136 I G J) ∧ (¬ (I 39 6) ≤ (I 39 3) → ((I 39 3) < ((x3 + (I 39 5)) - x2) → Ev (d + 1) mX0_explore 136 52 [some (.ref 39), some (.ref a), some (.int x2), some (.int x3), some (.int (0 : Int32))] [] 136 I G J Φ) ∧ (¬ (I 39 3) < ((x3 + (I 39 5)) - x2) → Φ none 136 I G J)))) ∧ (¬ x3 ≤ (I 39 3) → Ev d mX0_keepRow 136 0 [some (.ref 39), some (.int x2), some (.int x3), none] [] 136 I G J (fun r n I5 G5 J5 => r = none ∧ n = 136 ∧ G = G5 ∧ J = J5 ∧ (((I5 39 5) ≤ x2 → Φ none 136 I5 G J) ∧ (¬ (I5 39 5) ≤ x2 → ((I5 39 6) ≤ (I5 39 3) → Φ none 136 I5 G J) ∧ (¬ (I5 39 6) ≤ (I5 39 3) → ((I5 39 3) < ((x3 + (I5 39 5)) - x2) → Ev (d + 1) mX0_explore 136 52 [some (.ref 39), some (.ref a), some (.int x2), some (.int x3), some (.int (0 : Int32))] [] 136 I5 G J Φ) ∧ (¬ (I5 39 3) < ((x3 + (I5 39 5)) - x2) → Φ none 136 I5 G J))))))) : Ev (d + 1) mX0_explore 136 0 [some (.ref 39), some (.ref a), some (.int x2), some (.int x3), none] [] 136 I G J Φ := by
  refine E_iload_n 3 dX0_explore_0 rfl rfl ?_
  refine E_aload_n 0 dX0_explore_1 rfl rfl ?_
  refine E_geti 0 3 39 7 dX0_explore_2 fl_RX0_68 rfl sh_39 ?_
  refine E_icmp_le 14 dX0_explore_5 rfl (fun h1 => ?_) (fun h1 => ?_)
  · replace hy := hy.1 h1
    refine E_iload_n 2 dX0_explore_14 rfl rfl ?_
    refine E_aload_n 0 dX0_explore_15 rfl rfl ?_
    refine E_geti 0 5 39 7 dX0_explore_16 fl_RX0_43 rfl sh_39 ?_
    refine E_icmp_ge 48 dX0_explore_19 rfl (fun h2 => ?_) (fun h2 => ?_)
    · replace hy := hy.1 h2
      exact E_rv dX0_explore_48 rfl ⟨rfl, rfl⟩ hy
    · replace hy := hy.2 h2
      refine E_aload_n 0 dX0_explore_22 rfl rfl ?_
      refine E_geti 0 3 39 7 dX0_explore_23 fl_RX0_68 rfl sh_39 ?_
      refine E_aload_n 0 dX0_explore_26 rfl rfl ?_
      refine E_geti 0 6 39 7 dX0_explore_27 fl_RX0_49 rfl sh_39 ?_
      refine E_icmp_ge 48 dX0_explore_30 rfl (fun h3 => ?_) (fun h3 => ?_)
      · replace hy := hy.1 h3
        exact E_rv dX0_explore_48 rfl ⟨rfl, rfl⟩ hy
      · replace hy := hy.2 h3
        refine E_iload_n 3 dX0_explore_33 rfl rfl ?_
        refine E_aload_n 0 dX0_explore_34 rfl rfl ?_
        refine E_geti 0 5 39 7 dX0_explore_35 fl_RX0_43 rfl sh_39 ?_
        refine E_iadd dX0_explore_38 ?_
        refine E_iload_n 2 dX0_explore_39 rfl rfl ?_
        refine E_isub dX0_explore_40 ?_
        refine E_aload_n 0 dX0_explore_41 rfl rfl ?_
        refine E_geti 0 3 39 7 dX0_explore_42 fl_RX0_68 rfl sh_39 ?_
        refine E_icmp_gt 49 dX0_explore_45 rfl (fun h4 => ?_) (fun h4 => ?_)
        · replace hy := hy.1 h4
          refine E_iconst (0 : Int32) dX0_explore_49 rfl ?_
          refine E_istore dX0_explore_50 (Nat.le_of_ble_eq_true rfl) (?_ : Ev (d + 1) mX0_explore 136 52 [some (.ref 39), some (.ref a), some (.int x2), some (.int x3), some (.int (0 : Int32))] [] 136 I G J Φ)
          exact hy
        · replace hy := hy.2 h4
          exact E_rv dX0_explore_48 rfl ⟨rfl, rfl⟩ hy
  · replace hy := hy.2 h1
    refine E_aload_n 0 dX0_explore_8 rfl rfl ?_
    refine E_iload_n 2 dX0_explore_9 rfl rfl ?_
    refine E_iload_n 3 dX0_explore_10 rfl rfl ?_
    refine E_cv (M := mX0_explore) (pc := 11) (As := [.int x2, .int x3]) (st := []) mX0_keepRow 2 0 7 dX0_explore_11 lk_RX0_60 ⟨_, rfl, rfl⟩ sh_39 rfl (Nat.le_of_ble_eq_true rfl) ⟨rfl, rfl⟩ (Nat.le_of_ble_eq_true rfl) rfl hy ?_
    rintro r n I5 G5 J5 ⟨rfl, rfl, rfl, rfl, hy⟩
    show Ev (d + 1) mX0_explore 136 14 [some (.ref 39), some (.ref a), some (.int x2), some (.int x3), none] [] 136 I5 G J Φ
    refine E_iload_n 2 dX0_explore_14 rfl rfl ?_
    refine E_aload_n 0 dX0_explore_15 rfl rfl ?_
    refine E_geti 0 5 39 7 dX0_explore_16 fl_RX0_43 rfl sh_39 ?_
    refine E_icmp_ge 48 dX0_explore_19 rfl (fun h6 => ?_) (fun h6 => ?_)
    · replace hy := hy.1 h6
      exact E_rv dX0_explore_48 rfl ⟨rfl, rfl⟩ hy
    · replace hy := hy.2 h6
      refine E_aload_n 0 dX0_explore_22 rfl rfl ?_
      refine E_geti 0 3 39 7 dX0_explore_23 fl_RX0_68 rfl sh_39 ?_
      refine E_aload_n 0 dX0_explore_26 rfl rfl ?_
      refine E_geti 0 6 39 7 dX0_explore_27 fl_RX0_49 rfl sh_39 ?_
      refine E_icmp_ge 48 dX0_explore_30 rfl (fun h7 => ?_) (fun h7 => ?_)
      · replace hy := hy.1 h7
        exact E_rv dX0_explore_48 rfl ⟨rfl, rfl⟩ hy
      · replace hy := hy.2 h7
        refine E_iload_n 3 dX0_explore_33 rfl rfl ?_
        refine E_aload_n 0 dX0_explore_34 rfl rfl ?_
        refine E_geti 0 5 39 7 dX0_explore_35 fl_RX0_43 rfl sh_39 ?_
        refine E_iadd dX0_explore_38 ?_
        refine E_iload_n 2 dX0_explore_39 rfl rfl ?_
        refine E_isub dX0_explore_40 ?_
        refine E_aload_n 0 dX0_explore_41 rfl rfl ?_
        refine E_geti 0 3 39 7 dX0_explore_42 fl_RX0_68 rfl sh_39 ?_
        refine E_icmp_gt 49 dX0_explore_45 rfl (fun h8 => ?_) (fun h8 => ?_)
        · replace hy := hy.1 h8
          refine E_iconst (0 : Int32) dX0_explore_49 rfl ?_
          refine E_istore dX0_explore_50 (Nat.le_of_ble_eq_true rfl) (?_ : Ev (d + 1) mX0_explore 136 52 [some (.ref 39), some (.ref a), some (.int x2), some (.int x3), some (.int (0 : Int32))] [] 136 I5 G J Φ)
          exact hy
        · replace hy := hy.2 h8
          exact E_rv dX0_explore_48 rfl ⟨rfl, rfl⟩ hy
set_option maxRecDepth 100000 in
theorem w_X0_explore_52 {d : Nat} {I : MI} {G : MG} {J : MJ} {Φ : Ph} (hG : WG G)  {a : Nat} (ha : isL a) (x2 : Int32) (x3 : Int32) (x4 : Int32) (hy : (((1 : Int32) <<< ((I a 9) &&& 31)) ≤ x4 → Φ none 136 I G J) ∧ (¬ ((1 : Int32) <<< ((I a 9) &&& 31)) ≤ x4 → (x4 = 0 → vp_in x2 6 ∧ (Ev d mX0_tire 136 0 [some (.ref 39), some (.ref a), some (.int x2), some (.int x4), none, none] [] 136 (u2 I 48 (x2).toNatClampNeg x4) G J (fun r n I4 G4 J4 => r = none ∧ n = 136 ∧ G = G4 ∧ J = J4 ∧ ((¬ x4 = 0 → Ev d mX0_explore 136 0 [some (.ref 39), some (.ref a), some (.int (x2 + (1 : Int32))), some (.int (x3 + (1 : Int32))), none] [] 136 I4 G J (fun r n I6 G6 J6 => r = none ∧ n = 136 ∧ G = G6 ∧ J = J6 ∧ (Ev (d + 1) mX0_explore 136 52 [some (.ref 39), some (.ref a), some (.int x2), some (.int x3), some (.int (x4 + (1 : Int32)))] [] 136 I6 G J Φ))) ∧ (x4 = 0 → Ev d mX0_explore 136 0 [some (.ref 39), some (.ref a), some (.int (x2 + (1 : Int32))), some (.int x3), none] [] 136 I4 G J (fun r n I7 G7 J7 => r = none ∧ n = 136 ∧ G = G7 ∧ J = J7 ∧ (Ev (d + 1) mX0_explore 136 52 [some (.ref 39), some (.ref a), some (.int x2), some (.int x3), some (.int (x4 + (1 : Int32)))] [] 136 I7 G J Φ))))))) ∧ (¬ x4 = 0 → Ev d mX0_isJustEnough 136 0 [some (.ref 39), some (.ref a), some (.int x2), some (.int x4), none, none] [] 136 I G J (fun r n I8 G8 J8 => ∃ v8 : Int32, r = some (.int v8) ∧ n = 136 ∧ I = I8 ∧ G = G8 ∧ J = J8 ∧ ((v8 = 0 → Ev (d + 1) mX0_explore 136 52 [some (.ref 39), some (.ref a), some (.int x2), some (.int x3), some (.int (x4 + (1 : Int32)))] [] 136 I G J Φ) ∧ (¬ v8 = 0 → vp_in x2 6 ∧ (Ev d mX0_tire 136 0 [some (.ref 39), some (.ref a), some (.int x2), some (.int x4), none, none] [] 136 (u2 I 48 (x2).toNatClampNeg x4) G J (fun r n I11 G11 J11 => r = none ∧ n = 136 ∧ G = G11 ∧ J = J11 ∧ ((¬ x4 = 0 → Ev d mX0_explore 136 0 [some (.ref 39), some (.ref a), some (.int (x2 + (1 : Int32))), some (.int (x3 + (1 : Int32))), none] [] 136 I11 G J (fun r n I13 G13 J13 => r = none ∧ n = 136 ∧ G = G13 ∧ J = J13 ∧ (Ev (d + 1) mX0_explore 136 52 [some (.ref 39), some (.ref a), some (.int x2), some (.int x3), some (.int (x4 + (1 : Int32)))] [] 136 I13 G J Φ))) ∧ (x4 = 0 → Ev d mX0_explore 136 0 [some (.ref 39), some (.ref a), some (.int (x2 + (1 : Int32))), some (.int x3), none] [] 136 I11 G J (fun r n I14 G14 J14 => r = none ∧ n = 136 ∧ G = G14 ∧ J = J14 ∧ (Ev (d + 1) mX0_explore 136 52 [some (.ref 39), some (.ref a), some (.int x2), some (.int x3), some (.int (x4 + (1 : Int32)))] [] 136 I14 G J Φ)))))))))))) : Ev (d + 1) mX0_explore 136 52 [some (.ref 39), some (.ref a), some (.int x2), some (.int x3), some (.int x4)] [] 136 I G J Φ := by
  refine E_iload dX0_explore_52 rfl ?_
  refine E_iconst (1 : Int32) dX0_explore_54 rfl ?_
  refine E_aload_n 1 dX0_explore_55 rfl rfl ?_
  refine E_geti 1 9 a 15 dX0_explore_56 fl_RX0_71 rfl (sL0 ha) ?_
  refine E_ishl dX0_explore_59 ?_
  refine E_icmp_ge 121 dX0_explore_60 rfl (fun h1 => ?_) (fun h1 => ?_)
  · replace hy := hy.1 h1
    exact E_rv dX0_explore_121 rfl ⟨rfl, rfl⟩ hy
  · replace hy := hy.2 h1
    refine E_iload dX0_explore_63 rfl ?_
    refine E_if_eq 79 dX0_explore_65 rfl (fun h2 => ?_) (fun h2 => ?_)
    · replace hy := hy.1 h2
      refine E_aload_n 0 dX0_explore_79 rfl rfl ?_
      refine E_getr 0 1 39 7 48 dX0_explore_80 fl_RX0_16 rfl sh_39 (wg_39_1 hG) ?_
      refine E_iload_n 2 dX0_explore_83 rfl rfl ?_
      refine E_iload dX0_explore_84 rfl ?_
      have c3 := hy.1
      replace hy := hy.2
      refine E_is 48 6 (x2).toNatClampNeg dX0_explore_86 sh_48 c3 rfl ?_
      refine E_aload_n 0 dX0_explore_87 rfl rfl ?_
      refine E_aload_n 1 dX0_explore_88 rfl rfl ?_
      refine E_iload_n 2 dX0_explore_89 rfl rfl ?_
      refine E_iload dX0_explore_90 rfl ?_
      refine E_cv (M := mX0_explore) (pc := 92) (As := [.ref a, .int x2, .int x4]) (st := []) mX0_tire 3 0 7 dX0_explore_92 lk_RX0_80 ⟨_, rfl, rfl⟩ sh_39 rfl (Nat.le_of_ble_eq_true rfl) ⟨rfl, rfl⟩ (Nat.le_of_ble_eq_true rfl) rfl hy ?_
      rintro r n I4 G4 J4 ⟨rfl, rfl, rfl, rfl, hy⟩
      show Ev (d + 1) mX0_explore 136 95 [some (.ref 39), some (.ref a), some (.int x2), some (.int x3), some (.int x4)] [] 136 I4 G J Φ
      refine E_aload_n 0 dX0_explore_95 rfl rfl ?_
      refine E_aload_n 1 dX0_explore_96 rfl rfl ?_
      refine E_iload_n 2 dX0_explore_97 rfl rfl ?_
      refine E_iconst (1 : Int32) dX0_explore_98 rfl ?_
      refine E_iadd dX0_explore_99 ?_
      refine E_iload dX0_explore_100 rfl ?_
      refine E_if_ne 109 dX0_explore_102 rfl (fun h5 => ?_) (fun h5 => ?_)
      · replace hy := hy.1 h5
        refine E_iload_n 3 dX0_explore_109 rfl rfl ?_
        refine E_iconst (1 : Int32) dX0_explore_110 rfl ?_
        refine E_iadd dX0_explore_111 ?_
        refine E_cv (M := mX0_explore) (pc := 112) (As := [.ref a, .int (x2 + (1 : Int32)), .int (x3 + (1 : Int32))]) (st := []) mX0_explore 3 0 7 dX0_explore_112 lk_RX0_64 ⟨_, rfl, rfl⟩ sh_39 rfl (Nat.le_of_ble_eq_true rfl) ⟨rfl, rfl⟩ (Nat.le_of_ble_eq_true rfl) rfl hy ?_
        rintro r n I6 G6 J6 ⟨rfl, rfl, rfl, rfl, hy⟩
        show Ev (d + 1) mX0_explore 136 115 [some (.ref 39), some (.ref a), some (.int x2), some (.int x3), some (.int x4)] [] 136 I6 G J Φ
        refine E_iinc (x4 + (1 : Int32)) dX0_explore_115 rfl rfl (Nat.le_of_ble_eq_true rfl) (?_ : Ev (d + 1) mX0_explore 136 118 [some (.ref 39), some (.ref a), some (.int x2), some (.int x3), some (.int (x4 + (1 : Int32)))] [] 136 I6 G J Φ)
        refine E_goto 52 dX0_explore_118 rfl ?_
        exact hy
      · replace hy := hy.2 (Decidable.not_not.mp h5)
        refine E_iload_n 3 dX0_explore_105 rfl rfl ?_
        refine E_goto 112 dX0_explore_106 rfl ?_
        refine E_cv (M := mX0_explore) (pc := 112) (As := [.ref a, .int (x2 + (1 : Int32)), .int x3]) (st := []) mX0_explore 3 0 7 dX0_explore_112 lk_RX0_64 ⟨_, rfl, rfl⟩ sh_39 rfl (Nat.le_of_ble_eq_true rfl) ⟨rfl, rfl⟩ (Nat.le_of_ble_eq_true rfl) rfl hy ?_
        rintro r n I7 G7 J7 ⟨rfl, rfl, rfl, rfl, hy⟩
        show Ev (d + 1) mX0_explore 136 115 [some (.ref 39), some (.ref a), some (.int x2), some (.int x3), some (.int x4)] [] 136 I7 G J Φ
        refine E_iinc (x4 + (1 : Int32)) dX0_explore_115 rfl rfl (Nat.le_of_ble_eq_true rfl) (?_ : Ev (d + 1) mX0_explore 136 118 [some (.ref 39), some (.ref a), some (.int x2), some (.int x3), some (.int (x4 + (1 : Int32)))] [] 136 I7 G J Φ)
        refine E_goto 52 dX0_explore_118 rfl ?_
        exact hy
    · replace hy := hy.2 h2
      refine E_aload_n 0 dX0_explore_68 rfl rfl ?_
      refine E_aload_n 1 dX0_explore_69 rfl rfl ?_
      refine E_iload_n 2 dX0_explore_70 rfl rfl ?_
      refine E_iload dX0_explore_71 rfl ?_
      refine E_cv (M := mX0_explore) (pc := 73) (As := [.ref a, .int x2, .int x4]) (st := []) mX0_isJustEnough 3 0 7 dX0_explore_73 lk_RX0_76 ⟨_, rfl, rfl⟩ sh_39 rfl (Nat.le_of_ble_eq_true rfl) ⟨rfl, rfl⟩ (Nat.le_of_ble_eq_true rfl) rfl hy ?_
      rintro r n I8 G8 J8 ⟨v8, rfl, rfl, rfl, rfl, rfl, hy⟩
      show Ev (d + 1) mX0_explore 136 76 [some (.ref 39), some (.ref a), some (.int x2), some (.int x3), some (.int x4)] [.int v8] 136 I G J Φ
      refine E_if_eq 115 dX0_explore_76 rfl (fun h9 => ?_) (fun h9 => ?_)
      · replace hy := hy.1 h9
        refine E_iinc (x4 + (1 : Int32)) dX0_explore_115 rfl rfl (Nat.le_of_ble_eq_true rfl) (?_ : Ev (d + 1) mX0_explore 136 118 [some (.ref 39), some (.ref a), some (.int x2), some (.int x3), some (.int (x4 + (1 : Int32)))] [] 136 I G J Φ)
        refine E_goto 52 dX0_explore_118 rfl ?_
        exact hy
      · replace hy := hy.2 h9
        refine E_aload_n 0 dX0_explore_79 rfl rfl ?_
        refine E_getr 0 1 39 7 48 dX0_explore_80 fl_RX0_16 rfl sh_39 (wg_39_1 hG) ?_
        refine E_iload_n 2 dX0_explore_83 rfl rfl ?_
        refine E_iload dX0_explore_84 rfl ?_
        have c10 := hy.1
        replace hy := hy.2
        refine E_is 48 6 (x2).toNatClampNeg dX0_explore_86 sh_48 c10 rfl ?_
        refine E_aload_n 0 dX0_explore_87 rfl rfl ?_
        refine E_aload_n 1 dX0_explore_88 rfl rfl ?_
        refine E_iload_n 2 dX0_explore_89 rfl rfl ?_
        refine E_iload dX0_explore_90 rfl ?_
        refine E_cv (M := mX0_explore) (pc := 92) (As := [.ref a, .int x2, .int x4]) (st := []) mX0_tire 3 0 7 dX0_explore_92 lk_RX0_80 ⟨_, rfl, rfl⟩ sh_39 rfl (Nat.le_of_ble_eq_true rfl) ⟨rfl, rfl⟩ (Nat.le_of_ble_eq_true rfl) rfl hy ?_
        rintro r n I11 G11 J11 ⟨rfl, rfl, rfl, rfl, hy⟩
        show Ev (d + 1) mX0_explore 136 95 [some (.ref 39), some (.ref a), some (.int x2), some (.int x3), some (.int x4)] [] 136 I11 G J Φ
        refine E_aload_n 0 dX0_explore_95 rfl rfl ?_
        refine E_aload_n 1 dX0_explore_96 rfl rfl ?_
        refine E_iload_n 2 dX0_explore_97 rfl rfl ?_
        refine E_iconst (1 : Int32) dX0_explore_98 rfl ?_
        refine E_iadd dX0_explore_99 ?_
        refine E_iload dX0_explore_100 rfl ?_
        refine E_if_ne 109 dX0_explore_102 rfl (fun h12 => ?_) (fun h12 => ?_)
        · replace hy := hy.1 h12
          refine E_iload_n 3 dX0_explore_109 rfl rfl ?_
          refine E_iconst (1 : Int32) dX0_explore_110 rfl ?_
          refine E_iadd dX0_explore_111 ?_
          refine E_cv (M := mX0_explore) (pc := 112) (As := [.ref a, .int (x2 + (1 : Int32)), .int (x3 + (1 : Int32))]) (st := []) mX0_explore 3 0 7 dX0_explore_112 lk_RX0_64 ⟨_, rfl, rfl⟩ sh_39 rfl (Nat.le_of_ble_eq_true rfl) ⟨rfl, rfl⟩ (Nat.le_of_ble_eq_true rfl) rfl hy ?_
          rintro r n I13 G13 J13 ⟨rfl, rfl, rfl, rfl, hy⟩
          show Ev (d + 1) mX0_explore 136 115 [some (.ref 39), some (.ref a), some (.int x2), some (.int x3), some (.int x4)] [] 136 I13 G J Φ
          refine E_iinc (x4 + (1 : Int32)) dX0_explore_115 rfl rfl (Nat.le_of_ble_eq_true rfl) (?_ : Ev (d + 1) mX0_explore 136 118 [some (.ref 39), some (.ref a), some (.int x2), some (.int x3), some (.int (x4 + (1 : Int32)))] [] 136 I13 G J Φ)
          refine E_goto 52 dX0_explore_118 rfl ?_
          exact hy
        · replace hy := hy.2 (Decidable.not_not.mp h12)
          refine E_iload_n 3 dX0_explore_105 rfl rfl ?_
          refine E_goto 112 dX0_explore_106 rfl ?_
          refine E_cv (M := mX0_explore) (pc := 112) (As := [.ref a, .int (x2 + (1 : Int32)), .int x3]) (st := []) mX0_explore 3 0 7 dX0_explore_112 lk_RX0_64 ⟨_, rfl, rfl⟩ sh_39 rfl (Nat.le_of_ble_eq_true rfl) ⟨rfl, rfl⟩ (Nat.le_of_ble_eq_true rfl) rfl hy ?_
          rintro r n I14 G14 J14 ⟨rfl, rfl, rfl, rfl, hy⟩
          show Ev (d + 1) mX0_explore 136 115 [some (.ref 39), some (.ref a), some (.int x2), some (.int x3), some (.int x4)] [] 136 I14 G J Φ
          refine E_iinc (x4 + (1 : Int32)) dX0_explore_115 rfl rfl (Nat.le_of_ble_eq_true rfl) (?_ : Ev (d + 1) mX0_explore 136 118 [some (.ref 39), some (.ref a), some (.int x2), some (.int x3), some (.int (x4 + (1 : Int32)))] [] 136 I14 G J Φ)
          refine E_goto 52 dX0_explore_118 rfl ?_
          exact hy
set_option maxRecDepth 100000 in
theorem w_X0_isIn {d : Nat} {I : MI} {G : MG} {J : MJ} {Φ : Ph} (hG : WG G) (x0 : Int32) (x1 : Int32) (hy : (¬ ((x0 >>> (x1 &&& 31)) &&& (1 : Int32)) = (1 : Int32) → Φ (some (.int (0 : Int32))) 136 I G J) ∧ (((x0 >>> (x1 &&& 31)) &&& (1 : Int32)) = (1 : Int32) → Φ (some (.int (1 : Int32))) 136 I G J)) : Ev d mX0_isIn 136 0 [some (.int x0), some (.int x1)] [] 136 I G J Φ := by
  refine E_iload_n 0 dX0_isIn_0 rfl rfl ?_
  refine E_iload_n 1 dX0_isIn_1 rfl rfl ?_
  refine E_ishr dX0_isIn_2 ?_
  refine E_iconst (1 : Int32) dX0_isIn_3 rfl ?_
  refine E_iand dX0_isIn_4 ?_
  refine E_iconst (1 : Int32) dX0_isIn_5 rfl ?_
  refine E_icmp_ne 13 dX0_isIn_6 rfl (fun h1 => ?_) (fun h1 => ?_)
  · replace hy := hy.1 h1
    refine E_iconst (0 : Int32) dX0_isIn_13 rfl ?_
    exact E_rz dX0_isIn_14 rfl rfl ⟨rfl, rfl⟩ hy
  · replace hy := hy.2 (Decidable.not_not.mp h1)
    refine E_iconst (1 : Int32) dX0_isIn_9 rfl ?_
    refine E_goto 14 dX0_isIn_10 rfl ?_
    exact E_rz dX0_isIn_14 rfl rfl ⟨rfl, rfl⟩ hy
set_option maxRecDepth 100000 in
theorem w_X0_isJustEnough {d : Nat} {I : MI} {G : MG} {J : MJ} {Φ : Ph} (hG : WG G) {a : Nat} (ha : isL a) (x2 : Int32) (x3 : Int32) (hy : Ev (d + 1) mX0_isJustEnough 136 6 [some (.ref 39), some (.ref a), some (.int x2), some (.int x3), some (.int (0 : Int32)), some (.int (0 : Int32))] [] 136 I G J Φ) : Ev (d + 1) mX0_isJustEnough 136 0 [some (.ref 39), some (.ref a), some (.int x2), some (.int x3), none, none] [] 136 I G J Φ := by
  refine E_iconst (0 : Int32) dX0_isJustEnough_0 rfl ?_
  refine E_istore dX0_isJustEnough_1 (Nat.le_of_ble_eq_true rfl) (?_ : Ev (d + 1) mX0_isJustEnough 136 3 [some (.ref 39), some (.ref a), some (.int x2), some (.int x3), some (.int (0 : Int32)), none] [] 136 I G J Φ)
  refine E_iconst (0 : Int32) dX0_isJustEnough_3 rfl ?_
  refine E_istore dX0_isJustEnough_4 (Nat.le_of_ble_eq_true rfl) (?_ : Ev (d + 1) mX0_isJustEnough 136 6 [some (.ref 39), some (.ref a), some (.int x2), some (.int x3), some (.int (0 : Int32)), some (.int (0 : Int32))] [] 136 I G J Φ)
  exact hy
set_option maxRecDepth 100000 in
theorem w_X0_isJustEnough_6 {d : Nat} {I : MI} {G : MG} {J : MJ} {Φ : Ph} (hG : WG G)  {a : Nat} (ha : isL a) (x2 : Int32) (x3 : Int32) (x4 : Int32) (x5 : Int32) (hy : ((I a 9) ≤ x5 → ((I 39 4) ≤ x4 → Ev (d + 1) mX0_isJustEnough 136 62 [some (.ref 39), some (.ref a), some (.int x2), some (.int x3), some (.int x4), some (.int (0 : Int32))] [] 136 I G J Φ) ∧ (¬ (I 39 4) ≤ x4 → Φ (some (.int (0 : Int32))) 136 I G J)) ∧ (¬ (I a 9) ≤ x5 → Ev d mX0_isIn 136 0 [some (.int x3), some (.int x5)] [] 136 I G J (fun r n I3 G3 J3 => ∃ v3 : Int32, r = some (.int v3) ∧ n = 136 ∧ I = I3 ∧ G = G3 ∧ J = J3 ∧ ((v3 = 0 → Ev (d + 1) mX0_isJustEnough 136 6 [some (.ref 39), some (.ref a), some (.int x2), some (.int x3), some (.int (x4 + (0 : Int32))), some (.int (x5 + (1 : Int32)))] [] 136 I G J Φ) ∧ (¬ v3 = 0 → vp_in x2 7 ∧ (vp_in x5 3 ∧ (Ev (d + 1) mX0_isJustEnough 136 6 [some (.ref 39), some (.ref a), some (.int x2), some (.int x3), some (.int (x4 + (I (41 + (x2).toNatClampNeg) (x5).toNatClampNeg))), some (.int (x5 + (1 : Int32)))] [] 136 I G J Φ))))))) : Ev (d + 1) mX0_isJustEnough 136 6 [some (.ref 39), some (.ref a), some (.int x2), some (.int x3), some (.int x4), some (.int x5)] [] 136 I G J Φ := by
  refine E_iload dX0_isJustEnough_6 rfl ?_
  refine E_aload_n 1 dX0_isJustEnough_8 rfl rfl ?_
  refine E_geti 1 9 a 15 dX0_isJustEnough_9 fl_RX0_71 rfl (sL0 ha) ?_
  refine E_icmp_ge 48 dX0_isJustEnough_12 rfl (fun h1 => ?_) (fun h1 => ?_)
  · replace hy := hy.1 h1
    refine E_iload dX0_isJustEnough_48 rfl ?_
    refine E_aload_n 0 dX0_isJustEnough_50 rfl rfl ?_
    refine E_geti 0 4 39 7 dX0_isJustEnough_51 fl_RX0_29 rfl sh_39 ?_
    refine E_icmp_ge 59 dX0_isJustEnough_54 rfl (fun h2 => ?_) (fun h2 => ?_)
    · replace hy := hy.1 h2
      refine E_iconst (0 : Int32) dX0_isJustEnough_59 rfl ?_
      refine E_istore dX0_isJustEnough_60 (Nat.le_of_ble_eq_true rfl) (?_ : Ev (d + 1) mX0_isJustEnough 136 62 [some (.ref 39), some (.ref a), some (.int x2), some (.int x3), some (.int x4), some (.int (0 : Int32))] [] 136 I G J Φ)
      exact hy
    · replace hy := hy.2 h2
      refine E_iconst (0 : Int32) dX0_isJustEnough_57 rfl ?_
      exact E_rz dX0_isJustEnough_58 rfl rfl ⟨rfl, rfl⟩ hy
  · replace hy := hy.2 h1
    refine E_iload dX0_isJustEnough_15 rfl ?_
    refine E_iload_n 3 dX0_isJustEnough_17 rfl rfl ?_
    refine E_iload dX0_isJustEnough_18 rfl ?_
    refine E_cs (M := mX0_isJustEnough) (pc := 20) (As := [.int x3, .int x5]) (st := [.int x4]) mX0_isIn 2 dX0_isJustEnough_20 lk_RX0_83 rfl (Nat.le_of_ble_eq_true rfl) ⟨rfl, rfl⟩ (Nat.le_of_ble_eq_true rfl) rfl hy ?_
    rintro r n I3 G3 J3 ⟨v3, rfl, rfl, rfl, rfl, rfl, hy⟩
    show Ev (d + 1) mX0_isJustEnough 136 23 [some (.ref 39), some (.ref a), some (.int x2), some (.int x3), some (.int x4), some (.int x5)] [.int v3, .int x4] 136 I G J Φ
    refine E_if_eq 38 dX0_isJustEnough_23 rfl (fun h4 => ?_) (fun h4 => ?_)
    · replace hy := hy.1 h4
      refine E_iconst (0 : Int32) dX0_isJustEnough_38 rfl ?_
      refine E_iadd dX0_isJustEnough_39 ?_
      refine E_istore dX0_isJustEnough_40 (Nat.le_of_ble_eq_true rfl) (?_ : Ev (d + 1) mX0_isJustEnough 136 42 [some (.ref 39), some (.ref a), some (.int x2), some (.int x3), some (.int (x4 + (0 : Int32))), some (.int x5)] [] 136 I G J Φ)
      refine E_iinc (x5 + (1 : Int32)) dX0_isJustEnough_42 rfl rfl (Nat.le_of_ble_eq_true rfl) (?_ : Ev (d + 1) mX0_isJustEnough 136 45 [some (.ref 39), some (.ref a), some (.int x2), some (.int x3), some (.int (x4 + (0 : Int32))), some (.int (x5 + (1 : Int32)))] [] 136 I G J Φ)
      refine E_goto 6 dX0_isJustEnough_45 rfl ?_
      exact hy
    · replace hy := hy.2 h4
      refine E_aload_n 0 dX0_isJustEnough_26 rfl rfl ?_
      refine E_getr 0 0 39 7 40 dX0_isJustEnough_27 fl_RX0_11 rfl sh_39 (wg_39_0 hG) ?_
      refine E_iload_n 2 dX0_isJustEnough_30 rfl rfl ?_
      have c5 := hy.1
      replace hy := hy.2
      refine E_ag 40 7 (x2).toNatClampNeg (41 + (x2).toNatClampNeg) dX0_isJustEnough_31 sh_40 c5 rfl (wg_40 hG (Nat.not_le.mp (fun q => c5 (Or.inr q)))) ?_
      refine E_iload dX0_isJustEnough_32 rfl ?_
      have c6 := hy.1
      replace hy := hy.2
      refine E_ia (41 + (x2).toNatClampNeg) 3 (x5).toNatClampNeg dX0_isJustEnough_34 (sh_4x _ (Nat.not_le.mp (fun q => c5 (Or.inr q)))) c6 rfl ?_
      refine E_goto 39 dX0_isJustEnough_35 rfl ?_
      refine E_iadd dX0_isJustEnough_39 ?_
      refine E_istore dX0_isJustEnough_40 (Nat.le_of_ble_eq_true rfl) (?_ : Ev (d + 1) mX0_isJustEnough 136 42 [some (.ref 39), some (.ref a), some (.int x2), some (.int x3), some (.int (x4 + (I (41 + (x2).toNatClampNeg) (x5).toNatClampNeg))), some (.int x5)] [] 136 I G J Φ)
      refine E_iinc (x5 + (1 : Int32)) dX0_isJustEnough_42 rfl rfl (Nat.le_of_ble_eq_true rfl) (?_ : Ev (d + 1) mX0_isJustEnough 136 45 [some (.ref 39), some (.ref a), some (.int x2), some (.int x3), some (.int (x4 + (I (41 + (x2).toNatClampNeg) (x5).toNatClampNeg))), some (.int (x5 + (1 : Int32)))] [] 136 I G J Φ)
      refine E_goto 6 dX0_isJustEnough_45 rfl ?_
      exact hy
set_option maxRecDepth 100000 in
theorem w_X0_isJustEnough_62 {d : Nat} {I : MI} {G : MG} {J : MJ} {Φ : Ph} (hG : WG G)  {a : Nat} (ha : isL a) (x2 : Int32) (x3 : Int32) (x4 : Int32) (x5 : Int32) (hy : ((I a 9) ≤ x5 → Φ (some (.int (1 : Int32))) 136 I G J) ∧ (¬ (I a 9) ≤ x5 → Ev d mX0_isIn 136 0 [some (.int x3), some (.int x5)] [] 136 I G J (fun r n I2 G2 J2 => ∃ v2 : Int32, r = some (.int v2) ∧ n = 136 ∧ I = I2 ∧ G = G2 ∧ J = J2 ∧ ((v2 = 0 → Ev (d + 1) mX0_isJustEnough 136 62 [some (.ref 39), some (.ref a), some (.int x2), some (.int x3), some (.int x4), some (.int (x5 + (1 : Int32)))] [] 136 I G J Φ) ∧ (¬ v2 = 0 → vp_in x2 7 ∧ (vp_in x5 3 ∧ (((x4 - (I (41 + (x2).toNatClampNeg) (x5).toNatClampNeg)) < (I 39 4) → Ev (d + 1) mX0_isJustEnough 136 62 [some (.ref 39), some (.ref a), some (.int x2), some (.int x3), some (.int x4), some (.int (x5 + (1 : Int32)))] [] 136 I G J Φ) ∧ (¬ (x4 - (I (41 + (x2).toNatClampNeg) (x5).toNatClampNeg)) < (I 39 4) → Φ (some (.int (0 : Int32))) 136 I G J)))))))) : Ev (d + 1) mX0_isJustEnough 136 62 [some (.ref 39), some (.ref a), some (.int x2), some (.int x3), some (.int x4), some (.int x5)] [] 136 I G J Φ := by
  refine E_iload dX0_isJustEnough_62 rfl ?_
  refine E_aload_n 1 dX0_isJustEnough_64 rfl rfl ?_
  refine E_geti 1 9 a 15 dX0_isJustEnough_65 fl_RX0_71 rfl (sL0 ha) ?_
  refine E_icmp_ge 107 dX0_isJustEnough_68 rfl (fun h1 => ?_) (fun h1 => ?_)
  · replace hy := hy.1 h1
    refine E_iconst (1 : Int32) dX0_isJustEnough_107 rfl ?_
    exact E_rz dX0_isJustEnough_108 rfl rfl ⟨rfl, rfl⟩ hy
  · replace hy := hy.2 h1
    refine E_iload_n 3 dX0_isJustEnough_71 rfl rfl ?_
    refine E_iload dX0_isJustEnough_72 rfl ?_
    refine E_cs (M := mX0_isJustEnough) (pc := 74) (As := [.int x3, .int x5]) (st := []) mX0_isIn 2 dX0_isJustEnough_74 lk_RX0_83 rfl (Nat.le_of_ble_eq_true rfl) ⟨rfl, rfl⟩ (Nat.le_of_ble_eq_true rfl) rfl hy ?_
    rintro r n I2 G2 J2 ⟨v2, rfl, rfl, rfl, rfl, rfl, hy⟩
    show Ev (d + 1) mX0_isJustEnough 136 77 [some (.ref 39), some (.ref a), some (.int x2), some (.int x3), some (.int x4), some (.int x5)] [.int v2] 136 I G J Φ
    refine E_if_eq 101 dX0_isJustEnough_77 rfl (fun h3 => ?_) (fun h3 => ?_)
    · replace hy := hy.1 h3
      refine E_iinc (x5 + (1 : Int32)) dX0_isJustEnough_101 rfl rfl (Nat.le_of_ble_eq_true rfl) (?_ : Ev (d + 1) mX0_isJustEnough 136 104 [some (.ref 39), some (.ref a), some (.int x2), some (.int x3), some (.int x4), some (.int (x5 + (1 : Int32)))] [] 136 I G J Φ)
      refine E_goto 62 dX0_isJustEnough_104 rfl ?_
      exact hy
    · replace hy := hy.2 h3
      refine E_iload dX0_isJustEnough_80 rfl ?_
      refine E_aload_n 0 dX0_isJustEnough_82 rfl rfl ?_
      refine E_getr 0 0 39 7 40 dX0_isJustEnough_83 fl_RX0_11 rfl sh_39 (wg_39_0 hG) ?_
      refine E_iload_n 2 dX0_isJustEnough_86 rfl rfl ?_
      have c4 := hy.1
      replace hy := hy.2
      refine E_ag 40 7 (x2).toNatClampNeg (41 + (x2).toNatClampNeg) dX0_isJustEnough_87 sh_40 c4 rfl (wg_40 hG (Nat.not_le.mp (fun q => c4 (Or.inr q)))) ?_
      refine E_iload dX0_isJustEnough_88 rfl ?_
      have c5 := hy.1
      replace hy := hy.2
      refine E_ia (41 + (x2).toNatClampNeg) 3 (x5).toNatClampNeg dX0_isJustEnough_90 (sh_4x _ (Nat.not_le.mp (fun q => c4 (Or.inr q)))) c5 rfl ?_
      refine E_isub dX0_isJustEnough_91 ?_
      refine E_aload_n 0 dX0_isJustEnough_92 rfl rfl ?_
      refine E_geti 0 4 39 7 dX0_isJustEnough_93 fl_RX0_29 rfl sh_39 ?_
      refine E_icmp_lt 101 dX0_isJustEnough_96 rfl (fun h6 => ?_) (fun h6 => ?_)
      · replace hy := hy.1 h6
        refine E_iinc (x5 + (1 : Int32)) dX0_isJustEnough_101 rfl rfl (Nat.le_of_ble_eq_true rfl) (?_ : Ev (d + 1) mX0_isJustEnough 136 104 [some (.ref 39), some (.ref a), some (.int x2), some (.int x3), some (.int x4), some (.int (x5 + (1 : Int32)))] [] 136 I G J Φ)
        refine E_goto 62 dX0_isJustEnough_104 rfl ?_
        exact hy
      · replace hy := hy.2 h6
        refine E_iconst (0 : Int32) dX0_isJustEnough_99 rfl ?_
        exact E_rz dX0_isJustEnough_100 rfl rfl ⟨rfl, rfl⟩ hy
set_option maxRecDepth 100000 in
theorem w_X0_keepRow {d : Nat} {I : MI} {G : MG} {J : MJ} {Φ : Ph} (hG : WG G) (x1 : Int32) (x2 : Int32) (hy : Ev d mX0_keepRow 136 7 [some (.ref 39), some (.int x1), some (.int x2), some (.int (0 : Int32))] [] 136 (u2 I 39 3 x2) G J Φ) : Ev d mX0_keepRow 136 0 [some (.ref 39), some (.int x1), some (.int x2), none] [] 136 I G J Φ := by
  refine E_aload_n 0 dX0_keepRow_0 rfl rfl ?_
  refine E_iload_n 2 dX0_keepRow_1 rfl rfl ?_
  refine E_puti 0 3 39 7 dX0_keepRow_2 fl_RX0_68 rfl sh_39 ⟨_, rfl, rfl⟩ rfl rfl ?_
  refine E_iconst (0 : Int32) dX0_keepRow_5 rfl ?_
  refine E_istore_n 3 dX0_keepRow_6 rfl (Nat.le_of_ble_eq_true rfl) (?_ : Ev d mX0_keepRow 136 7 [some (.ref 39), some (.int x1), some (.int x2), some (.int (0 : Int32))] [] 136 (u2 I 39 3 x2) G J Φ)
  exact hy
set_option maxRecDepth 100000 in
theorem w_X0_keepRow_7 {d : Nat} {I : MI} {G : MG} {J : MJ} {Φ : Ph} (hG : WG G)  (x1 : Int32) (x2 : Int32) (x3 : Int32) (hy : ((6 : Int32) ≤ x3 → Φ none 136 I G J) ∧ (¬ (6 : Int32) ≤ x3 → (x1 ≤ x3 → vp_in x3 6 ∧ (Ev d mX0_keepRow 136 7 [some (.ref 39), some (.int x1), some (.int x2), some (.int (x3 + (1 : Int32)))] [] 136 (u2 I 49 (x3).toNatClampNeg (0 : Int32)) G J Φ)) ∧ (¬ x1 ≤ x3 → vp_in x3 6 ∧ (vp_in x3 6 ∧ (Ev d mX0_keepRow 136 7 [some (.ref 39), some (.int x1), some (.int x2), some (.int (x3 + (1 : Int32)))] [] 136 (u2 I 49 (x3).toNatClampNeg (I 48 (x3).toNatClampNeg)) G J Φ))))) : Ev d mX0_keepRow 136 7 [some (.ref 39), some (.int x1), some (.int x2), some (.int x3)] [] 136 I G J Φ := by
  refine E_iload_n 3 dX0_keepRow_7 rfl rfl ?_
  refine E_bipush (6 : Int32) dX0_keepRow_8 rfl ?_
  refine E_icmp_ge 40 dX0_keepRow_10 rfl (fun h1 => ?_) (fun h1 => ?_)
  · replace hy := hy.1 h1
    exact E_rv dX0_keepRow_40 rfl ⟨rfl, rfl⟩ hy
  · replace hy := hy.2 h1
    refine E_aload_n 0 dX0_keepRow_13 rfl rfl ?_
    refine E_getr 0 2 39 7 49 dX0_keepRow_14 fl_RX0_20 rfl sh_39 (wg_39_2 hG) ?_
    refine E_iload_n 3 dX0_keepRow_17 rfl rfl ?_
    refine E_iload_n 3 dX0_keepRow_18 rfl rfl ?_
    refine E_iload_n 1 dX0_keepRow_19 rfl rfl ?_
    refine E_icmp_ge 32 dX0_keepRow_20 rfl (fun h2 => ?_) (fun h2 => ?_)
    · replace hy := hy.1 h2
      refine E_iconst (0 : Int32) dX0_keepRow_32 rfl ?_
      have c3 := hy.1
      replace hy := hy.2
      refine E_is 49 6 (x3).toNatClampNeg dX0_keepRow_33 sh_49 c3 rfl ?_
      refine E_iinc (x3 + (1 : Int32)) dX0_keepRow_34 rfl rfl (Nat.le_of_ble_eq_true rfl) (?_ : Ev d mX0_keepRow 136 37 [some (.ref 39), some (.int x1), some (.int x2), some (.int (x3 + (1 : Int32)))] [] 136 (u2 I 49 (x3).toNatClampNeg (0 : Int32)) G J Φ)
      refine E_goto 7 dX0_keepRow_37 rfl ?_
      exact hy
    · replace hy := hy.2 h2
      refine E_aload_n 0 dX0_keepRow_23 rfl rfl ?_
      refine E_getr 0 1 39 7 48 dX0_keepRow_24 fl_RX0_16 rfl sh_39 (wg_39_1 hG) ?_
      refine E_iload_n 3 dX0_keepRow_27 rfl rfl ?_
      have c4 := hy.1
      replace hy := hy.2
      refine E_ia 48 6 (x3).toNatClampNeg dX0_keepRow_28 sh_48 c4 rfl ?_
      refine E_goto 33 dX0_keepRow_29 rfl ?_
      have c5 := hy.1
      replace hy := hy.2
      refine E_is 49 6 (x3).toNatClampNeg dX0_keepRow_33 sh_49 c5 rfl ?_
      refine E_iinc (x3 + (1 : Int32)) dX0_keepRow_34 rfl rfl (Nat.le_of_ble_eq_true rfl) (?_ : Ev d mX0_keepRow 136 37 [some (.ref 39), some (.int x1), some (.int x2), some (.int (x3 + (1 : Int32)))] [] 136 (u2 I 49 (x3).toNatClampNeg (I 48 (x3).toNatClampNeg)) G J Φ)
      refine E_goto 7 dX0_keepRow_37 rfl ?_
      exact hy
set_option maxRecDepth 100000 in
theorem w_X0_search {d : Nat} {I : MI} {G : MG} {J : MJ} {Φ : Ph} (hG : WG G) {a : Nat} (ha : isL a) {o : Nat} (ho : isM o) (x3 : Int32) (hy : Ev d mX2_needOf 136 0 [some (.ref o), some (.ref a), some (.int x3)] [] 136 I G J (fun r n I1 G1 J1 => ∃ v1 : Int32, r = some (.int v1) ∧ n = 136 ∧ I = I1 ∧ G = G1 ∧ J = J1 ∧ (Ev d mX2_hoursLeft 136 0 [some (.ref o), some (.ref a)] [] 136 (u2 I 39 4 v1) G J (fun r n I2 G2 J2 => ∃ v2 : Int32, r = some (.int v2) ∧ n = 136 ∧ (u2 I 39 4 v1) = I2 ∧ G = G2 ∧ J = J2 ∧ (Ev d mX2_freeSteps 136 0 [some (.ref o), some (.ref a), some (.int x3), none, none] [] 136 (u2 (u2 I 39 4 v1) 39 5 (if (6 : Int32) < v2 then (6 : Int32) else v2)) G J (fun r n I3 G3 J3 => ∃ v3 : Int32, r = some (.int v3) ∧ n = 136 ∧ (u2 (u2 I 39 4 v1) 39 5 (if (6 : Int32) < v2 then (6 : Int32) else v2)) = I3 ∧ G = G3 ∧ J = J3 ∧ (Ev d mX0_keepRow 136 0 [some (.ref 39), some (.int (0 : Int32)), some (.int (0 : Int32)), none] [] 136 (ur (u2 (u2 (u2 I 39 4 v1) 39 5 (if (6 : Int32) < v2 then (6 : Int32) else v2)) 39 6 v3) 41 (va_cpy ((u2 (u2 (u2 I 39 4 v1) 39 5 (if (6 : Int32) < v2 then (6 : Int32) else v2)) 39 6 v3) (o + 3)) ((u2 (u2 (u2 I 39 4 v1) 39 5 (if (6 : Int32) < v2 then (6 : Int32) else v2)) 39 6 v3) 41) 0 0 3)) G J (fun r n I4 G4 J4 => r = none ∧ n = 136 ∧ G = G4 ∧ J = J4 ∧ (Ev d mX0_explore 136 0 [some (.ref 39), some (.ref a), some (.int (0 : Int32)), some (.int (0 : Int32)), none] [] 136 I4 G J (fun r n I5 G5 J5 => r = none ∧ n = 136 ∧ G = G5 ∧ J = J5 ∧ (Φ none 136 I5 G J))))))))))) : Ev (d + 1) mX0_search 136 0 [some (.ref 39), some (.ref a), some (.ref o), some (.int x3)] [] 136 I G J Φ := by
  refine E_aload_n 0 dX0_search_0 rfl rfl ?_
  refine E_aload_n 2 dX0_search_1 rfl rfl ?_
  refine E_aload_n 1 dX0_search_2 rfl rfl ?_
  refine E_iload_n 3 dX0_search_3 rfl rfl ?_
  refine E_cv (M := mX0_search) (pc := 4) (As := [.ref a, .int x3]) (st := [.ref 39]) mX2_needOf 2 2 8 dX0_search_4 lk_RX0_23 ⟨_, rfl, rfl⟩ (sM0 ho) rfl (Nat.le_of_ble_eq_true rfl) ⟨rfl, rfl⟩ (Nat.le_of_ble_eq_true rfl) rfl hy ?_
  rintro r n I1 G1 J1 ⟨v1, rfl, rfl, rfl, rfl, rfl, hy⟩
  show Ev (d + 1) mX0_search 136 7 [some (.ref 39), some (.ref a), some (.ref o), some (.int x3)] [.int v1, .ref 39] 136 I G J Φ
  refine E_puti 0 4 39 7 dX0_search_7 fl_RX0_29 rfl sh_39 ⟨_, rfl, rfl⟩ rfl rfl ?_
  refine E_aload_n 0 dX0_search_10 rfl rfl ?_
  refine E_aload_n 2 dX0_search_11 rfl rfl ?_
  refine E_aload_n 1 dX0_search_12 rfl rfl ?_
  refine E_cv (M := mX0_search) (pc := 13) (As := [.ref a]) (st := [.ref 39]) mX2_hoursLeft 1 2 8 dX0_search_13 lk_RX0_33 ⟨_, rfl, rfl⟩ (sM0 ho) rfl (Nat.le_of_ble_eq_true rfl) ⟨rfl, rfl⟩ (Nat.le_of_ble_eq_true rfl) rfl hy ?_
  rintro r n I2 G2 J2 ⟨v2, rfl, rfl, rfl, rfl, rfl, hy⟩
  show Ev (d + 1) mX0_search 136 16 [some (.ref 39), some (.ref a), some (.ref o), some (.int x3)] [.int v2, .ref 39] 136 (u2 I 39 4 v1) G J Φ
  refine E_bipush (6 : Int32) dX0_search_16 rfl ?_
  refine E_min dX0_search_18 lk_RX0_37 (Nat.le_of_ble_eq_true rfl) ?_
  refine E_puti 0 5 39 7 dX0_search_21 fl_RX0_43 rfl sh_39 ⟨_, rfl, rfl⟩ rfl rfl ?_
  refine E_aload_n 0 dX0_search_24 rfl rfl ?_
  refine E_aload_n 2 dX0_search_25 rfl rfl ?_
  refine E_aload_n 1 dX0_search_26 rfl rfl ?_
  refine E_iload_n 3 dX0_search_27 rfl rfl ?_
  refine E_cv (M := mX0_search) (pc := 28) (As := [.ref a, .int x3]) (st := [.ref 39]) mX2_freeSteps 2 2 8 dX0_search_28 lk_RX0_46 ⟨_, rfl, rfl⟩ (sM0 ho) rfl (Nat.le_of_ble_eq_true rfl) ⟨rfl, rfl⟩ (Nat.le_of_ble_eq_true rfl) rfl hy ?_
  rintro r n I3 G3 J3 ⟨v3, rfl, rfl, rfl, rfl, rfl, hy⟩
  show Ev (d + 1) mX0_search 136 31 [some (.ref 39), some (.ref a), some (.ref o), some (.int x3)] [.int v3, .ref 39] 136 (u2 (u2 I 39 4 v1) 39 5 (if (6 : Int32) < v2 then (6 : Int32) else v2)) G J Φ
  refine E_puti 0 6 39 7 dX0_search_31 fl_RX0_49 rfl sh_39 ⟨_, rfl, rfl⟩ rfl rfl ?_
  refine E_aload_n 2 dX0_search_34 rfl rfl ?_
  refine E_getr 2 4 o 8 (o + 3) dX0_search_35 fl_RX0_52 rfl (sM0 ho) (gM4 hG ho) ?_
  refine E_iconst (0 : Int32) dX0_search_38 rfl ?_
  refine E_aload_n 0 dX0_search_39 rfl rfl ?_
  refine E_getr 0 0 39 7 40 dX0_search_40 fl_RX0_11 rfl sh_39 (wg_39_0 hG) ?_
  refine E_iconst (0 : Int32) dX0_search_43 rfl ?_
  refine E_ag 40 7 0 41 dX0_search_44 sh_40 (vpd (by decide)) rfl (wg_40_0 hG) ?_
  refine E_iconst (0 : Int32) dX0_search_45 rfl ?_
  refine E_iconst (3 : Int32) dX0_search_46 rfl ?_
  refine E_copy (o + 3) 3 41 3 dX0_search_47 lk_RX0_54 (sM3 ho) sh_41 (by decide) (by decide) (by decide) (Nat.le_of_ble_eq_true rfl) (Nat.le_of_ble_eq_true rfl) (Nat.le_of_ble_eq_true rfl) (by omega) (?_ : Ev (d + 1) mX0_search 136 50 [some (.ref 39), some (.ref a), some (.ref o), some (.int x3)] [] 136 (ur (u2 (u2 (u2 I 39 4 v1) 39 5 (if (6 : Int32) < v2 then (6 : Int32) else v2)) 39 6 v3) 41 (va_cpy ((u2 (u2 (u2 I 39 4 v1) 39 5 (if (6 : Int32) < v2 then (6 : Int32) else v2)) 39 6 v3) (o + 3)) ((u2 (u2 (u2 I 39 4 v1) 39 5 (if (6 : Int32) < v2 then (6 : Int32) else v2)) 39 6 v3) 41) 0 0 3)) G J Φ)
  refine E_aload_n 0 dX0_search_50 rfl rfl ?_
  refine E_iconst (0 : Int32) dX0_search_51 rfl ?_
  refine E_iconst (0 : Int32) dX0_search_52 rfl ?_
  refine E_cv (M := mX0_search) (pc := 53) (As := [.int (0 : Int32), .int (0 : Int32)]) (st := []) mX0_keepRow 2 0 7 dX0_search_53 lk_RX0_60 ⟨_, rfl, rfl⟩ sh_39 rfl (Nat.le_of_ble_eq_true rfl) ⟨rfl, rfl⟩ (Nat.le_of_ble_eq_true rfl) rfl hy ?_
  rintro r n I4 G4 J4 ⟨rfl, rfl, rfl, rfl, hy⟩
  show Ev (d + 1) mX0_search 136 56 [some (.ref 39), some (.ref a), some (.ref o), some (.int x3)] [] 136 I4 G J Φ
  refine E_aload_n 0 dX0_search_56 rfl rfl ?_
  refine E_aload_n 1 dX0_search_57 rfl rfl ?_
  refine E_iconst (0 : Int32) dX0_search_58 rfl ?_
  refine E_iconst (0 : Int32) dX0_search_59 rfl ?_
  refine E_cv (M := mX0_search) (pc := 60) (As := [.ref a, .int (0 : Int32), .int (0 : Int32)]) (st := []) mX0_explore 3 0 7 dX0_search_60 lk_RX0_64 ⟨_, rfl, rfl⟩ sh_39 rfl (Nat.le_of_ble_eq_true rfl) ⟨rfl, rfl⟩ (Nat.le_of_ble_eq_true rfl) rfl hy ?_
  rintro r n I5 G5 J5 ⟨rfl, rfl, rfl, rfl, hy⟩
  show Ev (d + 1) mX0_search 136 63 [some (.ref 39), some (.ref a), some (.ref o), some (.int x3)] [] 136 I5 G J Φ
  exact E_rv dX0_search_63 rfl ⟨rfl, rfl⟩ hy
set_option maxRecDepth 100000 in
theorem w_X0_tire {d : Nat} {I : MI} {G : MG} {J : MJ} {Φ : Ph} (hG : WG G) {a : Nat} (ha : isL a) (x2 : Int32) (x3 : Int32) (hy : Ev (d + 1) mX0_tire 136 3 [some (.ref 39), some (.ref a), some (.int x2), some (.int x3), some (.int (0 : Int32)), none] [] 136 I G J Φ) : Ev (d + 1) mX0_tire 136 0 [some (.ref 39), some (.ref a), some (.int x2), some (.int x3), none, none] [] 136 I G J Φ := by
  refine E_iconst (0 : Int32) dX0_tire_0 rfl ?_
  refine E_istore dX0_tire_1 (Nat.le_of_ble_eq_true rfl) (?_ : Ev (d + 1) mX0_tire 136 3 [some (.ref 39), some (.ref a), some (.int x2), some (.int x3), some (.int (0 : Int32)), none] [] 136 I G J Φ)
  exact hy
set_option maxRecDepth 100000 in
theorem w_X0_tire_3 {d : Nat} {I : MI} {G : MG} {J : MJ} {Φ : Ph} (hG : WG G)  {a : Nat} (ha : isL a) (x2 : Int32) (x3 : Int32) (x4 : Int32) (hy : ((I a 9) ≤ x4 → Φ none 136 I G J) ∧ (¬ (I a 9) ≤ x4 → vp_in x2 7 ∧ (vp_in x4 3 ∧ (vp_in (x2 + (1 : Int32)) 7 ∧ (Ev d mX0_isIn 136 0 [some (.int x3), some (.int x4)] [] 136 I G J (fun r n I5 G5 J5 => ∃ v5 : Int32, r = some (.int v5) ∧ n = 136 ∧ I = I5 ∧ G = G5 ∧ J = J5 ∧ ((v5 = 0 → vp_in x4 3 ∧ (vp_in x4 3 ∧ (Ev (d + 1) mX0_tire 136 3 [some (.ref 39), some (.ref a), some (.int x2), some (.int x3), some (.int (x4 + (1 : Int32))), none] [] 136 (u2 I (41 + (x2 + (1 : Int32)).toNatClampNeg) (x4).toNatClampNeg (if ((I (41 + (x2).toNatClampNeg) (x4).toNatClampNeg) + (1 : Int32)) < (I (a + 8) (x4).toNatClampNeg) then ((I (41 + (x2).toNatClampNeg) (x4).toNatClampNeg) + (1 : Int32)) else (I (a + 8) (x4).toNatClampNeg))) G J Φ))) ∧ (¬ v5 = 0 → vp_in x4 3 ∧ (Ev (d + 1) mX0_tire 136 3 [some (.ref 39), some (.ref a), some (.int x2), some (.int x3), some (.int (x4 + (1 : Int32))), none] [] 136 (u2 I (41 + (x2 + (1 : Int32)).toNatClampNeg) (x4).toNatClampNeg (if (0 : Int32) < ((I (41 + (x2).toNatClampNeg) (x4).toNatClampNeg) - (1 : Int32)) then ((I (41 + (x2).toNatClampNeg) (x4).toNatClampNeg) - (1 : Int32)) else (0 : Int32))) G J Φ))))))))) : Ev (d + 1) mX0_tire 136 3 [some (.ref 39), some (.ref a), some (.int x2), some (.int x3), some (.int x4), none] [] 136 I G J Φ := by
  refine E_iload dX0_tire_3 rfl ?_
  refine E_aload_n 1 dX0_tire_5 rfl rfl ?_
  refine E_geti 1 9 a 15 dX0_tire_6 fl_RX0_71 rfl (sL0 ha) ?_
  refine E_icmp_ge 74 dX0_tire_9 rfl (fun h1 => ?_) (fun h1 => ?_)
  · replace hy := hy.1 h1
    exact E_rv dX0_tire_74 rfl ⟨rfl, rfl⟩ hy
  · replace hy := hy.2 h1
    refine E_aload_n 0 dX0_tire_12 rfl rfl ?_
    refine E_getr 0 0 39 7 40 dX0_tire_13 fl_RX0_11 rfl sh_39 (wg_39_0 hG) ?_
    refine E_iload_n 2 dX0_tire_16 rfl rfl ?_
    have c2 := hy.1
    replace hy := hy.2
    refine E_ag 40 7 (x2).toNatClampNeg (41 + (x2).toNatClampNeg) dX0_tire_17 sh_40 c2 rfl (wg_40 hG (Nat.not_le.mp (fun q => c2 (Or.inr q)))) ?_
    refine E_iload dX0_tire_18 rfl ?_
    have c3 := hy.1
    replace hy := hy.2
    refine E_ia (41 + (x2).toNatClampNeg) 3 (x4).toNatClampNeg dX0_tire_20 (sh_4x _ (Nat.not_le.mp (fun q => c2 (Or.inr q)))) c3 rfl ?_
    refine E_istore dX0_tire_21 (Nat.le_of_ble_eq_true rfl) (?_ : Ev (d + 1) mX0_tire 136 23 [some (.ref 39), some (.ref a), some (.int x2), some (.int x3), some (.int x4), some (.int (I (41 + (x2).toNatClampNeg) (x4).toNatClampNeg))] [] 136 I G J Φ)
    refine E_aload_n 0 dX0_tire_23 rfl rfl ?_
    refine E_getr 0 0 39 7 40 dX0_tire_24 fl_RX0_11 rfl sh_39 (wg_39_0 hG) ?_
    refine E_iload_n 2 dX0_tire_27 rfl rfl ?_
    refine E_iconst (1 : Int32) dX0_tire_28 rfl ?_
    refine E_iadd dX0_tire_29 ?_
    have c4 := hy.1
    replace hy := hy.2
    refine E_ag 40 7 (x2 + (1 : Int32)).toNatClampNeg (41 + (x2 + (1 : Int32)).toNatClampNeg) dX0_tire_30 sh_40 c4 rfl (wg_40 hG (Nat.not_le.mp (fun q => c4 (Or.inr q)))) ?_
    refine E_iload dX0_tire_31 rfl ?_
    refine E_iload_n 3 dX0_tire_33 rfl rfl ?_
    refine E_iload dX0_tire_34 rfl ?_
    refine E_cs (M := mX0_tire) (pc := 36) (As := [.int x3, .int x4]) (st := [.int x4, .ref (41 + (x2 + (1 : Int32)).toNatClampNeg)]) mX0_isIn 2 dX0_tire_36 lk_RX0_83 rfl (Nat.le_of_ble_eq_true rfl) ⟨rfl, rfl⟩ (Nat.le_of_ble_eq_true rfl) rfl hy ?_
    rintro r n I5 G5 J5 ⟨v5, rfl, rfl, rfl, rfl, rfl, hy⟩
    show Ev (d + 1) mX0_tire 136 39 [some (.ref 39), some (.ref a), some (.int x2), some (.int x3), some (.int x4), some (.int (I (41 + (x2).toNatClampNeg) (x4).toNatClampNeg))] [.int v5, .int x4, .ref (41 + (x2 + (1 : Int32)).toNatClampNeg)] 136 I G J Φ
    refine E_if_eq 53 dX0_tire_39 rfl (fun h6 => ?_) (fun h6 => ?_)
    · replace hy := hy.1 h6
      refine E_aload_n 1 dX0_tire_53 rfl rfl ?_
      refine E_getr 1 10 a 15 (a + 8) dX0_tire_54 fl_RX0_90 rfl (sL0 ha) (gL10 hG ha) ?_
      refine E_iload dX0_tire_57 rfl ?_
      have c7 := hy.1
      replace hy := hy.2
      refine E_ia (a + 8) 3 (x4).toNatClampNeg dX0_tire_59 (sL8 ha) c7 rfl ?_
      refine E_iload dX0_tire_60 rfl ?_
      refine E_iconst (1 : Int32) dX0_tire_62 rfl ?_
      refine E_iadd dX0_tire_63 ?_
      refine E_min dX0_tire_64 lk_RX0_37 (Nat.le_of_ble_eq_true rfl) ?_
      have c8 := hy.1
      replace hy := hy.2
      refine E_is (41 + (x2 + (1 : Int32)).toNatClampNeg) 3 (x4).toNatClampNeg dX0_tire_67 (sh_4x _ (Nat.not_le.mp (fun q => c4 (Or.inr q)))) c8 rfl ?_
      refine E_iinc (x4 + (1 : Int32)) dX0_tire_68 rfl rfl (Nat.le_of_ble_eq_true rfl) (?_ : Ev (d + 1) mX0_tire 136 71 [some (.ref 39), some (.ref a), some (.int x2), some (.int x3), some (.int (x4 + (1 : Int32))), some (.int (I (41 + (x2).toNatClampNeg) (x4).toNatClampNeg))] [] 136 (u2 I (41 + (x2 + (1 : Int32)).toNatClampNeg) (x4).toNatClampNeg (if ((I (41 + (x2).toNatClampNeg) (x4).toNatClampNeg) + (1 : Int32)) < (I (a + 8) (x4).toNatClampNeg) then ((I (41 + (x2).toNatClampNeg) (x4).toNatClampNeg) + (1 : Int32)) else (I (a + 8) (x4).toNatClampNeg))) G J Φ)
      refine E_goto 3 dX0_tire_71 rfl ?_
      refine E_wk (ls2 := [some (.ref 39), some (.ref a), some (.int x2), some (.int x3), some (.int (x4 + (1 : Int32))), none]) ⟨rfl, rfl, rfl, rfl, rfl, trivial⟩ ?_
      exact hy
    · replace hy := hy.2 h6
      refine E_iconst (0 : Int32) dX0_tire_42 rfl ?_
      refine E_iload dX0_tire_43 rfl ?_
      refine E_iconst (1 : Int32) dX0_tire_45 rfl ?_
      refine E_isub dX0_tire_46 ?_
      refine E_max dX0_tire_47 lk_RX0_87 (Nat.le_of_ble_eq_true rfl) ?_
      refine E_goto 67 dX0_tire_50 rfl ?_
      have c9 := hy.1
      replace hy := hy.2
      refine E_is (41 + (x2 + (1 : Int32)).toNatClampNeg) 3 (x4).toNatClampNeg dX0_tire_67 (sh_4x _ (Nat.not_le.mp (fun q => c4 (Or.inr q)))) c9 rfl ?_
      refine E_iinc (x4 + (1 : Int32)) dX0_tire_68 rfl rfl (Nat.le_of_ble_eq_true rfl) (?_ : Ev (d + 1) mX0_tire 136 71 [some (.ref 39), some (.ref a), some (.int x2), some (.int x3), some (.int (x4 + (1 : Int32))), some (.int (I (41 + (x2).toNatClampNeg) (x4).toNatClampNeg))] [] 136 (u2 I (41 + (x2 + (1 : Int32)).toNatClampNeg) (x4).toNatClampNeg (if (0 : Int32) < ((I (41 + (x2).toNatClampNeg) (x4).toNatClampNeg) - (1 : Int32)) then ((I (41 + (x2).toNatClampNeg) (x4).toNatClampNeg) - (1 : Int32)) else (0 : Int32))) G J Φ)
      refine E_goto 3 dX0_tire_71 rfl ?_
      refine E_wk (ls2 := [some (.ref 39), some (.ref a), some (.int x2), some (.int x3), some (.int (x4 + (1 : Int32))), none]) ⟨rfl, rfl, rfl, rfl, rfl, trivial⟩ ?_
      exact hy
set_option maxRecDepth 100000 in
theorem w_X1_addHill {d : Nat} {I : MI} {G : MG} {J : MJ} {Φ : Ph} (hG : WG G) {a : Nat} (ha : isL a) (hy : ((4 : Int32) ≤ (I a 0) → Φ none 136 I G J) ∧ (¬ (4 : Int32) ≤ (I a 0) → vp_in (I a 0) 4 ∧ (vp_in (I a 0) 4 ∧ (vp_in (I a 0) 4 ∧ (vp_in (I a 0) 4 ∧ (Φ none 136 (u2 (u2 (u2 (u2 (u2 I (a + 1) (I a 0).toNatClampNeg (I 3 0)) (a + 2) (I a 0).toNatClampNeg ((u2 I (a + 1) (I a 0).toNatClampNeg (I 3 0)) 3 1)) (a + 3) (I a 0).toNatClampNeg ((u2 (u2 I (a + 1) (I a 0).toNatClampNeg (I 3 0)) (a + 2) (I a 0).toNatClampNeg ((u2 I (a + 1) (I a 0).toNatClampNeg (I 3 0)) 3 1)) 3 2)) (a + 4) (I a 0).toNatClampNeg ((u2 (u2 (u2 I (a + 1) (I a 0).toNatClampNeg (I 3 0)) (a + 2) (I a 0).toNatClampNeg ((u2 I (a + 1) (I a 0).toNatClampNeg (I 3 0)) 3 1)) (a + 3) (I a 0).toNatClampNeg ((u2 (u2 I (a + 1) (I a 0).toNatClampNeg (I 3 0)) (a + 2) (I a 0).toNatClampNeg ((u2 I (a + 1) (I a 0).toNatClampNeg (I 3 0)) 3 1)) 3 2)) 3 3)) a 0 ((I a 0) + (1 : Int32))) G J)))))) : Ev d mX1_addHill 136 0 [some (.ref a), some (.ref 3)] [] 136 I G J Φ := by
  refine E_aload_n 0 dX1_addHill_0 rfl rfl ?_
  refine E_geti 1 0 a 15 dX1_addHill_1 fl_RX1_40 rfl (sL0 ha) ?_
  refine E_iconst (4 : Int32) dX1_addHill_4 rfl ?_
  refine E_icmp_ge 66 dX1_addHill_5 rfl (fun h1 => ?_) (fun h1 => ?_)
  · replace hy := hy.1 h1
    exact E_rv dX1_addHill_66 rfl ⟨rfl, rfl⟩ hy
  · replace hy := hy.2 h1
    refine E_aload_n 0 dX1_addHill_8 rfl rfl ?_
    refine E_getr 1 1 a 15 (a + 1) dX1_addHill_9 fl_RX1_9 rfl (sL0 ha) (gL1 hG ha) ?_
    refine E_aload_n 0 dX1_addHill_12 rfl rfl ?_
    refine E_geti 1 0 a 15 dX1_addHill_13 fl_RX1_40 rfl (sL0 ha) ?_
    refine E_aload_n 1 dX1_addHill_16 rfl rfl ?_
    refine E_iconst (0 : Int32) dX1_addHill_17 rfl ?_
    refine E_ia 3 4 0 dX1_addHill_18 sh_3 (vpd (by decide)) rfl ?_
    have c2 := hy.1
    replace hy := hy.2
    refine E_is (a + 1) 4 (I a 0).toNatClampNeg dX1_addHill_19 (sL1 ha) c2 rfl ?_
    refine E_aload_n 0 dX1_addHill_20 rfl rfl ?_
    refine E_getr 1 2 a 15 (a + 2) dX1_addHill_21 fl_RX1_15 rfl (sL0 ha) (gL2 hG ha) ?_
    refine E_aload_n 0 dX1_addHill_24 rfl rfl ?_
    refine E_getw 1 0 a 15 (I a 0) dX1_addHill_25 fl_RX1_40 rfl (sL0 ha) (by simp [u2]) ?_
    refine E_aload_n 1 dX1_addHill_28 rfl rfl ?_
    refine E_iconst (1 : Int32) dX1_addHill_29 rfl ?_
    refine E_ia 3 4 1 dX1_addHill_30 sh_3 (vpd (by decide)) rfl ?_
    have c3 := hy.1
    replace hy := hy.2
    refine E_is (a + 2) 4 (I a 0).toNatClampNeg dX1_addHill_31 (sL2 ha) c3 rfl ?_
    refine E_aload_n 0 dX1_addHill_32 rfl rfl ?_
    refine E_getr 1 3 a 15 (a + 3) dX1_addHill_33 fl_RX1_18 rfl (sL0 ha) (gL3 hG ha) ?_
    refine E_aload_n 0 dX1_addHill_36 rfl rfl ?_
    refine E_getw 1 0 a 15 (I a 0) dX1_addHill_37 fl_RX1_40 rfl (sL0 ha) (by simp [u2]) ?_
    refine E_aload_n 1 dX1_addHill_40 rfl rfl ?_
    refine E_iconst (2 : Int32) dX1_addHill_41 rfl ?_
    refine E_ia 3 4 2 dX1_addHill_42 sh_3 (vpd (by decide)) rfl ?_
    have c4 := hy.1
    replace hy := hy.2
    refine E_is (a + 3) 4 (I a 0).toNatClampNeg dX1_addHill_43 (sL3 ha) c4 rfl ?_
    refine E_aload_n 0 dX1_addHill_44 rfl rfl ?_
    refine E_getr 1 4 a 15 (a + 4) dX1_addHill_45 fl_RX1_21 rfl (sL0 ha) (gL4 hG ha) ?_
    refine E_aload_n 0 dX1_addHill_48 rfl rfl ?_
    refine E_getw 1 0 a 15 (I a 0) dX1_addHill_49 fl_RX1_40 rfl (sL0 ha) (by simp [u2]) ?_
    refine E_aload_n 1 dX1_addHill_52 rfl rfl ?_
    refine E_iconst (3 : Int32) dX1_addHill_53 rfl ?_
    refine E_ia 3 4 3 dX1_addHill_54 sh_3 (vpd (by decide)) rfl ?_
    have c5 := hy.1
    replace hy := hy.2
    refine E_is (a + 4) 4 (I a 0).toNatClampNeg dX1_addHill_55 (sL4 ha) c5 rfl ?_
    refine E_aload_n 0 dX1_addHill_56 rfl rfl ?_
    refine E_dup dX1_addHill_57 rfl ?_
    refine E_getw 1 0 a 15 (I a 0) dX1_addHill_58 fl_RX1_40 rfl (sL0 ha) (by simp [u2]) ?_
    refine E_iconst (1 : Int32) dX1_addHill_61 rfl ?_
    refine E_iadd dX1_addHill_62 ?_
    refine E_puti 1 0 a 15 dX1_addHill_63 fl_RX1_40 rfl (sL0 ha) ⟨_, rfl, rfl⟩ rfl rfl ?_
    exact E_rv dX1_addHill_66 rfl ⟨rfl, rfl⟩ hy
set_option maxRecDepth 100000 in
theorem w_X1_addJoin {d : Nat} {I : MI} {G : MG} {J : MJ} {Φ : Ph} (hG : WG G) {a : Nat} (ha : isL a) (hy : ((4 : Int32) ≤ (I a 5) → Φ none 136 I G J) ∧ (¬ (4 : Int32) ≤ (I a 5) → vp_in (I a 5) 4 ∧ (vp_in (I a 5) 4 ∧ (vp_in (I a 5) 4 ∧ (Φ none 136 (u2 (u2 (u2 (u2 I (a + 5) (I a 5).toNatClampNeg (I 3 0)) (a + 6) (I a 5).toNatClampNeg ((u2 I (a + 5) (I a 5).toNatClampNeg (I 3 0)) 3 1)) (a + 7) (I a 5).toNatClampNeg ((u2 (u2 I (a + 5) (I a 5).toNatClampNeg (I 3 0)) (a + 6) (I a 5).toNatClampNeg ((u2 I (a + 5) (I a 5).toNatClampNeg (I 3 0)) 3 1)) 3 2)) a 5 ((I a 5) + (1 : Int32))) G J))))) : Ev d mX1_addJoin 136 0 [some (.ref a), some (.ref 3)] [] 136 I G J Φ := by
  refine E_aload_n 0 dX1_addJoin_0 rfl rfl ?_
  refine E_geti 1 5 a 15 dX1_addJoin_1 fl_RX1_43 rfl (sL0 ha) ?_
  refine E_iconst (4 : Int32) dX1_addJoin_4 rfl ?_
  refine E_icmp_ge 54 dX1_addJoin_5 rfl (fun h1 => ?_) (fun h1 => ?_)
  · replace hy := hy.1 h1
    exact E_rv dX1_addJoin_54 rfl ⟨rfl, rfl⟩ hy
  · replace hy := hy.2 h1
    refine E_aload_n 0 dX1_addJoin_8 rfl rfl ?_
    refine E_getr 1 6 a 15 (a + 5) dX1_addJoin_9 fl_RX1_24 rfl (sL0 ha) (gL6 hG ha) ?_
    refine E_aload_n 0 dX1_addJoin_12 rfl rfl ?_
    refine E_geti 1 5 a 15 dX1_addJoin_13 fl_RX1_43 rfl (sL0 ha) ?_
    refine E_aload_n 1 dX1_addJoin_16 rfl rfl ?_
    refine E_iconst (0 : Int32) dX1_addJoin_17 rfl ?_
    refine E_ia 3 4 0 dX1_addJoin_18 sh_3 (vpd (by decide)) rfl ?_
    have c2 := hy.1
    replace hy := hy.2
    refine E_is (a + 5) 4 (I a 5).toNatClampNeg dX1_addJoin_19 (sL5 ha) c2 rfl ?_
    refine E_aload_n 0 dX1_addJoin_20 rfl rfl ?_
    refine E_getr 1 7 a 15 (a + 6) dX1_addJoin_21 fl_RX1_27 rfl (sL0 ha) (gL7 hG ha) ?_
    refine E_aload_n 0 dX1_addJoin_24 rfl rfl ?_
    refine E_getw 1 5 a 15 (I a 5) dX1_addJoin_25 fl_RX1_43 rfl (sL0 ha) (by simp [u2]) ?_
    refine E_aload_n 1 dX1_addJoin_28 rfl rfl ?_
    refine E_iconst (1 : Int32) dX1_addJoin_29 rfl ?_
    refine E_ia 3 4 1 dX1_addJoin_30 sh_3 (vpd (by decide)) rfl ?_
    have c3 := hy.1
    replace hy := hy.2
    refine E_is (a + 6) 4 (I a 5).toNatClampNeg dX1_addJoin_31 (sL6 ha) c3 rfl ?_
    refine E_aload_n 0 dX1_addJoin_32 rfl rfl ?_
    refine E_getr 1 8 a 15 (a + 7) dX1_addJoin_33 fl_RX1_30 rfl (sL0 ha) (gL8 hG ha) ?_
    refine E_aload_n 0 dX1_addJoin_36 rfl rfl ?_
    refine E_getw 1 5 a 15 (I a 5) dX1_addJoin_37 fl_RX1_43 rfl (sL0 ha) (by simp [u2]) ?_
    refine E_aload_n 1 dX1_addJoin_40 rfl rfl ?_
    refine E_iconst (2 : Int32) dX1_addJoin_41 rfl ?_
    refine E_ia 3 4 2 dX1_addJoin_42 sh_3 (vpd (by decide)) rfl ?_
    have c4 := hy.1
    replace hy := hy.2
    refine E_is (a + 7) 4 (I a 5).toNatClampNeg dX1_addJoin_43 (sL7 ha) c4 rfl ?_
    refine E_aload_n 0 dX1_addJoin_44 rfl rfl ?_
    refine E_dup dX1_addJoin_45 rfl ?_
    refine E_getw 1 5 a 15 (I a 5) dX1_addJoin_46 fl_RX1_43 rfl (sL0 ha) (by simp [u2]) ?_
    refine E_iconst (1 : Int32) dX1_addJoin_49 rfl ?_
    refine E_iadd dX1_addJoin_50 ?_
    refine E_puti 1 5 a 15 dX1_addJoin_51 fl_RX1_43 rfl (sL0 ha) ⟨_, rfl, rfl⟩ rfl rfl ?_
    exact E_rv dX1_addJoin_54 rfl ⟨rfl, rfl⟩ hy
set_option maxRecDepth 100000 in
theorem w_X1_addMan {d : Nat} {I : MI} {G : MG} {J : MJ} {Φ : Ph} (hG : WG G) {a : Nat} (ha : isL a) (x1 : Int32) (hy : ((3 : Int32) ≤ (I a 9) → Φ none 136 I G J) ∧ (¬ (3 : Int32) ≤ (I a 9) → vp_in (I a 9) 3 ∧ (Φ none 136 (u2 (u2 I (a + 8) (I a 9).toNatClampNeg x1) a 9 ((I a 9) + (1 : Int32))) G J))) : Ev d mX1_addMan 136 0 [some (.ref a), some (.int x1)] [] 136 I G J Φ := by
  refine E_aload_n 0 dX1_addMan_0 rfl rfl ?_
  refine E_geti 1 9 a 15 dX1_addMan_1 fl_RX1_46 rfl (sL0 ha) ?_
  refine E_iconst (3 : Int32) dX1_addMan_4 rfl ?_
  refine E_icmp_ge 28 dX1_addMan_5 rfl (fun h1 => ?_) (fun h1 => ?_)
  · replace hy := hy.1 h1
    exact E_rv dX1_addMan_28 rfl ⟨rfl, rfl⟩ hy
  · replace hy := hy.2 h1
    refine E_aload_n 0 dX1_addMan_8 rfl rfl ?_
    refine E_getr 1 10 a 15 (a + 8) dX1_addMan_9 fl_RX1_33 rfl (sL0 ha) (gL10 hG ha) ?_
    refine E_aload_n 0 dX1_addMan_12 rfl rfl ?_
    refine E_geti 1 9 a 15 dX1_addMan_13 fl_RX1_46 rfl (sL0 ha) ?_
    refine E_iload_n 1 dX1_addMan_16 rfl rfl ?_
    have c2 := hy.1
    replace hy := hy.2
    refine E_is (a + 8) 3 (I a 9).toNatClampNeg dX1_addMan_17 (sL8 ha) c2 rfl ?_
    refine E_aload_n 0 dX1_addMan_18 rfl rfl ?_
    refine E_dup dX1_addMan_19 rfl ?_
    refine E_getw 1 9 a 15 (I a 9) dX1_addMan_20 fl_RX1_46 rfl (sL0 ha) (by simp [u2]) ?_
    refine E_iconst (1 : Int32) dX1_addMan_23 rfl ?_
    refine E_iadd dX1_addMan_24 ?_
    refine E_puti 1 9 a 15 dX1_addMan_25 fl_RX1_46 rfl (sL0 ha) ⟨_, rfl, rfl⟩ rfl rfl ?_
    exact E_rv dX1_addMan_28 rfl ⟨rfl, rfl⟩ hy
set_option maxRecDepth 100000 in
theorem w_X1_empty {d : Nat} {I : MI} {G : MG} {J : MJ} {Φ : Ph} (hG : WG G) {a : Nat} (ha : isL a) (hy : Φ none 136 (u2 (u2 (u2 (u2 (u2 (u2 (u2 I a 0 (0 : Int32)) a 5 (0 : Int32)) a 9 (0 : Int32)) a 11 (4 : Int32)) a 12 (0 : Int32)) a 13 (0 : Int32)) a 14 (0 : Int32)) G J) : Ev d mX1_empty 136 0 [some (.ref a)] [] 136 I G J Φ := by
  refine E_aload_n 0 dX1_empty_0 rfl rfl ?_
  refine E_iconst (0 : Int32) dX1_empty_1 rfl ?_
  refine E_puti 1 0 a 15 dX1_empty_2 fl_RX1_40 rfl (sL0 ha) ⟨_, rfl, rfl⟩ rfl rfl ?_
  refine E_aload_n 0 dX1_empty_5 rfl rfl ?_
  refine E_iconst (0 : Int32) dX1_empty_6 rfl ?_
  refine E_puti 1 5 a 15 dX1_empty_7 fl_RX1_43 rfl (sL0 ha) ⟨_, rfl, rfl⟩ rfl rfl ?_
  refine E_aload_n 0 dX1_empty_10 rfl rfl ?_
  refine E_iconst (0 : Int32) dX1_empty_11 rfl ?_
  refine E_puti 1 9 a 15 dX1_empty_12 fl_RX1_46 rfl (sL0 ha) ⟨_, rfl, rfl⟩ rfl rfl ?_
  refine E_aload_n 0 dX1_empty_15 rfl rfl ?_
  refine E_iconst (4 : Int32) dX1_empty_16 rfl ?_
  refine E_puti 1 11 a 15 dX1_empty_17 fl_RX1_36 rfl (sL0 ha) ⟨_, rfl, rfl⟩ rfl rfl ?_
  refine E_aload_n 0 dX1_empty_20 rfl rfl ?_
  refine E_iconst (0 : Int32) dX1_empty_21 rfl ?_
  refine E_puti 1 12 a 15 dX1_empty_22 fl_RX1_49 rfl (sL0 ha) ⟨_, rfl, rfl⟩ rfl rfl ?_
  refine E_aload_n 0 dX1_empty_25 rfl rfl ?_
  refine E_iconst (0 : Int32) dX1_empty_26 rfl ?_
  refine E_puti 1 13 a 15 dX1_empty_27 fl_RX1_52 rfl (sL0 ha) ⟨_, rfl, rfl⟩ rfl rfl ?_
  refine E_aload_n 0 dX1_empty_30 rfl rfl ?_
  refine E_iconst (0 : Int32) dX1_empty_31 rfl ?_
  refine E_puti 1 14 a 15 dX1_empty_32 fl_RX1_56 rfl (sL0 ha) ⟨_, rfl, rfl⟩ rfl rfl ?_
  exact E_rv dX1_empty_35 rfl ⟨rfl, rfl⟩ hy
set_option maxRecDepth 100000 in
theorem w_X1_forceOf {d : Nat} {I : MI} {G : MG} {J : MJ} {Φ : Ph} (hG : WG G) {a : Nat} (ha : isL a) (x1 : Int32) (hy : Ev d mX1_forceOf 136 4 [some (.ref a), some (.int x1), some (.int (0 : Int32)), some (.int (0 : Int32))] [] 136 I G J Φ) : Ev d mX1_forceOf 136 0 [some (.ref a), some (.int x1), none, none] [] 136 I G J Φ := by
  refine E_iconst (0 : Int32) dX1_forceOf_0 rfl ?_
  refine E_istore_n 2 dX1_forceOf_1 rfl (Nat.le_of_ble_eq_true rfl) (?_ : Ev d mX1_forceOf 136 2 [some (.ref a), some (.int x1), some (.int (0 : Int32)), none] [] 136 I G J Φ)
  refine E_iconst (0 : Int32) dX1_forceOf_2 rfl ?_
  refine E_istore_n 3 dX1_forceOf_3 rfl (Nat.le_of_ble_eq_true rfl) (?_ : Ev d mX1_forceOf 136 4 [some (.ref a), some (.int x1), some (.int (0 : Int32)), some (.int (0 : Int32))] [] 136 I G J Φ)
  exact hy
set_option maxRecDepth 100000 in
theorem w_X1_forceOf_4 {d : Nat} {I : MI} {G : MG} {J : MJ} {Φ : Ph} (hG : WG G)  {a : Nat} (ha : isL a) (x1 : Int32) (x2 : Int32) (x3 : Int32) (hy : ((I a 9) ≤ x3 → Φ (some (.int x2)) 136 I G J) ∧ (¬ (I a 9) ≤ x3 → (¬ ((x1 >>> (x3 &&& 31)) &&& (1 : Int32)) = (1 : Int32) → Ev d mX1_forceOf 136 4 [some (.ref a), some (.int x1), some (.int x2), some (.int (x3 + (1 : Int32)))] [] 136 I G J Φ) ∧ (((x1 >>> (x3 &&& 31)) &&& (1 : Int32)) = (1 : Int32) → vp_in x3 3 ∧ (Ev d mX1_forceOf 136 4 [some (.ref a), some (.int x1), some (.int (x2 + (I (a + 8) (x3).toNatClampNeg))), some (.int (x3 + (1 : Int32)))] [] 136 I G J Φ)))) : Ev d mX1_forceOf 136 4 [some (.ref a), some (.int x1), some (.int x2), some (.int x3)] [] 136 I G J Φ := by
  refine E_iload_n 3 dX1_forceOf_4 rfl rfl ?_
  refine E_aload_n 0 dX1_forceOf_5 rfl rfl ?_
  refine E_geti 1 9 a 15 dX1_forceOf_6 fl_RX1_46 rfl (sL0 ha) ?_
  refine E_icmp_ge 36 dX1_forceOf_9 rfl (fun h1 => ?_) (fun h1 => ?_)
  · replace hy := hy.1 h1
    refine E_iload_n 2 dX1_forceOf_36 rfl rfl ?_
    exact E_ri dX1_forceOf_37 rfl ⟨rfl, rfl⟩ hy
  · replace hy := hy.2 h1
    refine E_iload_n 1 dX1_forceOf_12 rfl rfl ?_
    refine E_iload_n 3 dX1_forceOf_13 rfl rfl ?_
    refine E_ishr dX1_forceOf_14 ?_
    refine E_iconst (1 : Int32) dX1_forceOf_15 rfl ?_
    refine E_iand dX1_forceOf_16 ?_
    refine E_iconst (1 : Int32) dX1_forceOf_17 rfl ?_
    refine E_icmp_ne 30 dX1_forceOf_18 rfl (fun h2 => ?_) (fun h2 => ?_)
    · replace hy := hy.1 h2
      refine E_iinc (x3 + (1 : Int32)) dX1_forceOf_30 rfl rfl (Nat.le_of_ble_eq_true rfl) (?_ : Ev d mX1_forceOf 136 33 [some (.ref a), some (.int x1), some (.int x2), some (.int (x3 + (1 : Int32)))] [] 136 I G J Φ)
      refine E_goto 4 dX1_forceOf_33 rfl ?_
      exact hy
    · replace hy := hy.2 (Decidable.not_not.mp h2)
      refine E_iload_n 2 dX1_forceOf_21 rfl rfl ?_
      refine E_aload_n 0 dX1_forceOf_22 rfl rfl ?_
      refine E_getr 1 10 a 15 (a + 8) dX1_forceOf_23 fl_RX1_33 rfl (sL0 ha) (gL10 hG ha) ?_
      refine E_iload_n 3 dX1_forceOf_26 rfl rfl ?_
      have c3 := hy.1
      replace hy := hy.2
      refine E_ia (a + 8) 3 (x3).toNatClampNeg dX1_forceOf_27 (sL8 ha) c3 rfl ?_
      refine E_iadd dX1_forceOf_28 ?_
      refine E_istore_n 2 dX1_forceOf_29 rfl (Nat.le_of_ble_eq_true rfl) (?_ : Ev d mX1_forceOf 136 30 [some (.ref a), some (.int x1), some (.int (x2 + (I (a + 8) (x3).toNatClampNeg))), some (.int x3)] [] 136 I G J Φ)
      refine E_iinc (x3 + (1 : Int32)) dX1_forceOf_30 rfl rfl (Nat.le_of_ble_eq_true rfl) (?_ : Ev d mX1_forceOf 136 33 [some (.ref a), some (.int x1), some (.int (x2 + (I (a + 8) (x3).toNatClampNeg))), some (.int (x3 + (1 : Int32)))] [] 136 I G J Φ)
      refine E_goto 4 dX1_forceOf_33 rfl ?_
      exact hy
set_option maxRecDepth 100000 in
theorem w_X1_hasHill {d : Nat} {I : MI} {G : MG} {J : MJ} {Φ : Ph} (hG : WG G) {a : Nat} (ha : isL a) (x1 : Int32) (hy : (x1 < 0 → Φ (some (.int (0 : Int32))) 136 I G J) ∧ (¬ x1 < 0 → ((I a 0) ≤ x1 → Φ (some (.int (0 : Int32))) 136 I G J) ∧ (¬ (I a 0) ≤ x1 → Φ (some (.int (1 : Int32))) 136 I G J))) : Ev d mX1_hasHill 136 0 [some (.ref a), some (.int x1)] [] 136 I G J Φ := by
  refine E_iload_n 1 dX1_hasHill_0 rfl rfl ?_
  refine E_if_lt 16 dX1_hasHill_1 rfl (fun h1 => ?_) (fun h1 => ?_)
  · replace hy := hy.1 h1
    refine E_iconst (0 : Int32) dX1_hasHill_16 rfl ?_
    exact E_rz dX1_hasHill_17 rfl rfl ⟨rfl, rfl⟩ hy
  · replace hy := hy.2 h1
    refine E_iload_n 1 dX1_hasHill_4 rfl rfl ?_
    refine E_aload_n 0 dX1_hasHill_5 rfl rfl ?_
    refine E_geti 1 0 a 15 dX1_hasHill_6 fl_RX1_40 rfl (sL0 ha) ?_
    refine E_icmp_ge 16 dX1_hasHill_9 rfl (fun h2 => ?_) (fun h2 => ?_)
    · replace hy := hy.1 h2
      refine E_iconst (0 : Int32) dX1_hasHill_16 rfl ?_
      exact E_rz dX1_hasHill_17 rfl rfl ⟨rfl, rfl⟩ hy
    · replace hy := hy.2 h2
      refine E_iconst (1 : Int32) dX1_hasHill_12 rfl ?_
      refine E_goto 17 dX1_hasHill_13 rfl ?_
      exact E_rz dX1_hasHill_17 rfl rfl ⟨rfl, rfl⟩ hy
set_option maxRecDepth 100000 in
theorem w_X1_hasLedge {d : Nat} {I : MI} {G : MG} {J : MJ} {Φ : Ph} (hG : WG G) {a : Nat} (ha : isL a) (x1 : Int32) (x2 : Int32) (hy : vp_in x1 4 ∧ ((¬ (((I (a + 3) (x1).toNatClampNeg) >>> (x2 &&& 31)) &&& (1 : Int32)) = (1 : Int32) → Φ (some (.int (0 : Int32))) 136 I G J) ∧ ((((I (a + 3) (x1).toNatClampNeg) >>> (x2 &&& 31)) &&& (1 : Int32)) = (1 : Int32) → Φ (some (.int (1 : Int32))) 136 I G J))) : Ev d mX1_hasLedge 136 0 [some (.ref a), some (.int x1), some (.int x2)] [] 136 I G J Φ := by
  refine E_aload_n 0 dX1_hasLedge_0 rfl rfl ?_
  refine E_getr 1 3 a 15 (a + 3) dX1_hasLedge_1 fl_RX1_18 rfl (sL0 ha) (gL3 hG ha) ?_
  refine E_iload_n 1 dX1_hasLedge_4 rfl rfl ?_
  have c1 := hy.1
  replace hy := hy.2
  refine E_ia (a + 3) 4 (x1).toNatClampNeg dX1_hasLedge_5 (sL3 ha) c1 rfl ?_
  refine E_iload_n 2 dX1_hasLedge_6 rfl rfl ?_
  refine E_ishr dX1_hasLedge_7 ?_
  refine E_iconst (1 : Int32) dX1_hasLedge_8 rfl ?_
  refine E_iand dX1_hasLedge_9 ?_
  refine E_iconst (1 : Int32) dX1_hasLedge_10 rfl ?_
  refine E_icmp_ne 18 dX1_hasLedge_11 rfl (fun h2 => ?_) (fun h2 => ?_)
  · replace hy := hy.1 h2
    refine E_iconst (0 : Int32) dX1_hasLedge_18 rfl ?_
    exact E_rz dX1_hasLedge_19 rfl rfl ⟨rfl, rfl⟩ hy
  · replace hy := hy.2 (Decidable.not_not.mp h2)
    refine E_iconst (1 : Int32) dX1_hasLedge_14 rfl ?_
    refine E_goto 19 dX1_hasLedge_15 rfl ?_
    exact E_rz dX1_hasLedge_19 rfl rfl ⟨rfl, rfl⟩ hy
set_option maxRecDepth 100000 in
theorem w_X1_hasMan {d : Nat} {I : MI} {G : MG} {J : MJ} {Φ : Ph} (hG : WG G) {a : Nat} (ha : isL a) (x1 : Int32) (hy : (x1 < 0 → Φ (some (.int (0 : Int32))) 136 I G J) ∧ (¬ x1 < 0 → ((I a 9) ≤ x1 → Φ (some (.int (0 : Int32))) 136 I G J) ∧ (¬ (I a 9) ≤ x1 → Φ (some (.int (1 : Int32))) 136 I G J))) : Ev d mX1_hasMan 136 0 [some (.ref a), some (.int x1)] [] 136 I G J Φ := by
  refine E_iload_n 1 dX1_hasMan_0 rfl rfl ?_
  refine E_if_lt 16 dX1_hasMan_1 rfl (fun h1 => ?_) (fun h1 => ?_)
  · replace hy := hy.1 h1
    refine E_iconst (0 : Int32) dX1_hasMan_16 rfl ?_
    exact E_rz dX1_hasMan_17 rfl rfl ⟨rfl, rfl⟩ hy
  · replace hy := hy.2 h1
    refine E_iload_n 1 dX1_hasMan_4 rfl rfl ?_
    refine E_aload_n 0 dX1_hasMan_5 rfl rfl ?_
    refine E_geti 1 9 a 15 dX1_hasMan_6 fl_RX1_46 rfl (sL0 ha) ?_
    refine E_icmp_ge 16 dX1_hasMan_9 rfl (fun h2 => ?_) (fun h2 => ?_)
    · replace hy := hy.1 h2
      refine E_iconst (0 : Int32) dX1_hasMan_16 rfl ?_
      exact E_rz dX1_hasMan_17 rfl rfl ⟨rfl, rfl⟩ hy
    · replace hy := hy.2 h2
      refine E_iconst (1 : Int32) dX1_hasMan_12 rfl ?_
      refine E_goto 17 dX1_hasMan_13 rfl ?_
      exact E_rz dX1_hasMan_17 rfl rfl ⟨rfl, rfl⟩ hy
set_option maxRecDepth 100000 in
theorem w_X1_isOnePlace {d : Nat} {I : MI} {G : MG} {J : MJ} {Φ : Ph} (hG : WG G) {a : Nat} (ha : isL a) (x1 : Int32) (x2 : Int32) (x3 : Int32) (hy : Ev d mX1_isOnePlace 136 3 [some (.ref a), some (.int x1), some (.int x2), some (.int x3), some (.int (0 : Int32)), none] [] 136 I G J Φ) : Ev d mX1_isOnePlace 136 0 [some (.ref a), some (.int x1), some (.int x2), some (.int x3), none, none] [] 136 I G J Φ := by
  refine E_iconst (0 : Int32) dX1_isOnePlace_0 rfl ?_
  refine E_istore dX1_isOnePlace_1 (Nat.le_of_ble_eq_true rfl) (?_ : Ev d mX1_isOnePlace 136 3 [some (.ref a), some (.int x1), some (.int x2), some (.int x3), some (.int (0 : Int32)), none] [] 136 I G J Φ)
  exact hy
set_option maxRecDepth 100000 in
theorem w_X1_isOnePlace_3 {d : Nat} {I : MI} {G : MG} {J : MJ} {Φ : Ph} (hG : WG G)  {a : Nat} (ha : isL a) (x1 : Int32) (x2 : Int32) (x3 : Int32) (x4 : Int32) (hy : ((I a 5) ≤ x4 → Φ (some (.int (0 : Int32))) 136 I G J) ∧ (¬ (I a 5) ≤ x4 → vp_in x4 4 ∧ ((¬ (I (a + 5) (x4).toNatClampNeg) = x1 → vp_in x4 4 ∧ ((¬ (I (a + 5) (x4).toNatClampNeg) = x2 → Ev d mX1_isOnePlace 136 3 [some (.ref a), some (.int x1), some (.int x2), some (.int x3), some (.int (x4 + (1 : Int32))), none] [] 136 I G J Φ) ∧ ((I (a + 5) (x4).toNatClampNeg) = x2 → vp_in x4 4 ∧ ((¬ (I (a + 6) (x4).toNatClampNeg) = x1 → Ev d mX1_isOnePlace 136 3 [some (.ref a), some (.int x1), some (.int x2), some (.int x3), some (.int (x4 + (1 : Int32))), none] [] 136 I G J Φ) ∧ ((I (a + 6) (x4).toNatClampNeg) = x1 → vp_in x4 4 ∧ ((x3 < (I (a + 7) (x4).toNatClampNeg) → Ev d mX1_isOnePlace 136 3 [some (.ref a), some (.int x1), some (.int x2), some (.int x3), some (.int (x4 + (1 : Int32))), none] [] 136 I G J Φ) ∧ (¬ x3 < (I (a + 7) (x4).toNatClampNeg) → Φ (some (.int (1 : Int32))) 136 I G J))))))) ∧ ((I (a + 5) (x4).toNatClampNeg) = x1 → vp_in x4 4 ∧ (((I (a + 6) (x4).toNatClampNeg) = x2 → vp_in x4 4 ∧ ((x3 < (I (a + 7) (x4).toNatClampNeg) → Ev d mX1_isOnePlace 136 3 [some (.ref a), some (.int x1), some (.int x2), some (.int x3), some (.int (x4 + (1 : Int32))), none] [] 136 I G J Φ) ∧ (¬ x3 < (I (a + 7) (x4).toNatClampNeg) → Φ (some (.int (1 : Int32))) 136 I G J))) ∧ (¬ (I (a + 6) (x4).toNatClampNeg) = x2 → vp_in x4 4 ∧ ((¬ (I (a + 5) (x4).toNatClampNeg) = x2 → Ev d mX1_isOnePlace 136 3 [some (.ref a), some (.int x1), some (.int x2), some (.int x3), some (.int (x4 + (1 : Int32))), none] [] 136 I G J Φ) ∧ ((I (a + 5) (x4).toNatClampNeg) = x2 → vp_in x4 4 ∧ ((¬ (I (a + 6) (x4).toNatClampNeg) = x1 → Ev d mX1_isOnePlace 136 3 [some (.ref a), some (.int x1), some (.int x2), some (.int x3), some (.int (x4 + (1 : Int32))), none] [] 136 I G J Φ) ∧ ((I (a + 6) (x4).toNatClampNeg) = x1 → vp_in x4 4 ∧ ((x3 < (I (a + 7) (x4).toNatClampNeg) → Ev d mX1_isOnePlace 136 3 [some (.ref a), some (.int x1), some (.int x2), some (.int x3), some (.int (x4 + (1 : Int32))), none] [] 136 I G J Φ) ∧ (¬ x3 < (I (a + 7) (x4).toNatClampNeg) → Φ (some (.int (1 : Int32))) 136 I G J)))))))))))) : Ev d mX1_isOnePlace 136 3 [some (.ref a), some (.int x1), some (.int x2), some (.int x3), some (.int x4), none] [] 136 I G J Φ := by
  refine E_iload dX1_isOnePlace_3 rfl ?_
  refine E_aload_n 0 dX1_isOnePlace_5 rfl rfl ?_
  refine E_geti 1 5 a 15 dX1_isOnePlace_6 fl_RX1_43 rfl (sL0 ha) ?_
  refine E_icmp_ge 87 dX1_isOnePlace_9 rfl (fun h1 => ?_) (fun h1 => ?_)
  · replace hy := hy.1 h1
    refine E_iconst (0 : Int32) dX1_isOnePlace_87 rfl ?_
    exact E_rz dX1_isOnePlace_88 rfl rfl ⟨rfl, rfl⟩ hy
  · replace hy := hy.2 h1
    refine E_aload_n 0 dX1_isOnePlace_12 rfl rfl ?_
    refine E_getr 1 6 a 15 (a + 5) dX1_isOnePlace_13 fl_RX1_24 rfl (sL0 ha) (gL6 hG ha) ?_
    refine E_iload dX1_isOnePlace_16 rfl ?_
    have c2 := hy.1
    replace hy := hy.2
    refine E_ia (a + 5) 4 (x4).toNatClampNeg dX1_isOnePlace_18 (sL5 ha) c2 rfl ?_
    refine E_iload_n 1 dX1_isOnePlace_19 rfl rfl ?_
    refine E_icmp_ne 34 dX1_isOnePlace_20 rfl (fun h3 => ?_) (fun h3 => ?_)
    · replace hy := hy.1 h3
      refine E_aload_n 0 dX1_isOnePlace_34 rfl rfl ?_
      refine E_getr 1 6 a 15 (a + 5) dX1_isOnePlace_35 fl_RX1_24 rfl (sL0 ha) (gL6 hG ha) ?_
      refine E_iload dX1_isOnePlace_38 rfl ?_
      have c4 := hy.1
      replace hy := hy.2
      refine E_ia (a + 5) 4 (x4).toNatClampNeg dX1_isOnePlace_40 (sL5 ha) c4 rfl ?_
      refine E_iload_n 2 dX1_isOnePlace_41 rfl rfl ?_
      refine E_icmp_ne 60 dX1_isOnePlace_42 rfl (fun h5 => ?_) (fun h5 => ?_)
      · replace hy := hy.1 h5
        refine E_iconst (0 : Int32) dX1_isOnePlace_60 rfl ?_
        refine E_istore dX1_isOnePlace_61 (Nat.le_of_ble_eq_true rfl) (?_ : Ev d mX1_isOnePlace 136 63 [some (.ref a), some (.int x1), some (.int x2), some (.int x3), some (.int x4), some (.int (0 : Int32))] [] 136 I G J Φ)
        refine E_iload dX1_isOnePlace_63 rfl ?_
        refine E_if_eq 81 dX1_isOnePlace_65 rfl (fun h6 => ?_) (fun h6 => ?_)
        rotate_left
        · exact absurd (by decide) h6
        refine E_iinc (x4 + (1 : Int32)) dX1_isOnePlace_81 rfl rfl (Nat.le_of_ble_eq_true rfl) (?_ : Ev d mX1_isOnePlace 136 84 [some (.ref a), some (.int x1), some (.int x2), some (.int x3), some (.int (x4 + (1 : Int32))), some (.int (0 : Int32))] [] 136 I G J Φ)
        refine E_goto 3 dX1_isOnePlace_84 rfl ?_
        refine E_wk (ls2 := [some (.ref a), some (.int x1), some (.int x2), some (.int x3), some (.int (x4 + (1 : Int32))), none]) ⟨rfl, rfl, rfl, rfl, rfl, trivial⟩ ?_
        exact hy
      · replace hy := hy.2 (Decidable.not_not.mp h5)
        refine E_aload_n 0 dX1_isOnePlace_45 rfl rfl ?_
        refine E_getr 1 7 a 15 (a + 6) dX1_isOnePlace_46 fl_RX1_27 rfl (sL0 ha) (gL7 hG ha) ?_
        refine E_iload dX1_isOnePlace_49 rfl ?_
        have c7 := hy.1
        replace hy := hy.2
        refine E_ia (a + 6) 4 (x4).toNatClampNeg dX1_isOnePlace_51 (sL6 ha) c7 rfl ?_
        refine E_iload_n 1 dX1_isOnePlace_52 rfl rfl ?_
        refine E_icmp_ne 60 dX1_isOnePlace_53 rfl (fun h8 => ?_) (fun h8 => ?_)
        · replace hy := hy.1 h8
          refine E_iconst (0 : Int32) dX1_isOnePlace_60 rfl ?_
          refine E_istore dX1_isOnePlace_61 (Nat.le_of_ble_eq_true rfl) (?_ : Ev d mX1_isOnePlace 136 63 [some (.ref a), some (.int x1), some (.int x2), some (.int x3), some (.int x4), some (.int (0 : Int32))] [] 136 I G J Φ)
          refine E_iload dX1_isOnePlace_63 rfl ?_
          refine E_if_eq 81 dX1_isOnePlace_65 rfl (fun h9 => ?_) (fun h9 => ?_)
          rotate_left
          · exact absurd (by decide) h9
          refine E_iinc (x4 + (1 : Int32)) dX1_isOnePlace_81 rfl rfl (Nat.le_of_ble_eq_true rfl) (?_ : Ev d mX1_isOnePlace 136 84 [some (.ref a), some (.int x1), some (.int x2), some (.int x3), some (.int (x4 + (1 : Int32))), some (.int (0 : Int32))] [] 136 I G J Φ)
          refine E_goto 3 dX1_isOnePlace_84 rfl ?_
          refine E_wk (ls2 := [some (.ref a), some (.int x1), some (.int x2), some (.int x3), some (.int (x4 + (1 : Int32))), none]) ⟨rfl, rfl, rfl, rfl, rfl, trivial⟩ ?_
          exact hy
        · replace hy := hy.2 (Decidable.not_not.mp h8)
          refine E_iconst (1 : Int32) dX1_isOnePlace_56 rfl ?_
          refine E_goto 61 dX1_isOnePlace_57 rfl ?_
          refine E_istore dX1_isOnePlace_61 (Nat.le_of_ble_eq_true rfl) (?_ : Ev d mX1_isOnePlace 136 63 [some (.ref a), some (.int x1), some (.int x2), some (.int x3), some (.int x4), some (.int (1 : Int32))] [] 136 I G J Φ)
          refine E_iload dX1_isOnePlace_63 rfl ?_
          refine E_if_eq 81 dX1_isOnePlace_65 rfl (fun h10 => ?_) (fun h10 => ?_)
          · exact absurd h10 (by decide)
          refine E_aload_n 0 dX1_isOnePlace_68 rfl rfl ?_
          refine E_getr 1 8 a 15 (a + 7) dX1_isOnePlace_69 fl_RX1_30 rfl (sL0 ha) (gL8 hG ha) ?_
          refine E_iload dX1_isOnePlace_72 rfl ?_
          have c11 := hy.1
          replace hy := hy.2
          refine E_ia (a + 7) 4 (x4).toNatClampNeg dX1_isOnePlace_74 (sL7 ha) c11 rfl ?_
          refine E_iload_n 3 dX1_isOnePlace_75 rfl rfl ?_
          refine E_icmp_gt 81 dX1_isOnePlace_76 rfl (fun h12 => ?_) (fun h12 => ?_)
          · replace hy := hy.1 h12
            refine E_iinc (x4 + (1 : Int32)) dX1_isOnePlace_81 rfl rfl (Nat.le_of_ble_eq_true rfl) (?_ : Ev d mX1_isOnePlace 136 84 [some (.ref a), some (.int x1), some (.int x2), some (.int x3), some (.int (x4 + (1 : Int32))), some (.int (1 : Int32))] [] 136 I G J Φ)
            refine E_goto 3 dX1_isOnePlace_84 rfl ?_
            refine E_wk (ls2 := [some (.ref a), some (.int x1), some (.int x2), some (.int x3), some (.int (x4 + (1 : Int32))), none]) ⟨rfl, rfl, rfl, rfl, rfl, trivial⟩ ?_
            exact hy
          · replace hy := hy.2 h12
            refine E_iconst (1 : Int32) dX1_isOnePlace_79 rfl ?_
            exact E_rz dX1_isOnePlace_80 rfl rfl ⟨rfl, rfl⟩ hy
    · replace hy := hy.2 (Decidable.not_not.mp h3)
      refine E_aload_n 0 dX1_isOnePlace_23 rfl rfl ?_
      refine E_getr 1 7 a 15 (a + 6) dX1_isOnePlace_24 fl_RX1_27 rfl (sL0 ha) (gL7 hG ha) ?_
      refine E_iload dX1_isOnePlace_27 rfl ?_
      have c13 := hy.1
      replace hy := hy.2
      refine E_ia (a + 6) 4 (x4).toNatClampNeg dX1_isOnePlace_29 (sL6 ha) c13 rfl ?_
      refine E_iload_n 2 dX1_isOnePlace_30 rfl rfl ?_
      refine E_icmp_eq 56 dX1_isOnePlace_31 rfl (fun h14 => ?_) (fun h14 => ?_)
      · replace hy := hy.1 h14
        refine E_iconst (1 : Int32) dX1_isOnePlace_56 rfl ?_
        refine E_goto 61 dX1_isOnePlace_57 rfl ?_
        refine E_istore dX1_isOnePlace_61 (Nat.le_of_ble_eq_true rfl) (?_ : Ev d mX1_isOnePlace 136 63 [some (.ref a), some (.int x1), some (.int x2), some (.int x3), some (.int x4), some (.int (1 : Int32))] [] 136 I G J Φ)
        refine E_iload dX1_isOnePlace_63 rfl ?_
        refine E_if_eq 81 dX1_isOnePlace_65 rfl (fun h15 => ?_) (fun h15 => ?_)
        · exact absurd h15 (by decide)
        refine E_aload_n 0 dX1_isOnePlace_68 rfl rfl ?_
        refine E_getr 1 8 a 15 (a + 7) dX1_isOnePlace_69 fl_RX1_30 rfl (sL0 ha) (gL8 hG ha) ?_
        refine E_iload dX1_isOnePlace_72 rfl ?_
        have c16 := hy.1
        replace hy := hy.2
        refine E_ia (a + 7) 4 (x4).toNatClampNeg dX1_isOnePlace_74 (sL7 ha) c16 rfl ?_
        refine E_iload_n 3 dX1_isOnePlace_75 rfl rfl ?_
        refine E_icmp_gt 81 dX1_isOnePlace_76 rfl (fun h17 => ?_) (fun h17 => ?_)
        · replace hy := hy.1 h17
          refine E_iinc (x4 + (1 : Int32)) dX1_isOnePlace_81 rfl rfl (Nat.le_of_ble_eq_true rfl) (?_ : Ev d mX1_isOnePlace 136 84 [some (.ref a), some (.int x1), some (.int x2), some (.int x3), some (.int (x4 + (1 : Int32))), some (.int (1 : Int32))] [] 136 I G J Φ)
          refine E_goto 3 dX1_isOnePlace_84 rfl ?_
          refine E_wk (ls2 := [some (.ref a), some (.int x1), some (.int x2), some (.int x3), some (.int (x4 + (1 : Int32))), none]) ⟨rfl, rfl, rfl, rfl, rfl, trivial⟩ ?_
          exact hy
        · replace hy := hy.2 h17
          refine E_iconst (1 : Int32) dX1_isOnePlace_79 rfl ?_
          exact E_rz dX1_isOnePlace_80 rfl rfl ⟨rfl, rfl⟩ hy
      · replace hy := hy.2 h14
        refine E_aload_n 0 dX1_isOnePlace_34 rfl rfl ?_
        refine E_getr 1 6 a 15 (a + 5) dX1_isOnePlace_35 fl_RX1_24 rfl (sL0 ha) (gL6 hG ha) ?_
        refine E_iload dX1_isOnePlace_38 rfl ?_
        have c18 := hy.1
        replace hy := hy.2
        refine E_ia (a + 5) 4 (x4).toNatClampNeg dX1_isOnePlace_40 (sL5 ha) c18 rfl ?_
        refine E_iload_n 2 dX1_isOnePlace_41 rfl rfl ?_
        refine E_icmp_ne 60 dX1_isOnePlace_42 rfl (fun h19 => ?_) (fun h19 => ?_)
        · replace hy := hy.1 h19
          refine E_iconst (0 : Int32) dX1_isOnePlace_60 rfl ?_
          refine E_istore dX1_isOnePlace_61 (Nat.le_of_ble_eq_true rfl) (?_ : Ev d mX1_isOnePlace 136 63 [some (.ref a), some (.int x1), some (.int x2), some (.int x3), some (.int x4), some (.int (0 : Int32))] [] 136 I G J Φ)
          refine E_iload dX1_isOnePlace_63 rfl ?_
          refine E_if_eq 81 dX1_isOnePlace_65 rfl (fun h20 => ?_) (fun h20 => ?_)
          rotate_left
          · exact absurd (by decide) h20
          refine E_iinc (x4 + (1 : Int32)) dX1_isOnePlace_81 rfl rfl (Nat.le_of_ble_eq_true rfl) (?_ : Ev d mX1_isOnePlace 136 84 [some (.ref a), some (.int x1), some (.int x2), some (.int x3), some (.int (x4 + (1 : Int32))), some (.int (0 : Int32))] [] 136 I G J Φ)
          refine E_goto 3 dX1_isOnePlace_84 rfl ?_
          refine E_wk (ls2 := [some (.ref a), some (.int x1), some (.int x2), some (.int x3), some (.int (x4 + (1 : Int32))), none]) ⟨rfl, rfl, rfl, rfl, rfl, trivial⟩ ?_
          exact hy
        · replace hy := hy.2 (Decidable.not_not.mp h19)
          refine E_aload_n 0 dX1_isOnePlace_45 rfl rfl ?_
          refine E_getr 1 7 a 15 (a + 6) dX1_isOnePlace_46 fl_RX1_27 rfl (sL0 ha) (gL7 hG ha) ?_
          refine E_iload dX1_isOnePlace_49 rfl ?_
          have c21 := hy.1
          replace hy := hy.2
          refine E_ia (a + 6) 4 (x4).toNatClampNeg dX1_isOnePlace_51 (sL6 ha) c21 rfl ?_
          refine E_iload_n 1 dX1_isOnePlace_52 rfl rfl ?_
          refine E_icmp_ne 60 dX1_isOnePlace_53 rfl (fun h22 => ?_) (fun h22 => ?_)
          · replace hy := hy.1 h22
            refine E_iconst (0 : Int32) dX1_isOnePlace_60 rfl ?_
            refine E_istore dX1_isOnePlace_61 (Nat.le_of_ble_eq_true rfl) (?_ : Ev d mX1_isOnePlace 136 63 [some (.ref a), some (.int x1), some (.int x2), some (.int x3), some (.int x4), some (.int (0 : Int32))] [] 136 I G J Φ)
            refine E_iload dX1_isOnePlace_63 rfl ?_
            refine E_if_eq 81 dX1_isOnePlace_65 rfl (fun h23 => ?_) (fun h23 => ?_)
            rotate_left
            · exact absurd (by decide) h23
            refine E_iinc (x4 + (1 : Int32)) dX1_isOnePlace_81 rfl rfl (Nat.le_of_ble_eq_true rfl) (?_ : Ev d mX1_isOnePlace 136 84 [some (.ref a), some (.int x1), some (.int x2), some (.int x3), some (.int (x4 + (1 : Int32))), some (.int (0 : Int32))] [] 136 I G J Φ)
            refine E_goto 3 dX1_isOnePlace_84 rfl ?_
            refine E_wk (ls2 := [some (.ref a), some (.int x1), some (.int x2), some (.int x3), some (.int (x4 + (1 : Int32))), none]) ⟨rfl, rfl, rfl, rfl, rfl, trivial⟩ ?_
            exact hy
          · replace hy := hy.2 (Decidable.not_not.mp h22)
            refine E_iconst (1 : Int32) dX1_isOnePlace_56 rfl ?_
            refine E_goto 61 dX1_isOnePlace_57 rfl ?_
            refine E_istore dX1_isOnePlace_61 (Nat.le_of_ble_eq_true rfl) (?_ : Ev d mX1_isOnePlace 136 63 [some (.ref a), some (.int x1), some (.int x2), some (.int x3), some (.int x4), some (.int (1 : Int32))] [] 136 I G J Φ)
            refine E_iload dX1_isOnePlace_63 rfl ?_
            refine E_if_eq 81 dX1_isOnePlace_65 rfl (fun h24 => ?_) (fun h24 => ?_)
            · exact absurd h24 (by decide)
            refine E_aload_n 0 dX1_isOnePlace_68 rfl rfl ?_
            refine E_getr 1 8 a 15 (a + 7) dX1_isOnePlace_69 fl_RX1_30 rfl (sL0 ha) (gL8 hG ha) ?_
            refine E_iload dX1_isOnePlace_72 rfl ?_
            have c25 := hy.1
            replace hy := hy.2
            refine E_ia (a + 7) 4 (x4).toNatClampNeg dX1_isOnePlace_74 (sL7 ha) c25 rfl ?_
            refine E_iload_n 3 dX1_isOnePlace_75 rfl rfl ?_
            refine E_icmp_gt 81 dX1_isOnePlace_76 rfl (fun h26 => ?_) (fun h26 => ?_)
            · replace hy := hy.1 h26
              refine E_iinc (x4 + (1 : Int32)) dX1_isOnePlace_81 rfl rfl (Nat.le_of_ble_eq_true rfl) (?_ : Ev d mX1_isOnePlace 136 84 [some (.ref a), some (.int x1), some (.int x2), some (.int x3), some (.int (x4 + (1 : Int32))), some (.int (1 : Int32))] [] 136 I G J Φ)
              refine E_goto 3 dX1_isOnePlace_84 rfl ?_
              refine E_wk (ls2 := [some (.ref a), some (.int x1), some (.int x2), some (.int x3), some (.int (x4 + (1 : Int32))), none]) ⟨rfl, rfl, rfl, rfl, rfl, trivial⟩ ?_
              exact hy
            · replace hy := hy.2 h26
              refine E_iconst (1 : Int32) dX1_isOnePlace_79 rfl ?_
              exact E_rz dX1_isOnePlace_80 rfl rfl ⟨rfl, rfl⟩ hy
set_option maxRecDepth 100000 in
theorem w_X1_rainsOn {d : Nat} {I : MI} {G : MG} {J : MJ} {Φ : Ph} (hG : WG G) {a : Nat} (ha : isL a) (x1 : Int32) (hy : (¬ (((I a 12) >>> ((x1 - x1 / (7 : Int32) * (7 : Int32)) &&& 31)) &&& (1 : Int32)) = (1 : Int32) → Φ (some (.int (0 : Int32))) 136 I G J) ∧ ((((I a 12) >>> ((x1 - x1 / (7 : Int32) * (7 : Int32)) &&& 31)) &&& (1 : Int32)) = (1 : Int32) → Φ (some (.int (1 : Int32))) 136 I G J)) : Ev d mX1_rainsOn 136 0 [some (.ref a), some (.int x1)] [] 136 I G J Φ := by
  refine E_aload_n 0 dX1_rainsOn_0 rfl rfl ?_
  refine E_geti 1 12 a 15 dX1_rainsOn_1 fl_RX1_49 rfl (sL0 ha) ?_
  refine E_iload_n 1 dX1_rainsOn_4 rfl rfl ?_
  refine E_bipush (7 : Int32) dX1_rainsOn_5 rfl ?_
  refine E_irem dX1_rainsOn_7 (by decide) ?_
  refine E_ishr dX1_rainsOn_8 ?_
  refine E_iconst (1 : Int32) dX1_rainsOn_9 rfl ?_
  refine E_iand dX1_rainsOn_10 ?_
  refine E_iconst (1 : Int32) dX1_rainsOn_11 rfl ?_
  refine E_icmp_ne 19 dX1_rainsOn_12 rfl (fun h1 => ?_) (fun h1 => ?_)
  · replace hy := hy.1 h1
    refine E_iconst (0 : Int32) dX1_rainsOn_19 rfl ?_
    exact E_rz dX1_rainsOn_20 rfl rfl ⟨rfl, rfl⟩ hy
  · replace hy := hy.2 (Decidable.not_not.mp h1)
    refine E_iconst (1 : Int32) dX1_rainsOn_15 rfl ?_
    refine E_goto 20 dX1_rainsOn_16 rfl ?_
    exact E_rz dX1_rainsOn_20 rfl rfl ⟨rfl, rfl⟩ hy
set_option maxRecDepth 100000 in
theorem w_X2_begin {d : Nat} {I : MI} {G : MG} {J : MJ} {Φ : Ph} (hG : WG G) {c : Nat} (hc : isM c) {a : Nat} (ha : isL a) (hy : Ev (d + 1) mX2_begin 136 17 [some (.ref c), some (.ref a), some (.int (0 : Int32))] [] 136 (u2 (u2 (u2 I c 0 (0 : Int32)) c 1 (0 : Int32)) c 7 (0 : Int32)) G J Φ) : Ev (d + 1) mX2_begin 136 0 [some (.ref c), some (.ref a), none] [] 136 I G J Φ := by
  refine E_aload_n 0 dX2_begin_0 rfl rfl ?_
  refine E_iconst (0 : Int32) dX2_begin_1 rfl ?_
  refine E_puti 2 0 c 8 dX2_begin_2 fl_RX2_27 rfl (sM0 hc) ⟨_, rfl, rfl⟩ rfl rfl ?_
  refine E_aload_n 0 dX2_begin_5 rfl rfl ?_
  refine E_iconst (0 : Int32) dX2_begin_6 rfl ?_
  refine E_puti 2 1 c 8 dX2_begin_7 fl_RX2_31 rfl (sM0 hc) ⟨_, rfl, rfl⟩ rfl rfl ?_
  refine E_aload_n 0 dX2_begin_10 rfl rfl ?_
  refine E_iconst (0 : Int32) dX2_begin_11 rfl ?_
  refine E_puti 2 7 c 8 dX2_begin_12 fl_RX2_34 rfl (sM0 hc) ⟨_, rfl, rfl⟩ rfl rfl ?_
  refine E_iconst (0 : Int32) dX2_begin_15 rfl ?_
  refine E_istore_n 2 dX2_begin_16 rfl (Nat.le_of_ble_eq_true rfl) (?_ : Ev (d + 1) mX2_begin 136 17 [some (.ref c), some (.ref a), some (.int (0 : Int32))] [] 136 (u2 (u2 (u2 I c 0 (0 : Int32)) c 1 (0 : Int32)) c 7 (0 : Int32)) G J Φ)
  exact hy
set_option maxRecDepth 100000 in
theorem w_X2_begin_17 {d : Nat} {I : MI} {G : MG} {J : MJ} {Φ : Ph} (hG : WG G)  {c : Nat} (hc : isM c) {a : Nat} (ha : isL a) (x2 : Int32) (hy : ((4 : Int32) ≤ x2 → Ev (d + 1) mX2_begin 136 44 [some (.ref c), some (.ref a), some (.int (0 : Int32))] [] 136 I G J Φ) ∧ (¬ (4 : Int32) ≤ x2 → vp_in x2 4 ∧ (vp_in x2 4 ∧ (Ev (d + 1) mX2_begin 136 17 [some (.ref c), some (.ref a), some (.int (x2 + (1 : Int32)))] [] 136 (u2 (u2 I (c + 1) (x2).toNatClampNeg (0 : Int32)) (c + 2) (x2).toNatClampNeg (0 : Int32)) G J Φ)))) : Ev (d + 1) mX2_begin 136 17 [some (.ref c), some (.ref a), some (.int x2)] [] 136 I G J Φ := by
  refine E_iload_n 2 dX2_begin_17 rfl rfl ?_
  refine E_iconst (4 : Int32) dX2_begin_18 rfl ?_
  refine E_icmp_ge 42 dX2_begin_19 rfl (fun h1 => ?_) (fun h1 => ?_)
  · replace hy := hy.1 h1
    refine E_iconst (0 : Int32) dX2_begin_42 rfl ?_
    refine E_istore_n 2 dX2_begin_43 rfl (Nat.le_of_ble_eq_true rfl) (?_ : Ev (d + 1) mX2_begin 136 44 [some (.ref c), some (.ref a), some (.int (0 : Int32))] [] 136 I G J Φ)
    exact hy
  · replace hy := hy.2 h1
    refine E_aload_n 0 dX2_begin_22 rfl rfl ?_
    refine E_getr 2 2 c 8 (c + 1) dX2_begin_23 fl_RX2_9 rfl (sM0 hc) (gM2 hG hc) ?_
    refine E_iload_n 2 dX2_begin_26 rfl rfl ?_
    refine E_iconst (0 : Int32) dX2_begin_27 rfl ?_
    have c2 := hy.1
    replace hy := hy.2
    refine E_is (c + 1) 4 (x2).toNatClampNeg dX2_begin_28 (sM1 hc) c2 rfl ?_
    refine E_aload_n 0 dX2_begin_29 rfl rfl ?_
    refine E_getr 2 3 c 8 (c + 2) dX2_begin_30 fl_RX2_15 rfl (sM0 hc) (gM3 hG hc) ?_
    refine E_iload_n 2 dX2_begin_33 rfl rfl ?_
    refine E_iconst (0 : Int32) dX2_begin_34 rfl ?_
    have c3 := hy.1
    replace hy := hy.2
    refine E_is (c + 2) 4 (x2).toNatClampNeg dX2_begin_35 (sM2 hc) c3 rfl ?_
    refine E_iinc (x2 + (1 : Int32)) dX2_begin_36 rfl rfl (Nat.le_of_ble_eq_true rfl) (?_ : Ev (d + 1) mX2_begin 136 39 [some (.ref c), some (.ref a), some (.int (x2 + (1 : Int32)))] [] 136 (u2 (u2 I (c + 1) (x2).toNatClampNeg (0 : Int32)) (c + 2) (x2).toNatClampNeg (0 : Int32)) G J Φ)
    refine E_goto 17 dX2_begin_39 rfl ?_
    exact hy
set_option maxRecDepth 100000 in
theorem w_X2_begin_44 {d : Nat} {I : MI} {G : MG} {J : MJ} {Φ : Ph} (hG : WG G)  {c : Nat} (hc : isM c) {a : Nat} (ha : isL a) (x2 : Int32) (hy : ((3 : Int32) ≤ x2 → Ev d mX2_rest 136 0 [some (.ref c), some (.ref a), none] [] 136 I G J (fun r n I2 G2 J2 => r = none ∧ n = 136 ∧ G = G2 ∧ J = J2 ∧ (Φ none 136 I2 G J))) ∧ (¬ (3 : Int32) ≤ x2 → vp_in x2 3 ∧ (Ev (d + 1) mX2_begin 136 44 [some (.ref c), some (.ref a), some (.int (x2 + (1 : Int32)))] [] 136 (u2 I (c + 4) (x2).toNatClampNeg (-9 : Int32)) G J Φ))) : Ev (d + 1) mX2_begin 136 44 [some (.ref c), some (.ref a), some (.int x2)] [] 136 I G J Φ := by
  refine E_iload_n 2 dX2_begin_44 rfl rfl ?_
  refine E_iconst (3 : Int32) dX2_begin_45 rfl ?_
  refine E_icmp_ge 63 dX2_begin_46 rfl (fun h1 => ?_) (fun h1 => ?_)
  · replace hy := hy.1 h1
    refine E_aload_n 0 dX2_begin_63 rfl rfl ?_
    refine E_aload_n 1 dX2_begin_64 rfl rfl ?_
    refine E_cv (M := mX2_begin) (pc := 65) (As := [.ref a]) (st := []) mX2_rest 1 2 8 dX2_begin_65 lk_RX2_37 ⟨_, rfl, rfl⟩ (sM0 hc) rfl (Nat.le_of_ble_eq_true rfl) ⟨rfl, rfl⟩ (Nat.le_of_ble_eq_true rfl) rfl hy ?_
    rintro r n I2 G2 J2 ⟨rfl, rfl, rfl, rfl, hy⟩
    show Ev (d + 1) mX2_begin 136 68 [some (.ref c), some (.ref a), some (.int x2)] [] 136 I2 G J Φ
    exact E_rv dX2_begin_68 rfl ⟨rfl, rfl⟩ hy
  · replace hy := hy.2 h1
    refine E_aload_n 0 dX2_begin_49 rfl rfl ?_
    refine E_getr 2 5 c 8 (c + 4) dX2_begin_50 fl_RX2_21 rfl (sM0 hc) (gM5 hG hc) ?_
    refine E_iload_n 2 dX2_begin_53 rfl rfl ?_
    refine E_bipush (-9 : Int32) dX2_begin_54 rfl ?_
    have c3 := hy.1
    replace hy := hy.2
    refine E_is (c + 4) 3 (x2).toNatClampNeg dX2_begin_56 (sM4 hc) c3 rfl ?_
    refine E_iinc (x2 + (1 : Int32)) dX2_begin_57 rfl rfl (Nat.le_of_ble_eq_true rfl) (?_ : Ev (d + 1) mX2_begin 136 60 [some (.ref c), some (.ref a), some (.int (x2 + (1 : Int32)))] [] 136 (u2 I (c + 4) (x2).toNatClampNeg (-9 : Int32)) G J Φ)
    refine E_goto 44 dX2_begin_60 rfl ?_
    exact hy
set_option maxRecDepth 100000 in
theorem w_X2_blockersAt {d : Nat} {I : MI} {G : MG} {J : MJ} {Φ : Ph} (hG : WG G) {c : Nat} (hc : isM c) {a : Nat} (ha : isL a) (x2 : Int32) (x3 : Int32) (hy : Ev (d + 1) mX2_blockersAt 136 6 [some (.ref c), some (.ref a), some (.int x2), some (.int x3), some (.int (0 : Int32)), some (.int (0 : Int32)), none] [] 136 I G J Φ) : Ev (d + 1) mX2_blockersAt 136 0 [some (.ref c), some (.ref a), some (.int x2), some (.int x3), none, none, none] [] 136 I G J Φ := by
  refine E_iconst (0 : Int32) dX2_blockersAt_0 rfl ?_
  refine E_istore dX2_blockersAt_1 (Nat.le_of_ble_eq_true rfl) (?_ : Ev (d + 1) mX2_blockersAt 136 3 [some (.ref c), some (.ref a), some (.int x2), some (.int x3), some (.int (0 : Int32)), none, none] [] 136 I G J Φ)
  refine E_iconst (0 : Int32) dX2_blockersAt_3 rfl ?_
  refine E_istore dX2_blockersAt_4 (Nat.le_of_ble_eq_true rfl) (?_ : Ev (d + 1) mX2_blockersAt 136 6 [some (.ref c), some (.ref a), some (.int x2), some (.int x3), some (.int (0 : Int32)), some (.int (0 : Int32)), none] [] 136 I G J Φ)
  exact hy
set_option maxRecDepth 100000 in
theorem w_X2_blockersAt_6 {d : Nat} {I : MI} {G : MG} {J : MJ} {Φ : Ph} (hG : WG G)  {c : Nat} (hc : isM c) {a : Nat} (ha : isL a) (x2 : Int32) (x3 : Int32) (x4 : Int32) (x5 : Int32) (hy : ((I a 0) ≤ x5 → Φ (some (.int x4)) 136 I G J) ∧ (¬ (I a 0) ≤ x5 → (x5 = x2 → Ev (d + 1) mX2_blockersAt 136 6 [some (.ref c), some (.ref a), some (.int x2), some (.int x3), some (.int x4), some (.int (x5 + (1 : Int32))), none] [] 136 I G J Φ) ∧ (¬ x5 = x2 → vp_in x5 4 ∧ ((¬ (I (c + 1) (x5).toNatClampNeg) = x3 → Ev (d + 1) mX2_blockersAt 136 6 [some (.ref c), some (.ref a), some (.int x2), some (.int x3), some (.int x4), some (.int (x5 + (1 : Int32))), none] [] 136 I G J Φ) ∧ ((I (c + 1) (x5).toNatClampNeg) = x3 → Ev d mX2_isOver 136 0 [some (.ref c), some (.ref a), some (.int x5)] [] 136 I G J (fun r n I7 G7 J7 => ∃ v7 : Int32, r = some (.int v7) ∧ n = 136 ∧ I = I7 ∧ G = G7 ∧ J = J7 ∧ ((¬ v7 = 0 → Ev (d + 1) mX2_blockersAt 136 6 [some (.ref c), some (.ref a), some (.int x2), some (.int x3), some (.int x4), some (.int (x5 + (1 : Int32))), none] [] 136 I G J Φ) ∧ (v7 = 0 → Ev d mX1_isOnePlace 136 0 [some (.ref a), some (.int x2), some (.int x5), some (.int x3), none, none] [] 136 I G J (fun r n I11 G11 J11 => ∃ v11 : Int32, r = some (.int v11) ∧ n = 136 ∧ I = I11 ∧ G = G11 ∧ J = J11 ∧ ((v11 = 0 → Ev (d + 1) mX2_blockersAt 136 6 [some (.ref c), some (.ref a), some (.int x2), some (.int x3), some (.int x4), some (.int (x5 + (1 : Int32))), none] [] 136 I G J Φ) ∧ (¬ v11 = 0 → Ev (d + 1) mX2_blockersAt 136 6 [some (.ref c), some (.ref a), some (.int x2), some (.int x3), some (.int (x4 ||| ((1 : Int32) <<< (x5 &&& 31)))), some (.int (x5 + (1 : Int32))), none] [] 136 I G J Φ))))))))))) : Ev (d + 1) mX2_blockersAt 136 6 [some (.ref c), some (.ref a), some (.int x2), some (.int x3), some (.int x4), some (.int x5), none] [] 136 I G J Φ := by
  refine E_iload dX2_blockersAt_6 rfl ?_
  refine E_aload_n 1 dX2_blockersAt_8 rfl rfl ?_
  refine E_geti 1 0 a 15 dX2_blockersAt_9 fl_RX2_52 rfl (sL0 ha) ?_
  refine E_icmp_ge 80 dX2_blockersAt_12 rfl (fun h1 => ?_) (fun h1 => ?_)
  · replace hy := hy.1 h1
    refine E_iload dX2_blockersAt_80 rfl ?_
    exact E_ri dX2_blockersAt_82 rfl ⟨rfl, rfl⟩ hy
  · replace hy := hy.2 h1
    refine E_iload dX2_blockersAt_15 rfl ?_
    refine E_iload_n 2 dX2_blockersAt_17 rfl rfl ?_
    refine E_icmp_eq 46 dX2_blockersAt_18 rfl (fun h2 => ?_) (fun h2 => ?_)
    · replace hy := hy.1 h2
      refine E_iconst (0 : Int32) dX2_blockersAt_46 rfl ?_
      refine E_istore dX2_blockersAt_47 (Nat.le_of_ble_eq_true rfl) (?_ : Ev (d + 1) mX2_blockersAt 136 49 [some (.ref c), some (.ref a), some (.int x2), some (.int x3), some (.int x4), some (.int x5), some (.int (0 : Int32))] [] 136 I G J Φ)
      refine E_iload dX2_blockersAt_49 rfl ?_
      refine E_if_eq 74 dX2_blockersAt_51 rfl (fun h3 => ?_) (fun h3 => ?_)
      rotate_left
      · exact absurd (by decide) h3
      refine E_iinc (x5 + (1 : Int32)) dX2_blockersAt_74 rfl rfl (Nat.le_of_ble_eq_true rfl) (?_ : Ev (d + 1) mX2_blockersAt 136 77 [some (.ref c), some (.ref a), some (.int x2), some (.int x3), some (.int x4), some (.int (x5 + (1 : Int32))), some (.int (0 : Int32))] [] 136 I G J Φ)
      refine E_goto 6 dX2_blockersAt_77 rfl ?_
      refine E_wk (ls2 := [some (.ref c), some (.ref a), some (.int x2), some (.int x3), some (.int x4), some (.int (x5 + (1 : Int32))), none]) ⟨rfl, rfl, rfl, rfl, rfl, rfl, trivial⟩ ?_
      exact hy
    · replace hy := hy.2 h2
      refine E_aload_n 0 dX2_blockersAt_21 rfl rfl ?_
      refine E_getr 2 2 c 8 (c + 1) dX2_blockersAt_22 fl_RX2_9 rfl (sM0 hc) (gM2 hG hc) ?_
      refine E_iload dX2_blockersAt_25 rfl ?_
      have c4 := hy.1
      replace hy := hy.2
      refine E_ia (c + 1) 4 (x5).toNatClampNeg dX2_blockersAt_27 (sM1 hc) c4 rfl ?_
      refine E_iload_n 3 dX2_blockersAt_28 rfl rfl ?_
      refine E_icmp_ne 46 dX2_blockersAt_29 rfl (fun h5 => ?_) (fun h5 => ?_)
      · replace hy := hy.1 h5
        refine E_iconst (0 : Int32) dX2_blockersAt_46 rfl ?_
        refine E_istore dX2_blockersAt_47 (Nat.le_of_ble_eq_true rfl) (?_ : Ev (d + 1) mX2_blockersAt 136 49 [some (.ref c), some (.ref a), some (.int x2), some (.int x3), some (.int x4), some (.int x5), some (.int (0 : Int32))] [] 136 I G J Φ)
        refine E_iload dX2_blockersAt_49 rfl ?_
        refine E_if_eq 74 dX2_blockersAt_51 rfl (fun h6 => ?_) (fun h6 => ?_)
        rotate_left
        · exact absurd (by decide) h6
        refine E_iinc (x5 + (1 : Int32)) dX2_blockersAt_74 rfl rfl (Nat.le_of_ble_eq_true rfl) (?_ : Ev (d + 1) mX2_blockersAt 136 77 [some (.ref c), some (.ref a), some (.int x2), some (.int x3), some (.int x4), some (.int (x5 + (1 : Int32))), some (.int (0 : Int32))] [] 136 I G J Φ)
        refine E_goto 6 dX2_blockersAt_77 rfl ?_
        refine E_wk (ls2 := [some (.ref c), some (.ref a), some (.int x2), some (.int x3), some (.int x4), some (.int (x5 + (1 : Int32))), none]) ⟨rfl, rfl, rfl, rfl, rfl, rfl, trivial⟩ ?_
        exact hy
      · replace hy := hy.2 (Decidable.not_not.mp h5)
        refine E_aload_n 0 dX2_blockersAt_32 rfl rfl ?_
        refine E_aload_n 1 dX2_blockersAt_33 rfl rfl ?_
        refine E_iload dX2_blockersAt_34 rfl ?_
        refine E_cv (M := mX2_blockersAt) (pc := 36) (As := [.ref a, .int x5]) (st := []) mX2_isOver 2 2 8 dX2_blockersAt_36 lk_RX2_55 ⟨_, rfl, rfl⟩ (sM0 hc) rfl (Nat.le_of_ble_eq_true rfl) ⟨rfl, rfl⟩ (Nat.le_of_ble_eq_true rfl) rfl hy ?_
        rintro r n I7 G7 J7 ⟨v7, rfl, rfl, rfl, rfl, rfl, hy⟩
        show Ev (d + 1) mX2_blockersAt 136 39 [some (.ref c), some (.ref a), some (.int x2), some (.int x3), some (.int x4), some (.int x5), none] [.int v7] 136 I G J Φ
        refine E_if_ne 46 dX2_blockersAt_39 rfl (fun h8 => ?_) (fun h8 => ?_)
        · replace hy := hy.1 h8
          refine E_iconst (0 : Int32) dX2_blockersAt_46 rfl ?_
          refine E_istore dX2_blockersAt_47 (Nat.le_of_ble_eq_true rfl) (?_ : Ev (d + 1) mX2_blockersAt 136 49 [some (.ref c), some (.ref a), some (.int x2), some (.int x3), some (.int x4), some (.int x5), some (.int (0 : Int32))] [] 136 I G J Φ)
          refine E_iload dX2_blockersAt_49 rfl ?_
          refine E_if_eq 74 dX2_blockersAt_51 rfl (fun h9 => ?_) (fun h9 => ?_)
          rotate_left
          · exact absurd (by decide) h9
          refine E_iinc (x5 + (1 : Int32)) dX2_blockersAt_74 rfl rfl (Nat.le_of_ble_eq_true rfl) (?_ : Ev (d + 1) mX2_blockersAt 136 77 [some (.ref c), some (.ref a), some (.int x2), some (.int x3), some (.int x4), some (.int (x5 + (1 : Int32))), some (.int (0 : Int32))] [] 136 I G J Φ)
          refine E_goto 6 dX2_blockersAt_77 rfl ?_
          refine E_wk (ls2 := [some (.ref c), some (.ref a), some (.int x2), some (.int x3), some (.int x4), some (.int (x5 + (1 : Int32))), none]) ⟨rfl, rfl, rfl, rfl, rfl, rfl, trivial⟩ ?_
          exact hy
        · replace hy := hy.2 (Decidable.not_not.mp h8)
          refine E_iconst (1 : Int32) dX2_blockersAt_42 rfl ?_
          refine E_goto 47 dX2_blockersAt_43 rfl ?_
          refine E_istore dX2_blockersAt_47 (Nat.le_of_ble_eq_true rfl) (?_ : Ev (d + 1) mX2_blockersAt 136 49 [some (.ref c), some (.ref a), some (.int x2), some (.int x3), some (.int x4), some (.int x5), some (.int (1 : Int32))] [] 136 I G J Φ)
          refine E_iload dX2_blockersAt_49 rfl ?_
          refine E_if_eq 74 dX2_blockersAt_51 rfl (fun h10 => ?_) (fun h10 => ?_)
          · exact absurd h10 (by decide)
          refine E_aload_n 1 dX2_blockersAt_54 rfl rfl ?_
          refine E_iload_n 2 dX2_blockersAt_55 rfl rfl ?_
          refine E_iload dX2_blockersAt_56 rfl ?_
          refine E_iload_n 3 dX2_blockersAt_58 rfl rfl ?_
          refine E_cv (M := mX2_blockersAt) (pc := 59) (As := [.int x2, .int x5, .int x3]) (st := []) mX1_isOnePlace 3 1 15 dX2_blockersAt_59 lk_RX2_81 ⟨_, rfl, rfl⟩ (sL0 ha) rfl (Nat.le_of_ble_eq_true rfl) ⟨rfl, rfl⟩ (Nat.le_of_ble_eq_true rfl) rfl hy ?_
          rintro r n I11 G11 J11 ⟨v11, rfl, rfl, rfl, rfl, rfl, hy⟩
          show Ev (d + 1) mX2_blockersAt 136 62 [some (.ref c), some (.ref a), some (.int x2), some (.int x3), some (.int x4), some (.int x5), some (.int (1 : Int32))] [.int v11] 136 I G J Φ
          refine E_if_eq 74 dX2_blockersAt_62 rfl (fun h12 => ?_) (fun h12 => ?_)
          · replace hy := hy.1 h12
            refine E_iinc (x5 + (1 : Int32)) dX2_blockersAt_74 rfl rfl (Nat.le_of_ble_eq_true rfl) (?_ : Ev (d + 1) mX2_blockersAt 136 77 [some (.ref c), some (.ref a), some (.int x2), some (.int x3), some (.int x4), some (.int (x5 + (1 : Int32))), some (.int (1 : Int32))] [] 136 I G J Φ)
            refine E_goto 6 dX2_blockersAt_77 rfl ?_
            refine E_wk (ls2 := [some (.ref c), some (.ref a), some (.int x2), some (.int x3), some (.int x4), some (.int (x5 + (1 : Int32))), none]) ⟨rfl, rfl, rfl, rfl, rfl, rfl, trivial⟩ ?_
            exact hy
          · replace hy := hy.2 h12
            refine E_iload dX2_blockersAt_65 rfl ?_
            refine E_iconst (1 : Int32) dX2_blockersAt_67 rfl ?_
            refine E_iload dX2_blockersAt_68 rfl ?_
            refine E_ishl dX2_blockersAt_70 ?_
            refine E_ior dX2_blockersAt_71 ?_
            refine E_istore dX2_blockersAt_72 (Nat.le_of_ble_eq_true rfl) (?_ : Ev (d + 1) mX2_blockersAt 136 74 [some (.ref c), some (.ref a), some (.int x2), some (.int x3), some (.int (x4 ||| ((1 : Int32) <<< (x5 &&& 31)))), some (.int x5), some (.int (1 : Int32))] [] 136 I G J Φ)
            refine E_iinc (x5 + (1 : Int32)) dX2_blockersAt_74 rfl rfl (Nat.le_of_ble_eq_true rfl) (?_ : Ev (d + 1) mX2_blockersAt 136 77 [some (.ref c), some (.ref a), some (.int x2), some (.int x3), some (.int (x4 ||| ((1 : Int32) <<< (x5 &&& 31)))), some (.int (x5 + (1 : Int32))), some (.int (1 : Int32))] [] 136 I G J Φ)
            refine E_goto 6 dX2_blockersAt_77 rfl ?_
            refine E_wk (ls2 := [some (.ref c), some (.ref a), some (.int x2), some (.int x3), some (.int (x4 ||| ((1 : Int32) <<< (x5 &&& 31)))), some (.int (x5 + (1 : Int32))), none]) ⟨rfl, rfl, rfl, rfl, rfl, rfl, trivial⟩ ?_
            exact hy
set_option maxRecDepth 100000 in
theorem w_X2_canComeUp {d : Nat} {I : MI} {G : MG} {J : MJ} {Φ : Ph} (hG : WG G) {c : Nat} (hc : isM c) {a : Nat} (ha : isL a) (x2 : Int32) (hy : Ev d mX2_isOver 136 0 [some (.ref c), some (.ref a), some (.int x2)] [] 136 I G J (fun r n I1 G1 J1 => ∃ v1 : Int32, r = some (.int v1) ∧ n = 136 ∧ I = I1 ∧ G = G1 ∧ J = J1 ∧ ((¬ v1 = 0 → Φ (some (.int (0 : Int32))) 136 I G J) ∧ (v1 = 0 → Ev d mX2_strengthAt 136 0 [some (.ref c), some (.ref a), some (.int x2), none, none] [] 136 I G J (fun r n I3 G3 J3 => ∃ v3 : Int32, r = some (.int v3) ∧ n = 136 ∧ I = I3 ∧ G = G3 ∧ J = J3 ∧ (Ev d mX2_needOf 136 0 [some (.ref c), some (.ref a), some (.int x2)] [] 136 I G J (fun r n I4 G4 J4 => ∃ v4 : Int32, r = some (.int v4) ∧ n = 136 ∧ I = I4 ∧ G = G4 ∧ J = J4 ∧ ((v3 < v4 → Φ (some (.int (0 : Int32))) 136 I G J) ∧ (¬ v3 < v4 → vp_in x2 4 ∧ (Ev d mX2_blockersAt 136 0 [some (.ref c), some (.ref a), some (.int x2), some (.int ((I (c + 1) (x2).toNatClampNeg) + (1 : Int32))), none, none, none] [] 136 I G J (fun r n I7 G7 J7 => ∃ v7 : Int32, r = some (.int v7) ∧ n = 136 ∧ I = I7 ∧ G = G7 ∧ J = J7 ∧ ((¬ v7 = 0 → Φ (some (.int (0 : Int32))) 136 I G J) ∧ (v7 = 0 → Φ (some (.int (1 : Int32))) 136 I G J))))))))))))) : Ev (d + 1) mX2_canComeUp 136 0 [some (.ref c), some (.ref a), some (.int x2)] [] 136 I G J Φ := by
  refine E_aload_n 0 dX2_canComeUp_0 rfl rfl ?_
  refine E_aload_n 1 dX2_canComeUp_1 rfl rfl ?_
  refine E_iload_n 2 dX2_canComeUp_2 rfl rfl ?_
  refine E_cv (M := mX2_canComeUp) (pc := 3) (As := [.ref a, .int x2]) (st := []) mX2_isOver 2 2 8 dX2_canComeUp_3 lk_RX2_55 ⟨_, rfl, rfl⟩ (sM0 hc) rfl (Nat.le_of_ble_eq_true rfl) ⟨rfl, rfl⟩ (Nat.le_of_ble_eq_true rfl) rfl hy ?_
  rintro r n I1 G1 J1 ⟨v1, rfl, rfl, rfl, rfl, rfl, hy⟩
  show Ev (d + 1) mX2_canComeUp 136 6 [some (.ref c), some (.ref a), some (.int x2)] [.int v1] 136 I G J Φ
  refine E_if_ne 45 dX2_canComeUp_6 rfl (fun h2 => ?_) (fun h2 => ?_)
  · replace hy := hy.1 h2
    refine E_iconst (0 : Int32) dX2_canComeUp_45 rfl ?_
    exact E_rz dX2_canComeUp_46 rfl rfl ⟨rfl, rfl⟩ hy
  · replace hy := hy.2 (Decidable.not_not.mp h2)
    refine E_aload_n 0 dX2_canComeUp_9 rfl rfl ?_
    refine E_aload_n 1 dX2_canComeUp_10 rfl rfl ?_
    refine E_iload_n 2 dX2_canComeUp_11 rfl rfl ?_
    refine E_cv (M := mX2_canComeUp) (pc := 12) (As := [.ref a, .int x2]) (st := []) mX2_strengthAt 2 2 8 dX2_canComeUp_12 lk_RX2_106 ⟨_, rfl, rfl⟩ (sM0 hc) rfl (Nat.le_of_ble_eq_true rfl) ⟨rfl, rfl⟩ (Nat.le_of_ble_eq_true rfl) rfl hy ?_
    rintro r n I3 G3 J3 ⟨v3, rfl, rfl, rfl, rfl, rfl, hy⟩
    show Ev (d + 1) mX2_canComeUp 136 15 [some (.ref c), some (.ref a), some (.int x2)] [.int v3] 136 I G J Φ
    refine E_aload_n 0 dX2_canComeUp_15 rfl rfl ?_
    refine E_aload_n 1 dX2_canComeUp_16 rfl rfl ?_
    refine E_iload_n 2 dX2_canComeUp_17 rfl rfl ?_
    refine E_cv (M := mX2_canComeUp) (pc := 18) (As := [.ref a, .int x2]) (st := [.int v3]) mX2_needOf 2 2 8 dX2_canComeUp_18 lk_RX2_109 ⟨_, rfl, rfl⟩ (sM0 hc) rfl (Nat.le_of_ble_eq_true rfl) ⟨rfl, rfl⟩ (Nat.le_of_ble_eq_true rfl) rfl hy ?_
    rintro r n I4 G4 J4 ⟨v4, rfl, rfl, rfl, rfl, rfl, hy⟩
    show Ev (d + 1) mX2_canComeUp 136 21 [some (.ref c), some (.ref a), some (.int x2)] [.int v4, .int v3] 136 I G J Φ
    refine E_icmp_lt 45 dX2_canComeUp_21 rfl (fun h5 => ?_) (fun h5 => ?_)
    · replace hy := hy.1 h5
      refine E_iconst (0 : Int32) dX2_canComeUp_45 rfl ?_
      exact E_rz dX2_canComeUp_46 rfl rfl ⟨rfl, rfl⟩ hy
    · replace hy := hy.2 h5
      refine E_aload_n 0 dX2_canComeUp_24 rfl rfl ?_
      refine E_aload_n 1 dX2_canComeUp_25 rfl rfl ?_
      refine E_iload_n 2 dX2_canComeUp_26 rfl rfl ?_
      refine E_aload_n 0 dX2_canComeUp_27 rfl rfl ?_
      refine E_getr 2 2 c 8 (c + 1) dX2_canComeUp_28 fl_RX2_9 rfl (sM0 hc) (gM2 hG hc) ?_
      refine E_iload_n 2 dX2_canComeUp_31 rfl rfl ?_
      have c6 := hy.1
      replace hy := hy.2
      refine E_ia (c + 1) 4 (x2).toNatClampNeg dX2_canComeUp_32 (sM1 hc) c6 rfl ?_
      refine E_iconst (1 : Int32) dX2_canComeUp_33 rfl ?_
      refine E_iadd dX2_canComeUp_34 ?_
      refine E_cv (M := mX2_canComeUp) (pc := 35) (As := [.ref a, .int x2, .int ((I (c + 1) (x2).toNatClampNeg) + (1 : Int32))]) (st := []) mX2_blockersAt 3 2 8 dX2_canComeUp_35 lk_RX2_85 ⟨_, rfl, rfl⟩ (sM0 hc) rfl (Nat.le_of_ble_eq_true rfl) ⟨rfl, rfl⟩ (Nat.le_of_ble_eq_true rfl) rfl hy ?_
      rintro r n I7 G7 J7 ⟨v7, rfl, rfl, rfl, rfl, rfl, hy⟩
      show Ev (d + 1) mX2_canComeUp 136 38 [some (.ref c), some (.ref a), some (.int x2)] [.int v7] 136 I G J Φ
      refine E_if_ne 45 dX2_canComeUp_38 rfl (fun h8 => ?_) (fun h8 => ?_)
      · replace hy := hy.1 h8
        refine E_iconst (0 : Int32) dX2_canComeUp_45 rfl ?_
        exact E_rz dX2_canComeUp_46 rfl rfl ⟨rfl, rfl⟩ hy
      · replace hy := hy.2 (Decidable.not_not.mp h8)
        refine E_iconst (1 : Int32) dX2_canComeUp_41 rfl ?_
        refine E_goto 46 dX2_canComeUp_42 rfl ?_
        exact E_rz dX2_canComeUp_46 rfl rfl ⟨rfl, rfl⟩ hy
set_option maxRecDepth 100000 in
theorem w_X2_copyFrom {d : Nat} {I : MI} {G : MG} {J : MJ} {Φ : Ph} (hG : WG G) {c : Nat} (hc : isM c) {o : Nat} (ho : isM o) (hy : Φ none 136 (u2 (ur (ur (ur (ur (ur (u2 (u2 I c 0 (I o 0)) c 1 ((u2 I c 0 (I o 0)) o 1)) (c + 1) (va_cpy ((u2 (u2 I c 0 (I o 0)) c 1 ((u2 I c 0 (I o 0)) o 1)) (o + 1)) ((u2 (u2 I c 0 (I o 0)) c 1 ((u2 I c 0 (I o 0)) o 1)) (c + 1)) 0 0 4)) (c + 2) (va_cpy ((ur (u2 (u2 I c 0 (I o 0)) c 1 ((u2 I c 0 (I o 0)) o 1)) (c + 1) (va_cpy ((u2 (u2 I c 0 (I o 0)) c 1 ((u2 I c 0 (I o 0)) o 1)) (o + 1)) ((u2 (u2 I c 0 (I o 0)) c 1 ((u2 I c 0 (I o 0)) o 1)) (c + 1)) 0 0 4)) (o + 2)) ((ur (u2 (u2 I c 0 (I o 0)) c 1 ((u2 I c 0 (I o 0)) o 1)) (c + 1) (va_cpy ((u2 (u2 I c 0 (I o 0)) c 1 ((u2 I c 0 (I o 0)) o 1)) (o + 1)) ((u2 (u2 I c 0 (I o 0)) c 1 ((u2 I c 0 (I o 0)) o 1)) (c + 1)) 0 0 4)) (c + 2)) 0 0 4)) (c + 3) (va_cpy ((ur (ur (u2 (u2 I c 0 (I o 0)) c 1 ((u2 I c 0 (I o 0)) o 1)) (c + 1) (va_cpy ((u2 (u2 I c 0 (I o 0)) c 1 ((u2 I c 0 (I o 0)) o 1)) (o + 1)) ((u2 (u2 I c 0 (I o 0)) c 1 ((u2 I c 0 (I o 0)) o 1)) (c + 1)) 0 0 4)) (c + 2) (va_cpy ((ur (u2 (u2 I c 0 (I o 0)) c 1 ((u2 I c 0 (I o 0)) o 1)) (c + 1) (va_cpy ((u2 (u2 I c 0 (I o 0)) c 1 ((u2 I c 0 (I o 0)) o 1)) (o + 1)) ((u2 (u2 I c 0 (I o 0)) c 1 ((u2 I c 0 (I o 0)) o 1)) (c + 1)) 0 0 4)) (o + 2)) ((ur (u2 (u2 I c 0 (I o 0)) c 1 ((u2 I c 0 (I o 0)) o 1)) (c + 1) (va_cpy ((u2 (u2 I c 0 (I o 0)) c 1 ((u2 I c 0 (I o 0)) o 1)) (o + 1)) ((u2 (u2 I c 0 (I o 0)) c 1 ((u2 I c 0 (I o 0)) o 1)) (c + 1)) 0 0 4)) (c + 2)) 0 0 4)) (o + 3)) ((ur (ur (u2 (u2 I c 0 (I o 0)) c 1 ((u2 I c 0 (I o 0)) o 1)) (c + 1) (va_cpy ((u2 (u2 I c 0 (I o 0)) c 1 ((u2 I c 0 (I o 0)) o 1)) (o + 1)) ((u2 (u2 I c 0 (I o 0)) c 1 ((u2 I c 0 (I o 0)) o 1)) (c + 1)) 0 0 4)) (c + 2) (va_cpy ((ur (u2 (u2 I c 0 (I o 0)) c 1 ((u2 I c 0 (I o 0)) o 1)) (c + 1) (va_cpy ((u2 (u2 I c 0 (I o 0)) c 1 ((u2 I c 0 (I o 0)) o 1)) (o + 1)) ((u2 (u2 I c 0 (I o 0)) c 1 ((u2 I c 0 (I o 0)) o 1)) (c + 1)) 0 0 4)) (o + 2)) ((ur (u2 (u2 I c 0 (I o 0)) c 1 ((u2 I c 0 (I o 0)) o 1)) (c + 1) (va_cpy ((u2 (u2 I c 0 (I o 0)) c 1 ((u2 I c 0 (I o 0)) o 1)) (o + 1)) ((u2 (u2 I c 0 (I o 0)) c 1 ((u2 I c 0 (I o 0)) o 1)) (c + 1)) 0 0 4)) (c + 2)) 0 0 4)) (c + 3)) 0 0 3)) (c + 4) (va_cpy ((ur (ur (ur (u2 (u2 I c 0 (I o 0)) c 1 ((u2 I c 0 (I o 0)) o 1)) (c + 1) (va_cpy ((u2 (u2 I c 0 (I o 0)) c 1 ((u2 I c 0 (I o 0)) o 1)) (o + 1)) ((u2 (u2 I c 0 (I o 0)) c 1 ((u2 I c 0 (I o 0)) o 1)) (c + 1)) 0 0 4)) (c + 2) (va_cpy ((ur (u2 (u2 I c 0 (I o 0)) c 1 ((u2 I c 0 (I o 0)) o 1)) (c + 1) (va_cpy ((u2 (u2 I c 0 (I o 0)) c 1 ((u2 I c 0 (I o 0)) o 1)) (o + 1)) ((u2 (u2 I c 0 (I o 0)) c 1 ((u2 I c 0 (I o 0)) o 1)) (c + 1)) 0 0 4)) (o + 2)) ((ur (u2 (u2 I c 0 (I o 0)) c 1 ((u2 I c 0 (I o 0)) o 1)) (c + 1) (va_cpy ((u2 (u2 I c 0 (I o 0)) c 1 ((u2 I c 0 (I o 0)) o 1)) (o + 1)) ((u2 (u2 I c 0 (I o 0)) c 1 ((u2 I c 0 (I o 0)) o 1)) (c + 1)) 0 0 4)) (c + 2)) 0 0 4)) (c + 3) (va_cpy ((ur (ur (u2 (u2 I c 0 (I o 0)) c 1 ((u2 I c 0 (I o 0)) o 1)) (c + 1) (va_cpy ((u2 (u2 I c 0 (I o 0)) c 1 ((u2 I c 0 (I o 0)) o 1)) (o + 1)) ((u2 (u2 I c 0 (I o 0)) c 1 ((u2 I c 0 (I o 0)) o 1)) (c + 1)) 0 0 4)) (c + 2) (va_cpy ((ur (u2 (u2 I c 0 (I o 0)) c 1 ((u2 I c 0 (I o 0)) o 1)) (c + 1) (va_cpy ((u2 (u2 I c 0 (I o 0)) c 1 ((u2 I c 0 (I o 0)) o 1)) (o + 1)) ((u2 (u2 I c 0 (I o 0)) c 1 ((u2 I c 0 (I o 0)) o 1)) (c + 1)) 0 0 4)) (o + 2)) ((ur (u2 (u2 I c 0 (I o 0)) c 1 ((u2 I c 0 (I o 0)) o 1)) (c + 1) (va_cpy ((u2 (u2 I c 0 (I o 0)) c 1 ((u2 I c 0 (I o 0)) o 1)) (o + 1)) ((u2 (u2 I c 0 (I o 0)) c 1 ((u2 I c 0 (I o 0)) o 1)) (c + 1)) 0 0 4)) (c + 2)) 0 0 4)) (o + 3)) ((ur (ur (u2 (u2 I c 0 (I o 0)) c 1 ((u2 I c 0 (I o 0)) o 1)) (c + 1) (va_cpy ((u2 (u2 I c 0 (I o 0)) c 1 ((u2 I c 0 (I o 0)) o 1)) (o + 1)) ((u2 (u2 I c 0 (I o 0)) c 1 ((u2 I c 0 (I o 0)) o 1)) (c + 1)) 0 0 4)) (c + 2) (va_cpy ((ur (u2 (u2 I c 0 (I o 0)) c 1 ((u2 I c 0 (I o 0)) o 1)) (c + 1) (va_cpy ((u2 (u2 I c 0 (I o 0)) c 1 ((u2 I c 0 (I o 0)) o 1)) (o + 1)) ((u2 (u2 I c 0 (I o 0)) c 1 ((u2 I c 0 (I o 0)) o 1)) (c + 1)) 0 0 4)) (o + 2)) ((ur (u2 (u2 I c 0 (I o 0)) c 1 ((u2 I c 0 (I o 0)) o 1)) (c + 1) (va_cpy ((u2 (u2 I c 0 (I o 0)) c 1 ((u2 I c 0 (I o 0)) o 1)) (o + 1)) ((u2 (u2 I c 0 (I o 0)) c 1 ((u2 I c 0 (I o 0)) o 1)) (c + 1)) 0 0 4)) (c + 2)) 0 0 4)) (c + 3)) 0 0 3)) (o + 4)) ((ur (ur (ur (u2 (u2 I c 0 (I o 0)) c 1 ((u2 I c 0 (I o 0)) o 1)) (c + 1) (va_cpy ((u2 (u2 I c 0 (I o 0)) c 1 ((u2 I c 0 (I o 0)) o 1)) (o + 1)) ((u2 (u2 I c 0 (I o 0)) c 1 ((u2 I c 0 (I o 0)) o 1)) (c + 1)) 0 0 4)) (c + 2) (va_cpy ((ur (u2 (u2 I c 0 (I o 0)) c 1 ((u2 I c 0 (I o 0)) o 1)) (c + 1) (va_cpy ((u2 (u2 I c 0 (I o 0)) c 1 ((u2 I c 0 (I o 0)) o 1)) (o + 1)) ((u2 (u2 I c 0 (I o 0)) c 1 ((u2 I c 0 (I o 0)) o 1)) (c + 1)) 0 0 4)) (o + 2)) ((ur (u2 (u2 I c 0 (I o 0)) c 1 ((u2 I c 0 (I o 0)) o 1)) (c + 1) (va_cpy ((u2 (u2 I c 0 (I o 0)) c 1 ((u2 I c 0 (I o 0)) o 1)) (o + 1)) ((u2 (u2 I c 0 (I o 0)) c 1 ((u2 I c 0 (I o 0)) o 1)) (c + 1)) 0 0 4)) (c + 2)) 0 0 4)) (c + 3) (va_cpy ((ur (ur (u2 (u2 I c 0 (I o 0)) c 1 ((u2 I c 0 (I o 0)) o 1)) (c + 1) (va_cpy ((u2 (u2 I c 0 (I o 0)) c 1 ((u2 I c 0 (I o 0)) o 1)) (o + 1)) ((u2 (u2 I c 0 (I o 0)) c 1 ((u2 I c 0 (I o 0)) o 1)) (c + 1)) 0 0 4)) (c + 2) (va_cpy ((ur (u2 (u2 I c 0 (I o 0)) c 1 ((u2 I c 0 (I o 0)) o 1)) (c + 1) (va_cpy ((u2 (u2 I c 0 (I o 0)) c 1 ((u2 I c 0 (I o 0)) o 1)) (o + 1)) ((u2 (u2 I c 0 (I o 0)) c 1 ((u2 I c 0 (I o 0)) o 1)) (c + 1)) 0 0 4)) (o + 2)) ((ur (u2 (u2 I c 0 (I o 0)) c 1 ((u2 I c 0 (I o 0)) o 1)) (c + 1) (va_cpy ((u2 (u2 I c 0 (I o 0)) c 1 ((u2 I c 0 (I o 0)) o 1)) (o + 1)) ((u2 (u2 I c 0 (I o 0)) c 1 ((u2 I c 0 (I o 0)) o 1)) (c + 1)) 0 0 4)) (c + 2)) 0 0 4)) (o + 3)) ((ur (ur (u2 (u2 I c 0 (I o 0)) c 1 ((u2 I c 0 (I o 0)) o 1)) (c + 1) (va_cpy ((u2 (u2 I c 0 (I o 0)) c 1 ((u2 I c 0 (I o 0)) o 1)) (o + 1)) ((u2 (u2 I c 0 (I o 0)) c 1 ((u2 I c 0 (I o 0)) o 1)) (c + 1)) 0 0 4)) (c + 2) (va_cpy ((ur (u2 (u2 I c 0 (I o 0)) c 1 ((u2 I c 0 (I o 0)) o 1)) (c + 1) (va_cpy ((u2 (u2 I c 0 (I o 0)) c 1 ((u2 I c 0 (I o 0)) o 1)) (o + 1)) ((u2 (u2 I c 0 (I o 0)) c 1 ((u2 I c 0 (I o 0)) o 1)) (c + 1)) 0 0 4)) (o + 2)) ((ur (u2 (u2 I c 0 (I o 0)) c 1 ((u2 I c 0 (I o 0)) o 1)) (c + 1) (va_cpy ((u2 (u2 I c 0 (I o 0)) c 1 ((u2 I c 0 (I o 0)) o 1)) (o + 1)) ((u2 (u2 I c 0 (I o 0)) c 1 ((u2 I c 0 (I o 0)) o 1)) (c + 1)) 0 0 4)) (c + 2)) 0 0 4)) (c + 3)) 0 0 3)) (c + 4)) 0 0 3)) (c + 5) (va_cpy ((ur (ur (ur (ur (u2 (u2 I c 0 (I o 0)) c 1 ((u2 I c 0 (I o 0)) o 1)) (c + 1) (va_cpy ((u2 (u2 I c 0 (I o 0)) c 1 ((u2 I c 0 (I o 0)) o 1)) (o + 1)) ((u2 (u2 I c 0 (I o 0)) c 1 ((u2 I c 0 (I o 0)) o 1)) (c + 1)) 0 0 4)) (c + 2) (va_cpy ((ur (u2 (u2 I c 0 (I o 0)) c 1 ((u2 I c 0 (I o 0)) o 1)) (c + 1) (va_cpy ((u2 (u2 I c 0 (I o 0)) c 1 ((u2 I c 0 (I o 0)) o 1)) (o + 1)) ((u2 (u2 I c 0 (I o 0)) c 1 ((u2 I c 0 (I o 0)) o 1)) (c + 1)) 0 0 4)) (o + 2)) ((ur (u2 (u2 I c 0 (I o 0)) c 1 ((u2 I c 0 (I o 0)) o 1)) (c + 1) (va_cpy ((u2 (u2 I c 0 (I o 0)) c 1 ((u2 I c 0 (I o 0)) o 1)) (o + 1)) ((u2 (u2 I c 0 (I o 0)) c 1 ((u2 I c 0 (I o 0)) o 1)) (c + 1)) 0 0 4)) (c + 2)) 0 0 4)) (c + 3) (va_cpy ((ur (ur (u2 (u2 I c 0 (I o 0)) c 1 ((u2 I c 0 (I o 0)) o 1)) (c + 1) (va_cpy ((u2 (u2 I c 0 (I o 0)) c 1 ((u2 I c 0 (I o 0)) o 1)) (o + 1)) ((u2 (u2 I c 0 (I o 0)) c 1 ((u2 I c 0 (I o 0)) o 1)) (c + 1)) 0 0 4)) (c + 2) (va_cpy ((ur (u2 (u2 I c 0 (I o 0)) c 1 ((u2 I c 0 (I o 0)) o 1)) (c + 1) (va_cpy ((u2 (u2 I c 0 (I o 0)) c 1 ((u2 I c 0 (I o 0)) o 1)) (o + 1)) ((u2 (u2 I c 0 (I o 0)) c 1 ((u2 I c 0 (I o 0)) o 1)) (c + 1)) 0 0 4)) (o + 2)) ((ur (u2 (u2 I c 0 (I o 0)) c 1 ((u2 I c 0 (I o 0)) o 1)) (c + 1) (va_cpy ((u2 (u2 I c 0 (I o 0)) c 1 ((u2 I c 0 (I o 0)) o 1)) (o + 1)) ((u2 (u2 I c 0 (I o 0)) c 1 ((u2 I c 0 (I o 0)) o 1)) (c + 1)) 0 0 4)) (c + 2)) 0 0 4)) (o + 3)) ((ur (ur (u2 (u2 I c 0 (I o 0)) c 1 ((u2 I c 0 (I o 0)) o 1)) (c + 1) (va_cpy ((u2 (u2 I c 0 (I o 0)) c 1 ((u2 I c 0 (I o 0)) o 1)) (o + 1)) ((u2 (u2 I c 0 (I o 0)) c 1 ((u2 I c 0 (I o 0)) o 1)) (c + 1)) 0 0 4)) (c + 2) (va_cpy ((ur (u2 (u2 I c 0 (I o 0)) c 1 ((u2 I c 0 (I o 0)) o 1)) (c + 1) (va_cpy ((u2 (u2 I c 0 (I o 0)) c 1 ((u2 I c 0 (I o 0)) o 1)) (o + 1)) ((u2 (u2 I c 0 (I o 0)) c 1 ((u2 I c 0 (I o 0)) o 1)) (c + 1)) 0 0 4)) (o + 2)) ((ur (u2 (u2 I c 0 (I o 0)) c 1 ((u2 I c 0 (I o 0)) o 1)) (c + 1) (va_cpy ((u2 (u2 I c 0 (I o 0)) c 1 ((u2 I c 0 (I o 0)) o 1)) (o + 1)) ((u2 (u2 I c 0 (I o 0)) c 1 ((u2 I c 0 (I o 0)) o 1)) (c + 1)) 0 0 4)) (c + 2)) 0 0 4)) (c + 3)) 0 0 3)) (c + 4) (va_cpy ((ur (ur (ur (u2 (u2 I c 0 (I o 0)) c 1 ((u2 I c 0 (I o 0)) o 1)) (c + 1) (va_cpy ((u2 (u2 I c 0 (I o 0)) c 1 ((u2 I c 0 (I o 0)) o 1)) (o + 1)) ((u2 (u2 I c 0 (I o 0)) c 1 ((u2 I c 0 (I o 0)) o 1)) (c + 1)) 0 0 4)) (c + 2) (va_cpy ((ur (u2 (u2 I c 0 (I o 0)) c 1 ((u2 I c 0 (I o 0)) o 1)) (c + 1) (va_cpy ((u2 (u2 I c 0 (I o 0)) c 1 ((u2 I c 0 (I o 0)) o 1)) (o + 1)) ((u2 (u2 I c 0 (I o 0)) c 1 ((u2 I c 0 (I o 0)) o 1)) (c + 1)) 0 0 4)) (o + 2)) ((ur (u2 (u2 I c 0 (I o 0)) c 1 ((u2 I c 0 (I o 0)) o 1)) (c + 1) (va_cpy ((u2 (u2 I c 0 (I o 0)) c 1 ((u2 I c 0 (I o 0)) o 1)) (o + 1)) ((u2 (u2 I c 0 (I o 0)) c 1 ((u2 I c 0 (I o 0)) o 1)) (c + 1)) 0 0 4)) (c + 2)) 0 0 4)) (c + 3) (va_cpy ((ur (ur (u2 (u2 I c 0 (I o 0)) c 1 ((u2 I c 0 (I o 0)) o 1)) (c + 1) (va_cpy ((u2 (u2 I c 0 (I o 0)) c 1 ((u2 I c 0 (I o 0)) o 1)) (o + 1)) ((u2 (u2 I c 0 (I o 0)) c 1 ((u2 I c 0 (I o 0)) o 1)) (c + 1)) 0 0 4)) (c + 2) (va_cpy ((ur (u2 (u2 I c 0 (I o 0)) c 1 ((u2 I c 0 (I o 0)) o 1)) (c + 1) (va_cpy ((u2 (u2 I c 0 (I o 0)) c 1 ((u2 I c 0 (I o 0)) o 1)) (o + 1)) ((u2 (u2 I c 0 (I o 0)) c 1 ((u2 I c 0 (I o 0)) o 1)) (c + 1)) 0 0 4)) (o + 2)) ((ur (u2 (u2 I c 0 (I o 0)) c 1 ((u2 I c 0 (I o 0)) o 1)) (c + 1) (va_cpy ((u2 (u2 I c 0 (I o 0)) c 1 ((u2 I c 0 (I o 0)) o 1)) (o + 1)) ((u2 (u2 I c 0 (I o 0)) c 1 ((u2 I c 0 (I o 0)) o 1)) (c + 1)) 0 0 4)) (c + 2)) 0 0 4)) (o + 3)) ((ur (ur (u2 (u2 I c 0 (I o 0)) c 1 ((u2 I c 0 (I o 0)) o 1)) (c + 1) (va_cpy ((u2 (u2 I c 0 (I o 0)) c 1 ((u2 I c 0 (I o 0)) o 1)) (o + 1)) ((u2 (u2 I c 0 (I o 0)) c 1 ((u2 I c 0 (I o 0)) o 1)) (c + 1)) 0 0 4)) (c + 2) (va_cpy ((ur (u2 (u2 I c 0 (I o 0)) c 1 ((u2 I c 0 (I o 0)) o 1)) (c + 1) (va_cpy ((u2 (u2 I c 0 (I o 0)) c 1 ((u2 I c 0 (I o 0)) o 1)) (o + 1)) ((u2 (u2 I c 0 (I o 0)) c 1 ((u2 I c 0 (I o 0)) o 1)) (c + 1)) 0 0 4)) (o + 2)) ((ur (u2 (u2 I c 0 (I o 0)) c 1 ((u2 I c 0 (I o 0)) o 1)) (c + 1) (va_cpy ((u2 (u2 I c 0 (I o 0)) c 1 ((u2 I c 0 (I o 0)) o 1)) (o + 1)) ((u2 (u2 I c 0 (I o 0)) c 1 ((u2 I c 0 (I o 0)) o 1)) (c + 1)) 0 0 4)) (c + 2)) 0 0 4)) (c + 3)) 0 0 3)) (o + 4)) ((ur (ur (ur (u2 (u2 I c 0 (I o 0)) c 1 ((u2 I c 0 (I o 0)) o 1)) (c + 1) (va_cpy ((u2 (u2 I c 0 (I o 0)) c 1 ((u2 I c 0 (I o 0)) o 1)) (o + 1)) ((u2 (u2 I c 0 (I o 0)) c 1 ((u2 I c 0 (I o 0)) o 1)) (c + 1)) 0 0 4)) (c + 2) (va_cpy ((ur (u2 (u2 I c 0 (I o 0)) c 1 ((u2 I c 0 (I o 0)) o 1)) (c + 1) (va_cpy ((u2 (u2 I c 0 (I o 0)) c 1 ((u2 I c 0 (I o 0)) o 1)) (o + 1)) ((u2 (u2 I c 0 (I o 0)) c 1 ((u2 I c 0 (I o 0)) o 1)) (c + 1)) 0 0 4)) (o + 2)) ((ur (u2 (u2 I c 0 (I o 0)) c 1 ((u2 I c 0 (I o 0)) o 1)) (c + 1) (va_cpy ((u2 (u2 I c 0 (I o 0)) c 1 ((u2 I c 0 (I o 0)) o 1)) (o + 1)) ((u2 (u2 I c 0 (I o 0)) c 1 ((u2 I c 0 (I o 0)) o 1)) (c + 1)) 0 0 4)) (c + 2)) 0 0 4)) (c + 3) (va_cpy ((ur (ur (u2 (u2 I c 0 (I o 0)) c 1 ((u2 I c 0 (I o 0)) o 1)) (c + 1) (va_cpy ((u2 (u2 I c 0 (I o 0)) c 1 ((u2 I c 0 (I o 0)) o 1)) (o + 1)) ((u2 (u2 I c 0 (I o 0)) c 1 ((u2 I c 0 (I o 0)) o 1)) (c + 1)) 0 0 4)) (c + 2) (va_cpy ((ur (u2 (u2 I c 0 (I o 0)) c 1 ((u2 I c 0 (I o 0)) o 1)) (c + 1) (va_cpy ((u2 (u2 I c 0 (I o 0)) c 1 ((u2 I c 0 (I o 0)) o 1)) (o + 1)) ((u2 (u2 I c 0 (I o 0)) c 1 ((u2 I c 0 (I o 0)) o 1)) (c + 1)) 0 0 4)) (o + 2)) ((ur (u2 (u2 I c 0 (I o 0)) c 1 ((u2 I c 0 (I o 0)) o 1)) (c + 1) (va_cpy ((u2 (u2 I c 0 (I o 0)) c 1 ((u2 I c 0 (I o 0)) o 1)) (o + 1)) ((u2 (u2 I c 0 (I o 0)) c 1 ((u2 I c 0 (I o 0)) o 1)) (c + 1)) 0 0 4)) (c + 2)) 0 0 4)) (o + 3)) ((ur (ur (u2 (u2 I c 0 (I o 0)) c 1 ((u2 I c 0 (I o 0)) o 1)) (c + 1) (va_cpy ((u2 (u2 I c 0 (I o 0)) c 1 ((u2 I c 0 (I o 0)) o 1)) (o + 1)) ((u2 (u2 I c 0 (I o 0)) c 1 ((u2 I c 0 (I o 0)) o 1)) (c + 1)) 0 0 4)) (c + 2) (va_cpy ((ur (u2 (u2 I c 0 (I o 0)) c 1 ((u2 I c 0 (I o 0)) o 1)) (c + 1) (va_cpy ((u2 (u2 I c 0 (I o 0)) c 1 ((u2 I c 0 (I o 0)) o 1)) (o + 1)) ((u2 (u2 I c 0 (I o 0)) c 1 ((u2 I c 0 (I o 0)) o 1)) (c + 1)) 0 0 4)) (o + 2)) ((ur (u2 (u2 I c 0 (I o 0)) c 1 ((u2 I c 0 (I o 0)) o 1)) (c + 1) (va_cpy ((u2 (u2 I c 0 (I o 0)) c 1 ((u2 I c 0 (I o 0)) o 1)) (o + 1)) ((u2 (u2 I c 0 (I o 0)) c 1 ((u2 I c 0 (I o 0)) o 1)) (c + 1)) 0 0 4)) (c + 2)) 0 0 4)) (c + 3)) 0 0 3)) (c + 4)) 0 0 3)) (o + 5)) ((ur (ur (ur (ur (u2 (u2 I c 0 (I o 0)) c 1 ((u2 I c 0 (I o 0)) o 1)) (c + 1) (va_cpy ((u2 (u2 I c 0 (I o 0)) c 1 ((u2 I c 0 (I o 0)) o 1)) (o + 1)) ((u2 (u2 I c 0 (I o 0)) c 1 ((u2 I c 0 (I o 0)) o 1)) (c + 1)) 0 0 4)) (c + 2) (va_cpy ((ur (u2 (u2 I c 0 (I o 0)) c 1 ((u2 I c 0 (I o 0)) o 1)) (c + 1) (va_cpy ((u2 (u2 I c 0 (I o 0)) c 1 ((u2 I c 0 (I o 0)) o 1)) (o + 1)) ((u2 (u2 I c 0 (I o 0)) c 1 ((u2 I c 0 (I o 0)) o 1)) (c + 1)) 0 0 4)) (o + 2)) ((ur (u2 (u2 I c 0 (I o 0)) c 1 ((u2 I c 0 (I o 0)) o 1)) (c + 1) (va_cpy ((u2 (u2 I c 0 (I o 0)) c 1 ((u2 I c 0 (I o 0)) o 1)) (o + 1)) ((u2 (u2 I c 0 (I o 0)) c 1 ((u2 I c 0 (I o 0)) o 1)) (c + 1)) 0 0 4)) (c + 2)) 0 0 4)) (c + 3) (va_cpy ((ur (ur (u2 (u2 I c 0 (I o 0)) c 1 ((u2 I c 0 (I o 0)) o 1)) (c + 1) (va_cpy ((u2 (u2 I c 0 (I o 0)) c 1 ((u2 I c 0 (I o 0)) o 1)) (o + 1)) ((u2 (u2 I c 0 (I o 0)) c 1 ((u2 I c 0 (I o 0)) o 1)) (c + 1)) 0 0 4)) (c + 2) (va_cpy ((ur (u2 (u2 I c 0 (I o 0)) c 1 ((u2 I c 0 (I o 0)) o 1)) (c + 1) (va_cpy ((u2 (u2 I c 0 (I o 0)) c 1 ((u2 I c 0 (I o 0)) o 1)) (o + 1)) ((u2 (u2 I c 0 (I o 0)) c 1 ((u2 I c 0 (I o 0)) o 1)) (c + 1)) 0 0 4)) (o + 2)) ((ur (u2 (u2 I c 0 (I o 0)) c 1 ((u2 I c 0 (I o 0)) o 1)) (c + 1) (va_cpy ((u2 (u2 I c 0 (I o 0)) c 1 ((u2 I c 0 (I o 0)) o 1)) (o + 1)) ((u2 (u2 I c 0 (I o 0)) c 1 ((u2 I c 0 (I o 0)) o 1)) (c + 1)) 0 0 4)) (c + 2)) 0 0 4)) (o + 3)) ((ur (ur (u2 (u2 I c 0 (I o 0)) c 1 ((u2 I c 0 (I o 0)) o 1)) (c + 1) (va_cpy ((u2 (u2 I c 0 (I o 0)) c 1 ((u2 I c 0 (I o 0)) o 1)) (o + 1)) ((u2 (u2 I c 0 (I o 0)) c 1 ((u2 I c 0 (I o 0)) o 1)) (c + 1)) 0 0 4)) (c + 2) (va_cpy ((ur (u2 (u2 I c 0 (I o 0)) c 1 ((u2 I c 0 (I o 0)) o 1)) (c + 1) (va_cpy ((u2 (u2 I c 0 (I o 0)) c 1 ((u2 I c 0 (I o 0)) o 1)) (o + 1)) ((u2 (u2 I c 0 (I o 0)) c 1 ((u2 I c 0 (I o 0)) o 1)) (c + 1)) 0 0 4)) (o + 2)) ((ur (u2 (u2 I c 0 (I o 0)) c 1 ((u2 I c 0 (I o 0)) o 1)) (c + 1) (va_cpy ((u2 (u2 I c 0 (I o 0)) c 1 ((u2 I c 0 (I o 0)) o 1)) (o + 1)) ((u2 (u2 I c 0 (I o 0)) c 1 ((u2 I c 0 (I o 0)) o 1)) (c + 1)) 0 0 4)) (c + 2)) 0 0 4)) (c + 3)) 0 0 3)) (c + 4) (va_cpy ((ur (ur (ur (u2 (u2 I c 0 (I o 0)) c 1 ((u2 I c 0 (I o 0)) o 1)) (c + 1) (va_cpy ((u2 (u2 I c 0 (I o 0)) c 1 ((u2 I c 0 (I o 0)) o 1)) (o + 1)) ((u2 (u2 I c 0 (I o 0)) c 1 ((u2 I c 0 (I o 0)) o 1)) (c + 1)) 0 0 4)) (c + 2) (va_cpy ((ur (u2 (u2 I c 0 (I o 0)) c 1 ((u2 I c 0 (I o 0)) o 1)) (c + 1) (va_cpy ((u2 (u2 I c 0 (I o 0)) c 1 ((u2 I c 0 (I o 0)) o 1)) (o + 1)) ((u2 (u2 I c 0 (I o 0)) c 1 ((u2 I c 0 (I o 0)) o 1)) (c + 1)) 0 0 4)) (o + 2)) ((ur (u2 (u2 I c 0 (I o 0)) c 1 ((u2 I c 0 (I o 0)) o 1)) (c + 1) (va_cpy ((u2 (u2 I c 0 (I o 0)) c 1 ((u2 I c 0 (I o 0)) o 1)) (o + 1)) ((u2 (u2 I c 0 (I o 0)) c 1 ((u2 I c 0 (I o 0)) o 1)) (c + 1)) 0 0 4)) (c + 2)) 0 0 4)) (c + 3) (va_cpy ((ur (ur (u2 (u2 I c 0 (I o 0)) c 1 ((u2 I c 0 (I o 0)) o 1)) (c + 1) (va_cpy ((u2 (u2 I c 0 (I o 0)) c 1 ((u2 I c 0 (I o 0)) o 1)) (o + 1)) ((u2 (u2 I c 0 (I o 0)) c 1 ((u2 I c 0 (I o 0)) o 1)) (c + 1)) 0 0 4)) (c + 2) (va_cpy ((ur (u2 (u2 I c 0 (I o 0)) c 1 ((u2 I c 0 (I o 0)) o 1)) (c + 1) (va_cpy ((u2 (u2 I c 0 (I o 0)) c 1 ((u2 I c 0 (I o 0)) o 1)) (o + 1)) ((u2 (u2 I c 0 (I o 0)) c 1 ((u2 I c 0 (I o 0)) o 1)) (c + 1)) 0 0 4)) (o + 2)) ((ur (u2 (u2 I c 0 (I o 0)) c 1 ((u2 I c 0 (I o 0)) o 1)) (c + 1) (va_cpy ((u2 (u2 I c 0 (I o 0)) c 1 ((u2 I c 0 (I o 0)) o 1)) (o + 1)) ((u2 (u2 I c 0 (I o 0)) c 1 ((u2 I c 0 (I o 0)) o 1)) (c + 1)) 0 0 4)) (c + 2)) 0 0 4)) (o + 3)) ((ur (ur (u2 (u2 I c 0 (I o 0)) c 1 ((u2 I c 0 (I o 0)) o 1)) (c + 1) (va_cpy ((u2 (u2 I c 0 (I o 0)) c 1 ((u2 I c 0 (I o 0)) o 1)) (o + 1)) ((u2 (u2 I c 0 (I o 0)) c 1 ((u2 I c 0 (I o 0)) o 1)) (c + 1)) 0 0 4)) (c + 2) (va_cpy ((ur (u2 (u2 I c 0 (I o 0)) c 1 ((u2 I c 0 (I o 0)) o 1)) (c + 1) (va_cpy ((u2 (u2 I c 0 (I o 0)) c 1 ((u2 I c 0 (I o 0)) o 1)) (o + 1)) ((u2 (u2 I c 0 (I o 0)) c 1 ((u2 I c 0 (I o 0)) o 1)) (c + 1)) 0 0 4)) (o + 2)) ((ur (u2 (u2 I c 0 (I o 0)) c 1 ((u2 I c 0 (I o 0)) o 1)) (c + 1) (va_cpy ((u2 (u2 I c 0 (I o 0)) c 1 ((u2 I c 0 (I o 0)) o 1)) (o + 1)) ((u2 (u2 I c 0 (I o 0)) c 1 ((u2 I c 0 (I o 0)) o 1)) (c + 1)) 0 0 4)) (c + 2)) 0 0 4)) (c + 3)) 0 0 3)) (o + 4)) ((ur (ur (ur (u2 (u2 I c 0 (I o 0)) c 1 ((u2 I c 0 (I o 0)) o 1)) (c + 1) (va_cpy ((u2 (u2 I c 0 (I o 0)) c 1 ((u2 I c 0 (I o 0)) o 1)) (o + 1)) ((u2 (u2 I c 0 (I o 0)) c 1 ((u2 I c 0 (I o 0)) o 1)) (c + 1)) 0 0 4)) (c + 2) (va_cpy ((ur (u2 (u2 I c 0 (I o 0)) c 1 ((u2 I c 0 (I o 0)) o 1)) (c + 1) (va_cpy ((u2 (u2 I c 0 (I o 0)) c 1 ((u2 I c 0 (I o 0)) o 1)) (o + 1)) ((u2 (u2 I c 0 (I o 0)) c 1 ((u2 I c 0 (I o 0)) o 1)) (c + 1)) 0 0 4)) (o + 2)) ((ur (u2 (u2 I c 0 (I o 0)) c 1 ((u2 I c 0 (I o 0)) o 1)) (c + 1) (va_cpy ((u2 (u2 I c 0 (I o 0)) c 1 ((u2 I c 0 (I o 0)) o 1)) (o + 1)) ((u2 (u2 I c 0 (I o 0)) c 1 ((u2 I c 0 (I o 0)) o 1)) (c + 1)) 0 0 4)) (c + 2)) 0 0 4)) (c + 3) (va_cpy ((ur (ur (u2 (u2 I c 0 (I o 0)) c 1 ((u2 I c 0 (I o 0)) o 1)) (c + 1) (va_cpy ((u2 (u2 I c 0 (I o 0)) c 1 ((u2 I c 0 (I o 0)) o 1)) (o + 1)) ((u2 (u2 I c 0 (I o 0)) c 1 ((u2 I c 0 (I o 0)) o 1)) (c + 1)) 0 0 4)) (c + 2) (va_cpy ((ur (u2 (u2 I c 0 (I o 0)) c 1 ((u2 I c 0 (I o 0)) o 1)) (c + 1) (va_cpy ((u2 (u2 I c 0 (I o 0)) c 1 ((u2 I c 0 (I o 0)) o 1)) (o + 1)) ((u2 (u2 I c 0 (I o 0)) c 1 ((u2 I c 0 (I o 0)) o 1)) (c + 1)) 0 0 4)) (o + 2)) ((ur (u2 (u2 I c 0 (I o 0)) c 1 ((u2 I c 0 (I o 0)) o 1)) (c + 1) (va_cpy ((u2 (u2 I c 0 (I o 0)) c 1 ((u2 I c 0 (I o 0)) o 1)) (o + 1)) ((u2 (u2 I c 0 (I o 0)) c 1 ((u2 I c 0 (I o 0)) o 1)) (c + 1)) 0 0 4)) (c + 2)) 0 0 4)) (o + 3)) ((ur (ur (u2 (u2 I c 0 (I o 0)) c 1 ((u2 I c 0 (I o 0)) o 1)) (c + 1) (va_cpy ((u2 (u2 I c 0 (I o 0)) c 1 ((u2 I c 0 (I o 0)) o 1)) (o + 1)) ((u2 (u2 I c 0 (I o 0)) c 1 ((u2 I c 0 (I o 0)) o 1)) (c + 1)) 0 0 4)) (c + 2) (va_cpy ((ur (u2 (u2 I c 0 (I o 0)) c 1 ((u2 I c 0 (I o 0)) o 1)) (c + 1) (va_cpy ((u2 (u2 I c 0 (I o 0)) c 1 ((u2 I c 0 (I o 0)) o 1)) (o + 1)) ((u2 (u2 I c 0 (I o 0)) c 1 ((u2 I c 0 (I o 0)) o 1)) (c + 1)) 0 0 4)) (o + 2)) ((ur (u2 (u2 I c 0 (I o 0)) c 1 ((u2 I c 0 (I o 0)) o 1)) (c + 1) (va_cpy ((u2 (u2 I c 0 (I o 0)) c 1 ((u2 I c 0 (I o 0)) o 1)) (o + 1)) ((u2 (u2 I c 0 (I o 0)) c 1 ((u2 I c 0 (I o 0)) o 1)) (c + 1)) 0 0 4)) (c + 2)) 0 0 4)) (c + 3)) 0 0 3)) (c + 4)) 0 0 3)) (c + 5)) 0 0 20)) c 7 ((ur (ur (ur (ur (ur (u2 (u2 I c 0 (I o 0)) c 1 ((u2 I c 0 (I o 0)) o 1)) (c + 1) (va_cpy ((u2 (u2 I c 0 (I o 0)) c 1 ((u2 I c 0 (I o 0)) o 1)) (o + 1)) ((u2 (u2 I c 0 (I o 0)) c 1 ((u2 I c 0 (I o 0)) o 1)) (c + 1)) 0 0 4)) (c + 2) (va_cpy ((ur (u2 (u2 I c 0 (I o 0)) c 1 ((u2 I c 0 (I o 0)) o 1)) (c + 1) (va_cpy ((u2 (u2 I c 0 (I o 0)) c 1 ((u2 I c 0 (I o 0)) o 1)) (o + 1)) ((u2 (u2 I c 0 (I o 0)) c 1 ((u2 I c 0 (I o 0)) o 1)) (c + 1)) 0 0 4)) (o + 2)) ((ur (u2 (u2 I c 0 (I o 0)) c 1 ((u2 I c 0 (I o 0)) o 1)) (c + 1) (va_cpy ((u2 (u2 I c 0 (I o 0)) c 1 ((u2 I c 0 (I o 0)) o 1)) (o + 1)) ((u2 (u2 I c 0 (I o 0)) c 1 ((u2 I c 0 (I o 0)) o 1)) (c + 1)) 0 0 4)) (c + 2)) 0 0 4)) (c + 3) (va_cpy ((ur (ur (u2 (u2 I c 0 (I o 0)) c 1 ((u2 I c 0 (I o 0)) o 1)) (c + 1) (va_cpy ((u2 (u2 I c 0 (I o 0)) c 1 ((u2 I c 0 (I o 0)) o 1)) (o + 1)) ((u2 (u2 I c 0 (I o 0)) c 1 ((u2 I c 0 (I o 0)) o 1)) (c + 1)) 0 0 4)) (c + 2) (va_cpy ((ur (u2 (u2 I c 0 (I o 0)) c 1 ((u2 I c 0 (I o 0)) o 1)) (c + 1) (va_cpy ((u2 (u2 I c 0 (I o 0)) c 1 ((u2 I c 0 (I o 0)) o 1)) (o + 1)) ((u2 (u2 I c 0 (I o 0)) c 1 ((u2 I c 0 (I o 0)) o 1)) (c + 1)) 0 0 4)) (o + 2)) ((ur (u2 (u2 I c 0 (I o 0)) c 1 ((u2 I c 0 (I o 0)) o 1)) (c + 1) (va_cpy ((u2 (u2 I c 0 (I o 0)) c 1 ((u2 I c 0 (I o 0)) o 1)) (o + 1)) ((u2 (u2 I c 0 (I o 0)) c 1 ((u2 I c 0 (I o 0)) o 1)) (c + 1)) 0 0 4)) (c + 2)) 0 0 4)) (o + 3)) ((ur (ur (u2 (u2 I c 0 (I o 0)) c 1 ((u2 I c 0 (I o 0)) o 1)) (c + 1) (va_cpy ((u2 (u2 I c 0 (I o 0)) c 1 ((u2 I c 0 (I o 0)) o 1)) (o + 1)) ((u2 (u2 I c 0 (I o 0)) c 1 ((u2 I c 0 (I o 0)) o 1)) (c + 1)) 0 0 4)) (c + 2) (va_cpy ((ur (u2 (u2 I c 0 (I o 0)) c 1 ((u2 I c 0 (I o 0)) o 1)) (c + 1) (va_cpy ((u2 (u2 I c 0 (I o 0)) c 1 ((u2 I c 0 (I o 0)) o 1)) (o + 1)) ((u2 (u2 I c 0 (I o 0)) c 1 ((u2 I c 0 (I o 0)) o 1)) (c + 1)) 0 0 4)) (o + 2)) ((ur (u2 (u2 I c 0 (I o 0)) c 1 ((u2 I c 0 (I o 0)) o 1)) (c + 1) (va_cpy ((u2 (u2 I c 0 (I o 0)) c 1 ((u2 I c 0 (I o 0)) o 1)) (o + 1)) ((u2 (u2 I c 0 (I o 0)) c 1 ((u2 I c 0 (I o 0)) o 1)) (c + 1)) 0 0 4)) (c + 2)) 0 0 4)) (c + 3)) 0 0 3)) (c + 4) (va_cpy ((ur (ur (ur (u2 (u2 I c 0 (I o 0)) c 1 ((u2 I c 0 (I o 0)) o 1)) (c + 1) (va_cpy ((u2 (u2 I c 0 (I o 0)) c 1 ((u2 I c 0 (I o 0)) o 1)) (o + 1)) ((u2 (u2 I c 0 (I o 0)) c 1 ((u2 I c 0 (I o 0)) o 1)) (c + 1)) 0 0 4)) (c + 2) (va_cpy ((ur (u2 (u2 I c 0 (I o 0)) c 1 ((u2 I c 0 (I o 0)) o 1)) (c + 1) (va_cpy ((u2 (u2 I c 0 (I o 0)) c 1 ((u2 I c 0 (I o 0)) o 1)) (o + 1)) ((u2 (u2 I c 0 (I o 0)) c 1 ((u2 I c 0 (I o 0)) o 1)) (c + 1)) 0 0 4)) (o + 2)) ((ur (u2 (u2 I c 0 (I o 0)) c 1 ((u2 I c 0 (I o 0)) o 1)) (c + 1) (va_cpy ((u2 (u2 I c 0 (I o 0)) c 1 ((u2 I c 0 (I o 0)) o 1)) (o + 1)) ((u2 (u2 I c 0 (I o 0)) c 1 ((u2 I c 0 (I o 0)) o 1)) (c + 1)) 0 0 4)) (c + 2)) 0 0 4)) (c + 3) (va_cpy ((ur (ur (u2 (u2 I c 0 (I o 0)) c 1 ((u2 I c 0 (I o 0)) o 1)) (c + 1) (va_cpy ((u2 (u2 I c 0 (I o 0)) c 1 ((u2 I c 0 (I o 0)) o 1)) (o + 1)) ((u2 (u2 I c 0 (I o 0)) c 1 ((u2 I c 0 (I o 0)) o 1)) (c + 1)) 0 0 4)) (c + 2) (va_cpy ((ur (u2 (u2 I c 0 (I o 0)) c 1 ((u2 I c 0 (I o 0)) o 1)) (c + 1) (va_cpy ((u2 (u2 I c 0 (I o 0)) c 1 ((u2 I c 0 (I o 0)) o 1)) (o + 1)) ((u2 (u2 I c 0 (I o 0)) c 1 ((u2 I c 0 (I o 0)) o 1)) (c + 1)) 0 0 4)) (o + 2)) ((ur (u2 (u2 I c 0 (I o 0)) c 1 ((u2 I c 0 (I o 0)) o 1)) (c + 1) (va_cpy ((u2 (u2 I c 0 (I o 0)) c 1 ((u2 I c 0 (I o 0)) o 1)) (o + 1)) ((u2 (u2 I c 0 (I o 0)) c 1 ((u2 I c 0 (I o 0)) o 1)) (c + 1)) 0 0 4)) (c + 2)) 0 0 4)) (o + 3)) ((ur (ur (u2 (u2 I c 0 (I o 0)) c 1 ((u2 I c 0 (I o 0)) o 1)) (c + 1) (va_cpy ((u2 (u2 I c 0 (I o 0)) c 1 ((u2 I c 0 (I o 0)) o 1)) (o + 1)) ((u2 (u2 I c 0 (I o 0)) c 1 ((u2 I c 0 (I o 0)) o 1)) (c + 1)) 0 0 4)) (c + 2) (va_cpy ((ur (u2 (u2 I c 0 (I o 0)) c 1 ((u2 I c 0 (I o 0)) o 1)) (c + 1) (va_cpy ((u2 (u2 I c 0 (I o 0)) c 1 ((u2 I c 0 (I o 0)) o 1)) (o + 1)) ((u2 (u2 I c 0 (I o 0)) c 1 ((u2 I c 0 (I o 0)) o 1)) (c + 1)) 0 0 4)) (o + 2)) ((ur (u2 (u2 I c 0 (I o 0)) c 1 ((u2 I c 0 (I o 0)) o 1)) (c + 1) (va_cpy ((u2 (u2 I c 0 (I o 0)) c 1 ((u2 I c 0 (I o 0)) o 1)) (o + 1)) ((u2 (u2 I c 0 (I o 0)) c 1 ((u2 I c 0 (I o 0)) o 1)) (c + 1)) 0 0 4)) (c + 2)) 0 0 4)) (c + 3)) 0 0 3)) (o + 4)) ((ur (ur (ur (u2 (u2 I c 0 (I o 0)) c 1 ((u2 I c 0 (I o 0)) o 1)) (c + 1) (va_cpy ((u2 (u2 I c 0 (I o 0)) c 1 ((u2 I c 0 (I o 0)) o 1)) (o + 1)) ((u2 (u2 I c 0 (I o 0)) c 1 ((u2 I c 0 (I o 0)) o 1)) (c + 1)) 0 0 4)) (c + 2) (va_cpy ((ur (u2 (u2 I c 0 (I o 0)) c 1 ((u2 I c 0 (I o 0)) o 1)) (c + 1) (va_cpy ((u2 (u2 I c 0 (I o 0)) c 1 ((u2 I c 0 (I o 0)) o 1)) (o + 1)) ((u2 (u2 I c 0 (I o 0)) c 1 ((u2 I c 0 (I o 0)) o 1)) (c + 1)) 0 0 4)) (o + 2)) ((ur (u2 (u2 I c 0 (I o 0)) c 1 ((u2 I c 0 (I o 0)) o 1)) (c + 1) (va_cpy ((u2 (u2 I c 0 (I o 0)) c 1 ((u2 I c 0 (I o 0)) o 1)) (o + 1)) ((u2 (u2 I c 0 (I o 0)) c 1 ((u2 I c 0 (I o 0)) o 1)) (c + 1)) 0 0 4)) (c + 2)) 0 0 4)) (c + 3) (va_cpy ((ur (ur (u2 (u2 I c 0 (I o 0)) c 1 ((u2 I c 0 (I o 0)) o 1)) (c + 1) (va_cpy ((u2 (u2 I c 0 (I o 0)) c 1 ((u2 I c 0 (I o 0)) o 1)) (o + 1)) ((u2 (u2 I c 0 (I o 0)) c 1 ((u2 I c 0 (I o 0)) o 1)) (c + 1)) 0 0 4)) (c + 2) (va_cpy ((ur (u2 (u2 I c 0 (I o 0)) c 1 ((u2 I c 0 (I o 0)) o 1)) (c + 1) (va_cpy ((u2 (u2 I c 0 (I o 0)) c 1 ((u2 I c 0 (I o 0)) o 1)) (o + 1)) ((u2 (u2 I c 0 (I o 0)) c 1 ((u2 I c 0 (I o 0)) o 1)) (c + 1)) 0 0 4)) (o + 2)) ((ur (u2 (u2 I c 0 (I o 0)) c 1 ((u2 I c 0 (I o 0)) o 1)) (c + 1) (va_cpy ((u2 (u2 I c 0 (I o 0)) c 1 ((u2 I c 0 (I o 0)) o 1)) (o + 1)) ((u2 (u2 I c 0 (I o 0)) c 1 ((u2 I c 0 (I o 0)) o 1)) (c + 1)) 0 0 4)) (c + 2)) 0 0 4)) (o + 3)) ((ur (ur (u2 (u2 I c 0 (I o 0)) c 1 ((u2 I c 0 (I o 0)) o 1)) (c + 1) (va_cpy ((u2 (u2 I c 0 (I o 0)) c 1 ((u2 I c 0 (I o 0)) o 1)) (o + 1)) ((u2 (u2 I c 0 (I o 0)) c 1 ((u2 I c 0 (I o 0)) o 1)) (c + 1)) 0 0 4)) (c + 2) (va_cpy ((ur (u2 (u2 I c 0 (I o 0)) c 1 ((u2 I c 0 (I o 0)) o 1)) (c + 1) (va_cpy ((u2 (u2 I c 0 (I o 0)) c 1 ((u2 I c 0 (I o 0)) o 1)) (o + 1)) ((u2 (u2 I c 0 (I o 0)) c 1 ((u2 I c 0 (I o 0)) o 1)) (c + 1)) 0 0 4)) (o + 2)) ((ur (u2 (u2 I c 0 (I o 0)) c 1 ((u2 I c 0 (I o 0)) o 1)) (c + 1) (va_cpy ((u2 (u2 I c 0 (I o 0)) c 1 ((u2 I c 0 (I o 0)) o 1)) (o + 1)) ((u2 (u2 I c 0 (I o 0)) c 1 ((u2 I c 0 (I o 0)) o 1)) (c + 1)) 0 0 4)) (c + 2)) 0 0 4)) (c + 3)) 0 0 3)) (c + 4)) 0 0 3)) (c + 5) (va_cpy ((ur (ur (ur (ur (u2 (u2 I c 0 (I o 0)) c 1 ((u2 I c 0 (I o 0)) o 1)) (c + 1) (va_cpy ((u2 (u2 I c 0 (I o 0)) c 1 ((u2 I c 0 (I o 0)) o 1)) (o + 1)) ((u2 (u2 I c 0 (I o 0)) c 1 ((u2 I c 0 (I o 0)) o 1)) (c + 1)) 0 0 4)) (c + 2) (va_cpy ((ur (u2 (u2 I c 0 (I o 0)) c 1 ((u2 I c 0 (I o 0)) o 1)) (c + 1) (va_cpy ((u2 (u2 I c 0 (I o 0)) c 1 ((u2 I c 0 (I o 0)) o 1)) (o + 1)) ((u2 (u2 I c 0 (I o 0)) c 1 ((u2 I c 0 (I o 0)) o 1)) (c + 1)) 0 0 4)) (o + 2)) ((ur (u2 (u2 I c 0 (I o 0)) c 1 ((u2 I c 0 (I o 0)) o 1)) (c + 1) (va_cpy ((u2 (u2 I c 0 (I o 0)) c 1 ((u2 I c 0 (I o 0)) o 1)) (o + 1)) ((u2 (u2 I c 0 (I o 0)) c 1 ((u2 I c 0 (I o 0)) o 1)) (c + 1)) 0 0 4)) (c + 2)) 0 0 4)) (c + 3) (va_cpy ((ur (ur (u2 (u2 I c 0 (I o 0)) c 1 ((u2 I c 0 (I o 0)) o 1)) (c + 1) (va_cpy ((u2 (u2 I c 0 (I o 0)) c 1 ((u2 I c 0 (I o 0)) o 1)) (o + 1)) ((u2 (u2 I c 0 (I o 0)) c 1 ((u2 I c 0 (I o 0)) o 1)) (c + 1)) 0 0 4)) (c + 2) (va_cpy ((ur (u2 (u2 I c 0 (I o 0)) c 1 ((u2 I c 0 (I o 0)) o 1)) (c + 1) (va_cpy ((u2 (u2 I c 0 (I o 0)) c 1 ((u2 I c 0 (I o 0)) o 1)) (o + 1)) ((u2 (u2 I c 0 (I o 0)) c 1 ((u2 I c 0 (I o 0)) o 1)) (c + 1)) 0 0 4)) (o + 2)) ((ur (u2 (u2 I c 0 (I o 0)) c 1 ((u2 I c 0 (I o 0)) o 1)) (c + 1) (va_cpy ((u2 (u2 I c 0 (I o 0)) c 1 ((u2 I c 0 (I o 0)) o 1)) (o + 1)) ((u2 (u2 I c 0 (I o 0)) c 1 ((u2 I c 0 (I o 0)) o 1)) (c + 1)) 0 0 4)) (c + 2)) 0 0 4)) (o + 3)) ((ur (ur (u2 (u2 I c 0 (I o 0)) c 1 ((u2 I c 0 (I o 0)) o 1)) (c + 1) (va_cpy ((u2 (u2 I c 0 (I o 0)) c 1 ((u2 I c 0 (I o 0)) o 1)) (o + 1)) ((u2 (u2 I c 0 (I o 0)) c 1 ((u2 I c 0 (I o 0)) o 1)) (c + 1)) 0 0 4)) (c + 2) (va_cpy ((ur (u2 (u2 I c 0 (I o 0)) c 1 ((u2 I c 0 (I o 0)) o 1)) (c + 1) (va_cpy ((u2 (u2 I c 0 (I o 0)) c 1 ((u2 I c 0 (I o 0)) o 1)) (o + 1)) ((u2 (u2 I c 0 (I o 0)) c 1 ((u2 I c 0 (I o 0)) o 1)) (c + 1)) 0 0 4)) (o + 2)) ((ur (u2 (u2 I c 0 (I o 0)) c 1 ((u2 I c 0 (I o 0)) o 1)) (c + 1) (va_cpy ((u2 (u2 I c 0 (I o 0)) c 1 ((u2 I c 0 (I o 0)) o 1)) (o + 1)) ((u2 (u2 I c 0 (I o 0)) c 1 ((u2 I c 0 (I o 0)) o 1)) (c + 1)) 0 0 4)) (c + 2)) 0 0 4)) (c + 3)) 0 0 3)) (c + 4) (va_cpy ((ur (ur (ur (u2 (u2 I c 0 (I o 0)) c 1 ((u2 I c 0 (I o 0)) o 1)) (c + 1) (va_cpy ((u2 (u2 I c 0 (I o 0)) c 1 ((u2 I c 0 (I o 0)) o 1)) (o + 1)) ((u2 (u2 I c 0 (I o 0)) c 1 ((u2 I c 0 (I o 0)) o 1)) (c + 1)) 0 0 4)) (c + 2) (va_cpy ((ur (u2 (u2 I c 0 (I o 0)) c 1 ((u2 I c 0 (I o 0)) o 1)) (c + 1) (va_cpy ((u2 (u2 I c 0 (I o 0)) c 1 ((u2 I c 0 (I o 0)) o 1)) (o + 1)) ((u2 (u2 I c 0 (I o 0)) c 1 ((u2 I c 0 (I o 0)) o 1)) (c + 1)) 0 0 4)) (o + 2)) ((ur (u2 (u2 I c 0 (I o 0)) c 1 ((u2 I c 0 (I o 0)) o 1)) (c + 1) (va_cpy ((u2 (u2 I c 0 (I o 0)) c 1 ((u2 I c 0 (I o 0)) o 1)) (o + 1)) ((u2 (u2 I c 0 (I o 0)) c 1 ((u2 I c 0 (I o 0)) o 1)) (c + 1)) 0 0 4)) (c + 2)) 0 0 4)) (c + 3) (va_cpy ((ur (ur (u2 (u2 I c 0 (I o 0)) c 1 ((u2 I c 0 (I o 0)) o 1)) (c + 1) (va_cpy ((u2 (u2 I c 0 (I o 0)) c 1 ((u2 I c 0 (I o 0)) o 1)) (o + 1)) ((u2 (u2 I c 0 (I o 0)) c 1 ((u2 I c 0 (I o 0)) o 1)) (c + 1)) 0 0 4)) (c + 2) (va_cpy ((ur (u2 (u2 I c 0 (I o 0)) c 1 ((u2 I c 0 (I o 0)) o 1)) (c + 1) (va_cpy ((u2 (u2 I c 0 (I o 0)) c 1 ((u2 I c 0 (I o 0)) o 1)) (o + 1)) ((u2 (u2 I c 0 (I o 0)) c 1 ((u2 I c 0 (I o 0)) o 1)) (c + 1)) 0 0 4)) (o + 2)) ((ur (u2 (u2 I c 0 (I o 0)) c 1 ((u2 I c 0 (I o 0)) o 1)) (c + 1) (va_cpy ((u2 (u2 I c 0 (I o 0)) c 1 ((u2 I c 0 (I o 0)) o 1)) (o + 1)) ((u2 (u2 I c 0 (I o 0)) c 1 ((u2 I c 0 (I o 0)) o 1)) (c + 1)) 0 0 4)) (c + 2)) 0 0 4)) (o + 3)) ((ur (ur (u2 (u2 I c 0 (I o 0)) c 1 ((u2 I c 0 (I o 0)) o 1)) (c + 1) (va_cpy ((u2 (u2 I c 0 (I o 0)) c 1 ((u2 I c 0 (I o 0)) o 1)) (o + 1)) ((u2 (u2 I c 0 (I o 0)) c 1 ((u2 I c 0 (I o 0)) o 1)) (c + 1)) 0 0 4)) (c + 2) (va_cpy ((ur (u2 (u2 I c 0 (I o 0)) c 1 ((u2 I c 0 (I o 0)) o 1)) (c + 1) (va_cpy ((u2 (u2 I c 0 (I o 0)) c 1 ((u2 I c 0 (I o 0)) o 1)) (o + 1)) ((u2 (u2 I c 0 (I o 0)) c 1 ((u2 I c 0 (I o 0)) o 1)) (c + 1)) 0 0 4)) (o + 2)) ((ur (u2 (u2 I c 0 (I o 0)) c 1 ((u2 I c 0 (I o 0)) o 1)) (c + 1) (va_cpy ((u2 (u2 I c 0 (I o 0)) c 1 ((u2 I c 0 (I o 0)) o 1)) (o + 1)) ((u2 (u2 I c 0 (I o 0)) c 1 ((u2 I c 0 (I o 0)) o 1)) (c + 1)) 0 0 4)) (c + 2)) 0 0 4)) (c + 3)) 0 0 3)) (o + 4)) ((ur (ur (ur (u2 (u2 I c 0 (I o 0)) c 1 ((u2 I c 0 (I o 0)) o 1)) (c + 1) (va_cpy ((u2 (u2 I c 0 (I o 0)) c 1 ((u2 I c 0 (I o 0)) o 1)) (o + 1)) ((u2 (u2 I c 0 (I o 0)) c 1 ((u2 I c 0 (I o 0)) o 1)) (c + 1)) 0 0 4)) (c + 2) (va_cpy ((ur (u2 (u2 I c 0 (I o 0)) c 1 ((u2 I c 0 (I o 0)) o 1)) (c + 1) (va_cpy ((u2 (u2 I c 0 (I o 0)) c 1 ((u2 I c 0 (I o 0)) o 1)) (o + 1)) ((u2 (u2 I c 0 (I o 0)) c 1 ((u2 I c 0 (I o 0)) o 1)) (c + 1)) 0 0 4)) (o + 2)) ((ur (u2 (u2 I c 0 (I o 0)) c 1 ((u2 I c 0 (I o 0)) o 1)) (c + 1) (va_cpy ((u2 (u2 I c 0 (I o 0)) c 1 ((u2 I c 0 (I o 0)) o 1)) (o + 1)) ((u2 (u2 I c 0 (I o 0)) c 1 ((u2 I c 0 (I o 0)) o 1)) (c + 1)) 0 0 4)) (c + 2)) 0 0 4)) (c + 3) (va_cpy ((ur (ur (u2 (u2 I c 0 (I o 0)) c 1 ((u2 I c 0 (I o 0)) o 1)) (c + 1) (va_cpy ((u2 (u2 I c 0 (I o 0)) c 1 ((u2 I c 0 (I o 0)) o 1)) (o + 1)) ((u2 (u2 I c 0 (I o 0)) c 1 ((u2 I c 0 (I o 0)) o 1)) (c + 1)) 0 0 4)) (c + 2) (va_cpy ((ur (u2 (u2 I c 0 (I o 0)) c 1 ((u2 I c 0 (I o 0)) o 1)) (c + 1) (va_cpy ((u2 (u2 I c 0 (I o 0)) c 1 ((u2 I c 0 (I o 0)) o 1)) (o + 1)) ((u2 (u2 I c 0 (I o 0)) c 1 ((u2 I c 0 (I o 0)) o 1)) (c + 1)) 0 0 4)) (o + 2)) ((ur (u2 (u2 I c 0 (I o 0)) c 1 ((u2 I c 0 (I o 0)) o 1)) (c + 1) (va_cpy ((u2 (u2 I c 0 (I o 0)) c 1 ((u2 I c 0 (I o 0)) o 1)) (o + 1)) ((u2 (u2 I c 0 (I o 0)) c 1 ((u2 I c 0 (I o 0)) o 1)) (c + 1)) 0 0 4)) (c + 2)) 0 0 4)) (o + 3)) ((ur (ur (u2 (u2 I c 0 (I o 0)) c 1 ((u2 I c 0 (I o 0)) o 1)) (c + 1) (va_cpy ((u2 (u2 I c 0 (I o 0)) c 1 ((u2 I c 0 (I o 0)) o 1)) (o + 1)) ((u2 (u2 I c 0 (I o 0)) c 1 ((u2 I c 0 (I o 0)) o 1)) (c + 1)) 0 0 4)) (c + 2) (va_cpy ((ur (u2 (u2 I c 0 (I o 0)) c 1 ((u2 I c 0 (I o 0)) o 1)) (c + 1) (va_cpy ((u2 (u2 I c 0 (I o 0)) c 1 ((u2 I c 0 (I o 0)) o 1)) (o + 1)) ((u2 (u2 I c 0 (I o 0)) c 1 ((u2 I c 0 (I o 0)) o 1)) (c + 1)) 0 0 4)) (o + 2)) ((ur (u2 (u2 I c 0 (I o 0)) c 1 ((u2 I c 0 (I o 0)) o 1)) (c + 1) (va_cpy ((u2 (u2 I c 0 (I o 0)) c 1 ((u2 I c 0 (I o 0)) o 1)) (o + 1)) ((u2 (u2 I c 0 (I o 0)) c 1 ((u2 I c 0 (I o 0)) o 1)) (c + 1)) 0 0 4)) (c + 2)) 0 0 4)) (c + 3)) 0 0 3)) (c + 4)) 0 0 3)) (o + 5)) ((ur (ur (ur (ur (u2 (u2 I c 0 (I o 0)) c 1 ((u2 I c 0 (I o 0)) o 1)) (c + 1) (va_cpy ((u2 (u2 I c 0 (I o 0)) c 1 ((u2 I c 0 (I o 0)) o 1)) (o + 1)) ((u2 (u2 I c 0 (I o 0)) c 1 ((u2 I c 0 (I o 0)) o 1)) (c + 1)) 0 0 4)) (c + 2) (va_cpy ((ur (u2 (u2 I c 0 (I o 0)) c 1 ((u2 I c 0 (I o 0)) o 1)) (c + 1) (va_cpy ((u2 (u2 I c 0 (I o 0)) c 1 ((u2 I c 0 (I o 0)) o 1)) (o + 1)) ((u2 (u2 I c 0 (I o 0)) c 1 ((u2 I c 0 (I o 0)) o 1)) (c + 1)) 0 0 4)) (o + 2)) ((ur (u2 (u2 I c 0 (I o 0)) c 1 ((u2 I c 0 (I o 0)) o 1)) (c + 1) (va_cpy ((u2 (u2 I c 0 (I o 0)) c 1 ((u2 I c 0 (I o 0)) o 1)) (o + 1)) ((u2 (u2 I c 0 (I o 0)) c 1 ((u2 I c 0 (I o 0)) o 1)) (c + 1)) 0 0 4)) (c + 2)) 0 0 4)) (c + 3) (va_cpy ((ur (ur (u2 (u2 I c 0 (I o 0)) c 1 ((u2 I c 0 (I o 0)) o 1)) (c + 1) (va_cpy ((u2 (u2 I c 0 (I o 0)) c 1 ((u2 I c 0 (I o 0)) o 1)) (o + 1)) ((u2 (u2 I c 0 (I o 0)) c 1 ((u2 I c 0 (I o 0)) o 1)) (c + 1)) 0 0 4)) (c + 2) (va_cpy ((ur (u2 (u2 I c 0 (I o 0)) c 1 ((u2 I c 0 (I o 0)) o 1)) (c + 1) (va_cpy ((u2 (u2 I c 0 (I o 0)) c 1 ((u2 I c 0 (I o 0)) o 1)) (o + 1)) ((u2 (u2 I c 0 (I o 0)) c 1 ((u2 I c 0 (I o 0)) o 1)) (c + 1)) 0 0 4)) (o + 2)) ((ur (u2 (u2 I c 0 (I o 0)) c 1 ((u2 I c 0 (I o 0)) o 1)) (c + 1) (va_cpy ((u2 (u2 I c 0 (I o 0)) c 1 ((u2 I c 0 (I o 0)) o 1)) (o + 1)) ((u2 (u2 I c 0 (I o 0)) c 1 ((u2 I c 0 (I o 0)) o 1)) (c + 1)) 0 0 4)) (c + 2)) 0 0 4)) (o + 3)) ((ur (ur (u2 (u2 I c 0 (I o 0)) c 1 ((u2 I c 0 (I o 0)) o 1)) (c + 1) (va_cpy ((u2 (u2 I c 0 (I o 0)) c 1 ((u2 I c 0 (I o 0)) o 1)) (o + 1)) ((u2 (u2 I c 0 (I o 0)) c 1 ((u2 I c 0 (I o 0)) o 1)) (c + 1)) 0 0 4)) (c + 2) (va_cpy ((ur (u2 (u2 I c 0 (I o 0)) c 1 ((u2 I c 0 (I o 0)) o 1)) (c + 1) (va_cpy ((u2 (u2 I c 0 (I o 0)) c 1 ((u2 I c 0 (I o 0)) o 1)) (o + 1)) ((u2 (u2 I c 0 (I o 0)) c 1 ((u2 I c 0 (I o 0)) o 1)) (c + 1)) 0 0 4)) (o + 2)) ((ur (u2 (u2 I c 0 (I o 0)) c 1 ((u2 I c 0 (I o 0)) o 1)) (c + 1) (va_cpy ((u2 (u2 I c 0 (I o 0)) c 1 ((u2 I c 0 (I o 0)) o 1)) (o + 1)) ((u2 (u2 I c 0 (I o 0)) c 1 ((u2 I c 0 (I o 0)) o 1)) (c + 1)) 0 0 4)) (c + 2)) 0 0 4)) (c + 3)) 0 0 3)) (c + 4) (va_cpy ((ur (ur (ur (u2 (u2 I c 0 (I o 0)) c 1 ((u2 I c 0 (I o 0)) o 1)) (c + 1) (va_cpy ((u2 (u2 I c 0 (I o 0)) c 1 ((u2 I c 0 (I o 0)) o 1)) (o + 1)) ((u2 (u2 I c 0 (I o 0)) c 1 ((u2 I c 0 (I o 0)) o 1)) (c + 1)) 0 0 4)) (c + 2) (va_cpy ((ur (u2 (u2 I c 0 (I o 0)) c 1 ((u2 I c 0 (I o 0)) o 1)) (c + 1) (va_cpy ((u2 (u2 I c 0 (I o 0)) c 1 ((u2 I c 0 (I o 0)) o 1)) (o + 1)) ((u2 (u2 I c 0 (I o 0)) c 1 ((u2 I c 0 (I o 0)) o 1)) (c + 1)) 0 0 4)) (o + 2)) ((ur (u2 (u2 I c 0 (I o 0)) c 1 ((u2 I c 0 (I o 0)) o 1)) (c + 1) (va_cpy ((u2 (u2 I c 0 (I o 0)) c 1 ((u2 I c 0 (I o 0)) o 1)) (o + 1)) ((u2 (u2 I c 0 (I o 0)) c 1 ((u2 I c 0 (I o 0)) o 1)) (c + 1)) 0 0 4)) (c + 2)) 0 0 4)) (c + 3) (va_cpy ((ur (ur (u2 (u2 I c 0 (I o 0)) c 1 ((u2 I c 0 (I o 0)) o 1)) (c + 1) (va_cpy ((u2 (u2 I c 0 (I o 0)) c 1 ((u2 I c 0 (I o 0)) o 1)) (o + 1)) ((u2 (u2 I c 0 (I o 0)) c 1 ((u2 I c 0 (I o 0)) o 1)) (c + 1)) 0 0 4)) (c + 2) (va_cpy ((ur (u2 (u2 I c 0 (I o 0)) c 1 ((u2 I c 0 (I o 0)) o 1)) (c + 1) (va_cpy ((u2 (u2 I c 0 (I o 0)) c 1 ((u2 I c 0 (I o 0)) o 1)) (o + 1)) ((u2 (u2 I c 0 (I o 0)) c 1 ((u2 I c 0 (I o 0)) o 1)) (c + 1)) 0 0 4)) (o + 2)) ((ur (u2 (u2 I c 0 (I o 0)) c 1 ((u2 I c 0 (I o 0)) o 1)) (c + 1) (va_cpy ((u2 (u2 I c 0 (I o 0)) c 1 ((u2 I c 0 (I o 0)) o 1)) (o + 1)) ((u2 (u2 I c 0 (I o 0)) c 1 ((u2 I c 0 (I o 0)) o 1)) (c + 1)) 0 0 4)) (c + 2)) 0 0 4)) (o + 3)) ((ur (ur (u2 (u2 I c 0 (I o 0)) c 1 ((u2 I c 0 (I o 0)) o 1)) (c + 1) (va_cpy ((u2 (u2 I c 0 (I o 0)) c 1 ((u2 I c 0 (I o 0)) o 1)) (o + 1)) ((u2 (u2 I c 0 (I o 0)) c 1 ((u2 I c 0 (I o 0)) o 1)) (c + 1)) 0 0 4)) (c + 2) (va_cpy ((ur (u2 (u2 I c 0 (I o 0)) c 1 ((u2 I c 0 (I o 0)) o 1)) (c + 1) (va_cpy ((u2 (u2 I c 0 (I o 0)) c 1 ((u2 I c 0 (I o 0)) o 1)) (o + 1)) ((u2 (u2 I c 0 (I o 0)) c 1 ((u2 I c 0 (I o 0)) o 1)) (c + 1)) 0 0 4)) (o + 2)) ((ur (u2 (u2 I c 0 (I o 0)) c 1 ((u2 I c 0 (I o 0)) o 1)) (c + 1) (va_cpy ((u2 (u2 I c 0 (I o 0)) c 1 ((u2 I c 0 (I o 0)) o 1)) (o + 1)) ((u2 (u2 I c 0 (I o 0)) c 1 ((u2 I c 0 (I o 0)) o 1)) (c + 1)) 0 0 4)) (c + 2)) 0 0 4)) (c + 3)) 0 0 3)) (o + 4)) ((ur (ur (ur (u2 (u2 I c 0 (I o 0)) c 1 ((u2 I c 0 (I o 0)) o 1)) (c + 1) (va_cpy ((u2 (u2 I c 0 (I o 0)) c 1 ((u2 I c 0 (I o 0)) o 1)) (o + 1)) ((u2 (u2 I c 0 (I o 0)) c 1 ((u2 I c 0 (I o 0)) o 1)) (c + 1)) 0 0 4)) (c + 2) (va_cpy ((ur (u2 (u2 I c 0 (I o 0)) c 1 ((u2 I c 0 (I o 0)) o 1)) (c + 1) (va_cpy ((u2 (u2 I c 0 (I o 0)) c 1 ((u2 I c 0 (I o 0)) o 1)) (o + 1)) ((u2 (u2 I c 0 (I o 0)) c 1 ((u2 I c 0 (I o 0)) o 1)) (c + 1)) 0 0 4)) (o + 2)) ((ur (u2 (u2 I c 0 (I o 0)) c 1 ((u2 I c 0 (I o 0)) o 1)) (c + 1) (va_cpy ((u2 (u2 I c 0 (I o 0)) c 1 ((u2 I c 0 (I o 0)) o 1)) (o + 1)) ((u2 (u2 I c 0 (I o 0)) c 1 ((u2 I c 0 (I o 0)) o 1)) (c + 1)) 0 0 4)) (c + 2)) 0 0 4)) (c + 3) (va_cpy ((ur (ur (u2 (u2 I c 0 (I o 0)) c 1 ((u2 I c 0 (I o 0)) o 1)) (c + 1) (va_cpy ((u2 (u2 I c 0 (I o 0)) c 1 ((u2 I c 0 (I o 0)) o 1)) (o + 1)) ((u2 (u2 I c 0 (I o 0)) c 1 ((u2 I c 0 (I o 0)) o 1)) (c + 1)) 0 0 4)) (c + 2) (va_cpy ((ur (u2 (u2 I c 0 (I o 0)) c 1 ((u2 I c 0 (I o 0)) o 1)) (c + 1) (va_cpy ((u2 (u2 I c 0 (I o 0)) c 1 ((u2 I c 0 (I o 0)) o 1)) (o + 1)) ((u2 (u2 I c 0 (I o 0)) c 1 ((u2 I c 0 (I o 0)) o 1)) (c + 1)) 0 0 4)) (o + 2)) ((ur (u2 (u2 I c 0 (I o 0)) c 1 ((u2 I c 0 (I o 0)) o 1)) (c + 1) (va_cpy ((u2 (u2 I c 0 (I o 0)) c 1 ((u2 I c 0 (I o 0)) o 1)) (o + 1)) ((u2 (u2 I c 0 (I o 0)) c 1 ((u2 I c 0 (I o 0)) o 1)) (c + 1)) 0 0 4)) (c + 2)) 0 0 4)) (o + 3)) ((ur (ur (u2 (u2 I c 0 (I o 0)) c 1 ((u2 I c 0 (I o 0)) o 1)) (c + 1) (va_cpy ((u2 (u2 I c 0 (I o 0)) c 1 ((u2 I c 0 (I o 0)) o 1)) (o + 1)) ((u2 (u2 I c 0 (I o 0)) c 1 ((u2 I c 0 (I o 0)) o 1)) (c + 1)) 0 0 4)) (c + 2) (va_cpy ((ur (u2 (u2 I c 0 (I o 0)) c 1 ((u2 I c 0 (I o 0)) o 1)) (c + 1) (va_cpy ((u2 (u2 I c 0 (I o 0)) c 1 ((u2 I c 0 (I o 0)) o 1)) (o + 1)) ((u2 (u2 I c 0 (I o 0)) c 1 ((u2 I c 0 (I o 0)) o 1)) (c + 1)) 0 0 4)) (o + 2)) ((ur (u2 (u2 I c 0 (I o 0)) c 1 ((u2 I c 0 (I o 0)) o 1)) (c + 1) (va_cpy ((u2 (u2 I c 0 (I o 0)) c 1 ((u2 I c 0 (I o 0)) o 1)) (o + 1)) ((u2 (u2 I c 0 (I o 0)) c 1 ((u2 I c 0 (I o 0)) o 1)) (c + 1)) 0 0 4)) (c + 2)) 0 0 4)) (c + 3)) 0 0 3)) (c + 4)) 0 0 3)) (c + 5)) 0 0 20)) o 7)) G J) : Ev (d + 1) mX2_copyFrom 136 0 [some (.ref c), some (.ref o)] [] 136 I G J Φ := by
  refine E_aload_n 0 dX2_copyFrom_0 rfl rfl ?_
  refine E_aload_n 1 dX2_copyFrom_1 rfl rfl ?_
  refine E_geti 2 0 o 8 dX2_copyFrom_2 fl_RX2_27 rfl (sM0 ho) ?_
  refine E_puti 2 0 c 8 dX2_copyFrom_5 fl_RX2_27 rfl (sM0 hc) ⟨_, rfl, rfl⟩ rfl rfl ?_
  refine E_aload_n 0 dX2_copyFrom_8 rfl rfl ?_
  refine E_aload_n 1 dX2_copyFrom_9 rfl rfl ?_
  refine E_geti 2 1 o 8 dX2_copyFrom_10 fl_RX2_31 rfl (sM0 ho) ?_
  refine E_puti 2 1 c 8 dX2_copyFrom_13 fl_RX2_31 rfl (sM0 hc) ⟨_, rfl, rfl⟩ rfl rfl ?_
  refine E_aload_n 1 dX2_copyFrom_16 rfl rfl ?_
  refine E_getr 2 2 o 8 (o + 1) dX2_copyFrom_17 fl_RX2_9 rfl (sM0 ho) (gM2 hG ho) ?_
  refine E_iconst (0 : Int32) dX2_copyFrom_20 rfl ?_
  refine E_aload_n 0 dX2_copyFrom_21 rfl rfl ?_
  refine E_getr 2 2 c 8 (c + 1) dX2_copyFrom_22 fl_RX2_9 rfl (sM0 hc) (gM2 hG hc) ?_
  refine E_iconst (0 : Int32) dX2_copyFrom_25 rfl ?_
  refine E_iconst (4 : Int32) dX2_copyFrom_26 rfl ?_
  refine E_copy (o + 1) 4 (c + 1) 4 dX2_copyFrom_27 lk_RX2_41 (sM1 ho) (sM1 hc) (by decide) (by decide) (by decide) (Nat.le_of_ble_eq_true rfl) (Nat.le_of_ble_eq_true rfl) (Nat.le_of_ble_eq_true rfl) (by omega) (?_ : Ev (d + 1) mX2_copyFrom 136 30 [some (.ref c), some (.ref o)] [] 136 (ur (u2 (u2 I c 0 (I o 0)) c 1 ((u2 I c 0 (I o 0)) o 1)) (c + 1) (va_cpy ((u2 (u2 I c 0 (I o 0)) c 1 ((u2 I c 0 (I o 0)) o 1)) (o + 1)) ((u2 (u2 I c 0 (I o 0)) c 1 ((u2 I c 0 (I o 0)) o 1)) (c + 1)) 0 0 4)) G J Φ)
  refine E_aload_n 1 dX2_copyFrom_30 rfl rfl ?_
  refine E_getr 2 3 o 8 (o + 2) dX2_copyFrom_31 fl_RX2_15 rfl (sM0 ho) (gM3 hG ho) ?_
  refine E_iconst (0 : Int32) dX2_copyFrom_34 rfl ?_
  refine E_aload_n 0 dX2_copyFrom_35 rfl rfl ?_
  refine E_getr 2 3 c 8 (c + 2) dX2_copyFrom_36 fl_RX2_15 rfl (sM0 hc) (gM3 hG hc) ?_
  refine E_iconst (0 : Int32) dX2_copyFrom_39 rfl ?_
  refine E_iconst (4 : Int32) dX2_copyFrom_40 rfl ?_
  refine E_copy (o + 2) 4 (c + 2) 4 dX2_copyFrom_41 lk_RX2_41 (sM2 ho) (sM2 hc) (by decide) (by decide) (by decide) (Nat.le_of_ble_eq_true rfl) (Nat.le_of_ble_eq_true rfl) (Nat.le_of_ble_eq_true rfl) (by omega) (?_ : Ev (d + 1) mX2_copyFrom 136 44 [some (.ref c), some (.ref o)] [] 136 (ur (ur (u2 (u2 I c 0 (I o 0)) c 1 ((u2 I c 0 (I o 0)) o 1)) (c + 1) (va_cpy ((u2 (u2 I c 0 (I o 0)) c 1 ((u2 I c 0 (I o 0)) o 1)) (o + 1)) ((u2 (u2 I c 0 (I o 0)) c 1 ((u2 I c 0 (I o 0)) o 1)) (c + 1)) 0 0 4)) (c + 2) (va_cpy ((ur (u2 (u2 I c 0 (I o 0)) c 1 ((u2 I c 0 (I o 0)) o 1)) (c + 1) (va_cpy ((u2 (u2 I c 0 (I o 0)) c 1 ((u2 I c 0 (I o 0)) o 1)) (o + 1)) ((u2 (u2 I c 0 (I o 0)) c 1 ((u2 I c 0 (I o 0)) o 1)) (c + 1)) 0 0 4)) (o + 2)) ((ur (u2 (u2 I c 0 (I o 0)) c 1 ((u2 I c 0 (I o 0)) o 1)) (c + 1) (va_cpy ((u2 (u2 I c 0 (I o 0)) c 1 ((u2 I c 0 (I o 0)) o 1)) (o + 1)) ((u2 (u2 I c 0 (I o 0)) c 1 ((u2 I c 0 (I o 0)) o 1)) (c + 1)) 0 0 4)) (c + 2)) 0 0 4)) G J Φ)
  refine E_aload_n 1 dX2_copyFrom_44 rfl rfl ?_
  refine E_getr 2 4 o 8 (o + 3) dX2_copyFrom_45 fl_RX2_18 rfl (sM0 ho) (gM4 hG ho) ?_
  refine E_iconst (0 : Int32) dX2_copyFrom_48 rfl ?_
  refine E_aload_n 0 dX2_copyFrom_49 rfl rfl ?_
  refine E_getr 2 4 c 8 (c + 3) dX2_copyFrom_50 fl_RX2_18 rfl (sM0 hc) (gM4 hG hc) ?_
  refine E_iconst (0 : Int32) dX2_copyFrom_53 rfl ?_
  refine E_iconst (3 : Int32) dX2_copyFrom_54 rfl ?_
  refine E_copy (o + 3) 3 (c + 3) 3 dX2_copyFrom_55 lk_RX2_41 (sM3 ho) (sM3 hc) (by decide) (by decide) (by decide) (Nat.le_of_ble_eq_true rfl) (Nat.le_of_ble_eq_true rfl) (Nat.le_of_ble_eq_true rfl) (by omega) (?_ : Ev (d + 1) mX2_copyFrom 136 58 [some (.ref c), some (.ref o)] [] 136 (ur (ur (ur (u2 (u2 I c 0 (I o 0)) c 1 ((u2 I c 0 (I o 0)) o 1)) (c + 1) (va_cpy ((u2 (u2 I c 0 (I o 0)) c 1 ((u2 I c 0 (I o 0)) o 1)) (o + 1)) ((u2 (u2 I c 0 (I o 0)) c 1 ((u2 I c 0 (I o 0)) o 1)) (c + 1)) 0 0 4)) (c + 2) (va_cpy ((ur (u2 (u2 I c 0 (I o 0)) c 1 ((u2 I c 0 (I o 0)) o 1)) (c + 1) (va_cpy ((u2 (u2 I c 0 (I o 0)) c 1 ((u2 I c 0 (I o 0)) o 1)) (o + 1)) ((u2 (u2 I c 0 (I o 0)) c 1 ((u2 I c 0 (I o 0)) o 1)) (c + 1)) 0 0 4)) (o + 2)) ((ur (u2 (u2 I c 0 (I o 0)) c 1 ((u2 I c 0 (I o 0)) o 1)) (c + 1) (va_cpy ((u2 (u2 I c 0 (I o 0)) c 1 ((u2 I c 0 (I o 0)) o 1)) (o + 1)) ((u2 (u2 I c 0 (I o 0)) c 1 ((u2 I c 0 (I o 0)) o 1)) (c + 1)) 0 0 4)) (c + 2)) 0 0 4)) (c + 3) (va_cpy ((ur (ur (u2 (u2 I c 0 (I o 0)) c 1 ((u2 I c 0 (I o 0)) o 1)) (c + 1) (va_cpy ((u2 (u2 I c 0 (I o 0)) c 1 ((u2 I c 0 (I o 0)) o 1)) (o + 1)) ((u2 (u2 I c 0 (I o 0)) c 1 ((u2 I c 0 (I o 0)) o 1)) (c + 1)) 0 0 4)) (c + 2) (va_cpy ((ur (u2 (u2 I c 0 (I o 0)) c 1 ((u2 I c 0 (I o 0)) o 1)) (c + 1) (va_cpy ((u2 (u2 I c 0 (I o 0)) c 1 ((u2 I c 0 (I o 0)) o 1)) (o + 1)) ((u2 (u2 I c 0 (I o 0)) c 1 ((u2 I c 0 (I o 0)) o 1)) (c + 1)) 0 0 4)) (o + 2)) ((ur (u2 (u2 I c 0 (I o 0)) c 1 ((u2 I c 0 (I o 0)) o 1)) (c + 1) (va_cpy ((u2 (u2 I c 0 (I o 0)) c 1 ((u2 I c 0 (I o 0)) o 1)) (o + 1)) ((u2 (u2 I c 0 (I o 0)) c 1 ((u2 I c 0 (I o 0)) o 1)) (c + 1)) 0 0 4)) (c + 2)) 0 0 4)) (o + 3)) ((ur (ur (u2 (u2 I c 0 (I o 0)) c 1 ((u2 I c 0 (I o 0)) o 1)) (c + 1) (va_cpy ((u2 (u2 I c 0 (I o 0)) c 1 ((u2 I c 0 (I o 0)) o 1)) (o + 1)) ((u2 (u2 I c 0 (I o 0)) c 1 ((u2 I c 0 (I o 0)) o 1)) (c + 1)) 0 0 4)) (c + 2) (va_cpy ((ur (u2 (u2 I c 0 (I o 0)) c 1 ((u2 I c 0 (I o 0)) o 1)) (c + 1) (va_cpy ((u2 (u2 I c 0 (I o 0)) c 1 ((u2 I c 0 (I o 0)) o 1)) (o + 1)) ((u2 (u2 I c 0 (I o 0)) c 1 ((u2 I c 0 (I o 0)) o 1)) (c + 1)) 0 0 4)) (o + 2)) ((ur (u2 (u2 I c 0 (I o 0)) c 1 ((u2 I c 0 (I o 0)) o 1)) (c + 1) (va_cpy ((u2 (u2 I c 0 (I o 0)) c 1 ((u2 I c 0 (I o 0)) o 1)) (o + 1)) ((u2 (u2 I c 0 (I o 0)) c 1 ((u2 I c 0 (I o 0)) o 1)) (c + 1)) 0 0 4)) (c + 2)) 0 0 4)) (c + 3)) 0 0 3)) G J Φ)
  refine E_aload_n 1 dX2_copyFrom_58 rfl rfl ?_
  refine E_getr 2 5 o 8 (o + 4) dX2_copyFrom_59 fl_RX2_21 rfl (sM0 ho) (gM5 hG ho) ?_
  refine E_iconst (0 : Int32) dX2_copyFrom_62 rfl ?_
  refine E_aload_n 0 dX2_copyFrom_63 rfl rfl ?_
  refine E_getr 2 5 c 8 (c + 4) dX2_copyFrom_64 fl_RX2_21 rfl (sM0 hc) (gM5 hG hc) ?_
  refine E_iconst (0 : Int32) dX2_copyFrom_67 rfl ?_
  refine E_iconst (3 : Int32) dX2_copyFrom_68 rfl ?_
  refine E_copy (o + 4) 3 (c + 4) 3 dX2_copyFrom_69 lk_RX2_41 (sM4 ho) (sM4 hc) (by decide) (by decide) (by decide) (Nat.le_of_ble_eq_true rfl) (Nat.le_of_ble_eq_true rfl) (Nat.le_of_ble_eq_true rfl) (by omega) (?_ : Ev (d + 1) mX2_copyFrom 136 72 [some (.ref c), some (.ref o)] [] 136 (ur (ur (ur (ur (u2 (u2 I c 0 (I o 0)) c 1 ((u2 I c 0 (I o 0)) o 1)) (c + 1) (va_cpy ((u2 (u2 I c 0 (I o 0)) c 1 ((u2 I c 0 (I o 0)) o 1)) (o + 1)) ((u2 (u2 I c 0 (I o 0)) c 1 ((u2 I c 0 (I o 0)) o 1)) (c + 1)) 0 0 4)) (c + 2) (va_cpy ((ur (u2 (u2 I c 0 (I o 0)) c 1 ((u2 I c 0 (I o 0)) o 1)) (c + 1) (va_cpy ((u2 (u2 I c 0 (I o 0)) c 1 ((u2 I c 0 (I o 0)) o 1)) (o + 1)) ((u2 (u2 I c 0 (I o 0)) c 1 ((u2 I c 0 (I o 0)) o 1)) (c + 1)) 0 0 4)) (o + 2)) ((ur (u2 (u2 I c 0 (I o 0)) c 1 ((u2 I c 0 (I o 0)) o 1)) (c + 1) (va_cpy ((u2 (u2 I c 0 (I o 0)) c 1 ((u2 I c 0 (I o 0)) o 1)) (o + 1)) ((u2 (u2 I c 0 (I o 0)) c 1 ((u2 I c 0 (I o 0)) o 1)) (c + 1)) 0 0 4)) (c + 2)) 0 0 4)) (c + 3) (va_cpy ((ur (ur (u2 (u2 I c 0 (I o 0)) c 1 ((u2 I c 0 (I o 0)) o 1)) (c + 1) (va_cpy ((u2 (u2 I c 0 (I o 0)) c 1 ((u2 I c 0 (I o 0)) o 1)) (o + 1)) ((u2 (u2 I c 0 (I o 0)) c 1 ((u2 I c 0 (I o 0)) o 1)) (c + 1)) 0 0 4)) (c + 2) (va_cpy ((ur (u2 (u2 I c 0 (I o 0)) c 1 ((u2 I c 0 (I o 0)) o 1)) (c + 1) (va_cpy ((u2 (u2 I c 0 (I o 0)) c 1 ((u2 I c 0 (I o 0)) o 1)) (o + 1)) ((u2 (u2 I c 0 (I o 0)) c 1 ((u2 I c 0 (I o 0)) o 1)) (c + 1)) 0 0 4)) (o + 2)) ((ur (u2 (u2 I c 0 (I o 0)) c 1 ((u2 I c 0 (I o 0)) o 1)) (c + 1) (va_cpy ((u2 (u2 I c 0 (I o 0)) c 1 ((u2 I c 0 (I o 0)) o 1)) (o + 1)) ((u2 (u2 I c 0 (I o 0)) c 1 ((u2 I c 0 (I o 0)) o 1)) (c + 1)) 0 0 4)) (c + 2)) 0 0 4)) (o + 3)) ((ur (ur (u2 (u2 I c 0 (I o 0)) c 1 ((u2 I c 0 (I o 0)) o 1)) (c + 1) (va_cpy ((u2 (u2 I c 0 (I o 0)) c 1 ((u2 I c 0 (I o 0)) o 1)) (o + 1)) ((u2 (u2 I c 0 (I o 0)) c 1 ((u2 I c 0 (I o 0)) o 1)) (c + 1)) 0 0 4)) (c + 2) (va_cpy ((ur (u2 (u2 I c 0 (I o 0)) c 1 ((u2 I c 0 (I o 0)) o 1)) (c + 1) (va_cpy ((u2 (u2 I c 0 (I o 0)) c 1 ((u2 I c 0 (I o 0)) o 1)) (o + 1)) ((u2 (u2 I c 0 (I o 0)) c 1 ((u2 I c 0 (I o 0)) o 1)) (c + 1)) 0 0 4)) (o + 2)) ((ur (u2 (u2 I c 0 (I o 0)) c 1 ((u2 I c 0 (I o 0)) o 1)) (c + 1) (va_cpy ((u2 (u2 I c 0 (I o 0)) c 1 ((u2 I c 0 (I o 0)) o 1)) (o + 1)) ((u2 (u2 I c 0 (I o 0)) c 1 ((u2 I c 0 (I o 0)) o 1)) (c + 1)) 0 0 4)) (c + 2)) 0 0 4)) (c + 3)) 0 0 3)) (c + 4) (va_cpy ((ur (ur (ur (u2 (u2 I c 0 (I o 0)) c 1 ((u2 I c 0 (I o 0)) o 1)) (c + 1) (va_cpy ((u2 (u2 I c 0 (I o 0)) c 1 ((u2 I c 0 (I o 0)) o 1)) (o + 1)) ((u2 (u2 I c 0 (I o 0)) c 1 ((u2 I c 0 (I o 0)) o 1)) (c + 1)) 0 0 4)) (c + 2) (va_cpy ((ur (u2 (u2 I c 0 (I o 0)) c 1 ((u2 I c 0 (I o 0)) o 1)) (c + 1) (va_cpy ((u2 (u2 I c 0 (I o 0)) c 1 ((u2 I c 0 (I o 0)) o 1)) (o + 1)) ((u2 (u2 I c 0 (I o 0)) c 1 ((u2 I c 0 (I o 0)) o 1)) (c + 1)) 0 0 4)) (o + 2)) ((ur (u2 (u2 I c 0 (I o 0)) c 1 ((u2 I c 0 (I o 0)) o 1)) (c + 1) (va_cpy ((u2 (u2 I c 0 (I o 0)) c 1 ((u2 I c 0 (I o 0)) o 1)) (o + 1)) ((u2 (u2 I c 0 (I o 0)) c 1 ((u2 I c 0 (I o 0)) o 1)) (c + 1)) 0 0 4)) (c + 2)) 0 0 4)) (c + 3) (va_cpy ((ur (ur (u2 (u2 I c 0 (I o 0)) c 1 ((u2 I c 0 (I o 0)) o 1)) (c + 1) (va_cpy ((u2 (u2 I c 0 (I o 0)) c 1 ((u2 I c 0 (I o 0)) o 1)) (o + 1)) ((u2 (u2 I c 0 (I o 0)) c 1 ((u2 I c 0 (I o 0)) o 1)) (c + 1)) 0 0 4)) (c + 2) (va_cpy ((ur (u2 (u2 I c 0 (I o 0)) c 1 ((u2 I c 0 (I o 0)) o 1)) (c + 1) (va_cpy ((u2 (u2 I c 0 (I o 0)) c 1 ((u2 I c 0 (I o 0)) o 1)) (o + 1)) ((u2 (u2 I c 0 (I o 0)) c 1 ((u2 I c 0 (I o 0)) o 1)) (c + 1)) 0 0 4)) (o + 2)) ((ur (u2 (u2 I c 0 (I o 0)) c 1 ((u2 I c 0 (I o 0)) o 1)) (c + 1) (va_cpy ((u2 (u2 I c 0 (I o 0)) c 1 ((u2 I c 0 (I o 0)) o 1)) (o + 1)) ((u2 (u2 I c 0 (I o 0)) c 1 ((u2 I c 0 (I o 0)) o 1)) (c + 1)) 0 0 4)) (c + 2)) 0 0 4)) (o + 3)) ((ur (ur (u2 (u2 I c 0 (I o 0)) c 1 ((u2 I c 0 (I o 0)) o 1)) (c + 1) (va_cpy ((u2 (u2 I c 0 (I o 0)) c 1 ((u2 I c 0 (I o 0)) o 1)) (o + 1)) ((u2 (u2 I c 0 (I o 0)) c 1 ((u2 I c 0 (I o 0)) o 1)) (c + 1)) 0 0 4)) (c + 2) (va_cpy ((ur (u2 (u2 I c 0 (I o 0)) c 1 ((u2 I c 0 (I o 0)) o 1)) (c + 1) (va_cpy ((u2 (u2 I c 0 (I o 0)) c 1 ((u2 I c 0 (I o 0)) o 1)) (o + 1)) ((u2 (u2 I c 0 (I o 0)) c 1 ((u2 I c 0 (I o 0)) o 1)) (c + 1)) 0 0 4)) (o + 2)) ((ur (u2 (u2 I c 0 (I o 0)) c 1 ((u2 I c 0 (I o 0)) o 1)) (c + 1) (va_cpy ((u2 (u2 I c 0 (I o 0)) c 1 ((u2 I c 0 (I o 0)) o 1)) (o + 1)) ((u2 (u2 I c 0 (I o 0)) c 1 ((u2 I c 0 (I o 0)) o 1)) (c + 1)) 0 0 4)) (c + 2)) 0 0 4)) (c + 3)) 0 0 3)) (o + 4)) ((ur (ur (ur (u2 (u2 I c 0 (I o 0)) c 1 ((u2 I c 0 (I o 0)) o 1)) (c + 1) (va_cpy ((u2 (u2 I c 0 (I o 0)) c 1 ((u2 I c 0 (I o 0)) o 1)) (o + 1)) ((u2 (u2 I c 0 (I o 0)) c 1 ((u2 I c 0 (I o 0)) o 1)) (c + 1)) 0 0 4)) (c + 2) (va_cpy ((ur (u2 (u2 I c 0 (I o 0)) c 1 ((u2 I c 0 (I o 0)) o 1)) (c + 1) (va_cpy ((u2 (u2 I c 0 (I o 0)) c 1 ((u2 I c 0 (I o 0)) o 1)) (o + 1)) ((u2 (u2 I c 0 (I o 0)) c 1 ((u2 I c 0 (I o 0)) o 1)) (c + 1)) 0 0 4)) (o + 2)) ((ur (u2 (u2 I c 0 (I o 0)) c 1 ((u2 I c 0 (I o 0)) o 1)) (c + 1) (va_cpy ((u2 (u2 I c 0 (I o 0)) c 1 ((u2 I c 0 (I o 0)) o 1)) (o + 1)) ((u2 (u2 I c 0 (I o 0)) c 1 ((u2 I c 0 (I o 0)) o 1)) (c + 1)) 0 0 4)) (c + 2)) 0 0 4)) (c + 3) (va_cpy ((ur (ur (u2 (u2 I c 0 (I o 0)) c 1 ((u2 I c 0 (I o 0)) o 1)) (c + 1) (va_cpy ((u2 (u2 I c 0 (I o 0)) c 1 ((u2 I c 0 (I o 0)) o 1)) (o + 1)) ((u2 (u2 I c 0 (I o 0)) c 1 ((u2 I c 0 (I o 0)) o 1)) (c + 1)) 0 0 4)) (c + 2) (va_cpy ((ur (u2 (u2 I c 0 (I o 0)) c 1 ((u2 I c 0 (I o 0)) o 1)) (c + 1) (va_cpy ((u2 (u2 I c 0 (I o 0)) c 1 ((u2 I c 0 (I o 0)) o 1)) (o + 1)) ((u2 (u2 I c 0 (I o 0)) c 1 ((u2 I c 0 (I o 0)) o 1)) (c + 1)) 0 0 4)) (o + 2)) ((ur (u2 (u2 I c 0 (I o 0)) c 1 ((u2 I c 0 (I o 0)) o 1)) (c + 1) (va_cpy ((u2 (u2 I c 0 (I o 0)) c 1 ((u2 I c 0 (I o 0)) o 1)) (o + 1)) ((u2 (u2 I c 0 (I o 0)) c 1 ((u2 I c 0 (I o 0)) o 1)) (c + 1)) 0 0 4)) (c + 2)) 0 0 4)) (o + 3)) ((ur (ur (u2 (u2 I c 0 (I o 0)) c 1 ((u2 I c 0 (I o 0)) o 1)) (c + 1) (va_cpy ((u2 (u2 I c 0 (I o 0)) c 1 ((u2 I c 0 (I o 0)) o 1)) (o + 1)) ((u2 (u2 I c 0 (I o 0)) c 1 ((u2 I c 0 (I o 0)) o 1)) (c + 1)) 0 0 4)) (c + 2) (va_cpy ((ur (u2 (u2 I c 0 (I o 0)) c 1 ((u2 I c 0 (I o 0)) o 1)) (c + 1) (va_cpy ((u2 (u2 I c 0 (I o 0)) c 1 ((u2 I c 0 (I o 0)) o 1)) (o + 1)) ((u2 (u2 I c 0 (I o 0)) c 1 ((u2 I c 0 (I o 0)) o 1)) (c + 1)) 0 0 4)) (o + 2)) ((ur (u2 (u2 I c 0 (I o 0)) c 1 ((u2 I c 0 (I o 0)) o 1)) (c + 1) (va_cpy ((u2 (u2 I c 0 (I o 0)) c 1 ((u2 I c 0 (I o 0)) o 1)) (o + 1)) ((u2 (u2 I c 0 (I o 0)) c 1 ((u2 I c 0 (I o 0)) o 1)) (c + 1)) 0 0 4)) (c + 2)) 0 0 4)) (c + 3)) 0 0 3)) (c + 4)) 0 0 3)) G J Φ)
  refine E_aload_n 1 dX2_copyFrom_72 rfl rfl ?_
  refine E_getr 2 6 o 8 (o + 5) dX2_copyFrom_73 fl_RX2_24 rfl (sM0 ho) (gM6 hG ho) ?_
  refine E_iconst (0 : Int32) dX2_copyFrom_76 rfl ?_
  refine E_aload_n 0 dX2_copyFrom_77 rfl rfl ?_
  refine E_getr 2 6 c 8 (c + 5) dX2_copyFrom_78 fl_RX2_24 rfl (sM0 hc) (gM6 hG hc) ?_
  refine E_iconst (0 : Int32) dX2_copyFrom_81 rfl ?_
  refine E_bipush (20 : Int32) dX2_copyFrom_82 rfl ?_
  refine E_copy (o + 5) 20 (c + 5) 20 dX2_copyFrom_84 lk_RX2_41 (sM5 ho) (sM5 hc) (by decide) (by decide) (by decide) (Nat.le_of_ble_eq_true rfl) (Nat.le_of_ble_eq_true rfl) (Nat.le_of_ble_eq_true rfl) (by omega) (?_ : Ev (d + 1) mX2_copyFrom 136 87 [some (.ref c), some (.ref o)] [] 136 (ur (ur (ur (ur (ur (u2 (u2 I c 0 (I o 0)) c 1 ((u2 I c 0 (I o 0)) o 1)) (c + 1) (va_cpy ((u2 (u2 I c 0 (I o 0)) c 1 ((u2 I c 0 (I o 0)) o 1)) (o + 1)) ((u2 (u2 I c 0 (I o 0)) c 1 ((u2 I c 0 (I o 0)) o 1)) (c + 1)) 0 0 4)) (c + 2) (va_cpy ((ur (u2 (u2 I c 0 (I o 0)) c 1 ((u2 I c 0 (I o 0)) o 1)) (c + 1) (va_cpy ((u2 (u2 I c 0 (I o 0)) c 1 ((u2 I c 0 (I o 0)) o 1)) (o + 1)) ((u2 (u2 I c 0 (I o 0)) c 1 ((u2 I c 0 (I o 0)) o 1)) (c + 1)) 0 0 4)) (o + 2)) ((ur (u2 (u2 I c 0 (I o 0)) c 1 ((u2 I c 0 (I o 0)) o 1)) (c + 1) (va_cpy ((u2 (u2 I c 0 (I o 0)) c 1 ((u2 I c 0 (I o 0)) o 1)) (o + 1)) ((u2 (u2 I c 0 (I o 0)) c 1 ((u2 I c 0 (I o 0)) o 1)) (c + 1)) 0 0 4)) (c + 2)) 0 0 4)) (c + 3) (va_cpy ((ur (ur (u2 (u2 I c 0 (I o 0)) c 1 ((u2 I c 0 (I o 0)) o 1)) (c + 1) (va_cpy ((u2 (u2 I c 0 (I o 0)) c 1 ((u2 I c 0 (I o 0)) o 1)) (o + 1)) ((u2 (u2 I c 0 (I o 0)) c 1 ((u2 I c 0 (I o 0)) o 1)) (c + 1)) 0 0 4)) (c + 2) (va_cpy ((ur (u2 (u2 I c 0 (I o 0)) c 1 ((u2 I c 0 (I o 0)) o 1)) (c + 1) (va_cpy ((u2 (u2 I c 0 (I o 0)) c 1 ((u2 I c 0 (I o 0)) o 1)) (o + 1)) ((u2 (u2 I c 0 (I o 0)) c 1 ((u2 I c 0 (I o 0)) o 1)) (c + 1)) 0 0 4)) (o + 2)) ((ur (u2 (u2 I c 0 (I o 0)) c 1 ((u2 I c 0 (I o 0)) o 1)) (c + 1) (va_cpy ((u2 (u2 I c 0 (I o 0)) c 1 ((u2 I c 0 (I o 0)) o 1)) (o + 1)) ((u2 (u2 I c 0 (I o 0)) c 1 ((u2 I c 0 (I o 0)) o 1)) (c + 1)) 0 0 4)) (c + 2)) 0 0 4)) (o + 3)) ((ur (ur (u2 (u2 I c 0 (I o 0)) c 1 ((u2 I c 0 (I o 0)) o 1)) (c + 1) (va_cpy ((u2 (u2 I c 0 (I o 0)) c 1 ((u2 I c 0 (I o 0)) o 1)) (o + 1)) ((u2 (u2 I c 0 (I o 0)) c 1 ((u2 I c 0 (I o 0)) o 1)) (c + 1)) 0 0 4)) (c + 2) (va_cpy ((ur (u2 (u2 I c 0 (I o 0)) c 1 ((u2 I c 0 (I o 0)) o 1)) (c + 1) (va_cpy ((u2 (u2 I c 0 (I o 0)) c 1 ((u2 I c 0 (I o 0)) o 1)) (o + 1)) ((u2 (u2 I c 0 (I o 0)) c 1 ((u2 I c 0 (I o 0)) o 1)) (c + 1)) 0 0 4)) (o + 2)) ((ur (u2 (u2 I c 0 (I o 0)) c 1 ((u2 I c 0 (I o 0)) o 1)) (c + 1) (va_cpy ((u2 (u2 I c 0 (I o 0)) c 1 ((u2 I c 0 (I o 0)) o 1)) (o + 1)) ((u2 (u2 I c 0 (I o 0)) c 1 ((u2 I c 0 (I o 0)) o 1)) (c + 1)) 0 0 4)) (c + 2)) 0 0 4)) (c + 3)) 0 0 3)) (c + 4) (va_cpy ((ur (ur (ur (u2 (u2 I c 0 (I o 0)) c 1 ((u2 I c 0 (I o 0)) o 1)) (c + 1) (va_cpy ((u2 (u2 I c 0 (I o 0)) c 1 ((u2 I c 0 (I o 0)) o 1)) (o + 1)) ((u2 (u2 I c 0 (I o 0)) c 1 ((u2 I c 0 (I o 0)) o 1)) (c + 1)) 0 0 4)) (c + 2) (va_cpy ((ur (u2 (u2 I c 0 (I o 0)) c 1 ((u2 I c 0 (I o 0)) o 1)) (c + 1) (va_cpy ((u2 (u2 I c 0 (I o 0)) c 1 ((u2 I c 0 (I o 0)) o 1)) (o + 1)) ((u2 (u2 I c 0 (I o 0)) c 1 ((u2 I c 0 (I o 0)) o 1)) (c + 1)) 0 0 4)) (o + 2)) ((ur (u2 (u2 I c 0 (I o 0)) c 1 ((u2 I c 0 (I o 0)) o 1)) (c + 1) (va_cpy ((u2 (u2 I c 0 (I o 0)) c 1 ((u2 I c 0 (I o 0)) o 1)) (o + 1)) ((u2 (u2 I c 0 (I o 0)) c 1 ((u2 I c 0 (I o 0)) o 1)) (c + 1)) 0 0 4)) (c + 2)) 0 0 4)) (c + 3) (va_cpy ((ur (ur (u2 (u2 I c 0 (I o 0)) c 1 ((u2 I c 0 (I o 0)) o 1)) (c + 1) (va_cpy ((u2 (u2 I c 0 (I o 0)) c 1 ((u2 I c 0 (I o 0)) o 1)) (o + 1)) ((u2 (u2 I c 0 (I o 0)) c 1 ((u2 I c 0 (I o 0)) o 1)) (c + 1)) 0 0 4)) (c + 2) (va_cpy ((ur (u2 (u2 I c 0 (I o 0)) c 1 ((u2 I c 0 (I o 0)) o 1)) (c + 1) (va_cpy ((u2 (u2 I c 0 (I o 0)) c 1 ((u2 I c 0 (I o 0)) o 1)) (o + 1)) ((u2 (u2 I c 0 (I o 0)) c 1 ((u2 I c 0 (I o 0)) o 1)) (c + 1)) 0 0 4)) (o + 2)) ((ur (u2 (u2 I c 0 (I o 0)) c 1 ((u2 I c 0 (I o 0)) o 1)) (c + 1) (va_cpy ((u2 (u2 I c 0 (I o 0)) c 1 ((u2 I c 0 (I o 0)) o 1)) (o + 1)) ((u2 (u2 I c 0 (I o 0)) c 1 ((u2 I c 0 (I o 0)) o 1)) (c + 1)) 0 0 4)) (c + 2)) 0 0 4)) (o + 3)) ((ur (ur (u2 (u2 I c 0 (I o 0)) c 1 ((u2 I c 0 (I o 0)) o 1)) (c + 1) (va_cpy ((u2 (u2 I c 0 (I o 0)) c 1 ((u2 I c 0 (I o 0)) o 1)) (o + 1)) ((u2 (u2 I c 0 (I o 0)) c 1 ((u2 I c 0 (I o 0)) o 1)) (c + 1)) 0 0 4)) (c + 2) (va_cpy ((ur (u2 (u2 I c 0 (I o 0)) c 1 ((u2 I c 0 (I o 0)) o 1)) (c + 1) (va_cpy ((u2 (u2 I c 0 (I o 0)) c 1 ((u2 I c 0 (I o 0)) o 1)) (o + 1)) ((u2 (u2 I c 0 (I o 0)) c 1 ((u2 I c 0 (I o 0)) o 1)) (c + 1)) 0 0 4)) (o + 2)) ((ur (u2 (u2 I c 0 (I o 0)) c 1 ((u2 I c 0 (I o 0)) o 1)) (c + 1) (va_cpy ((u2 (u2 I c 0 (I o 0)) c 1 ((u2 I c 0 (I o 0)) o 1)) (o + 1)) ((u2 (u2 I c 0 (I o 0)) c 1 ((u2 I c 0 (I o 0)) o 1)) (c + 1)) 0 0 4)) (c + 2)) 0 0 4)) (c + 3)) 0 0 3)) (o + 4)) ((ur (ur (ur (u2 (u2 I c 0 (I o 0)) c 1 ((u2 I c 0 (I o 0)) o 1)) (c + 1) (va_cpy ((u2 (u2 I c 0 (I o 0)) c 1 ((u2 I c 0 (I o 0)) o 1)) (o + 1)) ((u2 (u2 I c 0 (I o 0)) c 1 ((u2 I c 0 (I o 0)) o 1)) (c + 1)) 0 0 4)) (c + 2) (va_cpy ((ur (u2 (u2 I c 0 (I o 0)) c 1 ((u2 I c 0 (I o 0)) o 1)) (c + 1) (va_cpy ((u2 (u2 I c 0 (I o 0)) c 1 ((u2 I c 0 (I o 0)) o 1)) (o + 1)) ((u2 (u2 I c 0 (I o 0)) c 1 ((u2 I c 0 (I o 0)) o 1)) (c + 1)) 0 0 4)) (o + 2)) ((ur (u2 (u2 I c 0 (I o 0)) c 1 ((u2 I c 0 (I o 0)) o 1)) (c + 1) (va_cpy ((u2 (u2 I c 0 (I o 0)) c 1 ((u2 I c 0 (I o 0)) o 1)) (o + 1)) ((u2 (u2 I c 0 (I o 0)) c 1 ((u2 I c 0 (I o 0)) o 1)) (c + 1)) 0 0 4)) (c + 2)) 0 0 4)) (c + 3) (va_cpy ((ur (ur (u2 (u2 I c 0 (I o 0)) c 1 ((u2 I c 0 (I o 0)) o 1)) (c + 1) (va_cpy ((u2 (u2 I c 0 (I o 0)) c 1 ((u2 I c 0 (I o 0)) o 1)) (o + 1)) ((u2 (u2 I c 0 (I o 0)) c 1 ((u2 I c 0 (I o 0)) o 1)) (c + 1)) 0 0 4)) (c + 2) (va_cpy ((ur (u2 (u2 I c 0 (I o 0)) c 1 ((u2 I c 0 (I o 0)) o 1)) (c + 1) (va_cpy ((u2 (u2 I c 0 (I o 0)) c 1 ((u2 I c 0 (I o 0)) o 1)) (o + 1)) ((u2 (u2 I c 0 (I o 0)) c 1 ((u2 I c 0 (I o 0)) o 1)) (c + 1)) 0 0 4)) (o + 2)) ((ur (u2 (u2 I c 0 (I o 0)) c 1 ((u2 I c 0 (I o 0)) o 1)) (c + 1) (va_cpy ((u2 (u2 I c 0 (I o 0)) c 1 ((u2 I c 0 (I o 0)) o 1)) (o + 1)) ((u2 (u2 I c 0 (I o 0)) c 1 ((u2 I c 0 (I o 0)) o 1)) (c + 1)) 0 0 4)) (c + 2)) 0 0 4)) (o + 3)) ((ur (ur (u2 (u2 I c 0 (I o 0)) c 1 ((u2 I c 0 (I o 0)) o 1)) (c + 1) (va_cpy ((u2 (u2 I c 0 (I o 0)) c 1 ((u2 I c 0 (I o 0)) o 1)) (o + 1)) ((u2 (u2 I c 0 (I o 0)) c 1 ((u2 I c 0 (I o 0)) o 1)) (c + 1)) 0 0 4)) (c + 2) (va_cpy ((ur (u2 (u2 I c 0 (I o 0)) c 1 ((u2 I c 0 (I o 0)) o 1)) (c + 1) (va_cpy ((u2 (u2 I c 0 (I o 0)) c 1 ((u2 I c 0 (I o 0)) o 1)) (o + 1)) ((u2 (u2 I c 0 (I o 0)) c 1 ((u2 I c 0 (I o 0)) o 1)) (c + 1)) 0 0 4)) (o + 2)) ((ur (u2 (u2 I c 0 (I o 0)) c 1 ((u2 I c 0 (I o 0)) o 1)) (c + 1) (va_cpy ((u2 (u2 I c 0 (I o 0)) c 1 ((u2 I c 0 (I o 0)) o 1)) (o + 1)) ((u2 (u2 I c 0 (I o 0)) c 1 ((u2 I c 0 (I o 0)) o 1)) (c + 1)) 0 0 4)) (c + 2)) 0 0 4)) (c + 3)) 0 0 3)) (c + 4)) 0 0 3)) (c + 5) (va_cpy ((ur (ur (ur (ur (u2 (u2 I c 0 (I o 0)) c 1 ((u2 I c 0 (I o 0)) o 1)) (c + 1) (va_cpy ((u2 (u2 I c 0 (I o 0)) c 1 ((u2 I c 0 (I o 0)) o 1)) (o + 1)) ((u2 (u2 I c 0 (I o 0)) c 1 ((u2 I c 0 (I o 0)) o 1)) (c + 1)) 0 0 4)) (c + 2) (va_cpy ((ur (u2 (u2 I c 0 (I o 0)) c 1 ((u2 I c 0 (I o 0)) o 1)) (c + 1) (va_cpy ((u2 (u2 I c 0 (I o 0)) c 1 ((u2 I c 0 (I o 0)) o 1)) (o + 1)) ((u2 (u2 I c 0 (I o 0)) c 1 ((u2 I c 0 (I o 0)) o 1)) (c + 1)) 0 0 4)) (o + 2)) ((ur (u2 (u2 I c 0 (I o 0)) c 1 ((u2 I c 0 (I o 0)) o 1)) (c + 1) (va_cpy ((u2 (u2 I c 0 (I o 0)) c 1 ((u2 I c 0 (I o 0)) o 1)) (o + 1)) ((u2 (u2 I c 0 (I o 0)) c 1 ((u2 I c 0 (I o 0)) o 1)) (c + 1)) 0 0 4)) (c + 2)) 0 0 4)) (c + 3) (va_cpy ((ur (ur (u2 (u2 I c 0 (I o 0)) c 1 ((u2 I c 0 (I o 0)) o 1)) (c + 1) (va_cpy ((u2 (u2 I c 0 (I o 0)) c 1 ((u2 I c 0 (I o 0)) o 1)) (o + 1)) ((u2 (u2 I c 0 (I o 0)) c 1 ((u2 I c 0 (I o 0)) o 1)) (c + 1)) 0 0 4)) (c + 2) (va_cpy ((ur (u2 (u2 I c 0 (I o 0)) c 1 ((u2 I c 0 (I o 0)) o 1)) (c + 1) (va_cpy ((u2 (u2 I c 0 (I o 0)) c 1 ((u2 I c 0 (I o 0)) o 1)) (o + 1)) ((u2 (u2 I c 0 (I o 0)) c 1 ((u2 I c 0 (I o 0)) o 1)) (c + 1)) 0 0 4)) (o + 2)) ((ur (u2 (u2 I c 0 (I o 0)) c 1 ((u2 I c 0 (I o 0)) o 1)) (c + 1) (va_cpy ((u2 (u2 I c 0 (I o 0)) c 1 ((u2 I c 0 (I o 0)) o 1)) (o + 1)) ((u2 (u2 I c 0 (I o 0)) c 1 ((u2 I c 0 (I o 0)) o 1)) (c + 1)) 0 0 4)) (c + 2)) 0 0 4)) (o + 3)) ((ur (ur (u2 (u2 I c 0 (I o 0)) c 1 ((u2 I c 0 (I o 0)) o 1)) (c + 1) (va_cpy ((u2 (u2 I c 0 (I o 0)) c 1 ((u2 I c 0 (I o 0)) o 1)) (o + 1)) ((u2 (u2 I c 0 (I o 0)) c 1 ((u2 I c 0 (I o 0)) o 1)) (c + 1)) 0 0 4)) (c + 2) (va_cpy ((ur (u2 (u2 I c 0 (I o 0)) c 1 ((u2 I c 0 (I o 0)) o 1)) (c + 1) (va_cpy ((u2 (u2 I c 0 (I o 0)) c 1 ((u2 I c 0 (I o 0)) o 1)) (o + 1)) ((u2 (u2 I c 0 (I o 0)) c 1 ((u2 I c 0 (I o 0)) o 1)) (c + 1)) 0 0 4)) (o + 2)) ((ur (u2 (u2 I c 0 (I o 0)) c 1 ((u2 I c 0 (I o 0)) o 1)) (c + 1) (va_cpy ((u2 (u2 I c 0 (I o 0)) c 1 ((u2 I c 0 (I o 0)) o 1)) (o + 1)) ((u2 (u2 I c 0 (I o 0)) c 1 ((u2 I c 0 (I o 0)) o 1)) (c + 1)) 0 0 4)) (c + 2)) 0 0 4)) (c + 3)) 0 0 3)) (c + 4) (va_cpy ((ur (ur (ur (u2 (u2 I c 0 (I o 0)) c 1 ((u2 I c 0 (I o 0)) o 1)) (c + 1) (va_cpy ((u2 (u2 I c 0 (I o 0)) c 1 ((u2 I c 0 (I o 0)) o 1)) (o + 1)) ((u2 (u2 I c 0 (I o 0)) c 1 ((u2 I c 0 (I o 0)) o 1)) (c + 1)) 0 0 4)) (c + 2) (va_cpy ((ur (u2 (u2 I c 0 (I o 0)) c 1 ((u2 I c 0 (I o 0)) o 1)) (c + 1) (va_cpy ((u2 (u2 I c 0 (I o 0)) c 1 ((u2 I c 0 (I o 0)) o 1)) (o + 1)) ((u2 (u2 I c 0 (I o 0)) c 1 ((u2 I c 0 (I o 0)) o 1)) (c + 1)) 0 0 4)) (o + 2)) ((ur (u2 (u2 I c 0 (I o 0)) c 1 ((u2 I c 0 (I o 0)) o 1)) (c + 1) (va_cpy ((u2 (u2 I c 0 (I o 0)) c 1 ((u2 I c 0 (I o 0)) o 1)) (o + 1)) ((u2 (u2 I c 0 (I o 0)) c 1 ((u2 I c 0 (I o 0)) o 1)) (c + 1)) 0 0 4)) (c + 2)) 0 0 4)) (c + 3) (va_cpy ((ur (ur (u2 (u2 I c 0 (I o 0)) c 1 ((u2 I c 0 (I o 0)) o 1)) (c + 1) (va_cpy ((u2 (u2 I c 0 (I o 0)) c 1 ((u2 I c 0 (I o 0)) o 1)) (o + 1)) ((u2 (u2 I c 0 (I o 0)) c 1 ((u2 I c 0 (I o 0)) o 1)) (c + 1)) 0 0 4)) (c + 2) (va_cpy ((ur (u2 (u2 I c 0 (I o 0)) c 1 ((u2 I c 0 (I o 0)) o 1)) (c + 1) (va_cpy ((u2 (u2 I c 0 (I o 0)) c 1 ((u2 I c 0 (I o 0)) o 1)) (o + 1)) ((u2 (u2 I c 0 (I o 0)) c 1 ((u2 I c 0 (I o 0)) o 1)) (c + 1)) 0 0 4)) (o + 2)) ((ur (u2 (u2 I c 0 (I o 0)) c 1 ((u2 I c 0 (I o 0)) o 1)) (c + 1) (va_cpy ((u2 (u2 I c 0 (I o 0)) c 1 ((u2 I c 0 (I o 0)) o 1)) (o + 1)) ((u2 (u2 I c 0 (I o 0)) c 1 ((u2 I c 0 (I o 0)) o 1)) (c + 1)) 0 0 4)) (c + 2)) 0 0 4)) (o + 3)) ((ur (ur (u2 (u2 I c 0 (I o 0)) c 1 ((u2 I c 0 (I o 0)) o 1)) (c + 1) (va_cpy ((u2 (u2 I c 0 (I o 0)) c 1 ((u2 I c 0 (I o 0)) o 1)) (o + 1)) ((u2 (u2 I c 0 (I o 0)) c 1 ((u2 I c 0 (I o 0)) o 1)) (c + 1)) 0 0 4)) (c + 2) (va_cpy ((ur (u2 (u2 I c 0 (I o 0)) c 1 ((u2 I c 0 (I o 0)) o 1)) (c + 1) (va_cpy ((u2 (u2 I c 0 (I o 0)) c 1 ((u2 I c 0 (I o 0)) o 1)) (o + 1)) ((u2 (u2 I c 0 (I o 0)) c 1 ((u2 I c 0 (I o 0)) o 1)) (c + 1)) 0 0 4)) (o + 2)) ((ur (u2 (u2 I c 0 (I o 0)) c 1 ((u2 I c 0 (I o 0)) o 1)) (c + 1) (va_cpy ((u2 (u2 I c 0 (I o 0)) c 1 ((u2 I c 0 (I o 0)) o 1)) (o + 1)) ((u2 (u2 I c 0 (I o 0)) c 1 ((u2 I c 0 (I o 0)) o 1)) (c + 1)) 0 0 4)) (c + 2)) 0 0 4)) (c + 3)) 0 0 3)) (o + 4)) ((ur (ur (ur (u2 (u2 I c 0 (I o 0)) c 1 ((u2 I c 0 (I o 0)) o 1)) (c + 1) (va_cpy ((u2 (u2 I c 0 (I o 0)) c 1 ((u2 I c 0 (I o 0)) o 1)) (o + 1)) ((u2 (u2 I c 0 (I o 0)) c 1 ((u2 I c 0 (I o 0)) o 1)) (c + 1)) 0 0 4)) (c + 2) (va_cpy ((ur (u2 (u2 I c 0 (I o 0)) c 1 ((u2 I c 0 (I o 0)) o 1)) (c + 1) (va_cpy ((u2 (u2 I c 0 (I o 0)) c 1 ((u2 I c 0 (I o 0)) o 1)) (o + 1)) ((u2 (u2 I c 0 (I o 0)) c 1 ((u2 I c 0 (I o 0)) o 1)) (c + 1)) 0 0 4)) (o + 2)) ((ur (u2 (u2 I c 0 (I o 0)) c 1 ((u2 I c 0 (I o 0)) o 1)) (c + 1) (va_cpy ((u2 (u2 I c 0 (I o 0)) c 1 ((u2 I c 0 (I o 0)) o 1)) (o + 1)) ((u2 (u2 I c 0 (I o 0)) c 1 ((u2 I c 0 (I o 0)) o 1)) (c + 1)) 0 0 4)) (c + 2)) 0 0 4)) (c + 3) (va_cpy ((ur (ur (u2 (u2 I c 0 (I o 0)) c 1 ((u2 I c 0 (I o 0)) o 1)) (c + 1) (va_cpy ((u2 (u2 I c 0 (I o 0)) c 1 ((u2 I c 0 (I o 0)) o 1)) (o + 1)) ((u2 (u2 I c 0 (I o 0)) c 1 ((u2 I c 0 (I o 0)) o 1)) (c + 1)) 0 0 4)) (c + 2) (va_cpy ((ur (u2 (u2 I c 0 (I o 0)) c 1 ((u2 I c 0 (I o 0)) o 1)) (c + 1) (va_cpy ((u2 (u2 I c 0 (I o 0)) c 1 ((u2 I c 0 (I o 0)) o 1)) (o + 1)) ((u2 (u2 I c 0 (I o 0)) c 1 ((u2 I c 0 (I o 0)) o 1)) (c + 1)) 0 0 4)) (o + 2)) ((ur (u2 (u2 I c 0 (I o 0)) c 1 ((u2 I c 0 (I o 0)) o 1)) (c + 1) (va_cpy ((u2 (u2 I c 0 (I o 0)) c 1 ((u2 I c 0 (I o 0)) o 1)) (o + 1)) ((u2 (u2 I c 0 (I o 0)) c 1 ((u2 I c 0 (I o 0)) o 1)) (c + 1)) 0 0 4)) (c + 2)) 0 0 4)) (o + 3)) ((ur (ur (u2 (u2 I c 0 (I o 0)) c 1 ((u2 I c 0 (I o 0)) o 1)) (c + 1) (va_cpy ((u2 (u2 I c 0 (I o 0)) c 1 ((u2 I c 0 (I o 0)) o 1)) (o + 1)) ((u2 (u2 I c 0 (I o 0)) c 1 ((u2 I c 0 (I o 0)) o 1)) (c + 1)) 0 0 4)) (c + 2) (va_cpy ((ur (u2 (u2 I c 0 (I o 0)) c 1 ((u2 I c 0 (I o 0)) o 1)) (c + 1) (va_cpy ((u2 (u2 I c 0 (I o 0)) c 1 ((u2 I c 0 (I o 0)) o 1)) (o + 1)) ((u2 (u2 I c 0 (I o 0)) c 1 ((u2 I c 0 (I o 0)) o 1)) (c + 1)) 0 0 4)) (o + 2)) ((ur (u2 (u2 I c 0 (I o 0)) c 1 ((u2 I c 0 (I o 0)) o 1)) (c + 1) (va_cpy ((u2 (u2 I c 0 (I o 0)) c 1 ((u2 I c 0 (I o 0)) o 1)) (o + 1)) ((u2 (u2 I c 0 (I o 0)) c 1 ((u2 I c 0 (I o 0)) o 1)) (c + 1)) 0 0 4)) (c + 2)) 0 0 4)) (c + 3)) 0 0 3)) (c + 4)) 0 0 3)) (o + 5)) ((ur (ur (ur (ur (u2 (u2 I c 0 (I o 0)) c 1 ((u2 I c 0 (I o 0)) o 1)) (c + 1) (va_cpy ((u2 (u2 I c 0 (I o 0)) c 1 ((u2 I c 0 (I o 0)) o 1)) (o + 1)) ((u2 (u2 I c 0 (I o 0)) c 1 ((u2 I c 0 (I o 0)) o 1)) (c + 1)) 0 0 4)) (c + 2) (va_cpy ((ur (u2 (u2 I c 0 (I o 0)) c 1 ((u2 I c 0 (I o 0)) o 1)) (c + 1) (va_cpy ((u2 (u2 I c 0 (I o 0)) c 1 ((u2 I c 0 (I o 0)) o 1)) (o + 1)) ((u2 (u2 I c 0 (I o 0)) c 1 ((u2 I c 0 (I o 0)) o 1)) (c + 1)) 0 0 4)) (o + 2)) ((ur (u2 (u2 I c 0 (I o 0)) c 1 ((u2 I c 0 (I o 0)) o 1)) (c + 1) (va_cpy ((u2 (u2 I c 0 (I o 0)) c 1 ((u2 I c 0 (I o 0)) o 1)) (o + 1)) ((u2 (u2 I c 0 (I o 0)) c 1 ((u2 I c 0 (I o 0)) o 1)) (c + 1)) 0 0 4)) (c + 2)) 0 0 4)) (c + 3) (va_cpy ((ur (ur (u2 (u2 I c 0 (I o 0)) c 1 ((u2 I c 0 (I o 0)) o 1)) (c + 1) (va_cpy ((u2 (u2 I c 0 (I o 0)) c 1 ((u2 I c 0 (I o 0)) o 1)) (o + 1)) ((u2 (u2 I c 0 (I o 0)) c 1 ((u2 I c 0 (I o 0)) o 1)) (c + 1)) 0 0 4)) (c + 2) (va_cpy ((ur (u2 (u2 I c 0 (I o 0)) c 1 ((u2 I c 0 (I o 0)) o 1)) (c + 1) (va_cpy ((u2 (u2 I c 0 (I o 0)) c 1 ((u2 I c 0 (I o 0)) o 1)) (o + 1)) ((u2 (u2 I c 0 (I o 0)) c 1 ((u2 I c 0 (I o 0)) o 1)) (c + 1)) 0 0 4)) (o + 2)) ((ur (u2 (u2 I c 0 (I o 0)) c 1 ((u2 I c 0 (I o 0)) o 1)) (c + 1) (va_cpy ((u2 (u2 I c 0 (I o 0)) c 1 ((u2 I c 0 (I o 0)) o 1)) (o + 1)) ((u2 (u2 I c 0 (I o 0)) c 1 ((u2 I c 0 (I o 0)) o 1)) (c + 1)) 0 0 4)) (c + 2)) 0 0 4)) (o + 3)) ((ur (ur (u2 (u2 I c 0 (I o 0)) c 1 ((u2 I c 0 (I o 0)) o 1)) (c + 1) (va_cpy ((u2 (u2 I c 0 (I o 0)) c 1 ((u2 I c 0 (I o 0)) o 1)) (o + 1)) ((u2 (u2 I c 0 (I o 0)) c 1 ((u2 I c 0 (I o 0)) o 1)) (c + 1)) 0 0 4)) (c + 2) (va_cpy ((ur (u2 (u2 I c 0 (I o 0)) c 1 ((u2 I c 0 (I o 0)) o 1)) (c + 1) (va_cpy ((u2 (u2 I c 0 (I o 0)) c 1 ((u2 I c 0 (I o 0)) o 1)) (o + 1)) ((u2 (u2 I c 0 (I o 0)) c 1 ((u2 I c 0 (I o 0)) o 1)) (c + 1)) 0 0 4)) (o + 2)) ((ur (u2 (u2 I c 0 (I o 0)) c 1 ((u2 I c 0 (I o 0)) o 1)) (c + 1) (va_cpy ((u2 (u2 I c 0 (I o 0)) c 1 ((u2 I c 0 (I o 0)) o 1)) (o + 1)) ((u2 (u2 I c 0 (I o 0)) c 1 ((u2 I c 0 (I o 0)) o 1)) (c + 1)) 0 0 4)) (c + 2)) 0 0 4)) (c + 3)) 0 0 3)) (c + 4) (va_cpy ((ur (ur (ur (u2 (u2 I c 0 (I o 0)) c 1 ((u2 I c 0 (I o 0)) o 1)) (c + 1) (va_cpy ((u2 (u2 I c 0 (I o 0)) c 1 ((u2 I c 0 (I o 0)) o 1)) (o + 1)) ((u2 (u2 I c 0 (I o 0)) c 1 ((u2 I c 0 (I o 0)) o 1)) (c + 1)) 0 0 4)) (c + 2) (va_cpy ((ur (u2 (u2 I c 0 (I o 0)) c 1 ((u2 I c 0 (I o 0)) o 1)) (c + 1) (va_cpy ((u2 (u2 I c 0 (I o 0)) c 1 ((u2 I c 0 (I o 0)) o 1)) (o + 1)) ((u2 (u2 I c 0 (I o 0)) c 1 ((u2 I c 0 (I o 0)) o 1)) (c + 1)) 0 0 4)) (o + 2)) ((ur (u2 (u2 I c 0 (I o 0)) c 1 ((u2 I c 0 (I o 0)) o 1)) (c + 1) (va_cpy ((u2 (u2 I c 0 (I o 0)) c 1 ((u2 I c 0 (I o 0)) o 1)) (o + 1)) ((u2 (u2 I c 0 (I o 0)) c 1 ((u2 I c 0 (I o 0)) o 1)) (c + 1)) 0 0 4)) (c + 2)) 0 0 4)) (c + 3) (va_cpy ((ur (ur (u2 (u2 I c 0 (I o 0)) c 1 ((u2 I c 0 (I o 0)) o 1)) (c + 1) (va_cpy ((u2 (u2 I c 0 (I o 0)) c 1 ((u2 I c 0 (I o 0)) o 1)) (o + 1)) ((u2 (u2 I c 0 (I o 0)) c 1 ((u2 I c 0 (I o 0)) o 1)) (c + 1)) 0 0 4)) (c + 2) (va_cpy ((ur (u2 (u2 I c 0 (I o 0)) c 1 ((u2 I c 0 (I o 0)) o 1)) (c + 1) (va_cpy ((u2 (u2 I c 0 (I o 0)) c 1 ((u2 I c 0 (I o 0)) o 1)) (o + 1)) ((u2 (u2 I c 0 (I o 0)) c 1 ((u2 I c 0 (I o 0)) o 1)) (c + 1)) 0 0 4)) (o + 2)) ((ur (u2 (u2 I c 0 (I o 0)) c 1 ((u2 I c 0 (I o 0)) o 1)) (c + 1) (va_cpy ((u2 (u2 I c 0 (I o 0)) c 1 ((u2 I c 0 (I o 0)) o 1)) (o + 1)) ((u2 (u2 I c 0 (I o 0)) c 1 ((u2 I c 0 (I o 0)) o 1)) (c + 1)) 0 0 4)) (c + 2)) 0 0 4)) (o + 3)) ((ur (ur (u2 (u2 I c 0 (I o 0)) c 1 ((u2 I c 0 (I o 0)) o 1)) (c + 1) (va_cpy ((u2 (u2 I c 0 (I o 0)) c 1 ((u2 I c 0 (I o 0)) o 1)) (o + 1)) ((u2 (u2 I c 0 (I o 0)) c 1 ((u2 I c 0 (I o 0)) o 1)) (c + 1)) 0 0 4)) (c + 2) (va_cpy ((ur (u2 (u2 I c 0 (I o 0)) c 1 ((u2 I c 0 (I o 0)) o 1)) (c + 1) (va_cpy ((u2 (u2 I c 0 (I o 0)) c 1 ((u2 I c 0 (I o 0)) o 1)) (o + 1)) ((u2 (u2 I c 0 (I o 0)) c 1 ((u2 I c 0 (I o 0)) o 1)) (c + 1)) 0 0 4)) (o + 2)) ((ur (u2 (u2 I c 0 (I o 0)) c 1 ((u2 I c 0 (I o 0)) o 1)) (c + 1) (va_cpy ((u2 (u2 I c 0 (I o 0)) c 1 ((u2 I c 0 (I o 0)) o 1)) (o + 1)) ((u2 (u2 I c 0 (I o 0)) c 1 ((u2 I c 0 (I o 0)) o 1)) (c + 1)) 0 0 4)) (c + 2)) 0 0 4)) (c + 3)) 0 0 3)) (o + 4)) ((ur (ur (ur (u2 (u2 I c 0 (I o 0)) c 1 ((u2 I c 0 (I o 0)) o 1)) (c + 1) (va_cpy ((u2 (u2 I c 0 (I o 0)) c 1 ((u2 I c 0 (I o 0)) o 1)) (o + 1)) ((u2 (u2 I c 0 (I o 0)) c 1 ((u2 I c 0 (I o 0)) o 1)) (c + 1)) 0 0 4)) (c + 2) (va_cpy ((ur (u2 (u2 I c 0 (I o 0)) c 1 ((u2 I c 0 (I o 0)) o 1)) (c + 1) (va_cpy ((u2 (u2 I c 0 (I o 0)) c 1 ((u2 I c 0 (I o 0)) o 1)) (o + 1)) ((u2 (u2 I c 0 (I o 0)) c 1 ((u2 I c 0 (I o 0)) o 1)) (c + 1)) 0 0 4)) (o + 2)) ((ur (u2 (u2 I c 0 (I o 0)) c 1 ((u2 I c 0 (I o 0)) o 1)) (c + 1) (va_cpy ((u2 (u2 I c 0 (I o 0)) c 1 ((u2 I c 0 (I o 0)) o 1)) (o + 1)) ((u2 (u2 I c 0 (I o 0)) c 1 ((u2 I c 0 (I o 0)) o 1)) (c + 1)) 0 0 4)) (c + 2)) 0 0 4)) (c + 3) (va_cpy ((ur (ur (u2 (u2 I c 0 (I o 0)) c 1 ((u2 I c 0 (I o 0)) o 1)) (c + 1) (va_cpy ((u2 (u2 I c 0 (I o 0)) c 1 ((u2 I c 0 (I o 0)) o 1)) (o + 1)) ((u2 (u2 I c 0 (I o 0)) c 1 ((u2 I c 0 (I o 0)) o 1)) (c + 1)) 0 0 4)) (c + 2) (va_cpy ((ur (u2 (u2 I c 0 (I o 0)) c 1 ((u2 I c 0 (I o 0)) o 1)) (c + 1) (va_cpy ((u2 (u2 I c 0 (I o 0)) c 1 ((u2 I c 0 (I o 0)) o 1)) (o + 1)) ((u2 (u2 I c 0 (I o 0)) c 1 ((u2 I c 0 (I o 0)) o 1)) (c + 1)) 0 0 4)) (o + 2)) ((ur (u2 (u2 I c 0 (I o 0)) c 1 ((u2 I c 0 (I o 0)) o 1)) (c + 1) (va_cpy ((u2 (u2 I c 0 (I o 0)) c 1 ((u2 I c 0 (I o 0)) o 1)) (o + 1)) ((u2 (u2 I c 0 (I o 0)) c 1 ((u2 I c 0 (I o 0)) o 1)) (c + 1)) 0 0 4)) (c + 2)) 0 0 4)) (o + 3)) ((ur (ur (u2 (u2 I c 0 (I o 0)) c 1 ((u2 I c 0 (I o 0)) o 1)) (c + 1) (va_cpy ((u2 (u2 I c 0 (I o 0)) c 1 ((u2 I c 0 (I o 0)) o 1)) (o + 1)) ((u2 (u2 I c 0 (I o 0)) c 1 ((u2 I c 0 (I o 0)) o 1)) (c + 1)) 0 0 4)) (c + 2) (va_cpy ((ur (u2 (u2 I c 0 (I o 0)) c 1 ((u2 I c 0 (I o 0)) o 1)) (c + 1) (va_cpy ((u2 (u2 I c 0 (I o 0)) c 1 ((u2 I c 0 (I o 0)) o 1)) (o + 1)) ((u2 (u2 I c 0 (I o 0)) c 1 ((u2 I c 0 (I o 0)) o 1)) (c + 1)) 0 0 4)) (o + 2)) ((ur (u2 (u2 I c 0 (I o 0)) c 1 ((u2 I c 0 (I o 0)) o 1)) (c + 1) (va_cpy ((u2 (u2 I c 0 (I o 0)) c 1 ((u2 I c 0 (I o 0)) o 1)) (o + 1)) ((u2 (u2 I c 0 (I o 0)) c 1 ((u2 I c 0 (I o 0)) o 1)) (c + 1)) 0 0 4)) (c + 2)) 0 0 4)) (c + 3)) 0 0 3)) (c + 4)) 0 0 3)) (c + 5)) 0 0 20)) G J Φ)
  refine E_aload_n 0 dX2_copyFrom_87 rfl rfl ?_
  refine E_aload_n 1 dX2_copyFrom_88 rfl rfl ?_
  refine E_geti 2 7 o 8 dX2_copyFrom_89 fl_RX2_34 rfl (sM0 ho) ?_
  refine E_puti 2 7 c 8 dX2_copyFrom_92 fl_RX2_34 rfl (sM0 hc) ⟨_, rfl, rfl⟩ rfl rfl ?_
  exact E_rv dX2_copyFrom_95 rfl ⟨rfl, rfl⟩ hy
set_option maxRecDepth 100000 in
theorem w_X2_fallDusk {d : Nat} {I : MI} {G : MG} {J : MJ} {Φ : Ph} (hG : WG G) {c : Nat} (hc : isM c) {a : Nat} (ha : isL a) (x2 : Int32) (hy : Ev (d + 1) mX2_fallDusk 136 2 [some (.ref c), some (.ref a), some (.int x2), some (.int (0 : Int32)), none] [] 136 I G J Φ) : Ev (d + 1) mX2_fallDusk 136 0 [some (.ref c), some (.ref a), some (.int x2), none, none] [] 136 I G J Φ := by
  refine E_iconst (0 : Int32) dX2_fallDusk_0 rfl ?_
  refine E_istore_n 3 dX2_fallDusk_1 rfl (Nat.le_of_ble_eq_true rfl) (?_ : Ev (d + 1) mX2_fallDusk 136 2 [some (.ref c), some (.ref a), some (.int x2), some (.int (0 : Int32)), none] [] 136 I G J Φ)
  exact hy
set_option maxRecDepth 100000 in
theorem w_X2_fallDusk_2 {d : Nat} {I : MI} {G : MG} {J : MJ} {Φ : Ph} (hG : WG G)  {c : Nat} (hc : isM c) {a : Nat} (ha : isL a) (x2 : Int32) (x3 : Int32) (hy : ((I a 0) ≤ x3 → Ev d mX2_rest 136 0 [some (.ref c), some (.ref a), none] [] 136 I G J (fun r n I2 G2 J2 => r = none ∧ n = 136 ∧ G = G2 ∧ J = J2 ∧ (Φ none 136 (u2 (u2 I2 c 0 ((I2 c 0) + (1 : Int32))) c 1 (0 : Int32)) G J))) ∧ (¬ (I a 0) ≤ x3 → Ev d mX2_isOver 136 0 [some (.ref c), some (.ref a), some (.int x3)] [] 136 I G J (fun r n I3 G3 J3 => ∃ v3 : Int32, r = some (.int v3) ∧ n = 136 ∧ I = I3 ∧ G = G3 ∧ J = J3 ∧ ((¬ v3 = 0 → Ev (d + 1) mX2_fallDusk 136 2 [some (.ref c), some (.ref a), some (.int x2), some (.int (x3 + (1 : Int32))), none] [] 136 I G J Φ) ∧ (v3 = 0 → (¬ x2 = 0 → vp_in x3 4 ∧ (vp_in x3 4 ∧ (vp_in x3 4 ∧ (vp_in x3 4 ∧ (Ev (d + 1) mX2_fallDusk 136 2 [some (.ref c), some (.ref a), some (.int x2), some (.int (x3 + (1 : Int32))), none] [] 136 (u2 (u2 I (c + 2) (x3).toNatClampNeg ((I (c + 2) (x3).toNatClampNeg) + (I (c + 1) (x3).toNatClampNeg))) (c + 1) (x3).toNatClampNeg (0 : Int32)) G J Φ))))) ∧ (x2 = 0 → vp_in x3 4 ∧ (Ev d mX1_hasLedge 136 0 [some (.ref a), some (.int x3), some (.int (I (c + 1) (x3).toNatClampNeg))] [] 136 I G J (fun r n I13 G13 J13 => ∃ v13 : Int32, r = some (.int v13) ∧ n = 136 ∧ I = I13 ∧ G = G13 ∧ J = J13 ∧ ((v13 = 0 → vp_in x3 4 ∧ (vp_in x3 4 ∧ (vp_in x3 4 ∧ (vp_in x3 4 ∧ (Ev (d + 1) mX2_fallDusk 136 2 [some (.ref c), some (.ref a), some (.int x2), some (.int (x3 + (1 : Int32))), none] [] 136 (u2 (u2 I (c + 2) (x3).toNatClampNeg ((I (c + 2) (x3).toNatClampNeg) + (I (c + 1) (x3).toNatClampNeg))) (c + 1) (x3).toNatClampNeg (0 : Int32)) G J Φ))))) ∧ (¬ v13 = 0 → Ev (d + 1) mX2_fallDusk 136 2 [some (.ref c), some (.ref a), some (.int x2), some (.int (x3 + (1 : Int32))), none] [] 136 I G J Φ)))))))))) : Ev (d + 1) mX2_fallDusk 136 2 [some (.ref c), some (.ref a), some (.int x2), some (.int x3), none] [] 136 I G J Φ := by
  refine E_iload_n 3 dX2_fallDusk_2 rfl rfl ?_
  refine E_aload_n 1 dX2_fallDusk_3 rfl rfl ?_
  refine E_geti 1 0 a 15 dX2_fallDusk_4 fl_RX2_52 rfl (sL0 ha) ?_
  refine E_icmp_ge 77 dX2_fallDusk_7 rfl (fun h1 => ?_) (fun h1 => ?_)
  · replace hy := hy.1 h1
    refine E_aload_n 0 dX2_fallDusk_77 rfl rfl ?_
    refine E_aload_n 1 dX2_fallDusk_78 rfl rfl ?_
    refine E_cv (M := mX2_fallDusk) (pc := 79) (As := [.ref a]) (st := []) mX2_rest 1 2 8 dX2_fallDusk_79 lk_RX2_37 ⟨_, rfl, rfl⟩ (sM0 hc) rfl (Nat.le_of_ble_eq_true rfl) ⟨rfl, rfl⟩ (Nat.le_of_ble_eq_true rfl) rfl hy ?_
    rintro r n I2 G2 J2 ⟨rfl, rfl, rfl, rfl, hy⟩
    show Ev (d + 1) mX2_fallDusk 136 82 [some (.ref c), some (.ref a), some (.int x2), some (.int x3), none] [] 136 I2 G J Φ
    refine E_aload_n 0 dX2_fallDusk_82 rfl rfl ?_
    refine E_dup dX2_fallDusk_83 rfl ?_
    refine E_geti 2 0 c 8 dX2_fallDusk_84 fl_RX2_27 rfl (sM0 hc) ?_
    refine E_iconst (1 : Int32) dX2_fallDusk_87 rfl ?_
    refine E_iadd dX2_fallDusk_88 ?_
    refine E_puti 2 0 c 8 dX2_fallDusk_89 fl_RX2_27 rfl (sM0 hc) ⟨_, rfl, rfl⟩ rfl rfl ?_
    refine E_aload_n 0 dX2_fallDusk_92 rfl rfl ?_
    refine E_iconst (0 : Int32) dX2_fallDusk_93 rfl ?_
    refine E_puti 2 1 c 8 dX2_fallDusk_94 fl_RX2_31 rfl (sM0 hc) ⟨_, rfl, rfl⟩ rfl rfl ?_
    exact E_rv dX2_fallDusk_97 rfl ⟨rfl, rfl⟩ hy
  · replace hy := hy.2 h1
    refine E_aload_n 0 dX2_fallDusk_10 rfl rfl ?_
    refine E_aload_n 1 dX2_fallDusk_11 rfl rfl ?_
    refine E_iload_n 3 dX2_fallDusk_12 rfl rfl ?_
    refine E_cv (M := mX2_fallDusk) (pc := 13) (As := [.ref a, .int x3]) (st := []) mX2_isOver 2 2 8 dX2_fallDusk_13 lk_RX2_55 ⟨_, rfl, rfl⟩ (sM0 hc) rfl (Nat.le_of_ble_eq_true rfl) ⟨rfl, rfl⟩ (Nat.le_of_ble_eq_true rfl) rfl hy ?_
    rintro r n I3 G3 J3 ⟨v3, rfl, rfl, rfl, rfl, rfl, hy⟩
    show Ev (d + 1) mX2_fallDusk 136 16 [some (.ref c), some (.ref a), some (.int x2), some (.int x3), none] [.int v3] 136 I G J Φ
    refine E_if_ne 37 dX2_fallDusk_16 rfl (fun h4 => ?_) (fun h4 => ?_)
    · replace hy := hy.1 h4
      refine E_iconst (1 : Int32) dX2_fallDusk_37 rfl ?_
      refine E_goto 42 dX2_fallDusk_38 rfl ?_
      refine E_istore dX2_fallDusk_42 (Nat.le_of_ble_eq_true rfl) (?_ : Ev (d + 1) mX2_fallDusk 136 44 [some (.ref c), some (.ref a), some (.int x2), some (.int x3), some (.int (1 : Int32))] [] 136 I G J Φ)
      refine E_iload dX2_fallDusk_44 rfl ?_
      refine E_if_ne 71 dX2_fallDusk_46 rfl (fun h5 => ?_) (fun h5 => ?_)
      rotate_left
      · exact absurd (by decide) h5
      refine E_iinc (x3 + (1 : Int32)) dX2_fallDusk_71 rfl rfl (Nat.le_of_ble_eq_true rfl) (?_ : Ev (d + 1) mX2_fallDusk 136 74 [some (.ref c), some (.ref a), some (.int x2), some (.int (x3 + (1 : Int32))), some (.int (1 : Int32))] [] 136 I G J Φ)
      refine E_goto 2 dX2_fallDusk_74 rfl ?_
      refine E_wk (ls2 := [some (.ref c), some (.ref a), some (.int x2), some (.int (x3 + (1 : Int32))), none]) ⟨rfl, rfl, rfl, rfl, trivial⟩ ?_
      exact hy
    · replace hy := hy.2 (Decidable.not_not.mp h4)
      refine E_iload_n 2 dX2_fallDusk_19 rfl rfl ?_
      refine E_if_ne 41 dX2_fallDusk_20 rfl (fun h6 => ?_) (fun h6 => ?_)
      · replace hy := hy.1 h6
        refine E_iconst (0 : Int32) dX2_fallDusk_41 rfl ?_
        refine E_istore dX2_fallDusk_42 (Nat.le_of_ble_eq_true rfl) (?_ : Ev (d + 1) mX2_fallDusk 136 44 [some (.ref c), some (.ref a), some (.int x2), some (.int x3), some (.int (0 : Int32))] [] 136 I G J Φ)
        refine E_iload dX2_fallDusk_44 rfl ?_
        refine E_if_ne 71 dX2_fallDusk_46 rfl (fun h7 => ?_) (fun h7 => ?_)
        · exact absurd h7 (by decide)
        refine E_aload_n 0 dX2_fallDusk_49 rfl rfl ?_
        refine E_getr 2 3 c 8 (c + 2) dX2_fallDusk_50 fl_RX2_15 rfl (sM0 hc) (gM3 hG hc) ?_
        refine E_iload_n 3 dX2_fallDusk_53 rfl rfl ?_
        refine E_dup2 dX2_fallDusk_54 rfl rfl ?_
        have c8 := hy.1
        replace hy := hy.2
        refine E_ia (c + 2) 4 (x3).toNatClampNeg dX2_fallDusk_55 (sM2 hc) c8 rfl ?_
        refine E_aload_n 0 dX2_fallDusk_56 rfl rfl ?_
        refine E_getr 2 2 c 8 (c + 1) dX2_fallDusk_57 fl_RX2_9 rfl (sM0 hc) (gM2 hG hc) ?_
        refine E_iload_n 3 dX2_fallDusk_60 rfl rfl ?_
        have c9 := hy.1
        replace hy := hy.2
        refine E_ia (c + 1) 4 (x3).toNatClampNeg dX2_fallDusk_61 (sM1 hc) c9 rfl ?_
        refine E_iadd dX2_fallDusk_62 ?_
        have c10 := hy.1
        replace hy := hy.2
        refine E_is (c + 2) 4 (x3).toNatClampNeg dX2_fallDusk_63 (sM2 hc) c10 rfl ?_
        refine E_aload_n 0 dX2_fallDusk_64 rfl rfl ?_
        refine E_getr 2 2 c 8 (c + 1) dX2_fallDusk_65 fl_RX2_9 rfl (sM0 hc) (gM2 hG hc) ?_
        refine E_iload_n 3 dX2_fallDusk_68 rfl rfl ?_
        refine E_iconst (0 : Int32) dX2_fallDusk_69 rfl ?_
        have c11 := hy.1
        replace hy := hy.2
        refine E_is (c + 1) 4 (x3).toNatClampNeg dX2_fallDusk_70 (sM1 hc) c11 rfl ?_
        refine E_iinc (x3 + (1 : Int32)) dX2_fallDusk_71 rfl rfl (Nat.le_of_ble_eq_true rfl) (?_ : Ev (d + 1) mX2_fallDusk 136 74 [some (.ref c), some (.ref a), some (.int x2), some (.int (x3 + (1 : Int32))), some (.int (0 : Int32))] [] 136 (u2 (u2 I (c + 2) (x3).toNatClampNeg ((I (c + 2) (x3).toNatClampNeg) + (I (c + 1) (x3).toNatClampNeg))) (c + 1) (x3).toNatClampNeg (0 : Int32)) G J Φ)
        refine E_goto 2 dX2_fallDusk_74 rfl ?_
        refine E_wk (ls2 := [some (.ref c), some (.ref a), some (.int x2), some (.int (x3 + (1 : Int32))), none]) ⟨rfl, rfl, rfl, rfl, trivial⟩ ?_
        exact hy
      · replace hy := hy.2 (Decidable.not_not.mp h6)
        refine E_aload_n 1 dX2_fallDusk_23 rfl rfl ?_
        refine E_iload_n 3 dX2_fallDusk_24 rfl rfl ?_
        refine E_aload_n 0 dX2_fallDusk_25 rfl rfl ?_
        refine E_getr 2 2 c 8 (c + 1) dX2_fallDusk_26 fl_RX2_9 rfl (sM0 hc) (gM2 hG hc) ?_
        refine E_iload_n 3 dX2_fallDusk_29 rfl rfl ?_
        have c12 := hy.1
        replace hy := hy.2
        refine E_ia (c + 1) 4 (x3).toNatClampNeg dX2_fallDusk_30 (sM1 hc) c12 rfl ?_
        refine E_cv (M := mX2_fallDusk) (pc := 31) (As := [.int x3, .int (I (c + 1) (x3).toNatClampNeg)]) (st := []) mX1_hasLedge 2 1 15 dX2_fallDusk_31 lk_RX2_118 ⟨_, rfl, rfl⟩ (sL0 ha) rfl (Nat.le_of_ble_eq_true rfl) ⟨rfl, rfl⟩ (Nat.le_of_ble_eq_true rfl) rfl hy ?_
        rintro r n I13 G13 J13 ⟨v13, rfl, rfl, rfl, rfl, rfl, hy⟩
        show Ev (d + 1) mX2_fallDusk 136 34 [some (.ref c), some (.ref a), some (.int x2), some (.int x3), none] [.int v13] 136 I G J Φ
        refine E_if_eq 41 dX2_fallDusk_34 rfl (fun h14 => ?_) (fun h14 => ?_)
        · replace hy := hy.1 h14
          refine E_iconst (0 : Int32) dX2_fallDusk_41 rfl ?_
          refine E_istore dX2_fallDusk_42 (Nat.le_of_ble_eq_true rfl) (?_ : Ev (d + 1) mX2_fallDusk 136 44 [some (.ref c), some (.ref a), some (.int x2), some (.int x3), some (.int (0 : Int32))] [] 136 I G J Φ)
          refine E_iload dX2_fallDusk_44 rfl ?_
          refine E_if_ne 71 dX2_fallDusk_46 rfl (fun h15 => ?_) (fun h15 => ?_)
          · exact absurd h15 (by decide)
          refine E_aload_n 0 dX2_fallDusk_49 rfl rfl ?_
          refine E_getr 2 3 c 8 (c + 2) dX2_fallDusk_50 fl_RX2_15 rfl (sM0 hc) (gM3 hG hc) ?_
          refine E_iload_n 3 dX2_fallDusk_53 rfl rfl ?_
          refine E_dup2 dX2_fallDusk_54 rfl rfl ?_
          have c16 := hy.1
          replace hy := hy.2
          refine E_ia (c + 2) 4 (x3).toNatClampNeg dX2_fallDusk_55 (sM2 hc) c16 rfl ?_
          refine E_aload_n 0 dX2_fallDusk_56 rfl rfl ?_
          refine E_getr 2 2 c 8 (c + 1) dX2_fallDusk_57 fl_RX2_9 rfl (sM0 hc) (gM2 hG hc) ?_
          refine E_iload_n 3 dX2_fallDusk_60 rfl rfl ?_
          have c17 := hy.1
          replace hy := hy.2
          refine E_ia (c + 1) 4 (x3).toNatClampNeg dX2_fallDusk_61 (sM1 hc) c17 rfl ?_
          refine E_iadd dX2_fallDusk_62 ?_
          have c18 := hy.1
          replace hy := hy.2
          refine E_is (c + 2) 4 (x3).toNatClampNeg dX2_fallDusk_63 (sM2 hc) c18 rfl ?_
          refine E_aload_n 0 dX2_fallDusk_64 rfl rfl ?_
          refine E_getr 2 2 c 8 (c + 1) dX2_fallDusk_65 fl_RX2_9 rfl (sM0 hc) (gM2 hG hc) ?_
          refine E_iload_n 3 dX2_fallDusk_68 rfl rfl ?_
          refine E_iconst (0 : Int32) dX2_fallDusk_69 rfl ?_
          have c19 := hy.1
          replace hy := hy.2
          refine E_is (c + 1) 4 (x3).toNatClampNeg dX2_fallDusk_70 (sM1 hc) c19 rfl ?_
          refine E_iinc (x3 + (1 : Int32)) dX2_fallDusk_71 rfl rfl (Nat.le_of_ble_eq_true rfl) (?_ : Ev (d + 1) mX2_fallDusk 136 74 [some (.ref c), some (.ref a), some (.int x2), some (.int (x3 + (1 : Int32))), some (.int (0 : Int32))] [] 136 (u2 (u2 I (c + 2) (x3).toNatClampNeg ((I (c + 2) (x3).toNatClampNeg) + (I (c + 1) (x3).toNatClampNeg))) (c + 1) (x3).toNatClampNeg (0 : Int32)) G J Φ)
          refine E_goto 2 dX2_fallDusk_74 rfl ?_
          refine E_wk (ls2 := [some (.ref c), some (.ref a), some (.int x2), some (.int (x3 + (1 : Int32))), none]) ⟨rfl, rfl, rfl, rfl, trivial⟩ ?_
          exact hy
        · replace hy := hy.2 h14
          refine E_iconst (1 : Int32) dX2_fallDusk_37 rfl ?_
          refine E_goto 42 dX2_fallDusk_38 rfl ?_
          refine E_istore dX2_fallDusk_42 (Nat.le_of_ble_eq_true rfl) (?_ : Ev (d + 1) mX2_fallDusk 136 44 [some (.ref c), some (.ref a), some (.int x2), some (.int x3), some (.int (1 : Int32))] [] 136 I G J Φ)
          refine E_iload dX2_fallDusk_44 rfl ?_
          refine E_if_ne 71 dX2_fallDusk_46 rfl (fun h20 => ?_) (fun h20 => ?_)
          rotate_left
          · exact absurd (by decide) h20
          refine E_iinc (x3 + (1 : Int32)) dX2_fallDusk_71 rfl rfl (Nat.le_of_ble_eq_true rfl) (?_ : Ev (d + 1) mX2_fallDusk 136 74 [some (.ref c), some (.ref a), some (.int x2), some (.int (x3 + (1 : Int32))), some (.int (1 : Int32))] [] 136 I G J Φ)
          refine E_goto 2 dX2_fallDusk_74 rfl ?_
          refine E_wk (ls2 := [some (.ref c), some (.ref a), some (.int x2), some (.int (x3 + (1 : Int32))), none]) ⟨rfl, rfl, rfl, rfl, trivial⟩ ?_
          exact hy
set_option maxRecDepth 100000 in
theorem w_X2_freeSteps {d : Nat} {I : MI} {G : MG} {J : MJ} {Φ : Ph} (hG : WG G) {c : Nat} (hc : isM c) {a : Nat} (ha : isL a) (x2 : Int32) (hy : vp_in x2 4 ∧ (Ev (d + 1) mX2_freeSteps 136 12 [some (.ref c), some (.ref a), some (.int x2), some (.int (0 : Int32)), some (.int ((I (c + 1) (x2).toNatClampNeg) + (1 : Int32)))] [] 136 I G J Φ)) : Ev (d + 1) mX2_freeSteps 136 0 [some (.ref c), some (.ref a), some (.int x2), none, none] [] 136 I G J Φ := by
  refine E_iconst (0 : Int32) dX2_freeSteps_0 rfl ?_
  refine E_istore_n 3 dX2_freeSteps_1 rfl (Nat.le_of_ble_eq_true rfl) (?_ : Ev (d + 1) mX2_freeSteps 136 2 [some (.ref c), some (.ref a), some (.int x2), some (.int (0 : Int32)), none] [] 136 I G J Φ)
  refine E_aload_n 0 dX2_freeSteps_2 rfl rfl ?_
  refine E_getr 2 2 c 8 (c + 1) dX2_freeSteps_3 fl_RX2_9 rfl (sM0 hc) (gM2 hG hc) ?_
  refine E_iload_n 2 dX2_freeSteps_6 rfl rfl ?_
  have c1 := hy.1
  replace hy := hy.2
  refine E_ia (c + 1) 4 (x2).toNatClampNeg dX2_freeSteps_7 (sM1 hc) c1 rfl ?_
  refine E_iconst (1 : Int32) dX2_freeSteps_8 rfl ?_
  refine E_iadd dX2_freeSteps_9 ?_
  refine E_istore dX2_freeSteps_10 (Nat.le_of_ble_eq_true rfl) (?_ : Ev (d + 1) mX2_freeSteps 136 12 [some (.ref c), some (.ref a), some (.int x2), some (.int (0 : Int32)), some (.int ((I (c + 1) (x2).toNatClampNeg) + (1 : Int32)))] [] 136 I G J Φ)
  exact hy
set_option maxRecDepth 100000 in
theorem w_X2_freeSteps_12 {d : Nat} {I : MI} {G : MG} {J : MJ} {Φ : Ph} (hG : WG G)  {c : Nat} (hc : isM c) {a : Nat} (ha : isL a) (x2 : Int32) (x3 : Int32) (x4 : Int32) (hy : vp_in x2 4 ∧ (((I (a + 1) (x2).toNatClampNeg) < x4 → Φ (some (.int x3)) 136 I G J) ∧ (¬ (I (a + 1) (x2).toNatClampNeg) < x4 → Ev d mX2_blockersAt 136 0 [some (.ref c), some (.ref a), some (.int x2), some (.int x4), none, none, none] [] 136 I G J (fun r n I3 G3 J3 => ∃ v3 : Int32, r = some (.int v3) ∧ n = 136 ∧ I = I3 ∧ G = G3 ∧ J = J3 ∧ ((v3 = 0 → Ev (d + 1) mX2_freeSteps 136 12 [some (.ref c), some (.ref a), some (.int x2), some (.int (x3 + (1 : Int32))), some (.int (x4 + (1 : Int32)))] [] 136 I G J Φ) ∧ (¬ v3 = 0 → Φ (some (.int x3)) 136 I G J)))))) : Ev (d + 1) mX2_freeSteps 136 12 [some (.ref c), some (.ref a), some (.int x2), some (.int x3), some (.int x4)] [] 136 I G J Φ := by
  refine E_iload dX2_freeSteps_12 rfl ?_
  refine E_aload_n 1 dX2_freeSteps_14 rfl rfl ?_
  refine E_getr 1 1 a 15 (a + 1) dX2_freeSteps_15 fl_RX2_47 rfl (sL0 ha) (gL1 hG ha) ?_
  refine E_iload_n 2 dX2_freeSteps_18 rfl rfl ?_
  have c1 := hy.1
  replace hy := hy.2
  refine E_ia (a + 1) 4 (x2).toNatClampNeg dX2_freeSteps_19 (sL1 ha) c1 rfl ?_
  refine E_icmp_gt 46 dX2_freeSteps_20 rfl (fun h2 => ?_) (fun h2 => ?_)
  · replace hy := hy.1 h2
    refine E_iload_n 3 dX2_freeSteps_46 rfl rfl ?_
    exact E_ri dX2_freeSteps_47 rfl ⟨rfl, rfl⟩ hy
  · replace hy := hy.2 h2
    refine E_aload_n 0 dX2_freeSteps_23 rfl rfl ?_
    refine E_aload_n 1 dX2_freeSteps_24 rfl rfl ?_
    refine E_iload_n 2 dX2_freeSteps_25 rfl rfl ?_
    refine E_iload dX2_freeSteps_26 rfl ?_
    refine E_cv (M := mX2_freeSteps) (pc := 28) (As := [.ref a, .int x2, .int x4]) (st := []) mX2_blockersAt 3 2 8 dX2_freeSteps_28 lk_RX2_85 ⟨_, rfl, rfl⟩ (sM0 hc) rfl (Nat.le_of_ble_eq_true rfl) ⟨rfl, rfl⟩ (Nat.le_of_ble_eq_true rfl) rfl hy ?_
    rintro r n I3 G3 J3 ⟨v3, rfl, rfl, rfl, rfl, rfl, hy⟩
    show Ev (d + 1) mX2_freeSteps 136 31 [some (.ref c), some (.ref a), some (.int x2), some (.int x3), some (.int x4)] [.int v3] 136 I G J Φ
    refine E_if_eq 37 dX2_freeSteps_31 rfl (fun h4 => ?_) (fun h4 => ?_)
    · replace hy := hy.1 h4
      refine E_iinc (x3 + (1 : Int32)) dX2_freeSteps_37 rfl rfl (Nat.le_of_ble_eq_true rfl) (?_ : Ev (d + 1) mX2_freeSteps 136 40 [some (.ref c), some (.ref a), some (.int x2), some (.int (x3 + (1 : Int32))), some (.int x4)] [] 136 I G J Φ)
      refine E_iinc (x4 + (1 : Int32)) dX2_freeSteps_40 rfl rfl (Nat.le_of_ble_eq_true rfl) (?_ : Ev (d + 1) mX2_freeSteps 136 43 [some (.ref c), some (.ref a), some (.int x2), some (.int (x3 + (1 : Int32))), some (.int (x4 + (1 : Int32)))] [] 136 I G J Φ)
      refine E_goto 12 dX2_freeSteps_43 rfl ?_
      exact hy
    · replace hy := hy.2 h4
      refine E_goto 46 dX2_freeSteps_34 rfl ?_
      refine E_iload_n 3 dX2_freeSteps_46 rfl rfl ?_
      exact E_ri dX2_freeSteps_47 rfl ⟨rfl, rfl⟩ hy
set_option maxRecDepth 100000 in
theorem w_X2_hoursLeft {d : Nat} {I : MI} {G : MG} {J : MJ} {Φ : Ph} (hG : WG G) {c : Nat} (hc : isM c) {a : Nat} (ha : isL a) (hy : Φ (some (.int ((I a 11) - (I c 1)))) 136 I G J) : Ev d mX2_hoursLeft 136 0 [some (.ref c), some (.ref a)] [] 136 I G J Φ := by
  refine E_aload_n 1 dX2_hoursLeft_0 rfl rfl ?_
  refine E_geti 1 11 a 15 dX2_hoursLeft_1 fl_RX2_75 rfl (sL0 ha) ?_
  refine E_aload_n 0 dX2_hoursLeft_4 rfl rfl ?_
  refine E_geti 2 1 c 8 dX2_hoursLeft_5 fl_RX2_31 rfl (sM0 hc) ?_
  refine E_isub dX2_hoursLeft_8 ?_
  exact E_ri dX2_hoursLeft_9 rfl ⟨rfl, rfl⟩ hy
set_option maxRecDepth 100000 in
theorem w_X2_isOver {d : Nat} {I : MI} {G : MG} {J : MJ} {Φ : Ph} (hG : WG G) {c : Nat} (hc : isM c) {a : Nat} (ha : isL a) (x2 : Int32) (hy : vp_in x2 4 ∧ (vp_in x2 4 ∧ (((I (c + 1) (x2).toNatClampNeg) < (I (a + 1) (x2).toNatClampNeg) → Φ (some (.int (0 : Int32))) 136 I G J) ∧ (¬ (I (c + 1) (x2).toNatClampNeg) < (I (a + 1) (x2).toNatClampNeg) → Φ (some (.int (1 : Int32))) 136 I G J)))) : Ev d mX2_isOver 136 0 [some (.ref c), some (.ref a), some (.int x2)] [] 136 I G J Φ := by
  refine E_aload_n 0 dX2_isOver_0 rfl rfl ?_
  refine E_getr 2 2 c 8 (c + 1) dX2_isOver_1 fl_RX2_9 rfl (sM0 hc) (gM2 hG hc) ?_
  refine E_iload_n 2 dX2_isOver_4 rfl rfl ?_
  have c1 := hy.1
  replace hy := hy.2
  refine E_ia (c + 1) 4 (x2).toNatClampNeg dX2_isOver_5 (sM1 hc) c1 rfl ?_
  refine E_aload_n 1 dX2_isOver_6 rfl rfl ?_
  refine E_getr 1 1 a 15 (a + 1) dX2_isOver_7 fl_RX2_47 rfl (sL0 ha) (gL1 hG ha) ?_
  refine E_iload_n 2 dX2_isOver_10 rfl rfl ?_
  have c2 := hy.1
  replace hy := hy.2
  refine E_ia (a + 1) 4 (x2).toNatClampNeg dX2_isOver_11 (sL1 ha) c2 rfl ?_
  refine E_icmp_lt 19 dX2_isOver_12 rfl (fun h3 => ?_) (fun h3 => ?_)
  · replace hy := hy.1 h3
    refine E_iconst (0 : Int32) dX2_isOver_19 rfl ?_
    exact E_rz dX2_isOver_20 rfl rfl ⟨rfl, rfl⟩ hy
  · replace hy := hy.2 h3
    refine E_iconst (1 : Int32) dX2_isOver_15 rfl ?_
    refine E_goto 20 dX2_isOver_16 rfl ?_
    exact E_rz dX2_isOver_20 rfl rfl ⟨rfl, rfl⟩ hy
set_option maxRecDepth 100000 in
theorem w_X2_menAt {d : Nat} {I : MI} {G : MG} {J : MJ} {Φ : Ph} (hG : WG G) {c : Nat} (hc : isM c) {a : Nat} (ha : isL a) (x2 : Int32) (hy : Ev d mX2_menAt 136 5 [some (.ref c), some (.ref a), some (.int x2), some (.int (0 : Int32)), some (.int (0 : Int32))] [] 136 I G J Φ) : Ev d mX2_menAt 136 0 [some (.ref c), some (.ref a), some (.int x2), none, none] [] 136 I G J Φ := by
  refine E_iconst (0 : Int32) dX2_menAt_0 rfl ?_
  refine E_istore_n 3 dX2_menAt_1 rfl (Nat.le_of_ble_eq_true rfl) (?_ : Ev d mX2_menAt 136 2 [some (.ref c), some (.ref a), some (.int x2), some (.int (0 : Int32)), none] [] 136 I G J Φ)
  refine E_iconst (0 : Int32) dX2_menAt_2 rfl ?_
  refine E_istore dX2_menAt_3 (Nat.le_of_ble_eq_true rfl) (?_ : Ev d mX2_menAt 136 5 [some (.ref c), some (.ref a), some (.int x2), some (.int (0 : Int32)), some (.int (0 : Int32))] [] 136 I G J Φ)
  exact hy
set_option maxRecDepth 100000 in
theorem w_X2_menAt_5 {d : Nat} {I : MI} {G : MG} {J : MJ} {Φ : Ph} (hG : WG G)  {c : Nat} (hc : isM c) {a : Nat} (ha : isL a) (x2 : Int32) (x3 : Int32) (x4 : Int32) (hy : ((I a 9) ≤ x4 → Φ (some (.int x3)) 136 I G J) ∧ (¬ (I a 9) ≤ x4 → vp_in x4 3 ∧ ((¬ (I (c + 4) (x4).toNatClampNeg) = x2 → Ev d mX2_menAt 136 5 [some (.ref c), some (.ref a), some (.int x2), some (.int x3), some (.int (x4 + (1 : Int32)))] [] 136 I G J Φ) ∧ ((I (c + 4) (x4).toNatClampNeg) = x2 → Ev d mX2_menAt 136 5 [some (.ref c), some (.ref a), some (.int x2), some (.int (x3 + (1 : Int32))), some (.int (x4 + (1 : Int32)))] [] 136 I G J Φ)))) : Ev d mX2_menAt 136 5 [some (.ref c), some (.ref a), some (.int x2), some (.int x3), some (.int x4)] [] 136 I G J Φ := by
  refine E_iload dX2_menAt_5 rfl ?_
  refine E_aload_n 1 dX2_menAt_7 rfl rfl ?_
  refine E_geti 1 9 a 15 dX2_menAt_8 fl_RX2_78 rfl (sL0 ha) ?_
  refine E_icmp_ge 34 dX2_menAt_11 rfl (fun h1 => ?_) (fun h1 => ?_)
  · replace hy := hy.1 h1
    refine E_iload_n 3 dX2_menAt_34 rfl rfl ?_
    exact E_ri dX2_menAt_35 rfl ⟨rfl, rfl⟩ hy
  · replace hy := hy.2 h1
    refine E_aload_n 0 dX2_menAt_14 rfl rfl ?_
    refine E_getr 2 5 c 8 (c + 4) dX2_menAt_15 fl_RX2_21 rfl (sM0 hc) (gM5 hG hc) ?_
    refine E_iload dX2_menAt_18 rfl ?_
    have c2 := hy.1
    replace hy := hy.2
    refine E_ia (c + 4) 3 (x4).toNatClampNeg dX2_menAt_20 (sM4 hc) c2 rfl ?_
    refine E_iload_n 2 dX2_menAt_21 rfl rfl ?_
    refine E_icmp_ne 28 dX2_menAt_22 rfl (fun h3 => ?_) (fun h3 => ?_)
    · replace hy := hy.1 h3
      refine E_iinc (x4 + (1 : Int32)) dX2_menAt_28 rfl rfl (Nat.le_of_ble_eq_true rfl) (?_ : Ev d mX2_menAt 136 31 [some (.ref c), some (.ref a), some (.int x2), some (.int x3), some (.int (x4 + (1 : Int32)))] [] 136 I G J Φ)
      refine E_goto 5 dX2_menAt_31 rfl ?_
      exact hy
    · replace hy := hy.2 (Decidable.not_not.mp h3)
      refine E_iinc (x3 + (1 : Int32)) dX2_menAt_25 rfl rfl (Nat.le_of_ble_eq_true rfl) (?_ : Ev d mX2_menAt 136 28 [some (.ref c), some (.ref a), some (.int x2), some (.int (x3 + (1 : Int32))), some (.int x4)] [] 136 I G J Φ)
      refine E_iinc (x4 + (1 : Int32)) dX2_menAt_28 rfl rfl (Nat.le_of_ble_eq_true rfl) (?_ : Ev d mX2_menAt 136 31 [some (.ref c), some (.ref a), some (.int x2), some (.int (x3 + (1 : Int32))), some (.int (x4 + (1 : Int32)))] [] 136 I G J Φ)
      refine E_goto 5 dX2_menAt_31 rfl ?_
      exact hy
set_option maxRecDepth 100000 in
theorem w_X2_needOf {d : Nat} {I : MI} {G : MG} {J : MJ} {Φ : Ph} (hG : WG G) {c : Nat} (hc : isM c) {a : Nat} (ha : isL a) (x2 : Int32) (hy : Ev d mX2_sizeNow 136 0 [some (.ref c), some (.ref a), some (.int x2)] [] 136 I G J (fun r n I1 G1 J1 => ∃ v1 : Int32, r = some (.int v1) ∧ n = 136 ∧ I = I1 ∧ G = G1 ∧ J = J1 ∧ (vp_in x2 4 ∧ (Φ (some (.int (v1 + (I (a + 2) (x2).toNatClampNeg)))) 136 I G J)))) : Ev (d + 1) mX2_needOf 136 0 [some (.ref c), some (.ref a), some (.int x2)] [] 136 I G J Φ := by
  refine E_aload_n 0 dX2_needOf_0 rfl rfl ?_
  refine E_aload_n 1 dX2_needOf_1 rfl rfl ?_
  refine E_iload_n 2 dX2_needOf_2 rfl rfl ?_
  refine E_cv (M := mX2_needOf) (pc := 3) (As := [.ref a, .int x2]) (st := []) mX2_sizeNow 2 2 8 dX2_needOf_3 lk_RX2_68 ⟨_, rfl, rfl⟩ (sM0 hc) rfl (Nat.le_of_ble_eq_true rfl) ⟨rfl, rfl⟩ (Nat.le_of_ble_eq_true rfl) rfl hy ?_
  rintro r n I1 G1 J1 ⟨v1, rfl, rfl, rfl, rfl, rfl, hy⟩
  show Ev (d + 1) mX2_needOf 136 6 [some (.ref c), some (.ref a), some (.int x2)] [.int v1] 136 I G J Φ
  refine E_aload_n 1 dX2_needOf_6 rfl rfl ?_
  refine E_getr 1 2 a 15 (a + 2) dX2_needOf_7 fl_RX2_72 rfl (sL0 ha) (gL2 hG ha) ?_
  refine E_iload_n 2 dX2_needOf_10 rfl rfl ?_
  have c2 := hy.1
  replace hy := hy.2
  refine E_ia (a + 2) 4 (x2).toNatClampNeg dX2_needOf_11 (sL2 ha) c2 rfl ?_
  refine E_iadd dX2_needOf_12 ?_
  exact E_ri dX2_needOf_13 rfl ⟨rfl, rfl⟩ hy
set_option maxRecDepth 100000 in
theorem w_X2_overBits {d : Nat} {I : MI} {G : MG} {J : MJ} {Φ : Ph} (hG : WG G) {c : Nat} (hc : isM c) {a : Nat} (ha : isL a) (hy : Ev (d + 1) mX2_overBits 136 4 [some (.ref c), some (.ref a), some (.int (0 : Int32)), some (.int (0 : Int32))] [] 136 I G J Φ) : Ev (d + 1) mX2_overBits 136 0 [some (.ref c), some (.ref a), none, none] [] 136 I G J Φ := by
  refine E_iconst (0 : Int32) dX2_overBits_0 rfl ?_
  refine E_istore_n 2 dX2_overBits_1 rfl (Nat.le_of_ble_eq_true rfl) (?_ : Ev (d + 1) mX2_overBits 136 2 [some (.ref c), some (.ref a), some (.int (0 : Int32)), none] [] 136 I G J Φ)
  refine E_iconst (0 : Int32) dX2_overBits_2 rfl ?_
  refine E_istore_n 3 dX2_overBits_3 rfl (Nat.le_of_ble_eq_true rfl) (?_ : Ev (d + 1) mX2_overBits 136 4 [some (.ref c), some (.ref a), some (.int (0 : Int32)), some (.int (0 : Int32))] [] 136 I G J Φ)
  exact hy
set_option maxRecDepth 100000 in
theorem w_X2_overBits_4 {d : Nat} {I : MI} {G : MG} {J : MJ} {Φ : Ph} (hG : WG G)  {c : Nat} (hc : isM c) {a : Nat} (ha : isL a) (x2 : Int32) (x3 : Int32) (hy : ((I a 0) ≤ x3 → Φ (some (.int x2)) 136 I G J) ∧ (¬ (I a 0) ≤ x3 → Ev d mX2_isOver 136 0 [some (.ref c), some (.ref a), some (.int x3)] [] 136 I G J (fun r n I2 G2 J2 => ∃ v2 : Int32, r = some (.int v2) ∧ n = 136 ∧ I = I2 ∧ G = G2 ∧ J = J2 ∧ ((v2 = 0 → Ev (d + 1) mX2_overBits 136 4 [some (.ref c), some (.ref a), some (.int x2), some (.int (x3 + (1 : Int32)))] [] 136 I G J Φ) ∧ (¬ v2 = 0 → Ev (d + 1) mX2_overBits 136 4 [some (.ref c), some (.ref a), some (.int (x2 ||| ((1 : Int32) <<< (x3 &&& 31)))), some (.int (x3 + (1 : Int32)))] [] 136 I G J Φ))))) : Ev (d + 1) mX2_overBits 136 4 [some (.ref c), some (.ref a), some (.int x2), some (.int x3)] [] 136 I G J Φ := by
  refine E_iload_n 3 dX2_overBits_4 rfl rfl ?_
  refine E_aload_n 1 dX2_overBits_5 rfl rfl ?_
  refine E_geti 1 0 a 15 dX2_overBits_6 fl_RX2_52 rfl (sL0 ha) ?_
  refine E_icmp_ge 33 dX2_overBits_9 rfl (fun h1 => ?_) (fun h1 => ?_)
  · replace hy := hy.1 h1
    refine E_iload_n 2 dX2_overBits_33 rfl rfl ?_
    exact E_ri dX2_overBits_34 rfl ⟨rfl, rfl⟩ hy
  · replace hy := hy.2 h1
    refine E_aload_n 0 dX2_overBits_12 rfl rfl ?_
    refine E_aload_n 1 dX2_overBits_13 rfl rfl ?_
    refine E_iload_n 3 dX2_overBits_14 rfl rfl ?_
    refine E_cv (M := mX2_overBits) (pc := 15) (As := [.ref a, .int x3]) (st := []) mX2_isOver 2 2 8 dX2_overBits_15 lk_RX2_55 ⟨_, rfl, rfl⟩ (sM0 hc) rfl (Nat.le_of_ble_eq_true rfl) ⟨rfl, rfl⟩ (Nat.le_of_ble_eq_true rfl) rfl hy ?_
    rintro r n I2 G2 J2 ⟨v2, rfl, rfl, rfl, rfl, rfl, hy⟩
    show Ev (d + 1) mX2_overBits 136 18 [some (.ref c), some (.ref a), some (.int x2), some (.int x3)] [.int v2] 136 I G J Φ
    refine E_if_eq 27 dX2_overBits_18 rfl (fun h3 => ?_) (fun h3 => ?_)
    · replace hy := hy.1 h3
      refine E_iinc (x3 + (1 : Int32)) dX2_overBits_27 rfl rfl (Nat.le_of_ble_eq_true rfl) (?_ : Ev (d + 1) mX2_overBits 136 30 [some (.ref c), some (.ref a), some (.int x2), some (.int (x3 + (1 : Int32)))] [] 136 I G J Φ)
      refine E_goto 4 dX2_overBits_30 rfl ?_
      exact hy
    · replace hy := hy.2 h3
      refine E_iload_n 2 dX2_overBits_21 rfl rfl ?_
      refine E_iconst (1 : Int32) dX2_overBits_22 rfl ?_
      refine E_iload_n 3 dX2_overBits_23 rfl rfl ?_
      refine E_ishl dX2_overBits_24 ?_
      refine E_ior dX2_overBits_25 ?_
      refine E_istore_n 2 dX2_overBits_26 rfl (Nat.le_of_ble_eq_true rfl) (?_ : Ev (d + 1) mX2_overBits 136 27 [some (.ref c), some (.ref a), some (.int (x2 ||| ((1 : Int32) <<< (x3 &&& 31)))), some (.int x3)] [] 136 I G J Φ)
      refine E_iinc (x3 + (1 : Int32)) dX2_overBits_27 rfl rfl (Nat.le_of_ble_eq_true rfl) (?_ : Ev (d + 1) mX2_overBits 136 30 [some (.ref c), some (.ref a), some (.int (x2 ||| ((1 : Int32) <<< (x3 &&& 31)))), some (.int (x3 + (1 : Int32)))] [] 136 I G J Φ)
      refine E_goto 4 dX2_overBits_30 rfl ?_
      exact hy
set_option maxRecDepth 100000 in
theorem w_X2_passDay {d : Nat} {I : MI} {G : MG} {J : MJ} {Φ : Ph} (hG : WG G) {c : Nat} (hc : isM c) {a : Nat} (ha : isL a) (hy : Ev d mX2_hoursLeft 136 0 [some (.ref c), some (.ref a)] [] 136 I G J (fun r n I1 G1 J1 => ∃ v1 : Int32, r = some (.int v1) ∧ n = 136 ∧ I = I1 ∧ G = G1 ∧ J = J1 ∧ (Ev (d + 1) mX2_passDay 136 8 [some (.ref c), some (.ref a), some (.int v1), some (.int (0 : Int32))] [] 136 I G J Φ))) : Ev (d + 1) mX2_passDay 136 0 [some (.ref c), some (.ref a), none, none] [] 136 I G J Φ := by
  refine E_aload_n 0 dX2_passDay_0 rfl rfl ?_
  refine E_aload_n 1 dX2_passDay_1 rfl rfl ?_
  refine E_cv (M := mX2_passDay) (pc := 2) (As := [.ref a]) (st := []) mX2_hoursLeft 1 2 8 dX2_passDay_2 lk_RX2_112 ⟨_, rfl, rfl⟩ (sM0 hc) rfl (Nat.le_of_ble_eq_true rfl) ⟨rfl, rfl⟩ (Nat.le_of_ble_eq_true rfl) rfl hy ?_
  rintro r n I1 G1 J1 ⟨v1, rfl, rfl, rfl, rfl, rfl, hy⟩
  show Ev (d + 1) mX2_passDay 136 5 [some (.ref c), some (.ref a), none, none] [.int v1] 136 I G J Φ
  refine E_istore_n 2 dX2_passDay_5 rfl (Nat.le_of_ble_eq_true rfl) (?_ : Ev (d + 1) mX2_passDay 136 6 [some (.ref c), some (.ref a), some (.int v1), none] [] 136 I G J Φ)
  refine E_iconst (0 : Int32) dX2_passDay_6 rfl ?_
  refine E_istore_n 3 dX2_passDay_7 rfl (Nat.le_of_ble_eq_true rfl) (?_ : Ev (d + 1) mX2_passDay 136 8 [some (.ref c), some (.ref a), some (.int v1), some (.int (0 : Int32))] [] 136 I G J Φ)
  exact hy
set_option maxRecDepth 100000 in
theorem w_X2_passDay_8 {d : Nat} {I : MI} {G : MG} {J : MJ} {Φ : Ph} (hG : WG G)  {c : Nat} (hc : isM c) {a : Nat} (ha : isL a) (x2 : Int32) (x3 : Int32) (hy : (x2 ≤ x3 → Φ none 136 I G J) ∧ (¬ x2 ≤ x3 → Ev d mX2_passHour 136 0 [some (.ref c), some (.ref a), none, none, none, none] [] 136 I G J (fun r n I2 G2 J2 => ∃ v2 : Int32, r = some (.int v2) ∧ n = 136 ∧ G = G2 ∧ J = J2 ∧ (Ev (d + 1) mX2_passDay 136 8 [some (.ref c), some (.ref a), some (.int x2), some (.int (x3 + (1 : Int32)))] [] 136 I2 G J Φ)))) : Ev (d + 1) mX2_passDay 136 8 [some (.ref c), some (.ref a), some (.int x2), some (.int x3)] [] 136 I G J Φ := by
  refine E_iload_n 3 dX2_passDay_8 rfl rfl ?_
  refine E_iload_n 2 dX2_passDay_9 rfl rfl ?_
  refine E_icmp_ge 25 dX2_passDay_10 rfl (fun h1 => ?_) (fun h1 => ?_)
  · replace hy := hy.1 h1
    exact E_rv dX2_passDay_25 rfl ⟨rfl, rfl⟩ hy
  · replace hy := hy.2 h1
    refine E_aload_n 0 dX2_passDay_13 rfl rfl ?_
    refine E_aload_n 1 dX2_passDay_14 rfl rfl ?_
    refine E_cv (M := mX2_passDay) (pc := 15) (As := [.ref a]) (st := []) mX2_passHour 1 2 8 dX2_passDay_15 lk_RX2_115 ⟨_, rfl, rfl⟩ (sM0 hc) rfl (Nat.le_of_ble_eq_true rfl) ⟨rfl, rfl⟩ (Nat.le_of_ble_eq_true rfl) rfl hy ?_
    rintro r n I2 G2 J2 ⟨v2, rfl, rfl, rfl, rfl, hy⟩
    show Ev (d + 1) mX2_passDay 136 18 [some (.ref c), some (.ref a), some (.int x2), some (.int x3)] [.int v2] 136 I2 G J Φ
    refine E_pop dX2_passDay_18 rfl ?_
    refine E_iinc (x3 + (1 : Int32)) dX2_passDay_19 rfl rfl (Nat.le_of_ble_eq_true rfl) (?_ : Ev (d + 1) mX2_passDay 136 22 [some (.ref c), some (.ref a), some (.int x2), some (.int (x3 + (1 : Int32)))] [] 136 I2 G J Φ)
    refine E_goto 8 dX2_passDay_22 rfl ?_
    exact hy
set_option maxRecDepth 100000 in
theorem w_X2_passHour {d : Nat} {I : MI} {G : MG} {J : MJ} {Φ : Ph} (hG : WG G) {c : Nat} (hc : isM c) {a : Nat} (ha : isL a) (hy : Ev d mX2_overBits 136 0 [some (.ref c), some (.ref a), none, none] [] 136 I G J (fun r n I1 G1 J1 => ∃ v1 : Int32, r = some (.int v1) ∧ n = 136 ∧ I = I1 ∧ G = G1 ∧ J = J1 ∧ (Ev (d + 1) mX2_passHour 136 11 [some (.ref c), some (.ref a), some (.int v1), some (.int (0 : Int32)), some (.int (0 : Int32)), none] [] 136 I G J Φ))) : Ev (d + 1) mX2_passHour 136 0 [some (.ref c), some (.ref a), none, none, none, none] [] 136 I G J Φ := by
  refine E_aload_n 0 dX2_passHour_0 rfl rfl ?_
  refine E_aload_n 1 dX2_passHour_1 rfl rfl ?_
  refine E_cv (M := mX2_passHour) (pc := 2) (As := [.ref a]) (st := []) mX2_overBits 1 2 8 dX2_passHour_2 lk_RX2_89 ⟨_, rfl, rfl⟩ (sM0 hc) rfl (Nat.le_of_ble_eq_true rfl) ⟨rfl, rfl⟩ (Nat.le_of_ble_eq_true rfl) rfl hy ?_
  rintro r n I1 G1 J1 ⟨v1, rfl, rfl, rfl, rfl, rfl, hy⟩
  show Ev (d + 1) mX2_passHour 136 5 [some (.ref c), some (.ref a), none, none, none, none] [.int v1] 136 I G J Φ
  refine E_istore_n 2 dX2_passHour_5 rfl (Nat.le_of_ble_eq_true rfl) (?_ : Ev (d + 1) mX2_passHour 136 6 [some (.ref c), some (.ref a), some (.int v1), none, none, none] [] 136 I G J Φ)
  refine E_iconst (0 : Int32) dX2_passHour_6 rfl ?_
  refine E_istore_n 3 dX2_passHour_7 rfl (Nat.le_of_ble_eq_true rfl) (?_ : Ev (d + 1) mX2_passHour 136 8 [some (.ref c), some (.ref a), some (.int v1), some (.int (0 : Int32)), none, none] [] 136 I G J Φ)
  refine E_iconst (0 : Int32) dX2_passHour_8 rfl ?_
  refine E_istore dX2_passHour_9 (Nat.le_of_ble_eq_true rfl) (?_ : Ev (d + 1) mX2_passHour 136 11 [some (.ref c), some (.ref a), some (.int v1), some (.int (0 : Int32)), some (.int (0 : Int32)), none] [] 136 I G J Φ)
  exact hy
set_option maxRecDepth 100000 in
theorem w_X2_passHour_11 {d : Nat} {I : MI} {G : MG} {J : MJ} {Φ : Ph} (hG : WG G)  {c : Nat} (hc : isM c) {a : Nat} (ha : isL a) (x2 : Int32) (x3 : Int32) (x4 : Int32) (hy : ((I a 0) ≤ x4 → Ev (d + 1) mX2_passHour 136 53 [some (.ref c), some (.ref a), some (.int x2), some (.int x3), some (.int (0 : Int32)), none] [] 136 I G J Φ) ∧ (¬ (I a 0) ≤ x4 → Ev d mX2_canComeUp 136 0 [some (.ref c), some (.ref a), some (.int x4)] [] 136 I G J (fun r n I2 G2 J2 => ∃ v2 : Int32, r = some (.int v2) ∧ n = 136 ∧ I = I2 ∧ G = G2 ∧ J = J2 ∧ ((v2 = 0 → Ev (d + 1) mX2_passHour 136 11 [some (.ref c), some (.ref a), some (.int x2), some (.int x3), some (.int (x4 + (1 : Int32))), none] [] 136 I G J Φ) ∧ (¬ v2 = 0 → vp_in x4 4 ∧ (vp_in x4 4 ∧ (Ev (d + 1) mX2_passHour 136 11 [some (.ref c), some (.ref a), some (.int x2), some (.int (x3 + (1 : Int32))), some (.int (x4 + (1 : Int32))), none] [] 136 (u2 I (c + 1) (x4).toNatClampNeg ((I (c + 1) (x4).toNatClampNeg) + (1 : Int32))) G J Φ))))))) : Ev (d + 1) mX2_passHour 136 11 [some (.ref c), some (.ref a), some (.int x2), some (.int x3), some (.int x4), none] [] 136 I G J Φ := by
  refine E_iload dX2_passHour_11 rfl ?_
  refine E_aload_n 1 dX2_passHour_13 rfl rfl ?_
  refine E_geti 1 0 a 15 dX2_passHour_14 fl_RX2_52 rfl (sL0 ha) ?_
  refine E_icmp_ge 50 dX2_passHour_17 rfl (fun h1 => ?_) (fun h1 => ?_)
  · replace hy := hy.1 h1
    refine E_iconst (0 : Int32) dX2_passHour_50 rfl ?_
    refine E_istore dX2_passHour_51 (Nat.le_of_ble_eq_true rfl) (?_ : Ev (d + 1) mX2_passHour 136 53 [some (.ref c), some (.ref a), some (.int x2), some (.int x3), some (.int (0 : Int32)), none] [] 136 I G J Φ)
    exact hy
  · replace hy := hy.2 h1
    refine E_aload_n 0 dX2_passHour_20 rfl rfl ?_
    refine E_aload_n 1 dX2_passHour_21 rfl rfl ?_
    refine E_iload dX2_passHour_22 rfl ?_
    refine E_cv (M := mX2_passHour) (pc := 24) (As := [.ref a, .int x4]) (st := []) mX2_canComeUp 2 2 8 dX2_passHour_24 lk_RX2_93 ⟨_, rfl, rfl⟩ (sM0 hc) rfl (Nat.le_of_ble_eq_true rfl) ⟨rfl, rfl⟩ (Nat.le_of_ble_eq_true rfl) rfl hy ?_
    rintro r n I2 G2 J2 ⟨v2, rfl, rfl, rfl, rfl, rfl, hy⟩
    show Ev (d + 1) mX2_passHour 136 27 [some (.ref c), some (.ref a), some (.int x2), some (.int x3), some (.int x4), none] [.int v2] 136 I G J Φ
    refine E_if_eq 44 dX2_passHour_27 rfl (fun h3 => ?_) (fun h3 => ?_)
    · replace hy := hy.1 h3
      refine E_iinc (x4 + (1 : Int32)) dX2_passHour_44 rfl rfl (Nat.le_of_ble_eq_true rfl) (?_ : Ev (d + 1) mX2_passHour 136 47 [some (.ref c), some (.ref a), some (.int x2), some (.int x3), some (.int (x4 + (1 : Int32))), none] [] 136 I G J Φ)
      refine E_goto 11 dX2_passHour_47 rfl ?_
      exact hy
    · replace hy := hy.2 h3
      refine E_aload_n 0 dX2_passHour_30 rfl rfl ?_
      refine E_getr 2 2 c 8 (c + 1) dX2_passHour_31 fl_RX2_9 rfl (sM0 hc) (gM2 hG hc) ?_
      refine E_iload dX2_passHour_34 rfl ?_
      refine E_dup2 dX2_passHour_36 rfl rfl ?_
      have c4 := hy.1
      replace hy := hy.2
      refine E_ia (c + 1) 4 (x4).toNatClampNeg dX2_passHour_37 (sM1 hc) c4 rfl ?_
      refine E_iconst (1 : Int32) dX2_passHour_38 rfl ?_
      refine E_iadd dX2_passHour_39 ?_
      have c5 := hy.1
      replace hy := hy.2
      refine E_is (c + 1) 4 (x4).toNatClampNeg dX2_passHour_40 (sM1 hc) c5 rfl ?_
      refine E_iinc (x3 + (1 : Int32)) dX2_passHour_41 rfl rfl (Nat.le_of_ble_eq_true rfl) (?_ : Ev (d + 1) mX2_passHour 136 44 [some (.ref c), some (.ref a), some (.int x2), some (.int (x3 + (1 : Int32))), some (.int x4), none] [] 136 (u2 I (c + 1) (x4).toNatClampNeg ((I (c + 1) (x4).toNatClampNeg) + (1 : Int32))) G J Φ)
      refine E_iinc (x4 + (1 : Int32)) dX2_passHour_44 rfl rfl (Nat.le_of_ble_eq_true rfl) (?_ : Ev (d + 1) mX2_passHour 136 47 [some (.ref c), some (.ref a), some (.int x2), some (.int (x3 + (1 : Int32))), some (.int (x4 + (1 : Int32))), none] [] 136 (u2 I (c + 1) (x4).toNatClampNeg ((I (c + 1) (x4).toNatClampNeg) + (1 : Int32))) G J Φ)
      refine E_goto 11 dX2_passHour_47 rfl ?_
      exact hy
set_option maxRecDepth 100000 in
theorem w_X2_passHour_53 {d : Nat} {I : MI} {G : MG} {J : MJ} {Φ : Ph} (hG : WG G)  {c : Nat} (hc : isM c) {a : Nat} (ha : isL a) (x2 : Int32) (x3 : Int32) (x4 : Int32) (hy : ((I a 9) ≤ x4 → Φ (some (.int x3)) 136 (u2 I c 1 ((I c 1) + (1 : Int32))) G J) ∧ (¬ (I a 9) ≤ x4 → vp_in x4 3 ∧ (Ev d mX1_hasHill 136 0 [some (.ref a), some (.int (I (c + 4) (x4).toNatClampNeg))] [] 136 I G J (fun r n I3 G3 J3 => ∃ v3 : Int32, r = some (.int v3) ∧ n = 136 ∧ I = I3 ∧ G = G3 ∧ J = J3 ∧ ((v3 = 0 → vp_in x4 3 ∧ (vp_in x4 3 ∧ (vp_in x4 3 ∧ (Ev (d + 1) mX2_passHour 136 53 [some (.ref c), some (.ref a), some (.int x2), some (.int x3), some (.int (x4 + (1 : Int32))), none] [] 136 (u2 I (c + 3) (x4).toNatClampNeg (if ((I (c + 3) (x4).toNatClampNeg) + (1 : Int32)) < (I (a + 8) (x4).toNatClampNeg) then ((I (c + 3) (x4).toNatClampNeg) + (1 : Int32)) else (I (a + 8) (x4).toNatClampNeg))) G J Φ)))) ∧ (¬ v3 = 0 → vp_in x4 3 ∧ ((¬ ((x2 >>> ((I (c + 4) (x4).toNatClampNeg) &&& 31)) &&& (1 : Int32)) = 0 → vp_in x4 3 ∧ (vp_in x4 3 ∧ (vp_in x4 3 ∧ (Ev (d + 1) mX2_passHour 136 53 [some (.ref c), some (.ref a), some (.int x2), some (.int x3), some (.int (x4 + (1 : Int32))), none] [] 136 (u2 I (c + 3) (x4).toNatClampNeg (if ((I (c + 3) (x4).toNatClampNeg) + (1 : Int32)) < (I (a + 8) (x4).toNatClampNeg) then ((I (c + 3) (x4).toNatClampNeg) + (1 : Int32)) else (I (a + 8) (x4).toNatClampNeg))) G J Φ)))) ∧ (((x2 >>> ((I (c + 4) (x4).toNatClampNeg) &&& 31)) &&& (1 : Int32)) = 0 → vp_in x4 3 ∧ (vp_in x4 3 ∧ (Ev (d + 1) mX2_passHour 136 53 [some (.ref c), some (.ref a), some (.int x2), some (.int x3), some (.int (x4 + (1 : Int32))), none] [] 136 (u2 I (c + 3) (x4).toNatClampNeg (if (0 : Int32) < ((I (c + 3) (x4).toNatClampNeg) - (1 : Int32)) then ((I (c + 3) (x4).toNatClampNeg) - (1 : Int32)) else (0 : Int32))) G J Φ)))))))))) : Ev (d + 1) mX2_passHour 136 53 [some (.ref c), some (.ref a), some (.int x2), some (.int x3), some (.int x4), none] [] 136 I G J Φ := by
  refine E_iload dX2_passHour_53 rfl ?_
  refine E_aload_n 1 dX2_passHour_55 rfl rfl ?_
  refine E_geti 1 9 a 15 dX2_passHour_56 fl_RX2_78 rfl (sL0 ha) ?_
  refine E_icmp_ge 150 dX2_passHour_59 rfl (fun h1 => ?_) (fun h1 => ?_)
  · replace hy := hy.1 h1
    refine E_aload_n 0 dX2_passHour_150 rfl rfl ?_
    refine E_dup dX2_passHour_151 rfl ?_
    refine E_geti 2 1 c 8 dX2_passHour_152 fl_RX2_31 rfl (sM0 hc) ?_
    refine E_iconst (1 : Int32) dX2_passHour_155 rfl ?_
    refine E_iadd dX2_passHour_156 ?_
    refine E_puti 2 1 c 8 dX2_passHour_157 fl_RX2_31 rfl (sM0 hc) ⟨_, rfl, rfl⟩ rfl rfl ?_
    refine E_iload_n 3 dX2_passHour_160 rfl rfl ?_
    exact E_ri dX2_passHour_161 rfl ⟨rfl, rfl⟩ hy
  · replace hy := hy.2 h1
    refine E_aload_n 1 dX2_passHour_62 rfl rfl ?_
    refine E_aload_n 0 dX2_passHour_63 rfl rfl ?_
    refine E_getr 2 5 c 8 (c + 4) dX2_passHour_64 fl_RX2_21 rfl (sM0 hc) (gM5 hG hc) ?_
    refine E_iload dX2_passHour_67 rfl ?_
    have c2 := hy.1
    replace hy := hy.2
    refine E_ia (c + 4) 3 (x4).toNatClampNeg dX2_passHour_69 (sM4 hc) c2 rfl ?_
    refine E_cv (M := mX2_passHour) (pc := 70) (As := [.int (I (c + 4) (x4).toNatClampNeg)]) (st := []) mX1_hasHill 1 1 15 dX2_passHour_70 lk_RX2_96 ⟨_, rfl, rfl⟩ (sL0 ha) rfl (Nat.le_of_ble_eq_true rfl) ⟨rfl, rfl⟩ (Nat.le_of_ble_eq_true rfl) rfl hy ?_
    rintro r n I3 G3 J3 ⟨v3, rfl, rfl, rfl, rfl, rfl, hy⟩
    show Ev (d + 1) mX2_passHour 136 73 [some (.ref c), some (.ref a), some (.int x2), some (.int x3), some (.int x4), none] [.int v3] 136 I G J Φ
    refine E_if_eq 94 dX2_passHour_73 rfl (fun h4 => ?_) (fun h4 => ?_)
    · replace hy := hy.1 h4
      refine E_iconst (0 : Int32) dX2_passHour_94 rfl ?_
      refine E_istore dX2_passHour_95 (Nat.le_of_ble_eq_true rfl) (?_ : Ev (d + 1) mX2_passHour 136 97 [some (.ref c), some (.ref a), some (.int x2), some (.int x3), some (.int x4), some (.int (0 : Int32))] [] 136 I G J Φ)
      refine E_aload_n 0 dX2_passHour_97 rfl rfl ?_
      refine E_getr 2 4 c 8 (c + 3) dX2_passHour_98 fl_RX2_18 rfl (sM0 hc) (gM4 hG hc) ?_
      refine E_iload dX2_passHour_101 rfl ?_
      refine E_iload dX2_passHour_103 rfl ?_
      refine E_if_eq 124 dX2_passHour_105 rfl (fun h5 => ?_) (fun h5 => ?_)
      rotate_left
      · exact absurd (by decide) h5
      refine E_aload_n 1 dX2_passHour_124 rfl rfl ?_
      refine E_getr 1 10 a 15 (a + 8) dX2_passHour_125 fl_RX2_100 rfl (sL0 ha) (gL10 hG ha) ?_
      refine E_iload dX2_passHour_128 rfl ?_
      have c6 := hy.1
      replace hy := hy.2
      refine E_ia (a + 8) 3 (x4).toNatClampNeg dX2_passHour_130 (sL8 ha) c6 rfl ?_
      refine E_aload_n 0 dX2_passHour_131 rfl rfl ?_
      refine E_getr 2 4 c 8 (c + 3) dX2_passHour_132 fl_RX2_18 rfl (sM0 hc) (gM4 hG hc) ?_
      refine E_iload dX2_passHour_135 rfl ?_
      have c7 := hy.1
      replace hy := hy.2
      refine E_ia (c + 3) 3 (x4).toNatClampNeg dX2_passHour_137 (sM3 hc) c7 rfl ?_
      refine E_iconst (1 : Int32) dX2_passHour_138 rfl ?_
      refine E_iadd dX2_passHour_139 ?_
      refine E_min dX2_passHour_140 lk_RX2_103 (Nat.le_of_ble_eq_true rfl) ?_
      have c8 := hy.1
      replace hy := hy.2
      refine E_is (c + 3) 3 (x4).toNatClampNeg dX2_passHour_143 (sM3 hc) c8 rfl ?_
      refine E_iinc (x4 + (1 : Int32)) dX2_passHour_144 rfl rfl (Nat.le_of_ble_eq_true rfl) (?_ : Ev (d + 1) mX2_passHour 136 147 [some (.ref c), some (.ref a), some (.int x2), some (.int x3), some (.int (x4 + (1 : Int32))), some (.int (0 : Int32))] [] 136 (u2 I (c + 3) (x4).toNatClampNeg (if ((I (c + 3) (x4).toNatClampNeg) + (1 : Int32)) < (I (a + 8) (x4).toNatClampNeg) then ((I (c + 3) (x4).toNatClampNeg) + (1 : Int32)) else (I (a + 8) (x4).toNatClampNeg))) G J Φ)
      refine E_goto 53 dX2_passHour_147 rfl ?_
      refine E_wk (ls2 := [some (.ref c), some (.ref a), some (.int x2), some (.int x3), some (.int (x4 + (1 : Int32))), none]) ⟨rfl, rfl, rfl, rfl, rfl, trivial⟩ ?_
      exact hy
    · replace hy := hy.2 h4
      refine E_iload_n 2 dX2_passHour_76 rfl rfl ?_
      refine E_aload_n 0 dX2_passHour_77 rfl rfl ?_
      refine E_getr 2 5 c 8 (c + 4) dX2_passHour_78 fl_RX2_21 rfl (sM0 hc) (gM5 hG hc) ?_
      refine E_iload dX2_passHour_81 rfl ?_
      have c9 := hy.1
      replace hy := hy.2
      refine E_ia (c + 4) 3 (x4).toNatClampNeg dX2_passHour_83 (sM4 hc) c9 rfl ?_
      refine E_ishr dX2_passHour_84 ?_
      refine E_iconst (1 : Int32) dX2_passHour_85 rfl ?_
      refine E_iand dX2_passHour_86 ?_
      refine E_if_ne 94 dX2_passHour_87 rfl (fun h10 => ?_) (fun h10 => ?_)
      · replace hy := hy.1 h10
        refine E_iconst (0 : Int32) dX2_passHour_94 rfl ?_
        refine E_istore dX2_passHour_95 (Nat.le_of_ble_eq_true rfl) (?_ : Ev (d + 1) mX2_passHour 136 97 [some (.ref c), some (.ref a), some (.int x2), some (.int x3), some (.int x4), some (.int (0 : Int32))] [] 136 I G J Φ)
        refine E_aload_n 0 dX2_passHour_97 rfl rfl ?_
        refine E_getr 2 4 c 8 (c + 3) dX2_passHour_98 fl_RX2_18 rfl (sM0 hc) (gM4 hG hc) ?_
        refine E_iload dX2_passHour_101 rfl ?_
        refine E_iload dX2_passHour_103 rfl ?_
        refine E_if_eq 124 dX2_passHour_105 rfl (fun h11 => ?_) (fun h11 => ?_)
        rotate_left
        · exact absurd (by decide) h11
        refine E_aload_n 1 dX2_passHour_124 rfl rfl ?_
        refine E_getr 1 10 a 15 (a + 8) dX2_passHour_125 fl_RX2_100 rfl (sL0 ha) (gL10 hG ha) ?_
        refine E_iload dX2_passHour_128 rfl ?_
        have c12 := hy.1
        replace hy := hy.2
        refine E_ia (a + 8) 3 (x4).toNatClampNeg dX2_passHour_130 (sL8 ha) c12 rfl ?_
        refine E_aload_n 0 dX2_passHour_131 rfl rfl ?_
        refine E_getr 2 4 c 8 (c + 3) dX2_passHour_132 fl_RX2_18 rfl (sM0 hc) (gM4 hG hc) ?_
        refine E_iload dX2_passHour_135 rfl ?_
        have c13 := hy.1
        replace hy := hy.2
        refine E_ia (c + 3) 3 (x4).toNatClampNeg dX2_passHour_137 (sM3 hc) c13 rfl ?_
        refine E_iconst (1 : Int32) dX2_passHour_138 rfl ?_
        refine E_iadd dX2_passHour_139 ?_
        refine E_min dX2_passHour_140 lk_RX2_103 (Nat.le_of_ble_eq_true rfl) ?_
        have c14 := hy.1
        replace hy := hy.2
        refine E_is (c + 3) 3 (x4).toNatClampNeg dX2_passHour_143 (sM3 hc) c14 rfl ?_
        refine E_iinc (x4 + (1 : Int32)) dX2_passHour_144 rfl rfl (Nat.le_of_ble_eq_true rfl) (?_ : Ev (d + 1) mX2_passHour 136 147 [some (.ref c), some (.ref a), some (.int x2), some (.int x3), some (.int (x4 + (1 : Int32))), some (.int (0 : Int32))] [] 136 (u2 I (c + 3) (x4).toNatClampNeg (if ((I (c + 3) (x4).toNatClampNeg) + (1 : Int32)) < (I (a + 8) (x4).toNatClampNeg) then ((I (c + 3) (x4).toNatClampNeg) + (1 : Int32)) else (I (a + 8) (x4).toNatClampNeg))) G J Φ)
        refine E_goto 53 dX2_passHour_147 rfl ?_
        refine E_wk (ls2 := [some (.ref c), some (.ref a), some (.int x2), some (.int x3), some (.int (x4 + (1 : Int32))), none]) ⟨rfl, rfl, rfl, rfl, rfl, trivial⟩ ?_
        exact hy
      · replace hy := hy.2 (Decidable.not_not.mp h10)
        refine E_iconst (1 : Int32) dX2_passHour_90 rfl ?_
        refine E_goto 95 dX2_passHour_91 rfl ?_
        refine E_istore dX2_passHour_95 (Nat.le_of_ble_eq_true rfl) (?_ : Ev (d + 1) mX2_passHour 136 97 [some (.ref c), some (.ref a), some (.int x2), some (.int x3), some (.int x4), some (.int (1 : Int32))] [] 136 I G J Φ)
        refine E_aload_n 0 dX2_passHour_97 rfl rfl ?_
        refine E_getr 2 4 c 8 (c + 3) dX2_passHour_98 fl_RX2_18 rfl (sM0 hc) (gM4 hG hc) ?_
        refine E_iload dX2_passHour_101 rfl ?_
        refine E_iload dX2_passHour_103 rfl ?_
        refine E_if_eq 124 dX2_passHour_105 rfl (fun h15 => ?_) (fun h15 => ?_)
        · exact absurd h15 (by decide)
        refine E_iconst (0 : Int32) dX2_passHour_108 rfl ?_
        refine E_aload_n 0 dX2_passHour_109 rfl rfl ?_
        refine E_getr 2 4 c 8 (c + 3) dX2_passHour_110 fl_RX2_18 rfl (sM0 hc) (gM4 hG hc) ?_
        refine E_iload dX2_passHour_113 rfl ?_
        have c16 := hy.1
        replace hy := hy.2
        refine E_ia (c + 3) 3 (x4).toNatClampNeg dX2_passHour_115 (sM3 hc) c16 rfl ?_
        refine E_iconst (1 : Int32) dX2_passHour_116 rfl ?_
        refine E_isub dX2_passHour_117 ?_
        refine E_max dX2_passHour_118 lk_RX2_62 (Nat.le_of_ble_eq_true rfl) ?_
        refine E_goto 143 dX2_passHour_121 rfl ?_
        have c17 := hy.1
        replace hy := hy.2
        refine E_is (c + 3) 3 (x4).toNatClampNeg dX2_passHour_143 (sM3 hc) c17 rfl ?_
        refine E_iinc (x4 + (1 : Int32)) dX2_passHour_144 rfl rfl (Nat.le_of_ble_eq_true rfl) (?_ : Ev (d + 1) mX2_passHour 136 147 [some (.ref c), some (.ref a), some (.int x2), some (.int x3), some (.int (x4 + (1 : Int32))), some (.int (1 : Int32))] [] 136 (u2 I (c + 3) (x4).toNatClampNeg (if (0 : Int32) < ((I (c + 3) (x4).toNatClampNeg) - (1 : Int32)) then ((I (c + 3) (x4).toNatClampNeg) - (1 : Int32)) else (0 : Int32))) G J Φ)
        refine E_goto 53 dX2_passHour_147 rfl ?_
        refine E_wk (ls2 := [some (.ref c), some (.ref a), some (.int x2), some (.int x3), some (.int (x4 + (1 : Int32))), none]) ⟨rfl, rfl, rfl, rfl, rfl, trivial⟩ ?_
        exact hy
set_option maxRecDepth 100000 in
theorem w_X2_rest {d : Nat} {I : MI} {G : MG} {J : MJ} {Φ : Ph} (hG : WG G) {c : Nat} (hc : isM c) {a : Nat} (ha : isL a) (hy : Ev d mX2_rest 136 2 [some (.ref c), some (.ref a), some (.int (0 : Int32))] [] 136 I G J Φ) : Ev d mX2_rest 136 0 [some (.ref c), some (.ref a), none] [] 136 I G J Φ := by
  refine E_iconst (0 : Int32) dX2_rest_0 rfl ?_
  refine E_istore_n 2 dX2_rest_1 rfl (Nat.le_of_ble_eq_true rfl) (?_ : Ev d mX2_rest 136 2 [some (.ref c), some (.ref a), some (.int (0 : Int32))] [] 136 I G J Φ)
  exact hy
set_option maxRecDepth 100000 in
theorem w_X2_rest_2 {d : Nat} {I : MI} {G : MG} {J : MJ} {Φ : Ph} (hG : WG G)  {c : Nat} (hc : isM c) {a : Nat} (ha : isL a) (x2 : Int32) (hy : ((I a 9) ≤ x2 → Φ none 136 I G J) ∧ (¬ (I a 9) ≤ x2 → vp_in x2 3 ∧ (vp_in x2 3 ∧ (Ev d mX2_rest 136 2 [some (.ref c), some (.ref a), some (.int (x2 + (1 : Int32)))] [] 136 (u2 I (c + 3) (x2).toNatClampNeg (I (a + 8) (x2).toNatClampNeg)) G J Φ)))) : Ev d mX2_rest 136 2 [some (.ref c), some (.ref a), some (.int x2)] [] 136 I G J Φ := by
  refine E_iload_n 2 dX2_rest_2 rfl rfl ?_
  refine E_aload_n 1 dX2_rest_3 rfl rfl ?_
  refine E_geti 1 9 a 15 dX2_rest_4 fl_RX2_78 rfl (sL0 ha) ?_
  refine E_icmp_ge 28 dX2_rest_7 rfl (fun h1 => ?_) (fun h1 => ?_)
  · replace hy := hy.1 h1
    exact E_rv dX2_rest_28 rfl ⟨rfl, rfl⟩ hy
  · replace hy := hy.2 h1
    refine E_aload_n 0 dX2_rest_10 rfl rfl ?_
    refine E_getr 2 4 c 8 (c + 3) dX2_rest_11 fl_RX2_18 rfl (sM0 hc) (gM4 hG hc) ?_
    refine E_iload_n 2 dX2_rest_14 rfl rfl ?_
    refine E_aload_n 1 dX2_rest_15 rfl rfl ?_
    refine E_getr 1 10 a 15 (a + 8) dX2_rest_16 fl_RX2_100 rfl (sL0 ha) (gL10 hG ha) ?_
    refine E_iload_n 2 dX2_rest_19 rfl rfl ?_
    have c2 := hy.1
    replace hy := hy.2
    refine E_ia (a + 8) 3 (x2).toNatClampNeg dX2_rest_20 (sL8 ha) c2 rfl ?_
    have c3 := hy.1
    replace hy := hy.2
    refine E_is (c + 3) 3 (x2).toNatClampNeg dX2_rest_21 (sM3 hc) c3 rfl ?_
    refine E_iinc (x2 + (1 : Int32)) dX2_rest_22 rfl rfl (Nat.le_of_ble_eq_true rfl) (?_ : Ev d mX2_rest 136 25 [some (.ref c), some (.ref a), some (.int (x2 + (1 : Int32)))] [] 136 (u2 I (c + 3) (x2).toNatClampNeg (I (a + 8) (x2).toNatClampNeg)) G J Φ)
    refine E_goto 2 dX2_rest_25 rfl ?_
    exact hy
set_option maxRecDepth 100000 in
theorem w_X2_sizeNow {d : Nat} {I : MI} {G : MG} {J : MJ} {Φ : Ph} (hG : WG G) {c : Nat} (hc : isM c) {a : Nat} (ha : isL a) (x2 : Int32) (hy : vp_in x2 4 ∧ (vp_in x2 4 ∧ (Φ (some (.int (if (1 : Int32) < ((I (a + 4) (x2).toNatClampNeg) - ((I (c + 2) (x2).toNatClampNeg) / (8 : Int32))) then ((I (a + 4) (x2).toNatClampNeg) - ((I (c + 2) (x2).toNatClampNeg) / (8 : Int32))) else (1 : Int32)))) 136 I G J))) : Ev (d + 1) mX2_sizeNow 136 0 [some (.ref c), some (.ref a), some (.int x2)] [] 136 I G J Φ := by
  refine E_iconst (1 : Int32) dX2_sizeNow_0 rfl ?_
  refine E_aload_n 1 dX2_sizeNow_1 rfl rfl ?_
  refine E_getr 1 4 a 15 (a + 4) dX2_sizeNow_2 fl_RX2_59 rfl (sL0 ha) (gL4 hG ha) ?_
  refine E_iload_n 2 dX2_sizeNow_5 rfl rfl ?_
  have c1 := hy.1
  replace hy := hy.2
  refine E_ia (a + 4) 4 (x2).toNatClampNeg dX2_sizeNow_6 (sL4 ha) c1 rfl ?_
  refine E_aload_n 0 dX2_sizeNow_7 rfl rfl ?_
  refine E_getr 2 3 c 8 (c + 2) dX2_sizeNow_8 fl_RX2_15 rfl (sM0 hc) (gM3 hG hc) ?_
  refine E_iload_n 2 dX2_sizeNow_11 rfl rfl ?_
  have c2 := hy.1
  replace hy := hy.2
  refine E_ia (c + 2) 4 (x2).toNatClampNeg dX2_sizeNow_12 (sM2 hc) c2 rfl ?_
  refine E_bipush (8 : Int32) dX2_sizeNow_13 rfl ?_
  refine E_idiv dX2_sizeNow_15 (by decide) ?_
  refine E_isub dX2_sizeNow_16 ?_
  refine E_max dX2_sizeNow_17 lk_RX2_62 (Nat.le_of_ble_eq_true rfl) ?_
  exact E_ri dX2_sizeNow_20 rfl ⟨rfl, rfl⟩ hy
set_option maxRecDepth 100000 in
theorem w_X2_strengthAfter {d : Nat} {I : MI} {G : MG} {J : MJ} {Φ : Ph} (hG : WG G) {c : Nat} (hc : isM c) {a : Nat} (ha : isL a) (x2 : Int32) (hy : Ev (d + 1) mX2_strengthAfter 136 5 [some (.ref c), some (.ref a), some (.int x2), some (.int (0 : Int32)), some (.int (0 : Int32))] [] 136 I G J Φ) : Ev (d + 1) mX2_strengthAfter 136 0 [some (.ref c), some (.ref a), some (.int x2), none, none] [] 136 I G J Φ := by
  refine E_iconst (0 : Int32) dX2_strengthAfter_0 rfl ?_
  refine E_istore_n 3 dX2_strengthAfter_1 rfl (Nat.le_of_ble_eq_true rfl) (?_ : Ev (d + 1) mX2_strengthAfter 136 2 [some (.ref c), some (.ref a), some (.int x2), some (.int (0 : Int32)), none] [] 136 I G J Φ)
  refine E_iconst (0 : Int32) dX2_strengthAfter_2 rfl ?_
  refine E_istore dX2_strengthAfter_3 (Nat.le_of_ble_eq_true rfl) (?_ : Ev (d + 1) mX2_strengthAfter 136 5 [some (.ref c), some (.ref a), some (.int x2), some (.int (0 : Int32)), some (.int (0 : Int32))] [] 136 I G J Φ)
  exact hy
set_option maxRecDepth 100000 in
theorem w_X2_strengthAfter_5 {d : Nat} {I : MI} {G : MG} {J : MJ} {Φ : Ph} (hG : WG G)  {c : Nat} (hc : isM c) {a : Nat} (ha : isL a) (x2 : Int32) (x3 : Int32) (x4 : Int32) (hy : ((I a 9) ≤ x4 → Φ (some (.int x3)) 136 I G J) ∧ (¬ (I a 9) ≤ x4 → vp_in x4 3 ∧ (Ev (d + 1) mX2_strengthAfter 136 5 [some (.ref c), some (.ref a), some (.int x2), some (.int (x3 + (if (0 : Int32) < ((I (c + 3) (x4).toNatClampNeg) - x2) then ((I (c + 3) (x4).toNatClampNeg) - x2) else (0 : Int32)))), some (.int (x4 + (1 : Int32)))] [] 136 I G J Φ))) : Ev (d + 1) mX2_strengthAfter 136 5 [some (.ref c), some (.ref a), some (.int x2), some (.int x3), some (.int x4)] [] 136 I G J Φ := by
  refine E_iload dX2_strengthAfter_5 rfl ?_
  refine E_aload_n 1 dX2_strengthAfter_7 rfl rfl ?_
  refine E_geti 1 9 a 15 dX2_strengthAfter_8 fl_RX2_78 rfl (sL0 ha) ?_
  refine E_icmp_ge 36 dX2_strengthAfter_11 rfl (fun h1 => ?_) (fun h1 => ?_)
  · replace hy := hy.1 h1
    refine E_iload_n 3 dX2_strengthAfter_36 rfl rfl ?_
    exact E_ri dX2_strengthAfter_37 rfl ⟨rfl, rfl⟩ hy
  · replace hy := hy.2 h1
    refine E_iload_n 3 dX2_strengthAfter_14 rfl rfl ?_
    refine E_iconst (0 : Int32) dX2_strengthAfter_15 rfl ?_
    refine E_aload_n 0 dX2_strengthAfter_16 rfl rfl ?_
    refine E_getr 2 4 c 8 (c + 3) dX2_strengthAfter_17 fl_RX2_18 rfl (sM0 hc) (gM4 hG hc) ?_
    refine E_iload dX2_strengthAfter_20 rfl ?_
    have c2 := hy.1
    replace hy := hy.2
    refine E_ia (c + 3) 3 (x4).toNatClampNeg dX2_strengthAfter_22 (sM3 hc) c2 rfl ?_
    refine E_iload_n 2 dX2_strengthAfter_23 rfl rfl ?_
    refine E_isub dX2_strengthAfter_24 ?_
    refine E_max dX2_strengthAfter_25 lk_RX2_62 (Nat.le_of_ble_eq_true rfl) ?_
    refine E_iadd dX2_strengthAfter_28 ?_
    refine E_istore_n 3 dX2_strengthAfter_29 rfl (Nat.le_of_ble_eq_true rfl) (?_ : Ev (d + 1) mX2_strengthAfter 136 30 [some (.ref c), some (.ref a), some (.int x2), some (.int (x3 + (if (0 : Int32) < ((I (c + 3) (x4).toNatClampNeg) - x2) then ((I (c + 3) (x4).toNatClampNeg) - x2) else (0 : Int32)))), some (.int x4)] [] 136 I G J Φ)
    refine E_iinc (x4 + (1 : Int32)) dX2_strengthAfter_30 rfl rfl (Nat.le_of_ble_eq_true rfl) (?_ : Ev (d + 1) mX2_strengthAfter 136 33 [some (.ref c), some (.ref a), some (.int x2), some (.int (x3 + (if (0 : Int32) < ((I (c + 3) (x4).toNatClampNeg) - x2) then ((I (c + 3) (x4).toNatClampNeg) - x2) else (0 : Int32)))), some (.int (x4 + (1 : Int32)))] [] 136 I G J Φ)
    refine E_goto 5 dX2_strengthAfter_33 rfl ?_
    exact hy
set_option maxRecDepth 100000 in
theorem w_X2_strengthAt {d : Nat} {I : MI} {G : MG} {J : MJ} {Φ : Ph} (hG : WG G) {c : Nat} (hc : isM c) {a : Nat} (ha : isL a) (x2 : Int32) (hy : Ev d mX2_strengthAt 136 5 [some (.ref c), some (.ref a), some (.int x2), some (.int (0 : Int32)), some (.int (0 : Int32))] [] 136 I G J Φ) : Ev d mX2_strengthAt 136 0 [some (.ref c), some (.ref a), some (.int x2), none, none] [] 136 I G J Φ := by
  refine E_iconst (0 : Int32) dX2_strengthAt_0 rfl ?_
  refine E_istore_n 3 dX2_strengthAt_1 rfl (Nat.le_of_ble_eq_true rfl) (?_ : Ev d mX2_strengthAt 136 2 [some (.ref c), some (.ref a), some (.int x2), some (.int (0 : Int32)), none] [] 136 I G J Φ)
  refine E_iconst (0 : Int32) dX2_strengthAt_2 rfl ?_
  refine E_istore dX2_strengthAt_3 (Nat.le_of_ble_eq_true rfl) (?_ : Ev d mX2_strengthAt 136 5 [some (.ref c), some (.ref a), some (.int x2), some (.int (0 : Int32)), some (.int (0 : Int32))] [] 136 I G J Φ)
  exact hy
set_option maxRecDepth 100000 in
theorem w_X2_strengthAt_5 {d : Nat} {I : MI} {G : MG} {J : MJ} {Φ : Ph} (hG : WG G)  {c : Nat} (hc : isM c) {a : Nat} (ha : isL a) (x2 : Int32) (x3 : Int32) (x4 : Int32) (hy : ((I a 9) ≤ x4 → Φ (some (.int x3)) 136 I G J) ∧ (¬ (I a 9) ≤ x4 → vp_in x4 3 ∧ ((¬ (I (c + 4) (x4).toNatClampNeg) = x2 → Ev d mX2_strengthAt 136 5 [some (.ref c), some (.ref a), some (.int x2), some (.int x3), some (.int (x4 + (1 : Int32)))] [] 136 I G J Φ) ∧ ((I (c + 4) (x4).toNatClampNeg) = x2 → vp_in x4 3 ∧ (Ev d mX2_strengthAt 136 5 [some (.ref c), some (.ref a), some (.int x2), some (.int (x3 + (I (c + 3) (x4).toNatClampNeg))), some (.int (x4 + (1 : Int32)))] [] 136 I G J Φ))))) : Ev d mX2_strengthAt 136 5 [some (.ref c), some (.ref a), some (.int x2), some (.int x3), some (.int x4)] [] 136 I G J Φ := by
  refine E_iload dX2_strengthAt_5 rfl ?_
  refine E_aload_n 1 dX2_strengthAt_7 rfl rfl ?_
  refine E_geti 1 9 a 15 dX2_strengthAt_8 fl_RX2_78 rfl (sL0 ha) ?_
  refine E_icmp_ge 41 dX2_strengthAt_11 rfl (fun h1 => ?_) (fun h1 => ?_)
  · replace hy := hy.1 h1
    refine E_iload_n 3 dX2_strengthAt_41 rfl rfl ?_
    exact E_ri dX2_strengthAt_42 rfl ⟨rfl, rfl⟩ hy
  · replace hy := hy.2 h1
    refine E_aload_n 0 dX2_strengthAt_14 rfl rfl ?_
    refine E_getr 2 5 c 8 (c + 4) dX2_strengthAt_15 fl_RX2_21 rfl (sM0 hc) (gM5 hG hc) ?_
    refine E_iload dX2_strengthAt_18 rfl ?_
    have c2 := hy.1
    replace hy := hy.2
    refine E_ia (c + 4) 3 (x4).toNatClampNeg dX2_strengthAt_20 (sM4 hc) c2 rfl ?_
    refine E_iload_n 2 dX2_strengthAt_21 rfl rfl ?_
    refine E_icmp_ne 35 dX2_strengthAt_22 rfl (fun h3 => ?_) (fun h3 => ?_)
    · replace hy := hy.1 h3
      refine E_iinc (x4 + (1 : Int32)) dX2_strengthAt_35 rfl rfl (Nat.le_of_ble_eq_true rfl) (?_ : Ev d mX2_strengthAt 136 38 [some (.ref c), some (.ref a), some (.int x2), some (.int x3), some (.int (x4 + (1 : Int32)))] [] 136 I G J Φ)
      refine E_goto 5 dX2_strengthAt_38 rfl ?_
      exact hy
    · replace hy := hy.2 (Decidable.not_not.mp h3)
      refine E_iload_n 3 dX2_strengthAt_25 rfl rfl ?_
      refine E_aload_n 0 dX2_strengthAt_26 rfl rfl ?_
      refine E_getr 2 4 c 8 (c + 3) dX2_strengthAt_27 fl_RX2_18 rfl (sM0 hc) (gM4 hG hc) ?_
      refine E_iload dX2_strengthAt_30 rfl ?_
      have c4 := hy.1
      replace hy := hy.2
      refine E_ia (c + 3) 3 (x4).toNatClampNeg dX2_strengthAt_32 (sM3 hc) c4 rfl ?_
      refine E_iadd dX2_strengthAt_33 ?_
      refine E_istore_n 3 dX2_strengthAt_34 rfl (Nat.le_of_ble_eq_true rfl) (?_ : Ev d mX2_strengthAt 136 35 [some (.ref c), some (.ref a), some (.int x2), some (.int (x3 + (I (c + 3) (x4).toNatClampNeg))), some (.int x4)] [] 136 I G J Φ)
      refine E_iinc (x4 + (1 : Int32)) dX2_strengthAt_35 rfl rfl (Nat.le_of_ble_eq_true rfl) (?_ : Ev d mX2_strengthAt 136 38 [some (.ref c), some (.ref a), some (.int x2), some (.int (x3 + (I (c + 3) (x4).toNatClampNeg))), some (.int (x4 + (1 : Int32)))] [] 136 I G J Φ)
      refine E_goto 5 dX2_strengthAt_38 rfl ?_
      exact hy
set_option maxRecDepth 100000 in
theorem w_X2_writeDown {d : Nat} {I : MI} {G : MG} {J : MJ} {Φ : Ph} (hG : WG G) {c : Nat} (hc : isM c) {a : Nat} (ha : isL a) (hy : Ev (d + 1) mX2_writeDown 136 3 [some (.ref c), some (.ref a), some (.int (19 : Int32)), none] [] 136 I G J Φ) : Ev (d + 1) mX2_writeDown 136 0 [some (.ref c), some (.ref a), none, none] [] 136 I G J Φ := by
  refine E_bipush (19 : Int32) dX2_writeDown_0 rfl ?_
  refine E_istore_n 2 dX2_writeDown_2 rfl (Nat.le_of_ble_eq_true rfl) (?_ : Ev (d + 1) mX2_writeDown 136 3 [some (.ref c), some (.ref a), some (.int (19 : Int32)), none] [] 136 I G J Φ)
  exact hy
set_option maxRecDepth 100000 in
theorem w_X2_writeDown_3 {d : Nat} {I : MI} {G : MG} {J : MJ} {Φ : Ph} (hG : WG G)  {c : Nat} (hc : isM c) {a : Nat} (ha : isL a) (x2 : Int32) (hy : (x2 ≤ 0 → Ev (d + 1) mX2_writeDown 136 31 [some (.ref c), some (.ref a), some (.int (0 : Int32)), some (.int (0 : Int32))] [] 136 I G J Φ) ∧ (¬ x2 ≤ 0 → vp_in (x2 - (1 : Int32)) 20 ∧ (vp_in x2 20 ∧ (Ev (d + 1) mX2_writeDown 136 3 [some (.ref c), some (.ref a), some (.int (x2 + (-1 : Int32))), none] [] 136 (u2 I (c + 5) (x2).toNatClampNeg (I (c + 5) (x2 - (1 : Int32)).toNatClampNeg)) G J Φ)))) : Ev (d + 1) mX2_writeDown 136 3 [some (.ref c), some (.ref a), some (.int x2), none] [] 136 I G J Φ := by
  refine E_iload_n 2 dX2_writeDown_3 rfl rfl ?_
  refine E_if_le 27 dX2_writeDown_4 rfl (fun h1 => ?_) (fun h1 => ?_)
  · replace hy := hy.1 h1
    refine E_iconst (0 : Int32) dX2_writeDown_27 rfl ?_
    refine E_istore_n 2 dX2_writeDown_28 rfl (Nat.le_of_ble_eq_true rfl) (?_ : Ev (d + 1) mX2_writeDown 136 29 [some (.ref c), some (.ref a), some (.int (0 : Int32)), none] [] 136 I G J Φ)
    refine E_iconst (0 : Int32) dX2_writeDown_29 rfl ?_
    refine E_istore_n 3 dX2_writeDown_30 rfl (Nat.le_of_ble_eq_true rfl) (?_ : Ev (d + 1) mX2_writeDown 136 31 [some (.ref c), some (.ref a), some (.int (0 : Int32)), some (.int (0 : Int32))] [] 136 I G J Φ)
    exact hy
  · replace hy := hy.2 h1
    refine E_aload_n 0 dX2_writeDown_7 rfl rfl ?_
    refine E_getr 2 6 c 8 (c + 5) dX2_writeDown_8 fl_RX2_24 rfl (sM0 hc) (gM6 hG hc) ?_
    refine E_iload_n 2 dX2_writeDown_11 rfl rfl ?_
    refine E_aload_n 0 dX2_writeDown_12 rfl rfl ?_
    refine E_getr 2 6 c 8 (c + 5) dX2_writeDown_13 fl_RX2_24 rfl (sM0 hc) (gM6 hG hc) ?_
    refine E_iload_n 2 dX2_writeDown_16 rfl rfl ?_
    refine E_iconst (1 : Int32) dX2_writeDown_17 rfl ?_
    refine E_isub dX2_writeDown_18 ?_
    have c2 := hy.1
    replace hy := hy.2
    refine E_ia (c + 5) 20 (x2 - (1 : Int32)).toNatClampNeg dX2_writeDown_19 (sM5 hc) c2 rfl ?_
    have c3 := hy.1
    replace hy := hy.2
    refine E_is (c + 5) 20 (x2).toNatClampNeg dX2_writeDown_20 (sM5 hc) c3 rfl ?_
    refine E_iinc (x2 + (-1 : Int32)) dX2_writeDown_21 rfl rfl (Nat.le_of_ble_eq_true rfl) (?_ : Ev (d + 1) mX2_writeDown 136 24 [some (.ref c), some (.ref a), some (.int (x2 + (-1 : Int32))), none] [] 136 (u2 I (c + 5) (x2).toNatClampNeg (I (c + 5) (x2 - (1 : Int32)).toNatClampNeg)) G J Φ)
    refine E_goto 3 dX2_writeDown_24 rfl ?_
    exact hy
set_option maxRecDepth 100000 in
theorem w_X2_writeDown_31 {d : Nat} {I : MI} {G : MG} {J : MJ} {Φ : Ph} (hG : WG G)  {c : Nat} (hc : isM c) {a : Nat} (ha : isL a) (x2 : Int32) (x3 : Int32) (hy : ((I a 0) ≤ x3 → Φ none 136 (u2 (u2 I (c + 5) 0 x2) c 7 (if (20 : Int32) < ((I c 7) + (1 : Int32)) then (20 : Int32) else ((I c 7) + (1 : Int32)))) G J) ∧ (¬ (I a 0) ≤ x3 → vp_in x3 4 ∧ (Ev (d + 1) mX2_writeDown 136 31 [some (.ref c), some (.ref a), some (.int (x2 ||| ((I (c + 1) (x3).toNatClampNeg) <<< ((x3 * (4 : Int32)) &&& 31)))), some (.int (x3 + (1 : Int32)))] [] 136 I G J Φ))) : Ev (d + 1) mX2_writeDown 136 31 [some (.ref c), some (.ref a), some (.int x2), some (.int x3)] [] 136 I G J Φ := by
  refine E_iload_n 3 dX2_writeDown_31 rfl rfl ?_
  refine E_aload_n 1 dX2_writeDown_32 rfl rfl ?_
  refine E_geti 1 0 a 15 dX2_writeDown_33 fl_RX2_52 rfl (sL0 ha) ?_
  refine E_icmp_ge 58 dX2_writeDown_36 rfl (fun h1 => ?_) (fun h1 => ?_)
  · replace hy := hy.1 h1
    refine E_aload_n 0 dX2_writeDown_58 rfl rfl ?_
    refine E_getr 2 6 c 8 (c + 5) dX2_writeDown_59 fl_RX2_24 rfl (sM0 hc) (gM6 hG hc) ?_
    refine E_iconst (0 : Int32) dX2_writeDown_62 rfl ?_
    refine E_iload_n 2 dX2_writeDown_63 rfl rfl ?_
    refine E_is (c + 5) 20 0 dX2_writeDown_64 (sM5 hc) (vpd (by decide)) rfl ?_
    refine E_aload_n 0 dX2_writeDown_65 rfl rfl ?_
    refine E_aload_n 0 dX2_writeDown_66 rfl rfl ?_
    refine E_getw 2 7 c 8 (I c 7) dX2_writeDown_67 fl_RX2_34 rfl (sM0 hc) (by simp [u2]) ?_
    refine E_iconst (1 : Int32) dX2_writeDown_70 rfl ?_
    refine E_iadd dX2_writeDown_71 ?_
    refine E_bipush (20 : Int32) dX2_writeDown_72 rfl ?_
    refine E_min dX2_writeDown_74 lk_RX2_103 (Nat.le_of_ble_eq_true rfl) ?_
    refine E_puti 2 7 c 8 dX2_writeDown_77 fl_RX2_34 rfl (sM0 hc) ⟨_, rfl, rfl⟩ rfl rfl ?_
    exact E_rv dX2_writeDown_80 rfl ⟨rfl, rfl⟩ hy
  · replace hy := hy.2 h1
    refine E_iload_n 2 dX2_writeDown_39 rfl rfl ?_
    refine E_aload_n 0 dX2_writeDown_40 rfl rfl ?_
    refine E_getr 2 2 c 8 (c + 1) dX2_writeDown_41 fl_RX2_9 rfl (sM0 hc) (gM2 hG hc) ?_
    refine E_iload_n 3 dX2_writeDown_44 rfl rfl ?_
    have c2 := hy.1
    replace hy := hy.2
    refine E_ia (c + 1) 4 (x3).toNatClampNeg dX2_writeDown_45 (sM1 hc) c2 rfl ?_
    refine E_iload_n 3 dX2_writeDown_46 rfl rfl ?_
    refine E_iconst (4 : Int32) dX2_writeDown_47 rfl ?_
    refine E_imul dX2_writeDown_48 ?_
    refine E_ishl dX2_writeDown_49 ?_
    refine E_ior dX2_writeDown_50 ?_
    refine E_istore_n 2 dX2_writeDown_51 rfl (Nat.le_of_ble_eq_true rfl) (?_ : Ev (d + 1) mX2_writeDown 136 52 [some (.ref c), some (.ref a), some (.int (x2 ||| ((I (c + 1) (x3).toNatClampNeg) <<< ((x3 * (4 : Int32)) &&& 31)))), some (.int x3)] [] 136 I G J Φ)
    refine E_iinc (x3 + (1 : Int32)) dX2_writeDown_52 rfl rfl (Nat.le_of_ble_eq_true rfl) (?_ : Ev (d + 1) mX2_writeDown 136 55 [some (.ref c), some (.ref a), some (.int (x2 ||| ((I (c + 1) (x3).toNatClampNeg) <<< ((x3 * (4 : Int32)) &&& 31)))), some (.int (x3 + (1 : Int32)))] [] 136 I G J Φ)
    refine E_goto 31 dX2_writeDown_55 rfl ?_
    exact hy
set_option maxRecDepth 100000 in
theorem w_X2_writtenStep {d : Nat} {I : MI} {G : MG} {J : MJ} {Φ : Ph} (hG : WG G) {c : Nat} (hc : isM c) (x1 : Int32) (x2 : Int32) (hy : (x1 < 0 → Φ (some (.int (-1 : Int32))) 136 I G J) ∧ (¬ x1 < 0 → (x1 < (20 : Int32) → vp_in x1 20 ∧ (Φ (some (.int (((I (c + 5) (x1).toNatClampNeg) >>> ((x2 * (4 : Int32)) &&& 31)) &&& (15 : Int32)))) 136 I G J)) ∧ (¬ x1 < (20 : Int32) → Φ (some (.int (-1 : Int32))) 136 I G J))) : Ev d mX2_writtenStep 136 0 [some (.ref c), some (.int x1), some (.int x2)] [] 136 I G J Φ := by
  refine E_iload_n 1 dX2_writtenStep_0 rfl rfl ?_
  refine E_if_lt 10 dX2_writtenStep_1 rfl (fun h1 => ?_) (fun h1 => ?_)
  · replace hy := hy.1 h1
    refine E_iconst (-1 : Int32) dX2_writtenStep_10 rfl ?_
    refine E_goto 27 dX2_writtenStep_11 rfl ?_
    exact E_ri dX2_writtenStep_27 rfl ⟨rfl, rfl⟩ hy
  · replace hy := hy.2 h1
    refine E_iload_n 1 dX2_writtenStep_4 rfl rfl ?_
    refine E_bipush (20 : Int32) dX2_writtenStep_5 rfl ?_
    refine E_icmp_lt 14 dX2_writtenStep_7 rfl (fun h2 => ?_) (fun h2 => ?_)
    · replace hy := hy.1 h2
      refine E_aload_n 0 dX2_writtenStep_14 rfl rfl ?_
      refine E_getr 2 6 c 8 (c + 5) dX2_writtenStep_15 fl_RX2_24 rfl (sM0 hc) (gM6 hG hc) ?_
      refine E_iload_n 1 dX2_writtenStep_18 rfl rfl ?_
      have c3 := hy.1
      replace hy := hy.2
      refine E_ia (c + 5) 20 (x1).toNatClampNeg dX2_writtenStep_19 (sM5 hc) c3 rfl ?_
      refine E_iload_n 2 dX2_writtenStep_20 rfl rfl ?_
      refine E_iconst (4 : Int32) dX2_writtenStep_21 rfl ?_
      refine E_imul dX2_writtenStep_22 ?_
      refine E_ishr dX2_writtenStep_23 ?_
      refine E_bipush (15 : Int32) dX2_writtenStep_24 rfl ?_
      refine E_iand dX2_writtenStep_26 ?_
      exact E_ri dX2_writtenStep_27 rfl ⟨rfl, rfl⟩ hy
    · replace hy := hy.2 h2
      refine E_iconst (-1 : Int32) dX2_writtenStep_10 rfl ?_
      refine E_goto 27 dX2_writtenStep_11 rfl ?_
      exact E_ri dX2_writtenStep_27 rfl ⟨rfl, rfl⟩ hy
set_option maxRecDepth 100000 in
theorem w_X3_addItem {d : Nat} {I : MI} {G : MG} {J : MJ} {Φ : Ph} (hG : WG G) (x1 : Int32) {a : Nat} (ha : isL a) (hy : (x1 = nI 104 → Ev d mX1_addHill 136 0 [some (.ref a), some (.ref 3)] [] 136 I G J (fun r n I1 G1 J1 => r = none ∧ n = 136 ∧ G = G1 ∧ J = J1 ∧ (Φ none 136 I1 G J))) ∧ (¬ x1 = nI 104 → (x1 = nI 105 → Φ none 136 (u2 (u2 I a 12 (I 3 0)) a 14 (1 : Int32)) G J) ∧ (¬ x1 = nI 105 → (x1 = nI 106 → Ev d mX1_addJoin 136 0 [some (.ref a), some (.ref 3)] [] 136 I G J (fun r n I2 G2 J2 => r = none ∧ n = 136 ∧ G = G2 ∧ J = J2 ∧ (Φ none 136 I2 G J))) ∧ (¬ x1 = nI 106 → (x1 = nI 107 → Φ none 136 (u2 (u2 I a 12 (I 3 0)) a 14 (1 : Int32)) G J) ∧ (¬ x1 = nI 107 → (x1 = nI 108 → Φ none 136 (u2 (u2 I a 12 (I 3 0)) a 14 (1 : Int32)) G J) ∧ (¬ x1 = nI 108 → (x1 = nI 109 → Ev d mX1_addMan 136 0 [some (.ref a), some (.int (I 3 0))] [] 136 I G J (fun r n I3 G3 J3 => r = none ∧ n = 136 ∧ G = G3 ∧ J = J3 ∧ (Φ none 136 I3 G J))) ∧ (¬ x1 = nI 109 → (x1 = nI 110 → Φ none 136 (u2 (u2 I a 12 (I 3 0)) a 14 (1 : Int32)) G J) ∧ (¬ x1 = nI 110 → (x1 = nI 111 → Φ none 136 (u2 (u2 I a 11 (I 3 0)) a 13 (1 : Int32)) G J) ∧ (¬ x1 = nI 111 → Φ none 136 (u2 (u2 I a 12 (I 3 0)) a 14 (1 : Int32)) G J))))))))) : Ev (d + 1) mX3_addItem 136 0 [some (.ref 2), some (.int x1), some (.ref a)] [] 136 I G J Φ := by
  refine E_iload_n 1 dX3_addItem_0 rfl rfl ?_
  refine E_tsw 104 [48, 101, 59, 101, 101, 70, 101, 83] 101 dX3_addItem_1 rfl rfl rfl (by decide) ?_
  refine ⟨fun h4 => ?_, fun h4 => ?_⟩
  · replace hy := hy.1 h4
    dsimp only
    refine E_aload_n 2 dX3_addItem_48 rfl rfl ?_
    refine E_aload_n 0 dX3_addItem_49 rfl rfl ?_
    refine E_getr 3 1 2 7 3 dX3_addItem_50 fl_RX3_11 rfl sh_2 (wg_2_1 hG) ?_
    refine E_cv (M := mX3_addItem) (pc := 53) (As := [.ref 3]) (st := []) mX1_addHill 1 1 15 dX3_addItem_53 lk_RX3_102 ⟨_, rfl, rfl⟩ (sL0 ha) rfl (Nat.le_of_ble_eq_true rfl) ⟨rfl, rfl⟩ (Nat.le_of_ble_eq_true rfl) rfl hy ?_
    rintro r n I1 G1 J1 ⟨rfl, rfl, rfl, rfl, hy⟩
    show Ev (d + 1) mX3_addItem 136 56 [some (.ref 2), some (.int x1), some (.ref a)] [] 136 I1 G J Φ
    refine E_goto 116 dX3_addItem_56 rfl ?_
    exact E_rv dX3_addItem_116 rfl ⟨rfl, rfl⟩ hy
  replace hy := hy.2 h4
  refine ⟨fun h5 => ?_, fun h5 => ?_⟩
  · replace hy := hy.1 h5
    dsimp only
    refine E_aload_n 2 dX3_addItem_101 rfl rfl ?_
    refine E_aload_n 0 dX3_addItem_102 rfl rfl ?_
    refine E_getr 3 1 2 7 3 dX3_addItem_103 fl_RX3_11 rfl sh_2 (wg_2_1 hG) ?_
    refine E_iconst (0 : Int32) dX3_addItem_106 rfl ?_
    refine E_ia 3 4 0 dX3_addItem_107 sh_3 (vpd (by decide)) rfl ?_
    refine E_puti 1 12 a 15 dX3_addItem_108 fl_RX3_116 rfl (sL0 ha) ⟨_, rfl, rfl⟩ rfl rfl ?_
    refine E_aload_n 2 dX3_addItem_111 rfl rfl ?_
    refine E_iconst (1 : Int32) dX3_addItem_112 rfl ?_
    refine E_puti 1 14 a 15 dX3_addItem_113 fl_RX3_82 rfl (sL0 ha) ⟨_, rfl, rfl⟩ rfl rfl ?_
    exact E_rv dX3_addItem_116 rfl ⟨rfl, rfl⟩ hy
  replace hy := hy.2 h5
  refine ⟨fun h6 => ?_, fun h6 => ?_⟩
  · replace hy := hy.1 h6
    dsimp only
    refine E_aload_n 2 dX3_addItem_59 rfl rfl ?_
    refine E_aload_n 0 dX3_addItem_60 rfl rfl ?_
    refine E_getr 3 1 2 7 3 dX3_addItem_61 fl_RX3_11 rfl sh_2 (wg_2_1 hG) ?_
    refine E_cv (M := mX3_addItem) (pc := 64) (As := [.ref 3]) (st := []) mX1_addJoin 1 1 15 dX3_addItem_64 lk_RX3_106 ⟨_, rfl, rfl⟩ (sL0 ha) rfl (Nat.le_of_ble_eq_true rfl) ⟨rfl, rfl⟩ (Nat.le_of_ble_eq_true rfl) rfl hy ?_
    rintro r n I2 G2 J2 ⟨rfl, rfl, rfl, rfl, hy⟩
    show Ev (d + 1) mX3_addItem 136 67 [some (.ref 2), some (.int x1), some (.ref a)] [] 136 I2 G J Φ
    refine E_goto 116 dX3_addItem_67 rfl ?_
    exact E_rv dX3_addItem_116 rfl ⟨rfl, rfl⟩ hy
  replace hy := hy.2 h6
  refine ⟨fun h7 => ?_, fun h7 => ?_⟩
  · replace hy := hy.1 h7
    dsimp only
    refine E_aload_n 2 dX3_addItem_101 rfl rfl ?_
    refine E_aload_n 0 dX3_addItem_102 rfl rfl ?_
    refine E_getr 3 1 2 7 3 dX3_addItem_103 fl_RX3_11 rfl sh_2 (wg_2_1 hG) ?_
    refine E_iconst (0 : Int32) dX3_addItem_106 rfl ?_
    refine E_ia 3 4 0 dX3_addItem_107 sh_3 (vpd (by decide)) rfl ?_
    refine E_puti 1 12 a 15 dX3_addItem_108 fl_RX3_116 rfl (sL0 ha) ⟨_, rfl, rfl⟩ rfl rfl ?_
    refine E_aload_n 2 dX3_addItem_111 rfl rfl ?_
    refine E_iconst (1 : Int32) dX3_addItem_112 rfl ?_
    refine E_puti 1 14 a 15 dX3_addItem_113 fl_RX3_82 rfl (sL0 ha) ⟨_, rfl, rfl⟩ rfl rfl ?_
    exact E_rv dX3_addItem_116 rfl ⟨rfl, rfl⟩ hy
  replace hy := hy.2 h7
  refine ⟨fun h8 => ?_, fun h8 => ?_⟩
  · replace hy := hy.1 h8
    dsimp only
    refine E_aload_n 2 dX3_addItem_101 rfl rfl ?_
    refine E_aload_n 0 dX3_addItem_102 rfl rfl ?_
    refine E_getr 3 1 2 7 3 dX3_addItem_103 fl_RX3_11 rfl sh_2 (wg_2_1 hG) ?_
    refine E_iconst (0 : Int32) dX3_addItem_106 rfl ?_
    refine E_ia 3 4 0 dX3_addItem_107 sh_3 (vpd (by decide)) rfl ?_
    refine E_puti 1 12 a 15 dX3_addItem_108 fl_RX3_116 rfl (sL0 ha) ⟨_, rfl, rfl⟩ rfl rfl ?_
    refine E_aload_n 2 dX3_addItem_111 rfl rfl ?_
    refine E_iconst (1 : Int32) dX3_addItem_112 rfl ?_
    refine E_puti 1 14 a 15 dX3_addItem_113 fl_RX3_82 rfl (sL0 ha) ⟨_, rfl, rfl⟩ rfl rfl ?_
    exact E_rv dX3_addItem_116 rfl ⟨rfl, rfl⟩ hy
  replace hy := hy.2 h8
  refine ⟨fun h9 => ?_, fun h9 => ?_⟩
  · replace hy := hy.1 h9
    dsimp only
    refine E_aload_n 2 dX3_addItem_70 rfl rfl ?_
    refine E_aload_n 0 dX3_addItem_71 rfl rfl ?_
    refine E_getr 3 1 2 7 3 dX3_addItem_72 fl_RX3_11 rfl sh_2 (wg_2_1 hG) ?_
    refine E_iconst (0 : Int32) dX3_addItem_75 rfl ?_
    refine E_ia 3 4 0 dX3_addItem_76 sh_3 (vpd (by decide)) rfl ?_
    refine E_cv (M := mX3_addItem) (pc := 77) (As := [.int (I 3 0)]) (st := []) mX1_addMan 1 1 15 dX3_addItem_77 lk_RX3_109 ⟨_, rfl, rfl⟩ (sL0 ha) rfl (Nat.le_of_ble_eq_true rfl) ⟨rfl, rfl⟩ (Nat.le_of_ble_eq_true rfl) rfl hy ?_
    rintro r n I3 G3 J3 ⟨rfl, rfl, rfl, rfl, hy⟩
    show Ev (d + 1) mX3_addItem 136 80 [some (.ref 2), some (.int x1), some (.ref a)] [] 136 I3 G J Φ
    refine E_goto 116 dX3_addItem_80 rfl ?_
    exact E_rv dX3_addItem_116 rfl ⟨rfl, rfl⟩ hy
  replace hy := hy.2 h9
  refine ⟨fun h10 => ?_, fun h10 => ?_⟩
  · replace hy := hy.1 h10
    dsimp only
    refine E_aload_n 2 dX3_addItem_101 rfl rfl ?_
    refine E_aload_n 0 dX3_addItem_102 rfl rfl ?_
    refine E_getr 3 1 2 7 3 dX3_addItem_103 fl_RX3_11 rfl sh_2 (wg_2_1 hG) ?_
    refine E_iconst (0 : Int32) dX3_addItem_106 rfl ?_
    refine E_ia 3 4 0 dX3_addItem_107 sh_3 (vpd (by decide)) rfl ?_
    refine E_puti 1 12 a 15 dX3_addItem_108 fl_RX3_116 rfl (sL0 ha) ⟨_, rfl, rfl⟩ rfl rfl ?_
    refine E_aload_n 2 dX3_addItem_111 rfl rfl ?_
    refine E_iconst (1 : Int32) dX3_addItem_112 rfl ?_
    refine E_puti 1 14 a 15 dX3_addItem_113 fl_RX3_82 rfl (sL0 ha) ⟨_, rfl, rfl⟩ rfl rfl ?_
    exact E_rv dX3_addItem_116 rfl ⟨rfl, rfl⟩ hy
  replace hy := hy.2 h10
  refine ⟨fun h11 => ?_, fun h11 => ?_⟩
  · replace hy := hy.1 h11
    dsimp only
    refine E_aload_n 2 dX3_addItem_83 rfl rfl ?_
    refine E_aload_n 0 dX3_addItem_84 rfl rfl ?_
    refine E_getr 3 1 2 7 3 dX3_addItem_85 fl_RX3_11 rfl sh_2 (wg_2_1 hG) ?_
    refine E_iconst (0 : Int32) dX3_addItem_88 rfl ?_
    refine E_ia 3 4 0 dX3_addItem_89 sh_3 (vpd (by decide)) rfl ?_
    refine E_puti 1 11 a 15 dX3_addItem_90 fl_RX3_113 rfl (sL0 ha) ⟨_, rfl, rfl⟩ rfl rfl ?_
    refine E_aload_n 2 dX3_addItem_93 rfl rfl ?_
    refine E_iconst (1 : Int32) dX3_addItem_94 rfl ?_
    refine E_puti 1 13 a 15 dX3_addItem_95 fl_RX3_78 rfl (sL0 ha) ⟨_, rfl, rfl⟩ rfl rfl ?_
    refine E_goto 116 dX3_addItem_98 rfl ?_
    exact E_rv dX3_addItem_116 rfl ⟨rfl, rfl⟩ hy
  replace hy := hy.2 h11
  show Ev (d + 1) mX3_addItem 136 101 [some (.ref 2), some (.int x1), some (.ref a)] [] 136 I G J Φ
  refine E_aload_n 2 dX3_addItem_101 rfl rfl ?_
  refine E_aload_n 0 dX3_addItem_102 rfl rfl ?_
  refine E_getr 3 1 2 7 3 dX3_addItem_103 fl_RX3_11 rfl sh_2 (wg_2_1 hG) ?_
  refine E_iconst (0 : Int32) dX3_addItem_106 rfl ?_
  refine E_ia 3 4 0 dX3_addItem_107 sh_3 (vpd (by decide)) rfl ?_
  refine E_puti 1 12 a 15 dX3_addItem_108 fl_RX3_116 rfl (sL0 ha) ⟨_, rfl, rfl⟩ rfl rfl ?_
  refine E_aload_n 2 dX3_addItem_111 rfl rfl ?_
  refine E_iconst (1 : Int32) dX3_addItem_112 rfl ?_
  refine E_puti 1 14 a 15 dX3_addItem_113 fl_RX3_82 rfl (sL0 ha) ⟨_, rfl, rfl⟩ rfl rfl ?_
  exact E_rv dX3_addItem_116 rfl ⟨rfl, rfl⟩ hy
set_option maxRecDepth 100000 in
theorem w_X3_canStand {d : Nat} {I : MI} {G : MG} {J : MJ} {Φ : Ph} (hG : WG G) (x0 : Int32) {a : Nat} (ha : isL a) (hy : (x0 = nI 104 → ((4 : Int32) ≤ (I a 0) → Φ (some (.int (0 : Int32))) 136 I G J) ∧ (¬ (4 : Int32) ≤ (I a 0) → Φ (some (.int (1 : Int32))) 136 I G J)) ∧ (¬ x0 = nI 104 → (x0 = nI 105 → Φ (some (.int (0 : Int32))) 136 I G J) ∧ (¬ x0 = nI 105 → (x0 = nI 106 → ((4 : Int32) ≤ (I a 5) → Φ (some (.int (0 : Int32))) 136 I G J) ∧ (¬ (4 : Int32) ≤ (I a 5) → Φ (some (.int (1 : Int32))) 136 I G J)) ∧ (¬ x0 = nI 106 → (x0 = nI 107 → Φ (some (.int (0 : Int32))) 136 I G J) ∧ (¬ x0 = nI 107 → (x0 = nI 108 → Φ (some (.int (0 : Int32))) 136 I G J) ∧ (¬ x0 = nI 108 → (x0 = nI 109 → ((3 : Int32) ≤ (I a 9) → Φ (some (.int (0 : Int32))) 136 I G J) ∧ (¬ (3 : Int32) ≤ (I a 9) → Φ (some (.int (1 : Int32))) 136 I G J)) ∧ (¬ x0 = nI 109 → (x0 = nI 110 → Φ (some (.int (0 : Int32))) 136 I G J) ∧ (¬ x0 = nI 110 → (x0 = nI 111 → (¬ (I a 13) = 0 → Φ (some (.int (0 : Int32))) 136 I G J) ∧ ((I a 13) = 0 → Φ (some (.int (1 : Int32))) 136 I G J)) ∧ (¬ x0 = nI 111 → (x0 = nI 112 → Φ (some (.int (0 : Int32))) 136 I G J) ∧ (¬ x0 = nI 112 → (x0 = nI 113 → Φ (some (.int (0 : Int32))) 136 I G J) ∧ (¬ x0 = nI 113 → (x0 = nI 114 → (¬ (I a 14) = 0 → Φ (some (.int (0 : Int32))) 136 I G J) ∧ ((I a 14) = 0 → Φ (some (.int (1 : Int32))) 136 I G J)) ∧ (¬ x0 = nI 114 → Φ (some (.int (0 : Int32))) 136 I G J)))))))))))) : Ev d mX3_canStand 136 0 [some (.int x0), some (.ref a)] [] 136 I G J Φ := by
  refine E_iload_n 0 dX3_canStand_0 rfl rfl ?_
  refine E_tsw 104 [60, 128, 74, 128, 128, 88, 128, 102, 128, 128, 115] 128 dX3_canStand_1 rfl rfl rfl (by decide) ?_
  refine ⟨fun h6 => ?_, fun h6 => ?_⟩
  · replace hy := hy.1 h6
    dsimp only
    refine E_aload_n 1 dX3_canStand_60 rfl rfl ?_
    refine E_geti 1 0 a 15 dX3_canStand_61 fl_RX3_69 rfl (sL0 ha) ?_
    refine E_iconst (4 : Int32) dX3_canStand_64 rfl ?_
    refine E_icmp_ge 72 dX3_canStand_65 rfl (fun h1 => ?_) (fun h1 => ?_)
    · replace hy := hy.1 h1
      refine E_iconst (0 : Int32) dX3_canStand_72 rfl ?_
      exact E_rz dX3_canStand_73 rfl rfl ⟨rfl, rfl⟩ hy
    · replace hy := hy.2 h1
      refine E_iconst (1 : Int32) dX3_canStand_68 rfl ?_
      refine E_goto 73 dX3_canStand_69 rfl ?_
      exact E_rz dX3_canStand_73 rfl rfl ⟨rfl, rfl⟩ hy
  replace hy := hy.2 h6
  refine ⟨fun h7 => ?_, fun h7 => ?_⟩
  · replace hy := hy.1 h7
    dsimp only
    refine E_iconst (0 : Int32) dX3_canStand_128 rfl ?_
    exact E_rz dX3_canStand_129 rfl rfl ⟨rfl, rfl⟩ hy
  replace hy := hy.2 h7
  refine ⟨fun h8 => ?_, fun h8 => ?_⟩
  · replace hy := hy.1 h8
    dsimp only
    refine E_aload_n 1 dX3_canStand_74 rfl rfl ?_
    refine E_geti 1 5 a 15 dX3_canStand_75 fl_RX3_72 rfl (sL0 ha) ?_
    refine E_iconst (4 : Int32) dX3_canStand_78 rfl ?_
    refine E_icmp_ge 86 dX3_canStand_79 rfl (fun h2 => ?_) (fun h2 => ?_)
    · replace hy := hy.1 h2
      refine E_iconst (0 : Int32) dX3_canStand_86 rfl ?_
      exact E_rz dX3_canStand_87 rfl rfl ⟨rfl, rfl⟩ hy
    · replace hy := hy.2 h2
      refine E_iconst (1 : Int32) dX3_canStand_82 rfl ?_
      refine E_goto 87 dX3_canStand_83 rfl ?_
      exact E_rz dX3_canStand_87 rfl rfl ⟨rfl, rfl⟩ hy
  replace hy := hy.2 h8
  refine ⟨fun h9 => ?_, fun h9 => ?_⟩
  · replace hy := hy.1 h9
    dsimp only
    refine E_iconst (0 : Int32) dX3_canStand_128 rfl ?_
    exact E_rz dX3_canStand_129 rfl rfl ⟨rfl, rfl⟩ hy
  replace hy := hy.2 h9
  refine ⟨fun h10 => ?_, fun h10 => ?_⟩
  · replace hy := hy.1 h10
    dsimp only
    refine E_iconst (0 : Int32) dX3_canStand_128 rfl ?_
    exact E_rz dX3_canStand_129 rfl rfl ⟨rfl, rfl⟩ hy
  replace hy := hy.2 h10
  refine ⟨fun h11 => ?_, fun h11 => ?_⟩
  · replace hy := hy.1 h11
    dsimp only
    refine E_aload_n 1 dX3_canStand_88 rfl rfl ?_
    refine E_geti 1 9 a 15 dX3_canStand_89 fl_RX3_75 rfl (sL0 ha) ?_
    refine E_iconst (3 : Int32) dX3_canStand_92 rfl ?_
    refine E_icmp_ge 100 dX3_canStand_93 rfl (fun h3 => ?_) (fun h3 => ?_)
    · replace hy := hy.1 h3
      refine E_iconst (0 : Int32) dX3_canStand_100 rfl ?_
      exact E_rz dX3_canStand_101 rfl rfl ⟨rfl, rfl⟩ hy
    · replace hy := hy.2 h3
      refine E_iconst (1 : Int32) dX3_canStand_96 rfl ?_
      refine E_goto 101 dX3_canStand_97 rfl ?_
      exact E_rz dX3_canStand_101 rfl rfl ⟨rfl, rfl⟩ hy
  replace hy := hy.2 h11
  refine ⟨fun h12 => ?_, fun h12 => ?_⟩
  · replace hy := hy.1 h12
    dsimp only
    refine E_iconst (0 : Int32) dX3_canStand_128 rfl ?_
    exact E_rz dX3_canStand_129 rfl rfl ⟨rfl, rfl⟩ hy
  replace hy := hy.2 h12
  refine ⟨fun h13 => ?_, fun h13 => ?_⟩
  · replace hy := hy.1 h13
    dsimp only
    refine E_aload_n 1 dX3_canStand_102 rfl rfl ?_
    refine E_geti 1 13 a 15 dX3_canStand_103 fl_RX3_78 rfl (sL0 ha) ?_
    refine E_if_ne 113 dX3_canStand_106 rfl (fun h4 => ?_) (fun h4 => ?_)
    · replace hy := hy.1 h4
      refine E_iconst (0 : Int32) dX3_canStand_113 rfl ?_
      exact E_rz dX3_canStand_114 rfl rfl ⟨rfl, rfl⟩ hy
    · replace hy := hy.2 (Decidable.not_not.mp h4)
      refine E_iconst (1 : Int32) dX3_canStand_109 rfl ?_
      refine E_goto 114 dX3_canStand_110 rfl ?_
      exact E_rz dX3_canStand_114 rfl rfl ⟨rfl, rfl⟩ hy
  replace hy := hy.2 h13
  refine ⟨fun h14 => ?_, fun h14 => ?_⟩
  · replace hy := hy.1 h14
    dsimp only
    refine E_iconst (0 : Int32) dX3_canStand_128 rfl ?_
    exact E_rz dX3_canStand_129 rfl rfl ⟨rfl, rfl⟩ hy
  replace hy := hy.2 h14
  refine ⟨fun h15 => ?_, fun h15 => ?_⟩
  · replace hy := hy.1 h15
    dsimp only
    refine E_iconst (0 : Int32) dX3_canStand_128 rfl ?_
    exact E_rz dX3_canStand_129 rfl rfl ⟨rfl, rfl⟩ hy
  replace hy := hy.2 h15
  refine ⟨fun h16 => ?_, fun h16 => ?_⟩
  · replace hy := hy.1 h16
    dsimp only
    refine E_aload_n 1 dX3_canStand_115 rfl rfl ?_
    refine E_geti 1 14 a 15 dX3_canStand_116 fl_RX3_82 rfl (sL0 ha) ?_
    refine E_if_ne 126 dX3_canStand_119 rfl (fun h5 => ?_) (fun h5 => ?_)
    · replace hy := hy.1 h5
      refine E_iconst (0 : Int32) dX3_canStand_126 rfl ?_
      exact E_rz dX3_canStand_127 rfl rfl ⟨rfl, rfl⟩ hy
    · replace hy := hy.2 (Decidable.not_not.mp h5)
      refine E_iconst (1 : Int32) dX3_canStand_122 rfl ?_
      refine E_goto 127 dX3_canStand_123 rfl ?_
      exact E_rz dX3_canStand_127 rfl rfl ⟨rfl, rfl⟩ hy
  replace hy := hy.2 h16
  show Ev d mX3_canStand 136 128 [some (.int x0), some (.ref a)] [] 136 I G J Φ
  refine E_iconst (0 : Int32) dX3_canStand_128 rfl ?_
  exact E_rz dX3_canStand_129 rfl rfl ⟨rfl, rfl⟩ hy
set_option maxRecDepth 100000 in
theorem w_X3_fits {d : Nat} {I : MI} {G : MG} {J : MJ} {Φ : Ph} (hG : WG G) (x1 : Int32) (x2 : Int32) {a : Nat} (ha : isL a) (hy : (x1 = nI 104 → vp_in x2 (oul G 1003) ∧ (vp_in x2 (oul G 1004) ∧ (Ev d mX3_isWithin 136 0 [some (.ref 2), some (.int (I 1003 (x2).toNatClampNeg)), some (.int (I 1004 (x2).toNatClampNeg))] [] 136 I G J (fun r n I3 G3 J3 => ∃ v3 : Int32, r = some (.int v3) ∧ n = 136 ∧ I = I3 ∧ G = G3 ∧ J = J3 ∧ (narrow .boolean (.int v3) = .int v3 ∧ (Φ (some (.int v3)) 136 I G J)))))) ∧ (¬ x1 = nI 104 → (x1 = nI 105 → Ev d mX3_isWithin 136 0 [some (.ref 2), some (.int (0 : Int32)), some (.int (127 : Int32))] [] 136 I G J (fun r n I5 G5 J5 => ∃ v5 : Int32, r = some (.int v5) ∧ n = 136 ∧ I = I5 ∧ G = G5 ∧ J = J5 ∧ (narrow .boolean (.int v5) = .int v5 ∧ (Φ (some (.int v5)) 136 I G J)))) ∧ (¬ x1 = nI 105 → (x1 = nI 106 → Ev d mX3_fitsJoin 136 0 [some (.ref 2), some (.int x2), some (.ref a)] [] 136 I G J (fun r n I7 G7 J7 => ∃ v7 : Int32, r = some (.int v7) ∧ n = 136 ∧ I = I7 ∧ G = G7 ∧ J = J7 ∧ (narrow .boolean (.int v7) = .int v7 ∧ (Φ (some (.int v7)) 136 I G J)))) ∧ (¬ x1 = nI 106 → (x1 = nI 107 → Ev d mX3_isWithin 136 0 [some (.ref 2), some (.int (0 : Int32)), some (.int (127 : Int32))] [] 136 I G J (fun r n I9 G9 J9 => ∃ v9 : Int32, r = some (.int v9) ∧ n = 136 ∧ I = I9 ∧ G = G9 ∧ J = J9 ∧ (narrow .boolean (.int v9) = .int v9 ∧ (Φ (some (.int v9)) 136 I G J)))) ∧ (¬ x1 = nI 107 → (x1 = nI 108 → Ev d mX3_isWithin 136 0 [some (.ref 2), some (.int (0 : Int32)), some (.int (127 : Int32))] [] 136 I G J (fun r n I11 G11 J11 => ∃ v11 : Int32, r = some (.int v11) ∧ n = 136 ∧ I = I11 ∧ G = G11 ∧ J = J11 ∧ (narrow .boolean (.int v11) = .int v11 ∧ (Φ (some (.int v11)) 136 I G J)))) ∧ (¬ x1 = nI 108 → (x1 = nI 109 → Ev d mX3_isWithin 136 0 [some (.ref 2), some (.int (1 : Int32)), some (.int (9 : Int32))] [] 136 I G J (fun r n I13 G13 J13 => ∃ v13 : Int32, r = some (.int v13) ∧ n = 136 ∧ I = I13 ∧ G = G13 ∧ J = J13 ∧ (narrow .boolean (.int v13) = .int v13 ∧ (Φ (some (.int v13)) 136 I G J)))) ∧ (¬ x1 = nI 109 → (x1 = nI 110 → Ev d mX3_isWithin 136 0 [some (.ref 2), some (.int (0 : Int32)), some (.int (127 : Int32))] [] 136 I G J (fun r n I15 G15 J15 => ∃ v15 : Int32, r = some (.int v15) ∧ n = 136 ∧ I = I15 ∧ G = G15 ∧ J = J15 ∧ (narrow .boolean (.int v15) = .int v15 ∧ (Φ (some (.int v15)) 136 I G J)))) ∧ (¬ x1 = nI 110 → (x1 = nI 111 → Ev d mX3_isWithin 136 0 [some (.ref 2), some (.int (1 : Int32)), some (.int (6 : Int32))] [] 136 I G J (fun r n I17 G17 J17 => ∃ v17 : Int32, r = some (.int v17) ∧ n = 136 ∧ I = I17 ∧ G = G17 ∧ J = J17 ∧ (narrow .boolean (.int v17) = .int v17 ∧ (Φ (some (.int v17)) 136 I G J)))) ∧ (¬ x1 = nI 111 → Ev d mX3_isWithin 136 0 [some (.ref 2), some (.int (0 : Int32)), some (.int (127 : Int32))] [] 136 I G J (fun r n I19 G19 J19 => ∃ v19 : Int32, r = some (.int v19) ∧ n = 136 ∧ I = I19 ∧ G = G19 ∧ J = J19 ∧ (narrow .boolean (.int v19) = .int v19 ∧ (Φ (some (.int v19)) 136 I G J)))))))))))) : Ev (d + 1) mX3_fits 136 0 [some (.ref 2), some (.int x1), some (.int x2), some (.ref a)] [] 136 I G J Φ := by
  refine E_iload_n 1 dX3_fits_0 rfl rfl ?_
  refine E_tsw 104 [48, 86, 63, 86, 86, 70, 86, 78] 86 dX3_fits_1 rfl rfl rfl (by decide) ?_
  refine ⟨fun h21 => ?_, fun h21 => ?_⟩
  · replace hy := hy.1 h21
    dsimp only
    refine E_aload_n 0 dX3_fits_48 rfl rfl ?_
    refine E_gets "DuskStones$Reader" "HILL_LEAST" 1003 dX3_fits_49 (fun K B s h => h.2.2.2.1) gs_RX3_85 ?_
    refine E_iload_n 2 dX3_fits_52 rfl rfl ?_
    have c1 := hy.1
    replace hy := hy.2
    refine E_ou 1003 (x2).toNatClampNeg dX3_fits_53 (by decide) (by decide) c1 rfl ?_
    refine E_gets "DuskStones$Reader" "HILL_MOST" 1004 dX3_fits_54 (fun K B s h => h.2.2.2.2) gs_RX3_88 ?_
    refine E_iload_n 2 dX3_fits_57 rfl rfl ?_
    have c2 := hy.1
    replace hy := hy.2
    refine E_ou 1004 (x2).toNatClampNeg dX3_fits_58 (by decide) (by decide) c2 rfl ?_
    refine E_cv (M := mX3_fits) (pc := 59) (As := [.int (I 1003 (x2).toNatClampNeg), .int (I 1004 (x2).toNatClampNeg)]) (st := []) mX3_isWithin 2 3 7 dX3_fits_59 lk_RX3_91 ⟨_, rfl, rfl⟩ sh_2 rfl (Nat.le_of_ble_eq_true rfl) ⟨rfl, rfl⟩ (Nat.le_of_ble_eq_true rfl) rfl hy ?_
    rintro r n I3 G3 J3 ⟨v3, rfl, rfl, rfl, rfl, rfl, hy⟩
    show Ev (d + 1) mX3_fits 136 62 [some (.ref 2), some (.int x1), some (.int x2), some (.ref a)] [.int v3] 136 I G J Φ
    have c4 := hy.1
    replace hy := hy.2
    exact E_rz dX3_fits_62 rfl c4 ⟨rfl, rfl⟩ hy
  replace hy := hy.2 h21
  refine ⟨fun h22 => ?_, fun h22 => ?_⟩
  · replace hy := hy.1 h22
    dsimp only
    refine E_aload_n 0 dX3_fits_86 rfl rfl ?_
    refine E_iconst (0 : Int32) dX3_fits_87 rfl ?_
    refine E_bipush (127 : Int32) dX3_fits_88 rfl ?_
    refine E_cv (M := mX3_fits) (pc := 90) (As := [.int (0 : Int32), .int (127 : Int32)]) (st := []) mX3_isWithin 2 3 7 dX3_fits_90 lk_RX3_91 ⟨_, rfl, rfl⟩ sh_2 rfl (Nat.le_of_ble_eq_true rfl) ⟨rfl, rfl⟩ (Nat.le_of_ble_eq_true rfl) rfl hy ?_
    rintro r n I5 G5 J5 ⟨v5, rfl, rfl, rfl, rfl, rfl, hy⟩
    show Ev (d + 1) mX3_fits 136 93 [some (.ref 2), some (.int x1), some (.int x2), some (.ref a)] [.int v5] 136 I G J Φ
    have c6 := hy.1
    replace hy := hy.2
    exact E_rz dX3_fits_93 rfl c6 ⟨rfl, rfl⟩ hy
  replace hy := hy.2 h22
  refine ⟨fun h23 => ?_, fun h23 => ?_⟩
  · replace hy := hy.1 h23
    dsimp only
    refine E_aload_n 0 dX3_fits_63 rfl rfl ?_
    refine E_iload_n 2 dX3_fits_64 rfl rfl ?_
    refine E_aload_n 3 dX3_fits_65 rfl rfl ?_
    refine E_cv (M := mX3_fits) (pc := 66) (As := [.int x2, .ref a]) (st := []) mX3_fitsJoin 2 3 7 dX3_fits_66 lk_RX3_95 ⟨_, rfl, rfl⟩ sh_2 rfl (Nat.le_of_ble_eq_true rfl) ⟨rfl, rfl⟩ (Nat.le_of_ble_eq_true rfl) rfl hy ?_
    rintro r n I7 G7 J7 ⟨v7, rfl, rfl, rfl, rfl, rfl, hy⟩
    show Ev (d + 1) mX3_fits 136 69 [some (.ref 2), some (.int x1), some (.int x2), some (.ref a)] [.int v7] 136 I G J Φ
    have c8 := hy.1
    replace hy := hy.2
    exact E_rz dX3_fits_69 rfl c8 ⟨rfl, rfl⟩ hy
  replace hy := hy.2 h23
  refine ⟨fun h24 => ?_, fun h24 => ?_⟩
  · replace hy := hy.1 h24
    dsimp only
    refine E_aload_n 0 dX3_fits_86 rfl rfl ?_
    refine E_iconst (0 : Int32) dX3_fits_87 rfl ?_
    refine E_bipush (127 : Int32) dX3_fits_88 rfl ?_
    refine E_cv (M := mX3_fits) (pc := 90) (As := [.int (0 : Int32), .int (127 : Int32)]) (st := []) mX3_isWithin 2 3 7 dX3_fits_90 lk_RX3_91 ⟨_, rfl, rfl⟩ sh_2 rfl (Nat.le_of_ble_eq_true rfl) ⟨rfl, rfl⟩ (Nat.le_of_ble_eq_true rfl) rfl hy ?_
    rintro r n I9 G9 J9 ⟨v9, rfl, rfl, rfl, rfl, rfl, hy⟩
    show Ev (d + 1) mX3_fits 136 93 [some (.ref 2), some (.int x1), some (.int x2), some (.ref a)] [.int v9] 136 I G J Φ
    have c10 := hy.1
    replace hy := hy.2
    exact E_rz dX3_fits_93 rfl c10 ⟨rfl, rfl⟩ hy
  replace hy := hy.2 h24
  refine ⟨fun h25 => ?_, fun h25 => ?_⟩
  · replace hy := hy.1 h25
    dsimp only
    refine E_aload_n 0 dX3_fits_86 rfl rfl ?_
    refine E_iconst (0 : Int32) dX3_fits_87 rfl ?_
    refine E_bipush (127 : Int32) dX3_fits_88 rfl ?_
    refine E_cv (M := mX3_fits) (pc := 90) (As := [.int (0 : Int32), .int (127 : Int32)]) (st := []) mX3_isWithin 2 3 7 dX3_fits_90 lk_RX3_91 ⟨_, rfl, rfl⟩ sh_2 rfl (Nat.le_of_ble_eq_true rfl) ⟨rfl, rfl⟩ (Nat.le_of_ble_eq_true rfl) rfl hy ?_
    rintro r n I11 G11 J11 ⟨v11, rfl, rfl, rfl, rfl, rfl, hy⟩
    show Ev (d + 1) mX3_fits 136 93 [some (.ref 2), some (.int x1), some (.int x2), some (.ref a)] [.int v11] 136 I G J Φ
    have c12 := hy.1
    replace hy := hy.2
    exact E_rz dX3_fits_93 rfl c12 ⟨rfl, rfl⟩ hy
  replace hy := hy.2 h25
  refine ⟨fun h26 => ?_, fun h26 => ?_⟩
  · replace hy := hy.1 h26
    dsimp only
    refine E_aload_n 0 dX3_fits_70 rfl rfl ?_
    refine E_iconst (1 : Int32) dX3_fits_71 rfl ?_
    refine E_bipush (9 : Int32) dX3_fits_72 rfl ?_
    refine E_cv (M := mX3_fits) (pc := 74) (As := [.int (1 : Int32), .int (9 : Int32)]) (st := []) mX3_isWithin 2 3 7 dX3_fits_74 lk_RX3_91 ⟨_, rfl, rfl⟩ sh_2 rfl (Nat.le_of_ble_eq_true rfl) ⟨rfl, rfl⟩ (Nat.le_of_ble_eq_true rfl) rfl hy ?_
    rintro r n I13 G13 J13 ⟨v13, rfl, rfl, rfl, rfl, rfl, hy⟩
    show Ev (d + 1) mX3_fits 136 77 [some (.ref 2), some (.int x1), some (.int x2), some (.ref a)] [.int v13] 136 I G J Φ
    have c14 := hy.1
    replace hy := hy.2
    exact E_rz dX3_fits_77 rfl c14 ⟨rfl, rfl⟩ hy
  replace hy := hy.2 h26
  refine ⟨fun h27 => ?_, fun h27 => ?_⟩
  · replace hy := hy.1 h27
    dsimp only
    refine E_aload_n 0 dX3_fits_86 rfl rfl ?_
    refine E_iconst (0 : Int32) dX3_fits_87 rfl ?_
    refine E_bipush (127 : Int32) dX3_fits_88 rfl ?_
    refine E_cv (M := mX3_fits) (pc := 90) (As := [.int (0 : Int32), .int (127 : Int32)]) (st := []) mX3_isWithin 2 3 7 dX3_fits_90 lk_RX3_91 ⟨_, rfl, rfl⟩ sh_2 rfl (Nat.le_of_ble_eq_true rfl) ⟨rfl, rfl⟩ (Nat.le_of_ble_eq_true rfl) rfl hy ?_
    rintro r n I15 G15 J15 ⟨v15, rfl, rfl, rfl, rfl, rfl, hy⟩
    show Ev (d + 1) mX3_fits 136 93 [some (.ref 2), some (.int x1), some (.int x2), some (.ref a)] [.int v15] 136 I G J Φ
    have c16 := hy.1
    replace hy := hy.2
    exact E_rz dX3_fits_93 rfl c16 ⟨rfl, rfl⟩ hy
  replace hy := hy.2 h27
  refine ⟨fun h28 => ?_, fun h28 => ?_⟩
  · replace hy := hy.1 h28
    dsimp only
    refine E_aload_n 0 dX3_fits_78 rfl rfl ?_
    refine E_iconst (1 : Int32) dX3_fits_79 rfl ?_
    refine E_bipush (6 : Int32) dX3_fits_80 rfl ?_
    refine E_cv (M := mX3_fits) (pc := 82) (As := [.int (1 : Int32), .int (6 : Int32)]) (st := []) mX3_isWithin 2 3 7 dX3_fits_82 lk_RX3_91 ⟨_, rfl, rfl⟩ sh_2 rfl (Nat.le_of_ble_eq_true rfl) ⟨rfl, rfl⟩ (Nat.le_of_ble_eq_true rfl) rfl hy ?_
    rintro r n I17 G17 J17 ⟨v17, rfl, rfl, rfl, rfl, rfl, hy⟩
    show Ev (d + 1) mX3_fits 136 85 [some (.ref 2), some (.int x1), some (.int x2), some (.ref a)] [.int v17] 136 I G J Φ
    have c18 := hy.1
    replace hy := hy.2
    exact E_rz dX3_fits_85 rfl c18 ⟨rfl, rfl⟩ hy
  replace hy := hy.2 h28
  show Ev (d + 1) mX3_fits 136 86 [some (.ref 2), some (.int x1), some (.int x2), some (.ref a)] [] 136 I G J Φ
  refine E_aload_n 0 dX3_fits_86 rfl rfl ?_
  refine E_iconst (0 : Int32) dX3_fits_87 rfl ?_
  refine E_bipush (127 : Int32) dX3_fits_88 rfl ?_
  refine E_cv (M := mX3_fits) (pc := 90) (As := [.int (0 : Int32), .int (127 : Int32)]) (st := []) mX3_isWithin 2 3 7 dX3_fits_90 lk_RX3_91 ⟨_, rfl, rfl⟩ sh_2 rfl (Nat.le_of_ble_eq_true rfl) ⟨rfl, rfl⟩ (Nat.le_of_ble_eq_true rfl) rfl hy ?_
  rintro r n I19 G19 J19 ⟨v19, rfl, rfl, rfl, rfl, rfl, hy⟩
  show Ev (d + 1) mX3_fits 136 93 [some (.ref 2), some (.int x1), some (.int x2), some (.ref a)] [.int v19] 136 I G J Φ
  have c20 := hy.1
  replace hy := hy.2
  exact E_rz dX3_fits_93 rfl c20 ⟨rfl, rfl⟩ hy
set_option maxRecDepth 100000 in
theorem w_X3_fitsJoin {d : Nat} {I : MI} {G : MG} {J : MJ} {Φ : Ph} (hG : WG G) (x1 : Int32) {a : Nat} (ha : isL a) (hy : (x1 = (0 : Int32) → Ev d mX1_hasHill 136 0 [some (.ref a), some (.int (I 2 6))] [] 136 I G J (fun r n I1 G1 J1 => ∃ v1 : Int32, r = some (.int v1) ∧ n = 136 ∧ I = I1 ∧ G = G1 ∧ J = J1 ∧ (narrow .boolean (.int v1) = .int v1 ∧ (Φ (some (.int v1)) 136 I G J)))) ∧ (¬ x1 = (0 : Int32) → (x1 = (1 : Int32) → Ev d mX1_hasHill 136 0 [some (.ref a), some (.int (I 2 6))] [] 136 I G J (fun r n I3 G3 J3 => ∃ v3 : Int32, r = some (.int v3) ∧ n = 136 ∧ I = I3 ∧ G = G3 ∧ J = J3 ∧ ((v3 = 0 → Φ (some (.int (0 : Int32))) 136 I G J) ∧ (¬ v3 = 0 → ((I 2 6) = (I 3 0) → Φ (some (.int (0 : Int32))) 136 I G J) ∧ (¬ (I 2 6) = (I 3 0) → Φ (some (.int (1 : Int32))) 136 I G J))))) ∧ (¬ x1 = (1 : Int32) → Ev d mX3_isWithin 136 0 [some (.ref 2), some (.int (1 : Int32)), some (.int (9 : Int32))] [] 136 I G J (fun r n I6 G6 J6 => ∃ v6 : Int32, r = some (.int v6) ∧ n = 136 ∧ I = I6 ∧ G = G6 ∧ J = J6 ∧ (narrow .boolean (.int v6) = .int v6 ∧ (Φ (some (.int v6)) 136 I G J)))))) : Ev (d + 1) mX3_fitsJoin 136 0 [some (.ref 2), some (.int x1), some (.ref a)] [] 136 I G J Φ := by
  refine E_iload_n 1 dX3_fitsJoin_0 rfl rfl ?_
  refine E_lsw [((0 : Int32), 28), ((1 : Int32), 37)] 67 dX3_fitsJoin_1 rfl rfl rfl ?_
  refine ⟨fun h8 => ?_, fun h8 => ?_⟩
  · replace hy := hy.1 h8
    dsimp only
    refine E_aload_n 2 dX3_fitsJoin_28 rfl rfl ?_
    refine E_aload_n 0 dX3_fitsJoin_29 rfl rfl ?_
    refine E_geti 3 6 2 7 dX3_fitsJoin_30 fl_RX3_62 rfl sh_2 ?_
    refine E_cv (M := mX3_fitsJoin) (pc := 33) (As := [.int (I 2 6)]) (st := []) mX1_hasHill 1 1 15 dX3_fitsJoin_33 lk_RX3_98 ⟨_, rfl, rfl⟩ (sL0 ha) rfl (Nat.le_of_ble_eq_true rfl) ⟨rfl, rfl⟩ (Nat.le_of_ble_eq_true rfl) rfl hy ?_
    rintro r n I1 G1 J1 ⟨v1, rfl, rfl, rfl, rfl, rfl, hy⟩
    show Ev (d + 1) mX3_fitsJoin 136 36 [some (.ref 2), some (.int x1), some (.ref a)] [.int v1] 136 I G J Φ
    have c2 := hy.1
    replace hy := hy.2
    exact E_rz dX3_fitsJoin_36 rfl c2 ⟨rfl, rfl⟩ hy
  replace hy := hy.2 h8
  refine ⟨fun h9 => ?_, fun h9 => ?_⟩
  · replace hy := hy.1 h9
    dsimp only
    refine E_aload_n 2 dX3_fitsJoin_37 rfl rfl ?_
    refine E_aload_n 0 dX3_fitsJoin_38 rfl rfl ?_
    refine E_geti 3 6 2 7 dX3_fitsJoin_39 fl_RX3_62 rfl sh_2 ?_
    refine E_cv (M := mX3_fitsJoin) (pc := 42) (As := [.int (I 2 6)]) (st := []) mX1_hasHill 1 1 15 dX3_fitsJoin_42 lk_RX3_98 ⟨_, rfl, rfl⟩ (sL0 ha) rfl (Nat.le_of_ble_eq_true rfl) ⟨rfl, rfl⟩ (Nat.le_of_ble_eq_true rfl) rfl hy ?_
    rintro r n I3 G3 J3 ⟨v3, rfl, rfl, rfl, rfl, rfl, hy⟩
    show Ev (d + 1) mX3_fitsJoin 136 45 [some (.ref 2), some (.int x1), some (.ref a)] [.int v3] 136 I G J Φ
    refine E_if_eq 65 dX3_fitsJoin_45 rfl (fun h4 => ?_) (fun h4 => ?_)
    · replace hy := hy.1 h4
      refine E_iconst (0 : Int32) dX3_fitsJoin_65 rfl ?_
      exact E_rz dX3_fitsJoin_66 rfl rfl ⟨rfl, rfl⟩ hy
    · replace hy := hy.2 h4
      refine E_aload_n 0 dX3_fitsJoin_48 rfl rfl ?_
      refine E_geti 3 6 2 7 dX3_fitsJoin_49 fl_RX3_62 rfl sh_2 ?_
      refine E_aload_n 0 dX3_fitsJoin_52 rfl rfl ?_
      refine E_getr 3 1 2 7 3 dX3_fitsJoin_53 fl_RX3_11 rfl sh_2 (wg_2_1 hG) ?_
      refine E_iconst (0 : Int32) dX3_fitsJoin_56 rfl ?_
      refine E_ia 3 4 0 dX3_fitsJoin_57 sh_3 (vpd (by decide)) rfl ?_
      refine E_icmp_eq 65 dX3_fitsJoin_58 rfl (fun h5 => ?_) (fun h5 => ?_)
      · replace hy := hy.1 h5
        refine E_iconst (0 : Int32) dX3_fitsJoin_65 rfl ?_
        exact E_rz dX3_fitsJoin_66 rfl rfl ⟨rfl, rfl⟩ hy
      · replace hy := hy.2 h5
        refine E_iconst (1 : Int32) dX3_fitsJoin_61 rfl ?_
        refine E_goto 66 dX3_fitsJoin_62 rfl ?_
        exact E_rz dX3_fitsJoin_66 rfl rfl ⟨rfl, rfl⟩ hy
  replace hy := hy.2 h9
  show Ev (d + 1) mX3_fitsJoin 136 67 [some (.ref 2), some (.int x1), some (.ref a)] [] 136 I G J Φ
  refine E_aload_n 0 dX3_fitsJoin_67 rfl rfl ?_
  refine E_iconst (1 : Int32) dX3_fitsJoin_68 rfl ?_
  refine E_bipush (9 : Int32) dX3_fitsJoin_69 rfl ?_
  refine E_cv (M := mX3_fitsJoin) (pc := 71) (As := [.int (1 : Int32), .int (9 : Int32)]) (st := []) mX3_isWithin 2 3 7 dX3_fitsJoin_71 lk_RX3_91 ⟨_, rfl, rfl⟩ sh_2 rfl (Nat.le_of_ble_eq_true rfl) ⟨rfl, rfl⟩ (Nat.le_of_ble_eq_true rfl) rfl hy ?_
  rintro r n I6 G6 J6 ⟨v6, rfl, rfl, rfl, rfl, rfl, hy⟩
  show Ev (d + 1) mX3_fitsJoin 136 74 [some (.ref 2), some (.int x1), some (.ref a)] [.int v6] 136 I G J Φ
  have c7 := hy.1
  replace hy := hy.2
  exact E_rz dX3_fitsJoin_74 rfl c7 ⟨rfl, rfl⟩ hy
set_option maxRecDepth 100000 in
theorem w_X3_isDigit {d : Nat} {I : MI} {G : MG} {J : MJ} {Φ : Ph} (hG : WG G) (x0 : Int32) (hy : (x0 < (48 : Int32) → Φ (some (.int (0 : Int32))) 136 I G J) ∧ (¬ x0 < (48 : Int32) → ((57 : Int32) < x0 → Φ (some (.int (0 : Int32))) 136 I G J) ∧ (¬ (57 : Int32) < x0 → Φ (some (.int (1 : Int32))) 136 I G J))) : Ev d mX3_isDigit 136 0 [some (.int x0)] [] 136 I G J Φ := by
  refine E_iload_n 0 dX3_isDigit_0 rfl rfl ?_
  refine E_bipush (48 : Int32) dX3_isDigit_1 rfl ?_
  refine E_icmp_lt 16 dX3_isDigit_3 rfl (fun h1 => ?_) (fun h1 => ?_)
  · replace hy := hy.1 h1
    refine E_iconst (0 : Int32) dX3_isDigit_16 rfl ?_
    exact E_rz dX3_isDigit_17 rfl rfl ⟨rfl, rfl⟩ hy
  · replace hy := hy.2 h1
    refine E_iload_n 0 dX3_isDigit_6 rfl rfl ?_
    refine E_bipush (57 : Int32) dX3_isDigit_7 rfl ?_
    refine E_icmp_gt 16 dX3_isDigit_9 rfl (fun h2 => ?_) (fun h2 => ?_)
    · replace hy := hy.1 h2
      refine E_iconst (0 : Int32) dX3_isDigit_16 rfl ?_
      exact E_rz dX3_isDigit_17 rfl rfl ⟨rfl, rfl⟩ hy
    · replace hy := hy.2 h2
      refine E_iconst (1 : Int32) dX3_isDigit_12 rfl ?_
      refine E_goto 17 dX3_isDigit_13 rfl ?_
      exact E_rz dX3_isDigit_17 rfl rfl ⟨rfl, rfl⟩ hy
set_option maxRecDepth 100000 in
theorem w_X3_isSign {d : Nat} {I : MI} {G : MG} {J : MJ} {Φ : Ph} (hG : WG G) (x0 : Int32) (hy : (x0 = (104 : Int32) → Φ (some (.int (1 : Int32))) 136 I G J) ∧ (¬ x0 = (104 : Int32) → (x0 = (106 : Int32) → Φ (some (.int (1 : Int32))) 136 I G J) ∧ (¬ x0 = (106 : Int32) → (x0 = (109 : Int32) → Φ (some (.int (1 : Int32))) 136 I G J) ∧ (¬ x0 = (109 : Int32) → (x0 = (111 : Int32) → Φ (some (.int (1 : Int32))) 136 I G J) ∧ (¬ x0 = (111 : Int32) → (x0 = (114 : Int32) → Φ (some (.int (1 : Int32))) 136 I G J) ∧ (¬ x0 = (114 : Int32) → (¬ x0 = (59 : Int32) → Φ (some (.int (0 : Int32))) 136 I G J) ∧ (x0 = (59 : Int32) → Φ (some (.int (1 : Int32))) 136 I G J))))))) : Ev d mX3_isSign 136 0 [some (.int x0)] [] 136 I G J Φ := by
  refine E_iload_n 0 dX3_isSign_0 rfl rfl ?_
  refine E_bipush (104 : Int32) dX3_isSign_1 rfl ?_
  refine E_icmp_eq 36 dX3_isSign_3 rfl (fun h1 => ?_) (fun h1 => ?_)
  · replace hy := hy.1 h1
    refine E_iconst (1 : Int32) dX3_isSign_36 rfl ?_
    refine E_goto 41 dX3_isSign_37 rfl ?_
    exact E_rz dX3_isSign_41 rfl rfl ⟨rfl, rfl⟩ hy
  · replace hy := hy.2 h1
    refine E_iload_n 0 dX3_isSign_6 rfl rfl ?_
    refine E_bipush (106 : Int32) dX3_isSign_7 rfl ?_
    refine E_icmp_eq 36 dX3_isSign_9 rfl (fun h2 => ?_) (fun h2 => ?_)
    · replace hy := hy.1 h2
      refine E_iconst (1 : Int32) dX3_isSign_36 rfl ?_
      refine E_goto 41 dX3_isSign_37 rfl ?_
      exact E_rz dX3_isSign_41 rfl rfl ⟨rfl, rfl⟩ hy
    · replace hy := hy.2 h2
      refine E_iload_n 0 dX3_isSign_12 rfl rfl ?_
      refine E_bipush (109 : Int32) dX3_isSign_13 rfl ?_
      refine E_icmp_eq 36 dX3_isSign_15 rfl (fun h3 => ?_) (fun h3 => ?_)
      · replace hy := hy.1 h3
        refine E_iconst (1 : Int32) dX3_isSign_36 rfl ?_
        refine E_goto 41 dX3_isSign_37 rfl ?_
        exact E_rz dX3_isSign_41 rfl rfl ⟨rfl, rfl⟩ hy
      · replace hy := hy.2 h3
        refine E_iload_n 0 dX3_isSign_18 rfl rfl ?_
        refine E_bipush (111 : Int32) dX3_isSign_19 rfl ?_
        refine E_icmp_eq 36 dX3_isSign_21 rfl (fun h4 => ?_) (fun h4 => ?_)
        · replace hy := hy.1 h4
          refine E_iconst (1 : Int32) dX3_isSign_36 rfl ?_
          refine E_goto 41 dX3_isSign_37 rfl ?_
          exact E_rz dX3_isSign_41 rfl rfl ⟨rfl, rfl⟩ hy
        · replace hy := hy.2 h4
          refine E_iload_n 0 dX3_isSign_24 rfl rfl ?_
          refine E_bipush (114 : Int32) dX3_isSign_25 rfl ?_
          refine E_icmp_eq 36 dX3_isSign_27 rfl (fun h5 => ?_) (fun h5 => ?_)
          · replace hy := hy.1 h5
            refine E_iconst (1 : Int32) dX3_isSign_36 rfl ?_
            refine E_goto 41 dX3_isSign_37 rfl ?_
            exact E_rz dX3_isSign_41 rfl rfl ⟨rfl, rfl⟩ hy
          · replace hy := hy.2 h5
            refine E_iload_n 0 dX3_isSign_30 rfl rfl ?_
            refine E_bipush (59 : Int32) dX3_isSign_31 rfl ?_
            refine E_icmp_ne 40 dX3_isSign_33 rfl (fun h6 => ?_) (fun h6 => ?_)
            · replace hy := hy.1 h6
              refine E_iconst (0 : Int32) dX3_isSign_40 rfl ?_
              exact E_rz dX3_isSign_41 rfl rfl ⟨rfl, rfl⟩ hy
            · replace hy := hy.2 (Decidable.not_not.mp h6)
              refine E_iconst (1 : Int32) dX3_isSign_36 rfl ?_
              refine E_goto 41 dX3_isSign_37 rfl ?_
              exact E_rz dX3_isSign_41 rfl rfl ⟨rfl, rfl⟩ hy
set_option maxRecDepth 100000 in
theorem w_X3_isWithin {d : Nat} {I : MI} {G : MG} {J : MJ} {Φ : Ph} (hG : WG G) (x1 : Int32) (x2 : Int32) (hy : ((I 2 6) < x1 → Φ (some (.int (0 : Int32))) 136 I G J) ∧ (¬ (I 2 6) < x1 → (x2 < (I 2 6) → Φ (some (.int (0 : Int32))) 136 I G J) ∧ (¬ x2 < (I 2 6) → Φ (some (.int (1 : Int32))) 136 I G J))) : Ev d mX3_isWithin 136 0 [some (.ref 2), some (.int x1), some (.int x2)] [] 136 I G J Φ := by
  refine E_aload_n 0 dX3_isWithin_0 rfl rfl ?_
  refine E_geti 3 6 2 7 dX3_isWithin_1 fl_RX3_62 rfl sh_2 ?_
  refine E_iload_n 1 dX3_isWithin_4 rfl rfl ?_
  refine E_icmp_lt 20 dX3_isWithin_5 rfl (fun h1 => ?_) (fun h1 => ?_)
  · replace hy := hy.1 h1
    refine E_iconst (0 : Int32) dX3_isWithin_20 rfl ?_
    exact E_rz dX3_isWithin_21 rfl rfl ⟨rfl, rfl⟩ hy
  · replace hy := hy.2 h1
    refine E_aload_n 0 dX3_isWithin_8 rfl rfl ?_
    refine E_geti 3 6 2 7 dX3_isWithin_9 fl_RX3_62 rfl sh_2 ?_
    refine E_iload_n 2 dX3_isWithin_12 rfl rfl ?_
    refine E_icmp_gt 20 dX3_isWithin_13 rfl (fun h2 => ?_) (fun h2 => ?_)
    · replace hy := hy.1 h2
      refine E_iconst (0 : Int32) dX3_isWithin_20 rfl ?_
      exact E_rz dX3_isWithin_21 rfl rfl ⟨rfl, rfl⟩ hy
    · replace hy := hy.2 h2
      refine E_iconst (1 : Int32) dX3_isWithin_16 rfl ?_
      refine E_goto 21 dX3_isWithin_17 rfl ?_
      exact E_rz dX3_isWithin_21 rfl rfl ⟨rfl, rfl⟩ hy
set_option maxRecDepth 100000 in
theorem w_X3_numbersOf {d : Nat} {I : MI} {G : MG} {J : MJ} {Φ : Ph} (hG : WG G) (x0 : Int32) (hy : (x0 = (104 : Int32) → Φ (some (.int (4 : Int32))) 136 I G J) ∧ (¬ x0 = (104 : Int32) → (x0 = (106 : Int32) → Φ (some (.int (3 : Int32))) 136 I G J) ∧ (¬ x0 = (106 : Int32) → Φ (some (.int (1 : Int32))) 136 I G J))) : Ev d mX3_numbersOf 136 0 [some (.int x0)] [] 136 I G J Φ := by
  refine E_iload_n 0 dX3_numbersOf_0 rfl rfl ?_
  refine E_lsw [((104 : Int32), 28), ((106 : Int32), 30)] 32 dX3_numbersOf_1 rfl rfl rfl ?_
  refine ⟨fun h1 => ?_, fun h1 => ?_⟩
  · replace hy := hy.1 h1
    dsimp only
    refine E_iconst (4 : Int32) dX3_numbersOf_28 rfl ?_
    exact E_ri dX3_numbersOf_29 rfl ⟨rfl, rfl⟩ hy
  replace hy := hy.2 h1
  refine ⟨fun h2 => ?_, fun h2 => ?_⟩
  · replace hy := hy.1 h2
    dsimp only
    refine E_iconst (3 : Int32) dX3_numbersOf_30 rfl ?_
    exact E_ri dX3_numbersOf_31 rfl ⟨rfl, rfl⟩ hy
  replace hy := hy.2 h2
  show Ev d mX3_numbersOf 136 32 [some (.int x0)] [] 136 I G J Φ
  refine E_iconst (1 : Int32) dX3_numbersOf_32 rfl ?_
  exact E_ri dX3_numbersOf_33 rfl ⟨rfl, rfl⟩ hy
set_option maxRecDepth 100000 in
theorem w_X3_readAll {d : Nat} {I : MI} {G : MG} {J : MJ} {Φ : Ph} (hG : WG G) (x1 : Int32) {a : Nat} (ha : isL a) (hy : Ev d mX1_empty 136 0 [some (.ref a)] [] 136 (u2 (u2 I 2 2 (if (200 : Int32) < x1 then (200 : Int32) else x1)) 2 3 (0 : Int32)) G J (fun r n I1 G1 J1 => r = none ∧ n = 136 ∧ G = G1 ∧ J = J1 ∧ (Ev (d + 1) mX3_readAll 136 24 [some (.ref 2), some (.int x1), some (.ref a), some (.int (0 : Int32))] [] 136 I1 G J Φ))) : Ev (d + 1) mX3_readAll 136 0 [some (.ref 2), some (.int x1), some (.ref a), none] [] 136 I G J Φ := by
  refine E_aload_n 0 dX3_readAll_0 rfl rfl ?_
  refine E_iload_n 1 dX3_readAll_1 rfl rfl ?_
  refine E_aload_n 0 dX3_readAll_2 rfl rfl ?_
  refine E_getr 3 0 2 7 1 dX3_readAll_3 fl_RX3_15 rfl sh_2 (wg_2_0 hG) ?_
  refine E_alenc 1 200 (200 : Int32) dX3_readAll_6 sh_1 rfl ?_
  refine E_min dX3_readAll_7 lk_RX3_19 (Nat.le_of_ble_eq_true rfl) ?_
  refine E_puti 3 2 2 7 dX3_readAll_10 fl_RX3_25 rfl sh_2 ⟨_, rfl, rfl⟩ rfl rfl ?_
  refine E_aload_n 0 dX3_readAll_13 rfl rfl ?_
  refine E_iconst (0 : Int32) dX3_readAll_14 rfl ?_
  refine E_puti 3 3 2 7 dX3_readAll_15 fl_RX3_29 rfl sh_2 ⟨_, rfl, rfl⟩ rfl rfl ?_
  refine E_aload_n 2 dX3_readAll_18 rfl rfl ?_
  refine E_cv (M := mX3_readAll) (pc := 19) (As := []) (st := []) mX1_empty 0 1 15 dX3_readAll_19 lk_RX3_32 ⟨_, rfl, rfl⟩ (sL0 ha) rfl (Nat.le_of_ble_eq_true rfl) ⟨rfl, rfl⟩ (Nat.le_of_ble_eq_true rfl) rfl hy ?_
  rintro r n I1 G1 J1 ⟨rfl, rfl, rfl, rfl, hy⟩
  show Ev (d + 1) mX3_readAll 136 22 [some (.ref 2), some (.int x1), some (.ref a), none] [] 136 I1 G J Φ
  refine E_iconst (0 : Int32) dX3_readAll_22 rfl ?_
  refine E_istore_n 3 dX3_readAll_23 rfl (Nat.le_of_ble_eq_true rfl) (?_ : Ev (d + 1) mX3_readAll 136 24 [some (.ref 2), some (.int x1), some (.ref a), some (.int (0 : Int32))] [] 136 I1 G J Φ)
  exact hy
set_option maxRecDepth 100000 in
theorem w_X3_readAll_24 {d : Nat} {I : MI} {G : MG} {J : MJ} {Φ : Ph} (hG : WG G)  {a : Nat} (ha : isL a) (x1 : Int32) (x3 : Int32) (hy : ((200 : Int32) < x3 → Φ (some (.int ((-10 : Int32) - (I 2 4)))) 136 I G J) ∧ (¬ (200 : Int32) < x3 → Ev d mX3_take 136 0 [some (.ref 2)] [] 136 I G J (fun r n I2 G2 J2 => r = none ∧ n = 136 ∧ G = G2 ∧ J = J2 ∧ ((¬ (I2 2 5) = 0 → Ev d mX3_readItem 136 0 [some (.ref 2), some (.ref a), none, none, none] [] 136 I2 G J (fun r n I4 G4 J4 => ∃ v4 : Int32, r = some (.int v4) ∧ n = 136 ∧ G = G4 ∧ J = J4 ∧ ((¬ v4 = 0 → Ev (d + 1) mX3_readAll 136 24 [some (.ref 2), some (.int x1), some (.ref a), some (.int (x3 + (1 : Int32)))] [] 136 I4 G J Φ) ∧ (v4 = 0 → Φ (some (.int ((-10 : Int32) - (I4 2 4)))) 136 I4 G J)))) ∧ ((I2 2 5) = 0 → Φ (some (.int x3)) 136 I2 G J))))) : Ev (d + 1) mX3_readAll 136 24 [some (.ref 2), some (.int x1), some (.ref a), some (.int x3)] [] 136 I G J Φ := by
  refine E_iload_n 3 dX3_readAll_24 rfl rfl ?_
  refine E_sipush (200 : Int32) dX3_readAll_25 rfl ?_
  refine E_icmp_gt 61 dX3_readAll_28 rfl (fun h1 => ?_) (fun h1 => ?_)
  · replace hy := hy.1 h1
    refine E_bipush (-10 : Int32) dX3_readAll_61 rfl ?_
    refine E_aload_n 0 dX3_readAll_63 rfl rfl ?_
    refine E_geti 3 4 2 7 dX3_readAll_64 fl_RX3_47 rfl sh_2 ?_
    refine E_isub dX3_readAll_67 ?_
    exact E_ri dX3_readAll_68 rfl ⟨rfl, rfl⟩ hy
  · replace hy := hy.2 h1
    refine E_aload_n 0 dX3_readAll_31 rfl rfl ?_
    refine E_cv (M := mX3_readAll) (pc := 32) (As := []) (st := []) mX3_take 0 3 7 dX3_readAll_32 lk_RX3_37 ⟨_, rfl, rfl⟩ sh_2 rfl (Nat.le_of_ble_eq_true rfl) ⟨rfl, rfl⟩ (Nat.le_of_ble_eq_true rfl) rfl hy ?_
    rintro r n I2 G2 J2 ⟨rfl, rfl, rfl, rfl, hy⟩
    show Ev (d + 1) mX3_readAll 136 35 [some (.ref 2), some (.int x1), some (.ref a), some (.int x3)] [] 136 I2 G J Φ
    refine E_aload_n 0 dX3_readAll_35 rfl rfl ?_
    refine E_geti 3 5 2 7 dX3_readAll_36 fl_RX3_40 rfl sh_2 ?_
    refine E_if_ne 44 dX3_readAll_39 rfl (fun h3 => ?_) (fun h3 => ?_)
    · replace hy := hy.1 h3
      refine E_aload_n 0 dX3_readAll_44 rfl rfl ?_
      refine E_aload_n 2 dX3_readAll_45 rfl rfl ?_
      refine E_cv (M := mX3_readAll) (pc := 46) (As := [.ref a]) (st := []) mX3_readItem 1 3 7 dX3_readAll_46 lk_RX3_43 ⟨_, rfl, rfl⟩ sh_2 rfl (Nat.le_of_ble_eq_true rfl) ⟨rfl, rfl⟩ (Nat.le_of_ble_eq_true rfl) rfl hy ?_
      rintro r n I4 G4 J4 ⟨v4, rfl, rfl, rfl, rfl, hy⟩
      show Ev (d + 1) mX3_readAll 136 49 [some (.ref 2), some (.int x1), some (.ref a), some (.int x3)] [.int v4] 136 I4 G J Φ
      refine E_if_ne 55 dX3_readAll_49 rfl (fun h5 => ?_) (fun h5 => ?_)
      · replace hy := hy.1 h5
        refine E_iinc (x3 + (1 : Int32)) dX3_readAll_55 rfl rfl (Nat.le_of_ble_eq_true rfl) (?_ : Ev (d + 1) mX3_readAll 136 58 [some (.ref 2), some (.int x1), some (.ref a), some (.int (x3 + (1 : Int32)))] [] 136 I4 G J Φ)
        refine E_goto 24 dX3_readAll_58 rfl ?_
        exact hy
      · replace hy := hy.2 (Decidable.not_not.mp h5)
        refine E_goto 61 dX3_readAll_52 rfl ?_
        refine E_bipush (-10 : Int32) dX3_readAll_61 rfl ?_
        refine E_aload_n 0 dX3_readAll_63 rfl rfl ?_
        refine E_geti 3 4 2 7 dX3_readAll_64 fl_RX3_47 rfl sh_2 ?_
        refine E_isub dX3_readAll_67 ?_
        exact E_ri dX3_readAll_68 rfl ⟨rfl, rfl⟩ hy
    · replace hy := hy.2 (Decidable.not_not.mp h3)
      refine E_iload_n 3 dX3_readAll_42 rfl rfl ?_
      exact E_ri dX3_readAll_43 rfl ⟨rfl, rfl⟩ hy
set_option maxRecDepth 100000 in
theorem w_X3_readItem {d : Nat} {I : MI} {G : MG} {J : MJ} {Φ : Ph} (hG : WG G) {a : Nat} (ha : isL a) (hy : Ev d mX3_canStand 136 0 [some (.int (I 2 5)), some (.ref a)] [] 136 I G J (fun r n I1 G1 J1 => ∃ v1 : Int32, r = some (.int v1) ∧ n = 136 ∧ I = I1 ∧ G = G1 ∧ J = J1 ∧ ((¬ v1 = 0 → Ev d mX3_numbersOf 136 0 [some (.int (I 2 5))] [] 136 I G J (fun r n I3 G3 J3 => ∃ v3 : Int32, r = some (.int v3) ∧ n = 136 ∧ I = I3 ∧ G = G3 ∧ J = J3 ∧ (Ev (d + 1) mX3_readItem 136 23 [some (.ref 2), some (.ref a), some (.int (I 2 5)), some (.int v3), some (.int (0 : Int32))] [] 136 I G J Φ))) ∧ (v1 = 0 → Φ (some (.int (0 : Int32))) 136 I G J)))) : Ev (d + 1) mX3_readItem 136 0 [some (.ref 2), some (.ref a), none, none, none] [] 136 I G J Φ := by
  refine E_aload_n 0 dX3_readItem_0 rfl rfl ?_
  refine E_geti 3 5 2 7 dX3_readItem_1 fl_RX3_40 rfl sh_2 ?_
  refine E_istore_n 2 dX3_readItem_4 rfl (Nat.le_of_ble_eq_true rfl) (?_ : Ev (d + 1) mX3_readItem 136 5 [some (.ref 2), some (.ref a), some (.int (I 2 5)), none, none] [] 136 I G J Φ)
  refine E_iload_n 2 dX3_readItem_5 rfl rfl ?_
  refine E_aload_n 1 dX3_readItem_6 rfl rfl ?_
  refine E_cs (M := mX3_readItem) (pc := 7) (As := [.int (I 2 5), .ref a]) (st := []) mX3_canStand 2 dX3_readItem_7 lk_RX3_50 rfl (Nat.le_of_ble_eq_true rfl) ⟨rfl, rfl⟩ (Nat.le_of_ble_eq_true rfl) rfl hy ?_
  rintro r n I1 G1 J1 ⟨v1, rfl, rfl, rfl, rfl, rfl, hy⟩
  show Ev (d + 1) mX3_readItem 136 10 [some (.ref 2), some (.ref a), some (.int (I 2 5)), none, none] [.int v1] 136 I G J Φ
  refine E_if_ne 15 dX3_readItem_10 rfl (fun h2 => ?_) (fun h2 => ?_)
  · replace hy := hy.1 h2
    refine E_iload_n 2 dX3_readItem_15 rfl rfl ?_
    refine E_cs (M := mX3_readItem) (pc := 16) (As := [.int (I 2 5)]) (st := []) mX3_numbersOf 1 dX3_readItem_16 lk_RX3_54 rfl (Nat.le_of_ble_eq_true rfl) ⟨rfl, rfl⟩ (Nat.le_of_ble_eq_true rfl) rfl hy ?_
    rintro r n I3 G3 J3 ⟨v3, rfl, rfl, rfl, rfl, rfl, hy⟩
    show Ev (d + 1) mX3_readItem 136 19 [some (.ref 2), some (.ref a), some (.int (I 2 5)), none, none] [.int v3] 136 I G J Φ
    refine E_istore_n 3 dX3_readItem_19 rfl (Nat.le_of_ble_eq_true rfl) (?_ : Ev (d + 1) mX3_readItem 136 20 [some (.ref 2), some (.ref a), some (.int (I 2 5)), some (.int v3), none] [] 136 I G J Φ)
    refine E_iconst (0 : Int32) dX3_readItem_20 rfl ?_
    refine E_istore dX3_readItem_21 (Nat.le_of_ble_eq_true rfl) (?_ : Ev (d + 1) mX3_readItem 136 23 [some (.ref 2), some (.ref a), some (.int (I 2 5)), some (.int v3), some (.int (0 : Int32))] [] 136 I G J Φ)
    exact hy
  · replace hy := hy.2 (Decidable.not_not.mp h2)
    refine E_iconst (0 : Int32) dX3_readItem_13 rfl ?_
    exact E_rz dX3_readItem_14 rfl rfl ⟨rfl, rfl⟩ hy
set_option maxRecDepth 100000 in
theorem w_X3_readItem_23 {d : Nat} {I : MI} {G : MG} {J : MJ} {Φ : Ph} (hG : WG G)  {a : Nat} (ha : isL a) (x2 : Int32) (x3 : Int32) (x4 : Int32) (hy : (x3 ≤ x4 → Ev d mX3_take 136 0 [some (.ref 2)] [] 136 I G J (fun r n I2 G2 J2 => r = none ∧ n = 136 ∧ G = G2 ∧ J = J2 ∧ (((I2 2 5) = (59 : Int32) → Ev d mX3_addItem 136 0 [some (.ref 2), some (.int x2), some (.ref a)] [] 136 I2 G J (fun r n I4 G4 J4 => r = none ∧ n = 136 ∧ G = G4 ∧ J = J4 ∧ (Φ (some (.int (1 : Int32))) 136 I4 G J))) ∧ (¬ (I2 2 5) = (59 : Int32) → Φ (some (.int (0 : Int32))) 136 I2 G J)))) ∧ (¬ x3 ≤ x4 → Ev d mX3_take 136 0 [some (.ref 2)] [] 136 I G J (fun r n I5 G5 J5 => r = none ∧ n = 136 ∧ G = G5 ∧ J = J5 ∧ ((¬ (I5 2 5) = (2 : Int32) → Φ (some (.int (0 : Int32))) 136 I5 G J) ∧ ((I5 2 5) = (2 : Int32) → Ev d mX3_fits 136 0 [some (.ref 2), some (.int x2), some (.int x4), some (.ref a)] [] 136 I5 G J (fun r n I7 G7 J7 => ∃ v7 : Int32, r = some (.int v7) ∧ n = 136 ∧ I5 = I7 ∧ G = G7 ∧ J = J7 ∧ ((¬ v7 = 0 → vp_in x4 4 ∧ (Ev (d + 1) mX3_readItem 136 23 [some (.ref 2), some (.ref a), some (.int x2), some (.int x3), some (.int (x4 + (1 : Int32)))] [] 136 (u2 I5 3 (x4).toNatClampNeg (I5 2 6)) G J Φ)) ∧ (v7 = 0 → Φ (some (.int (0 : Int32))) 136 I5 G J)))))))) : Ev (d + 1) mX3_readItem 136 23 [some (.ref 2), some (.ref a), some (.int x2), some (.int x3), some (.int x4)] [] 136 I G J Φ := by
  refine E_iload dX3_readItem_23 rfl ?_
  refine E_iload_n 3 dX3_readItem_25 rfl rfl ?_
  refine E_icmp_ge 71 dX3_readItem_26 rfl (fun h1 => ?_) (fun h1 => ?_)
  · replace hy := hy.1 h1
    refine E_aload_n 0 dX3_readItem_71 rfl rfl ?_
    refine E_cv (M := mX3_readItem) (pc := 72) (As := []) (st := []) mX3_take 0 3 7 dX3_readItem_72 lk_RX3_37 ⟨_, rfl, rfl⟩ sh_2 rfl (Nat.le_of_ble_eq_true rfl) ⟨rfl, rfl⟩ (Nat.le_of_ble_eq_true rfl) rfl hy ?_
    rintro r n I2 G2 J2 ⟨rfl, rfl, rfl, rfl, hy⟩
    show Ev (d + 1) mX3_readItem 136 75 [some (.ref 2), some (.ref a), some (.int x2), some (.int x3), some (.int x4)] [] 136 I2 G J Φ
    refine E_aload_n 0 dX3_readItem_75 rfl rfl ?_
    refine E_geti 3 5 2 7 dX3_readItem_76 fl_RX3_40 rfl sh_2 ?_
    refine E_bipush (59 : Int32) dX3_readItem_79 rfl ?_
    refine E_icmp_eq 86 dX3_readItem_81 rfl (fun h3 => ?_) (fun h3 => ?_)
    · replace hy := hy.1 h3
      refine E_aload_n 0 dX3_readItem_86 rfl rfl ?_
      refine E_iload_n 2 dX3_readItem_87 rfl rfl ?_
      refine E_aload_n 1 dX3_readItem_88 rfl rfl ?_
      refine E_cv (M := mX3_readItem) (pc := 89) (As := [.int x2, .ref a]) (st := []) mX3_addItem 2 3 7 dX3_readItem_89 lk_RX3_65 ⟨_, rfl, rfl⟩ sh_2 rfl (Nat.le_of_ble_eq_true rfl) ⟨rfl, rfl⟩ (Nat.le_of_ble_eq_true rfl) rfl hy ?_
      rintro r n I4 G4 J4 ⟨rfl, rfl, rfl, rfl, hy⟩
      show Ev (d + 1) mX3_readItem 136 92 [some (.ref 2), some (.ref a), some (.int x2), some (.int x3), some (.int x4)] [] 136 I4 G J Φ
      refine E_iconst (1 : Int32) dX3_readItem_92 rfl ?_
      exact E_rz dX3_readItem_93 rfl rfl ⟨rfl, rfl⟩ hy
    · replace hy := hy.2 h3
      refine E_iconst (0 : Int32) dX3_readItem_84 rfl ?_
      exact E_rz dX3_readItem_85 rfl rfl ⟨rfl, rfl⟩ hy
  · replace hy := hy.2 h1
    refine E_aload_n 0 dX3_readItem_29 rfl rfl ?_
    refine E_cv (M := mX3_readItem) (pc := 30) (As := []) (st := []) mX3_take 0 3 7 dX3_readItem_30 lk_RX3_37 ⟨_, rfl, rfl⟩ sh_2 rfl (Nat.le_of_ble_eq_true rfl) ⟨rfl, rfl⟩ (Nat.le_of_ble_eq_true rfl) rfl hy ?_
    rintro r n I5 G5 J5 ⟨rfl, rfl, rfl, rfl, hy⟩
    show Ev (d + 1) mX3_readItem 136 33 [some (.ref 2), some (.ref a), some (.int x2), some (.int x3), some (.int x4)] [] 136 I5 G J Φ
    refine E_aload_n 0 dX3_readItem_33 rfl rfl ?_
    refine E_geti 3 5 2 7 dX3_readItem_34 fl_RX3_40 rfl sh_2 ?_
    refine E_iconst (2 : Int32) dX3_readItem_37 rfl ?_
    refine E_icmp_ne 52 dX3_readItem_38 rfl (fun h6 => ?_) (fun h6 => ?_)
    · replace hy := hy.1 h6
      refine E_iconst (0 : Int32) dX3_readItem_52 rfl ?_
      exact E_rz dX3_readItem_53 rfl rfl ⟨rfl, rfl⟩ hy
    · replace hy := hy.2 (Decidable.not_not.mp h6)
      refine E_aload_n 0 dX3_readItem_41 rfl rfl ?_
      refine E_iload_n 2 dX3_readItem_42 rfl rfl ?_
      refine E_iload dX3_readItem_43 rfl ?_
      refine E_aload_n 1 dX3_readItem_45 rfl rfl ?_
      refine E_cv (M := mX3_readItem) (pc := 46) (As := [.int x2, .int x4, .ref a]) (st := []) mX3_fits 3 3 7 dX3_readItem_46 lk_RX3_58 ⟨_, rfl, rfl⟩ sh_2 rfl (Nat.le_of_ble_eq_true rfl) ⟨rfl, rfl⟩ (Nat.le_of_ble_eq_true rfl) rfl hy ?_
      rintro r n I7 G7 J7 ⟨v7, rfl, rfl, rfl, rfl, rfl, hy⟩
      show Ev (d + 1) mX3_readItem 136 49 [some (.ref 2), some (.ref a), some (.int x2), some (.int x3), some (.int x4)] [.int v7] 136 I5 G J Φ
      refine E_if_ne 54 dX3_readItem_49 rfl (fun h8 => ?_) (fun h8 => ?_)
      · replace hy := hy.1 h8
        refine E_aload_n 0 dX3_readItem_54 rfl rfl ?_
        refine E_getr 3 1 2 7 3 dX3_readItem_55 fl_RX3_11 rfl sh_2 (wg_2_1 hG) ?_
        refine E_iload dX3_readItem_58 rfl ?_
        refine E_aload_n 0 dX3_readItem_60 rfl rfl ?_
        refine E_geti 3 6 2 7 dX3_readItem_61 fl_RX3_62 rfl sh_2 ?_
        have c9 := hy.1
        replace hy := hy.2
        refine E_is 3 4 (x4).toNatClampNeg dX3_readItem_64 sh_3 c9 rfl ?_
        refine E_iinc (x4 + (1 : Int32)) dX3_readItem_65 rfl rfl (Nat.le_of_ble_eq_true rfl) (?_ : Ev (d + 1) mX3_readItem 136 68 [some (.ref 2), some (.ref a), some (.int x2), some (.int x3), some (.int (x4 + (1 : Int32)))] [] 136 (u2 I5 3 (x4).toNatClampNeg (I5 2 6)) G J Φ)
        refine E_goto 23 dX3_readItem_68 rfl ?_
        exact hy
      · replace hy := hy.2 (Decidable.not_not.mp h8)
        refine E_iconst (0 : Int32) dX3_readItem_52 rfl ?_
        exact E_rz dX3_readItem_53 rfl rfl ⟨rfl, rfl⟩ hy
set_option maxRecDepth 100000 in
theorem w_X3_take {d : Nat} {I : MI} {G : MG} {J : MJ} {Φ : Ph} (hG : WG G)  (hy : ((I 2 2) ≤ (I 2 3) → ((I 2 3) < (I 2 2) → vp_in (I 2 3) 200 ∧ (Ev d mX3_isDigit 136 0 [some (.int (I 1 (I 2 3).toNatClampNeg))] [] 136 (u2 I 2 4 (I 2 3)) G J (fun r n I4 G4 J4 => ∃ v4 : Int32, r = some (.int v4) ∧ n = 136 ∧ (u2 I 2 4 (I 2 3)) = I4 ∧ G = G4 ∧ J = J4 ∧ ((v4 = 0 → vp_in (I 2 3) 200 ∧ (Ev d mX3_isSign 136 0 [some (.int (I 1 (I 2 3).toNatClampNeg))] [] 136 (u2 I 2 4 (I 2 3)) G J (fun r n I7 G7 J7 => ∃ v7 : Int32, r = some (.int v7) ∧ n = 136 ∧ (u2 I 2 4 (I 2 3)) = I7 ∧ G = G7 ∧ J = J7 ∧ ((v7 = 0 → Φ none 136 (u2 (u2 (u2 I 2 4 (I 2 3)) 2 5 (1 : Int32)) 2 3 ((I 2 3) + (1 : Int32))) G J) ∧ (¬ v7 = 0 → vp_in (I 2 3) 200 ∧ (Φ none 136 (u2 (u2 (u2 I 2 4 (I 2 3)) 2 5 (I 1 (I 2 3).toNatClampNeg)) 2 3 ((I 2 3) + (1 : Int32))) G J)))))) ∧ (¬ v4 = 0 → Ev d mX3_takeNumber 136 0 [some (.ref 2), none, none] [] 136 (u2 I 2 4 (I 2 3)) G J (fun r n I10 G10 J10 => r = none ∧ n = 136 ∧ G = G10 ∧ J = J10 ∧ (Φ none 136 I10 G J))))))) ∧ (¬ (I 2 3) < (I 2 2) → Φ none 136 (u2 (u2 I 2 4 (I 2 3)) 2 5 (0 : Int32)) G J)) ∧ (¬ (I 2 2) ≤ (I 2 3) → vp_in (I 2 3) 200 ∧ ((¬ (I 1 (I 2 3).toNatClampNeg) = (32 : Int32) → ((I 2 3) < (I 2 2) → vp_in (I 2 3) 200 ∧ (Ev d mX3_isDigit 136 0 [some (.int (I 1 (I 2 3).toNatClampNeg))] [] 136 (u2 I 2 4 (I 2 3)) G J (fun r n I15 G15 J15 => ∃ v15 : Int32, r = some (.int v15) ∧ n = 136 ∧ (u2 I 2 4 (I 2 3)) = I15 ∧ G = G15 ∧ J = J15 ∧ ((v15 = 0 → vp_in (I 2 3) 200 ∧ (Ev d mX3_isSign 136 0 [some (.int (I 1 (I 2 3).toNatClampNeg))] [] 136 (u2 I 2 4 (I 2 3)) G J (fun r n I18 G18 J18 => ∃ v18 : Int32, r = some (.int v18) ∧ n = 136 ∧ (u2 I 2 4 (I 2 3)) = I18 ∧ G = G18 ∧ J = J18 ∧ ((v18 = 0 → Φ none 136 (u2 (u2 (u2 I 2 4 (I 2 3)) 2 5 (1 : Int32)) 2 3 ((I 2 3) + (1 : Int32))) G J) ∧ (¬ v18 = 0 → vp_in (I 2 3) 200 ∧ (Φ none 136 (u2 (u2 (u2 I 2 4 (I 2 3)) 2 5 (I 1 (I 2 3).toNatClampNeg)) 2 3 ((I 2 3) + (1 : Int32))) G J)))))) ∧ (¬ v15 = 0 → Ev d mX3_takeNumber 136 0 [some (.ref 2), none, none] [] 136 (u2 I 2 4 (I 2 3)) G J (fun r n I21 G21 J21 => r = none ∧ n = 136 ∧ G = G21 ∧ J = J21 ∧ (Φ none 136 I21 G J))))))) ∧ (¬ (I 2 3) < (I 2 2) → Φ none 136 (u2 (u2 I 2 4 (I 2 3)) 2 5 (0 : Int32)) G J)) ∧ ((I 1 (I 2 3).toNatClampNeg) = (32 : Int32) → Ev (d + 1) mX3_take 136 0 [some (.ref 2)] [] 136 (u2 I 2 3 ((I 2 3) + (1 : Int32))) G J Φ)))) : Ev (d + 1) mX3_take 136 0 [some (.ref 2)] [] 136 I G J Φ := by
  refine E_aload_n 0 dX3_take_0 rfl rfl ?_
  refine E_geti 3 3 2 7 dX3_take_1 fl_RX3_29 rfl sh_2 ?_
  refine E_aload_n 0 dX3_take_4 rfl rfl ?_
  refine E_geti 3 2 2 7 dX3_take_5 fl_RX3_25 rfl sh_2 ?_
  refine E_icmp_ge 38 dX3_take_8 rfl (fun h1 => ?_) (fun h1 => ?_)
  · replace hy := hy.1 h1
    refine E_aload_n 0 dX3_take_38 rfl rfl ?_
    refine E_aload_n 0 dX3_take_39 rfl rfl ?_
    refine E_geti 3 3 2 7 dX3_take_40 fl_RX3_29 rfl sh_2 ?_
    refine E_puti 3 4 2 7 dX3_take_43 fl_RX3_47 rfl sh_2 ⟨_, rfl, rfl⟩ rfl rfl ?_
    refine E_aload_n 0 dX3_take_46 rfl rfl ?_
    refine E_getw 3 3 2 7 (I 2 3) dX3_take_47 fl_RX3_29 rfl sh_2 rfl ?_
    refine E_aload_n 0 dX3_take_50 rfl rfl ?_
    refine E_getw 3 2 2 7 (I 2 2) dX3_take_51 fl_RX3_25 rfl sh_2 rfl ?_
    refine E_icmp_lt 65 dX3_take_54 rfl (fun h2 => ?_) (fun h2 => ?_)
    · replace hy := hy.1 h2
      refine E_aload_n 0 dX3_take_65 rfl rfl ?_
      refine E_getr 3 0 2 7 1 dX3_take_66 fl_RX3_15 rfl sh_2 (wg_2_0 hG) ?_
      refine E_aload_n 0 dX3_take_69 rfl rfl ?_
      refine E_getw 3 3 2 7 (I 2 3) dX3_take_70 fl_RX3_29 rfl sh_2 rfl ?_
      have c3 := hy.1
      replace hy := hy.2
      refine E_awc 1 200 (I 2 3).toNatClampNeg (I 1 (I 2 3).toNatClampNeg) dX3_take_73 sh_1 c3 rfl rfl ?_
      refine E_cs (M := mX3_take) (pc := 74) (As := [.int (I 1 (I 2 3).toNatClampNeg)]) (st := []) mX3_isDigit 1 dX3_take_74 lk_RX3_119 rfl (Nat.le_of_ble_eq_true rfl) ⟨rfl, rfl⟩ (Nat.le_of_ble_eq_true rfl) rfl hy ?_
      rintro r n I4 G4 J4 ⟨v4, rfl, rfl, rfl, rfl, rfl, hy⟩
      show Ev (d + 1) mX3_take 136 77 [some (.ref 2)] [.int v4] 136 (u2 I 2 4 (I 2 3)) G J Φ
      refine E_if_eq 87 dX3_take_77 rfl (fun h5 => ?_) (fun h5 => ?_)
      · replace hy := hy.1 h5
        refine E_aload_n 0 dX3_take_87 rfl rfl ?_
        refine E_aload_n 0 dX3_take_88 rfl rfl ?_
        refine E_getr 3 0 2 7 1 dX3_take_89 fl_RX3_15 rfl sh_2 (wg_2_0 hG) ?_
        refine E_aload_n 0 dX3_take_92 rfl rfl ?_
        refine E_getw 3 3 2 7 (I 2 3) dX3_take_93 fl_RX3_29 rfl sh_2 rfl ?_
        have c6 := hy.1
        replace hy := hy.2
        refine E_awc 1 200 (I 2 3).toNatClampNeg (I 1 (I 2 3).toNatClampNeg) dX3_take_96 sh_1 c6 rfl rfl ?_
        refine E_cs (M := mX3_take) (pc := 97) (As := [.int (I 1 (I 2 3).toNatClampNeg)]) (st := [.ref 2]) mX3_isSign 1 dX3_take_97 lk_RX3_126 rfl (Nat.le_of_ble_eq_true rfl) ⟨rfl, rfl⟩ (Nat.le_of_ble_eq_true rfl) rfl hy ?_
        rintro r n I7 G7 J7 ⟨v7, rfl, rfl, rfl, rfl, rfl, hy⟩
        show Ev (d + 1) mX3_take 136 100 [some (.ref 2)] [.int v7, .ref 2] 136 (u2 I 2 4 (I 2 3)) G J Φ
        refine E_if_eq 115 dX3_take_100 rfl (fun h8 => ?_) (fun h8 => ?_)
        · replace hy := hy.1 h8
          refine E_iconst (1 : Int32) dX3_take_115 rfl ?_
          refine E_puti 3 5 2 7 dX3_take_116 fl_RX3_40 rfl sh_2 ⟨_, rfl, rfl⟩ rfl rfl ?_
          refine E_aload_n 0 dX3_take_119 rfl rfl ?_
          refine E_dup dX3_take_120 rfl ?_
          refine E_getw 3 3 2 7 (I 2 3) dX3_take_121 fl_RX3_29 rfl sh_2 rfl ?_
          refine E_iconst (1 : Int32) dX3_take_124 rfl ?_
          refine E_iadd dX3_take_125 ?_
          refine E_puti 3 3 2 7 dX3_take_126 fl_RX3_29 rfl sh_2 ⟨_, rfl, rfl⟩ rfl rfl ?_
          exact E_rv dX3_take_129 rfl ⟨rfl, rfl⟩ hy
        · replace hy := hy.2 h8
          refine E_aload_n 0 dX3_take_103 rfl rfl ?_
          refine E_getr 3 0 2 7 1 dX3_take_104 fl_RX3_15 rfl sh_2 (wg_2_0 hG) ?_
          refine E_aload_n 0 dX3_take_107 rfl rfl ?_
          refine E_getw 3 3 2 7 (I 2 3) dX3_take_108 fl_RX3_29 rfl sh_2 rfl ?_
          have c9 := hy.1
          replace hy := hy.2
          refine E_awc 1 200 (I 2 3).toNatClampNeg (I 1 (I 2 3).toNatClampNeg) dX3_take_111 sh_1 c9 rfl rfl ?_
          refine E_goto 116 dX3_take_112 rfl ?_
          refine E_puti 3 5 2 7 dX3_take_116 fl_RX3_40 rfl sh_2 ⟨_, rfl, rfl⟩ rfl rfl ?_
          refine E_aload_n 0 dX3_take_119 rfl rfl ?_
          refine E_dup dX3_take_120 rfl ?_
          refine E_getw 3 3 2 7 (I 2 3) dX3_take_121 fl_RX3_29 rfl sh_2 rfl ?_
          refine E_iconst (1 : Int32) dX3_take_124 rfl ?_
          refine E_iadd dX3_take_125 ?_
          refine E_puti 3 3 2 7 dX3_take_126 fl_RX3_29 rfl sh_2 ⟨_, rfl, rfl⟩ rfl rfl ?_
          exact E_rv dX3_take_129 rfl ⟨rfl, rfl⟩ hy
      · replace hy := hy.2 h5
        refine E_aload_n 0 dX3_take_80 rfl rfl ?_
        refine E_cv (M := mX3_take) (pc := 81) (As := []) (st := []) mX3_takeNumber 0 3 7 dX3_take_81 lk_RX3_123 ⟨_, rfl, rfl⟩ sh_2 rfl (Nat.le_of_ble_eq_true rfl) ⟨rfl, rfl⟩ (Nat.le_of_ble_eq_true rfl) rfl hy ?_
        rintro r n I10 G10 J10 ⟨rfl, rfl, rfl, rfl, hy⟩
        show Ev (d + 1) mX3_take 136 84 [some (.ref 2)] [] 136 I10 G J Φ
        refine E_goto 129 dX3_take_84 rfl ?_
        exact E_rv dX3_take_129 rfl ⟨rfl, rfl⟩ hy
    · replace hy := hy.2 h2
      refine E_aload_n 0 dX3_take_57 rfl rfl ?_
      refine E_iconst (0 : Int32) dX3_take_58 rfl ?_
      refine E_puti 3 5 2 7 dX3_take_59 fl_RX3_40 rfl sh_2 ⟨_, rfl, rfl⟩ rfl rfl ?_
      refine E_goto 129 dX3_take_62 rfl ?_
      exact E_rv dX3_take_129 rfl ⟨rfl, rfl⟩ hy
  · replace hy := hy.2 h1
    refine E_aload_n 0 dX3_take_11 rfl rfl ?_
    refine E_getr 3 0 2 7 1 dX3_take_12 fl_RX3_15 rfl sh_2 (wg_2_0 hG) ?_
    refine E_aload_n 0 dX3_take_15 rfl rfl ?_
    refine E_geti 3 3 2 7 dX3_take_16 fl_RX3_29 rfl sh_2 ?_
    have c11 := hy.1
    replace hy := hy.2
    refine E_ca 1 200 (I 2 3).toNatClampNeg dX3_take_19 sh_1 c11 rfl ?_
    refine E_bipush (32 : Int32) dX3_take_20 rfl ?_
    refine E_icmp_ne 38 dX3_take_22 rfl (fun h12 => ?_) (fun h12 => ?_)
    · replace hy := hy.1 h12
      refine E_aload_n 0 dX3_take_38 rfl rfl ?_
      refine E_aload_n 0 dX3_take_39 rfl rfl ?_
      refine E_geti 3 3 2 7 dX3_take_40 fl_RX3_29 rfl sh_2 ?_
      refine E_puti 3 4 2 7 dX3_take_43 fl_RX3_47 rfl sh_2 ⟨_, rfl, rfl⟩ rfl rfl ?_
      refine E_aload_n 0 dX3_take_46 rfl rfl ?_
      refine E_getw 3 3 2 7 (I 2 3) dX3_take_47 fl_RX3_29 rfl sh_2 rfl ?_
      refine E_aload_n 0 dX3_take_50 rfl rfl ?_
      refine E_getw 3 2 2 7 (I 2 2) dX3_take_51 fl_RX3_25 rfl sh_2 rfl ?_
      refine E_icmp_lt 65 dX3_take_54 rfl (fun h13 => ?_) (fun h13 => ?_)
      · replace hy := hy.1 h13
        refine E_aload_n 0 dX3_take_65 rfl rfl ?_
        refine E_getr 3 0 2 7 1 dX3_take_66 fl_RX3_15 rfl sh_2 (wg_2_0 hG) ?_
        refine E_aload_n 0 dX3_take_69 rfl rfl ?_
        refine E_getw 3 3 2 7 (I 2 3) dX3_take_70 fl_RX3_29 rfl sh_2 rfl ?_
        have c14 := hy.1
        replace hy := hy.2
        refine E_awc 1 200 (I 2 3).toNatClampNeg (I 1 (I 2 3).toNatClampNeg) dX3_take_73 sh_1 c14 rfl rfl ?_
        refine E_cs (M := mX3_take) (pc := 74) (As := [.int (I 1 (I 2 3).toNatClampNeg)]) (st := []) mX3_isDigit 1 dX3_take_74 lk_RX3_119 rfl (Nat.le_of_ble_eq_true rfl) ⟨rfl, rfl⟩ (Nat.le_of_ble_eq_true rfl) rfl hy ?_
        rintro r n I15 G15 J15 ⟨v15, rfl, rfl, rfl, rfl, rfl, hy⟩
        show Ev (d + 1) mX3_take 136 77 [some (.ref 2)] [.int v15] 136 (u2 I 2 4 (I 2 3)) G J Φ
        refine E_if_eq 87 dX3_take_77 rfl (fun h16 => ?_) (fun h16 => ?_)
        · replace hy := hy.1 h16
          refine E_aload_n 0 dX3_take_87 rfl rfl ?_
          refine E_aload_n 0 dX3_take_88 rfl rfl ?_
          refine E_getr 3 0 2 7 1 dX3_take_89 fl_RX3_15 rfl sh_2 (wg_2_0 hG) ?_
          refine E_aload_n 0 dX3_take_92 rfl rfl ?_
          refine E_getw 3 3 2 7 (I 2 3) dX3_take_93 fl_RX3_29 rfl sh_2 rfl ?_
          have c17 := hy.1
          replace hy := hy.2
          refine E_awc 1 200 (I 2 3).toNatClampNeg (I 1 (I 2 3).toNatClampNeg) dX3_take_96 sh_1 c17 rfl rfl ?_
          refine E_cs (M := mX3_take) (pc := 97) (As := [.int (I 1 (I 2 3).toNatClampNeg)]) (st := [.ref 2]) mX3_isSign 1 dX3_take_97 lk_RX3_126 rfl (Nat.le_of_ble_eq_true rfl) ⟨rfl, rfl⟩ (Nat.le_of_ble_eq_true rfl) rfl hy ?_
          rintro r n I18 G18 J18 ⟨v18, rfl, rfl, rfl, rfl, rfl, hy⟩
          show Ev (d + 1) mX3_take 136 100 [some (.ref 2)] [.int v18, .ref 2] 136 (u2 I 2 4 (I 2 3)) G J Φ
          refine E_if_eq 115 dX3_take_100 rfl (fun h19 => ?_) (fun h19 => ?_)
          · replace hy := hy.1 h19
            refine E_iconst (1 : Int32) dX3_take_115 rfl ?_
            refine E_puti 3 5 2 7 dX3_take_116 fl_RX3_40 rfl sh_2 ⟨_, rfl, rfl⟩ rfl rfl ?_
            refine E_aload_n 0 dX3_take_119 rfl rfl ?_
            refine E_dup dX3_take_120 rfl ?_
            refine E_getw 3 3 2 7 (I 2 3) dX3_take_121 fl_RX3_29 rfl sh_2 rfl ?_
            refine E_iconst (1 : Int32) dX3_take_124 rfl ?_
            refine E_iadd dX3_take_125 ?_
            refine E_puti 3 3 2 7 dX3_take_126 fl_RX3_29 rfl sh_2 ⟨_, rfl, rfl⟩ rfl rfl ?_
            exact E_rv dX3_take_129 rfl ⟨rfl, rfl⟩ hy
          · replace hy := hy.2 h19
            refine E_aload_n 0 dX3_take_103 rfl rfl ?_
            refine E_getr 3 0 2 7 1 dX3_take_104 fl_RX3_15 rfl sh_2 (wg_2_0 hG) ?_
            refine E_aload_n 0 dX3_take_107 rfl rfl ?_
            refine E_getw 3 3 2 7 (I 2 3) dX3_take_108 fl_RX3_29 rfl sh_2 rfl ?_
            have c20 := hy.1
            replace hy := hy.2
            refine E_awc 1 200 (I 2 3).toNatClampNeg (I 1 (I 2 3).toNatClampNeg) dX3_take_111 sh_1 c20 rfl rfl ?_
            refine E_goto 116 dX3_take_112 rfl ?_
            refine E_puti 3 5 2 7 dX3_take_116 fl_RX3_40 rfl sh_2 ⟨_, rfl, rfl⟩ rfl rfl ?_
            refine E_aload_n 0 dX3_take_119 rfl rfl ?_
            refine E_dup dX3_take_120 rfl ?_
            refine E_getw 3 3 2 7 (I 2 3) dX3_take_121 fl_RX3_29 rfl sh_2 rfl ?_
            refine E_iconst (1 : Int32) dX3_take_124 rfl ?_
            refine E_iadd dX3_take_125 ?_
            refine E_puti 3 3 2 7 dX3_take_126 fl_RX3_29 rfl sh_2 ⟨_, rfl, rfl⟩ rfl rfl ?_
            exact E_rv dX3_take_129 rfl ⟨rfl, rfl⟩ hy
        · replace hy := hy.2 h16
          refine E_aload_n 0 dX3_take_80 rfl rfl ?_
          refine E_cv (M := mX3_take) (pc := 81) (As := []) (st := []) mX3_takeNumber 0 3 7 dX3_take_81 lk_RX3_123 ⟨_, rfl, rfl⟩ sh_2 rfl (Nat.le_of_ble_eq_true rfl) ⟨rfl, rfl⟩ (Nat.le_of_ble_eq_true rfl) rfl hy ?_
          rintro r n I21 G21 J21 ⟨rfl, rfl, rfl, rfl, hy⟩
          show Ev (d + 1) mX3_take 136 84 [some (.ref 2)] [] 136 I21 G J Φ
          refine E_goto 129 dX3_take_84 rfl ?_
          exact E_rv dX3_take_129 rfl ⟨rfl, rfl⟩ hy
      · replace hy := hy.2 h13
        refine E_aload_n 0 dX3_take_57 rfl rfl ?_
        refine E_iconst (0 : Int32) dX3_take_58 rfl ?_
        refine E_puti 3 5 2 7 dX3_take_59 fl_RX3_40 rfl sh_2 ⟨_, rfl, rfl⟩ rfl rfl ?_
        refine E_goto 129 dX3_take_62 rfl ?_
        exact E_rv dX3_take_129 rfl ⟨rfl, rfl⟩ hy
    · replace hy := hy.2 (Decidable.not_not.mp h12)
      refine E_aload_n 0 dX3_take_25 rfl rfl ?_
      refine E_dup dX3_take_26 rfl ?_
      refine E_geti 3 3 2 7 dX3_take_27 fl_RX3_29 rfl sh_2 ?_
      refine E_iconst (1 : Int32) dX3_take_30 rfl ?_
      refine E_iadd dX3_take_31 ?_
      refine E_puti 3 3 2 7 dX3_take_32 fl_RX3_29 rfl sh_2 ⟨_, rfl, rfl⟩ rfl rfl ?_
      refine E_goto 0 dX3_take_35 rfl ?_
      exact hy
set_option maxRecDepth 100000 in
theorem w_X3_take_0 {d : Nat} {I : MI} {G : MG} {J : MJ} {Φ : Ph} (hG : WG G)  (hy : ((I 2 2) ≤ (I 2 3) → ((I 2 3) < (I 2 2) → vp_in (I 2 3) 200 ∧ (Ev d mX3_isDigit 136 0 [some (.int (I 1 (I 2 3).toNatClampNeg))] [] 136 (u2 I 2 4 (I 2 3)) G J (fun r n I4 G4 J4 => ∃ v4 : Int32, r = some (.int v4) ∧ n = 136 ∧ (u2 I 2 4 (I 2 3)) = I4 ∧ G = G4 ∧ J = J4 ∧ ((v4 = 0 → vp_in (I 2 3) 200 ∧ (Ev d mX3_isSign 136 0 [some (.int (I 1 (I 2 3).toNatClampNeg))] [] 136 (u2 I 2 4 (I 2 3)) G J (fun r n I7 G7 J7 => ∃ v7 : Int32, r = some (.int v7) ∧ n = 136 ∧ (u2 I 2 4 (I 2 3)) = I7 ∧ G = G7 ∧ J = J7 ∧ ((v7 = 0 → Φ none 136 (u2 (u2 (u2 I 2 4 (I 2 3)) 2 5 (1 : Int32)) 2 3 ((I 2 3) + (1 : Int32))) G J) ∧ (¬ v7 = 0 → vp_in (I 2 3) 200 ∧ (Φ none 136 (u2 (u2 (u2 I 2 4 (I 2 3)) 2 5 (I 1 (I 2 3).toNatClampNeg)) 2 3 ((I 2 3) + (1 : Int32))) G J)))))) ∧ (¬ v4 = 0 → Ev d mX3_takeNumber 136 0 [some (.ref 2), none, none] [] 136 (u2 I 2 4 (I 2 3)) G J (fun r n I10 G10 J10 => r = none ∧ n = 136 ∧ G = G10 ∧ J = J10 ∧ (Φ none 136 I10 G J))))))) ∧ (¬ (I 2 3) < (I 2 2) → Φ none 136 (u2 (u2 I 2 4 (I 2 3)) 2 5 (0 : Int32)) G J)) ∧ (¬ (I 2 2) ≤ (I 2 3) → vp_in (I 2 3) 200 ∧ ((¬ (I 1 (I 2 3).toNatClampNeg) = (32 : Int32) → ((I 2 3) < (I 2 2) → vp_in (I 2 3) 200 ∧ (Ev d mX3_isDigit 136 0 [some (.int (I 1 (I 2 3).toNatClampNeg))] [] 136 (u2 I 2 4 (I 2 3)) G J (fun r n I15 G15 J15 => ∃ v15 : Int32, r = some (.int v15) ∧ n = 136 ∧ (u2 I 2 4 (I 2 3)) = I15 ∧ G = G15 ∧ J = J15 ∧ ((v15 = 0 → vp_in (I 2 3) 200 ∧ (Ev d mX3_isSign 136 0 [some (.int (I 1 (I 2 3).toNatClampNeg))] [] 136 (u2 I 2 4 (I 2 3)) G J (fun r n I18 G18 J18 => ∃ v18 : Int32, r = some (.int v18) ∧ n = 136 ∧ (u2 I 2 4 (I 2 3)) = I18 ∧ G = G18 ∧ J = J18 ∧ ((v18 = 0 → Φ none 136 (u2 (u2 (u2 I 2 4 (I 2 3)) 2 5 (1 : Int32)) 2 3 ((I 2 3) + (1 : Int32))) G J) ∧ (¬ v18 = 0 → vp_in (I 2 3) 200 ∧ (Φ none 136 (u2 (u2 (u2 I 2 4 (I 2 3)) 2 5 (I 1 (I 2 3).toNatClampNeg)) 2 3 ((I 2 3) + (1 : Int32))) G J)))))) ∧ (¬ v15 = 0 → Ev d mX3_takeNumber 136 0 [some (.ref 2), none, none] [] 136 (u2 I 2 4 (I 2 3)) G J (fun r n I21 G21 J21 => r = none ∧ n = 136 ∧ G = G21 ∧ J = J21 ∧ (Φ none 136 I21 G J))))))) ∧ (¬ (I 2 3) < (I 2 2) → Φ none 136 (u2 (u2 I 2 4 (I 2 3)) 2 5 (0 : Int32)) G J)) ∧ ((I 1 (I 2 3).toNatClampNeg) = (32 : Int32) → Ev (d + 1) mX3_take 136 0 [some (.ref 2)] [] 136 (u2 I 2 3 ((I 2 3) + (1 : Int32))) G J Φ)))) : Ev (d + 1) mX3_take 136 0 [some (.ref 2)] [] 136 I G J Φ := by
  refine E_aload_n 0 dX3_take_0 rfl rfl ?_
  refine E_geti 3 3 2 7 dX3_take_1 fl_RX3_29 rfl sh_2 ?_
  refine E_aload_n 0 dX3_take_4 rfl rfl ?_
  refine E_geti 3 2 2 7 dX3_take_5 fl_RX3_25 rfl sh_2 ?_
  refine E_icmp_ge 38 dX3_take_8 rfl (fun h1 => ?_) (fun h1 => ?_)
  · replace hy := hy.1 h1
    refine E_aload_n 0 dX3_take_38 rfl rfl ?_
    refine E_aload_n 0 dX3_take_39 rfl rfl ?_
    refine E_geti 3 3 2 7 dX3_take_40 fl_RX3_29 rfl sh_2 ?_
    refine E_puti 3 4 2 7 dX3_take_43 fl_RX3_47 rfl sh_2 ⟨_, rfl, rfl⟩ rfl rfl ?_
    refine E_aload_n 0 dX3_take_46 rfl rfl ?_
    refine E_getw 3 3 2 7 (I 2 3) dX3_take_47 fl_RX3_29 rfl sh_2 rfl ?_
    refine E_aload_n 0 dX3_take_50 rfl rfl ?_
    refine E_getw 3 2 2 7 (I 2 2) dX3_take_51 fl_RX3_25 rfl sh_2 rfl ?_
    refine E_icmp_lt 65 dX3_take_54 rfl (fun h2 => ?_) (fun h2 => ?_)
    · replace hy := hy.1 h2
      refine E_aload_n 0 dX3_take_65 rfl rfl ?_
      refine E_getr 3 0 2 7 1 dX3_take_66 fl_RX3_15 rfl sh_2 (wg_2_0 hG) ?_
      refine E_aload_n 0 dX3_take_69 rfl rfl ?_
      refine E_getw 3 3 2 7 (I 2 3) dX3_take_70 fl_RX3_29 rfl sh_2 rfl ?_
      have c3 := hy.1
      replace hy := hy.2
      refine E_awc 1 200 (I 2 3).toNatClampNeg (I 1 (I 2 3).toNatClampNeg) dX3_take_73 sh_1 c3 rfl rfl ?_
      refine E_cs (M := mX3_take) (pc := 74) (As := [.int (I 1 (I 2 3).toNatClampNeg)]) (st := []) mX3_isDigit 1 dX3_take_74 lk_RX3_119 rfl (Nat.le_of_ble_eq_true rfl) ⟨rfl, rfl⟩ (Nat.le_of_ble_eq_true rfl) rfl hy ?_
      rintro r n I4 G4 J4 ⟨v4, rfl, rfl, rfl, rfl, rfl, hy⟩
      show Ev (d + 1) mX3_take 136 77 [some (.ref 2)] [.int v4] 136 (u2 I 2 4 (I 2 3)) G J Φ
      refine E_if_eq 87 dX3_take_77 rfl (fun h5 => ?_) (fun h5 => ?_)
      · replace hy := hy.1 h5
        refine E_aload_n 0 dX3_take_87 rfl rfl ?_
        refine E_aload_n 0 dX3_take_88 rfl rfl ?_
        refine E_getr 3 0 2 7 1 dX3_take_89 fl_RX3_15 rfl sh_2 (wg_2_0 hG) ?_
        refine E_aload_n 0 dX3_take_92 rfl rfl ?_
        refine E_getw 3 3 2 7 (I 2 3) dX3_take_93 fl_RX3_29 rfl sh_2 rfl ?_
        have c6 := hy.1
        replace hy := hy.2
        refine E_awc 1 200 (I 2 3).toNatClampNeg (I 1 (I 2 3).toNatClampNeg) dX3_take_96 sh_1 c6 rfl rfl ?_
        refine E_cs (M := mX3_take) (pc := 97) (As := [.int (I 1 (I 2 3).toNatClampNeg)]) (st := [.ref 2]) mX3_isSign 1 dX3_take_97 lk_RX3_126 rfl (Nat.le_of_ble_eq_true rfl) ⟨rfl, rfl⟩ (Nat.le_of_ble_eq_true rfl) rfl hy ?_
        rintro r n I7 G7 J7 ⟨v7, rfl, rfl, rfl, rfl, rfl, hy⟩
        show Ev (d + 1) mX3_take 136 100 [some (.ref 2)] [.int v7, .ref 2] 136 (u2 I 2 4 (I 2 3)) G J Φ
        refine E_if_eq 115 dX3_take_100 rfl (fun h8 => ?_) (fun h8 => ?_)
        · replace hy := hy.1 h8
          refine E_iconst (1 : Int32) dX3_take_115 rfl ?_
          refine E_puti 3 5 2 7 dX3_take_116 fl_RX3_40 rfl sh_2 ⟨_, rfl, rfl⟩ rfl rfl ?_
          refine E_aload_n 0 dX3_take_119 rfl rfl ?_
          refine E_dup dX3_take_120 rfl ?_
          refine E_getw 3 3 2 7 (I 2 3) dX3_take_121 fl_RX3_29 rfl sh_2 rfl ?_
          refine E_iconst (1 : Int32) dX3_take_124 rfl ?_
          refine E_iadd dX3_take_125 ?_
          refine E_puti 3 3 2 7 dX3_take_126 fl_RX3_29 rfl sh_2 ⟨_, rfl, rfl⟩ rfl rfl ?_
          exact E_rv dX3_take_129 rfl ⟨rfl, rfl⟩ hy
        · replace hy := hy.2 h8
          refine E_aload_n 0 dX3_take_103 rfl rfl ?_
          refine E_getr 3 0 2 7 1 dX3_take_104 fl_RX3_15 rfl sh_2 (wg_2_0 hG) ?_
          refine E_aload_n 0 dX3_take_107 rfl rfl ?_
          refine E_getw 3 3 2 7 (I 2 3) dX3_take_108 fl_RX3_29 rfl sh_2 rfl ?_
          have c9 := hy.1
          replace hy := hy.2
          refine E_awc 1 200 (I 2 3).toNatClampNeg (I 1 (I 2 3).toNatClampNeg) dX3_take_111 sh_1 c9 rfl rfl ?_
          refine E_goto 116 dX3_take_112 rfl ?_
          refine E_puti 3 5 2 7 dX3_take_116 fl_RX3_40 rfl sh_2 ⟨_, rfl, rfl⟩ rfl rfl ?_
          refine E_aload_n 0 dX3_take_119 rfl rfl ?_
          refine E_dup dX3_take_120 rfl ?_
          refine E_getw 3 3 2 7 (I 2 3) dX3_take_121 fl_RX3_29 rfl sh_2 rfl ?_
          refine E_iconst (1 : Int32) dX3_take_124 rfl ?_
          refine E_iadd dX3_take_125 ?_
          refine E_puti 3 3 2 7 dX3_take_126 fl_RX3_29 rfl sh_2 ⟨_, rfl, rfl⟩ rfl rfl ?_
          exact E_rv dX3_take_129 rfl ⟨rfl, rfl⟩ hy
      · replace hy := hy.2 h5
        refine E_aload_n 0 dX3_take_80 rfl rfl ?_
        refine E_cv (M := mX3_take) (pc := 81) (As := []) (st := []) mX3_takeNumber 0 3 7 dX3_take_81 lk_RX3_123 ⟨_, rfl, rfl⟩ sh_2 rfl (Nat.le_of_ble_eq_true rfl) ⟨rfl, rfl⟩ (Nat.le_of_ble_eq_true rfl) rfl hy ?_
        rintro r n I10 G10 J10 ⟨rfl, rfl, rfl, rfl, hy⟩
        show Ev (d + 1) mX3_take 136 84 [some (.ref 2)] [] 136 I10 G J Φ
        refine E_goto 129 dX3_take_84 rfl ?_
        exact E_rv dX3_take_129 rfl ⟨rfl, rfl⟩ hy
    · replace hy := hy.2 h2
      refine E_aload_n 0 dX3_take_57 rfl rfl ?_
      refine E_iconst (0 : Int32) dX3_take_58 rfl ?_
      refine E_puti 3 5 2 7 dX3_take_59 fl_RX3_40 rfl sh_2 ⟨_, rfl, rfl⟩ rfl rfl ?_
      refine E_goto 129 dX3_take_62 rfl ?_
      exact E_rv dX3_take_129 rfl ⟨rfl, rfl⟩ hy
  · replace hy := hy.2 h1
    refine E_aload_n 0 dX3_take_11 rfl rfl ?_
    refine E_getr 3 0 2 7 1 dX3_take_12 fl_RX3_15 rfl sh_2 (wg_2_0 hG) ?_
    refine E_aload_n 0 dX3_take_15 rfl rfl ?_
    refine E_geti 3 3 2 7 dX3_take_16 fl_RX3_29 rfl sh_2 ?_
    have c11 := hy.1
    replace hy := hy.2
    refine E_ca 1 200 (I 2 3).toNatClampNeg dX3_take_19 sh_1 c11 rfl ?_
    refine E_bipush (32 : Int32) dX3_take_20 rfl ?_
    refine E_icmp_ne 38 dX3_take_22 rfl (fun h12 => ?_) (fun h12 => ?_)
    · replace hy := hy.1 h12
      refine E_aload_n 0 dX3_take_38 rfl rfl ?_
      refine E_aload_n 0 dX3_take_39 rfl rfl ?_
      refine E_geti 3 3 2 7 dX3_take_40 fl_RX3_29 rfl sh_2 ?_
      refine E_puti 3 4 2 7 dX3_take_43 fl_RX3_47 rfl sh_2 ⟨_, rfl, rfl⟩ rfl rfl ?_
      refine E_aload_n 0 dX3_take_46 rfl rfl ?_
      refine E_getw 3 3 2 7 (I 2 3) dX3_take_47 fl_RX3_29 rfl sh_2 rfl ?_
      refine E_aload_n 0 dX3_take_50 rfl rfl ?_
      refine E_getw 3 2 2 7 (I 2 2) dX3_take_51 fl_RX3_25 rfl sh_2 rfl ?_
      refine E_icmp_lt 65 dX3_take_54 rfl (fun h13 => ?_) (fun h13 => ?_)
      · replace hy := hy.1 h13
        refine E_aload_n 0 dX3_take_65 rfl rfl ?_
        refine E_getr 3 0 2 7 1 dX3_take_66 fl_RX3_15 rfl sh_2 (wg_2_0 hG) ?_
        refine E_aload_n 0 dX3_take_69 rfl rfl ?_
        refine E_getw 3 3 2 7 (I 2 3) dX3_take_70 fl_RX3_29 rfl sh_2 rfl ?_
        have c14 := hy.1
        replace hy := hy.2
        refine E_awc 1 200 (I 2 3).toNatClampNeg (I 1 (I 2 3).toNatClampNeg) dX3_take_73 sh_1 c14 rfl rfl ?_
        refine E_cs (M := mX3_take) (pc := 74) (As := [.int (I 1 (I 2 3).toNatClampNeg)]) (st := []) mX3_isDigit 1 dX3_take_74 lk_RX3_119 rfl (Nat.le_of_ble_eq_true rfl) ⟨rfl, rfl⟩ (Nat.le_of_ble_eq_true rfl) rfl hy ?_
        rintro r n I15 G15 J15 ⟨v15, rfl, rfl, rfl, rfl, rfl, hy⟩
        show Ev (d + 1) mX3_take 136 77 [some (.ref 2)] [.int v15] 136 (u2 I 2 4 (I 2 3)) G J Φ
        refine E_if_eq 87 dX3_take_77 rfl (fun h16 => ?_) (fun h16 => ?_)
        · replace hy := hy.1 h16
          refine E_aload_n 0 dX3_take_87 rfl rfl ?_
          refine E_aload_n 0 dX3_take_88 rfl rfl ?_
          refine E_getr 3 0 2 7 1 dX3_take_89 fl_RX3_15 rfl sh_2 (wg_2_0 hG) ?_
          refine E_aload_n 0 dX3_take_92 rfl rfl ?_
          refine E_getw 3 3 2 7 (I 2 3) dX3_take_93 fl_RX3_29 rfl sh_2 rfl ?_
          have c17 := hy.1
          replace hy := hy.2
          refine E_awc 1 200 (I 2 3).toNatClampNeg (I 1 (I 2 3).toNatClampNeg) dX3_take_96 sh_1 c17 rfl rfl ?_
          refine E_cs (M := mX3_take) (pc := 97) (As := [.int (I 1 (I 2 3).toNatClampNeg)]) (st := [.ref 2]) mX3_isSign 1 dX3_take_97 lk_RX3_126 rfl (Nat.le_of_ble_eq_true rfl) ⟨rfl, rfl⟩ (Nat.le_of_ble_eq_true rfl) rfl hy ?_
          rintro r n I18 G18 J18 ⟨v18, rfl, rfl, rfl, rfl, rfl, hy⟩
          show Ev (d + 1) mX3_take 136 100 [some (.ref 2)] [.int v18, .ref 2] 136 (u2 I 2 4 (I 2 3)) G J Φ
          refine E_if_eq 115 dX3_take_100 rfl (fun h19 => ?_) (fun h19 => ?_)
          · replace hy := hy.1 h19
            refine E_iconst (1 : Int32) dX3_take_115 rfl ?_
            refine E_puti 3 5 2 7 dX3_take_116 fl_RX3_40 rfl sh_2 ⟨_, rfl, rfl⟩ rfl rfl ?_
            refine E_aload_n 0 dX3_take_119 rfl rfl ?_
            refine E_dup dX3_take_120 rfl ?_
            refine E_getw 3 3 2 7 (I 2 3) dX3_take_121 fl_RX3_29 rfl sh_2 rfl ?_
            refine E_iconst (1 : Int32) dX3_take_124 rfl ?_
            refine E_iadd dX3_take_125 ?_
            refine E_puti 3 3 2 7 dX3_take_126 fl_RX3_29 rfl sh_2 ⟨_, rfl, rfl⟩ rfl rfl ?_
            exact E_rv dX3_take_129 rfl ⟨rfl, rfl⟩ hy
          · replace hy := hy.2 h19
            refine E_aload_n 0 dX3_take_103 rfl rfl ?_
            refine E_getr 3 0 2 7 1 dX3_take_104 fl_RX3_15 rfl sh_2 (wg_2_0 hG) ?_
            refine E_aload_n 0 dX3_take_107 rfl rfl ?_
            refine E_getw 3 3 2 7 (I 2 3) dX3_take_108 fl_RX3_29 rfl sh_2 rfl ?_
            have c20 := hy.1
            replace hy := hy.2
            refine E_awc 1 200 (I 2 3).toNatClampNeg (I 1 (I 2 3).toNatClampNeg) dX3_take_111 sh_1 c20 rfl rfl ?_
            refine E_goto 116 dX3_take_112 rfl ?_
            refine E_puti 3 5 2 7 dX3_take_116 fl_RX3_40 rfl sh_2 ⟨_, rfl, rfl⟩ rfl rfl ?_
            refine E_aload_n 0 dX3_take_119 rfl rfl ?_
            refine E_dup dX3_take_120 rfl ?_
            refine E_getw 3 3 2 7 (I 2 3) dX3_take_121 fl_RX3_29 rfl sh_2 rfl ?_
            refine E_iconst (1 : Int32) dX3_take_124 rfl ?_
            refine E_iadd dX3_take_125 ?_
            refine E_puti 3 3 2 7 dX3_take_126 fl_RX3_29 rfl sh_2 ⟨_, rfl, rfl⟩ rfl rfl ?_
            exact E_rv dX3_take_129 rfl ⟨rfl, rfl⟩ hy
        · replace hy := hy.2 h16
          refine E_aload_n 0 dX3_take_80 rfl rfl ?_
          refine E_cv (M := mX3_take) (pc := 81) (As := []) (st := []) mX3_takeNumber 0 3 7 dX3_take_81 lk_RX3_123 ⟨_, rfl, rfl⟩ sh_2 rfl (Nat.le_of_ble_eq_true rfl) ⟨rfl, rfl⟩ (Nat.le_of_ble_eq_true rfl) rfl hy ?_
          rintro r n I21 G21 J21 ⟨rfl, rfl, rfl, rfl, hy⟩
          show Ev (d + 1) mX3_take 136 84 [some (.ref 2)] [] 136 I21 G J Φ
          refine E_goto 129 dX3_take_84 rfl ?_
          exact E_rv dX3_take_129 rfl ⟨rfl, rfl⟩ hy
      · replace hy := hy.2 h13
        refine E_aload_n 0 dX3_take_57 rfl rfl ?_
        refine E_iconst (0 : Int32) dX3_take_58 rfl ?_
        refine E_puti 3 5 2 7 dX3_take_59 fl_RX3_40 rfl sh_2 ⟨_, rfl, rfl⟩ rfl rfl ?_
        refine E_goto 129 dX3_take_62 rfl ?_
        exact E_rv dX3_take_129 rfl ⟨rfl, rfl⟩ hy
    · replace hy := hy.2 (Decidable.not_not.mp h12)
      refine E_aload_n 0 dX3_take_25 rfl rfl ?_
      refine E_dup dX3_take_26 rfl ?_
      refine E_geti 3 3 2 7 dX3_take_27 fl_RX3_29 rfl sh_2 ?_
      refine E_iconst (1 : Int32) dX3_take_30 rfl ?_
      refine E_iadd dX3_take_31 ?_
      refine E_puti 3 3 2 7 dX3_take_32 fl_RX3_29 rfl sh_2 ⟨_, rfl, rfl⟩ rfl rfl ?_
      refine E_goto 0 dX3_take_35 rfl ?_
      exact hy
set_option maxRecDepth 100000 in
theorem w_X3_takeNumber {d : Nat} {I : MI} {G : MG} {J : MJ} {Φ : Ph} (hG : WG G)  (hy : ((I 2 2) ≤ (I 2 3) → Ev (d + 1) mX3_takeNumber 136 36 [some (.ref 2), some (.int (0 : Int32)), none] [] 136 (u2 I 2 6 (0 : Int32)) G J Φ) ∧ (¬ (I 2 2) ≤ (I 2 3) → vp_in (I 2 3) 200 ∧ ((¬ (I 1 (I 2 3).toNatClampNeg) = (48 : Int32) → Ev (d + 1) mX3_takeNumber 136 36 [some (.ref 2), some (.int (0 : Int32)), none] [] 136 (u2 I 2 6 (0 : Int32)) G J Φ) ∧ ((I 1 (I 2 3).toNatClampNeg) = (48 : Int32) → Ev (d + 1) mX3_takeNumber 136 36 [some (.ref 2), some (.int (1 : Int32)), none] [] 136 (u2 I 2 6 (0 : Int32)) G J Φ)))) : Ev (d + 1) mX3_takeNumber 136 0 [some (.ref 2), none, none] [] 136 I G J Φ := by
  refine E_aload_n 0 dX3_takeNumber_0 rfl rfl ?_
  refine E_geti 3 3 2 7 dX3_takeNumber_1 fl_RX3_29 rfl sh_2 ?_
  refine E_aload_n 0 dX3_takeNumber_4 rfl rfl ?_
  refine E_geti 3 2 2 7 dX3_takeNumber_5 fl_RX3_25 rfl sh_2 ?_
  refine E_icmp_ge 29 dX3_takeNumber_8 rfl (fun h1 => ?_) (fun h1 => ?_)
  · replace hy := hy.1 h1
    refine E_iconst (0 : Int32) dX3_takeNumber_29 rfl ?_
    refine E_istore_n 1 dX3_takeNumber_30 rfl (Nat.le_of_ble_eq_true rfl) (?_ : Ev (d + 1) mX3_takeNumber 136 31 [some (.ref 2), some (.int (0 : Int32)), none] [] 136 I G J Φ)
    refine E_aload_n 0 dX3_takeNumber_31 rfl rfl ?_
    refine E_iconst (0 : Int32) dX3_takeNumber_32 rfl ?_
    refine E_puti 3 6 2 7 dX3_takeNumber_33 fl_RX3_62 rfl sh_2 ⟨_, rfl, rfl⟩ rfl rfl ?_
    exact hy
  · replace hy := hy.2 h1
    refine E_aload_n 0 dX3_takeNumber_11 rfl rfl ?_
    refine E_getr 3 0 2 7 1 dX3_takeNumber_12 fl_RX3_15 rfl sh_2 (wg_2_0 hG) ?_
    refine E_aload_n 0 dX3_takeNumber_15 rfl rfl ?_
    refine E_geti 3 3 2 7 dX3_takeNumber_16 fl_RX3_29 rfl sh_2 ?_
    have c2 := hy.1
    replace hy := hy.2
    refine E_ca 1 200 (I 2 3).toNatClampNeg dX3_takeNumber_19 sh_1 c2 rfl ?_
    refine E_bipush (48 : Int32) dX3_takeNumber_20 rfl ?_
    refine E_icmp_ne 29 dX3_takeNumber_22 rfl (fun h3 => ?_) (fun h3 => ?_)
    · replace hy := hy.1 h3
      refine E_iconst (0 : Int32) dX3_takeNumber_29 rfl ?_
      refine E_istore_n 1 dX3_takeNumber_30 rfl (Nat.le_of_ble_eq_true rfl) (?_ : Ev (d + 1) mX3_takeNumber 136 31 [some (.ref 2), some (.int (0 : Int32)), none] [] 136 I G J Φ)
      refine E_aload_n 0 dX3_takeNumber_31 rfl rfl ?_
      refine E_iconst (0 : Int32) dX3_takeNumber_32 rfl ?_
      refine E_puti 3 6 2 7 dX3_takeNumber_33 fl_RX3_62 rfl sh_2 ⟨_, rfl, rfl⟩ rfl rfl ?_
      exact hy
    · replace hy := hy.2 (Decidable.not_not.mp h3)
      refine E_iconst (1 : Int32) dX3_takeNumber_25 rfl ?_
      refine E_goto 30 dX3_takeNumber_26 rfl ?_
      refine E_istore_n 1 dX3_takeNumber_30 rfl (Nat.le_of_ble_eq_true rfl) (?_ : Ev (d + 1) mX3_takeNumber 136 31 [some (.ref 2), some (.int (1 : Int32)), none] [] 136 I G J Φ)
      refine E_aload_n 0 dX3_takeNumber_31 rfl rfl ?_
      refine E_iconst (0 : Int32) dX3_takeNumber_32 rfl ?_
      refine E_puti 3 6 2 7 dX3_takeNumber_33 fl_RX3_62 rfl sh_2 ⟨_, rfl, rfl⟩ rfl rfl ?_
      exact hy
set_option maxRecDepth 100000 in
theorem w_X3_takeNumber_36 {d : Nat} {I : MI} {G : MG} {J : MJ} {Φ : Ph} (hG : WG G)  (x1 : Int32) (hy : ((I 2 2) ≤ (I 2 3) → ((511 : Int32) < (I 2 6) → Φ none 136 (u2 I 2 5 (1 : Int32)) G J) ∧ (¬ (511 : Int32) < (I 2 6) → (x1 = 0 → Φ none 136 (u2 I 2 5 (2 : Int32)) G J) ∧ (¬ x1 = 0 → (((I 2 3) - (I 2 4)) ≤ (1 : Int32) → Φ none 136 (u2 I 2 5 (2 : Int32)) G J) ∧ (¬ ((I 2 3) - (I 2 4)) ≤ (1 : Int32) → Φ none 136 (u2 I 2 5 (1 : Int32)) G J)))) ∧ (¬ (I 2 2) ≤ (I 2 3) → vp_in (I 2 3) 200 ∧ (Ev d mX3_isDigit 136 0 [some (.int (I 1 (I 2 3).toNatClampNeg))] [] 136 I G J (fun r n I10 G10 J10 => ∃ v10 : Int32, r = some (.int v10) ∧ n = 136 ∧ I = I10 ∧ G = G10 ∧ J = J10 ∧ ((v10 = 0 → ((511 : Int32) < (I 2 6) → Φ none 136 (u2 I 2 5 (1 : Int32)) G J) ∧ (¬ (511 : Int32) < (I 2 6) → (x1 = 0 → Φ none 136 (u2 I 2 5 (2 : Int32)) G J) ∧ (¬ x1 = 0 → (((I 2 3) - (I 2 4)) ≤ (1 : Int32) → Φ none 136 (u2 I 2 5 (2 : Int32)) G J) ∧ (¬ ((I 2 3) - (I 2 4)) ≤ (1 : Int32) → Φ none 136 (u2 I 2 5 (1 : Int32)) G J)))) ∧ (¬ v10 = 0 → ((511 : Int32) < (I 2 6) → Ev (d + 1) mX3_takeNumber 136 36 [some (.ref 2), some (.int x1), none] [] 136 (u2 I 2 3 ((I 2 3) + (1 : Int32))) G J Φ) ∧ (¬ (511 : Int32) < (I 2 6) → vp_in (I 2 3) 200 ∧ (Ev (d + 1) mX3_takeNumber 136 36 [some (.ref 2), some (.int x1), none] [] 136 (u2 (u2 I 2 6 (((I 2 6) * (10 : Int32)) + ((I 1 (I 2 3).toNatClampNeg) - (48 : Int32)))) 2 3 ((I 2 3) + (1 : Int32))) G J Φ)))))))) : Ev (d + 1) mX3_takeNumber 136 36 [some (.ref 2), some (.int x1), none] [] 136 I G J Φ := by
  refine E_aload_n 0 dX3_takeNumber_36 rfl rfl ?_
  refine E_geti 3 3 2 7 dX3_takeNumber_37 fl_RX3_29 rfl sh_2 ?_
  refine E_aload_n 0 dX3_takeNumber_40 rfl rfl ?_
  refine E_geti 3 2 2 7 dX3_takeNumber_41 fl_RX3_25 rfl sh_2 ?_
  refine E_icmp_ge 109 dX3_takeNumber_44 rfl (fun h1 => ?_) (fun h1 => ?_)
  · replace hy := hy.1 h1
    refine E_aload_n 0 dX3_takeNumber_109 rfl rfl ?_
    refine E_geti 3 6 2 7 dX3_takeNumber_110 fl_RX3_62 rfl sh_2 ?_
    refine E_sipush (511 : Int32) dX3_takeNumber_113 rfl ?_
    refine E_icmp_gt 136 dX3_takeNumber_116 rfl (fun h2 => ?_) (fun h2 => ?_)
    · replace hy := hy.1 h2
      refine E_iconst (1 : Int32) dX3_takeNumber_136 rfl ?_
      refine E_goto 141 dX3_takeNumber_137 rfl ?_
      refine E_istore_n 2 dX3_takeNumber_141 rfl (Nat.le_of_ble_eq_true rfl) (?_ : Ev (d + 1) mX3_takeNumber 136 142 [some (.ref 2), some (.int x1), some (.int (1 : Int32))] [] 136 I G J Φ)
      refine E_aload_n 0 dX3_takeNumber_142 rfl rfl ?_
      refine E_iload_n 2 dX3_takeNumber_143 rfl rfl ?_
      refine E_if_eq 151 dX3_takeNumber_144 rfl (fun h3 => ?_) (fun h3 => ?_)
      · exact absurd h3 (by decide)
      refine E_iconst (1 : Int32) dX3_takeNumber_147 rfl ?_
      refine E_goto 152 dX3_takeNumber_148 rfl ?_
      refine E_puti 3 5 2 7 dX3_takeNumber_152 fl_RX3_40 rfl sh_2 ⟨_, rfl, rfl⟩ rfl rfl ?_
      exact E_rv dX3_takeNumber_155 rfl ⟨rfl, rfl⟩ hy
    · replace hy := hy.2 h2
      refine E_iload_n 1 dX3_takeNumber_119 rfl rfl ?_
      refine E_if_eq 140 dX3_takeNumber_120 rfl (fun h4 => ?_) (fun h4 => ?_)
      · replace hy := hy.1 h4
        refine E_iconst (0 : Int32) dX3_takeNumber_140 rfl ?_
        refine E_istore_n 2 dX3_takeNumber_141 rfl (Nat.le_of_ble_eq_true rfl) (?_ : Ev (d + 1) mX3_takeNumber 136 142 [some (.ref 2), some (.int x1), some (.int (0 : Int32))] [] 136 I G J Φ)
        refine E_aload_n 0 dX3_takeNumber_142 rfl rfl ?_
        refine E_iload_n 2 dX3_takeNumber_143 rfl rfl ?_
        refine E_if_eq 151 dX3_takeNumber_144 rfl (fun h5 => ?_) (fun h5 => ?_)
        rotate_left
        · exact absurd (by decide) h5
        refine E_iconst (2 : Int32) dX3_takeNumber_151 rfl ?_
        refine E_puti 3 5 2 7 dX3_takeNumber_152 fl_RX3_40 rfl sh_2 ⟨_, rfl, rfl⟩ rfl rfl ?_
        exact E_rv dX3_takeNumber_155 rfl ⟨rfl, rfl⟩ hy
      · replace hy := hy.2 h4
        refine E_aload_n 0 dX3_takeNumber_123 rfl rfl ?_
        refine E_geti 3 3 2 7 dX3_takeNumber_124 fl_RX3_29 rfl sh_2 ?_
        refine E_aload_n 0 dX3_takeNumber_127 rfl rfl ?_
        refine E_geti 3 4 2 7 dX3_takeNumber_128 fl_RX3_47 rfl sh_2 ?_
        refine E_isub dX3_takeNumber_131 ?_
        refine E_iconst (1 : Int32) dX3_takeNumber_132 rfl ?_
        refine E_icmp_le 140 dX3_takeNumber_133 rfl (fun h6 => ?_) (fun h6 => ?_)
        · replace hy := hy.1 h6
          refine E_iconst (0 : Int32) dX3_takeNumber_140 rfl ?_
          refine E_istore_n 2 dX3_takeNumber_141 rfl (Nat.le_of_ble_eq_true rfl) (?_ : Ev (d + 1) mX3_takeNumber 136 142 [some (.ref 2), some (.int x1), some (.int (0 : Int32))] [] 136 I G J Φ)
          refine E_aload_n 0 dX3_takeNumber_142 rfl rfl ?_
          refine E_iload_n 2 dX3_takeNumber_143 rfl rfl ?_
          refine E_if_eq 151 dX3_takeNumber_144 rfl (fun h7 => ?_) (fun h7 => ?_)
          rotate_left
          · exact absurd (by decide) h7
          refine E_iconst (2 : Int32) dX3_takeNumber_151 rfl ?_
          refine E_puti 3 5 2 7 dX3_takeNumber_152 fl_RX3_40 rfl sh_2 ⟨_, rfl, rfl⟩ rfl rfl ?_
          exact E_rv dX3_takeNumber_155 rfl ⟨rfl, rfl⟩ hy
        · replace hy := hy.2 h6
          refine E_iconst (1 : Int32) dX3_takeNumber_136 rfl ?_
          refine E_goto 141 dX3_takeNumber_137 rfl ?_
          refine E_istore_n 2 dX3_takeNumber_141 rfl (Nat.le_of_ble_eq_true rfl) (?_ : Ev (d + 1) mX3_takeNumber 136 142 [some (.ref 2), some (.int x1), some (.int (1 : Int32))] [] 136 I G J Φ)
          refine E_aload_n 0 dX3_takeNumber_142 rfl rfl ?_
          refine E_iload_n 2 dX3_takeNumber_143 rfl rfl ?_
          refine E_if_eq 151 dX3_takeNumber_144 rfl (fun h8 => ?_) (fun h8 => ?_)
          · exact absurd h8 (by decide)
          refine E_iconst (1 : Int32) dX3_takeNumber_147 rfl ?_
          refine E_goto 152 dX3_takeNumber_148 rfl ?_
          refine E_puti 3 5 2 7 dX3_takeNumber_152 fl_RX3_40 rfl sh_2 ⟨_, rfl, rfl⟩ rfl rfl ?_
          exact E_rv dX3_takeNumber_155 rfl ⟨rfl, rfl⟩ hy
  · replace hy := hy.2 h1
    refine E_aload_n 0 dX3_takeNumber_47 rfl rfl ?_
    refine E_getr 3 0 2 7 1 dX3_takeNumber_48 fl_RX3_15 rfl sh_2 (wg_2_0 hG) ?_
    refine E_aload_n 0 dX3_takeNumber_51 rfl rfl ?_
    refine E_geti 3 3 2 7 dX3_takeNumber_52 fl_RX3_29 rfl sh_2 ?_
    have c9 := hy.1
    replace hy := hy.2
    refine E_ca 1 200 (I 2 3).toNatClampNeg dX3_takeNumber_55 sh_1 c9 rfl ?_
    refine E_cs (M := mX3_takeNumber) (pc := 56) (As := [.int (I 1 (I 2 3).toNatClampNeg)]) (st := []) mX3_isDigit 1 dX3_takeNumber_56 lk_RX3_119 rfl (Nat.le_of_ble_eq_true rfl) ⟨rfl, rfl⟩ (Nat.le_of_ble_eq_true rfl) rfl hy ?_
    rintro r n I10 G10 J10 ⟨v10, rfl, rfl, rfl, rfl, rfl, hy⟩
    show Ev (d + 1) mX3_takeNumber 136 59 [some (.ref 2), some (.int x1), none] [.int v10] 136 I G J Φ
    refine E_if_eq 109 dX3_takeNumber_59 rfl (fun h11 => ?_) (fun h11 => ?_)
    · replace hy := hy.1 h11
      refine E_aload_n 0 dX3_takeNumber_109 rfl rfl ?_
      refine E_geti 3 6 2 7 dX3_takeNumber_110 fl_RX3_62 rfl sh_2 ?_
      refine E_sipush (511 : Int32) dX3_takeNumber_113 rfl ?_
      refine E_icmp_gt 136 dX3_takeNumber_116 rfl (fun h12 => ?_) (fun h12 => ?_)
      · replace hy := hy.1 h12
        refine E_iconst (1 : Int32) dX3_takeNumber_136 rfl ?_
        refine E_goto 141 dX3_takeNumber_137 rfl ?_
        refine E_istore_n 2 dX3_takeNumber_141 rfl (Nat.le_of_ble_eq_true rfl) (?_ : Ev (d + 1) mX3_takeNumber 136 142 [some (.ref 2), some (.int x1), some (.int (1 : Int32))] [] 136 I G J Φ)
        refine E_aload_n 0 dX3_takeNumber_142 rfl rfl ?_
        refine E_iload_n 2 dX3_takeNumber_143 rfl rfl ?_
        refine E_if_eq 151 dX3_takeNumber_144 rfl (fun h13 => ?_) (fun h13 => ?_)
        · exact absurd h13 (by decide)
        refine E_iconst (1 : Int32) dX3_takeNumber_147 rfl ?_
        refine E_goto 152 dX3_takeNumber_148 rfl ?_
        refine E_puti 3 5 2 7 dX3_takeNumber_152 fl_RX3_40 rfl sh_2 ⟨_, rfl, rfl⟩ rfl rfl ?_
        exact E_rv dX3_takeNumber_155 rfl ⟨rfl, rfl⟩ hy
      · replace hy := hy.2 h12
        refine E_iload_n 1 dX3_takeNumber_119 rfl rfl ?_
        refine E_if_eq 140 dX3_takeNumber_120 rfl (fun h14 => ?_) (fun h14 => ?_)
        · replace hy := hy.1 h14
          refine E_iconst (0 : Int32) dX3_takeNumber_140 rfl ?_
          refine E_istore_n 2 dX3_takeNumber_141 rfl (Nat.le_of_ble_eq_true rfl) (?_ : Ev (d + 1) mX3_takeNumber 136 142 [some (.ref 2), some (.int x1), some (.int (0 : Int32))] [] 136 I G J Φ)
          refine E_aload_n 0 dX3_takeNumber_142 rfl rfl ?_
          refine E_iload_n 2 dX3_takeNumber_143 rfl rfl ?_
          refine E_if_eq 151 dX3_takeNumber_144 rfl (fun h15 => ?_) (fun h15 => ?_)
          rotate_left
          · exact absurd (by decide) h15
          refine E_iconst (2 : Int32) dX3_takeNumber_151 rfl ?_
          refine E_puti 3 5 2 7 dX3_takeNumber_152 fl_RX3_40 rfl sh_2 ⟨_, rfl, rfl⟩ rfl rfl ?_
          exact E_rv dX3_takeNumber_155 rfl ⟨rfl, rfl⟩ hy
        · replace hy := hy.2 h14
          refine E_aload_n 0 dX3_takeNumber_123 rfl rfl ?_
          refine E_geti 3 3 2 7 dX3_takeNumber_124 fl_RX3_29 rfl sh_2 ?_
          refine E_aload_n 0 dX3_takeNumber_127 rfl rfl ?_
          refine E_geti 3 4 2 7 dX3_takeNumber_128 fl_RX3_47 rfl sh_2 ?_
          refine E_isub dX3_takeNumber_131 ?_
          refine E_iconst (1 : Int32) dX3_takeNumber_132 rfl ?_
          refine E_icmp_le 140 dX3_takeNumber_133 rfl (fun h16 => ?_) (fun h16 => ?_)
          · replace hy := hy.1 h16
            refine E_iconst (0 : Int32) dX3_takeNumber_140 rfl ?_
            refine E_istore_n 2 dX3_takeNumber_141 rfl (Nat.le_of_ble_eq_true rfl) (?_ : Ev (d + 1) mX3_takeNumber 136 142 [some (.ref 2), some (.int x1), some (.int (0 : Int32))] [] 136 I G J Φ)
            refine E_aload_n 0 dX3_takeNumber_142 rfl rfl ?_
            refine E_iload_n 2 dX3_takeNumber_143 rfl rfl ?_
            refine E_if_eq 151 dX3_takeNumber_144 rfl (fun h17 => ?_) (fun h17 => ?_)
            rotate_left
            · exact absurd (by decide) h17
            refine E_iconst (2 : Int32) dX3_takeNumber_151 rfl ?_
            refine E_puti 3 5 2 7 dX3_takeNumber_152 fl_RX3_40 rfl sh_2 ⟨_, rfl, rfl⟩ rfl rfl ?_
            exact E_rv dX3_takeNumber_155 rfl ⟨rfl, rfl⟩ hy
          · replace hy := hy.2 h16
            refine E_iconst (1 : Int32) dX3_takeNumber_136 rfl ?_
            refine E_goto 141 dX3_takeNumber_137 rfl ?_
            refine E_istore_n 2 dX3_takeNumber_141 rfl (Nat.le_of_ble_eq_true rfl) (?_ : Ev (d + 1) mX3_takeNumber 136 142 [some (.ref 2), some (.int x1), some (.int (1 : Int32))] [] 136 I G J Φ)
            refine E_aload_n 0 dX3_takeNumber_142 rfl rfl ?_
            refine E_iload_n 2 dX3_takeNumber_143 rfl rfl ?_
            refine E_if_eq 151 dX3_takeNumber_144 rfl (fun h18 => ?_) (fun h18 => ?_)
            · exact absurd h18 (by decide)
            refine E_iconst (1 : Int32) dX3_takeNumber_147 rfl ?_
            refine E_goto 152 dX3_takeNumber_148 rfl ?_
            refine E_puti 3 5 2 7 dX3_takeNumber_152 fl_RX3_40 rfl sh_2 ⟨_, rfl, rfl⟩ rfl rfl ?_
            exact E_rv dX3_takeNumber_155 rfl ⟨rfl, rfl⟩ hy
    · replace hy := hy.2 h11
      refine E_aload_n 0 dX3_takeNumber_62 rfl rfl ?_
      refine E_geti 3 6 2 7 dX3_takeNumber_63 fl_RX3_62 rfl sh_2 ?_
      refine E_sipush (511 : Int32) dX3_takeNumber_66 rfl ?_
      refine E_icmp_gt 96 dX3_takeNumber_69 rfl (fun h19 => ?_) (fun h19 => ?_)
      · replace hy := hy.1 h19
        refine E_aload_n 0 dX3_takeNumber_96 rfl rfl ?_
        refine E_dup dX3_takeNumber_97 rfl ?_
        refine E_geti 3 3 2 7 dX3_takeNumber_98 fl_RX3_29 rfl sh_2 ?_
        refine E_iconst (1 : Int32) dX3_takeNumber_101 rfl ?_
        refine E_iadd dX3_takeNumber_102 ?_
        refine E_puti 3 3 2 7 dX3_takeNumber_103 fl_RX3_29 rfl sh_2 ⟨_, rfl, rfl⟩ rfl rfl ?_
        refine E_goto 36 dX3_takeNumber_106 rfl ?_
        exact hy
      · replace hy := hy.2 h19
        refine E_aload_n 0 dX3_takeNumber_72 rfl rfl ?_
        refine E_aload_n 0 dX3_takeNumber_73 rfl rfl ?_
        refine E_geti 3 6 2 7 dX3_takeNumber_74 fl_RX3_62 rfl sh_2 ?_
        refine E_bipush (10 : Int32) dX3_takeNumber_77 rfl ?_
        refine E_imul dX3_takeNumber_79 ?_
        refine E_aload_n 0 dX3_takeNumber_80 rfl rfl ?_
        refine E_getr 3 0 2 7 1 dX3_takeNumber_81 fl_RX3_15 rfl sh_2 (wg_2_0 hG) ?_
        refine E_aload_n 0 dX3_takeNumber_84 rfl rfl ?_
        refine E_geti 3 3 2 7 dX3_takeNumber_85 fl_RX3_29 rfl sh_2 ?_
        have c20 := hy.1
        replace hy := hy.2
        refine E_ca 1 200 (I 2 3).toNatClampNeg dX3_takeNumber_88 sh_1 c20 rfl ?_
        refine E_bipush (48 : Int32) dX3_takeNumber_89 rfl ?_
        refine E_isub dX3_takeNumber_91 ?_
        refine E_iadd dX3_takeNumber_92 ?_
        refine E_puti 3 6 2 7 dX3_takeNumber_93 fl_RX3_62 rfl sh_2 ⟨_, rfl, rfl⟩ rfl rfl ?_
        refine E_aload_n 0 dX3_takeNumber_96 rfl rfl ?_
        refine E_dup dX3_takeNumber_97 rfl ?_
        refine E_getw 3 3 2 7 (I 2 3) dX3_takeNumber_98 fl_RX3_29 rfl sh_2 rfl ?_
        refine E_iconst (1 : Int32) dX3_takeNumber_101 rfl ?_
        refine E_iadd dX3_takeNumber_102 ?_
        refine E_puti 3 3 2 7 dX3_takeNumber_103 fl_RX3_29 rfl sh_2 ⟨_, rfl, rfl⟩ rfl rfl ?_
        refine E_goto 36 dX3_takeNumber_106 rfl ?_
        exact hy
