set_option maxRecDepth 100000 in
theorem w_X5_back {d : Nat} {I : MI} {G : MG} {J : MJ} {Φ : Ph} (hG : WG G) (x1 : Int32) (hy : Ev d mX5_in 136 0 [some (.long (x1.toInt64)), none, some (.long (0 : Int64)), none, some (.long (1 : Int64)), none] [] 136 I G J (fun r n I1 G1 J1 => ∃ v1 : Int32, r = some (.int v1) ∧ n = 136 ∧ I = I1 ∧ G = G1 ∧ J = J1 ∧ ((¬ v1 = 0 → vp_in x1 2 ∧ ((¬ (I 124 (x1).toNatClampNeg) = 0 → Ev d mX5_copy 136 0 [some (.ref 122), some (.int ((200 : Int32) + ((100 : Int32) * x1))), some (.int (0 : Int32)), none] [] 136 I G J (fun r n I5 G5 J5 => r = none ∧ n = 136 ∧ G = G5 ∧ J = J5 ∧ (Φ (some (.int (I5 123 14))) 136 (u2 I5 122 28 (0 : Int32)) G J))) ∧ ((I 124 (x1).toNatClampNeg) = 0 → Φ (some (.int (-2 : Int32))) 136 I G J))) ∧ (v1 = 0 → Φ (some (.int (-1 : Int32))) 136 I G J)))) : Ev (d + 1) mX5_back 136 0 [some (.ref 122), some (.int x1)] [] 136 I G J Φ := by
  refine E_iload_n 1 dX5_back_0 rfl rfl ?_
  refine E_i2l dX5_back_1 ?_
  refine E_lconst (0 : Int64) dX5_back_2 rfl ?_
  refine E_lconst (1 : Int64) dX5_back_3 rfl ?_
  refine E_cs (M := mX5_back) (pc := 4) (As := [.long (x1.toInt64), .long (0 : Int64), .long (1 : Int64)]) (st := []) mX5_in 3 dX5_back_4 lk_RX5_59 rfl (Nat.le_of_ble_eq_true rfl) ⟨rfl, rfl⟩ (Nat.le_of_ble_eq_true rfl) rfl hy ?_
  rintro r n I1 G1 J1 ⟨v1, rfl, rfl, rfl, rfl, rfl, hy⟩
  show Ev (d + 1) mX5_back 136 7 [some (.ref 122), some (.int x1)] [.int v1] 136 I G J Φ
  refine E_if_ne 12 dX5_back_7 rfl (fun h2 => ?_) (fun h2 => ?_)
  · replace hy := hy.1 h2
    refine E_aload_n 0 dX5_back_12 rfl rfl ?_
    refine E_getr 5 1 122 33 124 dX5_back_13 fl_RX5_13 rfl sh_122 (wg_122_1 hG) ?_
    refine E_iload_n 1 dX5_back_16 rfl rfl ?_
    have c3 := hy.1
    replace hy := hy.2
    refine E_za 124 2 (x1).toNatClampNeg dX5_back_17 sh_124 c3 rfl ?_
    refine E_if_ne 24 dX5_back_18 rfl (fun h4 => ?_) (fun h4 => ?_)
    · replace hy := hy.1 h4
      refine E_aload_n 0 dX5_back_24 rfl rfl ?_
      refine E_sipush (200 : Int32) dX5_back_25 rfl ?_
      refine E_bipush (100 : Int32) dX5_back_28 rfl ?_
      refine E_iload_n 1 dX5_back_30 rfl rfl ?_
      refine E_imul dX5_back_31 ?_
      refine E_iadd dX5_back_32 ?_
      refine E_iconst (0 : Int32) dX5_back_33 rfl ?_
      refine E_cv (M := mX5_back) (pc := 34) (As := [.int ((200 : Int32) + ((100 : Int32) * x1)), .int (0 : Int32)]) (st := []) mX5_copy 2 5 33 dX5_back_34 lk_RX5_172 ⟨_, rfl, rfl⟩ sh_122 rfl (Nat.le_of_ble_eq_true rfl) ⟨rfl, rfl⟩ (Nat.le_of_ble_eq_true rfl) rfl hy ?_
      rintro r n I5 G5 J5 ⟨rfl, rfl, rfl, rfl, hy⟩
      show Ev (d + 1) mX5_back 136 37 [some (.ref 122), some (.int x1)] [] 136 I5 G J Φ
      refine E_aload_n 0 dX5_back_37 rfl rfl ?_
      refine E_iconst (0 : Int32) dX5_back_38 rfl ?_
      refine E_puti 5 28 122 33 dX5_back_39 fl_RX5_146 rfl sh_122 ⟨_, rfl, rfl⟩ rfl rfl ?_
      refine E_aload_n 0 dX5_back_42 rfl rfl ?_
      refine E_getr 5 0 122 33 123 dX5_back_43 fl_RX5_7 rfl sh_122 (wg_122_0 hG) ?_
      refine E_bipush (14 : Int32) dX5_back_46 rfl ?_
      refine E_awi 123 1400 14 (I5 123 14) dX5_back_48 sh_123 (vpd (by decide)) rfl rfl ?_
      exact E_ri dX5_back_49 rfl ⟨rfl, rfl⟩ hy
    · replace hy := hy.2 (Decidable.not_not.mp h4)
      refine E_bipush (-2 : Int32) dX5_back_21 rfl ?_
      exact E_ri dX5_back_23 rfl ⟨rfl, rfl⟩ hy
  · replace hy := hy.2 (Decidable.not_not.mp h2)
    refine E_iconst (-1 : Int32) dX5_back_10 rfl ?_
    exact E_ri dX5_back_11 rfl ⟨rfl, rfl⟩ hy
set_option maxRecDepth 100000 in
theorem w_X5_begin {d : Nat} {I : MI} {G : MG} {J : MJ} {Φ : Ph} (hG : WG G)  (hy : Ev d mX5_begin 136 2 [some (.ref 122), some (.int (0 : Int32))] [] 136 I G J Φ) : Ev d mX5_begin 136 0 [some (.ref 122), none] [] 136 I G J Φ := by
  refine E_iconst (0 : Int32) dX5_begin_0 rfl ?_
  refine E_istore_n 1 dX5_begin_1 rfl (Nat.le_of_ble_eq_true rfl) (?_ : Ev d mX5_begin 136 2 [some (.ref 122), some (.int (0 : Int32))] [] 136 I G J Φ)
  exact hy
set_option maxRecDepth 100000 in
theorem w_X5_begin_2 {d : Nat} {I : MI} {G : MG} {J : MJ} {Φ : Ph} (hG : WG G)  (x1 : Int32) (hy : ((100 : Int32) ≤ x1 → Ev d mX5_begin 136 23 [some (.ref 122), some (.int (0 : Int32))] [] 136 I G J Φ) ∧ (¬ (100 : Int32) ≤ x1 → vp_in x1 1400 ∧ (Ev d mX5_begin 136 2 [some (.ref 122), some (.int (x1 + (1 : Int32)))] [] 136 (u2 I 123 (x1).toNatClampNeg (0 : Int32)) G J Φ))) : Ev d mX5_begin 136 2 [some (.ref 122), some (.int x1)] [] 136 I G J Φ := by
  refine E_iload_n 1 dX5_begin_2 rfl rfl ?_
  refine E_bipush (100 : Int32) dX5_begin_3 rfl ?_
  refine E_icmp_ge 21 dX5_begin_5 rfl (fun h1 => ?_) (fun h1 => ?_)
  · replace hy := hy.1 h1
    refine E_iconst (0 : Int32) dX5_begin_21 rfl ?_
    refine E_istore_n 1 dX5_begin_22 rfl (Nat.le_of_ble_eq_true rfl) (?_ : Ev d mX5_begin 136 23 [some (.ref 122), some (.int (0 : Int32))] [] 136 I G J Φ)
    exact hy
  · replace hy := hy.2 h1
    refine E_aload_n 0 dX5_begin_8 rfl rfl ?_
    refine E_getr 5 0 122 33 123 dX5_begin_9 fl_RX5_7 rfl sh_122 (wg_122_0 hG) ?_
    refine E_iload_n 1 dX5_begin_12 rfl rfl ?_
    refine E_iconst (0 : Int32) dX5_begin_13 rfl ?_
    have c2 := hy.1
    replace hy := hy.2
    refine E_is 123 1400 (x1).toNatClampNeg dX5_begin_14 sh_123 c2 rfl ?_
    refine E_iinc (x1 + (1 : Int32)) dX5_begin_15 rfl rfl (Nat.le_of_ble_eq_true rfl) (?_ : Ev d mX5_begin 136 18 [some (.ref 122), some (.int (x1 + (1 : Int32)))] [] 136 (u2 I 123 (x1).toNatClampNeg (0 : Int32)) G J Φ)
    refine E_goto 2 dX5_begin_18 rfl ?_
    exact hy
set_option maxRecDepth 100000 in
theorem w_X5_begin_23 {d : Nat} {I : MI} {G : MG} {J : MJ} {Φ : Ph} (hG : WG G)  (x1 : Int32) (hy : ((3 : Int32) ≤ x1 → Φ none 136 (u2 (u2 (u2 (u2 I 122 31 (0 : Int32)) 122 28 (0 : Int32)) 124 0 (0 : Int32)) 124 1 (0 : Int32)) G J) ∧ (¬ (3 : Int32) ≤ x1 → vp_in x1 6 ∧ (vp_in ((8 : Int32) + x1) 1400 ∧ (vp_in ((11 : Int32) + x1) 1400 ∧ (Ev d mX5_begin 136 23 [some (.ref 122), some (.int (x1 + (1 : Int32)))] [] 136 (u2 (u2 I 123 ((8 : Int32) + x1).toNatClampNeg (I 132 (x1).toNatClampNeg)) 123 ((11 : Int32) + x1).toNatClampNeg (-9 : Int32)) G J Φ))))) : Ev d mX5_begin 136 23 [some (.ref 122), some (.int x1)] [] 136 I G J Φ := by
  refine E_iload_n 1 dX5_begin_23 rfl rfl ?_
  refine E_iconst (3 : Int32) dX5_begin_24 rfl ?_
  refine E_icmp_ge 60 dX5_begin_25 rfl (fun h1 => ?_) (fun h1 => ?_)
  · replace hy := hy.1 h1
    refine E_aload_n 0 dX5_begin_60 rfl rfl ?_
    refine E_iconst (0 : Int32) dX5_begin_61 rfl ?_
    refine E_puti 5 31 122 33 dX5_begin_62 fl_RX5_143 rfl sh_122 ⟨_, rfl, rfl⟩ rfl rfl ?_
    refine E_aload_n 0 dX5_begin_65 rfl rfl ?_
    refine E_iconst (0 : Int32) dX5_begin_66 rfl ?_
    refine E_puti 5 28 122 33 dX5_begin_67 fl_RX5_146 rfl sh_122 ⟨_, rfl, rfl⟩ rfl rfl ?_
    refine E_aload_n 0 dX5_begin_70 rfl rfl ?_
    refine E_getr 5 1 122 33 124 dX5_begin_71 fl_RX5_13 rfl sh_122 (wg_122_1 hG) ?_
    refine E_iconst (0 : Int32) dX5_begin_74 rfl ?_
    refine E_iconst (0 : Int32) dX5_begin_75 rfl ?_
    refine E_zs 124 2 0 (0 : Int32) dX5_begin_76 sh_124 (vpd (by decide)) rfl rfl ?_
    refine E_aload_n 0 dX5_begin_77 rfl rfl ?_
    refine E_getr 5 1 122 33 124 dX5_begin_78 fl_RX5_13 rfl sh_122 (wg_122_1 hG) ?_
    refine E_iconst (1 : Int32) dX5_begin_81 rfl ?_
    refine E_iconst (0 : Int32) dX5_begin_82 rfl ?_
    refine E_zs 124 2 1 (0 : Int32) dX5_begin_83 sh_124 (vpd (by decide)) rfl rfl ?_
    exact E_rv dX5_begin_84 rfl ⟨rfl, rfl⟩ hy
  · replace hy := hy.2 h1
    refine E_aload_n 0 dX5_begin_28 rfl rfl ?_
    refine E_getr 5 0 122 33 123 dX5_begin_29 fl_RX5_7 rfl sh_122 (wg_122_0 hG) ?_
    refine E_bipush (8 : Int32) dX5_begin_32 rfl ?_
    refine E_iload_n 1 dX5_begin_34 rfl rfl ?_
    refine E_iadd dX5_begin_35 ?_
    refine E_aload_n 0 dX5_begin_36 rfl rfl ?_
    refine E_getr 5 9 122 33 132 dX5_begin_37 fl_RX5_38 rfl sh_122 (wg_122_9 hG) ?_
    refine E_iload_n 1 dX5_begin_40 rfl rfl ?_
    have c2 := hy.1
    replace hy := hy.2
    refine E_ia 132 6 (x1).toNatClampNeg dX5_begin_41 sh_132 c2 rfl ?_
    have c3 := hy.1
    replace hy := hy.2
    refine E_is 123 1400 ((8 : Int32) + x1).toNatClampNeg dX5_begin_42 sh_123 c3 rfl ?_
    refine E_aload_n 0 dX5_begin_43 rfl rfl ?_
    refine E_getr 5 0 122 33 123 dX5_begin_44 fl_RX5_7 rfl sh_122 (wg_122_0 hG) ?_
    refine E_bipush (11 : Int32) dX5_begin_47 rfl ?_
    refine E_iload_n 1 dX5_begin_49 rfl rfl ?_
    refine E_iadd dX5_begin_50 ?_
    refine E_bipush (-9 : Int32) dX5_begin_51 rfl ?_
    have c4 := hy.1
    replace hy := hy.2
    refine E_is 123 1400 ((11 : Int32) + x1).toNatClampNeg dX5_begin_53 sh_123 c4 rfl ?_
    refine E_iinc (x1 + (1 : Int32)) dX5_begin_54 rfl rfl (Nat.le_of_ble_eq_true rfl) (?_ : Ev d mX5_begin 136 57 [some (.ref 122), some (.int (x1 + (1 : Int32)))] [] 136 (u2 (u2 I 123 ((8 : Int32) + x1).toNatClampNeg (I 132 (x1).toNatClampNeg)) 123 ((11 : Int32) + x1).toNatClampNeg (-9 : Int32)) G J Φ)
    refine E_goto 23 dX5_begin_57 rfl ?_
    exact hy
set_option maxRecDepth 100000 in
theorem w_X5_blocks {d : Nat} {I : MI} {G : MG} {J : MJ} {Φ : Ph} (hG : WG G) (x1 : Int32) (hy : Ev d mX5_isHill 136 0 [some (.ref 122), some (.int x1)] [] 136 I G J (fun r n I1 G1 J1 => ∃ v1 : Int32, r = some (.int v1) ∧ n = 136 ∧ I = I1 ∧ G = G1 ∧ J = J1 ∧ ((¬ v1 = 0 → Ev d mX5_isOver 136 0 [some (.ref 122), some (.int (0 : Int32)), some (.int x1)] [] 136 I G J (fun r n I3 G3 J3 => ∃ v3 : Int32, r = some (.int v3) ∧ n = 136 ∧ I = I3 ∧ G = G3 ∧ J = J3 ∧ ((v3 = 0 → vp_in x1 1400 ∧ (Ev d mX5_blocksIn 136 0 [some (.ref 122), some (.int (0 : Int32)), some (.int x1), some (.int ((I 123 (x1).toNatClampNeg) + (1 : Int32))), none, none, none, none] [] 136 I G J (fun r n I6 G6 J6 => ∃ v6 : Int32, r = some (.int v6) ∧ n = 136 ∧ I = I6 ∧ G = G6 ∧ J = J6 ∧ (Φ (some (.int v6)) 136 I G J)))) ∧ (¬ v3 = 0 → Φ (some (.int (0 : Int32))) 136 I G J)))) ∧ (v1 = 0 → Φ (some (.int (-1 : Int32))) 136 I G J)))) : Ev (d + 1) mX5_blocks 136 0 [some (.ref 122), some (.int x1)] [] 136 I G J Φ := by
  refine E_aload_n 0 dX5_blocks_0 rfl rfl ?_
  refine E_iload_n 1 dX5_blocks_1 rfl rfl ?_
  refine E_cv (M := mX5_blocks) (pc := 2) (As := [.int x1]) (st := []) mX5_isHill 1 5 33 dX5_blocks_2 lk_RX5_149 ⟨_, rfl, rfl⟩ sh_122 rfl (Nat.le_of_ble_eq_true rfl) ⟨rfl, rfl⟩ (Nat.le_of_ble_eq_true rfl) rfl hy ?_
  rintro r n I1 G1 J1 ⟨v1, rfl, rfl, rfl, rfl, rfl, hy⟩
  show Ev (d + 1) mX5_blocks 136 5 [some (.ref 122), some (.int x1)] [.int v1] 136 I G J Φ
  refine E_if_ne 12 dX5_blocks_5 rfl (fun h2 => ?_) (fun h2 => ?_)
  · replace hy := hy.1 h2
    refine E_aload_n 0 dX5_blocks_12 rfl rfl ?_
    refine E_iconst (0 : Int32) dX5_blocks_13 rfl ?_
    refine E_iload_n 1 dX5_blocks_14 rfl rfl ?_
    refine E_cv (M := mX5_blocks) (pc := 15) (As := [.int (0 : Int32), .int x1]) (st := []) mX5_isOver 2 5 33 dX5_blocks_15 lk_RX5_158 ⟨_, rfl, rfl⟩ sh_122 rfl (Nat.le_of_ble_eq_true rfl) ⟨rfl, rfl⟩ (Nat.le_of_ble_eq_true rfl) rfl hy ?_
    rintro r n I3 G3 J3 ⟨v3, rfl, rfl, rfl, rfl, rfl, hy⟩
    show Ev (d + 1) mX5_blocks 136 18 [some (.ref 122), some (.int x1)] [.int v3] 136 I G J Φ
    refine E_if_eq 25 dX5_blocks_18 rfl (fun h4 => ?_) (fun h4 => ?_)
    · replace hy := hy.1 h4
      refine E_aload_n 0 dX5_blocks_25 rfl rfl ?_
      refine E_iconst (0 : Int32) dX5_blocks_26 rfl ?_
      refine E_iload_n 1 dX5_blocks_27 rfl rfl ?_
      refine E_aload_n 0 dX5_blocks_28 rfl rfl ?_
      refine E_getr 5 0 122 33 123 dX5_blocks_29 fl_RX5_7 rfl sh_122 (wg_122_0 hG) ?_
      refine E_iload_n 1 dX5_blocks_32 rfl rfl ?_
      have c5 := hy.1
      replace hy := hy.2
      refine E_ia 123 1400 (x1).toNatClampNeg dX5_blocks_33 sh_123 c5 rfl ?_
      refine E_iconst (1 : Int32) dX5_blocks_34 rfl ?_
      refine E_iadd dX5_blocks_35 ?_
      refine E_cv (M := mX5_blocks) (pc := 36) (As := [.int (0 : Int32), .int x1, .int ((I 123 (x1).toNatClampNeg) + (1 : Int32))]) (st := []) mX5_blocksIn 3 5 33 dX5_blocks_36 lk_RX5_186 ⟨_, rfl, rfl⟩ sh_122 rfl (Nat.le_of_ble_eq_true rfl) ⟨rfl, rfl⟩ (Nat.le_of_ble_eq_true rfl) rfl hy ?_
      rintro r n I6 G6 J6 ⟨v6, rfl, rfl, rfl, rfl, rfl, hy⟩
      show Ev (d + 1) mX5_blocks 136 39 [some (.ref 122), some (.int x1)] [.int v6] 136 I G J Φ
      exact E_ri dX5_blocks_39 rfl ⟨rfl, rfl⟩ hy
    · replace hy := hy.2 h4
      refine E_iconst (0 : Int32) dX5_blocks_21 rfl ?_
      refine E_goto 39 dX5_blocks_22 rfl ?_
      exact E_ri dX5_blocks_39 rfl ⟨rfl, rfl⟩ hy
  · replace hy := hy.2 (Decidable.not_not.mp h2)
    refine E_iconst (-1 : Int32) dX5_blocks_8 rfl ?_
    refine E_goto 39 dX5_blocks_9 rfl ?_
    exact E_ri dX5_blocks_39 rfl ⟨rfl, rfl⟩ hy
set_option maxRecDepth 100000 in
theorem w_X5_blocksIn {d : Nat} {I : MI} {G : MG} {J : MJ} {Φ : Ph} (hG : WG G) (x1 : Int32) (x2 : Int32) (x3 : Int32) (hy : Ev (d + 1) mX5_blocksIn 136 6 [some (.ref 122), some (.int x1), some (.int x2), some (.int x3), some (.int (0 : Int32)), some (.int (0 : Int32)), none, none] [] 136 I G J Φ) : Ev (d + 1) mX5_blocksIn 136 0 [some (.ref 122), some (.int x1), some (.int x2), some (.int x3), none, none, none, none] [] 136 I G J Φ := by
  refine E_iconst (0 : Int32) dX5_blocksIn_0 rfl ?_
  refine E_istore dX5_blocksIn_1 (Nat.le_of_ble_eq_true rfl) (?_ : Ev (d + 1) mX5_blocksIn 136 3 [some (.ref 122), some (.int x1), some (.int x2), some (.int x3), some (.int (0 : Int32)), none, none, none] [] 136 I G J Φ)
  refine E_iconst (0 : Int32) dX5_blocksIn_3 rfl ?_
  refine E_istore dX5_blocksIn_4 (Nat.le_of_ble_eq_true rfl) (?_ : Ev (d + 1) mX5_blocksIn 136 6 [some (.ref 122), some (.int x1), some (.int x2), some (.int x3), some (.int (0 : Int32)), some (.int (0 : Int32)), none, none] [] 136 I G J Φ)
  exact hy
set_option maxRecDepth 100000 in
theorem w_X5_blocksIn_6 {d : Nat} {I : MI} {G : MG} {J : MJ} {Φ : Ph} (hG : WG G)  (x1 : Int32) (x2 : Int32) (x3 : Int32) (x4 : Int32) (x5 : Int32) (hy : ((I 122 11) ≤ x5 → Φ (some (.int x4)) 136 I G J) ∧ (¬ (I 122 11) ≤ x5 → vp_in x5 8 ∧ ((¬ (I 129 (x5).toNatClampNeg) = x2 → vp_in x5 8 ∧ ((¬ (I 130 (x5).toNatClampNeg) = x2 → Ev (d + 1) mX5_blocksIn 136 59 [some (.ref 122), some (.int x1), some (.int x2), some (.int x3), some (.int x4), some (.int x5), none, none] [.int (-9 : Int32)] 136 I G J Φ) ∧ ((I 130 (x5).toNatClampNeg) = x2 → vp_in x5 8 ∧ (Ev (d + 1) mX5_blocksIn 136 59 [some (.ref 122), some (.int x1), some (.int x2), some (.int x3), some (.int x4), some (.int x5), none, none] [.int (I 129 (x5).toNatClampNeg)] 136 I G J Φ)))) ∧ ((I 129 (x5).toNatClampNeg) = x2 → vp_in x5 8 ∧ (Ev (d + 1) mX5_blocksIn 136 59 [some (.ref 122), some (.int x1), some (.int x2), some (.int x3), some (.int x4), some (.int x5), none, none] [.int (I 130 (x5).toNatClampNeg)] 136 I G J Φ))))) : Ev (d + 1) mX5_blocksIn 136 6 [some (.ref 122), some (.int x1), some (.int x2), some (.int x3), some (.int x4), some (.int x5), none, none] [] 136 I G J Φ := by
  refine E_iload dX5_blocksIn_6 rfl ?_
  refine E_aload_n 0 dX5_blocksIn_8 rfl rfl ?_
  refine E_geti 5 11 122 33 dX5_blocksIn_9 fl_RX5_134 rfl sh_122 ?_
  refine E_icmp_ge 131 dX5_blocksIn_12 rfl (fun h1 => ?_) (fun h1 => ?_)
  · replace hy := hy.1 h1
    refine E_iload dX5_blocksIn_131 rfl ?_
    exact E_ri dX5_blocksIn_133 rfl ⟨rfl, rfl⟩ hy
  · replace hy := hy.2 h1
    refine E_aload_n 0 dX5_blocksIn_15 rfl rfl ?_
    refine E_getr 5 6 122 33 129 dX5_blocksIn_16 fl_RX5_29 rfl sh_122 (wg_122_6 hG) ?_
    refine E_iload dX5_blocksIn_19 rfl ?_
    have c2 := hy.1
    replace hy := hy.2
    refine E_ia 129 8 (x5).toNatClampNeg dX5_blocksIn_21 sh_129 c2 rfl ?_
    refine E_iload_n 2 dX5_blocksIn_22 rfl rfl ?_
    refine E_icmp_ne 36 dX5_blocksIn_23 rfl (fun h3 => ?_) (fun h3 => ?_)
    · replace hy := hy.1 h3
      refine E_aload_n 0 dX5_blocksIn_36 rfl rfl ?_
      refine E_getr 5 7 122 33 130 dX5_blocksIn_37 fl_RX5_32 rfl sh_122 (wg_122_7 hG) ?_
      refine E_iload dX5_blocksIn_40 rfl ?_
      have c4 := hy.1
      replace hy := hy.2
      refine E_ia 130 8 (x5).toNatClampNeg dX5_blocksIn_42 sh_130 c4 rfl ?_
      refine E_iload_n 2 dX5_blocksIn_43 rfl rfl ?_
      refine E_icmp_ne 57 dX5_blocksIn_44 rfl (fun h5 => ?_) (fun h5 => ?_)
      · replace hy := hy.1 h5
        refine E_bipush (-9 : Int32) dX5_blocksIn_57 rfl ?_
        exact hy
      · replace hy := hy.2 (Decidable.not_not.mp h5)
        refine E_aload_n 0 dX5_blocksIn_47 rfl rfl ?_
        refine E_getr 5 6 122 33 129 dX5_blocksIn_48 fl_RX5_29 rfl sh_122 (wg_122_6 hG) ?_
        refine E_iload dX5_blocksIn_51 rfl ?_
        have c6 := hy.1
        replace hy := hy.2
        refine E_ia 129 8 (x5).toNatClampNeg dX5_blocksIn_53 sh_129 c6 rfl ?_
        refine E_goto 59 dX5_blocksIn_54 rfl ?_
        exact hy
    · replace hy := hy.2 (Decidable.not_not.mp h3)
      refine E_aload_n 0 dX5_blocksIn_26 rfl rfl ?_
      refine E_getr 5 7 122 33 130 dX5_blocksIn_27 fl_RX5_32 rfl sh_122 (wg_122_7 hG) ?_
      refine E_iload dX5_blocksIn_30 rfl ?_
      have c7 := hy.1
      replace hy := hy.2
      refine E_ia 130 8 (x5).toNatClampNeg dX5_blocksIn_32 sh_130 c7 rfl ?_
      refine E_goto 59 dX5_blocksIn_33 rfl ?_
      exact hy
set_option maxRecDepth 100000 in
theorem w_X5_blocksIn_59 {d : Nat} {I : MI} {G : MG} {J : MJ} {Φ : Ph} (hG : WG G)  (x1 : Int32) (x2 : Int32) (x3 : Int32) (x4 : Int32) (x5 : Int32) (s0 : Int32) (hy : (s0 < 0 → Ev (d + 1) mX5_blocksIn 136 105 [some (.ref 122), some (.int x1), some (.int x2), some (.int x3), some (.int x4), some (.int x5), some (.int s0), none] [.int (0 : Int32)] 136 I G J Φ) ∧ (¬ s0 < 0 → vp_in x5 8 ∧ ((x3 < (I 131 (x5).toNatClampNeg) → Ev (d + 1) mX5_blocksIn 136 105 [some (.ref 122), some (.int x1), some (.int x2), some (.int x3), some (.int x4), some (.int x5), some (.int s0), none] [.int (0 : Int32)] 136 I G J Φ) ∧ (¬ x3 < (I 131 (x5).toNatClampNeg) → vp_in (x1 + s0) 1400 ∧ ((¬ (I 123 (x1 + s0).toNatClampNeg) = x3 → Ev (d + 1) mX5_blocksIn 136 105 [some (.ref 122), some (.int x1), some (.int x2), some (.int x3), some (.int x4), some (.int x5), some (.int s0), none] [.int (0 : Int32)] 136 I G J Φ) ∧ ((I 123 (x1 + s0).toNatClampNeg) = x3 → Ev d mX5_isOver 136 0 [some (.ref 122), some (.int x1), some (.int s0)] [] 136 I G J (fun r n I6 G6 J6 => ∃ v6 : Int32, r = some (.int v6) ∧ n = 136 ∧ I = I6 ∧ G = G6 ∧ J = J6 ∧ ((¬ v6 = 0 → Ev (d + 1) mX5_blocksIn 136 105 [some (.ref 122), some (.int x1), some (.int x2), some (.int x3), some (.int x4), some (.int x5), some (.int s0), none] [.int (0 : Int32)] 136 I G J Φ) ∧ (v6 = 0 → Ev (d + 1) mX5_blocksIn 136 105 [some (.ref 122), some (.int x1), some (.int x2), some (.int x3), some (.int x4), some (.int x5), some (.int s0), none] [.int (1 : Int32)] 136 I G J Φ))))))))) : Ev (d + 1) mX5_blocksIn 136 59 [some (.ref 122), some (.int x1), some (.int x2), some (.int x3), some (.int x4), some (.int x5), none, none] [.int s0] 136 I G J Φ := by
  refine E_istore dX5_blocksIn_59 (Nat.le_of_ble_eq_true rfl) (?_ : Ev (d + 1) mX5_blocksIn 136 61 [some (.ref 122), some (.int x1), some (.int x2), some (.int x3), some (.int x4), some (.int x5), some (.int s0), none] [] 136 I G J Φ)
  refine E_iload dX5_blocksIn_61 rfl ?_
  refine E_if_lt 104 dX5_blocksIn_63 rfl (fun h1 => ?_) (fun h1 => ?_)
  · replace hy := hy.1 h1
    refine E_iconst (0 : Int32) dX5_blocksIn_104 rfl ?_
    exact hy
  · replace hy := hy.2 h1
    refine E_aload_n 0 dX5_blocksIn_66 rfl rfl ?_
    refine E_getr 5 8 122 33 131 dX5_blocksIn_67 fl_RX5_35 rfl sh_122 (wg_122_8 hG) ?_
    refine E_iload dX5_blocksIn_70 rfl ?_
    have c2 := hy.1
    replace hy := hy.2
    refine E_ia 131 8 (x5).toNatClampNeg dX5_blocksIn_72 sh_131 c2 rfl ?_
    refine E_iload_n 3 dX5_blocksIn_73 rfl rfl ?_
    refine E_icmp_gt 104 dX5_blocksIn_74 rfl (fun h3 => ?_) (fun h3 => ?_)
    · replace hy := hy.1 h3
      refine E_iconst (0 : Int32) dX5_blocksIn_104 rfl ?_
      exact hy
    · replace hy := hy.2 h3
      refine E_aload_n 0 dX5_blocksIn_77 rfl rfl ?_
      refine E_getr 5 0 122 33 123 dX5_blocksIn_78 fl_RX5_7 rfl sh_122 (wg_122_0 hG) ?_
      refine E_iload_n 1 dX5_blocksIn_81 rfl rfl ?_
      refine E_iload dX5_blocksIn_82 rfl ?_
      refine E_iadd dX5_blocksIn_84 ?_
      have c4 := hy.1
      replace hy := hy.2
      refine E_ia 123 1400 (x1 + s0).toNatClampNeg dX5_blocksIn_85 sh_123 c4 rfl ?_
      refine E_iload_n 3 dX5_blocksIn_86 rfl rfl ?_
      refine E_icmp_ne 104 dX5_blocksIn_87 rfl (fun h5 => ?_) (fun h5 => ?_)
      · replace hy := hy.1 h5
        refine E_iconst (0 : Int32) dX5_blocksIn_104 rfl ?_
        exact hy
      · replace hy := hy.2 (Decidable.not_not.mp h5)
        refine E_aload_n 0 dX5_blocksIn_90 rfl rfl ?_
        refine E_iload_n 1 dX5_blocksIn_91 rfl rfl ?_
        refine E_iload dX5_blocksIn_92 rfl ?_
        refine E_cv (M := mX5_blocksIn) (pc := 94) (As := [.int x1, .int s0]) (st := []) mX5_isOver 2 5 33 dX5_blocksIn_94 lk_RX5_158 ⟨_, rfl, rfl⟩ sh_122 rfl (Nat.le_of_ble_eq_true rfl) ⟨rfl, rfl⟩ (Nat.le_of_ble_eq_true rfl) rfl hy ?_
        rintro r n I6 G6 J6 ⟨v6, rfl, rfl, rfl, rfl, rfl, hy⟩
        show Ev (d + 1) mX5_blocksIn 136 97 [some (.ref 122), some (.int x1), some (.int x2), some (.int x3), some (.int x4), some (.int x5), some (.int s0), none] [.int v6] 136 I G J Φ
        refine E_if_ne 104 dX5_blocksIn_97 rfl (fun h7 => ?_) (fun h7 => ?_)
        · replace hy := hy.1 h7
          refine E_iconst (0 : Int32) dX5_blocksIn_104 rfl ?_
          exact hy
        · replace hy := hy.2 (Decidable.not_not.mp h7)
          refine E_iconst (1 : Int32) dX5_blocksIn_100 rfl ?_
          refine E_goto 105 dX5_blocksIn_101 rfl ?_
          exact hy
set_option maxRecDepth 100000 in
theorem w_X5_blocksIn_105 {d : Nat} {I : MI} {G : MG} {J : MJ} {Φ : Ph} (hG : WG G)  (x1 : Int32) (x2 : Int32) (x3 : Int32) (x4 : Int32) (x5 : Int32) (x6 : Int32) (s0 : Int32) (hy : (s0 = 0 → Ev (d + 1) mX5_blocksIn 136 6 [some (.ref 122), some (.int x1), some (.int x2), some (.int x3), some (.int (x4 ||| (0 : Int32))), some (.int (x5 + (1 : Int32))), none, none] [] 136 I G J Φ) ∧ (¬ s0 = 0 → Ev (d + 1) mX5_blocksIn 136 6 [some (.ref 122), some (.int x1), some (.int x2), some (.int x3), some (.int (x4 ||| ((1 : Int32) <<< (x6 &&& 31)))), some (.int (x5 + (1 : Int32))), none, none] [] 136 I G J Φ)) : Ev (d + 1) mX5_blocksIn 136 105 [some (.ref 122), some (.int x1), some (.int x2), some (.int x3), some (.int x4), some (.int x5), some (.int x6), none] [.int s0] 136 I G J Φ := by
  refine E_istore dX5_blocksIn_105 (Nat.le_of_ble_eq_true rfl) (?_ : Ev (d + 1) mX5_blocksIn 136 107 [some (.ref 122), some (.int x1), some (.int x2), some (.int x3), some (.int x4), some (.int x5), some (.int x6), some (.int s0)] [] 136 I G J Φ)
  refine E_iload dX5_blocksIn_107 rfl ?_
  refine E_iload dX5_blocksIn_109 rfl ?_
  refine E_if_eq 121 dX5_blocksIn_111 rfl (fun h1 => ?_) (fun h1 => ?_)
  · replace hy := hy.1 h1
    refine E_iconst (0 : Int32) dX5_blocksIn_121 rfl ?_
    refine E_ior dX5_blocksIn_122 ?_
    refine E_istore dX5_blocksIn_123 (Nat.le_of_ble_eq_true rfl) (?_ : Ev (d + 1) mX5_blocksIn 136 125 [some (.ref 122), some (.int x1), some (.int x2), some (.int x3), some (.int (x4 ||| (0 : Int32))), some (.int x5), some (.int x6), some (.int s0)] [] 136 I G J Φ)
    refine E_iinc (x5 + (1 : Int32)) dX5_blocksIn_125 rfl rfl (Nat.le_of_ble_eq_true rfl) (?_ : Ev (d + 1) mX5_blocksIn 136 128 [some (.ref 122), some (.int x1), some (.int x2), some (.int x3), some (.int (x4 ||| (0 : Int32))), some (.int (x5 + (1 : Int32))), some (.int x6), some (.int s0)] [] 136 I G J Φ)
    refine E_goto 6 dX5_blocksIn_128 rfl ?_
    refine E_wk (ls2 := [some (.ref 122), some (.int x1), some (.int x2), some (.int x3), some (.int (x4 ||| (0 : Int32))), some (.int (x5 + (1 : Int32))), none, none]) ⟨rfl, rfl, rfl, rfl, rfl, rfl, trivial⟩ ?_
    exact hy
  · replace hy := hy.2 h1
    refine E_iconst (1 : Int32) dX5_blocksIn_114 rfl ?_
    refine E_iload dX5_blocksIn_115 rfl ?_
    refine E_ishl dX5_blocksIn_117 ?_
    refine E_goto 122 dX5_blocksIn_118 rfl ?_
    refine E_ior dX5_blocksIn_122 ?_
    refine E_istore dX5_blocksIn_123 (Nat.le_of_ble_eq_true rfl) (?_ : Ev (d + 1) mX5_blocksIn 136 125 [some (.ref 122), some (.int x1), some (.int x2), some (.int x3), some (.int (x4 ||| ((1 : Int32) <<< (x6 &&& 31)))), some (.int x5), some (.int x6), some (.int s0)] [] 136 I G J Φ)
    refine E_iinc (x5 + (1 : Int32)) dX5_blocksIn_125 rfl rfl (Nat.le_of_ble_eq_true rfl) (?_ : Ev (d + 1) mX5_blocksIn 136 128 [some (.ref 122), some (.int x1), some (.int x2), some (.int x3), some (.int (x4 ||| ((1 : Int32) <<< (x6 &&& 31)))), some (.int (x5 + (1 : Int32))), some (.int x6), some (.int s0)] [] 136 I G J Φ)
    refine E_goto 6 dX5_blocksIn_128 rfl ?_
    refine E_wk (ls2 := [some (.ref 122), some (.int x1), some (.int x2), some (.int x3), some (.int (x4 ||| ((1 : Int32) <<< (x6 &&& 31)))), some (.int (x5 + (1 : Int32))), none, none]) ⟨rfl, rfl, rfl, rfl, rfl, rfl, trivial⟩ ?_
    exact hy
set_option maxRecDepth 100000 in
theorem w_X5_clear {d : Nat} {I : MI} {G : MG} {J : MJ} {Φ : Ph} (hG : WG G)  (hy : Φ (some (.int (I 122 22))) 136 (u2 I 122 22 (0 : Int32)) G J) : Ev d mX5_clear 136 0 [some (.ref 122), none] [] 136 I G J Φ := by
  refine E_aload_n 0 dX5_clear_0 rfl rfl ?_
  refine E_geti 5 22 122 33 dX5_clear_1 fl_RX5_63 rfl sh_122 ?_
  refine E_istore_n 1 dX5_clear_4 rfl (Nat.le_of_ble_eq_true rfl) (?_ : Ev d mX5_clear 136 5 [some (.ref 122), some (.int (I 122 22))] [] 136 I G J Φ)
  refine E_aload_n 0 dX5_clear_5 rfl rfl ?_
  refine E_iconst (0 : Int32) dX5_clear_6 rfl ?_
  refine E_puti 5 22 122 33 dX5_clear_7 fl_RX5_63 rfl sh_122 ⟨_, rfl, rfl⟩ rfl rfl ?_
  refine E_iload_n 1 dX5_clear_10 rfl rfl ?_
  exact E_ri dX5_clear_11 rfl ⟨rfl, rfl⟩ hy
set_option maxRecDepth 100000 in
theorem w_X5_common {d : Nat} {I : MI} {G : MG} {J : MJ} {Φ : Ph} (hG : WG G) (x0 : Int64) (x2 : Int64) (hy : Ev d mX5_common 136 6 [some (.long x0), none, some (.long x2), none, some (.long x0), none, some (.long x2), none, none, none] [] 136 I G J Φ) : Ev d mX5_common 136 0 [some (.long x0), none, some (.long x2), none, none, none, none, none, none, none] [] 136 I G J Φ := by
  refine E_lload_n 0 dX5_common_0 rfl rfl ?_
  refine E_lstore dX5_common_1 (Nat.le_of_ble_eq_true rfl) (?_ : Ev d mX5_common 136 3 [some (.long x0), none, some (.long x2), none, some (.long x0), none, none, none, none, none] [] 136 I G J Φ)
  refine E_lload_n 2 dX5_common_3 rfl rfl ?_
  refine E_lstore dX5_common_4 (Nat.le_of_ble_eq_true rfl) (?_ : Ev d mX5_common 136 6 [some (.long x0), none, some (.long x2), none, some (.long x0), none, some (.long x2), none, none, none] [] 136 I G J Φ)
  exact hy
set_option maxRecDepth 100000 in
theorem w_X5_common_6 {d : Nat} {I : MI} {G : MG} {J : MJ} {Φ : Ph} (hG : WG G)  (x0 : Int64) (x2 : Int64) (x4 : Int64) (x6 : Int64) (hy : ((lg_cmp x6 (0 : Int64)) ≤ 0 → Φ (some (.long x4)) 136 I G J) ∧ (¬ (lg_cmp x6 (0 : Int64)) ≤ 0 → ¬ x6 = 0 ∧ (Ev d mX5_common 136 6 [some (.long x0), none, some (.long x2), none, some (.long x6), none, some (.long (x4 - x4 / x6 * x6)), none, none, none] [] 136 I G J Φ))) : Ev d mX5_common 136 6 [some (.long x0), none, some (.long x2), none, some (.long x4), none, some (.long x6), none, none, none] [] 136 I G J Φ := by
  refine E_lload dX5_common_6 rfl ?_
  refine E_lconst (0 : Int64) dX5_common_8 rfl ?_
  refine E_lcmp dX5_common_9 ?_
  refine E_if_le 31 dX5_common_10 rfl (fun h1 => ?_) (fun h1 => ?_)
  · replace hy := hy.1 h1
    refine E_lload dX5_common_31 rfl ?_
    exact E_rl dX5_common_33 rfl ⟨rfl, rfl⟩ hy
  · replace hy := hy.2 h1
    refine E_lload dX5_common_13 rfl ?_
    refine E_lload dX5_common_15 rfl ?_
    have c2 := hy.1
    replace hy := hy.2
    refine E_lrem dX5_common_17 c2 ?_
    refine E_lstore dX5_common_18 (Nat.le_of_ble_eq_true rfl) (?_ : Ev d mX5_common 136 20 [some (.long x0), none, some (.long x2), none, some (.long x4), none, some (.long x6), none, some (.long (x4 - x4 / x6 * x6)), none] [] 136 I G J Φ)
    refine E_lload dX5_common_20 rfl ?_
    refine E_lstore dX5_common_22 (Nat.le_of_ble_eq_true rfl) (?_ : Ev d mX5_common 136 24 [some (.long x0), none, some (.long x2), none, some (.long x6), none, some (.long x6), none, some (.long (x4 - x4 / x6 * x6)), none] [] 136 I G J Φ)
    refine E_lload dX5_common_24 rfl ?_
    refine E_lstore dX5_common_26 (Nat.le_of_ble_eq_true rfl) (?_ : Ev d mX5_common 136 28 [some (.long x0), none, some (.long x2), none, some (.long x6), none, some (.long (x4 - x4 / x6 * x6)), none, some (.long (x4 - x4 / x6 * x6)), none] [] 136 I G J Φ)
    refine E_goto 6 dX5_common_28 rfl ?_
    refine E_wk (ls2 := [some (.long x0), none, some (.long x2), none, some (.long x6), none, some (.long (x4 - x4 / x6 * x6)), none, none, none]) ⟨rfl, rfl, rfl, rfl, trivial⟩ ?_
    exact hy
set_option maxRecDepth 100000 in
theorem w_X5_copy {d : Nat} {I : MI} {G : MG} {J : MJ} {Φ : Ph} (hG : WG G) (x1 : Int32) (x2 : Int32) (hy : Ev d mX5_copy 136 2 [some (.ref 122), some (.int x1), some (.int x2), some (.int (0 : Int32))] [] 136 I G J Φ) : Ev d mX5_copy 136 0 [some (.ref 122), some (.int x1), some (.int x2), none] [] 136 I G J Φ := by
  refine E_iconst (0 : Int32) dX5_copy_0 rfl ?_
  refine E_istore_n 3 dX5_copy_1 rfl (Nat.le_of_ble_eq_true rfl) (?_ : Ev d mX5_copy 136 2 [some (.ref 122), some (.int x1), some (.int x2), some (.int (0 : Int32))] [] 136 I G J Φ)
  exact hy
set_option maxRecDepth 100000 in
theorem w_X5_copy_2 {d : Nat} {I : MI} {G : MG} {J : MJ} {Φ : Ph} (hG : WG G)  (x1 : Int32) (x2 : Int32) (x3 : Int32) (hy : ((100 : Int32) ≤ x3 → Φ none 136 I G J) ∧ (¬ (100 : Int32) ≤ x3 → vp_in (x1 + x3) 1400 ∧ (vp_in (x2 + x3) 1400 ∧ (Ev d mX5_copy 136 2 [some (.ref 122), some (.int x1), some (.int x2), some (.int (x3 + (1 : Int32)))] [] 136 (u2 I 123 (x2 + x3).toNatClampNeg (I 123 (x1 + x3).toNatClampNeg)) G J Φ)))) : Ev d mX5_copy 136 2 [some (.ref 122), some (.int x1), some (.int x2), some (.int x3)] [] 136 I G J Φ := by
  refine E_iload_n 3 dX5_copy_2 rfl rfl ?_
  refine E_bipush (100 : Int32) dX5_copy_3 rfl ?_
  refine E_icmp_ge 30 dX5_copy_5 rfl (fun h1 => ?_) (fun h1 => ?_)
  · replace hy := hy.1 h1
    exact E_rv dX5_copy_30 rfl ⟨rfl, rfl⟩ hy
  · replace hy := hy.2 h1
    refine E_aload_n 0 dX5_copy_8 rfl rfl ?_
    refine E_getr 5 0 122 33 123 dX5_copy_9 fl_RX5_7 rfl sh_122 (wg_122_0 hG) ?_
    refine E_iload_n 2 dX5_copy_12 rfl rfl ?_
    refine E_iload_n 3 dX5_copy_13 rfl rfl ?_
    refine E_iadd dX5_copy_14 ?_
    refine E_aload_n 0 dX5_copy_15 rfl rfl ?_
    refine E_getr 5 0 122 33 123 dX5_copy_16 fl_RX5_7 rfl sh_122 (wg_122_0 hG) ?_
    refine E_iload_n 1 dX5_copy_19 rfl rfl ?_
    refine E_iload_n 3 dX5_copy_20 rfl rfl ?_
    refine E_iadd dX5_copy_21 ?_
    have c2 := hy.1
    replace hy := hy.2
    refine E_ia 123 1400 (x1 + x3).toNatClampNeg dX5_copy_22 sh_123 c2 rfl ?_
    have c3 := hy.1
    replace hy := hy.2
    refine E_is 123 1400 (x2 + x3).toNatClampNeg dX5_copy_23 sh_123 c3 rfl ?_
    refine E_iinc (x3 + (1 : Int32)) dX5_copy_24 rfl rfl (Nat.le_of_ble_eq_true rfl) (?_ : Ev d mX5_copy 136 27 [some (.ref 122), some (.int x1), some (.int x2), some (.int (x3 + (1 : Int32)))] [] 136 (u2 I 123 (x2 + x3).toNatClampNeg (I 123 (x1 + x3).toNatClampNeg)) G J Φ)
    refine E_goto 2 dX5_copy_27 rfl ?_
    exact hy
set_option maxRecDepth 100000 in
theorem w_X5_count {d : Nat} {I : MI} {G : MG} {J : MJ} {Φ : Ph} (hG : WG G) (x1 : Int32) (hy : (x1 = nI 0 → Φ (some (.int (I 122 10))) 136 I G J) ∧ (¬ x1 = nI 0 → (x1 = nI 1 → Φ (some (.int (I 122 11))) 136 I G J) ∧ (¬ x1 = nI 1 → (x1 = nI 2 → Φ (some (.int (I 122 12))) 136 I G J) ∧ (¬ x1 = nI 2 → (x1 = nI 3 → Φ (some (.int (I 122 13))) 136 I G J) ∧ (¬ x1 = nI 3 → (x1 = nI 4 → Φ (some (.int (I 122 14))) 136 I G J) ∧ (¬ x1 = nI 4 → (x1 = nI 5 → Φ (some (.int (I 122 31))) 136 I G J) ∧ (¬ x1 = nI 5 → (x1 = nI 6 → Φ (some (.int (I 122 22))) 136 I G J) ∧ (¬ x1 = nI 6 → Φ (some (.int (-1 : Int32))) 136 I G J)))))))) : Ev d mX5_count 136 0 [some (.ref 122), some (.int x1)] [] 136 I G J Φ := by
  refine E_iload_n 1 dX5_count_0 rfl rfl ?_
  refine E_tsw 0 [44, 49, 54, 59, 64, 69, 74] 79 dX5_count_1 rfl rfl rfl (by decide) ?_
  refine ⟨fun h1 => ?_, fun h1 => ?_⟩
  · replace hy := hy.1 h1
    dsimp only
    refine E_aload_n 0 dX5_count_44 rfl rfl ?_
    refine E_geti 5 10 122 33 dX5_count_45 fl_RX5_131 rfl sh_122 ?_
    exact E_ri dX5_count_48 rfl ⟨rfl, rfl⟩ hy
  replace hy := hy.2 h1
  refine ⟨fun h2 => ?_, fun h2 => ?_⟩
  · replace hy := hy.1 h2
    dsimp only
    refine E_aload_n 0 dX5_count_49 rfl rfl ?_
    refine E_geti 5 11 122 33 dX5_count_50 fl_RX5_134 rfl sh_122 ?_
    exact E_ri dX5_count_53 rfl ⟨rfl, rfl⟩ hy
  replace hy := hy.2 h2
  refine ⟨fun h3 => ?_, fun h3 => ?_⟩
  · replace hy := hy.1 h3
    dsimp only
    refine E_aload_n 0 dX5_count_54 rfl rfl ?_
    refine E_geti 5 12 122 33 dX5_count_55 fl_RX5_137 rfl sh_122 ?_
    exact E_ri dX5_count_58 rfl ⟨rfl, rfl⟩ hy
  replace hy := hy.2 h3
  refine ⟨fun h4 => ?_, fun h4 => ?_⟩
  · replace hy := hy.1 h4
    dsimp only
    refine E_aload_n 0 dX5_count_59 rfl rfl ?_
    refine E_geti 5 13 122 33 dX5_count_60 fl_RX5_50 rfl sh_122 ?_
    exact E_ri dX5_count_63 rfl ⟨rfl, rfl⟩ hy
  replace hy := hy.2 h4
  refine ⟨fun h5 => ?_, fun h5 => ?_⟩
  · replace hy := hy.1 h5
    dsimp only
    refine E_aload_n 0 dX5_count_64 rfl rfl ?_
    refine E_geti 5 14 122 33 dX5_count_65 fl_RX5_140 rfl sh_122 ?_
    exact E_ri dX5_count_68 rfl ⟨rfl, rfl⟩ hy
  replace hy := hy.2 h5
  refine ⟨fun h6 => ?_, fun h6 => ?_⟩
  · replace hy := hy.1 h6
    dsimp only
    refine E_aload_n 0 dX5_count_69 rfl rfl ?_
    refine E_geti 5 31 122 33 dX5_count_70 fl_RX5_143 rfl sh_122 ?_
    exact E_ri dX5_count_73 rfl ⟨rfl, rfl⟩ hy
  replace hy := hy.2 h6
  refine ⟨fun h7 => ?_, fun h7 => ?_⟩
  · replace hy := hy.1 h7
    dsimp only
    refine E_aload_n 0 dX5_count_74 rfl rfl ?_
    refine E_geti 5 22 122 33 dX5_count_75 fl_RX5_63 rfl sh_122 ?_
    exact E_ri dX5_count_78 rfl ⟨rfl, rfl⟩ hy
  replace hy := hy.2 h7
  show Ev d mX5_count 136 79 [some (.ref 122), some (.int x1)] [] 136 I G J Φ
  refine E_iconst (-1 : Int32) dX5_count_79 rfl ?_
  exact E_ri dX5_count_80 rfl ⟨rfl, rfl⟩ hy
set_option maxRecDepth 100000 in
theorem w_X5_crew {d : Nat} {I : MI} {G : MG} {J : MJ} {Φ : Ph} (hG : WG G) (x1 : Int32) (hy : Ev d mX5_isHill 136 0 [some (.ref 122), some (.int x1)] [] 136 I G J (fun r n I1 G1 J1 => ∃ v1 : Int32, r = some (.int v1) ∧ n = 136 ∧ I = I1 ∧ G = G1 ∧ J = J1 ∧ ((¬ v1 = 0 → Ev (d + 1) mX5_crew 136 15 [some (.ref 122), some (.int x1), some (.int (-9 : Int32)), some (.int (0 : Int32)), none, none] [] 136 I G J Φ) ∧ (v1 = 0 → Φ (some (.int (-1 : Int32))) 136 I G J)))) : Ev (d + 1) mX5_crew 136 0 [some (.ref 122), some (.int x1), none, none, none, none] [] 136 I G J Φ := by
  refine E_aload_n 0 dX5_crew_0 rfl rfl ?_
  refine E_iload_n 1 dX5_crew_1 rfl rfl ?_
  refine E_cv (M := mX5_crew) (pc := 2) (As := [.int x1]) (st := []) mX5_isHill 1 5 33 dX5_crew_2 lk_RX5_149 ⟨_, rfl, rfl⟩ sh_122 rfl (Nat.le_of_ble_eq_true rfl) ⟨rfl, rfl⟩ (Nat.le_of_ble_eq_true rfl) rfl hy ?_
  rintro r n I1 G1 J1 ⟨v1, rfl, rfl, rfl, rfl, rfl, hy⟩
  show Ev (d + 1) mX5_crew 136 5 [some (.ref 122), some (.int x1), none, none, none, none] [.int v1] 136 I G J Φ
  refine E_if_ne 10 dX5_crew_5 rfl (fun h2 => ?_) (fun h2 => ?_)
  · replace hy := hy.1 h2
    refine E_bipush (-9 : Int32) dX5_crew_10 rfl ?_
    refine E_istore_n 2 dX5_crew_12 rfl (Nat.le_of_ble_eq_true rfl) (?_ : Ev (d + 1) mX5_crew 136 13 [some (.ref 122), some (.int x1), some (.int (-9 : Int32)), none, none, none] [] 136 I G J Φ)
    refine E_iconst (0 : Int32) dX5_crew_13 rfl ?_
    refine E_istore_n 3 dX5_crew_14 rfl (Nat.le_of_ble_eq_true rfl) (?_ : Ev (d + 1) mX5_crew 136 15 [some (.ref 122), some (.int x1), some (.int (-9 : Int32)), some (.int (0 : Int32)), none, none] [] 136 I G J Φ)
    exact hy
  · replace hy := hy.2 (Decidable.not_not.mp h2)
    refine E_iconst (-1 : Int32) dX5_crew_8 rfl ?_
    exact E_ri dX5_crew_9 rfl ⟨rfl, rfl⟩ hy
set_option maxRecDepth 100000 in
theorem w_X5_crew_15 {d : Nat} {I : MI} {G : MG} {J : MJ} {Φ : Ph} (hG : WG G)  (x1 : Int32) (x2 : Int32) (x3 : Int32) (hy : (((1 : Int32) <<< ((I 122 12) &&& 31)) ≤ x3 → Φ (some (.int x2)) 136 I G J) ∧ (¬ ((1 : Int32) <<< ((I 122 12) &&& 31)) ≤ x3 → Ev (d + 1) mX5_crew 136 31 [some (.ref 122), some (.int x1), some (.int x2), some (.int x3), some (.int (0 : Int32)), some (.int (0 : Int32))] [] 136 I G J Φ)) : Ev (d + 1) mX5_crew 136 15 [some (.ref 122), some (.int x1), some (.int x2), some (.int x3), none, none] [] 136 I G J Φ := by
  refine E_iload_n 3 dX5_crew_15 rfl rfl ?_
  refine E_iconst (1 : Int32) dX5_crew_16 rfl ?_
  refine E_aload_n 0 dX5_crew_17 rfl rfl ?_
  refine E_geti 5 12 122 33 dX5_crew_18 fl_RX5_137 rfl sh_122 ?_
  refine E_ishl dX5_crew_21 ?_
  refine E_icmp_ge 128 dX5_crew_22 rfl (fun h1 => ?_) (fun h1 => ?_)
  · replace hy := hy.1 h1
    refine E_iload_n 2 dX5_crew_128 rfl rfl ?_
    exact E_ri dX5_crew_129 rfl ⟨rfl, rfl⟩ hy
  · replace hy := hy.2 h1
    refine E_iconst (0 : Int32) dX5_crew_25 rfl ?_
    refine E_istore dX5_crew_26 (Nat.le_of_ble_eq_true rfl) (?_ : Ev (d + 1) mX5_crew 136 28 [some (.ref 122), some (.int x1), some (.int x2), some (.int x3), some (.int (0 : Int32)), none] [] 136 I G J Φ)
    refine E_iconst (0 : Int32) dX5_crew_28 rfl ?_
    refine E_istore dX5_crew_29 (Nat.le_of_ble_eq_true rfl) (?_ : Ev (d + 1) mX5_crew 136 31 [some (.ref 122), some (.int x1), some (.int x2), some (.int x3), some (.int (0 : Int32)), some (.int (0 : Int32))] [] 136 I G J Φ)
    exact hy
set_option maxRecDepth 100000 in
theorem w_X5_crew_31 {d : Nat} {I : MI} {G : MG} {J : MJ} {Φ : Ph} (hG : WG G)  (x1 : Int32) (x2 : Int32) (x3 : Int32) (x4 : Int32) (x5 : Int32) (hy : ((I 122 12) ≤ x5 → Ev d mX5_sizeIn 136 0 [some (.ref 122), some (.int (0 : Int32)), some (.int x1)] [] 136 I G J (fun r n I2 G2 J2 => ∃ v2 : Int32, r = some (.int v2) ∧ n = 136 ∧ I = I2 ∧ G = G2 ∧ J = J2 ∧ (vp_in x1 8 ∧ ((x4 < (v2 + (I 126 (x1).toNatClampNeg)) → Ev (d + 1) mX5_crew 136 15 [some (.ref 122), some (.int x1), some (.int x2), some (.int (x3 + (1 : Int32))), none, none] [] 136 I G J Φ) ∧ (¬ x4 < (v2 + (I 126 (x1).toNatClampNeg)) → (x2 < 0 → Ev (d + 1) mX5_crew 136 15 [some (.ref 122), some (.int x1), some (.int x3), some (.int (x3 + (1 : Int32))), none, none] [] 136 I G J Φ) ∧ (¬ x2 < 0 → Ev d mX5_ones 136 0 [some (.int x3), none, none] [] 136 I G J (fun r n I8 G8 J8 => ∃ v8 : Int32, r = some (.int v8) ∧ n = 136 ∧ I = I8 ∧ G = G8 ∧ J = J8 ∧ (Ev d mX5_ones 136 0 [some (.int x2), none, none] [] 136 I G J (fun r n I9 G9 J9 => ∃ v9 : Int32, r = some (.int v9) ∧ n = 136 ∧ I = I9 ∧ G = G9 ∧ J = J9 ∧ ((v9 ≤ v8 → Ev (d + 1) mX5_crew 136 15 [some (.ref 122), some (.int x1), some (.int x2), some (.int (x3 + (1 : Int32))), none, none] [] 136 I G J Φ) ∧ (¬ v9 ≤ v8 → Ev (d + 1) mX5_crew 136 15 [some (.ref 122), some (.int x1), some (.int x3), some (.int (x3 + (1 : Int32))), none, none] [] 136 I G J Φ))))))))))) ∧ (¬ (I 122 12) ≤ x5 → Ev d mX5_has 136 0 [some (.int x3), some (.int x5)] [] 136 I G J (fun r n I13 G13 J13 => ∃ v13 : Int32, r = some (.int v13) ∧ n = 136 ∧ I = I13 ∧ G = G13 ∧ J = J13 ∧ ((v13 = 0 → Ev (d + 1) mX5_crew 136 31 [some (.ref 122), some (.int x1), some (.int x2), some (.int x3), some (.int (x4 + (0 : Int32))), some (.int (x5 + (1 : Int32)))] [] 136 I G J Φ) ∧ (¬ v13 = 0 → vp_in x5 6 ∧ (Ev (d + 1) mX5_crew 136 31 [some (.ref 122), some (.int x1), some (.int x2), some (.int x3), some (.int (x4 + (I 132 (x5).toNatClampNeg))), some (.int (x5 + (1 : Int32)))] [] 136 I G J Φ)))))) : Ev (d + 1) mX5_crew 136 31 [some (.ref 122), some (.int x1), some (.int x2), some (.int x3), some (.int x4), some (.int x5)] [] 136 I G J Φ := by
  refine E_iload dX5_crew_31 rfl ?_
  refine E_aload_n 0 dX5_crew_33 rfl rfl ?_
  refine E_geti 5 12 122 33 dX5_crew_34 fl_RX5_137 rfl sh_122 ?_
  refine E_icmp_ge 71 dX5_crew_37 rfl (fun h1 => ?_) (fun h1 => ?_)
  · replace hy := hy.1 h1
    refine E_iload dX5_crew_71 rfl ?_
    refine E_aload_n 0 dX5_crew_73 rfl rfl ?_
    refine E_iconst (0 : Int32) dX5_crew_74 rfl ?_
    refine E_iload_n 1 dX5_crew_75 rfl rfl ?_
    refine E_cv (M := mX5_crew) (pc := 76) (As := [.int (0 : Int32), .int x1]) (st := [.int x4]) mX5_sizeIn 2 5 33 dX5_crew_76 lk_RX5_155 ⟨_, rfl, rfl⟩ sh_122 rfl (Nat.le_of_ble_eq_true rfl) ⟨rfl, rfl⟩ (Nat.le_of_ble_eq_true rfl) rfl hy ?_
    rintro r n I2 G2 J2 ⟨v2, rfl, rfl, rfl, rfl, rfl, hy⟩
    show Ev (d + 1) mX5_crew 136 79 [some (.ref 122), some (.int x1), some (.int x2), some (.int x3), some (.int x4), some (.int x5)] [.int v2, .int x4] 136 I G J Φ
    refine E_aload_n 0 dX5_crew_79 rfl rfl ?_
    refine E_getr 5 3 122 33 126 dX5_crew_80 fl_RX5_20 rfl sh_122 (wg_122_3 hG) ?_
    refine E_iload_n 1 dX5_crew_83 rfl rfl ?_
    have c3 := hy.1
    replace hy := hy.2
    refine E_ia 126 8 (x1).toNatClampNeg dX5_crew_84 sh_126 c3 rfl ?_
    refine E_iadd dX5_crew_85 ?_
    refine E_icmp_lt 108 dX5_crew_86 rfl (fun h4 => ?_) (fun h4 => ?_)
    · replace hy := hy.1 h4
      refine E_iconst (0 : Int32) dX5_crew_108 rfl ?_
      refine E_istore dX5_crew_109 (Nat.le_of_ble_eq_true rfl) (?_ : Ev (d + 1) mX5_crew 136 111 [some (.ref 122), some (.int x1), some (.int x2), some (.int x3), some (.int x4), some (.int (0 : Int32))] [] 136 I G J Φ)
      refine E_iload dX5_crew_111 rfl ?_
      refine E_if_eq 120 dX5_crew_113 rfl (fun h5 => ?_) (fun h5 => ?_)
      rotate_left
      · exact absurd (by decide) h5
      refine E_iload_n 2 dX5_crew_120 rfl rfl ?_
      refine E_istore_n 2 dX5_crew_121 rfl (Nat.le_of_ble_eq_true rfl) (?_ : Ev (d + 1) mX5_crew 136 122 [some (.ref 122), some (.int x1), some (.int x2), some (.int x3), some (.int x4), some (.int (0 : Int32))] [] 136 I G J Φ)
      refine E_iinc (x3 + (1 : Int32)) dX5_crew_122 rfl rfl (Nat.le_of_ble_eq_true rfl) (?_ : Ev (d + 1) mX5_crew 136 125 [some (.ref 122), some (.int x1), some (.int x2), some (.int (x3 + (1 : Int32))), some (.int x4), some (.int (0 : Int32))] [] 136 I G J Φ)
      refine E_goto 15 dX5_crew_125 rfl ?_
      refine E_wk (ls2 := [some (.ref 122), some (.int x1), some (.int x2), some (.int (x3 + (1 : Int32))), none, none]) ⟨rfl, rfl, rfl, rfl, trivial⟩ ?_
      exact hy
    · replace hy := hy.2 h4
      refine E_iload_n 2 dX5_crew_89 rfl rfl ?_
      refine E_if_lt 104 dX5_crew_90 rfl (fun h6 => ?_) (fun h6 => ?_)
      · replace hy := hy.1 h6
        refine E_iconst (1 : Int32) dX5_crew_104 rfl ?_
        refine E_goto 109 dX5_crew_105 rfl ?_
        refine E_istore dX5_crew_109 (Nat.le_of_ble_eq_true rfl) (?_ : Ev (d + 1) mX5_crew 136 111 [some (.ref 122), some (.int x1), some (.int x2), some (.int x3), some (.int x4), some (.int (1 : Int32))] [] 136 I G J Φ)
        refine E_iload dX5_crew_111 rfl ?_
        refine E_if_eq 120 dX5_crew_113 rfl (fun h7 => ?_) (fun h7 => ?_)
        · exact absurd h7 (by decide)
        refine E_iload_n 3 dX5_crew_116 rfl rfl ?_
        refine E_goto 121 dX5_crew_117 rfl ?_
        refine E_istore_n 2 dX5_crew_121 rfl (Nat.le_of_ble_eq_true rfl) (?_ : Ev (d + 1) mX5_crew 136 122 [some (.ref 122), some (.int x1), some (.int x3), some (.int x3), some (.int x4), some (.int (1 : Int32))] [] 136 I G J Φ)
        refine E_iinc (x3 + (1 : Int32)) dX5_crew_122 rfl rfl (Nat.le_of_ble_eq_true rfl) (?_ : Ev (d + 1) mX5_crew 136 125 [some (.ref 122), some (.int x1), some (.int x3), some (.int (x3 + (1 : Int32))), some (.int x4), some (.int (1 : Int32))] [] 136 I G J Φ)
        refine E_goto 15 dX5_crew_125 rfl ?_
        refine E_wk (ls2 := [some (.ref 122), some (.int x1), some (.int x3), some (.int (x3 + (1 : Int32))), none, none]) ⟨rfl, rfl, rfl, rfl, trivial⟩ ?_
        exact hy
      · replace hy := hy.2 h6
        refine E_iload_n 3 dX5_crew_93 rfl rfl ?_
        refine E_cs (M := mX5_crew) (pc := 94) (As := [.int x3]) (st := []) mX5_ones 1 dX5_crew_94 lk_RX5_219 rfl (Nat.le_of_ble_eq_true rfl) ⟨rfl, rfl⟩ (Nat.le_of_ble_eq_true rfl) rfl hy ?_
        rintro r n I8 G8 J8 ⟨v8, rfl, rfl, rfl, rfl, rfl, hy⟩
        show Ev (d + 1) mX5_crew 136 97 [some (.ref 122), some (.int x1), some (.int x2), some (.int x3), some (.int x4), some (.int x5)] [.int v8] 136 I G J Φ
        refine E_iload_n 2 dX5_crew_97 rfl rfl ?_
        refine E_cs (M := mX5_crew) (pc := 98) (As := [.int x2]) (st := [.int v8]) mX5_ones 1 dX5_crew_98 lk_RX5_219 rfl (Nat.le_of_ble_eq_true rfl) ⟨rfl, rfl⟩ (Nat.le_of_ble_eq_true rfl) rfl hy ?_
        rintro r n I9 G9 J9 ⟨v9, rfl, rfl, rfl, rfl, rfl, hy⟩
        show Ev (d + 1) mX5_crew 136 101 [some (.ref 122), some (.int x1), some (.int x2), some (.int x3), some (.int x4), some (.int x5)] [.int v9, .int v8] 136 I G J Φ
        refine E_icmp_ge 108 dX5_crew_101 rfl (fun h10 => ?_) (fun h10 => ?_)
        · replace hy := hy.1 h10
          refine E_iconst (0 : Int32) dX5_crew_108 rfl ?_
          refine E_istore dX5_crew_109 (Nat.le_of_ble_eq_true rfl) (?_ : Ev (d + 1) mX5_crew 136 111 [some (.ref 122), some (.int x1), some (.int x2), some (.int x3), some (.int x4), some (.int (0 : Int32))] [] 136 I G J Φ)
          refine E_iload dX5_crew_111 rfl ?_
          refine E_if_eq 120 dX5_crew_113 rfl (fun h11 => ?_) (fun h11 => ?_)
          rotate_left
          · exact absurd (by decide) h11
          refine E_iload_n 2 dX5_crew_120 rfl rfl ?_
          refine E_istore_n 2 dX5_crew_121 rfl (Nat.le_of_ble_eq_true rfl) (?_ : Ev (d + 1) mX5_crew 136 122 [some (.ref 122), some (.int x1), some (.int x2), some (.int x3), some (.int x4), some (.int (0 : Int32))] [] 136 I G J Φ)
          refine E_iinc (x3 + (1 : Int32)) dX5_crew_122 rfl rfl (Nat.le_of_ble_eq_true rfl) (?_ : Ev (d + 1) mX5_crew 136 125 [some (.ref 122), some (.int x1), some (.int x2), some (.int (x3 + (1 : Int32))), some (.int x4), some (.int (0 : Int32))] [] 136 I G J Φ)
          refine E_goto 15 dX5_crew_125 rfl ?_
          refine E_wk (ls2 := [some (.ref 122), some (.int x1), some (.int x2), some (.int (x3 + (1 : Int32))), none, none]) ⟨rfl, rfl, rfl, rfl, trivial⟩ ?_
          exact hy
        · replace hy := hy.2 h10
          refine E_iconst (1 : Int32) dX5_crew_104 rfl ?_
          refine E_goto 109 dX5_crew_105 rfl ?_
          refine E_istore dX5_crew_109 (Nat.le_of_ble_eq_true rfl) (?_ : Ev (d + 1) mX5_crew 136 111 [some (.ref 122), some (.int x1), some (.int x2), some (.int x3), some (.int x4), some (.int (1 : Int32))] [] 136 I G J Φ)
          refine E_iload dX5_crew_111 rfl ?_
          refine E_if_eq 120 dX5_crew_113 rfl (fun h12 => ?_) (fun h12 => ?_)
          · exact absurd h12 (by decide)
          refine E_iload_n 3 dX5_crew_116 rfl rfl ?_
          refine E_goto 121 dX5_crew_117 rfl ?_
          refine E_istore_n 2 dX5_crew_121 rfl (Nat.le_of_ble_eq_true rfl) (?_ : Ev (d + 1) mX5_crew 136 122 [some (.ref 122), some (.int x1), some (.int x3), some (.int x3), some (.int x4), some (.int (1 : Int32))] [] 136 I G J Φ)
          refine E_iinc (x3 + (1 : Int32)) dX5_crew_122 rfl rfl (Nat.le_of_ble_eq_true rfl) (?_ : Ev (d + 1) mX5_crew 136 125 [some (.ref 122), some (.int x1), some (.int x3), some (.int (x3 + (1 : Int32))), some (.int x4), some (.int (1 : Int32))] [] 136 I G J Φ)
          refine E_goto 15 dX5_crew_125 rfl ?_
          refine E_wk (ls2 := [some (.ref 122), some (.int x1), some (.int x3), some (.int (x3 + (1 : Int32))), none, none]) ⟨rfl, rfl, rfl, rfl, trivial⟩ ?_
          exact hy
  · replace hy := hy.2 h1
    refine E_iload dX5_crew_40 rfl ?_
    refine E_iload_n 3 dX5_crew_42 rfl rfl ?_
    refine E_iload dX5_crew_43 rfl ?_
    refine E_cs (M := mX5_crew) (pc := 45) (As := [.int x3, .int x5]) (st := [.int x4]) mX5_has 2 dX5_crew_45 lk_RX5_118 rfl (Nat.le_of_ble_eq_true rfl) ⟨rfl, rfl⟩ (Nat.le_of_ble_eq_true rfl) rfl hy ?_
    rintro r n I13 G13 J13 ⟨v13, rfl, rfl, rfl, rfl, rfl, hy⟩
    show Ev (d + 1) mX5_crew 136 48 [some (.ref 122), some (.int x1), some (.int x2), some (.int x3), some (.int x4), some (.int x5)] [.int v13, .int x4] 136 I G J Φ
    refine E_if_eq 61 dX5_crew_48 rfl (fun h14 => ?_) (fun h14 => ?_)
    · replace hy := hy.1 h14
      refine E_iconst (0 : Int32) dX5_crew_61 rfl ?_
      refine E_iadd dX5_crew_62 ?_
      refine E_istore dX5_crew_63 (Nat.le_of_ble_eq_true rfl) (?_ : Ev (d + 1) mX5_crew 136 65 [some (.ref 122), some (.int x1), some (.int x2), some (.int x3), some (.int (x4 + (0 : Int32))), some (.int x5)] [] 136 I G J Φ)
      refine E_iinc (x5 + (1 : Int32)) dX5_crew_65 rfl rfl (Nat.le_of_ble_eq_true rfl) (?_ : Ev (d + 1) mX5_crew 136 68 [some (.ref 122), some (.int x1), some (.int x2), some (.int x3), some (.int (x4 + (0 : Int32))), some (.int (x5 + (1 : Int32)))] [] 136 I G J Φ)
      refine E_goto 31 dX5_crew_68 rfl ?_
      exact hy
    · replace hy := hy.2 h14
      refine E_aload_n 0 dX5_crew_51 rfl rfl ?_
      refine E_getr 5 9 122 33 132 dX5_crew_52 fl_RX5_38 rfl sh_122 (wg_122_9 hG) ?_
      refine E_iload dX5_crew_55 rfl ?_
      have c15 := hy.1
      replace hy := hy.2
      refine E_ia 132 6 (x5).toNatClampNeg dX5_crew_57 sh_132 c15 rfl ?_
      refine E_goto 62 dX5_crew_58 rfl ?_
      refine E_iadd dX5_crew_62 ?_
      refine E_istore dX5_crew_63 (Nat.le_of_ble_eq_true rfl) (?_ : Ev (d + 1) mX5_crew 136 65 [some (.ref 122), some (.int x1), some (.int x2), some (.int x3), some (.int (x4 + (I 132 (x5).toNatClampNeg))), some (.int x5)] [] 136 I G J Φ)
      refine E_iinc (x5 + (1 : Int32)) dX5_crew_65 rfl rfl (Nat.le_of_ble_eq_true rfl) (?_ : Ev (d + 1) mX5_crew 136 68 [some (.ref 122), some (.int x1), some (.int x2), some (.int x3), some (.int (x4 + (I 132 (x5).toNatClampNeg))), some (.int (x5 + (1 : Int32)))] [] 136 I G J Φ)
      refine E_goto 31 dX5_crew_68 rfl ?_
      exact hy
set_option maxRecDepth 100000 in
theorem w_X5_days {d : Nat} {I : MI} {G : MG} {J : MJ} {Φ : Ph} (hG : WG G) (x1 : Int32) (hy : Ev d mX5_isHill 136 0 [some (.ref 122), some (.int x1)] [] 136 I G J (fun r n I1 G1 J1 => ∃ v1 : Int32, r = some (.int v1) ∧ n = 136 ∧ I = I1 ∧ G = G1 ∧ J = J1 ∧ ((¬ v1 = 0 → Ev d mX5_copy 136 0 [some (.ref 122), some (.int (0 : Int32)), some (.int (100 : Int32)), none] [] 136 I G J (fun r n I3 G3 J3 => r = none ∧ n = 136 ∧ G = G3 ∧ J = J3 ∧ (Ev d mX5_orderAll 136 0 [some (.ref 122), some (.int (100 : Int32)), some (.int x1), some (.int (7 : Int32)), none] [] 136 I3 G J (fun r n I4 G4 J4 => r = none ∧ n = 136 ∧ G = G4 ∧ J = J4 ∧ (Ev (d + 1) mX5_days 136 28 [some (.ref 122), some (.int x1), some (.int (0 : Int32))] [] 136 I4 G J Φ))))) ∧ (v1 = 0 → Φ (some (.int (-1 : Int32))) 136 I G J)))) : Ev (d + 1) mX5_days 136 0 [some (.ref 122), some (.int x1), none] [] 136 I G J Φ := by
  refine E_aload_n 0 dX5_days_0 rfl rfl ?_
  refine E_iload_n 1 dX5_days_1 rfl rfl ?_
  refine E_cv (M := mX5_days) (pc := 2) (As := [.int x1]) (st := []) mX5_isHill 1 5 33 dX5_days_2 lk_RX5_149 ⟨_, rfl, rfl⟩ sh_122 rfl (Nat.le_of_ble_eq_true rfl) ⟨rfl, rfl⟩ (Nat.le_of_ble_eq_true rfl) rfl hy ?_
  rintro r n I1 G1 J1 ⟨v1, rfl, rfl, rfl, rfl, rfl, hy⟩
  show Ev (d + 1) mX5_days 136 5 [some (.ref 122), some (.int x1), none] [.int v1] 136 I G J Φ
  refine E_if_ne 10 dX5_days_5 rfl (fun h2 => ?_) (fun h2 => ?_)
  · replace hy := hy.1 h2
    refine E_aload_n 0 dX5_days_10 rfl rfl ?_
    refine E_iconst (0 : Int32) dX5_days_11 rfl ?_
    refine E_bipush (100 : Int32) dX5_days_12 rfl ?_
    refine E_cv (M := mX5_days) (pc := 14) (As := [.int (0 : Int32), .int (100 : Int32)]) (st := []) mX5_copy 2 5 33 dX5_days_14 lk_RX5_172 ⟨_, rfl, rfl⟩ sh_122 rfl (Nat.le_of_ble_eq_true rfl) ⟨rfl, rfl⟩ (Nat.le_of_ble_eq_true rfl) rfl hy ?_
    rintro r n I3 G3 J3 ⟨rfl, rfl, rfl, rfl, hy⟩
    show Ev (d + 1) mX5_days 136 17 [some (.ref 122), some (.int x1), none] [] 136 I3 G J Φ
    refine E_aload_n 0 dX5_days_17 rfl rfl ?_
    refine E_bipush (100 : Int32) dX5_days_18 rfl ?_
    refine E_iload_n 1 dX5_days_20 rfl rfl ?_
    refine E_bipush (7 : Int32) dX5_days_21 rfl ?_
    refine E_cv (M := mX5_days) (pc := 23) (As := [.int (100 : Int32), .int x1, .int (7 : Int32)]) (st := []) mX5_orderAll 3 5 33 dX5_days_23 lk_RX5_203 ⟨_, rfl, rfl⟩ sh_122 rfl (Nat.le_of_ble_eq_true rfl) ⟨rfl, rfl⟩ (Nat.le_of_ble_eq_true rfl) rfl hy ?_
    rintro r n I4 G4 J4 ⟨rfl, rfl, rfl, rfl, hy⟩
    show Ev (d + 1) mX5_days 136 26 [some (.ref 122), some (.int x1), none] [] 136 I4 G J Φ
    refine E_iconst (0 : Int32) dX5_days_26 rfl ?_
    refine E_istore_n 2 dX5_days_27 rfl (Nat.le_of_ble_eq_true rfl) (?_ : Ev (d + 1) mX5_days 136 28 [some (.ref 122), some (.int x1), some (.int (0 : Int32))] [] 136 I4 G J Φ)
    exact hy
  · replace hy := hy.2 (Decidable.not_not.mp h2)
    refine E_iconst (-1 : Int32) dX5_days_8 rfl ?_
    exact E_ri dX5_days_9 rfl ⟨rfl, rfl⟩ hy
set_option maxRecDepth 100000 in
theorem w_X5_days_28 {d : Nat} {I : MI} {G : MG} {J : MJ} {Φ : Ph} (hG : WG G)  (x1 : Int32) (x2 : Int32) (hy : ((60 : Int32) < x2 → Φ (some (.int (-9 : Int32))) 136 I G J) ∧ (¬ (60 : Int32) < x2 → Ev d mX5_isOver 136 0 [some (.ref 122), some (.int (100 : Int32)), some (.int x1)] [] 136 I G J (fun r n I2 G2 J2 => ∃ v2 : Int32, r = some (.int v2) ∧ n = 136 ∧ I = I2 ∧ G = G2 ∧ J = J2 ∧ ((v2 = 0 → Ev d mX5_rainsOn 136 0 [some (.ref 122), some (.int (I 123 114))] [] 136 I G J (fun r n I4 G4 J4 => ∃ v4 : Int32, r = some (.int v4) ∧ n = 136 ∧ I = I4 ∧ G = G4 ∧ J = J4 ∧ (Ev d mX5_goToDusk 136 0 [some (.ref 122), some (.int (100 : Int32)), some (.int v4), none] [] 136 I G J (fun r n I5 G5 J5 => r = none ∧ n = 136 ∧ G = G5 ∧ J = J5 ∧ (Ev (d + 1) mX5_days 136 28 [some (.ref 122), some (.int x1), some (.int (x2 + (1 : Int32)))] [] 136 I5 G J Φ))))) ∧ (¬ v2 = 0 → Φ (some (.int x2)) 136 I G J))))) : Ev (d + 1) mX5_days 136 28 [some (.ref 122), some (.int x1), some (.int x2)] [] 136 I G J Φ := by
  refine E_iload_n 2 dX5_days_28 rfl rfl ?_
  refine E_bipush (60 : Int32) dX5_days_29 rfl ?_
  refine E_icmp_gt 69 dX5_days_31 rfl (fun h1 => ?_) (fun h1 => ?_)
  · replace hy := hy.1 h1
    refine E_bipush (-9 : Int32) dX5_days_69 rfl ?_
    exact E_ri dX5_days_71 rfl ⟨rfl, rfl⟩ hy
  · replace hy := hy.2 h1
    refine E_aload_n 0 dX5_days_34 rfl rfl ?_
    refine E_bipush (100 : Int32) dX5_days_35 rfl ?_
    refine E_iload_n 1 dX5_days_37 rfl rfl ?_
    refine E_cv (M := mX5_days) (pc := 38) (As := [.int (100 : Int32), .int x1]) (st := []) mX5_isOver 2 5 33 dX5_days_38 lk_RX5_158 ⟨_, rfl, rfl⟩ sh_122 rfl (Nat.le_of_ble_eq_true rfl) ⟨rfl, rfl⟩ (Nat.le_of_ble_eq_true rfl) rfl hy ?_
    rintro r n I2 G2 J2 ⟨v2, rfl, rfl, rfl, rfl, rfl, hy⟩
    show Ev (d + 1) mX5_days 136 41 [some (.ref 122), some (.int x1), some (.int x2)] [.int v2] 136 I G J Φ
    refine E_if_eq 46 dX5_days_41 rfl (fun h3 => ?_) (fun h3 => ?_)
    · replace hy := hy.1 h3
      refine E_aload_n 0 dX5_days_46 rfl rfl ?_
      refine E_bipush (100 : Int32) dX5_days_47 rfl ?_
      refine E_aload_n 0 dX5_days_49 rfl rfl ?_
      refine E_aload_n 0 dX5_days_50 rfl rfl ?_
      refine E_getr 5 0 122 33 123 dX5_days_51 fl_RX5_7 rfl sh_122 (wg_122_0 hG) ?_
      refine E_bipush (114 : Int32) dX5_days_54 rfl ?_
      refine E_ia 123 1400 114 dX5_days_56 sh_123 (vpd (by decide)) rfl ?_
      refine E_cv (M := mX5_days) (pc := 57) (As := [.int (I 123 114)]) (st := [.int (100 : Int32), .ref 122]) mX5_rainsOn 1 5 33 dX5_days_57 lk_RX5_196 ⟨_, rfl, rfl⟩ sh_122 rfl (Nat.le_of_ble_eq_true rfl) ⟨rfl, rfl⟩ (Nat.le_of_ble_eq_true rfl) rfl hy ?_
      rintro r n I4 G4 J4 ⟨v4, rfl, rfl, rfl, rfl, rfl, hy⟩
      show Ev (d + 1) mX5_days 136 60 [some (.ref 122), some (.int x1), some (.int x2)] [.int v4, .int (100 : Int32), .ref 122] 136 I G J Φ
      refine E_cv (M := mX5_days) (pc := 60) (As := [.int (100 : Int32), .int v4]) (st := []) mX5_goToDusk 2 5 33 dX5_days_60 lk_RX5_213 ⟨_, rfl, rfl⟩ sh_122 rfl (Nat.le_of_ble_eq_true rfl) ⟨rfl, rfl⟩ (Nat.le_of_ble_eq_true rfl) rfl hy ?_
      rintro r n I5 G5 J5 ⟨rfl, rfl, rfl, rfl, hy⟩
      show Ev (d + 1) mX5_days 136 63 [some (.ref 122), some (.int x1), some (.int x2)] [] 136 I5 G J Φ
      refine E_iinc (x2 + (1 : Int32)) dX5_days_63 rfl rfl (Nat.le_of_ble_eq_true rfl) (?_ : Ev (d + 1) mX5_days 136 66 [some (.ref 122), some (.int x1), some (.int (x2 + (1 : Int32)))] [] 136 I5 G J Φ)
      refine E_goto 28 dX5_days_66 rfl ?_
      exact hy
    · replace hy := hy.2 h3
      refine E_iload_n 2 dX5_days_44 rfl rfl ?_
      exact E_ri dX5_days_45 rfl ⟨rfl, rfl⟩ hy
set_option maxRecDepth 100000 in
theorem w_X5_dusk {d : Nat} {I : MI} {G : MG} {J : MJ} {Φ : Ph} (hG : WG G) (x1 : Int32) (x2 : Int32) (hy : Ev (d + 1) mX5_dusk 136 2 [some (.ref 122), some (.int x1), some (.int x2), some (.int (0 : Int32)), none] [] 136 I G J Φ) : Ev (d + 1) mX5_dusk 136 0 [some (.ref 122), some (.int x1), some (.int x2), none, none] [] 136 I G J Φ := by
  refine E_iconst (0 : Int32) dX5_dusk_0 rfl ?_
  refine E_istore_n 3 dX5_dusk_1 rfl (Nat.le_of_ble_eq_true rfl) (?_ : Ev (d + 1) mX5_dusk 136 2 [some (.ref 122), some (.int x1), some (.int x2), some (.int (0 : Int32)), none] [] 136 I G J Φ)
  exact hy
set_option maxRecDepth 100000 in
theorem w_X5_dusk_2 {d : Nat} {I : MI} {G : MG} {J : MJ} {Φ : Ph} (hG : WG G)  (x1 : Int32) (x2 : Int32) (x3 : Int32) (hy : ((I 122 10) ≤ x3 → Ev (d + 1) mX5_dusk 136 124 [some (.ref 122), some (.int x1), some (.int x2), some (.int (0 : Int32)), none] [] 136 I G J Φ) ∧ (¬ (I 122 10) ≤ x3 → Ev d mX5_isOver 136 0 [some (.ref 122), some (.int x1), some (.int x3)] [] 136 I G J (fun r n I2 G2 J2 => ∃ v2 : Int32, r = some (.int v2) ∧ n = 136 ∧ I = I2 ∧ G = G2 ∧ J = J2 ∧ ((¬ v2 = 0 → Ev (d + 1) mX5_dusk 136 59 [some (.ref 122), some (.int x1), some (.int x2), some (.int x3), none] [.int (1 : Int32)] 136 I G J Φ) ∧ (v2 = 0 → vp_in (x1 + x3) 1400 ∧ (((I 123 (x1 + x3).toNatClampNeg) = 0 → Ev (d + 1) mX5_dusk 136 59 [some (.ref 122), some (.int x1), some (.int x2), some (.int x3), none] [.int (1 : Int32)] 136 I G J Φ) ∧ (¬ (I 123 (x1 + x3).toNatClampNeg) = 0 → vp_in x3 8 ∧ (vp_in (x1 + x3) 1400 ∧ (Ev d mX5_has 136 0 [some (.int (I 127 (x3).toNatClampNeg)), some (.int (I 123 (x1 + x3).toNatClampNeg))] [] 136 I G J (fun r n I8 G8 J8 => ∃ v8 : Int32, r = some (.int v8) ∧ n = 136 ∧ I = I8 ∧ G = G8 ∧ J = J8 ∧ ((v8 = 0 → Ev (d + 1) mX5_dusk 136 59 [some (.ref 122), some (.int x1), some (.int x2), some (.int x3), none] [.int (0 : Int32)] 136 I G J Φ) ∧ (¬ v8 = 0 → (¬ x2 = 0 → Ev (d + 1) mX5_dusk 136 59 [some (.ref 122), some (.int x1), some (.int x2), some (.int x3), none] [.int (0 : Int32)] 136 I G J Φ) ∧ (x2 = 0 → Ev (d + 1) mX5_dusk 136 59 [some (.ref 122), some (.int x1), some (.int x2), some (.int x3), none] [.int (1 : Int32)] 136 I G J Φ))))))))))))) : Ev (d + 1) mX5_dusk 136 2 [some (.ref 122), some (.int x1), some (.int x2), some (.int x3), none] [] 136 I G J Φ := by
  refine E_iload_n 3 dX5_dusk_2 rfl rfl ?_
  refine E_aload_n 0 dX5_dusk_3 rfl rfl ?_
  refine E_geti 5 10 122 33 dX5_dusk_4 fl_RX5_131 rfl sh_122 ?_
  refine E_icmp_ge 122 dX5_dusk_7 rfl (fun h1 => ?_) (fun h1 => ?_)
  · replace hy := hy.1 h1
    refine E_iconst (0 : Int32) dX5_dusk_122 rfl ?_
    refine E_istore_n 3 dX5_dusk_123 rfl (Nat.le_of_ble_eq_true rfl) (?_ : Ev (d + 1) mX5_dusk 136 124 [some (.ref 122), some (.int x1), some (.int x2), some (.int (0 : Int32)), none] [] 136 I G J Φ)
    exact hy
  · replace hy := hy.2 h1
    refine E_aload_n 0 dX5_dusk_10 rfl rfl ?_
    refine E_iload_n 1 dX5_dusk_11 rfl rfl ?_
    refine E_iload_n 3 dX5_dusk_12 rfl rfl ?_
    refine E_cv (M := mX5_dusk) (pc := 13) (As := [.int x1, .int x3]) (st := []) mX5_isOver 2 5 33 dX5_dusk_13 lk_RX5_158 ⟨_, rfl, rfl⟩ sh_122 rfl (Nat.le_of_ble_eq_true rfl) ⟨rfl, rfl⟩ (Nat.le_of_ble_eq_true rfl) rfl hy ?_
    rintro r n I2 G2 J2 ⟨v2, rfl, rfl, rfl, rfl, rfl, hy⟩
    show Ev (d + 1) mX5_dusk 136 16 [some (.ref 122), some (.int x1), some (.int x2), some (.int x3), none] [.int v2] 136 I G J Φ
    refine E_if_ne 54 dX5_dusk_16 rfl (fun h3 => ?_) (fun h3 => ?_)
    · replace hy := hy.1 h3
      refine E_iconst (1 : Int32) dX5_dusk_54 rfl ?_
      refine E_goto 59 dX5_dusk_55 rfl ?_
      exact hy
    · replace hy := hy.2 (Decidable.not_not.mp h3)
      refine E_aload_n 0 dX5_dusk_19 rfl rfl ?_
      refine E_getr 5 0 122 33 123 dX5_dusk_20 fl_RX5_7 rfl sh_122 (wg_122_0 hG) ?_
      refine E_iload_n 1 dX5_dusk_23 rfl rfl ?_
      refine E_iload_n 3 dX5_dusk_24 rfl rfl ?_
      refine E_iadd dX5_dusk_25 ?_
      have c4 := hy.1
      replace hy := hy.2
      refine E_ia 123 1400 (x1 + x3).toNatClampNeg dX5_dusk_26 sh_123 c4 rfl ?_
      refine E_if_eq 54 dX5_dusk_27 rfl (fun h5 => ?_) (fun h5 => ?_)
      · replace hy := hy.1 h5
        refine E_iconst (1 : Int32) dX5_dusk_54 rfl ?_
        refine E_goto 59 dX5_dusk_55 rfl ?_
        exact hy
      · replace hy := hy.2 h5
        refine E_aload_n 0 dX5_dusk_30 rfl rfl ?_
        refine E_getr 5 4 122 33 127 dX5_dusk_31 fl_RX5_23 rfl sh_122 (wg_122_4 hG) ?_
        refine E_iload_n 3 dX5_dusk_34 rfl rfl ?_
        have c6 := hy.1
        replace hy := hy.2
        refine E_ia 127 8 (x3).toNatClampNeg dX5_dusk_35 sh_127 c6 rfl ?_
        refine E_aload_n 0 dX5_dusk_36 rfl rfl ?_
        refine E_getr 5 0 122 33 123 dX5_dusk_37 fl_RX5_7 rfl sh_122 (wg_122_0 hG) ?_
        refine E_iload_n 1 dX5_dusk_40 rfl rfl ?_
        refine E_iload_n 3 dX5_dusk_41 rfl rfl ?_
        refine E_iadd dX5_dusk_42 ?_
        have c7 := hy.1
        replace hy := hy.2
        refine E_ia 123 1400 (x1 + x3).toNatClampNeg dX5_dusk_43 sh_123 c7 rfl ?_
        refine E_cs (M := mX5_dusk) (pc := 44) (As := [.int (I 127 (x3).toNatClampNeg), .int (I 123 (x1 + x3).toNatClampNeg)]) (st := []) mX5_has 2 dX5_dusk_44 lk_RX5_118 rfl (Nat.le_of_ble_eq_true rfl) ⟨rfl, rfl⟩ (Nat.le_of_ble_eq_true rfl) rfl hy ?_
        rintro r n I8 G8 J8 ⟨v8, rfl, rfl, rfl, rfl, rfl, hy⟩
        show Ev (d + 1) mX5_dusk 136 47 [some (.ref 122), some (.int x1), some (.int x2), some (.int x3), none] [.int v8] 136 I G J Φ
        refine E_if_eq 58 dX5_dusk_47 rfl (fun h9 => ?_) (fun h9 => ?_)
        · replace hy := hy.1 h9
          refine E_iconst (0 : Int32) dX5_dusk_58 rfl ?_
          exact hy
        · replace hy := hy.2 h9
          refine E_iload_n 2 dX5_dusk_50 rfl rfl ?_
          refine E_if_ne 58 dX5_dusk_51 rfl (fun h10 => ?_) (fun h10 => ?_)
          · replace hy := hy.1 h10
            refine E_iconst (0 : Int32) dX5_dusk_58 rfl ?_
            exact hy
          · replace hy := hy.2 (Decidable.not_not.mp h10)
            refine E_iconst (1 : Int32) dX5_dusk_54 rfl ?_
            refine E_goto 59 dX5_dusk_55 rfl ?_
            exact hy
set_option maxRecDepth 100000 in
theorem w_X5_dusk_59 {d : Nat} {I : MI} {G : MG} {J : MJ} {Φ : Ph} (hG : WG G)  (x1 : Int32) (x2 : Int32) (x3 : Int32) (s0 : Int32) (hy : vp_in ((x1 + (4 : Int32)) + x3) 1400 ∧ ((s0 = 0 → vp_in (x1 + x3) 1400 ∧ (vp_in ((x1 + (4 : Int32)) + x3) 1400 ∧ ((s0 = 0 → vp_in (x1 + x3) 1400 ∧ (Ev (d + 1) mX5_dusk 136 2 [some (.ref 122), some (.int x1), some (.int x2), some (.int (x3 + (1 : Int32))), none] [] 136 (u2 (u2 I 123 ((x1 + (4 : Int32)) + x3).toNatClampNeg ((I 123 ((x1 + (4 : Int32)) + x3).toNatClampNeg) + (I 123 (x1 + x3).toNatClampNeg))) 123 (x1 + x3).toNatClampNeg (0 : Int32)) G J Φ)) ∧ (¬ s0 = 0 → vp_in (x1 + x3) 1400 ∧ (vp_in (x1 + x3) 1400 ∧ (Ev (d + 1) mX5_dusk 136 2 [some (.ref 122), some (.int x1), some (.int x2), some (.int (x3 + (1 : Int32))), none] [] 136 (u2 (u2 I 123 ((x1 + (4 : Int32)) + x3).toNatClampNeg ((I 123 ((x1 + (4 : Int32)) + x3).toNatClampNeg) + (I 123 (x1 + x3).toNatClampNeg))) 123 (x1 + x3).toNatClampNeg ((u2 I 123 ((x1 + (4 : Int32)) + x3).toNatClampNeg ((I 123 ((x1 + (4 : Int32)) + x3).toNatClampNeg) + (I 123 (x1 + x3).toNatClampNeg))) 123 (x1 + x3).toNatClampNeg)) G J Φ)))))) ∧ (¬ s0 = 0 → vp_in ((x1 + (4 : Int32)) + x3) 1400 ∧ ((s0 = 0 → vp_in (x1 + x3) 1400 ∧ (Ev (d + 1) mX5_dusk 136 2 [some (.ref 122), some (.int x1), some (.int x2), some (.int (x3 + (1 : Int32))), none] [] 136 (u2 (u2 I 123 ((x1 + (4 : Int32)) + x3).toNatClampNeg ((I 123 ((x1 + (4 : Int32)) + x3).toNatClampNeg) + (0 : Int32))) 123 (x1 + x3).toNatClampNeg (0 : Int32)) G J Φ)) ∧ (¬ s0 = 0 → vp_in (x1 + x3) 1400 ∧ (vp_in (x1 + x3) 1400 ∧ (Ev (d + 1) mX5_dusk 136 2 [some (.ref 122), some (.int x1), some (.int x2), some (.int (x3 + (1 : Int32))), none] [] 136 (u2 (u2 I 123 ((x1 + (4 : Int32)) + x3).toNatClampNeg ((I 123 ((x1 + (4 : Int32)) + x3).toNatClampNeg) + (0 : Int32))) 123 (x1 + x3).toNatClampNeg ((u2 I 123 ((x1 + (4 : Int32)) + x3).toNatClampNeg ((I 123 ((x1 + (4 : Int32)) + x3).toNatClampNeg) + (0 : Int32))) 123 (x1 + x3).toNatClampNeg)) G J Φ))))))) : Ev (d + 1) mX5_dusk 136 59 [some (.ref 122), some (.int x1), some (.int x2), some (.int x3), none] [.int s0] 136 I G J Φ := by
  refine E_istore dX5_dusk_59 (Nat.le_of_ble_eq_true rfl) (?_ : Ev (d + 1) mX5_dusk 136 61 [some (.ref 122), some (.int x1), some (.int x2), some (.int x3), some (.int s0)] [] 136 I G J Φ)
  refine E_aload_n 0 dX5_dusk_61 rfl rfl ?_
  refine E_getr 5 0 122 33 123 dX5_dusk_62 fl_RX5_7 rfl sh_122 (wg_122_0 hG) ?_
  refine E_iload_n 1 dX5_dusk_65 rfl rfl ?_
  refine E_iconst (4 : Int32) dX5_dusk_66 rfl ?_
  refine E_iadd dX5_dusk_67 ?_
  refine E_iload_n 3 dX5_dusk_68 rfl rfl ?_
  refine E_iadd dX5_dusk_69 ?_
  refine E_dup2 dX5_dusk_70 rfl rfl ?_
  have c1 := hy.1
  replace hy := hy.2
  refine E_ia 123 1400 ((x1 + (4 : Int32)) + x3).toNatClampNeg dX5_dusk_71 sh_123 c1 rfl ?_
  refine E_iload dX5_dusk_72 rfl ?_
  refine E_if_eq 81 dX5_dusk_74 rfl (fun h2 => ?_) (fun h2 => ?_)
  · replace hy := hy.1 h2
    refine E_aload_n 0 dX5_dusk_81 rfl rfl ?_
    refine E_getr 5 0 122 33 123 dX5_dusk_82 fl_RX5_7 rfl sh_122 (wg_122_0 hG) ?_
    refine E_iload_n 1 dX5_dusk_85 rfl rfl ?_
    refine E_iload_n 3 dX5_dusk_86 rfl rfl ?_
    refine E_iadd dX5_dusk_87 ?_
    have c3 := hy.1
    replace hy := hy.2
    refine E_ia 123 1400 (x1 + x3).toNatClampNeg dX5_dusk_88 sh_123 c3 rfl ?_
    refine E_iadd dX5_dusk_89 ?_
    have c4 := hy.1
    replace hy := hy.2
    refine E_is 123 1400 ((x1 + (4 : Int32)) + x3).toNatClampNeg dX5_dusk_90 sh_123 c4 rfl ?_
    refine E_aload_n 0 dX5_dusk_91 rfl rfl ?_
    refine E_getr 5 0 122 33 123 dX5_dusk_92 fl_RX5_7 rfl sh_122 (wg_122_0 hG) ?_
    refine E_iload_n 1 dX5_dusk_95 rfl rfl ?_
    refine E_iload_n 3 dX5_dusk_96 rfl rfl ?_
    refine E_iadd dX5_dusk_97 ?_
    refine E_iload dX5_dusk_98 rfl ?_
    refine E_if_eq 114 dX5_dusk_100 rfl (fun h5 => ?_) (fun h5 => ?_)
    · replace hy := hy.1 h5
      refine E_iconst (0 : Int32) dX5_dusk_114 rfl ?_
      have c6 := hy.1
      replace hy := hy.2
      refine E_is 123 1400 (x1 + x3).toNatClampNeg dX5_dusk_115 sh_123 c6 rfl ?_
      refine E_iinc (x3 + (1 : Int32)) dX5_dusk_116 rfl rfl (Nat.le_of_ble_eq_true rfl) (?_ : Ev (d + 1) mX5_dusk 136 119 [some (.ref 122), some (.int x1), some (.int x2), some (.int (x3 + (1 : Int32))), some (.int s0)] [] 136 (u2 (u2 I 123 ((x1 + (4 : Int32)) + x3).toNatClampNeg ((I 123 ((x1 + (4 : Int32)) + x3).toNatClampNeg) + (I 123 (x1 + x3).toNatClampNeg))) 123 (x1 + x3).toNatClampNeg (0 : Int32)) G J Φ)
      refine E_goto 2 dX5_dusk_119 rfl ?_
      refine E_wk (ls2 := [some (.ref 122), some (.int x1), some (.int x2), some (.int (x3 + (1 : Int32))), none]) ⟨rfl, rfl, rfl, rfl, trivial⟩ ?_
      exact hy
    · replace hy := hy.2 h5
      refine E_aload_n 0 dX5_dusk_103 rfl rfl ?_
      refine E_getr 5 0 122 33 123 dX5_dusk_104 fl_RX5_7 rfl sh_122 (wg_122_0 hG) ?_
      refine E_iload_n 1 dX5_dusk_107 rfl rfl ?_
      refine E_iload_n 3 dX5_dusk_108 rfl rfl ?_
      refine E_iadd dX5_dusk_109 ?_
      have c7 := hy.1
      replace hy := hy.2
      refine E_ia 123 1400 (x1 + x3).toNatClampNeg dX5_dusk_110 sh_123 c7 rfl ?_
      refine E_goto 115 dX5_dusk_111 rfl ?_
      have c8 := hy.1
      replace hy := hy.2
      refine E_is 123 1400 (x1 + x3).toNatClampNeg dX5_dusk_115 sh_123 c8 rfl ?_
      refine E_iinc (x3 + (1 : Int32)) dX5_dusk_116 rfl rfl (Nat.le_of_ble_eq_true rfl) (?_ : Ev (d + 1) mX5_dusk 136 119 [some (.ref 122), some (.int x1), some (.int x2), some (.int (x3 + (1 : Int32))), some (.int s0)] [] 136 (u2 (u2 I 123 ((x1 + (4 : Int32)) + x3).toNatClampNeg ((I 123 ((x1 + (4 : Int32)) + x3).toNatClampNeg) + (I 123 (x1 + x3).toNatClampNeg))) 123 (x1 + x3).toNatClampNeg ((u2 I 123 ((x1 + (4 : Int32)) + x3).toNatClampNeg ((I 123 ((x1 + (4 : Int32)) + x3).toNatClampNeg) + (I 123 (x1 + x3).toNatClampNeg))) 123 (x1 + x3).toNatClampNeg)) G J Φ)
      refine E_goto 2 dX5_dusk_119 rfl ?_
      refine E_wk (ls2 := [some (.ref 122), some (.int x1), some (.int x2), some (.int (x3 + (1 : Int32))), none]) ⟨rfl, rfl, rfl, rfl, trivial⟩ ?_
      exact hy
  · replace hy := hy.2 h2
    refine E_iconst (0 : Int32) dX5_dusk_77 rfl ?_
    refine E_goto 89 dX5_dusk_78 rfl ?_
    refine E_iadd dX5_dusk_89 ?_
    have c9 := hy.1
    replace hy := hy.2
    refine E_is 123 1400 ((x1 + (4 : Int32)) + x3).toNatClampNeg dX5_dusk_90 sh_123 c9 rfl ?_
    refine E_aload_n 0 dX5_dusk_91 rfl rfl ?_
    refine E_getr 5 0 122 33 123 dX5_dusk_92 fl_RX5_7 rfl sh_122 (wg_122_0 hG) ?_
    refine E_iload_n 1 dX5_dusk_95 rfl rfl ?_
    refine E_iload_n 3 dX5_dusk_96 rfl rfl ?_
    refine E_iadd dX5_dusk_97 ?_
    refine E_iload dX5_dusk_98 rfl ?_
    refine E_if_eq 114 dX5_dusk_100 rfl (fun h10 => ?_) (fun h10 => ?_)
    · replace hy := hy.1 h10
      refine E_iconst (0 : Int32) dX5_dusk_114 rfl ?_
      have c11 := hy.1
      replace hy := hy.2
      refine E_is 123 1400 (x1 + x3).toNatClampNeg dX5_dusk_115 sh_123 c11 rfl ?_
      refine E_iinc (x3 + (1 : Int32)) dX5_dusk_116 rfl rfl (Nat.le_of_ble_eq_true rfl) (?_ : Ev (d + 1) mX5_dusk 136 119 [some (.ref 122), some (.int x1), some (.int x2), some (.int (x3 + (1 : Int32))), some (.int s0)] [] 136 (u2 (u2 I 123 ((x1 + (4 : Int32)) + x3).toNatClampNeg ((I 123 ((x1 + (4 : Int32)) + x3).toNatClampNeg) + (0 : Int32))) 123 (x1 + x3).toNatClampNeg (0 : Int32)) G J Φ)
      refine E_goto 2 dX5_dusk_119 rfl ?_
      refine E_wk (ls2 := [some (.ref 122), some (.int x1), some (.int x2), some (.int (x3 + (1 : Int32))), none]) ⟨rfl, rfl, rfl, rfl, trivial⟩ ?_
      exact hy
    · replace hy := hy.2 h10
      refine E_aload_n 0 dX5_dusk_103 rfl rfl ?_
      refine E_getr 5 0 122 33 123 dX5_dusk_104 fl_RX5_7 rfl sh_122 (wg_122_0 hG) ?_
      refine E_iload_n 1 dX5_dusk_107 rfl rfl ?_
      refine E_iload_n 3 dX5_dusk_108 rfl rfl ?_
      refine E_iadd dX5_dusk_109 ?_
      have c12 := hy.1
      replace hy := hy.2
      refine E_ia 123 1400 (x1 + x3).toNatClampNeg dX5_dusk_110 sh_123 c12 rfl ?_
      refine E_goto 115 dX5_dusk_111 rfl ?_
      have c13 := hy.1
      replace hy := hy.2
      refine E_is 123 1400 (x1 + x3).toNatClampNeg dX5_dusk_115 sh_123 c13 rfl ?_
      refine E_iinc (x3 + (1 : Int32)) dX5_dusk_116 rfl rfl (Nat.le_of_ble_eq_true rfl) (?_ : Ev (d + 1) mX5_dusk 136 119 [some (.ref 122), some (.int x1), some (.int x2), some (.int (x3 + (1 : Int32))), some (.int s0)] [] 136 (u2 (u2 I 123 ((x1 + (4 : Int32)) + x3).toNatClampNeg ((I 123 ((x1 + (4 : Int32)) + x3).toNatClampNeg) + (0 : Int32))) 123 (x1 + x3).toNatClampNeg ((u2 I 123 ((x1 + (4 : Int32)) + x3).toNatClampNeg ((I 123 ((x1 + (4 : Int32)) + x3).toNatClampNeg) + (0 : Int32))) 123 (x1 + x3).toNatClampNeg)) G J Φ)
      refine E_goto 2 dX5_dusk_119 rfl ?_
      refine E_wk (ls2 := [some (.ref 122), some (.int x1), some (.int x2), some (.int (x3 + (1 : Int32))), none]) ⟨rfl, rfl, rfl, rfl, trivial⟩ ?_
      exact hy
set_option maxRecDepth 100000 in
theorem w_X5_dusk_124 {d : Nat} {I : MI} {G : MG} {J : MJ} {Φ : Ph} (hG : WG G)  (x1 : Int32) (x2 : Int32) (x3 : Int32) (hy : ((I 122 12) ≤ x3 → Ev (d + 1) mX5_dusk 136 158 [some (.ref 122), some (.int x1), some (.int x2), some (.int (19 : Int32)), none] [] 136 I G J Φ) ∧ (¬ (I 122 12) ≤ x3 → vp_in x3 6 ∧ (vp_in ((x1 + (8 : Int32)) + x3) 1400 ∧ (Ev (d + 1) mX5_dusk 136 124 [some (.ref 122), some (.int x1), some (.int x2), some (.int (x3 + (1 : Int32))), none] [] 136 (u2 I 123 ((x1 + (8 : Int32)) + x3).toNatClampNeg (I 132 (x3).toNatClampNeg)) G J Φ)))) : Ev (d + 1) mX5_dusk 136 124 [some (.ref 122), some (.int x1), some (.int x2), some (.int x3), none] [] 136 I G J Φ := by
  refine E_iload_n 3 dX5_dusk_124 rfl rfl ?_
  refine E_aload_n 0 dX5_dusk_125 rfl rfl ?_
  refine E_geti 5 12 122 33 dX5_dusk_126 fl_RX5_137 rfl sh_122 ?_
  refine E_icmp_ge 155 dX5_dusk_129 rfl (fun h1 => ?_) (fun h1 => ?_)
  · replace hy := hy.1 h1
    refine E_bipush (19 : Int32) dX5_dusk_155 rfl ?_
    refine E_istore_n 3 dX5_dusk_157 rfl (Nat.le_of_ble_eq_true rfl) (?_ : Ev (d + 1) mX5_dusk 136 158 [some (.ref 122), some (.int x1), some (.int x2), some (.int (19 : Int32)), none] [] 136 I G J Φ)
    exact hy
  · replace hy := hy.2 h1
    refine E_aload_n 0 dX5_dusk_132 rfl rfl ?_
    refine E_getr 5 0 122 33 123 dX5_dusk_133 fl_RX5_7 rfl sh_122 (wg_122_0 hG) ?_
    refine E_iload_n 1 dX5_dusk_136 rfl rfl ?_
    refine E_bipush (8 : Int32) dX5_dusk_137 rfl ?_
    refine E_iadd dX5_dusk_139 ?_
    refine E_iload_n 3 dX5_dusk_140 rfl rfl ?_
    refine E_iadd dX5_dusk_141 ?_
    refine E_aload_n 0 dX5_dusk_142 rfl rfl ?_
    refine E_getr 5 9 122 33 132 dX5_dusk_143 fl_RX5_38 rfl sh_122 (wg_122_9 hG) ?_
    refine E_iload_n 3 dX5_dusk_146 rfl rfl ?_
    have c2 := hy.1
    replace hy := hy.2
    refine E_ia 132 6 (x3).toNatClampNeg dX5_dusk_147 sh_132 c2 rfl ?_
    have c3 := hy.1
    replace hy := hy.2
    refine E_is 123 1400 ((x1 + (8 : Int32)) + x3).toNatClampNeg dX5_dusk_148 sh_123 c3 rfl ?_
    refine E_iinc (x3 + (1 : Int32)) dX5_dusk_149 rfl rfl (Nat.le_of_ble_eq_true rfl) (?_ : Ev (d + 1) mX5_dusk 136 152 [some (.ref 122), some (.int x1), some (.int x2), some (.int (x3 + (1 : Int32))), none] [] 136 (u2 I 123 ((x1 + (8 : Int32)) + x3).toNatClampNeg (I 132 (x3).toNatClampNeg)) G J Φ)
    refine E_goto 124 dX5_dusk_152 rfl ?_
    exact hy
set_option maxRecDepth 100000 in
theorem w_X5_dusk_158 {d : Nat} {I : MI} {G : MG} {J : MJ} {Φ : Ph} (hG : WG G)  (x1 : Int32) (x2 : Int32) (x3 : Int32) (hy : (x3 ≤ 0 → Ev (d + 1) mX5_dusk 136 219 [some (.ref 122), some (.int x1), some (.int x2), some (.int (0 : Int32)), none] [] 136 I G J Φ) ∧ (¬ x3 ≤ 0 → Ev (d + 1) mX5_dusk 136 165 [some (.ref 122), some (.int x1), some (.int x2), some (.int x3), some (.int (0 : Int32))] [] 136 I G J Φ)) : Ev (d + 1) mX5_dusk 136 158 [some (.ref 122), some (.int x1), some (.int x2), some (.int x3), none] [] 136 I G J Φ := by
  refine E_iload_n 3 dX5_dusk_158 rfl rfl ?_
  refine E_if_le 217 dX5_dusk_159 rfl (fun h1 => ?_) (fun h1 => ?_)
  · replace hy := hy.1 h1
    refine E_iconst (0 : Int32) dX5_dusk_217 rfl ?_
    refine E_istore_n 3 dX5_dusk_218 rfl (Nat.le_of_ble_eq_true rfl) (?_ : Ev (d + 1) mX5_dusk 136 219 [some (.ref 122), some (.int x1), some (.int x2), some (.int (0 : Int32)), none] [] 136 I G J Φ)
    exact hy
  · replace hy := hy.2 h1
    refine E_iconst (0 : Int32) dX5_dusk_162 rfl ?_
    refine E_istore dX5_dusk_163 (Nat.le_of_ble_eq_true rfl) (?_ : Ev (d + 1) mX5_dusk 136 165 [some (.ref 122), some (.int x1), some (.int x2), some (.int x3), some (.int (0 : Int32))] [] 136 I G J Φ)
    exact hy
set_option maxRecDepth 100000 in
theorem w_X5_dusk_165 {d : Nat} {I : MI} {G : MG} {J : MJ} {Φ : Ph} (hG : WG G)  (x1 : Int32) (x2 : Int32) (x3 : Int32) (x4 : Int32) (hy : ((4 : Int32) ≤ x4 → Ev (d + 1) mX5_dusk 136 158 [some (.ref 122), some (.int x1), some (.int x2), some (.int (x3 + (-1 : Int32))), none] [] 136 I G J Φ) ∧ (¬ (4 : Int32) ≤ x4 → vp_in (((x1 + (20 : Int32)) + ((4 : Int32) * (x3 - (1 : Int32)))) + x4) 1400 ∧ (vp_in (((x1 + (20 : Int32)) + ((4 : Int32) * x3)) + x4) 1400 ∧ (Ev (d + 1) mX5_dusk 136 165 [some (.ref 122), some (.int x1), some (.int x2), some (.int x3), some (.int (x4 + (1 : Int32)))] [] 136 (u2 I 123 (((x1 + (20 : Int32)) + ((4 : Int32) * x3)) + x4).toNatClampNeg (I 123 (((x1 + (20 : Int32)) + ((4 : Int32) * (x3 - (1 : Int32)))) + x4).toNatClampNeg)) G J Φ)))) : Ev (d + 1) mX5_dusk 136 165 [some (.ref 122), some (.int x1), some (.int x2), some (.int x3), some (.int x4)] [] 136 I G J Φ := by
  refine E_iload dX5_dusk_165 rfl ?_
  refine E_iconst (4 : Int32) dX5_dusk_167 rfl ?_
  refine E_icmp_ge 211 dX5_dusk_168 rfl (fun h1 => ?_) (fun h1 => ?_)
  · replace hy := hy.1 h1
    refine E_iinc (x3 + (-1 : Int32)) dX5_dusk_211 rfl rfl (Nat.le_of_ble_eq_true rfl) (?_ : Ev (d + 1) mX5_dusk 136 214 [some (.ref 122), some (.int x1), some (.int x2), some (.int (x3 + (-1 : Int32))), some (.int x4)] [] 136 I G J Φ)
    refine E_goto 158 dX5_dusk_214 rfl ?_
    refine E_wk (ls2 := [some (.ref 122), some (.int x1), some (.int x2), some (.int (x3 + (-1 : Int32))), none]) ⟨rfl, rfl, rfl, rfl, trivial⟩ ?_
    exact hy
  · replace hy := hy.2 h1
    refine E_aload_n 0 dX5_dusk_171 rfl rfl ?_
    refine E_getr 5 0 122 33 123 dX5_dusk_172 fl_RX5_7 rfl sh_122 (wg_122_0 hG) ?_
    refine E_iload_n 1 dX5_dusk_175 rfl rfl ?_
    refine E_bipush (20 : Int32) dX5_dusk_176 rfl ?_
    refine E_iadd dX5_dusk_178 ?_
    refine E_iconst (4 : Int32) dX5_dusk_179 rfl ?_
    refine E_iload_n 3 dX5_dusk_180 rfl rfl ?_
    refine E_imul dX5_dusk_181 ?_
    refine E_iadd dX5_dusk_182 ?_
    refine E_iload dX5_dusk_183 rfl ?_
    refine E_iadd dX5_dusk_185 ?_
    refine E_aload_n 0 dX5_dusk_186 rfl rfl ?_
    refine E_getr 5 0 122 33 123 dX5_dusk_187 fl_RX5_7 rfl sh_122 (wg_122_0 hG) ?_
    refine E_iload_n 1 dX5_dusk_190 rfl rfl ?_
    refine E_bipush (20 : Int32) dX5_dusk_191 rfl ?_
    refine E_iadd dX5_dusk_193 ?_
    refine E_iconst (4 : Int32) dX5_dusk_194 rfl ?_
    refine E_iload_n 3 dX5_dusk_195 rfl rfl ?_
    refine E_iconst (1 : Int32) dX5_dusk_196 rfl ?_
    refine E_isub dX5_dusk_197 ?_
    refine E_imul dX5_dusk_198 ?_
    refine E_iadd dX5_dusk_199 ?_
    refine E_iload dX5_dusk_200 rfl ?_
    refine E_iadd dX5_dusk_202 ?_
    have c2 := hy.1
    replace hy := hy.2
    refine E_ia 123 1400 (((x1 + (20 : Int32)) + ((4 : Int32) * (x3 - (1 : Int32)))) + x4).toNatClampNeg dX5_dusk_203 sh_123 c2 rfl ?_
    have c3 := hy.1
    replace hy := hy.2
    refine E_is 123 1400 (((x1 + (20 : Int32)) + ((4 : Int32) * x3)) + x4).toNatClampNeg dX5_dusk_204 sh_123 c3 rfl ?_
    refine E_iinc (x4 + (1 : Int32)) dX5_dusk_205 rfl rfl (Nat.le_of_ble_eq_true rfl) (?_ : Ev (d + 1) mX5_dusk 136 208 [some (.ref 122), some (.int x1), some (.int x2), some (.int x3), some (.int (x4 + (1 : Int32)))] [] 136 (u2 I 123 (((x1 + (20 : Int32)) + ((4 : Int32) * x3)) + x4).toNatClampNeg (I 123 (((x1 + (20 : Int32)) + ((4 : Int32) * (x3 - (1 : Int32)))) + x4).toNatClampNeg)) G J Φ)
    refine E_goto 165 dX5_dusk_208 rfl ?_
    exact hy
set_option maxRecDepth 100000 in
theorem w_X5_dusk_219 {d : Nat} {I : MI} {G : MG} {J : MJ} {Φ : Ph} (hG : WG G)  (x1 : Int32) (x2 : Int32) (x3 : Int32) (hy : ((4 : Int32) ≤ x3 → vp_in (x1 + (16 : Int32)) 1400 ∧ (vp_in (x1 + (16 : Int32)) 1400 ∧ (((20 : Int32) ≤ (I 123 (x1 + (16 : Int32)).toNatClampNeg) → vp_in (x1 + (16 : Int32)) 1400 ∧ (vp_in (x1 + (14 : Int32)) 1400 ∧ (vp_in (x1 + (14 : Int32)) 1400 ∧ (vp_in (x1 + (15 : Int32)) 1400 ∧ (Φ none 136 (u2 (u2 (u2 I 123 (x1 + (16 : Int32)).toNatClampNeg ((I 123 (x1 + (16 : Int32)).toNatClampNeg) + (0 : Int32))) 123 (x1 + (14 : Int32)).toNatClampNeg (((u2 I 123 (x1 + (16 : Int32)).toNatClampNeg ((I 123 (x1 + (16 : Int32)).toNatClampNeg) + (0 : Int32))) 123 (x1 + (14 : Int32)).toNatClampNeg) + (1 : Int32))) 123 (x1 + (15 : Int32)).toNatClampNeg (0 : Int32)) G J))))) ∧ (¬ (20 : Int32) ≤ (I 123 (x1 + (16 : Int32)).toNatClampNeg) → vp_in (x1 + (16 : Int32)) 1400 ∧ (vp_in (x1 + (14 : Int32)) 1400 ∧ (vp_in (x1 + (14 : Int32)) 1400 ∧ (vp_in (x1 + (15 : Int32)) 1400 ∧ (Φ none 136 (u2 (u2 (u2 I 123 (x1 + (16 : Int32)).toNatClampNeg ((I 123 (x1 + (16 : Int32)).toNatClampNeg) + (1 : Int32))) 123 (x1 + (14 : Int32)).toNatClampNeg (((u2 I 123 (x1 + (16 : Int32)).toNatClampNeg ((I 123 (x1 + (16 : Int32)).toNatClampNeg) + (1 : Int32))) 123 (x1 + (14 : Int32)).toNatClampNeg) + (1 : Int32))) 123 (x1 + (15 : Int32)).toNatClampNeg (0 : Int32)) G J)))))))) ∧ (¬ (4 : Int32) ≤ x3 → vp_in (x1 + x3) 1400 ∧ (vp_in ((x1 + (20 : Int32)) + x3) 1400 ∧ (Ev (d + 1) mX5_dusk 136 219 [some (.ref 122), some (.int x1), some (.int x2), some (.int (x3 + (1 : Int32))), none] [] 136 (u2 I 123 ((x1 + (20 : Int32)) + x3).toNatClampNeg (I 123 (x1 + x3).toNatClampNeg)) G J Φ)))) : Ev (d + 1) mX5_dusk 136 219 [some (.ref 122), some (.int x1), some (.int x2), some (.int x3), none] [] 136 I G J Φ := by
  refine E_iload_n 3 dX5_dusk_219 rfl rfl ?_
  refine E_iconst (4 : Int32) dX5_dusk_220 rfl ?_
  refine E_icmp_ge 249 dX5_dusk_221 rfl (fun h1 => ?_) (fun h1 => ?_)
  · replace hy := hy.1 h1
    refine E_aload_n 0 dX5_dusk_249 rfl rfl ?_
    refine E_getr 5 0 122 33 123 dX5_dusk_250 fl_RX5_7 rfl sh_122 (wg_122_0 hG) ?_
    refine E_iload_n 1 dX5_dusk_253 rfl rfl ?_
    refine E_bipush (16 : Int32) dX5_dusk_254 rfl ?_
    refine E_iadd dX5_dusk_256 ?_
    refine E_dup2 dX5_dusk_257 rfl rfl ?_
    have c2 := hy.1
    replace hy := hy.2
    refine E_ia 123 1400 (x1 + (16 : Int32)).toNatClampNeg dX5_dusk_258 sh_123 c2 rfl ?_
    refine E_aload_n 0 dX5_dusk_259 rfl rfl ?_
    refine E_getr 5 0 122 33 123 dX5_dusk_260 fl_RX5_7 rfl sh_122 (wg_122_0 hG) ?_
    refine E_iload_n 1 dX5_dusk_263 rfl rfl ?_
    refine E_bipush (16 : Int32) dX5_dusk_264 rfl ?_
    refine E_iadd dX5_dusk_266 ?_
    have c3 := hy.1
    replace hy := hy.2
    refine E_ia 123 1400 (x1 + (16 : Int32)).toNatClampNeg dX5_dusk_267 sh_123 c3 rfl ?_
    refine E_bipush (20 : Int32) dX5_dusk_268 rfl ?_
    refine E_icmp_ge 277 dX5_dusk_270 rfl (fun h4 => ?_) (fun h4 => ?_)
    · replace hy := hy.1 h4
      refine E_iconst (0 : Int32) dX5_dusk_277 rfl ?_
      refine E_iadd dX5_dusk_278 ?_
      have c5 := hy.1
      replace hy := hy.2
      refine E_is 123 1400 (x1 + (16 : Int32)).toNatClampNeg dX5_dusk_279 sh_123 c5 rfl ?_
      refine E_aload_n 0 dX5_dusk_280 rfl rfl ?_
      refine E_getr 5 0 122 33 123 dX5_dusk_281 fl_RX5_7 rfl sh_122 (wg_122_0 hG) ?_
      refine E_iload_n 1 dX5_dusk_284 rfl rfl ?_
      refine E_bipush (14 : Int32) dX5_dusk_285 rfl ?_
      refine E_iadd dX5_dusk_287 ?_
      refine E_dup2 dX5_dusk_288 rfl rfl ?_
      have c6 := hy.1
      replace hy := hy.2
      refine E_ia 123 1400 (x1 + (14 : Int32)).toNatClampNeg dX5_dusk_289 sh_123 c6 rfl ?_
      refine E_iconst (1 : Int32) dX5_dusk_290 rfl ?_
      refine E_iadd dX5_dusk_291 ?_
      have c7 := hy.1
      replace hy := hy.2
      refine E_is 123 1400 (x1 + (14 : Int32)).toNatClampNeg dX5_dusk_292 sh_123 c7 rfl ?_
      refine E_aload_n 0 dX5_dusk_293 rfl rfl ?_
      refine E_getr 5 0 122 33 123 dX5_dusk_294 fl_RX5_7 rfl sh_122 (wg_122_0 hG) ?_
      refine E_iload_n 1 dX5_dusk_297 rfl rfl ?_
      refine E_bipush (15 : Int32) dX5_dusk_298 rfl ?_
      refine E_iadd dX5_dusk_300 ?_
      refine E_iconst (0 : Int32) dX5_dusk_301 rfl ?_
      have c8 := hy.1
      replace hy := hy.2
      refine E_is 123 1400 (x1 + (15 : Int32)).toNatClampNeg dX5_dusk_302 sh_123 c8 rfl ?_
      exact E_rv dX5_dusk_303 rfl ⟨rfl, rfl⟩ hy
    · replace hy := hy.2 h4
      refine E_iconst (1 : Int32) dX5_dusk_273 rfl ?_
      refine E_goto 278 dX5_dusk_274 rfl ?_
      refine E_iadd dX5_dusk_278 ?_
      have c9 := hy.1
      replace hy := hy.2
      refine E_is 123 1400 (x1 + (16 : Int32)).toNatClampNeg dX5_dusk_279 sh_123 c9 rfl ?_
      refine E_aload_n 0 dX5_dusk_280 rfl rfl ?_
      refine E_getr 5 0 122 33 123 dX5_dusk_281 fl_RX5_7 rfl sh_122 (wg_122_0 hG) ?_
      refine E_iload_n 1 dX5_dusk_284 rfl rfl ?_
      refine E_bipush (14 : Int32) dX5_dusk_285 rfl ?_
      refine E_iadd dX5_dusk_287 ?_
      refine E_dup2 dX5_dusk_288 rfl rfl ?_
      have c10 := hy.1
      replace hy := hy.2
      refine E_ia 123 1400 (x1 + (14 : Int32)).toNatClampNeg dX5_dusk_289 sh_123 c10 rfl ?_
      refine E_iconst (1 : Int32) dX5_dusk_290 rfl ?_
      refine E_iadd dX5_dusk_291 ?_
      have c11 := hy.1
      replace hy := hy.2
      refine E_is 123 1400 (x1 + (14 : Int32)).toNatClampNeg dX5_dusk_292 sh_123 c11 rfl ?_
      refine E_aload_n 0 dX5_dusk_293 rfl rfl ?_
      refine E_getr 5 0 122 33 123 dX5_dusk_294 fl_RX5_7 rfl sh_122 (wg_122_0 hG) ?_
      refine E_iload_n 1 dX5_dusk_297 rfl rfl ?_
      refine E_bipush (15 : Int32) dX5_dusk_298 rfl ?_
      refine E_iadd dX5_dusk_300 ?_
      refine E_iconst (0 : Int32) dX5_dusk_301 rfl ?_
      have c12 := hy.1
      replace hy := hy.2
      refine E_is 123 1400 (x1 + (15 : Int32)).toNatClampNeg dX5_dusk_302 sh_123 c12 rfl ?_
      exact E_rv dX5_dusk_303 rfl ⟨rfl, rfl⟩ hy
  · replace hy := hy.2 h1
    refine E_aload_n 0 dX5_dusk_224 rfl rfl ?_
    refine E_getr 5 0 122 33 123 dX5_dusk_225 fl_RX5_7 rfl sh_122 (wg_122_0 hG) ?_
    refine E_iload_n 1 dX5_dusk_228 rfl rfl ?_
    refine E_bipush (20 : Int32) dX5_dusk_229 rfl ?_
    refine E_iadd dX5_dusk_231 ?_
    refine E_iload_n 3 dX5_dusk_232 rfl rfl ?_
    refine E_iadd dX5_dusk_233 ?_
    refine E_aload_n 0 dX5_dusk_234 rfl rfl ?_
    refine E_getr 5 0 122 33 123 dX5_dusk_235 fl_RX5_7 rfl sh_122 (wg_122_0 hG) ?_
    refine E_iload_n 1 dX5_dusk_238 rfl rfl ?_
    refine E_iload_n 3 dX5_dusk_239 rfl rfl ?_
    refine E_iadd dX5_dusk_240 ?_
    have c13 := hy.1
    replace hy := hy.2
    refine E_ia 123 1400 (x1 + x3).toNatClampNeg dX5_dusk_241 sh_123 c13 rfl ?_
    have c14 := hy.1
    replace hy := hy.2
    refine E_is 123 1400 ((x1 + (20 : Int32)) + x3).toNatClampNeg dX5_dusk_242 sh_123 c14 rfl ?_
    refine E_iinc (x3 + (1 : Int32)) dX5_dusk_243 rfl rfl (Nat.le_of_ble_eq_true rfl) (?_ : Ev (d + 1) mX5_dusk 136 246 [some (.ref 122), some (.int x1), some (.int x2), some (.int (x3 + (1 : Int32))), none] [] 136 (u2 I 123 ((x1 + (20 : Int32)) + x3).toNatClampNeg (I 123 (x1 + x3).toNatClampNeg)) G J Φ)
    refine E_goto 219 dX5_dusk_246 rfl ?_
    exact hy
set_option maxRecDepth 100000 in
theorem w_X5_evening {d : Nat} {I : MI} {G : MG} {J : MJ} {Φ : Ph} (hG : WG G)  (hy : Ev (d + 1) mX5_evening 136 4 [some (.ref 122), some (.int (0 : Int32)), some (.int (0 : Int32)), none, none] [] 136 I G J Φ) : Ev (d + 1) mX5_evening 136 0 [some (.ref 122), none, none, none, none] [] 136 I G J Φ := by
  refine E_iconst (0 : Int32) dX5_evening_0 rfl ?_
  refine E_istore_n 1 dX5_evening_1 rfl (Nat.le_of_ble_eq_true rfl) (?_ : Ev (d + 1) mX5_evening 136 2 [some (.ref 122), some (.int (0 : Int32)), none, none, none] [] 136 I G J Φ)
  refine E_iconst (0 : Int32) dX5_evening_2 rfl ?_
  refine E_istore_n 2 dX5_evening_3 rfl (Nat.le_of_ble_eq_true rfl) (?_ : Ev (d + 1) mX5_evening 136 4 [some (.ref 122), some (.int (0 : Int32)), some (.int (0 : Int32)), none, none] [] 136 I G J Φ)
  exact hy
set_option maxRecDepth 100000 in
theorem w_X5_evening_4 {d : Nat} {I : MI} {G : MG} {J : MJ} {Φ : Ph} (hG : WG G)  (x1 : Int32) (x2 : Int32) (hy : ((I 123 16) ≤ x2 → Φ (some (.int x1)) 136 I G J) ∧ (¬ (I 123 16) ≤ x2 → Ev (d + 1) mX5_evening 136 20 [some (.ref 122), some (.int x1), some (.int x2), some (.int (1 : Int32)), some (.int (0 : Int32))] [] 136 I G J Φ)) : Ev (d + 1) mX5_evening 136 4 [some (.ref 122), some (.int x1), some (.int x2), none, none] [] 136 I G J Φ := by
  refine E_iload_n 2 dX5_evening_4 rfl rfl ?_
  refine E_aload_n 0 dX5_evening_5 rfl rfl ?_
  refine E_getr 5 0 122 33 123 dX5_evening_6 fl_RX5_7 rfl sh_122 (wg_122_0 hG) ?_
  refine E_bipush (16 : Int32) dX5_evening_9 rfl ?_
  refine E_ia 123 1400 16 dX5_evening_11 sh_123 (vpd (by decide)) rfl ?_
  refine E_icmp_ge 89 dX5_evening_12 rfl (fun h1 => ?_) (fun h1 => ?_)
  · replace hy := hy.1 h1
    refine E_iload_n 1 dX5_evening_89 rfl rfl ?_
    exact E_ri dX5_evening_90 rfl ⟨rfl, rfl⟩ hy
  · replace hy := hy.2 h1
    refine E_iconst (1 : Int32) dX5_evening_15 rfl ?_
    refine E_istore_n 3 dX5_evening_16 rfl (Nat.le_of_ble_eq_true rfl) (?_ : Ev (d + 1) mX5_evening 136 17 [some (.ref 122), some (.int x1), some (.int x2), some (.int (1 : Int32)), none] [] 136 I G J Φ)
    refine E_iconst (0 : Int32) dX5_evening_17 rfl ?_
    refine E_istore dX5_evening_18 (Nat.le_of_ble_eq_true rfl) (?_ : Ev (d + 1) mX5_evening 136 20 [some (.ref 122), some (.int x1), some (.int x2), some (.int (1 : Int32)), some (.int (0 : Int32))] [] 136 I G J Φ)
    exact hy
set_option maxRecDepth 100000 in
theorem w_X5_evening_20 {d : Nat} {I : MI} {G : MG} {J : MJ} {Φ : Ph} (hG : WG G)  (x1 : Int32) (x2 : Int32) (x3 : Int32) (x4 : Int32) (hy : ((I 122 31) ≤ x4 → Ev d mX5_one 136 0 [some (.int x3)] [] 136 I G J (fun r n I2 G2 J2 => ∃ v2 : Int32, r = some (.int v2) ∧ n = 136 ∧ I = I2 ∧ G = G2 ∧ J = J2 ∧ (Ev (d + 1) mX5_evening 136 4 [some (.ref 122), some (.int (x1 ||| (v2 <<< (x2 &&& 31)))), some (.int (x2 + (1 : Int32))), none, none] [] 136 I G J Φ))) ∧ (¬ (I 122 31) ≤ x4 → (x3 = 0 → Ev (d + 1) mX5_evening 136 20 [some (.ref 122), some (.int x1), some (.int x2), some (.int (0 : Int32)), some (.int (x4 + (1 : Int32)))] [] 136 I G J Φ) ∧ (¬ x3 = 0 → vp_in x4 6 ∧ (vp_in (((20 : Int32) + ((4 : Int32) * x2)) + (I 134 (x4).toNatClampNeg)) 1400 ∧ (vp_in x4 6 ∧ ((¬ (I 123 (((20 : Int32) + ((4 : Int32) * x2)) + (I 134 (x4).toNatClampNeg)).toNatClampNeg) = (I 135 (x4).toNatClampNeg) → Ev (d + 1) mX5_evening 136 20 [some (.ref 122), some (.int x1), some (.int x2), some (.int (0 : Int32)), some (.int (x4 + (1 : Int32)))] [] 136 I G J Φ) ∧ ((I 123 (((20 : Int32) + ((4 : Int32) * x2)) + (I 134 (x4).toNatClampNeg)).toNatClampNeg) = (I 135 (x4).toNatClampNeg) → Ev (d + 1) mX5_evening 136 20 [some (.ref 122), some (.int x1), some (.int x2), some (.int (1 : Int32)), some (.int (x4 + (1 : Int32)))] [] 136 I G J Φ))))))) : Ev (d + 1) mX5_evening 136 20 [some (.ref 122), some (.int x1), some (.int x2), some (.int x3), some (.int x4)] [] 136 I G J Φ := by
  refine E_iload dX5_evening_20 rfl ?_
  refine E_aload_n 0 dX5_evening_22 rfl rfl ?_
  refine E_geti 5 31 122 33 dX5_evening_23 fl_RX5_143 rfl sh_122 ?_
  refine E_icmp_ge 74 dX5_evening_26 rfl (fun h1 => ?_) (fun h1 => ?_)
  · replace hy := hy.1 h1
    refine E_iload_n 1 dX5_evening_74 rfl rfl ?_
    refine E_iload_n 3 dX5_evening_75 rfl rfl ?_
    refine E_cs (M := mX5_evening) (pc := 76) (As := [.int x3]) (st := [.int x1]) mX5_one 1 dX5_evening_76 lk_RX5_161 rfl (Nat.le_of_ble_eq_true rfl) ⟨rfl, rfl⟩ (Nat.le_of_ble_eq_true rfl) rfl hy ?_
    rintro r n I2 G2 J2 ⟨v2, rfl, rfl, rfl, rfl, rfl, hy⟩
    show Ev (d + 1) mX5_evening 136 79 [some (.ref 122), some (.int x1), some (.int x2), some (.int x3), some (.int x4)] [.int v2, .int x1] 136 I G J Φ
    refine E_iload_n 2 dX5_evening_79 rfl rfl ?_
    refine E_ishl dX5_evening_80 ?_
    refine E_ior dX5_evening_81 ?_
    refine E_istore_n 1 dX5_evening_82 rfl (Nat.le_of_ble_eq_true rfl) (?_ : Ev (d + 1) mX5_evening 136 83 [some (.ref 122), some (.int (x1 ||| (v2 <<< (x2 &&& 31)))), some (.int x2), some (.int x3), some (.int x4)] [] 136 I G J Φ)
    refine E_iinc (x2 + (1 : Int32)) dX5_evening_83 rfl rfl (Nat.le_of_ble_eq_true rfl) (?_ : Ev (d + 1) mX5_evening 136 86 [some (.ref 122), some (.int (x1 ||| (v2 <<< (x2 &&& 31)))), some (.int (x2 + (1 : Int32))), some (.int x3), some (.int x4)] [] 136 I G J Φ)
    refine E_goto 4 dX5_evening_86 rfl ?_
    refine E_wk (ls2 := [some (.ref 122), some (.int (x1 ||| (v2 <<< (x2 &&& 31)))), some (.int (x2 + (1 : Int32))), none, none]) ⟨rfl, rfl, rfl, trivial⟩ ?_
    exact hy
  · replace hy := hy.2 h1
    refine E_iload_n 3 dX5_evening_29 rfl rfl ?_
    refine E_if_eq 66 dX5_evening_30 rfl (fun h3 => ?_) (fun h3 => ?_)
    · replace hy := hy.1 h3
      refine E_iconst (0 : Int32) dX5_evening_66 rfl ?_
      refine E_istore_n 3 dX5_evening_67 rfl (Nat.le_of_ble_eq_true rfl) (?_ : Ev (d + 1) mX5_evening 136 68 [some (.ref 122), some (.int x1), some (.int x2), some (.int (0 : Int32)), some (.int x4)] [] 136 I G J Φ)
      refine E_iinc (x4 + (1 : Int32)) dX5_evening_68 rfl rfl (Nat.le_of_ble_eq_true rfl) (?_ : Ev (d + 1) mX5_evening 136 71 [some (.ref 122), some (.int x1), some (.int x2), some (.int (0 : Int32)), some (.int (x4 + (1 : Int32)))] [] 136 I G J Φ)
      refine E_goto 20 dX5_evening_71 rfl ?_
      exact hy
    · replace hy := hy.2 h3
      refine E_aload_n 0 dX5_evening_33 rfl rfl ?_
      refine E_getr 5 0 122 33 123 dX5_evening_34 fl_RX5_7 rfl sh_122 (wg_122_0 hG) ?_
      refine E_bipush (20 : Int32) dX5_evening_37 rfl ?_
      refine E_iconst (4 : Int32) dX5_evening_39 rfl ?_
      refine E_iload_n 2 dX5_evening_40 rfl rfl ?_
      refine E_imul dX5_evening_41 ?_
      refine E_iadd dX5_evening_42 ?_
      refine E_aload_n 0 dX5_evening_43 rfl rfl ?_
      refine E_getr 5 29 122 33 134 dX5_evening_44 fl_RX5_44 rfl sh_122 (wg_122_29 hG) ?_
      refine E_iload dX5_evening_47 rfl ?_
      have c4 := hy.1
      replace hy := hy.2
      refine E_ia 134 6 (x4).toNatClampNeg dX5_evening_49 sh_134 c4 rfl ?_
      refine E_iadd dX5_evening_50 ?_
      have c5 := hy.1
      replace hy := hy.2
      refine E_ia 123 1400 (((20 : Int32) + ((4 : Int32) * x2)) + (I 134 (x4).toNatClampNeg)).toNatClampNeg dX5_evening_51 sh_123 c5 rfl ?_
      refine E_aload_n 0 dX5_evening_52 rfl rfl ?_
      refine E_getr 5 30 122 33 135 dX5_evening_53 fl_RX5_47 rfl sh_122 (wg_122_30 hG) ?_
      refine E_iload dX5_evening_56 rfl ?_
      have c6 := hy.1
      replace hy := hy.2
      refine E_ia 135 6 (x4).toNatClampNeg dX5_evening_58 sh_135 c6 rfl ?_
      refine E_icmp_ne 66 dX5_evening_59 rfl (fun h7 => ?_) (fun h7 => ?_)
      · replace hy := hy.1 h7
        refine E_iconst (0 : Int32) dX5_evening_66 rfl ?_
        refine E_istore_n 3 dX5_evening_67 rfl (Nat.le_of_ble_eq_true rfl) (?_ : Ev (d + 1) mX5_evening 136 68 [some (.ref 122), some (.int x1), some (.int x2), some (.int (0 : Int32)), some (.int x4)] [] 136 I G J Φ)
        refine E_iinc (x4 + (1 : Int32)) dX5_evening_68 rfl rfl (Nat.le_of_ble_eq_true rfl) (?_ : Ev (d + 1) mX5_evening 136 71 [some (.ref 122), some (.int x1), some (.int x2), some (.int (0 : Int32)), some (.int (x4 + (1 : Int32)))] [] 136 I G J Φ)
        refine E_goto 20 dX5_evening_71 rfl ?_
        exact hy
      · replace hy := hy.2 (Decidable.not_not.mp h7)
        refine E_iconst (1 : Int32) dX5_evening_62 rfl ?_
        refine E_goto 67 dX5_evening_63 rfl ?_
        refine E_istore_n 3 dX5_evening_67 rfl (Nat.le_of_ble_eq_true rfl) (?_ : Ev (d + 1) mX5_evening 136 68 [some (.ref 122), some (.int x1), some (.int x2), some (.int (1 : Int32)), some (.int x4)] [] 136 I G J Φ)
        refine E_iinc (x4 + (1 : Int32)) dX5_evening_68 rfl rfl (Nat.le_of_ble_eq_true rfl) (?_ : Ev (d + 1) mX5_evening 136 71 [some (.ref 122), some (.int x1), some (.int x2), some (.int (1 : Int32)), some (.int (x4 + (1 : Int32)))] [] 136 I G J Φ)
        refine E_goto 20 dX5_evening_71 rfl ?_
        exact hy
set_option maxRecDepth 100000 in
theorem w_X5_forget {d : Nat} {I : MI} {G : MG} {J : MJ} {Φ : Ph} (hG : WG G)  (hy : Φ (some (.int (I 122 31))) 136 (u2 I 122 31 (0 : Int32)) G J) : Ev d mX5_forget 136 0 [some (.ref 122), none] [] 136 I G J Φ := by
  refine E_aload_n 0 dX5_forget_0 rfl rfl ?_
  refine E_geti 5 31 122 33 dX5_forget_1 fl_RX5_143 rfl sh_122 ?_
  refine E_istore_n 1 dX5_forget_4 rfl (Nat.le_of_ble_eq_true rfl) (?_ : Ev d mX5_forget 136 5 [some (.ref 122), some (.int (I 122 31))] [] 136 I G J Φ)
  refine E_aload_n 0 dX5_forget_5 rfl rfl ?_
  refine E_iconst (0 : Int32) dX5_forget_6 rfl ?_
  refine E_puti 5 31 122 33 dX5_forget_7 fl_RX5_143 rfl sh_122 ⟨_, rfl, rfl⟩ rfl rfl ?_
  refine E_iload_n 1 dX5_forget_10 rfl rfl ?_
  exact E_ri dX5_forget_11 rfl ⟨rfl, rfl⟩ hy
set_option maxRecDepth 100000 in
theorem w_X5_goToDusk {d : Nat} {I : MI} {G : MG} {J : MJ} {Φ : Ph} (hG : WG G) (x1 : Int32) (x2 : Int32) (hy : vp_in (x1 + (15 : Int32)) 1400 ∧ (((I 122 13) ≤ (I 123 (x1 + (15 : Int32)).toNatClampNeg) → Ev d mX5_dusk 136 0 [some (.ref 122), some (.int x1), some (.int x2), none, none] [] 136 I G J (fun r n I3 G3 J3 => r = none ∧ n = 136 ∧ G = G3 ∧ J = J3 ∧ (Φ none 136 I3 G J))) ∧ (¬ (I 122 13) ≤ (I 123 (x1 + (15 : Int32)).toNatClampNeg) → Ev d mX5_push 136 0 [some (.ref 122), some (.int x1), none, none, none, none] [] 136 I G J (fun r n I4 G4 J4 => ∃ v4 : Int32, r = some (.int v4) ∧ n = 136 ∧ G = G4 ∧ J = J4 ∧ (vp_in (x1 + (15 : Int32)) 1400 ∧ (vp_in (x1 + (15 : Int32)) 1400 ∧ (Ev (d + 1) mX5_goToDusk 136 0 [some (.ref 122), some (.int x1), some (.int x2), none] [] 136 (u2 I4 123 (x1 + (15 : Int32)).toNatClampNeg ((I4 123 (x1 + (15 : Int32)).toNatClampNeg) + (1 : Int32))) G J Φ))))))) : Ev (d + 1) mX5_goToDusk 136 0 [some (.ref 122), some (.int x1), some (.int x2), none] [] 136 I G J Φ := by
  refine E_aload_n 0 dX5_goToDusk_0 rfl rfl ?_
  refine E_getr 5 0 122 33 123 dX5_goToDusk_1 fl_RX5_7 rfl sh_122 (wg_122_0 hG) ?_
  refine E_iload_n 1 dX5_goToDusk_4 rfl rfl ?_
  refine E_bipush (15 : Int32) dX5_goToDusk_5 rfl ?_
  refine E_iadd dX5_goToDusk_7 ?_
  have c1 := hy.1
  replace hy := hy.2
  refine E_ia 123 1400 (x1 + (15 : Int32)).toNatClampNeg dX5_goToDusk_8 sh_123 c1 rfl ?_
  refine E_aload_n 0 dX5_goToDusk_9 rfl rfl ?_
  refine E_geti 5 13 122 33 dX5_goToDusk_10 fl_RX5_50 rfl sh_122 ?_
  refine E_icmp_ge 38 dX5_goToDusk_13 rfl (fun h2 => ?_) (fun h2 => ?_)
  · replace hy := hy.1 h2
    refine E_aload_n 0 dX5_goToDusk_38 rfl rfl ?_
    refine E_iload_n 1 dX5_goToDusk_39 rfl rfl ?_
    refine E_iload_n 2 dX5_goToDusk_40 rfl rfl ?_
    refine E_cv (M := mX5_goToDusk) (pc := 41) (As := [.int x1, .int x2]) (st := []) mX5_dusk 2 5 33 dX5_goToDusk_41 lk_RX5_199 ⟨_, rfl, rfl⟩ sh_122 rfl (Nat.le_of_ble_eq_true rfl) ⟨rfl, rfl⟩ (Nat.le_of_ble_eq_true rfl) rfl hy ?_
    rintro r n I3 G3 J3 ⟨rfl, rfl, rfl, rfl, hy⟩
    show Ev (d + 1) mX5_goToDusk 136 44 [some (.ref 122), some (.int x1), some (.int x2), none] [] 136 I3 G J Φ
    exact E_rv dX5_goToDusk_44 rfl ⟨rfl, rfl⟩ hy
  · replace hy := hy.2 h2
    refine E_aload_n 0 dX5_goToDusk_16 rfl rfl ?_
    refine E_iload_n 1 dX5_goToDusk_17 rfl rfl ?_
    refine E_cv (M := mX5_goToDusk) (pc := 18) (As := [.int x1]) (st := []) mX5_push 1 5 33 dX5_goToDusk_18 lk_RX5_193 ⟨_, rfl, rfl⟩ sh_122 rfl (Nat.le_of_ble_eq_true rfl) ⟨rfl, rfl⟩ (Nat.le_of_ble_eq_true rfl) rfl hy ?_
    rintro r n I4 G4 J4 ⟨v4, rfl, rfl, rfl, rfl, hy⟩
    show Ev (d + 1) mX5_goToDusk 136 21 [some (.ref 122), some (.int x1), some (.int x2), none] [.int v4] 136 I4 G J Φ
    refine E_istore_n 3 dX5_goToDusk_21 rfl (Nat.le_of_ble_eq_true rfl) (?_ : Ev (d + 1) mX5_goToDusk 136 22 [some (.ref 122), some (.int x1), some (.int x2), some (.int v4)] [] 136 I4 G J Φ)
    refine E_aload_n 0 dX5_goToDusk_22 rfl rfl ?_
    refine E_getr 5 0 122 33 123 dX5_goToDusk_23 fl_RX5_7 rfl sh_122 (wg_122_0 hG) ?_
    refine E_iload_n 1 dX5_goToDusk_26 rfl rfl ?_
    refine E_bipush (15 : Int32) dX5_goToDusk_27 rfl ?_
    refine E_iadd dX5_goToDusk_29 ?_
    refine E_dup2 dX5_goToDusk_30 rfl rfl ?_
    have c5 := hy.1
    replace hy := hy.2
    refine E_ia 123 1400 (x1 + (15 : Int32)).toNatClampNeg dX5_goToDusk_31 sh_123 c5 rfl ?_
    refine E_iconst (1 : Int32) dX5_goToDusk_32 rfl ?_
    refine E_iadd dX5_goToDusk_33 ?_
    have c6 := hy.1
    replace hy := hy.2
    refine E_is 123 1400 (x1 + (15 : Int32)).toNatClampNeg dX5_goToDusk_34 sh_123 c6 rfl ?_
    refine E_goto 0 dX5_goToDusk_35 rfl ?_
    refine E_wk (ls2 := [some (.ref 122), some (.int x1), some (.int x2), none]) ⟨rfl, rfl, rfl, trivial⟩ ?_
    exact hy
set_option maxRecDepth 100000 in
theorem w_X5_goToDusk_0 {d : Nat} {I : MI} {G : MG} {J : MJ} {Φ : Ph} (hG : WG G)  (x1 : Int32) (x2 : Int32) (hy : vp_in (x1 + (15 : Int32)) 1400 ∧ (((I 122 13) ≤ (I 123 (x1 + (15 : Int32)).toNatClampNeg) → Ev d mX5_dusk 136 0 [some (.ref 122), some (.int x1), some (.int x2), none, none] [] 136 I G J (fun r n I3 G3 J3 => r = none ∧ n = 136 ∧ G = G3 ∧ J = J3 ∧ (Φ none 136 I3 G J))) ∧ (¬ (I 122 13) ≤ (I 123 (x1 + (15 : Int32)).toNatClampNeg) → Ev d mX5_push 136 0 [some (.ref 122), some (.int x1), none, none, none, none] [] 136 I G J (fun r n I4 G4 J4 => ∃ v4 : Int32, r = some (.int v4) ∧ n = 136 ∧ G = G4 ∧ J = J4 ∧ (vp_in (x1 + (15 : Int32)) 1400 ∧ (vp_in (x1 + (15 : Int32)) 1400 ∧ (Ev (d + 1) mX5_goToDusk 136 0 [some (.ref 122), some (.int x1), some (.int x2), none] [] 136 (u2 I4 123 (x1 + (15 : Int32)).toNatClampNeg ((I4 123 (x1 + (15 : Int32)).toNatClampNeg) + (1 : Int32))) G J Φ))))))) : Ev (d + 1) mX5_goToDusk 136 0 [some (.ref 122), some (.int x1), some (.int x2), none] [] 136 I G J Φ := by
  refine E_aload_n 0 dX5_goToDusk_0 rfl rfl ?_
  refine E_getr 5 0 122 33 123 dX5_goToDusk_1 fl_RX5_7 rfl sh_122 (wg_122_0 hG) ?_
  refine E_iload_n 1 dX5_goToDusk_4 rfl rfl ?_
  refine E_bipush (15 : Int32) dX5_goToDusk_5 rfl ?_
  refine E_iadd dX5_goToDusk_7 ?_
  have c1 := hy.1
  replace hy := hy.2
  refine E_ia 123 1400 (x1 + (15 : Int32)).toNatClampNeg dX5_goToDusk_8 sh_123 c1 rfl ?_
  refine E_aload_n 0 dX5_goToDusk_9 rfl rfl ?_
  refine E_geti 5 13 122 33 dX5_goToDusk_10 fl_RX5_50 rfl sh_122 ?_
  refine E_icmp_ge 38 dX5_goToDusk_13 rfl (fun h2 => ?_) (fun h2 => ?_)
  · replace hy := hy.1 h2
    refine E_aload_n 0 dX5_goToDusk_38 rfl rfl ?_
    refine E_iload_n 1 dX5_goToDusk_39 rfl rfl ?_
    refine E_iload_n 2 dX5_goToDusk_40 rfl rfl ?_
    refine E_cv (M := mX5_goToDusk) (pc := 41) (As := [.int x1, .int x2]) (st := []) mX5_dusk 2 5 33 dX5_goToDusk_41 lk_RX5_199 ⟨_, rfl, rfl⟩ sh_122 rfl (Nat.le_of_ble_eq_true rfl) ⟨rfl, rfl⟩ (Nat.le_of_ble_eq_true rfl) rfl hy ?_
    rintro r n I3 G3 J3 ⟨rfl, rfl, rfl, rfl, hy⟩
    show Ev (d + 1) mX5_goToDusk 136 44 [some (.ref 122), some (.int x1), some (.int x2), none] [] 136 I3 G J Φ
    exact E_rv dX5_goToDusk_44 rfl ⟨rfl, rfl⟩ hy
  · replace hy := hy.2 h2
    refine E_aload_n 0 dX5_goToDusk_16 rfl rfl ?_
    refine E_iload_n 1 dX5_goToDusk_17 rfl rfl ?_
    refine E_cv (M := mX5_goToDusk) (pc := 18) (As := [.int x1]) (st := []) mX5_push 1 5 33 dX5_goToDusk_18 lk_RX5_193 ⟨_, rfl, rfl⟩ sh_122 rfl (Nat.le_of_ble_eq_true rfl) ⟨rfl, rfl⟩ (Nat.le_of_ble_eq_true rfl) rfl hy ?_
    rintro r n I4 G4 J4 ⟨v4, rfl, rfl, rfl, rfl, hy⟩
    show Ev (d + 1) mX5_goToDusk 136 21 [some (.ref 122), some (.int x1), some (.int x2), none] [.int v4] 136 I4 G J Φ
    refine E_istore_n 3 dX5_goToDusk_21 rfl (Nat.le_of_ble_eq_true rfl) (?_ : Ev (d + 1) mX5_goToDusk 136 22 [some (.ref 122), some (.int x1), some (.int x2), some (.int v4)] [] 136 I4 G J Φ)
    refine E_aload_n 0 dX5_goToDusk_22 rfl rfl ?_
    refine E_getr 5 0 122 33 123 dX5_goToDusk_23 fl_RX5_7 rfl sh_122 (wg_122_0 hG) ?_
    refine E_iload_n 1 dX5_goToDusk_26 rfl rfl ?_
    refine E_bipush (15 : Int32) dX5_goToDusk_27 rfl ?_
    refine E_iadd dX5_goToDusk_29 ?_
    refine E_dup2 dX5_goToDusk_30 rfl rfl ?_
    have c5 := hy.1
    replace hy := hy.2
    refine E_ia 123 1400 (x1 + (15 : Int32)).toNatClampNeg dX5_goToDusk_31 sh_123 c5 rfl ?_
    refine E_iconst (1 : Int32) dX5_goToDusk_32 rfl ?_
    refine E_iadd dX5_goToDusk_33 ?_
    have c6 := hy.1
    replace hy := hy.2
    refine E_is 123 1400 (x1 + (15 : Int32)).toNatClampNeg dX5_goToDusk_34 sh_123 c6 rfl ?_
    refine E_goto 0 dX5_goToDusk_35 rfl ?_
    refine E_wk (ls2 := [some (.ref 122), some (.int x1), some (.int x2), none]) ⟨rfl, rfl, rfl, trivial⟩ ?_
    exact hy
set_option maxRecDepth 100000 in
theorem w_X5_has {d : Nat} {I : MI} {G : MG} {J : MJ} {Φ : Ph} (hG : WG G) (x0 : Int32) (x1 : Int32) (hy : (¬ ((x0 >>> (x1 &&& 31)) &&& (1 : Int32)) = (1 : Int32) → Φ (some (.int (0 : Int32))) 136 I G J) ∧ (((x0 >>> (x1 &&& 31)) &&& (1 : Int32)) = (1 : Int32) → Φ (some (.int (1 : Int32))) 136 I G J)) : Ev d mX5_has 136 0 [some (.int x0), some (.int x1)] [] 136 I G J Φ := by
  refine E_iload_n 0 dX5_has_0 rfl rfl ?_
  refine E_iload_n 1 dX5_has_1 rfl rfl ?_
  refine E_ishr dX5_has_2 ?_
  refine E_iconst (1 : Int32) dX5_has_3 rfl ?_
  refine E_iand dX5_has_4 ?_
  refine E_iconst (1 : Int32) dX5_has_5 rfl ?_
  refine E_icmp_ne 13 dX5_has_6 rfl (fun h1 => ?_) (fun h1 => ?_)
  · replace hy := hy.1 h1
    refine E_iconst (0 : Int32) dX5_has_13 rfl ?_
    exact E_rz dX5_has_14 rfl rfl ⟨rfl, rfl⟩ hy
  · replace hy := hy.2 (Decidable.not_not.mp h1)
    refine E_iconst (1 : Int32) dX5_has_9 rfl ?_
    refine E_goto 14 dX5_has_10 rfl ?_
    exact E_rz dX5_has_14 rfl rfl ⟨rfl, rfl⟩ hy
set_option maxRecDepth 100000 in
theorem w_X5_highest {d : Nat} {I : MI} {G : MG} {J : MJ} {Φ : Ph} (hG : WG G) (x1 : Int32) (x2 : Int32) (hy : Ev d mX5_isHill 136 0 [some (.ref 122), some (.int x1)] [] 136 I G J (fun r n I1 G1 J1 => ∃ v1 : Int32, r = some (.int v1) ∧ n = 136 ∧ I = I1 ∧ G = G1 ∧ J = J1 ∧ ((v1 = 0 → Φ (some (.int (-1 : Int32))) 136 I G J) ∧ (¬ v1 = 0 → (0 ≤ x2 → Ev d mX5_isOver 136 0 [some (.ref 122), some (.int (0 : Int32)), some (.int x1)] [] 136 I G J (fun r n I4 G4 J4 => ∃ v4 : Int32, r = some (.int v4) ∧ n = 136 ∧ I = I4 ∧ G = G4 ∧ J = J4 ∧ (Ev (d + 1) mX5_highest 136 50 [some (.ref 122), some (.int x1), some (.int x2), some (.int ((I 122 13) - (I 123 15))), some (.int (0 : Int32)), some (.int (-1 : Int32)), some (.int v4), some (.int (0 : Int32)), none] [] 136 I G J Φ))) ∧ (¬ 0 ≤ x2 → (x2 = (-9 : Int32) → Ev d mX5_isOver 136 0 [some (.ref 122), some (.int (0 : Int32)), some (.int x1)] [] 136 I G J (fun r n I6 G6 J6 => ∃ v6 : Int32, r = some (.int v6) ∧ n = 136 ∧ I = I6 ∧ G = G6 ∧ J = J6 ∧ (Ev (d + 1) mX5_highest 136 50 [some (.ref 122), some (.int x1), some (.int x2), some (.int ((I 122 13) - (I 123 15))), some (.int (0 : Int32)), some (.int (-1 : Int32)), some (.int v6), some (.int (0 : Int32)), none] [] 136 I G J Φ))) ∧ (¬ x2 = (-9 : Int32) → Φ (some (.int (-1 : Int32))) 136 I G J)))))) : Ev (d + 1) mX5_highest 136 0 [some (.ref 122), some (.int x1), some (.int x2), none, none, none, none, none, none] [] 136 I G J Φ := by
  refine E_aload_n 0 dX5_highest_0 rfl rfl ?_
  refine E_iload_n 1 dX5_highest_1 rfl rfl ?_
  refine E_cv (M := mX5_highest) (pc := 2) (As := [.int x1]) (st := []) mX5_isHill 1 5 33 dX5_highest_2 lk_RX5_149 ⟨_, rfl, rfl⟩ sh_122 rfl (Nat.le_of_ble_eq_true rfl) ⟨rfl, rfl⟩ (Nat.le_of_ble_eq_true rfl) rfl hy ?_
  rintro r n I1 G1 J1 ⟨v1, rfl, rfl, rfl, rfl, rfl, hy⟩
  show Ev (d + 1) mX5_highest 136 5 [some (.ref 122), some (.int x1), some (.int x2), none, none, none, none, none, none] [.int v1] 136 I G J Φ
  refine E_if_eq 18 dX5_highest_5 rfl (fun h2 => ?_) (fun h2 => ?_)
  · replace hy := hy.1 h2
    refine E_iconst (-1 : Int32) dX5_highest_18 rfl ?_
    exact E_ri dX5_highest_19 rfl ⟨rfl, rfl⟩ hy
  · replace hy := hy.2 h2
    refine E_iload_n 2 dX5_highest_8 rfl rfl ?_
    refine E_if_ge 20 dX5_highest_9 rfl (fun h3 => ?_) (fun h3 => ?_)
    · replace hy := hy.1 h3
      refine E_aload_n 0 dX5_highest_20 rfl rfl ?_
      refine E_geti 5 13 122 33 dX5_highest_21 fl_RX5_50 rfl sh_122 ?_
      refine E_aload_n 0 dX5_highest_24 rfl rfl ?_
      refine E_getr 5 0 122 33 123 dX5_highest_25 fl_RX5_7 rfl sh_122 (wg_122_0 hG) ?_
      refine E_bipush (15 : Int32) dX5_highest_28 rfl ?_
      refine E_ia 123 1400 15 dX5_highest_30 sh_123 (vpd (by decide)) rfl ?_
      refine E_isub dX5_highest_31 ?_
      refine E_istore_n 3 dX5_highest_32 rfl (Nat.le_of_ble_eq_true rfl) (?_ : Ev (d + 1) mX5_highest 136 33 [some (.ref 122), some (.int x1), some (.int x2), some (.int ((I 122 13) - (I 123 15))), none, none, none, none, none] [] 136 I G J Φ)
      refine E_iconst (0 : Int32) dX5_highest_33 rfl ?_
      refine E_istore dX5_highest_34 (Nat.le_of_ble_eq_true rfl) (?_ : Ev (d + 1) mX5_highest 136 36 [some (.ref 122), some (.int x1), some (.int x2), some (.int ((I 122 13) - (I 123 15))), some (.int (0 : Int32)), none, none, none, none] [] 136 I G J Φ)
      refine E_iconst (-1 : Int32) dX5_highest_36 rfl ?_
      refine E_istore dX5_highest_37 (Nat.le_of_ble_eq_true rfl) (?_ : Ev (d + 1) mX5_highest 136 39 [some (.ref 122), some (.int x1), some (.int x2), some (.int ((I 122 13) - (I 123 15))), some (.int (0 : Int32)), some (.int (-1 : Int32)), none, none, none] [] 136 I G J Φ)
      refine E_aload_n 0 dX5_highest_39 rfl rfl ?_
      refine E_iconst (0 : Int32) dX5_highest_40 rfl ?_
      refine E_iload_n 1 dX5_highest_41 rfl rfl ?_
      refine E_cv (M := mX5_highest) (pc := 42) (As := [.int (0 : Int32), .int x1]) (st := []) mX5_isOver 2 5 33 dX5_highest_42 lk_RX5_158 ⟨_, rfl, rfl⟩ sh_122 rfl (Nat.le_of_ble_eq_true rfl) ⟨rfl, rfl⟩ (Nat.le_of_ble_eq_true rfl) rfl hy ?_
      rintro r n I4 G4 J4 ⟨v4, rfl, rfl, rfl, rfl, rfl, hy⟩
      show Ev (d + 1) mX5_highest 136 45 [some (.ref 122), some (.int x1), some (.int x2), some (.int ((I 122 13) - (I 123 15))), some (.int (0 : Int32)), some (.int (-1 : Int32)), none, none, none] [.int v4] 136 I G J Φ
      refine E_istore dX5_highest_45 (Nat.le_of_ble_eq_true rfl) (?_ : Ev (d + 1) mX5_highest 136 47 [some (.ref 122), some (.int x1), some (.int x2), some (.int ((I 122 13) - (I 123 15))), some (.int (0 : Int32)), some (.int (-1 : Int32)), some (.int v4), none, none] [] 136 I G J Φ)
      refine E_iconst (0 : Int32) dX5_highest_47 rfl ?_
      refine E_istore dX5_highest_48 (Nat.le_of_ble_eq_true rfl) (?_ : Ev (d + 1) mX5_highest 136 50 [some (.ref 122), some (.int x1), some (.int x2), some (.int ((I 122 13) - (I 123 15))), some (.int (0 : Int32)), some (.int (-1 : Int32)), some (.int v4), some (.int (0 : Int32)), none] [] 136 I G J Φ)
      exact hy
    · replace hy := hy.2 h3
      refine E_iload_n 2 dX5_highest_12 rfl rfl ?_
      refine E_bipush (-9 : Int32) dX5_highest_13 rfl ?_
      refine E_icmp_eq 20 dX5_highest_15 rfl (fun h5 => ?_) (fun h5 => ?_)
      · replace hy := hy.1 h5
        refine E_aload_n 0 dX5_highest_20 rfl rfl ?_
        refine E_geti 5 13 122 33 dX5_highest_21 fl_RX5_50 rfl sh_122 ?_
        refine E_aload_n 0 dX5_highest_24 rfl rfl ?_
        refine E_getr 5 0 122 33 123 dX5_highest_25 fl_RX5_7 rfl sh_122 (wg_122_0 hG) ?_
        refine E_bipush (15 : Int32) dX5_highest_28 rfl ?_
        refine E_ia 123 1400 15 dX5_highest_30 sh_123 (vpd (by decide)) rfl ?_
        refine E_isub dX5_highest_31 ?_
        refine E_istore_n 3 dX5_highest_32 rfl (Nat.le_of_ble_eq_true rfl) (?_ : Ev (d + 1) mX5_highest 136 33 [some (.ref 122), some (.int x1), some (.int x2), some (.int ((I 122 13) - (I 123 15))), none, none, none, none, none] [] 136 I G J Φ)
        refine E_iconst (0 : Int32) dX5_highest_33 rfl ?_
        refine E_istore dX5_highest_34 (Nat.le_of_ble_eq_true rfl) (?_ : Ev (d + 1) mX5_highest 136 36 [some (.ref 122), some (.int x1), some (.int x2), some (.int ((I 122 13) - (I 123 15))), some (.int (0 : Int32)), none, none, none, none] [] 136 I G J Φ)
        refine E_iconst (-1 : Int32) dX5_highest_36 rfl ?_
        refine E_istore dX5_highest_37 (Nat.le_of_ble_eq_true rfl) (?_ : Ev (d + 1) mX5_highest 136 39 [some (.ref 122), some (.int x1), some (.int x2), some (.int ((I 122 13) - (I 123 15))), some (.int (0 : Int32)), some (.int (-1 : Int32)), none, none, none] [] 136 I G J Φ)
        refine E_aload_n 0 dX5_highest_39 rfl rfl ?_
        refine E_iconst (0 : Int32) dX5_highest_40 rfl ?_
        refine E_iload_n 1 dX5_highest_41 rfl rfl ?_
        refine E_cv (M := mX5_highest) (pc := 42) (As := [.int (0 : Int32), .int x1]) (st := []) mX5_isOver 2 5 33 dX5_highest_42 lk_RX5_158 ⟨_, rfl, rfl⟩ sh_122 rfl (Nat.le_of_ble_eq_true rfl) ⟨rfl, rfl⟩ (Nat.le_of_ble_eq_true rfl) rfl hy ?_
        rintro r n I6 G6 J6 ⟨v6, rfl, rfl, rfl, rfl, rfl, hy⟩
        show Ev (d + 1) mX5_highest 136 45 [some (.ref 122), some (.int x1), some (.int x2), some (.int ((I 122 13) - (I 123 15))), some (.int (0 : Int32)), some (.int (-1 : Int32)), none, none, none] [.int v6] 136 I G J Φ
        refine E_istore dX5_highest_45 (Nat.le_of_ble_eq_true rfl) (?_ : Ev (d + 1) mX5_highest 136 47 [some (.ref 122), some (.int x1), some (.int x2), some (.int ((I 122 13) - (I 123 15))), some (.int (0 : Int32)), some (.int (-1 : Int32)), some (.int v6), none, none] [] 136 I G J Φ)
        refine E_iconst (0 : Int32) dX5_highest_47 rfl ?_
        refine E_istore dX5_highest_48 (Nat.le_of_ble_eq_true rfl) (?_ : Ev (d + 1) mX5_highest 136 50 [some (.ref 122), some (.int x1), some (.int x2), some (.int ((I 122 13) - (I 123 15))), some (.int (0 : Int32)), some (.int (-1 : Int32)), some (.int v6), some (.int (0 : Int32)), none] [] 136 I G J Φ)
        exact hy
      · replace hy := hy.2 h5
        refine E_iconst (-1 : Int32) dX5_highest_18 rfl ?_
        exact E_ri dX5_highest_19 rfl ⟨rfl, rfl⟩ hy
set_option maxRecDepth 100000 in
theorem w_X5_highest_50 {d : Nat} {I : MI} {G : MG} {J : MJ} {Φ : Ph} (hG : WG G)  (x1 : Int32) (x2 : Int32) (x3 : Int32) (x4 : Int32) (x5 : Int32) (x6 : Int32) (x7 : Int32) (hy : (((1 : Int32) <<< (((3 : Int32) * x3) &&& 31)) ≤ x7 → (¬ x2 = (-9 : Int32) → (x2 < x3 → Φ (some (.int ((x4 >>> (((3 : Int32) * ((x3 - (1 : Int32)) - x2)) &&& 31)) &&& (7 : Int32)))) 136 I G J) ∧ (¬ x2 < x3 → Φ (some (.int (-5 : Int32))) 136 I G J)) ∧ (x2 = (-9 : Int32) → (x6 = 0 → Φ (some (.int x5)) 136 I G J) ∧ (¬ x6 = 0 → vp_in x1 8 ∧ (Φ (some (.int (I 125 (x1).toNatClampNeg))) 136 I G J)))) ∧ (¬ ((1 : Int32) <<< (((3 : Int32) * x3) &&& 31)) ≤ x7 → (¬ x6 = 0 → (¬ x2 = (-9 : Int32) → (x2 < x3 → Φ (some (.int ((x4 >>> (((3 : Int32) * ((x3 - (1 : Int32)) - x2)) &&& 31)) &&& (7 : Int32)))) 136 I G J) ∧ (¬ x2 < x3 → Φ (some (.int (-5 : Int32))) 136 I G J)) ∧ (x2 = (-9 : Int32) → (x6 = 0 → Φ (some (.int x5)) 136 I G J) ∧ (¬ x6 = 0 → vp_in x1 8 ∧ (Φ (some (.int (I 125 (x1).toNatClampNeg))) 136 I G J)))) ∧ (x6 = 0 → Ev d mX5_isCode 136 0 [some (.ref 122), some (.int x7), some (.int x3), none, none] [] 136 I G J (fun r n I11 G11 J11 => ∃ v11 : Int32, r = some (.int v11) ∧ n = 136 ∧ I = I11 ∧ G = G11 ∧ J = J11 ∧ ((v11 = 0 → ((-1 : Int32) ≤ x5 → Ev (d + 1) mX5_highest 136 50 [some (.ref 122), some (.int x1), some (.int x2), some (.int x3), some (.int x4), some (.int x5), some (.int x6), some (.int (x7 + (1 : Int32))), none] [] 136 I G J Φ) ∧ (¬ (-1 : Int32) ≤ x5 → Ev (d + 1) mX5_highest 136 50 [some (.ref 122), some (.int x1), some (.int x2), some (.int x3), some (.int x7), some (.int (-1 : Int32)), some (.int x6), some (.int (x7 + (1 : Int32))), none] [] 136 I G J Φ)) ∧ (¬ v11 = 0 → Ev d mX5_stepBy 136 0 [some (.ref 122), some (.int x1), some (.int x7), some (.int x3), none, none, none] [] 136 I G J (fun r n I14 G14 J14 => ∃ v14 : Int32, r = some (.int v14) ∧ n = 136 ∧ G = G14 ∧ J = J14 ∧ ((v14 ≤ x5 → Ev (d + 1) mX5_highest 136 50 [some (.ref 122), some (.int x1), some (.int x2), some (.int x3), some (.int x4), some (.int x5), some (.int x6), some (.int (x7 + (1 : Int32))), none] [] 136 I14 G J Φ) ∧ (¬ v14 ≤ x5 → Ev (d + 1) mX5_highest 136 50 [some (.ref 122), some (.int x1), some (.int x2), some (.int x3), some (.int x7), some (.int v14), some (.int x6), some (.int (x7 + (1 : Int32))), none] [] 136 I14 G J Φ))))))))) : Ev (d + 1) mX5_highest 136 50 [some (.ref 122), some (.int x1), some (.int x2), some (.int x3), some (.int x4), some (.int x5), some (.int x6), some (.int x7), none] [] 136 I G J Φ := by
  refine E_iload dX5_highest_50 rfl ?_
  refine E_iconst (1 : Int32) dX5_highest_52 rfl ?_
  refine E_iconst (3 : Int32) dX5_highest_53 rfl ?_
  refine E_iload_n 3 dX5_highest_54 rfl rfl ?_
  refine E_imul dX5_highest_55 ?_
  refine E_ishl dX5_highest_56 ?_
  refine E_icmp_ge 110 dX5_highest_57 rfl (fun h1 => ?_) (fun h1 => ?_)
  · replace hy := hy.1 h1
    refine E_iload_n 2 dX5_highest_110 rfl rfl ?_
    refine E_bipush (-9 : Int32) dX5_highest_111 rfl ?_
    refine E_icmp_ne 133 dX5_highest_113 rfl (fun h2 => ?_) (fun h2 => ?_)
    · replace hy := hy.1 h2
      refine E_iload_n 2 dX5_highest_133 rfl rfl ?_
      refine E_iload_n 3 dX5_highest_134 rfl rfl ?_
      refine E_icmp_lt 143 dX5_highest_135 rfl (fun h3 => ?_) (fun h3 => ?_)
      · replace hy := hy.1 h3
        refine E_iload dX5_highest_143 rfl ?_
        refine E_iconst (3 : Int32) dX5_highest_145 rfl ?_
        refine E_iload_n 3 dX5_highest_146 rfl rfl ?_
        refine E_iconst (1 : Int32) dX5_highest_147 rfl ?_
        refine E_isub dX5_highest_148 ?_
        refine E_iload_n 2 dX5_highest_149 rfl rfl ?_
        refine E_isub dX5_highest_150 ?_
        refine E_imul dX5_highest_151 ?_
        refine E_ishr dX5_highest_152 ?_
        refine E_bipush (7 : Int32) dX5_highest_153 rfl ?_
        refine E_iand dX5_highest_155 ?_
        exact E_ri dX5_highest_156 rfl ⟨rfl, rfl⟩ hy
      · replace hy := hy.2 h3
        refine E_bipush (-5 : Int32) dX5_highest_138 rfl ?_
        refine E_goto 156 dX5_highest_140 rfl ?_
        exact E_ri dX5_highest_156 rfl ⟨rfl, rfl⟩ hy
    · replace hy := hy.2 (Decidable.not_not.mp h2)
      refine E_iload dX5_highest_116 rfl ?_
      refine E_if_eq 130 dX5_highest_118 rfl (fun h4 => ?_) (fun h4 => ?_)
      · replace hy := hy.1 h4
        refine E_iload dX5_highest_130 rfl ?_
        exact E_ri dX5_highest_132 rfl ⟨rfl, rfl⟩ hy
      · replace hy := hy.2 h4
        refine E_aload_n 0 dX5_highest_121 rfl rfl ?_
        refine E_getr 5 2 122 33 125 dX5_highest_122 fl_RX5_17 rfl sh_122 (wg_122_2 hG) ?_
        refine E_iload_n 1 dX5_highest_125 rfl rfl ?_
        have c5 := hy.1
        replace hy := hy.2
        refine E_ia 125 8 (x1).toNatClampNeg dX5_highest_126 sh_125 c5 rfl ?_
        refine E_goto 132 dX5_highest_127 rfl ?_
        exact E_ri dX5_highest_132 rfl ⟨rfl, rfl⟩ hy
  · replace hy := hy.2 h1
    refine E_iload dX5_highest_60 rfl ?_
    refine E_if_ne 110 dX5_highest_62 rfl (fun h6 => ?_) (fun h6 => ?_)
    · replace hy := hy.1 h6
      refine E_iload_n 2 dX5_highest_110 rfl rfl ?_
      refine E_bipush (-9 : Int32) dX5_highest_111 rfl ?_
      refine E_icmp_ne 133 dX5_highest_113 rfl (fun h7 => ?_) (fun h7 => ?_)
      · replace hy := hy.1 h7
        refine E_iload_n 2 dX5_highest_133 rfl rfl ?_
        refine E_iload_n 3 dX5_highest_134 rfl rfl ?_
        refine E_icmp_lt 143 dX5_highest_135 rfl (fun h8 => ?_) (fun h8 => ?_)
        · replace hy := hy.1 h8
          refine E_iload dX5_highest_143 rfl ?_
          refine E_iconst (3 : Int32) dX5_highest_145 rfl ?_
          refine E_iload_n 3 dX5_highest_146 rfl rfl ?_
          refine E_iconst (1 : Int32) dX5_highest_147 rfl ?_
          refine E_isub dX5_highest_148 ?_
          refine E_iload_n 2 dX5_highest_149 rfl rfl ?_
          refine E_isub dX5_highest_150 ?_
          refine E_imul dX5_highest_151 ?_
          refine E_ishr dX5_highest_152 ?_
          refine E_bipush (7 : Int32) dX5_highest_153 rfl ?_
          refine E_iand dX5_highest_155 ?_
          exact E_ri dX5_highest_156 rfl ⟨rfl, rfl⟩ hy
        · replace hy := hy.2 h8
          refine E_bipush (-5 : Int32) dX5_highest_138 rfl ?_
          refine E_goto 156 dX5_highest_140 rfl ?_
          exact E_ri dX5_highest_156 rfl ⟨rfl, rfl⟩ hy
      · replace hy := hy.2 (Decidable.not_not.mp h7)
        refine E_iload dX5_highest_116 rfl ?_
        refine E_if_eq 130 dX5_highest_118 rfl (fun h9 => ?_) (fun h9 => ?_)
        · replace hy := hy.1 h9
          refine E_iload dX5_highest_130 rfl ?_
          exact E_ri dX5_highest_132 rfl ⟨rfl, rfl⟩ hy
        · replace hy := hy.2 h9
          refine E_aload_n 0 dX5_highest_121 rfl rfl ?_
          refine E_getr 5 2 122 33 125 dX5_highest_122 fl_RX5_17 rfl sh_122 (wg_122_2 hG) ?_
          refine E_iload_n 1 dX5_highest_125 rfl rfl ?_
          have c10 := hy.1
          replace hy := hy.2
          refine E_ia 125 8 (x1).toNatClampNeg dX5_highest_126 sh_125 c10 rfl ?_
          refine E_goto 132 dX5_highest_127 rfl ?_
          exact E_ri dX5_highest_132 rfl ⟨rfl, rfl⟩ hy
    · replace hy := hy.2 (Decidable.not_not.mp h6)
      refine E_aload_n 0 dX5_highest_65 rfl rfl ?_
      refine E_iload dX5_highest_66 rfl ?_
      refine E_iload_n 3 dX5_highest_68 rfl rfl ?_
      refine E_cv (M := mX5_highest) (pc := 69) (As := [.int x7, .int x3]) (st := []) mX5_isCode 2 5 33 dX5_highest_69 lk_RX5_207 ⟨_, rfl, rfl⟩ sh_122 rfl (Nat.le_of_ble_eq_true rfl) ⟨rfl, rfl⟩ (Nat.le_of_ble_eq_true rfl) rfl hy ?_
      rintro r n I11 G11 J11 ⟨v11, rfl, rfl, rfl, rfl, rfl, hy⟩
      show Ev (d + 1) mX5_highest 136 72 [some (.ref 122), some (.int x1), some (.int x2), some (.int x3), some (.int x4), some (.int x5), some (.int x6), some (.int x7), none] [.int v11] 136 I G J Φ
      refine E_if_eq 86 dX5_highest_72 rfl (fun h12 => ?_) (fun h12 => ?_)
      · replace hy := hy.1 h12
        refine E_iconst (-1 : Int32) dX5_highest_86 rfl ?_
        refine E_istore dX5_highest_87 (Nat.le_of_ble_eq_true rfl) (?_ : Ev (d + 1) mX5_highest 136 89 [some (.ref 122), some (.int x1), some (.int x2), some (.int x3), some (.int x4), some (.int x5), some (.int x6), some (.int x7), some (.int (-1 : Int32))] [] 136 I G J Φ)
        refine E_iload dX5_highest_89 rfl ?_
        refine E_iload dX5_highest_91 rfl ?_
        refine E_icmp_le 104 dX5_highest_93 rfl (fun h13 => ?_) (fun h13 => ?_)
        · replace hy := hy.1 h13
          refine E_iinc (x7 + (1 : Int32)) dX5_highest_104 rfl rfl (Nat.le_of_ble_eq_true rfl) (?_ : Ev (d + 1) mX5_highest 136 107 [some (.ref 122), some (.int x1), some (.int x2), some (.int x3), some (.int x4), some (.int x5), some (.int x6), some (.int (x7 + (1 : Int32))), some (.int (-1 : Int32))] [] 136 I G J Φ)
          refine E_goto 50 dX5_highest_107 rfl ?_
          refine E_wk (ls2 := [some (.ref 122), some (.int x1), some (.int x2), some (.int x3), some (.int x4), some (.int x5), some (.int x6), some (.int (x7 + (1 : Int32))), none]) ⟨rfl, rfl, rfl, rfl, rfl, rfl, rfl, rfl, trivial⟩ ?_
          exact hy
        · replace hy := hy.2 h13
          refine E_iload dX5_highest_96 rfl ?_
          refine E_istore dX5_highest_98 (Nat.le_of_ble_eq_true rfl) (?_ : Ev (d + 1) mX5_highest 136 100 [some (.ref 122), some (.int x1), some (.int x2), some (.int x3), some (.int x7), some (.int x5), some (.int x6), some (.int x7), some (.int (-1 : Int32))] [] 136 I G J Φ)
          refine E_iload dX5_highest_100 rfl ?_
          refine E_istore dX5_highest_102 (Nat.le_of_ble_eq_true rfl) (?_ : Ev (d + 1) mX5_highest 136 104 [some (.ref 122), some (.int x1), some (.int x2), some (.int x3), some (.int x7), some (.int (-1 : Int32)), some (.int x6), some (.int x7), some (.int (-1 : Int32))] [] 136 I G J Φ)
          refine E_iinc (x7 + (1 : Int32)) dX5_highest_104 rfl rfl (Nat.le_of_ble_eq_true rfl) (?_ : Ev (d + 1) mX5_highest 136 107 [some (.ref 122), some (.int x1), some (.int x2), some (.int x3), some (.int x7), some (.int (-1 : Int32)), some (.int x6), some (.int (x7 + (1 : Int32))), some (.int (-1 : Int32))] [] 136 I G J Φ)
          refine E_goto 50 dX5_highest_107 rfl ?_
          refine E_wk (ls2 := [some (.ref 122), some (.int x1), some (.int x2), some (.int x3), some (.int x7), some (.int (-1 : Int32)), some (.int x6), some (.int (x7 + (1 : Int32))), none]) ⟨rfl, rfl, rfl, rfl, rfl, rfl, rfl, rfl, trivial⟩ ?_
          exact hy
      · replace hy := hy.2 h12
        refine E_aload_n 0 dX5_highest_75 rfl rfl ?_
        refine E_iload_n 1 dX5_highest_76 rfl rfl ?_
        refine E_iload dX5_highest_77 rfl ?_
        refine E_iload_n 3 dX5_highest_79 rfl rfl ?_
        refine E_cv (M := mX5_highest) (pc := 80) (As := [.int x1, .int x7, .int x3]) (st := []) mX5_stepBy 3 5 33 dX5_highest_80 lk_RX5_210 ⟨_, rfl, rfl⟩ sh_122 rfl (Nat.le_of_ble_eq_true rfl) ⟨rfl, rfl⟩ (Nat.le_of_ble_eq_true rfl) rfl hy ?_
        rintro r n I14 G14 J14 ⟨v14, rfl, rfl, rfl, rfl, hy⟩
        show Ev (d + 1) mX5_highest 136 83 [some (.ref 122), some (.int x1), some (.int x2), some (.int x3), some (.int x4), some (.int x5), some (.int x6), some (.int x7), none] [.int v14] 136 I14 G J Φ
        refine E_goto 87 dX5_highest_83 rfl ?_
        refine E_istore dX5_highest_87 (Nat.le_of_ble_eq_true rfl) (?_ : Ev (d + 1) mX5_highest 136 89 [some (.ref 122), some (.int x1), some (.int x2), some (.int x3), some (.int x4), some (.int x5), some (.int x6), some (.int x7), some (.int v14)] [] 136 I14 G J Φ)
        refine E_iload dX5_highest_89 rfl ?_
        refine E_iload dX5_highest_91 rfl ?_
        refine E_icmp_le 104 dX5_highest_93 rfl (fun h15 => ?_) (fun h15 => ?_)
        · replace hy := hy.1 h15
          refine E_iinc (x7 + (1 : Int32)) dX5_highest_104 rfl rfl (Nat.le_of_ble_eq_true rfl) (?_ : Ev (d + 1) mX5_highest 136 107 [some (.ref 122), some (.int x1), some (.int x2), some (.int x3), some (.int x4), some (.int x5), some (.int x6), some (.int (x7 + (1 : Int32))), some (.int v14)] [] 136 I14 G J Φ)
          refine E_goto 50 dX5_highest_107 rfl ?_
          refine E_wk (ls2 := [some (.ref 122), some (.int x1), some (.int x2), some (.int x3), some (.int x4), some (.int x5), some (.int x6), some (.int (x7 + (1 : Int32))), none]) ⟨rfl, rfl, rfl, rfl, rfl, rfl, rfl, rfl, trivial⟩ ?_
          exact hy
        · replace hy := hy.2 h15
          refine E_iload dX5_highest_96 rfl ?_
          refine E_istore dX5_highest_98 (Nat.le_of_ble_eq_true rfl) (?_ : Ev (d + 1) mX5_highest 136 100 [some (.ref 122), some (.int x1), some (.int x2), some (.int x3), some (.int x7), some (.int x5), some (.int x6), some (.int x7), some (.int v14)] [] 136 I14 G J Φ)
          refine E_iload dX5_highest_100 rfl ?_
          refine E_istore dX5_highest_102 (Nat.le_of_ble_eq_true rfl) (?_ : Ev (d + 1) mX5_highest 136 104 [some (.ref 122), some (.int x1), some (.int x2), some (.int x3), some (.int x7), some (.int v14), some (.int x6), some (.int x7), some (.int v14)] [] 136 I14 G J Φ)
          refine E_iinc (x7 + (1 : Int32)) dX5_highest_104 rfl rfl (Nat.le_of_ble_eq_true rfl) (?_ : Ev (d + 1) mX5_highest 136 107 [some (.ref 122), some (.int x1), some (.int x2), some (.int x3), some (.int x7), some (.int v14), some (.int x6), some (.int (x7 + (1 : Int32))), some (.int v14)] [] 136 I14 G J Φ)
          refine E_goto 50 dX5_highest_107 rfl ?_
          refine E_wk (ls2 := [some (.ref 122), some (.int x1), some (.int x2), some (.int x3), some (.int x7), some (.int v14), some (.int x6), some (.int (x7 + (1 : Int32))), none]) ⟨rfl, rfl, rfl, rfl, rfl, rfl, rfl, rfl, trivial⟩ ?_
          exact hy
set_option maxRecDepth 100000 in
theorem w_X5_hill {d : Nat} {I : MI} {G : MG} {J : MJ} {Φ : Ph} (hG : WG G) (x1 : Int32) (x2 : Int32) (hy : Ev d mX5_isHill 136 0 [some (.ref 122), some (.int x1)] [] 136 I G J (fun r n I1 G1 J1 => ∃ v1 : Int32, r = some (.int v1) ∧ n = 136 ∧ I = I1 ∧ G = G1 ∧ J = J1 ∧ ((¬ v1 = 0 → (¬ x2 = 0 → (¬ x2 = (1 : Int32) → (¬ x2 = (2 : Int32) → (¬ x2 = (3 : Int32) → Φ (some (.int (-1 : Int32))) 136 I G J) ∧ (x2 = (3 : Int32) → vp_in x1 8 ∧ (Φ (some (.int (I 128 (x1).toNatClampNeg))) 136 I G J))) ∧ (x2 = (2 : Int32) → vp_in x1 8 ∧ (Φ (some (.int (I 127 (x1).toNatClampNeg))) 136 I G J))) ∧ (x2 = (1 : Int32) → vp_in x1 8 ∧ (Φ (some (.int (I 126 (x1).toNatClampNeg))) 136 I G J))) ∧ (x2 = 0 → vp_in x1 8 ∧ (Φ (some (.int (I 125 (x1).toNatClampNeg))) 136 I G J))) ∧ (v1 = 0 → Φ (some (.int (-1 : Int32))) 136 I G J)))) : Ev (d + 1) mX5_hill 136 0 [some (.ref 122), some (.int x1), some (.int x2)] [] 136 I G J Φ := by
  refine E_aload_n 0 dX5_hill_0 rfl rfl ?_
  refine E_iload_n 1 dX5_hill_1 rfl rfl ?_
  refine E_cv (M := mX5_hill) (pc := 2) (As := [.int x1]) (st := []) mX5_isHill 1 5 33 dX5_hill_2 lk_RX5_149 ⟨_, rfl, rfl⟩ sh_122 rfl (Nat.le_of_ble_eq_true rfl) ⟨rfl, rfl⟩ (Nat.le_of_ble_eq_true rfl) rfl hy ?_
  rintro r n I1 G1 J1 ⟨v1, rfl, rfl, rfl, rfl, rfl, hy⟩
  show Ev (d + 1) mX5_hill 136 5 [some (.ref 122), some (.int x1), some (.int x2)] [.int v1] 136 I G J Φ
  refine E_if_ne 10 dX5_hill_5 rfl (fun h2 => ?_) (fun h2 => ?_)
  · replace hy := hy.1 h2
    refine E_iload_n 2 dX5_hill_10 rfl rfl ?_
    refine E_if_ne 23 dX5_hill_11 rfl (fun h3 => ?_) (fun h3 => ?_)
    · replace hy := hy.1 h3
      refine E_iload_n 2 dX5_hill_23 rfl rfl ?_
      refine E_iconst (1 : Int32) dX5_hill_24 rfl ?_
      refine E_icmp_ne 37 dX5_hill_25 rfl (fun h4 => ?_) (fun h4 => ?_)
      · replace hy := hy.1 h4
        refine E_iload_n 2 dX5_hill_37 rfl rfl ?_
        refine E_iconst (2 : Int32) dX5_hill_38 rfl ?_
        refine E_icmp_ne 51 dX5_hill_39 rfl (fun h5 => ?_) (fun h5 => ?_)
        · replace hy := hy.1 h5
          refine E_iload_n 2 dX5_hill_51 rfl rfl ?_
          refine E_iconst (3 : Int32) dX5_hill_52 rfl ?_
          refine E_icmp_ne 65 dX5_hill_53 rfl (fun h6 => ?_) (fun h6 => ?_)
          · replace hy := hy.1 h6
            refine E_iconst (-1 : Int32) dX5_hill_65 rfl ?_
            exact E_ri dX5_hill_66 rfl ⟨rfl, rfl⟩ hy
          · replace hy := hy.2 (Decidable.not_not.mp h6)
            refine E_aload_n 0 dX5_hill_56 rfl rfl ?_
            refine E_getr 5 5 122 33 128 dX5_hill_57 fl_RX5_26 rfl sh_122 (wg_122_5 hG) ?_
            refine E_iload_n 1 dX5_hill_60 rfl rfl ?_
            have c7 := hy.1
            replace hy := hy.2
            refine E_ia 128 8 (x1).toNatClampNeg dX5_hill_61 sh_128 c7 rfl ?_
            refine E_goto 66 dX5_hill_62 rfl ?_
            exact E_ri dX5_hill_66 rfl ⟨rfl, rfl⟩ hy
        · replace hy := hy.2 (Decidable.not_not.mp h5)
          refine E_aload_n 0 dX5_hill_42 rfl rfl ?_
          refine E_getr 5 4 122 33 127 dX5_hill_43 fl_RX5_23 rfl sh_122 (wg_122_4 hG) ?_
          refine E_iload_n 1 dX5_hill_46 rfl rfl ?_
          have c8 := hy.1
          replace hy := hy.2
          refine E_ia 127 8 (x1).toNatClampNeg dX5_hill_47 sh_127 c8 rfl ?_
          refine E_goto 66 dX5_hill_48 rfl ?_
          exact E_ri dX5_hill_66 rfl ⟨rfl, rfl⟩ hy
      · replace hy := hy.2 (Decidable.not_not.mp h4)
        refine E_aload_n 0 dX5_hill_28 rfl rfl ?_
        refine E_getr 5 3 122 33 126 dX5_hill_29 fl_RX5_20 rfl sh_122 (wg_122_3 hG) ?_
        refine E_iload_n 1 dX5_hill_32 rfl rfl ?_
        have c9 := hy.1
        replace hy := hy.2
        refine E_ia 126 8 (x1).toNatClampNeg dX5_hill_33 sh_126 c9 rfl ?_
        refine E_goto 66 dX5_hill_34 rfl ?_
        exact E_ri dX5_hill_66 rfl ⟨rfl, rfl⟩ hy
    · replace hy := hy.2 (Decidable.not_not.mp h3)
      refine E_aload_n 0 dX5_hill_14 rfl rfl ?_
      refine E_getr 5 2 122 33 125 dX5_hill_15 fl_RX5_17 rfl sh_122 (wg_122_2 hG) ?_
      refine E_iload_n 1 dX5_hill_18 rfl rfl ?_
      have c10 := hy.1
      replace hy := hy.2
      refine E_ia 125 8 (x1).toNatClampNeg dX5_hill_19 sh_125 c10 rfl ?_
      refine E_goto 66 dX5_hill_20 rfl ?_
      exact E_ri dX5_hill_66 rfl ⟨rfl, rfl⟩ hy
  · replace hy := hy.2 (Decidable.not_not.mp h2)
    refine E_iconst (-1 : Int32) dX5_hill_8 rfl ?_
    exact E_ri dX5_hill_9 rfl ⟨rfl, rfl⟩ hy
set_option maxRecDepth 100000 in
theorem w_X5_hills {d : Nat} {I : MI} {G : MG} {J : MJ} {Φ : Ph} (hG : WG G)  (hy : Ev d mX5_next 136 0 [some (.ref 122), none, none] [] 136 (u2 (u2 (u2 (u2 (u2 (u2 (u2 (u2 I 122 23 (0 : Int32)) 122 27 (-1 : Int32)) 122 15 (0 : Int32)) 122 16 (0 : Int32)) 122 17 (0 : Int32)) 122 18 (4 : Int32)) 122 19 (0 : Int32)) 122 20 (0 : Int32)) G J (fun r n I1 G1 J1 => r = none ∧ n = 136 ∧ G = G1 ∧ J = J1 ∧ (Ev (d + 1) mX5_hills 136 46 [some (.ref 122), some (.int (0 : Int32)), none] [] 136 I1 G J Φ))) : Ev (d + 1) mX5_hills 136 0 [some (.ref 122), none, none] [] 136 I G J Φ := by
  refine E_aload_n 0 dX5_hills_0 rfl rfl ?_
  refine E_iconst (0 : Int32) dX5_hills_1 rfl ?_
  refine E_puti 5 23 122 33 dX5_hills_2 fl_RX5_70 rfl sh_122 ⟨_, rfl, rfl⟩ rfl rfl ?_
  refine E_aload_n 0 dX5_hills_5 rfl rfl ?_
  refine E_iconst (-1 : Int32) dX5_hills_6 rfl ?_
  refine E_puti 5 27 122 33 dX5_hills_7 fl_RX5_86 rfl sh_122 ⟨_, rfl, rfl⟩ rfl rfl ?_
  refine E_aload_n 0 dX5_hills_10 rfl rfl ?_
  refine E_iconst (0 : Int32) dX5_hills_11 rfl ?_
  refine E_puti 5 15 122 33 dX5_hills_12 fl_RX5_96 rfl sh_122 ⟨_, rfl, rfl⟩ rfl rfl ?_
  refine E_aload_n 0 dX5_hills_15 rfl rfl ?_
  refine E_iconst (0 : Int32) dX5_hills_16 rfl ?_
  refine E_puti 5 16 122 33 dX5_hills_17 fl_RX5_103 rfl sh_122 ⟨_, rfl, rfl⟩ rfl rfl ?_
  refine E_aload_n 0 dX5_hills_20 rfl rfl ?_
  refine E_iconst (0 : Int32) dX5_hills_21 rfl ?_
  refine E_puti 5 17 122 33 dX5_hills_22 fl_RX5_112 rfl sh_122 ⟨_, rfl, rfl⟩ rfl rfl ?_
  refine E_aload_n 0 dX5_hills_25 rfl rfl ?_
  refine E_iconst (4 : Int32) dX5_hills_26 rfl ?_
  refine E_puti 5 18 122 33 dX5_hills_27 fl_RX5_122 rfl sh_122 ⟨_, rfl, rfl⟩ rfl rfl ?_
  refine E_aload_n 0 dX5_hills_30 rfl rfl ?_
  refine E_iconst (0 : Int32) dX5_hills_31 rfl ?_
  refine E_puti 5 19 122 33 dX5_hills_32 fl_RX5_125 rfl sh_122 ⟨_, rfl, rfl⟩ rfl rfl ?_
  refine E_aload_n 0 dX5_hills_35 rfl rfl ?_
  refine E_iconst (0 : Int32) dX5_hills_36 rfl ?_
  refine E_puti 5 20 122 33 dX5_hills_37 fl_RX5_115 rfl sh_122 ⟨_, rfl, rfl⟩ rfl rfl ?_
  refine E_iconst (0 : Int32) dX5_hills_40 rfl ?_
  refine E_istore_n 1 dX5_hills_41 rfl (Nat.le_of_ble_eq_true rfl) (?_ : Ev (d + 1) mX5_hills 136 42 [some (.ref 122), some (.int (0 : Int32)), none] [] 136 (u2 (u2 (u2 (u2 (u2 (u2 (u2 (u2 I 122 23 (0 : Int32)) 122 27 (-1 : Int32)) 122 15 (0 : Int32)) 122 16 (0 : Int32)) 122 17 (0 : Int32)) 122 18 (4 : Int32)) 122 19 (0 : Int32)) 122 20 (0 : Int32)) G J Φ)
  refine E_aload_n 0 dX5_hills_42 rfl rfl ?_
  refine E_cv (M := mX5_hills) (pc := 43) (As := []) (st := []) mX5_next 0 5 33 dX5_hills_43 lk_RX5_89 ⟨_, rfl, rfl⟩ sh_122 rfl (Nat.le_of_ble_eq_true rfl) ⟨rfl, rfl⟩ (Nat.le_of_ble_eq_true rfl) rfl hy ?_
  rintro r n I1 G1 J1 ⟨rfl, rfl, rfl, rfl, hy⟩
  show Ev (d + 1) mX5_hills 136 46 [some (.ref 122), some (.int (0 : Int32)), none] [] 136 I1 G J Φ
  exact hy
set_option maxRecDepth 100000 in
theorem w_X5_hills_46 {d : Nat} {I : MI} {G : MG} {J : MJ} {Φ : Ph} (hG : WG G)  (x1 : Int32) (hy : (0 ≤ (I 122 27) → ((I 122 27) < 0 → Ev (d + 1) mX5_hills 136 169 [some (.ref 122), some (.int x1), some (.int (0 : Int32))] [] 136 (u2 (u2 (u2 (u2 (u2 (u2 I 122 22 (0 : Int32)) 122 10 (I 122 15)) 122 11 (I 122 16)) 122 12 (I 122 17)) 122 13 (I 122 18)) 122 14 (I 122 19)) G J Φ) ∧ (¬ (I 122 27) < 0 → Φ (some (.int ((-10 : Int32) - (I 122 27)))) 136 I G J)) ∧ (¬ 0 ≤ (I 122 27) → ((I 122 25) = (-1 : Int32) → ((I 122 27) < 0 → Ev (d + 1) mX5_hills 136 169 [some (.ref 122), some (.int x1), some (.int (0 : Int32))] [] 136 (u2 (u2 (u2 (u2 (u2 (u2 I 122 22 (0 : Int32)) 122 10 (I 122 15)) 122 11 (I 122 16)) 122 12 (I 122 17)) 122 13 (I 122 18)) 122 14 (I 122 19)) G J Φ) ∧ (¬ (I 122 27) < 0 → Φ (some (.int ((-10 : Int32) - (I 122 27)))) 136 I G J)) ∧ (¬ (I 122 25) = (-1 : Int32) → Ev d mX5_takeItem 136 0 [some (.ref 122)] [] 136 I G J (fun r n I5 G5 J5 => r = none ∧ n = 136 ∧ G = G5 ∧ J = J5 ∧ ((0 ≤ (I5 122 27) → Ev (d + 1) mX5_hills 136 46 [some (.ref 122), some (.int x1), none] [] 136 I5 G J Φ) ∧ (¬ 0 ≤ (I5 122 27) → Ev d mX5_next 136 0 [some (.ref 122), none, none] [] 136 I5 G J (fun r n I7 G7 J7 => r = none ∧ n = 136 ∧ G = G7 ∧ J = J7 ∧ ((¬ (I7 122 25) = (59 : Int32) → Ev d mX5_want 136 0 [some (.ref 122), some (.int (0 : Int32))] [] 136 I7 G J (fun r n I9 G9 J9 => ∃ v9 : Int32, r = some (.int v9) ∧ n = 136 ∧ G = G9 ∧ J = J9 ∧ ((v9 = 0 → Ev (d + 1) mX5_hills 136 46 [some (.ref 122), some (.int x1), none] [] 136 I9 G J Φ) ∧ (¬ v9 = 0 → Ev d mX5_next 136 0 [some (.ref 122), none, none] [] 136 I9 G J (fun r n I11 G11 J11 => r = none ∧ n = 136 ∧ G = G11 ∧ J = J11 ∧ (Ev (d + 1) mX5_hills 136 46 [some (.ref 122), some (.int (x1 + (1 : Int32))), none] [] 136 I11 G J Φ)))))) ∧ ((I7 122 25) = (59 : Int32) → Ev d mX5_want 136 0 [some (.ref 122), some (.int (1 : Int32))] [] 136 I7 G J (fun r n I12 G12 J12 => ∃ v12 : Int32, r = some (.int v12) ∧ n = 136 ∧ G = G12 ∧ J = J12 ∧ ((v12 = 0 → Ev (d + 1) mX5_hills 136 46 [some (.ref 122), some (.int x1), none] [] 136 I12 G J Φ) ∧ (¬ v12 = 0 → Ev d mX5_next 136 0 [some (.ref 122), none, none] [] 136 I12 G J (fun r n I14 G14 J14 => r = none ∧ n = 136 ∧ G = G14 ∧ J = J14 ∧ (Ev (d + 1) mX5_hills 136 46 [some (.ref 122), some (.int (x1 + (1 : Int32))), none] [] 136 I14 G J Φ)))))))))))))) : Ev (d + 1) mX5_hills 136 46 [some (.ref 122), some (.int x1), none] [] 136 I G J Φ := by
  refine E_aload_n 0 dX5_hills_46 rfl rfl ?_
  refine E_geti 5 27 122 33 dX5_hills_47 fl_RX5_86 rfl sh_122 ?_
  refine E_if_ge 107 dX5_hills_50 rfl (fun h1 => ?_) (fun h1 => ?_)
  · replace hy := hy.1 h1
    refine E_aload_n 0 dX5_hills_107 rfl rfl ?_
    refine E_geti 5 27 122 33 dX5_hills_108 fl_RX5_86 rfl sh_122 ?_
    refine E_if_lt 122 dX5_hills_111 rfl (fun h2 => ?_) (fun h2 => ?_)
    · replace hy := hy.1 h2
      refine E_aload_n 0 dX5_hills_122 rfl rfl ?_
      refine E_iconst (0 : Int32) dX5_hills_123 rfl ?_
      refine E_puti 5 22 122 33 dX5_hills_124 fl_RX5_63 rfl sh_122 ⟨_, rfl, rfl⟩ rfl rfl ?_
      refine E_aload_n 0 dX5_hills_127 rfl rfl ?_
      refine E_aload_n 0 dX5_hills_128 rfl rfl ?_
      refine E_getw 5 15 122 33 (I 122 15) dX5_hills_129 fl_RX5_96 rfl sh_122 rfl ?_
      refine E_puti 5 10 122 33 dX5_hills_132 fl_RX5_131 rfl sh_122 ⟨_, rfl, rfl⟩ rfl rfl ?_
      refine E_aload_n 0 dX5_hills_135 rfl rfl ?_
      refine E_aload_n 0 dX5_hills_136 rfl rfl ?_
      refine E_getw 5 16 122 33 (I 122 16) dX5_hills_137 fl_RX5_103 rfl sh_122 rfl ?_
      refine E_puti 5 11 122 33 dX5_hills_140 fl_RX5_134 rfl sh_122 ⟨_, rfl, rfl⟩ rfl rfl ?_
      refine E_aload_n 0 dX5_hills_143 rfl rfl ?_
      refine E_aload_n 0 dX5_hills_144 rfl rfl ?_
      refine E_getw 5 17 122 33 (I 122 17) dX5_hills_145 fl_RX5_112 rfl sh_122 rfl ?_
      refine E_puti 5 12 122 33 dX5_hills_148 fl_RX5_137 rfl sh_122 ⟨_, rfl, rfl⟩ rfl rfl ?_
      refine E_aload_n 0 dX5_hills_151 rfl rfl ?_
      refine E_aload_n 0 dX5_hills_152 rfl rfl ?_
      refine E_getw 5 18 122 33 (I 122 18) dX5_hills_153 fl_RX5_122 rfl sh_122 rfl ?_
      refine E_puti 5 13 122 33 dX5_hills_156 fl_RX5_50 rfl sh_122 ⟨_, rfl, rfl⟩ rfl rfl ?_
      refine E_aload_n 0 dX5_hills_159 rfl rfl ?_
      refine E_aload_n 0 dX5_hills_160 rfl rfl ?_
      refine E_getw 5 19 122 33 (I 122 19) dX5_hills_161 fl_RX5_125 rfl sh_122 rfl ?_
      refine E_puti 5 14 122 33 dX5_hills_164 fl_RX5_140 rfl sh_122 ⟨_, rfl, rfl⟩ rfl rfl ?_
      refine E_iconst (0 : Int32) dX5_hills_167 rfl ?_
      refine E_istore_n 2 dX5_hills_168 rfl (Nat.le_of_ble_eq_true rfl) (?_ : Ev (d + 1) mX5_hills 136 169 [some (.ref 122), some (.int x1), some (.int (0 : Int32))] [] 136 (u2 (u2 (u2 (u2 (u2 (u2 I 122 22 (0 : Int32)) 122 10 (I 122 15)) 122 11 (I 122 16)) 122 12 (I 122 17)) 122 13 (I 122 18)) 122 14 (I 122 19)) G J Φ)
      exact hy
    · replace hy := hy.2 h2
      refine E_bipush (-10 : Int32) dX5_hills_114 rfl ?_
      refine E_aload_n 0 dX5_hills_116 rfl rfl ?_
      refine E_geti 5 27 122 33 dX5_hills_117 fl_RX5_86 rfl sh_122 ?_
      refine E_isub dX5_hills_120 ?_
      exact E_ri dX5_hills_121 rfl ⟨rfl, rfl⟩ hy
  · replace hy := hy.2 h1
    refine E_aload_n 0 dX5_hills_53 rfl rfl ?_
    refine E_geti 5 25 122 33 dX5_hills_54 fl_RX5_76 rfl sh_122 ?_
    refine E_iconst (-1 : Int32) dX5_hills_57 rfl ?_
    refine E_icmp_eq 107 dX5_hills_58 rfl (fun h3 => ?_) (fun h3 => ?_)
    · replace hy := hy.1 h3
      refine E_aload_n 0 dX5_hills_107 rfl rfl ?_
      refine E_geti 5 27 122 33 dX5_hills_108 fl_RX5_86 rfl sh_122 ?_
      refine E_if_lt 122 dX5_hills_111 rfl (fun h4 => ?_) (fun h4 => ?_)
      · replace hy := hy.1 h4
        refine E_aload_n 0 dX5_hills_122 rfl rfl ?_
        refine E_iconst (0 : Int32) dX5_hills_123 rfl ?_
        refine E_puti 5 22 122 33 dX5_hills_124 fl_RX5_63 rfl sh_122 ⟨_, rfl, rfl⟩ rfl rfl ?_
        refine E_aload_n 0 dX5_hills_127 rfl rfl ?_
        refine E_aload_n 0 dX5_hills_128 rfl rfl ?_
        refine E_getw 5 15 122 33 (I 122 15) dX5_hills_129 fl_RX5_96 rfl sh_122 rfl ?_
        refine E_puti 5 10 122 33 dX5_hills_132 fl_RX5_131 rfl sh_122 ⟨_, rfl, rfl⟩ rfl rfl ?_
        refine E_aload_n 0 dX5_hills_135 rfl rfl ?_
        refine E_aload_n 0 dX5_hills_136 rfl rfl ?_
        refine E_getw 5 16 122 33 (I 122 16) dX5_hills_137 fl_RX5_103 rfl sh_122 rfl ?_
        refine E_puti 5 11 122 33 dX5_hills_140 fl_RX5_134 rfl sh_122 ⟨_, rfl, rfl⟩ rfl rfl ?_
        refine E_aload_n 0 dX5_hills_143 rfl rfl ?_
        refine E_aload_n 0 dX5_hills_144 rfl rfl ?_
        refine E_getw 5 17 122 33 (I 122 17) dX5_hills_145 fl_RX5_112 rfl sh_122 rfl ?_
        refine E_puti 5 12 122 33 dX5_hills_148 fl_RX5_137 rfl sh_122 ⟨_, rfl, rfl⟩ rfl rfl ?_
        refine E_aload_n 0 dX5_hills_151 rfl rfl ?_
        refine E_aload_n 0 dX5_hills_152 rfl rfl ?_
        refine E_getw 5 18 122 33 (I 122 18) dX5_hills_153 fl_RX5_122 rfl sh_122 rfl ?_
        refine E_puti 5 13 122 33 dX5_hills_156 fl_RX5_50 rfl sh_122 ⟨_, rfl, rfl⟩ rfl rfl ?_
        refine E_aload_n 0 dX5_hills_159 rfl rfl ?_
        refine E_aload_n 0 dX5_hills_160 rfl rfl ?_
        refine E_getw 5 19 122 33 (I 122 19) dX5_hills_161 fl_RX5_125 rfl sh_122 rfl ?_
        refine E_puti 5 14 122 33 dX5_hills_164 fl_RX5_140 rfl sh_122 ⟨_, rfl, rfl⟩ rfl rfl ?_
        refine E_iconst (0 : Int32) dX5_hills_167 rfl ?_
        refine E_istore_n 2 dX5_hills_168 rfl (Nat.le_of_ble_eq_true rfl) (?_ : Ev (d + 1) mX5_hills 136 169 [some (.ref 122), some (.int x1), some (.int (0 : Int32))] [] 136 (u2 (u2 (u2 (u2 (u2 (u2 I 122 22 (0 : Int32)) 122 10 (I 122 15)) 122 11 (I 122 16)) 122 12 (I 122 17)) 122 13 (I 122 18)) 122 14 (I 122 19)) G J Φ)
        exact hy
      · replace hy := hy.2 h4
        refine E_bipush (-10 : Int32) dX5_hills_114 rfl ?_
        refine E_aload_n 0 dX5_hills_116 rfl rfl ?_
        refine E_geti 5 27 122 33 dX5_hills_117 fl_RX5_86 rfl sh_122 ?_
        refine E_isub dX5_hills_120 ?_
        exact E_ri dX5_hills_121 rfl ⟨rfl, rfl⟩ hy
    · replace hy := hy.2 h3
      refine E_aload_n 0 dX5_hills_61 rfl rfl ?_
      refine E_cv (M := mX5_hills) (pc := 62) (As := []) (st := []) mX5_takeItem 0 5 33 dX5_hills_62 lk_RX5_128 ⟨_, rfl, rfl⟩ sh_122 rfl (Nat.le_of_ble_eq_true rfl) ⟨rfl, rfl⟩ (Nat.le_of_ble_eq_true rfl) rfl hy ?_
      rintro r n I5 G5 J5 ⟨rfl, rfl, rfl, rfl, hy⟩
      show Ev (d + 1) mX5_hills 136 65 [some (.ref 122), some (.int x1), none] [] 136 I5 G J Φ
      refine E_aload_n 0 dX5_hills_65 rfl rfl ?_
      refine E_geti 5 27 122 33 dX5_hills_66 fl_RX5_86 rfl sh_122 ?_
      refine E_if_ge 46 dX5_hills_69 rfl (fun h6 => ?_) (fun h6 => ?_)
      · replace hy := hy.1 h6
        exact hy
      · replace hy := hy.2 h6
        refine E_aload_n 0 dX5_hills_72 rfl rfl ?_
        refine E_cv (M := mX5_hills) (pc := 73) (As := []) (st := []) mX5_next 0 5 33 dX5_hills_73 lk_RX5_89 ⟨_, rfl, rfl⟩ sh_122 rfl (Nat.le_of_ble_eq_true rfl) ⟨rfl, rfl⟩ (Nat.le_of_ble_eq_true rfl) rfl hy ?_
        rintro r n I7 G7 J7 ⟨rfl, rfl, rfl, rfl, hy⟩
        show Ev (d + 1) mX5_hills 136 76 [some (.ref 122), some (.int x1), none] [] 136 I7 G J Φ
        refine E_aload_n 0 dX5_hills_76 rfl rfl ?_
        refine E_aload_n 0 dX5_hills_77 rfl rfl ?_
        refine E_geti 5 25 122 33 dX5_hills_78 fl_RX5_76 rfl sh_122 ?_
        refine E_bipush (59 : Int32) dX5_hills_81 rfl ?_
        refine E_icmp_ne 90 dX5_hills_83 rfl (fun h8 => ?_) (fun h8 => ?_)
        · replace hy := hy.1 h8
          refine E_iconst (0 : Int32) dX5_hills_90 rfl ?_
          refine E_cv (M := mX5_hills) (pc := 91) (As := [.int (0 : Int32)]) (st := []) mX5_want 1 5 33 dX5_hills_91 lk_RX5_92 ⟨_, rfl, rfl⟩ sh_122 rfl (Nat.le_of_ble_eq_true rfl) ⟨rfl, rfl⟩ (Nat.le_of_ble_eq_true rfl) rfl hy ?_
          rintro r n I9 G9 J9 ⟨v9, rfl, rfl, rfl, rfl, hy⟩
          show Ev (d + 1) mX5_hills 136 94 [some (.ref 122), some (.int x1), none] [.int v9] 136 I9 G J Φ
          refine E_if_eq 46 dX5_hills_94 rfl (fun h10 => ?_) (fun h10 => ?_)
          · replace hy := hy.1 h10
            exact hy
          · replace hy := hy.2 h10
            refine E_iinc (x1 + (1 : Int32)) dX5_hills_97 rfl rfl (Nat.le_of_ble_eq_true rfl) (?_ : Ev (d + 1) mX5_hills 136 100 [some (.ref 122), some (.int (x1 + (1 : Int32))), none] [] 136 I9 G J Φ)
            refine E_aload_n 0 dX5_hills_100 rfl rfl ?_
            refine E_cv (M := mX5_hills) (pc := 101) (As := []) (st := []) mX5_next 0 5 33 dX5_hills_101 lk_RX5_89 ⟨_, rfl, rfl⟩ sh_122 rfl (Nat.le_of_ble_eq_true rfl) ⟨rfl, rfl⟩ (Nat.le_of_ble_eq_true rfl) rfl hy ?_
            rintro r n I11 G11 J11 ⟨rfl, rfl, rfl, rfl, hy⟩
            show Ev (d + 1) mX5_hills 136 104 [some (.ref 122), some (.int (x1 + (1 : Int32))), none] [] 136 I11 G J Φ
            refine E_goto 46 dX5_hills_104 rfl ?_
            exact hy
        · replace hy := hy.2 (Decidable.not_not.mp h8)
          refine E_iconst (1 : Int32) dX5_hills_86 rfl ?_
          refine E_goto 91 dX5_hills_87 rfl ?_
          refine E_cv (M := mX5_hills) (pc := 91) (As := [.int (1 : Int32)]) (st := []) mX5_want 1 5 33 dX5_hills_91 lk_RX5_92 ⟨_, rfl, rfl⟩ sh_122 rfl (Nat.le_of_ble_eq_true rfl) ⟨rfl, rfl⟩ (Nat.le_of_ble_eq_true rfl) rfl hy ?_
          rintro r n I12 G12 J12 ⟨v12, rfl, rfl, rfl, rfl, hy⟩
          show Ev (d + 1) mX5_hills 136 94 [some (.ref 122), some (.int x1), none] [.int v12] 136 I12 G J Φ
          refine E_if_eq 46 dX5_hills_94 rfl (fun h13 => ?_) (fun h13 => ?_)
          · replace hy := hy.1 h13
            exact hy
          · replace hy := hy.2 h13
            refine E_iinc (x1 + (1 : Int32)) dX5_hills_97 rfl rfl (Nat.le_of_ble_eq_true rfl) (?_ : Ev (d + 1) mX5_hills 136 100 [some (.ref 122), some (.int (x1 + (1 : Int32))), none] [] 136 I12 G J Φ)
            refine E_aload_n 0 dX5_hills_100 rfl rfl ?_
            refine E_cv (M := mX5_hills) (pc := 101) (As := []) (st := []) mX5_next 0 5 33 dX5_hills_101 lk_RX5_89 ⟨_, rfl, rfl⟩ sh_122 rfl (Nat.le_of_ble_eq_true rfl) ⟨rfl, rfl⟩ (Nat.le_of_ble_eq_true rfl) rfl hy ?_
            rintro r n I14 G14 J14 ⟨rfl, rfl, rfl, rfl, hy⟩
            show Ev (d + 1) mX5_hills 136 104 [some (.ref 122), some (.int (x1 + (1 : Int32))), none] [] 136 I14 G J Φ
            refine E_goto 46 dX5_hills_104 rfl ?_
            exact hy
set_option maxRecDepth 100000 in
theorem w_X5_hills_169 {d : Nat} {I : MI} {G : MG} {J : MJ} {Φ : Ph} (hG : WG G)  (x1 : Int32) (x2 : Int32) (hy : ((4 : Int32) ≤ x2 → Ev (d + 1) mX5_hills 136 280 [some (.ref 122), some (.int x1), some (.int (0 : Int32))] [] 136 I G J Φ) ∧ (¬ (4 : Int32) ≤ x2 → vp_in ((4 : Int32) + x2) 8 ∧ (vp_in x2 8 ∧ (vp_in ((4 : Int32) + x2) 8 ∧ (vp_in x2 8 ∧ (vp_in ((4 : Int32) + x2) 8 ∧ (vp_in x2 8 ∧ (vp_in ((4 : Int32) + x2) 8 ∧ (vp_in x2 8 ∧ (vp_in ((4 : Int32) + x2) 8 ∧ (vp_in x2 8 ∧ (vp_in ((4 : Int32) + x2) 8 ∧ (vp_in x2 8 ∧ (vp_in ((4 : Int32) + x2) 8 ∧ (vp_in x2 8 ∧ (Ev (d + 1) mX5_hills 136 169 [some (.ref 122), some (.int x1), some (.int (x2 + (1 : Int32)))] [] 136 (u2 (u2 (u2 (u2 (u2 (u2 (u2 I 125 (x2).toNatClampNeg (I 125 ((4 : Int32) + x2).toNatClampNeg)) 126 (x2).toNatClampNeg (I 126 ((4 : Int32) + x2).toNatClampNeg)) 127 (x2).toNatClampNeg (I 127 ((4 : Int32) + x2).toNatClampNeg)) 128 (x2).toNatClampNeg (I 128 ((4 : Int32) + x2).toNatClampNeg)) 129 (x2).toNatClampNeg (I 129 ((4 : Int32) + x2).toNatClampNeg)) 130 (x2).toNatClampNeg (I 130 ((4 : Int32) + x2).toNatClampNeg)) 131 (x2).toNatClampNeg (I 131 ((4 : Int32) + x2).toNatClampNeg)) G J Φ)))))))))))))))) : Ev (d + 1) mX5_hills 136 169 [some (.ref 122), some (.int x1), some (.int x2)] [] 136 I G J Φ := by
  refine E_iload_n 2 dX5_hills_169 rfl rfl ?_
  refine E_iconst (4 : Int32) dX5_hills_170 rfl ?_
  refine E_icmp_ge 278 dX5_hills_171 rfl (fun h1 => ?_) (fun h1 => ?_)
  · replace hy := hy.1 h1
    refine E_iconst (0 : Int32) dX5_hills_278 rfl ?_
    refine E_istore_n 2 dX5_hills_279 rfl (Nat.le_of_ble_eq_true rfl) (?_ : Ev (d + 1) mX5_hills 136 280 [some (.ref 122), some (.int x1), some (.int (0 : Int32))] [] 136 I G J Φ)
    exact hy
  · replace hy := hy.2 h1
    refine E_aload_n 0 dX5_hills_174 rfl rfl ?_
    refine E_getr 5 2 122 33 125 dX5_hills_175 fl_RX5_17 rfl sh_122 (wg_122_2 hG) ?_
    refine E_iload_n 2 dX5_hills_178 rfl rfl ?_
    refine E_aload_n 0 dX5_hills_179 rfl rfl ?_
    refine E_getr 5 2 122 33 125 dX5_hills_180 fl_RX5_17 rfl sh_122 (wg_122_2 hG) ?_
    refine E_iconst (4 : Int32) dX5_hills_183 rfl ?_
    refine E_iload_n 2 dX5_hills_184 rfl rfl ?_
    refine E_iadd dX5_hills_185 ?_
    have c2 := hy.1
    replace hy := hy.2
    refine E_ia 125 8 ((4 : Int32) + x2).toNatClampNeg dX5_hills_186 sh_125 c2 rfl ?_
    have c3 := hy.1
    replace hy := hy.2
    refine E_is 125 8 (x2).toNatClampNeg dX5_hills_187 sh_125 c3 rfl ?_
    refine E_aload_n 0 dX5_hills_188 rfl rfl ?_
    refine E_getr 5 3 122 33 126 dX5_hills_189 fl_RX5_20 rfl sh_122 (wg_122_3 hG) ?_
    refine E_iload_n 2 dX5_hills_192 rfl rfl ?_
    refine E_aload_n 0 dX5_hills_193 rfl rfl ?_
    refine E_getr 5 3 122 33 126 dX5_hills_194 fl_RX5_20 rfl sh_122 (wg_122_3 hG) ?_
    refine E_iconst (4 : Int32) dX5_hills_197 rfl ?_
    refine E_iload_n 2 dX5_hills_198 rfl rfl ?_
    refine E_iadd dX5_hills_199 ?_
    have c4 := hy.1
    replace hy := hy.2
    refine E_awi 126 8 ((4 : Int32) + x2).toNatClampNeg (I 126 ((4 : Int32) + x2).toNatClampNeg) dX5_hills_200 sh_126 c4 rfl rfl ?_
    have c5 := hy.1
    replace hy := hy.2
    refine E_is 126 8 (x2).toNatClampNeg dX5_hills_201 sh_126 c5 rfl ?_
    refine E_aload_n 0 dX5_hills_202 rfl rfl ?_
    refine E_getr 5 4 122 33 127 dX5_hills_203 fl_RX5_23 rfl sh_122 (wg_122_4 hG) ?_
    refine E_iload_n 2 dX5_hills_206 rfl rfl ?_
    refine E_aload_n 0 dX5_hills_207 rfl rfl ?_
    refine E_getr 5 4 122 33 127 dX5_hills_208 fl_RX5_23 rfl sh_122 (wg_122_4 hG) ?_
    refine E_iconst (4 : Int32) dX5_hills_211 rfl ?_
    refine E_iload_n 2 dX5_hills_212 rfl rfl ?_
    refine E_iadd dX5_hills_213 ?_
    have c6 := hy.1
    replace hy := hy.2
    refine E_awi 127 8 ((4 : Int32) + x2).toNatClampNeg (I 127 ((4 : Int32) + x2).toNatClampNeg) dX5_hills_214 sh_127 c6 rfl rfl ?_
    have c7 := hy.1
    replace hy := hy.2
    refine E_is 127 8 (x2).toNatClampNeg dX5_hills_215 sh_127 c7 rfl ?_
    refine E_aload_n 0 dX5_hills_216 rfl rfl ?_
    refine E_getr 5 5 122 33 128 dX5_hills_217 fl_RX5_26 rfl sh_122 (wg_122_5 hG) ?_
    refine E_iload_n 2 dX5_hills_220 rfl rfl ?_
    refine E_aload_n 0 dX5_hills_221 rfl rfl ?_
    refine E_getr 5 5 122 33 128 dX5_hills_222 fl_RX5_26 rfl sh_122 (wg_122_5 hG) ?_
    refine E_iconst (4 : Int32) dX5_hills_225 rfl ?_
    refine E_iload_n 2 dX5_hills_226 rfl rfl ?_
    refine E_iadd dX5_hills_227 ?_
    have c8 := hy.1
    replace hy := hy.2
    refine E_awi 128 8 ((4 : Int32) + x2).toNatClampNeg (I 128 ((4 : Int32) + x2).toNatClampNeg) dX5_hills_228 sh_128 c8 rfl rfl ?_
    have c9 := hy.1
    replace hy := hy.2
    refine E_is 128 8 (x2).toNatClampNeg dX5_hills_229 sh_128 c9 rfl ?_
    refine E_aload_n 0 dX5_hills_230 rfl rfl ?_
    refine E_getr 5 6 122 33 129 dX5_hills_231 fl_RX5_29 rfl sh_122 (wg_122_6 hG) ?_
    refine E_iload_n 2 dX5_hills_234 rfl rfl ?_
    refine E_aload_n 0 dX5_hills_235 rfl rfl ?_
    refine E_getr 5 6 122 33 129 dX5_hills_236 fl_RX5_29 rfl sh_122 (wg_122_6 hG) ?_
    refine E_iconst (4 : Int32) dX5_hills_239 rfl ?_
    refine E_iload_n 2 dX5_hills_240 rfl rfl ?_
    refine E_iadd dX5_hills_241 ?_
    have c10 := hy.1
    replace hy := hy.2
    refine E_awi 129 8 ((4 : Int32) + x2).toNatClampNeg (I 129 ((4 : Int32) + x2).toNatClampNeg) dX5_hills_242 sh_129 c10 rfl rfl ?_
    have c11 := hy.1
    replace hy := hy.2
    refine E_is 129 8 (x2).toNatClampNeg dX5_hills_243 sh_129 c11 rfl ?_
    refine E_aload_n 0 dX5_hills_244 rfl rfl ?_
    refine E_getr 5 7 122 33 130 dX5_hills_245 fl_RX5_32 rfl sh_122 (wg_122_7 hG) ?_
    refine E_iload_n 2 dX5_hills_248 rfl rfl ?_
    refine E_aload_n 0 dX5_hills_249 rfl rfl ?_
    refine E_getr 5 7 122 33 130 dX5_hills_250 fl_RX5_32 rfl sh_122 (wg_122_7 hG) ?_
    refine E_iconst (4 : Int32) dX5_hills_253 rfl ?_
    refine E_iload_n 2 dX5_hills_254 rfl rfl ?_
    refine E_iadd dX5_hills_255 ?_
    have c12 := hy.1
    replace hy := hy.2
    refine E_awi 130 8 ((4 : Int32) + x2).toNatClampNeg (I 130 ((4 : Int32) + x2).toNatClampNeg) dX5_hills_256 sh_130 c12 rfl rfl ?_
    have c13 := hy.1
    replace hy := hy.2
    refine E_is 130 8 (x2).toNatClampNeg dX5_hills_257 sh_130 c13 rfl ?_
    refine E_aload_n 0 dX5_hills_258 rfl rfl ?_
    refine E_getr 5 8 122 33 131 dX5_hills_259 fl_RX5_35 rfl sh_122 (wg_122_8 hG) ?_
    refine E_iload_n 2 dX5_hills_262 rfl rfl ?_
    refine E_aload_n 0 dX5_hills_263 rfl rfl ?_
    refine E_getr 5 8 122 33 131 dX5_hills_264 fl_RX5_35 rfl sh_122 (wg_122_8 hG) ?_
    refine E_iconst (4 : Int32) dX5_hills_267 rfl ?_
    refine E_iload_n 2 dX5_hills_268 rfl rfl ?_
    refine E_iadd dX5_hills_269 ?_
    have c14 := hy.1
    replace hy := hy.2
    refine E_awi 131 8 ((4 : Int32) + x2).toNatClampNeg (I 131 ((4 : Int32) + x2).toNatClampNeg) dX5_hills_270 sh_131 c14 rfl rfl ?_
    have c15 := hy.1
    replace hy := hy.2
    refine E_is 131 8 (x2).toNatClampNeg dX5_hills_271 sh_131 c15 rfl ?_
    refine E_iinc (x2 + (1 : Int32)) dX5_hills_272 rfl rfl (Nat.le_of_ble_eq_true rfl) (?_ : Ev (d + 1) mX5_hills 136 275 [some (.ref 122), some (.int x1), some (.int (x2 + (1 : Int32)))] [] 136 (u2 (u2 (u2 (u2 (u2 (u2 (u2 I 125 (x2).toNatClampNeg (I 125 ((4 : Int32) + x2).toNatClampNeg)) 126 (x2).toNatClampNeg (I 126 ((4 : Int32) + x2).toNatClampNeg)) 127 (x2).toNatClampNeg (I 127 ((4 : Int32) + x2).toNatClampNeg)) 128 (x2).toNatClampNeg (I 128 ((4 : Int32) + x2).toNatClampNeg)) 129 (x2).toNatClampNeg (I 129 ((4 : Int32) + x2).toNatClampNeg)) 130 (x2).toNatClampNeg (I 130 ((4 : Int32) + x2).toNatClampNeg)) 131 (x2).toNatClampNeg (I 131 ((4 : Int32) + x2).toNatClampNeg)) G J Φ)
    refine E_goto 169 dX5_hills_275 rfl ?_
    exact hy
set_option maxRecDepth 100000 in
theorem w_X5_hills_280 {d : Nat} {I : MI} {G : MG} {J : MJ} {Φ : Ph} (hG : WG G)  (x1 : Int32) (x2 : Int32) (hy : ((3 : Int32) ≤ x2 → Ev d mX5_begin 136 0 [some (.ref 122), none] [] 136 I G J (fun r n I2 G2 J2 => r = none ∧ n = 136 ∧ G = G2 ∧ J = J2 ∧ (Φ (some (.int x1)) 136 I2 G J))) ∧ (¬ (3 : Int32) ≤ x2 → vp_in ((3 : Int32) + x2) 6 ∧ (vp_in x2 6 ∧ (Ev (d + 1) mX5_hills 136 280 [some (.ref 122), some (.int x1), some (.int (x2 + (1 : Int32)))] [] 136 (u2 I 132 (x2).toNatClampNeg (I 132 ((3 : Int32) + x2).toNatClampNeg)) G J Φ)))) : Ev (d + 1) mX5_hills 136 280 [some (.ref 122), some (.int x1), some (.int x2)] [] 136 I G J Φ := by
  refine E_iload_n 2 dX5_hills_280 rfl rfl ?_
  refine E_iconst (3 : Int32) dX5_hills_281 rfl ?_
  refine E_icmp_ge 305 dX5_hills_282 rfl (fun h1 => ?_) (fun h1 => ?_)
  · replace hy := hy.1 h1
    refine E_aload_n 0 dX5_hills_305 rfl rfl ?_
    refine E_cv (M := mX5_hills) (pc := 306) (As := []) (st := []) mX5_begin 0 5 33 dX5_hills_306 lk_RX5_54 ⟨_, rfl, rfl⟩ sh_122 rfl (Nat.le_of_ble_eq_true rfl) ⟨rfl, rfl⟩ (Nat.le_of_ble_eq_true rfl) rfl hy ?_
    rintro r n I2 G2 J2 ⟨rfl, rfl, rfl, rfl, hy⟩
    show Ev (d + 1) mX5_hills 136 309 [some (.ref 122), some (.int x1), some (.int x2)] [] 136 I2 G J Φ
    refine E_iload_n 1 dX5_hills_309 rfl rfl ?_
    exact E_ri dX5_hills_310 rfl ⟨rfl, rfl⟩ hy
  · replace hy := hy.2 h1
    refine E_aload_n 0 dX5_hills_285 rfl rfl ?_
    refine E_getr 5 9 122 33 132 dX5_hills_286 fl_RX5_38 rfl sh_122 (wg_122_9 hG) ?_
    refine E_iload_n 2 dX5_hills_289 rfl rfl ?_
    refine E_aload_n 0 dX5_hills_290 rfl rfl ?_
    refine E_getr 5 9 122 33 132 dX5_hills_291 fl_RX5_38 rfl sh_122 (wg_122_9 hG) ?_
    refine E_iconst (3 : Int32) dX5_hills_294 rfl ?_
    refine E_iload_n 2 dX5_hills_295 rfl rfl ?_
    refine E_iadd dX5_hills_296 ?_
    have c3 := hy.1
    replace hy := hy.2
    refine E_ia 132 6 ((3 : Int32) + x2).toNatClampNeg dX5_hills_297 sh_132 c3 rfl ?_
    have c4 := hy.1
    replace hy := hy.2
    refine E_is 132 6 (x2).toNatClampNeg dX5_hills_298 sh_132 c4 rfl ?_
    refine E_iinc (x2 + (1 : Int32)) dX5_hills_299 rfl rfl (Nat.le_of_ble_eq_true rfl) (?_ : Ev (d + 1) mX5_hills 136 302 [some (.ref 122), some (.int x1), some (.int (x2 + (1 : Int32)))] [] 136 (u2 I 132 (x2).toNatClampNeg (I 132 ((3 : Int32) + x2).toNatClampNeg)) G J Φ)
    refine E_goto 280 dX5_hills_302 rfl ?_
    exact hy
set_option maxRecDepth 100000 in
theorem w_X5_hollowRate {d : Nat} {I : MI} {G : MG} {J : MJ} {Φ : Ph} (hG : WG G) (x1 : Int32) (hy : Ev (d + 1) mX5_hollowRate 136 16 [some (.ref 122), some (.int x1), some (.int (0 : Int32)), some (.int (0 : Int32))] [] 136 I G (u2 J 122 32 ((J 122 32) + (100000 : Int64))) Φ) : Ev (d + 1) mX5_hollowRate 136 0 [some (.ref 122), some (.int x1), none, none] [] 136 I G J Φ := by
  refine E_aload_n 0 dX5_hollowRate_0 rfl rfl ?_
  refine E_dup dX5_hollowRate_1 rfl ?_
  refine E_getl 5 32 122 33 dX5_hollowRate_2 fl_RX5_234 rfl sh_122 ?_
  refine E_ldc2 (100000 : Int64) dX5_hollowRate_5 cl_RX5_253 ?_
  refine E_ladd dX5_hollowRate_8 ?_
  refine E_putl 5 32 122 33 dX5_hollowRate_9 fl_RX5_234 rfl sh_122 ⟨_, rfl, rfl⟩ rfl rfl ?_
  refine E_iconst (0 : Int32) dX5_hollowRate_12 rfl ?_
  refine E_istore_n 2 dX5_hollowRate_13 rfl (Nat.le_of_ble_eq_true rfl) (?_ : Ev (d + 1) mX5_hollowRate 136 14 [some (.ref 122), some (.int x1), some (.int (0 : Int32)), none] [] 136 I G (u2 J 122 32 ((J 122 32) + (100000 : Int64))) Φ)
  refine E_iconst (0 : Int32) dX5_hollowRate_14 rfl ?_
  refine E_istore_n 3 dX5_hollowRate_15 rfl (Nat.le_of_ble_eq_true rfl) (?_ : Ev (d + 1) mX5_hollowRate 136 16 [some (.ref 122), some (.int x1), some (.int (0 : Int32)), some (.int (0 : Int32))] [] 136 I G (u2 J 122 32 ((J 122 32) + (100000 : Int64))) Φ)
  exact hy
set_option maxRecDepth 100000 in
theorem w_X5_hollowRate_16 {d : Nat} {I : MI} {G : MG} {J : MJ} {Φ : Ph} (hG : WG G)  (x1 : Int32) (x2 : Int32) (x3 : Int32) (hy : ((I 122 12) ≤ x3 → Ev d mX5_stoneRate 136 0 [some (.ref 122), some (.int x1)] [] 136 I G J (fun r n I2 G2 J2 => ∃ v2 : Int32, r = some (.int v2) ∧ n = 136 ∧ I = I2 ∧ G = G2 ∧ (Φ (some (.int (v2 + x2))) 136 I G J2))) ∧ (¬ (I 122 12) ≤ x3 → vp_in ((11 : Int32) + x3) 1400 ∧ ((¬ (I 123 ((11 : Int32) + x3).toNatClampNeg) = x1 → Ev d mX5_one 136 0 [some (.int (0 : Int32))] [] 136 I G J (fun r n I5 G5 J5 => ∃ v5 : Int32, r = some (.int v5) ∧ n = 136 ∧ I = I5 ∧ G = G5 ∧ J = J5 ∧ (Ev (d + 1) mX5_hollowRate 136 16 [some (.ref 122), some (.int x1), some (.int (x2 + v5)), some (.int (x3 + (1 : Int32)))] [] 136 I G J Φ))) ∧ ((I 123 ((11 : Int32) + x3).toNatClampNeg) = x1 → Ev d mX5_one 136 0 [some (.int (1 : Int32))] [] 136 I G J (fun r n I6 G6 J6 => ∃ v6 : Int32, r = some (.int v6) ∧ n = 136 ∧ I = I6 ∧ G = G6 ∧ J = J6 ∧ (Ev (d + 1) mX5_hollowRate 136 16 [some (.ref 122), some (.int x1), some (.int (x2 + v6)), some (.int (x3 + (1 : Int32)))] [] 136 I G J Φ)))))) : Ev (d + 1) mX5_hollowRate 136 16 [some (.ref 122), some (.int x1), some (.int x2), some (.int x3)] [] 136 I G J Φ := by
  refine E_iload_n 3 dX5_hollowRate_16 rfl rfl ?_
  refine E_aload_n 0 dX5_hollowRate_17 rfl rfl ?_
  refine E_geti 5 12 122 33 dX5_hollowRate_18 fl_RX5_137 rfl sh_122 ?_
  refine E_icmp_ge 54 dX5_hollowRate_21 rfl (fun h1 => ?_) (fun h1 => ?_)
  · replace hy := hy.1 h1
    refine E_aload_n 0 dX5_hollowRate_54 rfl rfl ?_
    refine E_iload_n 1 dX5_hollowRate_55 rfl rfl ?_
    refine E_cv (M := mX5_hollowRate) (pc := 56) (As := [.int x1]) (st := []) mX5_stoneRate 1 5 33 dX5_hollowRate_56 lk_RX5_238 ⟨_, rfl, rfl⟩ sh_122 rfl (Nat.le_of_ble_eq_true rfl) ⟨rfl, rfl⟩ (Nat.le_of_ble_eq_true rfl) rfl hy ?_
    rintro r n I2 G2 J2 ⟨v2, rfl, rfl, rfl, rfl, hy⟩
    show Ev (d + 1) mX5_hollowRate 136 59 [some (.ref 122), some (.int x1), some (.int x2), some (.int x3)] [.int v2] 136 I G J2 Φ
    refine E_iload_n 2 dX5_hollowRate_59 rfl rfl ?_
    refine E_iadd dX5_hollowRate_60 ?_
    exact E_ri dX5_hollowRate_61 rfl ⟨rfl, rfl⟩ hy
  · replace hy := hy.2 h1
    refine E_iload_n 2 dX5_hollowRate_24 rfl rfl ?_
    refine E_aload_n 0 dX5_hollowRate_25 rfl rfl ?_
    refine E_getr 5 0 122 33 123 dX5_hollowRate_26 fl_RX5_7 rfl sh_122 (wg_122_0 hG) ?_
    refine E_bipush (11 : Int32) dX5_hollowRate_29 rfl ?_
    refine E_iload_n 3 dX5_hollowRate_31 rfl rfl ?_
    refine E_iadd dX5_hollowRate_32 ?_
    have c3 := hy.1
    replace hy := hy.2
    refine E_ia 123 1400 ((11 : Int32) + x3).toNatClampNeg dX5_hollowRate_33 sh_123 c3 rfl ?_
    refine E_iload_n 1 dX5_hollowRate_34 rfl rfl ?_
    refine E_icmp_ne 42 dX5_hollowRate_35 rfl (fun h4 => ?_) (fun h4 => ?_)
    · replace hy := hy.1 h4
      refine E_iconst (0 : Int32) dX5_hollowRate_42 rfl ?_
      refine E_cs (M := mX5_hollowRate) (pc := 43) (As := [.int (0 : Int32)]) (st := [.int x2]) mX5_one 1 dX5_hollowRate_43 lk_RX5_161 rfl (Nat.le_of_ble_eq_true rfl) ⟨rfl, rfl⟩ (Nat.le_of_ble_eq_true rfl) rfl hy ?_
      rintro r n I5 G5 J5 ⟨v5, rfl, rfl, rfl, rfl, rfl, hy⟩
      show Ev (d + 1) mX5_hollowRate 136 46 [some (.ref 122), some (.int x1), some (.int x2), some (.int x3)] [.int v5, .int x2] 136 I G J Φ
      refine E_iadd dX5_hollowRate_46 ?_
      refine E_istore_n 2 dX5_hollowRate_47 rfl (Nat.le_of_ble_eq_true rfl) (?_ : Ev (d + 1) mX5_hollowRate 136 48 [some (.ref 122), some (.int x1), some (.int (x2 + v5)), some (.int x3)] [] 136 I G J Φ)
      refine E_iinc (x3 + (1 : Int32)) dX5_hollowRate_48 rfl rfl (Nat.le_of_ble_eq_true rfl) (?_ : Ev (d + 1) mX5_hollowRate 136 51 [some (.ref 122), some (.int x1), some (.int (x2 + v5)), some (.int (x3 + (1 : Int32)))] [] 136 I G J Φ)
      refine E_goto 16 dX5_hollowRate_51 rfl ?_
      exact hy
    · replace hy := hy.2 (Decidable.not_not.mp h4)
      refine E_iconst (1 : Int32) dX5_hollowRate_38 rfl ?_
      refine E_goto 43 dX5_hollowRate_39 rfl ?_
      refine E_cs (M := mX5_hollowRate) (pc := 43) (As := [.int (1 : Int32)]) (st := [.int x2]) mX5_one 1 dX5_hollowRate_43 lk_RX5_161 rfl (Nat.le_of_ble_eq_true rfl) ⟨rfl, rfl⟩ (Nat.le_of_ble_eq_true rfl) rfl hy ?_
      rintro r n I6 G6 J6 ⟨v6, rfl, rfl, rfl, rfl, rfl, hy⟩
      show Ev (d + 1) mX5_hollowRate 136 46 [some (.ref 122), some (.int x1), some (.int x2), some (.int x3)] [.int v6, .int x2] 136 I G J Φ
      refine E_iadd dX5_hollowRate_46 ?_
      refine E_istore_n 2 dX5_hollowRate_47 rfl (Nat.le_of_ble_eq_true rfl) (?_ : Ev (d + 1) mX5_hollowRate 136 48 [some (.ref 122), some (.int x1), some (.int (x2 + v6)), some (.int x3)] [] 136 I G J Φ)
      refine E_iinc (x3 + (1 : Int32)) dX5_hollowRate_48 rfl rfl (Nat.le_of_ble_eq_true rfl) (?_ : Ev (d + 1) mX5_hollowRate 136 51 [some (.ref 122), some (.int x1), some (.int (x2 + v6)), some (.int (x3 + (1 : Int32)))] [] 136 I G J Φ)
      refine E_goto 16 dX5_hollowRate_51 rfl ?_
      exact hy
set_option maxRecDepth 100000 in
theorem w_X5_hour {d : Nat} {I : MI} {G : MG} {J : MJ} {Φ : Ph} (hG : WG G)  (hy : (¬ (I 123 14) = (99 : Int32) → Ev d mX5_remember 136 0 [some (.ref 122), none] [] 136 I G J (fun r n I2 G2 J2 => r = none ∧ n = 136 ∧ G = G2 ∧ J = J2 ∧ (Ev d mX5_push 136 0 [some (.ref 122), some (.int (0 : Int32)), none, none, none, none] [] 136 I2 G J (fun r n I3 G3 J3 => ∃ v3 : Int32, r = some (.int v3) ∧ n = 136 ∧ G = G3 ∧ J = J3 ∧ ((¬ ((I3 123 15) + (1 : Int32)) = (I3 122 13) → Φ (some (.int v3)) 136 (u2 I3 123 15 ((I3 123 15) + (1 : Int32))) G J) ∧ (((I3 123 15) + (1 : Int32)) = (I3 122 13) → Ev d mX5_rainsOn 136 0 [some (.ref 122), some (.int (I3 123 14))] [] 136 (u2 I3 123 15 ((I3 123 15) + (1 : Int32))) G J (fun r n I5 G5 J5 => ∃ v5 : Int32, r = some (.int v5) ∧ n = 136 ∧ (u2 I3 123 15 ((I3 123 15) + (1 : Int32))) = I5 ∧ G = G5 ∧ J = J5 ∧ (Ev d mX5_dusk 136 0 [some (.ref 122), some (.int (0 : Int32)), some (.int v5), none, none] [] 136 (u2 I3 123 15 ((I3 123 15) + (1 : Int32))) G J (fun r n I6 G6 J6 => r = none ∧ n = 136 ∧ G = G6 ∧ J = J6 ∧ (Φ (some (.int v3)) 136 I6 G J)))))))))) ∧ ((I 123 14) = (99 : Int32) → Φ (some (.int (-2 : Int32))) 136 I G J)) : Ev (d + 1) mX5_hour 136 0 [some (.ref 122), none] [] 136 I G J Φ := by
  refine E_aload_n 0 dX5_hour_0 rfl rfl ?_
  refine E_getr 5 0 122 33 123 dX5_hour_1 fl_RX5_7 rfl sh_122 (wg_122_0 hG) ?_
  refine E_bipush (14 : Int32) dX5_hour_4 rfl ?_
  refine E_ia 123 1400 14 dX5_hour_6 sh_123 (vpd (by decide)) rfl ?_
  refine E_bipush (99 : Int32) dX5_hour_7 rfl ?_
  refine E_icmp_ne 15 dX5_hour_9 rfl (fun h1 => ?_) (fun h1 => ?_)
  · replace hy := hy.1 h1
    refine E_aload_n 0 dX5_hour_15 rfl rfl ?_
    refine E_cv (M := mX5_hour) (pc := 16) (As := []) (st := []) mX5_remember 0 5 33 dX5_hour_16 lk_RX5_176 ⟨_, rfl, rfl⟩ sh_122 rfl (Nat.le_of_ble_eq_true rfl) ⟨rfl, rfl⟩ (Nat.le_of_ble_eq_true rfl) rfl hy ?_
    rintro r n I2 G2 J2 ⟨rfl, rfl, rfl, rfl, hy⟩
    show Ev (d + 1) mX5_hour 136 19 [some (.ref 122), none] [] 136 I2 G J Φ
    refine E_aload_n 0 dX5_hour_19 rfl rfl ?_
    refine E_iconst (0 : Int32) dX5_hour_20 rfl ?_
    refine E_cv (M := mX5_hour) (pc := 21) (As := [.int (0 : Int32)]) (st := []) mX5_push 1 5 33 dX5_hour_21 lk_RX5_193 ⟨_, rfl, rfl⟩ sh_122 rfl (Nat.le_of_ble_eq_true rfl) ⟨rfl, rfl⟩ (Nat.le_of_ble_eq_true rfl) rfl hy ?_
    rintro r n I3 G3 J3 ⟨v3, rfl, rfl, rfl, rfl, hy⟩
    show Ev (d + 1) mX5_hour 136 24 [some (.ref 122), none] [.int v3] 136 I3 G J Φ
    refine E_istore_n 1 dX5_hour_24 rfl (Nat.le_of_ble_eq_true rfl) (?_ : Ev (d + 1) mX5_hour 136 25 [some (.ref 122), some (.int v3)] [] 136 I3 G J Φ)
    refine E_aload_n 0 dX5_hour_25 rfl rfl ?_
    refine E_getr 5 0 122 33 123 dX5_hour_26 fl_RX5_7 rfl sh_122 (wg_122_0 hG) ?_
    refine E_bipush (15 : Int32) dX5_hour_29 rfl ?_
    refine E_dup2 dX5_hour_31 rfl rfl ?_
    refine E_ia 123 1400 15 dX5_hour_32 sh_123 (vpd (by decide)) rfl ?_
    refine E_iconst (1 : Int32) dX5_hour_33 rfl ?_
    refine E_iadd dX5_hour_34 ?_
    refine E_is 123 1400 15 dX5_hour_35 sh_123 (vpd (by decide)) rfl ?_
    refine E_aload_n 0 dX5_hour_36 rfl rfl ?_
    refine E_getr 5 0 122 33 123 dX5_hour_37 fl_RX5_7 rfl sh_122 (wg_122_0 hG) ?_
    refine E_bipush (15 : Int32) dX5_hour_40 rfl ?_
    refine E_awi 123 1400 15 ((I3 123 15) + (1 : Int32)) dX5_hour_42 sh_123 (vpd (by decide)) rfl rfl ?_
    refine E_aload_n 0 dX5_hour_43 rfl rfl ?_
    refine E_getw 5 13 122 33 (I3 122 13) dX5_hour_44 fl_RX5_50 rfl sh_122 rfl ?_
    refine E_icmp_ne 66 dX5_hour_47 rfl (fun h4 => ?_) (fun h4 => ?_)
    · replace hy := hy.1 h4
      refine E_iload_n 1 dX5_hour_66 rfl rfl ?_
      exact E_ri dX5_hour_67 rfl ⟨rfl, rfl⟩ hy
    · replace hy := hy.2 (Decidable.not_not.mp h4)
      refine E_aload_n 0 dX5_hour_50 rfl rfl ?_
      refine E_iconst (0 : Int32) dX5_hour_51 rfl ?_
      refine E_aload_n 0 dX5_hour_52 rfl rfl ?_
      refine E_aload_n 0 dX5_hour_53 rfl rfl ?_
      refine E_getr 5 0 122 33 123 dX5_hour_54 fl_RX5_7 rfl sh_122 (wg_122_0 hG) ?_
      refine E_bipush (14 : Int32) dX5_hour_57 rfl ?_
      refine E_awi 123 1400 14 (I3 123 14) dX5_hour_59 sh_123 (vpd (by decide)) rfl rfl ?_
      refine E_cv (M := mX5_hour) (pc := 60) (As := [.int (I3 123 14)]) (st := [.int (0 : Int32), .ref 122]) mX5_rainsOn 1 5 33 dX5_hour_60 lk_RX5_196 ⟨_, rfl, rfl⟩ sh_122 rfl (Nat.le_of_ble_eq_true rfl) ⟨rfl, rfl⟩ (Nat.le_of_ble_eq_true rfl) rfl hy ?_
      rintro r n I5 G5 J5 ⟨v5, rfl, rfl, rfl, rfl, rfl, hy⟩
      show Ev (d + 1) mX5_hour 136 63 [some (.ref 122), some (.int v3)] [.int v5, .int (0 : Int32), .ref 122] 136 (u2 I3 123 15 ((I3 123 15) + (1 : Int32))) G J Φ
      refine E_cv (M := mX5_hour) (pc := 63) (As := [.int (0 : Int32), .int v5]) (st := []) mX5_dusk 2 5 33 dX5_hour_63 lk_RX5_199 ⟨_, rfl, rfl⟩ sh_122 rfl (Nat.le_of_ble_eq_true rfl) ⟨rfl, rfl⟩ (Nat.le_of_ble_eq_true rfl) rfl hy ?_
      rintro r n I6 G6 J6 ⟨rfl, rfl, rfl, rfl, hy⟩
      show Ev (d + 1) mX5_hour 136 66 [some (.ref 122), some (.int v3)] [] 136 I6 G J Φ
      refine E_iload_n 1 dX5_hour_66 rfl rfl ?_
      exact E_ri dX5_hour_67 rfl ⟨rfl, rfl⟩ hy
  · replace hy := hy.2 (Decidable.not_not.mp h1)
    refine E_bipush (-2 : Int32) dX5_hour_12 rfl ?_
    exact E_ri dX5_hour_14 rfl ⟨rfl, rfl⟩ hy
set_option maxRecDepth 100000 in
theorem w_X5_in {d : Nat} {I : MI} {G : MG} {J : MJ} {Φ : Ph} (hG : WG G) (x0 : Int64) (x2 : Int64) (x4 : Int64) (hy : ((lg_cmp x0 x2) < 0 → Φ (some (.int (0 : Int32))) 136 I G J) ∧ (¬ (lg_cmp x0 x2) < 0 → (0 < (lg_cmp x0 x4) → Φ (some (.int (0 : Int32))) 136 I G J) ∧ (¬ 0 < (lg_cmp x0 x4) → Φ (some (.int (1 : Int32))) 136 I G J))) : Ev d mX5_in 136 0 [some (.long x0), none, some (.long x2), none, some (.long x4), none] [] 136 I G J Φ := by
  refine E_lload_n 0 dX5_in_0 rfl rfl ?_
  refine E_lload_n 2 dX5_in_1 rfl rfl ?_
  refine E_lcmp dX5_in_2 ?_
  refine E_if_lt 17 dX5_in_3 rfl (fun h1 => ?_) (fun h1 => ?_)
  · replace hy := hy.1 h1
    refine E_iconst (0 : Int32) dX5_in_17 rfl ?_
    exact E_rz dX5_in_18 rfl rfl ⟨rfl, rfl⟩ hy
  · replace hy := hy.2 h1
    refine E_lload_n 0 dX5_in_6 rfl rfl ?_
    refine E_lload dX5_in_7 rfl ?_
    refine E_lcmp dX5_in_9 ?_
    refine E_if_gt 17 dX5_in_10 rfl (fun h2 => ?_) (fun h2 => ?_)
    · replace hy := hy.1 h2
      refine E_iconst (0 : Int32) dX5_in_17 rfl ?_
      exact E_rz dX5_in_18 rfl rfl ⟨rfl, rfl⟩ hy
    · replace hy := hy.2 h2
      refine E_iconst (1 : Int32) dX5_in_13 rfl ?_
      refine E_goto 18 dX5_in_14 rfl ?_
      exact E_rz dX5_in_18 rfl rfl ⟨rfl, rfl⟩ hy
set_option maxRecDepth 100000 in
theorem w_X5_isCode {d : Nat} {I : MI} {G : MG} {J : MJ} {Φ : Ph} (hG : WG G) (x1 : Int32) (x2 : Int32) (hy : Ev d mX5_isCode 136 5 [some (.ref 122), some (.int x1), some (.int x2), some (.int (1 : Int32)), some (.int (0 : Int32))] [] 136 I G J Φ) : Ev d mX5_isCode 136 0 [some (.ref 122), some (.int x1), some (.int x2), none, none] [] 136 I G J Φ := by
  refine E_iconst (1 : Int32) dX5_isCode_0 rfl ?_
  refine E_istore_n 3 dX5_isCode_1 rfl (Nat.le_of_ble_eq_true rfl) (?_ : Ev d mX5_isCode 136 2 [some (.ref 122), some (.int x1), some (.int x2), some (.int (1 : Int32)), none] [] 136 I G J Φ)
  refine E_iconst (0 : Int32) dX5_isCode_2 rfl ?_
  refine E_istore dX5_isCode_3 (Nat.le_of_ble_eq_true rfl) (?_ : Ev d mX5_isCode 136 5 [some (.ref 122), some (.int x1), some (.int x2), some (.int (1 : Int32)), some (.int (0 : Int32))] [] 136 I G J Φ)
  exact hy
set_option maxRecDepth 100000 in
theorem w_X5_isCode_5 {d : Nat} {I : MI} {G : MG} {J : MJ} {Φ : Ph} (hG : WG G)  (x1 : Int32) (x2 : Int32) (x3 : Int32) (x4 : Int32) (hy : (x2 ≤ x4 → narrow .boolean (.int x3) = .int x3 ∧ (Φ (some (.int x3)) 136 I G J)) ∧ (¬ x2 ≤ x4 → (x3 = 0 → narrow .boolean (.int x3) = .int x3 ∧ (Φ (some (.int x3)) 136 I G J)) ∧ (¬ x3 = 0 → (((1 : Int32) <<< ((I 122 12) &&& 31)) ≤ ((x1 >>> (((3 : Int32) * x4) &&& 31)) &&& (7 : Int32)) → Ev d mX5_isCode 136 5 [some (.ref 122), some (.int x1), some (.int x2), some (.int (0 : Int32)), some (.int (x4 + (1 : Int32)))] [] 136 I G J Φ) ∧ (¬ ((1 : Int32) <<< ((I 122 12) &&& 31)) ≤ ((x1 >>> (((3 : Int32) * x4) &&& 31)) &&& (7 : Int32)) → Ev d mX5_isCode 136 5 [some (.ref 122), some (.int x1), some (.int x2), some (.int (1 : Int32)), some (.int (x4 + (1 : Int32)))] [] 136 I G J Φ)))) : Ev d mX5_isCode 136 5 [some (.ref 122), some (.int x1), some (.int x2), some (.int x3), some (.int x4)] [] 136 I G J Φ := by
  refine E_iload dX5_isCode_5 rfl ?_
  refine E_iload_n 2 dX5_isCode_7 rfl rfl ?_
  refine E_icmp_ge 45 dX5_isCode_8 rfl (fun h1 => ?_) (fun h1 => ?_)
  · replace hy := hy.1 h1
    refine E_iload_n 3 dX5_isCode_45 rfl rfl ?_
    have c2 := hy.1
    replace hy := hy.2
    exact E_rz dX5_isCode_46 rfl c2 ⟨rfl, rfl⟩ hy
  · replace hy := hy.2 h1
    refine E_iload_n 3 dX5_isCode_11 rfl rfl ?_
    refine E_if_eq 45 dX5_isCode_12 rfl (fun h3 => ?_) (fun h3 => ?_)
    · replace hy := hy.1 h3
      refine E_iload_n 3 dX5_isCode_45 rfl rfl ?_
      have c4 := hy.1
      replace hy := hy.2
      exact E_rz dX5_isCode_46 rfl c4 ⟨rfl, rfl⟩ hy
    · replace hy := hy.2 h3
      refine E_iload_n 1 dX5_isCode_15 rfl rfl ?_
      refine E_iconst (3 : Int32) dX5_isCode_16 rfl ?_
      refine E_iload dX5_isCode_17 rfl ?_
      refine E_imul dX5_isCode_19 ?_
      refine E_ishr dX5_isCode_20 ?_
      refine E_bipush (7 : Int32) dX5_isCode_21 rfl ?_
      refine E_iand dX5_isCode_23 ?_
      refine E_iconst (1 : Int32) dX5_isCode_24 rfl ?_
      refine E_aload_n 0 dX5_isCode_25 rfl rfl ?_
      refine E_geti 5 12 122 33 dX5_isCode_26 fl_RX5_137 rfl sh_122 ?_
      refine E_ishl dX5_isCode_29 ?_
      refine E_icmp_ge 37 dX5_isCode_30 rfl (fun h5 => ?_) (fun h5 => ?_)
      · replace hy := hy.1 h5
        refine E_iconst (0 : Int32) dX5_isCode_37 rfl ?_
        refine E_istore_n 3 dX5_isCode_38 rfl (Nat.le_of_ble_eq_true rfl) (?_ : Ev d mX5_isCode 136 39 [some (.ref 122), some (.int x1), some (.int x2), some (.int (0 : Int32)), some (.int x4)] [] 136 I G J Φ)
        refine E_iinc (x4 + (1 : Int32)) dX5_isCode_39 rfl rfl (Nat.le_of_ble_eq_true rfl) (?_ : Ev d mX5_isCode 136 42 [some (.ref 122), some (.int x1), some (.int x2), some (.int (0 : Int32)), some (.int (x4 + (1 : Int32)))] [] 136 I G J Φ)
        refine E_goto 5 dX5_isCode_42 rfl ?_
        exact hy
      · replace hy := hy.2 h5
        refine E_iconst (1 : Int32) dX5_isCode_33 rfl ?_
        refine E_goto 38 dX5_isCode_34 rfl ?_
        refine E_istore_n 3 dX5_isCode_38 rfl (Nat.le_of_ble_eq_true rfl) (?_ : Ev d mX5_isCode 136 39 [some (.ref 122), some (.int x1), some (.int x2), some (.int (1 : Int32)), some (.int x4)] [] 136 I G J Φ)
        refine E_iinc (x4 + (1 : Int32)) dX5_isCode_39 rfl rfl (Nat.le_of_ble_eq_true rfl) (?_ : Ev d mX5_isCode 136 42 [some (.ref 122), some (.int x1), some (.int x2), some (.int (1 : Int32)), some (.int (x4 + (1 : Int32)))] [] 136 I G J Φ)
        refine E_goto 5 dX5_isCode_42 rfl ?_
        exact hy
set_option maxRecDepth 100000 in
theorem w_X5_isFigure {d : Nat} {I : MI} {G : MG} {J : MJ} {Φ : Ph} (hG : WG G) (x0 : Int32) (hy : Ev d mX5_in 136 0 [some (.long (x0.toInt64)), none, some (.long (48 : Int64)), none, some (.long (57 : Int64)), none] [] 136 I G J (fun r n I1 G1 J1 => ∃ v1 : Int32, r = some (.int v1) ∧ n = 136 ∧ I = I1 ∧ G = G1 ∧ J = J1 ∧ (narrow .boolean (.int v1) = .int v1 ∧ (Φ (some (.int v1)) 136 I G J)))) : Ev (d + 1) mX5_isFigure 136 0 [some (.int x0)] [] 136 I G J Φ := by
  refine E_iload_n 0 dX5_isFigure_0 rfl rfl ?_
  refine E_i2l dX5_isFigure_1 ?_
  refine E_ldc2 (48 : Int64) dX5_isFigure_2 cl_RX5_66 ?_
  refine E_ldc2 (57 : Int64) dX5_isFigure_5 cl_RX5_68 ?_
  refine E_cs (M := mX5_isFigure) (pc := 8) (As := [.long (x0.toInt64), .long (48 : Int64), .long (57 : Int64)]) (st := []) mX5_in 3 dX5_isFigure_8 lk_RX5_59 rfl (Nat.le_of_ble_eq_true rfl) ⟨rfl, rfl⟩ (Nat.le_of_ble_eq_true rfl) rfl hy ?_
  rintro r n I1 G1 J1 ⟨v1, rfl, rfl, rfl, rfl, rfl, hy⟩
  show Ev (d + 1) mX5_isFigure 136 11 [some (.int x0)] [.int v1] 136 I G J Φ
  have c2 := hy.1
  replace hy := hy.2
  exact E_rz dX5_isFigure_11 rfl c2 ⟨rfl, rfl⟩ hy
set_option maxRecDepth 100000 in
theorem w_X5_isHill {d : Nat} {I : MI} {G : MG} {J : MJ} {Φ : Ph} (hG : WG G) (x1 : Int32) (hy : Ev d mX5_in 136 0 [some (.long (x1.toInt64)), none, some (.long (0 : Int64)), none, some (.long (((I 122 10) - (1 : Int32)).toInt64)), none] [] 136 I G J (fun r n I1 G1 J1 => ∃ v1 : Int32, r = some (.int v1) ∧ n = 136 ∧ I = I1 ∧ G = G1 ∧ J = J1 ∧ (narrow .boolean (.int v1) = .int v1 ∧ (Φ (some (.int v1)) 136 I G J)))) : Ev (d + 1) mX5_isHill 136 0 [some (.ref 122), some (.int x1)] [] 136 I G J Φ := by
  refine E_iload_n 1 dX5_isHill_0 rfl rfl ?_
  refine E_i2l dX5_isHill_1 ?_
  refine E_lconst (0 : Int64) dX5_isHill_2 rfl ?_
  refine E_aload_n 0 dX5_isHill_3 rfl rfl ?_
  refine E_geti 5 10 122 33 dX5_isHill_4 fl_RX5_131 rfl sh_122 ?_
  refine E_iconst (1 : Int32) dX5_isHill_7 rfl ?_
  refine E_isub dX5_isHill_8 ?_
  refine E_i2l dX5_isHill_9 ?_
  refine E_cs (M := mX5_isHill) (pc := 10) (As := [.long (x1.toInt64), .long (0 : Int64), .long (((I 122 10) - (1 : Int32)).toInt64)]) (st := []) mX5_in 3 dX5_isHill_10 lk_RX5_59 rfl (Nat.le_of_ble_eq_true rfl) ⟨rfl, rfl⟩ (Nat.le_of_ble_eq_true rfl) rfl hy ?_
  rintro r n I1 G1 J1 ⟨v1, rfl, rfl, rfl, rfl, rfl, hy⟩
  show Ev (d + 1) mX5_isHill 136 13 [some (.ref 122), some (.int x1)] [.int v1] 136 I G J Φ
  have c2 := hy.1
  replace hy := hy.2
  exact E_rz dX5_isHill_13 rfl c2 ⟨rfl, rfl⟩ hy
set_option maxRecDepth 100000 in
theorem w_X5_isMan {d : Nat} {I : MI} {G : MG} {J : MJ} {Φ : Ph} (hG : WG G) (x1 : Int32) (hy : Ev d mX5_in 136 0 [some (.long (x1.toInt64)), none, some (.long (0 : Int64)), none, some (.long (((I 122 12) - (1 : Int32)).toInt64)), none] [] 136 I G J (fun r n I1 G1 J1 => ∃ v1 : Int32, r = some (.int v1) ∧ n = 136 ∧ I = I1 ∧ G = G1 ∧ J = J1 ∧ (narrow .boolean (.int v1) = .int v1 ∧ (Φ (some (.int v1)) 136 I G J)))) : Ev (d + 1) mX5_isMan 136 0 [some (.ref 122), some (.int x1)] [] 136 I G J Φ := by
  refine E_iload_n 1 dX5_isMan_0 rfl rfl ?_
  refine E_i2l dX5_isMan_1 ?_
  refine E_lconst (0 : Int64) dX5_isMan_2 rfl ?_
  refine E_aload_n 0 dX5_isMan_3 rfl rfl ?_
  refine E_geti 5 12 122 33 dX5_isMan_4 fl_RX5_137 rfl sh_122 ?_
  refine E_iconst (1 : Int32) dX5_isMan_7 rfl ?_
  refine E_isub dX5_isMan_8 ?_
  refine E_i2l dX5_isMan_9 ?_
  refine E_cs (M := mX5_isMan) (pc := 10) (As := [.long (x1.toInt64), .long (0 : Int64), .long (((I 122 12) - (1 : Int32)).toInt64)]) (st := []) mX5_in 3 dX5_isMan_10 lk_RX5_59 rfl (Nat.le_of_ble_eq_true rfl) ⟨rfl, rfl⟩ (Nat.le_of_ble_eq_true rfl) rfl hy ?_
  rintro r n I1 G1 J1 ⟨v1, rfl, rfl, rfl, rfl, rfl, hy⟩
  show Ev (d + 1) mX5_isMan 136 13 [some (.ref 122), some (.int x1)] [.int v1] 136 I G J Φ
  have c2 := hy.1
  replace hy := hy.2
  exact E_rz dX5_isMan_13 rfl c2 ⟨rfl, rfl⟩ hy
set_option maxRecDepth 100000 in
theorem w_X5_isOver {d : Nat} {I : MI} {G : MG} {J : MJ} {Φ : Ph} (hG : WG G) (x1 : Int32) (x2 : Int32) (hy : vp_in (x1 + x2) 1400 ∧ (vp_in x2 8 ∧ ((¬ (I 123 (x1 + x2).toNatClampNeg) = (I 125 (x2).toNatClampNeg) → Φ (some (.int (0 : Int32))) 136 I G J) ∧ ((I 123 (x1 + x2).toNatClampNeg) = (I 125 (x2).toNatClampNeg) → Φ (some (.int (1 : Int32))) 136 I G J)))) : Ev d mX5_isOver 136 0 [some (.ref 122), some (.int x1), some (.int x2)] [] 136 I G J Φ := by
  refine E_aload_n 0 dX5_isOver_0 rfl rfl ?_
  refine E_getr 5 0 122 33 123 dX5_isOver_1 fl_RX5_7 rfl sh_122 (wg_122_0 hG) ?_
  refine E_iload_n 1 dX5_isOver_4 rfl rfl ?_
  refine E_iload_n 2 dX5_isOver_5 rfl rfl ?_
  refine E_iadd dX5_isOver_6 ?_
  have c1 := hy.1
  replace hy := hy.2
  refine E_ia 123 1400 (x1 + x2).toNatClampNeg dX5_isOver_7 sh_123 c1 rfl ?_
  refine E_aload_n 0 dX5_isOver_8 rfl rfl ?_
  refine E_getr 5 2 122 33 125 dX5_isOver_9 fl_RX5_17 rfl sh_122 (wg_122_2 hG) ?_
  refine E_iload_n 2 dX5_isOver_12 rfl rfl ?_
  have c2 := hy.1
  replace hy := hy.2
  refine E_ia 125 8 (x2).toNatClampNeg dX5_isOver_13 sh_125 c2 rfl ?_
  refine E_icmp_ne 21 dX5_isOver_14 rfl (fun h3 => ?_) (fun h3 => ?_)
  · replace hy := hy.1 h3
    refine E_iconst (0 : Int32) dX5_isOver_21 rfl ?_
    exact E_rz dX5_isOver_22 rfl rfl ⟨rfl, rfl⟩ hy
  · replace hy := hy.2 (Decidable.not_not.mp h3)
    refine E_iconst (1 : Int32) dX5_isOver_17 rfl ?_
    refine E_goto 22 dX5_isOver_18 rfl ?_
    exact E_rz dX5_isOver_22 rfl rfl ⟨rfl, rfl⟩ hy
set_option maxRecDepth 100000 in
theorem w_X5_isOverBy {d : Nat} {I : MI} {G : MG} {J : MJ} {Φ : Ph} (hG : WG G) (x1 : Int32) (x2 : Int32) (hy : Ev d mX5_copy 136 0 [some (.ref 122), some (.int (0 : Int32)), some (.int (100 : Int32)), none] [] 136 I G J (fun r n I1 G1 J1 => r = none ∧ n = 136 ∧ G = G1 ∧ J = J1 ∧ (Ev d mX5_orderAll 136 0 [some (.ref 122), some (.int (100 : Int32)), some (.int x1), some (.int (7 : Int32)), none] [] 136 I1 G J (fun r n I2 G2 J2 => r = none ∧ n = 136 ∧ G = G2 ∧ J = J2 ∧ (Ev (d + 1) mX5_isOverBy 136 24 [some (.ref 122), some (.int x1), some (.int x2), some (.int (I2 123 15)), none] [] 136 I2 G J Φ))))) : Ev (d + 1) mX5_isOverBy 136 0 [some (.ref 122), some (.int x1), some (.int x2), none, none] [] 136 I G J Φ := by
  refine E_aload_n 0 dX5_isOverBy_0 rfl rfl ?_
  refine E_iconst (0 : Int32) dX5_isOverBy_1 rfl ?_
  refine E_bipush (100 : Int32) dX5_isOverBy_2 rfl ?_
  refine E_cv (M := mX5_isOverBy) (pc := 4) (As := [.int (0 : Int32), .int (100 : Int32)]) (st := []) mX5_copy 2 5 33 dX5_isOverBy_4 lk_RX5_172 ⟨_, rfl, rfl⟩ sh_122 rfl (Nat.le_of_ble_eq_true rfl) ⟨rfl, rfl⟩ (Nat.le_of_ble_eq_true rfl) rfl hy ?_
  rintro r n I1 G1 J1 ⟨rfl, rfl, rfl, rfl, hy⟩
  show Ev (d + 1) mX5_isOverBy 136 7 [some (.ref 122), some (.int x1), some (.int x2), none, none] [] 136 I1 G J Φ
  refine E_aload_n 0 dX5_isOverBy_7 rfl rfl ?_
  refine E_bipush (100 : Int32) dX5_isOverBy_8 rfl ?_
  refine E_iload_n 1 dX5_isOverBy_10 rfl rfl ?_
  refine E_bipush (7 : Int32) dX5_isOverBy_11 rfl ?_
  refine E_cv (M := mX5_isOverBy) (pc := 13) (As := [.int (100 : Int32), .int x1, .int (7 : Int32)]) (st := []) mX5_orderAll 3 5 33 dX5_isOverBy_13 lk_RX5_203 ⟨_, rfl, rfl⟩ sh_122 rfl (Nat.le_of_ble_eq_true rfl) ⟨rfl, rfl⟩ (Nat.le_of_ble_eq_true rfl) rfl hy ?_
  rintro r n I2 G2 J2 ⟨rfl, rfl, rfl, rfl, hy⟩
  show Ev (d + 1) mX5_isOverBy 136 16 [some (.ref 122), some (.int x1), some (.int x2), none, none] [] 136 I2 G J Φ
  refine E_aload_n 0 dX5_isOverBy_16 rfl rfl ?_
  refine E_getr 5 0 122 33 123 dX5_isOverBy_17 fl_RX5_7 rfl sh_122 (wg_122_0 hG) ?_
  refine E_bipush (15 : Int32) dX5_isOverBy_20 rfl ?_
  refine E_ia 123 1400 15 dX5_isOverBy_22 sh_123 (vpd (by decide)) rfl ?_
  refine E_istore_n 3 dX5_isOverBy_23 rfl (Nat.le_of_ble_eq_true rfl) (?_ : Ev (d + 1) mX5_isOverBy 136 24 [some (.ref 122), some (.int x1), some (.int x2), some (.int (I2 123 15)), none] [] 136 I2 G J Φ)
  exact hy
set_option maxRecDepth 100000 in
theorem w_X5_isOverBy_24 {d : Nat} {I : MI} {G : MG} {J : MJ} {Φ : Ph} (hG : WG G)  (x1 : Int32) (x2 : Int32) (x3 : Int32) (hy : ((I 122 13) ≤ x3 → Ev d mX5_isOver 136 0 [some (.ref 122), some (.int (100 : Int32)), some (.int x1)] [] 136 I G J (fun r n I2 G2 J2 => ∃ v2 : Int32, r = some (.int v2) ∧ n = 136 ∧ I = I2 ∧ G = G2 ∧ J = J2 ∧ (narrow .boolean (.int v2) = .int v2 ∧ (Φ (some (.int v2)) 136 I G J)))) ∧ (¬ (I 122 13) ≤ x3 → Ev d mX5_isOver 136 0 [some (.ref 122), some (.int (100 : Int32)), some (.int x1)] [] 136 I G J (fun r n I4 G4 J4 => ∃ v4 : Int32, r = some (.int v4) ∧ n = 136 ∧ I = I4 ∧ G = G4 ∧ J = J4 ∧ ((¬ v4 = 0 → Ev (d + 1) mX5_isOverBy 136 86 [some (.ref 122), some (.int x1), some (.int x2), some (.int x3), none] [.int (0 : Int32)] 136 I G J Φ) ∧ (v4 = 0 → Ev d mX5_pushOf 136 0 [some (.ref 122), some (.int (100 : Int32)), some (.int x1), none, none] [] 136 I G J (fun r n I6 G6 J6 => ∃ v6 : Int32, r = some (.int v6) ∧ n = 136 ∧ I = I6 ∧ G = G6 ∧ J = J6 ∧ (vp_in x1 8 ∧ ((v6 < (x2 + (I 126 (x1).toNatClampNeg)) → Ev (d + 1) mX5_isOverBy 136 86 [some (.ref 122), some (.int x1), some (.int x2), some (.int x3), none] [.int (0 : Int32)] 136 I G J Φ) ∧ (¬ v6 < (x2 + (I 126 (x1).toNatClampNeg)) → vp_in ((100 : Int32) + x1) 1400 ∧ (Ev d mX5_blocksIn 136 0 [some (.ref 122), some (.int (100 : Int32)), some (.int x1), some (.int ((I 123 ((100 : Int32) + x1).toNatClampNeg) + (1 : Int32))), none, none, none, none] [] 136 I G J (fun r n I10 G10 J10 => ∃ v10 : Int32, r = some (.int v10) ∧ n = 136 ∧ I = I10 ∧ G = G10 ∧ J = J10 ∧ ((¬ v10 = 0 → Ev (d + 1) mX5_isOverBy 136 86 [some (.ref 122), some (.int x1), some (.int x2), some (.int x3), none] [.int (0 : Int32)] 136 I G J Φ) ∧ (v10 = 0 → Ev (d + 1) mX5_isOverBy 136 86 [some (.ref 122), some (.int x1), some (.int x2), some (.int x3), none] [.int (1 : Int32)] 136 I G J Φ))))))))))))) : Ev (d + 1) mX5_isOverBy 136 24 [some (.ref 122), some (.int x1), some (.int x2), some (.int x3), none] [] 136 I G J Φ := by
  refine E_iload_n 3 dX5_isOverBy_24 rfl rfl ?_
  refine E_aload_n 0 dX5_isOverBy_25 rfl rfl ?_
  refine E_geti 5 13 122 33 dX5_isOverBy_26 fl_RX5_50 rfl sh_122 ?_
  refine E_icmp_ge 118 dX5_isOverBy_29 rfl (fun h1 => ?_) (fun h1 => ?_)
  · replace hy := hy.1 h1
    refine E_aload_n 0 dX5_isOverBy_118 rfl rfl ?_
    refine E_bipush (100 : Int32) dX5_isOverBy_119 rfl ?_
    refine E_iload_n 1 dX5_isOverBy_121 rfl rfl ?_
    refine E_cv (M := mX5_isOverBy) (pc := 122) (As := [.int (100 : Int32), .int x1]) (st := []) mX5_isOver 2 5 33 dX5_isOverBy_122 lk_RX5_158 ⟨_, rfl, rfl⟩ sh_122 rfl (Nat.le_of_ble_eq_true rfl) ⟨rfl, rfl⟩ (Nat.le_of_ble_eq_true rfl) rfl hy ?_
    rintro r n I2 G2 J2 ⟨v2, rfl, rfl, rfl, rfl, rfl, hy⟩
    show Ev (d + 1) mX5_isOverBy 136 125 [some (.ref 122), some (.int x1), some (.int x2), some (.int x3), none] [.int v2] 136 I G J Φ
    have c3 := hy.1
    replace hy := hy.2
    exact E_rz dX5_isOverBy_125 rfl c3 ⟨rfl, rfl⟩ hy
  · replace hy := hy.2 h1
    refine E_aload_n 0 dX5_isOverBy_32 rfl rfl ?_
    refine E_bipush (100 : Int32) dX5_isOverBy_33 rfl ?_
    refine E_iload_n 1 dX5_isOverBy_35 rfl rfl ?_
    refine E_cv (M := mX5_isOverBy) (pc := 36) (As := [.int (100 : Int32), .int x1]) (st := []) mX5_isOver 2 5 33 dX5_isOverBy_36 lk_RX5_158 ⟨_, rfl, rfl⟩ sh_122 rfl (Nat.le_of_ble_eq_true rfl) ⟨rfl, rfl⟩ (Nat.le_of_ble_eq_true rfl) rfl hy ?_
    rintro r n I4 G4 J4 ⟨v4, rfl, rfl, rfl, rfl, rfl, hy⟩
    show Ev (d + 1) mX5_isOverBy 136 39 [some (.ref 122), some (.int x1), some (.int x2), some (.int x3), none] [.int v4] 136 I G J Φ
    refine E_if_ne 85 dX5_isOverBy_39 rfl (fun h5 => ?_) (fun h5 => ?_)
    · replace hy := hy.1 h5
      refine E_iconst (0 : Int32) dX5_isOverBy_85 rfl ?_
      exact hy
    · replace hy := hy.2 (Decidable.not_not.mp h5)
      refine E_aload_n 0 dX5_isOverBy_42 rfl rfl ?_
      refine E_bipush (100 : Int32) dX5_isOverBy_43 rfl ?_
      refine E_iload_n 1 dX5_isOverBy_45 rfl rfl ?_
      refine E_cv (M := mX5_isOverBy) (pc := 46) (As := [.int (100 : Int32), .int x1]) (st := []) mX5_pushOf 2 5 33 dX5_isOverBy_46 lk_RX5_183 ⟨_, rfl, rfl⟩ sh_122 rfl (Nat.le_of_ble_eq_true rfl) ⟨rfl, rfl⟩ (Nat.le_of_ble_eq_true rfl) rfl hy ?_
      rintro r n I6 G6 J6 ⟨v6, rfl, rfl, rfl, rfl, rfl, hy⟩
      show Ev (d + 1) mX5_isOverBy 136 49 [some (.ref 122), some (.int x1), some (.int x2), some (.int x3), none] [.int v6] 136 I G J Φ
      refine E_iload_n 2 dX5_isOverBy_49 rfl rfl ?_
      refine E_aload_n 0 dX5_isOverBy_50 rfl rfl ?_
      refine E_getr 5 3 122 33 126 dX5_isOverBy_51 fl_RX5_20 rfl sh_122 (wg_122_3 hG) ?_
      refine E_iload_n 1 dX5_isOverBy_54 rfl rfl ?_
      have c7 := hy.1
      replace hy := hy.2
      refine E_ia 126 8 (x1).toNatClampNeg dX5_isOverBy_55 sh_126 c7 rfl ?_
      refine E_iadd dX5_isOverBy_56 ?_
      refine E_icmp_lt 85 dX5_isOverBy_57 rfl (fun h8 => ?_) (fun h8 => ?_)
      · replace hy := hy.1 h8
        refine E_iconst (0 : Int32) dX5_isOverBy_85 rfl ?_
        exact hy
      · replace hy := hy.2 h8
        refine E_aload_n 0 dX5_isOverBy_60 rfl rfl ?_
        refine E_bipush (100 : Int32) dX5_isOverBy_61 rfl ?_
        refine E_iload_n 1 dX5_isOverBy_63 rfl rfl ?_
        refine E_aload_n 0 dX5_isOverBy_64 rfl rfl ?_
        refine E_getr 5 0 122 33 123 dX5_isOverBy_65 fl_RX5_7 rfl sh_122 (wg_122_0 hG) ?_
        refine E_bipush (100 : Int32) dX5_isOverBy_68 rfl ?_
        refine E_iload_n 1 dX5_isOverBy_70 rfl rfl ?_
        refine E_iadd dX5_isOverBy_71 ?_
        have c9 := hy.1
        replace hy := hy.2
        refine E_ia 123 1400 ((100 : Int32) + x1).toNatClampNeg dX5_isOverBy_72 sh_123 c9 rfl ?_
        refine E_iconst (1 : Int32) dX5_isOverBy_73 rfl ?_
        refine E_iadd dX5_isOverBy_74 ?_
        refine E_cv (M := mX5_isOverBy) (pc := 75) (As := [.int (100 : Int32), .int x1, .int ((I 123 ((100 : Int32) + x1).toNatClampNeg) + (1 : Int32))]) (st := []) mX5_blocksIn 3 5 33 dX5_isOverBy_75 lk_RX5_186 ⟨_, rfl, rfl⟩ sh_122 rfl (Nat.le_of_ble_eq_true rfl) ⟨rfl, rfl⟩ (Nat.le_of_ble_eq_true rfl) rfl hy ?_
        rintro r n I10 G10 J10 ⟨v10, rfl, rfl, rfl, rfl, rfl, hy⟩
        show Ev (d + 1) mX5_isOverBy 136 78 [some (.ref 122), some (.int x1), some (.int x2), some (.int x3), none] [.int v10] 136 I G J Φ
        refine E_if_ne 85 dX5_isOverBy_78 rfl (fun h11 => ?_) (fun h11 => ?_)
        · replace hy := hy.1 h11
          refine E_iconst (0 : Int32) dX5_isOverBy_85 rfl ?_
          exact hy
        · replace hy := hy.2 (Decidable.not_not.mp h11)
          refine E_iconst (1 : Int32) dX5_isOverBy_81 rfl ?_
          refine E_goto 86 dX5_isOverBy_82 rfl ?_
          exact hy
set_option maxRecDepth 100000 in
theorem w_X5_isOverBy_86 {d : Nat} {I : MI} {G : MG} {J : MJ} {Φ : Ph} (hG : WG G)  (x1 : Int32) (x2 : Int32) (x3 : Int32) (s0 : Int32) (hy : vp_in ((100 : Int32) + x1) 1400 ∧ (Ev d mX5_one 136 0 [some (.int s0)] [] 136 I G J (fun r n I2 G2 J2 => ∃ v2 : Int32, r = some (.int v2) ∧ n = 136 ∧ I = I2 ∧ G = G2 ∧ J = J2 ∧ (vp_in ((100 : Int32) + x1) 1400 ∧ (Ev d mX5_tire 136 0 [some (.ref 122), some (.int (100 : Int32)), some (.int (0 : Int32)), none, none, none] [] 136 (u2 I 123 ((100 : Int32) + x1).toNatClampNeg ((I 123 ((100 : Int32) + x1).toNatClampNeg) + v2)) G J (fun r n I4 G4 J4 => r = none ∧ n = 136 ∧ G = G4 ∧ J = J4 ∧ (Ev (d + 1) mX5_isOverBy 136 24 [some (.ref 122), some (.int x1), some (.int x2), some (.int (x3 + (1 : Int32))), none] [] 136 I4 G J Φ))))))) : Ev (d + 1) mX5_isOverBy 136 86 [some (.ref 122), some (.int x1), some (.int x2), some (.int x3), none] [.int s0] 136 I G J Φ := by
  refine E_istore dX5_isOverBy_86 (Nat.le_of_ble_eq_true rfl) (?_ : Ev (d + 1) mX5_isOverBy 136 88 [some (.ref 122), some (.int x1), some (.int x2), some (.int x3), some (.int s0)] [] 136 I G J Φ)
  refine E_aload_n 0 dX5_isOverBy_88 rfl rfl ?_
  refine E_getr 5 0 122 33 123 dX5_isOverBy_89 fl_RX5_7 rfl sh_122 (wg_122_0 hG) ?_
  refine E_bipush (100 : Int32) dX5_isOverBy_92 rfl ?_
  refine E_iload_n 1 dX5_isOverBy_94 rfl rfl ?_
  refine E_iadd dX5_isOverBy_95 ?_
  refine E_dup2 dX5_isOverBy_96 rfl rfl ?_
  have c1 := hy.1
  replace hy := hy.2
  refine E_ia 123 1400 ((100 : Int32) + x1).toNatClampNeg dX5_isOverBy_97 sh_123 c1 rfl ?_
  refine E_iload dX5_isOverBy_98 rfl ?_
  refine E_cs (M := mX5_isOverBy) (pc := 100) (As := [.int s0]) (st := [.int (I 123 ((100 : Int32) + x1).toNatClampNeg), .int ((100 : Int32) + x1), .ref 123]) mX5_one 1 dX5_isOverBy_100 lk_RX5_161 rfl (Nat.le_of_ble_eq_true rfl) ⟨rfl, rfl⟩ (Nat.le_of_ble_eq_true rfl) rfl hy ?_
  rintro r n I2 G2 J2 ⟨v2, rfl, rfl, rfl, rfl, rfl, hy⟩
  show Ev (d + 1) mX5_isOverBy 136 103 [some (.ref 122), some (.int x1), some (.int x2), some (.int x3), some (.int s0)] [.int v2, .int (I 123 ((100 : Int32) + x1).toNatClampNeg), .int ((100 : Int32) + x1), .ref 123] 136 I G J Φ
  refine E_iadd dX5_isOverBy_103 ?_
  have c3 := hy.1
  replace hy := hy.2
  refine E_is 123 1400 ((100 : Int32) + x1).toNatClampNeg dX5_isOverBy_104 sh_123 c3 rfl ?_
  refine E_aload_n 0 dX5_isOverBy_105 rfl rfl ?_
  refine E_bipush (100 : Int32) dX5_isOverBy_106 rfl ?_
  refine E_iconst (0 : Int32) dX5_isOverBy_108 rfl ?_
  refine E_cv (M := mX5_isOverBy) (pc := 109) (As := [.int (100 : Int32), .int (0 : Int32)]) (st := []) mX5_tire 2 5 33 dX5_isOverBy_109 lk_RX5_190 ⟨_, rfl, rfl⟩ sh_122 rfl (Nat.le_of_ble_eq_true rfl) ⟨rfl, rfl⟩ (Nat.le_of_ble_eq_true rfl) rfl hy ?_
  rintro r n I4 G4 J4 ⟨rfl, rfl, rfl, rfl, hy⟩
  show Ev (d + 1) mX5_isOverBy 136 112 [some (.ref 122), some (.int x1), some (.int x2), some (.int x3), some (.int s0)] [] 136 I4 G J Φ
  refine E_iinc (x3 + (1 : Int32)) dX5_isOverBy_112 rfl rfl (Nat.le_of_ble_eq_true rfl) (?_ : Ev (d + 1) mX5_isOverBy 136 115 [some (.ref 122), some (.int x1), some (.int x2), some (.int (x3 + (1 : Int32))), some (.int s0)] [] 136 I4 G J Φ)
  refine E_goto 24 dX5_isOverBy_115 rfl ?_
  refine E_wk (ls2 := [some (.ref 122), some (.int x1), some (.int x2), some (.int (x3 + (1 : Int32))), none]) ⟨rfl, rfl, rfl, rfl, trivial⟩ ?_
  exact hy
set_option maxRecDepth 100000 in
theorem w_X5_keep {d : Nat} {I : MI} {G : MG} {J : MJ} {Φ : Ph} (hG : WG G) (x1 : Int32) (hy : Ev d mX5_in 136 0 [some (.long (x1.toInt64)), none, some (.long (0 : Int64)), none, some (.long (1 : Int64)), none] [] 136 I G J (fun r n I1 G1 J1 => ∃ v1 : Int32, r = some (.int v1) ∧ n = 136 ∧ I = I1 ∧ G = G1 ∧ J = J1 ∧ ((¬ v1 = 0 → Ev d mX5_copy 136 0 [some (.ref 122), some (.int (0 : Int32)), some (.int ((200 : Int32) + ((100 : Int32) * x1))), none] [] 136 I G J (fun r n I3 G3 J3 => r = none ∧ n = 136 ∧ G = G3 ∧ J = J3 ∧ (vp_in x1 2 ∧ (Φ (some (.int (I3 123 14))) 136 (u2 I3 124 (x1).toNatClampNeg (1 : Int32)) G J)))) ∧ (v1 = 0 → Φ (some (.int (-1 : Int32))) 136 I G J)))) : Ev (d + 1) mX5_keep 136 0 [some (.ref 122), some (.int x1)] [] 136 I G J Φ := by
  refine E_iload_n 1 dX5_keep_0 rfl rfl ?_
  refine E_i2l dX5_keep_1 ?_
  refine E_lconst (0 : Int64) dX5_keep_2 rfl ?_
  refine E_lconst (1 : Int64) dX5_keep_3 rfl ?_
  refine E_cs (M := mX5_keep) (pc := 4) (As := [.long (x1.toInt64), .long (0 : Int64), .long (1 : Int64)]) (st := []) mX5_in 3 dX5_keep_4 lk_RX5_59 rfl (Nat.le_of_ble_eq_true rfl) ⟨rfl, rfl⟩ (Nat.le_of_ble_eq_true rfl) rfl hy ?_
  rintro r n I1 G1 J1 ⟨v1, rfl, rfl, rfl, rfl, rfl, hy⟩
  show Ev (d + 1) mX5_keep 136 7 [some (.ref 122), some (.int x1)] [.int v1] 136 I G J Φ
  refine E_if_ne 12 dX5_keep_7 rfl (fun h2 => ?_) (fun h2 => ?_)
  · replace hy := hy.1 h2
    refine E_aload_n 0 dX5_keep_12 rfl rfl ?_
    refine E_iconst (0 : Int32) dX5_keep_13 rfl ?_
    refine E_sipush (200 : Int32) dX5_keep_14 rfl ?_
    refine E_bipush (100 : Int32) dX5_keep_17 rfl ?_
    refine E_iload_n 1 dX5_keep_19 rfl rfl ?_
    refine E_imul dX5_keep_20 ?_
    refine E_iadd dX5_keep_21 ?_
    refine E_cv (M := mX5_keep) (pc := 22) (As := [.int (0 : Int32), .int ((200 : Int32) + ((100 : Int32) * x1))]) (st := []) mX5_copy 2 5 33 dX5_keep_22 lk_RX5_172 ⟨_, rfl, rfl⟩ sh_122 rfl (Nat.le_of_ble_eq_true rfl) ⟨rfl, rfl⟩ (Nat.le_of_ble_eq_true rfl) rfl hy ?_
    rintro r n I3 G3 J3 ⟨rfl, rfl, rfl, rfl, hy⟩
    show Ev (d + 1) mX5_keep 136 25 [some (.ref 122), some (.int x1)] [] 136 I3 G J Φ
    refine E_aload_n 0 dX5_keep_25 rfl rfl ?_
    refine E_getr 5 1 122 33 124 dX5_keep_26 fl_RX5_13 rfl sh_122 (wg_122_1 hG) ?_
    refine E_iload_n 1 dX5_keep_29 rfl rfl ?_
    refine E_iconst (1 : Int32) dX5_keep_30 rfl ?_
    have c4 := hy.1
    replace hy := hy.2
    refine E_zs 124 2 (x1).toNatClampNeg (1 : Int32) dX5_keep_31 sh_124 c4 rfl rfl ?_
    refine E_aload_n 0 dX5_keep_32 rfl rfl ?_
    refine E_getr 5 0 122 33 123 dX5_keep_33 fl_RX5_7 rfl sh_122 (wg_122_0 hG) ?_
    refine E_bipush (14 : Int32) dX5_keep_36 rfl ?_
    refine E_awi 123 1400 14 (I3 123 14) dX5_keep_38 sh_123 (vpd (by decide)) rfl rfl ?_
    exact E_ri dX5_keep_39 rfl ⟨rfl, rfl⟩ hy
  · replace hy := hy.2 (Decidable.not_not.mp h2)
    refine E_iconst (-1 : Int32) dX5_keep_10 rfl ?_
    exact E_ri dX5_keep_11 rfl ⟨rfl, rfl⟩ hy
set_option maxRecDepth 100000 in
theorem w_X5_lentRate {d : Nat} {I : MI} {G : MG} {J : MJ} {Φ : Ph} (hG : WG G) (x1 : Int32) (hy : Ev d mX5_splitRate 136 0 [some (.ref 122), some (.int x1)] [] 136 I G (u2 J 122 32 ((J 122 32) + (10000 : Int64))) (fun r n I1 G1 J1 => ∃ v1 : Int32, r = some (.int v1) ∧ n = 136 ∧ I = I1 ∧ G = G1 ∧ (Φ (some (.int (v1 + x1))) 136 I G J1))) : Ev (d + 1) mX5_lentRate 136 0 [some (.ref 122), some (.int x1)] [] 136 I G J Φ := by
  refine E_aload_n 0 dX5_lentRate_0 rfl rfl ?_
  refine E_dup dX5_lentRate_1 rfl ?_
  refine E_getl 5 32 122 33 dX5_lentRate_2 fl_RX5_234 rfl sh_122 ?_
  refine E_ldc2 (10000 : Int64) dX5_lentRate_5 cl_RX5_248 ?_
  refine E_ladd dX5_lentRate_8 ?_
  refine E_putl 5 32 122 33 dX5_lentRate_9 fl_RX5_234 rfl sh_122 ⟨_, rfl, rfl⟩ rfl rfl ?_
  refine E_aload_n 0 dX5_lentRate_12 rfl rfl ?_
  refine E_iload_n 1 dX5_lentRate_13 rfl rfl ?_
  refine E_cv (M := mX5_lentRate) (pc := 14) (As := [.int x1]) (st := []) mX5_splitRate 1 5 33 dX5_lentRate_14 lk_RX5_250 ⟨_, rfl, rfl⟩ sh_122 rfl (Nat.le_of_ble_eq_true rfl) ⟨rfl, rfl⟩ (Nat.le_of_ble_eq_true rfl) rfl hy ?_
  rintro r n I1 G1 J1 ⟨v1, rfl, rfl, rfl, rfl, hy⟩
  show Ev (d + 1) mX5_lentRate 136 17 [some (.ref 122), some (.int x1)] [.int v1] 136 I G J1 Φ
  refine E_iload_n 1 dX5_lentRate_17 rfl rfl ?_
  refine E_iadd dX5_lentRate_18 ?_
  exact E_ri dX5_lentRate_19 rfl ⟨rfl, rfl⟩ hy
set_option maxRecDepth 100000 in
theorem w_X5_little {d : Nat} {I : MI} {G : MG} {J : MJ} {Φ : Ph} (hG : WG G) (x1 : Int32) (hy : Ev d mX5_isHill 136 0 [some (.ref 122), some (.int x1)] [] 136 I G J (fun r n I1 G1 J1 => ∃ v1 : Int32, r = some (.int v1) ∧ n = 136 ∧ I = I1 ∧ G = G1 ∧ J = J1 ∧ ((¬ v1 = 0 → Ev d mX5_isOver 136 0 [some (.ref 122), some (.int (0 : Int32)), some (.int x1)] [] 136 I G J (fun r n I3 G3 J3 => ∃ v3 : Int32, r = some (.int v3) ∧ n = 136 ∧ I = I3 ∧ G = G3 ∧ J = J3 ∧ ((v3 = 0 → Ev (d + 1) mX5_little 136 25 [some (.ref 122), some (.int x1), some (.int (9 : Int32))] [] 136 I G J Φ) ∧ (¬ v3 = 0 → Φ (some (.int (-2 : Int32))) 136 I G J)))) ∧ (v1 = 0 → Φ (some (.int (-1 : Int32))) 136 I G J)))) : Ev (d + 1) mX5_little 136 0 [some (.ref 122), some (.int x1), none] [] 136 I G J Φ := by
  refine E_aload_n 0 dX5_little_0 rfl rfl ?_
  refine E_iload_n 1 dX5_little_1 rfl rfl ?_
  refine E_cv (M := mX5_little) (pc := 2) (As := [.int x1]) (st := []) mX5_isHill 1 5 33 dX5_little_2 lk_RX5_149 ⟨_, rfl, rfl⟩ sh_122 rfl (Nat.le_of_ble_eq_true rfl) ⟨rfl, rfl⟩ (Nat.le_of_ble_eq_true rfl) rfl hy ?_
  rintro r n I1 G1 J1 ⟨v1, rfl, rfl, rfl, rfl, rfl, hy⟩
  show Ev (d + 1) mX5_little 136 5 [some (.ref 122), some (.int x1), none] [.int v1] 136 I G J Φ
  refine E_if_ne 10 dX5_little_5 rfl (fun h2 => ?_) (fun h2 => ?_)
  · replace hy := hy.1 h2
    refine E_aload_n 0 dX5_little_10 rfl rfl ?_
    refine E_iconst (0 : Int32) dX5_little_11 rfl ?_
    refine E_iload_n 1 dX5_little_12 rfl rfl ?_
    refine E_cv (M := mX5_little) (pc := 13) (As := [.int (0 : Int32), .int x1]) (st := []) mX5_isOver 2 5 33 dX5_little_13 lk_RX5_158 ⟨_, rfl, rfl⟩ sh_122 rfl (Nat.le_of_ble_eq_true rfl) ⟨rfl, rfl⟩ (Nat.le_of_ble_eq_true rfl) rfl hy ?_
    rintro r n I3 G3 J3 ⟨v3, rfl, rfl, rfl, rfl, rfl, hy⟩
    show Ev (d + 1) mX5_little 136 16 [some (.ref 122), some (.int x1), none] [.int v3] 136 I G J Φ
    refine E_if_eq 22 dX5_little_16 rfl (fun h4 => ?_) (fun h4 => ?_)
    · replace hy := hy.1 h4
      refine E_bipush (9 : Int32) dX5_little_22 rfl ?_
      refine E_istore_n 2 dX5_little_24 rfl (Nat.le_of_ble_eq_true rfl) (?_ : Ev (d + 1) mX5_little 136 25 [some (.ref 122), some (.int x1), some (.int (9 : Int32))] [] 136 I G J Φ)
      exact hy
    · replace hy := hy.2 h4
      refine E_bipush (-2 : Int32) dX5_little_19 rfl ?_
      exact E_ri dX5_little_21 rfl ⟨rfl, rfl⟩ hy
  · replace hy := hy.2 (Decidable.not_not.mp h2)
    refine E_iconst (-1 : Int32) dX5_little_8 rfl ?_
    exact E_ri dX5_little_9 rfl ⟨rfl, rfl⟩ hy
set_option maxRecDepth 100000 in
theorem w_X5_little_25 {d : Nat} {I : MI} {G : MG} {J : MJ} {Φ : Ph} (hG : WG G)  (x1 : Int32) (x2 : Int32) (hy : (x2 ≤ 0 → Φ (some (.int (-9 : Int32))) 136 I G J) ∧ (¬ x2 ≤ 0 → Ev d mX5_isOverBy 136 0 [some (.ref 122), some (.int x1), some (.int x2), none, none] [] 136 I G J (fun r n I2 G2 J2 => ∃ v2 : Int32, r = some (.int v2) ∧ n = 136 ∧ G = G2 ∧ J = J2 ∧ ((v2 = 0 → Ev (d + 1) mX5_little 136 25 [some (.ref 122), some (.int x1), some (.int (x2 + (-1 : Int32)))] [] 136 I2 G J Φ) ∧ (¬ v2 = 0 → Φ (some (.int x2)) 136 I2 G J))))) : Ev (d + 1) mX5_little 136 25 [some (.ref 122), some (.int x1), some (.int x2)] [] 136 I G J Φ := by
  refine E_iload_n 2 dX5_little_25 rfl rfl ?_
  refine E_if_le 46 dX5_little_26 rfl (fun h1 => ?_) (fun h1 => ?_)
  · replace hy := hy.1 h1
    refine E_bipush (-9 : Int32) dX5_little_46 rfl ?_
    exact E_ri dX5_little_48 rfl ⟨rfl, rfl⟩ hy
  · replace hy := hy.2 h1
    refine E_aload_n 0 dX5_little_29 rfl rfl ?_
    refine E_iload_n 1 dX5_little_30 rfl rfl ?_
    refine E_iload_n 2 dX5_little_31 rfl rfl ?_
    refine E_cv (M := mX5_little) (pc := 32) (As := [.int x1, .int x2]) (st := []) mX5_isOverBy 2 5 33 dX5_little_32 lk_RX5_216 ⟨_, rfl, rfl⟩ sh_122 rfl (Nat.le_of_ble_eq_true rfl) ⟨rfl, rfl⟩ (Nat.le_of_ble_eq_true rfl) rfl hy ?_
    rintro r n I2 G2 J2 ⟨v2, rfl, rfl, rfl, rfl, hy⟩
    show Ev (d + 1) mX5_little 136 35 [some (.ref 122), some (.int x1), some (.int x2)] [.int v2] 136 I2 G J Φ
    refine E_if_eq 40 dX5_little_35 rfl (fun h3 => ?_) (fun h3 => ?_)
    · replace hy := hy.1 h3
      refine E_iinc (x2 + (-1 : Int32)) dX5_little_40 rfl rfl (Nat.le_of_ble_eq_true rfl) (?_ : Ev (d + 1) mX5_little 136 43 [some (.ref 122), some (.int x1), some (.int (x2 + (-1 : Int32)))] [] 136 I2 G J Φ)
      refine E_goto 25 dX5_little_43 rfl ?_
      exact hy
    · replace hy := hy.2 h3
      refine E_iload_n 2 dX5_little_38 rfl rfl ?_
      exact E_ri dX5_little_39 rfl ⟨rfl, rfl⟩ hy
set_option maxRecDepth 100000 in
theorem w_X5_man {d : Nat} {I : MI} {G : MG} {J : MJ} {Φ : Ph} (hG : WG G) (x1 : Int32) (x2 : Int32) (hy : Ev d mX5_isMan 136 0 [some (.ref 122), some (.int x1)] [] 136 I G J (fun r n I1 G1 J1 => ∃ v1 : Int32, r = some (.int v1) ∧ n = 136 ∧ I = I1 ∧ G = G1 ∧ J = J1 ∧ ((¬ v1 = 0 → (¬ x2 = 0 → (¬ x2 = (1 : Int32) → (¬ x2 = (2 : Int32) → Φ (some (.int (-1 : Int32))) 136 I G J) ∧ (x2 = (2 : Int32) → vp_in ((11 : Int32) + x1) 1400 ∧ (Φ (some (.int (I 123 ((11 : Int32) + x1).toNatClampNeg))) 136 I G J))) ∧ (x2 = (1 : Int32) → vp_in ((8 : Int32) + x1) 1400 ∧ (Φ (some (.int (I 123 ((8 : Int32) + x1).toNatClampNeg))) 136 I G J))) ∧ (x2 = 0 → vp_in x1 6 ∧ (Φ (some (.int (I 132 (x1).toNatClampNeg))) 136 I G J))) ∧ (v1 = 0 → Φ (some (.int (-1 : Int32))) 136 I G J)))) : Ev (d + 1) mX5_man 136 0 [some (.ref 122), some (.int x1), some (.int x2)] [] 136 I G J Φ := by
  refine E_aload_n 0 dX5_man_0 rfl rfl ?_
  refine E_iload_n 1 dX5_man_1 rfl rfl ?_
  refine E_cv (M := mX5_man) (pc := 2) (As := [.int x1]) (st := []) mX5_isMan 1 5 33 dX5_man_2 lk_RX5_165 ⟨_, rfl, rfl⟩ sh_122 rfl (Nat.le_of_ble_eq_true rfl) ⟨rfl, rfl⟩ (Nat.le_of_ble_eq_true rfl) rfl hy ?_
  rintro r n I1 G1 J1 ⟨v1, rfl, rfl, rfl, rfl, rfl, hy⟩
  show Ev (d + 1) mX5_man 136 5 [some (.ref 122), some (.int x1), some (.int x2)] [.int v1] 136 I G J Φ
  refine E_if_ne 10 dX5_man_5 rfl (fun h2 => ?_) (fun h2 => ?_)
  · replace hy := hy.1 h2
    refine E_iload_n 2 dX5_man_10 rfl rfl ?_
    refine E_if_ne 23 dX5_man_11 rfl (fun h3 => ?_) (fun h3 => ?_)
    · replace hy := hy.1 h3
      refine E_iload_n 2 dX5_man_23 rfl rfl ?_
      refine E_iconst (1 : Int32) dX5_man_24 rfl ?_
      refine E_icmp_ne 40 dX5_man_25 rfl (fun h4 => ?_) (fun h4 => ?_)
      · replace hy := hy.1 h4
        refine E_iload_n 2 dX5_man_40 rfl rfl ?_
        refine E_iconst (2 : Int32) dX5_man_41 rfl ?_
        refine E_icmp_ne 57 dX5_man_42 rfl (fun h5 => ?_) (fun h5 => ?_)
        · replace hy := hy.1 h5
          refine E_iconst (-1 : Int32) dX5_man_57 rfl ?_
          exact E_ri dX5_man_58 rfl ⟨rfl, rfl⟩ hy
        · replace hy := hy.2 (Decidable.not_not.mp h5)
          refine E_aload_n 0 dX5_man_45 rfl rfl ?_
          refine E_getr 5 0 122 33 123 dX5_man_46 fl_RX5_7 rfl sh_122 (wg_122_0 hG) ?_
          refine E_bipush (11 : Int32) dX5_man_49 rfl ?_
          refine E_iload_n 1 dX5_man_51 rfl rfl ?_
          refine E_iadd dX5_man_52 ?_
          have c6 := hy.1
          replace hy := hy.2
          refine E_ia 123 1400 ((11 : Int32) + x1).toNatClampNeg dX5_man_53 sh_123 c6 rfl ?_
          refine E_goto 58 dX5_man_54 rfl ?_
          exact E_ri dX5_man_58 rfl ⟨rfl, rfl⟩ hy
      · replace hy := hy.2 (Decidable.not_not.mp h4)
        refine E_aload_n 0 dX5_man_28 rfl rfl ?_
        refine E_getr 5 0 122 33 123 dX5_man_29 fl_RX5_7 rfl sh_122 (wg_122_0 hG) ?_
        refine E_bipush (8 : Int32) dX5_man_32 rfl ?_
        refine E_iload_n 1 dX5_man_34 rfl rfl ?_
        refine E_iadd dX5_man_35 ?_
        have c7 := hy.1
        replace hy := hy.2
        refine E_ia 123 1400 ((8 : Int32) + x1).toNatClampNeg dX5_man_36 sh_123 c7 rfl ?_
        refine E_goto 58 dX5_man_37 rfl ?_
        exact E_ri dX5_man_58 rfl ⟨rfl, rfl⟩ hy
    · replace hy := hy.2 (Decidable.not_not.mp h3)
      refine E_aload_n 0 dX5_man_14 rfl rfl ?_
      refine E_getr 5 9 122 33 132 dX5_man_15 fl_RX5_38 rfl sh_122 (wg_122_9 hG) ?_
      refine E_iload_n 1 dX5_man_18 rfl rfl ?_
      have c8 := hy.1
      replace hy := hy.2
      refine E_ia 132 6 (x1).toNatClampNeg dX5_man_19 sh_132 c8 rfl ?_
      refine E_goto 58 dX5_man_20 rfl ?_
      exact E_ri dX5_man_58 rfl ⟨rfl, rfl⟩ hy
  · replace hy := hy.2 (Decidable.not_not.mp h2)
    refine E_iconst (-1 : Int32) dX5_man_8 rfl ?_
    exact E_ri dX5_man_9 rfl ⟨rfl, rfl⟩ hy
set_option maxRecDepth 100000 in
theorem w_X5_next {d : Nat} {I : MI} {G : MG} {J : MJ} {Φ : Ph} (hG : WG G)  (hy : ((I 122 22) ≤ (I 122 23) → (¬ (I 122 23) = (I 122 22) → vp_in (I 122 23) 200 ∧ (Ev d mX5_isFigure 136 0 [some (.int (I 133 (I 122 23).toNatClampNeg))] [] 136 (u2 I 122 24 (I 122 23)) G J (fun r n I4 G4 J4 => ∃ v4 : Int32, r = some (.int v4) ∧ n = 136 ∧ (u2 I 122 24 (I 122 23)) = I4 ∧ G = G4 ∧ J = J4 ∧ ((v4 = 0 → vp_in (I 122 23) 200 ∧ (((I 133 (I 122 23).toNatClampNeg) = (104 : Int32) → Φ none 136 (u2 (u2 (u2 I 122 24 (I 122 23)) 122 23 ((I 122 23) + (1 : Int32))) 122 25 (I 133 (I 122 23).toNatClampNeg)) G J) ∧ (¬ (I 133 (I 122 23).toNatClampNeg) = (104 : Int32) → ((I 133 (I 122 23).toNatClampNeg) = (106 : Int32) → Φ none 136 (u2 (u2 (u2 I 122 24 (I 122 23)) 122 23 ((I 122 23) + (1 : Int32))) 122 25 (I 133 (I 122 23).toNatClampNeg)) G J) ∧ (¬ (I 133 (I 122 23).toNatClampNeg) = (106 : Int32) → ((I 133 (I 122 23).toNatClampNeg) = (109 : Int32) → Φ none 136 (u2 (u2 (u2 I 122 24 (I 122 23)) 122 23 ((I 122 23) + (1 : Int32))) 122 25 (I 133 (I 122 23).toNatClampNeg)) G J) ∧ (¬ (I 133 (I 122 23).toNatClampNeg) = (109 : Int32) → ((I 133 (I 122 23).toNatClampNeg) = (111 : Int32) → Φ none 136 (u2 (u2 (u2 I 122 24 (I 122 23)) 122 23 ((I 122 23) + (1 : Int32))) 122 25 (I 133 (I 122 23).toNatClampNeg)) G J) ∧ (¬ (I 133 (I 122 23).toNatClampNeg) = (111 : Int32) → ((I 133 (I 122 23).toNatClampNeg) = (114 : Int32) → Φ none 136 (u2 (u2 (u2 I 122 24 (I 122 23)) 122 23 ((I 122 23) + (1 : Int32))) 122 25 (I 133 (I 122 23).toNatClampNeg)) G J) ∧ (¬ (I 133 (I 122 23).toNatClampNeg) = (114 : Int32) → (¬ (I 133 (I 122 23).toNatClampNeg) = (59 : Int32) → Φ none 136 (u2 (u2 (u2 I 122 24 (I 122 23)) 122 23 ((I 122 23) + (1 : Int32))) 122 25 (-2 : Int32)) G J) ∧ ((I 133 (I 122 23).toNatClampNeg) = (59 : Int32) → Φ none 136 (u2 (u2 (u2 I 122 24 (I 122 23)) 122 23 ((I 122 23) + (1 : Int32))) 122 25 (I 133 (I 122 23).toNatClampNeg)) G J)))))))) ∧ (¬ v4 = 0 → vp_in (I 122 23) 200 ∧ ((¬ (I 133 (I 122 23).toNatClampNeg) = (48 : Int32) → Ev (d + 1) mX5_next 136 107 [some (.ref 122), some (.int (0 : Int32)), some (.int (0 : Int32))] [] 136 (u2 (u2 I 122 24 (I 122 23)) 122 26 (0 : Int32)) G J Φ) ∧ ((I 133 (I 122 23).toNatClampNeg) = (48 : Int32) → Ev (d + 1) mX5_next 136 107 [some (.ref 122), some (.int (1 : Int32)), some (.int (0 : Int32))] [] 136 (u2 (u2 I 122 24 (I 122 23)) 122 26 (0 : Int32)) G J Φ))))))) ∧ ((I 122 23) = (I 122 22) → Φ none 136 (u2 (u2 I 122 24 (I 122 23)) 122 25 (-1 : Int32)) G J)) ∧ (¬ (I 122 22) ≤ (I 122 23) → vp_in (I 122 23) 200 ∧ ((¬ (I 133 (I 122 23).toNatClampNeg) = (32 : Int32) → (¬ (I 122 23) = (I 122 22) → vp_in (I 122 23) 200 ∧ (Ev d mX5_isFigure 136 0 [some (.int (I 133 (I 122 23).toNatClampNeg))] [] 136 (u2 I 122 24 (I 122 23)) G J (fun r n I19 G19 J19 => ∃ v19 : Int32, r = some (.int v19) ∧ n = 136 ∧ (u2 I 122 24 (I 122 23)) = I19 ∧ G = G19 ∧ J = J19 ∧ ((v19 = 0 → vp_in (I 122 23) 200 ∧ (((I 133 (I 122 23).toNatClampNeg) = (104 : Int32) → Φ none 136 (u2 (u2 (u2 I 122 24 (I 122 23)) 122 23 ((I 122 23) + (1 : Int32))) 122 25 (I 133 (I 122 23).toNatClampNeg)) G J) ∧ (¬ (I 133 (I 122 23).toNatClampNeg) = (104 : Int32) → ((I 133 (I 122 23).toNatClampNeg) = (106 : Int32) → Φ none 136 (u2 (u2 (u2 I 122 24 (I 122 23)) 122 23 ((I 122 23) + (1 : Int32))) 122 25 (I 133 (I 122 23).toNatClampNeg)) G J) ∧ (¬ (I 133 (I 122 23).toNatClampNeg) = (106 : Int32) → ((I 133 (I 122 23).toNatClampNeg) = (109 : Int32) → Φ none 136 (u2 (u2 (u2 I 122 24 (I 122 23)) 122 23 ((I 122 23) + (1 : Int32))) 122 25 (I 133 (I 122 23).toNatClampNeg)) G J) ∧ (¬ (I 133 (I 122 23).toNatClampNeg) = (109 : Int32) → ((I 133 (I 122 23).toNatClampNeg) = (111 : Int32) → Φ none 136 (u2 (u2 (u2 I 122 24 (I 122 23)) 122 23 ((I 122 23) + (1 : Int32))) 122 25 (I 133 (I 122 23).toNatClampNeg)) G J) ∧ (¬ (I 133 (I 122 23).toNatClampNeg) = (111 : Int32) → ((I 133 (I 122 23).toNatClampNeg) = (114 : Int32) → Φ none 136 (u2 (u2 (u2 I 122 24 (I 122 23)) 122 23 ((I 122 23) + (1 : Int32))) 122 25 (I 133 (I 122 23).toNatClampNeg)) G J) ∧ (¬ (I 133 (I 122 23).toNatClampNeg) = (114 : Int32) → (¬ (I 133 (I 122 23).toNatClampNeg) = (59 : Int32) → Φ none 136 (u2 (u2 (u2 I 122 24 (I 122 23)) 122 23 ((I 122 23) + (1 : Int32))) 122 25 (-2 : Int32)) G J) ∧ ((I 133 (I 122 23).toNatClampNeg) = (59 : Int32) → Φ none 136 (u2 (u2 (u2 I 122 24 (I 122 23)) 122 23 ((I 122 23) + (1 : Int32))) 122 25 (I 133 (I 122 23).toNatClampNeg)) G J)))))))) ∧ (¬ v19 = 0 → vp_in (I 122 23) 200 ∧ ((¬ (I 133 (I 122 23).toNatClampNeg) = (48 : Int32) → Ev (d + 1) mX5_next 136 107 [some (.ref 122), some (.int (0 : Int32)), some (.int (0 : Int32))] [] 136 (u2 (u2 I 122 24 (I 122 23)) 122 26 (0 : Int32)) G J Φ) ∧ ((I 133 (I 122 23).toNatClampNeg) = (48 : Int32) → Ev (d + 1) mX5_next 136 107 [some (.ref 122), some (.int (1 : Int32)), some (.int (0 : Int32))] [] 136 (u2 (u2 I 122 24 (I 122 23)) 122 26 (0 : Int32)) G J Φ))))))) ∧ ((I 122 23) = (I 122 22) → Φ none 136 (u2 (u2 I 122 24 (I 122 23)) 122 25 (-1 : Int32)) G J)) ∧ ((I 133 (I 122 23).toNatClampNeg) = (32 : Int32) → Ev (d + 1) mX5_next 136 0 [some (.ref 122), none, none] [] 136 (u2 I 122 23 ((I 122 23) + (1 : Int32))) G J Φ)))) : Ev (d + 1) mX5_next 136 0 [some (.ref 122), none, none] [] 136 I G J Φ := by
  refine E_aload_n 0 dX5_next_0 rfl rfl ?_
  refine E_geti 5 23 122 33 dX5_next_1 fl_RX5_70 rfl sh_122 ?_
  refine E_aload_n 0 dX5_next_4 rfl rfl ?_
  refine E_geti 5 22 122 33 dX5_next_5 fl_RX5_63 rfl sh_122 ?_
  refine E_icmp_ge 38 dX5_next_8 rfl (fun h1 => ?_) (fun h1 => ?_)
  · replace hy := hy.1 h1
    refine E_aload_n 0 dX5_next_38 rfl rfl ?_
    refine E_aload_n 0 dX5_next_39 rfl rfl ?_
    refine E_geti 5 23 122 33 dX5_next_40 fl_RX5_70 rfl sh_122 ?_
    refine E_puti 5 24 122 33 dX5_next_43 fl_RX5_73 rfl sh_122 ⟨_, rfl, rfl⟩ rfl rfl ?_
    refine E_aload_n 0 dX5_next_46 rfl rfl ?_
    refine E_getw 5 23 122 33 (I 122 23) dX5_next_47 fl_RX5_70 rfl sh_122 rfl ?_
    refine E_aload_n 0 dX5_next_50 rfl rfl ?_
    refine E_getw 5 22 122 33 (I 122 22) dX5_next_51 fl_RX5_63 rfl sh_122 rfl ?_
    refine E_icmp_ne 65 dX5_next_54 rfl (fun h2 => ?_) (fun h2 => ?_)
    · replace hy := hy.1 h2
      refine E_aload_n 0 dX5_next_65 rfl rfl ?_
      refine E_getr 5 21 122 33 133 dX5_next_66 fl_RX5_41 rfl sh_122 (wg_122_21 hG) ?_
      refine E_aload_n 0 dX5_next_69 rfl rfl ?_
      refine E_getw 5 23 122 33 (I 122 23) dX5_next_70 fl_RX5_70 rfl sh_122 rfl ?_
      have c3 := hy.1
      replace hy := hy.2
      refine E_awi 133 200 (I 122 23).toNatClampNeg (I 133 (I 122 23).toNatClampNeg) dX5_next_73 sh_133 c3 rfl rfl ?_
      refine E_cs (M := mX5_next) (pc := 74) (As := [.int (I 133 (I 122 23).toNatClampNeg)]) (st := []) mX5_isFigure 1 dX5_next_74 lk_RX5_79 rfl (Nat.le_of_ble_eq_true rfl) ⟨rfl, rfl⟩ (Nat.le_of_ble_eq_true rfl) rfl hy ?_
      rintro r n I4 G4 J4 ⟨v4, rfl, rfl, rfl, rfl, rfl, hy⟩
      show Ev (d + 1) mX5_next 136 77 [some (.ref 122), none, none] [.int v4] 136 (u2 I 122 24 (I 122 23)) G J Φ
      refine E_if_eq 222 dX5_next_77 rfl (fun h5 => ?_) (fun h5 => ?_)
      · replace hy := hy.1 h5
        refine E_aload_n 0 dX5_next_222 rfl rfl ?_
        refine E_getr 5 21 122 33 133 dX5_next_223 fl_RX5_41 rfl sh_122 (wg_122_21 hG) ?_
        refine E_aload_n 0 dX5_next_226 rfl rfl ?_
        refine E_getw 5 23 122 33 (I 122 23) dX5_next_227 fl_RX5_70 rfl sh_122 rfl ?_
        have c6 := hy.1
        replace hy := hy.2
        refine E_awi 133 200 (I 122 23).toNatClampNeg (I 133 (I 122 23).toNatClampNeg) dX5_next_230 sh_133 c6 rfl rfl ?_
        refine E_istore_n 1 dX5_next_231 rfl (Nat.le_of_ble_eq_true rfl) (?_ : Ev (d + 1) mX5_next 136 232 [some (.ref 122), some (.int (I 133 (I 122 23).toNatClampNeg)), none] [] 136 (u2 I 122 24 (I 122 23)) G J Φ)
        refine E_aload_n 0 dX5_next_232 rfl rfl ?_
        refine E_dup dX5_next_233 rfl ?_
        refine E_getw 5 23 122 33 (I 122 23) dX5_next_234 fl_RX5_70 rfl sh_122 rfl ?_
        refine E_iconst (1 : Int32) dX5_next_237 rfl ?_
        refine E_iadd dX5_next_238 ?_
        refine E_puti 5 23 122 33 dX5_next_239 fl_RX5_70 rfl sh_122 ⟨_, rfl, rfl⟩ rfl rfl ?_
        refine E_aload_n 0 dX5_next_242 rfl rfl ?_
        refine E_iload_n 1 dX5_next_243 rfl rfl ?_
        refine E_bipush (104 : Int32) dX5_next_244 rfl ?_
        refine E_icmp_eq 279 dX5_next_246 rfl (fun h7 => ?_) (fun h7 => ?_)
        · replace hy := hy.1 h7
          refine E_iload_n 1 dX5_next_279 rfl rfl ?_
          refine E_goto 285 dX5_next_280 rfl ?_
          refine E_puti 5 25 122 33 dX5_next_285 fl_RX5_76 rfl sh_122 ⟨_, rfl, rfl⟩ rfl rfl ?_
          exact E_rv dX5_next_288 rfl ⟨rfl, rfl⟩ hy
        · replace hy := hy.2 h7
          refine E_iload_n 1 dX5_next_249 rfl rfl ?_
          refine E_bipush (106 : Int32) dX5_next_250 rfl ?_
          refine E_icmp_eq 279 dX5_next_252 rfl (fun h8 => ?_) (fun h8 => ?_)
          · replace hy := hy.1 h8
            refine E_iload_n 1 dX5_next_279 rfl rfl ?_
            refine E_goto 285 dX5_next_280 rfl ?_
            refine E_puti 5 25 122 33 dX5_next_285 fl_RX5_76 rfl sh_122 ⟨_, rfl, rfl⟩ rfl rfl ?_
            exact E_rv dX5_next_288 rfl ⟨rfl, rfl⟩ hy
          · replace hy := hy.2 h8
            refine E_iload_n 1 dX5_next_255 rfl rfl ?_
            refine E_bipush (109 : Int32) dX5_next_256 rfl ?_
            refine E_icmp_eq 279 dX5_next_258 rfl (fun h9 => ?_) (fun h9 => ?_)
            · replace hy := hy.1 h9
              refine E_iload_n 1 dX5_next_279 rfl rfl ?_
              refine E_goto 285 dX5_next_280 rfl ?_
              refine E_puti 5 25 122 33 dX5_next_285 fl_RX5_76 rfl sh_122 ⟨_, rfl, rfl⟩ rfl rfl ?_
              exact E_rv dX5_next_288 rfl ⟨rfl, rfl⟩ hy
            · replace hy := hy.2 h9
              refine E_iload_n 1 dX5_next_261 rfl rfl ?_
              refine E_bipush (111 : Int32) dX5_next_262 rfl ?_
              refine E_icmp_eq 279 dX5_next_264 rfl (fun h10 => ?_) (fun h10 => ?_)
              · replace hy := hy.1 h10
                refine E_iload_n 1 dX5_next_279 rfl rfl ?_
                refine E_goto 285 dX5_next_280 rfl ?_
                refine E_puti 5 25 122 33 dX5_next_285 fl_RX5_76 rfl sh_122 ⟨_, rfl, rfl⟩ rfl rfl ?_
                exact E_rv dX5_next_288 rfl ⟨rfl, rfl⟩ hy
              · replace hy := hy.2 h10
                refine E_iload_n 1 dX5_next_267 rfl rfl ?_
                refine E_bipush (114 : Int32) dX5_next_268 rfl ?_
                refine E_icmp_eq 279 dX5_next_270 rfl (fun h11 => ?_) (fun h11 => ?_)
                · replace hy := hy.1 h11
                  refine E_iload_n 1 dX5_next_279 rfl rfl ?_
                  refine E_goto 285 dX5_next_280 rfl ?_
                  refine E_puti 5 25 122 33 dX5_next_285 fl_RX5_76 rfl sh_122 ⟨_, rfl, rfl⟩ rfl rfl ?_
                  exact E_rv dX5_next_288 rfl ⟨rfl, rfl⟩ hy
                · replace hy := hy.2 h11
                  refine E_iload_n 1 dX5_next_273 rfl rfl ?_
                  refine E_bipush (59 : Int32) dX5_next_274 rfl ?_
                  refine E_icmp_ne 283 dX5_next_276 rfl (fun h12 => ?_) (fun h12 => ?_)
                  · replace hy := hy.1 h12
                    refine E_bipush (-2 : Int32) dX5_next_283 rfl ?_
                    refine E_puti 5 25 122 33 dX5_next_285 fl_RX5_76 rfl sh_122 ⟨_, rfl, rfl⟩ rfl rfl ?_
                    exact E_rv dX5_next_288 rfl ⟨rfl, rfl⟩ hy
                  · replace hy := hy.2 (Decidable.not_not.mp h12)
                    refine E_iload_n 1 dX5_next_279 rfl rfl ?_
                    refine E_goto 285 dX5_next_280 rfl ?_
                    refine E_puti 5 25 122 33 dX5_next_285 fl_RX5_76 rfl sh_122 ⟨_, rfl, rfl⟩ rfl rfl ?_
                    exact E_rv dX5_next_288 rfl ⟨rfl, rfl⟩ hy
      · replace hy := hy.2 h5
        refine E_aload_n 0 dX5_next_80 rfl rfl ?_
        refine E_iconst (0 : Int32) dX5_next_81 rfl ?_
        refine E_puti 5 26 122 33 dX5_next_82 fl_RX5_83 rfl sh_122 ⟨_, rfl, rfl⟩ rfl rfl ?_
        refine E_aload_n 0 dX5_next_85 rfl rfl ?_
        refine E_getr 5 21 122 33 133 dX5_next_86 fl_RX5_41 rfl sh_122 (wg_122_21 hG) ?_
        refine E_aload_n 0 dX5_next_89 rfl rfl ?_
        refine E_getw 5 23 122 33 (I 122 23) dX5_next_90 fl_RX5_70 rfl sh_122 rfl ?_
        have c13 := hy.1
        replace hy := hy.2
        refine E_awi 133 200 (I 122 23).toNatClampNeg (I 133 (I 122 23).toNatClampNeg) dX5_next_93 sh_133 c13 rfl rfl ?_
        refine E_bipush (48 : Int32) dX5_next_94 rfl ?_
        refine E_icmp_ne 103 dX5_next_96 rfl (fun h14 => ?_) (fun h14 => ?_)
        · replace hy := hy.1 h14
          refine E_iconst (0 : Int32) dX5_next_103 rfl ?_
          refine E_istore_n 1 dX5_next_104 rfl (Nat.le_of_ble_eq_true rfl) (?_ : Ev (d + 1) mX5_next 136 105 [some (.ref 122), some (.int (0 : Int32)), none] [] 136 (u2 (u2 I 122 24 (I 122 23)) 122 26 (0 : Int32)) G J Φ)
          refine E_iconst (0 : Int32) dX5_next_105 rfl ?_
          refine E_istore_n 2 dX5_next_106 rfl (Nat.le_of_ble_eq_true rfl) (?_ : Ev (d + 1) mX5_next 136 107 [some (.ref 122), some (.int (0 : Int32)), some (.int (0 : Int32))] [] 136 (u2 (u2 I 122 24 (I 122 23)) 122 26 (0 : Int32)) G J Φ)
          exact hy
        · replace hy := hy.2 (Decidable.not_not.mp h14)
          refine E_iconst (1 : Int32) dX5_next_99 rfl ?_
          refine E_goto 104 dX5_next_100 rfl ?_
          refine E_istore_n 1 dX5_next_104 rfl (Nat.le_of_ble_eq_true rfl) (?_ : Ev (d + 1) mX5_next 136 105 [some (.ref 122), some (.int (1 : Int32)), none] [] 136 (u2 (u2 I 122 24 (I 122 23)) 122 26 (0 : Int32)) G J Φ)
          refine E_iconst (0 : Int32) dX5_next_105 rfl ?_
          refine E_istore_n 2 dX5_next_106 rfl (Nat.le_of_ble_eq_true rfl) (?_ : Ev (d + 1) mX5_next 136 107 [some (.ref 122), some (.int (1 : Int32)), some (.int (0 : Int32))] [] 136 (u2 (u2 I 122 24 (I 122 23)) 122 26 (0 : Int32)) G J Φ)
          exact hy
    · replace hy := hy.2 (Decidable.not_not.mp h2)
      refine E_aload_n 0 dX5_next_57 rfl rfl ?_
      refine E_iconst (-1 : Int32) dX5_next_58 rfl ?_
      refine E_puti 5 25 122 33 dX5_next_59 fl_RX5_76 rfl sh_122 ⟨_, rfl, rfl⟩ rfl rfl ?_
      refine E_goto 288 dX5_next_62 rfl ?_
      exact E_rv dX5_next_288 rfl ⟨rfl, rfl⟩ hy
  · replace hy := hy.2 h1
    refine E_aload_n 0 dX5_next_11 rfl rfl ?_
    refine E_getr 5 21 122 33 133 dX5_next_12 fl_RX5_41 rfl sh_122 (wg_122_21 hG) ?_
    refine E_aload_n 0 dX5_next_15 rfl rfl ?_
    refine E_geti 5 23 122 33 dX5_next_16 fl_RX5_70 rfl sh_122 ?_
    have c15 := hy.1
    replace hy := hy.2
    refine E_ia 133 200 (I 122 23).toNatClampNeg dX5_next_19 sh_133 c15 rfl ?_
    refine E_bipush (32 : Int32) dX5_next_20 rfl ?_
    refine E_icmp_ne 38 dX5_next_22 rfl (fun h16 => ?_) (fun h16 => ?_)
    · replace hy := hy.1 h16
      refine E_aload_n 0 dX5_next_38 rfl rfl ?_
      refine E_aload_n 0 dX5_next_39 rfl rfl ?_
      refine E_geti 5 23 122 33 dX5_next_40 fl_RX5_70 rfl sh_122 ?_
      refine E_puti 5 24 122 33 dX5_next_43 fl_RX5_73 rfl sh_122 ⟨_, rfl, rfl⟩ rfl rfl ?_
      refine E_aload_n 0 dX5_next_46 rfl rfl ?_
      refine E_getw 5 23 122 33 (I 122 23) dX5_next_47 fl_RX5_70 rfl sh_122 rfl ?_
      refine E_aload_n 0 dX5_next_50 rfl rfl ?_
      refine E_getw 5 22 122 33 (I 122 22) dX5_next_51 fl_RX5_63 rfl sh_122 rfl ?_
      refine E_icmp_ne 65 dX5_next_54 rfl (fun h17 => ?_) (fun h17 => ?_)
      · replace hy := hy.1 h17
        refine E_aload_n 0 dX5_next_65 rfl rfl ?_
        refine E_getr 5 21 122 33 133 dX5_next_66 fl_RX5_41 rfl sh_122 (wg_122_21 hG) ?_
        refine E_aload_n 0 dX5_next_69 rfl rfl ?_
        refine E_getw 5 23 122 33 (I 122 23) dX5_next_70 fl_RX5_70 rfl sh_122 rfl ?_
        have c18 := hy.1
        replace hy := hy.2
        refine E_awi 133 200 (I 122 23).toNatClampNeg (I 133 (I 122 23).toNatClampNeg) dX5_next_73 sh_133 c18 rfl rfl ?_
        refine E_cs (M := mX5_next) (pc := 74) (As := [.int (I 133 (I 122 23).toNatClampNeg)]) (st := []) mX5_isFigure 1 dX5_next_74 lk_RX5_79 rfl (Nat.le_of_ble_eq_true rfl) ⟨rfl, rfl⟩ (Nat.le_of_ble_eq_true rfl) rfl hy ?_
        rintro r n I19 G19 J19 ⟨v19, rfl, rfl, rfl, rfl, rfl, hy⟩
        show Ev (d + 1) mX5_next 136 77 [some (.ref 122), none, none] [.int v19] 136 (u2 I 122 24 (I 122 23)) G J Φ
        refine E_if_eq 222 dX5_next_77 rfl (fun h20 => ?_) (fun h20 => ?_)
        · replace hy := hy.1 h20
          refine E_aload_n 0 dX5_next_222 rfl rfl ?_
          refine E_getr 5 21 122 33 133 dX5_next_223 fl_RX5_41 rfl sh_122 (wg_122_21 hG) ?_
          refine E_aload_n 0 dX5_next_226 rfl rfl ?_
          refine E_getw 5 23 122 33 (I 122 23) dX5_next_227 fl_RX5_70 rfl sh_122 rfl ?_
          have c21 := hy.1
          replace hy := hy.2
          refine E_awi 133 200 (I 122 23).toNatClampNeg (I 133 (I 122 23).toNatClampNeg) dX5_next_230 sh_133 c21 rfl rfl ?_
          refine E_istore_n 1 dX5_next_231 rfl (Nat.le_of_ble_eq_true rfl) (?_ : Ev (d + 1) mX5_next 136 232 [some (.ref 122), some (.int (I 133 (I 122 23).toNatClampNeg)), none] [] 136 (u2 I 122 24 (I 122 23)) G J Φ)
          refine E_aload_n 0 dX5_next_232 rfl rfl ?_
          refine E_dup dX5_next_233 rfl ?_
          refine E_getw 5 23 122 33 (I 122 23) dX5_next_234 fl_RX5_70 rfl sh_122 rfl ?_
          refine E_iconst (1 : Int32) dX5_next_237 rfl ?_
          refine E_iadd dX5_next_238 ?_
          refine E_puti 5 23 122 33 dX5_next_239 fl_RX5_70 rfl sh_122 ⟨_, rfl, rfl⟩ rfl rfl ?_
          refine E_aload_n 0 dX5_next_242 rfl rfl ?_
          refine E_iload_n 1 dX5_next_243 rfl rfl ?_
          refine E_bipush (104 : Int32) dX5_next_244 rfl ?_
          refine E_icmp_eq 279 dX5_next_246 rfl (fun h22 => ?_) (fun h22 => ?_)
          · replace hy := hy.1 h22
            refine E_iload_n 1 dX5_next_279 rfl rfl ?_
            refine E_goto 285 dX5_next_280 rfl ?_
            refine E_puti 5 25 122 33 dX5_next_285 fl_RX5_76 rfl sh_122 ⟨_, rfl, rfl⟩ rfl rfl ?_
            exact E_rv dX5_next_288 rfl ⟨rfl, rfl⟩ hy
          · replace hy := hy.2 h22
            refine E_iload_n 1 dX5_next_249 rfl rfl ?_
            refine E_bipush (106 : Int32) dX5_next_250 rfl ?_
            refine E_icmp_eq 279 dX5_next_252 rfl (fun h23 => ?_) (fun h23 => ?_)
            · replace hy := hy.1 h23
              refine E_iload_n 1 dX5_next_279 rfl rfl ?_
              refine E_goto 285 dX5_next_280 rfl ?_
              refine E_puti 5 25 122 33 dX5_next_285 fl_RX5_76 rfl sh_122 ⟨_, rfl, rfl⟩ rfl rfl ?_
              exact E_rv dX5_next_288 rfl ⟨rfl, rfl⟩ hy
            · replace hy := hy.2 h23
              refine E_iload_n 1 dX5_next_255 rfl rfl ?_
              refine E_bipush (109 : Int32) dX5_next_256 rfl ?_
              refine E_icmp_eq 279 dX5_next_258 rfl (fun h24 => ?_) (fun h24 => ?_)
              · replace hy := hy.1 h24
                refine E_iload_n 1 dX5_next_279 rfl rfl ?_
                refine E_goto 285 dX5_next_280 rfl ?_
                refine E_puti 5 25 122 33 dX5_next_285 fl_RX5_76 rfl sh_122 ⟨_, rfl, rfl⟩ rfl rfl ?_
                exact E_rv dX5_next_288 rfl ⟨rfl, rfl⟩ hy
              · replace hy := hy.2 h24
                refine E_iload_n 1 dX5_next_261 rfl rfl ?_
                refine E_bipush (111 : Int32) dX5_next_262 rfl ?_
                refine E_icmp_eq 279 dX5_next_264 rfl (fun h25 => ?_) (fun h25 => ?_)
                · replace hy := hy.1 h25
                  refine E_iload_n 1 dX5_next_279 rfl rfl ?_
                  refine E_goto 285 dX5_next_280 rfl ?_
                  refine E_puti 5 25 122 33 dX5_next_285 fl_RX5_76 rfl sh_122 ⟨_, rfl, rfl⟩ rfl rfl ?_
                  exact E_rv dX5_next_288 rfl ⟨rfl, rfl⟩ hy
                · replace hy := hy.2 h25
                  refine E_iload_n 1 dX5_next_267 rfl rfl ?_
                  refine E_bipush (114 : Int32) dX5_next_268 rfl ?_
                  refine E_icmp_eq 279 dX5_next_270 rfl (fun h26 => ?_) (fun h26 => ?_)
                  · replace hy := hy.1 h26
                    refine E_iload_n 1 dX5_next_279 rfl rfl ?_
                    refine E_goto 285 dX5_next_280 rfl ?_
                    refine E_puti 5 25 122 33 dX5_next_285 fl_RX5_76 rfl sh_122 ⟨_, rfl, rfl⟩ rfl rfl ?_
                    exact E_rv dX5_next_288 rfl ⟨rfl, rfl⟩ hy
                  · replace hy := hy.2 h26
                    refine E_iload_n 1 dX5_next_273 rfl rfl ?_
                    refine E_bipush (59 : Int32) dX5_next_274 rfl ?_
                    refine E_icmp_ne 283 dX5_next_276 rfl (fun h27 => ?_) (fun h27 => ?_)
                    · replace hy := hy.1 h27
                      refine E_bipush (-2 : Int32) dX5_next_283 rfl ?_
                      refine E_puti 5 25 122 33 dX5_next_285 fl_RX5_76 rfl sh_122 ⟨_, rfl, rfl⟩ rfl rfl ?_
                      exact E_rv dX5_next_288 rfl ⟨rfl, rfl⟩ hy
                    · replace hy := hy.2 (Decidable.not_not.mp h27)
                      refine E_iload_n 1 dX5_next_279 rfl rfl ?_
                      refine E_goto 285 dX5_next_280 rfl ?_
                      refine E_puti 5 25 122 33 dX5_next_285 fl_RX5_76 rfl sh_122 ⟨_, rfl, rfl⟩ rfl rfl ?_
                      exact E_rv dX5_next_288 rfl ⟨rfl, rfl⟩ hy
        · replace hy := hy.2 h20
          refine E_aload_n 0 dX5_next_80 rfl rfl ?_
          refine E_iconst (0 : Int32) dX5_next_81 rfl ?_
          refine E_puti 5 26 122 33 dX5_next_82 fl_RX5_83 rfl sh_122 ⟨_, rfl, rfl⟩ rfl rfl ?_
          refine E_aload_n 0 dX5_next_85 rfl rfl ?_
          refine E_getr 5 21 122 33 133 dX5_next_86 fl_RX5_41 rfl sh_122 (wg_122_21 hG) ?_
          refine E_aload_n 0 dX5_next_89 rfl rfl ?_
          refine E_getw 5 23 122 33 (I 122 23) dX5_next_90 fl_RX5_70 rfl sh_122 rfl ?_
          have c28 := hy.1
          replace hy := hy.2
          refine E_awi 133 200 (I 122 23).toNatClampNeg (I 133 (I 122 23).toNatClampNeg) dX5_next_93 sh_133 c28 rfl rfl ?_
          refine E_bipush (48 : Int32) dX5_next_94 rfl ?_
          refine E_icmp_ne 103 dX5_next_96 rfl (fun h29 => ?_) (fun h29 => ?_)
          · replace hy := hy.1 h29
            refine E_iconst (0 : Int32) dX5_next_103 rfl ?_
            refine E_istore_n 1 dX5_next_104 rfl (Nat.le_of_ble_eq_true rfl) (?_ : Ev (d + 1) mX5_next 136 105 [some (.ref 122), some (.int (0 : Int32)), none] [] 136 (u2 (u2 I 122 24 (I 122 23)) 122 26 (0 : Int32)) G J Φ)
            refine E_iconst (0 : Int32) dX5_next_105 rfl ?_
            refine E_istore_n 2 dX5_next_106 rfl (Nat.le_of_ble_eq_true rfl) (?_ : Ev (d + 1) mX5_next 136 107 [some (.ref 122), some (.int (0 : Int32)), some (.int (0 : Int32))] [] 136 (u2 (u2 I 122 24 (I 122 23)) 122 26 (0 : Int32)) G J Φ)
            exact hy
          · replace hy := hy.2 (Decidable.not_not.mp h29)
            refine E_iconst (1 : Int32) dX5_next_99 rfl ?_
            refine E_goto 104 dX5_next_100 rfl ?_
            refine E_istore_n 1 dX5_next_104 rfl (Nat.le_of_ble_eq_true rfl) (?_ : Ev (d + 1) mX5_next 136 105 [some (.ref 122), some (.int (1 : Int32)), none] [] 136 (u2 (u2 I 122 24 (I 122 23)) 122 26 (0 : Int32)) G J Φ)
            refine E_iconst (0 : Int32) dX5_next_105 rfl ?_
            refine E_istore_n 2 dX5_next_106 rfl (Nat.le_of_ble_eq_true rfl) (?_ : Ev (d + 1) mX5_next 136 107 [some (.ref 122), some (.int (1 : Int32)), some (.int (0 : Int32))] [] 136 (u2 (u2 I 122 24 (I 122 23)) 122 26 (0 : Int32)) G J Φ)
            exact hy
      · replace hy := hy.2 (Decidable.not_not.mp h17)
        refine E_aload_n 0 dX5_next_57 rfl rfl ?_
        refine E_iconst (-1 : Int32) dX5_next_58 rfl ?_
        refine E_puti 5 25 122 33 dX5_next_59 fl_RX5_76 rfl sh_122 ⟨_, rfl, rfl⟩ rfl rfl ?_
        refine E_goto 288 dX5_next_62 rfl ?_
        exact E_rv dX5_next_288 rfl ⟨rfl, rfl⟩ hy
    · replace hy := hy.2 (Decidable.not_not.mp h16)
      refine E_aload_n 0 dX5_next_25 rfl rfl ?_
      refine E_dup dX5_next_26 rfl ?_
      refine E_geti 5 23 122 33 dX5_next_27 fl_RX5_70 rfl sh_122 ?_
      refine E_iconst (1 : Int32) dX5_next_30 rfl ?_
      refine E_iadd dX5_next_31 ?_
      refine E_puti 5 23 122 33 dX5_next_32 fl_RX5_70 rfl sh_122 ⟨_, rfl, rfl⟩ rfl rfl ?_
      refine E_goto 0 dX5_next_35 rfl ?_
      exact hy
set_option maxRecDepth 100000 in
theorem w_X5_next_0 {d : Nat} {I : MI} {G : MG} {J : MJ} {Φ : Ph} (hG : WG G)  (hy : ((I 122 22) ≤ (I 122 23) → (¬ (I 122 23) = (I 122 22) → vp_in (I 122 23) 200 ∧ (Ev d mX5_isFigure 136 0 [some (.int (I 133 (I 122 23).toNatClampNeg))] [] 136 (u2 I 122 24 (I 122 23)) G J (fun r n I4 G4 J4 => ∃ v4 : Int32, r = some (.int v4) ∧ n = 136 ∧ (u2 I 122 24 (I 122 23)) = I4 ∧ G = G4 ∧ J = J4 ∧ ((v4 = 0 → vp_in (I 122 23) 200 ∧ (((I 133 (I 122 23).toNatClampNeg) = (104 : Int32) → Φ none 136 (u2 (u2 (u2 I 122 24 (I 122 23)) 122 23 ((I 122 23) + (1 : Int32))) 122 25 (I 133 (I 122 23).toNatClampNeg)) G J) ∧ (¬ (I 133 (I 122 23).toNatClampNeg) = (104 : Int32) → ((I 133 (I 122 23).toNatClampNeg) = (106 : Int32) → Φ none 136 (u2 (u2 (u2 I 122 24 (I 122 23)) 122 23 ((I 122 23) + (1 : Int32))) 122 25 (I 133 (I 122 23).toNatClampNeg)) G J) ∧ (¬ (I 133 (I 122 23).toNatClampNeg) = (106 : Int32) → ((I 133 (I 122 23).toNatClampNeg) = (109 : Int32) → Φ none 136 (u2 (u2 (u2 I 122 24 (I 122 23)) 122 23 ((I 122 23) + (1 : Int32))) 122 25 (I 133 (I 122 23).toNatClampNeg)) G J) ∧ (¬ (I 133 (I 122 23).toNatClampNeg) = (109 : Int32) → ((I 133 (I 122 23).toNatClampNeg) = (111 : Int32) → Φ none 136 (u2 (u2 (u2 I 122 24 (I 122 23)) 122 23 ((I 122 23) + (1 : Int32))) 122 25 (I 133 (I 122 23).toNatClampNeg)) G J) ∧ (¬ (I 133 (I 122 23).toNatClampNeg) = (111 : Int32) → ((I 133 (I 122 23).toNatClampNeg) = (114 : Int32) → Φ none 136 (u2 (u2 (u2 I 122 24 (I 122 23)) 122 23 ((I 122 23) + (1 : Int32))) 122 25 (I 133 (I 122 23).toNatClampNeg)) G J) ∧ (¬ (I 133 (I 122 23).toNatClampNeg) = (114 : Int32) → (¬ (I 133 (I 122 23).toNatClampNeg) = (59 : Int32) → Φ none 136 (u2 (u2 (u2 I 122 24 (I 122 23)) 122 23 ((I 122 23) + (1 : Int32))) 122 25 (-2 : Int32)) G J) ∧ ((I 133 (I 122 23).toNatClampNeg) = (59 : Int32) → Φ none 136 (u2 (u2 (u2 I 122 24 (I 122 23)) 122 23 ((I 122 23) + (1 : Int32))) 122 25 (I 133 (I 122 23).toNatClampNeg)) G J)))))))) ∧ (¬ v4 = 0 → vp_in (I 122 23) 200 ∧ ((¬ (I 133 (I 122 23).toNatClampNeg) = (48 : Int32) → Ev (d + 1) mX5_next 136 107 [some (.ref 122), some (.int (0 : Int32)), some (.int (0 : Int32))] [] 136 (u2 (u2 I 122 24 (I 122 23)) 122 26 (0 : Int32)) G J Φ) ∧ ((I 133 (I 122 23).toNatClampNeg) = (48 : Int32) → Ev (d + 1) mX5_next 136 107 [some (.ref 122), some (.int (1 : Int32)), some (.int (0 : Int32))] [] 136 (u2 (u2 I 122 24 (I 122 23)) 122 26 (0 : Int32)) G J Φ))))))) ∧ ((I 122 23) = (I 122 22) → Φ none 136 (u2 (u2 I 122 24 (I 122 23)) 122 25 (-1 : Int32)) G J)) ∧ (¬ (I 122 22) ≤ (I 122 23) → vp_in (I 122 23) 200 ∧ ((¬ (I 133 (I 122 23).toNatClampNeg) = (32 : Int32) → (¬ (I 122 23) = (I 122 22) → vp_in (I 122 23) 200 ∧ (Ev d mX5_isFigure 136 0 [some (.int (I 133 (I 122 23).toNatClampNeg))] [] 136 (u2 I 122 24 (I 122 23)) G J (fun r n I19 G19 J19 => ∃ v19 : Int32, r = some (.int v19) ∧ n = 136 ∧ (u2 I 122 24 (I 122 23)) = I19 ∧ G = G19 ∧ J = J19 ∧ ((v19 = 0 → vp_in (I 122 23) 200 ∧ (((I 133 (I 122 23).toNatClampNeg) = (104 : Int32) → Φ none 136 (u2 (u2 (u2 I 122 24 (I 122 23)) 122 23 ((I 122 23) + (1 : Int32))) 122 25 (I 133 (I 122 23).toNatClampNeg)) G J) ∧ (¬ (I 133 (I 122 23).toNatClampNeg) = (104 : Int32) → ((I 133 (I 122 23).toNatClampNeg) = (106 : Int32) → Φ none 136 (u2 (u2 (u2 I 122 24 (I 122 23)) 122 23 ((I 122 23) + (1 : Int32))) 122 25 (I 133 (I 122 23).toNatClampNeg)) G J) ∧ (¬ (I 133 (I 122 23).toNatClampNeg) = (106 : Int32) → ((I 133 (I 122 23).toNatClampNeg) = (109 : Int32) → Φ none 136 (u2 (u2 (u2 I 122 24 (I 122 23)) 122 23 ((I 122 23) + (1 : Int32))) 122 25 (I 133 (I 122 23).toNatClampNeg)) G J) ∧ (¬ (I 133 (I 122 23).toNatClampNeg) = (109 : Int32) → ((I 133 (I 122 23).toNatClampNeg) = (111 : Int32) → Φ none 136 (u2 (u2 (u2 I 122 24 (I 122 23)) 122 23 ((I 122 23) + (1 : Int32))) 122 25 (I 133 (I 122 23).toNatClampNeg)) G J) ∧ (¬ (I 133 (I 122 23).toNatClampNeg) = (111 : Int32) → ((I 133 (I 122 23).toNatClampNeg) = (114 : Int32) → Φ none 136 (u2 (u2 (u2 I 122 24 (I 122 23)) 122 23 ((I 122 23) + (1 : Int32))) 122 25 (I 133 (I 122 23).toNatClampNeg)) G J) ∧ (¬ (I 133 (I 122 23).toNatClampNeg) = (114 : Int32) → (¬ (I 133 (I 122 23).toNatClampNeg) = (59 : Int32) → Φ none 136 (u2 (u2 (u2 I 122 24 (I 122 23)) 122 23 ((I 122 23) + (1 : Int32))) 122 25 (-2 : Int32)) G J) ∧ ((I 133 (I 122 23).toNatClampNeg) = (59 : Int32) → Φ none 136 (u2 (u2 (u2 I 122 24 (I 122 23)) 122 23 ((I 122 23) + (1 : Int32))) 122 25 (I 133 (I 122 23).toNatClampNeg)) G J)))))))) ∧ (¬ v19 = 0 → vp_in (I 122 23) 200 ∧ ((¬ (I 133 (I 122 23).toNatClampNeg) = (48 : Int32) → Ev (d + 1) mX5_next 136 107 [some (.ref 122), some (.int (0 : Int32)), some (.int (0 : Int32))] [] 136 (u2 (u2 I 122 24 (I 122 23)) 122 26 (0 : Int32)) G J Φ) ∧ ((I 133 (I 122 23).toNatClampNeg) = (48 : Int32) → Ev (d + 1) mX5_next 136 107 [some (.ref 122), some (.int (1 : Int32)), some (.int (0 : Int32))] [] 136 (u2 (u2 I 122 24 (I 122 23)) 122 26 (0 : Int32)) G J Φ))))))) ∧ ((I 122 23) = (I 122 22) → Φ none 136 (u2 (u2 I 122 24 (I 122 23)) 122 25 (-1 : Int32)) G J)) ∧ ((I 133 (I 122 23).toNatClampNeg) = (32 : Int32) → Ev (d + 1) mX5_next 136 0 [some (.ref 122), none, none] [] 136 (u2 I 122 23 ((I 122 23) + (1 : Int32))) G J Φ)))) : Ev (d + 1) mX5_next 136 0 [some (.ref 122), none, none] [] 136 I G J Φ := by
  refine E_aload_n 0 dX5_next_0 rfl rfl ?_
  refine E_geti 5 23 122 33 dX5_next_1 fl_RX5_70 rfl sh_122 ?_
  refine E_aload_n 0 dX5_next_4 rfl rfl ?_
  refine E_geti 5 22 122 33 dX5_next_5 fl_RX5_63 rfl sh_122 ?_
  refine E_icmp_ge 38 dX5_next_8 rfl (fun h1 => ?_) (fun h1 => ?_)
  · replace hy := hy.1 h1
    refine E_aload_n 0 dX5_next_38 rfl rfl ?_
    refine E_aload_n 0 dX5_next_39 rfl rfl ?_
    refine E_geti 5 23 122 33 dX5_next_40 fl_RX5_70 rfl sh_122 ?_
    refine E_puti 5 24 122 33 dX5_next_43 fl_RX5_73 rfl sh_122 ⟨_, rfl, rfl⟩ rfl rfl ?_
    refine E_aload_n 0 dX5_next_46 rfl rfl ?_
    refine E_getw 5 23 122 33 (I 122 23) dX5_next_47 fl_RX5_70 rfl sh_122 rfl ?_
    refine E_aload_n 0 dX5_next_50 rfl rfl ?_
    refine E_getw 5 22 122 33 (I 122 22) dX5_next_51 fl_RX5_63 rfl sh_122 rfl ?_
    refine E_icmp_ne 65 dX5_next_54 rfl (fun h2 => ?_) (fun h2 => ?_)
    · replace hy := hy.1 h2
      refine E_aload_n 0 dX5_next_65 rfl rfl ?_
      refine E_getr 5 21 122 33 133 dX5_next_66 fl_RX5_41 rfl sh_122 (wg_122_21 hG) ?_
      refine E_aload_n 0 dX5_next_69 rfl rfl ?_
      refine E_getw 5 23 122 33 (I 122 23) dX5_next_70 fl_RX5_70 rfl sh_122 rfl ?_
      have c3 := hy.1
      replace hy := hy.2
      refine E_awi 133 200 (I 122 23).toNatClampNeg (I 133 (I 122 23).toNatClampNeg) dX5_next_73 sh_133 c3 rfl rfl ?_
      refine E_cs (M := mX5_next) (pc := 74) (As := [.int (I 133 (I 122 23).toNatClampNeg)]) (st := []) mX5_isFigure 1 dX5_next_74 lk_RX5_79 rfl (Nat.le_of_ble_eq_true rfl) ⟨rfl, rfl⟩ (Nat.le_of_ble_eq_true rfl) rfl hy ?_
      rintro r n I4 G4 J4 ⟨v4, rfl, rfl, rfl, rfl, rfl, hy⟩
      show Ev (d + 1) mX5_next 136 77 [some (.ref 122), none, none] [.int v4] 136 (u2 I 122 24 (I 122 23)) G J Φ
      refine E_if_eq 222 dX5_next_77 rfl (fun h5 => ?_) (fun h5 => ?_)
      · replace hy := hy.1 h5
        refine E_aload_n 0 dX5_next_222 rfl rfl ?_
        refine E_getr 5 21 122 33 133 dX5_next_223 fl_RX5_41 rfl sh_122 (wg_122_21 hG) ?_
        refine E_aload_n 0 dX5_next_226 rfl rfl ?_
        refine E_getw 5 23 122 33 (I 122 23) dX5_next_227 fl_RX5_70 rfl sh_122 rfl ?_
        have c6 := hy.1
        replace hy := hy.2
        refine E_awi 133 200 (I 122 23).toNatClampNeg (I 133 (I 122 23).toNatClampNeg) dX5_next_230 sh_133 c6 rfl rfl ?_
        refine E_istore_n 1 dX5_next_231 rfl (Nat.le_of_ble_eq_true rfl) (?_ : Ev (d + 1) mX5_next 136 232 [some (.ref 122), some (.int (I 133 (I 122 23).toNatClampNeg)), none] [] 136 (u2 I 122 24 (I 122 23)) G J Φ)
        refine E_aload_n 0 dX5_next_232 rfl rfl ?_
        refine E_dup dX5_next_233 rfl ?_
        refine E_getw 5 23 122 33 (I 122 23) dX5_next_234 fl_RX5_70 rfl sh_122 rfl ?_
        refine E_iconst (1 : Int32) dX5_next_237 rfl ?_
        refine E_iadd dX5_next_238 ?_
        refine E_puti 5 23 122 33 dX5_next_239 fl_RX5_70 rfl sh_122 ⟨_, rfl, rfl⟩ rfl rfl ?_
        refine E_aload_n 0 dX5_next_242 rfl rfl ?_
        refine E_iload_n 1 dX5_next_243 rfl rfl ?_
        refine E_bipush (104 : Int32) dX5_next_244 rfl ?_
        refine E_icmp_eq 279 dX5_next_246 rfl (fun h7 => ?_) (fun h7 => ?_)
        · replace hy := hy.1 h7
          refine E_iload_n 1 dX5_next_279 rfl rfl ?_
          refine E_goto 285 dX5_next_280 rfl ?_
          refine E_puti 5 25 122 33 dX5_next_285 fl_RX5_76 rfl sh_122 ⟨_, rfl, rfl⟩ rfl rfl ?_
          exact E_rv dX5_next_288 rfl ⟨rfl, rfl⟩ hy
        · replace hy := hy.2 h7
          refine E_iload_n 1 dX5_next_249 rfl rfl ?_
          refine E_bipush (106 : Int32) dX5_next_250 rfl ?_
          refine E_icmp_eq 279 dX5_next_252 rfl (fun h8 => ?_) (fun h8 => ?_)
          · replace hy := hy.1 h8
            refine E_iload_n 1 dX5_next_279 rfl rfl ?_
            refine E_goto 285 dX5_next_280 rfl ?_
            refine E_puti 5 25 122 33 dX5_next_285 fl_RX5_76 rfl sh_122 ⟨_, rfl, rfl⟩ rfl rfl ?_
            exact E_rv dX5_next_288 rfl ⟨rfl, rfl⟩ hy
          · replace hy := hy.2 h8
            refine E_iload_n 1 dX5_next_255 rfl rfl ?_
            refine E_bipush (109 : Int32) dX5_next_256 rfl ?_
            refine E_icmp_eq 279 dX5_next_258 rfl (fun h9 => ?_) (fun h9 => ?_)
            · replace hy := hy.1 h9
              refine E_iload_n 1 dX5_next_279 rfl rfl ?_
              refine E_goto 285 dX5_next_280 rfl ?_
              refine E_puti 5 25 122 33 dX5_next_285 fl_RX5_76 rfl sh_122 ⟨_, rfl, rfl⟩ rfl rfl ?_
              exact E_rv dX5_next_288 rfl ⟨rfl, rfl⟩ hy
            · replace hy := hy.2 h9
              refine E_iload_n 1 dX5_next_261 rfl rfl ?_
              refine E_bipush (111 : Int32) dX5_next_262 rfl ?_
              refine E_icmp_eq 279 dX5_next_264 rfl (fun h10 => ?_) (fun h10 => ?_)
              · replace hy := hy.1 h10
                refine E_iload_n 1 dX5_next_279 rfl rfl ?_
                refine E_goto 285 dX5_next_280 rfl ?_
                refine E_puti 5 25 122 33 dX5_next_285 fl_RX5_76 rfl sh_122 ⟨_, rfl, rfl⟩ rfl rfl ?_
                exact E_rv dX5_next_288 rfl ⟨rfl, rfl⟩ hy
              · replace hy := hy.2 h10
                refine E_iload_n 1 dX5_next_267 rfl rfl ?_
                refine E_bipush (114 : Int32) dX5_next_268 rfl ?_
                refine E_icmp_eq 279 dX5_next_270 rfl (fun h11 => ?_) (fun h11 => ?_)
                · replace hy := hy.1 h11
                  refine E_iload_n 1 dX5_next_279 rfl rfl ?_
                  refine E_goto 285 dX5_next_280 rfl ?_
                  refine E_puti 5 25 122 33 dX5_next_285 fl_RX5_76 rfl sh_122 ⟨_, rfl, rfl⟩ rfl rfl ?_
                  exact E_rv dX5_next_288 rfl ⟨rfl, rfl⟩ hy
                · replace hy := hy.2 h11
                  refine E_iload_n 1 dX5_next_273 rfl rfl ?_
                  refine E_bipush (59 : Int32) dX5_next_274 rfl ?_
                  refine E_icmp_ne 283 dX5_next_276 rfl (fun h12 => ?_) (fun h12 => ?_)
                  · replace hy := hy.1 h12
                    refine E_bipush (-2 : Int32) dX5_next_283 rfl ?_
                    refine E_puti 5 25 122 33 dX5_next_285 fl_RX5_76 rfl sh_122 ⟨_, rfl, rfl⟩ rfl rfl ?_
                    exact E_rv dX5_next_288 rfl ⟨rfl, rfl⟩ hy
                  · replace hy := hy.2 (Decidable.not_not.mp h12)
                    refine E_iload_n 1 dX5_next_279 rfl rfl ?_
                    refine E_goto 285 dX5_next_280 rfl ?_
                    refine E_puti 5 25 122 33 dX5_next_285 fl_RX5_76 rfl sh_122 ⟨_, rfl, rfl⟩ rfl rfl ?_
                    exact E_rv dX5_next_288 rfl ⟨rfl, rfl⟩ hy
      · replace hy := hy.2 h5
        refine E_aload_n 0 dX5_next_80 rfl rfl ?_
        refine E_iconst (0 : Int32) dX5_next_81 rfl ?_
        refine E_puti 5 26 122 33 dX5_next_82 fl_RX5_83 rfl sh_122 ⟨_, rfl, rfl⟩ rfl rfl ?_
        refine E_aload_n 0 dX5_next_85 rfl rfl ?_
        refine E_getr 5 21 122 33 133 dX5_next_86 fl_RX5_41 rfl sh_122 (wg_122_21 hG) ?_
        refine E_aload_n 0 dX5_next_89 rfl rfl ?_
        refine E_getw 5 23 122 33 (I 122 23) dX5_next_90 fl_RX5_70 rfl sh_122 rfl ?_
        have c13 := hy.1
        replace hy := hy.2
        refine E_awi 133 200 (I 122 23).toNatClampNeg (I 133 (I 122 23).toNatClampNeg) dX5_next_93 sh_133 c13 rfl rfl ?_
        refine E_bipush (48 : Int32) dX5_next_94 rfl ?_
        refine E_icmp_ne 103 dX5_next_96 rfl (fun h14 => ?_) (fun h14 => ?_)
        · replace hy := hy.1 h14
          refine E_iconst (0 : Int32) dX5_next_103 rfl ?_
          refine E_istore_n 1 dX5_next_104 rfl (Nat.le_of_ble_eq_true rfl) (?_ : Ev (d + 1) mX5_next 136 105 [some (.ref 122), some (.int (0 : Int32)), none] [] 136 (u2 (u2 I 122 24 (I 122 23)) 122 26 (0 : Int32)) G J Φ)
          refine E_iconst (0 : Int32) dX5_next_105 rfl ?_
          refine E_istore_n 2 dX5_next_106 rfl (Nat.le_of_ble_eq_true rfl) (?_ : Ev (d + 1) mX5_next 136 107 [some (.ref 122), some (.int (0 : Int32)), some (.int (0 : Int32))] [] 136 (u2 (u2 I 122 24 (I 122 23)) 122 26 (0 : Int32)) G J Φ)
          exact hy
        · replace hy := hy.2 (Decidable.not_not.mp h14)
          refine E_iconst (1 : Int32) dX5_next_99 rfl ?_
          refine E_goto 104 dX5_next_100 rfl ?_
          refine E_istore_n 1 dX5_next_104 rfl (Nat.le_of_ble_eq_true rfl) (?_ : Ev (d + 1) mX5_next 136 105 [some (.ref 122), some (.int (1 : Int32)), none] [] 136 (u2 (u2 I 122 24 (I 122 23)) 122 26 (0 : Int32)) G J Φ)
          refine E_iconst (0 : Int32) dX5_next_105 rfl ?_
          refine E_istore_n 2 dX5_next_106 rfl (Nat.le_of_ble_eq_true rfl) (?_ : Ev (d + 1) mX5_next 136 107 [some (.ref 122), some (.int (1 : Int32)), some (.int (0 : Int32))] [] 136 (u2 (u2 I 122 24 (I 122 23)) 122 26 (0 : Int32)) G J Φ)
          exact hy
    · replace hy := hy.2 (Decidable.not_not.mp h2)
      refine E_aload_n 0 dX5_next_57 rfl rfl ?_
      refine E_iconst (-1 : Int32) dX5_next_58 rfl ?_
      refine E_puti 5 25 122 33 dX5_next_59 fl_RX5_76 rfl sh_122 ⟨_, rfl, rfl⟩ rfl rfl ?_
      refine E_goto 288 dX5_next_62 rfl ?_
      exact E_rv dX5_next_288 rfl ⟨rfl, rfl⟩ hy
  · replace hy := hy.2 h1
    refine E_aload_n 0 dX5_next_11 rfl rfl ?_
    refine E_getr 5 21 122 33 133 dX5_next_12 fl_RX5_41 rfl sh_122 (wg_122_21 hG) ?_
    refine E_aload_n 0 dX5_next_15 rfl rfl ?_
    refine E_geti 5 23 122 33 dX5_next_16 fl_RX5_70 rfl sh_122 ?_
    have c15 := hy.1
    replace hy := hy.2
    refine E_ia 133 200 (I 122 23).toNatClampNeg dX5_next_19 sh_133 c15 rfl ?_
    refine E_bipush (32 : Int32) dX5_next_20 rfl ?_
    refine E_icmp_ne 38 dX5_next_22 rfl (fun h16 => ?_) (fun h16 => ?_)
    · replace hy := hy.1 h16
      refine E_aload_n 0 dX5_next_38 rfl rfl ?_
      refine E_aload_n 0 dX5_next_39 rfl rfl ?_
      refine E_geti 5 23 122 33 dX5_next_40 fl_RX5_70 rfl sh_122 ?_
      refine E_puti 5 24 122 33 dX5_next_43 fl_RX5_73 rfl sh_122 ⟨_, rfl, rfl⟩ rfl rfl ?_
      refine E_aload_n 0 dX5_next_46 rfl rfl ?_
      refine E_getw 5 23 122 33 (I 122 23) dX5_next_47 fl_RX5_70 rfl sh_122 rfl ?_
      refine E_aload_n 0 dX5_next_50 rfl rfl ?_
      refine E_getw 5 22 122 33 (I 122 22) dX5_next_51 fl_RX5_63 rfl sh_122 rfl ?_
      refine E_icmp_ne 65 dX5_next_54 rfl (fun h17 => ?_) (fun h17 => ?_)
      · replace hy := hy.1 h17
        refine E_aload_n 0 dX5_next_65 rfl rfl ?_
        refine E_getr 5 21 122 33 133 dX5_next_66 fl_RX5_41 rfl sh_122 (wg_122_21 hG) ?_
        refine E_aload_n 0 dX5_next_69 rfl rfl ?_
        refine E_getw 5 23 122 33 (I 122 23) dX5_next_70 fl_RX5_70 rfl sh_122 rfl ?_
        have c18 := hy.1
        replace hy := hy.2
        refine E_awi 133 200 (I 122 23).toNatClampNeg (I 133 (I 122 23).toNatClampNeg) dX5_next_73 sh_133 c18 rfl rfl ?_
        refine E_cs (M := mX5_next) (pc := 74) (As := [.int (I 133 (I 122 23).toNatClampNeg)]) (st := []) mX5_isFigure 1 dX5_next_74 lk_RX5_79 rfl (Nat.le_of_ble_eq_true rfl) ⟨rfl, rfl⟩ (Nat.le_of_ble_eq_true rfl) rfl hy ?_
        rintro r n I19 G19 J19 ⟨v19, rfl, rfl, rfl, rfl, rfl, hy⟩
        show Ev (d + 1) mX5_next 136 77 [some (.ref 122), none, none] [.int v19] 136 (u2 I 122 24 (I 122 23)) G J Φ
        refine E_if_eq 222 dX5_next_77 rfl (fun h20 => ?_) (fun h20 => ?_)
        · replace hy := hy.1 h20
          refine E_aload_n 0 dX5_next_222 rfl rfl ?_
          refine E_getr 5 21 122 33 133 dX5_next_223 fl_RX5_41 rfl sh_122 (wg_122_21 hG) ?_
          refine E_aload_n 0 dX5_next_226 rfl rfl ?_
          refine E_getw 5 23 122 33 (I 122 23) dX5_next_227 fl_RX5_70 rfl sh_122 rfl ?_
          have c21 := hy.1
          replace hy := hy.2
          refine E_awi 133 200 (I 122 23).toNatClampNeg (I 133 (I 122 23).toNatClampNeg) dX5_next_230 sh_133 c21 rfl rfl ?_
          refine E_istore_n 1 dX5_next_231 rfl (Nat.le_of_ble_eq_true rfl) (?_ : Ev (d + 1) mX5_next 136 232 [some (.ref 122), some (.int (I 133 (I 122 23).toNatClampNeg)), none] [] 136 (u2 I 122 24 (I 122 23)) G J Φ)
          refine E_aload_n 0 dX5_next_232 rfl rfl ?_
          refine E_dup dX5_next_233 rfl ?_
          refine E_getw 5 23 122 33 (I 122 23) dX5_next_234 fl_RX5_70 rfl sh_122 rfl ?_
          refine E_iconst (1 : Int32) dX5_next_237 rfl ?_
          refine E_iadd dX5_next_238 ?_
          refine E_puti 5 23 122 33 dX5_next_239 fl_RX5_70 rfl sh_122 ⟨_, rfl, rfl⟩ rfl rfl ?_
          refine E_aload_n 0 dX5_next_242 rfl rfl ?_
          refine E_iload_n 1 dX5_next_243 rfl rfl ?_
          refine E_bipush (104 : Int32) dX5_next_244 rfl ?_
          refine E_icmp_eq 279 dX5_next_246 rfl (fun h22 => ?_) (fun h22 => ?_)
          · replace hy := hy.1 h22
            refine E_iload_n 1 dX5_next_279 rfl rfl ?_
            refine E_goto 285 dX5_next_280 rfl ?_
            refine E_puti 5 25 122 33 dX5_next_285 fl_RX5_76 rfl sh_122 ⟨_, rfl, rfl⟩ rfl rfl ?_
            exact E_rv dX5_next_288 rfl ⟨rfl, rfl⟩ hy
          · replace hy := hy.2 h22
            refine E_iload_n 1 dX5_next_249 rfl rfl ?_
            refine E_bipush (106 : Int32) dX5_next_250 rfl ?_
            refine E_icmp_eq 279 dX5_next_252 rfl (fun h23 => ?_) (fun h23 => ?_)
            · replace hy := hy.1 h23
              refine E_iload_n 1 dX5_next_279 rfl rfl ?_
              refine E_goto 285 dX5_next_280 rfl ?_
              refine E_puti 5 25 122 33 dX5_next_285 fl_RX5_76 rfl sh_122 ⟨_, rfl, rfl⟩ rfl rfl ?_
              exact E_rv dX5_next_288 rfl ⟨rfl, rfl⟩ hy
            · replace hy := hy.2 h23
              refine E_iload_n 1 dX5_next_255 rfl rfl ?_
              refine E_bipush (109 : Int32) dX5_next_256 rfl ?_
              refine E_icmp_eq 279 dX5_next_258 rfl (fun h24 => ?_) (fun h24 => ?_)
              · replace hy := hy.1 h24
                refine E_iload_n 1 dX5_next_279 rfl rfl ?_
                refine E_goto 285 dX5_next_280 rfl ?_
                refine E_puti 5 25 122 33 dX5_next_285 fl_RX5_76 rfl sh_122 ⟨_, rfl, rfl⟩ rfl rfl ?_
                exact E_rv dX5_next_288 rfl ⟨rfl, rfl⟩ hy
              · replace hy := hy.2 h24
                refine E_iload_n 1 dX5_next_261 rfl rfl ?_
                refine E_bipush (111 : Int32) dX5_next_262 rfl ?_
                refine E_icmp_eq 279 dX5_next_264 rfl (fun h25 => ?_) (fun h25 => ?_)
                · replace hy := hy.1 h25
                  refine E_iload_n 1 dX5_next_279 rfl rfl ?_
                  refine E_goto 285 dX5_next_280 rfl ?_
                  refine E_puti 5 25 122 33 dX5_next_285 fl_RX5_76 rfl sh_122 ⟨_, rfl, rfl⟩ rfl rfl ?_
                  exact E_rv dX5_next_288 rfl ⟨rfl, rfl⟩ hy
                · replace hy := hy.2 h25
                  refine E_iload_n 1 dX5_next_267 rfl rfl ?_
                  refine E_bipush (114 : Int32) dX5_next_268 rfl ?_
                  refine E_icmp_eq 279 dX5_next_270 rfl (fun h26 => ?_) (fun h26 => ?_)
                  · replace hy := hy.1 h26
                    refine E_iload_n 1 dX5_next_279 rfl rfl ?_
                    refine E_goto 285 dX5_next_280 rfl ?_
                    refine E_puti 5 25 122 33 dX5_next_285 fl_RX5_76 rfl sh_122 ⟨_, rfl, rfl⟩ rfl rfl ?_
                    exact E_rv dX5_next_288 rfl ⟨rfl, rfl⟩ hy
                  · replace hy := hy.2 h26
                    refine E_iload_n 1 dX5_next_273 rfl rfl ?_
                    refine E_bipush (59 : Int32) dX5_next_274 rfl ?_
                    refine E_icmp_ne 283 dX5_next_276 rfl (fun h27 => ?_) (fun h27 => ?_)
                    · replace hy := hy.1 h27
                      refine E_bipush (-2 : Int32) dX5_next_283 rfl ?_
                      refine E_puti 5 25 122 33 dX5_next_285 fl_RX5_76 rfl sh_122 ⟨_, rfl, rfl⟩ rfl rfl ?_
                      exact E_rv dX5_next_288 rfl ⟨rfl, rfl⟩ hy
                    · replace hy := hy.2 (Decidable.not_not.mp h27)
                      refine E_iload_n 1 dX5_next_279 rfl rfl ?_
                      refine E_goto 285 dX5_next_280 rfl ?_
                      refine E_puti 5 25 122 33 dX5_next_285 fl_RX5_76 rfl sh_122 ⟨_, rfl, rfl⟩ rfl rfl ?_
                      exact E_rv dX5_next_288 rfl ⟨rfl, rfl⟩ hy
        · replace hy := hy.2 h20
          refine E_aload_n 0 dX5_next_80 rfl rfl ?_
          refine E_iconst (0 : Int32) dX5_next_81 rfl ?_
          refine E_puti 5 26 122 33 dX5_next_82 fl_RX5_83 rfl sh_122 ⟨_, rfl, rfl⟩ rfl rfl ?_
          refine E_aload_n 0 dX5_next_85 rfl rfl ?_
          refine E_getr 5 21 122 33 133 dX5_next_86 fl_RX5_41 rfl sh_122 (wg_122_21 hG) ?_
          refine E_aload_n 0 dX5_next_89 rfl rfl ?_
          refine E_getw 5 23 122 33 (I 122 23) dX5_next_90 fl_RX5_70 rfl sh_122 rfl ?_
          have c28 := hy.1
          replace hy := hy.2
          refine E_awi 133 200 (I 122 23).toNatClampNeg (I 133 (I 122 23).toNatClampNeg) dX5_next_93 sh_133 c28 rfl rfl ?_
          refine E_bipush (48 : Int32) dX5_next_94 rfl ?_
          refine E_icmp_ne 103 dX5_next_96 rfl (fun h29 => ?_) (fun h29 => ?_)
          · replace hy := hy.1 h29
            refine E_iconst (0 : Int32) dX5_next_103 rfl ?_
            refine E_istore_n 1 dX5_next_104 rfl (Nat.le_of_ble_eq_true rfl) (?_ : Ev (d + 1) mX5_next 136 105 [some (.ref 122), some (.int (0 : Int32)), none] [] 136 (u2 (u2 I 122 24 (I 122 23)) 122 26 (0 : Int32)) G J Φ)
            refine E_iconst (0 : Int32) dX5_next_105 rfl ?_
            refine E_istore_n 2 dX5_next_106 rfl (Nat.le_of_ble_eq_true rfl) (?_ : Ev (d + 1) mX5_next 136 107 [some (.ref 122), some (.int (0 : Int32)), some (.int (0 : Int32))] [] 136 (u2 (u2 I 122 24 (I 122 23)) 122 26 (0 : Int32)) G J Φ)
            exact hy
          · replace hy := hy.2 (Decidable.not_not.mp h29)
            refine E_iconst (1 : Int32) dX5_next_99 rfl ?_
            refine E_goto 104 dX5_next_100 rfl ?_
            refine E_istore_n 1 dX5_next_104 rfl (Nat.le_of_ble_eq_true rfl) (?_ : Ev (d + 1) mX5_next 136 105 [some (.ref 122), some (.int (1 : Int32)), none] [] 136 (u2 (u2 I 122 24 (I 122 23)) 122 26 (0 : Int32)) G J Φ)
            refine E_iconst (0 : Int32) dX5_next_105 rfl ?_
            refine E_istore_n 2 dX5_next_106 rfl (Nat.le_of_ble_eq_true rfl) (?_ : Ev (d + 1) mX5_next 136 107 [some (.ref 122), some (.int (1 : Int32)), some (.int (0 : Int32))] [] 136 (u2 (u2 I 122 24 (I 122 23)) 122 26 (0 : Int32)) G J Φ)
            exact hy
      · replace hy := hy.2 (Decidable.not_not.mp h17)
        refine E_aload_n 0 dX5_next_57 rfl rfl ?_
        refine E_iconst (-1 : Int32) dX5_next_58 rfl ?_
        refine E_puti 5 25 122 33 dX5_next_59 fl_RX5_76 rfl sh_122 ⟨_, rfl, rfl⟩ rfl rfl ?_
        refine E_goto 288 dX5_next_62 rfl ?_
        exact E_rv dX5_next_288 rfl ⟨rfl, rfl⟩ hy
    · replace hy := hy.2 (Decidable.not_not.mp h16)
      refine E_aload_n 0 dX5_next_25 rfl rfl ?_
      refine E_dup dX5_next_26 rfl ?_
      refine E_geti 5 23 122 33 dX5_next_27 fl_RX5_70 rfl sh_122 ?_
      refine E_iconst (1 : Int32) dX5_next_30 rfl ?_
      refine E_iadd dX5_next_31 ?_
      refine E_puti 5 23 122 33 dX5_next_32 fl_RX5_70 rfl sh_122 ⟨_, rfl, rfl⟩ rfl rfl ?_
      refine E_goto 0 dX5_next_35 rfl ?_
      exact hy
set_option maxRecDepth 100000 in
theorem w_X5_next_107 {d : Nat} {I : MI} {G : MG} {J : MJ} {Φ : Ph} (hG : WG G)  (x1 : Int32) (x2 : Int32) (hy : ((I 122 22) ≤ (I 122 23) → ((511 : Int32) < (I 122 26) → Φ none 136 (u2 I 122 25 (-2 : Int32)) G J) ∧ (¬ (511 : Int32) < (I 122 26) → (x1 = 0 → Φ none 136 (u2 I 122 25 (0 : Int32)) G J) ∧ (¬ x1 = 0 → (x2 ≤ (1 : Int32) → Φ none 136 (u2 I 122 25 (0 : Int32)) G J) ∧ (¬ x2 ≤ (1 : Int32) → Φ none 136 (u2 I 122 25 (-2 : Int32)) G J)))) ∧ (¬ (I 122 22) ≤ (I 122 23) → vp_in (I 122 23) 200 ∧ (Ev d mX5_isFigure 136 0 [some (.int (I 133 (I 122 23).toNatClampNeg))] [] 136 I G J (fun r n I6 G6 J6 => ∃ v6 : Int32, r = some (.int v6) ∧ n = 136 ∧ I = I6 ∧ G = G6 ∧ J = J6 ∧ ((v6 = 0 → ((511 : Int32) < (I 122 26) → Φ none 136 (u2 I 122 25 (-2 : Int32)) G J) ∧ (¬ (511 : Int32) < (I 122 26) → (x1 = 0 → Φ none 136 (u2 I 122 25 (0 : Int32)) G J) ∧ (¬ x1 = 0 → (x2 ≤ (1 : Int32) → Φ none 136 (u2 I 122 25 (0 : Int32)) G J) ∧ (¬ x2 ≤ (1 : Int32) → Φ none 136 (u2 I 122 25 (-2 : Int32)) G J)))) ∧ (¬ v6 = 0 → ((I 122 26) ≤ (9999 : Int32) → vp_in (I 122 23) 200 ∧ (Ev (d + 1) mX5_next 136 107 [some (.ref 122), some (.int x1), some (.int (x2 + (1 : Int32)))] [] 136 (u2 (u2 I 122 26 ((((10 : Int32) * (I 122 26)) + (I 133 (I 122 23).toNatClampNeg)) - (48 : Int32))) 122 23 ((I 122 23) + (1 : Int32))) G J Φ)) ∧ (¬ (I 122 26) ≤ (9999 : Int32) → Ev (d + 1) mX5_next 136 107 [some (.ref 122), some (.int x1), some (.int (x2 + (1 : Int32)))] [] 136 (u2 (u2 I 122 26 (I 122 26)) 122 23 ((I 122 23) + (1 : Int32))) G J Φ))))))) : Ev (d + 1) mX5_next 136 107 [some (.ref 122), some (.int x1), some (.int x2)] [] 136 I G J Φ := by
  refine E_aload_n 0 dX5_next_107 rfl rfl ?_
  refine E_geti 5 23 122 33 dX5_next_108 fl_RX5_70 rfl sh_122 ?_
  refine E_aload_n 0 dX5_next_111 rfl rfl ?_
  refine E_geti 5 22 122 33 dX5_next_112 fl_RX5_63 rfl sh_122 ?_
  refine E_icmp_ge 190 dX5_next_115 rfl (fun h1 => ?_) (fun h1 => ?_)
  · replace hy := hy.1 h1
    refine E_aload_n 0 dX5_next_190 rfl rfl ?_
    refine E_aload_n 0 dX5_next_191 rfl rfl ?_
    refine E_geti 5 26 122 33 dX5_next_192 fl_RX5_83 rfl sh_122 ?_
    refine E_sipush (511 : Int32) dX5_next_195 rfl ?_
    refine E_icmp_gt 210 dX5_next_198 rfl (fun h2 => ?_) (fun h2 => ?_)
    · replace hy := hy.1 h2
      refine E_bipush (-2 : Int32) dX5_next_210 rfl ?_
      refine E_goto 216 dX5_next_212 rfl ?_
      refine E_puti 5 25 122 33 dX5_next_216 fl_RX5_76 rfl sh_122 ⟨_, rfl, rfl⟩ rfl rfl ?_
      refine E_goto 288 dX5_next_219 rfl ?_
      exact E_rv dX5_next_288 rfl ⟨rfl, rfl⟩ hy
    · replace hy := hy.2 h2
      refine E_iload_n 1 dX5_next_201 rfl rfl ?_
      refine E_if_eq 215 dX5_next_202 rfl (fun h3 => ?_) (fun h3 => ?_)
      · replace hy := hy.1 h3
        refine E_iconst (0 : Int32) dX5_next_215 rfl ?_
        refine E_puti 5 25 122 33 dX5_next_216 fl_RX5_76 rfl sh_122 ⟨_, rfl, rfl⟩ rfl rfl ?_
        refine E_goto 288 dX5_next_219 rfl ?_
        exact E_rv dX5_next_288 rfl ⟨rfl, rfl⟩ hy
      · replace hy := hy.2 h3
        refine E_iload_n 2 dX5_next_205 rfl rfl ?_
        refine E_iconst (1 : Int32) dX5_next_206 rfl ?_
        refine E_icmp_le 215 dX5_next_207 rfl (fun h4 => ?_) (fun h4 => ?_)
        · replace hy := hy.1 h4
          refine E_iconst (0 : Int32) dX5_next_215 rfl ?_
          refine E_puti 5 25 122 33 dX5_next_216 fl_RX5_76 rfl sh_122 ⟨_, rfl, rfl⟩ rfl rfl ?_
          refine E_goto 288 dX5_next_219 rfl ?_
          exact E_rv dX5_next_288 rfl ⟨rfl, rfl⟩ hy
        · replace hy := hy.2 h4
          refine E_bipush (-2 : Int32) dX5_next_210 rfl ?_
          refine E_goto 216 dX5_next_212 rfl ?_
          refine E_puti 5 25 122 33 dX5_next_216 fl_RX5_76 rfl sh_122 ⟨_, rfl, rfl⟩ rfl rfl ?_
          refine E_goto 288 dX5_next_219 rfl ?_
          exact E_rv dX5_next_288 rfl ⟨rfl, rfl⟩ hy
  · replace hy := hy.2 h1
    refine E_aload_n 0 dX5_next_118 rfl rfl ?_
    refine E_getr 5 21 122 33 133 dX5_next_119 fl_RX5_41 rfl sh_122 (wg_122_21 hG) ?_
    refine E_aload_n 0 dX5_next_122 rfl rfl ?_
    refine E_geti 5 23 122 33 dX5_next_123 fl_RX5_70 rfl sh_122 ?_
    have c5 := hy.1
    replace hy := hy.2
    refine E_ia 133 200 (I 122 23).toNatClampNeg dX5_next_126 sh_133 c5 rfl ?_
    refine E_cs (M := mX5_next) (pc := 127) (As := [.int (I 133 (I 122 23).toNatClampNeg)]) (st := []) mX5_isFigure 1 dX5_next_127 lk_RX5_79 rfl (Nat.le_of_ble_eq_true rfl) ⟨rfl, rfl⟩ (Nat.le_of_ble_eq_true rfl) rfl hy ?_
    rintro r n I6 G6 J6 ⟨v6, rfl, rfl, rfl, rfl, rfl, hy⟩
    show Ev (d + 1) mX5_next 136 130 [some (.ref 122), some (.int x1), some (.int x2)] [.int v6] 136 I G J Φ
    refine E_if_eq 190 dX5_next_130 rfl (fun h7 => ?_) (fun h7 => ?_)
    · replace hy := hy.1 h7
      refine E_aload_n 0 dX5_next_190 rfl rfl ?_
      refine E_aload_n 0 dX5_next_191 rfl rfl ?_
      refine E_geti 5 26 122 33 dX5_next_192 fl_RX5_83 rfl sh_122 ?_
      refine E_sipush (511 : Int32) dX5_next_195 rfl ?_
      refine E_icmp_gt 210 dX5_next_198 rfl (fun h8 => ?_) (fun h8 => ?_)
      · replace hy := hy.1 h8
        refine E_bipush (-2 : Int32) dX5_next_210 rfl ?_
        refine E_goto 216 dX5_next_212 rfl ?_
        refine E_puti 5 25 122 33 dX5_next_216 fl_RX5_76 rfl sh_122 ⟨_, rfl, rfl⟩ rfl rfl ?_
        refine E_goto 288 dX5_next_219 rfl ?_
        exact E_rv dX5_next_288 rfl ⟨rfl, rfl⟩ hy
      · replace hy := hy.2 h8
        refine E_iload_n 1 dX5_next_201 rfl rfl ?_
        refine E_if_eq 215 dX5_next_202 rfl (fun h9 => ?_) (fun h9 => ?_)
        · replace hy := hy.1 h9
          refine E_iconst (0 : Int32) dX5_next_215 rfl ?_
          refine E_puti 5 25 122 33 dX5_next_216 fl_RX5_76 rfl sh_122 ⟨_, rfl, rfl⟩ rfl rfl ?_
          refine E_goto 288 dX5_next_219 rfl ?_
          exact E_rv dX5_next_288 rfl ⟨rfl, rfl⟩ hy
        · replace hy := hy.2 h9
          refine E_iload_n 2 dX5_next_205 rfl rfl ?_
          refine E_iconst (1 : Int32) dX5_next_206 rfl ?_
          refine E_icmp_le 215 dX5_next_207 rfl (fun h10 => ?_) (fun h10 => ?_)
          · replace hy := hy.1 h10
            refine E_iconst (0 : Int32) dX5_next_215 rfl ?_
            refine E_puti 5 25 122 33 dX5_next_216 fl_RX5_76 rfl sh_122 ⟨_, rfl, rfl⟩ rfl rfl ?_
            refine E_goto 288 dX5_next_219 rfl ?_
            exact E_rv dX5_next_288 rfl ⟨rfl, rfl⟩ hy
          · replace hy := hy.2 h10
            refine E_bipush (-2 : Int32) dX5_next_210 rfl ?_
            refine E_goto 216 dX5_next_212 rfl ?_
            refine E_puti 5 25 122 33 dX5_next_216 fl_RX5_76 rfl sh_122 ⟨_, rfl, rfl⟩ rfl rfl ?_
            refine E_goto 288 dX5_next_219 rfl ?_
            exact E_rv dX5_next_288 rfl ⟨rfl, rfl⟩ hy
    · replace hy := hy.2 h7
      refine E_aload_n 0 dX5_next_133 rfl rfl ?_
      refine E_aload_n 0 dX5_next_134 rfl rfl ?_
      refine E_geti 5 26 122 33 dX5_next_135 fl_RX5_83 rfl sh_122 ?_
      refine E_sipush (9999 : Int32) dX5_next_138 rfl ?_
      refine E_icmp_le 151 dX5_next_141 rfl (fun h11 => ?_) (fun h11 => ?_)
      · replace hy := hy.1 h11
        refine E_bipush (10 : Int32) dX5_next_151 rfl ?_
        refine E_aload_n 0 dX5_next_153 rfl rfl ?_
        refine E_geti 5 26 122 33 dX5_next_154 fl_RX5_83 rfl sh_122 ?_
        refine E_imul dX5_next_157 ?_
        refine E_aload_n 0 dX5_next_158 rfl rfl ?_
        refine E_getr 5 21 122 33 133 dX5_next_159 fl_RX5_41 rfl sh_122 (wg_122_21 hG) ?_
        refine E_aload_n 0 dX5_next_162 rfl rfl ?_
        refine E_geti 5 23 122 33 dX5_next_163 fl_RX5_70 rfl sh_122 ?_
        have c12 := hy.1
        replace hy := hy.2
        refine E_ia 133 200 (I 122 23).toNatClampNeg dX5_next_166 sh_133 c12 rfl ?_
        refine E_iadd dX5_next_167 ?_
        refine E_bipush (48 : Int32) dX5_next_168 rfl ?_
        refine E_isub dX5_next_170 ?_
        refine E_puti 5 26 122 33 dX5_next_171 fl_RX5_83 rfl sh_122 ⟨_, rfl, rfl⟩ rfl rfl ?_
        refine E_iinc (x2 + (1 : Int32)) dX5_next_174 rfl rfl (Nat.le_of_ble_eq_true rfl) (?_ : Ev (d + 1) mX5_next 136 177 [some (.ref 122), some (.int x1), some (.int (x2 + (1 : Int32)))] [] 136 (u2 I 122 26 ((((10 : Int32) * (I 122 26)) + (I 133 (I 122 23).toNatClampNeg)) - (48 : Int32))) G J Φ)
        refine E_aload_n 0 dX5_next_177 rfl rfl ?_
        refine E_dup dX5_next_178 rfl ?_
        refine E_getw 5 23 122 33 (I 122 23) dX5_next_179 fl_RX5_70 rfl sh_122 rfl ?_
        refine E_iconst (1 : Int32) dX5_next_182 rfl ?_
        refine E_iadd dX5_next_183 ?_
        refine E_puti 5 23 122 33 dX5_next_184 fl_RX5_70 rfl sh_122 ⟨_, rfl, rfl⟩ rfl rfl ?_
        refine E_goto 107 dX5_next_187 rfl ?_
        exact hy
      · replace hy := hy.2 h11
        refine E_aload_n 0 dX5_next_144 rfl rfl ?_
        refine E_geti 5 26 122 33 dX5_next_145 fl_RX5_83 rfl sh_122 ?_
        refine E_goto 171 dX5_next_148 rfl ?_
        refine E_puti 5 26 122 33 dX5_next_171 fl_RX5_83 rfl sh_122 ⟨_, rfl, rfl⟩ rfl rfl ?_
        refine E_iinc (x2 + (1 : Int32)) dX5_next_174 rfl rfl (Nat.le_of_ble_eq_true rfl) (?_ : Ev (d + 1) mX5_next 136 177 [some (.ref 122), some (.int x1), some (.int (x2 + (1 : Int32)))] [] 136 (u2 I 122 26 (I 122 26)) G J Φ)
        refine E_aload_n 0 dX5_next_177 rfl rfl ?_
        refine E_dup dX5_next_178 rfl ?_
        refine E_getw 5 23 122 33 (I 122 23) dX5_next_179 fl_RX5_70 rfl sh_122 rfl ?_
        refine E_iconst (1 : Int32) dX5_next_182 rfl ?_
        refine E_iadd dX5_next_183 ?_
        refine E_puti 5 23 122 33 dX5_next_184 fl_RX5_70 rfl sh_122 ⟨_, rfl, rfl⟩ rfl rfl ?_
        refine E_goto 107 dX5_next_187 rfl ?_
        exact hy
set_option maxRecDepth 100000 in
theorem w_X5_now {d : Nat} {I : MI} {G : MG} {J : MJ} {Φ : Ph} (hG : WG G) (x1 : Int32) (hy : (x1 = nI 0 → Φ (some (.int (I 123 14))) 136 I G J) ∧ (¬ x1 = nI 0 → (x1 = nI 1 → Φ (some (.int (I 123 15))) 136 I G J) ∧ (¬ x1 = nI 1 → (x1 = nI 2 → Ev d mX5_over 136 0 [some (.ref 122), none, none] [] 136 I G J (fun r n I1 G1 J1 => ∃ v1 : Int32, r = some (.int v1) ∧ n = 136 ∧ I = I1 ∧ G = G1 ∧ J = J1 ∧ (Φ (some (.int v1)) 136 I G J))) ∧ (¬ x1 = nI 2 → (x1 = nI 3 → Φ (some (.int (I 123 16))) 136 I G J) ∧ (¬ x1 = nI 3 → (x1 = nI 4 → Φ (some (.int (I 122 28))) 136 I G J) ∧ (¬ x1 = nI 4 → Φ (some (.int (-1 : Int32))) 136 I G J)))))) : Ev (d + 1) mX5_now 136 0 [some (.ref 122), some (.int x1)] [] 136 I G J Φ := by
  refine E_iload_n 1 dX5_now_0 rfl rfl ?_
  refine E_tsw 0 [36, 44, 52, 57, 65] 70 dX5_now_1 rfl rfl rfl (by decide) ?_
  refine ⟨fun h2 => ?_, fun h2 => ?_⟩
  · replace hy := hy.1 h2
    dsimp only
    refine E_aload_n 0 dX5_now_36 rfl rfl ?_
    refine E_getr 5 0 122 33 123 dX5_now_37 fl_RX5_7 rfl sh_122 (wg_122_0 hG) ?_
    refine E_bipush (14 : Int32) dX5_now_40 rfl ?_
    refine E_ia 123 1400 14 dX5_now_42 sh_123 (vpd (by decide)) rfl ?_
    exact E_ri dX5_now_43 rfl ⟨rfl, rfl⟩ hy
  replace hy := hy.2 h2
  refine ⟨fun h3 => ?_, fun h3 => ?_⟩
  · replace hy := hy.1 h3
    dsimp only
    refine E_aload_n 0 dX5_now_44 rfl rfl ?_
    refine E_getr 5 0 122 33 123 dX5_now_45 fl_RX5_7 rfl sh_122 (wg_122_0 hG) ?_
    refine E_bipush (15 : Int32) dX5_now_48 rfl ?_
    refine E_ia 123 1400 15 dX5_now_50 sh_123 (vpd (by decide)) rfl ?_
    exact E_ri dX5_now_51 rfl ⟨rfl, rfl⟩ hy
  replace hy := hy.2 h3
  refine ⟨fun h4 => ?_, fun h4 => ?_⟩
  · replace hy := hy.1 h4
    dsimp only
    refine E_aload_n 0 dX5_now_52 rfl rfl ?_
    refine E_cv (M := mX5_now) (pc := 53) (As := []) (st := []) mX5_over 0 5 33 dX5_now_53 lk_RX5_168 ⟨_, rfl, rfl⟩ sh_122 rfl (Nat.le_of_ble_eq_true rfl) ⟨rfl, rfl⟩ (Nat.le_of_ble_eq_true rfl) rfl hy ?_
    rintro r n I1 G1 J1 ⟨v1, rfl, rfl, rfl, rfl, rfl, hy⟩
    show Ev (d + 1) mX5_now 136 56 [some (.ref 122), some (.int x1)] [.int v1] 136 I G J Φ
    exact E_ri dX5_now_56 rfl ⟨rfl, rfl⟩ hy
  replace hy := hy.2 h4
  refine ⟨fun h5 => ?_, fun h5 => ?_⟩
  · replace hy := hy.1 h5
    dsimp only
    refine E_aload_n 0 dX5_now_57 rfl rfl ?_
    refine E_getr 5 0 122 33 123 dX5_now_58 fl_RX5_7 rfl sh_122 (wg_122_0 hG) ?_
    refine E_bipush (16 : Int32) dX5_now_61 rfl ?_
    refine E_ia 123 1400 16 dX5_now_63 sh_123 (vpd (by decide)) rfl ?_
    exact E_ri dX5_now_64 rfl ⟨rfl, rfl⟩ hy
  replace hy := hy.2 h5
  refine ⟨fun h6 => ?_, fun h6 => ?_⟩
  · replace hy := hy.1 h6
    dsimp only
    refine E_aload_n 0 dX5_now_65 rfl rfl ?_
    refine E_geti 5 28 122 33 dX5_now_66 fl_RX5_146 rfl sh_122 ?_
    exact E_ri dX5_now_69 rfl ⟨rfl, rfl⟩ hy
  replace hy := hy.2 h6
  show Ev (d + 1) mX5_now 136 70 [some (.ref 122), some (.int x1)] [] 136 I G J Φ
  refine E_iconst (-1 : Int32) dX5_now_70 rfl ?_
  exact E_ri dX5_now_71 rfl ⟨rfl, rfl⟩ hy
set_option maxRecDepth 100000 in
theorem w_X5_odds {d : Nat} {I : MI} {G : MG} {J : MJ} {Φ : Ph} (hG : WG G) (x1 : Int32) (x2 : Int32) (x3 : Int32) (x4 : Int32) (hy : Ev d mX5_isHill 136 0 [some (.ref 122), some (.int x1)] [] 136 I G J (fun r n I1 G1 J1 => ∃ v1 : Int32, r = some (.int v1) ∧ n = 136 ∧ I = I1 ∧ G = G1 ∧ J = J1 ∧ ((v1 = 0 → Φ (some (.long (-1 : Int64))) 136 I G J) ∧ (¬ v1 = 0 → Ev d mX5_in 136 0 [some (.long (x2.toInt64)), none, some (.long (1 : Int64)), none, some (.long (4 : Int64)), none] [] 136 I G J (fun r n I3 G3 J3 => ∃ v3 : Int32, r = some (.int v3) ∧ n = 136 ∧ I = I3 ∧ G = G3 ∧ J = J3 ∧ ((v3 = 0 → Φ (some (.long (-1 : Int64))) 136 I G J) ∧ (¬ v3 = 0 → Ev d mX5_in 136 0 [some (.long (x3.toInt64)), none, some (.long (0 : Int64)), none, some (.long (10 : Int64)), none] [] 136 I G J (fun r n I5 G5 J5 => ∃ v5 : Int32, r = some (.int v5) ∧ n = 136 ∧ I = I5 ∧ G = G5 ∧ J = J5 ∧ ((v5 = 0 → Φ (some (.long (-1 : Int64))) 136 I G J) ∧ (¬ v5 = 0 → Ev d mX5_in 136 0 [some (.long (x4.toInt64)), none, some (.long (0 : Int64)), none, some (.long (1 : Int64)), none] [] 136 I G J (fun r n I7 G7 J7 => ∃ v7 : Int32, r = some (.int v7) ∧ n = 136 ∧ I = I7 ∧ G = G7 ∧ J = J7 ∧ ((¬ v7 = 0 → Ev (d + 1) mX5_odds 136 56 [some (.ref 122), some (.int x1), some (.int x2), some (.int x3), some (.int x4), some (.long (0 : Int64)), none, some (.long (1 : Int64)), none, some (.int (0 : Int32)), none, none, none] [] 136 I G J Φ) ∧ (v7 = 0 → Φ (some (.long (-1 : Int64))) 136 I G J))))))))))))) : Ev (d + 1) mX5_odds 136 0 [some (.ref 122), some (.int x1), some (.int x2), some (.int x3), some (.int x4), none, none, none, none, none, none, none, none] [] 136 I G J Φ := by
  refine E_aload_n 0 dX5_odds_0 rfl rfl ?_
  refine E_iload_n 1 dX5_odds_1 rfl rfl ?_
  refine E_cv (M := mX5_odds) (pc := 2) (As := [.int x1]) (st := []) mX5_isHill 1 5 33 dX5_odds_2 lk_RX5_149 ⟨_, rfl, rfl⟩ sh_122 rfl (Nat.le_of_ble_eq_true rfl) ⟨rfl, rfl⟩ (Nat.le_of_ble_eq_true rfl) rfl hy ?_
  rintro r n I1 G1 J1 ⟨v1, rfl, rfl, rfl, rfl, rfl, hy⟩
  show Ev (d + 1) mX5_odds 136 5 [some (.ref 122), some (.int x1), some (.int x2), some (.int x3), some (.int x4), none, none, none, none, none, none, none, none] [.int v1] 136 I G J Φ
  refine E_if_eq 43 dX5_odds_5 rfl (fun h2 => ?_) (fun h2 => ?_)
  · replace hy := hy.1 h2
    refine E_ldc2 (-1 : Int64) dX5_odds_43 cl_RX5_228 ?_
    exact E_rl dX5_odds_46 rfl ⟨rfl, rfl⟩ hy
  · replace hy := hy.2 h2
    refine E_iload_n 2 dX5_odds_8 rfl rfl ?_
    refine E_i2l dX5_odds_9 ?_
    refine E_lconst (1 : Int64) dX5_odds_10 rfl ?_
    refine E_ldc2 (4 : Int64) dX5_odds_11 cl_RX5_224 ?_
    refine E_cs (M := mX5_odds) (pc := 14) (As := [.long (x2.toInt64), .long (1 : Int64), .long (4 : Int64)]) (st := []) mX5_in 3 dX5_odds_14 lk_RX5_59 rfl (Nat.le_of_ble_eq_true rfl) ⟨rfl, rfl⟩ (Nat.le_of_ble_eq_true rfl) rfl hy ?_
    rintro r n I3 G3 J3 ⟨v3, rfl, rfl, rfl, rfl, rfl, hy⟩
    show Ev (d + 1) mX5_odds 136 17 [some (.ref 122), some (.int x1), some (.int x2), some (.int x3), some (.int x4), none, none, none, none, none, none, none, none] [.int v3] 136 I G J Φ
    refine E_if_eq 43 dX5_odds_17 rfl (fun h4 => ?_) (fun h4 => ?_)
    · replace hy := hy.1 h4
      refine E_ldc2 (-1 : Int64) dX5_odds_43 cl_RX5_228 ?_
      exact E_rl dX5_odds_46 rfl ⟨rfl, rfl⟩ hy
    · replace hy := hy.2 h4
      refine E_iload_n 3 dX5_odds_20 rfl rfl ?_
      refine E_i2l dX5_odds_21 ?_
      refine E_lconst (0 : Int64) dX5_odds_22 rfl ?_
      refine E_ldc2 (10 : Int64) dX5_odds_23 cl_RX5_226 ?_
      refine E_cs (M := mX5_odds) (pc := 26) (As := [.long (x3.toInt64), .long (0 : Int64), .long (10 : Int64)]) (st := []) mX5_in 3 dX5_odds_26 lk_RX5_59 rfl (Nat.le_of_ble_eq_true rfl) ⟨rfl, rfl⟩ (Nat.le_of_ble_eq_true rfl) rfl hy ?_
      rintro r n I5 G5 J5 ⟨v5, rfl, rfl, rfl, rfl, rfl, hy⟩
      show Ev (d + 1) mX5_odds 136 29 [some (.ref 122), some (.int x1), some (.int x2), some (.int x3), some (.int x4), none, none, none, none, none, none, none, none] [.int v5] 136 I G J Φ
      refine E_if_eq 43 dX5_odds_29 rfl (fun h6 => ?_) (fun h6 => ?_)
      · replace hy := hy.1 h6
        refine E_ldc2 (-1 : Int64) dX5_odds_43 cl_RX5_228 ?_
        exact E_rl dX5_odds_46 rfl ⟨rfl, rfl⟩ hy
      · replace hy := hy.2 h6
        refine E_iload dX5_odds_32 rfl ?_
        refine E_i2l dX5_odds_34 ?_
        refine E_lconst (0 : Int64) dX5_odds_35 rfl ?_
        refine E_lconst (1 : Int64) dX5_odds_36 rfl ?_
        refine E_cs (M := mX5_odds) (pc := 37) (As := [.long (x4.toInt64), .long (0 : Int64), .long (1 : Int64)]) (st := []) mX5_in 3 dX5_odds_37 lk_RX5_59 rfl (Nat.le_of_ble_eq_true rfl) ⟨rfl, rfl⟩ (Nat.le_of_ble_eq_true rfl) rfl hy ?_
        rintro r n I7 G7 J7 ⟨v7, rfl, rfl, rfl, rfl, rfl, hy⟩
        show Ev (d + 1) mX5_odds 136 40 [some (.ref 122), some (.int x1), some (.int x2), some (.int x3), some (.int x4), none, none, none, none, none, none, none, none] [.int v7] 136 I G J Φ
        refine E_if_ne 47 dX5_odds_40 rfl (fun h8 => ?_) (fun h8 => ?_)
        · replace hy := hy.1 h8
          refine E_lconst (0 : Int64) dX5_odds_47 rfl ?_
          refine E_lstore dX5_odds_48 (Nat.le_of_ble_eq_true rfl) (?_ : Ev (d + 1) mX5_odds 136 50 [some (.ref 122), some (.int x1), some (.int x2), some (.int x3), some (.int x4), some (.long (0 : Int64)), none, none, none, none, none, none, none] [] 136 I G J Φ)
          refine E_lconst (1 : Int64) dX5_odds_50 rfl ?_
          refine E_lstore dX5_odds_51 (Nat.le_of_ble_eq_true rfl) (?_ : Ev (d + 1) mX5_odds 136 53 [some (.ref 122), some (.int x1), some (.int x2), some (.int x3), some (.int x4), some (.long (0 : Int64)), none, some (.long (1 : Int64)), none, none, none, none, none] [] 136 I G J Φ)
          refine E_iconst (0 : Int32) dX5_odds_53 rfl ?_
          refine E_istore dX5_odds_54 (Nat.le_of_ble_eq_true rfl) (?_ : Ev (d + 1) mX5_odds 136 56 [some (.ref 122), some (.int x1), some (.int x2), some (.int x3), some (.int x4), some (.long (0 : Int64)), none, some (.long (1 : Int64)), none, some (.int (0 : Int32)), none, none, none] [] 136 I G J Φ)
          exact hy
        · replace hy := hy.2 (Decidable.not_not.mp h8)
          refine E_ldc2 (-1 : Int64) dX5_odds_43 cl_RX5_228 ?_
          exact E_rl dX5_odds_46 rfl ⟨rfl, rfl⟩ hy
set_option maxRecDepth 100000 in
theorem w_X5_odds_56 {d : Nat} {I : MI} {G : MG} {J : MJ} {Φ : Ph} (hG : WG G)  (x1 : Int32) (x2 : Int32) (x3 : Int32) (x4 : Int32) (x5 : Int64) (x7 : Int64) (x9 : Int32) (hy : (x2 ≤ x9 → Ev (d + 1) mX5_odds 136 79 [some (.ref 122), some (.int x1), some (.int x2), some (.int x3), some (.int x4), some (.long x5), none, some (.long x7), none, some (.int (0 : Int32)), none, none, none] [] 136 I G J Φ) ∧ (¬ x2 ≤ x9 → Ev (d + 1) mX5_odds 136 56 [some (.ref 122), some (.int x1), some (.int x2), some (.int x3), some (.int x4), some (.long x5), none, some (.long (x7 * (10 : Int64))), none, some (.int (x9 + (1 : Int32))), none, none, none] [] 136 I G J Φ)) : Ev (d + 1) mX5_odds 136 56 [some (.ref 122), some (.int x1), some (.int x2), some (.int x3), some (.int x4), some (.long x5), none, some (.long x7), none, some (.int x9), none, none, none] [] 136 I G J Φ := by
  refine E_iload dX5_odds_56 rfl ?_
  refine E_iload_n 2 dX5_odds_58 rfl rfl ?_
  refine E_icmp_ge 76 dX5_odds_59 rfl (fun h1 => ?_) (fun h1 => ?_)
  · replace hy := hy.1 h1
    refine E_iconst (0 : Int32) dX5_odds_76 rfl ?_
    refine E_istore dX5_odds_77 (Nat.le_of_ble_eq_true rfl) (?_ : Ev (d + 1) mX5_odds 136 79 [some (.ref 122), some (.int x1), some (.int x2), some (.int x3), some (.int x4), some (.long x5), none, some (.long x7), none, some (.int (0 : Int32)), none, none, none] [] 136 I G J Φ)
    exact hy
  · replace hy := hy.2 h1
    refine E_lload dX5_odds_62 rfl ?_
    refine E_ldc2 (10 : Int64) dX5_odds_64 cl_RX5_226 ?_
    refine E_lmul dX5_odds_67 ?_
    refine E_lstore dX5_odds_68 (Nat.le_of_ble_eq_true rfl) (?_ : Ev (d + 1) mX5_odds 136 70 [some (.ref 122), some (.int x1), some (.int x2), some (.int x3), some (.int x4), some (.long x5), none, some (.long (x7 * (10 : Int64))), none, some (.int x9), none, none, none] [] 136 I G J Φ)
    refine E_iinc (x9 + (1 : Int32)) dX5_odds_70 rfl rfl (Nat.le_of_ble_eq_true rfl) (?_ : Ev (d + 1) mX5_odds 136 73 [some (.ref 122), some (.int x1), some (.int x2), some (.int x3), some (.int x4), some (.long x5), none, some (.long (x7 * (10 : Int64))), none, some (.int (x9 + (1 : Int32))), none, none, none] [] 136 I G J Φ)
    refine E_goto 56 dX5_odds_73 rfl ?_
    exact hy
set_option maxRecDepth 100000 in
theorem w_X5_odds_79 {d : Nat} {I : MI} {G : MG} {J : MJ} {Φ : Ph} (hG : WG G)  (x1 : Int32) (x2 : Int32) (x3 : Int32) (x4 : Int32) (x5 : Int64) (x7 : Int64) (x9 : Int32) (hy : (((1 : Int32) <<< (x2 &&& 31)) ≤ x9 → Ev d mX5_common 136 0 [some (.long x7), none, some (.long x5), none, none, none, none, none, none, none] [] 136 I G J (fun r n I2 G2 J2 => ∃ v2 : Int64, r = some (.long v2) ∧ n = 136 ∧ I = I2 ∧ G = G2 ∧ J = J2 ∧ ((¬ x4 = 0 → ¬ v2 = 0 ∧ (Φ (some (.long (x7 / v2))) 136 I G J)) ∧ (x4 = 0 → ¬ v2 = 0 ∧ (Φ (some (.long (x5 / v2))) 136 I G J))))) ∧ (¬ ((1 : Int32) <<< (x2 &&& 31)) ≤ x9 → Ev d mX5_copy 136 0 [some (.ref 122), some (.int (0 : Int32)), some (.int (100 : Int32)), none] [] 136 I G J (fun r n I6 G6 J6 => r = none ∧ n = 136 ∧ G = G6 ∧ J = J6 ∧ (Ev d mX5_orderAll 136 0 [some (.ref 122), some (.int (100 : Int32)), some (.int x1), some (.int (7 : Int32)), none] [] 136 I6 G J (fun r n I7 G7 J7 => r = none ∧ n = 136 ∧ G = G7 ∧ J = J7 ∧ (Ev (d + 1) mX5_odds 136 109 [some (.ref 122), some (.int x1), some (.int x2), some (.int x3), some (.int x4), some (.long x5), none, some (.long x7), none, some (.int x9), some (.long (1 : Int64)), none, some (.int (0 : Int32))] [] 136 I7 G J Φ)))))) : Ev (d + 1) mX5_odds 136 79 [some (.ref 122), some (.int x1), some (.int x2), some (.int x3), some (.int x4), some (.long x5), none, some (.long x7), none, some (.int x9), none, none, none] [] 136 I G J Φ := by
  refine E_iload dX5_odds_79 rfl ?_
  refine E_iconst (1 : Int32) dX5_odds_81 rfl ?_
  refine E_iload_n 2 dX5_odds_82 rfl rfl ?_
  refine E_ishl dX5_odds_83 ?_
  refine E_icmp_ge 186 dX5_odds_84 rfl (fun h1 => ?_) (fun h1 => ?_)
  · replace hy := hy.1 h1
    refine E_lload dX5_odds_186 rfl ?_
    refine E_lload dX5_odds_188 rfl ?_
    refine E_cs (M := mX5_odds) (pc := 190) (As := [.long x7, .long x5]) (st := []) mX5_common 2 dX5_odds_190 lk_RX5_230 rfl (Nat.le_of_ble_eq_true rfl) ⟨rfl, rfl⟩ (Nat.le_of_ble_eq_true rfl) rfl hy ?_
    rintro r n I2 G2 J2 ⟨v2, rfl, rfl, rfl, rfl, rfl, hy⟩
    show Ev (d + 1) mX5_odds 136 193 [some (.ref 122), some (.int x1), some (.int x2), some (.int x3), some (.int x4), some (.long x5), none, some (.long x7), none, some (.int x9), none, none, none] [.long v2] 136 I G J Φ
    refine E_lstore dX5_odds_193 (Nat.le_of_ble_eq_true rfl) (?_ : Ev (d + 1) mX5_odds 136 195 [some (.ref 122), some (.int x1), some (.int x2), some (.int x3), some (.int x4), some (.long x5), none, some (.long x7), none, some (.long v2), none, none, none] [] 136 I G J Φ)
    refine E_iload dX5_odds_195 rfl ?_
    refine E_if_ne 208 dX5_odds_197 rfl (fun h3 => ?_) (fun h3 => ?_)
    · replace hy := hy.1 h3
      refine E_lload dX5_odds_208 rfl ?_
      refine E_lload dX5_odds_210 rfl ?_
      have c4 := hy.1
      replace hy := hy.2
      refine E_ldiv dX5_odds_212 c4 ?_
      exact E_rl dX5_odds_213 rfl ⟨rfl, rfl⟩ hy
    · replace hy := hy.2 (Decidable.not_not.mp h3)
      refine E_lload dX5_odds_200 rfl ?_
      refine E_lload dX5_odds_202 rfl ?_
      have c5 := hy.1
      replace hy := hy.2
      refine E_ldiv dX5_odds_204 c5 ?_
      refine E_goto 213 dX5_odds_205 rfl ?_
      exact E_rl dX5_odds_213 rfl ⟨rfl, rfl⟩ hy
  · replace hy := hy.2 h1
    refine E_aload_n 0 dX5_odds_87 rfl rfl ?_
    refine E_iconst (0 : Int32) dX5_odds_88 rfl ?_
    refine E_bipush (100 : Int32) dX5_odds_89 rfl ?_
    refine E_cv (M := mX5_odds) (pc := 91) (As := [.int (0 : Int32), .int (100 : Int32)]) (st := []) mX5_copy 2 5 33 dX5_odds_91 lk_RX5_172 ⟨_, rfl, rfl⟩ sh_122 rfl (Nat.le_of_ble_eq_true rfl) ⟨rfl, rfl⟩ (Nat.le_of_ble_eq_true rfl) rfl hy ?_
    rintro r n I6 G6 J6 ⟨rfl, rfl, rfl, rfl, hy⟩
    show Ev (d + 1) mX5_odds 136 94 [some (.ref 122), some (.int x1), some (.int x2), some (.int x3), some (.int x4), some (.long x5), none, some (.long x7), none, some (.int x9), none, none, none] [] 136 I6 G J Φ
    refine E_aload_n 0 dX5_odds_94 rfl rfl ?_
    refine E_bipush (100 : Int32) dX5_odds_95 rfl ?_
    refine E_iload_n 1 dX5_odds_97 rfl rfl ?_
    refine E_bipush (7 : Int32) dX5_odds_98 rfl ?_
    refine E_cv (M := mX5_odds) (pc := 100) (As := [.int (100 : Int32), .int x1, .int (7 : Int32)]) (st := []) mX5_orderAll 3 5 33 dX5_odds_100 lk_RX5_203 ⟨_, rfl, rfl⟩ sh_122 rfl (Nat.le_of_ble_eq_true rfl) ⟨rfl, rfl⟩ (Nat.le_of_ble_eq_true rfl) rfl hy ?_
    rintro r n I7 G7 J7 ⟨rfl, rfl, rfl, rfl, hy⟩
    show Ev (d + 1) mX5_odds 136 103 [some (.ref 122), some (.int x1), some (.int x2), some (.int x3), some (.int x4), some (.long x5), none, some (.long x7), none, some (.int x9), none, none, none] [] 136 I7 G J Φ
    refine E_lconst (1 : Int64) dX5_odds_103 rfl ?_
    refine E_lstore dX5_odds_104 (Nat.le_of_ble_eq_true rfl) (?_ : Ev (d + 1) mX5_odds 136 106 [some (.ref 122), some (.int x1), some (.int x2), some (.int x3), some (.int x4), some (.long x5), none, some (.long x7), none, some (.int x9), some (.long (1 : Int64)), none, none] [] 136 I7 G J Φ)
    refine E_iconst (0 : Int32) dX5_odds_106 rfl ?_
    refine E_istore dX5_odds_107 (Nat.le_of_ble_eq_true rfl) (?_ : Ev (d + 1) mX5_odds 136 109 [some (.ref 122), some (.int x1), some (.int x2), some (.int x3), some (.int x4), some (.long x5), none, some (.long x7), none, some (.int x9), some (.long (1 : Int64)), none, some (.int (0 : Int32))] [] 136 I7 G J Φ)
    exact hy
set_option maxRecDepth 100000 in
theorem w_X5_odds_109 {d : Nat} {I : MI} {G : MG} {J : MJ} {Φ : Ph} (hG : WG G)  (x1 : Int32) (x2 : Int32) (x3 : Int32) (x4 : Int32) (x5 : Int64) (x7 : Int64) (x9 : Int32) (x10 : Int64) (x12 : Int32) (hy : (x2 ≤ x12 → Ev d mX5_isOver 136 0 [some (.ref 122), some (.int (100 : Int32)), some (.int x1)] [] 136 I G J (fun r n I2 G2 J2 => ∃ v2 : Int32, r = some (.int v2) ∧ n = 136 ∧ I = I2 ∧ G = G2 ∧ J = J2 ∧ ((v2 = 0 → Ev (d + 1) mX5_odds 136 79 [some (.ref 122), some (.int x1), some (.int x2), some (.int x3), some (.int x4), some (.long (x5 + (0 : Int64))), none, some (.long x7), none, some (.int (x9 + (1 : Int32))), none, none, none] [] 136 I G J Φ) ∧ (¬ v2 = 0 → Ev (d + 1) mX5_odds 136 79 [some (.ref 122), some (.int x1), some (.int x2), some (.int x3), some (.int x4), some (.long (x5 + x10)), none, some (.long x7), none, some (.int (x9 + (1 : Int32))), none, none, none] [] 136 I G J Φ)))) ∧ (¬ x2 ≤ x12 → Ev d mX5_has 136 0 [some (.int x9), some (.int x12)] [] 136 I G J (fun r n I4 G4 J4 => ∃ v4 : Int32, r = some (.int v4) ∧ n = 136 ∧ I = I4 ∧ G = G4 ∧ J = J4 ∧ (Ev d mX5_goToDusk 136 0 [some (.ref 122), some (.int (100 : Int32)), some (.int v4), none] [] 136 I G J (fun r n I5 G5 J5 => r = none ∧ n = 136 ∧ G = G5 ∧ J = J5 ∧ (Ev d mX5_has 136 0 [some (.int x9), some (.int x12)] [] 136 I5 G J (fun r n I6 G6 J6 => ∃ v6 : Int32, r = some (.int v6) ∧ n = 136 ∧ I5 = I6 ∧ G = G6 ∧ J = J6 ∧ ((v6 = 0 → Ev (d + 1) mX5_odds 136 109 [some (.ref 122), some (.int x1), some (.int x2), some (.int x3), some (.int x4), some (.long x5), none, some (.long x7), none, some (.int x9), some (.long (x10 * (((10 : Int32) - x3).toInt64))), none, some (.int (x12 + (1 : Int32)))] [] 136 I5 G J Φ) ∧ (¬ v6 = 0 → Ev (d + 1) mX5_odds 136 109 [some (.ref 122), some (.int x1), some (.int x2), some (.int x3), some (.int x4), some (.long x5), none, some (.long x7), none, some (.int x9), some (.long (x10 * (x3.toInt64))), none, some (.int (x12 + (1 : Int32)))] [] 136 I5 G J Φ))))))))) : Ev (d + 1) mX5_odds 136 109 [some (.ref 122), some (.int x1), some (.int x2), some (.int x3), some (.int x4), some (.long x5), none, some (.long x7), none, some (.int x9), some (.long x10), none, some (.int x12)] [] 136 I G J Φ := by
  refine E_iload dX5_odds_109 rfl ?_
  refine E_iload_n 2 dX5_odds_111 rfl rfl ?_
  refine E_icmp_ge 159 dX5_odds_112 rfl (fun h1 => ?_) (fun h1 => ?_)
  · replace hy := hy.1 h1
    refine E_lload dX5_odds_159 rfl ?_
    refine E_aload_n 0 dX5_odds_161 rfl rfl ?_
    refine E_bipush (100 : Int32) dX5_odds_162 rfl ?_
    refine E_iload_n 1 dX5_odds_164 rfl rfl ?_
    refine E_cv (M := mX5_odds) (pc := 165) (As := [.int (100 : Int32), .int x1]) (st := [.long x5]) mX5_isOver 2 5 33 dX5_odds_165 lk_RX5_158 ⟨_, rfl, rfl⟩ sh_122 rfl (Nat.le_of_ble_eq_true rfl) ⟨rfl, rfl⟩ (Nat.le_of_ble_eq_true rfl) rfl hy ?_
    rintro r n I2 G2 J2 ⟨v2, rfl, rfl, rfl, rfl, rfl, hy⟩
    show Ev (d + 1) mX5_odds 136 168 [some (.ref 122), some (.int x1), some (.int x2), some (.int x3), some (.int x4), some (.long x5), none, some (.long x7), none, some (.int x9), some (.long x10), none, some (.int x12)] [.int v2, .long x5] 136 I G J Φ
    refine E_if_eq 176 dX5_odds_168 rfl (fun h3 => ?_) (fun h3 => ?_)
    · replace hy := hy.1 h3
      refine E_lconst (0 : Int64) dX5_odds_176 rfl ?_
      refine E_ladd dX5_odds_177 ?_
      refine E_lstore dX5_odds_178 (Nat.le_of_ble_eq_true rfl) (?_ : Ev (d + 1) mX5_odds 136 180 [some (.ref 122), some (.int x1), some (.int x2), some (.int x3), some (.int x4), some (.long (x5 + (0 : Int64))), none, some (.long x7), none, some (.int x9), some (.long x10), none, some (.int x12)] [] 136 I G J Φ)
      refine E_iinc (x9 + (1 : Int32)) dX5_odds_180 rfl rfl (Nat.le_of_ble_eq_true rfl) (?_ : Ev (d + 1) mX5_odds 136 183 [some (.ref 122), some (.int x1), some (.int x2), some (.int x3), some (.int x4), some (.long (x5 + (0 : Int64))), none, some (.long x7), none, some (.int (x9 + (1 : Int32))), some (.long x10), none, some (.int x12)] [] 136 I G J Φ)
      refine E_goto 79 dX5_odds_183 rfl ?_
      refine E_wk (ls2 := [some (.ref 122), some (.int x1), some (.int x2), some (.int x3), some (.int x4), some (.long (x5 + (0 : Int64))), none, some (.long x7), none, some (.int (x9 + (1 : Int32))), none, none, none]) ⟨rfl, rfl, rfl, rfl, rfl, rfl, rfl, rfl, trivial⟩ ?_
      exact hy
    · replace hy := hy.2 h3
      refine E_lload dX5_odds_171 rfl ?_
      refine E_goto 177 dX5_odds_173 rfl ?_
      refine E_ladd dX5_odds_177 ?_
      refine E_lstore dX5_odds_178 (Nat.le_of_ble_eq_true rfl) (?_ : Ev (d + 1) mX5_odds 136 180 [some (.ref 122), some (.int x1), some (.int x2), some (.int x3), some (.int x4), some (.long (x5 + x10)), none, some (.long x7), none, some (.int x9), some (.long x10), none, some (.int x12)] [] 136 I G J Φ)
      refine E_iinc (x9 + (1 : Int32)) dX5_odds_180 rfl rfl (Nat.le_of_ble_eq_true rfl) (?_ : Ev (d + 1) mX5_odds 136 183 [some (.ref 122), some (.int x1), some (.int x2), some (.int x3), some (.int x4), some (.long (x5 + x10)), none, some (.long x7), none, some (.int (x9 + (1 : Int32))), some (.long x10), none, some (.int x12)] [] 136 I G J Φ)
      refine E_goto 79 dX5_odds_183 rfl ?_
      refine E_wk (ls2 := [some (.ref 122), some (.int x1), some (.int x2), some (.int x3), some (.int x4), some (.long (x5 + x10)), none, some (.long x7), none, some (.int (x9 + (1 : Int32))), none, none, none]) ⟨rfl, rfl, rfl, rfl, rfl, rfl, rfl, rfl, trivial⟩ ?_
      exact hy
  · replace hy := hy.2 h1
    refine E_aload_n 0 dX5_odds_115 rfl rfl ?_
    refine E_bipush (100 : Int32) dX5_odds_116 rfl ?_
    refine E_iload dX5_odds_118 rfl ?_
    refine E_iload dX5_odds_120 rfl ?_
    refine E_cs (M := mX5_odds) (pc := 122) (As := [.int x9, .int x12]) (st := [.int (100 : Int32), .ref 122]) mX5_has 2 dX5_odds_122 lk_RX5_118 rfl (Nat.le_of_ble_eq_true rfl) ⟨rfl, rfl⟩ (Nat.le_of_ble_eq_true rfl) rfl hy ?_
    rintro r n I4 G4 J4 ⟨v4, rfl, rfl, rfl, rfl, rfl, hy⟩
    show Ev (d + 1) mX5_odds 136 125 [some (.ref 122), some (.int x1), some (.int x2), some (.int x3), some (.int x4), some (.long x5), none, some (.long x7), none, some (.int x9), some (.long x10), none, some (.int x12)] [.int v4, .int (100 : Int32), .ref 122] 136 I G J Φ
    refine E_cv (M := mX5_odds) (pc := 125) (As := [.int (100 : Int32), .int v4]) (st := []) mX5_goToDusk 2 5 33 dX5_odds_125 lk_RX5_213 ⟨_, rfl, rfl⟩ sh_122 rfl (Nat.le_of_ble_eq_true rfl) ⟨rfl, rfl⟩ (Nat.le_of_ble_eq_true rfl) rfl hy ?_
    rintro r n I5 G5 J5 ⟨rfl, rfl, rfl, rfl, hy⟩
    show Ev (d + 1) mX5_odds 136 128 [some (.ref 122), some (.int x1), some (.int x2), some (.int x3), some (.int x4), some (.long x5), none, some (.long x7), none, some (.int x9), some (.long x10), none, some (.int x12)] [] 136 I5 G J Φ
    refine E_lload dX5_odds_128 rfl ?_
    refine E_iload dX5_odds_130 rfl ?_
    refine E_iload dX5_odds_132 rfl ?_
    refine E_cs (M := mX5_odds) (pc := 134) (As := [.int x9, .int x12]) (st := [.long x10]) mX5_has 2 dX5_odds_134 lk_RX5_118 rfl (Nat.le_of_ble_eq_true rfl) ⟨rfl, rfl⟩ (Nat.le_of_ble_eq_true rfl) rfl hy ?_
    rintro r n I6 G6 J6 ⟨v6, rfl, rfl, rfl, rfl, rfl, hy⟩
    show Ev (d + 1) mX5_odds 136 137 [some (.ref 122), some (.int x1), some (.int x2), some (.int x3), some (.int x4), some (.long x5), none, some (.long x7), none, some (.int x9), some (.long x10), none, some (.int x12)] [.int v6, .long x10] 136 I5 G J Φ
    refine E_if_eq 145 dX5_odds_137 rfl (fun h7 => ?_) (fun h7 => ?_)
    · replace hy := hy.1 h7
      refine E_bipush (10 : Int32) dX5_odds_145 rfl ?_
      refine E_iload_n 3 dX5_odds_147 rfl rfl ?_
      refine E_isub dX5_odds_148 ?_
      refine E_i2l dX5_odds_149 ?_
      refine E_lmul dX5_odds_150 ?_
      refine E_lstore dX5_odds_151 (Nat.le_of_ble_eq_true rfl) (?_ : Ev (d + 1) mX5_odds 136 153 [some (.ref 122), some (.int x1), some (.int x2), some (.int x3), some (.int x4), some (.long x5), none, some (.long x7), none, some (.int x9), some (.long (x10 * (((10 : Int32) - x3).toInt64))), none, some (.int x12)] [] 136 I5 G J Φ)
      refine E_iinc (x12 + (1 : Int32)) dX5_odds_153 rfl rfl (Nat.le_of_ble_eq_true rfl) (?_ : Ev (d + 1) mX5_odds 136 156 [some (.ref 122), some (.int x1), some (.int x2), some (.int x3), some (.int x4), some (.long x5), none, some (.long x7), none, some (.int x9), some (.long (x10 * (((10 : Int32) - x3).toInt64))), none, some (.int (x12 + (1 : Int32)))] [] 136 I5 G J Φ)
      refine E_goto 109 dX5_odds_156 rfl ?_
      exact hy
    · replace hy := hy.2 h7
      refine E_iload_n 3 dX5_odds_140 rfl rfl ?_
      refine E_i2l dX5_odds_141 ?_
      refine E_goto 150 dX5_odds_142 rfl ?_
      refine E_lmul dX5_odds_150 ?_
      refine E_lstore dX5_odds_151 (Nat.le_of_ble_eq_true rfl) (?_ : Ev (d + 1) mX5_odds 136 153 [some (.ref 122), some (.int x1), some (.int x2), some (.int x3), some (.int x4), some (.long x5), none, some (.long x7), none, some (.int x9), some (.long (x10 * (x3.toInt64))), none, some (.int x12)] [] 136 I5 G J Φ)
      refine E_iinc (x12 + (1 : Int32)) dX5_odds_153 rfl rfl (Nat.le_of_ble_eq_true rfl) (?_ : Ev (d + 1) mX5_odds 136 156 [some (.ref 122), some (.int x1), some (.int x2), some (.int x3), some (.int x4), some (.long x5), none, some (.long x7), none, some (.int x9), some (.long (x10 * (x3.toInt64))), none, some (.int (x12 + (1 : Int32)))] [] 136 I5 G J Φ)
      refine E_goto 109 dX5_odds_156 rfl ?_
      exact hy
set_option maxRecDepth 100000 in
theorem w_X5_one {d : Nat} {I : MI} {G : MG} {J : MJ} {Φ : Ph} (hG : WG G) (x0 : Int32) (hy : (x0 = 0 → Φ (some (.int (0 : Int32))) 136 I G J) ∧ (¬ x0 = 0 → Φ (some (.int (1 : Int32))) 136 I G J)) : Ev d mX5_one 136 0 [some (.int x0)] [] 136 I G J Φ := by
  refine E_iload_n 0 dX5_one_0 rfl rfl ?_
  refine E_if_eq 8 dX5_one_1 rfl (fun h1 => ?_) (fun h1 => ?_)
  · replace hy := hy.1 h1
    refine E_iconst (0 : Int32) dX5_one_8 rfl ?_
    exact E_ri dX5_one_9 rfl ⟨rfl, rfl⟩ hy
  · replace hy := hy.2 h1
    refine E_iconst (1 : Int32) dX5_one_4 rfl ?_
    refine E_goto 9 dX5_one_5 rfl ?_
    exact E_ri dX5_one_9 rfl ⟨rfl, rfl⟩ hy
set_option maxRecDepth 100000 in
theorem w_X5_ones {d : Nat} {I : MI} {G : MG} {J : MJ} {Φ : Ph} (hG : WG G) (x0 : Int32) (hy : Ev d mX5_ones 136 4 [some (.int x0), some (.int (0 : Int32)), some (.int (0 : Int32))] [] 136 I G J Φ) : Ev d mX5_ones 136 0 [some (.int x0), none, none] [] 136 I G J Φ := by
  refine E_iconst (0 : Int32) dX5_ones_0 rfl ?_
  refine E_istore_n 1 dX5_ones_1 rfl (Nat.le_of_ble_eq_true rfl) (?_ : Ev d mX5_ones 136 2 [some (.int x0), some (.int (0 : Int32)), none] [] 136 I G J Φ)
  refine E_iconst (0 : Int32) dX5_ones_2 rfl ?_
  refine E_istore_n 2 dX5_ones_3 rfl (Nat.le_of_ble_eq_true rfl) (?_ : Ev d mX5_ones 136 4 [some (.int x0), some (.int (0 : Int32)), some (.int (0 : Int32))] [] 136 I G J Φ)
  exact hy
set_option maxRecDepth 100000 in
theorem w_X5_ones_4 {d : Nat} {I : MI} {G : MG} {J : MJ} {Φ : Ph} (hG : WG G)  (x0 : Int32) (x1 : Int32) (x2 : Int32) (hy : ((8 : Int32) ≤ x2 → Φ (some (.int x1)) 136 I G J) ∧ (¬ (8 : Int32) ≤ x2 → Ev d mX5_ones 136 4 [some (.int x0), some (.int (x1 + ((x0 >>> (x2 &&& 31)) &&& (1 : Int32)))), some (.int (x2 + (1 : Int32)))] [] 136 I G J Φ)) : Ev d mX5_ones 136 4 [some (.int x0), some (.int x1), some (.int x2)] [] 136 I G J Φ := by
  refine E_iload_n 2 dX5_ones_4 rfl rfl ?_
  refine E_bipush (8 : Int32) dX5_ones_5 rfl ?_
  refine E_icmp_ge 24 dX5_ones_7 rfl (fun h1 => ?_) (fun h1 => ?_)
  · replace hy := hy.1 h1
    refine E_iload_n 1 dX5_ones_24 rfl rfl ?_
    exact E_ri dX5_ones_25 rfl ⟨rfl, rfl⟩ hy
  · replace hy := hy.2 h1
    refine E_iload_n 1 dX5_ones_10 rfl rfl ?_
    refine E_iload_n 0 dX5_ones_11 rfl rfl ?_
    refine E_iload_n 2 dX5_ones_12 rfl rfl ?_
    refine E_ishr dX5_ones_13 ?_
    refine E_iconst (1 : Int32) dX5_ones_14 rfl ?_
    refine E_iand dX5_ones_15 ?_
    refine E_iadd dX5_ones_16 ?_
    refine E_istore_n 1 dX5_ones_17 rfl (Nat.le_of_ble_eq_true rfl) (?_ : Ev d mX5_ones 136 18 [some (.int x0), some (.int (x1 + ((x0 >>> (x2 &&& 31)) &&& (1 : Int32)))), some (.int x2)] [] 136 I G J Φ)
    refine E_iinc (x2 + (1 : Int32)) dX5_ones_18 rfl rfl (Nat.le_of_ble_eq_true rfl) (?_ : Ev d mX5_ones 136 21 [some (.int x0), some (.int (x1 + ((x0 >>> (x2 &&& 31)) &&& (1 : Int32)))), some (.int (x2 + (1 : Int32)))] [] 136 I G J Φ)
    refine E_goto 4 dX5_ones_21 rfl ?_
    exact hy
set_option maxRecDepth 100000 in
theorem w_X5_order {d : Nat} {I : MI} {G : MG} {J : MJ} {Φ : Ph} (hG : WG G) (x1 : Int32) (x2 : Int32) (hy : Ev d mX5_isMan 136 0 [some (.ref 122), some (.int x1)] [] 136 I G J (fun r n I1 G1 J1 => ∃ v1 : Int32, r = some (.int v1) ∧ n = 136 ∧ I = I1 ∧ G = G1 ∧ J = J1 ∧ ((v1 = 0 → Φ (some (.int (-1 : Int32))) 136 I G J) ∧ (¬ v1 = 0 → (x2 = (-9 : Int32) → Ev d mX5_remember 136 0 [some (.ref 122), none] [] 136 I G J (fun r n I4 G4 J4 => r = none ∧ n = 136 ∧ G = G4 ∧ J = J4 ∧ (vp_in ((11 : Int32) + x1) 1400 ∧ (vp_in ((11 : Int32) + x1) 1400 ∧ (Φ (some (.int (I4 123 ((11 : Int32) + x1).toNatClampNeg))) 136 (u2 I4 123 ((11 : Int32) + x1).toNatClampNeg x2) G J))))) ∧ (¬ x2 = (-9 : Int32) → Ev d mX5_isHill 136 0 [some (.ref 122), some (.int x2)] [] 136 I G J (fun r n I7 G7 J7 => ∃ v7 : Int32, r = some (.int v7) ∧ n = 136 ∧ I = I7 ∧ G = G7 ∧ J = J7 ∧ ((¬ v7 = 0 → Ev d mX5_remember 136 0 [some (.ref 122), none] [] 136 I G J (fun r n I9 G9 J9 => r = none ∧ n = 136 ∧ G = G9 ∧ J = J9 ∧ (vp_in ((11 : Int32) + x1) 1400 ∧ (vp_in ((11 : Int32) + x1) 1400 ∧ (Φ (some (.int (I9 123 ((11 : Int32) + x1).toNatClampNeg))) 136 (u2 I9 123 ((11 : Int32) + x1).toNatClampNeg x2) G J))))) ∧ (v7 = 0 → Φ (some (.int (-1 : Int32))) 136 I G J)))))))) : Ev (d + 1) mX5_order 136 0 [some (.ref 122), some (.int x1), some (.int x2), none] [] 136 I G J Φ := by
  refine E_aload_n 0 dX5_order_0 rfl rfl ?_
  refine E_iload_n 1 dX5_order_1 rfl rfl ?_
  refine E_cv (M := mX5_order) (pc := 2) (As := [.int x1]) (st := []) mX5_isMan 1 5 33 dX5_order_2 lk_RX5_165 ⟨_, rfl, rfl⟩ sh_122 rfl (Nat.le_of_ble_eq_true rfl) ⟨rfl, rfl⟩ (Nat.le_of_ble_eq_true rfl) rfl hy ?_
  rintro r n I1 G1 J1 ⟨v1, rfl, rfl, rfl, rfl, rfl, hy⟩
  show Ev (d + 1) mX5_order 136 5 [some (.ref 122), some (.int x1), some (.int x2), none] [.int v1] 136 I G J Φ
  refine E_if_eq 22 dX5_order_5 rfl (fun h2 => ?_) (fun h2 => ?_)
  · replace hy := hy.1 h2
    refine E_iconst (-1 : Int32) dX5_order_22 rfl ?_
    exact E_ri dX5_order_23 rfl ⟨rfl, rfl⟩ hy
  · replace hy := hy.2 h2
    refine E_iload_n 2 dX5_order_8 rfl rfl ?_
    refine E_bipush (-9 : Int32) dX5_order_9 rfl ?_
    refine E_icmp_eq 24 dX5_order_11 rfl (fun h3 => ?_) (fun h3 => ?_)
    · replace hy := hy.1 h3
      refine E_aload_n 0 dX5_order_24 rfl rfl ?_
      refine E_cv (M := mX5_order) (pc := 25) (As := []) (st := []) mX5_remember 0 5 33 dX5_order_25 lk_RX5_176 ⟨_, rfl, rfl⟩ sh_122 rfl (Nat.le_of_ble_eq_true rfl) ⟨rfl, rfl⟩ (Nat.le_of_ble_eq_true rfl) rfl hy ?_
      rintro r n I4 G4 J4 ⟨rfl, rfl, rfl, rfl, hy⟩
      show Ev (d + 1) mX5_order 136 28 [some (.ref 122), some (.int x1), some (.int x2), none] [] 136 I4 G J Φ
      refine E_aload_n 0 dX5_order_28 rfl rfl ?_
      refine E_getr 5 0 122 33 123 dX5_order_29 fl_RX5_7 rfl sh_122 (wg_122_0 hG) ?_
      refine E_bipush (11 : Int32) dX5_order_32 rfl ?_
      refine E_iload_n 1 dX5_order_34 rfl rfl ?_
      refine E_iadd dX5_order_35 ?_
      have c5 := hy.1
      replace hy := hy.2
      refine E_ia 123 1400 ((11 : Int32) + x1).toNatClampNeg dX5_order_36 sh_123 c5 rfl ?_
      refine E_istore_n 3 dX5_order_37 rfl (Nat.le_of_ble_eq_true rfl) (?_ : Ev (d + 1) mX5_order 136 38 [some (.ref 122), some (.int x1), some (.int x2), some (.int (I4 123 ((11 : Int32) + x1).toNatClampNeg))] [] 136 I4 G J Φ)
      refine E_aload_n 0 dX5_order_38 rfl rfl ?_
      refine E_getr 5 0 122 33 123 dX5_order_39 fl_RX5_7 rfl sh_122 (wg_122_0 hG) ?_
      refine E_bipush (11 : Int32) dX5_order_42 rfl ?_
      refine E_iload_n 1 dX5_order_44 rfl rfl ?_
      refine E_iadd dX5_order_45 ?_
      refine E_iload_n 2 dX5_order_46 rfl rfl ?_
      have c6 := hy.1
      replace hy := hy.2
      refine E_is 123 1400 ((11 : Int32) + x1).toNatClampNeg dX5_order_47 sh_123 c6 rfl ?_
      refine E_iload_n 3 dX5_order_48 rfl rfl ?_
      exact E_ri dX5_order_49 rfl ⟨rfl, rfl⟩ hy
    · replace hy := hy.2 h3
      refine E_aload_n 0 dX5_order_14 rfl rfl ?_
      refine E_iload_n 2 dX5_order_15 rfl rfl ?_
      refine E_cv (M := mX5_order) (pc := 16) (As := [.int x2]) (st := []) mX5_isHill 1 5 33 dX5_order_16 lk_RX5_149 ⟨_, rfl, rfl⟩ sh_122 rfl (Nat.le_of_ble_eq_true rfl) ⟨rfl, rfl⟩ (Nat.le_of_ble_eq_true rfl) rfl hy ?_
      rintro r n I7 G7 J7 ⟨v7, rfl, rfl, rfl, rfl, rfl, hy⟩
      show Ev (d + 1) mX5_order 136 19 [some (.ref 122), some (.int x1), some (.int x2), none] [.int v7] 136 I G J Φ
      refine E_if_ne 24 dX5_order_19 rfl (fun h8 => ?_) (fun h8 => ?_)
      · replace hy := hy.1 h8
        refine E_aload_n 0 dX5_order_24 rfl rfl ?_
        refine E_cv (M := mX5_order) (pc := 25) (As := []) (st := []) mX5_remember 0 5 33 dX5_order_25 lk_RX5_176 ⟨_, rfl, rfl⟩ sh_122 rfl (Nat.le_of_ble_eq_true rfl) ⟨rfl, rfl⟩ (Nat.le_of_ble_eq_true rfl) rfl hy ?_
        rintro r n I9 G9 J9 ⟨rfl, rfl, rfl, rfl, hy⟩
        show Ev (d + 1) mX5_order 136 28 [some (.ref 122), some (.int x1), some (.int x2), none] [] 136 I9 G J Φ
        refine E_aload_n 0 dX5_order_28 rfl rfl ?_
        refine E_getr 5 0 122 33 123 dX5_order_29 fl_RX5_7 rfl sh_122 (wg_122_0 hG) ?_
        refine E_bipush (11 : Int32) dX5_order_32 rfl ?_
        refine E_iload_n 1 dX5_order_34 rfl rfl ?_
        refine E_iadd dX5_order_35 ?_
        have c10 := hy.1
        replace hy := hy.2
        refine E_ia 123 1400 ((11 : Int32) + x1).toNatClampNeg dX5_order_36 sh_123 c10 rfl ?_
        refine E_istore_n 3 dX5_order_37 rfl (Nat.le_of_ble_eq_true rfl) (?_ : Ev (d + 1) mX5_order 136 38 [some (.ref 122), some (.int x1), some (.int x2), some (.int (I9 123 ((11 : Int32) + x1).toNatClampNeg))] [] 136 I9 G J Φ)
        refine E_aload_n 0 dX5_order_38 rfl rfl ?_
        refine E_getr 5 0 122 33 123 dX5_order_39 fl_RX5_7 rfl sh_122 (wg_122_0 hG) ?_
        refine E_bipush (11 : Int32) dX5_order_42 rfl ?_
        refine E_iload_n 1 dX5_order_44 rfl rfl ?_
        refine E_iadd dX5_order_45 ?_
        refine E_iload_n 2 dX5_order_46 rfl rfl ?_
        have c11 := hy.1
        replace hy := hy.2
        refine E_is 123 1400 ((11 : Int32) + x1).toNatClampNeg dX5_order_47 sh_123 c11 rfl ?_
        refine E_iload_n 3 dX5_order_48 rfl rfl ?_
        exact E_ri dX5_order_49 rfl ⟨rfl, rfl⟩ hy
      · replace hy := hy.2 (Decidable.not_not.mp h8)
        refine E_iconst (-1 : Int32) dX5_order_22 rfl ?_
        exact E_ri dX5_order_23 rfl ⟨rfl, rfl⟩ hy
set_option maxRecDepth 100000 in
theorem w_X5_orderAll {d : Nat} {I : MI} {G : MG} {J : MJ} {Φ : Ph} (hG : WG G) (x1 : Int32) (x2 : Int32) (x3 : Int32) (hy : Ev (d + 1) mX5_orderAll 136 3 [some (.ref 122), some (.int x1), some (.int x2), some (.int x3), some (.int (0 : Int32))] [] 136 I G J Φ) : Ev (d + 1) mX5_orderAll 136 0 [some (.ref 122), some (.int x1), some (.int x2), some (.int x3), none] [] 136 I G J Φ := by
  refine E_iconst (0 : Int32) dX5_orderAll_0 rfl ?_
  refine E_istore dX5_orderAll_1 (Nat.le_of_ble_eq_true rfl) (?_ : Ev (d + 1) mX5_orderAll 136 3 [some (.ref 122), some (.int x1), some (.int x2), some (.int x3), some (.int (0 : Int32))] [] 136 I G J Φ)
  exact hy
set_option maxRecDepth 100000 in
theorem w_X5_orderAll_3 {d : Nat} {I : MI} {G : MG} {J : MJ} {Φ : Ph} (hG : WG G)  (x1 : Int32) (x2 : Int32) (x3 : Int32) (x4 : Int32) (hy : ((I 122 12) ≤ x4 → Φ none 136 I G J) ∧ (¬ (I 122 12) ≤ x4 → Ev d mX5_has 136 0 [some (.int x3), some (.int x4)] [] 136 I G J (fun r n I2 G2 J2 => ∃ v2 : Int32, r = some (.int v2) ∧ n = 136 ∧ I = I2 ∧ G = G2 ∧ J = J2 ∧ ((v2 = 0 → vp_in ((x1 + (11 : Int32)) + x4) 1400 ∧ (Ev (d + 1) mX5_orderAll 136 3 [some (.ref 122), some (.int x1), some (.int x2), some (.int x3), some (.int (x4 + (1 : Int32)))] [] 136 (u2 I 123 ((x1 + (11 : Int32)) + x4).toNatClampNeg (-9 : Int32)) G J Φ)) ∧ (¬ v2 = 0 → vp_in ((x1 + (11 : Int32)) + x4) 1400 ∧ (Ev (d + 1) mX5_orderAll 136 3 [some (.ref 122), some (.int x1), some (.int x2), some (.int x3), some (.int (x4 + (1 : Int32)))] [] 136 (u2 I 123 ((x1 + (11 : Int32)) + x4).toNatClampNeg x2) G J Φ)))))) : Ev (d + 1) mX5_orderAll 136 3 [some (.ref 122), some (.int x1), some (.int x2), some (.int x3), some (.int x4)] [] 136 I G J Φ := by
  refine E_iload dX5_orderAll_3 rfl ?_
  refine E_aload_n 0 dX5_orderAll_5 rfl rfl ?_
  refine E_geti 5 12 122 33 dX5_orderAll_6 fl_RX5_137 rfl sh_122 ?_
  refine E_icmp_ge 45 dX5_orderAll_9 rfl (fun h1 => ?_) (fun h1 => ?_)
  · replace hy := hy.1 h1
    exact E_rv dX5_orderAll_45 rfl ⟨rfl, rfl⟩ hy
  · replace hy := hy.2 h1
    refine E_aload_n 0 dX5_orderAll_12 rfl rfl ?_
    refine E_getr 5 0 122 33 123 dX5_orderAll_13 fl_RX5_7 rfl sh_122 (wg_122_0 hG) ?_
    refine E_iload_n 1 dX5_orderAll_16 rfl rfl ?_
    refine E_bipush (11 : Int32) dX5_orderAll_17 rfl ?_
    refine E_iadd dX5_orderAll_19 ?_
    refine E_iload dX5_orderAll_20 rfl ?_
    refine E_iadd dX5_orderAll_22 ?_
    refine E_iload_n 3 dX5_orderAll_23 rfl rfl ?_
    refine E_iload dX5_orderAll_24 rfl ?_
    refine E_cs (M := mX5_orderAll) (pc := 26) (As := [.int x3, .int x4]) (st := [.int ((x1 + (11 : Int32)) + x4), .ref 123]) mX5_has 2 dX5_orderAll_26 lk_RX5_118 rfl (Nat.le_of_ble_eq_true rfl) ⟨rfl, rfl⟩ (Nat.le_of_ble_eq_true rfl) rfl hy ?_
    rintro r n I2 G2 J2 ⟨v2, rfl, rfl, rfl, rfl, rfl, hy⟩
    show Ev (d + 1) mX5_orderAll 136 29 [some (.ref 122), some (.int x1), some (.int x2), some (.int x3), some (.int x4)] [.int v2, .int ((x1 + (11 : Int32)) + x4), .ref 123] 136 I G J Φ
    refine E_if_eq 36 dX5_orderAll_29 rfl (fun h3 => ?_) (fun h3 => ?_)
    · replace hy := hy.1 h3
      refine E_bipush (-9 : Int32) dX5_orderAll_36 rfl ?_
      have c4 := hy.1
      replace hy := hy.2
      refine E_is 123 1400 ((x1 + (11 : Int32)) + x4).toNatClampNeg dX5_orderAll_38 sh_123 c4 rfl ?_
      refine E_iinc (x4 + (1 : Int32)) dX5_orderAll_39 rfl rfl (Nat.le_of_ble_eq_true rfl) (?_ : Ev (d + 1) mX5_orderAll 136 42 [some (.ref 122), some (.int x1), some (.int x2), some (.int x3), some (.int (x4 + (1 : Int32)))] [] 136 (u2 I 123 ((x1 + (11 : Int32)) + x4).toNatClampNeg (-9 : Int32)) G J Φ)
      refine E_goto 3 dX5_orderAll_42 rfl ?_
      exact hy
    · replace hy := hy.2 h3
      refine E_iload_n 2 dX5_orderAll_32 rfl rfl ?_
      refine E_goto 38 dX5_orderAll_33 rfl ?_
      have c5 := hy.1
      replace hy := hy.2
      refine E_is 123 1400 ((x1 + (11 : Int32)) + x4).toNatClampNeg dX5_orderAll_38 sh_123 c5 rfl ?_
      refine E_iinc (x4 + (1 : Int32)) dX5_orderAll_39 rfl rfl (Nat.le_of_ble_eq_true rfl) (?_ : Ev (d + 1) mX5_orderAll 136 42 [some (.ref 122), some (.int x1), some (.int x2), some (.int x3), some (.int (x4 + (1 : Int32)))] [] 136 (u2 I 123 ((x1 + (11 : Int32)) + x4).toNatClampNeg x2) G J Φ)
      refine E_goto 3 dX5_orderAll_42 rfl ?_
      exact hy
set_option maxRecDepth 100000 in
theorem w_X5_over {d : Nat} {I : MI} {G : MG} {J : MJ} {Φ : Ph} (hG : WG G)  (hy : Ev (d + 1) mX5_over 136 4 [some (.ref 122), some (.int (0 : Int32)), some (.int (0 : Int32))] [] 136 I G J Φ) : Ev (d + 1) mX5_over 136 0 [some (.ref 122), none, none] [] 136 I G J Φ := by
  refine E_iconst (0 : Int32) dX5_over_0 rfl ?_
  refine E_istore_n 1 dX5_over_1 rfl (Nat.le_of_ble_eq_true rfl) (?_ : Ev (d + 1) mX5_over 136 2 [some (.ref 122), some (.int (0 : Int32)), none] [] 136 I G J Φ)
  refine E_iconst (0 : Int32) dX5_over_2 rfl ?_
  refine E_istore_n 2 dX5_over_3 rfl (Nat.le_of_ble_eq_true rfl) (?_ : Ev (d + 1) mX5_over 136 4 [some (.ref 122), some (.int (0 : Int32)), some (.int (0 : Int32))] [] 136 I G J Φ)
  exact hy
set_option maxRecDepth 100000 in
theorem w_X5_over_4 {d : Nat} {I : MI} {G : MG} {J : MJ} {Φ : Ph} (hG : WG G)  (x1 : Int32) (x2 : Int32) (hy : ((I 122 10) ≤ x2 → Φ (some (.int x1)) 136 I G J) ∧ (¬ (I 122 10) ≤ x2 → Ev d mX5_isOver 136 0 [some (.ref 122), some (.int (0 : Int32)), some (.int x2)] [] 136 I G J (fun r n I2 G2 J2 => ∃ v2 : Int32, r = some (.int v2) ∧ n = 136 ∧ I = I2 ∧ G = G2 ∧ J = J2 ∧ (Ev d mX5_one 136 0 [some (.int v2)] [] 136 I G J (fun r n I3 G3 J3 => ∃ v3 : Int32, r = some (.int v3) ∧ n = 136 ∧ I = I3 ∧ G = G3 ∧ J = J3 ∧ (Ev (d + 1) mX5_over 136 4 [some (.ref 122), some (.int (x1 ||| (v3 <<< (x2 &&& 31)))), some (.int (x2 + (1 : Int32)))] [] 136 I G J Φ)))))) : Ev (d + 1) mX5_over 136 4 [some (.ref 122), some (.int x1), some (.int x2)] [] 136 I G J Φ := by
  refine E_iload_n 2 dX5_over_4 rfl rfl ?_
  refine E_aload_n 0 dX5_over_5 rfl rfl ?_
  refine E_geti 5 10 122 33 dX5_over_6 fl_RX5_131 rfl sh_122 ?_
  refine E_icmp_ge 32 dX5_over_9 rfl (fun h1 => ?_) (fun h1 => ?_)
  · replace hy := hy.1 h1
    refine E_iload_n 1 dX5_over_32 rfl rfl ?_
    exact E_ri dX5_over_33 rfl ⟨rfl, rfl⟩ hy
  · replace hy := hy.2 h1
    refine E_iload_n 1 dX5_over_12 rfl rfl ?_
    refine E_aload_n 0 dX5_over_13 rfl rfl ?_
    refine E_iconst (0 : Int32) dX5_over_14 rfl ?_
    refine E_iload_n 2 dX5_over_15 rfl rfl ?_
    refine E_cv (M := mX5_over) (pc := 16) (As := [.int (0 : Int32), .int x2]) (st := [.int x1]) mX5_isOver 2 5 33 dX5_over_16 lk_RX5_158 ⟨_, rfl, rfl⟩ sh_122 rfl (Nat.le_of_ble_eq_true rfl) ⟨rfl, rfl⟩ (Nat.le_of_ble_eq_true rfl) rfl hy ?_
    rintro r n I2 G2 J2 ⟨v2, rfl, rfl, rfl, rfl, rfl, hy⟩
    show Ev (d + 1) mX5_over 136 19 [some (.ref 122), some (.int x1), some (.int x2)] [.int v2, .int x1] 136 I G J Φ
    refine E_cs (M := mX5_over) (pc := 19) (As := [.int v2]) (st := [.int x1]) mX5_one 1 dX5_over_19 lk_RX5_161 rfl (Nat.le_of_ble_eq_true rfl) ⟨rfl, rfl⟩ (Nat.le_of_ble_eq_true rfl) rfl hy ?_
    rintro r n I3 G3 J3 ⟨v3, rfl, rfl, rfl, rfl, rfl, hy⟩
    show Ev (d + 1) mX5_over 136 22 [some (.ref 122), some (.int x1), some (.int x2)] [.int v3, .int x1] 136 I G J Φ
    refine E_iload_n 2 dX5_over_22 rfl rfl ?_
    refine E_ishl dX5_over_23 ?_
    refine E_ior dX5_over_24 ?_
    refine E_istore_n 1 dX5_over_25 rfl (Nat.le_of_ble_eq_true rfl) (?_ : Ev (d + 1) mX5_over 136 26 [some (.ref 122), some (.int (x1 ||| (v3 <<< (x2 &&& 31)))), some (.int x2)] [] 136 I G J Φ)
    refine E_iinc (x2 + (1 : Int32)) dX5_over_26 rfl rfl (Nat.le_of_ble_eq_true rfl) (?_ : Ev (d + 1) mX5_over 136 29 [some (.ref 122), some (.int (x1 ||| (v3 <<< (x2 &&& 31)))), some (.int (x2 + (1 : Int32)))] [] 136 I G J Φ)
    refine E_goto 4 dX5_over_29 rfl ?_
    exact hy
set_option maxRecDepth 100000 in
theorem w_X5_overIn {d : Nat} {I : MI} {G : MG} {J : MJ} {Φ : Ph} (hG : WG G) (x1 : Int32) (hy : Ev (d + 1) mX5_overIn 136 4 [some (.ref 122), some (.int x1), some (.int (0 : Int32)), some (.int (0 : Int32))] [] 136 I G J Φ) : Ev (d + 1) mX5_overIn 136 0 [some (.ref 122), some (.int x1), none, none] [] 136 I G J Φ := by
  refine E_iconst (0 : Int32) dX5_overIn_0 rfl ?_
  refine E_istore_n 2 dX5_overIn_1 rfl (Nat.le_of_ble_eq_true rfl) (?_ : Ev (d + 1) mX5_overIn 136 2 [some (.ref 122), some (.int x1), some (.int (0 : Int32)), none] [] 136 I G J Φ)
  refine E_iconst (0 : Int32) dX5_overIn_2 rfl ?_
  refine E_istore_n 3 dX5_overIn_3 rfl (Nat.le_of_ble_eq_true rfl) (?_ : Ev (d + 1) mX5_overIn 136 4 [some (.ref 122), some (.int x1), some (.int (0 : Int32)), some (.int (0 : Int32))] [] 136 I G J Φ)
  exact hy
set_option maxRecDepth 100000 in
theorem w_X5_overIn_4 {d : Nat} {I : MI} {G : MG} {J : MJ} {Φ : Ph} (hG : WG G)  (x1 : Int32) (x2 : Int32) (x3 : Int32) (hy : ((I 122 10) ≤ x3 → Φ (some (.int x2)) 136 I G J) ∧ (¬ (I 122 10) ≤ x3 → Ev d mX5_isOver 136 0 [some (.ref 122), some (.int x1), some (.int x3)] [] 136 I G J (fun r n I2 G2 J2 => ∃ v2 : Int32, r = some (.int v2) ∧ n = 136 ∧ I = I2 ∧ G = G2 ∧ J = J2 ∧ (Ev d mX5_one 136 0 [some (.int v2)] [] 136 I G J (fun r n I3 G3 J3 => ∃ v3 : Int32, r = some (.int v3) ∧ n = 136 ∧ I = I3 ∧ G = G3 ∧ J = J3 ∧ (Ev (d + 1) mX5_overIn 136 4 [some (.ref 122), some (.int x1), some (.int (x2 ||| (v3 <<< (x3 &&& 31)))), some (.int (x3 + (1 : Int32)))] [] 136 I G J Φ)))))) : Ev (d + 1) mX5_overIn 136 4 [some (.ref 122), some (.int x1), some (.int x2), some (.int x3)] [] 136 I G J Φ := by
  refine E_iload_n 3 dX5_overIn_4 rfl rfl ?_
  refine E_aload_n 0 dX5_overIn_5 rfl rfl ?_
  refine E_geti 5 10 122 33 dX5_overIn_6 fl_RX5_131 rfl sh_122 ?_
  refine E_icmp_ge 32 dX5_overIn_9 rfl (fun h1 => ?_) (fun h1 => ?_)
  · replace hy := hy.1 h1
    refine E_iload_n 2 dX5_overIn_32 rfl rfl ?_
    exact E_ri dX5_overIn_33 rfl ⟨rfl, rfl⟩ hy
  · replace hy := hy.2 h1
    refine E_iload_n 2 dX5_overIn_12 rfl rfl ?_
    refine E_aload_n 0 dX5_overIn_13 rfl rfl ?_
    refine E_iload_n 1 dX5_overIn_14 rfl rfl ?_
    refine E_iload_n 3 dX5_overIn_15 rfl rfl ?_
    refine E_cv (M := mX5_overIn) (pc := 16) (As := [.int x1, .int x3]) (st := [.int x2]) mX5_isOver 2 5 33 dX5_overIn_16 lk_RX5_158 ⟨_, rfl, rfl⟩ sh_122 rfl (Nat.le_of_ble_eq_true rfl) ⟨rfl, rfl⟩ (Nat.le_of_ble_eq_true rfl) rfl hy ?_
    rintro r n I2 G2 J2 ⟨v2, rfl, rfl, rfl, rfl, rfl, hy⟩
    show Ev (d + 1) mX5_overIn 136 19 [some (.ref 122), some (.int x1), some (.int x2), some (.int x3)] [.int v2, .int x2] 136 I G J Φ
    refine E_cs (M := mX5_overIn) (pc := 19) (As := [.int v2]) (st := [.int x2]) mX5_one 1 dX5_overIn_19 lk_RX5_161 rfl (Nat.le_of_ble_eq_true rfl) ⟨rfl, rfl⟩ (Nat.le_of_ble_eq_true rfl) rfl hy ?_
    rintro r n I3 G3 J3 ⟨v3, rfl, rfl, rfl, rfl, rfl, hy⟩
    show Ev (d + 1) mX5_overIn 136 22 [some (.ref 122), some (.int x1), some (.int x2), some (.int x3)] [.int v3, .int x2] 136 I G J Φ
    refine E_iload_n 3 dX5_overIn_22 rfl rfl ?_
    refine E_ishl dX5_overIn_23 ?_
    refine E_ior dX5_overIn_24 ?_
    refine E_istore_n 2 dX5_overIn_25 rfl (Nat.le_of_ble_eq_true rfl) (?_ : Ev (d + 1) mX5_overIn 136 26 [some (.ref 122), some (.int x1), some (.int (x2 ||| (v3 <<< (x3 &&& 31)))), some (.int x3)] [] 136 I G J Φ)
    refine E_iinc (x3 + (1 : Int32)) dX5_overIn_26 rfl rfl (Nat.le_of_ble_eq_true rfl) (?_ : Ev (d + 1) mX5_overIn 136 29 [some (.ref 122), some (.int x1), some (.int (x2 ||| (v3 <<< (x3 &&& 31)))), some (.int (x3 + (1 : Int32)))] [] 136 I G J Φ)
    refine E_goto 4 dX5_overIn_29 rfl ?_
    exact hy
set_option maxRecDepth 100000 in
theorem w_X5_push {d : Nat} {I : MI} {G : MG} {J : MJ} {Φ : Ph} (hG : WG G) (x1 : Int32) (hy : Ev d mX5_overIn 136 0 [some (.ref 122), some (.int x1), none, none] [] 136 I G J (fun r n I1 G1 J1 => ∃ v1 : Int32, r = some (.int v1) ∧ n = 136 ∧ I = I1 ∧ G = G1 ∧ J = J1 ∧ (Ev (d + 1) mX5_push 136 11 [some (.ref 122), some (.int x1), some (.int v1), some (.int (0 : Int32)), some (.int (0 : Int32)), none] [] 136 I G J Φ))) : Ev (d + 1) mX5_push 136 0 [some (.ref 122), some (.int x1), none, none, none, none] [] 136 I G J Φ := by
  refine E_aload_n 0 dX5_push_0 rfl rfl ?_
  refine E_iload_n 1 dX5_push_1 rfl rfl ?_
  refine E_cv (M := mX5_push) (pc := 2) (As := [.int x1]) (st := []) mX5_overIn 1 5 33 dX5_push_2 lk_RX5_179 ⟨_, rfl, rfl⟩ sh_122 rfl (Nat.le_of_ble_eq_true rfl) ⟨rfl, rfl⟩ (Nat.le_of_ble_eq_true rfl) rfl hy ?_
  rintro r n I1 G1 J1 ⟨v1, rfl, rfl, rfl, rfl, rfl, hy⟩
  show Ev (d + 1) mX5_push 136 5 [some (.ref 122), some (.int x1), none, none, none, none] [.int v1] 136 I G J Φ
  refine E_istore_n 2 dX5_push_5 rfl (Nat.le_of_ble_eq_true rfl) (?_ : Ev (d + 1) mX5_push 136 6 [some (.ref 122), some (.int x1), some (.int v1), none, none, none] [] 136 I G J Φ)
  refine E_iconst (0 : Int32) dX5_push_6 rfl ?_
  refine E_istore_n 3 dX5_push_7 rfl (Nat.le_of_ble_eq_true rfl) (?_ : Ev (d + 1) mX5_push 136 8 [some (.ref 122), some (.int x1), some (.int v1), some (.int (0 : Int32)), none, none] [] 136 I G J Φ)
  refine E_iconst (0 : Int32) dX5_push_8 rfl ?_
  refine E_istore dX5_push_9 (Nat.le_of_ble_eq_true rfl) (?_ : Ev (d + 1) mX5_push 136 11 [some (.ref 122), some (.int x1), some (.int v1), some (.int (0 : Int32)), some (.int (0 : Int32)), none] [] 136 I G J Φ)
  exact hy
set_option maxRecDepth 100000 in
theorem w_X5_push_11 {d : Nat} {I : MI} {G : MG} {J : MJ} {Φ : Ph} (hG : WG G)  (x1 : Int32) (x2 : Int32) (x3 : Int32) (x4 : Int32) (hy : ((I 122 10) ≤ x4 → Ev d mX5_tire 136 0 [some (.ref 122), some (.int x1), some (.int x2), none, none, none] [] 136 I G J (fun r n I2 G2 J2 => r = none ∧ n = 136 ∧ G = G2 ∧ J = J2 ∧ (Φ (some (.int x3)) 136 I2 G J))) ∧ (¬ (I 122 10) ≤ x4 → Ev d mX5_has 136 0 [some (.int x2), some (.int x4)] [] 136 I G J (fun r n I3 G3 J3 => ∃ v3 : Int32, r = some (.int v3) ∧ n = 136 ∧ I = I3 ∧ G = G3 ∧ J = J3 ∧ ((¬ v3 = 0 → Ev (d + 1) mX5_push 136 80 [some (.ref 122), some (.int x1), some (.int x2), some (.int x3), some (.int x4), none] [.int (0 : Int32)] 136 I G J Φ) ∧ (v3 = 0 → Ev d mX5_pushOf 136 0 [some (.ref 122), some (.int x1), some (.int x4), none, none] [] 136 I G J (fun r n I5 G5 J5 => ∃ v5 : Int32, r = some (.int v5) ∧ n = 136 ∧ I = I5 ∧ G = G5 ∧ J = J5 ∧ (Ev d mX5_sizeIn 136 0 [some (.ref 122), some (.int x1), some (.int x4)] [] 136 I G J (fun r n I6 G6 J6 => ∃ v6 : Int32, r = some (.int v6) ∧ n = 136 ∧ I = I6 ∧ G = G6 ∧ J = J6 ∧ (vp_in x4 8 ∧ ((v5 < (v6 + (I 126 (x4).toNatClampNeg)) → Ev (d + 1) mX5_push 136 80 [some (.ref 122), some (.int x1), some (.int x2), some (.int x3), some (.int x4), none] [.int (0 : Int32)] 136 I G J Φ) ∧ (¬ v5 < (v6 + (I 126 (x4).toNatClampNeg)) → vp_in (x1 + x4) 1400 ∧ (Ev d mX5_blocksIn 136 0 [some (.ref 122), some (.int x1), some (.int x4), some (.int ((I 123 (x1 + x4).toNatClampNeg) + (1 : Int32))), none, none, none, none] [] 136 I G J (fun r n I10 G10 J10 => ∃ v10 : Int32, r = some (.int v10) ∧ n = 136 ∧ I = I10 ∧ G = G10 ∧ J = J10 ∧ ((¬ v10 = 0 → Ev (d + 1) mX5_push 136 80 [some (.ref 122), some (.int x1), some (.int x2), some (.int x3), some (.int x4), none] [.int (0 : Int32)] 136 I G J Φ) ∧ (v10 = 0 → Ev (d + 1) mX5_push 136 80 [some (.ref 122), some (.int x1), some (.int x2), some (.int x3), some (.int x4), none] [.int (1 : Int32)] 136 I G J Φ))))))))))))))) : Ev (d + 1) mX5_push 136 11 [some (.ref 122), some (.int x1), some (.int x2), some (.int x3), some (.int x4), none] [] 136 I G J Φ := by
  refine E_iload dX5_push_11 rfl ?_
  refine E_aload_n 0 dX5_push_13 rfl rfl ?_
  refine E_geti 5 10 122 33 dX5_push_14 fl_RX5_131 rfl sh_122 ?_
  refine E_icmp_ge 113 dX5_push_17 rfl (fun h1 => ?_) (fun h1 => ?_)
  · replace hy := hy.1 h1
    refine E_aload_n 0 dX5_push_113 rfl rfl ?_
    refine E_iload_n 1 dX5_push_114 rfl rfl ?_
    refine E_iload_n 2 dX5_push_115 rfl rfl ?_
    refine E_cv (M := mX5_push) (pc := 116) (As := [.int x1, .int x2]) (st := []) mX5_tire 2 5 33 dX5_push_116 lk_RX5_190 ⟨_, rfl, rfl⟩ sh_122 rfl (Nat.le_of_ble_eq_true rfl) ⟨rfl, rfl⟩ (Nat.le_of_ble_eq_true rfl) rfl hy ?_
    rintro r n I2 G2 J2 ⟨rfl, rfl, rfl, rfl, hy⟩
    show Ev (d + 1) mX5_push 136 119 [some (.ref 122), some (.int x1), some (.int x2), some (.int x3), some (.int x4), none] [] 136 I2 G J Φ
    refine E_iload_n 3 dX5_push_119 rfl rfl ?_
    exact E_ri dX5_push_120 rfl ⟨rfl, rfl⟩ hy
  · replace hy := hy.2 h1
    refine E_iload_n 2 dX5_push_20 rfl rfl ?_
    refine E_iload dX5_push_21 rfl ?_
    refine E_cs (M := mX5_push) (pc := 23) (As := [.int x2, .int x4]) (st := []) mX5_has 2 dX5_push_23 lk_RX5_118 rfl (Nat.le_of_ble_eq_true rfl) ⟨rfl, rfl⟩ (Nat.le_of_ble_eq_true rfl) rfl hy ?_
    rintro r n I3 G3 J3 ⟨v3, rfl, rfl, rfl, rfl, rfl, hy⟩
    show Ev (d + 1) mX5_push 136 26 [some (.ref 122), some (.int x1), some (.int x2), some (.int x3), some (.int x4), none] [.int v3] 136 I G J Φ
    refine E_if_ne 79 dX5_push_26 rfl (fun h4 => ?_) (fun h4 => ?_)
    · replace hy := hy.1 h4
      refine E_iconst (0 : Int32) dX5_push_79 rfl ?_
      exact hy
    · replace hy := hy.2 (Decidable.not_not.mp h4)
      refine E_aload_n 0 dX5_push_29 rfl rfl ?_
      refine E_iload_n 1 dX5_push_30 rfl rfl ?_
      refine E_iload dX5_push_31 rfl ?_
      refine E_cv (M := mX5_push) (pc := 33) (As := [.int x1, .int x4]) (st := []) mX5_pushOf 2 5 33 dX5_push_33 lk_RX5_183 ⟨_, rfl, rfl⟩ sh_122 rfl (Nat.le_of_ble_eq_true rfl) ⟨rfl, rfl⟩ (Nat.le_of_ble_eq_true rfl) rfl hy ?_
      rintro r n I5 G5 J5 ⟨v5, rfl, rfl, rfl, rfl, rfl, hy⟩
      show Ev (d + 1) mX5_push 136 36 [some (.ref 122), some (.int x1), some (.int x2), some (.int x3), some (.int x4), none] [.int v5] 136 I G J Φ
      refine E_aload_n 0 dX5_push_36 rfl rfl ?_
      refine E_iload_n 1 dX5_push_37 rfl rfl ?_
      refine E_iload dX5_push_38 rfl ?_
      refine E_cv (M := mX5_push) (pc := 40) (As := [.int x1, .int x4]) (st := [.int v5]) mX5_sizeIn 2 5 33 dX5_push_40 lk_RX5_155 ⟨_, rfl, rfl⟩ sh_122 rfl (Nat.le_of_ble_eq_true rfl) ⟨rfl, rfl⟩ (Nat.le_of_ble_eq_true rfl) rfl hy ?_
      rintro r n I6 G6 J6 ⟨v6, rfl, rfl, rfl, rfl, rfl, hy⟩
      show Ev (d + 1) mX5_push 136 43 [some (.ref 122), some (.int x1), some (.int x2), some (.int x3), some (.int x4), none] [.int v6, .int v5] 136 I G J Φ
      refine E_aload_n 0 dX5_push_43 rfl rfl ?_
      refine E_getr 5 3 122 33 126 dX5_push_44 fl_RX5_20 rfl sh_122 (wg_122_3 hG) ?_
      refine E_iload dX5_push_47 rfl ?_
      have c7 := hy.1
      replace hy := hy.2
      refine E_ia 126 8 (x4).toNatClampNeg dX5_push_49 sh_126 c7 rfl ?_
      refine E_iadd dX5_push_50 ?_
      refine E_icmp_lt 79 dX5_push_51 rfl (fun h8 => ?_) (fun h8 => ?_)
      · replace hy := hy.1 h8
        refine E_iconst (0 : Int32) dX5_push_79 rfl ?_
        exact hy
      · replace hy := hy.2 h8
        refine E_aload_n 0 dX5_push_54 rfl rfl ?_
        refine E_iload_n 1 dX5_push_55 rfl rfl ?_
        refine E_iload dX5_push_56 rfl ?_
        refine E_aload_n 0 dX5_push_58 rfl rfl ?_
        refine E_getr 5 0 122 33 123 dX5_push_59 fl_RX5_7 rfl sh_122 (wg_122_0 hG) ?_
        refine E_iload_n 1 dX5_push_62 rfl rfl ?_
        refine E_iload dX5_push_63 rfl ?_
        refine E_iadd dX5_push_65 ?_
        have c9 := hy.1
        replace hy := hy.2
        refine E_ia 123 1400 (x1 + x4).toNatClampNeg dX5_push_66 sh_123 c9 rfl ?_
        refine E_iconst (1 : Int32) dX5_push_67 rfl ?_
        refine E_iadd dX5_push_68 ?_
        refine E_cv (M := mX5_push) (pc := 69) (As := [.int x1, .int x4, .int ((I 123 (x1 + x4).toNatClampNeg) + (1 : Int32))]) (st := []) mX5_blocksIn 3 5 33 dX5_push_69 lk_RX5_186 ⟨_, rfl, rfl⟩ sh_122 rfl (Nat.le_of_ble_eq_true rfl) ⟨rfl, rfl⟩ (Nat.le_of_ble_eq_true rfl) rfl hy ?_
        rintro r n I10 G10 J10 ⟨v10, rfl, rfl, rfl, rfl, rfl, hy⟩
        show Ev (d + 1) mX5_push 136 72 [some (.ref 122), some (.int x1), some (.int x2), some (.int x3), some (.int x4), none] [.int v10] 136 I G J Φ
        refine E_if_ne 79 dX5_push_72 rfl (fun h11 => ?_) (fun h11 => ?_)
        · replace hy := hy.1 h11
          refine E_iconst (0 : Int32) dX5_push_79 rfl ?_
          exact hy
        · replace hy := hy.2 (Decidable.not_not.mp h11)
          refine E_iconst (1 : Int32) dX5_push_75 rfl ?_
          refine E_goto 80 dX5_push_76 rfl ?_
          exact hy
set_option maxRecDepth 100000 in
theorem w_X5_push_80 {d : Nat} {I : MI} {G : MG} {J : MJ} {Φ : Ph} (hG : WG G)  (x1 : Int32) (x2 : Int32) (x3 : Int32) (x4 : Int32) (s0 : Int32) (hy : vp_in (x1 + x4) 1400 ∧ (Ev d mX5_one 136 0 [some (.int s0)] [] 136 I G J (fun r n I2 G2 J2 => ∃ v2 : Int32, r = some (.int v2) ∧ n = 136 ∧ I = I2 ∧ G = G2 ∧ J = J2 ∧ (vp_in (x1 + x4) 1400 ∧ (Ev d mX5_one 136 0 [some (.int s0)] [] 136 (u2 I 123 (x1 + x4).toNatClampNeg ((I 123 (x1 + x4).toNatClampNeg) + v2)) G J (fun r n I4 G4 J4 => ∃ v4 : Int32, r = some (.int v4) ∧ n = 136 ∧ (u2 I 123 (x1 + x4).toNatClampNeg ((I 123 (x1 + x4).toNatClampNeg) + v2)) = I4 ∧ G = G4 ∧ J = J4 ∧ (Ev (d + 1) mX5_push 136 11 [some (.ref 122), some (.int x1), some (.int x2), some (.int (x3 + v4)), some (.int (x4 + (1 : Int32))), none] [] 136 (u2 I 123 (x1 + x4).toNatClampNeg ((I 123 (x1 + x4).toNatClampNeg) + v2)) G J Φ))))))) : Ev (d + 1) mX5_push 136 80 [some (.ref 122), some (.int x1), some (.int x2), some (.int x3), some (.int x4), none] [.int s0] 136 I G J Φ := by
  refine E_istore dX5_push_80 (Nat.le_of_ble_eq_true rfl) (?_ : Ev (d + 1) mX5_push 136 82 [some (.ref 122), some (.int x1), some (.int x2), some (.int x3), some (.int x4), some (.int s0)] [] 136 I G J Φ)
  refine E_aload_n 0 dX5_push_82 rfl rfl ?_
  refine E_getr 5 0 122 33 123 dX5_push_83 fl_RX5_7 rfl sh_122 (wg_122_0 hG) ?_
  refine E_iload_n 1 dX5_push_86 rfl rfl ?_
  refine E_iload dX5_push_87 rfl ?_
  refine E_iadd dX5_push_89 ?_
  refine E_dup2 dX5_push_90 rfl rfl ?_
  have c1 := hy.1
  replace hy := hy.2
  refine E_ia 123 1400 (x1 + x4).toNatClampNeg dX5_push_91 sh_123 c1 rfl ?_
  refine E_iload dX5_push_92 rfl ?_
  refine E_cs (M := mX5_push) (pc := 94) (As := [.int s0]) (st := [.int (I 123 (x1 + x4).toNatClampNeg), .int (x1 + x4), .ref 123]) mX5_one 1 dX5_push_94 lk_RX5_161 rfl (Nat.le_of_ble_eq_true rfl) ⟨rfl, rfl⟩ (Nat.le_of_ble_eq_true rfl) rfl hy ?_
  rintro r n I2 G2 J2 ⟨v2, rfl, rfl, rfl, rfl, rfl, hy⟩
  show Ev (d + 1) mX5_push 136 97 [some (.ref 122), some (.int x1), some (.int x2), some (.int x3), some (.int x4), some (.int s0)] [.int v2, .int (I 123 (x1 + x4).toNatClampNeg), .int (x1 + x4), .ref 123] 136 I G J Φ
  refine E_iadd dX5_push_97 ?_
  have c3 := hy.1
  replace hy := hy.2
  refine E_is 123 1400 (x1 + x4).toNatClampNeg dX5_push_98 sh_123 c3 rfl ?_
  refine E_iload_n 3 dX5_push_99 rfl rfl ?_
  refine E_iload dX5_push_100 rfl ?_
  refine E_cs (M := mX5_push) (pc := 102) (As := [.int s0]) (st := [.int x3]) mX5_one 1 dX5_push_102 lk_RX5_161 rfl (Nat.le_of_ble_eq_true rfl) ⟨rfl, rfl⟩ (Nat.le_of_ble_eq_true rfl) rfl hy ?_
  rintro r n I4 G4 J4 ⟨v4, rfl, rfl, rfl, rfl, rfl, hy⟩
  show Ev (d + 1) mX5_push 136 105 [some (.ref 122), some (.int x1), some (.int x2), some (.int x3), some (.int x4), some (.int s0)] [.int v4, .int x3] 136 (u2 I 123 (x1 + x4).toNatClampNeg ((I 123 (x1 + x4).toNatClampNeg) + v2)) G J Φ
  refine E_iadd dX5_push_105 ?_
  refine E_istore_n 3 dX5_push_106 rfl (Nat.le_of_ble_eq_true rfl) (?_ : Ev (d + 1) mX5_push 136 107 [some (.ref 122), some (.int x1), some (.int x2), some (.int (x3 + v4)), some (.int x4), some (.int s0)] [] 136 (u2 I 123 (x1 + x4).toNatClampNeg ((I 123 (x1 + x4).toNatClampNeg) + v2)) G J Φ)
  refine E_iinc (x4 + (1 : Int32)) dX5_push_107 rfl rfl (Nat.le_of_ble_eq_true rfl) (?_ : Ev (d + 1) mX5_push 136 110 [some (.ref 122), some (.int x1), some (.int x2), some (.int (x3 + v4)), some (.int (x4 + (1 : Int32))), some (.int s0)] [] 136 (u2 I 123 (x1 + x4).toNatClampNeg ((I 123 (x1 + x4).toNatClampNeg) + v2)) G J Φ)
  refine E_goto 11 dX5_push_110 rfl ?_
  refine E_wk (ls2 := [some (.ref 122), some (.int x1), some (.int x2), some (.int (x3 + v4)), some (.int (x4 + (1 : Int32))), none]) ⟨rfl, rfl, rfl, rfl, rfl, trivial⟩ ?_
  exact hy
set_option maxRecDepth 100000 in
theorem w_X5_pushOf {d : Nat} {I : MI} {G : MG} {J : MJ} {Φ : Ph} (hG : WG G) (x1 : Int32) (x2 : Int32) (hy : Ev d mX5_pushOf 136 5 [some (.ref 122), some (.int x1), some (.int x2), some (.int (0 : Int32)), some (.int (0 : Int32))] [] 136 I G J Φ) : Ev d mX5_pushOf 136 0 [some (.ref 122), some (.int x1), some (.int x2), none, none] [] 136 I G J Φ := by
  refine E_iconst (0 : Int32) dX5_pushOf_0 rfl ?_
  refine E_istore_n 3 dX5_pushOf_1 rfl (Nat.le_of_ble_eq_true rfl) (?_ : Ev d mX5_pushOf 136 2 [some (.ref 122), some (.int x1), some (.int x2), some (.int (0 : Int32)), none] [] 136 I G J Φ)
  refine E_iconst (0 : Int32) dX5_pushOf_2 rfl ?_
  refine E_istore dX5_pushOf_3 (Nat.le_of_ble_eq_true rfl) (?_ : Ev d mX5_pushOf 136 5 [some (.ref 122), some (.int x1), some (.int x2), some (.int (0 : Int32)), some (.int (0 : Int32))] [] 136 I G J Φ)
  exact hy
set_option maxRecDepth 100000 in
theorem w_X5_pushOf_5 {d : Nat} {I : MI} {G : MG} {J : MJ} {Φ : Ph} (hG : WG G)  (x1 : Int32) (x2 : Int32) (x3 : Int32) (x4 : Int32) (hy : ((I 122 12) ≤ x4 → Φ (some (.int x3)) 136 I G J) ∧ (¬ (I 122 12) ≤ x4 → vp_in ((x1 + (11 : Int32)) + x4) 1400 ∧ ((¬ (I 123 ((x1 + (11 : Int32)) + x4).toNatClampNeg) = x2 → Ev d mX5_pushOf 136 5 [some (.ref 122), some (.int x1), some (.int x2), some (.int (x3 + (0 : Int32))), some (.int (x4 + (1 : Int32)))] [] 136 I G J Φ) ∧ ((I 123 ((x1 + (11 : Int32)) + x4).toNatClampNeg) = x2 → vp_in ((x1 + (8 : Int32)) + x4) 1400 ∧ (Ev d mX5_pushOf 136 5 [some (.ref 122), some (.int x1), some (.int x2), some (.int (x3 + (I 123 ((x1 + (8 : Int32)) + x4).toNatClampNeg))), some (.int (x4 + (1 : Int32)))] [] 136 I G J Φ))))) : Ev d mX5_pushOf 136 5 [some (.ref 122), some (.int x1), some (.int x2), some (.int x3), some (.int x4)] [] 136 I G J Φ := by
  refine E_iload dX5_pushOf_5 rfl ?_
  refine E_aload_n 0 dX5_pushOf_7 rfl rfl ?_
  refine E_geti 5 12 122 33 dX5_pushOf_8 fl_RX5_137 rfl sh_122 ?_
  refine E_icmp_ge 55 dX5_pushOf_11 rfl (fun h1 => ?_) (fun h1 => ?_)
  · replace hy := hy.1 h1
    refine E_iload_n 3 dX5_pushOf_55 rfl rfl ?_
    exact E_ri dX5_pushOf_56 rfl ⟨rfl, rfl⟩ hy
  · replace hy := hy.2 h1
    refine E_iload_n 3 dX5_pushOf_14 rfl rfl ?_
    refine E_aload_n 0 dX5_pushOf_15 rfl rfl ?_
    refine E_getr 5 0 122 33 123 dX5_pushOf_16 fl_RX5_7 rfl sh_122 (wg_122_0 hG) ?_
    refine E_iload_n 1 dX5_pushOf_19 rfl rfl ?_
    refine E_bipush (11 : Int32) dX5_pushOf_20 rfl ?_
    refine E_iadd dX5_pushOf_22 ?_
    refine E_iload dX5_pushOf_23 rfl ?_
    refine E_iadd dX5_pushOf_25 ?_
    have c2 := hy.1
    replace hy := hy.2
    refine E_ia 123 1400 ((x1 + (11 : Int32)) + x4).toNatClampNeg dX5_pushOf_26 sh_123 c2 rfl ?_
    refine E_iload_n 2 dX5_pushOf_27 rfl rfl ?_
    refine E_icmp_ne 46 dX5_pushOf_28 rfl (fun h3 => ?_) (fun h3 => ?_)
    · replace hy := hy.1 h3
      refine E_iconst (0 : Int32) dX5_pushOf_46 rfl ?_
      refine E_iadd dX5_pushOf_47 ?_
      refine E_istore_n 3 dX5_pushOf_48 rfl (Nat.le_of_ble_eq_true rfl) (?_ : Ev d mX5_pushOf 136 49 [some (.ref 122), some (.int x1), some (.int x2), some (.int (x3 + (0 : Int32))), some (.int x4)] [] 136 I G J Φ)
      refine E_iinc (x4 + (1 : Int32)) dX5_pushOf_49 rfl rfl (Nat.le_of_ble_eq_true rfl) (?_ : Ev d mX5_pushOf 136 52 [some (.ref 122), some (.int x1), some (.int x2), some (.int (x3 + (0 : Int32))), some (.int (x4 + (1 : Int32)))] [] 136 I G J Φ)
      refine E_goto 5 dX5_pushOf_52 rfl ?_
      exact hy
    · replace hy := hy.2 (Decidable.not_not.mp h3)
      refine E_aload_n 0 dX5_pushOf_31 rfl rfl ?_
      refine E_getr 5 0 122 33 123 dX5_pushOf_32 fl_RX5_7 rfl sh_122 (wg_122_0 hG) ?_
      refine E_iload_n 1 dX5_pushOf_35 rfl rfl ?_
      refine E_bipush (8 : Int32) dX5_pushOf_36 rfl ?_
      refine E_iadd dX5_pushOf_38 ?_
      refine E_iload dX5_pushOf_39 rfl ?_
      refine E_iadd dX5_pushOf_41 ?_
      have c4 := hy.1
      replace hy := hy.2
      refine E_ia 123 1400 ((x1 + (8 : Int32)) + x4).toNatClampNeg dX5_pushOf_42 sh_123 c4 rfl ?_
      refine E_goto 47 dX5_pushOf_43 rfl ?_
      refine E_iadd dX5_pushOf_47 ?_
      refine E_istore_n 3 dX5_pushOf_48 rfl (Nat.le_of_ble_eq_true rfl) (?_ : Ev d mX5_pushOf 136 49 [some (.ref 122), some (.int x1), some (.int x2), some (.int (x3 + (I 123 ((x1 + (8 : Int32)) + x4).toNatClampNeg))), some (.int x4)] [] 136 I G J Φ)
      refine E_iinc (x4 + (1 : Int32)) dX5_pushOf_49 rfl rfl (Nat.le_of_ble_eq_true rfl) (?_ : Ev d mX5_pushOf 136 52 [some (.ref 122), some (.int x1), some (.int x2), some (.int (x3 + (I 123 ((x1 + (8 : Int32)) + x4).toNatClampNeg))), some (.int (x4 + (1 : Int32)))] [] 136 I G J Φ)
      refine E_goto 5 dX5_pushOf_52 rfl ?_
      exact hy
set_option maxRecDepth 100000 in
theorem w_X5_rainsOn {d : Nat} {I : MI} {G : MG} {J : MJ} {Φ : Ph} (hG : WG G) (x1 : Int32) (hy : Ev d mX5_has 136 0 [some (.int (I 122 14)), some (.int (x1 - x1 / (7 : Int32) * (7 : Int32)))] [] 136 I G J (fun r n I1 G1 J1 => ∃ v1 : Int32, r = some (.int v1) ∧ n = 136 ∧ I = I1 ∧ G = G1 ∧ J = J1 ∧ (narrow .boolean (.int v1) = .int v1 ∧ (Φ (some (.int v1)) 136 I G J)))) : Ev (d + 1) mX5_rainsOn 136 0 [some (.ref 122), some (.int x1)] [] 136 I G J Φ := by
  refine E_aload_n 0 dX5_rainsOn_0 rfl rfl ?_
  refine E_geti 5 14 122 33 dX5_rainsOn_1 fl_RX5_140 rfl sh_122 ?_
  refine E_iload_n 1 dX5_rainsOn_4 rfl rfl ?_
  refine E_bipush (7 : Int32) dX5_rainsOn_5 rfl ?_
  refine E_irem dX5_rainsOn_7 (by decide) ?_
  refine E_cs (M := mX5_rainsOn) (pc := 8) (As := [.int (I 122 14), .int (x1 - x1 / (7 : Int32) * (7 : Int32))]) (st := []) mX5_has 2 dX5_rainsOn_8 lk_RX5_118 rfl (Nat.le_of_ble_eq_true rfl) ⟨rfl, rfl⟩ (Nat.le_of_ble_eq_true rfl) rfl hy ?_
  rintro r n I1 G1 J1 ⟨v1, rfl, rfl, rfl, rfl, rfl, hy⟩
  show Ev (d + 1) mX5_rainsOn 136 11 [some (.ref 122), some (.int x1)] [.int v1] 136 I G J Φ
  have c2 := hy.1
  replace hy := hy.2
  exact E_rz dX5_rainsOn_11 rfl c2 ⟨rfl, rfl⟩ hy
set_option maxRecDepth 100000 in
theorem w_X5_rate {d : Nat} {I : MI} {G : MG} {J : MJ} {Φ : Ph} (hG : WG G) (x1 : Int32) (x2 : Int32) (hy : Ev d mX5_in 136 0 [some (.long (x1.toInt64)), none, some (.long (0 : Int64)), none, some (.long (5 : Int64)), none] [] 136 I G J (fun r n I1 G1 J1 => ∃ v1 : Int32, r = some (.int v1) ∧ n = 136 ∧ I = I1 ∧ G = G1 ∧ J = J1 ∧ ((v1 = 0 → Φ (some (.int (-1000000 : Int32))) 136 I G J) ∧ (¬ v1 = 0 → Ev d mX5_isHill 136 0 [some (.ref 122), some (.int x2)] [] 136 I G J (fun r n I3 G3 J3 => ∃ v3 : Int32, r = some (.int v3) ∧ n = 136 ∧ I = I3 ∧ G = G3 ∧ J = J3 ∧ ((¬ v3 = 0 → (x1 = nI 0 → Ev d mX5_stoneRate 136 0 [some (.ref 122), some (.int x2)] [] 136 I G J (fun r n I5 G5 J5 => ∃ v5 : Int32, r = some (.int v5) ∧ n = 136 ∧ I = I5 ∧ G = G5 ∧ (Φ (some (.int v5)) 136 I G J5))) ∧ (¬ x1 = nI 0 → (x1 = nI 1 → Ev d mX5_roundRate 136 0 [some (.ref 122), some (.int x2)] [] 136 I G J (fun r n I6 G6 J6 => ∃ v6 : Int32, r = some (.int v6) ∧ n = 136 ∧ I = I6 ∧ G = G6 ∧ (Φ (some (.int v6)) 136 I G J6))) ∧ (¬ x1 = nI 1 → (x1 = nI 2 → Ev d mX5_splitRate 136 0 [some (.ref 122), some (.int x2)] [] 136 I G J (fun r n I7 G7 J7 => ∃ v7 : Int32, r = some (.int v7) ∧ n = 136 ∧ I = I7 ∧ G = G7 ∧ (Φ (some (.int v7)) 136 I G J7))) ∧ (¬ x1 = nI 2 → (x1 = nI 3 → Ev d mX5_wetRate 136 0 [some (.ref 122), some (.int x2)] [] 136 I G J (fun r n I8 G8 J8 => ∃ v8 : Int32, r = some (.int v8) ∧ n = 136 ∧ I = I8 ∧ G = G8 ∧ (Φ (some (.int v8)) 136 I G J8))) ∧ (¬ x1 = nI 3 → (x1 = nI 4 → Ev d mX5_lentRate 136 0 [some (.ref 122), some (.int x2)] [] 136 I G J (fun r n I9 G9 J9 => ∃ v9 : Int32, r = some (.int v9) ∧ n = 136 ∧ I = I9 ∧ G = G9 ∧ (Φ (some (.int v9)) 136 I G J9))) ∧ (¬ x1 = nI 4 → Ev d mX5_hollowRate 136 0 [some (.ref 122), some (.int x2), none, none] [] 136 I G J (fun r n I10 G10 J10 => ∃ v10 : Int32, r = some (.int v10) ∧ n = 136 ∧ I = I10 ∧ G = G10 ∧ (Φ (some (.int v10)) 136 I G J10)))))))) ∧ (v3 = 0 → Φ (some (.int (-1000000 : Int32))) 136 I G J))))))) : Ev (d + 1) mX5_rate 136 0 [some (.ref 122), some (.int x1), some (.int x2)] [] 136 I G J Φ := by
  refine E_iload_n 1 dX5_rate_0 rfl rfl ?_
  refine E_i2l dX5_rate_1 ?_
  refine E_lconst (0 : Int64) dX5_rate_2 rfl ?_
  refine E_ldc2 (5 : Int64) dX5_rate_3 cl_RX5_255 ?_
  refine E_cs (M := mX5_rate) (pc := 6) (As := [.long (x1.toInt64), .long (0 : Int64), .long (5 : Int64)]) (st := []) mX5_in 3 dX5_rate_6 lk_RX5_59 rfl (Nat.le_of_ble_eq_true rfl) ⟨rfl, rfl⟩ (Nat.le_of_ble_eq_true rfl) rfl hy ?_
  rintro r n I1 G1 J1 ⟨v1, rfl, rfl, rfl, rfl, rfl, hy⟩
  show Ev (d + 1) mX5_rate 136 9 [some (.ref 122), some (.int x1), some (.int x2)] [.int v1] 136 I G J Φ
  refine E_if_eq 20 dX5_rate_9 rfl (fun h2 => ?_) (fun h2 => ?_)
  · replace hy := hy.1 h2
    refine E_ldcw (-1000000 : Int32) dX5_rate_20 cs_RX5_257 ?_
    exact E_ri dX5_rate_23 rfl ⟨rfl, rfl⟩ hy
  · replace hy := hy.2 h2
    refine E_aload_n 0 dX5_rate_12 rfl rfl ?_
    refine E_iload_n 2 dX5_rate_13 rfl rfl ?_
    refine E_cv (M := mX5_rate) (pc := 14) (As := [.int x2]) (st := []) mX5_isHill 1 5 33 dX5_rate_14 lk_RX5_149 ⟨_, rfl, rfl⟩ sh_122 rfl (Nat.le_of_ble_eq_true rfl) ⟨rfl, rfl⟩ (Nat.le_of_ble_eq_true rfl) rfl hy ?_
    rintro r n I3 G3 J3 ⟨v3, rfl, rfl, rfl, rfl, rfl, hy⟩
    show Ev (d + 1) mX5_rate 136 17 [some (.ref 122), some (.int x1), some (.int x2)] [.int v3] 136 I G J Φ
    refine E_if_ne 24 dX5_rate_17 rfl (fun h4 => ?_) (fun h4 => ?_)
    · replace hy := hy.1 h4
      refine E_iload_n 1 dX5_rate_24 rfl rfl ?_
      refine E_tsw 0 [60, 66, 72, 78, 84] 90 dX5_rate_25 rfl rfl rfl (by decide) ?_
      refine ⟨fun h11 => ?_, fun h11 => ?_⟩
      · replace hy := hy.1 h11
        dsimp only
        refine E_aload_n 0 dX5_rate_60 rfl rfl ?_
        refine E_iload_n 2 dX5_rate_61 rfl rfl ?_
        refine E_cv (M := mX5_rate) (pc := 62) (As := [.int x2]) (st := []) mX5_stoneRate 1 5 33 dX5_rate_62 lk_RX5_238 ⟨_, rfl, rfl⟩ sh_122 rfl (Nat.le_of_ble_eq_true rfl) ⟨rfl, rfl⟩ (Nat.le_of_ble_eq_true rfl) rfl hy ?_
        rintro r n I5 G5 J5 ⟨v5, rfl, rfl, rfl, rfl, hy⟩
        show Ev (d + 1) mX5_rate 136 65 [some (.ref 122), some (.int x1), some (.int x2)] [.int v5] 136 I G J5 Φ
        exact E_ri dX5_rate_65 rfl ⟨rfl, rfl⟩ hy
      replace hy := hy.2 h11
      refine ⟨fun h12 => ?_, fun h12 => ?_⟩
      · replace hy := hy.1 h12
        dsimp only
        refine E_aload_n 0 dX5_rate_66 rfl rfl ?_
        refine E_iload_n 2 dX5_rate_67 rfl rfl ?_
        refine E_cv (M := mX5_rate) (pc := 68) (As := [.int x2]) (st := []) mX5_roundRate 1 5 33 dX5_rate_68 lk_RX5_245 ⟨_, rfl, rfl⟩ sh_122 rfl (Nat.le_of_ble_eq_true rfl) ⟨rfl, rfl⟩ (Nat.le_of_ble_eq_true rfl) rfl hy ?_
        rintro r n I6 G6 J6 ⟨v6, rfl, rfl, rfl, rfl, hy⟩
        show Ev (d + 1) mX5_rate 136 71 [some (.ref 122), some (.int x1), some (.int x2)] [.int v6] 136 I G J6 Φ
        exact E_ri dX5_rate_71 rfl ⟨rfl, rfl⟩ hy
      replace hy := hy.2 h12
      refine ⟨fun h13 => ?_, fun h13 => ?_⟩
      · replace hy := hy.1 h13
        dsimp only
        refine E_aload_n 0 dX5_rate_72 rfl rfl ?_
        refine E_iload_n 2 dX5_rate_73 rfl rfl ?_
        refine E_cv (M := mX5_rate) (pc := 74) (As := [.int x2]) (st := []) mX5_splitRate 1 5 33 dX5_rate_74 lk_RX5_250 ⟨_, rfl, rfl⟩ sh_122 rfl (Nat.le_of_ble_eq_true rfl) ⟨rfl, rfl⟩ (Nat.le_of_ble_eq_true rfl) rfl hy ?_
        rintro r n I7 G7 J7 ⟨v7, rfl, rfl, rfl, rfl, hy⟩
        show Ev (d + 1) mX5_rate 136 77 [some (.ref 122), some (.int x1), some (.int x2)] [.int v7] 136 I G J7 Φ
        exact E_ri dX5_rate_77 rfl ⟨rfl, rfl⟩ hy
      replace hy := hy.2 h13
      refine ⟨fun h14 => ?_, fun h14 => ?_⟩
      · replace hy := hy.1 h14
        dsimp only
        refine E_aload_n 0 dX5_rate_78 rfl rfl ?_
        refine E_iload_n 2 dX5_rate_79 rfl rfl ?_
        refine E_cv (M := mX5_rate) (pc := 80) (As := [.int x2]) (st := []) mX5_wetRate 1 5 33 dX5_rate_80 lk_RX5_258 ⟨_, rfl, rfl⟩ sh_122 rfl (Nat.le_of_ble_eq_true rfl) ⟨rfl, rfl⟩ (Nat.le_of_ble_eq_true rfl) rfl hy ?_
        rintro r n I8 G8 J8 ⟨v8, rfl, rfl, rfl, rfl, hy⟩
        show Ev (d + 1) mX5_rate 136 83 [some (.ref 122), some (.int x1), some (.int x2)] [.int v8] 136 I G J8 Φ
        exact E_ri dX5_rate_83 rfl ⟨rfl, rfl⟩ hy
      replace hy := hy.2 h14
      refine ⟨fun h15 => ?_, fun h15 => ?_⟩
      · replace hy := hy.1 h15
        dsimp only
        refine E_aload_n 0 dX5_rate_84 rfl rfl ?_
        refine E_iload_n 2 dX5_rate_85 rfl rfl ?_
        refine E_cv (M := mX5_rate) (pc := 86) (As := [.int x2]) (st := []) mX5_lentRate 1 5 33 dX5_rate_86 lk_RX5_261 ⟨_, rfl, rfl⟩ sh_122 rfl (Nat.le_of_ble_eq_true rfl) ⟨rfl, rfl⟩ (Nat.le_of_ble_eq_true rfl) rfl hy ?_
        rintro r n I9 G9 J9 ⟨v9, rfl, rfl, rfl, rfl, hy⟩
        show Ev (d + 1) mX5_rate 136 89 [some (.ref 122), some (.int x1), some (.int x2)] [.int v9] 136 I G J9 Φ
        exact E_ri dX5_rate_89 rfl ⟨rfl, rfl⟩ hy
      replace hy := hy.2 h15
      show Ev (d + 1) mX5_rate 136 90 [some (.ref 122), some (.int x1), some (.int x2)] [] 136 I G J Φ
      refine E_aload_n 0 dX5_rate_90 rfl rfl ?_
      refine E_iload_n 2 dX5_rate_91 rfl rfl ?_
      refine E_cv (M := mX5_rate) (pc := 92) (As := [.int x2]) (st := []) mX5_hollowRate 1 5 33 dX5_rate_92 lk_RX5_264 ⟨_, rfl, rfl⟩ sh_122 rfl (Nat.le_of_ble_eq_true rfl) ⟨rfl, rfl⟩ (Nat.le_of_ble_eq_true rfl) rfl hy ?_
      rintro r n I10 G10 J10 ⟨v10, rfl, rfl, rfl, rfl, hy⟩
      show Ev (d + 1) mX5_rate 136 95 [some (.ref 122), some (.int x1), some (.int x2)] [.int v10] 136 I G J10 Φ
      exact E_ri dX5_rate_95 rfl ⟨rfl, rfl⟩ hy
    · replace hy := hy.2 (Decidable.not_not.mp h4)
      refine E_ldcw (-1000000 : Int32) dX5_rate_20 cs_RX5_257 ?_
      exact E_ri dX5_rate_23 rfl ⟨rfl, rfl⟩ hy
set_option maxRecDepth 100000 in
theorem w_X5_remember {d : Nat} {I : MI} {G : MG} {J : MJ} {Φ : Ph} (hG : WG G)  (hy : (¬ (I 122 28) = (10 : Int32) → Ev d mX5_copy 136 0 [some (.ref 122), some (.int (0 : Int32)), some (.int ((400 : Int32) + ((100 : Int32) * (I 122 28)))), none] [] 136 I G J (fun r n I2 G2 J2 => r = none ∧ n = 136 ∧ G = G2 ∧ J = J2 ∧ (Φ none 136 (u2 I2 122 28 ((I2 122 28) + (1 : Int32))) G J))) ∧ ((I 122 28) = (10 : Int32) → Ev (d + 1) mX5_remember 136 11 [some (.ref 122), some (.int (1 : Int32))] [] 136 I G J Φ)) : Ev (d + 1) mX5_remember 136 0 [some (.ref 122), none] [] 136 I G J Φ := by
  refine E_aload_n 0 dX5_remember_0 rfl rfl ?_
  refine E_geti 5 28 122 33 dX5_remember_1 fl_RX5_146 rfl sh_122 ?_
  refine E_bipush (10 : Int32) dX5_remember_4 rfl ?_
  refine E_icmp_ne 55 dX5_remember_6 rfl (fun h1 => ?_) (fun h1 => ?_)
  · replace hy := hy.1 h1
    refine E_aload_n 0 dX5_remember_55 rfl rfl ?_
    refine E_iconst (0 : Int32) dX5_remember_56 rfl ?_
    refine E_sipush (400 : Int32) dX5_remember_57 rfl ?_
    refine E_bipush (100 : Int32) dX5_remember_60 rfl ?_
    refine E_aload_n 0 dX5_remember_62 rfl rfl ?_
    refine E_geti 5 28 122 33 dX5_remember_63 fl_RX5_146 rfl sh_122 ?_
    refine E_imul dX5_remember_66 ?_
    refine E_iadd dX5_remember_67 ?_
    refine E_cv (M := mX5_remember) (pc := 68) (As := [.int (0 : Int32), .int ((400 : Int32) + ((100 : Int32) * (I 122 28)))]) (st := []) mX5_copy 2 5 33 dX5_remember_68 lk_RX5_172 ⟨_, rfl, rfl⟩ sh_122 rfl (Nat.le_of_ble_eq_true rfl) ⟨rfl, rfl⟩ (Nat.le_of_ble_eq_true rfl) rfl hy ?_
    rintro r n I2 G2 J2 ⟨rfl, rfl, rfl, rfl, hy⟩
    show Ev (d + 1) mX5_remember 136 71 [some (.ref 122), none] [] 136 I2 G J Φ
    refine E_aload_n 0 dX5_remember_71 rfl rfl ?_
    refine E_dup dX5_remember_72 rfl ?_
    refine E_geti 5 28 122 33 dX5_remember_73 fl_RX5_146 rfl sh_122 ?_
    refine E_iconst (1 : Int32) dX5_remember_76 rfl ?_
    refine E_iadd dX5_remember_77 ?_
    refine E_puti 5 28 122 33 dX5_remember_78 fl_RX5_146 rfl sh_122 ⟨_, rfl, rfl⟩ rfl rfl ?_
    exact E_rv dX5_remember_81 rfl ⟨rfl, rfl⟩ hy
  · replace hy := hy.2 (Decidable.not_not.mp h1)
    refine E_iconst (1 : Int32) dX5_remember_9 rfl ?_
    refine E_istore_n 1 dX5_remember_10 rfl (Nat.le_of_ble_eq_true rfl) (?_ : Ev (d + 1) mX5_remember 136 11 [some (.ref 122), some (.int (1 : Int32))] [] 136 I G J Φ)
    exact hy
set_option maxRecDepth 100000 in
theorem w_X5_remember_11 {d : Nat} {I : MI} {G : MG} {J : MJ} {Φ : Ph} (hG : WG G)  (x1 : Int32) (hy : ((10 : Int32) ≤ x1 → Ev d mX5_copy 136 0 [some (.ref 122), some (.int (0 : Int32)), some (.int ((400 : Int32) + ((100 : Int32) * ((I 122 28) - (1 : Int32))))), none] [] 136 (u2 I 122 28 ((I 122 28) - (1 : Int32))) G J (fun r n I2 G2 J2 => r = none ∧ n = 136 ∧ G = G2 ∧ J = J2 ∧ (Φ none 136 (u2 I2 122 28 ((I2 122 28) + (1 : Int32))) G J))) ∧ (¬ (10 : Int32) ≤ x1 → Ev d mX5_copy 136 0 [some (.ref 122), some (.int ((400 : Int32) + ((100 : Int32) * x1))), some (.int ((400 : Int32) + ((100 : Int32) * (x1 - (1 : Int32))))), none] [] 136 I G J (fun r n I3 G3 J3 => r = none ∧ n = 136 ∧ G = G3 ∧ J = J3 ∧ (Ev (d + 1) mX5_remember 136 11 [some (.ref 122), some (.int (x1 + (1 : Int32)))] [] 136 I3 G J Φ)))) : Ev (d + 1) mX5_remember 136 11 [some (.ref 122), some (.int x1)] [] 136 I G J Φ := by
  refine E_iload_n 1 dX5_remember_11 rfl rfl ?_
  refine E_bipush (10 : Int32) dX5_remember_12 rfl ?_
  refine E_icmp_ge 45 dX5_remember_14 rfl (fun h1 => ?_) (fun h1 => ?_)
  · replace hy := hy.1 h1
    refine E_aload_n 0 dX5_remember_45 rfl rfl ?_
    refine E_dup dX5_remember_46 rfl ?_
    refine E_geti 5 28 122 33 dX5_remember_47 fl_RX5_146 rfl sh_122 ?_
    refine E_iconst (1 : Int32) dX5_remember_50 rfl ?_
    refine E_isub dX5_remember_51 ?_
    refine E_puti 5 28 122 33 dX5_remember_52 fl_RX5_146 rfl sh_122 ⟨_, rfl, rfl⟩ rfl rfl ?_
    refine E_aload_n 0 dX5_remember_55 rfl rfl ?_
    refine E_iconst (0 : Int32) dX5_remember_56 rfl ?_
    refine E_sipush (400 : Int32) dX5_remember_57 rfl ?_
    refine E_bipush (100 : Int32) dX5_remember_60 rfl ?_
    refine E_aload_n 0 dX5_remember_62 rfl rfl ?_
    refine E_getw 5 28 122 33 ((I 122 28) - (1 : Int32)) dX5_remember_63 fl_RX5_146 rfl sh_122 rfl ?_
    refine E_imul dX5_remember_66 ?_
    refine E_iadd dX5_remember_67 ?_
    refine E_cv (M := mX5_remember) (pc := 68) (As := [.int (0 : Int32), .int ((400 : Int32) + ((100 : Int32) * ((I 122 28) - (1 : Int32))))]) (st := []) mX5_copy 2 5 33 dX5_remember_68 lk_RX5_172 ⟨_, rfl, rfl⟩ sh_122 rfl (Nat.le_of_ble_eq_true rfl) ⟨rfl, rfl⟩ (Nat.le_of_ble_eq_true rfl) rfl hy ?_
    rintro r n I2 G2 J2 ⟨rfl, rfl, rfl, rfl, hy⟩
    show Ev (d + 1) mX5_remember 136 71 [some (.ref 122), some (.int x1)] [] 136 I2 G J Φ
    refine E_aload_n 0 dX5_remember_71 rfl rfl ?_
    refine E_dup dX5_remember_72 rfl ?_
    refine E_geti 5 28 122 33 dX5_remember_73 fl_RX5_146 rfl sh_122 ?_
    refine E_iconst (1 : Int32) dX5_remember_76 rfl ?_
    refine E_iadd dX5_remember_77 ?_
    refine E_puti 5 28 122 33 dX5_remember_78 fl_RX5_146 rfl sh_122 ⟨_, rfl, rfl⟩ rfl rfl ?_
    exact E_rv dX5_remember_81 rfl ⟨rfl, rfl⟩ hy
  · replace hy := hy.2 h1
    refine E_aload_n 0 dX5_remember_17 rfl rfl ?_
    refine E_sipush (400 : Int32) dX5_remember_18 rfl ?_
    refine E_bipush (100 : Int32) dX5_remember_21 rfl ?_
    refine E_iload_n 1 dX5_remember_23 rfl rfl ?_
    refine E_imul dX5_remember_24 ?_
    refine E_iadd dX5_remember_25 ?_
    refine E_sipush (400 : Int32) dX5_remember_26 rfl ?_
    refine E_bipush (100 : Int32) dX5_remember_29 rfl ?_
    refine E_iload_n 1 dX5_remember_31 rfl rfl ?_
    refine E_iconst (1 : Int32) dX5_remember_32 rfl ?_
    refine E_isub dX5_remember_33 ?_
    refine E_imul dX5_remember_34 ?_
    refine E_iadd dX5_remember_35 ?_
    refine E_cv (M := mX5_remember) (pc := 36) (As := [.int ((400 : Int32) + ((100 : Int32) * x1)), .int ((400 : Int32) + ((100 : Int32) * (x1 - (1 : Int32))))]) (st := []) mX5_copy 2 5 33 dX5_remember_36 lk_RX5_172 ⟨_, rfl, rfl⟩ sh_122 rfl (Nat.le_of_ble_eq_true rfl) ⟨rfl, rfl⟩ (Nat.le_of_ble_eq_true rfl) rfl hy ?_
    rintro r n I3 G3 J3 ⟨rfl, rfl, rfl, rfl, hy⟩
    show Ev (d + 1) mX5_remember 136 39 [some (.ref 122), some (.int x1)] [] 136 I3 G J Φ
    refine E_iinc (x1 + (1 : Int32)) dX5_remember_39 rfl rfl (Nat.le_of_ble_eq_true rfl) (?_ : Ev (d + 1) mX5_remember 136 42 [some (.ref 122), some (.int (x1 + (1 : Int32)))] [] 136 I3 G J Φ)
    refine E_goto 11 dX5_remember_42 rfl ?_
    exact hy
set_option maxRecDepth 100000 in
theorem w_X5_roundRate {d : Nat} {I : MI} {G : MG} {J : MJ} {Φ : Ph} (hG : WG G) (x1 : Int32) (hy : Ev d mX5_stoneRate 136 0 [some (.ref 122), some (.int x1)] [] 136 I G (u2 J 122 32 ((J 122 32) + (10 : Int64))) (fun r n I1 G1 J1 => ∃ v1 : Int32, r = some (.int v1) ∧ n = 136 ∧ I = I1 ∧ G = G1 ∧ (vp_in x1 1400 ∧ (Φ (some (.int (v1 + (I 123 (x1).toNatClampNeg)))) 136 I G J1)))) : Ev (d + 1) mX5_roundRate 136 0 [some (.ref 122), some (.int x1)] [] 136 I G J Φ := by
  refine E_aload_n 0 dX5_roundRate_0 rfl rfl ?_
  refine E_dup dX5_roundRate_1 rfl ?_
  refine E_getl 5 32 122 33 dX5_roundRate_2 fl_RX5_234 rfl sh_122 ?_
  refine E_ldc2 (10 : Int64) dX5_roundRate_5 cl_RX5_226 ?_
  refine E_ladd dX5_roundRate_8 ?_
  refine E_putl 5 32 122 33 dX5_roundRate_9 fl_RX5_234 rfl sh_122 ⟨_, rfl, rfl⟩ rfl rfl ?_
  refine E_aload_n 0 dX5_roundRate_12 rfl rfl ?_
  refine E_iload_n 1 dX5_roundRate_13 rfl rfl ?_
  refine E_cv (M := mX5_roundRate) (pc := 14) (As := [.int x1]) (st := []) mX5_stoneRate 1 5 33 dX5_roundRate_14 lk_RX5_238 ⟨_, rfl, rfl⟩ sh_122 rfl (Nat.le_of_ble_eq_true rfl) ⟨rfl, rfl⟩ (Nat.le_of_ble_eq_true rfl) rfl hy ?_
  rintro r n I1 G1 J1 ⟨v1, rfl, rfl, rfl, rfl, hy⟩
  show Ev (d + 1) mX5_roundRate 136 17 [some (.ref 122), some (.int x1)] [.int v1] 136 I G J1 Φ
  refine E_aload_n 0 dX5_roundRate_17 rfl rfl ?_
  refine E_getr 5 0 122 33 123 dX5_roundRate_18 fl_RX5_7 rfl sh_122 (wg_122_0 hG) ?_
  refine E_iload_n 1 dX5_roundRate_21 rfl rfl ?_
  have c2 := hy.1
  replace hy := hy.2
  refine E_ia 123 1400 (x1).toNatClampNeg dX5_roundRate_22 sh_123 c2 rfl ?_
  refine E_iadd dX5_roundRate_23 ?_
  exact E_ri dX5_roundRate_24 rfl ⟨rfl, rfl⟩ hy
set_option maxRecDepth 100000 in
theorem w_X5_saw {d : Nat} {I : MI} {G : MG} {J : MJ} {Φ : Ph} (hG : WG G) (x1 : Int32) (x2 : Int32) (hy : Ev d mX5_isHill 136 0 [some (.ref 122), some (.int x1)] [] 136 I G J (fun r n I1 G1 J1 => ∃ v1 : Int32, r = some (.int v1) ∧ n = 136 ∧ I = I1 ∧ G = G1 ∧ J = J1 ∧ ((v1 = 0 → Φ (some (.int (-1 : Int32))) 136 I G J) ∧ (¬ v1 = 0 → Ev d mX5_in 136 0 [some (.long (x2.toInt64)), none, some (.long (0 : Int64)), none, some (.long (9 : Int64)), none] [] 136 I G J (fun r n I3 G3 J3 => ∃ v3 : Int32, r = some (.int v3) ∧ n = 136 ∧ I = I3 ∧ G = G3 ∧ J = J3 ∧ ((¬ v3 = 0 → (¬ (I 122 31) = (6 : Int32) → vp_in (I 122 31) 6 ∧ (vp_in (I 122 31) 6 ∧ (Φ (some (.int ((I 122 31) + (1 : Int32)))) 136 (u2 (u2 (u2 I 134 (I 122 31).toNatClampNeg x1) 135 (I 122 31).toNatClampNeg x2) 122 31 ((I 122 31) + (1 : Int32))) G J))) ∧ ((I 122 31) = (6 : Int32) → Φ (some (.int (-3 : Int32))) 136 I G J)) ∧ (v3 = 0 → Φ (some (.int (-1 : Int32))) 136 I G J))))))) : Ev (d + 1) mX5_saw 136 0 [some (.ref 122), some (.int x1), some (.int x2)] [] 136 I G J Φ := by
  refine E_aload_n 0 dX5_saw_0 rfl rfl ?_
  refine E_iload_n 1 dX5_saw_1 rfl rfl ?_
  refine E_cv (M := mX5_saw) (pc := 2) (As := [.int x1]) (st := []) mX5_isHill 1 5 33 dX5_saw_2 lk_RX5_149 ⟨_, rfl, rfl⟩ sh_122 rfl (Nat.le_of_ble_eq_true rfl) ⟨rfl, rfl⟩ (Nat.le_of_ble_eq_true rfl) rfl hy ?_
  rintro r n I1 G1 J1 ⟨v1, rfl, rfl, rfl, rfl, rfl, hy⟩
  show Ev (d + 1) mX5_saw 136 5 [some (.ref 122), some (.int x1), some (.int x2)] [.int v1] 136 I G J Φ
  refine E_if_eq 20 dX5_saw_5 rfl (fun h2 => ?_) (fun h2 => ?_)
  · replace hy := hy.1 h2
    refine E_iconst (-1 : Int32) dX5_saw_20 rfl ?_
    exact E_ri dX5_saw_21 rfl ⟨rfl, rfl⟩ hy
  · replace hy := hy.2 h2
    refine E_iload_n 2 dX5_saw_8 rfl rfl ?_
    refine E_i2l dX5_saw_9 ?_
    refine E_lconst (0 : Int64) dX5_saw_10 rfl ?_
    refine E_ldc2 (9 : Int64) dX5_saw_11 cl_RX5_222 ?_
    refine E_cs (M := mX5_saw) (pc := 14) (As := [.long (x2.toInt64), .long (0 : Int64), .long (9 : Int64)]) (st := []) mX5_in 3 dX5_saw_14 lk_RX5_59 rfl (Nat.le_of_ble_eq_true rfl) ⟨rfl, rfl⟩ (Nat.le_of_ble_eq_true rfl) rfl hy ?_
    rintro r n I3 G3 J3 ⟨v3, rfl, rfl, rfl, rfl, rfl, hy⟩
    show Ev (d + 1) mX5_saw 136 17 [some (.ref 122), some (.int x1), some (.int x2)] [.int v3] 136 I G J Φ
    refine E_if_ne 22 dX5_saw_17 rfl (fun h4 => ?_) (fun h4 => ?_)
    · replace hy := hy.1 h4
      refine E_aload_n 0 dX5_saw_22 rfl rfl ?_
      refine E_geti 5 31 122 33 dX5_saw_23 fl_RX5_143 rfl sh_122 ?_
      refine E_bipush (6 : Int32) dX5_saw_26 rfl ?_
      refine E_icmp_ne 34 dX5_saw_28 rfl (fun h5 => ?_) (fun h5 => ?_)
      · replace hy := hy.1 h5
        refine E_aload_n 0 dX5_saw_34 rfl rfl ?_
        refine E_getr 5 29 122 33 134 dX5_saw_35 fl_RX5_44 rfl sh_122 (wg_122_29 hG) ?_
        refine E_aload_n 0 dX5_saw_38 rfl rfl ?_
        refine E_geti 5 31 122 33 dX5_saw_39 fl_RX5_143 rfl sh_122 ?_
        refine E_iload_n 1 dX5_saw_42 rfl rfl ?_
        have c6 := hy.1
        replace hy := hy.2
        refine E_is 134 6 (I 122 31).toNatClampNeg dX5_saw_43 sh_134 c6 rfl ?_
        refine E_aload_n 0 dX5_saw_44 rfl rfl ?_
        refine E_getr 5 30 122 33 135 dX5_saw_45 fl_RX5_47 rfl sh_122 (wg_122_30 hG) ?_
        refine E_aload_n 0 dX5_saw_48 rfl rfl ?_
        refine E_getw 5 31 122 33 (I 122 31) dX5_saw_49 fl_RX5_143 rfl sh_122 rfl ?_
        refine E_iload_n 2 dX5_saw_52 rfl rfl ?_
        have c7 := hy.1
        replace hy := hy.2
        refine E_is 135 6 (I 122 31).toNatClampNeg dX5_saw_53 sh_135 c7 rfl ?_
        refine E_aload_n 0 dX5_saw_54 rfl rfl ?_
        refine E_dup dX5_saw_55 rfl ?_
        refine E_getw 5 31 122 33 (I 122 31) dX5_saw_56 fl_RX5_143 rfl sh_122 rfl ?_
        refine E_iconst (1 : Int32) dX5_saw_59 rfl ?_
        refine E_iadd dX5_saw_60 ?_
        refine E_puti 5 31 122 33 dX5_saw_61 fl_RX5_143 rfl sh_122 ⟨_, rfl, rfl⟩ rfl rfl ?_
        refine E_aload_n 0 dX5_saw_64 rfl rfl ?_
        refine E_getw 5 31 122 33 ((I 122 31) + (1 : Int32)) dX5_saw_65 fl_RX5_143 rfl sh_122 rfl ?_
        exact E_ri dX5_saw_68 rfl ⟨rfl, rfl⟩ hy
      · replace hy := hy.2 (Decidable.not_not.mp h5)
        refine E_bipush (-3 : Int32) dX5_saw_31 rfl ?_
        exact E_ri dX5_saw_33 rfl ⟨rfl, rfl⟩ hy
    · replace hy := hy.2 (Decidable.not_not.mp h4)
      refine E_iconst (-1 : Int32) dX5_saw_20 rfl ?_
      exact E_ri dX5_saw_21 rfl ⟨rfl, rfl⟩ hy
set_option maxRecDepth 100000 in
theorem w_X5_sizeBy {d : Nat} {I : MI} {G : MG} {J : MJ} {Φ : Ph} (hG : WG G) (x1 : Int32) (x2 : Int32) (hy : vp_in x1 8 ∧ (((1 : Int32) ≤ ((I 128 (x1).toNatClampNeg) - (x2 / (8 : Int32))) → Φ (some (.int ((I 128 (x1).toNatClampNeg) - (x2 / (8 : Int32))))) 136 I G J) ∧ (¬ (1 : Int32) ≤ ((I 128 (x1).toNatClampNeg) - (x2 / (8 : Int32))) → Φ (some (.int (1 : Int32))) 136 I G J))) : Ev d mX5_sizeBy 136 0 [some (.ref 122), some (.int x1), some (.int x2), none] [] 136 I G J Φ := by
  refine E_aload_n 0 dX5_sizeBy_0 rfl rfl ?_
  refine E_getr 5 5 122 33 128 dX5_sizeBy_1 fl_RX5_26 rfl sh_122 (wg_122_5 hG) ?_
  refine E_iload_n 1 dX5_sizeBy_4 rfl rfl ?_
  have c1 := hy.1
  replace hy := hy.2
  refine E_ia 128 8 (x1).toNatClampNeg dX5_sizeBy_5 sh_128 c1 rfl ?_
  refine E_iload_n 2 dX5_sizeBy_6 rfl rfl ?_
  refine E_bipush (8 : Int32) dX5_sizeBy_7 rfl ?_
  refine E_idiv dX5_sizeBy_9 (by decide) ?_
  refine E_isub dX5_sizeBy_10 ?_
  refine E_istore_n 3 dX5_sizeBy_11 rfl (Nat.le_of_ble_eq_true rfl) (?_ : Ev d mX5_sizeBy 136 12 [some (.ref 122), some (.int x1), some (.int x2), some (.int ((I 128 (x1).toNatClampNeg) - (x2 / (8 : Int32))))] [] 136 I G J Φ)
  refine E_iload_n 3 dX5_sizeBy_12 rfl rfl ?_
  refine E_iconst (1 : Int32) dX5_sizeBy_13 rfl ?_
  refine E_icmp_ge 21 dX5_sizeBy_14 rfl (fun h2 => ?_) (fun h2 => ?_)
  · replace hy := hy.1 h2
    refine E_iload_n 3 dX5_sizeBy_21 rfl rfl ?_
    exact E_ri dX5_sizeBy_22 rfl ⟨rfl, rfl⟩ hy
  · replace hy := hy.2 h2
    refine E_iconst (1 : Int32) dX5_sizeBy_17 rfl ?_
    refine E_goto 22 dX5_sizeBy_18 rfl ?_
    exact E_ri dX5_sizeBy_22 rfl ⟨rfl, rfl⟩ hy
set_option maxRecDepth 100000 in
theorem w_X5_sizeIn {d : Nat} {I : MI} {G : MG} {J : MJ} {Φ : Ph} (hG : WG G) (x1 : Int32) (x2 : Int32) (hy : vp_in ((x1 + (4 : Int32)) + x2) 1400 ∧ (Ev d mX5_sizeBy 136 0 [some (.ref 122), some (.int x2), some (.int (I 123 ((x1 + (4 : Int32)) + x2).toNatClampNeg)), none] [] 136 I G J (fun r n I2 G2 J2 => ∃ v2 : Int32, r = some (.int v2) ∧ n = 136 ∧ I = I2 ∧ G = G2 ∧ J = J2 ∧ (Φ (some (.int v2)) 136 I G J)))) : Ev (d + 1) mX5_sizeIn 136 0 [some (.ref 122), some (.int x1), some (.int x2)] [] 136 I G J Φ := by
  refine E_aload_n 0 dX5_sizeIn_0 rfl rfl ?_
  refine E_iload_n 2 dX5_sizeIn_1 rfl rfl ?_
  refine E_aload_n 0 dX5_sizeIn_2 rfl rfl ?_
  refine E_getr 5 0 122 33 123 dX5_sizeIn_3 fl_RX5_7 rfl sh_122 (wg_122_0 hG) ?_
  refine E_iload_n 1 dX5_sizeIn_6 rfl rfl ?_
  refine E_iconst (4 : Int32) dX5_sizeIn_7 rfl ?_
  refine E_iadd dX5_sizeIn_8 ?_
  refine E_iload_n 2 dX5_sizeIn_9 rfl rfl ?_
  refine E_iadd dX5_sizeIn_10 ?_
  have c1 := hy.1
  replace hy := hy.2
  refine E_ia 123 1400 ((x1 + (4 : Int32)) + x2).toNatClampNeg dX5_sizeIn_11 sh_123 c1 rfl ?_
  refine E_cv (M := mX5_sizeIn) (pc := 12) (As := [.int x2, .int (I 123 ((x1 + (4 : Int32)) + x2).toNatClampNeg)]) (st := []) mX5_sizeBy 2 5 33 dX5_sizeIn_12 lk_RX5_152 ⟨_, rfl, rfl⟩ sh_122 rfl (Nat.le_of_ble_eq_true rfl) ⟨rfl, rfl⟩ (Nat.le_of_ble_eq_true rfl) rfl hy ?_
  rintro r n I2 G2 J2 ⟨v2, rfl, rfl, rfl, rfl, rfl, hy⟩
  show Ev (d + 1) mX5_sizeIn 136 15 [some (.ref 122), some (.int x1), some (.int x2)] [.int v2] 136 I G J Φ
  exact E_ri dX5_sizeIn_15 rfl ⟨rfl, rfl⟩ hy
set_option maxRecDepth 100000 in
theorem w_X5_splitRate {d : Nat} {I : MI} {G : MG} {J : MJ} {Φ : Ph} (hG : WG G) (x1 : Int32) (hy : Ev d mX5_stoneRate 136 0 [some (.ref 122), some (.int x1)] [] 136 I G (u2 J 122 32 ((J 122 32) + (100 : Int64))) (fun r n I1 G1 J1 => ∃ v1 : Int32, r = some (.int v1) ∧ n = 136 ∧ I = I1 ∧ G = G1 ∧ (vp_in x1 8 ∧ (Φ (some (.int (v1 - (I 126 (x1).toNatClampNeg)))) 136 I G J1)))) : Ev (d + 1) mX5_splitRate 136 0 [some (.ref 122), some (.int x1)] [] 136 I G J Φ := by
  refine E_aload_n 0 dX5_splitRate_0 rfl rfl ?_
  refine E_dup dX5_splitRate_1 rfl ?_
  refine E_getl 5 32 122 33 dX5_splitRate_2 fl_RX5_234 rfl sh_122 ?_
  refine E_ldc2 (100 : Int64) dX5_splitRate_5 cl_RX5_241 ?_
  refine E_ladd dX5_splitRate_8 ?_
  refine E_putl 5 32 122 33 dX5_splitRate_9 fl_RX5_234 rfl sh_122 ⟨_, rfl, rfl⟩ rfl rfl ?_
  refine E_aload_n 0 dX5_splitRate_12 rfl rfl ?_
  refine E_iload_n 1 dX5_splitRate_13 rfl rfl ?_
  refine E_cv (M := mX5_splitRate) (pc := 14) (As := [.int x1]) (st := []) mX5_stoneRate 1 5 33 dX5_splitRate_14 lk_RX5_238 ⟨_, rfl, rfl⟩ sh_122 rfl (Nat.le_of_ble_eq_true rfl) ⟨rfl, rfl⟩ (Nat.le_of_ble_eq_true rfl) rfl hy ?_
  rintro r n I1 G1 J1 ⟨v1, rfl, rfl, rfl, rfl, hy⟩
  show Ev (d + 1) mX5_splitRate 136 17 [some (.ref 122), some (.int x1)] [.int v1] 136 I G J1 Φ
  refine E_aload_n 0 dX5_splitRate_17 rfl rfl ?_
  refine E_getr 5 3 122 33 126 dX5_splitRate_18 fl_RX5_20 rfl sh_122 (wg_122_3 hG) ?_
  refine E_iload_n 1 dX5_splitRate_21 rfl rfl ?_
  have c2 := hy.1
  replace hy := hy.2
  refine E_ia 126 8 (x1).toNatClampNeg dX5_splitRate_22 sh_126 c2 rfl ?_
  refine E_isub dX5_splitRate_23 ?_
  exact E_ri dX5_splitRate_24 rfl ⟨rfl, rfl⟩ hy
set_option maxRecDepth 100000 in
theorem w_X5_stepBy {d : Nat} {I : MI} {G : MG} {J : MJ} {Φ : Ph} (hG : WG G) (x1 : Int32) (x2 : Int32) (x3 : Int32) (hy : Ev d mX5_copy 136 0 [some (.ref 122), some (.int (0 : Int32)), some (.int (100 : Int32)), none] [] 136 I G J (fun r n I1 G1 J1 => r = none ∧ n = 136 ∧ G = G1 ∧ J = J1 ∧ (Ev (d + 1) mX5_stepBy 136 10 [some (.ref 122), some (.int x1), some (.int x2), some (.int x3), some (.int (0 : Int32)), none, none] [] 136 I1 G J Φ))) : Ev (d + 1) mX5_stepBy 136 0 [some (.ref 122), some (.int x1), some (.int x2), some (.int x3), none, none, none] [] 136 I G J Φ := by
  refine E_aload_n 0 dX5_stepBy_0 rfl rfl ?_
  refine E_iconst (0 : Int32) dX5_stepBy_1 rfl ?_
  refine E_bipush (100 : Int32) dX5_stepBy_2 rfl ?_
  refine E_cv (M := mX5_stepBy) (pc := 4) (As := [.int (0 : Int32), .int (100 : Int32)]) (st := []) mX5_copy 2 5 33 dX5_stepBy_4 lk_RX5_172 ⟨_, rfl, rfl⟩ sh_122 rfl (Nat.le_of_ble_eq_true rfl) ⟨rfl, rfl⟩ (Nat.le_of_ble_eq_true rfl) rfl hy ?_
  rintro r n I1 G1 J1 ⟨rfl, rfl, rfl, rfl, hy⟩
  show Ev (d + 1) mX5_stepBy 136 7 [some (.ref 122), some (.int x1), some (.int x2), some (.int x3), none, none, none] [] 136 I1 G J Φ
  refine E_iconst (0 : Int32) dX5_stepBy_7 rfl ?_
  refine E_istore dX5_stepBy_8 (Nat.le_of_ble_eq_true rfl) (?_ : Ev (d + 1) mX5_stepBy 136 10 [some (.ref 122), some (.int x1), some (.int x2), some (.int x3), some (.int (0 : Int32)), none, none] [] 136 I1 G J Φ)
  exact hy
set_option maxRecDepth 100000 in
theorem w_X5_stepBy_10 {d : Nat} {I : MI} {G : MG} {J : MJ} {Φ : Ph} (hG : WG G)  (x1 : Int32) (x2 : Int32) (x3 : Int32) (x4 : Int32) (hy : (x3 ≤ x4 → vp_in ((100 : Int32) + x1) 1400 ∧ (Φ (some (.int (I 123 ((100 : Int32) + x1).toNatClampNeg))) 136 I G J)) ∧ (¬ x3 ≤ x4 → Ev d mX5_orderAll 136 0 [some (.ref 122), some (.int (100 : Int32)), some (.int x1), some (.int ((x2 >>> (((3 : Int32) * ((x3 - (1 : Int32)) - x4)) &&& 31)) &&& (7 : Int32))), none] [] 136 I G J (fun r n I3 G3 J3 => r = none ∧ n = 136 ∧ G = G3 ∧ J = J3 ∧ (Ev d mX5_isOver 136 0 [some (.ref 122), some (.int (100 : Int32)), some (.int x1)] [] 136 I3 G J (fun r n I4 G4 J4 => ∃ v4 : Int32, r = some (.int v4) ∧ n = 136 ∧ I3 = I4 ∧ G = G4 ∧ J = J4 ∧ ((¬ v4 = 0 → Ev (d + 1) mX5_stepBy 136 100 [some (.ref 122), some (.int x1), some (.int x2), some (.int x3), some (.int x4), some (.int v4), none] [.int (0 : Int32)] 136 I3 G J Φ) ∧ (v4 = 0 → Ev d mX5_pushOf 136 0 [some (.ref 122), some (.int (100 : Int32)), some (.int x1), none, none] [] 136 I3 G J (fun r n I6 G6 J6 => ∃ v6 : Int32, r = some (.int v6) ∧ n = 136 ∧ I3 = I6 ∧ G = G6 ∧ J = J6 ∧ (Ev d mX5_sizeIn 136 0 [some (.ref 122), some (.int (100 : Int32)), some (.int x1)] [] 136 I3 G J (fun r n I7 G7 J7 => ∃ v7 : Int32, r = some (.int v7) ∧ n = 136 ∧ I3 = I7 ∧ G = G7 ∧ J = J7 ∧ (vp_in x1 8 ∧ ((v6 < (v7 + (I3 126 (x1).toNatClampNeg)) → Ev (d + 1) mX5_stepBy 136 100 [some (.ref 122), some (.int x1), some (.int x2), some (.int x3), some (.int x4), some (.int v4), none] [.int (0 : Int32)] 136 I3 G J Φ) ∧ (¬ v6 < (v7 + (I3 126 (x1).toNatClampNeg)) → vp_in ((100 : Int32) + x1) 1400 ∧ (Ev d mX5_blocksIn 136 0 [some (.ref 122), some (.int (100 : Int32)), some (.int x1), some (.int ((I3 123 ((100 : Int32) + x1).toNatClampNeg) + (1 : Int32))), none, none, none, none] [] 136 I3 G J (fun r n I11 G11 J11 => ∃ v11 : Int32, r = some (.int v11) ∧ n = 136 ∧ I3 = I11 ∧ G = G11 ∧ J = J11 ∧ ((¬ v11 = 0 → Ev (d + 1) mX5_stepBy 136 100 [some (.ref 122), some (.int x1), some (.int x2), some (.int x3), some (.int x4), some (.int v4), none] [.int (0 : Int32)] 136 I3 G J Φ) ∧ (v11 = 0 → Ev (d + 1) mX5_stepBy 136 100 [some (.ref 122), some (.int x1), some (.int x2), some (.int x3), some (.int x4), some (.int v4), none] [.int (1 : Int32)] 136 I3 G J Φ))))))))))))))))) : Ev (d + 1) mX5_stepBy 136 10 [some (.ref 122), some (.int x1), some (.int x2), some (.int x3), some (.int x4), none, none] [] 136 I G J Φ := by
  refine E_iload dX5_stepBy_10 rfl ?_
  refine E_iload_n 3 dX5_stepBy_12 rfl rfl ?_
  refine E_icmp_ge 143 dX5_stepBy_13 rfl (fun h1 => ?_) (fun h1 => ?_)
  · replace hy := hy.1 h1
    refine E_aload_n 0 dX5_stepBy_143 rfl rfl ?_
    refine E_getr 5 0 122 33 123 dX5_stepBy_144 fl_RX5_7 rfl sh_122 (wg_122_0 hG) ?_
    refine E_bipush (100 : Int32) dX5_stepBy_147 rfl ?_
    refine E_iload_n 1 dX5_stepBy_149 rfl rfl ?_
    refine E_iadd dX5_stepBy_150 ?_
    have c2 := hy.1
    replace hy := hy.2
    refine E_ia 123 1400 ((100 : Int32) + x1).toNatClampNeg dX5_stepBy_151 sh_123 c2 rfl ?_
    exact E_ri dX5_stepBy_152 rfl ⟨rfl, rfl⟩ hy
  · replace hy := hy.2 h1
    refine E_aload_n 0 dX5_stepBy_16 rfl rfl ?_
    refine E_bipush (100 : Int32) dX5_stepBy_17 rfl ?_
    refine E_iload_n 1 dX5_stepBy_19 rfl rfl ?_
    refine E_iload_n 2 dX5_stepBy_20 rfl rfl ?_
    refine E_iconst (3 : Int32) dX5_stepBy_21 rfl ?_
    refine E_iload_n 3 dX5_stepBy_22 rfl rfl ?_
    refine E_iconst (1 : Int32) dX5_stepBy_23 rfl ?_
    refine E_isub dX5_stepBy_24 ?_
    refine E_iload dX5_stepBy_25 rfl ?_
    refine E_isub dX5_stepBy_27 ?_
    refine E_imul dX5_stepBy_28 ?_
    refine E_ishr dX5_stepBy_29 ?_
    refine E_bipush (7 : Int32) dX5_stepBy_30 rfl ?_
    refine E_iand dX5_stepBy_32 ?_
    refine E_cv (M := mX5_stepBy) (pc := 33) (As := [.int (100 : Int32), .int x1, .int ((x2 >>> (((3 : Int32) * ((x3 - (1 : Int32)) - x4)) &&& 31)) &&& (7 : Int32))]) (st := []) mX5_orderAll 3 5 33 dX5_stepBy_33 lk_RX5_203 ⟨_, rfl, rfl⟩ sh_122 rfl (Nat.le_of_ble_eq_true rfl) ⟨rfl, rfl⟩ (Nat.le_of_ble_eq_true rfl) rfl hy ?_
    rintro r n I3 G3 J3 ⟨rfl, rfl, rfl, rfl, hy⟩
    show Ev (d + 1) mX5_stepBy 136 36 [some (.ref 122), some (.int x1), some (.int x2), some (.int x3), some (.int x4), none, none] [] 136 I3 G J Φ
    refine E_aload_n 0 dX5_stepBy_36 rfl rfl ?_
    refine E_bipush (100 : Int32) dX5_stepBy_37 rfl ?_
    refine E_iload_n 1 dX5_stepBy_39 rfl rfl ?_
    refine E_cv (M := mX5_stepBy) (pc := 40) (As := [.int (100 : Int32), .int x1]) (st := []) mX5_isOver 2 5 33 dX5_stepBy_40 lk_RX5_158 ⟨_, rfl, rfl⟩ sh_122 rfl (Nat.le_of_ble_eq_true rfl) ⟨rfl, rfl⟩ (Nat.le_of_ble_eq_true rfl) rfl hy ?_
    rintro r n I4 G4 J4 ⟨v4, rfl, rfl, rfl, rfl, rfl, hy⟩
    show Ev (d + 1) mX5_stepBy 136 43 [some (.ref 122), some (.int x1), some (.int x2), some (.int x3), some (.int x4), none, none] [.int v4] 136 I3 G J Φ
    refine E_istore dX5_stepBy_43 (Nat.le_of_ble_eq_true rfl) (?_ : Ev (d + 1) mX5_stepBy 136 45 [some (.ref 122), some (.int x1), some (.int x2), some (.int x3), some (.int x4), some (.int v4), none] [] 136 I3 G J Φ)
    refine E_iload dX5_stepBy_45 rfl ?_
    refine E_if_ne 99 dX5_stepBy_47 rfl (fun h5 => ?_) (fun h5 => ?_)
    · replace hy := hy.1 h5
      refine E_iconst (0 : Int32) dX5_stepBy_99 rfl ?_
      exact hy
    · replace hy := hy.2 (Decidable.not_not.mp h5)
      refine E_aload_n 0 dX5_stepBy_50 rfl rfl ?_
      refine E_bipush (100 : Int32) dX5_stepBy_51 rfl ?_
      refine E_iload_n 1 dX5_stepBy_53 rfl rfl ?_
      refine E_cv (M := mX5_stepBy) (pc := 54) (As := [.int (100 : Int32), .int x1]) (st := []) mX5_pushOf 2 5 33 dX5_stepBy_54 lk_RX5_183 ⟨_, rfl, rfl⟩ sh_122 rfl (Nat.le_of_ble_eq_true rfl) ⟨rfl, rfl⟩ (Nat.le_of_ble_eq_true rfl) rfl hy ?_
      rintro r n I6 G6 J6 ⟨v6, rfl, rfl, rfl, rfl, rfl, hy⟩
      show Ev (d + 1) mX5_stepBy 136 57 [some (.ref 122), some (.int x1), some (.int x2), some (.int x3), some (.int x4), some (.int v4), none] [.int v6] 136 I3 G J Φ
      refine E_aload_n 0 dX5_stepBy_57 rfl rfl ?_
      refine E_bipush (100 : Int32) dX5_stepBy_58 rfl ?_
      refine E_iload_n 1 dX5_stepBy_60 rfl rfl ?_
      refine E_cv (M := mX5_stepBy) (pc := 61) (As := [.int (100 : Int32), .int x1]) (st := [.int v6]) mX5_sizeIn 2 5 33 dX5_stepBy_61 lk_RX5_155 ⟨_, rfl, rfl⟩ sh_122 rfl (Nat.le_of_ble_eq_true rfl) ⟨rfl, rfl⟩ (Nat.le_of_ble_eq_true rfl) rfl hy ?_
      rintro r n I7 G7 J7 ⟨v7, rfl, rfl, rfl, rfl, rfl, hy⟩
      show Ev (d + 1) mX5_stepBy 136 64 [some (.ref 122), some (.int x1), some (.int x2), some (.int x3), some (.int x4), some (.int v4), none] [.int v7, .int v6] 136 I3 G J Φ
      refine E_aload_n 0 dX5_stepBy_64 rfl rfl ?_
      refine E_getr 5 3 122 33 126 dX5_stepBy_65 fl_RX5_20 rfl sh_122 (wg_122_3 hG) ?_
      refine E_iload_n 1 dX5_stepBy_68 rfl rfl ?_
      have c8 := hy.1
      replace hy := hy.2
      refine E_ia 126 8 (x1).toNatClampNeg dX5_stepBy_69 sh_126 c8 rfl ?_
      refine E_iadd dX5_stepBy_70 ?_
      refine E_icmp_lt 99 dX5_stepBy_71 rfl (fun h9 => ?_) (fun h9 => ?_)
      · replace hy := hy.1 h9
        refine E_iconst (0 : Int32) dX5_stepBy_99 rfl ?_
        exact hy
      · replace hy := hy.2 h9
        refine E_aload_n 0 dX5_stepBy_74 rfl rfl ?_
        refine E_bipush (100 : Int32) dX5_stepBy_75 rfl ?_
        refine E_iload_n 1 dX5_stepBy_77 rfl rfl ?_
        refine E_aload_n 0 dX5_stepBy_78 rfl rfl ?_
        refine E_getr 5 0 122 33 123 dX5_stepBy_79 fl_RX5_7 rfl sh_122 (wg_122_0 hG) ?_
        refine E_bipush (100 : Int32) dX5_stepBy_82 rfl ?_
        refine E_iload_n 1 dX5_stepBy_84 rfl rfl ?_
        refine E_iadd dX5_stepBy_85 ?_
        have c10 := hy.1
        replace hy := hy.2
        refine E_ia 123 1400 ((100 : Int32) + x1).toNatClampNeg dX5_stepBy_86 sh_123 c10 rfl ?_
        refine E_iconst (1 : Int32) dX5_stepBy_87 rfl ?_
        refine E_iadd dX5_stepBy_88 ?_
        refine E_cv (M := mX5_stepBy) (pc := 89) (As := [.int (100 : Int32), .int x1, .int ((I3 123 ((100 : Int32) + x1).toNatClampNeg) + (1 : Int32))]) (st := []) mX5_blocksIn 3 5 33 dX5_stepBy_89 lk_RX5_186 ⟨_, rfl, rfl⟩ sh_122 rfl (Nat.le_of_ble_eq_true rfl) ⟨rfl, rfl⟩ (Nat.le_of_ble_eq_true rfl) rfl hy ?_
        rintro r n I11 G11 J11 ⟨v11, rfl, rfl, rfl, rfl, rfl, hy⟩
        show Ev (d + 1) mX5_stepBy 136 92 [some (.ref 122), some (.int x1), some (.int x2), some (.int x3), some (.int x4), some (.int v4), none] [.int v11] 136 I3 G J Φ
        refine E_if_ne 99 dX5_stepBy_92 rfl (fun h12 => ?_) (fun h12 => ?_)
        · replace hy := hy.1 h12
          refine E_iconst (0 : Int32) dX5_stepBy_99 rfl ?_
          exact hy
        · replace hy := hy.2 (Decidable.not_not.mp h12)
          refine E_iconst (1 : Int32) dX5_stepBy_95 rfl ?_
          refine E_goto 100 dX5_stepBy_96 rfl ?_
          exact hy
set_option maxRecDepth 100000 in
theorem w_X5_stepBy_100 {d : Nat} {I : MI} {G : MG} {J : MJ} {Φ : Ph} (hG : WG G)  (x1 : Int32) (x2 : Int32) (x3 : Int32) (x4 : Int32) (x5 : Int32) (s0 : Int32) (hy : vp_in ((100 : Int32) + x1) 1400 ∧ (Ev d mX5_one 136 0 [some (.int s0)] [] 136 I G J (fun r n I2 G2 J2 => ∃ v2 : Int32, r = some (.int v2) ∧ n = 136 ∧ I = I2 ∧ G = G2 ∧ J = J2 ∧ (vp_in ((100 : Int32) + x1) 1400 ∧ ((x5 = 0 → Ev d mX5_tire 136 0 [some (.ref 122), some (.int (100 : Int32)), some (.int (0 : Int32)), none, none, none] [] 136 (u2 I 123 ((100 : Int32) + x1).toNatClampNeg ((I 123 ((100 : Int32) + x1).toNatClampNeg) + v2)) G J (fun r n I5 G5 J5 => r = none ∧ n = 136 ∧ G = G5 ∧ J = J5 ∧ (Ev (d + 1) mX5_stepBy 136 10 [some (.ref 122), some (.int x1), some (.int x2), some (.int x3), some (.int (x4 + (1 : Int32))), none, none] [] 136 I5 G J Φ))) ∧ (¬ x5 = 0 → Ev d mX5_tire 136 0 [some (.ref 122), some (.int (100 : Int32)), some (.int ((1 : Int32) <<< (x1 &&& 31))), none, none, none] [] 136 (u2 I 123 ((100 : Int32) + x1).toNatClampNeg ((I 123 ((100 : Int32) + x1).toNatClampNeg) + v2)) G J (fun r n I6 G6 J6 => r = none ∧ n = 136 ∧ G = G6 ∧ J = J6 ∧ (Ev (d + 1) mX5_stepBy 136 10 [some (.ref 122), some (.int x1), some (.int x2), some (.int x3), some (.int (x4 + (1 : Int32))), none, none] [] 136 I6 G J Φ)))))))) : Ev (d + 1) mX5_stepBy 136 100 [some (.ref 122), some (.int x1), some (.int x2), some (.int x3), some (.int x4), some (.int x5), none] [.int s0] 136 I G J Φ := by
  refine E_istore dX5_stepBy_100 (Nat.le_of_ble_eq_true rfl) (?_ : Ev (d + 1) mX5_stepBy 136 102 [some (.ref 122), some (.int x1), some (.int x2), some (.int x3), some (.int x4), some (.int x5), some (.int s0)] [] 136 I G J Φ)
  refine E_aload_n 0 dX5_stepBy_102 rfl rfl ?_
  refine E_getr 5 0 122 33 123 dX5_stepBy_103 fl_RX5_7 rfl sh_122 (wg_122_0 hG) ?_
  refine E_bipush (100 : Int32) dX5_stepBy_106 rfl ?_
  refine E_iload_n 1 dX5_stepBy_108 rfl rfl ?_
  refine E_iadd dX5_stepBy_109 ?_
  refine E_dup2 dX5_stepBy_110 rfl rfl ?_
  have c1 := hy.1
  replace hy := hy.2
  refine E_ia 123 1400 ((100 : Int32) + x1).toNatClampNeg dX5_stepBy_111 sh_123 c1 rfl ?_
  refine E_iload dX5_stepBy_112 rfl ?_
  refine E_cs (M := mX5_stepBy) (pc := 114) (As := [.int s0]) (st := [.int (I 123 ((100 : Int32) + x1).toNatClampNeg), .int ((100 : Int32) + x1), .ref 123]) mX5_one 1 dX5_stepBy_114 lk_RX5_161 rfl (Nat.le_of_ble_eq_true rfl) ⟨rfl, rfl⟩ (Nat.le_of_ble_eq_true rfl) rfl hy ?_
  rintro r n I2 G2 J2 ⟨v2, rfl, rfl, rfl, rfl, rfl, hy⟩
  show Ev (d + 1) mX5_stepBy 136 117 [some (.ref 122), some (.int x1), some (.int x2), some (.int x3), some (.int x4), some (.int x5), some (.int s0)] [.int v2, .int (I 123 ((100 : Int32) + x1).toNatClampNeg), .int ((100 : Int32) + x1), .ref 123] 136 I G J Φ
  refine E_iadd dX5_stepBy_117 ?_
  have c3 := hy.1
  replace hy := hy.2
  refine E_is 123 1400 ((100 : Int32) + x1).toNatClampNeg dX5_stepBy_118 sh_123 c3 rfl ?_
  refine E_aload_n 0 dX5_stepBy_119 rfl rfl ?_
  refine E_bipush (100 : Int32) dX5_stepBy_120 rfl ?_
  refine E_iload dX5_stepBy_122 rfl ?_
  refine E_if_eq 133 dX5_stepBy_124 rfl (fun h4 => ?_) (fun h4 => ?_)
  · replace hy := hy.1 h4
    refine E_iconst (0 : Int32) dX5_stepBy_133 rfl ?_
    refine E_cv (M := mX5_stepBy) (pc := 134) (As := [.int (100 : Int32), .int (0 : Int32)]) (st := []) mX5_tire 2 5 33 dX5_stepBy_134 lk_RX5_190 ⟨_, rfl, rfl⟩ sh_122 rfl (Nat.le_of_ble_eq_true rfl) ⟨rfl, rfl⟩ (Nat.le_of_ble_eq_true rfl) rfl hy ?_
    rintro r n I5 G5 J5 ⟨rfl, rfl, rfl, rfl, hy⟩
    show Ev (d + 1) mX5_stepBy 136 137 [some (.ref 122), some (.int x1), some (.int x2), some (.int x3), some (.int x4), some (.int x5), some (.int s0)] [] 136 I5 G J Φ
    refine E_iinc (x4 + (1 : Int32)) dX5_stepBy_137 rfl rfl (Nat.le_of_ble_eq_true rfl) (?_ : Ev (d + 1) mX5_stepBy 136 140 [some (.ref 122), some (.int x1), some (.int x2), some (.int x3), some (.int (x4 + (1 : Int32))), some (.int x5), some (.int s0)] [] 136 I5 G J Φ)
    refine E_goto 10 dX5_stepBy_140 rfl ?_
    refine E_wk (ls2 := [some (.ref 122), some (.int x1), some (.int x2), some (.int x3), some (.int (x4 + (1 : Int32))), none, none]) ⟨rfl, rfl, rfl, rfl, rfl, trivial⟩ ?_
    exact hy
  · replace hy := hy.2 h4
    refine E_iconst (1 : Int32) dX5_stepBy_127 rfl ?_
    refine E_iload_n 1 dX5_stepBy_128 rfl rfl ?_
    refine E_ishl dX5_stepBy_129 ?_
    refine E_goto 134 dX5_stepBy_130 rfl ?_
    refine E_cv (M := mX5_stepBy) (pc := 134) (As := [.int (100 : Int32), .int ((1 : Int32) <<< (x1 &&& 31))]) (st := []) mX5_tire 2 5 33 dX5_stepBy_134 lk_RX5_190 ⟨_, rfl, rfl⟩ sh_122 rfl (Nat.le_of_ble_eq_true rfl) ⟨rfl, rfl⟩ (Nat.le_of_ble_eq_true rfl) rfl hy ?_
    rintro r n I6 G6 J6 ⟨rfl, rfl, rfl, rfl, hy⟩
    show Ev (d + 1) mX5_stepBy 136 137 [some (.ref 122), some (.int x1), some (.int x2), some (.int x3), some (.int x4), some (.int x5), some (.int s0)] [] 136 I6 G J Φ
    refine E_iinc (x4 + (1 : Int32)) dX5_stepBy_137 rfl rfl (Nat.le_of_ble_eq_true rfl) (?_ : Ev (d + 1) mX5_stepBy 136 140 [some (.ref 122), some (.int x1), some (.int x2), some (.int x3), some (.int (x4 + (1 : Int32))), some (.int x5), some (.int s0)] [] 136 I6 G J Φ)
    refine E_goto 10 dX5_stepBy_140 rfl ?_
    refine E_wk (ls2 := [some (.ref 122), some (.int x1), some (.int x2), some (.int x3), some (.int (x4 + (1 : Int32))), none, none]) ⟨rfl, rfl, rfl, rfl, rfl, trivial⟩ ?_
    exact hy
set_option maxRecDepth 100000 in
theorem w_X5_stone {d : Nat} {I : MI} {G : MG} {J : MJ} {Φ : Ph} (hG : WG G) (x1 : Int32) (x2 : Int32) (hy : Ev d mX5_isHill 136 0 [some (.ref 122), some (.int x1)] [] 136 I G J (fun r n I1 G1 J1 => ∃ v1 : Int32, r = some (.int v1) ∧ n = 136 ∧ I = I1 ∧ G = G1 ∧ J = J1 ∧ ((¬ v1 = 0 → (¬ x2 = 0 → (¬ x2 = (1 : Int32) → (¬ x2 = (2 : Int32) → (¬ x2 = (3 : Int32) → Φ (some (.int (-1 : Int32))) 136 I G J) ∧ (x2 = (3 : Int32) → Ev d mX5_isOver 136 0 [some (.ref 122), some (.int (0 : Int32)), some (.int x1)] [] 136 I G J (fun r n I7 G7 J7 => ∃ v7 : Int32, r = some (.int v7) ∧ n = 136 ∧ I = I7 ∧ G = G7 ∧ J = J7 ∧ (Ev d mX5_one 136 0 [some (.int v7)] [] 136 I G J (fun r n I8 G8 J8 => ∃ v8 : Int32, r = some (.int v8) ∧ n = 136 ∧ I = I8 ∧ G = G8 ∧ J = J8 ∧ (Φ (some (.int v8)) 136 I G J)))))) ∧ (x2 = (2 : Int32) → vp_in ((4 : Int32) + x1) 1400 ∧ (Φ (some (.int (I 123 ((4 : Int32) + x1).toNatClampNeg))) 136 I G J))) ∧ (x2 = (1 : Int32) → Ev d mX5_sizeIn 136 0 [some (.ref 122), some (.int (0 : Int32)), some (.int x1)] [] 136 I G J (fun r n I10 G10 J10 => ∃ v10 : Int32, r = some (.int v10) ∧ n = 136 ∧ I = I10 ∧ G = G10 ∧ J = J10 ∧ (Φ (some (.int v10)) 136 I G J)))) ∧ (x2 = 0 → vp_in x1 1400 ∧ (Φ (some (.int (I 123 (x1).toNatClampNeg))) 136 I G J))) ∧ (v1 = 0 → Φ (some (.int (-1 : Int32))) 136 I G J)))) : Ev (d + 1) mX5_stone 136 0 [some (.ref 122), some (.int x1), some (.int x2)] [] 136 I G J Φ := by
  refine E_aload_n 0 dX5_stone_0 rfl rfl ?_
  refine E_iload_n 1 dX5_stone_1 rfl rfl ?_
  refine E_cv (M := mX5_stone) (pc := 2) (As := [.int x1]) (st := []) mX5_isHill 1 5 33 dX5_stone_2 lk_RX5_149 ⟨_, rfl, rfl⟩ sh_122 rfl (Nat.le_of_ble_eq_true rfl) ⟨rfl, rfl⟩ (Nat.le_of_ble_eq_true rfl) rfl hy ?_
  rintro r n I1 G1 J1 ⟨v1, rfl, rfl, rfl, rfl, rfl, hy⟩
  show Ev (d + 1) mX5_stone 136 5 [some (.ref 122), some (.int x1), some (.int x2)] [.int v1] 136 I G J Φ
  refine E_if_ne 10 dX5_stone_5 rfl (fun h2 => ?_) (fun h2 => ?_)
  · replace hy := hy.1 h2
    refine E_iload_n 2 dX5_stone_10 rfl rfl ?_
    refine E_if_ne 23 dX5_stone_11 rfl (fun h3 => ?_) (fun h3 => ?_)
    · replace hy := hy.1 h3
      refine E_iload_n 2 dX5_stone_23 rfl rfl ?_
      refine E_iconst (1 : Int32) dX5_stone_24 rfl ?_
      refine E_icmp_ne 37 dX5_stone_25 rfl (fun h4 => ?_) (fun h4 => ?_)
      · replace hy := hy.1 h4
        refine E_iload_n 2 dX5_stone_37 rfl rfl ?_
        refine E_iconst (2 : Int32) dX5_stone_38 rfl ?_
        refine E_icmp_ne 53 dX5_stone_39 rfl (fun h5 => ?_) (fun h5 => ?_)
        · replace hy := hy.1 h5
          refine E_iload_n 2 dX5_stone_53 rfl rfl ?_
          refine E_iconst (3 : Int32) dX5_stone_54 rfl ?_
          refine E_icmp_ne 70 dX5_stone_55 rfl (fun h6 => ?_) (fun h6 => ?_)
          · replace hy := hy.1 h6
            refine E_iconst (-1 : Int32) dX5_stone_70 rfl ?_
            exact E_ri dX5_stone_71 rfl ⟨rfl, rfl⟩ hy
          · replace hy := hy.2 (Decidable.not_not.mp h6)
            refine E_aload_n 0 dX5_stone_58 rfl rfl ?_
            refine E_iconst (0 : Int32) dX5_stone_59 rfl ?_
            refine E_iload_n 1 dX5_stone_60 rfl rfl ?_
            refine E_cv (M := mX5_stone) (pc := 61) (As := [.int (0 : Int32), .int x1]) (st := []) mX5_isOver 2 5 33 dX5_stone_61 lk_RX5_158 ⟨_, rfl, rfl⟩ sh_122 rfl (Nat.le_of_ble_eq_true rfl) ⟨rfl, rfl⟩ (Nat.le_of_ble_eq_true rfl) rfl hy ?_
            rintro r n I7 G7 J7 ⟨v7, rfl, rfl, rfl, rfl, rfl, hy⟩
            show Ev (d + 1) mX5_stone 136 64 [some (.ref 122), some (.int x1), some (.int x2)] [.int v7] 136 I G J Φ
            refine E_cs (M := mX5_stone) (pc := 64) (As := [.int v7]) (st := []) mX5_one 1 dX5_stone_64 lk_RX5_161 rfl (Nat.le_of_ble_eq_true rfl) ⟨rfl, rfl⟩ (Nat.le_of_ble_eq_true rfl) rfl hy ?_
            rintro r n I8 G8 J8 ⟨v8, rfl, rfl, rfl, rfl, rfl, hy⟩
            show Ev (d + 1) mX5_stone 136 67 [some (.ref 122), some (.int x1), some (.int x2)] [.int v8] 136 I G J Φ
            refine E_goto 71 dX5_stone_67 rfl ?_
            exact E_ri dX5_stone_71 rfl ⟨rfl, rfl⟩ hy
        · replace hy := hy.2 (Decidable.not_not.mp h5)
          refine E_aload_n 0 dX5_stone_42 rfl rfl ?_
          refine E_getr 5 0 122 33 123 dX5_stone_43 fl_RX5_7 rfl sh_122 (wg_122_0 hG) ?_
          refine E_iconst (4 : Int32) dX5_stone_46 rfl ?_
          refine E_iload_n 1 dX5_stone_47 rfl rfl ?_
          refine E_iadd dX5_stone_48 ?_
          have c9 := hy.1
          replace hy := hy.2
          refine E_ia 123 1400 ((4 : Int32) + x1).toNatClampNeg dX5_stone_49 sh_123 c9 rfl ?_
          refine E_goto 71 dX5_stone_50 rfl ?_
          exact E_ri dX5_stone_71 rfl ⟨rfl, rfl⟩ hy
      · replace hy := hy.2 (Decidable.not_not.mp h4)
        refine E_aload_n 0 dX5_stone_28 rfl rfl ?_
        refine E_iconst (0 : Int32) dX5_stone_29 rfl ?_
        refine E_iload_n 1 dX5_stone_30 rfl rfl ?_
        refine E_cv (M := mX5_stone) (pc := 31) (As := [.int (0 : Int32), .int x1]) (st := []) mX5_sizeIn 2 5 33 dX5_stone_31 lk_RX5_155 ⟨_, rfl, rfl⟩ sh_122 rfl (Nat.le_of_ble_eq_true rfl) ⟨rfl, rfl⟩ (Nat.le_of_ble_eq_true rfl) rfl hy ?_
        rintro r n I10 G10 J10 ⟨v10, rfl, rfl, rfl, rfl, rfl, hy⟩
        show Ev (d + 1) mX5_stone 136 34 [some (.ref 122), some (.int x1), some (.int x2)] [.int v10] 136 I G J Φ
        refine E_goto 71 dX5_stone_34 rfl ?_
        exact E_ri dX5_stone_71 rfl ⟨rfl, rfl⟩ hy
    · replace hy := hy.2 (Decidable.not_not.mp h3)
      refine E_aload_n 0 dX5_stone_14 rfl rfl ?_
      refine E_getr 5 0 122 33 123 dX5_stone_15 fl_RX5_7 rfl sh_122 (wg_122_0 hG) ?_
      refine E_iload_n 1 dX5_stone_18 rfl rfl ?_
      have c11 := hy.1
      replace hy := hy.2
      refine E_ia 123 1400 (x1).toNatClampNeg dX5_stone_19 sh_123 c11 rfl ?_
      refine E_goto 71 dX5_stone_20 rfl ?_
      exact E_ri dX5_stone_71 rfl ⟨rfl, rfl⟩ hy
  · replace hy := hy.2 (Decidable.not_not.mp h2)
    refine E_iconst (-1 : Int32) dX5_stone_8 rfl ?_
    exact E_ri dX5_stone_9 rfl ⟨rfl, rfl⟩ hy
set_option maxRecDepth 100000 in
theorem w_X5_stoneRate {d : Nat} {I : MI} {G : MG} {J : MJ} {Φ : Ph} (hG : WG G) (x1 : Int32) (hy : Ev d mX5_sizeIn 136 0 [some (.ref 122), some (.int (0 : Int32)), some (.int x1)] [] 136 I G (u2 J 122 32 ((J 122 32) + (1 : Int64))) (fun r n I1 G1 J1 => ∃ v1 : Int32, r = some (.int v1) ∧ n = 136 ∧ I = I1 ∧ G = G1 ∧ (u2 J 122 32 ((J 122 32) + (1 : Int64))) = J1 ∧ (Φ (some (.int v1)) 136 I G (u2 J 122 32 ((J 122 32) + (1 : Int64)))))) : Ev (d + 1) mX5_stoneRate 136 0 [some (.ref 122), some (.int x1)] [] 136 I G J Φ := by
  refine E_aload_n 0 dX5_stoneRate_0 rfl rfl ?_
  refine E_dup dX5_stoneRate_1 rfl ?_
  refine E_getl 5 32 122 33 dX5_stoneRate_2 fl_RX5_234 rfl sh_122 ?_
  refine E_lconst (1 : Int64) dX5_stoneRate_5 rfl ?_
  refine E_ladd dX5_stoneRate_6 ?_
  refine E_putl 5 32 122 33 dX5_stoneRate_7 fl_RX5_234 rfl sh_122 ⟨_, rfl, rfl⟩ rfl rfl ?_
  refine E_aload_n 0 dX5_stoneRate_10 rfl rfl ?_
  refine E_iconst (0 : Int32) dX5_stoneRate_11 rfl ?_
  refine E_iload_n 1 dX5_stoneRate_12 rfl rfl ?_
  refine E_cv (M := mX5_stoneRate) (pc := 13) (As := [.int (0 : Int32), .int x1]) (st := []) mX5_sizeIn 2 5 33 dX5_stoneRate_13 lk_RX5_155 ⟨_, rfl, rfl⟩ sh_122 rfl (Nat.le_of_ble_eq_true rfl) ⟨rfl, rfl⟩ (Nat.le_of_ble_eq_true rfl) rfl hy ?_
  rintro r n I1 G1 J1 ⟨v1, rfl, rfl, rfl, rfl, rfl, hy⟩
  show Ev (d + 1) mX5_stoneRate 136 16 [some (.ref 122), some (.int x1)] [.int v1] 136 I G (u2 J 122 32 ((J 122 32) + (1 : Int64))) Φ
  exact E_ri dX5_stoneRate_16 rfl ⟨rfl, rfl⟩ hy
set_option maxRecDepth 100000 in
theorem w_X5_takeHill {d : Nat} {I : MI} {G : MG} {J : MJ} {Φ : Ph} (hG : WG G)  (hy : Ev d mX5_takeNumber 136 0 [some (.ref 122), some (.int (2 : Int32)), some (.int (9 : Int32))] [] 136 I G J (fun r n I1 G1 J1 => ∃ v1 : Int32, r = some (.int v1) ∧ n = 136 ∧ G = G1 ∧ J = J1 ∧ (vp_in ((4 : Int32) + (I 122 15)) 8 ∧ (Ev d mX5_takeNumber 136 0 [some (.ref 122), some (.int (0 : Int32)), some (.int (5 : Int32))] [] 136 (u2 I1 125 ((4 : Int32) + (I 122 15)).toNatClampNeg v1) G J (fun r n I3 G3 J3 => ∃ v3 : Int32, r = some (.int v3) ∧ n = 136 ∧ G = G3 ∧ J = J3 ∧ (vp_in ((4 : Int32) + (I 122 15)) 8 ∧ (Ev d mX5_takeNumber 136 0 [some (.ref 122), some (.int (0 : Int32)), some (.int (511 : Int32))] [] 136 (u2 I3 126 ((4 : Int32) + (I 122 15)).toNatClampNeg v3) G J (fun r n I5 G5 J5 => ∃ v5 : Int32, r = some (.int v5) ∧ n = 136 ∧ G = G5 ∧ J = J5 ∧ (vp_in ((4 : Int32) + (I 122 15)) 8 ∧ (Ev d mX5_takeNumber 136 0 [some (.ref 122), some (.int (1 : Int32)), some (.int (9 : Int32))] [] 136 (u2 I5 127 ((4 : Int32) + (I 122 15)).toNatClampNeg v5) G J (fun r n I7 G7 J7 => ∃ v7 : Int32, r = some (.int v7) ∧ n = 136 ∧ G = G7 ∧ J = J7 ∧ (vp_in ((4 : Int32) + (I 122 15)) 8 ∧ (Φ none 136 (u2 (u2 I7 128 ((4 : Int32) + (I 122 15)).toNatClampNeg v7) 122 15 ((I7 122 15) + (1 : Int32))) G J))))))))))))) : Ev (d + 1) mX5_takeHill 136 0 [some (.ref 122), none] [] 136 I G J Φ := by
  refine E_iconst (4 : Int32) dX5_takeHill_0 rfl ?_
  refine E_aload_n 0 dX5_takeHill_1 rfl rfl ?_
  refine E_geti 5 15 122 33 dX5_takeHill_2 fl_RX5_96 rfl sh_122 ?_
  refine E_iadd dX5_takeHill_5 ?_
  refine E_istore_n 1 dX5_takeHill_6 rfl (Nat.le_of_ble_eq_true rfl) (?_ : Ev (d + 1) mX5_takeHill 136 7 [some (.ref 122), some (.int ((4 : Int32) + (I 122 15)))] [] 136 I G J Φ)
  refine E_aload_n 0 dX5_takeHill_7 rfl rfl ?_
  refine E_getr 5 2 122 33 125 dX5_takeHill_8 fl_RX5_17 rfl sh_122 (wg_122_2 hG) ?_
  refine E_iload_n 1 dX5_takeHill_11 rfl rfl ?_
  refine E_aload_n 0 dX5_takeHill_12 rfl rfl ?_
  refine E_iconst (2 : Int32) dX5_takeHill_13 rfl ?_
  refine E_bipush (9 : Int32) dX5_takeHill_14 rfl ?_
  refine E_cv (M := mX5_takeHill) (pc := 16) (As := [.int (2 : Int32), .int (9 : Int32)]) (st := [.int ((4 : Int32) + (I 122 15)), .ref 125]) mX5_takeNumber 2 5 33 dX5_takeHill_16 lk_RX5_99 ⟨_, rfl, rfl⟩ sh_122 rfl (Nat.le_of_ble_eq_true rfl) ⟨rfl, rfl⟩ (Nat.le_of_ble_eq_true rfl) rfl hy ?_
  rintro r n I1 G1 J1 ⟨v1, rfl, rfl, rfl, rfl, hy⟩
  show Ev (d + 1) mX5_takeHill 136 19 [some (.ref 122), some (.int ((4 : Int32) + (I 122 15)))] [.int v1, .int ((4 : Int32) + (I 122 15)), .ref 125] 136 I1 G J Φ
  have c2 := hy.1
  replace hy := hy.2
  refine E_is 125 8 ((4 : Int32) + (I 122 15)).toNatClampNeg dX5_takeHill_19 sh_125 c2 rfl ?_
  refine E_aload_n 0 dX5_takeHill_20 rfl rfl ?_
  refine E_getr 5 3 122 33 126 dX5_takeHill_21 fl_RX5_20 rfl sh_122 (wg_122_3 hG) ?_
  refine E_iload_n 1 dX5_takeHill_24 rfl rfl ?_
  refine E_aload_n 0 dX5_takeHill_25 rfl rfl ?_
  refine E_iconst (0 : Int32) dX5_takeHill_26 rfl ?_
  refine E_iconst (5 : Int32) dX5_takeHill_27 rfl ?_
  refine E_cv (M := mX5_takeHill) (pc := 28) (As := [.int (0 : Int32), .int (5 : Int32)]) (st := [.int ((4 : Int32) + (I 122 15)), .ref 126]) mX5_takeNumber 2 5 33 dX5_takeHill_28 lk_RX5_99 ⟨_, rfl, rfl⟩ sh_122 rfl (Nat.le_of_ble_eq_true rfl) ⟨rfl, rfl⟩ (Nat.le_of_ble_eq_true rfl) rfl hy ?_
  rintro r n I3 G3 J3 ⟨v3, rfl, rfl, rfl, rfl, hy⟩
  show Ev (d + 1) mX5_takeHill 136 31 [some (.ref 122), some (.int ((4 : Int32) + (I 122 15)))] [.int v3, .int ((4 : Int32) + (I 122 15)), .ref 126] 136 I3 G J Φ
  have c4 := hy.1
  replace hy := hy.2
  refine E_is 126 8 ((4 : Int32) + (I 122 15)).toNatClampNeg dX5_takeHill_31 sh_126 c4 rfl ?_
  refine E_aload_n 0 dX5_takeHill_32 rfl rfl ?_
  refine E_getr 5 4 122 33 127 dX5_takeHill_33 fl_RX5_23 rfl sh_122 (wg_122_4 hG) ?_
  refine E_iload_n 1 dX5_takeHill_36 rfl rfl ?_
  refine E_aload_n 0 dX5_takeHill_37 rfl rfl ?_
  refine E_iconst (0 : Int32) dX5_takeHill_38 rfl ?_
  refine E_sipush (511 : Int32) dX5_takeHill_39 rfl ?_
  refine E_cv (M := mX5_takeHill) (pc := 42) (As := [.int (0 : Int32), .int (511 : Int32)]) (st := [.int ((4 : Int32) + (I 122 15)), .ref 127]) mX5_takeNumber 2 5 33 dX5_takeHill_42 lk_RX5_99 ⟨_, rfl, rfl⟩ sh_122 rfl (Nat.le_of_ble_eq_true rfl) ⟨rfl, rfl⟩ (Nat.le_of_ble_eq_true rfl) rfl hy ?_
  rintro r n I5 G5 J5 ⟨v5, rfl, rfl, rfl, rfl, hy⟩
  show Ev (d + 1) mX5_takeHill 136 45 [some (.ref 122), some (.int ((4 : Int32) + (I 122 15)))] [.int v5, .int ((4 : Int32) + (I 122 15)), .ref 127] 136 I5 G J Φ
  have c6 := hy.1
  replace hy := hy.2
  refine E_is 127 8 ((4 : Int32) + (I 122 15)).toNatClampNeg dX5_takeHill_45 sh_127 c6 rfl ?_
  refine E_aload_n 0 dX5_takeHill_46 rfl rfl ?_
  refine E_getr 5 5 122 33 128 dX5_takeHill_47 fl_RX5_26 rfl sh_122 (wg_122_5 hG) ?_
  refine E_iload_n 1 dX5_takeHill_50 rfl rfl ?_
  refine E_aload_n 0 dX5_takeHill_51 rfl rfl ?_
  refine E_iconst (1 : Int32) dX5_takeHill_52 rfl ?_
  refine E_bipush (9 : Int32) dX5_takeHill_53 rfl ?_
  refine E_cv (M := mX5_takeHill) (pc := 55) (As := [.int (1 : Int32), .int (9 : Int32)]) (st := [.int ((4 : Int32) + (I 122 15)), .ref 128]) mX5_takeNumber 2 5 33 dX5_takeHill_55 lk_RX5_99 ⟨_, rfl, rfl⟩ sh_122 rfl (Nat.le_of_ble_eq_true rfl) ⟨rfl, rfl⟩ (Nat.le_of_ble_eq_true rfl) rfl hy ?_
  rintro r n I7 G7 J7 ⟨v7, rfl, rfl, rfl, rfl, hy⟩
  show Ev (d + 1) mX5_takeHill 136 58 [some (.ref 122), some (.int ((4 : Int32) + (I 122 15)))] [.int v7, .int ((4 : Int32) + (I 122 15)), .ref 128] 136 I7 G J Φ
  have c8 := hy.1
  replace hy := hy.2
  refine E_is 128 8 ((4 : Int32) + (I 122 15)).toNatClampNeg dX5_takeHill_58 sh_128 c8 rfl ?_
  refine E_aload_n 0 dX5_takeHill_59 rfl rfl ?_
  refine E_dup dX5_takeHill_60 rfl ?_
  refine E_getw 5 15 122 33 (I7 122 15) dX5_takeHill_61 fl_RX5_96 rfl sh_122 rfl ?_
  refine E_iconst (1 : Int32) dX5_takeHill_64 rfl ?_
  refine E_iadd dX5_takeHill_65 ?_
  refine E_puti 5 15 122 33 dX5_takeHill_66 fl_RX5_96 rfl sh_122 ⟨_, rfl, rfl⟩ rfl rfl ?_
  exact E_rv dX5_takeHill_69 rfl ⟨rfl, rfl⟩ hy
set_option maxRecDepth 100000 in
theorem w_X5_takeItem {d : Nat} {I : MI} {G : MG} {J : MJ} {Φ : Ph} (hG : WG G)  (hy : (¬ (I 122 25) = (104 : Int32) → (¬ (I 122 25) = (106 : Int32) → (¬ (I 122 25) = (109 : Int32) → (¬ (I 122 25) = (111 : Int32) → (¬ (I 122 25) = (114 : Int32) → Ev d mX5_want 136 0 [some (.ref 122), some (.int (0 : Int32))] [] 136 I G J (fun r n I6 G6 J6 => ∃ v6 : Int32, r = some (.int v6) ∧ n = 136 ∧ G = G6 ∧ J = J6 ∧ ((v6 = 0 → Φ none 136 I6 G J) ∧ (¬ v6 = 0 → Ev d mX5_takeNumber 136 0 [some (.ref 122), some (.int (0 : Int32)), some (.int (127 : Int32))] [] 136 (u2 I6 122 20 ((I6 122 20) ||| (2 : Int32))) G J (fun r n I8 G8 J8 => ∃ v8 : Int32, r = some (.int v8) ∧ n = 136 ∧ G = G8 ∧ J = J8 ∧ (Φ none 136 (u2 I8 122 19 v8) G J)))))) ∧ ((I 122 25) = (114 : Int32) → Ev d mX5_has 136 0 [some (.int (I 122 20)), some (.int (1 : Int32))] [] 136 I G J (fun r n I9 G9 J9 => ∃ v9 : Int32, r = some (.int v9) ∧ n = 136 ∧ I = I9 ∧ G = G9 ∧ J = J9 ∧ ((¬ v9 = 0 → Ev d mX5_want 136 0 [some (.ref 122), some (.int (0 : Int32))] [] 136 I G J (fun r n I11 G11 J11 => ∃ v11 : Int32, r = some (.int v11) ∧ n = 136 ∧ G = G11 ∧ J = J11 ∧ ((v11 = 0 → Φ none 136 I11 G J) ∧ (¬ v11 = 0 → Ev d mX5_takeNumber 136 0 [some (.ref 122), some (.int (0 : Int32)), some (.int (127 : Int32))] [] 136 (u2 I11 122 20 ((I11 122 20) ||| (2 : Int32))) G J (fun r n I13 G13 J13 => ∃ v13 : Int32, r = some (.int v13) ∧ n = 136 ∧ G = G13 ∧ J = J13 ∧ (Φ none 136 (u2 I13 122 19 v13) G J)))))) ∧ (v9 = 0 → Ev d mX5_want 136 0 [some (.ref 122), some (.int (1 : Int32))] [] 136 I G J (fun r n I14 G14 J14 => ∃ v14 : Int32, r = some (.int v14) ∧ n = 136 ∧ G = G14 ∧ J = J14 ∧ ((v14 = 0 → Φ none 136 I14 G J) ∧ (¬ v14 = 0 → Ev d mX5_takeNumber 136 0 [some (.ref 122), some (.int (0 : Int32)), some (.int (127 : Int32))] [] 136 (u2 I14 122 20 ((I14 122 20) ||| (2 : Int32))) G J (fun r n I16 G16 J16 => ∃ v16 : Int32, r = some (.int v16) ∧ n = 136 ∧ G = G16 ∧ J = J16 ∧ (Φ none 136 (u2 I16 122 19 v16) G J)))))))))) ∧ ((I 122 25) = (111 : Int32) → Ev d mX5_has 136 0 [some (.int (I 122 20)), some (.int (0 : Int32))] [] 136 I G J (fun r n I17 G17 J17 => ∃ v17 : Int32, r = some (.int v17) ∧ n = 136 ∧ I = I17 ∧ G = G17 ∧ J = J17 ∧ ((¬ v17 = 0 → Ev d mX5_want 136 0 [some (.ref 122), some (.int (0 : Int32))] [] 136 I G J (fun r n I19 G19 J19 => ∃ v19 : Int32, r = some (.int v19) ∧ n = 136 ∧ G = G19 ∧ J = J19 ∧ ((v19 = 0 → Φ none 136 I19 G J) ∧ (¬ v19 = 0 → Ev d mX5_takeNumber 136 0 [some (.ref 122), some (.int (1 : Int32)), some (.int (6 : Int32))] [] 136 (u2 I19 122 20 ((I19 122 20) ||| (1 : Int32))) G J (fun r n I21 G21 J21 => ∃ v21 : Int32, r = some (.int v21) ∧ n = 136 ∧ G = G21 ∧ J = J21 ∧ (Φ none 136 (u2 I21 122 18 v21) G J)))))) ∧ (v17 = 0 → Ev d mX5_want 136 0 [some (.ref 122), some (.int (1 : Int32))] [] 136 I G J (fun r n I22 G22 J22 => ∃ v22 : Int32, r = some (.int v22) ∧ n = 136 ∧ G = G22 ∧ J = J22 ∧ ((v22 = 0 → Φ none 136 I22 G J) ∧ (¬ v22 = 0 → Ev d mX5_takeNumber 136 0 [some (.ref 122), some (.int (1 : Int32)), some (.int (6 : Int32))] [] 136 (u2 I22 122 20 ((I22 122 20) ||| (1 : Int32))) G J (fun r n I24 G24 J24 => ∃ v24 : Int32, r = some (.int v24) ∧ n = 136 ∧ G = G24 ∧ J = J24 ∧ (Φ none 136 (u2 I24 122 18 v24) G J)))))))))) ∧ ((I 122 25) = (109 : Int32) → ((3 : Int32) ≤ (I 122 17) → Ev d mX5_want 136 0 [some (.ref 122), some (.int (0 : Int32))] [] 136 I G J (fun r n I26 G26 J26 => ∃ v26 : Int32, r = some (.int v26) ∧ n = 136 ∧ G = G26 ∧ J = J26 ∧ ((v26 = 0 → Φ none 136 I26 G J) ∧ (¬ v26 = 0 → Ev d mX5_takeNumber 136 0 [some (.ref 122), some (.int (1 : Int32)), some (.int (9 : Int32))] [] 136 I26 G J (fun r n I28 G28 J28 => ∃ v28 : Int32, r = some (.int v28) ∧ n = 136 ∧ G = G28 ∧ J = J28 ∧ (vp_in ((3 : Int32) + (I26 122 17)) 6 ∧ (Φ none 136 (u2 (u2 I28 132 ((3 : Int32) + (I26 122 17)).toNatClampNeg v28) 122 17 ((I28 122 17) + (1 : Int32))) G J))))))) ∧ (¬ (3 : Int32) ≤ (I 122 17) → Ev d mX5_want 136 0 [some (.ref 122), some (.int (1 : Int32))] [] 136 I G J (fun r n I30 G30 J30 => ∃ v30 : Int32, r = some (.int v30) ∧ n = 136 ∧ G = G30 ∧ J = J30 ∧ ((v30 = 0 → Φ none 136 I30 G J) ∧ (¬ v30 = 0 → Ev d mX5_takeNumber 136 0 [some (.ref 122), some (.int (1 : Int32)), some (.int (9 : Int32))] [] 136 I30 G J (fun r n I32 G32 J32 => ∃ v32 : Int32, r = some (.int v32) ∧ n = 136 ∧ G = G32 ∧ J = J32 ∧ (vp_in ((3 : Int32) + (I30 122 17)) 6 ∧ (Φ none 136 (u2 (u2 I32 132 ((3 : Int32) + (I30 122 17)).toNatClampNeg v32) 122 17 ((I32 122 17) + (1 : Int32))) G J))))))))) ∧ ((I 122 25) = (106 : Int32) → ((4 : Int32) ≤ (I 122 16) → Ev d mX5_want 136 0 [some (.ref 122), some (.int (0 : Int32))] [] 136 I G J (fun r n I35 G35 J35 => ∃ v35 : Int32, r = some (.int v35) ∧ n = 136 ∧ G = G35 ∧ J = J35 ∧ ((v35 = 0 → Φ none 136 I35 G J) ∧ (¬ v35 = 0 → Ev d mX5_takeJoin 136 0 [some (.ref 122), none, none] [] 136 I35 G J (fun r n I37 G37 J37 => r = none ∧ n = 136 ∧ G = G37 ∧ J = J37 ∧ (Φ none 136 I37 G J)))))) ∧ (¬ (4 : Int32) ≤ (I 122 16) → Ev d mX5_want 136 0 [some (.ref 122), some (.int (1 : Int32))] [] 136 I G J (fun r n I38 G38 J38 => ∃ v38 : Int32, r = some (.int v38) ∧ n = 136 ∧ G = G38 ∧ J = J38 ∧ ((v38 = 0 → Φ none 136 I38 G J) ∧ (¬ v38 = 0 → Ev d mX5_takeJoin 136 0 [some (.ref 122), none, none] [] 136 I38 G J (fun r n I40 G40 J40 => r = none ∧ n = 136 ∧ G = G40 ∧ J = J40 ∧ (Φ none 136 I40 G J)))))))) ∧ ((I 122 25) = (104 : Int32) → ((4 : Int32) ≤ (I 122 15) → Ev d mX5_want 136 0 [some (.ref 122), some (.int (0 : Int32))] [] 136 I G J (fun r n I42 G42 J42 => ∃ v42 : Int32, r = some (.int v42) ∧ n = 136 ∧ G = G42 ∧ J = J42 ∧ ((v42 = 0 → Φ none 136 I42 G J) ∧ (¬ v42 = 0 → Ev d mX5_takeHill 136 0 [some (.ref 122), none] [] 136 I42 G J (fun r n I44 G44 J44 => r = none ∧ n = 136 ∧ G = G44 ∧ J = J44 ∧ (Φ none 136 I44 G J)))))) ∧ (¬ (4 : Int32) ≤ (I 122 15) → Ev d mX5_want 136 0 [some (.ref 122), some (.int (1 : Int32))] [] 136 I G J (fun r n I45 G45 J45 => ∃ v45 : Int32, r = some (.int v45) ∧ n = 136 ∧ G = G45 ∧ J = J45 ∧ ((v45 = 0 → Φ none 136 I45 G J) ∧ (¬ v45 = 0 → Ev d mX5_takeHill 136 0 [some (.ref 122), none] [] 136 I45 G J (fun r n I47 G47 J47 => r = none ∧ n = 136 ∧ G = G47 ∧ J = J47 ∧ (Φ none 136 I47 G J)))))))) : Ev (d + 1) mX5_takeItem 136 0 [some (.ref 122)] [] 136 I G J Φ := by
  refine E_aload_n 0 dX5_takeItem_0 rfl rfl ?_
  refine E_geti 5 25 122 33 dX5_takeItem_1 fl_RX5_76 rfl sh_122 ?_
  refine E_bipush (104 : Int32) dX5_takeItem_4 rfl ?_
  refine E_icmp_ne 36 dX5_takeItem_6 rfl (fun h1 => ?_) (fun h1 => ?_)
  · replace hy := hy.1 h1
    refine E_aload_n 0 dX5_takeItem_36 rfl rfl ?_
    refine E_geti 5 25 122 33 dX5_takeItem_37 fl_RX5_76 rfl sh_122 ?_
    refine E_bipush (106 : Int32) dX5_takeItem_40 rfl ?_
    refine E_icmp_ne 72 dX5_takeItem_42 rfl (fun h2 => ?_) (fun h2 => ?_)
    · replace hy := hy.1 h2
      refine E_aload_n 0 dX5_takeItem_72 rfl rfl ?_
      refine E_geti 5 25 122 33 dX5_takeItem_73 fl_RX5_76 rfl sh_122 ?_
      refine E_bipush (109 : Int32) dX5_takeItem_76 rfl ?_
      refine E_icmp_ne 132 dX5_takeItem_78 rfl (fun h3 => ?_) (fun h3 => ?_)
      · replace hy := hy.1 h3
        refine E_aload_n 0 dX5_takeItem_132 rfl rfl ?_
        refine E_geti 5 25 122 33 dX5_takeItem_133 fl_RX5_76 rfl sh_122 ?_
        refine E_bipush (111 : Int32) dX5_takeItem_136 rfl ?_
        refine E_icmp_ne 188 dX5_takeItem_138 rfl (fun h4 => ?_) (fun h4 => ?_)
        · replace hy := hy.1 h4
          refine E_aload_n 0 dX5_takeItem_188 rfl rfl ?_
          refine E_aload_n 0 dX5_takeItem_189 rfl rfl ?_
          refine E_geti 5 25 122 33 dX5_takeItem_190 fl_RX5_76 rfl sh_122 ?_
          refine E_bipush (114 : Int32) dX5_takeItem_193 rfl ?_
          refine E_icmp_ne 213 dX5_takeItem_195 rfl (fun h5 => ?_) (fun h5 => ?_)
          · replace hy := hy.1 h5
            refine E_iconst (0 : Int32) dX5_takeItem_213 rfl ?_
            refine E_cv (M := mX5_takeItem) (pc := 214) (As := [.int (0 : Int32)]) (st := []) mX5_want 1 5 33 dX5_takeItem_214 lk_RX5_92 ⟨_, rfl, rfl⟩ sh_122 rfl (Nat.le_of_ble_eq_true rfl) ⟨rfl, rfl⟩ (Nat.le_of_ble_eq_true rfl) rfl hy ?_
            rintro r n I6 G6 J6 ⟨v6, rfl, rfl, rfl, rfl, hy⟩
            show Ev (d + 1) mX5_takeItem 136 217 [some (.ref 122)] [.int v6] 136 I6 G J Φ
            refine E_if_eq 241 dX5_takeItem_217 rfl (fun h7 => ?_) (fun h7 => ?_)
            · replace hy := hy.1 h7
              exact E_rv dX5_takeItem_241 rfl ⟨rfl, rfl⟩ hy
            · replace hy := hy.2 h7
              refine E_aload_n 0 dX5_takeItem_220 rfl rfl ?_
              refine E_dup dX5_takeItem_221 rfl ?_
              refine E_geti 5 20 122 33 dX5_takeItem_222 fl_RX5_115 rfl sh_122 ?_
              refine E_iconst (2 : Int32) dX5_takeItem_225 rfl ?_
              refine E_ior dX5_takeItem_226 ?_
              refine E_puti 5 20 122 33 dX5_takeItem_227 fl_RX5_115 rfl sh_122 ⟨_, rfl, rfl⟩ rfl rfl ?_
              refine E_aload_n 0 dX5_takeItem_230 rfl rfl ?_
              refine E_aload_n 0 dX5_takeItem_231 rfl rfl ?_
              refine E_iconst (0 : Int32) dX5_takeItem_232 rfl ?_
              refine E_bipush (127 : Int32) dX5_takeItem_233 rfl ?_
              refine E_cv (M := mX5_takeItem) (pc := 235) (As := [.int (0 : Int32), .int (127 : Int32)]) (st := [.ref 122]) mX5_takeNumber 2 5 33 dX5_takeItem_235 lk_RX5_99 ⟨_, rfl, rfl⟩ sh_122 rfl (Nat.le_of_ble_eq_true rfl) ⟨rfl, rfl⟩ (Nat.le_of_ble_eq_true rfl) rfl hy ?_
              rintro r n I8 G8 J8 ⟨v8, rfl, rfl, rfl, rfl, hy⟩
              show Ev (d + 1) mX5_takeItem 136 238 [some (.ref 122)] [.int v8, .ref 122] 136 I8 G J Φ
              refine E_puti 5 19 122 33 dX5_takeItem_238 fl_RX5_125 rfl sh_122 ⟨_, rfl, rfl⟩ rfl rfl ?_
              exact E_rv dX5_takeItem_241 rfl ⟨rfl, rfl⟩ hy
          · replace hy := hy.2 (Decidable.not_not.mp h5)
            refine E_aload_n 0 dX5_takeItem_198 rfl rfl ?_
            refine E_geti 5 20 122 33 dX5_takeItem_199 fl_RX5_115 rfl sh_122 ?_
            refine E_iconst (1 : Int32) dX5_takeItem_202 rfl ?_
            refine E_cs (M := mX5_takeItem) (pc := 203) (As := [.int (I 122 20), .int (1 : Int32)]) (st := [.ref 122]) mX5_has 2 dX5_takeItem_203 lk_RX5_118 rfl (Nat.le_of_ble_eq_true rfl) ⟨rfl, rfl⟩ (Nat.le_of_ble_eq_true rfl) rfl hy ?_
            rintro r n I9 G9 J9 ⟨v9, rfl, rfl, rfl, rfl, rfl, hy⟩
            show Ev (d + 1) mX5_takeItem 136 206 [some (.ref 122)] [.int v9, .ref 122] 136 I G J Φ
            refine E_if_ne 213 dX5_takeItem_206 rfl (fun h10 => ?_) (fun h10 => ?_)
            · replace hy := hy.1 h10
              refine E_iconst (0 : Int32) dX5_takeItem_213 rfl ?_
              refine E_cv (M := mX5_takeItem) (pc := 214) (As := [.int (0 : Int32)]) (st := []) mX5_want 1 5 33 dX5_takeItem_214 lk_RX5_92 ⟨_, rfl, rfl⟩ sh_122 rfl (Nat.le_of_ble_eq_true rfl) ⟨rfl, rfl⟩ (Nat.le_of_ble_eq_true rfl) rfl hy ?_
              rintro r n I11 G11 J11 ⟨v11, rfl, rfl, rfl, rfl, hy⟩
              show Ev (d + 1) mX5_takeItem 136 217 [some (.ref 122)] [.int v11] 136 I11 G J Φ
              refine E_if_eq 241 dX5_takeItem_217 rfl (fun h12 => ?_) (fun h12 => ?_)
              · replace hy := hy.1 h12
                exact E_rv dX5_takeItem_241 rfl ⟨rfl, rfl⟩ hy
              · replace hy := hy.2 h12
                refine E_aload_n 0 dX5_takeItem_220 rfl rfl ?_
                refine E_dup dX5_takeItem_221 rfl ?_
                refine E_geti 5 20 122 33 dX5_takeItem_222 fl_RX5_115 rfl sh_122 ?_
                refine E_iconst (2 : Int32) dX5_takeItem_225 rfl ?_
                refine E_ior dX5_takeItem_226 ?_
                refine E_puti 5 20 122 33 dX5_takeItem_227 fl_RX5_115 rfl sh_122 ⟨_, rfl, rfl⟩ rfl rfl ?_
                refine E_aload_n 0 dX5_takeItem_230 rfl rfl ?_
                refine E_aload_n 0 dX5_takeItem_231 rfl rfl ?_
                refine E_iconst (0 : Int32) dX5_takeItem_232 rfl ?_
                refine E_bipush (127 : Int32) dX5_takeItem_233 rfl ?_
                refine E_cv (M := mX5_takeItem) (pc := 235) (As := [.int (0 : Int32), .int (127 : Int32)]) (st := [.ref 122]) mX5_takeNumber 2 5 33 dX5_takeItem_235 lk_RX5_99 ⟨_, rfl, rfl⟩ sh_122 rfl (Nat.le_of_ble_eq_true rfl) ⟨rfl, rfl⟩ (Nat.le_of_ble_eq_true rfl) rfl hy ?_
                rintro r n I13 G13 J13 ⟨v13, rfl, rfl, rfl, rfl, hy⟩
                show Ev (d + 1) mX5_takeItem 136 238 [some (.ref 122)] [.int v13, .ref 122] 136 I13 G J Φ
                refine E_puti 5 19 122 33 dX5_takeItem_238 fl_RX5_125 rfl sh_122 ⟨_, rfl, rfl⟩ rfl rfl ?_
                exact E_rv dX5_takeItem_241 rfl ⟨rfl, rfl⟩ hy
            · replace hy := hy.2 (Decidable.not_not.mp h10)
              refine E_iconst (1 : Int32) dX5_takeItem_209 rfl ?_
              refine E_goto 214 dX5_takeItem_210 rfl ?_
              refine E_cv (M := mX5_takeItem) (pc := 214) (As := [.int (1 : Int32)]) (st := []) mX5_want 1 5 33 dX5_takeItem_214 lk_RX5_92 ⟨_, rfl, rfl⟩ sh_122 rfl (Nat.le_of_ble_eq_true rfl) ⟨rfl, rfl⟩ (Nat.le_of_ble_eq_true rfl) rfl hy ?_
              rintro r n I14 G14 J14 ⟨v14, rfl, rfl, rfl, rfl, hy⟩
              show Ev (d + 1) mX5_takeItem 136 217 [some (.ref 122)] [.int v14] 136 I14 G J Φ
              refine E_if_eq 241 dX5_takeItem_217 rfl (fun h15 => ?_) (fun h15 => ?_)
              · replace hy := hy.1 h15
                exact E_rv dX5_takeItem_241 rfl ⟨rfl, rfl⟩ hy
              · replace hy := hy.2 h15
                refine E_aload_n 0 dX5_takeItem_220 rfl rfl ?_
                refine E_dup dX5_takeItem_221 rfl ?_
                refine E_geti 5 20 122 33 dX5_takeItem_222 fl_RX5_115 rfl sh_122 ?_
                refine E_iconst (2 : Int32) dX5_takeItem_225 rfl ?_
                refine E_ior dX5_takeItem_226 ?_
                refine E_puti 5 20 122 33 dX5_takeItem_227 fl_RX5_115 rfl sh_122 ⟨_, rfl, rfl⟩ rfl rfl ?_
                refine E_aload_n 0 dX5_takeItem_230 rfl rfl ?_
                refine E_aload_n 0 dX5_takeItem_231 rfl rfl ?_
                refine E_iconst (0 : Int32) dX5_takeItem_232 rfl ?_
                refine E_bipush (127 : Int32) dX5_takeItem_233 rfl ?_
                refine E_cv (M := mX5_takeItem) (pc := 235) (As := [.int (0 : Int32), .int (127 : Int32)]) (st := [.ref 122]) mX5_takeNumber 2 5 33 dX5_takeItem_235 lk_RX5_99 ⟨_, rfl, rfl⟩ sh_122 rfl (Nat.le_of_ble_eq_true rfl) ⟨rfl, rfl⟩ (Nat.le_of_ble_eq_true rfl) rfl hy ?_
                rintro r n I16 G16 J16 ⟨v16, rfl, rfl, rfl, rfl, hy⟩
                show Ev (d + 1) mX5_takeItem 136 238 [some (.ref 122)] [.int v16, .ref 122] 136 I16 G J Φ
                refine E_puti 5 19 122 33 dX5_takeItem_238 fl_RX5_125 rfl sh_122 ⟨_, rfl, rfl⟩ rfl rfl ?_
                exact E_rv dX5_takeItem_241 rfl ⟨rfl, rfl⟩ hy
        · replace hy := hy.2 (Decidable.not_not.mp h4)
          refine E_aload_n 0 dX5_takeItem_141 rfl rfl ?_
          refine E_aload_n 0 dX5_takeItem_142 rfl rfl ?_
          refine E_geti 5 20 122 33 dX5_takeItem_143 fl_RX5_115 rfl sh_122 ?_
          refine E_iconst (0 : Int32) dX5_takeItem_146 rfl ?_
          refine E_cs (M := mX5_takeItem) (pc := 147) (As := [.int (I 122 20), .int (0 : Int32)]) (st := [.ref 122]) mX5_has 2 dX5_takeItem_147 lk_RX5_118 rfl (Nat.le_of_ble_eq_true rfl) ⟨rfl, rfl⟩ (Nat.le_of_ble_eq_true rfl) rfl hy ?_
          rintro r n I17 G17 J17 ⟨v17, rfl, rfl, rfl, rfl, rfl, hy⟩
          show Ev (d + 1) mX5_takeItem 136 150 [some (.ref 122)] [.int v17, .ref 122] 136 I G J Φ
          refine E_if_ne 157 dX5_takeItem_150 rfl (fun h18 => ?_) (fun h18 => ?_)
          · replace hy := hy.1 h18
            refine E_iconst (0 : Int32) dX5_takeItem_157 rfl ?_
            refine E_cv (M := mX5_takeItem) (pc := 158) (As := [.int (0 : Int32)]) (st := []) mX5_want 1 5 33 dX5_takeItem_158 lk_RX5_92 ⟨_, rfl, rfl⟩ sh_122 rfl (Nat.le_of_ble_eq_true rfl) ⟨rfl, rfl⟩ (Nat.le_of_ble_eq_true rfl) rfl hy ?_
            rintro r n I19 G19 J19 ⟨v19, rfl, rfl, rfl, rfl, hy⟩
            show Ev (d + 1) mX5_takeItem 136 161 [some (.ref 122)] [.int v19] 136 I19 G J Φ
            refine E_if_eq 241 dX5_takeItem_161 rfl (fun h20 => ?_) (fun h20 => ?_)
            · replace hy := hy.1 h20
              exact E_rv dX5_takeItem_241 rfl ⟨rfl, rfl⟩ hy
            · replace hy := hy.2 h20
              refine E_aload_n 0 dX5_takeItem_164 rfl rfl ?_
              refine E_dup dX5_takeItem_165 rfl ?_
              refine E_geti 5 20 122 33 dX5_takeItem_166 fl_RX5_115 rfl sh_122 ?_
              refine E_iconst (1 : Int32) dX5_takeItem_169 rfl ?_
              refine E_ior dX5_takeItem_170 ?_
              refine E_puti 5 20 122 33 dX5_takeItem_171 fl_RX5_115 rfl sh_122 ⟨_, rfl, rfl⟩ rfl rfl ?_
              refine E_aload_n 0 dX5_takeItem_174 rfl rfl ?_
              refine E_aload_n 0 dX5_takeItem_175 rfl rfl ?_
              refine E_iconst (1 : Int32) dX5_takeItem_176 rfl ?_
              refine E_bipush (6 : Int32) dX5_takeItem_177 rfl ?_
              refine E_cv (M := mX5_takeItem) (pc := 179) (As := [.int (1 : Int32), .int (6 : Int32)]) (st := [.ref 122]) mX5_takeNumber 2 5 33 dX5_takeItem_179 lk_RX5_99 ⟨_, rfl, rfl⟩ sh_122 rfl (Nat.le_of_ble_eq_true rfl) ⟨rfl, rfl⟩ (Nat.le_of_ble_eq_true rfl) rfl hy ?_
              rintro r n I21 G21 J21 ⟨v21, rfl, rfl, rfl, rfl, hy⟩
              show Ev (d + 1) mX5_takeItem 136 182 [some (.ref 122)] [.int v21, .ref 122] 136 I21 G J Φ
              refine E_puti 5 18 122 33 dX5_takeItem_182 fl_RX5_122 rfl sh_122 ⟨_, rfl, rfl⟩ rfl rfl ?_
              refine E_goto 241 dX5_takeItem_185 rfl ?_
              exact E_rv dX5_takeItem_241 rfl ⟨rfl, rfl⟩ hy
          · replace hy := hy.2 (Decidable.not_not.mp h18)
            refine E_iconst (1 : Int32) dX5_takeItem_153 rfl ?_
            refine E_goto 158 dX5_takeItem_154 rfl ?_
            refine E_cv (M := mX5_takeItem) (pc := 158) (As := [.int (1 : Int32)]) (st := []) mX5_want 1 5 33 dX5_takeItem_158 lk_RX5_92 ⟨_, rfl, rfl⟩ sh_122 rfl (Nat.le_of_ble_eq_true rfl) ⟨rfl, rfl⟩ (Nat.le_of_ble_eq_true rfl) rfl hy ?_
            rintro r n I22 G22 J22 ⟨v22, rfl, rfl, rfl, rfl, hy⟩
            show Ev (d + 1) mX5_takeItem 136 161 [some (.ref 122)] [.int v22] 136 I22 G J Φ
            refine E_if_eq 241 dX5_takeItem_161 rfl (fun h23 => ?_) (fun h23 => ?_)
            · replace hy := hy.1 h23
              exact E_rv dX5_takeItem_241 rfl ⟨rfl, rfl⟩ hy
            · replace hy := hy.2 h23
              refine E_aload_n 0 dX5_takeItem_164 rfl rfl ?_
              refine E_dup dX5_takeItem_165 rfl ?_
              refine E_geti 5 20 122 33 dX5_takeItem_166 fl_RX5_115 rfl sh_122 ?_
              refine E_iconst (1 : Int32) dX5_takeItem_169 rfl ?_
              refine E_ior dX5_takeItem_170 ?_
              refine E_puti 5 20 122 33 dX5_takeItem_171 fl_RX5_115 rfl sh_122 ⟨_, rfl, rfl⟩ rfl rfl ?_
              refine E_aload_n 0 dX5_takeItem_174 rfl rfl ?_
              refine E_aload_n 0 dX5_takeItem_175 rfl rfl ?_
              refine E_iconst (1 : Int32) dX5_takeItem_176 rfl ?_
              refine E_bipush (6 : Int32) dX5_takeItem_177 rfl ?_
              refine E_cv (M := mX5_takeItem) (pc := 179) (As := [.int (1 : Int32), .int (6 : Int32)]) (st := [.ref 122]) mX5_takeNumber 2 5 33 dX5_takeItem_179 lk_RX5_99 ⟨_, rfl, rfl⟩ sh_122 rfl (Nat.le_of_ble_eq_true rfl) ⟨rfl, rfl⟩ (Nat.le_of_ble_eq_true rfl) rfl hy ?_
              rintro r n I24 G24 J24 ⟨v24, rfl, rfl, rfl, rfl, hy⟩
              show Ev (d + 1) mX5_takeItem 136 182 [some (.ref 122)] [.int v24, .ref 122] 136 I24 G J Φ
              refine E_puti 5 18 122 33 dX5_takeItem_182 fl_RX5_122 rfl sh_122 ⟨_, rfl, rfl⟩ rfl rfl ?_
              refine E_goto 241 dX5_takeItem_185 rfl ?_
              exact E_rv dX5_takeItem_241 rfl ⟨rfl, rfl⟩ hy
      · replace hy := hy.2 (Decidable.not_not.mp h3)
        refine E_aload_n 0 dX5_takeItem_81 rfl rfl ?_
        refine E_aload_n 0 dX5_takeItem_82 rfl rfl ?_
        refine E_geti 5 17 122 33 dX5_takeItem_83 fl_RX5_112 rfl sh_122 ?_
        refine E_iconst (3 : Int32) dX5_takeItem_86 rfl ?_
        refine E_icmp_ge 94 dX5_takeItem_87 rfl (fun h25 => ?_) (fun h25 => ?_)
        · replace hy := hy.1 h25
          refine E_iconst (0 : Int32) dX5_takeItem_94 rfl ?_
          refine E_cv (M := mX5_takeItem) (pc := 95) (As := [.int (0 : Int32)]) (st := []) mX5_want 1 5 33 dX5_takeItem_95 lk_RX5_92 ⟨_, rfl, rfl⟩ sh_122 rfl (Nat.le_of_ble_eq_true rfl) ⟨rfl, rfl⟩ (Nat.le_of_ble_eq_true rfl) rfl hy ?_
          rintro r n I26 G26 J26 ⟨v26, rfl, rfl, rfl, rfl, hy⟩
          show Ev (d + 1) mX5_takeItem 136 98 [some (.ref 122)] [.int v26] 136 I26 G J Φ
          refine E_if_eq 241 dX5_takeItem_98 rfl (fun h27 => ?_) (fun h27 => ?_)
          · replace hy := hy.1 h27
            exact E_rv dX5_takeItem_241 rfl ⟨rfl, rfl⟩ hy
          · replace hy := hy.2 h27
            refine E_aload_n 0 dX5_takeItem_101 rfl rfl ?_
            refine E_getr 5 9 122 33 132 dX5_takeItem_102 fl_RX5_38 rfl sh_122 (wg_122_9 hG) ?_
            refine E_iconst (3 : Int32) dX5_takeItem_105 rfl ?_
            refine E_aload_n 0 dX5_takeItem_106 rfl rfl ?_
            refine E_geti 5 17 122 33 dX5_takeItem_107 fl_RX5_112 rfl sh_122 ?_
            refine E_iadd dX5_takeItem_110 ?_
            refine E_aload_n 0 dX5_takeItem_111 rfl rfl ?_
            refine E_iconst (1 : Int32) dX5_takeItem_112 rfl ?_
            refine E_bipush (9 : Int32) dX5_takeItem_113 rfl ?_
            refine E_cv (M := mX5_takeItem) (pc := 115) (As := [.int (1 : Int32), .int (9 : Int32)]) (st := [.int ((3 : Int32) + (I26 122 17)), .ref 132]) mX5_takeNumber 2 5 33 dX5_takeItem_115 lk_RX5_99 ⟨_, rfl, rfl⟩ sh_122 rfl (Nat.le_of_ble_eq_true rfl) ⟨rfl, rfl⟩ (Nat.le_of_ble_eq_true rfl) rfl hy ?_
            rintro r n I28 G28 J28 ⟨v28, rfl, rfl, rfl, rfl, hy⟩
            show Ev (d + 1) mX5_takeItem 136 118 [some (.ref 122)] [.int v28, .int ((3 : Int32) + (I26 122 17)), .ref 132] 136 I28 G J Φ
            have c29 := hy.1
            replace hy := hy.2
            refine E_is 132 6 ((3 : Int32) + (I26 122 17)).toNatClampNeg dX5_takeItem_118 sh_132 c29 rfl ?_
            refine E_aload_n 0 dX5_takeItem_119 rfl rfl ?_
            refine E_dup dX5_takeItem_120 rfl ?_
            refine E_getw 5 17 122 33 (I28 122 17) dX5_takeItem_121 fl_RX5_112 rfl sh_122 rfl ?_
            refine E_iconst (1 : Int32) dX5_takeItem_124 rfl ?_
            refine E_iadd dX5_takeItem_125 ?_
            refine E_puti 5 17 122 33 dX5_takeItem_126 fl_RX5_112 rfl sh_122 ⟨_, rfl, rfl⟩ rfl rfl ?_
            refine E_goto 241 dX5_takeItem_129 rfl ?_
            exact E_rv dX5_takeItem_241 rfl ⟨rfl, rfl⟩ hy
        · replace hy := hy.2 h25
          refine E_iconst (1 : Int32) dX5_takeItem_90 rfl ?_
          refine E_goto 95 dX5_takeItem_91 rfl ?_
          refine E_cv (M := mX5_takeItem) (pc := 95) (As := [.int (1 : Int32)]) (st := []) mX5_want 1 5 33 dX5_takeItem_95 lk_RX5_92 ⟨_, rfl, rfl⟩ sh_122 rfl (Nat.le_of_ble_eq_true rfl) ⟨rfl, rfl⟩ (Nat.le_of_ble_eq_true rfl) rfl hy ?_
          rintro r n I30 G30 J30 ⟨v30, rfl, rfl, rfl, rfl, hy⟩
          show Ev (d + 1) mX5_takeItem 136 98 [some (.ref 122)] [.int v30] 136 I30 G J Φ
          refine E_if_eq 241 dX5_takeItem_98 rfl (fun h31 => ?_) (fun h31 => ?_)
          · replace hy := hy.1 h31
            exact E_rv dX5_takeItem_241 rfl ⟨rfl, rfl⟩ hy
          · replace hy := hy.2 h31
            refine E_aload_n 0 dX5_takeItem_101 rfl rfl ?_
            refine E_getr 5 9 122 33 132 dX5_takeItem_102 fl_RX5_38 rfl sh_122 (wg_122_9 hG) ?_
            refine E_iconst (3 : Int32) dX5_takeItem_105 rfl ?_
            refine E_aload_n 0 dX5_takeItem_106 rfl rfl ?_
            refine E_geti 5 17 122 33 dX5_takeItem_107 fl_RX5_112 rfl sh_122 ?_
            refine E_iadd dX5_takeItem_110 ?_
            refine E_aload_n 0 dX5_takeItem_111 rfl rfl ?_
            refine E_iconst (1 : Int32) dX5_takeItem_112 rfl ?_
            refine E_bipush (9 : Int32) dX5_takeItem_113 rfl ?_
            refine E_cv (M := mX5_takeItem) (pc := 115) (As := [.int (1 : Int32), .int (9 : Int32)]) (st := [.int ((3 : Int32) + (I30 122 17)), .ref 132]) mX5_takeNumber 2 5 33 dX5_takeItem_115 lk_RX5_99 ⟨_, rfl, rfl⟩ sh_122 rfl (Nat.le_of_ble_eq_true rfl) ⟨rfl, rfl⟩ (Nat.le_of_ble_eq_true rfl) rfl hy ?_
            rintro r n I32 G32 J32 ⟨v32, rfl, rfl, rfl, rfl, hy⟩
            show Ev (d + 1) mX5_takeItem 136 118 [some (.ref 122)] [.int v32, .int ((3 : Int32) + (I30 122 17)), .ref 132] 136 I32 G J Φ
            have c33 := hy.1
            replace hy := hy.2
            refine E_is 132 6 ((3 : Int32) + (I30 122 17)).toNatClampNeg dX5_takeItem_118 sh_132 c33 rfl ?_
            refine E_aload_n 0 dX5_takeItem_119 rfl rfl ?_
            refine E_dup dX5_takeItem_120 rfl ?_
            refine E_getw 5 17 122 33 (I32 122 17) dX5_takeItem_121 fl_RX5_112 rfl sh_122 rfl ?_
            refine E_iconst (1 : Int32) dX5_takeItem_124 rfl ?_
            refine E_iadd dX5_takeItem_125 ?_
            refine E_puti 5 17 122 33 dX5_takeItem_126 fl_RX5_112 rfl sh_122 ⟨_, rfl, rfl⟩ rfl rfl ?_
            refine E_goto 241 dX5_takeItem_129 rfl ?_
            exact E_rv dX5_takeItem_241 rfl ⟨rfl, rfl⟩ hy
    · replace hy := hy.2 (Decidable.not_not.mp h2)
      refine E_aload_n 0 dX5_takeItem_45 rfl rfl ?_
      refine E_aload_n 0 dX5_takeItem_46 rfl rfl ?_
      refine E_geti 5 16 122 33 dX5_takeItem_47 fl_RX5_103 rfl sh_122 ?_
      refine E_iconst (4 : Int32) dX5_takeItem_50 rfl ?_
      refine E_icmp_ge 58 dX5_takeItem_51 rfl (fun h34 => ?_) (fun h34 => ?_)
      · replace hy := hy.1 h34
        refine E_iconst (0 : Int32) dX5_takeItem_58 rfl ?_
        refine E_cv (M := mX5_takeItem) (pc := 59) (As := [.int (0 : Int32)]) (st := []) mX5_want 1 5 33 dX5_takeItem_59 lk_RX5_92 ⟨_, rfl, rfl⟩ sh_122 rfl (Nat.le_of_ble_eq_true rfl) ⟨rfl, rfl⟩ (Nat.le_of_ble_eq_true rfl) rfl hy ?_
        rintro r n I35 G35 J35 ⟨v35, rfl, rfl, rfl, rfl, hy⟩
        show Ev (d + 1) mX5_takeItem 136 62 [some (.ref 122)] [.int v35] 136 I35 G J Φ
        refine E_if_eq 241 dX5_takeItem_62 rfl (fun h36 => ?_) (fun h36 => ?_)
        · replace hy := hy.1 h36
          exact E_rv dX5_takeItem_241 rfl ⟨rfl, rfl⟩ hy
        · replace hy := hy.2 h36
          refine E_aload_n 0 dX5_takeItem_65 rfl rfl ?_
          refine E_cv (M := mX5_takeItem) (pc := 66) (As := []) (st := []) mX5_takeJoin 0 5 33 dX5_takeItem_66 lk_RX5_109 ⟨_, rfl, rfl⟩ sh_122 rfl (Nat.le_of_ble_eq_true rfl) ⟨rfl, rfl⟩ (Nat.le_of_ble_eq_true rfl) rfl hy ?_
          rintro r n I37 G37 J37 ⟨rfl, rfl, rfl, rfl, hy⟩
          show Ev (d + 1) mX5_takeItem 136 69 [some (.ref 122)] [] 136 I37 G J Φ
          refine E_goto 241 dX5_takeItem_69 rfl ?_
          exact E_rv dX5_takeItem_241 rfl ⟨rfl, rfl⟩ hy
      · replace hy := hy.2 h34
        refine E_iconst (1 : Int32) dX5_takeItem_54 rfl ?_
        refine E_goto 59 dX5_takeItem_55 rfl ?_
        refine E_cv (M := mX5_takeItem) (pc := 59) (As := [.int (1 : Int32)]) (st := []) mX5_want 1 5 33 dX5_takeItem_59 lk_RX5_92 ⟨_, rfl, rfl⟩ sh_122 rfl (Nat.le_of_ble_eq_true rfl) ⟨rfl, rfl⟩ (Nat.le_of_ble_eq_true rfl) rfl hy ?_
        rintro r n I38 G38 J38 ⟨v38, rfl, rfl, rfl, rfl, hy⟩
        show Ev (d + 1) mX5_takeItem 136 62 [some (.ref 122)] [.int v38] 136 I38 G J Φ
        refine E_if_eq 241 dX5_takeItem_62 rfl (fun h39 => ?_) (fun h39 => ?_)
        · replace hy := hy.1 h39
          exact E_rv dX5_takeItem_241 rfl ⟨rfl, rfl⟩ hy
        · replace hy := hy.2 h39
          refine E_aload_n 0 dX5_takeItem_65 rfl rfl ?_
          refine E_cv (M := mX5_takeItem) (pc := 66) (As := []) (st := []) mX5_takeJoin 0 5 33 dX5_takeItem_66 lk_RX5_109 ⟨_, rfl, rfl⟩ sh_122 rfl (Nat.le_of_ble_eq_true rfl) ⟨rfl, rfl⟩ (Nat.le_of_ble_eq_true rfl) rfl hy ?_
          rintro r n I40 G40 J40 ⟨rfl, rfl, rfl, rfl, hy⟩
          show Ev (d + 1) mX5_takeItem 136 69 [some (.ref 122)] [] 136 I40 G J Φ
          refine E_goto 241 dX5_takeItem_69 rfl ?_
          exact E_rv dX5_takeItem_241 rfl ⟨rfl, rfl⟩ hy
  · replace hy := hy.2 (Decidable.not_not.mp h1)
    refine E_aload_n 0 dX5_takeItem_9 rfl rfl ?_
    refine E_aload_n 0 dX5_takeItem_10 rfl rfl ?_
    refine E_geti 5 15 122 33 dX5_takeItem_11 fl_RX5_96 rfl sh_122 ?_
    refine E_iconst (4 : Int32) dX5_takeItem_14 rfl ?_
    refine E_icmp_ge 22 dX5_takeItem_15 rfl (fun h41 => ?_) (fun h41 => ?_)
    · replace hy := hy.1 h41
      refine E_iconst (0 : Int32) dX5_takeItem_22 rfl ?_
      refine E_cv (M := mX5_takeItem) (pc := 23) (As := [.int (0 : Int32)]) (st := []) mX5_want 1 5 33 dX5_takeItem_23 lk_RX5_92 ⟨_, rfl, rfl⟩ sh_122 rfl (Nat.le_of_ble_eq_true rfl) ⟨rfl, rfl⟩ (Nat.le_of_ble_eq_true rfl) rfl hy ?_
      rintro r n I42 G42 J42 ⟨v42, rfl, rfl, rfl, rfl, hy⟩
      show Ev (d + 1) mX5_takeItem 136 26 [some (.ref 122)] [.int v42] 136 I42 G J Φ
      refine E_if_eq 241 dX5_takeItem_26 rfl (fun h43 => ?_) (fun h43 => ?_)
      · replace hy := hy.1 h43
        exact E_rv dX5_takeItem_241 rfl ⟨rfl, rfl⟩ hy
      · replace hy := hy.2 h43
        refine E_aload_n 0 dX5_takeItem_29 rfl rfl ?_
        refine E_cv (M := mX5_takeItem) (pc := 30) (As := []) (st := []) mX5_takeHill 0 5 33 dX5_takeItem_30 lk_RX5_106 ⟨_, rfl, rfl⟩ sh_122 rfl (Nat.le_of_ble_eq_true rfl) ⟨rfl, rfl⟩ (Nat.le_of_ble_eq_true rfl) rfl hy ?_
        rintro r n I44 G44 J44 ⟨rfl, rfl, rfl, rfl, hy⟩
        show Ev (d + 1) mX5_takeItem 136 33 [some (.ref 122)] [] 136 I44 G J Φ
        refine E_goto 241 dX5_takeItem_33 rfl ?_
        exact E_rv dX5_takeItem_241 rfl ⟨rfl, rfl⟩ hy
    · replace hy := hy.2 h41
      refine E_iconst (1 : Int32) dX5_takeItem_18 rfl ?_
      refine E_goto 23 dX5_takeItem_19 rfl ?_
      refine E_cv (M := mX5_takeItem) (pc := 23) (As := [.int (1 : Int32)]) (st := []) mX5_want 1 5 33 dX5_takeItem_23 lk_RX5_92 ⟨_, rfl, rfl⟩ sh_122 rfl (Nat.le_of_ble_eq_true rfl) ⟨rfl, rfl⟩ (Nat.le_of_ble_eq_true rfl) rfl hy ?_
      rintro r n I45 G45 J45 ⟨v45, rfl, rfl, rfl, rfl, hy⟩
      show Ev (d + 1) mX5_takeItem 136 26 [some (.ref 122)] [.int v45] 136 I45 G J Φ
      refine E_if_eq 241 dX5_takeItem_26 rfl (fun h46 => ?_) (fun h46 => ?_)
      · replace hy := hy.1 h46
        exact E_rv dX5_takeItem_241 rfl ⟨rfl, rfl⟩ hy
      · replace hy := hy.2 h46
        refine E_aload_n 0 dX5_takeItem_29 rfl rfl ?_
        refine E_cv (M := mX5_takeItem) (pc := 30) (As := []) (st := []) mX5_takeHill 0 5 33 dX5_takeItem_30 lk_RX5_106 ⟨_, rfl, rfl⟩ sh_122 rfl (Nat.le_of_ble_eq_true rfl) ⟨rfl, rfl⟩ (Nat.le_of_ble_eq_true rfl) rfl hy ?_
        rintro r n I47 G47 J47 ⟨rfl, rfl, rfl, rfl, hy⟩
        show Ev (d + 1) mX5_takeItem 136 33 [some (.ref 122)] [] 136 I47 G J Φ
        refine E_goto 241 dX5_takeItem_33 rfl ?_
        exact E_rv dX5_takeItem_241 rfl ⟨rfl, rfl⟩ hy
set_option maxRecDepth 100000 in
theorem w_X5_takeJoin {d : Nat} {I : MI} {G : MG} {J : MJ} {Φ : Ph} (hG : WG G)  (hy : Ev d mX5_takeNumber 136 0 [some (.ref 122), some (.int (0 : Int32)), some (.int ((I 122 15) - (1 : Int32)))] [] 136 I G J (fun r n I1 G1 J1 => ∃ v1 : Int32, r = some (.int v1) ∧ n = 136 ∧ G = G1 ∧ J = J1 ∧ (vp_in ((4 : Int32) + (I 122 16)) 8 ∧ (Ev d mX5_takeNumber 136 0 [some (.ref 122), some (.int (0 : Int32)), some (.int ((I1 122 15) - (1 : Int32)))] [] 136 (u2 I1 129 ((4 : Int32) + (I 122 16)).toNatClampNeg v1) G J (fun r n I3 G3 J3 => ∃ v3 : Int32, r = some (.int v3) ∧ n = 136 ∧ G = G3 ∧ J = J3 ∧ (vp_in ((4 : Int32) + (I 122 16)) 8 ∧ ((0 ≤ (I3 122 27) → Ev d mX5_want 136 0 [some (.ref 122), some (.int (1 : Int32))] [] 136 (u2 I3 130 ((4 : Int32) + (I 122 16)).toNatClampNeg v3) G J (fun r n I6 G6 J6 => ∃ v6 : Int32, r = some (.int v6) ∧ n = 136 ∧ G = G6 ∧ J = J6 ∧ (Ev d mX5_takeNumber 136 0 [some (.ref 122), some (.int (1 : Int32)), some (.int (9 : Int32))] [] 136 I6 G J (fun r n I7 G7 J7 => ∃ v7 : Int32, r = some (.int v7) ∧ n = 136 ∧ G = G7 ∧ J = J7 ∧ (vp_in ((4 : Int32) + (I 122 16)) 8 ∧ (Φ none 136 (u2 (u2 I7 131 ((4 : Int32) + (I 122 16)).toNatClampNeg v7) 122 16 ((I7 122 16) + (1 : Int32))) G J)))))) ∧ (¬ 0 ≤ (I3 122 27) → vp_in ((4 : Int32) + (I 122 16)) 8 ∧ (vp_in ((4 : Int32) + (I 122 16)) 8 ∧ (((I3 129 ((4 : Int32) + (I 122 16)).toNatClampNeg) = v3 → Ev d mX5_want 136 0 [some (.ref 122), some (.int (0 : Int32))] [] 136 (u2 I3 130 ((4 : Int32) + (I 122 16)).toNatClampNeg v3) G J (fun r n I12 G12 J12 => ∃ v12 : Int32, r = some (.int v12) ∧ n = 136 ∧ G = G12 ∧ J = J12 ∧ (Ev d mX5_takeNumber 136 0 [some (.ref 122), some (.int (1 : Int32)), some (.int (9 : Int32))] [] 136 I12 G J (fun r n I13 G13 J13 => ∃ v13 : Int32, r = some (.int v13) ∧ n = 136 ∧ G = G13 ∧ J = J13 ∧ (vp_in ((4 : Int32) + (I 122 16)) 8 ∧ (Φ none 136 (u2 (u2 I13 131 ((4 : Int32) + (I 122 16)).toNatClampNeg v13) 122 16 ((I13 122 16) + (1 : Int32))) G J)))))) ∧ (¬ (I3 129 ((4 : Int32) + (I 122 16)).toNatClampNeg) = v3 → Ev d mX5_want 136 0 [some (.ref 122), some (.int (1 : Int32))] [] 136 (u2 I3 130 ((4 : Int32) + (I 122 16)).toNatClampNeg v3) G J (fun r n I15 G15 J15 => ∃ v15 : Int32, r = some (.int v15) ∧ n = 136 ∧ G = G15 ∧ J = J15 ∧ (Ev d mX5_takeNumber 136 0 [some (.ref 122), some (.int (1 : Int32)), some (.int (9 : Int32))] [] 136 I15 G J (fun r n I16 G16 J16 => ∃ v16 : Int32, r = some (.int v16) ∧ n = 136 ∧ G = G16 ∧ J = J16 ∧ (vp_in ((4 : Int32) + (I 122 16)) 8 ∧ (Φ none 136 (u2 (u2 I16 131 ((4 : Int32) + (I 122 16)).toNatClampNeg v16) 122 16 ((I16 122 16) + (1 : Int32))) G J)))))))))))))))) : Ev (d + 1) mX5_takeJoin 136 0 [some (.ref 122), none, none] [] 136 I G J Φ := by
  refine E_iconst (4 : Int32) dX5_takeJoin_0 rfl ?_
  refine E_aload_n 0 dX5_takeJoin_1 rfl rfl ?_
  refine E_geti 5 16 122 33 dX5_takeJoin_2 fl_RX5_103 rfl sh_122 ?_
  refine E_iadd dX5_takeJoin_5 ?_
  refine E_istore_n 1 dX5_takeJoin_6 rfl (Nat.le_of_ble_eq_true rfl) (?_ : Ev (d + 1) mX5_takeJoin 136 7 [some (.ref 122), some (.int ((4 : Int32) + (I 122 16))), none] [] 136 I G J Φ)
  refine E_aload_n 0 dX5_takeJoin_7 rfl rfl ?_
  refine E_getr 5 6 122 33 129 dX5_takeJoin_8 fl_RX5_29 rfl sh_122 (wg_122_6 hG) ?_
  refine E_iload_n 1 dX5_takeJoin_11 rfl rfl ?_
  refine E_aload_n 0 dX5_takeJoin_12 rfl rfl ?_
  refine E_iconst (0 : Int32) dX5_takeJoin_13 rfl ?_
  refine E_aload_n 0 dX5_takeJoin_14 rfl rfl ?_
  refine E_geti 5 15 122 33 dX5_takeJoin_15 fl_RX5_96 rfl sh_122 ?_
  refine E_iconst (1 : Int32) dX5_takeJoin_18 rfl ?_
  refine E_isub dX5_takeJoin_19 ?_
  refine E_cv (M := mX5_takeJoin) (pc := 20) (As := [.int (0 : Int32), .int ((I 122 15) - (1 : Int32))]) (st := [.int ((4 : Int32) + (I 122 16)), .ref 129]) mX5_takeNumber 2 5 33 dX5_takeJoin_20 lk_RX5_99 ⟨_, rfl, rfl⟩ sh_122 rfl (Nat.le_of_ble_eq_true rfl) ⟨rfl, rfl⟩ (Nat.le_of_ble_eq_true rfl) rfl hy ?_
  rintro r n I1 G1 J1 ⟨v1, rfl, rfl, rfl, rfl, hy⟩
  show Ev (d + 1) mX5_takeJoin 136 23 [some (.ref 122), some (.int ((4 : Int32) + (I 122 16))), none] [.int v1, .int ((4 : Int32) + (I 122 16)), .ref 129] 136 I1 G J Φ
  have c2 := hy.1
  replace hy := hy.2
  refine E_is 129 8 ((4 : Int32) + (I 122 16)).toNatClampNeg dX5_takeJoin_23 sh_129 c2 rfl ?_
  refine E_aload_n 0 dX5_takeJoin_24 rfl rfl ?_
  refine E_getr 5 7 122 33 130 dX5_takeJoin_25 fl_RX5_32 rfl sh_122 (wg_122_7 hG) ?_
  refine E_iload_n 1 dX5_takeJoin_28 rfl rfl ?_
  refine E_aload_n 0 dX5_takeJoin_29 rfl rfl ?_
  refine E_iconst (0 : Int32) dX5_takeJoin_30 rfl ?_
  refine E_aload_n 0 dX5_takeJoin_31 rfl rfl ?_
  refine E_getw 5 15 122 33 (I1 122 15) dX5_takeJoin_32 fl_RX5_96 rfl sh_122 rfl ?_
  refine E_iconst (1 : Int32) dX5_takeJoin_35 rfl ?_
  refine E_isub dX5_takeJoin_36 ?_
  refine E_cv (M := mX5_takeJoin) (pc := 37) (As := [.int (0 : Int32), .int ((I1 122 15) - (1 : Int32))]) (st := [.int ((4 : Int32) + (I 122 16)), .ref 130]) mX5_takeNumber 2 5 33 dX5_takeJoin_37 lk_RX5_99 ⟨_, rfl, rfl⟩ sh_122 rfl (Nat.le_of_ble_eq_true rfl) ⟨rfl, rfl⟩ (Nat.le_of_ble_eq_true rfl) rfl hy ?_
  rintro r n I3 G3 J3 ⟨v3, rfl, rfl, rfl, rfl, hy⟩
  show Ev (d + 1) mX5_takeJoin 136 40 [some (.ref 122), some (.int ((4 : Int32) + (I 122 16))), none] [.int v3, .int ((4 : Int32) + (I 122 16)), .ref 130] 136 I3 G J Φ
  have c4 := hy.1
  replace hy := hy.2
  refine E_is 130 8 ((4 : Int32) + (I 122 16)).toNatClampNeg dX5_takeJoin_40 sh_130 c4 rfl ?_
  refine E_aload_n 0 dX5_takeJoin_41 rfl rfl ?_
  refine E_aload_n 0 dX5_takeJoin_42 rfl rfl ?_
  refine E_getw 5 27 122 33 (I3 122 27) dX5_takeJoin_43 fl_RX5_86 rfl sh_122 rfl ?_
  refine E_if_ge 64 dX5_takeJoin_46 rfl (fun h5 => ?_) (fun h5 => ?_)
  · replace hy := hy.1 h5
    refine E_iconst (1 : Int32) dX5_takeJoin_64 rfl ?_
    refine E_goto 69 dX5_takeJoin_65 rfl ?_
    refine E_cv (M := mX5_takeJoin) (pc := 69) (As := [.int (1 : Int32)]) (st := []) mX5_want 1 5 33 dX5_takeJoin_69 lk_RX5_92 ⟨_, rfl, rfl⟩ sh_122 rfl (Nat.le_of_ble_eq_true rfl) ⟨rfl, rfl⟩ (Nat.le_of_ble_eq_true rfl) rfl hy ?_
    rintro r n I6 G6 J6 ⟨v6, rfl, rfl, rfl, rfl, hy⟩
    show Ev (d + 1) mX5_takeJoin 136 72 [some (.ref 122), some (.int ((4 : Int32) + (I 122 16))), none] [.int v6] 136 I6 G J Φ
    refine E_istore_n 2 dX5_takeJoin_72 rfl (Nat.le_of_ble_eq_true rfl) (?_ : Ev (d + 1) mX5_takeJoin 136 73 [some (.ref 122), some (.int ((4 : Int32) + (I 122 16))), some (.int v6)] [] 136 I6 G J Φ)
    refine E_aload_n 0 dX5_takeJoin_73 rfl rfl ?_
    refine E_getr 5 8 122 33 131 dX5_takeJoin_74 fl_RX5_35 rfl sh_122 (wg_122_8 hG) ?_
    refine E_iload_n 1 dX5_takeJoin_77 rfl rfl ?_
    refine E_aload_n 0 dX5_takeJoin_78 rfl rfl ?_
    refine E_iconst (1 : Int32) dX5_takeJoin_79 rfl ?_
    refine E_bipush (9 : Int32) dX5_takeJoin_80 rfl ?_
    refine E_cv (M := mX5_takeJoin) (pc := 82) (As := [.int (1 : Int32), .int (9 : Int32)]) (st := [.int ((4 : Int32) + (I 122 16)), .ref 131]) mX5_takeNumber 2 5 33 dX5_takeJoin_82 lk_RX5_99 ⟨_, rfl, rfl⟩ sh_122 rfl (Nat.le_of_ble_eq_true rfl) ⟨rfl, rfl⟩ (Nat.le_of_ble_eq_true rfl) rfl hy ?_
    rintro r n I7 G7 J7 ⟨v7, rfl, rfl, rfl, rfl, hy⟩
    show Ev (d + 1) mX5_takeJoin 136 85 [some (.ref 122), some (.int ((4 : Int32) + (I 122 16))), some (.int v6)] [.int v7, .int ((4 : Int32) + (I 122 16)), .ref 131] 136 I7 G J Φ
    have c8 := hy.1
    replace hy := hy.2
    refine E_is 131 8 ((4 : Int32) + (I 122 16)).toNatClampNeg dX5_takeJoin_85 sh_131 c8 rfl ?_
    refine E_aload_n 0 dX5_takeJoin_86 rfl rfl ?_
    refine E_dup dX5_takeJoin_87 rfl ?_
    refine E_getw 5 16 122 33 (I7 122 16) dX5_takeJoin_88 fl_RX5_103 rfl sh_122 rfl ?_
    refine E_iconst (1 : Int32) dX5_takeJoin_91 rfl ?_
    refine E_iadd dX5_takeJoin_92 ?_
    refine E_puti 5 16 122 33 dX5_takeJoin_93 fl_RX5_103 rfl sh_122 ⟨_, rfl, rfl⟩ rfl rfl ?_
    exact E_rv dX5_takeJoin_96 rfl ⟨rfl, rfl⟩ hy
  · replace hy := hy.2 h5
    refine E_aload_n 0 dX5_takeJoin_49 rfl rfl ?_
    refine E_getr 5 6 122 33 129 dX5_takeJoin_50 fl_RX5_29 rfl sh_122 (wg_122_6 hG) ?_
    refine E_iload_n 1 dX5_takeJoin_53 rfl rfl ?_
    have c9 := hy.1
    replace hy := hy.2
    refine E_awi 129 8 ((4 : Int32) + (I 122 16)).toNatClampNeg (I3 129 ((4 : Int32) + (I 122 16)).toNatClampNeg) dX5_takeJoin_54 sh_129 c9 rfl rfl ?_
    refine E_aload_n 0 dX5_takeJoin_55 rfl rfl ?_
    refine E_getr 5 7 122 33 130 dX5_takeJoin_56 fl_RX5_32 rfl sh_122 (wg_122_7 hG) ?_
    refine E_iload_n 1 dX5_takeJoin_59 rfl rfl ?_
    have c10 := hy.1
    replace hy := hy.2
    refine E_awi 130 8 ((4 : Int32) + (I 122 16)).toNatClampNeg v3 dX5_takeJoin_60 sh_130 c10 rfl (by simp [u2]) ?_
    refine E_icmp_eq 68 dX5_takeJoin_61 rfl (fun h11 => ?_) (fun h11 => ?_)
    · replace hy := hy.1 h11
      refine E_iconst (0 : Int32) dX5_takeJoin_68 rfl ?_
      refine E_cv (M := mX5_takeJoin) (pc := 69) (As := [.int (0 : Int32)]) (st := []) mX5_want 1 5 33 dX5_takeJoin_69 lk_RX5_92 ⟨_, rfl, rfl⟩ sh_122 rfl (Nat.le_of_ble_eq_true rfl) ⟨rfl, rfl⟩ (Nat.le_of_ble_eq_true rfl) rfl hy ?_
      rintro r n I12 G12 J12 ⟨v12, rfl, rfl, rfl, rfl, hy⟩
      show Ev (d + 1) mX5_takeJoin 136 72 [some (.ref 122), some (.int ((4 : Int32) + (I 122 16))), none] [.int v12] 136 I12 G J Φ
      refine E_istore_n 2 dX5_takeJoin_72 rfl (Nat.le_of_ble_eq_true rfl) (?_ : Ev (d + 1) mX5_takeJoin 136 73 [some (.ref 122), some (.int ((4 : Int32) + (I 122 16))), some (.int v12)] [] 136 I12 G J Φ)
      refine E_aload_n 0 dX5_takeJoin_73 rfl rfl ?_
      refine E_getr 5 8 122 33 131 dX5_takeJoin_74 fl_RX5_35 rfl sh_122 (wg_122_8 hG) ?_
      refine E_iload_n 1 dX5_takeJoin_77 rfl rfl ?_
      refine E_aload_n 0 dX5_takeJoin_78 rfl rfl ?_
      refine E_iconst (1 : Int32) dX5_takeJoin_79 rfl ?_
      refine E_bipush (9 : Int32) dX5_takeJoin_80 rfl ?_
      refine E_cv (M := mX5_takeJoin) (pc := 82) (As := [.int (1 : Int32), .int (9 : Int32)]) (st := [.int ((4 : Int32) + (I 122 16)), .ref 131]) mX5_takeNumber 2 5 33 dX5_takeJoin_82 lk_RX5_99 ⟨_, rfl, rfl⟩ sh_122 rfl (Nat.le_of_ble_eq_true rfl) ⟨rfl, rfl⟩ (Nat.le_of_ble_eq_true rfl) rfl hy ?_
      rintro r n I13 G13 J13 ⟨v13, rfl, rfl, rfl, rfl, hy⟩
      show Ev (d + 1) mX5_takeJoin 136 85 [some (.ref 122), some (.int ((4 : Int32) + (I 122 16))), some (.int v12)] [.int v13, .int ((4 : Int32) + (I 122 16)), .ref 131] 136 I13 G J Φ
      have c14 := hy.1
      replace hy := hy.2
      refine E_is 131 8 ((4 : Int32) + (I 122 16)).toNatClampNeg dX5_takeJoin_85 sh_131 c14 rfl ?_
      refine E_aload_n 0 dX5_takeJoin_86 rfl rfl ?_
      refine E_dup dX5_takeJoin_87 rfl ?_
      refine E_getw 5 16 122 33 (I13 122 16) dX5_takeJoin_88 fl_RX5_103 rfl sh_122 rfl ?_
      refine E_iconst (1 : Int32) dX5_takeJoin_91 rfl ?_
      refine E_iadd dX5_takeJoin_92 ?_
      refine E_puti 5 16 122 33 dX5_takeJoin_93 fl_RX5_103 rfl sh_122 ⟨_, rfl, rfl⟩ rfl rfl ?_
      exact E_rv dX5_takeJoin_96 rfl ⟨rfl, rfl⟩ hy
    · replace hy := hy.2 h11
      refine E_iconst (1 : Int32) dX5_takeJoin_64 rfl ?_
      refine E_goto 69 dX5_takeJoin_65 rfl ?_
      refine E_cv (M := mX5_takeJoin) (pc := 69) (As := [.int (1 : Int32)]) (st := []) mX5_want 1 5 33 dX5_takeJoin_69 lk_RX5_92 ⟨_, rfl, rfl⟩ sh_122 rfl (Nat.le_of_ble_eq_true rfl) ⟨rfl, rfl⟩ (Nat.le_of_ble_eq_true rfl) rfl hy ?_
      rintro r n I15 G15 J15 ⟨v15, rfl, rfl, rfl, rfl, hy⟩
      show Ev (d + 1) mX5_takeJoin 136 72 [some (.ref 122), some (.int ((4 : Int32) + (I 122 16))), none] [.int v15] 136 I15 G J Φ
      refine E_istore_n 2 dX5_takeJoin_72 rfl (Nat.le_of_ble_eq_true rfl) (?_ : Ev (d + 1) mX5_takeJoin 136 73 [some (.ref 122), some (.int ((4 : Int32) + (I 122 16))), some (.int v15)] [] 136 I15 G J Φ)
      refine E_aload_n 0 dX5_takeJoin_73 rfl rfl ?_
      refine E_getr 5 8 122 33 131 dX5_takeJoin_74 fl_RX5_35 rfl sh_122 (wg_122_8 hG) ?_
      refine E_iload_n 1 dX5_takeJoin_77 rfl rfl ?_
      refine E_aload_n 0 dX5_takeJoin_78 rfl rfl ?_
      refine E_iconst (1 : Int32) dX5_takeJoin_79 rfl ?_
      refine E_bipush (9 : Int32) dX5_takeJoin_80 rfl ?_
      refine E_cv (M := mX5_takeJoin) (pc := 82) (As := [.int (1 : Int32), .int (9 : Int32)]) (st := [.int ((4 : Int32) + (I 122 16)), .ref 131]) mX5_takeNumber 2 5 33 dX5_takeJoin_82 lk_RX5_99 ⟨_, rfl, rfl⟩ sh_122 rfl (Nat.le_of_ble_eq_true rfl) ⟨rfl, rfl⟩ (Nat.le_of_ble_eq_true rfl) rfl hy ?_
      rintro r n I16 G16 J16 ⟨v16, rfl, rfl, rfl, rfl, hy⟩
      show Ev (d + 1) mX5_takeJoin 136 85 [some (.ref 122), some (.int ((4 : Int32) + (I 122 16))), some (.int v15)] [.int v16, .int ((4 : Int32) + (I 122 16)), .ref 131] 136 I16 G J Φ
      have c17 := hy.1
      replace hy := hy.2
      refine E_is 131 8 ((4 : Int32) + (I 122 16)).toNatClampNeg dX5_takeJoin_85 sh_131 c17 rfl ?_
      refine E_aload_n 0 dX5_takeJoin_86 rfl rfl ?_
      refine E_dup dX5_takeJoin_87 rfl ?_
      refine E_getw 5 16 122 33 (I16 122 16) dX5_takeJoin_88 fl_RX5_103 rfl sh_122 rfl ?_
      refine E_iconst (1 : Int32) dX5_takeJoin_91 rfl ?_
      refine E_iadd dX5_takeJoin_92 ?_
      refine E_puti 5 16 122 33 dX5_takeJoin_93 fl_RX5_103 rfl sh_122 ⟨_, rfl, rfl⟩ rfl rfl ?_
      exact E_rv dX5_takeJoin_96 rfl ⟨rfl, rfl⟩ hy
set_option maxRecDepth 100000 in
theorem w_X5_takeNumber {d : Nat} {I : MI} {G : MG} {J : MJ} {Φ : Ph} (hG : WG G) (x1 : Int32) (x2 : Int32) (hy : ((I 122 27) < 0 → Ev d mX5_next 136 0 [some (.ref 122), none, none] [] 136 I G J (fun r n I2 G2 J2 => r = none ∧ n = 136 ∧ G = G2 ∧ J = J2 ∧ ((¬ (I2 122 25) = 0 → Ev d mX5_want 136 0 [some (.ref 122), some (.int (0 : Int32))] [] 136 I2 G J (fun r n I4 G4 J4 => ∃ v4 : Int32, r = some (.int v4) ∧ n = 136 ∧ G = G4 ∧ J = J4 ∧ ((v4 = 0 → Φ (some (.int (0 : Int32))) 136 I4 G J) ∧ (¬ v4 = 0 → Φ (some (.int (I4 122 26))) 136 I4 G J)))) ∧ ((I2 122 25) = 0 → Ev d mX5_in 136 0 [some (.long ((I2 122 26).toInt64)), none, some (.long (x1.toInt64)), none, some (.long (x2.toInt64)), none] [] 136 I2 G J (fun r n I6 G6 J6 => ∃ v6 : Int32, r = some (.int v6) ∧ n = 136 ∧ I2 = I6 ∧ G = G6 ∧ J = J6 ∧ ((v6 = 0 → Ev d mX5_want 136 0 [some (.ref 122), some (.int (0 : Int32))] [] 136 I2 G J (fun r n I8 G8 J8 => ∃ v8 : Int32, r = some (.int v8) ∧ n = 136 ∧ G = G8 ∧ J = J8 ∧ ((v8 = 0 → Φ (some (.int (0 : Int32))) 136 I8 G J) ∧ (¬ v8 = 0 → Φ (some (.int (I8 122 26))) 136 I8 G J)))) ∧ (¬ v6 = 0 → Ev d mX5_want 136 0 [some (.ref 122), some (.int (1 : Int32))] [] 136 I2 G J (fun r n I10 G10 J10 => ∃ v10 : Int32, r = some (.int v10) ∧ n = 136 ∧ G = G10 ∧ J = J10 ∧ ((v10 = 0 → Φ (some (.int (0 : Int32))) 136 I10 G J) ∧ (¬ v10 = 0 → Φ (some (.int (I10 122 26))) 136 I10 G J)))))))))) ∧ (¬ (I 122 27) < 0 → Φ (some (.int (0 : Int32))) 136 I G J)) : Ev (d + 1) mX5_takeNumber 136 0 [some (.ref 122), some (.int x1), some (.int x2)] [] 136 I G J Φ := by
  refine E_aload_n 0 dX5_takeNumber_0 rfl rfl ?_
  refine E_geti 5 27 122 33 dX5_takeNumber_1 fl_RX5_86 rfl sh_122 ?_
  refine E_if_lt 9 dX5_takeNumber_4 rfl (fun h1 => ?_) (fun h1 => ?_)
  · replace hy := hy.1 h1
    refine E_aload_n 0 dX5_takeNumber_9 rfl rfl ?_
    refine E_cv (M := mX5_takeNumber) (pc := 10) (As := []) (st := []) mX5_next 0 5 33 dX5_takeNumber_10 lk_RX5_89 ⟨_, rfl, rfl⟩ sh_122 rfl (Nat.le_of_ble_eq_true rfl) ⟨rfl, rfl⟩ (Nat.le_of_ble_eq_true rfl) rfl hy ?_
    rintro r n I2 G2 J2 ⟨rfl, rfl, rfl, rfl, hy⟩
    show Ev (d + 1) mX5_takeNumber 136 13 [some (.ref 122), some (.int x1), some (.int x2)] [] 136 I2 G J Φ
    refine E_aload_n 0 dX5_takeNumber_13 rfl rfl ?_
    refine E_aload_n 0 dX5_takeNumber_14 rfl rfl ?_
    refine E_geti 5 25 122 33 dX5_takeNumber_15 fl_RX5_76 rfl sh_122 ?_
    refine E_if_ne 40 dX5_takeNumber_18 rfl (fun h3 => ?_) (fun h3 => ?_)
    · replace hy := hy.1 h3
      refine E_iconst (0 : Int32) dX5_takeNumber_40 rfl ?_
      refine E_cv (M := mX5_takeNumber) (pc := 41) (As := [.int (0 : Int32)]) (st := []) mX5_want 1 5 33 dX5_takeNumber_41 lk_RX5_92 ⟨_, rfl, rfl⟩ sh_122 rfl (Nat.le_of_ble_eq_true rfl) ⟨rfl, rfl⟩ (Nat.le_of_ble_eq_true rfl) rfl hy ?_
      rintro r n I4 G4 J4 ⟨v4, rfl, rfl, rfl, rfl, hy⟩
      show Ev (d + 1) mX5_takeNumber 136 44 [some (.ref 122), some (.int x1), some (.int x2)] [.int v4] 136 I4 G J Φ
      refine E_if_eq 54 dX5_takeNumber_44 rfl (fun h5 => ?_) (fun h5 => ?_)
      · replace hy := hy.1 h5
        refine E_iconst (0 : Int32) dX5_takeNumber_54 rfl ?_
        exact E_ri dX5_takeNumber_55 rfl ⟨rfl, rfl⟩ hy
      · replace hy := hy.2 h5
        refine E_aload_n 0 dX5_takeNumber_47 rfl rfl ?_
        refine E_geti 5 26 122 33 dX5_takeNumber_48 fl_RX5_83 rfl sh_122 ?_
        refine E_goto 55 dX5_takeNumber_51 rfl ?_
        exact E_ri dX5_takeNumber_55 rfl ⟨rfl, rfl⟩ hy
    · replace hy := hy.2 (Decidable.not_not.mp h3)
      refine E_aload_n 0 dX5_takeNumber_21 rfl rfl ?_
      refine E_geti 5 26 122 33 dX5_takeNumber_22 fl_RX5_83 rfl sh_122 ?_
      refine E_i2l dX5_takeNumber_25 ?_
      refine E_iload_n 1 dX5_takeNumber_26 rfl rfl ?_
      refine E_i2l dX5_takeNumber_27 ?_
      refine E_iload_n 2 dX5_takeNumber_28 rfl rfl ?_
      refine E_i2l dX5_takeNumber_29 ?_
      refine E_cs (M := mX5_takeNumber) (pc := 30) (As := [.long ((I2 122 26).toInt64), .long (x1.toInt64), .long (x2.toInt64)]) (st := [.ref 122]) mX5_in 3 dX5_takeNumber_30 lk_RX5_59 rfl (Nat.le_of_ble_eq_true rfl) ⟨rfl, rfl⟩ (Nat.le_of_ble_eq_true rfl) rfl hy ?_
      rintro r n I6 G6 J6 ⟨v6, rfl, rfl, rfl, rfl, rfl, hy⟩
      show Ev (d + 1) mX5_takeNumber 136 33 [some (.ref 122), some (.int x1), some (.int x2)] [.int v6, .ref 122] 136 I2 G J Φ
      refine E_if_eq 40 dX5_takeNumber_33 rfl (fun h7 => ?_) (fun h7 => ?_)
      · replace hy := hy.1 h7
        refine E_iconst (0 : Int32) dX5_takeNumber_40 rfl ?_
        refine E_cv (M := mX5_takeNumber) (pc := 41) (As := [.int (0 : Int32)]) (st := []) mX5_want 1 5 33 dX5_takeNumber_41 lk_RX5_92 ⟨_, rfl, rfl⟩ sh_122 rfl (Nat.le_of_ble_eq_true rfl) ⟨rfl, rfl⟩ (Nat.le_of_ble_eq_true rfl) rfl hy ?_
        rintro r n I8 G8 J8 ⟨v8, rfl, rfl, rfl, rfl, hy⟩
        show Ev (d + 1) mX5_takeNumber 136 44 [some (.ref 122), some (.int x1), some (.int x2)] [.int v8] 136 I8 G J Φ
        refine E_if_eq 54 dX5_takeNumber_44 rfl (fun h9 => ?_) (fun h9 => ?_)
        · replace hy := hy.1 h9
          refine E_iconst (0 : Int32) dX5_takeNumber_54 rfl ?_
          exact E_ri dX5_takeNumber_55 rfl ⟨rfl, rfl⟩ hy
        · replace hy := hy.2 h9
          refine E_aload_n 0 dX5_takeNumber_47 rfl rfl ?_
          refine E_geti 5 26 122 33 dX5_takeNumber_48 fl_RX5_83 rfl sh_122 ?_
          refine E_goto 55 dX5_takeNumber_51 rfl ?_
          exact E_ri dX5_takeNumber_55 rfl ⟨rfl, rfl⟩ hy
      · replace hy := hy.2 h7
        refine E_iconst (1 : Int32) dX5_takeNumber_36 rfl ?_
        refine E_goto 41 dX5_takeNumber_37 rfl ?_
        refine E_cv (M := mX5_takeNumber) (pc := 41) (As := [.int (1 : Int32)]) (st := []) mX5_want 1 5 33 dX5_takeNumber_41 lk_RX5_92 ⟨_, rfl, rfl⟩ sh_122 rfl (Nat.le_of_ble_eq_true rfl) ⟨rfl, rfl⟩ (Nat.le_of_ble_eq_true rfl) rfl hy ?_
        rintro r n I10 G10 J10 ⟨v10, rfl, rfl, rfl, rfl, hy⟩
        show Ev (d + 1) mX5_takeNumber 136 44 [some (.ref 122), some (.int x1), some (.int x2)] [.int v10] 136 I10 G J Φ
        refine E_if_eq 54 dX5_takeNumber_44 rfl (fun h11 => ?_) (fun h11 => ?_)
        · replace hy := hy.1 h11
          refine E_iconst (0 : Int32) dX5_takeNumber_54 rfl ?_
          exact E_ri dX5_takeNumber_55 rfl ⟨rfl, rfl⟩ hy
        · replace hy := hy.2 h11
          refine E_aload_n 0 dX5_takeNumber_47 rfl rfl ?_
          refine E_geti 5 26 122 33 dX5_takeNumber_48 fl_RX5_83 rfl sh_122 ?_
          refine E_goto 55 dX5_takeNumber_51 rfl ?_
          exact E_ri dX5_takeNumber_55 rfl ⟨rfl, rfl⟩ hy
  · replace hy := hy.2 h1
    refine E_iconst (0 : Int32) dX5_takeNumber_7 rfl ?_
    exact E_ri dX5_takeNumber_8 rfl ⟨rfl, rfl⟩ hy
set_option maxRecDepth 100000 in
theorem w_X5_tire {d : Nat} {I : MI} {G : MG} {J : MJ} {Φ : Ph} (hG : WG G) (x1 : Int32) (x2 : Int32) (hy : Ev (d + 1) mX5_tire 136 2 [some (.ref 122), some (.int x1), some (.int x2), some (.int (0 : Int32)), none, none] [] 136 I G J Φ) : Ev (d + 1) mX5_tire 136 0 [some (.ref 122), some (.int x1), some (.int x2), none, none, none] [] 136 I G J Φ := by
  refine E_iconst (0 : Int32) dX5_tire_0 rfl ?_
  refine E_istore_n 3 dX5_tire_1 rfl (Nat.le_of_ble_eq_true rfl) (?_ : Ev (d + 1) mX5_tire 136 2 [some (.ref 122), some (.int x1), some (.int x2), some (.int (0 : Int32)), none, none] [] 136 I G J Φ)
  exact hy
set_option maxRecDepth 100000 in
theorem w_X5_tire_2 {d : Nat} {I : MI} {G : MG} {J : MJ} {Φ : Ph} (hG : WG G)  (x1 : Int32) (x2 : Int32) (x3 : Int32) (hy : ((I 122 12) ≤ x3 → Φ none 136 I G J) ∧ (¬ (I 122 12) ≤ x3 → vp_in ((x1 + (11 : Int32)) + x3) 1400 ∧ (vp_in ((x1 + (8 : Int32)) + x3) 1400 ∧ (((I 123 ((x1 + (11 : Int32)) + x3).toNatClampNeg) = (-9 : Int32) → Ev (d + 1) mX5_tire 136 56 [some (.ref 122), some (.int x1), some (.int x2), some (.int x3), some (.int (I 123 ((x1 + (11 : Int32)) + x3).toNatClampNeg)), none] [.int ((I 123 ((x1 + (8 : Int32)) + x3).toNatClampNeg) + (1 : Int32))] 136 I G J Φ) ∧ (¬ (I 123 ((x1 + (11 : Int32)) + x3).toNatClampNeg) = (-9 : Int32) → Ev d mX5_has 136 0 [some (.int x2), some (.int (I 123 ((x1 + (11 : Int32)) + x3).toNatClampNeg))] [] 136 I G J (fun r n I5 G5 J5 => ∃ v5 : Int32, r = some (.int v5) ∧ n = 136 ∧ I = I5 ∧ G = G5 ∧ J = J5 ∧ ((¬ v5 = 0 → Ev (d + 1) mX5_tire 136 56 [some (.ref 122), some (.int x1), some (.int x2), some (.int x3), some (.int (I 123 ((x1 + (11 : Int32)) + x3).toNatClampNeg)), none] [.int ((I 123 ((x1 + (8 : Int32)) + x3).toNatClampNeg) + (1 : Int32))] 136 I G J Φ) ∧ (v5 = 0 → Ev (d + 1) mX5_tire 136 56 [some (.ref 122), some (.int x1), some (.int x2), some (.int x3), some (.int (I 123 ((x1 + (11 : Int32)) + x3).toNatClampNeg)), none] [.int ((I 123 ((x1 + (8 : Int32)) + x3).toNatClampNeg) + (-1 : Int32))] 136 I G J Φ)))))))) : Ev (d + 1) mX5_tire 136 2 [some (.ref 122), some (.int x1), some (.int x2), some (.int x3), none, none] [] 136 I G J Φ := by
  refine E_iload_n 3 dX5_tire_2 rfl rfl ?_
  refine E_aload_n 0 dX5_tire_3 rfl rfl ?_
  refine E_geti 5 12 122 33 dX5_tire_4 fl_RX5_137 rfl sh_122 ?_
  refine E_icmp_ge 106 dX5_tire_7 rfl (fun h1 => ?_) (fun h1 => ?_)
  · replace hy := hy.1 h1
    exact E_rv dX5_tire_106 rfl ⟨rfl, rfl⟩ hy
  · replace hy := hy.2 h1
    refine E_aload_n 0 dX5_tire_10 rfl rfl ?_
    refine E_getr 5 0 122 33 123 dX5_tire_11 fl_RX5_7 rfl sh_122 (wg_122_0 hG) ?_
    refine E_iload_n 1 dX5_tire_14 rfl rfl ?_
    refine E_bipush (11 : Int32) dX5_tire_15 rfl ?_
    refine E_iadd dX5_tire_17 ?_
    refine E_iload_n 3 dX5_tire_18 rfl rfl ?_
    refine E_iadd dX5_tire_19 ?_
    have c2 := hy.1
    replace hy := hy.2
    refine E_ia 123 1400 ((x1 + (11 : Int32)) + x3).toNatClampNeg dX5_tire_20 sh_123 c2 rfl ?_
    refine E_istore dX5_tire_21 (Nat.le_of_ble_eq_true rfl) (?_ : Ev (d + 1) mX5_tire 136 23 [some (.ref 122), some (.int x1), some (.int x2), some (.int x3), some (.int (I 123 ((x1 + (11 : Int32)) + x3).toNatClampNeg)), none] [] 136 I G J Φ)
    refine E_aload_n 0 dX5_tire_23 rfl rfl ?_
    refine E_getr 5 0 122 33 123 dX5_tire_24 fl_RX5_7 rfl sh_122 (wg_122_0 hG) ?_
    refine E_iload_n 1 dX5_tire_27 rfl rfl ?_
    refine E_bipush (8 : Int32) dX5_tire_28 rfl ?_
    refine E_iadd dX5_tire_30 ?_
    refine E_iload_n 3 dX5_tire_31 rfl rfl ?_
    refine E_iadd dX5_tire_32 ?_
    have c3 := hy.1
    replace hy := hy.2
    refine E_ia 123 1400 ((x1 + (8 : Int32)) + x3).toNatClampNeg dX5_tire_33 sh_123 c3 rfl ?_
    refine E_iload dX5_tire_34 rfl ?_
    refine E_bipush (-9 : Int32) dX5_tire_36 rfl ?_
    refine E_icmp_eq 54 dX5_tire_38 rfl (fun h4 => ?_) (fun h4 => ?_)
    · replace hy := hy.1 h4
      refine E_iconst (1 : Int32) dX5_tire_54 rfl ?_
      refine E_iadd dX5_tire_55 ?_
      exact hy
    · replace hy := hy.2 h4
      refine E_iload_n 2 dX5_tire_41 rfl rfl ?_
      refine E_iload dX5_tire_42 rfl ?_
      refine E_cs (M := mX5_tire) (pc := 44) (As := [.int x2, .int (I 123 ((x1 + (11 : Int32)) + x3).toNatClampNeg)]) (st := [.int (I 123 ((x1 + (8 : Int32)) + x3).toNatClampNeg)]) mX5_has 2 dX5_tire_44 lk_RX5_118 rfl (Nat.le_of_ble_eq_true rfl) ⟨rfl, rfl⟩ (Nat.le_of_ble_eq_true rfl) rfl hy ?_
      rintro r n I5 G5 J5 ⟨v5, rfl, rfl, rfl, rfl, rfl, hy⟩
      show Ev (d + 1) mX5_tire 136 47 [some (.ref 122), some (.int x1), some (.int x2), some (.int x3), some (.int (I 123 ((x1 + (11 : Int32)) + x3).toNatClampNeg)), none] [.int v5, .int (I 123 ((x1 + (8 : Int32)) + x3).toNatClampNeg)] 136 I G J Φ
      refine E_if_ne 54 dX5_tire_47 rfl (fun h6 => ?_) (fun h6 => ?_)
      · replace hy := hy.1 h6
        refine E_iconst (1 : Int32) dX5_tire_54 rfl ?_
        refine E_iadd dX5_tire_55 ?_
        exact hy
      · replace hy := hy.2 (Decidable.not_not.mp h6)
        refine E_iconst (-1 : Int32) dX5_tire_50 rfl ?_
        refine E_goto 55 dX5_tire_51 rfl ?_
        refine E_iadd dX5_tire_55 ?_
        exact hy
set_option maxRecDepth 100000 in
theorem w_X5_tire_56 {d : Nat} {I : MI} {G : MG} {J : MJ} {Φ : Ph} (hG : WG G)  (x1 : Int32) (x2 : Int32) (x3 : Int32) (x4 : Int32) (s0 : Int32) (hy : (0 ≤ s0 → vp_in x3 6 ∧ ((s0 ≤ (I 132 (x3).toNatClampNeg) → vp_in ((x1 + (8 : Int32)) + x3) 1400 ∧ (Ev (d + 1) mX5_tire 136 2 [some (.ref 122), some (.int x1), some (.int x2), some (.int (x3 + (1 : Int32))), none, none] [] 136 (u2 I 123 ((x1 + (8 : Int32)) + x3).toNatClampNeg s0) G J Φ)) ∧ (¬ s0 ≤ (I 132 (x3).toNatClampNeg) → vp_in x3 6 ∧ (vp_in ((x1 + (8 : Int32)) + x3) 1400 ∧ (Ev (d + 1) mX5_tire 136 2 [some (.ref 122), some (.int x1), some (.int x2), some (.int (x3 + (1 : Int32))), none, none] [] 136 (u2 I 123 ((x1 + (8 : Int32)) + x3).toNatClampNeg (I 132 (x3).toNatClampNeg)) G J Φ))))) ∧ (¬ 0 ≤ s0 → vp_in ((x1 + (8 : Int32)) + x3) 1400 ∧ (Ev (d + 1) mX5_tire 136 2 [some (.ref 122), some (.int x1), some (.int x2), some (.int (x3 + (1 : Int32))), none, none] [] 136 (u2 I 123 ((x1 + (8 : Int32)) + x3).toNatClampNeg (0 : Int32)) G J Φ))) : Ev (d + 1) mX5_tire 136 56 [some (.ref 122), some (.int x1), some (.int x2), some (.int x3), some (.int x4), none] [.int s0] 136 I G J Φ := by
  refine E_istore dX5_tire_56 (Nat.le_of_ble_eq_true rfl) (?_ : Ev (d + 1) mX5_tire 136 58 [some (.ref 122), some (.int x1), some (.int x2), some (.int x3), some (.int x4), some (.int s0)] [] 136 I G J Φ)
  refine E_aload_n 0 dX5_tire_58 rfl rfl ?_
  refine E_getr 5 0 122 33 123 dX5_tire_59 fl_RX5_7 rfl sh_122 (wg_122_0 hG) ?_
  refine E_iload_n 1 dX5_tire_62 rfl rfl ?_
  refine E_bipush (8 : Int32) dX5_tire_63 rfl ?_
  refine E_iadd dX5_tire_65 ?_
  refine E_iload_n 3 dX5_tire_66 rfl rfl ?_
  refine E_iadd dX5_tire_67 ?_
  refine E_iload dX5_tire_68 rfl ?_
  refine E_if_ge 77 dX5_tire_70 rfl (fun h1 => ?_) (fun h1 => ?_)
  · replace hy := hy.1 h1
    refine E_iload dX5_tire_77 rfl ?_
    refine E_aload_n 0 dX5_tire_79 rfl rfl ?_
    refine E_getr 5 9 122 33 132 dX5_tire_80 fl_RX5_38 rfl sh_122 (wg_122_9 hG) ?_
    refine E_iload_n 3 dX5_tire_83 rfl rfl ?_
    have c2 := hy.1
    replace hy := hy.2
    refine E_ia 132 6 (x3).toNatClampNeg dX5_tire_84 sh_132 c2 rfl ?_
    refine E_icmp_le 97 dX5_tire_85 rfl (fun h3 => ?_) (fun h3 => ?_)
    · replace hy := hy.1 h3
      refine E_iload dX5_tire_97 rfl ?_
      have c4 := hy.1
      replace hy := hy.2
      refine E_is 123 1400 ((x1 + (8 : Int32)) + x3).toNatClampNeg dX5_tire_99 sh_123 c4 rfl ?_
      refine E_iinc (x3 + (1 : Int32)) dX5_tire_100 rfl rfl (Nat.le_of_ble_eq_true rfl) (?_ : Ev (d + 1) mX5_tire 136 103 [some (.ref 122), some (.int x1), some (.int x2), some (.int (x3 + (1 : Int32))), some (.int x4), some (.int s0)] [] 136 (u2 I 123 ((x1 + (8 : Int32)) + x3).toNatClampNeg s0) G J Φ)
      refine E_goto 2 dX5_tire_103 rfl ?_
      refine E_wk (ls2 := [some (.ref 122), some (.int x1), some (.int x2), some (.int (x3 + (1 : Int32))), none, none]) ⟨rfl, rfl, rfl, rfl, trivial⟩ ?_
      exact hy
    · replace hy := hy.2 h3
      refine E_aload_n 0 dX5_tire_88 rfl rfl ?_
      refine E_getr 5 9 122 33 132 dX5_tire_89 fl_RX5_38 rfl sh_122 (wg_122_9 hG) ?_
      refine E_iload_n 3 dX5_tire_92 rfl rfl ?_
      have c5 := hy.1
      replace hy := hy.2
      refine E_ia 132 6 (x3).toNatClampNeg dX5_tire_93 sh_132 c5 rfl ?_
      refine E_goto 99 dX5_tire_94 rfl ?_
      have c6 := hy.1
      replace hy := hy.2
      refine E_is 123 1400 ((x1 + (8 : Int32)) + x3).toNatClampNeg dX5_tire_99 sh_123 c6 rfl ?_
      refine E_iinc (x3 + (1 : Int32)) dX5_tire_100 rfl rfl (Nat.le_of_ble_eq_true rfl) (?_ : Ev (d + 1) mX5_tire 136 103 [some (.ref 122), some (.int x1), some (.int x2), some (.int (x3 + (1 : Int32))), some (.int x4), some (.int s0)] [] 136 (u2 I 123 ((x1 + (8 : Int32)) + x3).toNatClampNeg (I 132 (x3).toNatClampNeg)) G J Φ)
      refine E_goto 2 dX5_tire_103 rfl ?_
      refine E_wk (ls2 := [some (.ref 122), some (.int x1), some (.int x2), some (.int (x3 + (1 : Int32))), none, none]) ⟨rfl, rfl, rfl, rfl, trivial⟩ ?_
      exact hy
  · replace hy := hy.2 h1
    refine E_iconst (0 : Int32) dX5_tire_73 rfl ?_
    refine E_goto 99 dX5_tire_74 rfl ?_
    have c7 := hy.1
    replace hy := hy.2
    refine E_is 123 1400 ((x1 + (8 : Int32)) + x3).toNatClampNeg dX5_tire_99 sh_123 c7 rfl ?_
    refine E_iinc (x3 + (1 : Int32)) dX5_tire_100 rfl rfl (Nat.le_of_ble_eq_true rfl) (?_ : Ev (d + 1) mX5_tire 136 103 [some (.ref 122), some (.int x1), some (.int x2), some (.int (x3 + (1 : Int32))), some (.int x4), some (.int s0)] [] 136 (u2 I 123 ((x1 + (8 : Int32)) + x3).toNatClampNeg (0 : Int32)) G J Φ)
    refine E_goto 2 dX5_tire_103 rfl ?_
    refine E_wk (ls2 := [some (.ref 122), some (.int x1), some (.int x2), some (.int (x3 + (1 : Int32))), none, none]) ⟨rfl, rfl, rfl, rfl, trivial⟩ ?_
    exact hy
set_option maxRecDepth 100000 in
theorem w_X5_trace {d : Nat} {I : MI} {G : MG} {J : MJ} {Φ : Ph} (hG : WG G)  (hy : Φ (some (.long (J 122 32))) 136 I G J) : Ev d mX5_trace 136 0 [some (.ref 122)] [] 136 I G J Φ := by
  refine E_aload_n 0 dX5_trace_0 rfl rfl ?_
  refine E_getl 5 32 122 33 dX5_trace_1 fl_RX5_234 rfl sh_122 ?_
  exact E_rl dX5_trace_4 rfl ⟨rfl, rfl⟩ hy
set_option maxRecDepth 100000 in
theorem w_X5_type {d : Nat} {I : MI} {G : MG} {J : MJ} {Φ : Ph} (hG : WG G) (x1 : Int32) (hy : Ev d mX5_in 136 0 [some (.long (x1.toInt64)), none, some (.long (0 : Int64)), none, some (.long (255 : Int64)), none] [] 136 I G J (fun r n I1 G1 J1 => ∃ v1 : Int32, r = some (.int v1) ∧ n = 136 ∧ I = I1 ∧ G = G1 ∧ J = J1 ∧ ((¬ v1 = 0 → (¬ (I 122 22) = (200 : Int32) → vp_in (I 122 22) 200 ∧ (Φ (some (.int ((I 122 22) + (1 : Int32)))) 136 (u2 (u2 I 133 (I 122 22).toNatClampNeg x1) 122 22 ((I 122 22) + (1 : Int32))) G J)) ∧ ((I 122 22) = (200 : Int32) → Φ (some (.int (-3 : Int32))) 136 I G J)) ∧ (v1 = 0 → Φ (some (.int (-1 : Int32))) 136 I G J)))) : Ev (d + 1) mX5_type 136 0 [some (.ref 122), some (.int x1)] [] 136 I G J Φ := by
  refine E_iload_n 1 dX5_type_0 rfl rfl ?_
  refine E_i2l dX5_type_1 ?_
  refine E_lconst (0 : Int64) dX5_type_2 rfl ?_
  refine E_ldc2 (255 : Int64) dX5_type_3 cl_RX5_57 ?_
  refine E_cs (M := mX5_type) (pc := 6) (As := [.long (x1.toInt64), .long (0 : Int64), .long (255 : Int64)]) (st := []) mX5_in 3 dX5_type_6 lk_RX5_59 rfl (Nat.le_of_ble_eq_true rfl) ⟨rfl, rfl⟩ (Nat.le_of_ble_eq_true rfl) rfl hy ?_
  rintro r n I1 G1 J1 ⟨v1, rfl, rfl, rfl, rfl, rfl, hy⟩
  show Ev (d + 1) mX5_type 136 9 [some (.ref 122), some (.int x1)] [.int v1] 136 I G J Φ
  refine E_if_ne 14 dX5_type_9 rfl (fun h2 => ?_) (fun h2 => ?_)
  · replace hy := hy.1 h2
    refine E_aload_n 0 dX5_type_14 rfl rfl ?_
    refine E_geti 5 22 122 33 dX5_type_15 fl_RX5_63 rfl sh_122 ?_
    refine E_sipush (200 : Int32) dX5_type_18 rfl ?_
    refine E_icmp_ne 27 dX5_type_21 rfl (fun h3 => ?_) (fun h3 => ?_)
    · replace hy := hy.1 h3
      refine E_aload_n 0 dX5_type_27 rfl rfl ?_
      refine E_getr 5 21 122 33 133 dX5_type_28 fl_RX5_41 rfl sh_122 (wg_122_21 hG) ?_
      refine E_aload_n 0 dX5_type_31 rfl rfl ?_
      refine E_geti 5 22 122 33 dX5_type_32 fl_RX5_63 rfl sh_122 ?_
      refine E_iload_n 1 dX5_type_35 rfl rfl ?_
      have c4 := hy.1
      replace hy := hy.2
      refine E_is 133 200 (I 122 22).toNatClampNeg dX5_type_36 sh_133 c4 rfl ?_
      refine E_aload_n 0 dX5_type_37 rfl rfl ?_
      refine E_dup dX5_type_38 rfl ?_
      refine E_getw 5 22 122 33 (I 122 22) dX5_type_39 fl_RX5_63 rfl sh_122 rfl ?_
      refine E_iconst (1 : Int32) dX5_type_42 rfl ?_
      refine E_iadd dX5_type_43 ?_
      refine E_puti 5 22 122 33 dX5_type_44 fl_RX5_63 rfl sh_122 ⟨_, rfl, rfl⟩ rfl rfl ?_
      refine E_aload_n 0 dX5_type_47 rfl rfl ?_
      refine E_getw 5 22 122 33 ((I 122 22) + (1 : Int32)) dX5_type_48 fl_RX5_63 rfl sh_122 rfl ?_
      exact E_ri dX5_type_51 rfl ⟨rfl, rfl⟩ hy
    · replace hy := hy.2 (Decidable.not_not.mp h3)
      refine E_bipush (-3 : Int32) dX5_type_24 rfl ?_
      exact E_ri dX5_type_26 rfl ⟨rfl, rfl⟩ hy
  · replace hy := hy.2 (Decidable.not_not.mp h2)
    refine E_iconst (-1 : Int32) dX5_type_12 rfl ?_
    exact E_ri dX5_type_13 rfl ⟨rfl, rfl⟩ hy
set_option maxRecDepth 100000 in
theorem w_X5_undo {d : Nat} {I : MI} {G : MG} {J : MJ} {Φ : Ph} (hG : WG G)  (hy : (¬ (I 122 28) = 0 → Ev d mX5_copy 136 0 [some (.ref 122), some (.int ((400 : Int32) + ((100 : Int32) * ((I 122 28) - (1 : Int32))))), some (.int (0 : Int32)), none] [] 136 (u2 I 122 28 ((I 122 28) - (1 : Int32))) G J (fun r n I2 G2 J2 => r = none ∧ n = 136 ∧ G = G2 ∧ J = J2 ∧ (Φ (some (.int (I2 122 28))) 136 I2 G J))) ∧ ((I 122 28) = 0 → Φ (some (.int (-2 : Int32))) 136 I G J)) : Ev (d + 1) mX5_undo 136 0 [some (.ref 122)] [] 136 I G J Φ := by
  refine E_aload_n 0 dX5_undo_0 rfl rfl ?_
  refine E_geti 5 28 122 33 dX5_undo_1 fl_RX5_146 rfl sh_122 ?_
  refine E_if_ne 10 dX5_undo_4 rfl (fun h1 => ?_) (fun h1 => ?_)
  · replace hy := hy.1 h1
    refine E_aload_n 0 dX5_undo_10 rfl rfl ?_
    refine E_dup dX5_undo_11 rfl ?_
    refine E_geti 5 28 122 33 dX5_undo_12 fl_RX5_146 rfl sh_122 ?_
    refine E_iconst (1 : Int32) dX5_undo_15 rfl ?_
    refine E_isub dX5_undo_16 ?_
    refine E_puti 5 28 122 33 dX5_undo_17 fl_RX5_146 rfl sh_122 ⟨_, rfl, rfl⟩ rfl rfl ?_
    refine E_aload_n 0 dX5_undo_20 rfl rfl ?_
    refine E_sipush (400 : Int32) dX5_undo_21 rfl ?_
    refine E_bipush (100 : Int32) dX5_undo_24 rfl ?_
    refine E_aload_n 0 dX5_undo_26 rfl rfl ?_
    refine E_getw 5 28 122 33 ((I 122 28) - (1 : Int32)) dX5_undo_27 fl_RX5_146 rfl sh_122 rfl ?_
    refine E_imul dX5_undo_30 ?_
    refine E_iadd dX5_undo_31 ?_
    refine E_iconst (0 : Int32) dX5_undo_32 rfl ?_
    refine E_cv (M := mX5_undo) (pc := 33) (As := [.int ((400 : Int32) + ((100 : Int32) * ((I 122 28) - (1 : Int32)))), .int (0 : Int32)]) (st := []) mX5_copy 2 5 33 dX5_undo_33 lk_RX5_172 ⟨_, rfl, rfl⟩ sh_122 rfl (Nat.le_of_ble_eq_true rfl) ⟨rfl, rfl⟩ (Nat.le_of_ble_eq_true rfl) rfl hy ?_
    rintro r n I2 G2 J2 ⟨rfl, rfl, rfl, rfl, hy⟩
    show Ev (d + 1) mX5_undo 136 36 [some (.ref 122)] [] 136 I2 G J Φ
    refine E_aload_n 0 dX5_undo_36 rfl rfl ?_
    refine E_geti 5 28 122 33 dX5_undo_37 fl_RX5_146 rfl sh_122 ?_
    exact E_ri dX5_undo_40 rfl ⟨rfl, rfl⟩ hy
  · replace hy := hy.2 (Decidable.not_not.mp h1)
    refine E_bipush (-2 : Int32) dX5_undo_7 rfl ?_
    exact E_ri dX5_undo_9 rfl ⟨rfl, rfl⟩ hy
set_option maxRecDepth 100000 in
theorem w_X5_want {d : Nat} {I : MI} {G : MG} {J : MJ} {Φ : Ph} (hG : WG G) (x1 : Int32) (hy : (¬ x1 = 0 → (0 ≤ (I 122 27) → Φ (some (.int (0 : Int32))) 136 I G J) ∧ (¬ 0 ≤ (I 122 27) → Φ (some (.int (1 : Int32))) 136 I G J)) ∧ (x1 = 0 → (0 ≤ (I 122 27) → (0 ≤ (I 122 27) → Φ (some (.int (0 : Int32))) 136 I G J) ∧ (¬ 0 ≤ (I 122 27) → Φ (some (.int (1 : Int32))) 136 I G J)) ∧ (¬ 0 ≤ (I 122 27) → (0 ≤ (I 122 24) → Φ (some (.int (0 : Int32))) 136 (u2 I 122 27 (I 122 24)) G J) ∧ (¬ 0 ≤ (I 122 24) → Φ (some (.int (1 : Int32))) 136 (u2 I 122 27 (I 122 24)) G J)))) : Ev d mX5_want 136 0 [some (.ref 122), some (.int x1)] [] 136 I G J Φ := by
  refine E_iload_n 1 dX5_want_0 rfl rfl ?_
  refine E_if_ne 19 dX5_want_1 rfl (fun h1 => ?_) (fun h1 => ?_)
  · replace hy := hy.1 h1
    refine E_aload_n 0 dX5_want_19 rfl rfl ?_
    refine E_geti 5 27 122 33 dX5_want_20 fl_RX5_86 rfl sh_122 ?_
    refine E_if_ge 30 dX5_want_23 rfl (fun h2 => ?_) (fun h2 => ?_)
    · replace hy := hy.1 h2
      refine E_iconst (0 : Int32) dX5_want_30 rfl ?_
      exact E_rz dX5_want_31 rfl rfl ⟨rfl, rfl⟩ hy
    · replace hy := hy.2 h2
      refine E_iconst (1 : Int32) dX5_want_26 rfl ?_
      refine E_goto 31 dX5_want_27 rfl ?_
      exact E_rz dX5_want_31 rfl rfl ⟨rfl, rfl⟩ hy
  · replace hy := hy.2 (Decidable.not_not.mp h1)
    refine E_aload_n 0 dX5_want_4 rfl rfl ?_
    refine E_geti 5 27 122 33 dX5_want_5 fl_RX5_86 rfl sh_122 ?_
    refine E_if_ge 19 dX5_want_8 rfl (fun h3 => ?_) (fun h3 => ?_)
    · replace hy := hy.1 h3
      refine E_aload_n 0 dX5_want_19 rfl rfl ?_
      refine E_geti 5 27 122 33 dX5_want_20 fl_RX5_86 rfl sh_122 ?_
      refine E_if_ge 30 dX5_want_23 rfl (fun h4 => ?_) (fun h4 => ?_)
      · replace hy := hy.1 h4
        refine E_iconst (0 : Int32) dX5_want_30 rfl ?_
        exact E_rz dX5_want_31 rfl rfl ⟨rfl, rfl⟩ hy
      · replace hy := hy.2 h4
        refine E_iconst (1 : Int32) dX5_want_26 rfl ?_
        refine E_goto 31 dX5_want_27 rfl ?_
        exact E_rz dX5_want_31 rfl rfl ⟨rfl, rfl⟩ hy
    · replace hy := hy.2 h3
      refine E_aload_n 0 dX5_want_11 rfl rfl ?_
      refine E_aload_n 0 dX5_want_12 rfl rfl ?_
      refine E_geti 5 24 122 33 dX5_want_13 fl_RX5_73 rfl sh_122 ?_
      refine E_puti 5 27 122 33 dX5_want_16 fl_RX5_86 rfl sh_122 ⟨_, rfl, rfl⟩ rfl rfl ?_
      refine E_aload_n 0 dX5_want_19 rfl rfl ?_
      refine E_getw 5 27 122 33 (I 122 24) dX5_want_20 fl_RX5_86 rfl sh_122 rfl ?_
      refine E_if_ge 30 dX5_want_23 rfl (fun h5 => ?_) (fun h5 => ?_)
      · replace hy := hy.1 h5
        refine E_iconst (0 : Int32) dX5_want_30 rfl ?_
        exact E_rz dX5_want_31 rfl rfl ⟨rfl, rfl⟩ hy
      · replace hy := hy.2 h5
        refine E_iconst (1 : Int32) dX5_want_26 rfl ?_
        refine E_goto 31 dX5_want_27 rfl ?_
        exact E_rz dX5_want_31 rfl rfl ⟨rfl, rfl⟩ hy
set_option maxRecDepth 100000 in
theorem w_X5_wear {d : Nat} {I : MI} {G : MG} {J : MJ} {Φ : Ph} (hG : WG G) (x1 : Int32) (x2 : Int32) (hy : Ev d mX5_isHill 136 0 [some (.ref 122), some (.int x1)] [] 136 I G J (fun r n I1 G1 J1 => ∃ v1 : Int32, r = some (.int v1) ∧ n = 136 ∧ I = I1 ∧ G = G1 ∧ J = J1 ∧ ((v1 = 0 → Φ (some (.int (-1 : Int32))) 136 I G J) ∧ (¬ v1 = 0 → Ev d mX5_in 136 0 [some (.long (x2.toInt64)), none, some (.long (1 : Int64)), none, some (.long (9 : Int64)), none] [] 136 I G J (fun r n I3 G3 J3 => ∃ v3 : Int32, r = some (.int v3) ∧ n = 136 ∧ I = I3 ∧ G = G3 ∧ J = J3 ∧ ((¬ v3 = 0 → Ev (d + 1) mX5_wear 136 24 [some (.ref 122), some (.int x1), some (.int x2), some (.int (0 : Int32))] [] 136 I G J Φ) ∧ (v3 = 0 → Φ (some (.int (-1 : Int32))) 136 I G J))))))) : Ev (d + 1) mX5_wear 136 0 [some (.ref 122), some (.int x1), some (.int x2), none] [] 136 I G J Φ := by
  refine E_aload_n 0 dX5_wear_0 rfl rfl ?_
  refine E_iload_n 1 dX5_wear_1 rfl rfl ?_
  refine E_cv (M := mX5_wear) (pc := 2) (As := [.int x1]) (st := []) mX5_isHill 1 5 33 dX5_wear_2 lk_RX5_149 ⟨_, rfl, rfl⟩ sh_122 rfl (Nat.le_of_ble_eq_true rfl) ⟨rfl, rfl⟩ (Nat.le_of_ble_eq_true rfl) rfl hy ?_
  rintro r n I1 G1 J1 ⟨v1, rfl, rfl, rfl, rfl, rfl, hy⟩
  show Ev (d + 1) mX5_wear 136 5 [some (.ref 122), some (.int x1), some (.int x2), none] [.int v1] 136 I G J Φ
  refine E_if_eq 20 dX5_wear_5 rfl (fun h2 => ?_) (fun h2 => ?_)
  · replace hy := hy.1 h2
    refine E_iconst (-1 : Int32) dX5_wear_20 rfl ?_
    exact E_ri dX5_wear_21 rfl ⟨rfl, rfl⟩ hy
  · replace hy := hy.2 h2
    refine E_iload_n 2 dX5_wear_8 rfl rfl ?_
    refine E_i2l dX5_wear_9 ?_
    refine E_lconst (1 : Int64) dX5_wear_10 rfl ?_
    refine E_ldc2 (9 : Int64) dX5_wear_11 cl_RX5_222 ?_
    refine E_cs (M := mX5_wear) (pc := 14) (As := [.long (x2.toInt64), .long (1 : Int64), .long (9 : Int64)]) (st := []) mX5_in 3 dX5_wear_14 lk_RX5_59 rfl (Nat.le_of_ble_eq_true rfl) ⟨rfl, rfl⟩ (Nat.le_of_ble_eq_true rfl) rfl hy ?_
    rintro r n I3 G3 J3 ⟨v3, rfl, rfl, rfl, rfl, rfl, hy⟩
    show Ev (d + 1) mX5_wear 136 17 [some (.ref 122), some (.int x1), some (.int x2), none] [.int v3] 136 I G J Φ
    refine E_if_ne 22 dX5_wear_17 rfl (fun h4 => ?_) (fun h4 => ?_)
    · replace hy := hy.1 h4
      refine E_iconst (0 : Int32) dX5_wear_22 rfl ?_
      refine E_istore_n 3 dX5_wear_23 rfl (Nat.le_of_ble_eq_true rfl) (?_ : Ev (d + 1) mX5_wear 136 24 [some (.ref 122), some (.int x1), some (.int x2), some (.int (0 : Int32))] [] 136 I G J Φ)
      exact hy
    · replace hy := hy.2 (Decidable.not_not.mp h4)
      refine E_iconst (-1 : Int32) dX5_wear_20 rfl ?_
      exact E_ri dX5_wear_21 rfl ⟨rfl, rfl⟩ hy
set_option maxRecDepth 100000 in
theorem w_X5_wear_24 {d : Nat} {I : MI} {G : MG} {J : MJ} {Φ : Ph} (hG : WG G)  (x1 : Int32) (x2 : Int32) (x3 : Int32) (hy : vp_in ((4 : Int32) + x1) 1400 ∧ (Ev d mX5_sizeBy 136 0 [some (.ref 122), some (.int x1), some (.int ((I 123 ((4 : Int32) + x1).toNatClampNeg) + (x3 * x2))), none] [] 136 I G J (fun r n I2 G2 J2 => ∃ v2 : Int32, r = some (.int v2) ∧ n = 136 ∧ I = I2 ∧ G = G2 ∧ J = J2 ∧ ((v2 ≤ (1 : Int32) → Φ (some (.int x3)) 136 I G J) ∧ (¬ v2 ≤ (1 : Int32) → Ev (d + 1) mX5_wear 136 24 [some (.ref 122), some (.int x1), some (.int x2), some (.int (x3 + (1 : Int32)))] [] 136 I G J Φ))))) : Ev (d + 1) mX5_wear 136 24 [some (.ref 122), some (.int x1), some (.int x2), some (.int x3)] [] 136 I G J Φ := by
  refine E_aload_n 0 dX5_wear_24 rfl rfl ?_
  refine E_iload_n 1 dX5_wear_25 rfl rfl ?_
  refine E_aload_n 0 dX5_wear_26 rfl rfl ?_
  refine E_getr 5 0 122 33 123 dX5_wear_27 fl_RX5_7 rfl sh_122 (wg_122_0 hG) ?_
  refine E_iconst (4 : Int32) dX5_wear_30 rfl ?_
  refine E_iload_n 1 dX5_wear_31 rfl rfl ?_
  refine E_iadd dX5_wear_32 ?_
  have c1 := hy.1
  replace hy := hy.2
  refine E_ia 123 1400 ((4 : Int32) + x1).toNatClampNeg dX5_wear_33 sh_123 c1 rfl ?_
  refine E_iload_n 3 dX5_wear_34 rfl rfl ?_
  refine E_iload_n 2 dX5_wear_35 rfl rfl ?_
  refine E_imul dX5_wear_36 ?_
  refine E_iadd dX5_wear_37 ?_
  refine E_cv (M := mX5_wear) (pc := 38) (As := [.int x1, .int ((I 123 ((4 : Int32) + x1).toNatClampNeg) + (x3 * x2))]) (st := []) mX5_sizeBy 2 5 33 dX5_wear_38 lk_RX5_152 ⟨_, rfl, rfl⟩ sh_122 rfl (Nat.le_of_ble_eq_true rfl) ⟨rfl, rfl⟩ (Nat.le_of_ble_eq_true rfl) rfl hy ?_
  rintro r n I2 G2 J2 ⟨v2, rfl, rfl, rfl, rfl, rfl, hy⟩
  show Ev (d + 1) mX5_wear 136 41 [some (.ref 122), some (.int x1), some (.int x2), some (.int x3)] [.int v2] 136 I G J Φ
  refine E_iconst (1 : Int32) dX5_wear_41 rfl ?_
  refine E_icmp_le 51 dX5_wear_42 rfl (fun h3 => ?_) (fun h3 => ?_)
  · replace hy := hy.1 h3
    refine E_iload_n 3 dX5_wear_51 rfl rfl ?_
    exact E_ri dX5_wear_52 rfl ⟨rfl, rfl⟩ hy
  · replace hy := hy.2 h3
    refine E_iinc (x3 + (1 : Int32)) dX5_wear_45 rfl rfl (Nat.le_of_ble_eq_true rfl) (?_ : Ev (d + 1) mX5_wear 136 48 [some (.ref 122), some (.int x1), some (.int x2), some (.int (x3 + (1 : Int32)))] [] 136 I G J Φ)
    refine E_goto 24 dX5_wear_48 rfl ?_
    exact hy
set_option maxRecDepth 100000 in
theorem w_X5_wetRate {d : Nat} {I : MI} {G : MG} {J : MJ} {Φ : Ph} (hG : WG G) (x1 : Int32) (hy : Ev d mX5_roundRate 136 0 [some (.ref 122), some (.int x1)] [] 136 I G (u2 J 122 32 ((J 122 32) + (1000 : Int64))) (fun r n I1 G1 J1 => ∃ v1 : Int32, r = some (.int v1) ∧ n = 136 ∧ I = I1 ∧ G = G1 ∧ (Φ (some (.int ((2 : Int32) * v1))) 136 I G J1))) : Ev (d + 1) mX5_wetRate 136 0 [some (.ref 122), some (.int x1)] [] 136 I G J Φ := by
  refine E_aload_n 0 dX5_wetRate_0 rfl rfl ?_
  refine E_dup dX5_wetRate_1 rfl ?_
  refine E_getl 5 32 122 33 dX5_wetRate_2 fl_RX5_234 rfl sh_122 ?_
  refine E_ldc2 (1000 : Int64) dX5_wetRate_5 cl_RX5_243 ?_
  refine E_ladd dX5_wetRate_8 ?_
  refine E_putl 5 32 122 33 dX5_wetRate_9 fl_RX5_234 rfl sh_122 ⟨_, rfl, rfl⟩ rfl rfl ?_
  refine E_iconst (2 : Int32) dX5_wetRate_12 rfl ?_
  refine E_aload_n 0 dX5_wetRate_13 rfl rfl ?_
  refine E_iload_n 1 dX5_wetRate_14 rfl rfl ?_
  refine E_cv (M := mX5_wetRate) (pc := 15) (As := [.int x1]) (st := [.int (2 : Int32)]) mX5_roundRate 1 5 33 dX5_wetRate_15 lk_RX5_245 ⟨_, rfl, rfl⟩ sh_122 rfl (Nat.le_of_ble_eq_true rfl) ⟨rfl, rfl⟩ (Nat.le_of_ble_eq_true rfl) rfl hy ?_
  rintro r n I1 G1 J1 ⟨v1, rfl, rfl, rfl, rfl, hy⟩
  show Ev (d + 1) mX5_wetRate 136 18 [some (.ref 122), some (.int x1)] [.int v1, .int (2 : Int32)] 136 I G J1 Φ
  refine E_imul dX5_wetRate_18 ?_
  exact E_ri dX5_wetRate_19 rfl ⟨rfl, rfl⟩ hy
set_option maxRecDepth 100000 in
theorem w_X5_written {d : Nat} {I : MI} {G : MG} {J : MJ} {Φ : Ph} (hG : WG G) (x1 : Int32) (x2 : Int32) (hy : Ev d mX5_isHill 136 0 [some (.ref 122), some (.int x2)] [] 136 I G J (fun r n I1 G1 J1 => ∃ v1 : Int32, r = some (.int v1) ∧ n = 136 ∧ I = I1 ∧ G = G1 ∧ J = J1 ∧ ((v1 = 0 → Φ (some (.int (-1 : Int32))) 136 I G J) ∧ (¬ v1 = 0 → Ev d mX5_in 136 0 [some (.long (x1.toInt64)), none, some (.long (0 : Int64)), none, some (.long (((I 123 16) - (1 : Int32)).toInt64)), none] [] 136 I G J (fun r n I3 G3 J3 => ∃ v3 : Int32, r = some (.int v3) ∧ n = 136 ∧ I = I3 ∧ G = G3 ∧ J = J3 ∧ ((v3 = 0 → Φ (some (.int (-1 : Int32))) 136 I G J) ∧ (¬ v3 = 0 → vp_in (((20 : Int32) + ((4 : Int32) * x1)) + x2) 1400 ∧ (Φ (some (.int (I 123 (((20 : Int32) + ((4 : Int32) * x1)) + x2).toNatClampNeg))) 136 I G J)))))))) : Ev (d + 1) mX5_written 136 0 [some (.ref 122), some (.int x1), some (.int x2)] [] 136 I G J Φ := by
  refine E_aload_n 0 dX5_written_0 rfl rfl ?_
  refine E_iload_n 2 dX5_written_1 rfl rfl ?_
  refine E_cv (M := mX5_written) (pc := 2) (As := [.int x2]) (st := []) mX5_isHill 1 5 33 dX5_written_2 lk_RX5_149 ⟨_, rfl, rfl⟩ sh_122 rfl (Nat.le_of_ble_eq_true rfl) ⟨rfl, rfl⟩ (Nat.le_of_ble_eq_true rfl) rfl hy ?_
  rintro r n I1 G1 J1 ⟨v1, rfl, rfl, rfl, rfl, rfl, hy⟩
  show Ev (d + 1) mX5_written 136 5 [some (.ref 122), some (.int x1), some (.int x2)] [.int v1] 136 I G J Φ
  refine E_if_eq 43 dX5_written_5 rfl (fun h2 => ?_) (fun h2 => ?_)
  · replace hy := hy.1 h2
    refine E_iconst (-1 : Int32) dX5_written_43 rfl ?_
    exact E_ri dX5_written_44 rfl ⟨rfl, rfl⟩ hy
  · replace hy := hy.2 h2
    refine E_iload_n 1 dX5_written_8 rfl rfl ?_
    refine E_i2l dX5_written_9 ?_
    refine E_lconst (0 : Int64) dX5_written_10 rfl ?_
    refine E_aload_n 0 dX5_written_11 rfl rfl ?_
    refine E_getr 5 0 122 33 123 dX5_written_12 fl_RX5_7 rfl sh_122 (wg_122_0 hG) ?_
    refine E_bipush (16 : Int32) dX5_written_15 rfl ?_
    refine E_ia 123 1400 16 dX5_written_17 sh_123 (vpd (by decide)) rfl ?_
    refine E_iconst (1 : Int32) dX5_written_18 rfl ?_
    refine E_isub dX5_written_19 ?_
    refine E_i2l dX5_written_20 ?_
    refine E_cs (M := mX5_written) (pc := 21) (As := [.long (x1.toInt64), .long (0 : Int64), .long (((I 123 16) - (1 : Int32)).toInt64)]) (st := []) mX5_in 3 dX5_written_21 lk_RX5_59 rfl (Nat.le_of_ble_eq_true rfl) ⟨rfl, rfl⟩ (Nat.le_of_ble_eq_true rfl) rfl hy ?_
    rintro r n I3 G3 J3 ⟨v3, rfl, rfl, rfl, rfl, rfl, hy⟩
    show Ev (d + 1) mX5_written 136 24 [some (.ref 122), some (.int x1), some (.int x2)] [.int v3] 136 I G J Φ
    refine E_if_eq 43 dX5_written_24 rfl (fun h4 => ?_) (fun h4 => ?_)
    · replace hy := hy.1 h4
      refine E_iconst (-1 : Int32) dX5_written_43 rfl ?_
      exact E_ri dX5_written_44 rfl ⟨rfl, rfl⟩ hy
    · replace hy := hy.2 h4
      refine E_aload_n 0 dX5_written_27 rfl rfl ?_
      refine E_getr 5 0 122 33 123 dX5_written_28 fl_RX5_7 rfl sh_122 (wg_122_0 hG) ?_
      refine E_bipush (20 : Int32) dX5_written_31 rfl ?_
      refine E_iconst (4 : Int32) dX5_written_33 rfl ?_
      refine E_iload_n 1 dX5_written_34 rfl rfl ?_
      refine E_imul dX5_written_35 ?_
      refine E_iadd dX5_written_36 ?_
      refine E_iload_n 2 dX5_written_37 rfl rfl ?_
      refine E_iadd dX5_written_38 ?_
      have c5 := hy.1
      replace hy := hy.2
      refine E_ia 123 1400 (((20 : Int32) + ((4 : Int32) * x1)) + x2).toNatClampNeg dX5_written_39 sh_123 c5 rfl ?_
      refine E_goto 44 dX5_written_40 rfl ?_
      exact E_ri dX5_written_44 rfl ⟨rfl, rfl⟩ hy
