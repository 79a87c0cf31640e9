set_option maxRecDepth 100000 in
theorem w_X4_agrees {d : Nat} {I : MI} {G : MG} {J : MJ} {Φ : Ph} (hG : WG G) (x1 : Int32) (hy : Ev (d + 1) mX4_agrees 136 2 [some (.ref 0), some (.int x1), some (.int (0 : Int32))] [] 136 I G J Φ) : Ev (d + 1) mX4_agrees 136 0 [some (.ref 0), some (.int x1), none] [] 136 I G J Φ := by
  refine E_iconst (0 : Int32) dX4_agrees_0 rfl ?_
  refine E_istore_n 2 dX4_agrees_1 rfl (Nat.le_of_ble_eq_true rfl) (?_ : Ev (d + 1) mX4_agrees 136 2 [some (.ref 0), some (.int x1), some (.int (0 : Int32))] [] 136 I G J Φ)
  exact hy
set_option maxRecDepth 100000 in
theorem w_X4_agrees_2 {d : Nat} {I : MI} {G : MG} {J : MJ} {Φ : Ph} (hG : WG G)  (x1 : Int32) (x2 : Int32) (hy : ((I 0 13) ≤ x2 → Φ (some (.int (1 : Int32))) 136 I G J) ∧ (¬ (I 0 13) ≤ x2 → vp_in x2 6 ∧ (Ev d mX2_writtenStep 136 0 [some (.ref 22), some (.int x1), some (.int (I 37 (x2).toNatClampNeg))] [] 136 I G J (fun r n I3 G3 J3 => ∃ v3 : Int32, r = some (.int v3) ∧ n = 136 ∧ I = I3 ∧ G = G3 ∧ J = J3 ∧ (vp_in x2 6 ∧ ((v3 = (I 38 (x2).toNatClampNeg) → Ev (d + 1) mX4_agrees 136 2 [some (.ref 0), some (.int x1), some (.int (x2 + (1 : Int32)))] [] 136 I G J Φ) ∧ (¬ v3 = (I 38 (x2).toNatClampNeg) → Φ (some (.int (0 : Int32))) 136 I G J))))))) : Ev (d + 1) mX4_agrees 136 2 [some (.ref 0), some (.int x1), some (.int x2)] [] 136 I G J Φ := by
  refine E_iload_n 2 dX4_agrees_2 rfl rfl ?_
  refine E_aload_n 0 dX4_agrees_3 rfl rfl ?_
  refine E_geti 4 13 0 16 dX4_agrees_4 fl_RX4_82 rfl sh_0 ?_
  refine E_icmp_ge 41 dX4_agrees_7 rfl (fun h1 => ?_) (fun h1 => ?_)
  · replace hy := hy.1 h1
    refine E_iconst (1 : Int32) dX4_agrees_41 rfl ?_
    exact E_rz dX4_agrees_42 rfl rfl ⟨rfl, rfl⟩ hy
  · replace hy := hy.2 h1
    refine E_aload_n 0 dX4_agrees_10 rfl rfl ?_
    refine E_getr 4 5 0 16 22 dX4_agrees_11 fl_RX4_35 rfl sh_0 (wg_0_5 hG) ?_
    refine E_iload_n 1 dX4_agrees_14 rfl rfl ?_
    refine E_aload_n 0 dX4_agrees_15 rfl rfl ?_
    refine E_getr 4 11 0 16 37 dX4_agrees_16 fl_RX4_53 rfl sh_0 (wg_0_11 hG) ?_
    refine E_iload_n 2 dX4_agrees_19 rfl rfl ?_
    have c2 := hy.1
    replace hy := hy.2
    refine E_ia 37 6 (x2).toNatClampNeg dX4_agrees_20 sh_37 c2 rfl ?_
    refine E_cv (M := mX4_agrees) (pc := 21) (As := [.int x1, .int (I 37 (x2).toNatClampNeg)]) (st := []) mX2_writtenStep 2 2 8 dX4_agrees_21 lk_RX4_214 ⟨_, rfl, rfl⟩ (sM0 isM_22) rfl (Nat.le_of_ble_eq_true rfl) ⟨rfl, rfl⟩ (Nat.le_of_ble_eq_true rfl) rfl hy ?_
    rintro r n I3 G3 J3 ⟨v3, rfl, rfl, rfl, rfl, rfl, hy⟩
    show Ev (d + 1) mX4_agrees 136 24 [some (.ref 0), some (.int x1), some (.int x2)] [.int v3] 136 I G J Φ
    refine E_aload_n 0 dX4_agrees_24 rfl rfl ?_
    refine E_getr 4 12 0 16 38 dX4_agrees_25 fl_RX4_57 rfl sh_0 (wg_0_12 hG) ?_
    refine E_iload_n 2 dX4_agrees_28 rfl rfl ?_
    have c4 := hy.1
    replace hy := hy.2
    refine E_ia 38 6 (x2).toNatClampNeg dX4_agrees_29 sh_38 c4 rfl ?_
    refine E_icmp_eq 35 dX4_agrees_30 rfl (fun h5 => ?_) (fun h5 => ?_)
    · replace hy := hy.1 h5
      refine E_iinc (x2 + (1 : Int32)) dX4_agrees_35 rfl rfl (Nat.le_of_ble_eq_true rfl) (?_ : Ev (d + 1) mX4_agrees 136 38 [some (.ref 0), some (.int x1), some (.int (x2 + (1 : Int32)))] [] 136 I G J Φ)
      refine E_goto 2 dX4_agrees_38 rfl ?_
      exact hy
    · replace hy := hy.2 h5
      refine E_iconst (0 : Int32) dX4_agrees_33 rfl ?_
      exact E_rz dX4_agrees_34 rfl rfl ⟨rfl, rfl⟩ hy
set_option maxRecDepth 100000 in
theorem w_X4_allPush {d : Nat} {I : MI} {G : MG} {J : MJ} {Φ : Ph} (hG : WG G) (x1 : Int32) (hy : Ev d mX2_copyFrom 136 0 [some (.ref 28), some (.ref 22)] [] 136 I G J (fun r n I1 G1 J1 => r = none ∧ n = 136 ∧ G = G1 ∧ J = J1 ∧ (Ev (d + 1) mX4_allPush 136 13 [some (.ref 0), some (.int x1), some (.int (0 : Int32))] [] 136 I1 G J Φ))) : Ev (d + 1) mX4_allPush 136 0 [some (.ref 0), some (.int x1), none] [] 136 I G J Φ := by
  refine E_aload_n 0 dX4_allPush_0 rfl rfl ?_
  refine E_getr 4 6 0 16 28 dX4_allPush_1 fl_RX4_39 rfl sh_0 (wg_0_6 hG) ?_
  refine E_aload_n 0 dX4_allPush_4 rfl rfl ?_
  refine E_getr 4 5 0 16 22 dX4_allPush_5 fl_RX4_35 rfl sh_0 (wg_0_5 hG) ?_
  refine E_cv (M := mX4_allPush) (pc := 8) (As := [.ref 22]) (st := []) mX2_copyFrom 1 2 8 dX4_allPush_8 lk_RX4_159 ⟨_, rfl, rfl⟩ (sM0 isM_28) rfl (Nat.le_of_ble_eq_true rfl) ⟨rfl, rfl⟩ (Nat.le_of_ble_eq_true rfl) rfl hy ?_
  rintro r n I1 G1 J1 ⟨rfl, rfl, rfl, rfl, hy⟩
  show Ev (d + 1) mX4_allPush 136 11 [some (.ref 0), some (.int x1), none] [] 136 I1 G J Φ
  refine E_iconst (0 : Int32) dX4_allPush_11 rfl ?_
  refine E_istore_n 2 dX4_allPush_12 rfl (Nat.le_of_ble_eq_true rfl) (?_ : Ev (d + 1) mX4_allPush 136 13 [some (.ref 0), some (.int x1), some (.int (0 : Int32))] [] 136 I1 G J Φ)
  exact hy
set_option maxRecDepth 100000 in
theorem w_X4_allPush_13 {d : Nat} {I : MI} {G : MG} {J : MJ} {Φ : Ph} (hG : WG G) {la : Nat} (hLa : isL la) (hla : G 0 3 = some la)  (x1 : Int32) (x2 : Int32) (hy : ((I la 9) ≤ x2 → Φ none 136 I G J) ∧ (¬ (I la 9) ≤ x2 → vp_in x2 3 ∧ (Ev (d + 1) mX4_allPush 136 13 [some (.ref 0), some (.int x1), some (.int (x2 + (1 : Int32)))] [] 136 (u2 I (28 + 4) (x2).toNatClampNeg x1) G J Φ))) : Ev (d + 1) mX4_allPush 136 13 [some (.ref 0), some (.int x1), some (.int x2)] [] 136 I G J Φ := by
  refine E_iload_n 2 dX4_allPush_13 rfl rfl ?_
  refine E_aload_n 0 dX4_allPush_14 rfl rfl ?_
  refine E_getr 4 3 0 16 la dX4_allPush_15 fl_RX4_25 rfl sh_0 hla ?_
  refine E_geti 1 9 la 15 dX4_allPush_18 fl_RX4_198 rfl (sL0 hLa) ?_
  refine E_icmp_ge 40 dX4_allPush_21 rfl (fun h1 => ?_) (fun h1 => ?_)
  · replace hy := hy.1 h1
    exact E_rv dX4_allPush_40 rfl ⟨rfl, rfl⟩ hy
  · replace hy := hy.2 h1
    refine E_aload_n 0 dX4_allPush_24 rfl rfl ?_
    refine E_getr 4 6 0 16 28 dX4_allPush_25 fl_RX4_39 rfl sh_0 (wg_0_6 hG) ?_
    refine E_getr 2 5 28 8 (28 + 4) dX4_allPush_28 fl_RX4_124 rfl (sM0 isM_28) (gM5 hG isM_28) ?_
    refine E_iload_n 2 dX4_allPush_31 rfl rfl ?_
    refine E_iload_n 1 dX4_allPush_32 rfl rfl ?_
    have c2 := hy.1
    replace hy := hy.2
    refine E_is (28 + 4) 3 (x2).toNatClampNeg dX4_allPush_33 (sM4 isM_28) c2 rfl ?_
    refine E_iinc (x2 + (1 : Int32)) dX4_allPush_34 rfl rfl (Nat.le_of_ble_eq_true rfl) (?_ : Ev (d + 1) mX4_allPush 136 37 [some (.ref 0), some (.int x1), some (.int (x2 + (1 : Int32)))] [] 136 (u2 I (28 + 4) (x2).toNatClampNeg x1) G J Φ)
    refine E_goto 13 dX4_allPush_37 rfl ?_
    exact hy
set_option maxRecDepth 100000 in
theorem w_X4_back {d : Nat} {I : MI} {G : MG} {J : MJ} {Φ : Ph} (hG : WG G) (x1 : Int32) (hy : (x1 < 0 → Φ (some (.int (-1 : Int32))) 136 I G J) ∧ (¬ x1 < 0 → (x1 < (2 : Int32) → vp_in x1 2 ∧ ((¬ (I 36 (x1).toNatClampNeg) = 0 → vp_in x1 2 ∧ (Ev d mX2_copyFrom 136 0 [some (.ref 22), some (.ref (110 + 6 * (x1).toNatClampNeg))] [] 136 I G J (fun r n I6 G6 J6 => r = none ∧ n = 136 ∧ G = G6 ∧ J = J6 ∧ (Φ (some (.int (I6 22 0))) 136 (u2 I6 0 8 (0 : Int32)) G J)))) ∧ ((I 36 (x1).toNatClampNeg) = 0 → Φ (some (.int (-2 : Int32))) 136 I G J))) ∧ (¬ x1 < (2 : Int32) → Φ (some (.int (-1 : Int32))) 136 I G J))) : Ev (d + 1) mX4_back 136 0 [some (.ref 0), some (.int x1)] [] 136 I G J Φ := by
  refine E_iload_n 1 dX4_back_0 rfl rfl ?_
  refine E_if_lt 9 dX4_back_1 rfl (fun h1 => ?_) (fun h1 => ?_)
  · replace hy := hy.1 h1
    refine E_iconst (-1 : Int32) dX4_back_9 rfl ?_
    exact E_ri dX4_back_10 rfl ⟨rfl, rfl⟩ hy
  · replace hy := hy.2 h1
    refine E_iload_n 1 dX4_back_4 rfl rfl ?_
    refine E_iconst (2 : Int32) dX4_back_5 rfl ?_
    refine E_icmp_lt 11 dX4_back_6 rfl (fun h2 => ?_) (fun h2 => ?_)
    · replace hy := hy.1 h2
      refine E_aload_n 0 dX4_back_11 rfl rfl ?_
      refine E_getr 4 10 0 16 36 dX4_back_12 fl_RX4_49 rfl sh_0 (wg_0_10 hG) ?_
      refine E_iload_n 1 dX4_back_15 rfl rfl ?_
      have c3 := hy.1
      replace hy := hy.2
      refine E_za 36 2 (x1).toNatClampNeg dX4_back_16 sh_36 c3 rfl ?_
      refine E_if_ne 23 dX4_back_17 rfl (fun h4 => ?_) (fun h4 => ?_)
      · replace hy := hy.1 h4
        refine E_aload_n 0 dX4_back_23 rfl rfl ?_
        refine E_getr 4 5 0 16 22 dX4_back_24 fl_RX4_35 rfl sh_0 (wg_0_5 hG) ?_
        refine E_aload_n 0 dX4_back_27 rfl rfl ?_
        refine E_getr 4 9 0 16 35 dX4_back_28 fl_RX4_46 rfl sh_0 (wg_0_9 hG) ?_
        refine E_iload_n 1 dX4_back_31 rfl rfl ?_
        have c5 := hy.1
        replace hy := hy.2
        refine E_aa 35 2 (x1).toNatClampNeg (110 + 6 * (x1).toNatClampNeg) dX4_back_32 sh_35 c5 rfl (wg_35 hG (Nat.not_le.mp (fun q => c5 (Or.inr q)))) ?_
        refine E_cv (M := mX4_back) (pc := 33) (As := [.ref (110 + 6 * (x1).toNatClampNeg)]) (st := []) mX2_copyFrom 1 2 8 dX4_back_33 lk_RX4_159 ⟨_, rfl, rfl⟩ (sM0 isM_22) rfl (Nat.le_of_ble_eq_true rfl) ⟨rfl, rfl⟩ (Nat.le_of_ble_eq_true rfl) rfl hy ?_
        rintro r n I6 G6 J6 ⟨rfl, rfl, rfl, rfl, hy⟩
        show Ev (d + 1) mX4_back 136 36 [some (.ref 0), some (.int x1)] [] 136 I6 G J Φ
        refine E_aload_n 0 dX4_back_36 rfl rfl ?_
        refine E_iconst (0 : Int32) dX4_back_37 rfl ?_
        refine E_puti 4 8 0 16 dX4_back_38 fl_RX4_79 rfl sh_0 ⟨_, rfl, rfl⟩ rfl rfl ?_
        refine E_aload_n 0 dX4_back_41 rfl rfl ?_
        refine E_getr 4 5 0 16 22 dX4_back_42 fl_RX4_35 rfl sh_0 (wg_0_5 hG) ?_
        refine E_getw 2 0 22 8 (I6 22 0) dX4_back_45 fl_RX4_127 rfl (sM0 isM_22) rfl ?_
        exact E_ri dX4_back_48 rfl ⟨rfl, rfl⟩ hy
      · replace hy := hy.2 (Decidable.not_not.mp h4)
        refine E_bipush (-2 : Int32) dX4_back_20 rfl ?_
        exact E_ri dX4_back_22 rfl ⟨rfl, rfl⟩ hy
    · replace hy := hy.2 h2
      refine E_iconst (-1 : Int32) dX4_back_9 rfl ?_
      exact E_ri dX4_back_10 rfl ⟨rfl, rfl⟩ hy
set_option maxRecDepth 100000 in
theorem w_X4_blocks {d : Nat} {I : MI} {G : MG} {J : MJ} {Φ : Ph} (hG : WG G) {la : Nat} (hLa : isL la) (hla : G 0 3 = some la) (x1 : Int32) (hy : Ev d mX1_hasHill 136 0 [some (.ref la), some (.int x1)] [] 136 I G J (fun r n I1 G1 J1 => ∃ v1 : Int32, r = some (.int v1) ∧ n = 136 ∧ I = I1 ∧ G = G1 ∧ J = J1 ∧ ((¬ v1 = 0 → Ev d mX2_isOver 136 0 [some (.ref 22), some (.ref la), some (.int x1)] [] 136 I G J (fun r n I3 G3 J3 => ∃ v3 : Int32, r = some (.int v3) ∧ n = 136 ∧ I = I3 ∧ G = G3 ∧ J = J3 ∧ ((v3 = 0 → vp_in x1 4 ∧ (Ev d mX2_blockersAt 136 0 [some (.ref 22), some (.ref la), some (.int x1), some (.int ((I (22 + 1) (x1).toNatClampNeg) + (1 : Int32))), none, none, none] [] 136 I G J (fun r n I6 G6 J6 => ∃ v6 : Int32, r = some (.int v6) ∧ n = 136 ∧ I = I6 ∧ G = G6 ∧ J = J6 ∧ (Φ (some (.int v6)) 136 I G J)))) ∧ (¬ v3 = 0 → Φ (some (.int (0 : Int32))) 136 I G J)))) ∧ (v1 = 0 → Φ (some (.int (-1 : Int32))) 136 I G J)))) : Ev (d + 1) mX4_blocks 136 0 [some (.ref 0), some (.int x1)] [] 136 I G J Φ := by
  refine E_aload_n 0 dX4_blocks_0 rfl rfl ?_
  refine E_getr 4 3 0 16 la dX4_blocks_1 fl_RX4_25 rfl sh_0 hla ?_
  refine E_iload_n 1 dX4_blocks_4 rfl rfl ?_
  refine E_cv (M := mX4_blocks) (pc := 5) (As := [.int x1]) (st := []) mX1_hasHill 1 1 15 dX4_blocks_5 lk_RX4_85 ⟨_, rfl, rfl⟩ (sL0 hLa) rfl (Nat.le_of_ble_eq_true rfl) ⟨rfl, rfl⟩ (Nat.le_of_ble_eq_true rfl) rfl hy ?_
  rintro r n I1 G1 J1 ⟨v1, rfl, rfl, rfl, rfl, rfl, hy⟩
  show Ev (d + 1) mX4_blocks 136 8 [some (.ref 0), some (.int x1)] [.int v1] 136 I G J Φ
  refine E_if_ne 13 dX4_blocks_8 rfl (fun h2 => ?_) (fun h2 => ?_)
  · replace hy := hy.1 h2
    refine E_aload_n 0 dX4_blocks_13 rfl rfl ?_
    refine E_getr 4 5 0 16 22 dX4_blocks_14 fl_RX4_35 rfl sh_0 (wg_0_5 hG) ?_
    refine E_aload_n 0 dX4_blocks_17 rfl rfl ?_
    refine E_getr 4 3 0 16 la dX4_blocks_18 fl_RX4_25 rfl sh_0 hla ?_
    refine E_iload_n 1 dX4_blocks_21 rfl rfl ?_
    refine E_cv (M := mX4_blocks) (pc := 22) (As := [.ref la, .int x1]) (st := []) mX2_isOver 2 2 8 dX4_blocks_22 lk_RX4_111 ⟨_, rfl, rfl⟩ (sM0 isM_22) rfl (Nat.le_of_ble_eq_true rfl) ⟨rfl, rfl⟩ (Nat.le_of_ble_eq_true rfl) rfl hy ?_
    rintro r n I3 G3 J3 ⟨v3, rfl, rfl, rfl, rfl, rfl, hy⟩
    show Ev (d + 1) mX4_blocks 136 25 [some (.ref 0), some (.int x1)] [.int v3] 136 I G J Φ
    refine E_if_eq 32 dX4_blocks_25 rfl (fun h4 => ?_) (fun h4 => ?_)
    · replace hy := hy.1 h4
      refine E_aload_n 0 dX4_blocks_32 rfl rfl ?_
      refine E_getr 4 5 0 16 22 dX4_blocks_33 fl_RX4_35 rfl sh_0 (wg_0_5 hG) ?_
      refine E_aload_n 0 dX4_blocks_36 rfl rfl ?_
      refine E_getr 4 3 0 16 la dX4_blocks_37 fl_RX4_25 rfl sh_0 hla ?_
      refine E_iload_n 1 dX4_blocks_40 rfl rfl ?_
      refine E_aload_n 0 dX4_blocks_41 rfl rfl ?_
      refine E_getr 4 5 0 16 22 dX4_blocks_42 fl_RX4_35 rfl sh_0 (wg_0_5 hG) ?_
      refine E_getr 2 2 22 8 (22 + 1) dX4_blocks_45 fl_RX4_101 rfl (sM0 isM_22) (gM2 hG isM_22) ?_
      refine E_iload_n 1 dX4_blocks_48 rfl rfl ?_
      have c5 := hy.1
      replace hy := hy.2
      refine E_ia (22 + 1) 4 (x1).toNatClampNeg dX4_blocks_49 (sM1 isM_22) c5 rfl ?_
      refine E_iconst (1 : Int32) dX4_blocks_50 rfl ?_
      refine E_iadd dX4_blocks_51 ?_
      refine E_cv (M := mX4_blocks) (pc := 52) (As := [.ref la, .int x1, .int ((I (22 + 1) (x1).toNatClampNeg) + (1 : Int32))]) (st := []) mX2_blockersAt 3 2 8 dX4_blocks_52 lk_RX4_210 ⟨_, rfl, rfl⟩ (sM0 isM_22) rfl (Nat.le_of_ble_eq_true rfl) ⟨rfl, rfl⟩ (Nat.le_of_ble_eq_true rfl) rfl hy ?_
      rintro r n I6 G6 J6 ⟨v6, rfl, rfl, rfl, rfl, rfl, hy⟩
      show Ev (d + 1) mX4_blocks 136 55 [some (.ref 0), some (.int x1)] [.int v6] 136 I G J Φ
      exact E_ri dX4_blocks_55 rfl ⟨rfl, rfl⟩ hy
    · replace hy := hy.2 h4
      refine E_iconst (0 : Int32) dX4_blocks_28 rfl ?_
      refine E_goto 55 dX4_blocks_29 rfl ?_
      exact E_ri dX4_blocks_55 rfl ⟨rfl, rfl⟩ hy
  · replace hy := hy.2 (Decidable.not_not.mp h2)
    refine E_iconst (-1 : Int32) dX4_blocks_11 rfl ?_
    exact E_ri dX4_blocks_12 rfl ⟨rfl, rfl⟩ hy
set_option maxRecDepth 100000 in
theorem w_X4_clear {d : Nat} {I : MI} {G : MG} {J : MJ} {Φ : Ph} (hG : WG G)  (hy : Φ (some (.int (I 0 1))) 136 (u2 I 0 1 (0 : Int32)) G J) : Ev d mX4_clear 136 0 [some (.ref 0), none] [] 136 I G J Φ := by
  refine E_aload_n 0 dX4_clear_0 rfl rfl ?_
  refine E_geti 4 1 0 16 dX4_clear_1 fl_RX4_71 rfl sh_0 ?_
  refine E_istore_n 1 dX4_clear_4 rfl (Nat.le_of_ble_eq_true rfl) (?_ : Ev d mX4_clear 136 5 [some (.ref 0), some (.int (I 0 1))] [] 136 I G J Φ)
  refine E_aload_n 0 dX4_clear_5 rfl rfl ?_
  refine E_iconst (0 : Int32) dX4_clear_6 rfl ?_
  refine E_puti 4 1 0 16 dX4_clear_7 fl_RX4_71 rfl sh_0 ⟨_, rfl, rfl⟩ rfl rfl ?_
  refine E_iload_n 1 dX4_clear_10 rfl rfl ?_
  exact E_ri dX4_clear_11 rfl ⟨rfl, rfl⟩ hy
set_option maxRecDepth 100000 in
theorem w_X4_commonDivisor {d : Nat} {I : MI} {G : MG} {J : MJ} {Φ : Ph} (hG : WG G) (x0 : Int64) (x2 : Int64) (hy : Ev d mX4_commonDivisor 136 3 [some (.long x0), none, some (.long x2), none, some (.int (0 : Int32)), none, none] [] 136 I G J Φ) : Ev d mX4_commonDivisor 136 0 [some (.long x0), none, some (.long x2), none, none, none, none] [] 136 I G J Φ := by
  refine E_iconst (0 : Int32) dX4_commonDivisor_0 rfl ?_
  refine E_istore dX4_commonDivisor_1 (Nat.le_of_ble_eq_true rfl) (?_ : Ev d mX4_commonDivisor 136 3 [some (.long x0), none, some (.long x2), none, some (.int (0 : Int32)), none, none] [] 136 I G J Φ)
  exact hy
set_option maxRecDepth 100000 in
theorem w_X4_commonDivisor_3 {d : Nat} {I : MI} {G : MG} {J : MJ} {Φ : Ph} (hG : WG G)  (x0 : Int64) (x2 : Int64) (x4 : Int32) (hy : ((100 : Int32) ≤ x4 → Φ (some (.long x0)) 136 I G J) ∧ (¬ (100 : Int32) ≤ x4 → ((lg_cmp x2 (0 : Int64)) = 0 → Φ (some (.long x0)) 136 I G J) ∧ (¬ (lg_cmp x2 (0 : Int64)) = 0 → ¬ x2 = 0 ∧ (Ev d mX4_commonDivisor 136 3 [some (.long x2), none, some (.long (x0 - x0 / x2 * x2)), none, some (.int (x4 + (1 : Int32))), none, none] [] 136 I G J Φ)))) : Ev d mX4_commonDivisor 136 3 [some (.long x0), none, some (.long x2), none, some (.int x4), none, none] [] 136 I G J Φ := by
  refine E_iload dX4_commonDivisor_3 rfl ?_
  refine E_bipush (100 : Int32) dX4_commonDivisor_5 rfl ?_
  refine E_icmp_ge 32 dX4_commonDivisor_7 rfl (fun h1 => ?_) (fun h1 => ?_)
  · replace hy := hy.1 h1
    refine E_lload_n 0 dX4_commonDivisor_32 rfl rfl ?_
    exact E_rl dX4_commonDivisor_33 rfl ⟨rfl, rfl⟩ hy
  · replace hy := hy.2 h1
    refine E_lload_n 2 dX4_commonDivisor_10 rfl rfl ?_
    refine E_lconst (0 : Int64) dX4_commonDivisor_11 rfl ?_
    refine E_lcmp dX4_commonDivisor_12 ?_
    refine E_if_eq 32 dX4_commonDivisor_13 rfl (fun h2 => ?_) (fun h2 => ?_)
    · replace hy := hy.1 h2
      refine E_lload_n 0 dX4_commonDivisor_32 rfl rfl ?_
      exact E_rl dX4_commonDivisor_33 rfl ⟨rfl, rfl⟩ hy
    · replace hy := hy.2 h2
      refine E_lload_n 0 dX4_commonDivisor_16 rfl rfl ?_
      refine E_lload_n 2 dX4_commonDivisor_17 rfl rfl ?_
      have c3 := hy.1
      replace hy := hy.2
      refine E_lrem dX4_commonDivisor_18 c3 ?_
      refine E_lstore dX4_commonDivisor_19 (Nat.le_of_ble_eq_true rfl) (?_ : Ev d mX4_commonDivisor 136 21 [some (.long x0), none, some (.long x2), none, some (.int x4), some (.long (x0 - x0 / x2 * x2)), none] [] 136 I G J Φ)
      refine E_lload_n 2 dX4_commonDivisor_21 rfl rfl ?_
      refine E_lstore_n 0 dX4_commonDivisor_22 rfl (Nat.le_of_ble_eq_true rfl) (?_ : Ev d mX4_commonDivisor 136 23 [some (.long x2), none, some (.long x2), none, some (.int x4), some (.long (x0 - x0 / x2 * x2)), none] [] 136 I G J Φ)
      refine E_lload dX4_commonDivisor_23 rfl ?_
      refine E_lstore_n 2 dX4_commonDivisor_25 rfl (Nat.le_of_ble_eq_true rfl) (?_ : Ev d mX4_commonDivisor 136 26 [some (.long x2), none, some (.long (x0 - x0 / x2 * x2)), none, some (.int x4), some (.long (x0 - x0 / x2 * x2)), none] [] 136 I G J Φ)
      refine E_iinc (x4 + (1 : Int32)) dX4_commonDivisor_26 rfl rfl (Nat.le_of_ble_eq_true rfl) (?_ : Ev d mX4_commonDivisor 136 29 [some (.long x2), none, some (.long (x0 - x0 / x2 * x2)), none, some (.int (x4 + (1 : Int32))), some (.long (x0 - x0 / x2 * x2)), none] [] 136 I G J Φ)
      refine E_goto 3 dX4_commonDivisor_29 rfl ?_
      refine E_wk (ls2 := [some (.long x2), none, some (.long (x0 - x0 / x2 * x2)), none, some (.int (x4 + (1 : Int32))), none, none]) ⟨rfl, rfl, rfl, trivial⟩ ?_
      exact hy
set_option maxRecDepth 100000 in
theorem w_X4_count {d : Nat} {I : MI} {G : MG} {J : MJ} {Φ : Ph} (hG : WG G) {la : Nat} (hLa : isL la) (hla : G 0 3 = some la) (x1 : Int32) (hy : (x1 = nI 0 → Φ (some (.int (I la 0))) 136 I G J) ∧ (¬ x1 = nI 0 → (x1 = nI 1 → Φ (some (.int (I la 5))) 136 I G J) ∧ (¬ x1 = nI 1 → (x1 = nI 2 → Φ (some (.int (I la 9))) 136 I G J) ∧ (¬ x1 = nI 2 → (x1 = nI 3 → Φ (some (.int (I la 11))) 136 I G J) ∧ (¬ x1 = nI 3 → (x1 = nI 4 → Φ (some (.int (I la 12))) 136 I G J) ∧ (¬ x1 = nI 4 → (x1 = nI 5 → Φ (some (.int (I 0 13))) 136 I G J) ∧ (¬ x1 = nI 5 → (x1 = nI 6 → Φ (some (.int (I 0 1))) 136 I G J) ∧ (¬ x1 = nI 6 → Φ (some (.int (-1 : Int32))) 136 I G J)))))))) : Ev d mX4_count 136 0 [some (.ref 0), some (.int x1)] [] 136 I G J Φ := by
  refine E_iload_n 1 dX4_count_0 rfl rfl ?_
  refine E_tsw 0 [44, 52, 60, 68, 76, 84, 89] 94 dX4_count_1 rfl rfl rfl (by decide) ?_
  refine ⟨fun h1 => ?_, fun h1 => ?_⟩
  · replace hy := hy.1 h1
    dsimp only
    refine E_aload_n 0 dX4_count_44 rfl rfl ?_
    refine E_getr 4 3 0 16 la dX4_count_45 fl_RX4_25 rfl sh_0 hla ?_
    refine E_geti 1 0 la 15 dX4_count_48 fl_RX4_242 rfl (sL0 hLa) ?_
    exact E_ri dX4_count_51 rfl ⟨rfl, rfl⟩ hy
  replace hy := hy.2 h1
  refine ⟨fun h2 => ?_, fun h2 => ?_⟩
  · replace hy := hy.1 h2
    dsimp only
    refine E_aload_n 0 dX4_count_52 rfl rfl ?_
    refine E_getr 4 3 0 16 la dX4_count_53 fl_RX4_25 rfl sh_0 hla ?_
    refine E_geti 1 5 la 15 dX4_count_56 fl_RX4_245 rfl (sL0 hLa) ?_
    exact E_ri dX4_count_59 rfl ⟨rfl, rfl⟩ hy
  replace hy := hy.2 h2
  refine ⟨fun h3 => ?_, fun h3 => ?_⟩
  · replace hy := hy.1 h3
    dsimp only
    refine E_aload_n 0 dX4_count_60 rfl rfl ?_
    refine E_getr 4 3 0 16 la dX4_count_61 fl_RX4_25 rfl sh_0 hla ?_
    refine E_geti 1 9 la 15 dX4_count_64 fl_RX4_198 rfl (sL0 hLa) ?_
    exact E_ri dX4_count_67 rfl ⟨rfl, rfl⟩ hy
  replace hy := hy.2 h3
  refine ⟨fun h4 => ?_, fun h4 => ?_⟩
  · replace hy := hy.1 h4
    dsimp only
    refine E_aload_n 0 dX4_count_68 rfl rfl ?_
    refine E_getr 4 3 0 16 la dX4_count_69 fl_RX4_25 rfl sh_0 hla ?_
    refine E_geti 1 11 la 15 dX4_count_72 fl_RX4_146 rfl (sL0 hLa) ?_
    exact E_ri dX4_count_75 rfl ⟨rfl, rfl⟩ hy
  replace hy := hy.2 h4
  refine ⟨fun h5 => ?_, fun h5 => ?_⟩
  · replace hy := hy.1 h5
    dsimp only
    refine E_aload_n 0 dX4_count_76 rfl rfl ?_
    refine E_getr 4 3 0 16 la dX4_count_77 fl_RX4_25 rfl sh_0 hla ?_
    refine E_geti 1 12 la 15 dX4_count_80 fl_RX4_248 rfl (sL0 hLa) ?_
    exact E_ri dX4_count_83 rfl ⟨rfl, rfl⟩ hy
  replace hy := hy.2 h5
  refine ⟨fun h6 => ?_, fun h6 => ?_⟩
  · replace hy := hy.1 h6
    dsimp only
    refine E_aload_n 0 dX4_count_84 rfl rfl ?_
    refine E_geti 4 13 0 16 dX4_count_85 fl_RX4_82 rfl sh_0 ?_
    exact E_ri dX4_count_88 rfl ⟨rfl, rfl⟩ hy
  replace hy := hy.2 h6
  refine ⟨fun h7 => ?_, fun h7 => ?_⟩
  · replace hy := hy.1 h7
    dsimp only
    refine E_aload_n 0 dX4_count_89 rfl rfl ?_
    refine E_geti 4 1 0 16 dX4_count_90 fl_RX4_71 rfl sh_0 ?_
    exact E_ri dX4_count_93 rfl ⟨rfl, rfl⟩ hy
  replace hy := hy.2 h7
  show Ev d mX4_count 136 94 [some (.ref 0), some (.int x1)] [] 136 I G J Φ
  refine E_iconst (-1 : Int32) dX4_count_94 rfl ?_
  exact E_ri dX4_count_95 rfl ⟨rfl, rfl⟩ hy
set_option maxRecDepth 100000 in
theorem w_X4_crew {d : Nat} {I : MI} {G : MG} {J : MJ} {Φ : Ph} (hG : WG G) {la : Nat} (hLa : isL la) (hla : G 0 3 = some la) (x1 : Int32) (hy : Ev d mX1_hasHill 136 0 [some (.ref la), some (.int x1)] [] 136 I G J (fun r n I1 G1 J1 => ∃ v1 : Int32, r = some (.int v1) ∧ n = 136 ∧ I = I1 ∧ G = G1 ∧ J = J1 ∧ ((¬ v1 = 0 → Ev d mX2_needOf 136 0 [some (.ref 22), some (.ref la), some (.int x1)] [] 136 I G J (fun r n I3 G3 J3 => ∃ v3 : Int32, r = some (.int v3) ∧ n = 136 ∧ I = I3 ∧ G = G3 ∧ J = J3 ∧ (Ev (d + 1) mX4_crew 136 32 [some (.ref 0), some (.int x1), some (.int v3), some (.int (-9 : Int32)), some (.int (1 : Int32)), none] [] 136 I G J Φ))) ∧ (v1 = 0 → Φ (some (.int (-1 : Int32))) 136 I G J)))) : Ev (d + 1) mX4_crew 136 0 [some (.ref 0), some (.int x1), none, none, none, none] [] 136 I G J Φ := by
  refine E_aload_n 0 dX4_crew_0 rfl rfl ?_
  refine E_getr 4 3 0 16 la dX4_crew_1 fl_RX4_25 rfl sh_0 hla ?_
  refine E_iload_n 1 dX4_crew_4 rfl rfl ?_
  refine E_cv (M := mX4_crew) (pc := 5) (As := [.int x1]) (st := []) mX1_hasHill 1 1 15 dX4_crew_5 lk_RX4_85 ⟨_, rfl, rfl⟩ (sL0 hLa) rfl (Nat.le_of_ble_eq_true rfl) ⟨rfl, rfl⟩ (Nat.le_of_ble_eq_true rfl) rfl hy ?_
  rintro r n I1 G1 J1 ⟨v1, rfl, rfl, rfl, rfl, rfl, hy⟩
  show Ev (d + 1) mX4_crew 136 8 [some (.ref 0), some (.int x1), none, none, none, none] [.int v1] 136 I G J Φ
  refine E_if_ne 13 dX4_crew_8 rfl (fun h2 => ?_) (fun h2 => ?_)
  · replace hy := hy.1 h2
    refine E_aload_n 0 dX4_crew_13 rfl rfl ?_
    refine E_getr 4 5 0 16 22 dX4_crew_14 fl_RX4_35 rfl sh_0 (wg_0_5 hG) ?_
    refine E_aload_n 0 dX4_crew_17 rfl rfl ?_
    refine E_getr 4 3 0 16 la dX4_crew_18 fl_RX4_25 rfl sh_0 hla ?_
    refine E_iload_n 1 dX4_crew_21 rfl rfl ?_
    refine E_cv (M := mX4_crew) (pc := 22) (As := [.ref la, .int x1]) (st := []) mX2_needOf 2 2 8 dX4_crew_22 lk_RX4_195 ⟨_, rfl, rfl⟩ (sM0 isM_22) rfl (Nat.le_of_ble_eq_true rfl) ⟨rfl, rfl⟩ (Nat.le_of_ble_eq_true rfl) rfl hy ?_
    rintro r n I3 G3 J3 ⟨v3, rfl, rfl, rfl, rfl, rfl, hy⟩
    show Ev (d + 1) mX4_crew 136 25 [some (.ref 0), some (.int x1), none, none, none, none] [.int v3] 136 I G J Φ
    refine E_istore_n 2 dX4_crew_25 rfl (Nat.le_of_ble_eq_true rfl) (?_ : Ev (d + 1) mX4_crew 136 26 [some (.ref 0), some (.int x1), some (.int v3), none, none, none] [] 136 I G J Φ)
    refine E_bipush (-9 : Int32) dX4_crew_26 rfl ?_
    refine E_istore_n 3 dX4_crew_28 rfl (Nat.le_of_ble_eq_true rfl) (?_ : Ev (d + 1) mX4_crew 136 29 [some (.ref 0), some (.int x1), some (.int v3), some (.int (-9 : Int32)), none, none] [] 136 I G J Φ)
    refine E_iconst (1 : Int32) dX4_crew_29 rfl ?_
    refine E_istore dX4_crew_30 (Nat.le_of_ble_eq_true rfl) (?_ : Ev (d + 1) mX4_crew 136 32 [some (.ref 0), some (.int x1), some (.int v3), some (.int (-9 : Int32)), some (.int (1 : Int32)), none] [] 136 I G J Φ)
    exact hy
  · replace hy := hy.2 (Decidable.not_not.mp h2)
    refine E_iconst (-1 : Int32) dX4_crew_11 rfl ?_
    exact E_ri dX4_crew_12 rfl ⟨rfl, rfl⟩ hy
set_option maxRecDepth 100000 in
theorem w_X4_crew_32 {d : Nat} {I : MI} {G : MG} {J : MJ} {Φ : Ph} (hG : WG G) {la : Nat} (hLa : isL la) (hla : G 0 3 = some la)  (x1 : Int32) (x2 : Int32) (x3 : Int32) (x4 : Int32) (hy : (((1 : Int32) <<< ((I la 9) &&& 31)) ≤ x4 → Φ (some (.int x3)) 136 I G J) ∧ (¬ ((1 : Int32) <<< ((I la 9) &&& 31)) ≤ x4 → (x3 = (-9 : Int32) → Ev d mX1_forceOf 136 0 [some (.ref la), some (.int x4), none, none] [] 136 I G J (fun r n I4 G4 J4 => ∃ v4 : Int32, r = some (.int v4) ∧ n = 136 ∧ I = I4 ∧ G = G4 ∧ J = J4 ∧ ((v4 < x2 → Ev (d + 1) mX4_crew 136 32 [some (.ref 0), some (.int x1), some (.int x2), some (.int x3), some (.int (x4 + (1 : Int32))), none] [] 136 I G J Φ) ∧ (¬ v4 < x2 → Ev (d + 1) mX4_crew 136 32 [some (.ref 0), some (.int x1), some (.int x2), some (.int x4), some (.int (x4 + (1 : Int32))), none] [] 136 I G J Φ)))) ∧ (¬ x3 = (-9 : Int32) → Ev d mJ6_bitCount_0f7a4 136 0 [some (.int x4)] [] 136 I G J (fun r n I6 G6 J6 => ∃ v6 : Int32, r = some (.int v6) ∧ n = 136 ∧ I = I6 ∧ G = G6 ∧ J = J6 ∧ (Ev d mJ6_bitCount_0f7a4 136 0 [some (.int x3)] [] 136 I G J (fun r n I7 G7 J7 => ∃ v7 : Int32, r = some (.int v7) ∧ n = 136 ∧ I = I7 ∧ G = G7 ∧ J = J7 ∧ ((v7 ≤ v6 → Ev (d + 1) mX4_crew 136 32 [some (.ref 0), some (.int x1), some (.int x2), some (.int x3), some (.int (x4 + (1 : Int32))), none] [] 136 I G J Φ) ∧ (¬ v7 ≤ v6 → Ev d mX1_forceOf 136 0 [some (.ref la), some (.int x4), none, none] [] 136 I G J (fun r n I11 G11 J11 => ∃ v11 : Int32, r = some (.int v11) ∧ n = 136 ∧ I = I11 ∧ G = G11 ∧ J = J11 ∧ ((v11 < x2 → Ev (d + 1) mX4_crew 136 32 [some (.ref 0), some (.int x1), some (.int x2), some (.int x3), some (.int (x4 + (1 : Int32))), none] [] 136 I G J Φ) ∧ (¬ v11 < x2 → Ev (d + 1) mX4_crew 136 32 [some (.ref 0), some (.int x1), some (.int x2), some (.int x4), some (.int (x4 + (1 : Int32))), none] [] 136 I G J Φ))))))))))) : Ev (d + 1) mX4_crew 136 32 [some (.ref 0), some (.int x1), some (.int x2), some (.int x3), some (.int x4), none] [] 136 I G J Φ := by
  refine E_iload dX4_crew_32 rfl ?_
  refine E_iconst (1 : Int32) dX4_crew_34 rfl ?_
  refine E_aload_n 0 dX4_crew_35 rfl rfl ?_
  refine E_getr 4 3 0 16 la dX4_crew_36 fl_RX4_25 rfl sh_0 hla ?_
  refine E_geti 1 9 la 15 dX4_crew_39 fl_RX4_198 rfl (sL0 hLa) ?_
  refine E_ishl dX4_crew_42 ?_
  refine E_icmp_ge 98 dX4_crew_43 rfl (fun h1 => ?_) (fun h1 => ?_)
  · replace hy := hy.1 h1
    refine E_iload_n 3 dX4_crew_98 rfl rfl ?_
    exact E_ri dX4_crew_99 rfl ⟨rfl, rfl⟩ hy
  · replace hy := hy.2 h1
    refine E_iload_n 3 dX4_crew_46 rfl rfl ?_
    refine E_bipush (-9 : Int32) dX4_crew_47 rfl ?_
    refine E_icmp_eq 64 dX4_crew_49 rfl (fun h2 => ?_) (fun h2 => ?_)
    · replace hy := hy.1 h2
      refine E_iconst (1 : Int32) dX4_crew_64 rfl ?_
      refine E_goto 69 dX4_crew_65 rfl ?_
      refine E_istore dX4_crew_69 (Nat.le_of_ble_eq_true rfl) (?_ : Ev (d + 1) mX4_crew 136 71 [some (.ref 0), some (.int x1), some (.int x2), some (.int x3), some (.int x4), some (.int (1 : Int32))] [] 136 I G J Φ)
      refine E_iload dX4_crew_71 rfl ?_
      refine E_if_eq 92 dX4_crew_73 rfl (fun h3 => ?_) (fun h3 => ?_)
      · exact absurd h3 (by decide)
      refine E_aload_n 0 dX4_crew_76 rfl rfl ?_
      refine E_getr 4 3 0 16 la dX4_crew_77 fl_RX4_25 rfl sh_0 hla ?_
      refine E_iload dX4_crew_80 rfl ?_
      refine E_cv (M := mX4_crew) (pc := 82) (As := [.int x4]) (st := []) mX1_forceOf 1 1 15 dX4_crew_82 lk_RX4_207 ⟨_, rfl, rfl⟩ (sL0 hLa) rfl (Nat.le_of_ble_eq_true rfl) ⟨rfl, rfl⟩ (Nat.le_of_ble_eq_true rfl) rfl hy ?_
      rintro r n I4 G4 J4 ⟨v4, rfl, rfl, rfl, rfl, rfl, hy⟩
      show Ev (d + 1) mX4_crew 136 85 [some (.ref 0), some (.int x1), some (.int x2), some (.int x3), some (.int x4), some (.int (1 : Int32))] [.int v4] 136 I G J Φ
      refine E_iload_n 2 dX4_crew_85 rfl rfl ?_
      refine E_icmp_lt 92 dX4_crew_86 rfl (fun h5 => ?_) (fun h5 => ?_)
      · replace hy := hy.1 h5
        refine E_iinc (x4 + (1 : Int32)) dX4_crew_92 rfl rfl (Nat.le_of_ble_eq_true rfl) (?_ : Ev (d + 1) mX4_crew 136 95 [some (.ref 0), some (.int x1), some (.int x2), some (.int x3), some (.int (x4 + (1 : Int32))), some (.int (1 : Int32))] [] 136 I G J Φ)
        refine E_goto 32 dX4_crew_95 rfl ?_
        refine E_wk (ls2 := [some (.ref 0), some (.int x1), some (.int x2), some (.int x3), some (.int (x4 + (1 : Int32))), none]) ⟨rfl, rfl, rfl, rfl, rfl, trivial⟩ ?_
        exact hy
      · replace hy := hy.2 h5
        refine E_iload dX4_crew_89 rfl ?_
        refine E_istore_n 3 dX4_crew_91 rfl (Nat.le_of_ble_eq_true rfl) (?_ : Ev (d + 1) mX4_crew 136 92 [some (.ref 0), some (.int x1), some (.int x2), some (.int x4), some (.int x4), some (.int (1 : Int32))] [] 136 I G J Φ)
        refine E_iinc (x4 + (1 : Int32)) dX4_crew_92 rfl rfl (Nat.le_of_ble_eq_true rfl) (?_ : Ev (d + 1) mX4_crew 136 95 [some (.ref 0), some (.int x1), some (.int x2), some (.int x4), some (.int (x4 + (1 : Int32))), some (.int (1 : Int32))] [] 136 I G J Φ)
        refine E_goto 32 dX4_crew_95 rfl ?_
        refine E_wk (ls2 := [some (.ref 0), some (.int x1), some (.int x2), some (.int x4), some (.int (x4 + (1 : Int32))), none]) ⟨rfl, rfl, rfl, rfl, rfl, trivial⟩ ?_
        exact hy
    · replace hy := hy.2 h2
      refine E_iload dX4_crew_52 rfl ?_
      refine E_cs (M := mX4_crew) (pc := 54) (As := [.int x4]) (st := []) mJ6_bitCount_0f7a4 1 dX4_crew_54 lk_RX4_201 rfl (Nat.le_of_ble_eq_true rfl) ⟨rfl, rfl⟩ (Nat.le_of_ble_eq_true rfl) rfl hy ?_
      rintro r n I6 G6 J6 ⟨v6, rfl, rfl, rfl, rfl, rfl, hy⟩
      show Ev (d + 1) mX4_crew 136 57 [some (.ref 0), some (.int x1), some (.int x2), some (.int x3), some (.int x4), none] [.int v6] 136 I G J Φ
      refine E_iload_n 3 dX4_crew_57 rfl rfl ?_
      refine E_cs (M := mX4_crew) (pc := 58) (As := [.int x3]) (st := [.int v6]) mJ6_bitCount_0f7a4 1 dX4_crew_58 lk_RX4_201 rfl (Nat.le_of_ble_eq_true rfl) ⟨rfl, rfl⟩ (Nat.le_of_ble_eq_true rfl) rfl hy ?_
      rintro r n I7 G7 J7 ⟨v7, rfl, rfl, rfl, rfl, rfl, hy⟩
      show Ev (d + 1) mX4_crew 136 61 [some (.ref 0), some (.int x1), some (.int x2), some (.int x3), some (.int x4), none] [.int v7, .int v6] 136 I G J Φ
      refine E_icmp_ge 68 dX4_crew_61 rfl (fun h8 => ?_) (fun h8 => ?_)
      · replace hy := hy.1 h8
        refine E_iconst (0 : Int32) dX4_crew_68 rfl ?_
        refine E_istore dX4_crew_69 (Nat.le_of_ble_eq_true rfl) (?_ : Ev (d + 1) mX4_crew 136 71 [some (.ref 0), some (.int x1), some (.int x2), some (.int x3), some (.int x4), some (.int (0 : Int32))] [] 136 I G J Φ)
        refine E_iload dX4_crew_71 rfl ?_
        refine E_if_eq 92 dX4_crew_73 rfl (fun h9 => ?_) (fun h9 => ?_)
        rotate_left
        · exact absurd (by decide) h9
        refine E_iinc (x4 + (1 : Int32)) dX4_crew_92 rfl rfl (Nat.le_of_ble_eq_true rfl) (?_ : Ev (d + 1) mX4_crew 136 95 [some (.ref 0), some (.int x1), some (.int x2), some (.int x3), some (.int (x4 + (1 : Int32))), some (.int (0 : Int32))] [] 136 I G J Φ)
        refine E_goto 32 dX4_crew_95 rfl ?_
        refine E_wk (ls2 := [some (.ref 0), some (.int x1), some (.int x2), some (.int x3), some (.int (x4 + (1 : Int32))), none]) ⟨rfl, rfl, rfl, rfl, rfl, trivial⟩ ?_
        exact hy
      · replace hy := hy.2 h8
        refine E_iconst (1 : Int32) dX4_crew_64 rfl ?_
        refine E_goto 69 dX4_crew_65 rfl ?_
        refine E_istore dX4_crew_69 (Nat.le_of_ble_eq_true rfl) (?_ : Ev (d + 1) mX4_crew 136 71 [some (.ref 0), some (.int x1), some (.int x2), some (.int x3), some (.int x4), some (.int (1 : Int32))] [] 136 I G J Φ)
        refine E_iload dX4_crew_71 rfl ?_
        refine E_if_eq 92 dX4_crew_73 rfl (fun h10 => ?_) (fun h10 => ?_)
        · exact absurd h10 (by decide)
        refine E_aload_n 0 dX4_crew_76 rfl rfl ?_
        refine E_getr 4 3 0 16 la dX4_crew_77 fl_RX4_25 rfl sh_0 hla ?_
        refine E_iload dX4_crew_80 rfl ?_
        refine E_cv (M := mX4_crew) (pc := 82) (As := [.int x4]) (st := []) mX1_forceOf 1 1 15 dX4_crew_82 lk_RX4_207 ⟨_, rfl, rfl⟩ (sL0 hLa) rfl (Nat.le_of_ble_eq_true rfl) ⟨rfl, rfl⟩ (Nat.le_of_ble_eq_true rfl) rfl hy ?_
        rintro r n I11 G11 J11 ⟨v11, rfl, rfl, rfl, rfl, rfl, hy⟩
        show Ev (d + 1) mX4_crew 136 85 [some (.ref 0), some (.int x1), some (.int x2), some (.int x3), some (.int x4), some (.int (1 : Int32))] [.int v11] 136 I G J Φ
        refine E_iload_n 2 dX4_crew_85 rfl rfl ?_
        refine E_icmp_lt 92 dX4_crew_86 rfl (fun h12 => ?_) (fun h12 => ?_)
        · replace hy := hy.1 h12
          refine E_iinc (x4 + (1 : Int32)) dX4_crew_92 rfl rfl (Nat.le_of_ble_eq_true rfl) (?_ : Ev (d + 1) mX4_crew 136 95 [some (.ref 0), some (.int x1), some (.int x2), some (.int x3), some (.int (x4 + (1 : Int32))), some (.int (1 : Int32))] [] 136 I G J Φ)
          refine E_goto 32 dX4_crew_95 rfl ?_
          refine E_wk (ls2 := [some (.ref 0), some (.int x1), some (.int x2), some (.int x3), some (.int (x4 + (1 : Int32))), none]) ⟨rfl, rfl, rfl, rfl, rfl, trivial⟩ ?_
          exact hy
        · replace hy := hy.2 h12
          refine E_iload dX4_crew_89 rfl ?_
          refine E_istore_n 3 dX4_crew_91 rfl (Nat.le_of_ble_eq_true rfl) (?_ : Ev (d + 1) mX4_crew 136 92 [some (.ref 0), some (.int x1), some (.int x2), some (.int x4), some (.int x4), some (.int (1 : Int32))] [] 136 I G J Φ)
          refine E_iinc (x4 + (1 : Int32)) dX4_crew_92 rfl rfl (Nat.le_of_ble_eq_true rfl) (?_ : Ev (d + 1) mX4_crew 136 95 [some (.ref 0), some (.int x1), some (.int x2), some (.int x4), some (.int (x4 + (1 : Int32))), some (.int (1 : Int32))] [] 136 I G J Φ)
          refine E_goto 32 dX4_crew_95 rfl ?_
          refine E_wk (ls2 := [some (.ref 0), some (.int x1), some (.int x2), some (.int x4), some (.int (x4 + (1 : Int32))), none]) ⟨rfl, rfl, rfl, rfl, rfl, trivial⟩ ?_
          exact hy
set_option maxRecDepth 100000 in
theorem w_X4_days {d : Nat} {I : MI} {G : MG} {J : MJ} {Φ : Ph} (hG : WG G) {la : Nat} (hLa : isL la) (hla : G 0 3 = some la) (x1 : Int32) (hy : Ev d mX1_hasHill 136 0 [some (.ref la), some (.int x1)] [] 136 I G J (fun r n I1 G1 J1 => ∃ v1 : Int32, r = some (.int v1) ∧ n = 136 ∧ I = I1 ∧ G = G1 ∧ J = J1 ∧ ((¬ v1 = 0 → Ev d mX2_isOver 136 0 [some (.ref 22), some (.ref la), some (.int x1)] [] 136 I G J (fun r n I3 G3 J3 => ∃ v3 : Int32, r = some (.int v3) ∧ n = 136 ∧ I = I3 ∧ G = G3 ∧ J = J3 ∧ ((v3 = 0 → Ev d mX4_allPush 136 0 [some (.ref 0), some (.int x1), none] [] 136 I G J (fun r n I5 G5 J5 => r = none ∧ n = 136 ∧ G = G5 ∧ J = J5 ∧ (Ev (d + 1) mX4_days 136 37 [some (.ref 0), some (.int x1), some (.int (1 : Int32))] [] 136 I5 G J Φ))) ∧ (¬ v3 = 0 → Φ (some (.int (0 : Int32))) 136 I G J)))) ∧ (v1 = 0 → Φ (some (.int (-1 : Int32))) 136 I G J)))) : Ev (d + 1) mX4_days 136 0 [some (.ref 0), some (.int x1), none] [] 136 I G J Φ := by
  refine E_aload_n 0 dX4_days_0 rfl rfl ?_
  refine E_getr 4 3 0 16 la dX4_days_1 fl_RX4_25 rfl sh_0 hla ?_
  refine E_iload_n 1 dX4_days_4 rfl rfl ?_
  refine E_cv (M := mX4_days) (pc := 5) (As := [.int x1]) (st := []) mX1_hasHill 1 1 15 dX4_days_5 lk_RX4_85 ⟨_, rfl, rfl⟩ (sL0 hLa) rfl (Nat.le_of_ble_eq_true rfl) ⟨rfl, rfl⟩ (Nat.le_of_ble_eq_true rfl) rfl hy ?_
  rintro r n I1 G1 J1 ⟨v1, rfl, rfl, rfl, rfl, rfl, hy⟩
  show Ev (d + 1) mX4_days 136 8 [some (.ref 0), some (.int x1), none] [.int v1] 136 I G J Φ
  refine E_if_ne 13 dX4_days_8 rfl (fun h2 => ?_) (fun h2 => ?_)
  · replace hy := hy.1 h2
    refine E_aload_n 0 dX4_days_13 rfl rfl ?_
    refine E_getr 4 5 0 16 22 dX4_days_14 fl_RX4_35 rfl sh_0 (wg_0_5 hG) ?_
    refine E_aload_n 0 dX4_days_17 rfl rfl ?_
    refine E_getr 4 3 0 16 la dX4_days_18 fl_RX4_25 rfl sh_0 hla ?_
    refine E_iload_n 1 dX4_days_21 rfl rfl ?_
    refine E_cv (M := mX4_days) (pc := 22) (As := [.ref la, .int x1]) (st := []) mX2_isOver 2 2 8 dX4_days_22 lk_RX4_111 ⟨_, rfl, rfl⟩ (sM0 isM_22) rfl (Nat.le_of_ble_eq_true rfl) ⟨rfl, rfl⟩ (Nat.le_of_ble_eq_true rfl) rfl hy ?_
    rintro r n I3 G3 J3 ⟨v3, rfl, rfl, rfl, rfl, rfl, hy⟩
    show Ev (d + 1) mX4_days 136 25 [some (.ref 0), some (.int x1), none] [.int v3] 136 I G J Φ
    refine E_if_eq 30 dX4_days_25 rfl (fun h4 => ?_) (fun h4 => ?_)
    · replace hy := hy.1 h4
      refine E_aload_n 0 dX4_days_30 rfl rfl ?_
      refine E_iload_n 1 dX4_days_31 rfl rfl ?_
      refine E_cv (M := mX4_days) (pc := 32) (As := [.int x1]) (st := []) mX4_allPush 1 4 16 dX4_days_32 lk_RX4_176 ⟨_, rfl, rfl⟩ sh_0 rfl (Nat.le_of_ble_eq_true rfl) ⟨rfl, rfl⟩ (Nat.le_of_ble_eq_true rfl) rfl hy ?_
      rintro r n I5 G5 J5 ⟨rfl, rfl, rfl, rfl, hy⟩
      show Ev (d + 1) mX4_days 136 35 [some (.ref 0), some (.int x1), none] [] 136 I5 G J Φ
      refine E_iconst (1 : Int32) dX4_days_35 rfl ?_
      refine E_istore_n 2 dX4_days_36 rfl (Nat.le_of_ble_eq_true rfl) (?_ : Ev (d + 1) mX4_days 136 37 [some (.ref 0), some (.int x1), some (.int (1 : Int32))] [] 136 I5 G J Φ)
      exact hy
    · replace hy := hy.2 h4
      refine E_iconst (0 : Int32) dX4_days_28 rfl ?_
      exact E_ri dX4_days_29 rfl ⟨rfl, rfl⟩ hy
  · replace hy := hy.2 (Decidable.not_not.mp h2)
    refine E_iconst (-1 : Int32) dX4_days_11 rfl ?_
    exact E_ri dX4_days_12 rfl ⟨rfl, rfl⟩ hy
set_option maxRecDepth 100000 in
theorem w_X4_days_37 {d : Nat} {I : MI} {G : MG} {J : MJ} {Φ : Ph} (hG : WG G) {la : Nat} (hLa : isL la) (hla : G 0 3 = some la)  (x1 : Int32) (x2 : Int32) (hy : ((60 : Int32) < x2 → Φ (some (.int (-9 : Int32))) 136 I G J) ∧ (¬ (60 : Int32) < x2 → Ev d mX2_passDay 136 0 [some (.ref 28), some (.ref la), none, none] [] 136 I G J (fun r n I2 G2 J2 => r = none ∧ n = 136 ∧ G = G2 ∧ J = J2 ∧ (Ev d mX2_isOver 136 0 [some (.ref 28), some (.ref la), some (.int x1)] [] 136 I2 G J (fun r n I3 G3 J3 => ∃ v3 : Int32, r = some (.int v3) ∧ n = 136 ∧ I2 = I3 ∧ G = G3 ∧ J = J3 ∧ ((v3 = 0 → Ev d mX1_rainsOn 136 0 [some (.ref la), some (.int (I2 28 0))] [] 136 I2 G J (fun r n I5 G5 J5 => ∃ v5 : Int32, r = some (.int v5) ∧ n = 136 ∧ I2 = I5 ∧ G = G5 ∧ J = J5 ∧ (Ev d mX2_fallDusk 136 0 [some (.ref 28), some (.ref la), some (.int v5), none, none] [] 136 I2 G J (fun r n I6 G6 J6 => r = none ∧ n = 136 ∧ G = G6 ∧ J = J6 ∧ (Ev (d + 1) mX4_days 136 37 [some (.ref 0), some (.int x1), some (.int (x2 + (1 : Int32)))] [] 136 I6 G J Φ))))) ∧ (¬ v3 = 0 → Φ (some (.int x2)) 136 I2 G J))))))) : Ev (d + 1) mX4_days 136 37 [some (.ref 0), some (.int x1), some (.int x2)] [] 136 I G J Φ := by
  refine E_iload_n 2 dX4_days_37 rfl rfl ?_
  refine E_bipush (60 : Int32) dX4_days_38 rfl ?_
  refine E_icmp_gt 102 dX4_days_40 rfl (fun h1 => ?_) (fun h1 => ?_)
  · replace hy := hy.1 h1
    refine E_bipush (-9 : Int32) dX4_days_102 rfl ?_
    exact E_ri dX4_days_104 rfl ⟨rfl, rfl⟩ hy
  · replace hy := hy.2 h1
    refine E_aload_n 0 dX4_days_43 rfl rfl ?_
    refine E_getr 4 6 0 16 28 dX4_days_44 fl_RX4_39 rfl sh_0 (wg_0_6 hG) ?_
    refine E_aload_n 0 dX4_days_47 rfl rfl ?_
    refine E_getr 4 3 0 16 la dX4_days_48 fl_RX4_25 rfl sh_0 hla ?_
    refine E_cv (M := mX4_days) (pc := 51) (As := [.ref la]) (st := []) mX2_passDay 1 2 8 dX4_days_51 lk_RX4_180 ⟨_, rfl, rfl⟩ (sM0 isM_28) rfl (Nat.le_of_ble_eq_true rfl) ⟨rfl, rfl⟩ (Nat.le_of_ble_eq_true rfl) rfl hy ?_
    rintro r n I2 G2 J2 ⟨rfl, rfl, rfl, rfl, hy⟩
    show Ev (d + 1) mX4_days 136 54 [some (.ref 0), some (.int x1), some (.int x2)] [] 136 I2 G J Φ
    refine E_aload_n 0 dX4_days_54 rfl rfl ?_
    refine E_getr 4 6 0 16 28 dX4_days_55 fl_RX4_39 rfl sh_0 (wg_0_6 hG) ?_
    refine E_aload_n 0 dX4_days_58 rfl rfl ?_
    refine E_getr 4 3 0 16 la dX4_days_59 fl_RX4_25 rfl sh_0 hla ?_
    refine E_iload_n 1 dX4_days_62 rfl rfl ?_
    refine E_cv (M := mX4_days) (pc := 63) (As := [.ref la, .int x1]) (st := []) mX2_isOver 2 2 8 dX4_days_63 lk_RX4_111 ⟨_, rfl, rfl⟩ (sM0 isM_28) rfl (Nat.le_of_ble_eq_true rfl) ⟨rfl, rfl⟩ (Nat.le_of_ble_eq_true rfl) rfl hy ?_
    rintro r n I3 G3 J3 ⟨v3, rfl, rfl, rfl, rfl, rfl, hy⟩
    show Ev (d + 1) mX4_days 136 66 [some (.ref 0), some (.int x1), some (.int x2)] [.int v3] 136 I2 G J Φ
    refine E_if_eq 71 dX4_days_66 rfl (fun h4 => ?_) (fun h4 => ?_)
    · replace hy := hy.1 h4
      refine E_aload_n 0 dX4_days_71 rfl rfl ?_
      refine E_getr 4 6 0 16 28 dX4_days_72 fl_RX4_39 rfl sh_0 (wg_0_6 hG) ?_
      refine E_aload_n 0 dX4_days_75 rfl rfl ?_
      refine E_getr 4 3 0 16 la dX4_days_76 fl_RX4_25 rfl sh_0 hla ?_
      refine E_aload_n 0 dX4_days_79 rfl rfl ?_
      refine E_getr 4 3 0 16 la dX4_days_80 fl_RX4_25 rfl sh_0 hla ?_
      refine E_aload_n 0 dX4_days_83 rfl rfl ?_
      refine E_getr 4 6 0 16 28 dX4_days_84 fl_RX4_39 rfl sh_0 (wg_0_6 hG) ?_
      refine E_geti 2 0 28 8 dX4_days_87 fl_RX4_127 rfl (sM0 isM_28) ?_
      refine E_cv (M := mX4_days) (pc := 90) (As := [.int (I2 28 0)]) (st := [.ref la, .ref 28]) mX1_rainsOn 1 1 15 dX4_days_90 lk_RX4_149 ⟨_, rfl, rfl⟩ (sL0 hLa) rfl (Nat.le_of_ble_eq_true rfl) ⟨rfl, rfl⟩ (Nat.le_of_ble_eq_true rfl) rfl hy ?_
      rintro r n I5 G5 J5 ⟨v5, rfl, rfl, rfl, rfl, rfl, hy⟩
      show Ev (d + 1) mX4_days 136 93 [some (.ref 0), some (.int x1), some (.int x2)] [.int v5, .ref la, .ref 28] 136 I2 G J Φ
      refine E_cv (M := mX4_days) (pc := 93) (As := [.ref la, .int v5]) (st := []) mX2_fallDusk 2 2 8 dX4_days_93 lk_RX4_152 ⟨_, rfl, rfl⟩ (sM0 isM_28) rfl (Nat.le_of_ble_eq_true rfl) ⟨rfl, rfl⟩ (Nat.le_of_ble_eq_true rfl) rfl hy ?_
      rintro r n I6 G6 J6 ⟨rfl, rfl, rfl, rfl, hy⟩
      show Ev (d + 1) mX4_days 136 96 [some (.ref 0), some (.int x1), some (.int x2)] [] 136 I6 G J Φ
      refine E_iinc (x2 + (1 : Int32)) dX4_days_96 rfl rfl (Nat.le_of_ble_eq_true rfl) (?_ : Ev (d + 1) mX4_days 136 99 [some (.ref 0), some (.int x1), some (.int (x2 + (1 : Int32)))] [] 136 I6 G J Φ)
      refine E_goto 37 dX4_days_99 rfl ?_
      exact hy
    · replace hy := hy.2 h4
      refine E_iload_n 2 dX4_days_69 rfl rfl ?_
      exact E_ri dX4_days_70 rfl ⟨rfl, rfl⟩ hy
set_option maxRecDepth 100000 in
theorem w_X4_evening {d : Nat} {I : MI} {G : MG} {J : MJ} {Φ : Ph} (hG : WG G)  (hy : Ev (d + 1) mX4_evening 136 4 [some (.ref 0), some (.int (0 : Int32)), some (.int (0 : Int32))] [] 136 I G J Φ) : Ev (d + 1) mX4_evening 136 0 [some (.ref 0), none, none] [] 136 I G J Φ := by
  refine E_iconst (0 : Int32) dX4_evening_0 rfl ?_
  refine E_istore_n 1 dX4_evening_1 rfl (Nat.le_of_ble_eq_true rfl) (?_ : Ev (d + 1) mX4_evening 136 2 [some (.ref 0), some (.int (0 : Int32)), none] [] 136 I G J Φ)
  refine E_iconst (0 : Int32) dX4_evening_2 rfl ?_
  refine E_istore_n 2 dX4_evening_3 rfl (Nat.le_of_ble_eq_true rfl) (?_ : Ev (d + 1) mX4_evening 136 4 [some (.ref 0), some (.int (0 : Int32)), some (.int (0 : Int32))] [] 136 I G J Φ)
  exact hy
set_option maxRecDepth 100000 in
theorem w_X4_evening_4 {d : Nat} {I : MI} {G : MG} {J : MJ} {Φ : Ph} (hG : WG G)  (x1 : Int32) (x2 : Int32) (hy : ((I 22 7) ≤ x2 → Φ (some (.int x1)) 136 I G J) ∧ (¬ (I 22 7) ≤ x2 → Ev d mX4_agrees 136 0 [some (.ref 0), some (.int x2), none] [] 136 I G J (fun r n I2 G2 J2 => ∃ v2 : Int32, r = some (.int v2) ∧ n = 136 ∧ I = I2 ∧ G = G2 ∧ J = J2 ∧ ((v2 = 0 → Ev (d + 1) mX4_evening 136 4 [some (.ref 0), some (.int x1), some (.int (x2 + (1 : Int32)))] [] 136 I G J Φ) ∧ (¬ v2 = 0 → Ev (d + 1) mX4_evening 136 4 [some (.ref 0), some (.int (x1 ||| ((1 : Int32) <<< (x2 &&& 31)))), some (.int (x2 + (1 : Int32)))] [] 136 I G J Φ))))) : Ev (d + 1) mX4_evening 136 4 [some (.ref 0), some (.int x1), some (.int x2)] [] 136 I G J Φ := by
  refine E_iload_n 2 dX4_evening_4 rfl rfl ?_
  refine E_aload_n 0 dX4_evening_5 rfl rfl ?_
  refine E_getr 4 5 0 16 22 dX4_evening_6 fl_RX4_35 rfl sh_0 (wg_0_5 hG) ?_
  refine E_geti 2 7 22 8 dX4_evening_9 fl_RX4_137 rfl (sM0 isM_22) ?_
  refine E_icmp_ge 35 dX4_evening_12 rfl (fun h1 => ?_) (fun h1 => ?_)
  · replace hy := hy.1 h1
    refine E_iload_n 1 dX4_evening_35 rfl rfl ?_
    exact E_ri dX4_evening_36 rfl ⟨rfl, rfl⟩ hy
  · replace hy := hy.2 h1
    refine E_aload_n 0 dX4_evening_15 rfl rfl ?_
    refine E_iload_n 2 dX4_evening_16 rfl rfl ?_
    refine E_cv (M := mX4_evening) (pc := 17) (As := [.int x2]) (st := []) mX4_agrees 1 4 16 dX4_evening_17 lk_RX4_217 ⟨_, rfl, rfl⟩ sh_0 rfl (Nat.le_of_ble_eq_true rfl) ⟨rfl, rfl⟩ (Nat.le_of_ble_eq_true rfl) rfl hy ?_
    rintro r n I2 G2 J2 ⟨v2, rfl, rfl, rfl, rfl, rfl, hy⟩
    show Ev (d + 1) mX4_evening 136 20 [some (.ref 0), some (.int x1), some (.int x2)] [.int v2] 136 I G J Φ
    refine E_if_eq 29 dX4_evening_20 rfl (fun h3 => ?_) (fun h3 => ?_)
    · replace hy := hy.1 h3
      refine E_iinc (x2 + (1 : Int32)) dX4_evening_29 rfl rfl (Nat.le_of_ble_eq_true rfl) (?_ : Ev (d + 1) mX4_evening 136 32 [some (.ref 0), some (.int x1), some (.int (x2 + (1 : Int32)))] [] 136 I G J Φ)
      refine E_goto 4 dX4_evening_32 rfl ?_
      exact hy
    · replace hy := hy.2 h3
      refine E_iload_n 1 dX4_evening_23 rfl rfl ?_
      refine E_iconst (1 : Int32) dX4_evening_24 rfl ?_
      refine E_iload_n 2 dX4_evening_25 rfl rfl ?_
      refine E_ishl dX4_evening_26 ?_
      refine E_ior dX4_evening_27 ?_
      refine E_istore_n 1 dX4_evening_28 rfl (Nat.le_of_ble_eq_true rfl) (?_ : Ev (d + 1) mX4_evening 136 29 [some (.ref 0), some (.int (x1 ||| ((1 : Int32) <<< (x2 &&& 31)))), some (.int x2)] [] 136 I G J Φ)
      refine E_iinc (x2 + (1 : Int32)) dX4_evening_29 rfl rfl (Nat.le_of_ble_eq_true rfl) (?_ : Ev (d + 1) mX4_evening 136 32 [some (.ref 0), some (.int (x1 ||| ((1 : Int32) <<< (x2 &&& 31)))), some (.int (x2 + (1 : Int32)))] [] 136 I G J Φ)
      refine E_goto 4 dX4_evening_32 rfl ?_
      exact hy
set_option maxRecDepth 100000 in
theorem w_X4_forget {d : Nat} {I : MI} {G : MG} {J : MJ} {Φ : Ph} (hG : WG G)  (hy : Φ (some (.int (I 0 13))) 136 (u2 I 0 13 (0 : Int32)) G J) : Ev d mX4_forget 136 0 [some (.ref 0), none] [] 136 I G J Φ := by
  refine E_aload_n 0 dX4_forget_0 rfl rfl ?_
  refine E_geti 4 13 0 16 dX4_forget_1 fl_RX4_82 rfl sh_0 ?_
  refine E_istore_n 1 dX4_forget_4 rfl (Nat.le_of_ble_eq_true rfl) (?_ : Ev d mX4_forget 136 5 [some (.ref 0), some (.int (I 0 13))] [] 136 I G J Φ)
  refine E_aload_n 0 dX4_forget_5 rfl rfl ?_
  refine E_iconst (0 : Int32) dX4_forget_6 rfl ?_
  refine E_puti 4 13 0 16 dX4_forget_7 fl_RX4_82 rfl sh_0 ⟨_, rfl, rfl⟩ rfl rfl ?_
  refine E_iload_n 1 dX4_forget_10 rfl rfl ?_
  exact E_ri dX4_forget_11 rfl ⟨rfl, rfl⟩ hy
set_option maxRecDepth 100000 in
theorem w_X4_highest {d : Nat} {I : MI} {G : MG} {J : MJ} {Φ : Ph} (hG : WG G) {la : Nat} (hLa : isL la) (hla : G 0 3 = some la) (x1 : Int32) (x2 : Int32) (hy : Ev d mX1_hasHill 136 0 [some (.ref la), some (.int x1)] [] 136 I G J (fun r n I1 G1 J1 => ∃ v1 : Int32, r = some (.int v1) ∧ n = 136 ∧ I = I1 ∧ G = G1 ∧ J = J1 ∧ ((v1 = 0 → Φ (some (.int (-1 : Int32))) 136 I G J) ∧ (¬ v1 = 0 → (0 ≤ x2 → Ev d mX2_hoursLeft 136 0 [some (.ref 22), some (.ref la)] [] 136 I G J (fun r n I4 G4 J4 => ∃ v4 : Int32, r = some (.int v4) ∧ n = 136 ∧ I = I4 ∧ G = G4 ∧ J = J4 ∧ ((v4 ≤ x2 → Φ (some (.int (-5 : Int32))) 136 I G J) ∧ (¬ v4 ≤ x2 → (x2 < (6 : Int32) → Ev d mX0_search 136 0 [some (.ref 39), some (.ref la), some (.ref 22), some (.int x1)] [] 136 I G J (fun r n I7 G7 J7 => r = none ∧ n = 136 ∧ G = G7 ∧ J = J7 ∧ ((¬ x2 = (-9 : Int32) → vp_in x2 6 ∧ (Φ (some (.int (I7 49 (x2).toNatClampNeg))) 136 I7 G J)) ∧ (x2 = (-9 : Int32) → vp_in x1 4 ∧ (Φ (some (.int ((I7 (22 + 1) (x1).toNatClampNeg) + (I7 39 3)))) 136 I7 G J))))) ∧ (¬ x2 < (6 : Int32) → Φ (some (.int (-5 : Int32))) 136 I G J))))) ∧ (¬ 0 ≤ x2 → (x2 = (-9 : Int32) → Ev d mX2_hoursLeft 136 0 [some (.ref 22), some (.ref la)] [] 136 I G J (fun r n I12 G12 J12 => ∃ v12 : Int32, r = some (.int v12) ∧ n = 136 ∧ I = I12 ∧ G = G12 ∧ J = J12 ∧ ((v12 ≤ x2 → Φ (some (.int (-5 : Int32))) 136 I G J) ∧ (¬ v12 ≤ x2 → (x2 < (6 : Int32) → Ev d mX0_search 136 0 [some (.ref 39), some (.ref la), some (.ref 22), some (.int x1)] [] 136 I G J (fun r n I15 G15 J15 => r = none ∧ n = 136 ∧ G = G15 ∧ J = J15 ∧ ((¬ x2 = (-9 : Int32) → vp_in x2 6 ∧ (Φ (some (.int (I15 49 (x2).toNatClampNeg))) 136 I15 G J)) ∧ (x2 = (-9 : Int32) → vp_in x1 4 ∧ (Φ (some (.int ((I15 (22 + 1) (x1).toNatClampNeg) + (I15 39 3)))) 136 I15 G J))))) ∧ (¬ x2 < (6 : Int32) → Φ (some (.int (-5 : Int32))) 136 I G J))))) ∧ (¬ x2 = (-9 : Int32) → Φ (some (.int (-1 : Int32))) 136 I G J)))))) : Ev (d + 1) mX4_highest 136 0 [some (.ref 0), some (.int x1), some (.int x2), none] [] 136 I G J Φ := by
  refine E_aload_n 0 dX4_highest_0 rfl rfl ?_
  refine E_getr 4 3 0 16 la dX4_highest_1 fl_RX4_25 rfl sh_0 hla ?_
  refine E_iload_n 1 dX4_highest_4 rfl rfl ?_
  refine E_cv (M := mX4_highest) (pc := 5) (As := [.int x1]) (st := []) mX1_hasHill 1 1 15 dX4_highest_5 lk_RX4_85 ⟨_, rfl, rfl⟩ (sL0 hLa) rfl (Nat.le_of_ble_eq_true rfl) ⟨rfl, rfl⟩ (Nat.le_of_ble_eq_true rfl) rfl hy ?_
  rintro r n I1 G1 J1 ⟨v1, rfl, rfl, rfl, rfl, rfl, hy⟩
  show Ev (d + 1) mX4_highest 136 8 [some (.ref 0), some (.int x1), some (.int x2), none] [.int v1] 136 I G J Φ
  refine E_if_eq 21 dX4_highest_8 rfl (fun h2 => ?_) (fun h2 => ?_)
  · replace hy := hy.1 h2
    refine E_iconst (-1 : Int32) dX4_highest_21 rfl ?_
    exact E_ri dX4_highest_22 rfl ⟨rfl, rfl⟩ hy
  · replace hy := hy.2 h2
    refine E_iload_n 2 dX4_highest_11 rfl rfl ?_
    refine E_if_ge 23 dX4_highest_12 rfl (fun h3 => ?_) (fun h3 => ?_)
    · replace hy := hy.1 h3
      refine E_aload_n 0 dX4_highest_23 rfl rfl ?_
      refine E_getr 4 5 0 16 22 dX4_highest_24 fl_RX4_35 rfl sh_0 (wg_0_5 hG) ?_
      refine E_aload_n 0 dX4_highest_27 rfl rfl ?_
      refine E_getr 4 3 0 16 la dX4_highest_28 fl_RX4_25 rfl sh_0 hla ?_
      refine E_cv (M := mX4_highest) (pc := 31) (As := [.ref la]) (st := []) mX2_hoursLeft 1 2 8 dX4_highest_31 lk_RX4_163 ⟨_, rfl, rfl⟩ (sM0 isM_22) rfl (Nat.le_of_ble_eq_true rfl) ⟨rfl, rfl⟩ (Nat.le_of_ble_eq_true rfl) rfl hy ?_
      rintro r n I4 G4 J4 ⟨v4, rfl, rfl, rfl, rfl, rfl, hy⟩
      show Ev (d + 1) mX4_highest 136 34 [some (.ref 0), some (.int x1), some (.int x2), none] [.int v4] 136 I G J Φ
      refine E_istore_n 3 dX4_highest_34 rfl (Nat.le_of_ble_eq_true rfl) (?_ : Ev (d + 1) mX4_highest 136 35 [some (.ref 0), some (.int x1), some (.int x2), some (.int v4)] [] 136 I G J Φ)
      refine E_iload_n 2 dX4_highest_35 rfl rfl ?_
      refine E_iload_n 3 dX4_highest_36 rfl rfl ?_
      refine E_icmp_ge 46 dX4_highest_37 rfl (fun h5 => ?_) (fun h5 => ?_)
      · replace hy := hy.1 h5
        refine E_bipush (-5 : Int32) dX4_highest_46 rfl ?_
        exact E_ri dX4_highest_48 rfl ⟨rfl, rfl⟩ hy
      · replace hy := hy.2 h5
        refine E_iload_n 2 dX4_highest_40 rfl rfl ?_
        refine E_bipush (6 : Int32) dX4_highest_41 rfl ?_
        refine E_icmp_lt 49 dX4_highest_43 rfl (fun h6 => ?_) (fun h6 => ?_)
        · replace hy := hy.1 h6
          refine E_aload_n 0 dX4_highest_49 rfl rfl ?_
          refine E_getr 4 14 0 16 39 dX4_highest_50 fl_RX4_63 rfl sh_0 (wg_0_14 hG) ?_
          refine E_aload_n 0 dX4_highest_53 rfl rfl ?_
          refine E_getr 4 3 0 16 la dX4_highest_54 fl_RX4_25 rfl sh_0 hla ?_
          refine E_aload_n 0 dX4_highest_57 rfl rfl ?_
          refine E_getr 4 5 0 16 22 dX4_highest_58 fl_RX4_35 rfl sh_0 (wg_0_5 hG) ?_
          refine E_iload_n 1 dX4_highest_61 rfl rfl ?_
          refine E_cv (M := mX4_highest) (pc := 62) (As := [.ref la, .ref 22, .int x1]) (st := []) mX0_search 3 0 7 dX4_highest_62 lk_RX4_166 ⟨_, rfl, rfl⟩ sh_39 rfl (Nat.le_of_ble_eq_true rfl) ⟨rfl, rfl⟩ (Nat.le_of_ble_eq_true rfl) rfl hy ?_
          rintro r n I7 G7 J7 ⟨rfl, rfl, rfl, rfl, hy⟩
          show Ev (d + 1) mX4_highest 136 65 [some (.ref 0), some (.int x1), some (.int x2), some (.int v4)] [] 136 I7 G J Φ
          refine E_iload_n 2 dX4_highest_65 rfl rfl ?_
          refine E_bipush (-9 : Int32) dX4_highest_66 rfl ?_
          refine E_icmp_ne 91 dX4_highest_68 rfl (fun h8 => ?_) (fun h8 => ?_)
          · replace hy := hy.1 h8
            refine E_aload_n 0 dX4_highest_91 rfl rfl ?_
            refine E_getr 4 14 0 16 39 dX4_highest_92 fl_RX4_63 rfl sh_0 (wg_0_14 hG) ?_
            refine E_getr 0 2 39 7 49 dX4_highest_95 fl_RX4_173 rfl sh_39 (wg_39_2 hG) ?_
            refine E_iload_n 2 dX4_highest_98 rfl rfl ?_
            have c9 := hy.1
            replace hy := hy.2
            refine E_ia 49 6 (x2).toNatClampNeg dX4_highest_99 sh_49 c9 rfl ?_
            exact E_ri dX4_highest_100 rfl ⟨rfl, rfl⟩ hy
          · replace hy := hy.2 (Decidable.not_not.mp h8)
            refine E_aload_n 0 dX4_highest_71 rfl rfl ?_
            refine E_getr 4 5 0 16 22 dX4_highest_72 fl_RX4_35 rfl sh_0 (wg_0_5 hG) ?_
            refine E_getr 2 2 22 8 (22 + 1) dX4_highest_75 fl_RX4_101 rfl (sM0 isM_22) (gM2 hG isM_22) ?_
            refine E_iload_n 1 dX4_highest_78 rfl rfl ?_
            have c10 := hy.1
            replace hy := hy.2
            refine E_ia (22 + 1) 4 (x1).toNatClampNeg dX4_highest_79 (sM1 isM_22) c10 rfl ?_
            refine E_aload_n 0 dX4_highest_80 rfl rfl ?_
            refine E_getr 4 14 0 16 39 dX4_highest_81 fl_RX4_63 rfl sh_0 (wg_0_14 hG) ?_
            refine E_geti 0 3 39 7 dX4_highest_84 fl_RX4_170 rfl sh_39 ?_
            refine E_iadd dX4_highest_87 ?_
            refine E_goto 100 dX4_highest_88 rfl ?_
            exact E_ri dX4_highest_100 rfl ⟨rfl, rfl⟩ hy
        · replace hy := hy.2 h6
          refine E_bipush (-5 : Int32) dX4_highest_46 rfl ?_
          exact E_ri dX4_highest_48 rfl ⟨rfl, rfl⟩ hy
    · replace hy := hy.2 h3
      refine E_iload_n 2 dX4_highest_15 rfl rfl ?_
      refine E_bipush (-9 : Int32) dX4_highest_16 rfl ?_
      refine E_icmp_eq 23 dX4_highest_18 rfl (fun h11 => ?_) (fun h11 => ?_)
      · replace hy := hy.1 h11
        refine E_aload_n 0 dX4_highest_23 rfl rfl ?_
        refine E_getr 4 5 0 16 22 dX4_highest_24 fl_RX4_35 rfl sh_0 (wg_0_5 hG) ?_
        refine E_aload_n 0 dX4_highest_27 rfl rfl ?_
        refine E_getr 4 3 0 16 la dX4_highest_28 fl_RX4_25 rfl sh_0 hla ?_
        refine E_cv (M := mX4_highest) (pc := 31) (As := [.ref la]) (st := []) mX2_hoursLeft 1 2 8 dX4_highest_31 lk_RX4_163 ⟨_, rfl, rfl⟩ (sM0 isM_22) rfl (Nat.le_of_ble_eq_true rfl) ⟨rfl, rfl⟩ (Nat.le_of_ble_eq_true rfl) rfl hy ?_
        rintro r n I12 G12 J12 ⟨v12, rfl, rfl, rfl, rfl, rfl, hy⟩
        show Ev (d + 1) mX4_highest 136 34 [some (.ref 0), some (.int x1), some (.int x2), none] [.int v12] 136 I G J Φ
        refine E_istore_n 3 dX4_highest_34 rfl (Nat.le_of_ble_eq_true rfl) (?_ : Ev (d + 1) mX4_highest 136 35 [some (.ref 0), some (.int x1), some (.int x2), some (.int v12)] [] 136 I G J Φ)
        refine E_iload_n 2 dX4_highest_35 rfl rfl ?_
        refine E_iload_n 3 dX4_highest_36 rfl rfl ?_
        refine E_icmp_ge 46 dX4_highest_37 rfl (fun h13 => ?_) (fun h13 => ?_)
        · replace hy := hy.1 h13
          refine E_bipush (-5 : Int32) dX4_highest_46 rfl ?_
          exact E_ri dX4_highest_48 rfl ⟨rfl, rfl⟩ hy
        · replace hy := hy.2 h13
          refine E_iload_n 2 dX4_highest_40 rfl rfl ?_
          refine E_bipush (6 : Int32) dX4_highest_41 rfl ?_
          refine E_icmp_lt 49 dX4_highest_43 rfl (fun h14 => ?_) (fun h14 => ?_)
          · replace hy := hy.1 h14
            refine E_aload_n 0 dX4_highest_49 rfl rfl ?_
            refine E_getr 4 14 0 16 39 dX4_highest_50 fl_RX4_63 rfl sh_0 (wg_0_14 hG) ?_
            refine E_aload_n 0 dX4_highest_53 rfl rfl ?_
            refine E_getr 4 3 0 16 la dX4_highest_54 fl_RX4_25 rfl sh_0 hla ?_
            refine E_aload_n 0 dX4_highest_57 rfl rfl ?_
            refine E_getr 4 5 0 16 22 dX4_highest_58 fl_RX4_35 rfl sh_0 (wg_0_5 hG) ?_
            refine E_iload_n 1 dX4_highest_61 rfl rfl ?_
            refine E_cv (M := mX4_highest) (pc := 62) (As := [.ref la, .ref 22, .int x1]) (st := []) mX0_search 3 0 7 dX4_highest_62 lk_RX4_166 ⟨_, rfl, rfl⟩ sh_39 rfl (Nat.le_of_ble_eq_true rfl) ⟨rfl, rfl⟩ (Nat.le_of_ble_eq_true rfl) rfl hy ?_
            rintro r n I15 G15 J15 ⟨rfl, rfl, rfl, rfl, hy⟩
            show Ev (d + 1) mX4_highest 136 65 [some (.ref 0), some (.int x1), some (.int x2), some (.int v12)] [] 136 I15 G J Φ
            refine E_iload_n 2 dX4_highest_65 rfl rfl ?_
            refine E_bipush (-9 : Int32) dX4_highest_66 rfl ?_
            refine E_icmp_ne 91 dX4_highest_68 rfl (fun h16 => ?_) (fun h16 => ?_)
            · replace hy := hy.1 h16
              refine E_aload_n 0 dX4_highest_91 rfl rfl ?_
              refine E_getr 4 14 0 16 39 dX4_highest_92 fl_RX4_63 rfl sh_0 (wg_0_14 hG) ?_
              refine E_getr 0 2 39 7 49 dX4_highest_95 fl_RX4_173 rfl sh_39 (wg_39_2 hG) ?_
              refine E_iload_n 2 dX4_highest_98 rfl rfl ?_
              have c17 := hy.1
              replace hy := hy.2
              refine E_ia 49 6 (x2).toNatClampNeg dX4_highest_99 sh_49 c17 rfl ?_
              exact E_ri dX4_highest_100 rfl ⟨rfl, rfl⟩ hy
            · replace hy := hy.2 (Decidable.not_not.mp h16)
              refine E_aload_n 0 dX4_highest_71 rfl rfl ?_
              refine E_getr 4 5 0 16 22 dX4_highest_72 fl_RX4_35 rfl sh_0 (wg_0_5 hG) ?_
              refine E_getr 2 2 22 8 (22 + 1) dX4_highest_75 fl_RX4_101 rfl (sM0 isM_22) (gM2 hG isM_22) ?_
              refine E_iload_n 1 dX4_highest_78 rfl rfl ?_
              have c18 := hy.1
              replace hy := hy.2
              refine E_ia (22 + 1) 4 (x1).toNatClampNeg dX4_highest_79 (sM1 isM_22) c18 rfl ?_
              refine E_aload_n 0 dX4_highest_80 rfl rfl ?_
              refine E_getr 4 14 0 16 39 dX4_highest_81 fl_RX4_63 rfl sh_0 (wg_0_14 hG) ?_
              refine E_geti 0 3 39 7 dX4_highest_84 fl_RX4_170 rfl sh_39 ?_
              refine E_iadd dX4_highest_87 ?_
              refine E_goto 100 dX4_highest_88 rfl ?_
              exact E_ri dX4_highest_100 rfl ⟨rfl, rfl⟩ hy
          · replace hy := hy.2 h14
            refine E_bipush (-5 : Int32) dX4_highest_46 rfl ?_
            exact E_ri dX4_highest_48 rfl ⟨rfl, rfl⟩ hy
      · replace hy := hy.2 h11
        refine E_iconst (-1 : Int32) dX4_highest_21 rfl ?_
        exact E_ri dX4_highest_22 rfl ⟨rfl, rfl⟩ hy
set_option maxRecDepth 100000 in
theorem w_X4_hill {d : Nat} {I : MI} {G : MG} {J : MJ} {Φ : Ph} (hG : WG G) {la : Nat} (hLa : isL la) (hla : G 0 3 = some la) (x1 : Int32) (x2 : Int32) (hy : Ev d mX1_hasHill 136 0 [some (.ref la), some (.int x1)] [] 136 I G J (fun r n I1 G1 J1 => ∃ v1 : Int32, r = some (.int v1) ∧ n = 136 ∧ I = I1 ∧ G = G1 ∧ J = J1 ∧ ((¬ v1 = 0 → (x2 = nI 0 → vp_in x1 4 ∧ (Φ (some (.int (I (la + 1) (x1).toNatClampNeg))) 136 I G J)) ∧ (¬ x2 = nI 0 → (x2 = nI 1 → vp_in x1 4 ∧ (Φ (some (.int (I (la + 2) (x1).toNatClampNeg))) 136 I G J)) ∧ (¬ x2 = nI 1 → (x2 = nI 2 → vp_in x1 4 ∧ (Φ (some (.int (I (la + 3) (x1).toNatClampNeg))) 136 I G J)) ∧ (¬ x2 = nI 2 → (x2 = nI 3 → vp_in x1 4 ∧ (Φ (some (.int (I (la + 4) (x1).toNatClampNeg))) 136 I G J)) ∧ (¬ x2 = nI 3 → Φ (some (.int (-1 : Int32))) 136 I G J))))) ∧ (v1 = 0 → Φ (some (.int (-1 : Int32))) 136 I G J)))) : Ev (d + 1) mX4_hill 136 0 [some (.ref 0), some (.int x1), some (.int x2)] [] 136 I G J Φ := by
  refine E_aload_n 0 dX4_hill_0 rfl rfl ?_
  refine E_getr 4 3 0 16 la dX4_hill_1 fl_RX4_25 rfl sh_0 hla ?_
  refine E_iload_n 1 dX4_hill_4 rfl rfl ?_
  refine E_cv (M := mX4_hill) (pc := 5) (As := [.int x1]) (st := []) mX1_hasHill 1 1 15 dX4_hill_5 lk_RX4_85 ⟨_, rfl, rfl⟩ (sL0 hLa) rfl (Nat.le_of_ble_eq_true rfl) ⟨rfl, rfl⟩ (Nat.le_of_ble_eq_true rfl) rfl hy ?_
  rintro r n I1 G1 J1 ⟨v1, rfl, rfl, rfl, rfl, rfl, hy⟩
  show Ev (d + 1) mX4_hill 136 8 [some (.ref 0), some (.int x1), some (.int x2)] [.int v1] 136 I G J Φ
  refine E_if_ne 13 dX4_hill_8 rfl (fun h2 => ?_) (fun h2 => ?_)
  · replace hy := hy.1 h2
    refine E_iload_n 2 dX4_hill_13 rfl rfl ?_
    refine E_tsw 0 [44, 54, 64, 74] 84 dX4_hill_14 rfl rfl rfl (by decide) ?_
    refine ⟨fun h7 => ?_, fun h7 => ?_⟩
    · replace hy := hy.1 h7
      dsimp only
      refine E_aload_n 0 dX4_hill_44 rfl rfl ?_
      refine E_getr 4 3 0 16 la dX4_hill_45 fl_RX4_25 rfl sh_0 hla ?_
      refine E_getr 1 1 la 15 (la + 1) dX4_hill_48 fl_RX4_89 rfl (sL0 hLa) (gL1 hG hLa) ?_
      refine E_iload_n 1 dX4_hill_51 rfl rfl ?_
      have c3 := hy.1
      replace hy := hy.2
      refine E_ia (la + 1) 4 (x1).toNatClampNeg dX4_hill_52 (sL1 hLa) c3 rfl ?_
      exact E_ri dX4_hill_53 rfl ⟨rfl, rfl⟩ hy
    replace hy := hy.2 h7
    refine ⟨fun h8 => ?_, fun h8 => ?_⟩
    · replace hy := hy.1 h8
      dsimp only
      refine E_aload_n 0 dX4_hill_54 rfl rfl ?_
      refine E_getr 4 3 0 16 la dX4_hill_55 fl_RX4_25 rfl sh_0 hla ?_
      refine E_getr 1 2 la 15 (la + 2) dX4_hill_58 fl_RX4_92 rfl (sL0 hLa) (gL2 hG hLa) ?_
      refine E_iload_n 1 dX4_hill_61 rfl rfl ?_
      have c4 := hy.1
      replace hy := hy.2
      refine E_ia (la + 2) 4 (x1).toNatClampNeg dX4_hill_62 (sL2 hLa) c4 rfl ?_
      exact E_ri dX4_hill_63 rfl ⟨rfl, rfl⟩ hy
    replace hy := hy.2 h8
    refine ⟨fun h9 => ?_, fun h9 => ?_⟩
    · replace hy := hy.1 h9
      dsimp only
      refine E_aload_n 0 dX4_hill_64 rfl rfl ?_
      refine E_getr 4 3 0 16 la dX4_hill_65 fl_RX4_25 rfl sh_0 hla ?_
      refine E_getr 1 3 la 15 (la + 3) dX4_hill_68 fl_RX4_95 rfl (sL0 hLa) (gL3 hG hLa) ?_
      refine E_iload_n 1 dX4_hill_71 rfl rfl ?_
      have c5 := hy.1
      replace hy := hy.2
      refine E_ia (la + 3) 4 (x1).toNatClampNeg dX4_hill_72 (sL3 hLa) c5 rfl ?_
      exact E_ri dX4_hill_73 rfl ⟨rfl, rfl⟩ hy
    replace hy := hy.2 h9
    refine ⟨fun h10 => ?_, fun h10 => ?_⟩
    · replace hy := hy.1 h10
      dsimp only
      refine E_aload_n 0 dX4_hill_74 rfl rfl ?_
      refine E_getr 4 3 0 16 la dX4_hill_75 fl_RX4_25 rfl sh_0 hla ?_
      refine E_getr 1 4 la 15 (la + 4) dX4_hill_78 fl_RX4_98 rfl (sL0 hLa) (gL4 hG hLa) ?_
      refine E_iload_n 1 dX4_hill_81 rfl rfl ?_
      have c6 := hy.1
      replace hy := hy.2
      refine E_ia (la + 4) 4 (x1).toNatClampNeg dX4_hill_82 (sL4 hLa) c6 rfl ?_
      exact E_ri dX4_hill_83 rfl ⟨rfl, rfl⟩ hy
    replace hy := hy.2 h10
    show Ev (d + 1) mX4_hill 136 84 [some (.ref 0), some (.int x1), some (.int x2)] [] 136 I G J Φ
    refine E_iconst (-1 : Int32) dX4_hill_84 rfl ?_
    exact E_ri dX4_hill_85 rfl ⟨rfl, rfl⟩ hy
  · replace hy := hy.2 (Decidable.not_not.mp h2)
    refine E_iconst (-1 : Int32) dX4_hill_11 rfl ?_
    exact E_ri dX4_hill_12 rfl ⟨rfl, rfl⟩ hy
set_option maxRecDepth 100000 in
theorem w_X4_hills {d : Nat} {I : MI} {G : MG} {J : MJ} {Φ : Ph} (hG : WG G) {la : Nat} (hLa : isL la) (hla : G 0 3 = some la) {lb : Nat} (hLb : isL lb) (hlb : G 0 4 = some lb)  (hy : Ev d mX3_readAll 136 0 [some (.ref 2), some (.int (I 0 1)), some (.ref lb), none] [] 136 I G J (fun r n I1 G1 J1 => ∃ v1 : Int32, r = some (.int v1) ∧ n = 136 ∧ G = G1 ∧ J = J1 ∧ ((0 ≤ v1 → Ev d mX2_begin 136 0 [some (.ref 22), some (.ref lb), none] [] 136 (u2 I1 0 1 (0 : Int32)) (u2 (u2 G 0 4 (some la)) 0 3 (some lb)) J (fun r n I3 G3 J3 => r = none ∧ n = 136 ∧ (u2 (u2 G 0 4 (some la)) 0 3 (some lb)) = G3 ∧ J = J3 ∧ (Ev (d + 1) mX4_hills 136 68 [some (.ref 0), some (.int v1), some (.ref lb), some (.int (0 : Int32))] [] 136 (u2 (u2 I3 0 8 (0 : Int32)) 0 13 (0 : Int32)) (u2 (u2 G 0 4 (some la)) 0 3 (some lb)) J Φ))) ∧ (¬ 0 ≤ v1 → Φ (some (.int v1)) 136 I1 G J)))) : Ev (d + 1) mX4_hills 136 0 [some (.ref 0), none, none, none] [] 136 I G J Φ := by
  refine E_aload_n 0 dX4_hills_0 rfl rfl ?_
  refine E_getr 4 2 0 16 2 dX4_hills_1 fl_RX4_18 rfl sh_0 (wg_0_2 hG) ?_
  refine E_aload_n 0 dX4_hills_4 rfl rfl ?_
  refine E_geti 4 1 0 16 dX4_hills_5 fl_RX4_71 rfl sh_0 ?_
  refine E_aload_n 0 dX4_hills_8 rfl rfl ?_
  refine E_getr 4 4 0 16 lb dX4_hills_9 fl_RX4_29 rfl sh_0 hlb ?_
  refine E_cv (M := mX4_hills) (pc := 12) (As := [.int (I 0 1), .ref lb]) (st := []) mX3_readAll 2 3 7 dX4_hills_12 lk_RX4_75 ⟨_, rfl, rfl⟩ sh_2 rfl (Nat.le_of_ble_eq_true rfl) ⟨rfl, rfl⟩ (Nat.le_of_ble_eq_true rfl) rfl hy ?_
  rintro r n I1 G1 J1 ⟨v1, rfl, rfl, rfl, rfl, hy⟩
  show Ev (d + 1) mX4_hills 136 15 [some (.ref 0), none, none, none] [.int v1] 136 I1 G J Φ
  refine E_istore_n 1 dX4_hills_15 rfl (Nat.le_of_ble_eq_true rfl) (?_ : Ev (d + 1) mX4_hills 136 16 [some (.ref 0), some (.int v1), none, none] [] 136 I1 G J Φ)
  refine E_iload_n 1 dX4_hills_16 rfl rfl ?_
  refine E_if_ge 22 dX4_hills_17 rfl (fun h2 => ?_) (fun h2 => ?_)
  · replace hy := hy.1 h2
    refine E_aload_n 0 dX4_hills_22 rfl rfl ?_
    refine E_getr 4 4 0 16 lb dX4_hills_23 fl_RX4_29 rfl sh_0 hlb ?_
    refine E_astore_n 2 dX4_hills_26 rfl (Nat.le_of_ble_eq_true rfl) (?_ : Ev (d + 1) mX4_hills 136 27 [some (.ref 0), some (.int v1), some (.ref lb), none] [] 136 I1 G J Φ)
    refine E_aload_n 0 dX4_hills_27 rfl rfl ?_
    refine E_aload_n 0 dX4_hills_28 rfl rfl ?_
    refine E_getr 4 3 0 16 la dX4_hills_29 fl_RX4_25 rfl sh_0 hla ?_
    refine E_putr 4 4 0 16 la dX4_hills_32 fl_RX4_29 rfl sh_0 (Or.inl ⟨_, rfl, rfl⟩) (fun _ => rfl) (fun _ => rfl) ?_
    refine E_aload_n 0 dX4_hills_35 rfl rfl ?_
    refine E_aload_n 2 dX4_hills_36 rfl rfl ?_
    refine E_putr 4 3 0 16 lb dX4_hills_37 fl_RX4_25 rfl sh_0 (Or.inl ⟨_, rfl, rfl⟩) (fun _ => rfl) (fun _ => rfl) ?_
    refine E_aload_n 0 dX4_hills_40 rfl rfl ?_
    refine E_iconst (0 : Int32) dX4_hills_41 rfl ?_
    refine E_puti 4 1 0 16 dX4_hills_42 fl_RX4_71 rfl sh_0 ⟨_, rfl, rfl⟩ rfl rfl ?_
    refine E_aload_n 0 dX4_hills_45 rfl rfl ?_
    refine E_getr 4 5 0 16 22 dX4_hills_46 fl_RX4_35 rfl sh_0 (wg_0_5 (WG_lnd (WG_lnd hG (by decide) _) (by decide) _)) ?_
    refine E_aload_n 0 dX4_hills_49 rfl rfl ?_
    refine E_getr 4 3 0 16 lb dX4_hills_50 fl_RX4_25 rfl sh_0 (by simp [u2]) ?_
    refine E_cv (M := mX4_hills) (pc := 53) (As := [.ref lb]) (st := []) mX2_begin 1 2 8 dX4_hills_53 lk_RX4_67 ⟨_, rfl, rfl⟩ (sM0 isM_22) rfl (Nat.le_of_ble_eq_true rfl) ⟨rfl, rfl⟩ (Nat.le_of_ble_eq_true rfl) rfl hy ?_
    rintro r n I3 G3 J3 ⟨rfl, rfl, rfl, rfl, hy⟩
    show Ev (d + 1) mX4_hills 136 56 [some (.ref 0), some (.int v1), some (.ref lb), none] [] 136 I3 (u2 (u2 G 0 4 (some la)) 0 3 (some lb)) J Φ
    refine E_aload_n 0 dX4_hills_56 rfl rfl ?_
    refine E_iconst (0 : Int32) dX4_hills_57 rfl ?_
    refine E_puti 4 8 0 16 dX4_hills_58 fl_RX4_79 rfl sh_0 ⟨_, rfl, rfl⟩ rfl rfl ?_
    refine E_aload_n 0 dX4_hills_61 rfl rfl ?_
    refine E_iconst (0 : Int32) dX4_hills_62 rfl ?_
    refine E_puti 4 13 0 16 dX4_hills_63 fl_RX4_82 rfl sh_0 ⟨_, rfl, rfl⟩ rfl rfl ?_
    refine E_iconst (0 : Int32) dX4_hills_66 rfl ?_
    refine E_istore_n 3 dX4_hills_67 rfl (Nat.le_of_ble_eq_true rfl) (?_ : Ev (d + 1) mX4_hills 136 68 [some (.ref 0), some (.int v1), some (.ref lb), some (.int (0 : Int32))] [] 136 (u2 (u2 I3 0 8 (0 : Int32)) 0 13 (0 : Int32)) (u2 (u2 G 0 4 (some la)) 0 3 (some lb)) J Φ)
    exact hy
  · replace hy := hy.2 h2
    refine E_iload_n 1 dX4_hills_20 rfl rfl ?_
    exact E_ri dX4_hills_21 rfl ⟨rfl, rfl⟩ hy
set_option maxRecDepth 100000 in
theorem w_X4_hills_68 {d : Nat} {I : MI} {G : MG} {J : MJ} {Φ : Ph} (hG : WG G) {lb : Nat} (hLb : isL lb) (x1 : Int32) (x3 : Int32) (hy : ((2 : Int32) ≤ x3 → Φ (some (.int x1)) 136 I G J) ∧ (¬ (2 : Int32) ≤ x3 → vp_in x3 2 ∧ (Ev (d + 1) mX4_hills 136 68 [some (.ref 0), some (.int x1), some (.ref lb), some (.int (x3 + (1 : Int32)))] [] 136 (u2 I 36 (x3).toNatClampNeg (0 : Int32)) G J Φ))) : Ev (d + 1) mX4_hills 136 68 [some (.ref 0), some (.int x1), some (.ref lb), some (.int x3)] [] 136 I G J Φ := by
  refine E_iload_n 3 dX4_hills_68 rfl rfl ?_
  refine E_iconst (2 : Int32) dX4_hills_69 rfl ?_
  refine E_icmp_ge 86 dX4_hills_70 rfl (fun h1 => ?_) (fun h1 => ?_)
  · replace hy := hy.1 h1
    refine E_iload_n 1 dX4_hills_86 rfl rfl ?_
    exact E_ri dX4_hills_87 rfl ⟨rfl, rfl⟩ hy
  · replace hy := hy.2 h1
    refine E_aload_n 0 dX4_hills_73 rfl rfl ?_
    refine E_getr 4 10 0 16 36 dX4_hills_74 fl_RX4_49 rfl sh_0 (wg_0_10 hG) ?_
    refine E_iload_n 3 dX4_hills_77 rfl rfl ?_
    refine E_iconst (0 : Int32) dX4_hills_78 rfl ?_
    have c2 := hy.1
    replace hy := hy.2
    refine E_zs 36 2 (x3).toNatClampNeg (0 : Int32) dX4_hills_79 sh_36 c2 rfl rfl ?_
    refine E_iinc (x3 + (1 : Int32)) dX4_hills_80 rfl rfl (Nat.le_of_ble_eq_true rfl) (?_ : Ev (d + 1) mX4_hills 136 83 [some (.ref 0), some (.int x1), some (.ref lb), some (.int (x3 + (1 : Int32)))] [] 136 (u2 I 36 (x3).toNatClampNeg (0 : Int32)) G J Φ)
    refine E_goto 68 dX4_hills_83 rfl ?_
    exact hy
set_option maxRecDepth 100000 in
theorem w_X4_hour {d : Nat} {I : MI} {G : MG} {J : MJ} {Φ : Ph} (hG : WG G) {la : Nat} (hLa : isL la) (hla : G 0 3 = some la)  (hy : ((I 22 0) < (99 : Int32) → Ev d mX4_remember 136 0 [some (.ref 0), none, none] [] 136 I G J (fun r n I2 G2 J2 => r = none ∧ n = 136 ∧ J = J2 ∧ WG G2 ∧ (G2 0 3 = G 0 3 ∧ G2 0 4 = G 0 4) ∧ (Ev d mX2_passHour 136 0 [some (.ref 22), some (.ref la), none, none, none, none] [] 136 I2 G2 J (fun r n I3 G3 J3 => ∃ v3 : Int32, r = some (.int v3) ∧ n = 136 ∧ G2 = G3 ∧ J = J3 ∧ (((I3 22 1) < (I3 la 11) → Φ (some (.int v3)) 136 I3 G2 J) ∧ (¬ (I3 22 1) < (I3 la 11) → Ev d mX1_rainsOn 136 0 [some (.ref la), some (.int (I3 22 0))] [] 136 I3 G2 J (fun r n I5 G5 J5 => ∃ v5 : Int32, r = some (.int v5) ∧ n = 136 ∧ I3 = I5 ∧ G2 = G5 ∧ J = J5 ∧ (Ev d mX2_fallDusk 136 0 [some (.ref 22), some (.ref la), some (.int v5), none, none] [] 136 I3 G2 J (fun r n I6 G6 J6 => r = none ∧ n = 136 ∧ G2 = G6 ∧ J = J6 ∧ (Ev d mX2_writeDown 136 0 [some (.ref 22), some (.ref la), none, none] [] 136 I6 G2 J (fun r n I7 G7 J7 => r = none ∧ n = 136 ∧ G2 = G7 ∧ J = J7 ∧ (Φ (some (.int v3)) 136 I7 G2 J)))))))))))) ∧ (¬ (I 22 0) < (99 : Int32) → Φ (some (.int (-2 : Int32))) 136 I G J)) : Ev (d + 1) mX4_hour 136 0 [some (.ref 0), none] [] 136 I G J Φ := by
  refine E_aload_n 0 dX4_hour_0 rfl rfl ?_
  refine E_getr 4 5 0 16 22 dX4_hour_1 fl_RX4_35 rfl sh_0 (wg_0_5 hG) ?_
  refine E_geti 2 0 22 8 dX4_hour_4 fl_RX4_127 rfl (sM0 isM_22) ?_
  refine E_bipush (99 : Int32) dX4_hour_7 rfl ?_
  refine E_icmp_lt 15 dX4_hour_9 rfl (fun h1 => ?_) (fun h1 => ?_)
  · replace hy := hy.1 h1
    refine E_aload_n 0 dX4_hour_15 rfl rfl ?_
    refine E_cv (M := mX4_hour) (pc := 16) (As := []) (st := []) mX4_remember 0 4 16 dX4_hour_16 lk_RX4_140 ⟨_, rfl, rfl⟩ sh_0 rfl (Nat.le_of_ble_eq_true rfl) ⟨rfl, rfl⟩ (Nat.le_of_ble_eq_true rfl) rfl hy ?_
    rintro r n I2 G2 J2 ⟨rfl, rfl, rfl, hG2, hgl2, hy⟩
    show Ev (d + 1) mX4_hour 136 19 [some (.ref 0), none] [] 136 I2 G2 J Φ
    refine E_aload_n 0 dX4_hour_19 rfl rfl ?_
    refine E_getr 4 5 0 16 22 dX4_hour_20 fl_RX4_35 rfl sh_0 (wg_0_5 hG2) ?_
    refine E_aload_n 0 dX4_hour_23 rfl rfl ?_
    refine E_getr 4 3 0 16 la dX4_hour_24 fl_RX4_25 rfl sh_0 (hgl2.1.trans hla) ?_
    refine E_cv (M := mX4_hour) (pc := 27) (As := [.ref la]) (st := []) mX2_passHour 1 2 8 dX4_hour_27 lk_RX4_143 ⟨_, rfl, rfl⟩ (sM0 isM_22) rfl (Nat.le_of_ble_eq_true rfl) ⟨rfl, rfl⟩ (Nat.le_of_ble_eq_true rfl) rfl hy ?_
    rintro r n I3 G3 J3 ⟨v3, rfl, rfl, rfl, rfl, hy⟩
    show Ev (d + 1) mX4_hour 136 30 [some (.ref 0), none] [.int v3] 136 I3 G2 J Φ
    refine E_istore_n 1 dX4_hour_30 rfl (Nat.le_of_ble_eq_true rfl) (?_ : Ev (d + 1) mX4_hour 136 31 [some (.ref 0), some (.int v3)] [] 136 I3 G2 J Φ)
    refine E_aload_n 0 dX4_hour_31 rfl rfl ?_
    refine E_getr 4 5 0 16 22 dX4_hour_32 fl_RX4_35 rfl sh_0 (wg_0_5 hG2) ?_
    refine E_geti 2 1 22 8 dX4_hour_35 fl_RX4_130 rfl (sM0 isM_22) ?_
    refine E_aload_n 0 dX4_hour_38 rfl rfl ?_
    refine E_getr 4 3 0 16 la dX4_hour_39 fl_RX4_25 rfl sh_0 (hgl2.1.trans hla) ?_
    refine E_geti 1 11 la 15 dX4_hour_42 fl_RX4_146 rfl (sL0 hLa) ?_
    refine E_icmp_lt 84 dX4_hour_45 rfl (fun h4 => ?_) (fun h4 => ?_)
    · replace hy := hy.1 h4
      refine E_iload_n 1 dX4_hour_84 rfl rfl ?_
      exact E_ri dX4_hour_85 rfl ⟨rfl, rfl⟩ hy
    · replace hy := hy.2 h4
      refine E_aload_n 0 dX4_hour_48 rfl rfl ?_
      refine E_getr 4 5 0 16 22 dX4_hour_49 fl_RX4_35 rfl sh_0 (wg_0_5 hG2) ?_
      refine E_aload_n 0 dX4_hour_52 rfl rfl ?_
      refine E_getr 4 3 0 16 la dX4_hour_53 fl_RX4_25 rfl sh_0 (hgl2.1.trans hla) ?_
      refine E_aload_n 0 dX4_hour_56 rfl rfl ?_
      refine E_getr 4 3 0 16 la dX4_hour_57 fl_RX4_25 rfl sh_0 (hgl2.1.trans hla) ?_
      refine E_aload_n 0 dX4_hour_60 rfl rfl ?_
      refine E_getr 4 5 0 16 22 dX4_hour_61 fl_RX4_35 rfl sh_0 (wg_0_5 hG2) ?_
      refine E_geti 2 0 22 8 dX4_hour_64 fl_RX4_127 rfl (sM0 isM_22) ?_
      refine E_cv (M := mX4_hour) (pc := 67) (As := [.int (I3 22 0)]) (st := [.ref la, .ref 22]) mX1_rainsOn 1 1 15 dX4_hour_67 lk_RX4_149 ⟨_, rfl, rfl⟩ (sL0 hLa) rfl (Nat.le_of_ble_eq_true rfl) ⟨rfl, rfl⟩ (Nat.le_of_ble_eq_true rfl) rfl hy ?_
      rintro r n I5 G5 J5 ⟨v5, rfl, rfl, rfl, rfl, rfl, hy⟩
      show Ev (d + 1) mX4_hour 136 70 [some (.ref 0), some (.int v3)] [.int v5, .ref la, .ref 22] 136 I3 G2 J Φ
      refine E_cv (M := mX4_hour) (pc := 70) (As := [.ref la, .int v5]) (st := []) mX2_fallDusk 2 2 8 dX4_hour_70 lk_RX4_152 ⟨_, rfl, rfl⟩ (sM0 isM_22) rfl (Nat.le_of_ble_eq_true rfl) ⟨rfl, rfl⟩ (Nat.le_of_ble_eq_true rfl) rfl hy ?_
      rintro r n I6 G6 J6 ⟨rfl, rfl, rfl, rfl, hy⟩
      show Ev (d + 1) mX4_hour 136 73 [some (.ref 0), some (.int v3)] [] 136 I6 G2 J Φ
      refine E_aload_n 0 dX4_hour_73 rfl rfl ?_
      refine E_getr 4 5 0 16 22 dX4_hour_74 fl_RX4_35 rfl sh_0 (wg_0_5 hG2) ?_
      refine E_aload_n 0 dX4_hour_77 rfl rfl ?_
      refine E_getr 4 3 0 16 la dX4_hour_78 fl_RX4_25 rfl sh_0 (hgl2.1.trans hla) ?_
      refine E_cv (M := mX4_hour) (pc := 81) (As := [.ref la]) (st := []) mX2_writeDown 1 2 8 dX4_hour_81 lk_RX4_156 ⟨_, rfl, rfl⟩ (sM0 isM_22) rfl (Nat.le_of_ble_eq_true rfl) ⟨rfl, rfl⟩ (Nat.le_of_ble_eq_true rfl) rfl hy ?_
      rintro r n I7 G7 J7 ⟨rfl, rfl, rfl, rfl, hy⟩
      show Ev (d + 1) mX4_hour 136 84 [some (.ref 0), some (.int v3)] [] 136 I7 G2 J Φ
      refine E_iload_n 1 dX4_hour_84 rfl rfl ?_
      exact E_ri dX4_hour_85 rfl ⟨rfl, rfl⟩ hy
  · replace hy := hy.2 h1
    refine E_bipush (-2 : Int32) dX4_hour_12 rfl ?_
    exact E_ri dX4_hour_14 rfl ⟨rfl, rfl⟩ hy
set_option maxRecDepth 100000 in
theorem w_X4_isOverBehind {d : Nat} {I : MI} {G : MG} {J : MJ} {Φ : Ph} (hG : WG G) (x1 : Int32) (x2 : Int32) (x3 : Int32) (hy : Ev d mX4_allPush 136 0 [some (.ref 0), some (.int x1), none] [] 136 I G J (fun r n I1 G1 J1 => r = none ∧ n = 136 ∧ G = G1 ∧ J = J1 ∧ (Ev (d + 1) mX4_isOverBehind 136 8 [some (.ref 0), some (.int x1), some (.int x2), some (.int x3), some (.int (0 : Int32))] [] 136 I1 G J Φ))) : Ev (d + 1) mX4_isOverBehind 136 0 [some (.ref 0), some (.int x1), some (.int x2), some (.int x3), none] [] 136 I G J Φ := by
  refine E_aload_n 0 dX4_isOverBehind_0 rfl rfl ?_
  refine E_iload_n 1 dX4_isOverBehind_1 rfl rfl ?_
  refine E_cv (M := mX4_isOverBehind) (pc := 2) (As := [.int x1]) (st := []) mX4_allPush 1 4 16 dX4_isOverBehind_2 lk_RX4_176 ⟨_, rfl, rfl⟩ sh_0 rfl (Nat.le_of_ble_eq_true rfl) ⟨rfl, rfl⟩ (Nat.le_of_ble_eq_true rfl) rfl hy ?_
  rintro r n I1 G1 J1 ⟨rfl, rfl, rfl, rfl, hy⟩
  show Ev (d + 1) mX4_isOverBehind 136 5 [some (.ref 0), some (.int x1), some (.int x2), some (.int x3), none] [] 136 I1 G J Φ
  refine E_iconst (0 : Int32) dX4_isOverBehind_5 rfl ?_
  refine E_istore dX4_isOverBehind_6 (Nat.le_of_ble_eq_true rfl) (?_ : Ev (d + 1) mX4_isOverBehind 136 8 [some (.ref 0), some (.int x1), some (.int x2), some (.int x3), some (.int (0 : Int32))] [] 136 I1 G J Φ)
  exact hy
set_option maxRecDepth 100000 in
theorem w_X4_isOverBehind_8 {d : Nat} {I : MI} {G : MG} {J : MJ} {Φ : Ph} (hG : WG G) {la : Nat} (hLa : isL la) (hla : G 0 3 = some la)  (x1 : Int32) (x2 : Int32) (x3 : Int32) (x4 : Int32) (hy : (x2 ≤ x4 → Φ (some (.int (0 : Int32))) 136 I G J) ∧ (¬ x2 ≤ x4 → Ev d mX2_passDay 136 0 [some (.ref 28), some (.ref la), none, none] [] 136 I G J (fun r n I2 G2 J2 => r = none ∧ n = 136 ∧ G = G2 ∧ J = J2 ∧ (Ev d mX2_isOver 136 0 [some (.ref 28), some (.ref la), some (.int x1)] [] 136 I2 G J (fun r n I3 G3 J3 => ∃ v3 : Int32, r = some (.int v3) ∧ n = 136 ∧ I2 = I3 ∧ G = G3 ∧ J = J3 ∧ ((v3 = 0 → (¬ ((x3 >>> (x4 &&& 31)) &&& (1 : Int32)) = (1 : Int32) → Ev d mX2_fallDusk 136 0 [some (.ref 28), some (.ref la), some (.int (0 : Int32)), none, none] [] 136 I2 G J (fun r n I6 G6 J6 => r = none ∧ n = 136 ∧ G = G6 ∧ J = J6 ∧ (Ev (d + 1) mX4_isOverBehind 136 8 [some (.ref 0), some (.int x1), some (.int x2), some (.int x3), some (.int (x4 + (1 : Int32)))] [] 136 I6 G J Φ))) ∧ (((x3 >>> (x4 &&& 31)) &&& (1 : Int32)) = (1 : Int32) → Ev d mX2_fallDusk 136 0 [some (.ref 28), some (.ref la), some (.int (1 : Int32)), none, none] [] 136 I2 G J (fun r n I7 G7 J7 => r = none ∧ n = 136 ∧ G = G7 ∧ J = J7 ∧ (Ev (d + 1) mX4_isOverBehind 136 8 [some (.ref 0), some (.int x1), some (.int x2), some (.int x3), some (.int (x4 + (1 : Int32)))] [] 136 I7 G J Φ)))) ∧ (¬ v3 = 0 → Φ (some (.int (1 : Int32))) 136 I2 G J))))))) : Ev (d + 1) mX4_isOverBehind 136 8 [some (.ref 0), some (.int x1), some (.int x2), some (.int x3), some (.int x4)] [] 136 I G J Φ := by
  refine E_iload dX4_isOverBehind_8 rfl ?_
  refine E_iload_n 2 dX4_isOverBehind_10 rfl rfl ?_
  refine E_icmp_ge 74 dX4_isOverBehind_11 rfl (fun h1 => ?_) (fun h1 => ?_)
  · replace hy := hy.1 h1
    refine E_iconst (0 : Int32) dX4_isOverBehind_74 rfl ?_
    exact E_rz dX4_isOverBehind_75 rfl rfl ⟨rfl, rfl⟩ hy
  · replace hy := hy.2 h1
    refine E_aload_n 0 dX4_isOverBehind_14 rfl rfl ?_
    refine E_getr 4 6 0 16 28 dX4_isOverBehind_15 fl_RX4_39 rfl sh_0 (wg_0_6 hG) ?_
    refine E_aload_n 0 dX4_isOverBehind_18 rfl rfl ?_
    refine E_getr 4 3 0 16 la dX4_isOverBehind_19 fl_RX4_25 rfl sh_0 hla ?_
    refine E_cv (M := mX4_isOverBehind) (pc := 22) (As := [.ref la]) (st := []) mX2_passDay 1 2 8 dX4_isOverBehind_22 lk_RX4_180 ⟨_, rfl, rfl⟩ (sM0 isM_28) rfl (Nat.le_of_ble_eq_true rfl) ⟨rfl, rfl⟩ (Nat.le_of_ble_eq_true rfl) rfl hy ?_
    rintro r n I2 G2 J2 ⟨rfl, rfl, rfl, rfl, hy⟩
    show Ev (d + 1) mX4_isOverBehind 136 25 [some (.ref 0), some (.int x1), some (.int x2), some (.int x3), some (.int x4)] [] 136 I2 G J Φ
    refine E_aload_n 0 dX4_isOverBehind_25 rfl rfl ?_
    refine E_getr 4 6 0 16 28 dX4_isOverBehind_26 fl_RX4_39 rfl sh_0 (wg_0_6 hG) ?_
    refine E_aload_n 0 dX4_isOverBehind_29 rfl rfl ?_
    refine E_getr 4 3 0 16 la dX4_isOverBehind_30 fl_RX4_25 rfl sh_0 hla ?_
    refine E_iload_n 1 dX4_isOverBehind_33 rfl rfl ?_
    refine E_cv (M := mX4_isOverBehind) (pc := 34) (As := [.ref la, .int x1]) (st := []) mX2_isOver 2 2 8 dX4_isOverBehind_34 lk_RX4_111 ⟨_, rfl, rfl⟩ (sM0 isM_28) rfl (Nat.le_of_ble_eq_true rfl) ⟨rfl, rfl⟩ (Nat.le_of_ble_eq_true rfl) rfl hy ?_
    rintro r n I3 G3 J3 ⟨v3, rfl, rfl, rfl, rfl, rfl, hy⟩
    show Ev (d + 1) mX4_isOverBehind 136 37 [some (.ref 0), some (.int x1), some (.int x2), some (.int x3), some (.int x4)] [.int v3] 136 I2 G J Φ
    refine E_if_eq 42 dX4_isOverBehind_37 rfl (fun h4 => ?_) (fun h4 => ?_)
    · replace hy := hy.1 h4
      refine E_aload_n 0 dX4_isOverBehind_42 rfl rfl ?_
      refine E_getr 4 6 0 16 28 dX4_isOverBehind_43 fl_RX4_39 rfl sh_0 (wg_0_6 hG) ?_
      refine E_aload_n 0 dX4_isOverBehind_46 rfl rfl ?_
      refine E_getr 4 3 0 16 la dX4_isOverBehind_47 fl_RX4_25 rfl sh_0 hla ?_
      refine E_iload_n 3 dX4_isOverBehind_50 rfl rfl ?_
      refine E_iload dX4_isOverBehind_51 rfl ?_
      refine E_ishr dX4_isOverBehind_53 ?_
      refine E_iconst (1 : Int32) dX4_isOverBehind_54 rfl ?_
      refine E_iand dX4_isOverBehind_55 ?_
      refine E_iconst (1 : Int32) dX4_isOverBehind_56 rfl ?_
      refine E_icmp_ne 64 dX4_isOverBehind_57 rfl (fun h5 => ?_) (fun h5 => ?_)
      · replace hy := hy.1 h5
        refine E_iconst (0 : Int32) dX4_isOverBehind_64 rfl ?_
        refine E_cv (M := mX4_isOverBehind) (pc := 65) (As := [.ref la, .int (0 : Int32)]) (st := []) mX2_fallDusk 2 2 8 dX4_isOverBehind_65 lk_RX4_152 ⟨_, rfl, rfl⟩ (sM0 isM_28) rfl (Nat.le_of_ble_eq_true rfl) ⟨rfl, rfl⟩ (Nat.le_of_ble_eq_true rfl) rfl hy ?_
        rintro r n I6 G6 J6 ⟨rfl, rfl, rfl, rfl, hy⟩
        show Ev (d + 1) mX4_isOverBehind 136 68 [some (.ref 0), some (.int x1), some (.int x2), some (.int x3), some (.int x4)] [] 136 I6 G J Φ
        refine E_iinc (x4 + (1 : Int32)) dX4_isOverBehind_68 rfl rfl (Nat.le_of_ble_eq_true rfl) (?_ : Ev (d + 1) mX4_isOverBehind 136 71 [some (.ref 0), some (.int x1), some (.int x2), some (.int x3), some (.int (x4 + (1 : Int32)))] [] 136 I6 G J Φ)
        refine E_goto 8 dX4_isOverBehind_71 rfl ?_
        exact hy
      · replace hy := hy.2 (Decidable.not_not.mp h5)
        refine E_iconst (1 : Int32) dX4_isOverBehind_60 rfl ?_
        refine E_goto 65 dX4_isOverBehind_61 rfl ?_
        refine E_cv (M := mX4_isOverBehind) (pc := 65) (As := [.ref la, .int (1 : Int32)]) (st := []) mX2_fallDusk 2 2 8 dX4_isOverBehind_65 lk_RX4_152 ⟨_, rfl, rfl⟩ (sM0 isM_28) rfl (Nat.le_of_ble_eq_true rfl) ⟨rfl, rfl⟩ (Nat.le_of_ble_eq_true rfl) rfl hy ?_
        rintro r n I7 G7 J7 ⟨rfl, rfl, rfl, rfl, hy⟩
        show Ev (d + 1) mX4_isOverBehind 136 68 [some (.ref 0), some (.int x1), some (.int x2), some (.int x3), some (.int x4)] [] 136 I7 G J Φ
        refine E_iinc (x4 + (1 : Int32)) dX4_isOverBehind_68 rfl rfl (Nat.le_of_ble_eq_true rfl) (?_ : Ev (d + 1) mX4_isOverBehind 136 71 [some (.ref 0), some (.int x1), some (.int x2), some (.int x3), some (.int (x4 + (1 : Int32)))] [] 136 I7 G J Φ)
        refine E_goto 8 dX4_isOverBehind_71 rfl ?_
        exact hy
    · replace hy := hy.2 h4
      refine E_iconst (1 : Int32) dX4_isOverBehind_40 rfl ?_
      exact E_rz dX4_isOverBehind_41 rfl rfl ⟨rfl, rfl⟩ hy
set_option maxRecDepth 100000 in
theorem w_X4_keep {d : Nat} {I : MI} {G : MG} {J : MJ} {Φ : Ph} (hG : WG G) (x1 : Int32) (hy : (x1 < 0 → Φ (some (.int (-1 : Int32))) 136 I G J) ∧ (¬ x1 < 0 → (x1 < (2 : Int32) → vp_in x1 2 ∧ (Ev d mX2_copyFrom 136 0 [some (.ref (110 + 6 * (x1).toNatClampNeg)), some (.ref 22)] [] 136 I G J (fun r n I4 G4 J4 => r = none ∧ n = 136 ∧ G = G4 ∧ J = J4 ∧ (vp_in x1 2 ∧ (Φ (some (.int (I4 22 0))) 136 (u2 I4 36 (x1).toNatClampNeg (1 : Int32)) G J))))) ∧ (¬ x1 < (2 : Int32) → Φ (some (.int (-1 : Int32))) 136 I G J))) : Ev (d + 1) mX4_keep 136 0 [some (.ref 0), some (.int x1)] [] 136 I G J Φ := by
  refine E_iload_n 1 dX4_keep_0 rfl rfl ?_
  refine E_if_lt 9 dX4_keep_1 rfl (fun h1 => ?_) (fun h1 => ?_)
  · replace hy := hy.1 h1
    refine E_iconst (-1 : Int32) dX4_keep_9 rfl ?_
    exact E_ri dX4_keep_10 rfl ⟨rfl, rfl⟩ hy
  · replace hy := hy.2 h1
    refine E_iload_n 1 dX4_keep_4 rfl rfl ?_
    refine E_iconst (2 : Int32) dX4_keep_5 rfl ?_
    refine E_icmp_lt 11 dX4_keep_6 rfl (fun h2 => ?_) (fun h2 => ?_)
    · replace hy := hy.1 h2
      refine E_aload_n 0 dX4_keep_11 rfl rfl ?_
      refine E_getr 4 9 0 16 35 dX4_keep_12 fl_RX4_46 rfl sh_0 (wg_0_9 hG) ?_
      refine E_iload_n 1 dX4_keep_15 rfl rfl ?_
      have c3 := hy.1
      replace hy := hy.2
      refine E_aa 35 2 (x1).toNatClampNeg (110 + 6 * (x1).toNatClampNeg) dX4_keep_16 sh_35 c3 rfl (wg_35 hG (Nat.not_le.mp (fun q => c3 (Or.inr q)))) ?_
      refine E_aload_n 0 dX4_keep_17 rfl rfl ?_
      refine E_getr 4 5 0 16 22 dX4_keep_18 fl_RX4_35 rfl sh_0 (wg_0_5 hG) ?_
      refine E_cv (M := mX4_keep) (pc := 21) (As := [.ref 22]) (st := []) mX2_copyFrom 1 2 8 dX4_keep_21 lk_RX4_159 ⟨_, rfl, rfl⟩ (sM0 (isM_img (Nat.not_le.mp (fun q => c3 (Or.inr q))))) rfl (Nat.le_of_ble_eq_true rfl) ⟨rfl, rfl⟩ (Nat.le_of_ble_eq_true rfl) rfl hy ?_
      rintro r n I4 G4 J4 ⟨rfl, rfl, rfl, rfl, hy⟩
      show Ev (d + 1) mX4_keep 136 24 [some (.ref 0), some (.int x1)] [] 136 I4 G J Φ
      refine E_aload_n 0 dX4_keep_24 rfl rfl ?_
      refine E_getr 4 10 0 16 36 dX4_keep_25 fl_RX4_49 rfl sh_0 (wg_0_10 hG) ?_
      refine E_iload_n 1 dX4_keep_28 rfl rfl ?_
      refine E_iconst (1 : Int32) dX4_keep_29 rfl ?_
      have c5 := hy.1
      replace hy := hy.2
      refine E_zs 36 2 (x1).toNatClampNeg (1 : Int32) dX4_keep_30 sh_36 c5 rfl rfl ?_
      refine E_aload_n 0 dX4_keep_31 rfl rfl ?_
      refine E_getr 4 5 0 16 22 dX4_keep_32 fl_RX4_35 rfl sh_0 (wg_0_5 hG) ?_
      refine E_getw 2 0 22 8 (I4 22 0) dX4_keep_35 fl_RX4_127 rfl (sM0 isM_22) rfl ?_
      exact E_ri dX4_keep_38 rfl ⟨rfl, rfl⟩ hy
    · replace hy := hy.2 h2
      refine E_iconst (-1 : Int32) dX4_keep_9 rfl ?_
      exact E_ri dX4_keep_10 rfl ⟨rfl, rfl⟩ hy
set_option maxRecDepth 100000 in
theorem w_X4_little {d : Nat} {I : MI} {G : MG} {J : MJ} {Φ : Ph} (hG : WG G) {la : Nat} (hLa : isL la) (hla : G 0 3 = some la) (x1 : Int32) (hy : Ev d mX1_hasHill 136 0 [some (.ref la), some (.int x1)] [] 136 I G J (fun r n I1 G1 J1 => ∃ v1 : Int32, r = some (.int v1) ∧ n = 136 ∧ I = I1 ∧ G = G1 ∧ J = J1 ∧ ((¬ v1 = 0 → Ev d mX2_isOver 136 0 [some (.ref 22), some (.ref la), some (.int x1)] [] 136 I G J (fun r n I3 G3 J3 => ∃ v3 : Int32, r = some (.int v3) ∧ n = 136 ∧ I = I3 ∧ G = G3 ∧ J = J3 ∧ ((v3 = 0 → vp_in x1 4 ∧ (vp_in x1 4 ∧ (Ev d mX2_hoursLeft 136 0 [some (.ref 22), some (.ref la)] [] 136 I G J (fun r n I7 G7 J7 => ∃ v7 : Int32, r = some (.int v7) ∧ n = 136 ∧ I = I7 ∧ G = G7 ∧ J = J7 ∧ ((v7 < ((I (la + 1) (x1).toNatClampNeg) - (I (22 + 1) (x1).toNatClampNeg)) → Φ (some (.int (-9 : Int32))) 136 I G J) ∧ (¬ v7 < ((I (la + 1) (x1).toNatClampNeg) - (I (22 + 1) (x1).toNatClampNeg)) → Ev d mX2_freeSteps 136 0 [some (.ref 22), some (.ref la), some (.int x1), none, none] [] 136 I G J (fun r n I9 G9 J9 => ∃ v9 : Int32, r = some (.int v9) ∧ n = 136 ∧ I = I9 ∧ G = G9 ∧ J = J9 ∧ ((((I (la + 1) (x1).toNatClampNeg) - (I (22 + 1) (x1).toNatClampNeg)) ≤ v9 → Ev d mX2_strengthAfter 136 0 [some (.ref 22), some (.ref la), some (.int (((I (la + 1) (x1).toNatClampNeg) - (I (22 + 1) (x1).toNatClampNeg)) - (1 : Int32))), none, none] [] 136 I G J (fun r n I11 G11 J11 => ∃ v11 : Int32, r = some (.int v11) ∧ n = 136 ∧ I = I11 ∧ G = G11 ∧ J = J11 ∧ (vp_in x1 4 ∧ (((1 : Int32) ≤ (v11 - (I (la + 2) (x1).toNatClampNeg)) → Φ (some (.int (if (9 : Int32) < (v11 - (I (la + 2) (x1).toNatClampNeg)) then (9 : Int32) else (v11 - (I (la + 2) (x1).toNatClampNeg))))) 136 I G J) ∧ (¬ (1 : Int32) ≤ (v11 - (I (la + 2) (x1).toNatClampNeg)) → Φ (some (.int (-9 : Int32))) 136 I G J))))) ∧ (¬ ((I (la + 1) (x1).toNatClampNeg) - (I (22 + 1) (x1).toNatClampNeg)) ≤ v9 → Φ (some (.int (-9 : Int32))) 136 I G J))))))))) ∧ (¬ v3 = 0 → Φ (some (.int (-2 : Int32))) 136 I G J)))) ∧ (v1 = 0 → Φ (some (.int (-1 : Int32))) 136 I G J)))) : Ev (d + 1) mX4_little 136 0 [some (.ref 0), some (.int x1), none, none] [] 136 I G J Φ := by
  refine E_aload_n 0 dX4_little_0 rfl rfl ?_
  refine E_getr 4 3 0 16 la dX4_little_1 fl_RX4_25 rfl sh_0 hla ?_
  refine E_iload_n 1 dX4_little_4 rfl rfl ?_
  refine E_cv (M := mX4_little) (pc := 5) (As := [.int x1]) (st := []) mX1_hasHill 1 1 15 dX4_little_5 lk_RX4_85 ⟨_, rfl, rfl⟩ (sL0 hLa) rfl (Nat.le_of_ble_eq_true rfl) ⟨rfl, rfl⟩ (Nat.le_of_ble_eq_true rfl) rfl hy ?_
  rintro r n I1 G1 J1 ⟨v1, rfl, rfl, rfl, rfl, rfl, hy⟩
  show Ev (d + 1) mX4_little 136 8 [some (.ref 0), some (.int x1), none, none] [.int v1] 136 I G J Φ
  refine E_if_ne 13 dX4_little_8 rfl (fun h2 => ?_) (fun h2 => ?_)
  · replace hy := hy.1 h2
    refine E_aload_n 0 dX4_little_13 rfl rfl ?_
    refine E_getr 4 5 0 16 22 dX4_little_14 fl_RX4_35 rfl sh_0 (wg_0_5 hG) ?_
    refine E_aload_n 0 dX4_little_17 rfl rfl ?_
    refine E_getr 4 3 0 16 la dX4_little_18 fl_RX4_25 rfl sh_0 hla ?_
    refine E_iload_n 1 dX4_little_21 rfl rfl ?_
    refine E_cv (M := mX4_little) (pc := 22) (As := [.ref la, .int x1]) (st := []) mX2_isOver 2 2 8 dX4_little_22 lk_RX4_111 ⟨_, rfl, rfl⟩ (sM0 isM_22) rfl (Nat.le_of_ble_eq_true rfl) ⟨rfl, rfl⟩ (Nat.le_of_ble_eq_true rfl) rfl hy ?_
    rintro r n I3 G3 J3 ⟨v3, rfl, rfl, rfl, rfl, rfl, hy⟩
    show Ev (d + 1) mX4_little 136 25 [some (.ref 0), some (.int x1), none, none] [.int v3] 136 I G J Φ
    refine E_if_eq 31 dX4_little_25 rfl (fun h4 => ?_) (fun h4 => ?_)
    · replace hy := hy.1 h4
      refine E_aload_n 0 dX4_little_31 rfl rfl ?_
      refine E_getr 4 3 0 16 la dX4_little_32 fl_RX4_25 rfl sh_0 hla ?_
      refine E_getr 1 1 la 15 (la + 1) dX4_little_35 fl_RX4_89 rfl (sL0 hLa) (gL1 hG hLa) ?_
      refine E_iload_n 1 dX4_little_38 rfl rfl ?_
      have c5 := hy.1
      replace hy := hy.2
      refine E_ia (la + 1) 4 (x1).toNatClampNeg dX4_little_39 (sL1 hLa) c5 rfl ?_
      refine E_aload_n 0 dX4_little_40 rfl rfl ?_
      refine E_getr 4 5 0 16 22 dX4_little_41 fl_RX4_35 rfl sh_0 (wg_0_5 hG) ?_
      refine E_getr 2 2 22 8 (22 + 1) dX4_little_44 fl_RX4_101 rfl (sM0 isM_22) (gM2 hG isM_22) ?_
      refine E_iload_n 1 dX4_little_47 rfl rfl ?_
      have c6 := hy.1
      replace hy := hy.2
      refine E_ia (22 + 1) 4 (x1).toNatClampNeg dX4_little_48 (sM1 isM_22) c6 rfl ?_
      refine E_isub dX4_little_49 ?_
      refine E_istore_n 2 dX4_little_50 rfl (Nat.le_of_ble_eq_true rfl) (?_ : Ev (d + 1) mX4_little 136 51 [some (.ref 0), some (.int x1), some (.int ((I (la + 1) (x1).toNatClampNeg) - (I (22 + 1) (x1).toNatClampNeg))), none] [] 136 I G J Φ)
      refine E_iload_n 2 dX4_little_51 rfl rfl ?_
      refine E_aload_n 0 dX4_little_52 rfl rfl ?_
      refine E_getr 4 5 0 16 22 dX4_little_53 fl_RX4_35 rfl sh_0 (wg_0_5 hG) ?_
      refine E_aload_n 0 dX4_little_56 rfl rfl ?_
      refine E_getr 4 3 0 16 la dX4_little_57 fl_RX4_25 rfl sh_0 hla ?_
      refine E_cv (M := mX4_little) (pc := 60) (As := [.ref la]) (st := [.int ((I (la + 1) (x1).toNatClampNeg) - (I (22 + 1) (x1).toNatClampNeg))]) mX2_hoursLeft 1 2 8 dX4_little_60 lk_RX4_163 ⟨_, rfl, rfl⟩ (sM0 isM_22) rfl (Nat.le_of_ble_eq_true rfl) ⟨rfl, rfl⟩ (Nat.le_of_ble_eq_true rfl) rfl hy ?_
      rintro r n I7 G7 J7 ⟨v7, rfl, rfl, rfl, rfl, rfl, hy⟩
      show Ev (d + 1) mX4_little 136 63 [some (.ref 0), some (.int x1), some (.int ((I (la + 1) (x1).toNatClampNeg) - (I (22 + 1) (x1).toNatClampNeg))), none] [.int v7, .int ((I (la + 1) (x1).toNatClampNeg) - (I (22 + 1) (x1).toNatClampNeg))] 136 I G J Φ
      refine E_icmp_gt 82 dX4_little_63 rfl (fun h8 => ?_) (fun h8 => ?_)
      · replace hy := hy.1 h8
        refine E_bipush (-9 : Int32) dX4_little_82 rfl ?_
        exact E_ri dX4_little_84 rfl ⟨rfl, rfl⟩ hy
      · replace hy := hy.2 h8
        refine E_iload_n 2 dX4_little_66 rfl rfl ?_
        refine E_aload_n 0 dX4_little_67 rfl rfl ?_
        refine E_getr 4 5 0 16 22 dX4_little_68 fl_RX4_35 rfl sh_0 (wg_0_5 hG) ?_
        refine E_aload_n 0 dX4_little_71 rfl rfl ?_
        refine E_getr 4 3 0 16 la dX4_little_72 fl_RX4_25 rfl sh_0 hla ?_
        refine E_iload_n 1 dX4_little_75 rfl rfl ?_
        refine E_cv (M := mX4_little) (pc := 76) (As := [.ref la, .int x1]) (st := [.int ((I (la + 1) (x1).toNatClampNeg) - (I (22 + 1) (x1).toNatClampNeg))]) mX2_freeSteps 2 2 8 dX4_little_76 lk_RX4_183 ⟨_, rfl, rfl⟩ (sM0 isM_22) rfl (Nat.le_of_ble_eq_true rfl) ⟨rfl, rfl⟩ (Nat.le_of_ble_eq_true rfl) rfl hy ?_
        rintro r n I9 G9 J9 ⟨v9, rfl, rfl, rfl, rfl, rfl, hy⟩
        show Ev (d + 1) mX4_little 136 79 [some (.ref 0), some (.int x1), some (.int ((I (la + 1) (x1).toNatClampNeg) - (I (22 + 1) (x1).toNatClampNeg))), none] [.int v9, .int ((I (la + 1) (x1).toNatClampNeg) - (I (22 + 1) (x1).toNatClampNeg))] 136 I G J Φ
        refine E_icmp_le 85 dX4_little_79 rfl (fun h10 => ?_) (fun h10 => ?_)
        · replace hy := hy.1 h10
          refine E_aload_n 0 dX4_little_85 rfl rfl ?_
          refine E_getr 4 5 0 16 22 dX4_little_86 fl_RX4_35 rfl sh_0 (wg_0_5 hG) ?_
          refine E_aload_n 0 dX4_little_89 rfl rfl ?_
          refine E_getr 4 3 0 16 la dX4_little_90 fl_RX4_25 rfl sh_0 hla ?_
          refine E_iload_n 2 dX4_little_93 rfl rfl ?_
          refine E_iconst (1 : Int32) dX4_little_94 rfl ?_
          refine E_isub dX4_little_95 ?_
          refine E_cv (M := mX4_little) (pc := 96) (As := [.ref la, .int (((I (la + 1) (x1).toNatClampNeg) - (I (22 + 1) (x1).toNatClampNeg)) - (1 : Int32))]) (st := []) mX2_strengthAfter 2 2 8 dX4_little_96 lk_RX4_186 ⟨_, rfl, rfl⟩ (sM0 isM_22) rfl (Nat.le_of_ble_eq_true rfl) ⟨rfl, rfl⟩ (Nat.le_of_ble_eq_true rfl) rfl hy ?_
          rintro r n I11 G11 J11 ⟨v11, rfl, rfl, rfl, rfl, rfl, hy⟩
          show Ev (d + 1) mX4_little 136 99 [some (.ref 0), some (.int x1), some (.int ((I (la + 1) (x1).toNatClampNeg) - (I (22 + 1) (x1).toNatClampNeg))), none] [.int v11] 136 I G J Φ
          refine E_aload_n 0 dX4_little_99 rfl rfl ?_
          refine E_getr 4 3 0 16 la dX4_little_100 fl_RX4_25 rfl sh_0 hla ?_
          refine E_getr 1 2 la 15 (la + 2) dX4_little_103 fl_RX4_92 rfl (sL0 hLa) (gL2 hG hLa) ?_
          refine E_iload_n 1 dX4_little_106 rfl rfl ?_
          have c12 := hy.1
          replace hy := hy.2
          refine E_ia (la + 2) 4 (x1).toNatClampNeg dX4_little_107 (sL2 hLa) c12 rfl ?_
          refine E_isub dX4_little_108 ?_
          refine E_istore_n 3 dX4_little_109 rfl (Nat.le_of_ble_eq_true rfl) (?_ : Ev (d + 1) mX4_little 136 110 [some (.ref 0), some (.int x1), some (.int ((I (la + 1) (x1).toNatClampNeg) - (I (22 + 1) (x1).toNatClampNeg))), some (.int (v11 - (I (la + 2) (x1).toNatClampNeg)))] [] 136 I G J Φ)
          refine E_iload_n 3 dX4_little_110 rfl rfl ?_
          refine E_iconst (1 : Int32) dX4_little_111 rfl ?_
          refine E_icmp_ge 120 dX4_little_112 rfl (fun h13 => ?_) (fun h13 => ?_)
          · replace hy := hy.1 h13
            refine E_iload_n 3 dX4_little_120 rfl rfl ?_
            refine E_bipush (9 : Int32) dX4_little_121 rfl ?_
            refine E_min dX4_little_123 lk_RX4_189 (Nat.le_of_ble_eq_true rfl) ?_
            exact E_ri dX4_little_126 rfl ⟨rfl, rfl⟩ hy
          · replace hy := hy.2 h13
            refine E_bipush (-9 : Int32) dX4_little_115 rfl ?_
            refine E_goto 126 dX4_little_117 rfl ?_
            exact E_ri dX4_little_126 rfl ⟨rfl, rfl⟩ hy
        · replace hy := hy.2 h10
          refine E_bipush (-9 : Int32) dX4_little_82 rfl ?_
          exact E_ri dX4_little_84 rfl ⟨rfl, rfl⟩ hy
    · replace hy := hy.2 h4
      refine E_bipush (-2 : Int32) dX4_little_28 rfl ?_
      exact E_ri dX4_little_30 rfl ⟨rfl, rfl⟩ hy
  · replace hy := hy.2 (Decidable.not_not.mp h2)
    refine E_iconst (-1 : Int32) dX4_little_11 rfl ?_
    exact E_ri dX4_little_12 rfl ⟨rfl, rfl⟩ hy
set_option maxRecDepth 100000 in
theorem w_X4_man {d : Nat} {I : MI} {G : MG} {J : MJ} {Φ : Ph} (hG : WG G) {la : Nat} (hLa : isL la) (hla : G 0 3 = some la) (x1 : Int32) (x2 : Int32) (hy : Ev d mX1_hasMan 136 0 [some (.ref la), some (.int x1)] [] 136 I G J (fun r n I1 G1 J1 => ∃ v1 : Int32, r = some (.int v1) ∧ n = 136 ∧ I = I1 ∧ G = G1 ∧ J = J1 ∧ ((¬ v1 = 0 → (x2 = nI 0 → vp_in x1 3 ∧ (Φ (some (.int (I (la + 8) (x1).toNatClampNeg))) 136 I G J)) ∧ (¬ x2 = nI 0 → (x2 = nI 1 → vp_in x1 3 ∧ (Φ (some (.int (I (22 + 3) (x1).toNatClampNeg))) 136 I G J)) ∧ (¬ x2 = nI 1 → (x2 = nI 2 → vp_in x1 3 ∧ (Φ (some (.int (I (22 + 4) (x1).toNatClampNeg))) 136 I G J)) ∧ (¬ x2 = nI 2 → Φ (some (.int (-1 : Int32))) 136 I G J)))) ∧ (v1 = 0 → Φ (some (.int (-1 : Int32))) 136 I G J)))) : Ev (d + 1) mX4_man 136 0 [some (.ref 0), some (.int x1), some (.int x2)] [] 136 I G J Φ := by
  refine E_aload_n 0 dX4_man_0 rfl rfl ?_
  refine E_getr 4 3 0 16 la dX4_man_1 fl_RX4_25 rfl sh_0 hla ?_
  refine E_iload_n 1 dX4_man_4 rfl rfl ?_
  refine E_cv (M := mX4_man) (pc := 5) (As := [.int x1]) (st := []) mX1_hasMan 1 1 15 dX4_man_5 lk_RX4_115 ⟨_, rfl, rfl⟩ (sL0 hLa) rfl (Nat.le_of_ble_eq_true rfl) ⟨rfl, rfl⟩ (Nat.le_of_ble_eq_true rfl) rfl hy ?_
  rintro r n I1 G1 J1 ⟨v1, rfl, rfl, rfl, rfl, rfl, hy⟩
  show Ev (d + 1) mX4_man 136 8 [some (.ref 0), some (.int x1), some (.int x2)] [.int v1] 136 I G J Φ
  refine E_if_ne 13 dX4_man_8 rfl (fun h2 => ?_) (fun h2 => ?_)
  · replace hy := hy.1 h2
    refine E_iload_n 2 dX4_man_13 rfl rfl ?_
    refine E_tsw 0 [40, 50, 60] 70 dX4_man_14 rfl rfl rfl (by decide) ?_
    refine ⟨fun h6 => ?_, fun h6 => ?_⟩
    · replace hy := hy.1 h6
      dsimp only
      refine E_aload_n 0 dX4_man_40 rfl rfl ?_
      refine E_getr 4 3 0 16 la dX4_man_41 fl_RX4_25 rfl sh_0 hla ?_
      refine E_getr 1 10 la 15 (la + 8) dX4_man_44 fl_RX4_118 rfl (sL0 hLa) (gL10 hG hLa) ?_
      refine E_iload_n 1 dX4_man_47 rfl rfl ?_
      have c3 := hy.1
      replace hy := hy.2
      refine E_ia (la + 8) 3 (x1).toNatClampNeg dX4_man_48 (sL8 hLa) c3 rfl ?_
      exact E_ri dX4_man_49 rfl ⟨rfl, rfl⟩ hy
    replace hy := hy.2 h6
    refine ⟨fun h7 => ?_, fun h7 => ?_⟩
    · replace hy := hy.1 h7
      dsimp only
      refine E_aload_n 0 dX4_man_50 rfl rfl ?_
      refine E_getr 4 5 0 16 22 dX4_man_51 fl_RX4_35 rfl sh_0 (wg_0_5 hG) ?_
      refine E_getr 2 4 22 8 (22 + 3) dX4_man_54 fl_RX4_121 rfl (sM0 isM_22) (gM4 hG isM_22) ?_
      refine E_iload_n 1 dX4_man_57 rfl rfl ?_
      have c4 := hy.1
      replace hy := hy.2
      refine E_ia (22 + 3) 3 (x1).toNatClampNeg dX4_man_58 (sM3 isM_22) c4 rfl ?_
      exact E_ri dX4_man_59 rfl ⟨rfl, rfl⟩ hy
    replace hy := hy.2 h7
    refine ⟨fun h8 => ?_, fun h8 => ?_⟩
    · replace hy := hy.1 h8
      dsimp only
      refine E_aload_n 0 dX4_man_60 rfl rfl ?_
      refine E_getr 4 5 0 16 22 dX4_man_61 fl_RX4_35 rfl sh_0 (wg_0_5 hG) ?_
      refine E_getr 2 5 22 8 (22 + 4) dX4_man_64 fl_RX4_124 rfl (sM0 isM_22) (gM5 hG isM_22) ?_
      refine E_iload_n 1 dX4_man_67 rfl rfl ?_
      have c5 := hy.1
      replace hy := hy.2
      refine E_ia (22 + 4) 3 (x1).toNatClampNeg dX4_man_68 (sM4 isM_22) c5 rfl ?_
      exact E_ri dX4_man_69 rfl ⟨rfl, rfl⟩ hy
    replace hy := hy.2 h8
    show Ev (d + 1) mX4_man 136 70 [some (.ref 0), some (.int x1), some (.int x2)] [] 136 I G J Φ
    refine E_iconst (-1 : Int32) dX4_man_70 rfl ?_
    exact E_ri dX4_man_71 rfl ⟨rfl, rfl⟩ hy
  · replace hy := hy.2 (Decidable.not_not.mp h2)
    refine E_iconst (-1 : Int32) dX4_man_11 rfl ?_
    exact E_ri dX4_man_12 rfl ⟨rfl, rfl⟩ hy
set_option maxRecDepth 100000 in
theorem w_X4_now {d : Nat} {I : MI} {G : MG} {J : MJ} {Φ : Ph} (hG : WG G) {la : Nat} (hLa : isL la) (hla : G 0 3 = some la) (x1 : Int32) (hy : (x1 = nI 0 → Φ (some (.int (I 22 0))) 136 I G J) ∧ (¬ x1 = nI 0 → (x1 = nI 1 → Φ (some (.int (I 22 1))) 136 I G J) ∧ (¬ x1 = nI 1 → (x1 = nI 2 → Ev d mX2_overBits 136 0 [some (.ref 22), some (.ref la), none, none] [] 136 I G J (fun r n I1 G1 J1 => ∃ v1 : Int32, r = some (.int v1) ∧ n = 136 ∧ I = I1 ∧ G = G1 ∧ J = J1 ∧ (Φ (some (.int v1)) 136 I G J))) ∧ (¬ x1 = nI 2 → (x1 = nI 3 → Φ (some (.int (I 22 7))) 136 I G J) ∧ (¬ x1 = nI 3 → (x1 = nI 4 → Φ (some (.int (I 0 8))) 136 I G J) ∧ (¬ x1 = nI 4 → Φ (some (.int (-1 : Int32))) 136 I G J)))))) : Ev (d + 1) mX4_now 136 0 [some (.ref 0), some (.int x1)] [] 136 I G J Φ := by
  refine E_iload_n 1 dX4_now_0 rfl rfl ?_
  refine E_tsw 0 [36, 44, 52, 64, 72] 77 dX4_now_1 rfl rfl rfl (by decide) ?_
  refine ⟨fun h2 => ?_, fun h2 => ?_⟩
  · replace hy := hy.1 h2
    dsimp only
    refine E_aload_n 0 dX4_now_36 rfl rfl ?_
    refine E_getr 4 5 0 16 22 dX4_now_37 fl_RX4_35 rfl sh_0 (wg_0_5 hG) ?_
    refine E_geti 2 0 22 8 dX4_now_40 fl_RX4_127 rfl (sM0 isM_22) ?_
    exact E_ri dX4_now_43 rfl ⟨rfl, rfl⟩ hy
  replace hy := hy.2 h2
  refine ⟨fun h3 => ?_, fun h3 => ?_⟩
  · replace hy := hy.1 h3
    dsimp only
    refine E_aload_n 0 dX4_now_44 rfl rfl ?_
    refine E_getr 4 5 0 16 22 dX4_now_45 fl_RX4_35 rfl sh_0 (wg_0_5 hG) ?_
    refine E_geti 2 1 22 8 dX4_now_48 fl_RX4_130 rfl (sM0 isM_22) ?_
    exact E_ri dX4_now_51 rfl ⟨rfl, rfl⟩ hy
  replace hy := hy.2 h3
  refine ⟨fun h4 => ?_, fun h4 => ?_⟩
  · replace hy := hy.1 h4
    dsimp only
    refine E_aload_n 0 dX4_now_52 rfl rfl ?_
    refine E_getr 4 5 0 16 22 dX4_now_53 fl_RX4_35 rfl sh_0 (wg_0_5 hG) ?_
    refine E_aload_n 0 dX4_now_56 rfl rfl ?_
    refine E_getr 4 3 0 16 la dX4_now_57 fl_RX4_25 rfl sh_0 hla ?_
    refine E_cv (M := mX4_now) (pc := 60) (As := [.ref la]) (st := []) mX2_overBits 1 2 8 dX4_now_60 lk_RX4_133 ⟨_, rfl, rfl⟩ (sM0 isM_22) rfl (Nat.le_of_ble_eq_true rfl) ⟨rfl, rfl⟩ (Nat.le_of_ble_eq_true rfl) rfl hy ?_
    rintro r n I1 G1 J1 ⟨v1, rfl, rfl, rfl, rfl, rfl, hy⟩
    show Ev (d + 1) mX4_now 136 63 [some (.ref 0), some (.int x1)] [.int v1] 136 I G J Φ
    exact E_ri dX4_now_63 rfl ⟨rfl, rfl⟩ hy
  replace hy := hy.2 h4
  refine ⟨fun h5 => ?_, fun h5 => ?_⟩
  · replace hy := hy.1 h5
    dsimp only
    refine E_aload_n 0 dX4_now_64 rfl rfl ?_
    refine E_getr 4 5 0 16 22 dX4_now_65 fl_RX4_35 rfl sh_0 (wg_0_5 hG) ?_
    refine E_geti 2 7 22 8 dX4_now_68 fl_RX4_137 rfl (sM0 isM_22) ?_
    exact E_ri dX4_now_71 rfl ⟨rfl, rfl⟩ hy
  replace hy := hy.2 h5
  refine ⟨fun h6 => ?_, fun h6 => ?_⟩
  · replace hy := hy.1 h6
    dsimp only
    refine E_aload_n 0 dX4_now_72 rfl rfl ?_
    refine E_geti 4 8 0 16 dX4_now_73 fl_RX4_79 rfl sh_0 ?_
    exact E_ri dX4_now_76 rfl ⟨rfl, rfl⟩ hy
  replace hy := hy.2 h6
  show Ev (d + 1) mX4_now 136 77 [some (.ref 0), some (.int x1)] [] 136 I G J Φ
  refine E_iconst (-1 : Int32) dX4_now_77 rfl ?_
  exact E_ri dX4_now_78 rfl ⟨rfl, rfl⟩ hy
set_option maxRecDepth 100000 in
theorem w_X4_odds {d : Nat} {I : MI} {G : MG} {J : MJ} {Φ : Ph} (hG : WG G) {la : Nat} (hLa : isL la) (hla : G 0 3 = some la) (x1 : Int32) (x2 : Int32) (x3 : Int32) (x4 : Int32) (hy : Ev d mX1_hasHill 136 0 [some (.ref la), some (.int x1)] [] 136 I G J (fun r n I1 G1 J1 => ∃ v1 : Int32, r = some (.int v1) ∧ n = 136 ∧ I = I1 ∧ G = G1 ∧ J = J1 ∧ ((v1 = 0 → Φ (some (.long (-1 : Int64))) 136 I G J) ∧ (¬ v1 = 0 → (x2 < (1 : Int32) → Φ (some (.long (-1 : Int64))) 136 I G J) ∧ (¬ x2 < (1 : Int32) → ((4 : Int32) < x2 → Φ (some (.long (-1 : Int64))) 136 I G J) ∧ (¬ (4 : Int32) < x2 → (x3 < 0 → Φ (some (.long (-1 : Int64))) 136 I G J) ∧ (¬ x3 < 0 → ((10 : Int32) < x3 → Φ (some (.long (-1 : Int64))) 136 I G J) ∧ (¬ (10 : Int32) < x3 → (x4 < 0 → Φ (some (.long (-1 : Int64))) 136 I G J) ∧ (¬ x4 < 0 → (x4 ≤ (1 : Int32) → Ev (d + 1) mX4_odds 136 57 [some (.ref 0), some (.int x1), some (.int x2), some (.int x3), some (.int x4), some (.int (x2 - (1 : Int32))), some (.long (0 : Int64)), none, some (.int (0 : Int32)), none, none, none, none, none] [] 136 I G J Φ) ∧ (¬ x4 ≤ (1 : Int32) → Φ (some (.long (-1 : Int64))) 136 I G J)))))))))) : Ev (d + 1) mX4_odds 136 0 [some (.ref 0), some (.int x1), some (.int x2), some (.int x3), some (.int x4), none, none, none, none, none, none, none, none, none] [] 136 I G J Φ := by
  refine E_aload_n 0 dX4_odds_0 rfl rfl ?_
  refine E_getr 4 3 0 16 la dX4_odds_1 fl_RX4_25 rfl sh_0 hla ?_
  refine E_iload_n 1 dX4_odds_4 rfl rfl ?_
  refine E_cv (M := mX4_odds) (pc := 5) (As := [.int x1]) (st := []) mX1_hasHill 1 1 15 dX4_odds_5 lk_RX4_85 ⟨_, rfl, rfl⟩ (sL0 hLa) rfl (Nat.le_of_ble_eq_true rfl) ⟨rfl, rfl⟩ (Nat.le_of_ble_eq_true rfl) rfl hy ?_
  rintro r n I1 G1 J1 ⟨v1, rfl, rfl, rfl, rfl, rfl, hy⟩
  show Ev (d + 1) mX4_odds 136 8 [some (.ref 0), some (.int x1), some (.int x2), some (.int x3), some (.int x4), none, none, none, none, none, none, none, none, none] [.int v1] 136 I G J Φ
  refine E_if_eq 42 dX4_odds_8 rfl (fun h2 => ?_) (fun h2 => ?_)
  · replace hy := hy.1 h2
    refine E_ldc2 (-1 : Int64) dX4_odds_42 cl_RX4_220 ?_
    exact E_rl dX4_odds_45 rfl ⟨rfl, rfl⟩ hy
  · replace hy := hy.2 h2
    refine E_iload_n 2 dX4_odds_11 rfl rfl ?_
    refine E_iconst (1 : Int32) dX4_odds_12 rfl ?_
    refine E_icmp_lt 42 dX4_odds_13 rfl (fun h3 => ?_) (fun h3 => ?_)
    · replace hy := hy.1 h3
      refine E_ldc2 (-1 : Int64) dX4_odds_42 cl_RX4_220 ?_
      exact E_rl dX4_odds_45 rfl ⟨rfl, rfl⟩ hy
    · replace hy := hy.2 h3
      refine E_iload_n 2 dX4_odds_16 rfl rfl ?_
      refine E_iconst (4 : Int32) dX4_odds_17 rfl ?_
      refine E_icmp_gt 42 dX4_odds_18 rfl (fun h4 => ?_) (fun h4 => ?_)
      · replace hy := hy.1 h4
        refine E_ldc2 (-1 : Int64) dX4_odds_42 cl_RX4_220 ?_
        exact E_rl dX4_odds_45 rfl ⟨rfl, rfl⟩ hy
      · replace hy := hy.2 h4
        refine E_iload_n 3 dX4_odds_21 rfl rfl ?_
        refine E_if_lt 42 dX4_odds_22 rfl (fun h5 => ?_) (fun h5 => ?_)
        · replace hy := hy.1 h5
          refine E_ldc2 (-1 : Int64) dX4_odds_42 cl_RX4_220 ?_
          exact E_rl dX4_odds_45 rfl ⟨rfl, rfl⟩ hy
        · replace hy := hy.2 h5
          refine E_iload_n 3 dX4_odds_25 rfl rfl ?_
          refine E_bipush (10 : Int32) dX4_odds_26 rfl ?_
          refine E_icmp_gt 42 dX4_odds_28 rfl (fun h6 => ?_) (fun h6 => ?_)
          · replace hy := hy.1 h6
            refine E_ldc2 (-1 : Int64) dX4_odds_42 cl_RX4_220 ?_
            exact E_rl dX4_odds_45 rfl ⟨rfl, rfl⟩ hy
          · replace hy := hy.2 h6
            refine E_iload dX4_odds_31 rfl ?_
            refine E_if_lt 42 dX4_odds_33 rfl (fun h7 => ?_) (fun h7 => ?_)
            · replace hy := hy.1 h7
              refine E_ldc2 (-1 : Int64) dX4_odds_42 cl_RX4_220 ?_
              exact E_rl dX4_odds_45 rfl ⟨rfl, rfl⟩ hy
            · replace hy := hy.2 h7
              refine E_iload dX4_odds_36 rfl ?_
              refine E_iconst (1 : Int32) dX4_odds_38 rfl ?_
              refine E_icmp_le 46 dX4_odds_39 rfl (fun h8 => ?_) (fun h8 => ?_)
              · replace hy := hy.1 h8
                refine E_iload_n 2 dX4_odds_46 rfl rfl ?_
                refine E_iconst (1 : Int32) dX4_odds_47 rfl ?_
                refine E_isub dX4_odds_48 ?_
                refine E_istore dX4_odds_49 (Nat.le_of_ble_eq_true rfl) (?_ : Ev (d + 1) mX4_odds 136 51 [some (.ref 0), some (.int x1), some (.int x2), some (.int x3), some (.int x4), some (.int (x2 - (1 : Int32))), none, none, none, none, none, none, none, none] [] 136 I G J Φ)
                refine E_lconst (0 : Int64) dX4_odds_51 rfl ?_
                refine E_lstore dX4_odds_52 (Nat.le_of_ble_eq_true rfl) (?_ : Ev (d + 1) mX4_odds 136 54 [some (.ref 0), some (.int x1), some (.int x2), some (.int x3), some (.int x4), some (.int (x2 - (1 : Int32))), some (.long (0 : Int64)), none, none, none, none, none, none, none] [] 136 I G J Φ)
                refine E_iconst (0 : Int32) dX4_odds_54 rfl ?_
                refine E_istore dX4_odds_55 (Nat.le_of_ble_eq_true rfl) (?_ : Ev (d + 1) mX4_odds 136 57 [some (.ref 0), some (.int x1), some (.int x2), some (.int x3), some (.int x4), some (.int (x2 - (1 : Int32))), some (.long (0 : Int64)), none, some (.int (0 : Int32)), none, none, none, none, none] [] 136 I G J Φ)
                exact hy
              · replace hy := hy.2 h8
                refine E_ldc2 (-1 : Int64) dX4_odds_42 cl_RX4_220 ?_
                exact E_rl dX4_odds_45 rfl ⟨rfl, rfl⟩ hy
set_option maxRecDepth 100000 in
theorem w_X4_odds_57 {d : Nat} {I : MI} {G : MG} {J : MJ} {Φ : Ph} (hG : WG G)  (x1 : Int32) (x2 : Int32) (x3 : Int32) (x4 : Int32) (x5 : Int32) (x6 : Int64) (x8 : Int32) (hy : (((1 : Int32) <<< (x5 &&& 31)) ≤ x8 → Ev d mX4_power 136 0 [some (.int (10 : Int32)), some (.int x5), none, none, none] [] 136 I G J (fun r n I2 G2 J2 => ∃ v2 : Int64, r = some (.long v2) ∧ n = 136 ∧ I = I2 ∧ G = G2 ∧ J = J2 ∧ (Ev d mX4_commonDivisor 136 0 [some (.long v2), none, some (.long x6), none, none, none, none] [] 136 I G J (fun r n I3 G3 J3 => ∃ v3 : Int64, r = some (.long v3) ∧ n = 136 ∧ I = I3 ∧ G = G3 ∧ J = J3 ∧ ((¬ x4 = 0 → (0 ≤ (lg_cmp v3 (1 : Int64)) → ¬ v3 = 0 ∧ (Φ (some (.long (v2 / v3))) 136 I G J)) ∧ (¬ 0 ≤ (lg_cmp v3 (1 : Int64)) → Φ (some (.long v2)) 136 I G J)) ∧ (x4 = 0 → (0 ≤ (lg_cmp v3 (1 : Int64)) → ¬ v3 = 0 ∧ (Φ (some (.long (x6 / v3))) 136 I G J)) ∧ (¬ 0 ≤ (lg_cmp v3 (1 : Int64)) → Φ (some (.long x6)) 136 I G J))))))) ∧ (¬ ((1 : Int32) <<< (x5 &&& 31)) ≤ x8 → Ev d mX4_rainWeight 136 0 [some (.int x5), some (.int x3), some (.int x8), none] [] 136 I G J (fun r n I9 G9 J9 => ∃ v9 : Int64, r = some (.long v9) ∧ n = 136 ∧ I = I9 ∧ G = G9 ∧ J = J9 ∧ (((lg_cmp v9 (0 : Int64)) ≤ 0 → Ev (d + 1) mX4_odds 136 57 [some (.ref 0), some (.int x1), some (.int x2), some (.int x3), some (.int x4), some (.int x5), some (.long x6), none, some (.int (x8 + (1 : Int32))), none, none, none, none, none] [] 136 I G J Φ) ∧ (¬ (lg_cmp v9 (0 : Int64)) ≤ 0 → Ev d mX4_isOverBehind 136 0 [some (.ref 0), some (.int x1), some (.int x2), some (.int x8), none] [] 136 I G J (fun r n I11 G11 J11 => ∃ v11 : Int32, r = some (.int v11) ∧ n = 136 ∧ G = G11 ∧ J = J11 ∧ ((v11 = 0 → Ev (d + 1) mX4_odds 136 57 [some (.ref 0), some (.int x1), some (.int x2), some (.int x3), some (.int x4), some (.int x5), some (.long x6), none, some (.int (x8 + (1 : Int32))), none, none, none, none, none] [] 136 I11 G J Φ) ∧ (¬ v11 = 0 → Ev (d + 1) mX4_odds 136 57 [some (.ref 0), some (.int x1), some (.int x2), some (.int x3), some (.int x4), some (.int x5), some (.long (x6 + v9)), none, some (.int (x8 + (1 : Int32))), none, none, none, none, none] [] 136 I11 G J Φ)))))))) : Ev (d + 1) mX4_odds 136 57 [some (.ref 0), some (.int x1), some (.int x2), some (.int x3), some (.int x4), some (.int x5), some (.long x6), none, some (.int x8), none, none, none, none, none] [] 136 I G J Φ := by
  refine E_iload dX4_odds_57 rfl ?_
  refine E_iconst (1 : Int32) dX4_odds_59 rfl ?_
  refine E_iload dX4_odds_60 rfl ?_
  refine E_ishl dX4_odds_62 ?_
  refine E_icmp_ge 107 dX4_odds_63 rfl (fun h1 => ?_) (fun h1 => ?_)
  · replace hy := hy.1 h1
    refine E_bipush (10 : Int32) dX4_odds_107 rfl ?_
    refine E_iload dX4_odds_109 rfl ?_
    refine E_cs (M := mX4_odds) (pc := 111) (As := [.int (10 : Int32), .int x5]) (st := []) mX4_power 2 dX4_odds_111 lk_RX4_230 rfl (Nat.le_of_ble_eq_true rfl) ⟨rfl, rfl⟩ (Nat.le_of_ble_eq_true rfl) rfl hy ?_
    rintro r n I2 G2 J2 ⟨v2, rfl, rfl, rfl, rfl, rfl, hy⟩
    show Ev (d + 1) mX4_odds 136 114 [some (.ref 0), some (.int x1), some (.int x2), some (.int x3), some (.int x4), some (.int x5), some (.long x6), none, some (.int x8), none, none, none, none, none] [.long v2] 136 I G J Φ
    refine E_lstore dX4_odds_114 (Nat.le_of_ble_eq_true rfl) (?_ : Ev (d + 1) mX4_odds 136 116 [some (.ref 0), some (.int x1), some (.int x2), some (.int x3), some (.int x4), some (.int x5), some (.long x6), none, some (.long v2), none, none, none, none, none] [] 136 I G J Φ)
    refine E_lload dX4_odds_116 rfl ?_
    refine E_lload dX4_odds_118 rfl ?_
    refine E_cs (M := mX4_odds) (pc := 120) (As := [.long v2, .long x6]) (st := []) mX4_commonDivisor 2 dX4_odds_120 lk_RX4_234 rfl (Nat.le_of_ble_eq_true rfl) ⟨rfl, rfl⟩ (Nat.le_of_ble_eq_true rfl) rfl hy ?_
    rintro r n I3 G3 J3 ⟨v3, rfl, rfl, rfl, rfl, rfl, hy⟩
    show Ev (d + 1) mX4_odds 136 123 [some (.ref 0), some (.int x1), some (.int x2), some (.int x3), some (.int x4), some (.int x5), some (.long x6), none, some (.long v2), none, none, none, none, none] [.long v3] 136 I G J Φ
    refine E_lstore dX4_odds_123 (Nat.le_of_ble_eq_true rfl) (?_ : Ev (d + 1) mX4_odds 136 125 [some (.ref 0), some (.int x1), some (.int x2), some (.int x3), some (.int x4), some (.int x5), some (.long x6), none, some (.long v2), none, some (.long v3), none, none, none] [] 136 I G J Φ)
    refine E_iload dX4_odds_125 rfl ?_
    refine E_if_ne 135 dX4_odds_127 rfl (fun h4 => ?_) (fun h4 => ?_)
    · replace hy := hy.1 h4
      refine E_lload dX4_odds_135 rfl ?_
      refine E_lstore dX4_odds_137 (Nat.le_of_ble_eq_true rfl) (?_ : Ev (d + 1) mX4_odds 136 139 [some (.ref 0), some (.int x1), some (.int x2), some (.int x3), some (.int x4), some (.int x5), some (.long x6), none, some (.long v2), none, some (.long v3), none, some (.long v2), none] [] 136 I G J Φ)
      refine E_lload dX4_odds_139 rfl ?_
      refine E_lconst (1 : Int64) dX4_odds_141 rfl ?_
      refine E_lcmp dX4_odds_142 ?_
      refine E_if_ge 151 dX4_odds_143 rfl (fun h5 => ?_) (fun h5 => ?_)
      · replace hy := hy.1 h5
        refine E_lload dX4_odds_151 rfl ?_
        refine E_lload dX4_odds_153 rfl ?_
        have c6 := hy.1
        replace hy := hy.2
        refine E_ldiv dX4_odds_155 c6 ?_
        exact E_rl dX4_odds_156 rfl ⟨rfl, rfl⟩ hy
      · replace hy := hy.2 h5
        refine E_lload dX4_odds_146 rfl ?_
        refine E_goto 156 dX4_odds_148 rfl ?_
        exact E_rl dX4_odds_156 rfl ⟨rfl, rfl⟩ hy
    · replace hy := hy.2 (Decidable.not_not.mp h4)
      refine E_lload dX4_odds_130 rfl ?_
      refine E_goto 137 dX4_odds_132 rfl ?_
      refine E_lstore dX4_odds_137 (Nat.le_of_ble_eq_true rfl) (?_ : Ev (d + 1) mX4_odds 136 139 [some (.ref 0), some (.int x1), some (.int x2), some (.int x3), some (.int x4), some (.int x5), some (.long x6), none, some (.long v2), none, some (.long v3), none, some (.long x6), none] [] 136 I G J Φ)
      refine E_lload dX4_odds_139 rfl ?_
      refine E_lconst (1 : Int64) dX4_odds_141 rfl ?_
      refine E_lcmp dX4_odds_142 ?_
      refine E_if_ge 151 dX4_odds_143 rfl (fun h7 => ?_) (fun h7 => ?_)
      · replace hy := hy.1 h7
        refine E_lload dX4_odds_151 rfl ?_
        refine E_lload dX4_odds_153 rfl ?_
        have c8 := hy.1
        replace hy := hy.2
        refine E_ldiv dX4_odds_155 c8 ?_
        exact E_rl dX4_odds_156 rfl ⟨rfl, rfl⟩ hy
      · replace hy := hy.2 h7
        refine E_lload dX4_odds_146 rfl ?_
        refine E_goto 156 dX4_odds_148 rfl ?_
        exact E_rl dX4_odds_156 rfl ⟨rfl, rfl⟩ hy
  · replace hy := hy.2 h1
    refine E_iload dX4_odds_66 rfl ?_
    refine E_iload_n 3 dX4_odds_68 rfl rfl ?_
    refine E_iload dX4_odds_69 rfl ?_
    refine E_cs (M := mX4_odds) (pc := 71) (As := [.int x5, .int x3, .int x8]) (st := []) mX4_rainWeight 3 dX4_odds_71 lk_RX4_222 rfl (Nat.le_of_ble_eq_true rfl) ⟨rfl, rfl⟩ (Nat.le_of_ble_eq_true rfl) rfl hy ?_
    rintro r n I9 G9 J9 ⟨v9, rfl, rfl, rfl, rfl, rfl, hy⟩
    show Ev (d + 1) mX4_odds 136 74 [some (.ref 0), some (.int x1), some (.int x2), some (.int x3), some (.int x4), some (.int x5), some (.long x6), none, some (.int x8), none, none, none, none, none] [.long v9] 136 I G J Φ
    refine E_lstore dX4_odds_74 (Nat.le_of_ble_eq_true rfl) (?_ : Ev (d + 1) mX4_odds 136 76 [some (.ref 0), some (.int x1), some (.int x2), some (.int x3), some (.int x4), some (.int x5), some (.long x6), none, some (.int x8), some (.long v9), none, none, none, none] [] 136 I G J Φ)
    refine E_lload dX4_odds_76 rfl ?_
    refine E_lconst (0 : Int64) dX4_odds_78 rfl ?_
    refine E_lcmp dX4_odds_79 ?_
    refine E_if_le 101 dX4_odds_80 rfl (fun h10 => ?_) (fun h10 => ?_)
    · replace hy := hy.1 h10
      refine E_iinc (x8 + (1 : Int32)) dX4_odds_101 rfl rfl (Nat.le_of_ble_eq_true rfl) (?_ : Ev (d + 1) mX4_odds 136 104 [some (.ref 0), some (.int x1), some (.int x2), some (.int x3), some (.int x4), some (.int x5), some (.long x6), none, some (.int (x8 + (1 : Int32))), some (.long v9), none, none, none, none] [] 136 I G J Φ)
      refine E_goto 57 dX4_odds_104 rfl ?_
      refine E_wk (ls2 := [some (.ref 0), some (.int x1), some (.int x2), some (.int x3), some (.int x4), some (.int x5), some (.long x6), none, some (.int (x8 + (1 : Int32))), none, none, none, none, none]) ⟨rfl, rfl, rfl, rfl, rfl, rfl, rfl, rfl, trivial⟩ ?_
      exact hy
    · replace hy := hy.2 h10
      refine E_aload_n 0 dX4_odds_83 rfl rfl ?_
      refine E_iload_n 1 dX4_odds_84 rfl rfl ?_
      refine E_iload_n 2 dX4_odds_85 rfl rfl ?_
      refine E_iload dX4_odds_86 rfl ?_
      refine E_cv (M := mX4_odds) (pc := 88) (As := [.int x1, .int x2, .int x8]) (st := []) mX4_isOverBehind 3 4 16 dX4_odds_88 lk_RX4_226 ⟨_, rfl, rfl⟩ sh_0 rfl (Nat.le_of_ble_eq_true rfl) ⟨rfl, rfl⟩ (Nat.le_of_ble_eq_true rfl) rfl hy ?_
      rintro r n I11 G11 J11 ⟨v11, rfl, rfl, rfl, rfl, hy⟩
      show Ev (d + 1) mX4_odds 136 91 [some (.ref 0), some (.int x1), some (.int x2), some (.int x3), some (.int x4), some (.int x5), some (.long x6), none, some (.int x8), some (.long v9), none, none, none, none] [.int v11] 136 I11 G J Φ
      refine E_if_eq 101 dX4_odds_91 rfl (fun h12 => ?_) (fun h12 => ?_)
      · replace hy := hy.1 h12
        refine E_iinc (x8 + (1 : Int32)) dX4_odds_101 rfl rfl (Nat.le_of_ble_eq_true rfl) (?_ : Ev (d + 1) mX4_odds 136 104 [some (.ref 0), some (.int x1), some (.int x2), some (.int x3), some (.int x4), some (.int x5), some (.long x6), none, some (.int (x8 + (1 : Int32))), some (.long v9), none, none, none, none] [] 136 I11 G J Φ)
        refine E_goto 57 dX4_odds_104 rfl ?_
        refine E_wk (ls2 := [some (.ref 0), some (.int x1), some (.int x2), some (.int x3), some (.int x4), some (.int x5), some (.long x6), none, some (.int (x8 + (1 : Int32))), none, none, none, none, none]) ⟨rfl, rfl, rfl, rfl, rfl, rfl, rfl, rfl, trivial⟩ ?_
        exact hy
      · replace hy := hy.2 h12
        refine E_lload dX4_odds_94 rfl ?_
        refine E_lload dX4_odds_96 rfl ?_
        refine E_ladd dX4_odds_98 ?_
        refine E_lstore dX4_odds_99 (Nat.le_of_ble_eq_true rfl) (?_ : Ev (d + 1) mX4_odds 136 101 [some (.ref 0), some (.int x1), some (.int x2), some (.int x3), some (.int x4), some (.int x5), some (.long (x6 + v9)), none, some (.int x8), some (.long v9), none, none, none, none] [] 136 I11 G J Φ)
        refine E_iinc (x8 + (1 : Int32)) dX4_odds_101 rfl rfl (Nat.le_of_ble_eq_true rfl) (?_ : Ev (d + 1) mX4_odds 136 104 [some (.ref 0), some (.int x1), some (.int x2), some (.int x3), some (.int x4), some (.int x5), some (.long (x6 + v9)), none, some (.int (x8 + (1 : Int32))), some (.long v9), none, none, none, none] [] 136 I11 G J Φ)
        refine E_goto 57 dX4_odds_104 rfl ?_
        refine E_wk (ls2 := [some (.ref 0), some (.int x1), some (.int x2), some (.int x3), some (.int x4), some (.int x5), some (.long (x6 + v9)), none, some (.int (x8 + (1 : Int32))), none, none, none, none, none]) ⟨rfl, rfl, rfl, rfl, rfl, rfl, rfl, rfl, trivial⟩ ?_
        exact hy
set_option maxRecDepth 100000 in
theorem w_X4_order {d : Nat} {I : MI} {G : MG} {J : MJ} {Φ : Ph} (hG : WG G) {la : Nat} (hLa : isL la) (hla : G 0 3 = some la) (x1 : Int32) (x2 : Int32) (hy : Ev d mX1_hasMan 136 0 [some (.ref la), some (.int x1)] [] 136 I G J (fun r n I1 G1 J1 => ∃ v1 : Int32, r = some (.int v1) ∧ n = 136 ∧ I = I1 ∧ G = G1 ∧ J = J1 ∧ ((v1 = 0 → Φ (some (.int (-1 : Int32))) 136 I G J) ∧ (¬ v1 = 0 → (x2 = (-9 : Int32) → Ev d mX4_remember 136 0 [some (.ref 0), none, none] [] 136 I G J (fun r n I4 G4 J4 => r = none ∧ n = 136 ∧ J = J4 ∧ WG G4 ∧ (G4 0 3 = G 0 3 ∧ G4 0 4 = G 0 4) ∧ (vp_in x1 3 ∧ (vp_in x1 3 ∧ (Φ (some (.int (I4 (22 + 4) (x1).toNatClampNeg))) 136 (u2 I4 (22 + 4) (x1).toNatClampNeg x2) G4 J))))) ∧ (¬ x2 = (-9 : Int32) → Ev d mX1_hasHill 136 0 [some (.ref la), some (.int x2)] [] 136 I G J (fun r n I7 G7 J7 => ∃ v7 : Int32, r = some (.int v7) ∧ n = 136 ∧ I = I7 ∧ G = G7 ∧ J = J7 ∧ ((¬ v7 = 0 → Ev d mX4_remember 136 0 [some (.ref 0), none, none] [] 136 I G J (fun r n I9 G9 J9 => r = none ∧ n = 136 ∧ J = J9 ∧ WG G9 ∧ (G9 0 3 = G 0 3 ∧ G9 0 4 = G 0 4) ∧ (vp_in x1 3 ∧ (vp_in x1 3 ∧ (Φ (some (.int (I9 (22 + 4) (x1).toNatClampNeg))) 136 (u2 I9 (22 + 4) (x1).toNatClampNeg x2) G9 J))))) ∧ (v7 = 0 → Φ (some (.int (-1 : Int32))) 136 I G J)))))))) : Ev (d + 1) mX4_order 136 0 [some (.ref 0), some (.int x1), some (.int x2), none] [] 136 I G J Φ := by
  refine E_aload_n 0 dX4_order_0 rfl rfl ?_
  refine E_getr 4 3 0 16 la dX4_order_1 fl_RX4_25 rfl sh_0 hla ?_
  refine E_iload_n 1 dX4_order_4 rfl rfl ?_
  refine E_cv (M := mX4_order) (pc := 5) (As := [.int x1]) (st := []) mX1_hasMan 1 1 15 dX4_order_5 lk_RX4_115 ⟨_, rfl, rfl⟩ (sL0 hLa) rfl (Nat.le_of_ble_eq_true rfl) ⟨rfl, rfl⟩ (Nat.le_of_ble_eq_true rfl) rfl hy ?_
  rintro r n I1 G1 J1 ⟨v1, rfl, rfl, rfl, rfl, rfl, hy⟩
  show Ev (d + 1) mX4_order 136 8 [some (.ref 0), some (.int x1), some (.int x2), none] [.int v1] 136 I G J Φ
  refine E_if_eq 28 dX4_order_8 rfl (fun h2 => ?_) (fun h2 => ?_)
  · replace hy := hy.1 h2
    refine E_iconst (-1 : Int32) dX4_order_28 rfl ?_
    exact E_ri dX4_order_29 rfl ⟨rfl, rfl⟩ hy
  · replace hy := hy.2 h2
    refine E_iload_n 2 dX4_order_11 rfl rfl ?_
    refine E_bipush (-9 : Int32) dX4_order_12 rfl ?_
    refine E_icmp_eq 30 dX4_order_14 rfl (fun h3 => ?_) (fun h3 => ?_)
    · replace hy := hy.1 h3
      refine E_aload_n 0 dX4_order_30 rfl rfl ?_
      refine E_cv (M := mX4_order) (pc := 31) (As := []) (st := []) mX4_remember 0 4 16 dX4_order_31 lk_RX4_140 ⟨_, rfl, rfl⟩ sh_0 rfl (Nat.le_of_ble_eq_true rfl) ⟨rfl, rfl⟩ (Nat.le_of_ble_eq_true rfl) rfl hy ?_
      rintro r n I4 G4 J4 ⟨rfl, rfl, rfl, hG4, hgl4, hy⟩
      show Ev (d + 1) mX4_order 136 34 [some (.ref 0), some (.int x1), some (.int x2), none] [] 136 I4 G4 J Φ
      refine E_aload_n 0 dX4_order_34 rfl rfl ?_
      refine E_getr 4 5 0 16 22 dX4_order_35 fl_RX4_35 rfl sh_0 (wg_0_5 hG4) ?_
      refine E_getr 2 5 22 8 (22 + 4) dX4_order_38 fl_RX4_124 rfl (sM0 isM_22) (gM5 hG4 isM_22) ?_
      refine E_iload_n 1 dX4_order_41 rfl rfl ?_
      have c5 := hy.1
      replace hy := hy.2
      refine E_ia (22 + 4) 3 (x1).toNatClampNeg dX4_order_42 (sM4 isM_22) c5 rfl ?_
      refine E_istore_n 3 dX4_order_43 rfl (Nat.le_of_ble_eq_true rfl) (?_ : Ev (d + 1) mX4_order 136 44 [some (.ref 0), some (.int x1), some (.int x2), some (.int (I4 (22 + 4) (x1).toNatClampNeg))] [] 136 I4 G4 J Φ)
      refine E_aload_n 0 dX4_order_44 rfl rfl ?_
      refine E_getr 4 5 0 16 22 dX4_order_45 fl_RX4_35 rfl sh_0 (wg_0_5 hG4) ?_
      refine E_getr 2 5 22 8 (22 + 4) dX4_order_48 fl_RX4_124 rfl (sM0 isM_22) (gM5 hG4 isM_22) ?_
      refine E_iload_n 1 dX4_order_51 rfl rfl ?_
      refine E_iload_n 2 dX4_order_52 rfl rfl ?_
      have c6 := hy.1
      replace hy := hy.2
      refine E_is (22 + 4) 3 (x1).toNatClampNeg dX4_order_53 (sM4 isM_22) c6 rfl ?_
      refine E_iload_n 3 dX4_order_54 rfl rfl ?_
      exact E_ri dX4_order_55 rfl ⟨rfl, rfl⟩ hy
    · replace hy := hy.2 h3
      refine E_aload_n 0 dX4_order_17 rfl rfl ?_
      refine E_getr 4 3 0 16 la dX4_order_18 fl_RX4_25 rfl sh_0 hla ?_
      refine E_iload_n 2 dX4_order_21 rfl rfl ?_
      refine E_cv (M := mX4_order) (pc := 22) (As := [.int x2]) (st := []) mX1_hasHill 1 1 15 dX4_order_22 lk_RX4_85 ⟨_, rfl, rfl⟩ (sL0 hLa) rfl (Nat.le_of_ble_eq_true rfl) ⟨rfl, rfl⟩ (Nat.le_of_ble_eq_true rfl) rfl hy ?_
      rintro r n I7 G7 J7 ⟨v7, rfl, rfl, rfl, rfl, rfl, hy⟩
      show Ev (d + 1) mX4_order 136 25 [some (.ref 0), some (.int x1), some (.int x2), none] [.int v7] 136 I G J Φ
      refine E_if_ne 30 dX4_order_25 rfl (fun h8 => ?_) (fun h8 => ?_)
      · replace hy := hy.1 h8
        refine E_aload_n 0 dX4_order_30 rfl rfl ?_
        refine E_cv (M := mX4_order) (pc := 31) (As := []) (st := []) mX4_remember 0 4 16 dX4_order_31 lk_RX4_140 ⟨_, rfl, rfl⟩ sh_0 rfl (Nat.le_of_ble_eq_true rfl) ⟨rfl, rfl⟩ (Nat.le_of_ble_eq_true rfl) rfl hy ?_
        rintro r n I9 G9 J9 ⟨rfl, rfl, rfl, hG9, hgl9, hy⟩
        show Ev (d + 1) mX4_order 136 34 [some (.ref 0), some (.int x1), some (.int x2), none] [] 136 I9 G9 J Φ
        refine E_aload_n 0 dX4_order_34 rfl rfl ?_
        refine E_getr 4 5 0 16 22 dX4_order_35 fl_RX4_35 rfl sh_0 (wg_0_5 hG9) ?_
        refine E_getr 2 5 22 8 (22 + 4) dX4_order_38 fl_RX4_124 rfl (sM0 isM_22) (gM5 hG9 isM_22) ?_
        refine E_iload_n 1 dX4_order_41 rfl rfl ?_
        have c10 := hy.1
        replace hy := hy.2
        refine E_ia (22 + 4) 3 (x1).toNatClampNeg dX4_order_42 (sM4 isM_22) c10 rfl ?_
        refine E_istore_n 3 dX4_order_43 rfl (Nat.le_of_ble_eq_true rfl) (?_ : Ev (d + 1) mX4_order 136 44 [some (.ref 0), some (.int x1), some (.int x2), some (.int (I9 (22 + 4) (x1).toNatClampNeg))] [] 136 I9 G9 J Φ)
        refine E_aload_n 0 dX4_order_44 rfl rfl ?_
        refine E_getr 4 5 0 16 22 dX4_order_45 fl_RX4_35 rfl sh_0 (wg_0_5 hG9) ?_
        refine E_getr 2 5 22 8 (22 + 4) dX4_order_48 fl_RX4_124 rfl (sM0 isM_22) (gM5 hG9 isM_22) ?_
        refine E_iload_n 1 dX4_order_51 rfl rfl ?_
        refine E_iload_n 2 dX4_order_52 rfl rfl ?_
        have c11 := hy.1
        replace hy := hy.2
        refine E_is (22 + 4) 3 (x1).toNatClampNeg dX4_order_53 (sM4 isM_22) c11 rfl ?_
        refine E_iload_n 3 dX4_order_54 rfl rfl ?_
        exact E_ri dX4_order_55 rfl ⟨rfl, rfl⟩ hy
      · replace hy := hy.2 (Decidable.not_not.mp h8)
        refine E_iconst (-1 : Int32) dX4_order_28 rfl ?_
        exact E_ri dX4_order_29 rfl ⟨rfl, rfl⟩ hy
set_option maxRecDepth 100000 in
theorem w_X4_power {d : Nat} {I : MI} {G : MG} {J : MJ} {Φ : Ph} (hG : WG G) (x0 : Int32) (x1 : Int32) (hy : Ev d mX4_power 136 5 [some (.int x0), some (.int x1), some (.long (1 : Int64)), none, some (.int (0 : Int32))] [] 136 I G J Φ) : Ev d mX4_power 136 0 [some (.int x0), some (.int x1), none, none, none] [] 136 I G J Φ := by
  refine E_lconst (1 : Int64) dX4_power_0 rfl ?_
  refine E_lstore_n 2 dX4_power_1 rfl (Nat.le_of_ble_eq_true rfl) (?_ : Ev d mX4_power 136 2 [some (.int x0), some (.int x1), some (.long (1 : Int64)), none, none] [] 136 I G J Φ)
  refine E_iconst (0 : Int32) dX4_power_2 rfl ?_
  refine E_istore dX4_power_3 (Nat.le_of_ble_eq_true rfl) (?_ : Ev d mX4_power 136 5 [some (.int x0), some (.int x1), some (.long (1 : Int64)), none, some (.int (0 : Int32))] [] 136 I G J Φ)
  exact hy
set_option maxRecDepth 100000 in
theorem w_X4_power_5 {d : Nat} {I : MI} {G : MG} {J : MJ} {Φ : Ph} (hG : WG G)  (x0 : Int32) (x1 : Int32) (x2 : Int64) (x4 : Int32) (hy : (x1 ≤ x4 → Φ (some (.long x2)) 136 I G J) ∧ (¬ x1 ≤ x4 → Ev d mX4_power 136 5 [some (.int x0), some (.int x1), some (.long (x2 * (x0.toInt64))), none, some (.int (x4 + (1 : Int32)))] [] 136 I G J Φ)) : Ev d mX4_power 136 5 [some (.int x0), some (.int x1), some (.long x2), none, some (.int x4)] [] 136 I G J Φ := by
  refine E_iload dX4_power_5 rfl ?_
  refine E_iload_n 1 dX4_power_7 rfl rfl ?_
  refine E_icmp_ge 22 dX4_power_8 rfl (fun h1 => ?_) (fun h1 => ?_)
  · replace hy := hy.1 h1
    refine E_lload_n 2 dX4_power_22 rfl rfl ?_
    exact E_rl dX4_power_23 rfl ⟨rfl, rfl⟩ hy
  · replace hy := hy.2 h1
    refine E_lload_n 2 dX4_power_11 rfl rfl ?_
    refine E_iload_n 0 dX4_power_12 rfl rfl ?_
    refine E_i2l dX4_power_13 ?_
    refine E_lmul dX4_power_14 ?_
    refine E_lstore_n 2 dX4_power_15 rfl (Nat.le_of_ble_eq_true rfl) (?_ : Ev d mX4_power 136 16 [some (.int x0), some (.int x1), some (.long (x2 * (x0.toInt64))), none, some (.int x4)] [] 136 I G J Φ)
    refine E_iinc (x4 + (1 : Int32)) dX4_power_16 rfl rfl (Nat.le_of_ble_eq_true rfl) (?_ : Ev d mX4_power 136 19 [some (.int x0), some (.int x1), some (.long (x2 * (x0.toInt64))), none, some (.int (x4 + (1 : Int32)))] [] 136 I G J Φ)
    refine E_goto 5 dX4_power_19 rfl ?_
    exact hy
set_option maxRecDepth 100000 in
theorem w_X4_rainWeight {d : Nat} {I : MI} {G : MG} {J : MJ} {Φ : Ph} (hG : WG G) (x0 : Int32) (x1 : Int32) (x2 : Int32) (hy : Ev d mJ6_bitCount_0f7a4 136 0 [some (.int x2)] [] 136 I G J (fun r n I1 G1 J1 => ∃ v1 : Int32, r = some (.int v1) ∧ n = 136 ∧ I = I1 ∧ G = G1 ∧ J = J1 ∧ (Ev d mX4_power 136 0 [some (.int x1), some (.int v1), none, none, none] [] 136 I G J (fun r n I2 G2 J2 => ∃ v2 : Int64, r = some (.long v2) ∧ n = 136 ∧ I = I2 ∧ G = G2 ∧ J = J2 ∧ (Ev d mX4_power 136 0 [some (.int ((10 : Int32) - x1)), some (.int (x0 - v1)), none, none, none] [] 136 I G J (fun r n I3 G3 J3 => ∃ v3 : Int64, r = some (.long v3) ∧ n = 136 ∧ I = I3 ∧ G = G3 ∧ J = J3 ∧ (Φ (some (.long (v2 * v3))) 136 I G J))))))) : Ev (d + 1) mX4_rainWeight 136 0 [some (.int x0), some (.int x1), some (.int x2), none] [] 136 I G J Φ := by
  refine E_iload_n 2 dX4_rainWeight_0 rfl rfl ?_
  refine E_cs (M := mX4_rainWeight) (pc := 1) (As := [.int x2]) (st := []) mJ6_bitCount_0f7a4 1 dX4_rainWeight_1 lk_RX4_201 rfl (Nat.le_of_ble_eq_true rfl) ⟨rfl, rfl⟩ (Nat.le_of_ble_eq_true rfl) rfl hy ?_
  rintro r n I1 G1 J1 ⟨v1, rfl, rfl, rfl, rfl, rfl, hy⟩
  show Ev (d + 1) mX4_rainWeight 136 4 [some (.int x0), some (.int x1), some (.int x2), none] [.int v1] 136 I G J Φ
  refine E_istore_n 3 dX4_rainWeight_4 rfl (Nat.le_of_ble_eq_true rfl) (?_ : Ev (d + 1) mX4_rainWeight 136 5 [some (.int x0), some (.int x1), some (.int x2), some (.int v1)] [] 136 I G J Φ)
  refine E_iload_n 1 dX4_rainWeight_5 rfl rfl ?_
  refine E_iload_n 3 dX4_rainWeight_6 rfl rfl ?_
  refine E_cs (M := mX4_rainWeight) (pc := 7) (As := [.int x1, .int v1]) (st := []) mX4_power 2 dX4_rainWeight_7 lk_RX4_230 rfl (Nat.le_of_ble_eq_true rfl) ⟨rfl, rfl⟩ (Nat.le_of_ble_eq_true rfl) rfl hy ?_
  rintro r n I2 G2 J2 ⟨v2, rfl, rfl, rfl, rfl, rfl, hy⟩
  show Ev (d + 1) mX4_rainWeight 136 10 [some (.int x0), some (.int x1), some (.int x2), some (.int v1)] [.long v2] 136 I G J Φ
  refine E_bipush (10 : Int32) dX4_rainWeight_10 rfl ?_
  refine E_iload_n 1 dX4_rainWeight_12 rfl rfl ?_
  refine E_isub dX4_rainWeight_13 ?_
  refine E_iload_n 0 dX4_rainWeight_14 rfl rfl ?_
  refine E_iload_n 3 dX4_rainWeight_15 rfl rfl ?_
  refine E_isub dX4_rainWeight_16 ?_
  refine E_cs (M := mX4_rainWeight) (pc := 17) (As := [.int ((10 : Int32) - x1), .int (x0 - v1)]) (st := [.long v2]) mX4_power 2 dX4_rainWeight_17 lk_RX4_230 rfl (Nat.le_of_ble_eq_true rfl) ⟨rfl, rfl⟩ (Nat.le_of_ble_eq_true rfl) rfl hy ?_
  rintro r n I3 G3 J3 ⟨v3, rfl, rfl, rfl, rfl, rfl, hy⟩
  show Ev (d + 1) mX4_rainWeight 136 20 [some (.int x0), some (.int x1), some (.int x2), some (.int v1)] [.long v3, .long v2] 136 I G J Φ
  refine E_lmul dX4_rainWeight_20 ?_
  exact E_rl dX4_rainWeight_21 rfl ⟨rfl, rfl⟩ hy
set_option maxRecDepth 100000 in
theorem w_X4_rate {d : Nat} {I : MI} {G : MG} {J : MJ} {Φ : Ph} (hG : WG G) {la : Nat} (hLa : isL la) (hla : G 0 3 = some la) (x1 : Int32) (x2 : Int32) (hy : (x1 < 0 → Φ (some (.int (-1000000 : Int32))) 136 I G J) ∧ (¬ x1 < 0 → ((5 : Int32) < x1 → Φ (some (.int (-1000000 : Int32))) 136 I G J) ∧ (¬ (5 : Int32) < x1 → Ev d mX1_hasHill 136 0 [some (.ref la), some (.int x2)] [] 136 I G J (fun r n I3 G3 J3 => ∃ v3 : Int32, r = some (.int v3) ∧ n = 136 ∧ I = I3 ∧ G = G3 ∧ J = J3 ∧ ((¬ v3 = 0 → Ev d mX4_rateAs 136 0 [some (.ref 0), some (.int x1), some (.int x2), none] [] 136 I G J (fun r n I5 G5 J5 => ∃ v5 : Int32, r = some (.int v5) ∧ n = 136 ∧ I = I5 ∧ G = G5 ∧ (Φ (some (.int v5)) 136 I G J5))) ∧ (v3 = 0 → Φ (some (.int (-1000000 : Int32))) 136 I G J)))))) : Ev (d + 1) mX4_rate 136 0 [some (.ref 0), some (.int x1), some (.int x2)] [] 136 I G J Φ := by
  refine E_iload_n 1 dX4_rate_0 rfl rfl ?_
  refine E_if_lt 20 dX4_rate_1 rfl (fun h1 => ?_) (fun h1 => ?_)
  · replace hy := hy.1 h1
    refine E_ldc (-1000000 : Int32) dX4_rate_20 cs_RX4_238 ?_
    exact E_ri dX4_rate_22 rfl ⟨rfl, rfl⟩ hy
  · replace hy := hy.2 h1
    refine E_iload_n 1 dX4_rate_4 rfl rfl ?_
    refine E_iconst (5 : Int32) dX4_rate_5 rfl ?_
    refine E_icmp_gt 20 dX4_rate_6 rfl (fun h2 => ?_) (fun h2 => ?_)
    · replace hy := hy.1 h2
      refine E_ldc (-1000000 : Int32) dX4_rate_20 cs_RX4_238 ?_
      exact E_ri dX4_rate_22 rfl ⟨rfl, rfl⟩ hy
    · replace hy := hy.2 h2
      refine E_aload_n 0 dX4_rate_9 rfl rfl ?_
      refine E_getr 4 3 0 16 la dX4_rate_10 fl_RX4_25 rfl sh_0 hla ?_
      refine E_iload_n 2 dX4_rate_13 rfl rfl ?_
      refine E_cv (M := mX4_rate) (pc := 14) (As := [.int x2]) (st := []) mX1_hasHill 1 1 15 dX4_rate_14 lk_RX4_85 ⟨_, rfl, rfl⟩ (sL0 hLa) rfl (Nat.le_of_ble_eq_true rfl) ⟨rfl, rfl⟩ (Nat.le_of_ble_eq_true rfl) rfl hy ?_
      rintro r n I3 G3 J3 ⟨v3, rfl, rfl, rfl, rfl, rfl, hy⟩
      show Ev (d + 1) mX4_rate 136 17 [some (.ref 0), some (.int x1), some (.int x2)] [.int v3] 136 I G J Φ
      refine E_if_ne 23 dX4_rate_17 rfl (fun h4 => ?_) (fun h4 => ?_)
      · replace hy := hy.1 h4
        refine E_aload_n 0 dX4_rate_23 rfl rfl ?_
        refine E_iload_n 1 dX4_rate_24 rfl rfl ?_
        refine E_iload_n 2 dX4_rate_25 rfl rfl ?_
        refine E_cv (M := mX4_rate) (pc := 26) (As := [.int x1, .int x2]) (st := []) mX4_rateAs 2 4 16 dX4_rate_26 lk_RX4_239 ⟨_, rfl, rfl⟩ sh_0 rfl (Nat.le_of_ble_eq_true rfl) ⟨rfl, rfl⟩ (Nat.le_of_ble_eq_true rfl) rfl hy ?_
        rintro r n I5 G5 J5 ⟨v5, rfl, rfl, rfl, rfl, hy⟩
        show Ev (d + 1) mX4_rate 136 29 [some (.ref 0), some (.int x1), some (.int x2)] [.int v5] 136 I G J5 Φ
        exact E_ri dX4_rate_29 rfl ⟨rfl, rfl⟩ hy
      · replace hy := hy.2 (Decidable.not_not.mp h4)
        refine E_ldc (-1000000 : Int32) dX4_rate_20 cs_RX4_238 ?_
        exact E_ri dX4_rate_22 rfl ⟨rfl, rfl⟩ hy
set_option maxRecDepth 100000 in
theorem w_X4_rateAs {d : Nat} {I : MI} {G : MG} {J : MJ} {Φ : Ph} (hG : WG G) {la : Nat} (hLa : isL la) (hla : G 0 3 = some la) (x1 : Int32) (x2 : Int32) (hy : vp_in x1 (oul G 1002) ∧ ((¬ x1 = 0 → vp_in x1 (oul G 1001) ∧ (Ev d mX4_rateAs 136 0 [some (.ref 0), some (.int (I 1001 (x1).toNatClampNeg)), some (.int x2), none] [] 136 I G (u2 J 0 15 ((J 0 15) + ((I 1002 (x1).toNatClampNeg).toInt64))) (fun r n I4 G4 J4 => ∃ v4 : Int32, r = some (.int v4) ∧ n = 136 ∧ I = I4 ∧ G = G4 ∧ ((x1 = nI 1 → vp_in x2 4 ∧ (Φ (some (.int (v4 + (I (22 + 1) (x2).toNatClampNeg)))) 136 I G J4)) ∧ (¬ x1 = nI 1 → (x1 = nI 2 → vp_in x2 4 ∧ (Φ (some (.int (v4 - (I (la + 2) (x2).toNatClampNeg)))) 136 I G J4)) ∧ (¬ x1 = nI 2 → (x1 = nI 3 → Φ (some (.int ((2 : Int32) * v4))) 136 I G J4) ∧ (¬ x1 = nI 3 → (x1 = nI 4 → Φ (some (.int (v4 + x2))) 136 I G J4) ∧ (¬ x1 = nI 4 → Ev d mX2_menAt 136 0 [some (.ref 22), some (.ref la), some (.int x2), none, none] [] 136 I G J4 (fun r n I7 G7 J7 => ∃ v7 : Int32, r = some (.int v7) ∧ n = 136 ∧ I = I7 ∧ G = G7 ∧ J4 = J7 ∧ (Φ (some (.int (v4 + v7))) 136 I G J4)))))))))) ∧ (x1 = 0 → Ev d mX2_sizeNow 136 0 [some (.ref 22), some (.ref la), some (.int x2)] [] 136 I G (u2 J 0 15 ((J 0 15) + ((I 1002 (x1).toNatClampNeg).toInt64))) (fun r n I12 G12 J12 => ∃ v12 : Int32, r = some (.int v12) ∧ n = 136 ∧ I = I12 ∧ G = G12 ∧ (u2 J 0 15 ((J 0 15) + ((I 1002 (x1).toNatClampNeg).toInt64))) = J12 ∧ (Φ (some (.int v12)) 136 I G (u2 J 0 15 ((J 0 15) + ((I 1002 (x1).toNatClampNeg).toInt64)))))))) : Ev (d + 1) mX4_rateAs 136 0 [some (.ref 0), some (.int x1), some (.int x2), none] [] 136 I G J Φ := by
  refine E_aload_n 0 dX4_rateAs_0 rfl rfl ?_
  refine E_dup dX4_rateAs_1 rfl ?_
  refine E_getl 4 15 0 16 dX4_rateAs_2 fl_RX4_251 rfl sh_0 ?_
  refine E_gets "DuskStones" "KIND_TRACE" 1002 dX4_rateAs_5 (fun K B s h => h.2.2.1) gs_RX4_255 ?_
  refine E_iload_n 1 dX4_rateAs_8 rfl rfl ?_
  have c1 := hy.1
  replace hy := hy.2
  refine E_ou 1002 (x1).toNatClampNeg dX4_rateAs_9 (by decide) (by decide) c1 rfl ?_
  refine E_i2l dX4_rateAs_10 ?_
  refine E_ladd dX4_rateAs_11 ?_
  refine E_putl 4 15 0 16 dX4_rateAs_12 fl_RX4_251 rfl sh_0 ⟨_, rfl, rfl⟩ rfl rfl ?_
  refine E_iload_n 1 dX4_rateAs_15 rfl rfl ?_
  refine E_if_ne 32 dX4_rateAs_16 rfl (fun h2 => ?_) (fun h2 => ?_)
  · replace hy := hy.1 h2
    refine E_aload_n 0 dX4_rateAs_32 rfl rfl ?_
    refine E_gets "DuskStones" "KIND_ABOVE" 1001 dX4_rateAs_33 (fun K B s h => h.2.1) gs_RX4_258 ?_
    refine E_iload_n 1 dX4_rateAs_36 rfl rfl ?_
    have c3 := hy.1
    replace hy := hy.2
    refine E_ou 1001 (x1).toNatClampNeg dX4_rateAs_37 (by decide) (by decide) c3 rfl ?_
    refine E_iload_n 2 dX4_rateAs_38 rfl rfl ?_
    refine E_cv (M := mX4_rateAs) (pc := 39) (As := [.int (I 1001 (x1).toNatClampNeg), .int x2]) (st := []) mX4_rateAs 2 4 16 dX4_rateAs_39 lk_RX4_239 ⟨_, rfl, rfl⟩ sh_0 rfl (Nat.le_of_ble_eq_true rfl) ⟨rfl, rfl⟩ (Nat.le_of_ble_eq_true rfl) rfl hy ?_
    rintro r n I4 G4 J4 ⟨v4, rfl, rfl, rfl, rfl, hy⟩
    show Ev (d + 1) mX4_rateAs 136 42 [some (.ref 0), some (.int x1), some (.int x2), none] [.int v4] 136 I G J4 Φ
    refine E_istore_n 3 dX4_rateAs_42 rfl (Nat.le_of_ble_eq_true rfl) (?_ : Ev (d + 1) mX4_rateAs 136 43 [some (.ref 0), some (.int x1), some (.int x2), some (.int v4)] [] 136 I G J4 Φ)
    refine E_iload_n 1 dX4_rateAs_43 rfl rfl ?_
    refine E_tsw 1 [76, 88, 100, 104] 108 dX4_rateAs_44 rfl rfl rfl (by decide) ?_
    refine ⟨fun h8 => ?_, fun h8 => ?_⟩
    · replace hy := hy.1 h8
      dsimp only
      refine E_iload_n 3 dX4_rateAs_76 rfl rfl ?_
      refine E_aload_n 0 dX4_rateAs_77 rfl rfl ?_
      refine E_getr 4 5 0 16 22 dX4_rateAs_78 fl_RX4_35 rfl sh_0 (wg_0_5 hG) ?_
      refine E_getr 2 2 22 8 (22 + 1) dX4_rateAs_81 fl_RX4_101 rfl (sM0 isM_22) (gM2 hG isM_22) ?_
      refine E_iload_n 2 dX4_rateAs_84 rfl rfl ?_
      have c5 := hy.1
      replace hy := hy.2
      refine E_ia (22 + 1) 4 (x2).toNatClampNeg dX4_rateAs_85 (sM1 isM_22) c5 rfl ?_
      refine E_iadd dX4_rateAs_86 ?_
      exact E_ri dX4_rateAs_87 rfl ⟨rfl, rfl⟩ hy
    replace hy := hy.2 h8
    refine ⟨fun h9 => ?_, fun h9 => ?_⟩
    · replace hy := hy.1 h9
      dsimp only
      refine E_iload_n 3 dX4_rateAs_88 rfl rfl ?_
      refine E_aload_n 0 dX4_rateAs_89 rfl rfl ?_
      refine E_getr 4 3 0 16 la dX4_rateAs_90 fl_RX4_25 rfl sh_0 hla ?_
      refine E_getr 1 2 la 15 (la + 2) dX4_rateAs_93 fl_RX4_92 rfl (sL0 hLa) (gL2 hG hLa) ?_
      refine E_iload_n 2 dX4_rateAs_96 rfl rfl ?_
      have c6 := hy.1
      replace hy := hy.2
      refine E_ia (la + 2) 4 (x2).toNatClampNeg dX4_rateAs_97 (sL2 hLa) c6 rfl ?_
      refine E_isub dX4_rateAs_98 ?_
      exact E_ri dX4_rateAs_99 rfl ⟨rfl, rfl⟩ hy
    replace hy := hy.2 h9
    refine ⟨fun h10 => ?_, fun h10 => ?_⟩
    · replace hy := hy.1 h10
      dsimp only
      refine E_iconst (2 : Int32) dX4_rateAs_100 rfl ?_
      refine E_iload_n 3 dX4_rateAs_101 rfl rfl ?_
      refine E_imul dX4_rateAs_102 ?_
      exact E_ri dX4_rateAs_103 rfl ⟨rfl, rfl⟩ hy
    replace hy := hy.2 h10
    refine ⟨fun h11 => ?_, fun h11 => ?_⟩
    · replace hy := hy.1 h11
      dsimp only
      refine E_iload_n 3 dX4_rateAs_104 rfl rfl ?_
      refine E_iload_n 2 dX4_rateAs_105 rfl rfl ?_
      refine E_iadd dX4_rateAs_106 ?_
      exact E_ri dX4_rateAs_107 rfl ⟨rfl, rfl⟩ hy
    replace hy := hy.2 h11
    show Ev (d + 1) mX4_rateAs 136 108 [some (.ref 0), some (.int x1), some (.int x2), some (.int v4)] [] 136 I G J4 Φ
    refine E_iload_n 3 dX4_rateAs_108 rfl rfl ?_
    refine E_aload_n 0 dX4_rateAs_109 rfl rfl ?_
    refine E_getr 4 5 0 16 22 dX4_rateAs_110 fl_RX4_35 rfl sh_0 (wg_0_5 hG) ?_
    refine E_aload_n 0 dX4_rateAs_113 rfl rfl ?_
    refine E_getr 4 3 0 16 la dX4_rateAs_114 fl_RX4_25 rfl sh_0 hla ?_
    refine E_iload_n 2 dX4_rateAs_117 rfl rfl ?_
    refine E_cv (M := mX4_rateAs) (pc := 118) (As := [.ref la, .int x2]) (st := [.int v4]) mX2_menAt 2 2 8 dX4_rateAs_118 lk_RX4_261 ⟨_, rfl, rfl⟩ (sM0 isM_22) rfl (Nat.le_of_ble_eq_true rfl) ⟨rfl, rfl⟩ (Nat.le_of_ble_eq_true rfl) rfl hy ?_
    rintro r n I7 G7 J7 ⟨v7, rfl, rfl, rfl, rfl, rfl, hy⟩
    show Ev (d + 1) mX4_rateAs 136 121 [some (.ref 0), some (.int x1), some (.int x2), some (.int v4)] [.int v7, .int v4] 136 I G J4 Φ
    refine E_iadd dX4_rateAs_121 ?_
    exact E_ri dX4_rateAs_122 rfl ⟨rfl, rfl⟩ hy
  · replace hy := hy.2 (Decidable.not_not.mp h2)
    refine E_aload_n 0 dX4_rateAs_19 rfl rfl ?_
    refine E_getr 4 5 0 16 22 dX4_rateAs_20 fl_RX4_35 rfl sh_0 (wg_0_5 hG) ?_
    refine E_aload_n 0 dX4_rateAs_23 rfl rfl ?_
    refine E_getr 4 3 0 16 la dX4_rateAs_24 fl_RX4_25 rfl sh_0 hla ?_
    refine E_iload_n 2 dX4_rateAs_27 rfl rfl ?_
    refine E_cv (M := mX4_rateAs) (pc := 28) (As := [.ref la, .int x2]) (st := []) mX2_sizeNow 2 2 8 dX4_rateAs_28 lk_RX4_104 ⟨_, rfl, rfl⟩ (sM0 isM_22) rfl (Nat.le_of_ble_eq_true rfl) ⟨rfl, rfl⟩ (Nat.le_of_ble_eq_true rfl) rfl hy ?_
    rintro r n I12 G12 J12 ⟨v12, rfl, rfl, rfl, rfl, rfl, hy⟩
    show Ev (d + 1) mX4_rateAs 136 31 [some (.ref 0), some (.int x1), some (.int x2), none] [.int v12] 136 I G (u2 J 0 15 ((J 0 15) + ((I 1002 (x1).toNatClampNeg).toInt64))) Φ
    exact E_ri dX4_rateAs_31 rfl ⟨rfl, rfl⟩ hy
set_option maxRecDepth 100000 in
theorem w_X4_remember {d : Nat} {I : MI} {G : MG} {J : MJ} {Φ : Ph} (hG : WG G) {pq : Nat → Nat} (hpq : ∀ j, j < 10 → isM (pq j) ∧ G 34 j = some (pq j))  (hy : ((I 0 8) < (10 : Int32) → vp_in (I 0 8) 10 ∧ (Ev d mX2_copyFrom 136 0 [some (.ref (pq (I 0 8).toNatClampNeg)), some (.ref 22)] [] 136 I G J (fun r n I3 G3 J3 => r = none ∧ n = 136 ∧ G = G3 ∧ J = J3 ∧ (Φ none 136 (u2 I3 0 8 ((I3 0 8) + (1 : Int32))) G J)))) ∧ (¬ (I 0 8) < (10 : Int32) → Ev (d + 1) mX4_remember 136 18 [some (.ref 0), some (.ref (pq 0)), some (.int (1 : Int32))] [] 136 I G J Φ)) : Ev (d + 1) mX4_remember 136 0 [some (.ref 0), none, none] [] 136 I G J Φ := by
  refine E_aload_n 0 dX4_remember_0 rfl rfl ?_
  refine E_geti 4 8 0 16 dX4_remember_1 fl_RX4_79 rfl sh_0 ?_
  refine E_bipush (10 : Int32) dX4_remember_4 rfl ?_
  refine E_icmp_lt 58 dX4_remember_6 rfl (fun h1 => ?_) (fun h1 => ?_)
  · replace hy := hy.1 h1
    refine E_aload_n 0 dX4_remember_58 rfl rfl ?_
    refine E_getr 4 7 0 16 34 dX4_remember_59 fl_RX4_42 rfl sh_0 (wg_0_7 hG) ?_
    refine E_aload_n 0 dX4_remember_62 rfl rfl ?_
    refine E_geti 4 8 0 16 dX4_remember_63 fl_RX4_79 rfl sh_0 ?_
    have c2 := hy.1
    replace hy := hy.2
    refine E_aa 34 10 (I 0 8).toNatClampNeg (pq (I 0 8).toNatClampNeg) dX4_remember_66 sh_34 c2 rfl (hpq _ (Nat.not_le.mp (fun q => c2 (Or.inr q)))).2 ?_
    refine E_aload_n 0 dX4_remember_67 rfl rfl ?_
    refine E_getr 4 5 0 16 22 dX4_remember_68 fl_RX4_35 rfl sh_0 (wg_0_5 hG) ?_
    refine E_cv (M := mX4_remember) (pc := 71) (As := [.ref 22]) (st := []) mX2_copyFrom 1 2 8 dX4_remember_71 lk_RX4_159 ⟨_, rfl, rfl⟩ (sM0 (hpq _ (Nat.not_le.mp (fun q => c2 (Or.inr q)))).1) rfl (Nat.le_of_ble_eq_true rfl) ⟨rfl, rfl⟩ (Nat.le_of_ble_eq_true rfl) rfl hy ?_
    rintro r n I3 G3 J3 ⟨rfl, rfl, rfl, rfl, hy⟩
    show Ev (d + 1) mX4_remember 136 74 [some (.ref 0), none, none] [] 136 I3 G J Φ
    refine E_aload_n 0 dX4_remember_74 rfl rfl ?_
    refine E_dup dX4_remember_75 rfl ?_
    refine E_geti 4 8 0 16 dX4_remember_76 fl_RX4_79 rfl sh_0 ?_
    refine E_iconst (1 : Int32) dX4_remember_79 rfl ?_
    refine E_iadd dX4_remember_80 ?_
    refine E_puti 4 8 0 16 dX4_remember_81 fl_RX4_79 rfl sh_0 ⟨_, rfl, rfl⟩ rfl rfl ?_
    exact E_rv dX4_remember_84 rfl ⟨rfl, rfl⟩ hy
  · replace hy := hy.2 h1
    refine E_aload_n 0 dX4_remember_9 rfl rfl ?_
    refine E_getr 4 7 0 16 34 dX4_remember_10 fl_RX4_42 rfl sh_0 (wg_0_7 hG) ?_
    refine E_iconst (0 : Int32) dX4_remember_13 rfl ?_
    refine E_aa 34 10 0 (pq 0) dX4_remember_14 sh_34 (vpd (by decide)) rfl (hpq _ (by decide)).2 ?_
    refine E_astore_n 1 dX4_remember_15 rfl (Nat.le_of_ble_eq_true rfl) (?_ : Ev (d + 1) mX4_remember 136 16 [some (.ref 0), some (.ref (pq 0)), none] [] 136 I G J Φ)
    refine E_iconst (1 : Int32) dX4_remember_16 rfl ?_
    refine E_istore_n 2 dX4_remember_17 rfl (Nat.le_of_ble_eq_true rfl) (?_ : Ev (d + 1) mX4_remember 136 18 [some (.ref 0), some (.ref (pq 0)), some (.int (1 : Int32))] [] 136 I G J Φ)
    exact hy
set_option maxRecDepth 100000 in
theorem w_X4_remember_18 {d : Nat} {I : MI} {G : MG} {J : MJ} {Φ : Ph} (hG : WG G) {pq : Nat → Nat} (hpq : ∀ j, j < 10 → isM (pq j) ∧ G 34 j = some (pq j)) {o1 : Nat} (ho1 : isM o1) (x2 : Int32) (hy : ((10 : Int32) ≤ x2 → Ev d mX2_copyFrom 136 0 [some (.ref o1), some (.ref 22)] [] 136 (u2 I 0 8 (9 : Int32)) (u2 G 34 9 (some o1)) J (fun r n I2 G2 J2 => r = none ∧ n = 136 ∧ (u2 G 34 9 (some o1)) = G2 ∧ J = J2 ∧ (Φ none 136 (u2 I2 0 8 ((I2 0 8) + (1 : Int32))) (u2 G 34 9 (some o1)) J))) ∧ (¬ (10 : Int32) ≤ x2 → vp_in x2 10 ∧ (vp_in (x2 - (1 : Int32)) 10 ∧ (Ev (d + 1) mX4_remember 136 18 [some (.ref 0), some (.ref o1), some (.int (x2 + (1 : Int32)))] [] 136 I (u2 G 34 (x2 - (1 : Int32)).toNatClampNeg (some (pq (x2).toNatClampNeg))) J Φ)))) : Ev (d + 1) mX4_remember 136 18 [some (.ref 0), some (.ref o1), some (.int x2)] [] 136 I G J Φ := by
  refine E_iload_n 2 dX4_remember_18 rfl rfl ?_
  refine E_bipush (10 : Int32) dX4_remember_19 rfl ?_
  refine E_icmp_ge 44 dX4_remember_21 rfl (fun h1 => ?_) (fun h1 => ?_)
  · replace hy := hy.1 h1
    refine E_aload_n 0 dX4_remember_44 rfl rfl ?_
    refine E_getr 4 7 0 16 34 dX4_remember_45 fl_RX4_42 rfl sh_0 (wg_0_7 hG) ?_
    refine E_bipush (9 : Int32) dX4_remember_48 rfl ?_
    refine E_aload_n 1 dX4_remember_50 rfl rfl ?_
    refine E_as 34 10 9 o1 8 dX4_remember_51 sh_34 (sM0 ho1) (vpd (by decide)) rfl ?_
    refine E_aload_n 0 dX4_remember_52 rfl rfl ?_
    refine E_bipush (9 : Int32) dX4_remember_53 rfl ?_
    refine E_puti 4 8 0 16 dX4_remember_55 fl_RX4_79 rfl sh_0 ⟨_, rfl, rfl⟩ rfl rfl ?_
    refine E_aload_n 0 dX4_remember_58 rfl rfl ?_
    refine E_getr 4 7 0 16 34 dX4_remember_59 fl_RX4_42 rfl sh_0 (wg_0_7 (WG_past hG _)) ?_
    refine E_aload_n 0 dX4_remember_62 rfl rfl ?_
    refine E_getw 4 8 0 16 (9 : Int32) dX4_remember_63 fl_RX4_79 rfl sh_0 rfl ?_
    refine E_aa 34 10 9 o1 dX4_remember_66 sh_34 (vpd (by decide)) rfl (by simp [u2]) ?_
    refine E_aload_n 0 dX4_remember_67 rfl rfl ?_
    refine E_getr 4 5 0 16 22 dX4_remember_68 fl_RX4_35 rfl sh_0 (wg_0_5 (WG_past hG _)) ?_
    refine E_cv (M := mX4_remember) (pc := 71) (As := [.ref 22]) (st := []) mX2_copyFrom 1 2 8 dX4_remember_71 lk_RX4_159 ⟨_, rfl, rfl⟩ (sM0 ho1) rfl (Nat.le_of_ble_eq_true rfl) ⟨rfl, rfl⟩ (Nat.le_of_ble_eq_true rfl) rfl hy ?_
    rintro r n I2 G2 J2 ⟨rfl, rfl, rfl, rfl, hy⟩
    show Ev (d + 1) mX4_remember 136 74 [some (.ref 0), some (.ref o1), some (.int x2)] [] 136 I2 (u2 G 34 9 (some o1)) J Φ
    refine E_aload_n 0 dX4_remember_74 rfl rfl ?_
    refine E_dup dX4_remember_75 rfl ?_
    refine E_geti 4 8 0 16 dX4_remember_76 fl_RX4_79 rfl sh_0 ?_
    refine E_iconst (1 : Int32) dX4_remember_79 rfl ?_
    refine E_iadd dX4_remember_80 ?_
    refine E_puti 4 8 0 16 dX4_remember_81 fl_RX4_79 rfl sh_0 ⟨_, rfl, rfl⟩ rfl rfl ?_
    exact E_rv dX4_remember_84 rfl ⟨rfl, rfl⟩ hy
  · replace hy := hy.2 h1
    refine E_aload_n 0 dX4_remember_24 rfl rfl ?_
    refine E_getr 4 7 0 16 34 dX4_remember_25 fl_RX4_42 rfl sh_0 (wg_0_7 hG) ?_
    refine E_iload_n 2 dX4_remember_28 rfl rfl ?_
    refine E_iconst (1 : Int32) dX4_remember_29 rfl ?_
    refine E_isub dX4_remember_30 ?_
    refine E_aload_n 0 dX4_remember_31 rfl rfl ?_
    refine E_getr 4 7 0 16 34 dX4_remember_32 fl_RX4_42 rfl sh_0 (wg_0_7 hG) ?_
    refine E_iload_n 2 dX4_remember_35 rfl rfl ?_
    have c3 := hy.1
    replace hy := hy.2
    refine E_aa 34 10 (x2).toNatClampNeg (pq (x2).toNatClampNeg) dX4_remember_36 sh_34 c3 rfl (hpq _ (Nat.not_le.mp (fun q => c3 (Or.inr q)))).2 ?_
    have c4 := hy.1
    replace hy := hy.2
    refine E_as 34 10 (x2 - (1 : Int32)).toNatClampNeg (pq (x2).toNatClampNeg) 8 dX4_remember_37 sh_34 (sM0 (hpq _ (Nat.not_le.mp (fun q => c3 (Or.inr q)))).1) c4 rfl ?_
    refine E_iinc (x2 + (1 : Int32)) dX4_remember_38 rfl rfl (Nat.le_of_ble_eq_true rfl) (?_ : Ev (d + 1) mX4_remember 136 41 [some (.ref 0), some (.ref o1), some (.int (x2 + (1 : Int32)))] [] 136 I (u2 G 34 (x2 - (1 : Int32)).toNatClampNeg (some (pq (x2).toNatClampNeg))) J Φ)
    refine E_goto 18 dX4_remember_41 rfl ?_
    exact hy
set_option maxRecDepth 100000 in
theorem w_X4_saw {d : Nat} {I : MI} {G : MG} {J : MJ} {Φ : Ph} (hG : WG G) {la : Nat} (hLa : isL la) (hla : G 0 3 = some la) (x1 : Int32) (x2 : Int32) (hy : Ev d mX1_hasHill 136 0 [some (.ref la), some (.int x1)] [] 136 I G J (fun r n I1 G1 J1 => ∃ v1 : Int32, r = some (.int v1) ∧ n = 136 ∧ I = I1 ∧ G = G1 ∧ J = J1 ∧ ((v1 = 0 → Φ (some (.int (-1 : Int32))) 136 I G J) ∧ (¬ v1 = 0 → (x2 < 0 → Φ (some (.int (-1 : Int32))) 136 I G J) ∧ (¬ x2 < 0 → (x2 ≤ (9 : Int32) → ((I 0 13) < (6 : Int32) → vp_in (I 0 13) 6 ∧ (vp_in (I 0 13) 6 ∧ (Φ (some (.int ((I 0 13) + (1 : Int32)))) 136 (u2 (u2 (u2 I 37 (I 0 13).toNatClampNeg x1) 38 (I 0 13).toNatClampNeg x2) 0 13 ((I 0 13) + (1 : Int32))) G J))) ∧ (¬ (I 0 13) < (6 : Int32) → Φ (some (.int (-3 : Int32))) 136 I G J)) ∧ (¬ x2 ≤ (9 : Int32) → Φ (some (.int (-1 : Int32))) 136 I G J)))))) : Ev (d + 1) mX4_saw 136 0 [some (.ref 0), some (.int x1), some (.int x2)] [] 136 I G J Φ := by
  refine E_aload_n 0 dX4_saw_0 rfl rfl ?_
  refine E_getr 4 3 0 16 la dX4_saw_1 fl_RX4_25 rfl sh_0 hla ?_
  refine E_iload_n 1 dX4_saw_4 rfl rfl ?_
  refine E_cv (M := mX4_saw) (pc := 5) (As := [.int x1]) (st := []) mX1_hasHill 1 1 15 dX4_saw_5 lk_RX4_85 ⟨_, rfl, rfl⟩ (sL0 hLa) rfl (Nat.le_of_ble_eq_true rfl) ⟨rfl, rfl⟩ (Nat.le_of_ble_eq_true rfl) rfl hy ?_
  rintro r n I1 G1 J1 ⟨v1, rfl, rfl, rfl, rfl, rfl, hy⟩
  show Ev (d + 1) mX4_saw 136 8 [some (.ref 0), some (.int x1), some (.int x2)] [.int v1] 136 I G J Φ
  refine E_if_eq 21 dX4_saw_8 rfl (fun h2 => ?_) (fun h2 => ?_)
  · replace hy := hy.1 h2
    refine E_iconst (-1 : Int32) dX4_saw_21 rfl ?_
    exact E_ri dX4_saw_22 rfl ⟨rfl, rfl⟩ hy
  · replace hy := hy.2 h2
    refine E_iload_n 2 dX4_saw_11 rfl rfl ?_
    refine E_if_lt 21 dX4_saw_12 rfl (fun h3 => ?_) (fun h3 => ?_)
    · replace hy := hy.1 h3
      refine E_iconst (-1 : Int32) dX4_saw_21 rfl ?_
      exact E_ri dX4_saw_22 rfl ⟨rfl, rfl⟩ hy
    · replace hy := hy.2 h3
      refine E_iload_n 2 dX4_saw_15 rfl rfl ?_
      refine E_bipush (9 : Int32) dX4_saw_16 rfl ?_
      refine E_icmp_le 23 dX4_saw_18 rfl (fun h4 => ?_) (fun h4 => ?_)
      · replace hy := hy.1 h4
        refine E_aload_n 0 dX4_saw_23 rfl rfl ?_
        refine E_geti 4 13 0 16 dX4_saw_24 fl_RX4_82 rfl sh_0 ?_
        refine E_bipush (6 : Int32) dX4_saw_27 rfl ?_
        refine E_icmp_lt 35 dX4_saw_29 rfl (fun h5 => ?_) (fun h5 => ?_)
        · replace hy := hy.1 h5
          refine E_aload_n 0 dX4_saw_35 rfl rfl ?_
          refine E_getr 4 11 0 16 37 dX4_saw_36 fl_RX4_53 rfl sh_0 (wg_0_11 hG) ?_
          refine E_aload_n 0 dX4_saw_39 rfl rfl ?_
          refine E_geti 4 13 0 16 dX4_saw_40 fl_RX4_82 rfl sh_0 ?_
          refine E_iload_n 1 dX4_saw_43 rfl rfl ?_
          have c6 := hy.1
          replace hy := hy.2
          refine E_is 37 6 (I 0 13).toNatClampNeg dX4_saw_44 sh_37 c6 rfl ?_
          refine E_aload_n 0 dX4_saw_45 rfl rfl ?_
          refine E_getr 4 12 0 16 38 dX4_saw_46 fl_RX4_57 rfl sh_0 (wg_0_12 hG) ?_
          refine E_aload_n 0 dX4_saw_49 rfl rfl ?_
          refine E_getw 4 13 0 16 (I 0 13) dX4_saw_50 fl_RX4_82 rfl sh_0 rfl ?_
          refine E_iload_n 2 dX4_saw_53 rfl rfl ?_
          have c7 := hy.1
          replace hy := hy.2
          refine E_is 38 6 (I 0 13).toNatClampNeg dX4_saw_54 sh_38 c7 rfl ?_
          refine E_aload_n 0 dX4_saw_55 rfl rfl ?_
          refine E_dup dX4_saw_56 rfl ?_
          refine E_getw 4 13 0 16 (I 0 13) dX4_saw_57 fl_RX4_82 rfl sh_0 rfl ?_
          refine E_iconst (1 : Int32) dX4_saw_60 rfl ?_
          refine E_iadd dX4_saw_61 ?_
          refine E_puti 4 13 0 16 dX4_saw_62 fl_RX4_82 rfl sh_0 ⟨_, rfl, rfl⟩ rfl rfl ?_
          refine E_aload_n 0 dX4_saw_65 rfl rfl ?_
          refine E_getw 4 13 0 16 ((I 0 13) + (1 : Int32)) dX4_saw_66 fl_RX4_82 rfl sh_0 rfl ?_
          exact E_ri dX4_saw_69 rfl ⟨rfl, rfl⟩ hy
        · replace hy := hy.2 h5
          refine E_bipush (-3 : Int32) dX4_saw_32 rfl ?_
          exact E_ri dX4_saw_34 rfl ⟨rfl, rfl⟩ hy
      · replace hy := hy.2 h4
        refine E_iconst (-1 : Int32) dX4_saw_21 rfl ?_
        exact E_ri dX4_saw_22 rfl ⟨rfl, rfl⟩ hy
set_option maxRecDepth 100000 in
theorem w_X4_stone {d : Nat} {I : MI} {G : MG} {J : MJ} {Φ : Ph} (hG : WG G) {la : Nat} (hLa : isL la) (hla : G 0 3 = some la) (x1 : Int32) (x2 : Int32) (hy : Ev d mX1_hasHill 136 0 [some (.ref la), some (.int x1)] [] 136 I G J (fun r n I1 G1 J1 => ∃ v1 : Int32, r = some (.int v1) ∧ n = 136 ∧ I = I1 ∧ G = G1 ∧ J = J1 ∧ ((¬ v1 = 0 → (x2 = nI 0 → vp_in x1 4 ∧ (Φ (some (.int (I (22 + 1) (x1).toNatClampNeg))) 136 I G J)) ∧ (¬ x2 = nI 0 → (x2 = nI 1 → Ev d mX2_sizeNow 136 0 [some (.ref 22), some (.ref la), some (.int x1)] [] 136 I G J (fun r n I4 G4 J4 => ∃ v4 : Int32, r = some (.int v4) ∧ n = 136 ∧ I = I4 ∧ G = G4 ∧ J = J4 ∧ (Φ (some (.int v4)) 136 I G J))) ∧ (¬ x2 = nI 1 → (x2 = nI 2 → vp_in x1 4 ∧ (Φ (some (.int (I (22 + 2) (x1).toNatClampNeg))) 136 I G J)) ∧ (¬ x2 = nI 2 → (x2 = nI 3 → Ev d mX2_isOver 136 0 [some (.ref 22), some (.ref la), some (.int x1)] [] 136 I G J (fun r n I6 G6 J6 => ∃ v6 : Int32, r = some (.int v6) ∧ n = 136 ∧ I = I6 ∧ G = G6 ∧ J = J6 ∧ ((v6 = 0 → Φ (some (.int (0 : Int32))) 136 I G J) ∧ (¬ v6 = 0 → Φ (some (.int (1 : Int32))) 136 I G J)))) ∧ (¬ x2 = nI 3 → Φ (some (.int (-1 : Int32))) 136 I G J))))) ∧ (v1 = 0 → Φ (some (.int (-1 : Int32))) 136 I G J)))) : Ev (d + 1) mX4_stone 136 0 [some (.ref 0), some (.int x1), some (.int x2)] [] 136 I G J Φ := by
  refine E_aload_n 0 dX4_stone_0 rfl rfl ?_
  refine E_getr 4 3 0 16 la dX4_stone_1 fl_RX4_25 rfl sh_0 hla ?_
  refine E_iload_n 1 dX4_stone_4 rfl rfl ?_
  refine E_cv (M := mX4_stone) (pc := 5) (As := [.int x1]) (st := []) mX1_hasHill 1 1 15 dX4_stone_5 lk_RX4_85 ⟨_, rfl, rfl⟩ (sL0 hLa) rfl (Nat.le_of_ble_eq_true rfl) ⟨rfl, rfl⟩ (Nat.le_of_ble_eq_true rfl) rfl hy ?_
  rintro r n I1 G1 J1 ⟨v1, rfl, rfl, rfl, rfl, rfl, hy⟩
  show Ev (d + 1) mX4_stone 136 8 [some (.ref 0), some (.int x1), some (.int x2)] [.int v1] 136 I G J Φ
  refine E_if_ne 13 dX4_stone_8 rfl (fun h2 => ?_) (fun h2 => ?_)
  · replace hy := hy.1 h2
    refine E_iload_n 2 dX4_stone_13 rfl rfl ?_
    refine E_tsw 0 [44, 54, 67, 77] 98 dX4_stone_14 rfl rfl rfl (by decide) ?_
    refine ⟨fun h8 => ?_, fun h8 => ?_⟩
    · replace hy := hy.1 h8
      dsimp only
      refine E_aload_n 0 dX4_stone_44 rfl rfl ?_
      refine E_getr 4 5 0 16 22 dX4_stone_45 fl_RX4_35 rfl sh_0 (wg_0_5 hG) ?_
      refine E_getr 2 2 22 8 (22 + 1) dX4_stone_48 fl_RX4_101 rfl (sM0 isM_22) (gM2 hG isM_22) ?_
      refine E_iload_n 1 dX4_stone_51 rfl rfl ?_
      have c3 := hy.1
      replace hy := hy.2
      refine E_ia (22 + 1) 4 (x1).toNatClampNeg dX4_stone_52 (sM1 isM_22) c3 rfl ?_
      exact E_ri dX4_stone_53 rfl ⟨rfl, rfl⟩ hy
    replace hy := hy.2 h8
    refine ⟨fun h9 => ?_, fun h9 => ?_⟩
    · replace hy := hy.1 h9
      dsimp only
      refine E_aload_n 0 dX4_stone_54 rfl rfl ?_
      refine E_getr 4 5 0 16 22 dX4_stone_55 fl_RX4_35 rfl sh_0 (wg_0_5 hG) ?_
      refine E_aload_n 0 dX4_stone_58 rfl rfl ?_
      refine E_getr 4 3 0 16 la dX4_stone_59 fl_RX4_25 rfl sh_0 hla ?_
      refine E_iload_n 1 dX4_stone_62 rfl rfl ?_
      refine E_cv (M := mX4_stone) (pc := 63) (As := [.ref la, .int x1]) (st := []) mX2_sizeNow 2 2 8 dX4_stone_63 lk_RX4_104 ⟨_, rfl, rfl⟩ (sM0 isM_22) rfl (Nat.le_of_ble_eq_true rfl) ⟨rfl, rfl⟩ (Nat.le_of_ble_eq_true rfl) rfl hy ?_
      rintro r n I4 G4 J4 ⟨v4, rfl, rfl, rfl, rfl, rfl, hy⟩
      show Ev (d + 1) mX4_stone 136 66 [some (.ref 0), some (.int x1), some (.int x2)] [.int v4] 136 I G J Φ
      exact E_ri dX4_stone_66 rfl ⟨rfl, rfl⟩ hy
    replace hy := hy.2 h9
    refine ⟨fun h10 => ?_, fun h10 => ?_⟩
    · replace hy := hy.1 h10
      dsimp only
      refine E_aload_n 0 dX4_stone_67 rfl rfl ?_
      refine E_getr 4 5 0 16 22 dX4_stone_68 fl_RX4_35 rfl sh_0 (wg_0_5 hG) ?_
      refine E_getr 2 3 22 8 (22 + 2) dX4_stone_71 fl_RX4_108 rfl (sM0 isM_22) (gM3 hG isM_22) ?_
      refine E_iload_n 1 dX4_stone_74 rfl rfl ?_
      have c5 := hy.1
      replace hy := hy.2
      refine E_ia (22 + 2) 4 (x1).toNatClampNeg dX4_stone_75 (sM2 isM_22) c5 rfl ?_
      exact E_ri dX4_stone_76 rfl ⟨rfl, rfl⟩ hy
    replace hy := hy.2 h10
    refine ⟨fun h11 => ?_, fun h11 => ?_⟩
    · replace hy := hy.1 h11
      dsimp only
      refine E_aload_n 0 dX4_stone_77 rfl rfl ?_
      refine E_getr 4 5 0 16 22 dX4_stone_78 fl_RX4_35 rfl sh_0 (wg_0_5 hG) ?_
      refine E_aload_n 0 dX4_stone_81 rfl rfl ?_
      refine E_getr 4 3 0 16 la dX4_stone_82 fl_RX4_25 rfl sh_0 hla ?_
      refine E_iload_n 1 dX4_stone_85 rfl rfl ?_
      refine E_cv (M := mX4_stone) (pc := 86) (As := [.ref la, .int x1]) (st := []) mX2_isOver 2 2 8 dX4_stone_86 lk_RX4_111 ⟨_, rfl, rfl⟩ (sM0 isM_22) rfl (Nat.le_of_ble_eq_true rfl) ⟨rfl, rfl⟩ (Nat.le_of_ble_eq_true rfl) rfl hy ?_
      rintro r n I6 G6 J6 ⟨v6, rfl, rfl, rfl, rfl, rfl, hy⟩
      show Ev (d + 1) mX4_stone 136 89 [some (.ref 0), some (.int x1), some (.int x2)] [.int v6] 136 I G J Φ
      refine E_if_eq 96 dX4_stone_89 rfl (fun h7 => ?_) (fun h7 => ?_)
      · replace hy := hy.1 h7
        refine E_iconst (0 : Int32) dX4_stone_96 rfl ?_
        exact E_ri dX4_stone_97 rfl ⟨rfl, rfl⟩ hy
      · replace hy := hy.2 h7
        refine E_iconst (1 : Int32) dX4_stone_92 rfl ?_
        refine E_goto 97 dX4_stone_93 rfl ?_
        exact E_ri dX4_stone_97 rfl ⟨rfl, rfl⟩ hy
    replace hy := hy.2 h11
    show Ev (d + 1) mX4_stone 136 98 [some (.ref 0), some (.int x1), some (.int x2)] [] 136 I G J Φ
    refine E_iconst (-1 : Int32) dX4_stone_98 rfl ?_
    exact E_ri dX4_stone_99 rfl ⟨rfl, rfl⟩ hy
  · replace hy := hy.2 (Decidable.not_not.mp h2)
    refine E_iconst (-1 : Int32) dX4_stone_11 rfl ?_
    exact E_ri dX4_stone_12 rfl ⟨rfl, rfl⟩ hy
set_option maxRecDepth 100000 in
theorem w_X4_trace {d : Nat} {I : MI} {G : MG} {J : MJ} {Φ : Ph} (hG : WG G)  (hy : Φ (some (.long (J 0 15))) 136 I G J) : Ev d mX4_trace 136 0 [some (.ref 0)] [] 136 I G J Φ := by
  refine E_aload_n 0 dX4_trace_0 rfl rfl ?_
  refine E_getl 4 15 0 16 dX4_trace_1 fl_RX4_251 rfl sh_0 ?_
  exact E_rl dX4_trace_4 rfl ⟨rfl, rfl⟩ hy
set_option maxRecDepth 100000 in
theorem w_X4_type {d : Nat} {I : MI} {G : MG} {J : MJ} {Φ : Ph} (hG : WG G) (x1 : Int32) (hy : (x1 < 0 → Φ (some (.int (-1 : Int32))) 136 I G J) ∧ (¬ x1 < 0 → (x1 ≤ (255 : Int32) → ((I 0 1) < (200 : Int32) → vp_in (I 0 1) 200 ∧ (narrow .char (.int ((x1.toUInt32 % 65536).toInt32)) = .int ((x1.toUInt32 % 65536).toInt32) ∧ (Φ (some (.int ((I 0 1) + (1 : Int32)))) 136 (u2 (u2 I 1 (I 0 1).toNatClampNeg ((x1.toUInt32 % 65536).toInt32)) 0 1 ((I 0 1) + (1 : Int32))) G J))) ∧ (¬ (I 0 1) < (200 : Int32) → Φ (some (.int (-3 : Int32))) 136 I G J)) ∧ (¬ x1 ≤ (255 : Int32) → Φ (some (.int (-1 : Int32))) 136 I G J))) : Ev d mX4_type 136 0 [some (.ref 0), some (.int x1)] [] 136 I G J Φ := by
  refine E_iload_n 1 dX4_type_0 rfl rfl ?_
  refine E_if_lt 11 dX4_type_1 rfl (fun h1 => ?_) (fun h1 => ?_)
  · replace hy := hy.1 h1
    refine E_iconst (-1 : Int32) dX4_type_11 rfl ?_
    exact E_ri dX4_type_12 rfl ⟨rfl, rfl⟩ hy
  · replace hy := hy.2 h1
    refine E_iload_n 1 dX4_type_4 rfl rfl ?_
    refine E_sipush (255 : Int32) dX4_type_5 rfl ?_
    refine E_icmp_le 13 dX4_type_8 rfl (fun h2 => ?_) (fun h2 => ?_)
    · replace hy := hy.1 h2
      refine E_aload_n 0 dX4_type_13 rfl rfl ?_
      refine E_geti 4 1 0 16 dX4_type_14 fl_RX4_71 rfl sh_0 ?_
      refine E_sipush (200 : Int32) dX4_type_17 rfl ?_
      refine E_icmp_lt 26 dX4_type_20 rfl (fun h3 => ?_) (fun h3 => ?_)
      · replace hy := hy.1 h3
        refine E_aload_n 0 dX4_type_26 rfl rfl ?_
        refine E_getr 4 0 0 16 1 dX4_type_27 fl_RX4_9 rfl sh_0 (wg_0_0 hG) ?_
        refine E_aload_n 0 dX4_type_30 rfl rfl ?_
        refine E_geti 4 1 0 16 dX4_type_31 fl_RX4_71 rfl sh_0 ?_
        refine E_iload_n 1 dX4_type_34 rfl rfl ?_
        refine E_i2c dX4_type_35 ?_
        have c4 := hy.1
        replace hy := hy.2
        have c5 := hy.1
        replace hy := hy.2
        refine E_cs1 1 200 (I 0 1).toNatClampNeg ((x1.toUInt32 % 65536).toInt32) dX4_type_36 sh_1 c4 rfl c5 ?_
        refine E_aload_n 0 dX4_type_37 rfl rfl ?_
        refine E_dup dX4_type_38 rfl ?_
        refine E_getw 4 1 0 16 (I 0 1) dX4_type_39 fl_RX4_71 rfl sh_0 rfl ?_
        refine E_iconst (1 : Int32) dX4_type_42 rfl ?_
        refine E_iadd dX4_type_43 ?_
        refine E_puti 4 1 0 16 dX4_type_44 fl_RX4_71 rfl sh_0 ⟨_, rfl, rfl⟩ rfl rfl ?_
        refine E_aload_n 0 dX4_type_47 rfl rfl ?_
        refine E_getw 4 1 0 16 ((I 0 1) + (1 : Int32)) dX4_type_48 fl_RX4_71 rfl sh_0 rfl ?_
        exact E_ri dX4_type_51 rfl ⟨rfl, rfl⟩ hy
      · replace hy := hy.2 h3
        refine E_bipush (-3 : Int32) dX4_type_23 rfl ?_
        exact E_ri dX4_type_25 rfl ⟨rfl, rfl⟩ hy
    · replace hy := hy.2 h2
      refine E_iconst (-1 : Int32) dX4_type_11 rfl ?_
      exact E_ri dX4_type_12 rfl ⟨rfl, rfl⟩ hy
set_option maxRecDepth 100000 in
theorem w_X4_undo {d : Nat} {I : MI} {G : MG} {J : MJ} {Φ : Ph} (hG : WG G) {pq : Nat → Nat} (hpq : ∀ j, j < 10 → isM (pq j) ∧ G 34 j = some (pq j))  (hy : (0 < (I 0 8) → vp_in ((I 0 8) - (1 : Int32)) 10 ∧ (Ev d mX2_copyFrom 136 0 [some (.ref 22), some (.ref (pq ((I 0 8) - (1 : Int32)).toNatClampNeg))] [] 136 (u2 I 0 8 ((I 0 8) - (1 : Int32))) G J (fun r n I3 G3 J3 => r = none ∧ n = 136 ∧ G = G3 ∧ J = J3 ∧ (Φ (some (.int (I3 0 8))) 136 I3 G J)))) ∧ (¬ 0 < (I 0 8) → Φ (some (.int (-2 : Int32))) 136 I G J)) : Ev (d + 1) mX4_undo 136 0 [some (.ref 0)] [] 136 I G J Φ := by
  refine E_aload_n 0 dX4_undo_0 rfl rfl ?_
  refine E_geti 4 8 0 16 dX4_undo_1 fl_RX4_79 rfl sh_0 ?_
  refine E_if_gt 10 dX4_undo_4 rfl (fun h1 => ?_) (fun h1 => ?_)
  · replace hy := hy.1 h1
    refine E_aload_n 0 dX4_undo_10 rfl rfl ?_
    refine E_dup dX4_undo_11 rfl ?_
    refine E_geti 4 8 0 16 dX4_undo_12 fl_RX4_79 rfl sh_0 ?_
    refine E_iconst (1 : Int32) dX4_undo_15 rfl ?_
    refine E_isub dX4_undo_16 ?_
    refine E_puti 4 8 0 16 dX4_undo_17 fl_RX4_79 rfl sh_0 ⟨_, rfl, rfl⟩ rfl rfl ?_
    refine E_aload_n 0 dX4_undo_20 rfl rfl ?_
    refine E_getr 4 5 0 16 22 dX4_undo_21 fl_RX4_35 rfl sh_0 (wg_0_5 hG) ?_
    refine E_aload_n 0 dX4_undo_24 rfl rfl ?_
    refine E_getr 4 7 0 16 34 dX4_undo_25 fl_RX4_42 rfl sh_0 (wg_0_7 hG) ?_
    refine E_aload_n 0 dX4_undo_28 rfl rfl ?_
    refine E_getw 4 8 0 16 ((I 0 8) - (1 : Int32)) dX4_undo_29 fl_RX4_79 rfl sh_0 rfl ?_
    have c2 := hy.1
    replace hy := hy.2
    refine E_aa 34 10 ((I 0 8) - (1 : Int32)).toNatClampNeg (pq ((I 0 8) - (1 : Int32)).toNatClampNeg) dX4_undo_32 sh_34 c2 rfl (hpq _ (Nat.not_le.mp (fun q => c2 (Or.inr q)))).2 ?_
    refine E_cv (M := mX4_undo) (pc := 33) (As := [.ref (pq ((I 0 8) - (1 : Int32)).toNatClampNeg)]) (st := []) mX2_copyFrom 1 2 8 dX4_undo_33 lk_RX4_159 ⟨_, rfl, rfl⟩ (sM0 isM_22) rfl (Nat.le_of_ble_eq_true rfl) ⟨rfl, rfl⟩ (Nat.le_of_ble_eq_true rfl) rfl hy ?_
    rintro r n I3 G3 J3 ⟨rfl, rfl, rfl, rfl, hy⟩
    show Ev (d + 1) mX4_undo 136 36 [some (.ref 0)] [] 136 I3 G J Φ
    refine E_aload_n 0 dX4_undo_36 rfl rfl ?_
    refine E_geti 4 8 0 16 dX4_undo_37 fl_RX4_79 rfl sh_0 ?_
    exact E_ri dX4_undo_40 rfl ⟨rfl, rfl⟩ hy
  · replace hy := hy.2 h1
    refine E_bipush (-2 : Int32) dX4_undo_7 rfl ?_
    exact E_ri dX4_undo_9 rfl ⟨rfl, rfl⟩ hy
set_option maxRecDepth 100000 in
theorem w_X4_wear {d : Nat} {I : MI} {G : MG} {J : MJ} {Φ : Ph} (hG : WG G) {la : Nat} (hLa : isL la) (hla : G 0 3 = some la) (x1 : Int32) (x2 : Int32) (hy : Ev d mX1_hasHill 136 0 [some (.ref la), some (.int x1)] [] 136 I G J (fun r n I1 G1 J1 => ∃ v1 : Int32, r = some (.int v1) ∧ n = 136 ∧ I = I1 ∧ G = G1 ∧ J = J1 ∧ ((v1 = 0 → Φ (some (.int (-1 : Int32))) 136 I G J) ∧ (¬ v1 = 0 → (x2 < (1 : Int32) → Φ (some (.int (-1 : Int32))) 136 I G J) ∧ (¬ x2 < (1 : Int32) → (x2 ≤ (9 : Int32) → vp_in x1 4 ∧ (vp_in x1 4 ∧ ((0 < (((8 : Int32) * ((I (la + 4) (x1).toNatClampNeg) - (1 : Int32))) - (I (22 + 2) (x1).toNatClampNeg)) → ¬ x2 = 0 ∧ (Φ (some (.int ((((((8 : Int32) * ((I (la + 4) (x1).toNatClampNeg) - (1 : Int32))) - (I (22 + 2) (x1).toNatClampNeg)) + x2) - (1 : Int32)) / x2))) 136 I G J)) ∧ (¬ 0 < (((8 : Int32) * ((I (la + 4) (x1).toNatClampNeg) - (1 : Int32))) - (I (22 + 2) (x1).toNatClampNeg)) → Φ (some (.int (0 : Int32))) 136 I G J)))) ∧ (¬ x2 ≤ (9 : Int32) → Φ (some (.int (-1 : Int32))) 136 I G J)))))) : Ev (d + 1) mX4_wear 136 0 [some (.ref 0), some (.int x1), some (.int x2), none] [] 136 I G J Φ := by
  refine E_aload_n 0 dX4_wear_0 rfl rfl ?_
  refine E_getr 4 3 0 16 la dX4_wear_1 fl_RX4_25 rfl sh_0 hla ?_
  refine E_iload_n 1 dX4_wear_4 rfl rfl ?_
  refine E_cv (M := mX4_wear) (pc := 5) (As := [.int x1]) (st := []) mX1_hasHill 1 1 15 dX4_wear_5 lk_RX4_85 ⟨_, rfl, rfl⟩ (sL0 hLa) rfl (Nat.le_of_ble_eq_true rfl) ⟨rfl, rfl⟩ (Nat.le_of_ble_eq_true rfl) rfl hy ?_
  rintro r n I1 G1 J1 ⟨v1, rfl, rfl, rfl, rfl, rfl, hy⟩
  show Ev (d + 1) mX4_wear 136 8 [some (.ref 0), some (.int x1), some (.int x2), none] [.int v1] 136 I G J Φ
  refine E_if_eq 22 dX4_wear_8 rfl (fun h2 => ?_) (fun h2 => ?_)
  · replace hy := hy.1 h2
    refine E_iconst (-1 : Int32) dX4_wear_22 rfl ?_
    exact E_ri dX4_wear_23 rfl ⟨rfl, rfl⟩ hy
  · replace hy := hy.2 h2
    refine E_iload_n 2 dX4_wear_11 rfl rfl ?_
    refine E_iconst (1 : Int32) dX4_wear_12 rfl ?_
    refine E_icmp_lt 22 dX4_wear_13 rfl (fun h3 => ?_) (fun h3 => ?_)
    · replace hy := hy.1 h3
      refine E_iconst (-1 : Int32) dX4_wear_22 rfl ?_
      exact E_ri dX4_wear_23 rfl ⟨rfl, rfl⟩ hy
    · replace hy := hy.2 h3
      refine E_iload_n 2 dX4_wear_16 rfl rfl ?_
      refine E_bipush (9 : Int32) dX4_wear_17 rfl ?_
      refine E_icmp_le 24 dX4_wear_19 rfl (fun h4 => ?_) (fun h4 => ?_)
      · replace hy := hy.1 h4
        refine E_bipush (8 : Int32) dX4_wear_24 rfl ?_
        refine E_aload_n 0 dX4_wear_26 rfl rfl ?_
        refine E_getr 4 3 0 16 la dX4_wear_27 fl_RX4_25 rfl sh_0 hla ?_
        refine E_getr 1 4 la 15 (la + 4) dX4_wear_30 fl_RX4_98 rfl (sL0 hLa) (gL4 hG hLa) ?_
        refine E_iload_n 1 dX4_wear_33 rfl rfl ?_
        have c5 := hy.1
        replace hy := hy.2
        refine E_ia (la + 4) 4 (x1).toNatClampNeg dX4_wear_34 (sL4 hLa) c5 rfl ?_
        refine E_iconst (1 : Int32) dX4_wear_35 rfl ?_
        refine E_isub dX4_wear_36 ?_
        refine E_imul dX4_wear_37 ?_
        refine E_aload_n 0 dX4_wear_38 rfl rfl ?_
        refine E_getr 4 5 0 16 22 dX4_wear_39 fl_RX4_35 rfl sh_0 (wg_0_5 hG) ?_
        refine E_getr 2 3 22 8 (22 + 2) dX4_wear_42 fl_RX4_108 rfl (sM0 isM_22) (gM3 hG isM_22) ?_
        refine E_iload_n 1 dX4_wear_45 rfl rfl ?_
        have c6 := hy.1
        replace hy := hy.2
        refine E_ia (22 + 2) 4 (x1).toNatClampNeg dX4_wear_46 (sM2 isM_22) c6 rfl ?_
        refine E_isub dX4_wear_47 ?_
        refine E_istore_n 3 dX4_wear_48 rfl (Nat.le_of_ble_eq_true rfl) (?_ : Ev (d + 1) mX4_wear 136 49 [some (.ref 0), some (.int x1), some (.int x2), some (.int (((8 : Int32) * ((I (la + 4) (x1).toNatClampNeg) - (1 : Int32))) - (I (22 + 2) (x1).toNatClampNeg)))] [] 136 I G J Φ)
        refine E_iload_n 3 dX4_wear_49 rfl rfl ?_
        refine E_if_gt 57 dX4_wear_50 rfl (fun h7 => ?_) (fun h7 => ?_)
        · replace hy := hy.1 h7
          refine E_iload_n 3 dX4_wear_57 rfl rfl ?_
          refine E_iload_n 2 dX4_wear_58 rfl rfl ?_
          refine E_iadd dX4_wear_59 ?_
          refine E_iconst (1 : Int32) dX4_wear_60 rfl ?_
          refine E_isub dX4_wear_61 ?_
          refine E_iload_n 2 dX4_wear_62 rfl rfl ?_
          have c8 := hy.1
          replace hy := hy.2
          refine E_idiv dX4_wear_63 c8 ?_
          exact E_ri dX4_wear_64 rfl ⟨rfl, rfl⟩ hy
        · replace hy := hy.2 h7
          refine E_iconst (0 : Int32) dX4_wear_53 rfl ?_
          refine E_goto 64 dX4_wear_54 rfl ?_
          exact E_ri dX4_wear_64 rfl ⟨rfl, rfl⟩ hy
      · replace hy := hy.2 h4
        refine E_iconst (-1 : Int32) dX4_wear_22 rfl ?_
        exact E_ri dX4_wear_23 rfl ⟨rfl, rfl⟩ hy
set_option maxRecDepth 100000 in
theorem w_X4_written {d : Nat} {I : MI} {G : MG} {J : MJ} {Φ : Ph} (hG : WG G) {la : Nat} (hLa : isL la) (hla : G 0 3 = some la) (x1 : Int32) (x2 : Int32) (hy : (x1 < 0 → Φ (some (.int (-1 : Int32))) 136 I G J) ∧ (¬ x1 < 0 → ((I 22 7) ≤ x1 → Φ (some (.int (-1 : Int32))) 136 I G J) ∧ (¬ (I 22 7) ≤ x1 → Ev d mX1_hasHill 136 0 [some (.ref la), some (.int x2)] [] 136 I G J (fun r n I3 G3 J3 => ∃ v3 : Int32, r = some (.int v3) ∧ n = 136 ∧ I = I3 ∧ G = G3 ∧ J = J3 ∧ ((¬ v3 = 0 → Ev d mX2_writtenStep 136 0 [some (.ref 22), some (.int x1), some (.int x2)] [] 136 I G J (fun r n I5 G5 J5 => ∃ v5 : Int32, r = some (.int v5) ∧ n = 136 ∧ I = I5 ∧ G = G5 ∧ J = J5 ∧ (Φ (some (.int v5)) 136 I G J))) ∧ (v3 = 0 → Φ (some (.int (-1 : Int32))) 136 I G J)))))) : Ev (d + 1) mX4_written 136 0 [some (.ref 0), some (.int x1), some (.int x2)] [] 136 I G J Φ := by
  refine E_iload_n 1 dX4_written_0 rfl rfl ?_
  refine E_if_lt 26 dX4_written_1 rfl (fun h1 => ?_) (fun h1 => ?_)
  · replace hy := hy.1 h1
    refine E_iconst (-1 : Int32) dX4_written_26 rfl ?_
    exact E_ri dX4_written_27 rfl ⟨rfl, rfl⟩ hy
  · replace hy := hy.2 h1
    refine E_iload_n 1 dX4_written_4 rfl rfl ?_
    refine E_aload_n 0 dX4_written_5 rfl rfl ?_
    refine E_getr 4 5 0 16 22 dX4_written_6 fl_RX4_35 rfl sh_0 (wg_0_5 hG) ?_
    refine E_geti 2 7 22 8 dX4_written_9 fl_RX4_137 rfl (sM0 isM_22) ?_
    refine E_icmp_ge 26 dX4_written_12 rfl (fun h2 => ?_) (fun h2 => ?_)
    · replace hy := hy.1 h2
      refine E_iconst (-1 : Int32) dX4_written_26 rfl ?_
      exact E_ri dX4_written_27 rfl ⟨rfl, rfl⟩ hy
    · replace hy := hy.2 h2
      refine E_aload_n 0 dX4_written_15 rfl rfl ?_
      refine E_getr 4 3 0 16 la dX4_written_16 fl_RX4_25 rfl sh_0 hla ?_
      refine E_iload_n 2 dX4_written_19 rfl rfl ?_
      refine E_cv (M := mX4_written) (pc := 20) (As := [.int x2]) (st := []) mX1_hasHill 1 1 15 dX4_written_20 lk_RX4_85 ⟨_, rfl, rfl⟩ (sL0 hLa) rfl (Nat.le_of_ble_eq_true rfl) ⟨rfl, rfl⟩ (Nat.le_of_ble_eq_true rfl) rfl hy ?_
      rintro r n I3 G3 J3 ⟨v3, rfl, rfl, rfl, rfl, rfl, hy⟩
      show Ev (d + 1) mX4_written 136 23 [some (.ref 0), some (.int x1), some (.int x2)] [.int v3] 136 I G J Φ
      refine E_if_ne 28 dX4_written_23 rfl (fun h4 => ?_) (fun h4 => ?_)
      · replace hy := hy.1 h4
        refine E_aload_n 0 dX4_written_28 rfl rfl ?_
        refine E_getr 4 5 0 16 22 dX4_written_29 fl_RX4_35 rfl sh_0 (wg_0_5 hG) ?_
        refine E_iload_n 1 dX4_written_32 rfl rfl ?_
        refine E_iload_n 2 dX4_written_33 rfl rfl ?_
        refine E_cv (M := mX4_written) (pc := 34) (As := [.int x1, .int x2]) (st := []) mX2_writtenStep 2 2 8 dX4_written_34 lk_RX4_214 ⟨_, rfl, rfl⟩ (sM0 isM_22) rfl (Nat.le_of_ble_eq_true rfl) ⟨rfl, rfl⟩ (Nat.le_of_ble_eq_true rfl) rfl hy ?_
        rintro r n I5 G5 J5 ⟨v5, rfl, rfl, rfl, rfl, rfl, hy⟩
        show Ev (d + 1) mX4_written 136 37 [some (.ref 0), some (.int x1), some (.int x2)] [.int v5] 136 I G J Φ
        exact E_ri dX4_written_37 rfl ⟨rfl, rfl⟩ hy
      · replace hy := hy.2 (Decidable.not_not.mp h4)
        refine E_iconst (-1 : Int32) dX4_written_26 rfl ?_
        exact E_ri dX4_written_27 rfl ⟨rfl, rfl⟩ hy
