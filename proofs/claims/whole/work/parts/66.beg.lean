/-! ===== begin and rest when 122 cells stand ===== -/
section SH122
variable {c : Nat}
theorem tM0_ : ∀ c ∈ momL, shn 122 (c + 0) = (2, 8) := by decide +kernel
theorem tM0 (h : isM c) : shn 122 c = (2, 8) := tM0_ c h
theorem tM1_ : ∀ c ∈ momL, shn 122 (c + 1) = (6, 4) := by decide +kernel
theorem tM1 (h : isM c) : shn 122 (c + 1) = (6, 4) := tM1_ c h
theorem tM2_ : ∀ c ∈ momL, shn 122 (c + 2) = (6, 4) := by decide +kernel
theorem tM2 (h : isM c) : shn 122 (c + 2) = (6, 4) := tM2_ c h
theorem tM3_ : ∀ c ∈ momL, shn 122 (c + 3) = (6, 3) := by decide +kernel
theorem tM3 (h : isM c) : shn 122 (c + 3) = (6, 3) := tM3_ c h
theorem tM4_ : ∀ c ∈ momL, shn 122 (c + 4) = (6, 3) := by decide +kernel
theorem tM4 (h : isM c) : shn 122 (c + 4) = (6, 3) := tM4_ c h
theorem tM5_ : ∀ c ∈ momL, shn 122 (c + 5) = (6, 20) := by decide +kernel
theorem tM5 (h : isM c) : shn 122 (c + 5) = (6, 20) := tM5_ c h
theorem tL0_ : ∀ c ∈ lndL, shn 122 (c + 0) = (1, 15) := by decide +kernel
theorem tL0 (h : isL c) : shn 122 c = (1, 15) := tL0_ c h
theorem tL1_ : ∀ c ∈ lndL, shn 122 (c + 1) = (6, 4) := by decide +kernel
theorem tL1 (h : isL c) : shn 122 (c + 1) = (6, 4) := tL1_ c h
theorem tL2_ : ∀ c ∈ lndL, shn 122 (c + 2) = (6, 4) := by decide +kernel
theorem tL2 (h : isL c) : shn 122 (c + 2) = (6, 4) := tL2_ c h
theorem tL3_ : ∀ c ∈ lndL, shn 122 (c + 3) = (6, 4) := by decide +kernel
theorem tL3 (h : isL c) : shn 122 (c + 3) = (6, 4) := tL3_ c h
theorem tL4_ : ∀ c ∈ lndL, shn 122 (c + 4) = (6, 4) := by decide +kernel
theorem tL4 (h : isL c) : shn 122 (c + 4) = (6, 4) := tL4_ c h
theorem tL5_ : ∀ c ∈ lndL, shn 122 (c + 5) = (6, 4) := by decide +kernel
theorem tL5 (h : isL c) : shn 122 (c + 5) = (6, 4) := tL5_ c h
theorem tL6_ : ∀ c ∈ lndL, shn 122 (c + 6) = (6, 4) := by decide +kernel
theorem tL6 (h : isL c) : shn 122 (c + 6) = (6, 4) := tL6_ c h
theorem tL7_ : ∀ c ∈ lndL, shn 122 (c + 7) = (6, 4) := by decide +kernel
theorem tL7 (h : isL c) : shn 122 (c + 7) = (6, 4) := tL7_ c h
theorem tL8_ : ∀ c ∈ lndL, shn 122 (c + 8) = (6, 3) := by decide +kernel
theorem tL8 (h : isL c) : shn 122 (c + 8) = (6, 3) := tL8_ c h
end SH122
set_option maxRecDepth 100000 in
theorem v_X2_begin {d : Nat} {I : MI} {G : MG} {J : MJ} {Φ : Ph} (hG : WG G) {c : Nat} (hc : isM c) {a : Nat} (ha : isL a) (hy : Ev (d + 1) mX2_begin 122 17 [some (.ref c), some (.ref a), some (.int (0 : Int32))] [] 122 (u2 (u2 (u2 I c 0 (0 : Int32)) c 1 (0 : Int32)) c 7 (0 : Int32)) G J Φ) : Ev (d + 1) mX2_begin 122 0 [some (.ref c), some (.ref a), none] [] 122 I G J Φ := by
  refine E_aload_n 0 dX2_begin_0 rfl rfl ?_
  refine E_iconst (0 : Int32) dX2_begin_1 rfl ?_
  refine E_puti 2 0 c 8 dX2_begin_2 fl_RX2_27 rfl (tM0 hc) ⟨_, rfl, rfl⟩ rfl rfl ?_
  refine E_aload_n 0 dX2_begin_5 rfl rfl ?_
  refine E_iconst (0 : Int32) dX2_begin_6 rfl ?_
  refine E_puti 2 1 c 8 dX2_begin_7 fl_RX2_31 rfl (tM0 hc) ⟨_, rfl, rfl⟩ rfl rfl ?_
  refine E_aload_n 0 dX2_begin_10 rfl rfl ?_
  refine E_iconst (0 : Int32) dX2_begin_11 rfl ?_
  refine E_puti 2 7 c 8 dX2_begin_12 fl_RX2_34 rfl (tM0 hc) ⟨_, rfl, rfl⟩ rfl rfl ?_
  refine E_iconst (0 : Int32) dX2_begin_15 rfl ?_
  refine E_istore_n 2 dX2_begin_16 rfl (Nat.le_of_ble_eq_true rfl) (?_ : Ev (d + 1) mX2_begin 122 17 [some (.ref c), some (.ref a), some (.int (0 : Int32))] [] 122 (u2 (u2 (u2 I c 0 (0 : Int32)) c 1 (0 : Int32)) c 7 (0 : Int32)) G J Φ)
  exact hy
set_option maxRecDepth 100000 in
theorem v_X2_begin_17 {d : Nat} {I : MI} {G : MG} {J : MJ} {Φ : Ph} (hG : WG G)  {c : Nat} (hc : isM c) {a : Nat} (ha : isL a) (x2 : Int32) (hy : ((4 : Int32) ≤ x2 → Ev (d + 1) mX2_begin 122 44 [some (.ref c), some (.ref a), some (.int (0 : Int32))] [] 122 I G J Φ) ∧ (¬ (4 : Int32) ≤ x2 → vp_in x2 4 ∧ (vp_in x2 4 ∧ (Ev (d + 1) mX2_begin 122 17 [some (.ref c), some (.ref a), some (.int (x2 + (1 : Int32)))] [] 122 (u2 (u2 I (c + 1) (x2).toNatClampNeg (0 : Int32)) (c + 2) (x2).toNatClampNeg (0 : Int32)) G J Φ)))) : Ev (d + 1) mX2_begin 122 17 [some (.ref c), some (.ref a), some (.int x2)] [] 122 I G J Φ := by
  refine E_iload_n 2 dX2_begin_17 rfl rfl ?_
  refine E_iconst (4 : Int32) dX2_begin_18 rfl ?_
  refine E_icmp_ge 42 dX2_begin_19 rfl (fun h1 => ?_) (fun h1 => ?_)
  · replace hy := hy.1 h1
    refine E_iconst (0 : Int32) dX2_begin_42 rfl ?_
    refine E_istore_n 2 dX2_begin_43 rfl (Nat.le_of_ble_eq_true rfl) (?_ : Ev (d + 1) mX2_begin 122 44 [some (.ref c), some (.ref a), some (.int (0 : Int32))] [] 122 I G J Φ)
    exact hy
  · replace hy := hy.2 h1
    refine E_aload_n 0 dX2_begin_22 rfl rfl ?_
    refine E_getr 2 2 c 8 (c + 1) dX2_begin_23 fl_RX2_9 rfl (tM0 hc) (gM2 hG hc) ?_
    refine E_iload_n 2 dX2_begin_26 rfl rfl ?_
    refine E_iconst (0 : Int32) dX2_begin_27 rfl ?_
    have c2 := hy.1
    replace hy := hy.2
    refine E_is (c + 1) 4 (x2).toNatClampNeg dX2_begin_28 (tM1 hc) c2 rfl ?_
    refine E_aload_n 0 dX2_begin_29 rfl rfl ?_
    refine E_getr 2 3 c 8 (c + 2) dX2_begin_30 fl_RX2_15 rfl (tM0 hc) (gM3 hG hc) ?_
    refine E_iload_n 2 dX2_begin_33 rfl rfl ?_
    refine E_iconst (0 : Int32) dX2_begin_34 rfl ?_
    have c3 := hy.1
    replace hy := hy.2
    refine E_is (c + 2) 4 (x2).toNatClampNeg dX2_begin_35 (tM2 hc) c3 rfl ?_
    refine E_iinc (x2 + (1 : Int32)) dX2_begin_36 rfl rfl (Nat.le_of_ble_eq_true rfl) (?_ : Ev (d + 1) mX2_begin 122 39 [some (.ref c), some (.ref a), some (.int (x2 + (1 : Int32)))] [] 122 (u2 (u2 I (c + 1) (x2).toNatClampNeg (0 : Int32)) (c + 2) (x2).toNatClampNeg (0 : Int32)) G J Φ)
    refine E_goto 17 dX2_begin_39 rfl ?_
    exact hy
set_option maxRecDepth 100000 in
theorem v_X2_begin_44 {d : Nat} {I : MI} {G : MG} {J : MJ} {Φ : Ph} (hG : WG G)  {c : Nat} (hc : isM c) {a : Nat} (ha : isL a) (x2 : Int32) (hy : ((3 : Int32) ≤ x2 → Ev d mX2_rest 122 0 [some (.ref c), some (.ref a), none] [] 122 I G J (fun r n I2 G2 J2 => r = none ∧ n = 122 ∧ G = G2 ∧ J = J2 ∧ (Φ none 122 I2 G J))) ∧ (¬ (3 : Int32) ≤ x2 → vp_in x2 3 ∧ (Ev (d + 1) mX2_begin 122 44 [some (.ref c), some (.ref a), some (.int (x2 + (1 : Int32)))] [] 122 (u2 I (c + 4) (x2).toNatClampNeg (-9 : Int32)) G J Φ))) : Ev (d + 1) mX2_begin 122 44 [some (.ref c), some (.ref a), some (.int x2)] [] 122 I G J Φ := by
  refine E_iload_n 2 dX2_begin_44 rfl rfl ?_
  refine E_iconst (3 : Int32) dX2_begin_45 rfl ?_
  refine E_icmp_ge 63 dX2_begin_46 rfl (fun h1 => ?_) (fun h1 => ?_)
  · replace hy := hy.1 h1
    refine E_aload_n 0 dX2_begin_63 rfl rfl ?_
    refine E_aload_n 1 dX2_begin_64 rfl rfl ?_
    refine E_cv (M := mX2_begin) (pc := 65) (As := [.ref a]) (st := []) mX2_rest 1 2 8 dX2_begin_65 lk_RX2_37 ⟨_, rfl, rfl⟩ (tM0 hc) rfl (Nat.le_of_ble_eq_true rfl) ⟨rfl, rfl⟩ (Nat.le_of_ble_eq_true rfl) rfl hy ?_
    rintro r n I2 G2 J2 ⟨rfl, rfl, rfl, rfl, hy⟩
    show Ev (d + 1) mX2_begin 122 68 [some (.ref c), some (.ref a), some (.int x2)] [] 122 I2 G J Φ
    exact E_rv dX2_begin_68 rfl ⟨rfl, rfl⟩ hy
  · replace hy := hy.2 h1
    refine E_aload_n 0 dX2_begin_49 rfl rfl ?_
    refine E_getr 2 5 c 8 (c + 4) dX2_begin_50 fl_RX2_21 rfl (tM0 hc) (gM5 hG hc) ?_
    refine E_iload_n 2 dX2_begin_53 rfl rfl ?_
    refine E_bipush (-9 : Int32) dX2_begin_54 rfl ?_
    have c3 := hy.1
    replace hy := hy.2
    refine E_is (c + 4) 3 (x2).toNatClampNeg dX2_begin_56 (tM4 hc) c3 rfl ?_
    refine E_iinc (x2 + (1 : Int32)) dX2_begin_57 rfl rfl (Nat.le_of_ble_eq_true rfl) (?_ : Ev (d + 1) mX2_begin 122 60 [some (.ref c), some (.ref a), some (.int (x2 + (1 : Int32)))] [] 122 (u2 I (c + 4) (x2).toNatClampNeg (-9 : Int32)) G J Φ)
    refine E_goto 44 dX2_begin_60 rfl ?_
    exact hy
set_option maxRecDepth 100000 in
theorem v_X2_rest {d : Nat} {I : MI} {G : MG} {J : MJ} {Φ : Ph} (hG : WG G) {c : Nat} (hc : isM c) {a : Nat} (ha : isL a) (hy : Ev d mX2_rest 122 2 [some (.ref c), some (.ref a), some (.int (0 : Int32))] [] 122 I G J Φ) : Ev d mX2_rest 122 0 [some (.ref c), some (.ref a), none] [] 122 I G J Φ := by
  refine E_iconst (0 : Int32) dX2_rest_0 rfl ?_
  refine E_istore_n 2 dX2_rest_1 rfl (Nat.le_of_ble_eq_true rfl) (?_ : Ev d mX2_rest 122 2 [some (.ref c), some (.ref a), some (.int (0 : Int32))] [] 122 I G J Φ)
  exact hy
set_option maxRecDepth 100000 in
theorem v_X2_rest_2 {d : Nat} {I : MI} {G : MG} {J : MJ} {Φ : Ph} (hG : WG G)  {c : Nat} (hc : isM c) {a : Nat} (ha : isL a) (x2 : Int32) (hy : ((I a 9) ≤ x2 → Φ none 122 I G J) ∧ (¬ (I a 9) ≤ x2 → vp_in x2 3 ∧ (vp_in x2 3 ∧ (Ev d mX2_rest 122 2 [some (.ref c), some (.ref a), some (.int (x2 + (1 : Int32)))] [] 122 (u2 I (c + 3) (x2).toNatClampNeg (I (a + 8) (x2).toNatClampNeg)) G J Φ)))) : Ev d mX2_rest 122 2 [some (.ref c), some (.ref a), some (.int x2)] [] 122 I G J Φ := by
  refine E_iload_n 2 dX2_rest_2 rfl rfl ?_
  refine E_aload_n 1 dX2_rest_3 rfl rfl ?_
  refine E_geti 1 9 a 15 dX2_rest_4 fl_RX2_78 rfl (tL0 ha) ?_
  refine E_icmp_ge 28 dX2_rest_7 rfl (fun h1 => ?_) (fun h1 => ?_)
  · replace hy := hy.1 h1
    exact E_rv dX2_rest_28 rfl ⟨rfl, rfl⟩ hy
  · replace hy := hy.2 h1
    refine E_aload_n 0 dX2_rest_10 rfl rfl ?_
    refine E_getr 2 4 c 8 (c + 3) dX2_rest_11 fl_RX2_18 rfl (tM0 hc) (gM4 hG hc) ?_
    refine E_iload_n 2 dX2_rest_14 rfl rfl ?_
    refine E_aload_n 1 dX2_rest_15 rfl rfl ?_
    refine E_getr 1 10 a 15 (a + 8) dX2_rest_16 fl_RX2_100 rfl (tL0 ha) (gL10 hG ha) ?_
    refine E_iload_n 2 dX2_rest_19 rfl rfl ?_
    have c2 := hy.1
    replace hy := hy.2
    refine E_ia (a + 8) 3 (x2).toNatClampNeg dX2_rest_20 (tL8 ha) c2 rfl ?_
    have c3 := hy.1
    replace hy := hy.2
    refine E_is (c + 3) 3 (x2).toNatClampNeg dX2_rest_21 (tM3 hc) c3 rfl ?_
    refine E_iinc (x2 + (1 : Int32)) dX2_rest_22 rfl rfl (Nat.le_of_ble_eq_true rfl) (?_ : Ev d mX2_rest 122 25 [some (.ref c), some (.ref a), some (.int (x2 + (1 : Int32)))] [] 122 (u2 I (c + 3) (x2).toNatClampNeg (I (a + 8) (x2).toNatClampNeg)) G J Φ)
    refine E_goto 2 dX2_rest_25 rfl ?_
    exact hy
section BEG2
variable {d : Nat} {I : MI} {G : MG} {J : MJ} {Φ : Ph} {a c : Nat} {L : Ld}
theorem s_rest2 (X : Cl I G a L) (hc : isM c) (k : ∀ I', (∀ x, x ≠ c + 3 → I' x = I x) → (∀ m, m < L 0 2 → I' (c + 3) m = nI (L 8 m)) → Φ none 122 I' G J) : Ev d mX2_rest 122 0 [some (.ref c), some (.ref a), none] [] 122 I G J Φ := by
  obtain ⟨hG, ha, hL, wL⟩ := X
  have hm := isM_lt hc
  have hla := isL_or ha
  have b2 := wL.2.2.1
  refine v_X2_rest hG hc ha ?_
  have key : ∀ m, m ≤ L 0 2 → ∀ I1 : MI, (∀ x, x ≠ c + 3 → I1 x = I x) → (∀ j, j < m → I1 (c + 3) j = nI (L 8 j)) → Ev d mX2_rest 122 2 [some (.ref c), some (.ref a), some (.int (nI m))] [] 122 I1 G J Φ := by
    refine down_ind (E := fun m => ∀ I1 : MI, (∀ x, x ≠ c + 3 → I1 x = I x) → (∀ j, j < m → I1 (c + 3) j = nI (L 8 j)) → Ev d mX2_rest 122 2 [some (.ref c), some (.ref a), some (.int (nI m))] [] 122 I1 G J Φ) (L 0 2) ?_ ?_
    · intro I1 f1 f2
      refine v_X2_rest_2 hG hc ha _ ⟨fun _ => k I1 f1 f2, fun q => absurd ?_ q⟩
      rw [f1 a (by omega), hL.1.2.2.1]; exact nI_le (Nat.le_refl _) (by omega)
    · intro m hm ih I1 f1 f2
      refine v_X2_rest_2 hG hc ha _ ⟨fun q => ?_, fun _ => ⟨vp_in_nI (by omega) (by decide), vp_in_nI (by omega) (by decide), ?_⟩⟩
      · rw [f1 a (by omega), hL.1.2.2.1, nI_leI (by omega) (by omega)] at q
        omega
      · rw [nI_clamp (n := m) (by omega), show nI m + (1 : Int32) = nI (m + 1) from nI_1 _, f1 (a + 8) (by omega), hL.2.2.2 m hm]
        refine ih _ (fun x hx => by rw [u2_row _ _ _ hx, f1 x hx]) (fun j hj => ?_)
        by_cases e : j = m
        · rw [e, u2_at]
        · rw [u2_ne _ _ (by omega)]; exact f2 j (by omega)
  exact key 0 (Nat.zero_le _) I (fun _ _ => rfl) (fun j hj => absurd hj (by omega))
theorem s_begin2 (X : Cl I G a L) (hc : isM c) (k : ∀ I', (∀ x, ¬ (c ≤ x ∧ x < c + 5) → I' x = I x) → I' c 7 = 0 → RMc I' c L (bgM L) → Φ none 122 I' G J) : Ev (d + 1) mX2_begin 122 0 [some (.ref c), some (.ref a), none] [] 122 I G J Φ := by
  obtain ⟨hG, ha, hL, wL⟩ := X
  have hm := isM_lt hc
  have hla := isL_or ha
  have b0 := wL.1
  have b2 := wL.2.2.1
  refine v_X2_begin hG hc ha ?_
  have k44 : ∀ m, m ≤ 3 → ∀ I1 : MI, (∀ x, ¬ (c ≤ x ∧ x < c + 5) → I1 x = I x) → (I1 c 0 = 0 ∧ I1 c 1 = 0 ∧ I1 c 7 = 0) → (∀ h, h < 4 → I1 (c + 1) h = 0 ∧ I1 (c + 2) h = 0) → (∀ j, j < m → I1 (c + 4) j = (-9 : Int32)) → Ev (d + 1) mX2_begin 122 44 [some (.ref c), some (.ref a), some (.int (nI m))] [] 122 I1 G J Φ := by
    refine down_ind (E := fun m => ∀ I1 : MI, (∀ x, ¬ (c ≤ x ∧ x < c + 5) → I1 x = I x) → (I1 c 0 = 0 ∧ I1 c 1 = 0 ∧ I1 c 7 = 0) → (∀ h, h < 4 → I1 (c + 1) h = 0 ∧ I1 (c + 2) h = 0) → (∀ j, j < m → I1 (c + 4) j = (-9 : Int32)) → Ev (d + 1) mX2_begin 122 44 [some (.ref c), some (.ref a), some (.int (nI m))] [] 122 I1 G J Φ) 3 ?_ ?_
    · intro I1 f1 f2 f3 f4
      refine v_X2_begin_44 hG hc ha _ ⟨fun _ => ?_, fun q => absurd (nI_le (a := 3) (b := 3) (by omega) (by omega)) q⟩
      have X1 : Cl I1 G a L := ⟨hG, ha, hL.congr (fun x q1 q2 => f1 x (by omega)), wL⟩
      refine s_rest2 X1 hc (fun I2 g1 g2 => ⟨rfl, rfl, rfl, rfl, k I2 (fun x hx => by rw [g1 x (by omega), f1 x hx]) (by rw [g1 c (by omega)]; exact f2.2.2) ⟨⟨?_, ?_⟩, fun h hh => ?_, fun m hm => ?_⟩⟩)
      · rw [g1 c (by omega), f2.1]; rfl
      · rw [g1 c (by omega), f2.2.1]; rfl
      · rw [g1 (c + 1) (by omega), g1 (c + 2) (by omega)]
        exact f3 h (by omega)
      · rw [g1 (c + 4) (by omega), f4 m (by omega), g2 m hm]
        unfold bgM rsM
        rw [if_pos ⟨rfl, hm⟩, if_neg (by omega)]
        exact ⟨rfl, rfl⟩
    · intro m hm3 ih I1 f1 f2 f3 f4
      refine v_X2_begin_44 hG hc ha _ ⟨fun q => absurd q (nI_ge (a := m) (b := 3) (by omega) (by omega)), fun _ => ⟨vp_in_nI (by omega) (by decide), ?_⟩⟩
      rw [nI_clamp (n := m) (by omega), show nI m + (1 : Int32) = nI (m + 1) from nI_1 _]
      refine ih _ (fun x hx => by rw [u2_row _ _ _ (by omega), f1 x hx]) ?_ (fun h hh => ?_) (fun j hj => ?_)
      · rw [u2_row _ _ _ (by omega)]; exact f2
      · rw [u2_row _ _ _ (by omega), u2_row _ _ _ (by omega)]; exact f3 h hh
      · by_cases e : j = m
        · rw [e, u2_at]
        · rw [u2_ne _ _ (by omega)]; exact f4 j (by omega)
  have k17 : ∀ i, i ≤ 4 → ∀ I1 : MI, (∀ x, ¬ (c ≤ x ∧ x < c + 5) → I1 x = I x) → (I1 c 0 = 0 ∧ I1 c 1 = 0 ∧ I1 c 7 = 0) → (∀ h, h < i → I1 (c + 1) h = 0 ∧ I1 (c + 2) h = 0) → Ev (d + 1) mX2_begin 122 17 [some (.ref c), some (.ref a), some (.int (nI i))] [] 122 I1 G J Φ := by
    refine down_ind (E := fun i => ∀ I1 : MI, (∀ x, ¬ (c ≤ x ∧ x < c + 5) → I1 x = I x) → (I1 c 0 = 0 ∧ I1 c 1 = 0 ∧ I1 c 7 = 0) → (∀ h, h < i → I1 (c + 1) h = 0 ∧ I1 (c + 2) h = 0) → Ev (d + 1) mX2_begin 122 17 [some (.ref c), some (.ref a), some (.int (nI i))] [] 122 I1 G J Φ) 4 ?_ ?_
    · intro I1 f1 f2 f3
      exact v_X2_begin_17 hG hc ha _ ⟨fun _ => k44 0 (by omega) I1 f1 f2 f3 (fun j hj => absurd hj (by omega)), fun q => absurd (nI_le (a := 4) (b := 4) (by omega) (by omega)) q⟩
    · intro i hi ih I1 f1 f2 f3
      refine v_X2_begin_17 hG hc ha _ ⟨fun q => absurd q (nI_ge (a := i) (b := 4) (by omega) (by omega)), fun _ => ⟨vp_in_nI (by omega) (by decide), vp_in_nI (by omega) (by decide), ?_⟩⟩
      rw [nI_clamp (n := i) (by omega), show nI i + (1 : Int32) = nI (i + 1) from nI_1 _]
      refine ih _ (fun x hx => by rw [u2_row _ _ _ (by omega), u2_row _ _ _ (by omega), f1 x hx]) ?_ (fun h hh => ?_)
      · rw [u2_row _ _ _ (by omega), u2_row _ _ _ (by omega)]; exact f2
      · by_cases e : h = i
        · rw [e, u2_at, u2_row _ _ _ (by omega), u2_at]; exact ⟨rfl, rfl⟩
        · simp (disch := omega) only [u2_ne]
          exact f3 h (by omega)
  refine k17 0 (by omega) _ (fun x hx => ?_) ⟨?_, ?_, u2_at _ _ _ _⟩ (fun h hh => absurd hh (by omega))
  · rw [u2_row _ _ _ (by omega), u2_row _ _ _ (by omega), u2_row _ _ _ (by omega)]
  · rw [u2_ne _ _ (by omega), u2_ne _ _ (by omega), u2_at]
  · rw [u2_ne _ _ (by omega), u2_at]
end BEG2
