/-! ===== the object's constructor, whole ===== -/
section CON6
variable {d : Nat} {I : MI} {G : MG} {J : MJ} {Φ : Ph} {ls : List (Option Value)} {st : List Value} {pc : Nat}
theorem x4_rdr (h1 : decode cX4_init pc = .ok (.new 13, 3)) (h2 : decode cX4_init (pc + 3) = .ok (.dup, 1)) (h3 : decode cX4_init (pc + 3 + 1) = .ok (.aload_n 0, 1)) (h4 : decode cX4_init (pc + 3 + 1 + 1) = .ok (.getfield 9, 3)) (h5 : decode cX4_init (pc + 3 + 1 + 1 + 3) = .ok (.invokespecial 15, 3)) (hl : ls[0]? = some (some (.ref 0))) (hg : G 0 0 = some 1) (hst : (st.map fun v => v.category).sum ≤ 6) (k : ∀ (I' : MI) (G' : MG) (J' : MJ), (∀ x, ¬ (2 ≤ x ∧ x < 4) → I' x = I x ∧ G' x = G x ∧ J' x = J x) → (∀ q ∈ refT, 2 ≤ q.1 → q.1 < 4 → q.1 ≠ 35 → G' q.1 q.2.1 = some q.2.2) → Ev (d + 2) mX4_init 1 (pc + 3 + 1 + 1 + 3 + 3) ls (.ref 2 :: st) 4 I' G' J' Φ) : Ev (d + 2) mX4_init 1 pc ls st 2 I G J Φ := by
  refine E_new 3 7 h1 nw_RX4_13 (by decide +kernel) (by omega) (by omega) (by decide +kernel) (by decide +kernel) (by decide) (by decide +kernel) ?_
  refine E_dup h2 rfl ?_
  refine E_aload_n 0 h3 rfl hl ?_
  refine E_getr 4 0 0 16 1 h4 fl_RX4_9 rfl (shn_of (by decide) (by decide +kernel)) (by rw [ur_ne _ _ (by omega)]; exact hg) ?_
  refine E_invi (M := mX4_init) (As := [.ref 1]) (st := .ref 2 :: st) mX3_init 1 h5 lk_RX4_15 rfl (by simp only [List.map_cons, List.sum_cons]; show 1 + _ ≤ 8; omega) (by omega) (by decide +kernel) (by decide) (by decide +kernel) (by decide : 2 ≤ 2) (?_ : Ev (d + 1) mX3_init 3 0 [some (.ref 2), some (.ref 1)] [] 3 _ _ _ (fun r n I1 G1 J1 => r = none ∧ n = 4 ∧ (∀ x, ¬ (2 ≤ x ∧ x < 4) → I1 x = I x ∧ G1 x = G x ∧ J1 x = J x) ∧ (∀ q ∈ refT, 2 ≤ q.1 → q.1 < 4 → q.1 ≠ 35 → G1 q.1 q.2.1 = some q.2.2))) ?_ rfl
  · refine c_rdr (fun I1 G1 J1 a1 a2 a3 a4 => ⟨rfl, rfl, fun x hx => ⟨?_, ?_, ?_⟩, fun q hq q1 q2 _ => ?_⟩)
    · rw [a1 x (by omega), ur_ne _ _ (by omega)]
    · rw [a2 x (by omega) (by omega), ur_ne _ _ (by omega)]
    · rw [a3 x (by omega), ur_ne _ _ (by omega)]
    · rcases refR q hq q1 q2 with rfl | rfl
      · exact a4.1
      · exact a4.2
  · rintro r n I1 G1 J1 ⟨rfl, rfl, hf, hr⟩
    exact k I1 G1 J1 hf hr
theorem x4_clb (h1 : decode cX4_init pc = .ok (.new 60, 3)) (h2 : decode cX4_init (pc + 3) = .ok (.dup, 1)) (h3 : decode cX4_init (pc + 3 + 1) = .ok (.invokespecial 62, 3)) (hst : (st.map fun v => v.category).sum ≤ 7) (k : ∀ (I' : MI) (G' : MG) (J' : MJ), (∀ x, ¬ (39 ≤ x ∧ x < 50) → I' x = I x ∧ G' x = G x ∧ J' x = J x) → (∀ q ∈ refT, 39 ≤ q.1 → q.1 < 50 → q.1 ≠ 35 → G' q.1 q.2.1 = some q.2.2) → Ev (d + 2) mX4_init 1 (pc + 3 + 1 + 3) ls (.ref 39 :: st) 50 I' G' J' Φ) : Ev (d + 2) mX4_init 1 pc ls st 39 I G J Φ := by
  refine E_new 0 7 h1 nw_RX4_60 (by decide +kernel) (by omega) (by omega) (by decide +kernel) (by decide +kernel) (by decide) (by decide +kernel) ?_
  refine E_dup h2 rfl ?_
  refine E_invi (M := mX4_init) (As := []) (st := .ref 39 :: st) mX0_init 0 h3 lk_RX4_62 rfl (by simp only [List.map_cons, List.sum_cons]; show 1 + _ ≤ 8; omega) (by omega) (by decide +kernel) (by decide) (by decide +kernel) (by decide : 1 ≤ 1) (?_ : Ev (d + 1) mX0_init 40 0 [some (.ref 39)] [] 40 _ _ _ (fun r n I1 G1 J1 => r = none ∧ n = 50 ∧ (∀ x, ¬ (39 ≤ x ∧ x < 50) → I1 x = I x ∧ G1 x = G x ∧ J1 x = J x) ∧ (∀ q ∈ refT, 39 ≤ q.1 → q.1 < 50 → q.1 ≠ 35 → G1 q.1 q.2.1 = some q.2.2))) ?_ rfl
  · refine c_clb (fun I1 G1 J1 a1 a2 a3 a4 => ⟨rfl, rfl, fun x hx => ⟨?_, ?_, ?_⟩, fun q hq q1 q2 _ => ?_⟩)
    · rw [a1 x (by omega), ur_ne _ _ (by omega)]
    · rw [a2 x (by omega), ur_ne _ _ (by omega)]
    · rw [a3 x (by omega), ur_ne _ _ (by omega)]
    · rcases refC q hq q1 q2 with rfl | rfl | rfl | ⟨e1, e2, e3⟩
      · exact a4.1
      · exact a4.2.1
      · exact a4.2.2.1
      · rw [e1, e3]; exact a4.2.2.2 _ e2
  · rintro r n I1 G1 J1 ⟨rfl, rfl, hf, hr⟩
    exact k I1 G1 J1 hf hr
theorem stP.one {n : Nat} {I1 : MI} {G1 : MG} {J1 : MJ} {r : Nat → Int32} {g : Nat → Option Nat} {j : Nat → Int64} (h : stP n I G J I1 G1 J1) (hn : n = 1 ∨ (34 ≤ n ∧ n < 39)) : stP (n + 1) I G J (ur I1 n r) (ur G1 n g) (ur J1 n j) :=
  h.grow (by omega) (by omega) (fun x hx => ⟨ur_ne _ _ (by omega), ur_ne _ _ (by omega), ur_ne _ _ (by omega)⟩) (fun q hq q1 q2 q3 => absurd (refN q hq (by omega)) q3)
set_option maxRecDepth 100000 in
theorem c_obj (hG : ∀ q ∈ refT, 122 ≤ q.1 → G q.1 q.2.1 = some q.2.2) (k : ∀ (I' : MI) (G' : MG) (J' : MJ), obP I G J I' G' J' → Φ none 122 I' G' J') : Ev (d + 3) mX4_init 1 0 [some (.ref 0), none] [] 1 I G J Φ := by
  have s0 : stP 1 I G J I G J := ⟨fun _ _ => ⟨rfl, rfl, rfl⟩, ⟨rfl, rfl⟩, fun q _ q0 _ ql => absurd ql (by omega)⟩
  have o0 : ∀ n, 1 ≤ n → shn n 0 = (4, 16) := fun n hn => shn_of (by omega) (by decide +kernel)
  refine E_aload_n 0 dX4_init_0 rfl rfl ?_
  refine E_obj dX4_init_1 lk_RX4_1 (by decide) (by omega) ?_
  -- the text
  refine E_aload_n 0 dX4_init_4 rfl rfl ?_
  refine E_sipush (200 : Int32) dX4_init_5 rfl ?_
  refine E_newa 1 200 dX4_init_8 (by decide) rfl ac_char (by decide +kernel) (by decide) rfl (by decide) (by decide) (by decide) (by decide +kernel) (by decide +kernel) (by decide) (by decide +kernel) ?_
  refine E_putr 4 0 0 16 1 dX4_init_10 fl_RX4_9 rfl (o0 _ (by omega)) (Or.inr ⟨_, rfl, rfl, rfl, rfl⟩) (fun _ => rfl) (fun _ => rfl) ?_
  have s1 := (s0.one (r := fun _ => 0) (g := fun _ => none) (j := fun _ => 0) (Or.inl rfl)).put (s := 0) (t := 1) (by omega)
  have z1 : (u2 (ur G 1 (fun _ => none)) 0 0 (some 1)) 0 = va_up (G 0) 0 (some 1) := by rw [u2_up, ur_ne _ _ (by omega)]
  revert s1 z1
  generalize ur I 1 (fun _ => 0) = I1
  generalize u2 (ur G 1 (fun _ => none)) 0 0 (some 1) = G1
  generalize ur J 1 (fun _ => 0) = J1
  intro s1 z1
  -- the reader
  refine E_aload_n 0 dX4_init_13 rfl rfl ?_
  refine x4_rdr (d := d + 1) dX4_init_14 dX4_init_17 dX4_init_18 dX4_init_19 dX4_init_22 rfl (by rw [z1]; rfl) (by decide) (fun I2 G2 J2 f2 q2 => ?_)
  refine E_putr 4 2 0 16 2 dX4_init_25 fl_RX4_18 rfl (o0 _ (by omega)) (Or.inr ⟨_, rfl, rfl, rfl, rfl⟩) (fun _ => rfl) (fun _ => rfl) ?_
  have s2 := (s1.grow (n' := 4) (by omega) (by omega) f2 q2).put (s := 2) (t := 2) (by omega)
  have z2 : (u2 G2 0 2 (some 2)) 0 = va_up (va_up (G 0) 0 (some 1)) 2 (some 2) := by rw [u2_up, (f2 0 (by omega)).2.1, z1]
  revert s2 z2
  generalize u2 G2 0 2 (some 2) = G2'
  intro s2 z2
  -- the lands
  refine E_aload_n 0 dX4_init_28 rfl rfl ?_
  refine x4_lnd (d := d + 1) (c := 4) (by decide +kernel : 4 ∈ lndL) dX4_init_29 dX4_init_32 dX4_init_33 (by decide) (fun I3 G3 J3 f3 q3 l3 => ?_)
  refine E_putr 4 3 0 16 4 dX4_init_36 fl_RX4_25 rfl (o0 _ (by omega)) (Or.inl ⟨_, rfl, rfl⟩) (fun _ => rfl) (fun _ => rfl) ?_
  have s3 := (s2.grow (n' := 13) (by omega) (by omega) f3 q3).put (s := 3) (t := 4) (by omega)
  have z3 : (u2 G3 0 3 (some 4)) 0 = va_up (va_up (va_up (G 0) 0 (some 1)) 2 (some 2)) 3 (some 4) := by rw [u2_up, (f3 0 (by omega)).2.1, z2]
  revert s3 z3
  generalize u2 G3 0 3 (some 4) = G3'
  intro s3 z3
  refine E_aload_n 0 dX4_init_39 rfl rfl ?_
  refine x4_lnd (d := d + 1) (c := 13) (by decide +kernel : 13 ∈ lndL) dX4_init_40 dX4_init_43 dX4_init_44 (by decide) (fun I4 G4 J4 f4 q4 _ => ?_)
  refine E_putr 4 4 0 16 13 dX4_init_47 fl_RX4_29 rfl (o0 _ (by omega)) (Or.inl ⟨_, rfl, rfl⟩) (fun _ => rfl) (fun _ => rfl) ?_
  have s4 := (s3.grow (n' := 22) (by omega) (by omega) f4 q4).put (s := 4) (t := 13) (by omega)
  have z4 : (u2 G4 0 4 (some 13)) 0 = va_up (va_up (va_up (va_up (G 0) 0 (some 1)) 2 (some 2)) 3 (some 4)) 4 (some 13) := by rw [u2_up, (f4 0 (by omega)).2.1, z3]
  have l4 : RLc I4 4 emL := l3.congr (fun x q1 q2 => (f4 x (by omega)).1)
  revert s4 z4
  generalize u2 G4 0 4 (some 13) = G4'
  intro s4 z4
  -- the present, the trial
  refine E_aload_n 0 dX4_init_50 rfl rfl ?_
  refine x4_mom (d := d + 1) (c := 22) isM_22_ dX4_init_51 dX4_init_54 dX4_init_55 (by decide) (fun I5 G5 J5 f5 q5 => ?_)
  refine E_putr 4 5 0 16 22 dX4_init_58 fl_RX4_35 rfl (o0 _ (by omega)) (Or.inr ⟨_, rfl, rfl, rfl, rfl⟩) (fun _ => rfl) (fun _ => rfl) ?_
  have s5 := (s4.grow (n' := 28) (by omega) (by omega) f5 q5).put (s := 5) (t := 22) (by omega)
  have z5 : (u2 G5 0 5 (some 22)) 0 = va_up (va_up (va_up (va_up (va_up (G 0) 0 (some 1)) 2 (some 2)) 3 (some 4)) 4 (some 13)) 5 (some 22) := by rw [u2_up, (f5 0 (by omega)).2.1, z4]
  have l5 : RLc I5 4 emL := l4.congr (fun x q1 q2 => (f5 x (by omega)).1)
  revert s5 z5
  generalize u2 G5 0 5 (some 22) = G5'
  intro s5 z5
  refine E_aload_n 0 dX4_init_61 rfl rfl ?_
  refine x4_mom (d := d + 1) (c := 28) (by decide +kernel : 28 ∈ momL) dX4_init_62 dX4_init_65 dX4_init_66 (by decide) (fun I6 G6 J6 f6 q6 => ?_)
  refine E_putr 4 6 0 16 28 dX4_init_69 fl_RX4_39 rfl (o0 _ (by omega)) (Or.inr ⟨_, rfl, rfl, rfl, rfl⟩) (fun _ => rfl) (fun _ => rfl) ?_
  have s6 := (s5.grow (n' := 34) (by omega) (by omega) f6 q6).put (s := 6) (t := 28) (by omega)
  have z6 : (u2 G6 0 6 (some 28)) 0 = va_up (va_up (va_up (va_up (va_up (va_up (G 0) 0 (some 1)) 2 (some 2)) 3 (some 4)) 4 (some 13)) 5 (some 22)) 6 (some 28) := by rw [u2_up, (f6 0 (by omega)).2.1, z5]
  have l6 : RLc I6 4 emL := l5.congr (fun x q1 q2 => (f6 x (by omega)).1)
  revert s6 z6
  generalize u2 G6 0 6 (some 28) = G6'
  intro s6 z6
  -- rows
  refine E_aload_n 0 dX4_init_72 rfl rfl ?_
  refine E_bipush (10 : Int32) dX4_init_73 rfl ?_
  refine E_anew 10 dX4_init_75 an_RX4_32 (by decide +kernel) (by decide) rfl (by decide) (by decide) (by decide) (by decide +kernel) (by decide +kernel) (by decide) (by decide +kernel) ?_
  refine E_putr 4 7 0 16 34 dX4_init_78 fl_RX4_42 rfl (o0 _ (by omega)) (Or.inr ⟨_, rfl, rfl, rfl, rfl⟩) (fun _ => rfl) (fun _ => rfl) ?_
  have s7 := (s6.one (r := fun _ => 0) (g := fun _ => none) (j := fun _ => 0) (Or.inr (by omega))).put (s := 7) (t := 34) (by omega)
  have z7 : (u2 (ur G6' 34 (fun _ => none)) 0 7 (some 34)) 0 = va_up (va_up (va_up (va_up (va_up (va_up (va_up (G 0) 0 (some 1)) 2 (some 2)) 3 (some 4)) 4 (some 13)) 5 (some 22)) 6 (some 28)) 7 (some 34) := by rw [u2_up, ur_ne _ _ (by omega), z6]
  have l7 : RLc (ur I6 34 (fun _ => 0)) 4 emL := l6.congr (fun x q1 q2 => ur_ne _ _ (by omega))
  revert s7 z7 l7
  generalize ur I6 34 (fun _ => 0) = I7
  generalize u2 (ur G6' 34 (fun _ => none)) 0 7 (some 34) = G7
  generalize ur J6 34 (fun _ => 0) = J7
  intro s7 z7 l7
  refine E_aload_n 0 dX4_init_81 rfl rfl ?_
  refine E_iconst (2 : Int32) dX4_init_82 rfl ?_
  refine E_anew 2 dX4_init_83 an_RX4_32 (by decide +kernel) (by decide) rfl (by decide) (by decide) (by decide) (by decide +kernel) (by decide +kernel) (by decide) (by decide +kernel) ?_
  refine E_putr 4 9 0 16 35 dX4_init_86 fl_RX4_46 rfl (o0 _ (by omega)) (Or.inr ⟨_, rfl, rfl, rfl, rfl⟩) (fun _ => rfl) (fun _ => rfl) ?_
  have s8 := (s7.one (r := fun _ => 0) (g := fun _ => none) (j := fun _ => 0) (Or.inr (by omega))).put (s := 9) (t := 35) (by omega)
  have z8 : (u2 (ur G7 35 (fun _ => none)) 0 9 (some 35)) 0 = va_up (va_up (va_up (va_up (va_up (va_up (va_up (va_up (G 0) 0 (some 1)) 2 (some 2)) 3 (some 4)) 4 (some 13)) 5 (some 22)) 6 (some 28)) 7 (some 34)) 9 (some 35) := by rw [u2_up, ur_ne _ _ (by omega), z7]
  have l8 : RLc (ur I7 35 (fun _ => 0)) 4 emL := l7.congr (fun x q1 q2 => ur_ne _ _ (by omega))
  revert s8 z8 l8
  generalize ur I7 35 (fun _ => 0) = I8
  generalize u2 (ur G7 35 (fun _ => none)) 0 9 (some 35) = G8
  generalize ur J7 35 (fun _ => 0) = J8
  intro s8 z8 l8
  refine E_aload_n 0 dX4_init_89 rfl rfl ?_
  refine E_iconst (2 : Int32) dX4_init_90 rfl ?_
  refine E_newa 2 2 dX4_init_91 (by decide) rfl ac_boolean (by decide +kernel) (by decide) rfl (by decide) (by decide) (by decide) (by decide +kernel) (by decide +kernel) (by decide) (by decide +kernel) ?_
  refine E_putr 4 10 0 16 36 dX4_init_93 fl_RX4_49 rfl (o0 _ (by omega)) (Or.inr ⟨_, rfl, rfl, rfl, rfl⟩) (fun _ => rfl) (fun _ => rfl) ?_
  have s9 := (s8.one (r := fun _ => 0) (g := fun _ => none) (j := fun _ => 0) (Or.inr (by omega))).put (s := 10) (t := 36) (by omega)
  have z9 : (u2 (ur G8 36 (fun _ => none)) 0 10 (some 36)) 0 = va_up (va_up (va_up (va_up (va_up (va_up (va_up (va_up (va_up (G 0) 0 (some 1)) 2 (some 2)) 3 (some 4)) 4 (some 13)) 5 (some 22)) 6 (some 28)) 7 (some 34)) 9 (some 35)) 10 (some 36) := by rw [u2_up, ur_ne _ _ (by omega), z8]
  have l9 : RLc (ur I8 36 (fun _ => 0)) 4 emL := l8.congr (fun x q1 q2 => ur_ne _ _ (by omega))
  have k9 : ∀ b, (ur I8 36 (fun _ => 0)) 36 b = 0 := fun b => by rw [ur_at]
  revert s9 z9 l9 k9
  generalize ur I8 36 (fun _ => 0) = I9
  generalize u2 (ur G8 36 (fun _ => none)) 0 10 (some 36) = G9
  generalize ur J8 36 (fun _ => 0) = J9
  intro s9 z9 l9 k9
  refine E_aload_n 0 dX4_init_96 rfl rfl ?_
  refine E_bipush (6 : Int32) dX4_init_97 rfl ?_
  refine E_newa 0 6 dX4_init_99 (by decide) rfl ac_int (by decide +kernel) (by decide) rfl (by decide) (by decide) (by decide) (by decide +kernel) (by decide +kernel) (by decide) (by decide +kernel) ?_
  refine E_putr 4 11 0 16 37 dX4_init_101 fl_RX4_53 rfl (o0 _ (by omega)) (Or.inr ⟨_, rfl, rfl, rfl, rfl⟩) (fun _ => rfl) (fun _ => rfl) ?_
  have sA := (s9.one (r := fun _ => 0) (g := fun _ => none) (j := fun _ => 0) (Or.inr (by omega))).put (s := 11) (t := 37) (by omega)
  have zA : (u2 (ur G9 37 (fun _ => none)) 0 11 (some 37)) 0 = va_up (va_up (va_up (va_up (va_up (va_up (va_up (va_up (va_up (va_up (G 0) 0 (some 1)) 2 (some 2)) 3 (some 4)) 4 (some 13)) 5 (some 22)) 6 (some 28)) 7 (some 34)) 9 (some 35)) 10 (some 36)) 11 (some 37) := by rw [u2_up, ur_ne _ _ (by omega), z9]
  have lA : RLc (ur I9 37 (fun _ => 0)) 4 emL := l9.congr (fun x q1 q2 => ur_ne _ _ (by omega))
  have kA : ∀ b, (ur I9 37 (fun _ => 0)) 36 b = 0 := fun b => by rw [ur_ne _ _ (by omega)]; exact k9 b
  revert sA zA lA kA
  generalize ur I9 37 (fun _ => 0) = IA
  generalize u2 (ur G9 37 (fun _ => none)) 0 11 (some 37) = GA
  generalize ur J9 37 (fun _ => 0) = JA
  intro sA zA lA kA
  refine E_aload_n 0 dX4_init_104 rfl rfl ?_
  refine E_bipush (6 : Int32) dX4_init_105 rfl ?_
  refine E_newa 0 6 dX4_init_107 (by decide) rfl ac_int (by decide +kernel) (by decide) rfl (by decide) (by decide) (by decide) (by decide +kernel) (by decide +kernel) (by decide) (by decide +kernel) ?_
  refine E_putr 4 12 0 16 38 dX4_init_109 fl_RX4_57 rfl (o0 _ (by omega)) (Or.inr ⟨_, rfl, rfl, rfl, rfl⟩) (fun _ => rfl) (fun _ => rfl) ?_
  have sB := (sA.one (r := fun _ => 0) (g := fun _ => none) (j := fun _ => 0) (Or.inr (by omega))).put (s := 12) (t := 38) (by omega)
  have zB : (u2 (ur GA 38 (fun _ => none)) 0 12 (some 38)) 0 = va_up (va_up (va_up (va_up (va_up (va_up (va_up (va_up (va_up (va_up (va_up (G 0) 0 (some 1)) 2 (some 2)) 3 (some 4)) 4 (some 13)) 5 (some 22)) 6 (some 28)) 7 (some 34)) 9 (some 35)) 10 (some 36)) 11 (some 37)) 12 (some 38) := by rw [u2_up, ur_ne _ _ (by omega), zA]
  have lB : RLc (ur IA 38 (fun _ => 0)) 4 emL := lA.congr (fun x q1 q2 => ur_ne _ _ (by omega))
  have kB : ∀ b, (ur IA 38 (fun _ => 0)) 36 b = 0 := fun b => by rw [ur_ne _ _ (by omega)]; exact kA b
  revert sB zB lB kB
  generalize ur IA 38 (fun _ => 0) = IB
  generalize u2 (ur GA 38 (fun _ => none)) 0 12 (some 38) = GB
  generalize ur JA 38 (fun _ => 0) = JB
  intro sB zB lB kB
  -- the climb
  refine E_aload_n 0 dX4_init_112 rfl rfl ?_
  refine x4_clb (d := d + 1) dX4_init_113 dX4_init_116 dX4_init_117 (by decide) (fun IC GC JC fC qC => ?_)
  refine E_putr 4 14 0 16 39 dX4_init_120 fl_RX4_63 rfl (o0 _ (by omega)) (Or.inr ⟨_, rfl, rfl, rfl, rfl⟩) (fun _ => rfl) (fun _ => rfl) ?_
  have sC := (sB.grow (n' := 50) (by omega) (by omega) fC qC).put (s := 14) (t := 39) (by omega)
  have zC : (u2 GC 0 14 (some 39)) 0 = va_up (va_up (va_up (va_up (va_up (va_up (va_up (va_up (va_up (va_up (va_up (va_up (G 0) 0 (some 1)) 2 (some 2)) 3 (some 4)) 4 (some 13)) 5 (some 22)) 6 (some 28)) 7 (some 34)) 9 (some 35)) 10 (some 36)) 11 (some 37)) 12 (some 38)) 14 (some 39) := by rw [u2_up, (fC 0 (by omega)).2.1, zB]
  refine E_iconst (0 : Int32) dX4_init_123 rfl ?_
  refine E_istore_n 1 dX4_init_124 rfl (Nat.le_of_ble_eq_true rfl) (?_ : Ev (d + 3) mX4_init 1 125 [some (.ref 0), some (.int (nI 0))] [] 50 IC (u2 GC 0 14 (some 39)) JC Φ)
  refine x4_end hG k sC (lB.congr (fun x q1 q2 => (fC x (by omega)).1)) (fun b _ => by rw [(fC 36 (by omega)).1]; exact kB b) ⟨fun p hp => ?_, ?_, ?_⟩
  · rw [zC]
    simp only [row0, List.mem_cons, List.not_mem_nil, or_false] at hp
    rcases hp with rfl | rfl | rfl | rfl | rfl | rfl | rfl | rfl | rfl | rfl <;> rfl
  · rw [zC]; rfl
  · rw [zC]; rfl
end CON6
