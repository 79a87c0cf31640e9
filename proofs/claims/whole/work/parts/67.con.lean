/-! ===== constructors ===== -/
theorem momF : ∀ c ∈ momL, (c < 117 ∧ 22 ≤ c ∧ shp c = (2, 8) ∧ pre (c + 1) = pre c + 8) ∧ (shp (c + 1) = (6, 4) ∧ shp (c + 2) = (6, 4) ∧ shp (c + 3) = (6, 3) ∧ shp (c + 4) = (6, 3) ∧ shp (c + 5) = (6, 20)) ∧ (pre (c + 2) = pre (c + 1) + 4 ∧ pre (c + 3) = pre (c + 2) + 4 ∧ pre (c + 4) = pre (c + 3) + 3 ∧ pre (c + 5) = pre (c + 4) + 3 ∧ pre (c + 6) = pre (c + 5) + 20) ∧ (pre 1 ≤ pre c ∧ pre (c + 6) ≤ pre 1 + 964) := by decide +kernel
theorem lndF : ∀ c ∈ lndL, (c < 117 ∧ 1 ≤ c ∧ shp c = (1, 15) ∧ pre (c + 1) = pre c + 15) ∧ (shp (c + 1) = (6, 4) ∧ shp (c + 2) = (6, 4) ∧ shp (c + 3) = (6, 4) ∧ shp (c + 4) = (6, 4) ∧ shp (c + 5) = (6, 4) ∧ shp (c + 6) = (6, 4) ∧ shp (c + 7) = (6, 4) ∧ shp (c + 8) = (6, 3)) ∧ (pre (c + 2) = pre (c + 1) + 4 ∧ pre (c + 3) = pre (c + 2) + 4 ∧ pre (c + 4) = pre (c + 3) + 4 ∧ pre (c + 5) = pre (c + 4) + 4 ∧ pre (c + 6) = pre (c + 5) + 4 ∧ pre (c + 7) = pre (c + 6) + 4 ∧ pre (c + 8) = pre (c + 7) + 4 ∧ pre (c + 9) = pre (c + 8) + 3) ∧ (pre 1 ≤ pre c ∧ pre (c + 9) ≤ pre 1 + 964) := by decide +kernel
theorem shn_of {n c k z : Nat} (h : c < n) (hs : shp c = (k, z)) : shn n c = (k, z) := by unfold shn; rw [if_pos h]; exact hs
theorem RLm.congr3 {I I' : MI} {L : Ld} (h : RLm I L) (h2 : ∀ f, 10 ≤ f ∧ f < 15 → I' 122 f = I 122 f) (h3 : ∀ x, 125 ≤ x → x < 133 → I' x = I x) : RLm I' L := by
  unfold RLm
  rw [h2 10 (by omega), h2 11 (by omega), h2 12 (by omega), h2 13 (by omega), h2 14 (by omega), h3 125 (by omega) (by omega), h3 126 (by omega) (by omega), h3 127 (by omega) (by omega), h3 128 (by omega) (by omega), h3 129 (by omega) (by omega), h3 130 (by omega) (by omega), h3 131 (by omega) (by omega), h3 132 (by omega) (by omega)]
  exact h
section CON
variable {d : Nat} {I : MI} {G : MG} {J : MJ} {Φ : Ph} {c : Nat}
set_option maxRecDepth 100000 in
theorem c_mom (hc : isM c) (k : ∀ (I' : MI) (G' : MG) (J' : MJ), (∀ x, ¬ (c + 1 ≤ x ∧ x < c + 6) → I' x = I x) → (∀ x, ¬ (c ≤ x ∧ x < c + 6) → G' x = G x) → (∀ x, ¬ (c + 1 ≤ x ∧ x < c + 6) → J' x = J x) → (G' c 2 = some (c + 1) ∧ G' c 3 = some (c + 2) ∧ G' c 4 = some (c + 3) ∧ G' c 5 = some (c + 4) ∧ G' c 6 = some (c + 5)) → Φ none (c + 6) I' G' J') : Ev (d + 1) mX2_init (c + 1) 0 [some (.ref c)] [] (c + 1) I G J Φ := by
  obtain ⟨⟨f1, f2, f3, f4⟩, ⟨s1, s2, s3, s4, s5⟩, ⟨p2, p3, p4, p5, p6⟩, -⟩ := momF c hc
  refine E_aload_n 0 dX2_init_0 rfl rfl ?_
  refine E_obj dX2_init_1 lk_RX2_3 (by decide) (by omega) ?_
  refine E_aload_n 0 dX2_init_4 rfl rfl ?_
  refine E_iconst (4 : Int32) dX2_init_5 rfl ?_
  refine E_newa 0 4 dX2_init_6 (by decide) rfl ac_int s1 (by decide) rfl (by decide) (by omega) (by omega) (by show pre (c + 1) ≤ pre (c + 1); omega) p2 (by show _ ≤ 5; omega) (by show pre (c + 1) - pre (c + 1) + 4 ≤ 34; omega) ?_
  refine E_putr 2 2 c 8 (c + 1) dX2_init_8 fl_RX2_9 rfl (shn_of (by omega) f3) (Or.inr ⟨_, rfl, rfl, rfl, rfl⟩) (fun _ => rfl) (fun _ => rfl) ?_
  refine E_aload_n 0 dX2_init_11 rfl rfl ?_
  refine E_iconst (4 : Int32) dX2_init_12 rfl ?_
  refine E_newa 0 4 dX2_init_13 (by decide) rfl ac_int s2 (by decide) rfl (by decide) (by omega) (by omega) (by show pre (c + 1) ≤ pre (c + 2); omega) p3 (by show _ ≤ 5; omega) (by show pre (c + 2) - pre (c + 1) + 4 ≤ 34; omega) ?_
  refine E_putr 2 3 c 8 (c + 2) dX2_init_15 fl_RX2_15 rfl (shn_of (by omega) f3) (Or.inr ⟨_, rfl, rfl, rfl, rfl⟩) (fun _ => rfl) (fun _ => rfl) ?_
  refine E_aload_n 0 dX2_init_18 rfl rfl ?_
  refine E_iconst (3 : Int32) dX2_init_19 rfl ?_
  refine E_newa 0 3 dX2_init_20 (by decide) rfl ac_int s3 (by decide) rfl (by decide) (by omega) (by omega) (by show pre (c + 1) ≤ pre (c + 3); omega) p4 (by show _ ≤ 5; omega) (by show pre (c + 3) - pre (c + 1) + 3 ≤ 34; omega) ?_
  refine E_putr 2 4 c 8 (c + 3) dX2_init_22 fl_RX2_18 rfl (shn_of (by omega) f3) (Or.inr ⟨_, rfl, rfl, rfl, rfl⟩) (fun _ => rfl) (fun _ => rfl) ?_
  refine E_aload_n 0 dX2_init_25 rfl rfl ?_
  refine E_iconst (3 : Int32) dX2_init_26 rfl ?_
  refine E_newa 0 3 dX2_init_27 (by decide) rfl ac_int s4 (by decide) rfl (by decide) (by omega) (by omega) (by show pre (c + 1) ≤ pre (c + 4); omega) p5 (by show _ ≤ 5; omega) (by show pre (c + 4) - pre (c + 1) + 3 ≤ 34; omega) ?_
  refine E_putr 2 5 c 8 (c + 4) dX2_init_29 fl_RX2_21 rfl (shn_of (by omega) f3) (Or.inr ⟨_, rfl, rfl, rfl, rfl⟩) (fun _ => rfl) (fun _ => rfl) ?_
  refine E_aload_n 0 dX2_init_32 rfl rfl ?_
  refine E_bipush (20 : Int32) dX2_init_33 rfl ?_
  refine E_newa 0 20 dX2_init_35 (by decide) rfl ac_int s5 (by decide) rfl (by decide) (by omega) (by omega) (by show pre (c + 1) ≤ pre (c + 5); omega) p6 (by show _ ≤ 5; omega) (by show pre (c + 5) - pre (c + 1) + 20 ≤ 34; omega) ?_
  refine E_putr 2 6 c 8 (c + 5) dX2_init_37 fl_RX2_24 rfl (shn_of (by omega) f3) (Or.inr ⟨_, rfl, rfl, rfl, rfl⟩) (fun _ => rfl) (fun _ => rfl) ?_
  refine E_vret dX2_init_40 rfl rfl (by show pre (c + 6) = pre (c + 1) + 34; omega) (k _ _ _ (fun x hx => ?_) (fun x hx => ?_) (fun x hx => ?_) ⟨?_, ?_, ?_, ?_, ?_⟩)
  · simp (disch := omega) only [ur_ne]
  · simp (disch := omega) only [ur_ne, u2_row]
  · simp (disch := omega) only [ur_ne]
  · simp (disch := omega) only [u2_ne, u2_at, ur_ne]
  · simp (disch := omega) only [u2_ne, u2_at, ur_ne]
  · simp (disch := omega) only [u2_ne, u2_at, ur_ne]
  · simp (disch := omega) only [u2_ne, u2_at, ur_ne]
  · simp (disch := omega) only [u2_ne, u2_at, ur_ne]
set_option maxRecDepth 100000 in
theorem c_lnd (hc : isL c) (k : ∀ (I' : MI) (G' : MG) (J' : MJ), (∀ x, ¬ (c ≤ x ∧ x < c + 9) → I' x = I x) → ((∀ f, f ≠ 11 → I' c f = I c f) ∧ I' c 11 = 4) → (∀ x, ¬ (c ≤ x ∧ x < c + 9) → G' x = G x) → (∀ x, ¬ (c + 1 ≤ x ∧ x < c + 9) → J' x = J x) → (G' c 1 = some (c + 1) ∧ G' c 2 = some (c + 2) ∧ G' c 3 = some (c + 3) ∧ G' c 4 = some (c + 4) ∧ G' c 6 = some (c + 5) ∧ G' c 7 = some (c + 6) ∧ G' c 8 = some (c + 7) ∧ G' c 10 = some (c + 8)) → Φ none (c + 9) I' G' J') : Ev (d + 1) mX1_init (c + 1) 0 [some (.ref c)] [] (c + 1) I G J Φ := by
  obtain ⟨⟨f1, f2, f3, f4⟩, ⟨s1, s2, s3, s4, s5, s6, s7, s8⟩, ⟨p2, p3, p4, p5, p6, p7, p8, p9⟩, -⟩ := lndF c hc
  refine E_aload_n 0 dX1_init_0 rfl rfl ?_
  refine E_obj dX1_init_1 lk_RX1_3 (by decide) (by omega) ?_
  refine E_aload_n 0 dX1_init_4 rfl rfl ?_
  refine E_iconst (4 : Int32) dX1_init_5 rfl ?_
  refine E_newa 0 4 dX1_init_6 (by decide) rfl ac_int s1 (by decide) rfl (by decide) (by omega) (by omega) (by show pre (c + 1) ≤ pre (c + 1); omega) p2 (by show _ ≤ 8; omega) (by show pre (c + 1) - pre (c + 1) + 4 ≤ 31; omega) ?_
  refine E_putr 1 1 c 15 (c + 1) dX1_init_8 fl_RX1_9 rfl (shn_of (by omega) f3) (Or.inr ⟨_, rfl, rfl, rfl, rfl⟩) (fun _ => rfl) (fun _ => rfl) ?_
  refine E_aload_n 0 dX1_init_11 rfl rfl ?_
  refine E_iconst (4 : Int32) dX1_init_12 rfl ?_
  refine E_newa 0 4 dX1_init_13 (by decide) rfl ac_int s2 (by decide) rfl (by decide) (by omega) (by omega) (by show pre (c + 1) ≤ pre (c + 2); omega) p3 (by show _ ≤ 8; omega) (by show pre (c + 2) - pre (c + 1) + 4 ≤ 31; omega) ?_
  refine E_putr 1 2 c 15 (c + 2) dX1_init_15 fl_RX1_15 rfl (shn_of (by omega) f3) (Or.inr ⟨_, rfl, rfl, rfl, rfl⟩) (fun _ => rfl) (fun _ => rfl) ?_
  refine E_aload_n 0 dX1_init_18 rfl rfl ?_
  refine E_iconst (4 : Int32) dX1_init_19 rfl ?_
  refine E_newa 0 4 dX1_init_20 (by decide) rfl ac_int s3 (by decide) rfl (by decide) (by omega) (by omega) (by show pre (c + 1) ≤ pre (c + 3); omega) p4 (by show _ ≤ 8; omega) (by show pre (c + 3) - pre (c + 1) + 4 ≤ 31; omega) ?_
  refine E_putr 1 3 c 15 (c + 3) dX1_init_22 fl_RX1_18 rfl (shn_of (by omega) f3) (Or.inr ⟨_, rfl, rfl, rfl, rfl⟩) (fun _ => rfl) (fun _ => rfl) ?_
  refine E_aload_n 0 dX1_init_25 rfl rfl ?_
  refine E_iconst (4 : Int32) dX1_init_26 rfl ?_
  refine E_newa 0 4 dX1_init_27 (by decide) rfl ac_int s4 (by decide) rfl (by decide) (by omega) (by omega) (by show pre (c + 1) ≤ pre (c + 4); omega) p5 (by show _ ≤ 8; omega) (by show pre (c + 4) - pre (c + 1) + 4 ≤ 31; omega) ?_
  refine E_putr 1 4 c 15 (c + 4) dX1_init_29 fl_RX1_21 rfl (shn_of (by omega) f3) (Or.inr ⟨_, rfl, rfl, rfl, rfl⟩) (fun _ => rfl) (fun _ => rfl) ?_
  refine E_aload_n 0 dX1_init_32 rfl rfl ?_
  refine E_iconst (4 : Int32) dX1_init_33 rfl ?_
  refine E_newa 0 4 dX1_init_34 (by decide) rfl ac_int s5 (by decide) rfl (by decide) (by omega) (by omega) (by show pre (c + 1) ≤ pre (c + 5); omega) p6 (by show _ ≤ 8; omega) (by show pre (c + 5) - pre (c + 1) + 4 ≤ 31; omega) ?_
  refine E_putr 1 6 c 15 (c + 5) dX1_init_36 fl_RX1_24 rfl (shn_of (by omega) f3) (Or.inr ⟨_, rfl, rfl, rfl, rfl⟩) (fun _ => rfl) (fun _ => rfl) ?_
  refine E_aload_n 0 dX1_init_39 rfl rfl ?_
  refine E_iconst (4 : Int32) dX1_init_40 rfl ?_
  refine E_newa 0 4 dX1_init_41 (by decide) rfl ac_int s6 (by decide) rfl (by decide) (by omega) (by omega) (by show pre (c + 1) ≤ pre (c + 6); omega) p7 (by show _ ≤ 8; omega) (by show pre (c + 6) - pre (c + 1) + 4 ≤ 31; omega) ?_
  refine E_putr 1 7 c 15 (c + 6) dX1_init_43 fl_RX1_27 rfl (shn_of (by omega) f3) (Or.inr ⟨_, rfl, rfl, rfl, rfl⟩) (fun _ => rfl) (fun _ => rfl) ?_
  refine E_aload_n 0 dX1_init_46 rfl rfl ?_
  refine E_iconst (4 : Int32) dX1_init_47 rfl ?_
  refine E_newa 0 4 dX1_init_48 (by decide) rfl ac_int s7 (by decide) rfl (by decide) (by omega) (by omega) (by show pre (c + 1) ≤ pre (c + 7); omega) p8 (by show _ ≤ 8; omega) (by show pre (c + 7) - pre (c + 1) + 4 ≤ 31; omega) ?_
  refine E_putr 1 8 c 15 (c + 7) dX1_init_50 fl_RX1_30 rfl (shn_of (by omega) f3) (Or.inr ⟨_, rfl, rfl, rfl, rfl⟩) (fun _ => rfl) (fun _ => rfl) ?_
  refine E_aload_n 0 dX1_init_53 rfl rfl ?_
  refine E_iconst (3 : Int32) dX1_init_54 rfl ?_
  refine E_newa 0 3 dX1_init_55 (by decide) rfl ac_int s8 (by decide) rfl (by decide) (by omega) (by omega) (by show pre (c + 1) ≤ pre (c + 8); omega) p9 (by show _ ≤ 8; omega) (by show pre (c + 8) - pre (c + 1) + 3 ≤ 31; omega) ?_
  refine E_putr 1 10 c 15 (c + 8) dX1_init_57 fl_RX1_33 rfl (shn_of (by omega) f3) (Or.inr ⟨_, rfl, rfl, rfl, rfl⟩) (fun _ => rfl) (fun _ => rfl) ?_
  refine E_aload_n 0 dX1_init_60 rfl rfl ?_
  refine E_iconst (4 : Int32) dX1_init_61 rfl ?_
  refine E_puti 1 11 c 15 dX1_init_62 fl_RX1_36 rfl (shn_of (by omega) f3) ⟨_, rfl, rfl⟩ rfl rfl ?_
  refine E_vret dX1_init_65 rfl rfl (by show pre (c + 9) = pre (c + 1) + 31; omega) (k _ _ _ (fun x hx => ?_) ⟨fun f hf => ?_, ?_⟩ (fun x hx => ?_) (fun x hx => ?_) ⟨?_, ?_, ?_, ?_, ?_, ?_, ?_, ?_⟩)
  · simp (disch := omega) only [ur_ne, u2_row]
  · simp (disch := omega) only [ur_ne, u2_ne]
  · simp (disch := omega) only [u2_at]
  · simp (disch := omega) only [ur_ne, u2_row]
  · simp (disch := omega) only [ur_ne]
  · simp (disch := omega) only [u2_ne, u2_at, ur_ne]
  · simp (disch := omega) only [u2_ne, u2_at, ur_ne]
  · simp (disch := omega) only [u2_ne, u2_at, ur_ne]
  · simp (disch := omega) only [u2_ne, u2_at, ur_ne]
  · simp (disch := omega) only [u2_ne, u2_at, ur_ne]
  · simp (disch := omega) only [u2_ne, u2_at, ur_ne]
  · simp (disch := omega) only [u2_ne, u2_at, ur_ne]
  · simp (disch := omega) only [u2_ne, u2_at, ur_ne]
set_option maxRecDepth 100000 in
theorem c_rdr (k : ∀ (I' : MI) (G' : MG) (J' : MJ), (∀ x, x ≠ 3 → I' x = I x) → (∀ x, x ≠ 2 → x ≠ 3 → G' x = G x) → (∀ x, x ≠ 3 → J' x = J x) → (G' 2 0 = some 1 ∧ G' 2 1 = some 3) → Φ none 4 I' G' J') : Ev (d + 1) mX3_init 3 0 [some (.ref 2), some (.ref 1)] [] 3 I G J Φ := by
  refine E_aload_n 0 dX3_init_0 rfl rfl ?_
  refine E_obj dX3_init_1 lk_RX3_3 (by decide) (by omega) ?_
  refine E_aload_n 0 dX3_init_4 rfl rfl ?_
  refine E_iconst (4 : Int32) dX3_init_5 rfl ?_
  refine E_newa 0 4 dX3_init_6 (by decide) rfl ac_int (by decide +kernel) (by decide) rfl (by decide) (by decide) (by decide) (by decide +kernel) (by decide +kernel) (by decide) (by decide +kernel) ?_
  refine E_putr 3 1 2 7 (3) dX3_init_8 fl_RX3_11 rfl (shn_of (by decide) (by decide +kernel)) (Or.inr ⟨_, rfl, rfl, rfl, rfl⟩) (fun _ => rfl) (fun _ => rfl) ?_
  refine E_aload_n 0 dX3_init_11 rfl rfl ?_
  refine E_aload_n 1 dX3_init_12 rfl rfl ?_
  refine E_putr 3 0 2 7 1 dX3_init_13 fl_RX3_15 rfl (shn_of (by decide) (by decide +kernel)) (Or.inr ⟨_, rfl, rfl, rfl, rfl⟩) (fun _ => rfl) (fun _ => rfl) ?_
  refine E_vret dX3_init_16 rfl rfl (by decide +kernel) (k _ _ _ (fun x hx => ?_) (fun x h1 h2 => ?_) (fun x hx => ?_) ⟨?_, ?_⟩)
  · simp (disch := omega) only [ur_ne]
  · simp (disch := omega) only [ur_ne, u2_row]
  · simp (disch := omega) only [ur_ne]
  · simp (disch := omega) only [u2_ne, u2_at, ur_ne]
  · simp (disch := omega) only [u2_ne, u2_at, ur_ne]
set_option maxRecDepth 100000 in
theorem c_clb (k : ∀ (I' : MI) (G' : MG) (J' : MJ), (∀ x, ¬ (40 ≤ x ∧ x < 50) → I' x = I x) → (∀ x, ¬ (39 ≤ x ∧ x < 50) → G' x = G x) → (∀ x, ¬ (40 ≤ x ∧ x < 50) → J' x = J x) → (G' 39 0 = some 40 ∧ G' 39 1 = some 48 ∧ G' 39 2 = some 49 ∧ ∀ j, j < 7 → G' 40 j = some (41 + j)) → Φ none 50 I' G' J') : Ev (d + 1) mX0_init 40 0 [some (.ref 39)] [] 40 I G J Φ := by
  refine E_aload_n 0 dX0_init_0 rfl rfl ?_
  refine E_obj dX0_init_1 lk_RX0_3 (by decide) (by omega) ?_
  refine E_aload_n 0 dX0_init_4 rfl rfl ?_
  refine E_bipush (7 : Int32) dX0_init_5 rfl ?_
  refine E_iconst (3 : Int32) dX0_init_7 rfl ?_
  refine E_mna 7 3 dX0_init_8 mn_RX0_9 (by decide +kernel) (by decide +kernel) (by decide) (by decide) rfl rfl (by decide) (by decide) (by decide) (by decide) (by decide +kernel) (by decide +kernel) (by decide) (by decide +kernel) ?_
  refine E_putr 0 0 39 7 40 dX0_init_12 fl_RX0_11 rfl (shn_of (by decide) (by decide +kernel)) (Or.inr ⟨_, rfl, rfl, rfl, rfl⟩) (fun _ => rfl) (fun _ => rfl) ?_
  refine E_aload_n 0 dX0_init_15 rfl rfl ?_
  refine E_bipush (6 : Int32) dX0_init_16 rfl ?_
  refine E_newa 0 6 dX0_init_18 (by decide) rfl ac_int (by decide +kernel) (by decide) rfl (by decide) (by decide) (by decide) (by decide +kernel) (by decide +kernel) (by decide) (by decide +kernel) ?_
  refine E_putr 0 1 39 7 48 dX0_init_20 fl_RX0_16 rfl (shn_of (by decide) (by decide +kernel)) (Or.inr ⟨_, rfl, rfl, rfl, rfl⟩) (fun _ => rfl) (fun _ => rfl) ?_
  refine E_aload_n 0 dX0_init_23 rfl rfl ?_
  refine E_bipush (6 : Int32) dX0_init_24 rfl ?_
  refine E_newa 0 6 dX0_init_26 (by decide) rfl ac_int (by decide +kernel) (by decide) rfl (by decide) (by decide) (by decide) (by decide +kernel) (by decide +kernel) (by decide) (by decide +kernel) ?_
  refine E_putr 0 2 39 7 49 dX0_init_28 fl_RX0_20 rfl (shn_of (by decide) (by decide +kernel)) (Or.inr ⟨_, rfl, rfl, rfl, rfl⟩) (fun _ => rfl) (fun _ => rfl) ?_
  refine E_vret dX0_init_31 rfl rfl (by decide +kernel) (k _ _ _ (fun x hx => ?_) (fun x hx => ?_) (fun x hx => ?_) ⟨?_, ?_, ?_, fun j hj => ?_⟩)
  · simp (disch := omega) only [ur_ne]; unfold zrI; rw [if_neg (by omega)]
  · simp (disch := omega) only [ur_ne, u2_row]; unfold zrG; rw [if_neg (by omega), if_neg (by omega)]
  · simp (disch := omega) only [ur_ne]; unfold zrJ; rw [if_neg (by omega)]
  · simp (disch := omega) only [u2_ne, u2_at, ur_ne]
  · simp (disch := omega) only [u2_ne, u2_at, ur_ne]
  · simp (disch := omega) only [u2_ne, u2_at, ur_ne]
  · simp (disch := omega) only [u2_ne, ur_ne]; unfold zrG; rw [if_pos rfl, if_pos (by omega)]
theorem ref122 : ∀ q ∈ refT, q.1 < 122 ∨ q = (122, 0, 123) ∨ q = (122, 1, 124) ∨ q = (122, 2, 125) ∨ q = (122, 3, 126) ∨ q = (122, 4, 127) ∨ q = (122, 5, 128) ∨ q = (122, 6, 129) ∨ q = (122, 7, 130) ∨ q = (122, 8, 131) ∨ q = (122, 9, 132) ∨ q = (122, 21, 133) ∨ q = (122, 29, 134) ∨ q = (122, 30, 135) := by decide +kernel
set_option maxRecDepth 100000 in
theorem c_mdl (hG : ∀ q ∈ refT, q.1 < 122 → G q.1 q.2.1 = some q.2.2) (hI : ∀ f, I 122 f = 0) (k : ∀ (I' : MI) (G' : MG) (J' : MJ), (∀ x, ¬ (122 ≤ x ∧ x < 136) → I' x = I x) → (∀ x, ¬ (122 ≤ x ∧ x < 136) → G' x = G x) → (∀ x, ¬ (123 ≤ x ∧ x < 136) → J' x = J x) → WG G' → RLm I' emL → (I' 122 22 = nI 0 ∧ I' 122 28 = nI 0 ∧ I' 122 31 = nI 0 ∧ I' 124 0 = 0 ∧ I' 124 1 = 0) → RMm I' 0 emL (bgM emL) → I' 123 16 = nI 0 → Φ none 136 I' G' J') : Ev (d + 1) mX5_init 123 0 [some (.ref 122)] [] 123 I G J Φ := by
  refine E_aload_n 0 dX5_init_0 rfl rfl ?_
  refine E_obj dX5_init_1 lk_RX5_1 (by decide) (by omega) ?_
  refine E_aload_n 0 dX5_init_4 rfl rfl ?_
  refine E_sipush (1400 : Int32) dX5_init_5 rfl ?_
  refine E_newa 0 1400 dX5_init_8 (by decide) rfl ac_int (by decide +kernel) (by decide) rfl (by decide) (by decide) (by decide) (by decide +kernel) (by decide +kernel) (by decide) (by decide +kernel) ?_
  refine E_putr 5 0 122 33 (123) dX5_init_10 fl_RX5_7 rfl (shn_of (by decide) (by decide +kernel)) (Or.inr ⟨_, rfl, rfl, rfl, rfl⟩) (fun _ => rfl) (fun _ => rfl) ?_
  refine E_aload_n 0 dX5_init_13 rfl rfl ?_
  refine E_iconst (2 : Int32) dX5_init_14 rfl ?_
  refine E_newa 2 2 dX5_init_15 (by decide) rfl ac_boolean (by decide +kernel) (by decide) rfl (by decide) (by decide) (by decide) (by decide +kernel) (by decide +kernel) (by decide) (by decide +kernel) ?_
  refine E_putr 5 1 122 33 (124) dX5_init_17 fl_RX5_13 rfl (shn_of (by decide) (by decide +kernel)) (Or.inr ⟨_, rfl, rfl, rfl, rfl⟩) (fun _ => rfl) (fun _ => rfl) ?_
  refine E_aload_n 0 dX5_init_20 rfl rfl ?_
  refine E_bipush (8 : Int32) dX5_init_21 rfl ?_
  refine E_newa 0 8 dX5_init_23 (by decide) rfl ac_int (by decide +kernel) (by decide) rfl (by decide) (by decide) (by decide) (by decide +kernel) (by decide +kernel) (by decide) (by decide +kernel) ?_
  refine E_putr 5 2 122 33 (125) dX5_init_25 fl_RX5_17 rfl (shn_of (by decide) (by decide +kernel)) (Or.inr ⟨_, rfl, rfl, rfl, rfl⟩) (fun _ => rfl) (fun _ => rfl) ?_
  refine E_aload_n 0 dX5_init_28 rfl rfl ?_
  refine E_bipush (8 : Int32) dX5_init_29 rfl ?_
  refine E_newa 0 8 dX5_init_31 (by decide) rfl ac_int (by decide +kernel) (by decide) rfl (by decide) (by decide) (by decide) (by decide +kernel) (by decide +kernel) (by decide) (by decide +kernel) ?_
  refine E_putr 5 3 122 33 (126) dX5_init_33 fl_RX5_20 rfl (shn_of (by decide) (by decide +kernel)) (Or.inr ⟨_, rfl, rfl, rfl, rfl⟩) (fun _ => rfl) (fun _ => rfl) ?_
  refine E_aload_n 0 dX5_init_36 rfl rfl ?_
  refine E_bipush (8 : Int32) dX5_init_37 rfl ?_
  refine E_newa 0 8 dX5_init_39 (by decide) rfl ac_int (by decide +kernel) (by decide) rfl (by decide) (by decide) (by decide) (by decide +kernel) (by decide +kernel) (by decide) (by decide +kernel) ?_
  refine E_putr 5 4 122 33 (127) dX5_init_41 fl_RX5_23 rfl (shn_of (by decide) (by decide +kernel)) (Or.inr ⟨_, rfl, rfl, rfl, rfl⟩) (fun _ => rfl) (fun _ => rfl) ?_
  refine E_aload_n 0 dX5_init_44 rfl rfl ?_
  refine E_bipush (8 : Int32) dX5_init_45 rfl ?_
  refine E_newa 0 8 dX5_init_47 (by decide) rfl ac_int (by decide +kernel) (by decide) rfl (by decide) (by decide) (by decide) (by decide +kernel) (by decide +kernel) (by decide) (by decide +kernel) ?_
  refine E_putr 5 5 122 33 (128) dX5_init_49 fl_RX5_26 rfl (shn_of (by decide) (by decide +kernel)) (Or.inr ⟨_, rfl, rfl, rfl, rfl⟩) (fun _ => rfl) (fun _ => rfl) ?_
  refine E_aload_n 0 dX5_init_52 rfl rfl ?_
  refine E_bipush (8 : Int32) dX5_init_53 rfl ?_
  refine E_newa 0 8 dX5_init_55 (by decide) rfl ac_int (by decide +kernel) (by decide) rfl (by decide) (by decide) (by decide) (by decide +kernel) (by decide +kernel) (by decide) (by decide +kernel) ?_
  refine E_putr 5 6 122 33 (129) dX5_init_57 fl_RX5_29 rfl (shn_of (by decide) (by decide +kernel)) (Or.inr ⟨_, rfl, rfl, rfl, rfl⟩) (fun _ => rfl) (fun _ => rfl) ?_
  refine E_aload_n 0 dX5_init_60 rfl rfl ?_
  refine E_bipush (8 : Int32) dX5_init_61 rfl ?_
  refine E_newa 0 8 dX5_init_63 (by decide) rfl ac_int (by decide +kernel) (by decide) rfl (by decide) (by decide) (by decide) (by decide +kernel) (by decide +kernel) (by decide) (by decide +kernel) ?_
  refine E_putr 5 7 122 33 (130) dX5_init_65 fl_RX5_32 rfl (shn_of (by decide) (by decide +kernel)) (Or.inr ⟨_, rfl, rfl, rfl, rfl⟩) (fun _ => rfl) (fun _ => rfl) ?_
  refine E_aload_n 0 dX5_init_68 rfl rfl ?_
  refine E_bipush (8 : Int32) dX5_init_69 rfl ?_
  refine E_newa 0 8 dX5_init_71 (by decide) rfl ac_int (by decide +kernel) (by decide) rfl (by decide) (by decide) (by decide) (by decide +kernel) (by decide +kernel) (by decide) (by decide +kernel) ?_
  refine E_putr 5 8 122 33 (131) dX5_init_73 fl_RX5_35 rfl (shn_of (by decide) (by decide +kernel)) (Or.inr ⟨_, rfl, rfl, rfl, rfl⟩) (fun _ => rfl) (fun _ => rfl) ?_
  refine E_aload_n 0 dX5_init_76 rfl rfl ?_
  refine E_bipush (6 : Int32) dX5_init_77 rfl ?_
  refine E_newa 0 6 dX5_init_79 (by decide) rfl ac_int (by decide +kernel) (by decide) rfl (by decide) (by decide) (by decide) (by decide +kernel) (by decide +kernel) (by decide) (by decide +kernel) ?_
  refine E_putr 5 9 122 33 (132) dX5_init_81 fl_RX5_38 rfl (shn_of (by decide) (by decide +kernel)) (Or.inr ⟨_, rfl, rfl, rfl, rfl⟩) (fun _ => rfl) (fun _ => rfl) ?_
  refine E_aload_n 0 dX5_init_84 rfl rfl ?_
  refine E_sipush (200 : Int32) dX5_init_85 rfl ?_
  refine E_newa 0 200 dX5_init_88 (by decide) rfl ac_int (by decide +kernel) (by decide) rfl (by decide) (by decide) (by decide) (by decide +kernel) (by decide +kernel) (by decide) (by decide +kernel) ?_
  refine E_putr 5 21 122 33 (133) dX5_init_90 fl_RX5_41 rfl (shn_of (by decide) (by decide +kernel)) (Or.inr ⟨_, rfl, rfl, rfl, rfl⟩) (fun _ => rfl) (fun _ => rfl) ?_
  refine E_aload_n 0 dX5_init_93 rfl rfl ?_
  refine E_bipush (6 : Int32) dX5_init_94 rfl ?_
  refine E_newa 0 6 dX5_init_96 (by decide) rfl ac_int (by decide +kernel) (by decide) rfl (by decide) (by decide) (by decide) (by decide +kernel) (by decide +kernel) (by decide) (by decide +kernel) ?_
  refine E_putr 5 29 122 33 (134) dX5_init_98 fl_RX5_44 rfl (shn_of (by decide) (by decide +kernel)) (Or.inr ⟨_, rfl, rfl, rfl, rfl⟩) (fun _ => rfl) (fun _ => rfl) ?_
  refine E_aload_n 0 dX5_init_101 rfl rfl ?_
  refine E_bipush (6 : Int32) dX5_init_102 rfl ?_
  refine E_newa 0 6 dX5_init_104 (by decide) rfl ac_int (by decide +kernel) (by decide) rfl (by decide) (by decide) (by decide) (by decide +kernel) (by decide +kernel) (by decide) (by decide +kernel) ?_
  refine E_putr 5 30 122 33 (135) dX5_init_106 fl_RX5_47 rfl (shn_of (by decide) (by decide +kernel)) (Or.inr ⟨_, rfl, rfl, rfl, rfl⟩) (fun _ => rfl) (fun _ => rfl) ?_
  refine E_aload_n 0 dX5_init_109 rfl rfl ?_
  refine E_iconst (4 : Int32) dX5_init_110 rfl ?_
  refine E_puti 5 13 122 33 dX5_init_111 fl_RX5_50 rfl (shn_of (by decide) (by decide +kernel)) ⟨_, rfl, rfl⟩ rfl rfl ?_
  refine E_aload_n 0 dX5_init_114 rfl rfl ?_
  refine E_invv (As := []) (st := []) mX5_begin 0 5 33 dX5_init_115 lk_RX5_54 ⟨_, rfl, rfl⟩ (shn_of (by decide) (by decide +kernel)) rfl (by decide) (by decide) (by decide +kernel) (by decide) (by decide +kernel) (by decide) (?_ : Ev d mX5_begin 136 0 [some (.ref 122), none] [] 136 _ _ _ (fun r n I1 G1 J1 => r = none ∧ n = 136 ∧ Φ none 136 I1 G1 J1)) ?_ rfl
  · refine m_begin ⟨?_, ?_, em_w.1⟩ (fun I' h1 h2 h3 h4 h5 => ⟨rfl, rfl, k I' _ _ (fun x hx => ?_) (fun x hx => ?_) (fun x hx => ?_) ?_ ?_ ⟨?_, h3.1, h3.2.1, h3.2.2.1, h3.2.2.2⟩ h4 h5⟩)
    · intro q hq
      rcases ref122 q hq with h | rfl | rfl | rfl | rfl | rfl | rfl | rfl | rfl | rfl | rfl | rfl | rfl | rfl
      · have := hG q hq h
        simp (disch := omega) only [u2_row, ur_ne]
        exact this
      · simp (disch := omega) only [u2_ne, u2_at, ur_ne]
      · simp (disch := omega) only [u2_ne, u2_at, ur_ne]
      · simp (disch := omega) only [u2_ne, u2_at, ur_ne]
      · simp (disch := omega) only [u2_ne, u2_at, ur_ne]
      · simp (disch := omega) only [u2_ne, u2_at, ur_ne]
      · simp (disch := omega) only [u2_ne, u2_at, ur_ne]
      · simp (disch := omega) only [u2_ne, u2_at, ur_ne]
      · simp (disch := omega) only [u2_ne, u2_at, ur_ne]
      · simp (disch := omega) only [u2_ne, u2_at, ur_ne]
      · simp (disch := omega) only [u2_ne, u2_at, ur_ne]
      · simp (disch := omega) only [u2_ne, u2_at, ur_ne]
      · simp (disch := omega) only [u2_ne, u2_at, ur_ne]
      · simp (disch := omega) only [u2_ne, u2_at, ur_ne]
    · refine ⟨⟨?_, ?_, ?_, ?_, ?_⟩, fun h hh => ?_, fun j hj => ?_, fun m hm => ?_⟩
      · simp (disch := omega) only [u2_ne, ur_ne]; exact hI 10
      · simp (disch := omega) only [u2_ne, ur_ne]; exact hI 11
      · simp (disch := omega) only [u2_ne, ur_ne]; exact hI 12
      · simp (disch := omega) only [u2_at]; rfl
      · simp (disch := omega) only [u2_ne, ur_ne]; exact hI 14
      · exact absurd hh (by show ¬ h < 0; omega)
      · exact absurd hj (by show ¬ j < 0; omega)
      · exact absurd hm (by show ¬ m < 0; omega)
    · rw [h1 x (by omega) (by omega) (by omega)]; simp (disch := omega) only [u2_row, ur_ne]
    · simp (disch := omega) only [u2_row, ur_ne]
    · simp (disch := omega) only [ur_ne]
    · intro q hq
      rcases ref122 q hq with h | rfl | rfl | rfl | rfl | rfl | rfl | rfl | rfl | rfl | rfl | rfl | rfl | rfl
      · have := hG q hq h
        simp (disch := omega) only [u2_row, ur_ne]
        exact this
      · simp (disch := omega) only [u2_ne, u2_at, ur_ne]
      · simp (disch := omega) only [u2_ne, u2_at, ur_ne]
      · simp (disch := omega) only [u2_ne, u2_at, ur_ne]
      · simp (disch := omega) only [u2_ne, u2_at, ur_ne]
      · simp (disch := omega) only [u2_ne, u2_at, ur_ne]
      · simp (disch := omega) only [u2_ne, u2_at, ur_ne]
      · simp (disch := omega) only [u2_ne, u2_at, ur_ne]
      · simp (disch := omega) only [u2_ne, u2_at, ur_ne]
      · simp (disch := omega) only [u2_ne, u2_at, ur_ne]
      · simp (disch := omega) only [u2_ne, u2_at, ur_ne]
      · simp (disch := omega) only [u2_ne, u2_at, ur_ne]
      · simp (disch := omega) only [u2_ne, u2_at, ur_ne]
      · simp (disch := omega) only [u2_ne, u2_at, ur_ne]
    · refine RLm.congr3 ?_ (fun f q => h2 f (by omega) (by omega)) (fun x q1 q2 => h1 x (by omega) (by omega) (by omega))
      refine ⟨⟨?_, ?_, ?_, ?_, ?_⟩, fun h hh => ?_, fun j hj => ?_, fun m hm => ?_⟩
      · simp (disch := omega) only [u2_ne, ur_ne]; exact hI 10
      · simp (disch := omega) only [u2_ne, ur_ne]; exact hI 11
      · simp (disch := omega) only [u2_ne, ur_ne]; exact hI 12
      · simp (disch := omega) only [u2_at]; rfl
      · simp (disch := omega) only [u2_ne, ur_ne]; exact hI 14
      · exact absurd hh (by show ¬ h < 0; omega)
      · exact absurd hj (by show ¬ j < 0; omega)
      · exact absurd hm (by show ¬ m < 0; omega)
    · rw [h2 22 (by omega) (by omega)]; simp (disch := omega) only [u2_ne, ur_ne]; exact hI 22
  · rintro r n I1 G1 J1 ⟨rfl, rfl, hk⟩
    exact E_vret dX5_init_118 rfl rfl (by decide +kernel) hk
end CON
