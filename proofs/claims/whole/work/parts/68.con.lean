/-! ===== the object's constructor ===== -/
/-- references of the cells made so far, but the object's own row and the row of images -/
def wgP (n : Nat) (G : MG) : Prop := ∀ q ∈ refT, q.1 ≠ 0 → q.1 ≠ 35 → q.1 < n → G q.1 q.2.1 = some q.2.2
theorem refM : ∀ c ∈ momL, ∀ q ∈ refT, c ≤ q.1 → q.1 < c + 6 → q = (c, 2, c + 1) ∨ q = (c, 3, c + 2) ∨ q = (c, 4, c + 3) ∨ q = (c, 5, c + 4) ∨ q = (c, 6, c + 5) := by decide +kernel
theorem refL : ∀ c ∈ lndL, ∀ q ∈ refT, c ≤ q.1 → q.1 < c + 9 → q = (c, 1, c + 1) ∨ q = (c, 2, c + 2) ∨ q = (c, 3, c + 3) ∨ q = (c, 4, c + 4) ∨ q = (c, 6, c + 5) ∨ q = (c, 7, c + 6) ∨ q = (c, 8, c + 7) ∨ q = (c, 10, c + 8) := by decide +kernel
def row0 : List (Nat × Nat) := [(0, 1), (2, 2), (5, 22), (6, 28), (7, 34), (9, 35), (10, 36), (11, 37), (12, 38), (14, 39)]
theorem ref0 : ∀ q ∈ refT, q.1 = 0 → q.2 ∈ row0 := by decide +kernel
theorem ref35 : ∀ q ∈ refT, q.1 = 35 → q = (35, 0, 110) ∨ q = (35, 1, 116) := by decide +kernel
theorem refN : ∀ q ∈ refT, ((1 ≤ q.1 ∧ q.1 < 2) ∨ (34 ≤ q.1 ∧ q.1 < 39)) → q.1 = 35 := by decide +kernel
theorem refR : ∀ q ∈ refT, 2 ≤ q.1 → q.1 < 4 → q = (2, 0, 1) ∨ q = (2, 1, 3) := by decide +kernel
theorem refC : ∀ q ∈ refT, 39 ≤ q.1 → q.1 < 50 → q = (39, 0, 40) ∨ q = (39, 1, 48) ∨ q = (39, 2, 49) ∨ (q.1 = 40 ∧ q.2.1 < 7 ∧ q.2.2 = 41 + q.2.1) := by decide +kernel
/-- the cells from n on are as ever; the object's ints and longs too -/
def stP (n : Nat) (I : MI) (G : MG) (J : MJ) (I1 : MI) (G1 : MG) (J1 : MJ) : Prop := (∀ x, n ≤ x → I1 x = I x ∧ G1 x = G x ∧ J1 x = J x) ∧ (I1 0 = I 0 ∧ J1 0 = J 0) ∧ wgP n G1
theorem stP.grow {n n' : Nat} {I : MI} {G : MG} {J : MJ} {I1 I2 : MI} {G1 G2 : MG} {J1 J2 : MJ} (h : stP n I G J I1 G1 J1) (hn : 1 ≤ n) (hnn : n ≤ n') (hf : ∀ x, ¬ (n ≤ x ∧ x < n') → I2 x = I1 x ∧ G2 x = G1 x ∧ J2 x = J1 x) (hr : ∀ q ∈ refT, n ≤ q.1 → q.1 < n' → q.1 ≠ 35 → G2 q.1 q.2.1 = some q.2.2) : stP n' I G J I2 G2 J2 := by
  obtain ⟨h1, h2, h3⟩ := h
  refine ⟨fun x hx => ?_, ⟨by rw [(hf 0 (by omega)).1]; exact h2.1, by rw [(hf 0 (by omega)).2.2]; exact h2.2⟩, fun q hq q0 q35 ql => ?_⟩
  · have a := hf x (by omega)
    have b := h1 x (by omega)
    exact ⟨a.1.trans b.1, a.2.1.trans b.2.1, a.2.2.trans b.2.2⟩
  · by_cases e : q.1 < n
    · rw [(hf q.1 (by omega)).2.1]; exact h3 q hq q0 q35 e
    · exact hr q hq (by omega) ql q35
theorem stP.put {n s t : Nat} {I : MI} {G : MG} {J : MJ} {I1 : MI} {G1 : MG} {J1 : MJ} (h : stP n I G J I1 G1 J1) (hn : 1 ≤ n) : stP n I G J I1 (u2 G1 0 s (some t)) J1 := by
  obtain ⟨h1, h2, h3⟩ := h
  refine ⟨fun x hx => ⟨(h1 x hx).1, by rw [u2_row _ _ _ (by omega)]; exact (h1 x hx).2.1, (h1 x hx).2.2⟩, h2, fun q hq q0 q35 ql => ?_⟩
  rw [u2_row _ _ _ q0]; exact h3 q hq q0 q35 ql
section CON4
variable {d : Nat} {I : MI} {G : MG} {J : MJ} {Φ : Ph} {ls : List (Option Value)} {st : List Value} {pc : Nat}
theorem x4_mom {c : Nat} (hc : isM c) (h1 : decode cX4_init pc = .ok (.new 32, 3)) (h2 : decode cX4_init (pc + 3) = .ok (.dup, 1)) (h3 : decode cX4_init (pc + 3 + 1) = .ok (.invokespecial 34, 3)) (hst : (st.map fun v => v.category).sum ≤ 7) (k : ∀ (I' : MI) (G' : MG) (J' : MJ), (∀ x, ¬ (c ≤ x ∧ x < c + 6) → I' x = I x ∧ G' x = G x ∧ J' x = J x) → (∀ q ∈ refT, c ≤ q.1 → q.1 < c + 6 → q.1 ≠ 35 → G' q.1 q.2.1 = some q.2.2) → Ev (d + 2) mX4_init 1 (pc + 3 + 1 + 3) ls (.ref c :: st) (c + 6) I' G' J' Φ) : Ev (d + 2) mX4_init 1 pc ls st c I G J Φ := by
  obtain ⟨⟨f1, f2, f3, f4⟩, -, ⟨p2, p3, p4, p5, p6⟩, pa, pb⟩ := momF c hc
  refine E_new 2 8 h1 nw_RX4_32 f3 (by omega) (by omega) pa f4 (by show _ ≤ 121; omega) (by show _ ≤ 964; omega) ?_
  refine E_dup h2 rfl ?_
  refine E_invi (M := mX4_init) (As := []) (st := .ref c :: st) mX2_init 0 h3 lk_RX4_34 rfl (by simp only [List.map_cons, List.sum_cons]; show 1 + _ ≤ 8; omega) (by omega) (by omega) (by show _ + 5 ≤ 121; omega) (by show _ + 34 ≤ 964; omega) (by decide : 1 ≤ 1) (?_ : Ev (d + 1) mX2_init (c + 1) 0 [some (.ref c)] [] (c + 1) _ _ _ (fun r n I1 G1 J1 => r = none ∧ n = c + 6 ∧ (∀ x, ¬ (c ≤ x ∧ x < c + 6) → I1 x = I x ∧ G1 x = G x ∧ J1 x = J x) ∧ (∀ q ∈ refT, c ≤ q.1 → q.1 < c + 6 → q.1 ≠ 35 → G1 q.1 q.2.1 = some q.2.2))) ?_ rfl
  · refine c_mom hc (fun I1 G1 J1 a1 a2 a3 a4 => ⟨rfl, rfl, fun x hx => ⟨?_, ?_, ?_⟩, fun q hq q1 q2 _ => ?_⟩)
    · rw [a1 x (by omega), ur_ne _ _ (by omega)]
    · rw [a2 x (by omega), ur_ne _ _ (by omega)]
    · rw [a3 x (by omega), ur_ne _ _ (by omega)]
    · rcases refM c hc q hq q1 q2 with rfl | rfl | rfl | rfl | rfl
      · exact a4.1
      · exact a4.2.1
      · exact a4.2.2.1
      · exact a4.2.2.2.1
      · exact a4.2.2.2.2
  · rintro r n I1 G1 J1 ⟨rfl, rfl, hf, hr⟩
    exact k I1 G1 J1 hf hr
theorem x4_lnd {c : Nat} (hc : isL c) (h1 : decode cX4_init pc = .ok (.new 22, 3)) (h2 : decode cX4_init (pc + 3) = .ok (.dup, 1)) (h3 : decode cX4_init (pc + 3 + 1) = .ok (.invokespecial 24, 3)) (hst : (st.map fun v => v.category).sum ≤ 7) (k : ∀ (I' : MI) (G' : MG) (J' : MJ), (∀ x, ¬ (c ≤ x ∧ x < c + 9) → I' x = I x ∧ G' x = G x ∧ J' x = J x) → (∀ q ∈ refT, c ≤ q.1 → q.1 < c + 9 → q.1 ≠ 35 → G' q.1 q.2.1 = some q.2.2) → RLc I' c emL → Ev (d + 2) mX4_init 1 (pc + 3 + 1 + 3) ls (.ref c :: st) (c + 9) I' G' J' Φ) : Ev (d + 2) mX4_init 1 pc ls st c I G J Φ := by
  obtain ⟨⟨f1, f2, f3, f4⟩, -, ⟨p2, p3, p4, p5, p6, p7, p8, p9⟩, pa, pb⟩ := lndF c hc
  have hla := isL_or hc
  refine E_new 1 15 h1 nw_RX4_22 f3 (by omega) (by omega) pa f4 (by show _ ≤ 121; omega) (by show _ ≤ 964; omega) ?_
  refine E_dup h2 rfl ?_
  refine E_invi (M := mX4_init) (As := []) (st := .ref c :: st) mX1_init 0 h3 lk_RX4_24 rfl (by simp only [List.map_cons, List.sum_cons]; show 1 + _ ≤ 8; omega) (by omega) (by omega) (by show _ + 8 ≤ 121; omega) (by show _ + 31 ≤ 964; omega) (by decide : 1 ≤ 1) (?_ : Ev (d + 1) mX1_init (c + 1) 0 [some (.ref c)] [] (c + 1) _ _ _ (fun r n I1 G1 J1 => r = none ∧ n = c + 9 ∧ (∀ x, ¬ (c ≤ x ∧ x < c + 9) → I1 x = I x ∧ G1 x = G x ∧ J1 x = J x) ∧ (∀ q ∈ refT, c ≤ q.1 → q.1 < c + 9 → q.1 ≠ 35 → G1 q.1 q.2.1 = some q.2.2) ∧ RLc I1 c emL)) ?_ rfl
  · refine c_lnd hc (fun I1 G1 J1 a1 a2 a3 a4 a5 => ⟨rfl, rfl, fun x hx => ⟨?_, ?_, ?_⟩, fun q hq q1 q2 _ => ?_, ⟨⟨?_, ?_, ?_, ?_, ?_⟩, fun h hh => absurd hh (by show ¬ h < 0; omega), fun j hj => absurd hj (by show ¬ j < 0; omega), fun m hm => absurd hm (by show ¬ m < 0; omega)⟩⟩)
    · rw [a1 x (by omega), ur_ne _ _ (by omega)]
    · rw [a3 x (by omega), ur_ne _ _ (by omega)]
    · rw [a4 x (by omega), ur_ne _ _ (by omega)]
    · rcases refL c hc q hq q1 q2 with rfl | rfl | rfl | rfl | rfl | rfl | rfl | rfl
      · exact a5.1
      · exact a5.2.1
      · exact a5.2.2.1
      · exact a5.2.2.2.1
      · exact a5.2.2.2.2.1
      · exact a5.2.2.2.2.2.1
      · exact a5.2.2.2.2.2.2.1
      · exact a5.2.2.2.2.2.2.2
    · rw [a2.1 0 (by omega), ur_at]; rfl
    · rw [a2.1 5 (by omega), ur_at]; rfl
    · rw [a2.1 9 (by omega), ur_at]; rfl
    · rw [a2.2]; rfl
    · rw [a2.1 12 (by omega), ur_at]; rfl
  · rintro r n I1 G1 J1 ⟨rfl, rfl, hf, hr, hL⟩
    exact k I1 G1 J1 hf hr hL
end CON4
