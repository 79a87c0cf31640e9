/-! ===== type, keep, back, undo ===== -/
section OPC
variable {d : Nat} {I : MI} {G : MG} {J : MJ} {Φ : Ph} {a : Nat} {L : Ld} {T : Tm}
theorem chr_ : ∀ c, c < 256 → ((nI c).toUInt32 % 65536).toInt32 = nI c := by decide +kernel
theorem m_type (hG : WG G) {nt : Nat} (hn : I 122 22 = nI nt) (hs : nt ≤ 200) (x : Int32) (k0 : ¬ (0 ≤ x ∧ x ≤ 255) → Φ (some (.int (-1))) 136 I G J) (k1 : (0 ≤ x ∧ x ≤ 255) → nt = 200 → Φ (some (.int (-3))) 136 I G J) (k2 : (0 ≤ x ∧ x ≤ 255) → nt < 200 → Φ (some (.int (nI (nt + 1)))) 136 (u2 (u2 I 133 nt x) 122 22 (nI (nt + 1))) G J) : Ev (d + 1) mX5_type 136 0 [some (.ref 122), some (.int x)] [] 136 I G J Φ := by
  refine w_X5_type hG x (m_in hG _ _ _ ⟨_, rfl, rfl, rfl, rfl, rfl, ?_⟩)
  rw [if01, show (¬ x.toInt64 < (0 : Int64) ∧ ¬ (255 : Int64) < x.toInt64) = (0 ≤ x ∧ x ≤ 255) from in_ab x 0 255, hn, nI_clamp (n := nt) (by omega), show (200 : Int32) = nI 200 from rfl, show nI nt + (1 : Int32) = nI (nt + 1) from nI_1 _, nI_eq (by omega) (by omega)]
  refine ⟨fun q => ?_, fun q => k0 q⟩
  have hq := Decidable.not_not.mp q
  exact ⟨fun z => ⟨vp_in_nI (by omega) (by decide), k2 hq (by omega)⟩, fun z => k1 hq z⟩
theorem p_type (S : SR I G J a L T) (x : Int32) : Ev d mX4_type 136 0 [some (.ref 0), some (.int x)] [] 136 I G J (P2 I G (d + 1) mX5_type [some (.ref 122), some (.int x)]) := by
  obtain ⟨nt, n1, n2, n3, n4⟩ := S.2.2.2.2.2.1
  have k0 : ¬ (0 ≤ x ∧ x ≤ 255) → P2 I G (d + 1) mX5_type [some (.ref 122), some (.int x)] (some (.int (-1))) 136 I G J := fun h =>
    S.same (m_type S.1.1 n3 n1 x (fun _ => ⟨rfl, rfl, rfl, rfl, rfl⟩) (fun z => absurd z h) (fun z => absurd z h))
  refine w_X4_type S.1.1 x ⟨fun q => k0 (fun z => Int32.not_lt.mpr z.1 q), fun q => ⟨fun q2 => ?_, fun q2 => k0 (fun z => q2 z.2)⟩⟩
  have hc : 0 ≤ x ∧ x ≤ 255 := ⟨Int32.not_lt.mp q, q2⟩
  obtain ⟨t, ht, e2⟩ := nI_of2 (n := 255) (M := 255) rfl q q2
  have ec : (x.toUInt32 % 65536).toInt32 = x := by rw [e2]; exact chr_ t (by omega)
  rw [n2, nI_clamp (n := nt) (by omega), show (200 : Int32) = nI 200 from rfl, show nI nt + (1 : Int32) = nI (nt + 1) from nI_1 _, nI_ltI (by omega) (by omega)]
  refine ⟨fun z => ⟨vp_in_nI (by omega) (by decide), pk_nc x, ?_⟩, fun z => ?_⟩
  · rw [ec]
    refine ⟨rfl, ⟨_, rfl⟩, ?_⟩
    refine m_type S.1.1 (nt := nt) (by rw [u2_row _ _ _ (by omega), u2_row _ _ _ (by omega)]; exact n3) n1 x (fun y => absurd hc y) (fun _ y => absurd y (by omega)) (fun _ _ => ⟨rfl, rfl, ?_⟩)
    refine S.upx (fun x q => ?_) ?_ (fun k q => ?_) (S.2.2.2.2.1.cg ?_ ?_ ?_ ?_ ?_ ?_) ⟨nt + 1, by omega, ?_, ?_, fun i hi => ?_⟩
    · simp (disch := omega) only [u2_row]
    · simp (disch := omega) only [u2_row, u2_ne]
    · simp (disch := omega) only [u2_row, u2_ne]
    · simp (disch := omega) only [u2_row, u2_ne]
    · simp (disch := omega) only [u2_row, u2_ne]
    · simp (disch := omega) only [u2_row]
    · simp (disch := omega) only [u2_row]
    · simp (disch := omega) only [u2_row]
    · simp (disch := omega) only [u2_row]
    · simp (disch := omega) only [u2_row, u2_at]
    · rw [u2_at]
    · by_cases ei : i = nt
      · subst ei
        refine ⟨t, by omega, ?_, ?_⟩ <;> simp (disch := omega) only [u2_row, u2_at, e2]
      · obtain ⟨c, r⟩ := n4 i (by omega)
        refine ⟨c, r.1, ?_⟩
        simp (disch := omega) only [u2_row, u2_ne]
        exact r.2
  · exact S.same (m_type S.1.1 n3 n1 x (fun y => absurd hc y) (fun _ _ => ⟨rfl, rfl, rfl, rfl, rfl⟩) (fun _ y => absurd y (by omega)))
/-! copies of moments with their evenings -/
theorem RTc.cp {I' : MI} {c o : Nat} (wL : WLd L) (wT : WT L T) (h : RTc I o L T) (hc : CpM c o I I') : RTc I' c L T := by
  obtain ⟨h1, h2⟩ := h
  obtain ⟨⟨c1, c2, c3⟩, c4, c5, c6⟩ := hc
  have := wT.2.1.1
  refine ⟨⟨⟨c1.trans h1.1.1, c2.trans h1.1.2⟩, fun j hj => ?_, fun m hm => ?_⟩, c3.trans h2.1, fun i hi => (c6 i (by omega)).trans (h2.2 i hi)⟩
  · have b := wL.h hj
    exact ⟨(c4 j b.1).1.trans (h1.2.1 j hj).1, (c4 j b.1).2.trans (h1.2.1 j hj).2⟩
  · have b := wL.m hm
    exact ⟨(c5 m b.1).1.trans (h1.2.2 m hm).1, (c5 m b.1).2.trans (h1.2.2 m hm).2⟩
theorem RTm.cp {I' : MI} {x y : Nat} (wL : WLd L) (wT : WT L T) (h : RTm I x L T) (hc : ∀ j, j < 100 → I' 123 (y + j) = I 123 (x + j)) : RTm I' y L T := by
  obtain ⟨h1, h2⟩ := h
  have := wT.2.1.1
  have hz := hc 0 (by omega)
  refine ⟨⟨⟨(hc 14 (by omega)).trans h1.1.1, (hc 15 (by omega)).trans h1.1.2⟩, fun j hj => ?_, fun m hm => ?_⟩, (hc 16 (by omega)).trans h2.1, fun i hi j hj => ?_⟩
  · have b := wL.h hj
    have e := hc (4 + j) (by omega)
    rw [← Nat.add_assoc, ← Nat.add_assoc] at e
    exact ⟨(hc j (by omega)).trans (h1.2.1 j hj).1, e.trans (h1.2.1 j hj).2⟩
  · have b := wL.m hm
    have e := hc (8 + m) (by omega)
    have e2 := hc (11 + m) (by omega)
    rw [← Nat.add_assoc, ← Nat.add_assoc] at e e2
    exact ⟨e.trans (h1.2.2 m hm).1, e2.trans (h1.2.2 m hm).2⟩
  · have b := wL.h hj
    have e := hc (20 + 4 * i + j) (by omega)
    rw [← Nat.add_assoc, ← Nat.add_assoc, ← Nat.add_assoc, ← Nat.add_assoc] at e
    exact e.trans (h2.2 i hi j hj)
end OPC
