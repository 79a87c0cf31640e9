/-! ===== saw, type ===== -/
theorem RLm.congr2 {I I' : MI} {L : Ld} (h : RLm I L) (hf : ∀ y, 122 ≤ y → I' y = I y) : RLm I' L := by
  unfold RLm
  rw [hf 122 (by decide), hf 125 (by decide), hf 126 (by decide), hf 127 (by decide), hf 128 (by decide), hf 129 (by decide), hf 130 (by decide), hf 131 (by decide), hf 132 (by decide)]
  exact h
section OPB
variable {d : Nat} {I : MI} {G : MG} {J : MJ} {Φ : Ph} {a : Nat} {L : Ld} {T : Tm}
theorem in_ab (v lo hi : Int32) : (¬ v.toInt64 < lo.toInt64 ∧ ¬ hi.toInt64 < v.toInt64) = (lo ≤ v ∧ v ≤ hi) := by
  rw [wide_lt, wide_lt, Int32.not_lt, Int32.not_lt]
theorem m_saw (X : Ml I G L) {ns : Nat} (hn : I 122 31 = nI ns) (hs : ns ≤ 6) (x1 x2 : Int32) (k0 : ¬ ((0 ≤ x1 ∧ x1 < nI (L 0 0)) ∧ 0 ≤ x2 ∧ x2 ≤ 9) → Φ (some (.int (-1))) 136 I G J) (k1 : ((0 ≤ x1 ∧ x1 < nI (L 0 0)) ∧ 0 ≤ x2 ∧ x2 ≤ 9) → ns = 6 → Φ (some (.int (-3))) 136 I G J) (k2 : ((0 ≤ x1 ∧ x1 < nI (L 0 0)) ∧ 0 ≤ x2 ∧ x2 ≤ 9) → ns < 6 → Φ (some (.int (nI (ns + 1)))) 136 (u2 (u2 (u2 I 134 ns x1) 135 ns x2) 122 31 (nI (ns + 1))) G J) : Ev (d + 2) mX5_saw 136 0 [some (.ref 122), some (.int x1), some (.int x2)] [] 136 I G J Φ := by
  refine w_X5_saw X.1 x1 x2 (m_isHill X x1 ⟨_, rfl, rfl, rfl, rfl, rfl, ?_⟩)
  rw [if01]
  refine ⟨fun p => k0 (fun z => p z.1), fun p => m_in X.1 _ _ _ ⟨_, rfl, rfl, rfl, rfl, rfl, ?_⟩⟩
  rw [if01, show (¬ x2.toInt64 < (0 : Int64) ∧ ¬ (9 : Int64) < x2.toInt64) = (0 ≤ x2 ∧ x2 ≤ 9) from in_ab x2 0 9, hn, nI_clamp (n := ns) (by omega), show (6 : Int32) = nI 6 from rfl, show nI ns + (1 : Int32) = nI (ns + 1) from nI_1 _, nI_eq (by omega) (by omega)]
  have hp := Decidable.not_not.mp p
  refine ⟨fun q => ?_, fun q => k0 (fun z => q z.2)⟩
  have hq := Decidable.not_not.mp q
  exact ⟨fun z => ⟨vp_in_nI (by omega) (by decide), vp_in_nI (by omega) (by decide), k2 ⟨hp, hq⟩ (by omega)⟩, fun z => k1 ⟨hp, hq⟩ z⟩
theorem p_saw (S : SR I G J a L T) (x1 x2 : Int32) : Ev (d + 1) mX4_saw 136 0 [some (.ref 0), some (.int x1), some (.int x2)] [] 136 I G J (P2 I G (d + 2) mX5_saw [some (.ref 122), some (.int x1), some (.int x2)]) := by
  have wL := S.w
  obtain ⟨ns, s1, s2, s3, s4⟩ := S.2.2.2.2.1
  have k0 : ¬ ((0 ≤ x1 ∧ x1 < nI (L 0 0)) ∧ 0 ≤ x2 ∧ x2 ≤ 9) → P2 I G (d + 2) mX5_saw [some (.ref 122), some (.int x1), some (.int x2)] (some (.int (-1))) 136 I G J := fun h =>
    S.same (m_saw S.ml s3 s1 x1 x2 (fun _ => ⟨rfl, rfl, rfl, rfl, rfl⟩) (fun z => absurd z h) (fun z => absurd z h))
  refine w_X4_saw S.1.1 S.1.2.1 S.1.2.2.1 x1 x2 (s_hasHill S.cl x1 ⟨_, rfl, rfl, rfl, rfl, rfl, ?_⟩)
  rw [if01, s2, nI_clamp (n := ns) (by omega), show (6 : Int32) = nI 6 from rfl, show nI ns + (1 : Int32) = nI (ns + 1) from nI_1 _, nI_ltI (by omega) (by omega)]
  refine ⟨fun p => k0 (fun z => p z.1), fun p => ⟨fun q => k0 (fun z => Int32.not_lt.mpr z.2.1 q), fun q => ⟨fun q2 => ?_, fun q2 => k0 (fun z => q2 z.2.2)⟩⟩⟩
  have hp := Decidable.not_not.mp p
  have hc : (0 ≤ x1 ∧ x1 < nI (L 0 0)) ∧ 0 ≤ x2 ∧ x2 ≤ 9 := ⟨hp, Int32.not_lt.mp q, q2⟩
  obtain ⟨h, hh, e⟩ := hill_of (by have := wL.1; omega) hp
  obtain ⟨t, ht, e2⟩ := nI_of2 (n := 9) (M := 9) rfl q q2
  refine ⟨fun z => ⟨vp_in_nI (by omega) (by decide), vp_in_nI (by omega) (by decide), rfl, ⟨_, rfl⟩, ?_⟩, fun z => ?_⟩
  · have X' : Ml (u2 (u2 (u2 I 37 ns x1) 38 ns x2) 0 13 (nI (ns + 1))) G L := ⟨S.1.1, S.ml.2.1.congr2 (fun x hx => by rw [u2_row _ _ _ (by omega), u2_row _ _ _ (by omega), u2_row _ _ _ (by omega)]), wL⟩
    refine m_saw X' (ns := ns) (by rw [u2_row _ _ _ (by omega), u2_row _ _ _ (by omega), u2_row _ _ _ (by omega)]; exact s3) s1 x1 x2 (fun y => absurd hc y) (fun _ y => absurd y (by omega)) (fun _ _ => ⟨rfl, rfl, ?_⟩)
    refine S.upx (fun x q => ?_) ?_ (fun k q => ?_) ⟨ns + 1, by omega, ?_, ?_, fun i hi => ?_⟩ (S.2.2.2.2.2.1.cg ?_ ?_ ?_ ?_)
    · simp (disch := omega) only [u2_row]
    · simp (disch := omega) only [u2_row, u2_ne]
    · simp (disch := omega) only [u2_row, u2_ne]
    · simp (disch := omega) only [u2_row, u2_at]
    · rw [u2_at]
    · by_cases ei : i = ns
      · subst ei
        refine ⟨h, t, hh, ht, ?_, ?_, ?_, ?_⟩ <;> simp (disch := omega) only [u2_row, u2_at, e, e2]
      · obtain ⟨h', t', r⟩ := s4 i (by omega)
        refine ⟨h', t', r.1, r.2.1, ?_⟩
        simp (disch := omega) only [u2_row, u2_ne]
        exact r.2.2
    · simp (disch := omega) only [u2_row, u2_ne]
    · simp (disch := omega) only [u2_row, u2_ne]
    · simp (disch := omega) only [u2_row]
    · simp (disch := omega) only [u2_row]
  · exact S.same (m_saw S.ml s3 s1 x1 x2 (fun y => absurd hc y) (fun _ _ => ⟨rfl, rfl, rfl, rfl, rfl⟩) (fun _ y => absurd y (by omega)))
end OPB
