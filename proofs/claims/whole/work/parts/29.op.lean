/-! ===== keep, back, undo ===== -/
section OPD
variable {d : Nat} {I : MI} {G : MG} {J : MJ} {Φ : Ph} {a : Nat} {L : Ld} {T : Tm}
theorem WG34_ : ∀ q ∈ refT, q.1 ≠ 34 := by decide +kernel
theorem WG.up34 {G' : MG} (h : WG G) (hf : ∀ c, c ≠ 34 → G' c = G c) : WG G' := fun q hq => by rw [hf _ (WG34_ q hq)]; exact h q hq
theorem SR.up2 {I' : MI} {G' : MG} {T' : Tm} (S : SR I G J a L T) (hG : ∀ c, c ≠ 34 → G' c = G c) (h1 : ∀ x, ¬ (x = 0 ∨ x = 36 ∨ (22 ≤ x ∧ x < 34) ∨ (50 ≤ x ∧ x < 125)) → I' x = I x) (h2 : I' 0 1 = I 0 1 ∧ I' 0 13 = I 0 13) (h3 : ∀ k, k ≠ 28 → I' 122 k = I 122 k) (sP : SP I' L T') (sB : SB I' G' L) (sK : SK I' L) : Kp I G I' G' ∧ ∃ a L T, SR I' G' J a L T := by
  obtain ⟨s1, s2, s3, s4, s5, s6, s7, s8⟩ := S
  have s1' : SL I' G a L := s1.cg (fun x q1 q2 => h1 x (by omega)) (fun k q1 q2 => h3 k (by omega)) (fun x q1 q2 => h1 x (by omega))
  have s8' : SU I' G := s8.cg (fun x hx => h1 x (by omega))
  refine ⟨⟨h1 1000 (by omega), ?_⟩, a, L, T', ?_, sP, sB, sK, ?_, ?_, s7, ?_⟩
  · unfold oul; rw [hG 1000 (by omega)]
  · obtain ⟨g1, g2, g3, g4, g5, g6, g7⟩ := s1'
    exact ⟨g1.up34 hG, g2, by rw [hG 0 (by omega)]; exact g3, by rw [hG 0 (by omega)]; exact g4, g5, g6, g7⟩
  · exact s5.cg h2.2 (h3 31 (by omega)) (h1 37 (by omega)) (h1 38 (by omega)) (h1 134 (by omega)) (h1 135 (by omega))
  · exact s6.cg h2.1 (h3 22 (by omega)) (h1 1 (by omega)) (h1 133 (by omega))
  · unfold SU oul; rw [hG 1001 (by omega), hG 1002 (by omega), hG 1003 (by omega), hG 1004 (by omega)]
    exact s8'
theorem img_ : ∀ b, b < 2 → 110 + 6 * b ∈ momL := by decide +kernel
theorem i200 (b : Nat) : (200 : Int32) + ((100 : Int32) * nI b) = nI (200 + 100 * b) := by
  rw [show (200 : Int32) = nI 200 from rfl, show (100 : Int32) = nI 100 from rfl, pk_mul, nI_add]
theorem p_keep (S : SR I G J a L T) (x : Int32) : Ev (d + 2) mX4_keep 136 0 [some (.ref 0), some (.int x)] [] 136 I G J (P2 I G (d + 2) mX5_keep [some (.ref 122), some (.int x)]) := by
  have wL := S.w
  have k0 : ¬ (0 ≤ x ∧ x ≤ 1) → P2 I G (d + 2) mX5_keep [some (.ref 122), some (.int x)] (some (.int (-1))) 136 I G J := fun h => by
    refine S.same (w_X5_keep S.1.1 x (m_in S.1.1 _ _ _ ⟨_, rfl, rfl, rfl, rfl, rfl, ?_⟩))
    rw [if01, show (¬ x.toInt64 < (0 : Int64) ∧ ¬ (1 : Int64) < x.toInt64) = (0 ≤ x ∧ x ≤ 1) from in_ab x 0 1]
    exact ⟨fun z => absurd (Decidable.not_not.mp z) h, fun _ => ⟨rfl, rfl, rfl, rfl, rfl⟩⟩
  refine w_X4_keep S.1.1 x ⟨fun q => k0 (fun z => Int32.not_lt.mpr z.1 q), fun q => ⟨fun q2 => ?_, fun q2 => k0 (fun z => q2 (Int32.lt_of_le_of_lt z.2 (by decide)))⟩⟩
  obtain ⟨b, hb, e⟩ := hill_of (n := 2) (by omega) ⟨Int32.not_lt.mp q, q2⟩
  have hc : 0 ≤ x ∧ x ≤ 1 := ⟨Int32.not_lt.mp q, by rw [e]; exact nI_le (a := b) (b := 1) (by omega) (by omega)⟩
  subst e
  refine ⟨vp_in_nI hb (by decide), ?_⟩
  rw [nI_clamp (n := b) (by omega)]
  refine s_copyFrom S.1.1 (img_ b hb) isM_22_ (by omega) (fun I1 f1 c1 => ⟨rfl, rfl, rfl, rfl, vp_in_nI hb (by decide), rfl, ⟨_, rfl⟩, ?_⟩)
  refine w_X5_keep S.1.1 _ (m_in S.1.1 _ _ _ ⟨_, rfl, rfl, rfl, rfl, rfl, ?_⟩)
  rw [if01, show (¬ (nI b).toInt64 < (0 : Int64) ∧ ¬ (1 : Int64) < (nI b).toInt64) = (0 ≤ nI b ∧ nI b ≤ 1) from in_ab (nI b) 0 1, i200, nI_clamp (n := b) (by omega)]
  refine ⟨fun _ => ?_, fun z => absurd hc z⟩
  refine m_copy (x := 0) S.1.1 (by omega) (by omega) (by omega) (fun I2 f2 c2 => ⟨rfl, rfl, rfl, rfl, vp_in_nI hb (by decide), rfl, ?_, ?_⟩)
  · rw [f2.2 14 (by omega), u2_row _ _ _ (by omega), f1 123 (by omega), f1 22 (by omega)]
    exact congrArg (fun v => some (Value.int v)) (S.2.1.2.2.1.1.1.trans S.2.1.2.1.1.1.1.symm)
  · have hr : ∀ y, ¬ (y = 36 ∨ (110 + 6 * b ≤ y ∧ y < 116 + 6 * b) ∨ y = 123 ∨ y = 124) → (u2 I2 124 b (1 : Int32)) y = I y := fun y hy => by
      rw [u2_row _ _ _ (by omega), f2.1 y (by omega), u2_row _ _ _ (by omega), f1 y (by omega)]
    have hk : ∀ k, ¬ (200 + 100 * b ≤ k ∧ k < 300 + 100 * b) → (u2 I2 124 b (1 : Int32)) 123 k = I 123 k := fun k hk => by
      rw [u2_row _ _ _ (by omega), f2.2 k (by omega), u2_row _ _ _ (by omega), f1 123 (by omega)]
    refine S.up2 (T' := T) (fun _ _ => rfl) (fun y hy => hr y (by omega)) ⟨by rw [hr 0 (by omega)], by rw [hr 0 (by omega)]⟩ (fun k _ => by rw [hr 122 (by omega)]) (S.2.1.cg wL (fun y h1 h2 => hr y (by omega)) (fun k hk' => hk k (by omega))) (S.2.2.1.cg wL (by rw [hr 0 (by omega)]) (by rw [hr 122 (by omega)]) (fun y h1 h2 => hr y (by omega)) (fun k h1 h2 => hk k (by omega))) ?_
    intro b' hb'
    by_cases eb : b' = b
    · subst eb
      refine Or.inr ⟨?_, u2_at _ _ _ _, T, S.2.1.1, ?_, ?_⟩
      · rw [u2_row _ _ _ (by omega), f2.1 36 (by omega), u2_at]
      · exact (S.2.1.2.1.cp wL S.2.1.1 c1).cg (fun y h1 h2 => by rw [u2_row _ _ _ (by omega), f2.1 y (by omega), u2_row _ _ _ (by omega)])
      · refine S.2.1.2.2.cp wL S.2.1.1 (fun j hj => ?_)
        rw [u2_row _ _ _ (by omega), c2 j hj, u2_row _ _ _ (by omega), f1 123 (by omega)]
    · have e36 : (u2 I2 124 b (1 : Int32)) 36 b' = I 36 b' := by rw [u2_row _ _ _ (by omega), f2.1 36 (by omega), u2_ne _ _ (by omega), f1 36 (by omega)]
      have e124 : (u2 I2 124 b (1 : Int32)) 124 b' = I 124 b' := by rw [u2_ne _ _ (by omega), f2.1 124 (by omega), u2_row _ _ _ (by omega), f1 124 (by omega)]
      rw [e36, e124]
      rcases S.2.2.2.1 b' hb' with q | ⟨q1, q2, T1, w, q3, q4⟩
      · exact Or.inl q
      · exact Or.inr ⟨q1, q2, T1, w, q3.cg (fun y p1 p2 => hr y (by omega)), q4.cg wL w (fun k p1 p2 => hk k (by omega))⟩
end OPD
