/-! ===== back, undo ===== -/
section OPE
variable {d : Nat} {I : MI} {G : MG} {J : MJ} {Φ : Ph} {a : Nat} {L : Ld} {T : Tm}
theorem p_back (S : SR I G J a L T) (x : Int32) : Ev (d + 2) mX4_back 136 0 [some (.ref 0), some (.int x)] [] 136 I G J (P2 I G (d + 2) mX5_back [some (.ref 122), some (.int x)]) := by
  have wL := S.w
  have k0 : ¬ (0 ≤ x ∧ x ≤ 1) → P2 I G (d + 2) mX5_back [some (.ref 122), some (.int x)] (some (.int (-1))) 136 I G J := fun h => by
    refine S.same (w_X5_back S.1.1 x (m_in S.1.1 _ _ _ ⟨_, rfl, rfl, rfl, rfl, rfl, ?_⟩))
    rw [if01, show (¬ x.toInt64 < (0 : Int64) ∧ ¬ (1 : Int64) < x.toInt64) = (0 ≤ x ∧ x ≤ 1) from in_ab x 0 1]
    exact ⟨fun z => absurd (Decidable.not_not.mp z) h, fun _ => ⟨rfl, rfl, rfl, rfl, rfl⟩⟩
  refine w_X4_back S.1.1 x ⟨fun q => k0 (fun z => Int32.not_lt.mpr z.1 q), fun q => ⟨fun q2 => ?_, fun q2 => k0 (fun z => q2 (Int32.lt_of_le_of_lt z.2 (by decide)))⟩⟩
  obtain ⟨b, hb, e⟩ := hill_of (n := 2) (by omega) ⟨Int32.not_lt.mp q, q2⟩
  have hc : 0 ≤ x ∧ x ≤ 1 := ⟨Int32.not_lt.mp q, by rw [e]; exact nI_le (a := b) (b := 1) (by omega) (by omega)⟩
  subst e
  refine ⟨vp_in_nI hb (by decide), ?_⟩
  rw [nI_clamp (n := b) (by omega)]
  rcases S.2.2.2.1 b hb with q | ⟨q1, q2, T1, w, q3, q4⟩
  · rw [q.1]
    refine ⟨fun z => absurd rfl z, fun _ => S.same (w_X5_back S.1.1 _ (m_in S.1.1 _ _ _ ⟨_, rfl, rfl, rfl, rfl, rfl, ?_⟩))⟩
    rw [if01, show (¬ (nI b).toInt64 < (0 : Int64) ∧ ¬ (1 : Int64) < (nI b).toInt64) = (0 ≤ nI b ∧ nI b ≤ 1) from in_ab (nI b) 0 1, nI_clamp (n := b) (by omega), q.2]
    exact ⟨fun _ => ⟨vp_in_nI hb (by decide), fun z => absurd rfl z, fun _ => ⟨rfl, rfl, rfl, rfl, rfl⟩⟩, fun z => absurd hc z⟩
  · rw [q1]
    refine ⟨fun _ => ⟨vp_in_nI hb (by decide), ?_⟩, fun z => absurd z (by decide)⟩
    refine s_copyFrom S.1.1 isM_22_ (img_ b hb) (by omega) (fun I1 f1 c1 => ⟨rfl, rfl, rfl, rfl, rfl, ⟨_, rfl⟩, ?_⟩)
    refine w_X5_back S.1.1 _ (m_in S.1.1 _ _ _ ⟨_, rfl, rfl, rfl, rfl, rfl, ?_⟩)
    rw [if01, show (¬ (nI b).toInt64 < (0 : Int64) ∧ ¬ (1 : Int64) < (nI b).toInt64) = (0 ≤ nI b ∧ nI b ≤ 1) from in_ab (nI b) 0 1, i200, nI_clamp (n := b) (by omega), u2_row _ _ _ (by omega), f1 124 (by omega), q2]
    refine ⟨fun _ => ⟨vp_in_nI hb (by decide), fun _ => ?_, fun z => absurd z (by decide)⟩, fun z => absurd hc z⟩
    refine m_copy (y := 0) S.1.1 (by omega) (by omega) (by omega) (fun I2 f2 c2 => ⟨rfl, rfl, rfl, rfl, rfl, ?_, ?_⟩)
    · have e2 := c2 14 (by omega)
      rw [Nat.zero_add] at e2
      rw [e2, u2_row _ _ _ (by omega), f1 123 (by omega), c1.1.1]
      exact congrArg (fun v => some (Value.int v)) (q4.1.1.1.trans q3.1.1.1.symm)
    · have hr : ∀ y, ¬ (y = 0 ∨ (22 ≤ y ∧ y < 28) ∨ y = 122 ∨ y = 123) → (u2 I2 122 28 (0 : Int32)) y = I y := fun y hy => by
        rw [u2_row _ _ _ (by omega), f2.1 y (by omega), u2_row _ _ _ (by omega), f1 y (by omega)]
      have h0 : ∀ k, k ≠ 8 → (u2 I2 122 28 (0 : Int32)) 0 k = I 0 k := fun k hk => by
        rw [u2_row _ _ _ (by omega), f2.1 0 (by omega), u2_ne _ _ (by omega), f1 0 (by omega)]
      have h122 : ∀ k, k ≠ 28 → (u2 I2 122 28 (0 : Int32)) 122 k = I 122 k := fun k hk => by
        rw [u2_ne _ _ (by omega), f2.1 122 (by omega), u2_row _ _ _ (by omega), f1 122 (by omega)]
      have hk : ∀ k, 100 ≤ k → (u2 I2 122 28 (0 : Int32)) 123 k = I 123 k := fun k hk => by
        rw [u2_row _ _ _ (by omega), f2.2 k (by omega), u2_row _ _ _ (by omega), f1 123 (by omega)]
      obtain ⟨np, P, pq, n1, n2, n3, n4, n5, n6⟩ := S.2.2.1
      refine S.up2 (T' := T1) (fun _ _ => rfl) (fun y hy => hr y (by omega)) ⟨h0 1 (by omega), h0 13 (by omega)⟩ h122 ⟨w, ?_, ?_⟩ ⟨0, P, pq, by omega, ?_, u2_at _ _ _ _, n4, n5, fun j hj => absurd hj (by omega)⟩ (S.2.2.2.1.cg wL (hr 36 (by omega)) (hr 124 (by omega)) (fun y h1 h2 => hr y (by omega)) (fun k h1 h2 => hk k (by omega)))
      · exact (q3.cp wL w c1).cg (fun y h1 h2 => by rw [u2_row _ _ _ (by omega), f2.1 y (by omega), u2_row _ _ _ (by omega)])
      · refine q4.cp wL w (fun j hj => ?_)
        rw [u2_row _ _ _ (by omega), c2 j hj, u2_row _ _ _ (by omega), f1 123 (by omega)]
      · rw [u2_row _ _ _ (by omega), f2.1 0 (by omega), u2_at]; rfl
theorem i400 (b : Nat) : (400 : Int32) + ((100 : Int32) * nI b) = nI (400 + 100 * b) := by
  rw [show (400 : Int32) = nI 400 from rfl, show (100 : Int32) = nI 100 from rfl, pk_mul, nI_add]
theorem p_undo (S : SR I G J a L T) : Ev (d + 2) mX4_undo 136 0 [some (.ref 0)] [] 136 I G J (P2 I G (d + 2) mX5_undo [some (.ref 122)]) := by
  have wL := S.w
  obtain ⟨np, P, pq, n1, n2, n3, n4, n5, n6⟩ := S.2.2.1
  refine w_X4_undo S.1.1 (pq := pq) (fun j hj => ⟨(pst_is _ (n4 j hj).2).1, (n4 j hj).1⟩) ?_
  rw [n2]
  by_cases e : np = 0
  · subst e
    refine ⟨fun z => absurd z (by decide), fun _ => S.same (w_X5_undo S.1.1 ?_)⟩
    rw [n3]
    exact ⟨fun z => absurd rfl z, fun _ => ⟨rfl, rfl, rfl, rfl, rfl⟩⟩
  · obtain ⟨m, rfl⟩ : ∃ m, np = m + 1 := ⟨np - 1, by omega⟩
    rw [show nI (m + 1) - (1 : Int32) = nI m from nI_pred m, nI_clamp (n := m) (by omega)]
    have hpm := pst_is _ (n4 m (by omega)).2
    obtain ⟨w, q3, q4⟩ := n6 m (by omega)
    refine ⟨fun _ => ⟨vp_in_nI (by omega) (by decide), ?_⟩, fun z => absurd (nI_lt (a := 0) (b := m + 1) (by omega) (by omega)) z⟩
    refine s_copyFrom S.1.1 isM_22_ hpm.1 (by omega) (fun I1 f1 c1 => ⟨rfl, rfl, rfl, rfl, rfl, ⟨_, rfl⟩, ?_⟩)
    have e28 : I1 122 28 = nI (m + 1) := by rw [f1 122 (by omega), u2_row _ _ _ (by omega), n3]
    refine w_X5_undo S.1.1 ?_
    rw [e28, show nI (m + 1) - (1 : Int32) = nI m from nI_pred m, i400]
    refine ⟨fun _ => ?_, fun z => absurd z (nI_ne0 (by omega) (by omega))⟩
    refine m_copy (y := 0) S.1.1 (by omega) (by omega) (by omega) (fun I2 f2 c2 => ⟨rfl, rfl, rfl, rfl, rfl, ?_, ?_⟩)
    · rw [f2.1 122 (by omega), u2_at, f1 0 (by omega), u2_at]
    · have hr : ∀ y, ¬ (y = 0 ∨ (22 ≤ y ∧ y < 28) ∨ y = 122 ∨ y = 123) → I2 y = I y := fun y hy => by
        rw [f2.1 y (by omega), u2_row _ _ _ (by omega), f1 y (by omega), u2_row _ _ _ (by omega)]
      have h0 : ∀ k, k ≠ 8 → I2 0 k = I 0 k := fun k hk => by
        rw [f2.1 0 (by omega), u2_row _ _ _ (by omega), f1 0 (by omega), u2_ne _ _ (by omega)]
      have h122 : ∀ k, k ≠ 28 → I2 122 k = I 122 k := fun k hk => by
        rw [f2.1 122 (by omega), u2_ne _ _ (by omega), f1 122 (by omega), u2_row _ _ _ (by omega)]
      have hk : ∀ k, 100 ≤ k → I2 123 k = I 123 k := fun k hk => by
        rw [f2.2 k (by omega), u2_row _ _ _ (by omega), f1 123 (by omega), u2_row _ _ _ (by omega)]
      refine S.up2 (T' := P m) (fun _ _ => rfl) (fun y hy => hr y (by omega)) ⟨h0 1 (by omega), h0 13 (by omega)⟩ h122 ⟨w, ?_, ?_⟩ ⟨m, P, pq, by omega, ?_, ?_, n4, n5, fun j hj => ?_⟩ (S.2.2.2.1.cg wL (hr 36 (by omega)) (hr 124 (by omega)) (fun y h1 h2 => hr y (by omega)) (fun k h1 h2 => hk k (by omega)))
      · have q3' : RTc (u2 I 0 8 (nI m)) (pq m) L (P m) := q3.cg (fun y h1 h2 => by rw [u2_row _ _ _ (by omega)])
        exact (q3'.cp wL w c1).cg (fun y h1 h2 => by rw [f2.1 y (by omega), u2_row _ _ _ (by omega)])
      · refine q4.cp wL w (fun j hj => ?_)
        rw [c2 j hj, u2_row _ _ _ (by omega), f1 123 (by omega), u2_row _ _ _ (by omega)]
      · rw [f2.1 0 (by omega), u2_row _ _ _ (by omega), f1 0 (by omega), u2_at]
      · rw [f2.1 122 (by omega), u2_at]
      · have hpj := pst_is _ (n4 j (by omega)).2
        obtain ⟨w', q3', q4'⟩ := n6 j (by omega)
        exact ⟨w', q3'.cg (fun y h1 h2 => hr y (by omega)), q4'.cg wL w' (fun k h1 h2 => hk k (by omega))⟩
end OPE
