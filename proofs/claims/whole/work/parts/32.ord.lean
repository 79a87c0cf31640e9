/-! ===== order ===== -/
section ORD
variable {d : Nat} {I : MI} {G : MG} {J : MJ} {Φ : Ph} {a : Nat} {L : Ld} {T : Tm}
def okO (L : Ld) (x1 x2 : Int32) : Prop := (0 ≤ x1 ∧ x1 < nI (L 0 2)) ∧ (x2 = -9 ∨ (0 ≤ x2 ∧ x2 < nI (L 0 0)))
theorem m_order (X : Ml I G L) (x1 x2 : Int32) (k0 : ¬ okO L x1 x2 → Φ (some (.int (-1))) 136 I G J) (k1 : okO L x1 x2 → Ev (d + 1) mX5_remember 136 0 [some (.ref 122), none] [] 136 I G J (fun r n I4 G4 J4 => r = none ∧ n = 136 ∧ G = G4 ∧ J = J4 ∧ (vp_in ((11 : Int32) + x1) 1400 ∧ (vp_in ((11 : Int32) + x1) 1400 ∧ (Φ (some (.int (I4 123 ((11 : Int32) + x1).toNatClampNeg))) 136 (u2 I4 123 ((11 : Int32) + x1).toNatClampNeg x2) G J))))) : Ev (d + 2) mX5_order 136 0 [some (.ref 122), some (.int x1), some (.int x2), none] [] 136 I G J Φ := by
  refine w_X5_order X.1 x1 x2 (m_isMan X x1 ⟨_, rfl, rfl, rfl, rfl, rfl, ?_⟩)
  rw [if01]
  refine ⟨fun p => k0 (fun z => p z.1), fun p => ⟨fun q => k1 ⟨Decidable.not_not.mp p, Or.inl q⟩, fun q => m_isHill X x2 ⟨_, rfl, rfl, rfl, rfl, rfl, ?_⟩⟩⟩
  rw [if01]
  exact ⟨fun z => k1 ⟨Decidable.not_not.mp p, Or.inr (Decidable.not_not.mp z)⟩, fun z => k0 (fun y => y.2.elim q z)⟩
theorem ord_w {m o : Nat} (w : WT L T) (ho : o ≤ L 0 0) : WT L (u2 T.1 4 m o, T.2) := by
  obtain ⟨⟨w1, w2, w3, w4⟩, w5, w6, w7, w8⟩ := w
  refine ⟨⟨?_, ?_, fun h hh => ?_, fun i hi => ?_⟩, w5, ?_, ?_, fun h hh => ?_⟩
  · show u2 T.1 4 m o 0 0 ≤ _; rw [u2_row _ _ _ (by omega)]; exact w1
  · show u2 T.1 4 m o 0 1 ≤ _; rw [u2_row _ _ _ (by omega)]; exact w2
  · show u2 T.1 4 m o 1 h ≤ _ ∧ u2 T.1 4 m o 2 h ≤ _; rw [u2_row _ _ _ (by omega), u2_row _ _ _ (by omega)]; exact w3 h hh
  · show u2 T.1 4 m o 3 i ≤ _ ∧ u2 T.1 4 m o 4 i ≤ _
    rw [u2_row _ _ _ (by omega)]
    refine ⟨(w4 i hi).1, ?_⟩
    by_cases e : i = m
    · rw [e, u2_at]; exact ho
    · rw [u2_ne _ _ (by omega)]; exact (w4 i hi).2
  · show u2 T.1 4 m o 0 1 < _; rw [u2_row _ _ _ (by omega)]; exact w6
  · show u2 T.1 4 m o 0 0 ≤ _; rw [u2_row _ _ _ (by omega)]; exact w7
  · show u2 T.1 4 m o 2 h ≤ 9 * u2 T.1 4 m o 0 0; rw [u2_row _ _ _ (by omega), u2_row _ _ _ (by omega)]; exact w8 h hh
theorem p_order (S : SR I G J a L T) (x1 x2 : Int32) : Ev (d + 3) mX4_order 136 0 [some (.ref 0), some (.int x1), some (.int x2), none] [] 136 I G J (P2 I G (d + 2) mX5_order [some (.ref 122), some (.int x1), some (.int x2), none]) := by
  have wL := S.w
  have k0 : ¬ okO L x1 x2 → P2 I G (d + 2) mX5_order [some (.ref 122), some (.int x1), some (.int x2), none] (some (.int (-1))) 136 I G J := fun h =>
    S.same (m_order S.ml x1 x2 (fun _ => ⟨rfl, rfl, rfl, rfl, rfl⟩) (fun z => absurd z h))
  have k1 : okO L x1 x2 → Ev (d + 2) mX4_remember 136 0 [some (.ref 0), none, none] [] 136 I G J (fun r n I4 G4 J4 => r = none ∧ n = 136 ∧ J = J4 ∧ WG G4 ∧ (G4 0 3 = G 0 3 ∧ G4 0 4 = G 0 4) ∧ (vp_in x1 3 ∧ (vp_in x1 3 ∧ ((P2 I G (d + 2) mX5_order [some (.ref 122), some (.int x1), some (.int x2), none]) (some (.int (I4 (22 + 4) (x1).toNatClampNeg))) 136 (u2 I4 (22 + 4) (x1).toNatClampNeg x2) G4 J)))) := by
    intro ok
    obtain ⟨m, hm, e⟩ := hill_of (by have := wL.2.2.1; omega) ok.1
    have bm := wL.m hm
    obtain ⟨o, ho, e2⟩ : ∃ o, o ≤ L 0 0 ∧ x2 = oV o := by
      rcases ok.2 with h | h
      · exact ⟨0, by omega, h⟩
      · obtain ⟨j, hj, ej⟩ := hill_of (by have := wL.1; omega) h
        exact ⟨j + 1, hj, by rw [ej]; rfl⟩
    subst e e2
    obtain ⟨np, P, hBC, hBM, hw⟩ := S.2.2.1.two
    refine s_remember wL S.1.1 S.2.1.1 S.2.1.2.1 hBC (fun I1 G1 g f f0 B1 => ?_)
    have hG1 := S.1.1.up34 g
    refine ⟨rfl, rfl, rfl, hG1, ⟨by rw [g 0 (by omega)], by rw [g 0 (by omega)]⟩, vp_in_nI (by omega) (by decide), vp_in_nI (by omega) (by decide), rfl, ⟨_, rfl⟩, ?_⟩
    rw [nI_clamp (n := m) (by omega)]
    have X' : Ml (u2 I1 (22 + 4) m (oV o)) G1 L := ⟨hG1, S.ml.2.1.congr2 (fun y hy => by rw [u2_row _ _ _ (by omega), f y (by omega)]), wL⟩
    refine m_order X' _ _ (fun z => absurd ok z) (fun _ => ?_)
    have e11 : (11 : Int32) + nI m = nI (11 + m) := nI_add 11 m
    rw [e11, nI_clamp (n := 11 + m) (by omega)]
    have i2 : ∀ y, 122 ≤ y → (u2 I1 (22 + 4) m (oV o)) y = I y := fun y hy => by rw [u2_row _ _ _ (by omega), f y (by omega)]
    refine m_remember wL hG1 S.2.1.1 (S.2.1.2.2.cg wL S.2.1.1 (fun k _ _ => by rw [i2 123 (by omega)])) hBC.1 hw (hBM.cg wL hBC.1 hw (by rw [i2 122 (by omega)]) (fun k _ _ => by rw [i2 123 (by omega)])) (fun I3 h1 h2 h3 B2 => ⟨rfl, rfl, rfl, rfl, vp_in_nI (by omega) (by decide), vp_in_nI (by omega) (by decide), rfl, ?_, ?_⟩)
    · rw [h3 _ (by omega), i2 123 (by omega), f (22 + 4) (by omega)]
      have r1 := (S.2.1.2.2.1.2.2 m hm).2
      have r2 := (S.2.1.2.1.1.2.2 m hm).2
      rw [Nat.zero_add] at r1
      exact congrArg (fun v => some (Value.int v)) (r1.trans r2.symm)
    · have hr : ∀ y, ¬ (y = 0 ∨ y = 26 ∨ (50 ≤ y ∧ y < 110) ∨ y = 122 ∨ y = 123) → (u2 I3 123 (11 + m) (oV o)) y = I y := fun y hy => by
        rw [u2_row _ _ _ (by omega), h1 y (by omega), u2_row _ _ _ (by omega), f y (by omega)]
      have hr0 : ∀ k, k ≠ 8 → (u2 I3 123 (11 + m) (oV o)) 0 k = I 0 k := fun k hk => by
        rw [u2_row _ _ _ (by omega), h1 0 (by omega), u2_row _ _ _ (by omega), f0 k hk]
      have hr122 : ∀ k, k ≠ 28 → (u2 I3 123 (11 + m) (oV o)) 122 k = I 122 k := fun k hk => by
        rw [u2_row _ _ _ (by omega), h2 k hk, i2 122 (by omega)]
      have hr123 : ∀ k, k ≠ 11 + m → k < 400 → (u2 I3 123 (11 + m) (oV o)) 123 k = I 123 k := fun k hk hk2 => by
        rw [u2_ne _ _ (by omega), h3 k hk2, i2 123 (by omega)]
      refine S.up2 (T' := (u2 T.1 4 m o, T.2)) g (fun y hy => hr y (by omega)) ⟨hr0 1 (by omega), hr0 13 (by omega)⟩ hr122 ⟨ord_w S.2.1.1 ho, ⟨?_, ?_, fun i hi => ?_⟩, ⟨?_, ?_, fun i hi h hh => ?_⟩⟩ ?_ (S.2.2.2.1.cg wL (hr 36 (by omega)) (hr 124 (by omega)) (fun y q1 q2 => hr y (by omega)) (fun k q1 q2 => hr123 k (by omega) (by omega)))
      · have r := (S.2.1.2.1.1.ord m o)
        exact r.congr (fun y q1 q2 => by
          rw [u2_row _ _ _ (by omega), h1 y (by omega)]
          by_cases e : y = 26
          · subst e; rw [u2_up, u2_up, f 26 (by omega)]
          · rw [u2_row _ _ _ (by omega), u2_row _ _ _ (by omega), f y (by omega)])
      · rw [hr 22 (by omega)]; exact S.2.1.2.1.2.1
      · rw [hr (22 + 5) (by omega)]; exact S.2.1.2.1.2.2 i hi
      · have r := S.2.1.2.2.1.ord wL bm.1 o
        rw [Nat.zero_add] at r
        exact r.congr wL (fun k q1 q2 => by
          by_cases e : k = 11 + m
          · subst e; rw [u2_at, u2_at]
          · rw [hr123 k e (by omega), u2_ne _ _ (by omega)])
      · rw [hr123 _ (by omega) (by omega)]; exact S.2.1.2.2.2.1
      · have b := wL.h hh
        have b2 := S.2.1.1.2.1.1
        have hi' : i < T.2.1 := hi
        rw [hr123 _ (by omega) (by omega)]; exact S.2.1.2.2.2.2 i hi h hh
      · refine SB.of (np := rmN np) (P := rmP np P T) (B1.cg rfl ?_ (fun y q1 q2 => ?_)) (B2.cg wL B1.1 (rmP_w hBC.1 hw S.2.1.1) ?_ (fun k q1 q2 => ?_)) (rmP_w hBC.1 hw S.2.1.1)
        · rw [u2_row _ _ _ (by omega), h1 0 (by omega), u2_row _ _ _ (by omega)]
        · rw [u2_row _ _ _ (by omega), h1 y (by omega), u2_row _ _ _ (by omega)]
        · rw [u2_row _ _ _ (by omega)]
        · rw [u2_ne _ _ (by omega)]
  refine w_X4_order S.1.1 S.1.2.1 S.1.2.2.1 x1 x2 (s_hasMan S.cl x1 ⟨_, rfl, rfl, rfl, rfl, rfl, ?_⟩)
  rw [if01]
  refine ⟨fun p => k0 (fun z => p z.1), fun p => ⟨fun q => k1 ⟨Decidable.not_not.mp p, Or.inl q⟩, fun q => s_hasHill S.cl x2 ⟨_, rfl, rfl, rfl, rfl, rfl, ?_⟩⟩⟩
  rw [if01]
  exact ⟨fun z => k1 ⟨Decidable.not_not.mp p, Or.inr (Decidable.not_not.mp z)⟩, fun z => k0 (fun y => y.2.elim q z)⟩
end ORD
