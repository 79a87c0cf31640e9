/-! ===== odds, side by side ===== -/
section ODP
variable {d : Nat} {I : MI} {G : MG} {J : MJ} {Φ : Ph} {a : Nat} {L : Ld} {M : Mo} {T : Tm}
def gdP (L : Ld) (x1 x2 x3 x4 : Int32) : Prop := (0 ≤ x1 ∧ x1 < nI (L 0 0)) ∧ (1 ≤ x2 ∧ x2 ≤ 4) ∧ (0 ≤ x3 ∧ x3 ≤ 10) ∧ (0 ≤ x4 ∧ x4 ≤ 1)
theorem gd_of (wL : WLd L) {x1 x2 x3 x4 : Int32} (g : gdP L x1 x2 x3 x4) : ∃ h n p : Nat, h < L 0 0 ∧ n ≤ 3 ∧ p ≤ 10 ∧ x1 = nI h ∧ x2 = nI (n + 1) ∧ x3 = nI p := by
  obtain ⟨g1, g2, g3, g4⟩ := g
  obtain ⟨h, hh, e1⟩ := hill_of (by have := wL.1; omega) g1
  obtain ⟨p, hp, e3⟩ := nI_of2 (x := x3) (M := 10) (n := 10) (by decide) (Int32.not_lt.mpr g3.1) g3.2
  have z2 : ¬ x2 < 0 := fun z => by
    have := g2.1
    rw [Int32.le_iff_toInt_le] at this
    rw [Int32.lt_iff_toInt_lt] at z
    have h1 : (1 : Int32).toInt = 1 := by decide
    have h0 : (0 : Int32).toInt = 0 := by decide
    omega
  obtain ⟨j, hj, e2⟩ := nI_of2 (x := x2) (M := 4) (n := 4) (by decide) z2 g2.2
  have j1 : 1 ≤ j := by
    have := g2.1
    rw [e2] at this
    exact (nI_leI (a := 1) (b := j) (by omega) (by omega)).mp this
  exact ⟨h, j - 1, p, hh, by omega, hp, e1, by rw [e2, show j - 1 + 1 = j by omega], e3⟩
theorem p_odds (S : SR I G J a L T) (x1 x2 x3 x4 : Int32) : Ev (d + 8) mX4_odds 136 0 [some (.ref 0), some (.int x1), some (.int x2), some (.int x3), some (.int x4), none, none, none, none, none, none, none, none, none] [] 136 I G J (P2l I G (d + 4) mX5_odds [some (.ref 122), some (.int x1), some (.int x2), some (.int x3), some (.int x4), none, none, none, none, none, none, none, none]) := by
  have wL := S.w
  have hG := S.1.1
  have c1 : ¬ x2 < 1 ↔ 1 ≤ x2 := Int32.not_lt
  have c2 : ¬ 4 < x2 ↔ x2 ≤ 4 := Int32.not_lt
  have c3 : ¬ x3 < 0 ↔ 0 ≤ x3 := Int32.not_lt
  have c4 : ¬ 10 < x3 ↔ x3 ≤ 10 := Int32.not_lt
  have c5 : ¬ x4 < 0 ↔ 0 ≤ x4 := Int32.not_lt
  have bad : ¬ gdP L x1 x2 x3 x4 → P2l I G (d + 4) mX5_odds [some (.ref 122), some (.int x1), some (.int x2), some (.int x3), some (.int x4), none, none, none, none, none, none, none, none] (some (.long (-1 : Int64))) 136 I G J := by
    intro g
    have fin : Q2 I G (some (.long (-1 : Int64))) (some (.long (-1 : Int64))) 136 I G J := ⟨rfl, rfl, Kp.rf, a, L, T, S⟩
    refine ⟨rfl, ⟨_, rfl⟩, w_X5_odds hG _ _ _ _ (m_isHill S.ml x1 ⟨_, rfl, rfl, rfl, rfl, rfl, ?_⟩)⟩
    rw [if01]
    refine ⟨fun _ => fin, fun q1 => m_in hG _ _ _ ⟨_, rfl, rfl, rfl, rfl, rfl, ?_⟩⟩
    rw [if01, show (1 : Int64) = (1 : Int32).toInt64 from rfl, show (4 : Int64) = (4 : Int32).toInt64 from rfl, in_ab]
    refine ⟨fun _ => fin, fun q2 => m_in hG _ _ _ ⟨_, rfl, rfl, rfl, rfl, rfl, ?_⟩⟩
    rw [if01, show (0 : Int64) = (0 : Int32).toInt64 from rfl, show (10 : Int64) = (10 : Int32).toInt64 from rfl, in_ab]
    refine ⟨fun _ => fin, fun q3 => m_in hG _ _ _ ⟨_, rfl, rfl, rfl, rfl, rfl, ?_⟩⟩
    rw [if01, in_ab]
    exact ⟨fun q4 => absurd ⟨Decidable.not_not.mp q1, Decidable.not_not.mp q2, Decidable.not_not.mp q3, Decidable.not_not.mp q4⟩ g, fun _ => fin⟩
  refine w_X4_odds hG S.1.2.1 S.1.2.2.1 _ _ _ _ (s_hasHill S.cl x1 ⟨_, rfl, rfl, rfl, rfl, rfl, ?_⟩)
  rw [if01]
  refine ⟨fun q => bad (fun g => q g.1), fun q1 => ⟨fun q => bad (fun g => c1.mpr g.2.1.1 q), fun q2 => ⟨fun q => bad (fun g => c2.mpr g.2.1.2 q), fun q3 => ⟨fun q => bad (fun g => c3.mpr g.2.2.1.1 q), fun q4 => ⟨fun q => bad (fun g => c4.mpr g.2.2.1.2 q), fun q5 => ⟨fun q => bad (fun g => c5.mpr g.2.2.2.1 q), fun q6 => ⟨fun q7 => ?_, fun q => bad (fun g => q g.2.2.2.2)⟩⟩⟩⟩⟩⟩⟩
  have g : gdP L x1 x2 x3 x4 := ⟨Decidable.not_not.mp q1, ⟨c1.mp q2, c2.mp q3⟩, ⟨c3.mp q4, c4.mp q5⟩, c5.mp q6, q7⟩
  obtain ⟨h, n, p, hh, hn, hp, e1, e2, e3⟩ := gd_of wL g
  subst e1 e2 e3
  have ref : ∀ I1 : MI, (∀ x, ¬ (28 ≤ x ∧ x < 34) → I1 x = I x) → ∀ (Ψ : Ph), (∀ I', (∀ y, ¬ ((28 ≤ y ∧ y < 34) ∨ y = 123) → I' y = I y) → (∀ k, ¬ (100 ≤ k ∧ k < 200) → I' 123 k = I 123 k) → (¬ x4 = 0 → Ψ (some (.long (lN (10 ^ n / Nat.gcd (10 ^ n) (sumN (upF L h (oaM T.1 h 7 (L 0 2)) p n) (2 ^ n)))))) 136 I' G J) ∧ (x4 = 0 → Ψ (some (.long (lN (sumN (upF L h (oaM T.1 h 7 (L 0 2)) p n) (2 ^ n) / Nat.gcd (10 ^ n) (sumN (upF L h (oaM T.1 h 7 (L 0 2)) p n) (2 ^ n)))))) 136 I' G J)) → Ev (d + 4) mX5_odds 136 0 [some (.ref 122), some (.int (nI h)), some (.int (nI (n + 1))), some (.int (nI p)), some (.int x4), none, none, none, none, none, none, none, none] [] 136 I1 G J Ψ := by
    intro I1 f1 Ψ k
    have X1 : Mm I1 G 0 L T.1 := ⟨hG, S.mm.2.1.congr2 (fun y hy => f1 y (by omega)), S.mm.2.2.1.congr wL (fun k _ _ => by rw [f1 123 (by omega)]), wL, S.2.1.1.1, by omega⟩
    refine w_X5_odds hG _ _ _ _ (m_isHill X1.l _ ⟨_, rfl, rfl, rfl, rfl, rfl, ?_⟩)
    rw [if01]
    refine ⟨fun q => absurd g.1 q, fun q1 => m_in hG _ _ _ ⟨_, rfl, rfl, rfl, rfl, rfl, ?_⟩⟩
    rw [if01, show (1 : Int64) = (1 : Int32).toInt64 from rfl, show (4 : Int64) = (4 : Int32).toInt64 from rfl, in_ab]
    refine ⟨fun q => absurd g.2.1 q, fun q2 => m_in hG _ _ _ ⟨_, rfl, rfl, rfl, rfl, rfl, ?_⟩⟩
    rw [if01, show (0 : Int64) = (0 : Int32).toInt64 from rfl, show (10 : Int64) = (10 : Int32).toInt64 from rfl, in_ab]
    refine ⟨fun q => absurd g.2.2.1 q, fun q3 => m_in hG _ _ _ ⟨_, rfl, rfl, rfl, rfl, rfl, ?_⟩⟩
    rw [if01, in_ab]
    refine ⟨fun _ => ?_, fun q => absurd g.2.2.2 q⟩
    refine down_ind (E := fun i => Ev (d + 4) mX5_odds 136 56 [some (.ref 122), some (.int (nI h)), some (.int (nI (n + 1))), some (.int (nI p)), some (.int x4), some (.long (lN 0)), none, some (.long (lN (10 ^ i))), none, some (.int (nI i)), none, none, none] [] 136 I1 G J Ψ) (n + 1) ?_ ?_ 0 (Nat.zero_le _)
    · refine w_X5_odds_56 hG _ _ _ _ _ _ _ ⟨fun _ => ?_, fun q => absurd (nI_le (a := n + 1) (b := n + 1) (by omega) (by omega)) q⟩
      exact m_oddsL (I := I1) (T := T) S.2.1.1 hh hn hp x4 wL (fun I' f' => k I' (fun y hy => by rw [f'.1 y (by omega), f1 y (by omega)]) (fun j hj => by rw [f'.2 j (by omega), f1 123 (by omega)])) 0 (Nat.zero_le _) I1 ⟨fun _ _ => rfl, fun _ _ => rfl⟩ X1
    · intro i hi ih
      refine w_X5_odds_56 hG _ _ _ _ _ _ _ ⟨fun q => absurd q (nI_ge (a := i) (b := n + 1) hi (by omega)), fun _ => ?_⟩
      rw [show (10 : Int64) = lN 10 from rfl, lN_mul, ← Nat.pow_succ, show nI i + (1 : Int32) = nI (i + 1) from nI_1 _]
      exact ih
  have e9 : nI (n + 1) - (1 : Int32) = nI n := nI_pred n
  rw [e9]
  refine c_oddsL S hh hn hp x4 (fun I1 f1 => ⟨fun q => ⟨rfl, ⟨_, rfl⟩, ref I1 f1 _ (fun I' f2 f3 => ⟨fun _ => ⟨rfl, rfl, S.tri f2 f3⟩, fun z => absurd z q⟩)⟩, fun q => ⟨rfl, ⟨_, rfl⟩, ref I1 f1 _ (fun I' f2 f3 => ⟨fun z => absurd q z, fun _ => ⟨rfl, rfl, S.tri f2 f3⟩⟩)⟩⟩) 0 (Nat.zero_le _) I (fun _ _ => rfl)
end ODP
