/-! ===== rate, the reference's, and both ===== -/
section RATM
variable {d : Nat} {I : MI} {G : MG} {J : MJ} {Φ : Ph} {a : Nat} {L : Ld} {T : Tm}
theorem m_stoneRate (S : Mm I G 0 L T.1) {J1 : MJ} {h : Nat} (hh : h < L 0 0) (k : ∀ J', FrJ 122 32 J1 J' → J' 122 32 = J1 122 32 + rtJ 0 → Φ (some (.int (rvI L T h 0))) 136 I G J') : Ev (d + 2) mX5_stoneRate 136 0 [some (.ref 122), some (.int (nI h))] [] 136 I G J1 Φ :=
  w_X5_stoneRate S.1 _ (m_sizeIn S hh ⟨_, rfl, rfl, rfl, rfl, rfl, k _ (fun x y hxy => u2_ne _ _ hxy) (by rw [u2_at]; rfl)⟩)
theorem m_roundRate (S : Mm I G 0 L T.1) {J1 : MJ} {h : Nat} (hh : h < L 0 0) (k : ∀ J', FrJ 122 32 J1 J' → J' 122 32 = J1 122 32 + rtJ 1 → Φ (some (.int (rvI L T h 1))) 136 I G J') : Ev (d + 3) mX5_roundRate 136 0 [some (.ref 122), some (.int (nI h))] [] 136 I G J1 Φ := by
  have b := S.2.2.2.1.h hh
  have e := (S.2.2.1.2.1 h hh).1
  rw [Nat.zero_add] at e
  refine w_X5_roundRate S.1 _ (m_stoneRate S hh (fun J' f g => ⟨_, rfl, rfl, rfl, rfl, vp_in_nI (by omega) (by decide), ?_⟩))
  rw [nI_clamp (n := h) (by omega), e]
  rw [u2_at, Int64.add_assoc] at g
  exact k J' (fun x y hxy => (f x y hxy).trans (u2_ne _ _ hxy)) g
theorem m_splitRate (S : Mm I G 0 L T.1) {J1 : MJ} {h : Nat} (hh : h < L 0 0) (k : ∀ J', FrJ 122 32 J1 J' → J' 122 32 = J1 122 32 + rtJ 2 → Φ (some (.int (rvI L T h 2))) 136 I G J') : Ev (d + 3) mX5_splitRate 136 0 [some (.ref 122), some (.int (nI h))] [] 136 I G J1 Φ := by
  have b := S.2.2.2.1.h hh
  have e := (S.2.1.2.1 h hh).2.1
  refine w_X5_splitRate S.1 _ (m_stoneRate S hh (fun J' f g => ⟨_, rfl, rfl, rfl, rfl, vp_in_nI (by omega) (by decide), ?_⟩))
  rw [nI_clamp (n := h) (by omega), e]
  rw [u2_at, Int64.add_assoc] at g
  exact k J' (fun x y hxy => (f x y hxy).trans (u2_ne _ _ hxy)) g
theorem m_hollowRate (S : Mm I G 0 L T.1) {J1 : MJ} {h : Nat} (hh : h < L 0 0) (k : ∀ J', FrJ 122 32 J1 J' → J' 122 32 = J1 122 32 + rtJ 5 → Φ (some (.int (rvI L T h 5))) 136 I G J') : Ev (d + 3) mX5_hollowRate 136 0 [some (.ref 122), some (.int (nI h)), none, none] [] 136 I G J1 Φ := by
  have wL := S.2.2.2.1
  have b := wL.h hh
  have b2 := wL.2.2.1
  have e12 : I 122 12 = nI (L 0 2) := S.2.1.1.2.2.1
  refine w_X5_hollowRate S.1 _ ?_
  refine down_ind (E := fun m => Ev (d + 3) mX5_hollowRate 136 16 [some (.ref 122), some (.int (nI h)), some (.int (nI (sumN (fun m => if T.1 4 m = h + 1 then 1 else 0) m))), some (.int (nI m))] [] 136 I G _ Φ) (L 0 2) ?_ ?_ 0 (Nat.zero_le _)
  · refine w_X5_hollowRate_16 S.1 _ _ _ ⟨fun _ => m_stoneRate S hh (fun J' f g => ⟨_, rfl, rfl, rfl, rfl, ?_⟩), fun q => absurd ?_ q⟩
    · rw [u2_at, Int64.add_assoc] at g
      exact k J' (fun x y hxy => (f x y hxy).trans (u2_ne _ _ hxy)) g
    · rw [e12]; exact nI_le (Nat.le_refl _) (by omega)
  · intro m hm ih
    have bm := wL.m hm
    have eo := (S.2.2.1.2.2 m hm).2
    have wo := (S.2.2.2.2.1.2.2.2 m hm).2
    rw [Nat.zero_add] at eo
    have e11 : (11 : Int32) + nI m = nI (11 + m) := nI_add 11 m
    refine w_X5_hollowRate_16 S.1 _ _ _ ⟨fun q => ?_, fun _ => ?_⟩
    · rw [e12, nI_leI (by omega) (by omega)] at q
      omega
    · rw [e11, nI_clamp (n := 11 + m) (by omega), eo, oV_h (by have := wL.1; omega) b.1, show nI m + (1 : Int32) = nI (m + 1) from nI_1 _]
      rw [sumN] at ih
      refine ⟨vp_in_nI (by omega) (by decide), fun z => ?_, fun z => ?_⟩
      · rw [if_neg z] at ih
        refine m_one (P := False) S.1 ⟨_, rfl, rfl, rfl, rfl, rfl, ?_⟩
        rw [if_neg (fun q => q), show (0 : Int32) = nI 0 from rfl, nI_add]
        exact ih
      · rw [if_pos z] at ih
        refine m_one (P := True) S.1 ⟨_, rfl, rfl, rfl, rfl, rfl, ?_⟩
        rw [if_pos trivial, show (1 : Int32) = nI 1 from rfl, nI_add]
        exact ih
theorem p_rate (S : SR I G J a L T) (x1 x2 : Int32) : Ev (d + 5) mX4_rate 136 0 [some (.ref 0), some (.int x1), some (.int x2)] [] 136 I G J (P2 I G (d + 5) mX5_rate [some (.ref 122), some (.int x1), some (.int x2)]) := by
  have wL := S.w
  have k0 : ¬ ((0 ≤ x1 ∧ x1 ≤ 5) ∧ (0 ≤ x2 ∧ x2 < nI (L 0 0))) → P2 I G (d + 5) mX5_rate [some (.ref 122), some (.int x1), some (.int x2)] (some (.int (-1000000))) 136 I G J := fun no => by
    refine S.same (w_X5_rate S.1.1 x1 x2 (m_in S.1.1 _ _ _ ⟨_, rfl, rfl, rfl, rfl, rfl, ?_⟩))
    rw [if01, show (¬ x1.toInt64 < (0 : Int64) ∧ ¬ (5 : Int64) < x1.toInt64) = (0 ≤ x1 ∧ x1 ≤ 5) from in_ab x1 0 5]
    refine ⟨fun _ => ⟨rfl, rfl, rfl, rfl, rfl⟩, fun p => m_isHill S.ml x2 ⟨_, rfl, rfl, rfl, rfl, rfl, ?_⟩⟩
    rw [if01]
    exact ⟨fun z => absurd ⟨Decidable.not_not.mp p, Decidable.not_not.mp z⟩ no, fun _ => ⟨rfl, rfl, rfl, rfl, rfl⟩⟩
  refine w_X4_rate S.1.1 S.1.2.1 S.1.2.2.1 x1 x2 ⟨fun q => k0 (fun z => Int32.not_lt.mpr z.1.1 q), fun q => ⟨fun q2 => k0 (fun z => Int32.not_lt.mpr z.1.2 q2), fun q2 => s_hasHill S.cl x2 ⟨_, rfl, rfl, rfl, rfl, rfl, ?_⟩⟩⟩
  rw [if01]
  refine ⟨fun p => ?_, fun p => k0 (fun z => p z.2)⟩
  have hx := Decidable.not_not.mp p
  have h1 : 0 ≤ x1 ∧ x1 ≤ 5 := ⟨Int32.not_lt.mp q, Int32.not_lt.mp q2⟩
  obtain ⟨h, hh, e⟩ := hill_of (by have := wL.1; omega) hx
  obtain ⟨t, ht, e2⟩ := nI_of2 (n := 5) (M := 5) rfl q h1.2
  subst e e2
  refine s_rateAs S hh (by omega) (fun J' f g => ⟨_, rfl, rfl, rfl, rfl, rfl, ⟨_, rfl⟩, ?_⟩)
  have fin : ∀ J2 : MJ, FrJ 122 32 J' J2 → J2 122 32 = J' 122 32 + rtJ t → Q2 I G (some (.int (rvI L T h t))) (some (.int (rvI L T h t))) 136 I G J2 := fun J2 f2 g2 => by
    refine ⟨rfl, rfl, Kp.rf, a, L, T, S.1, S.2.1, S.2.2.1, S.2.2.2.1, S.2.2.2.2.1, S.2.2.2.2.2.1, ?_, S.2.2.2.2.2.2.2⟩
    rw [g2, f2 0 15 (by omega), g, f 122 32 (by omega), S.2.2.2.2.2.2.1]
  refine w_X5_rate S.1.1 _ _ (m_in S.1.1 _ _ _ ⟨_, rfl, rfl, rfl, rfl, rfl, ?_⟩)
  rw [if01, show (¬ (nI t).toInt64 < (0 : Int64) ∧ ¬ (5 : Int64) < (nI t).toInt64) = (0 ≤ nI t ∧ nI t ≤ 5) from in_ab (nI t) 0 5]
  refine ⟨fun z => absurd h1 z, fun _ => m_isHill S.ml _ ⟨_, rfl, rfl, rfl, rfl, rfl, ?_⟩⟩
  rw [if01]
  refine ⟨fun _ => ?_, fun z => absurd hx z⟩
  rcases (show t = 0 ∨ t = 1 ∨ t = 2 ∨ t = 3 ∨ t = 4 ∨ t = 5 by omega) with rfl | rfl | rfl | rfl | rfl | rfl
  · exact ⟨fun _ => m_stoneRate S.mm hh (fun J2 f2 g2 => ⟨_, rfl, rfl, rfl, rfl, fin J2 f2 g2⟩), fun z => absurd rfl z⟩
  · exact ⟨fun z => absurd z (by decide), fun _ => ⟨fun _ => m_roundRate S.mm hh (fun J2 f2 g2 => ⟨_, rfl, rfl, rfl, rfl, fin J2 f2 g2⟩), fun z => absurd rfl z⟩⟩
  · exact ⟨fun z => absurd z (by decide), fun _ => ⟨fun z => absurd z (by decide), fun _ => ⟨fun _ => m_splitRate S.mm hh (fun J2 f2 g2 => ⟨_, rfl, rfl, rfl, rfl, fin J2 f2 g2⟩), fun z => absurd rfl z⟩⟩⟩
  · refine ⟨fun z => absurd z (by decide), fun _ => ⟨fun z => absurd z (by decide), fun _ => ⟨fun z => absurd z (by decide), fun _ => ⟨fun _ => ?_, fun z => absurd rfl z⟩⟩⟩⟩
    refine w_X5_wetRate S.1.1 _ (m_roundRate S.mm hh (fun J2 f2 g2 => ⟨_, rfl, rfl, rfl, rfl, ⟨_, rfl, rfl, rfl, rfl, ?_⟩⟩))
    rw [u2_at, Int64.add_assoc] at g2
    exact fin J2 (fun x y hxy => (f2 x y hxy).trans (u2_ne _ _ hxy)) g2
  · refine ⟨fun z => absurd z (by decide), fun _ => ⟨fun z => absurd z (by decide), fun _ => ⟨fun z => absurd z (by decide), fun _ => ⟨fun z => absurd z (by decide), fun _ => ⟨fun _ => ?_, fun z => absurd rfl z⟩⟩⟩⟩⟩
    refine w_X5_lentRate S.1.1 _ (m_splitRate S.mm hh (fun J2 f2 g2 => ⟨_, rfl, rfl, rfl, rfl, ⟨_, rfl, rfl, rfl, rfl, ?_⟩⟩))
    rw [u2_at, Int64.add_assoc] at g2
    exact fin J2 (fun x y hxy => (f2 x y hxy).trans (u2_ne _ _ hxy)) g2
  · exact ⟨fun z => absurd z (by decide), fun _ => ⟨fun z => absurd z (by decide), fun _ => ⟨fun z => absurd z (by decide), fun _ => ⟨fun z => absurd z (by decide), fun _ => ⟨fun z => absurd z (by decide), fun _ => m_hollowRate S.mm hh (fun J2 f2 g2 => ⟨_, rfl, rfl, rfl, rfl, fin J2 f2 g2⟩)⟩⟩⟩⟩⟩
end RATM
