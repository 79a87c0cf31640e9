/-! ===== wear ===== -/
section WEAR
variable {d : Nat} {I : MI} {G : MG} {J : MJ} {Φ : Ph} {a : Nat} {L : Ld} {T : Tm}
def weN (L : Ld) (T : Tm) (h st : Nat) : Nat := (8 * (L 4 h - 1) - T.1 2 h + st - 1) / st
theorem p_wear (S : SR I G J a L T) (x1 x2 : Int32) : Ev (d + 1) mX4_wear 136 0 [some (.ref 0), some (.int x1), some (.int x2), none] [] 136 I G J (P2 I G (d + 2) mX5_wear [some (.ref 122), some (.int x1), some (.int x2), none]) := by
  have wL := S.w
  by_cases ok : (0 ≤ x1 ∧ x1 < nI (L 0 0)) ∧ 1 ≤ x2 ∧ x2 ≤ 9
  · obtain ⟨h, hh, e⟩ := hill_of (by have := wL.1; omega) ok.1
    have q0 : ¬ x2 < 0 := fun z => Int32.not_lt.mpr (Int32.le_trans (show (0 : Int32) ≤ 1 by decide) ok.2.1) z
    obtain ⟨st, hst, e2⟩ := nI_of2 (n := 9) (M := 9) rfl q0 ok.2.2
    have b := wL.h hh
    have br := S.2.1.1.2.2.2.2 h hh
    have bd := S.2.1.1.2.2.2.1
    subst e e2
    have st1 : 1 ≤ st := (nI_leI (a := 1) (b := st) (by omega) (by omega)).mp ok.2.1
    have hN : 8 * (L 4 h - 1) - T.1 2 h + st - 1 = st * weN L T h st + (8 * (L 4 h - 1) - T.1 2 h + st - 1) % st := (Nat.div_add_mod _ _).symm
    have hM := Nat.mod_lt (8 * (L 4 h - 1) - T.1 2 h + st - 1) (show st > 0 by omega)
    have hNle : weN L T h st ≤ 100 := Nat.le_trans (Nat.div_le_self _ _) (by omega)
    have k : P2 I G (d + 2) mX5_wear [some (.ref 122), some (.int (nI h)), some (.int (nI st)), none] (some (.int (nI (weN L T h st)))) 136 I G J := by
      refine S.same (w_X5_wear S.1.1 _ _ (m_isHill S.ml _ ⟨_, rfl, rfl, rfl, rfl, rfl, ?_⟩))
      rw [if01]
      refine ⟨fun p => absurd ok.1 p, fun p => m_in S.1.1 _ _ _ ⟨_, rfl, rfl, rfl, rfl, rfl, ?_⟩⟩
      rw [if01, show (¬ (nI st).toInt64 < (1 : Int64) ∧ ¬ (9 : Int64) < (nI st).toInt64) = (1 ≤ nI st ∧ nI st ≤ 9) from in_ab (nI st) 1 9]
      refine ⟨fun _ => ?_, fun z => absurd ok.2 z⟩
      have e4 : (4 : Int32) + nI h = nI (4 + h) := nI_add 4 h
      have er : I 123 (4 + h) = nI (T.1 2 h) := by
        have := (S.2.1.2.2.1.2.1 h hh).2
        rw [Nat.zero_add] at this
        exact this
      have go : ∀ n, n ≤ weN L T h st → (nI (max 1 (L 4 h - (T.1 2 h + n * st) / 8)) ≤ (1 : Int32) ↔ n = weN L T h st) := fun n hn => by
        have hp : n * st ≤ weN L T h st * st := Nat.mul_le_mul_right _ hn
        rw [Nat.mul_comm _ st] at hp
        rw [show (1 : Int32) = nI 1 from rfl, nI_leI (by omega) (by omega)]
        constructor
        · intro z
          by_cases en : n = weN L T h st
          · exact en
          · have hp2 : (n + 1) * st ≤ weN L T h st * st := Nat.mul_le_mul_right _ (by omega)
            rw [Nat.succ_mul, Nat.mul_comm _ st, Nat.mul_comm _ st] at hp2
            rw [Nat.mul_comm n st] at z
            omega
        · intro z
          rw [z, Nat.mul_comm _ st]
          omega
      have step : ∀ n, n ≤ weN L T h st → ((nI (max 1 (L 4 h - (T.1 2 h + n * st) / 8)) ≤ (1 : Int32) → (some (Value.int (nI n))) = some (.int (nI (weN L T h st))) ∧ 136 = 136 ∧ I = I ∧ G = G ∧ J = J) ∧ (¬ nI (max 1 (L 4 h - (T.1 2 h + n * st) / 8)) ≤ (1 : Int32) → Ev (d + 2) mX5_wear 136 24 [some (.ref 122), some (.int (nI h)), some (.int (nI st)), some (.int (nI (n + 1)))] [] 136 I G J (fun r n I' G' J' => r = some (.int (nI (weN L T h st))) ∧ n = 136 ∧ I = I' ∧ G = G' ∧ J = J'))) → Ev (d + 2) mX5_wear 136 24 [some (.ref 122), some (.int (nI h)), some (.int (nI st)), some (.int (nI n))] [] 136 I G J (fun r n I' G' J' => r = some (.int (nI (weN L T h st))) ∧ n = 136 ∧ I = I' ∧ G = G' ∧ J = J') := fun n hn kk => by
        have hp : n * st ≤ st * weN L T h st := by rw [Nat.mul_comm st]; exact Nat.mul_le_mul_right _ hn
        refine w_X5_wear_24 S.1.1 _ _ _ ?_
        rw [e4, nI_clamp (n := 4 + h) (by omega), er, pk_mul, nI_add, show nI n + (1 : Int32) = nI (n + 1) from nI_1 _]
        exact ⟨vp_in_nI (by omega) (by decide), m_sizeBy S.ml hh (by omega) ⟨_, rfl, rfl, rfl, rfl, rfl, kk⟩⟩
      refine down_ind (E := fun n => Ev (d + 2) mX5_wear 136 24 [some (.ref 122), some (.int (nI h)), some (.int (nI st)), some (.int (nI n))] [] 136 I G J (fun r n I' G' J' => r = some (.int (nI (weN L T h st))) ∧ n = 136 ∧ I = I' ∧ G = G' ∧ J = J')) (weN L T h st) ?_ ?_ 0 (Nat.zero_le _)
      · exact step _ (Nat.le_refl _) ⟨fun _ => ⟨rfl, rfl, rfl, rfl, rfl⟩, fun z => absurd ((go _ (Nat.le_refl _)).mpr rfl) z⟩
      · intro n hn ih
        exact step n (by omega) ⟨fun z => absurd ((go n (by omega)).mp z) (by omega), fun _ => ih⟩
    refine w_X4_wear S.1.1 S.1.2.1 S.1.2.2.1 _ _ (s_hasHill S.cl _ ⟨_, rfl, rfl, rfl, rfl, rfl, ?_⟩)
    rw [if01]
    refine ⟨fun p => absurd ok.1 p, fun _ => ⟨fun z => absurd z (Int32.not_lt.mpr ok.2.1), fun _ => ⟨fun _ => ⟨vp_in_nI (by omega) (by decide), vp_in_nI (by omega) (by decide), ?_⟩, fun z => absurd ok.2.2 z⟩⟩⟩
    have es : I (a + 4) h = nI (L 4 h) := (S.1.2.2.2.2.1.2.1 h hh).2.2.2
    have er : I (22 + 2) h = nI (T.1 2 h) := (S.2.1.2.1.1.2.1 h hh).2
    have e8 : (8 : Int32) * (nI (L 4 h) - (1 : Int32)) = nI (8 * (L 4 h - 1)) := by
      rw [show (1 : Int32) = nI 1 from rfl, show (8 : Int32) = nI 8 from rfl, pk_sub (by omega), pk_mul]
    rw [nI_clamp (n := h) (by omega), es, er, e8]
    have hlt : (0 : Int32) < nI (8 * (L 4 h - 1)) - nI (T.1 2 h) ↔ T.1 2 h < 8 * (L 4 h - 1) := by
      rw [Int32.lt_iff_toInt_lt, sub_toI (by omega) (by omega)]
      have : (0 : Int32).toInt = 0 := rfl
      rw [this]
      omega
    rw [hlt]
    refine ⟨fun z => ⟨nI_ne0 (by omega) (by omega), via ?_ k⟩, fun z => via ?_ k⟩
    · rw [pk_sub (by omega), nI_add, show (1 : Int32) = nI 1 from rfl, pk_sub (by omega), pk_div (by omega) (by omega) (by omega)]
      rfl
    · have : weN L T h st = 0 := by
        unfold weN
        exact Nat.div_eq_of_lt (by omega)
      rw [this]
      rfl
  · have k0 : P2 I G (d + 2) mX5_wear [some (.ref 122), some (.int x1), some (.int x2), none] (some (.int (-1))) 136 I G J := by
      refine S.same (w_X5_wear S.1.1 _ _ (m_isHill S.ml _ ⟨_, rfl, rfl, rfl, rfl, rfl, ?_⟩))
      rw [if01]
      refine ⟨fun p => ⟨rfl, rfl, rfl, rfl, rfl⟩, fun p => m_in S.1.1 _ _ _ ⟨_, rfl, rfl, rfl, rfl, rfl, ?_⟩⟩
      rw [if01, show (¬ x2.toInt64 < (1 : Int64) ∧ ¬ (9 : Int64) < x2.toInt64) = (1 ≤ x2 ∧ x2 ≤ 9) from in_ab x2 1 9]
      exact ⟨fun z => absurd ⟨Decidable.not_not.mp p, Decidable.not_not.mp z⟩ ok, fun _ => ⟨rfl, rfl, rfl, rfl, rfl⟩⟩
    refine w_X4_wear S.1.1 S.1.2.1 S.1.2.2.1 _ _ (s_hasHill S.cl _ ⟨_, rfl, rfl, rfl, rfl, rfl, ?_⟩)
    rw [if01]
    exact ⟨fun _ => k0, fun p => ⟨fun _ => k0, fun q => ⟨fun q2 => absurd ⟨Decidable.not_not.mp p, Int32.not_lt.mp q, q2⟩ ok, fun _ => k0⟩⟩⟩
end WEAR
