/-! ===== trials: to the dusk, all push ===== -/
section TRI
variable {d : Nat} {I : MI} {G : MG} {J : MJ} {Φ : Ph} {a : Nat} {L : Ld} {M : Mo} {T : Tm} {x : Nat}
theorem m_goToDusk (r : Bool) : ∀ (n : Nat) {I : MI} {M : Mo}, n = L 0 3 - M 0 1 → Mm I G x L M → (∀ h, h < L 0 0 → M 2 h ≤ 50000) → M 0 0 < 1000 → (∀ I', FrD x I I' → Mm I' G x L (duM L (phN L n M) r) → Φ none 136 I' G J) → Ev (d + 3) mX5_goToDusk 136 0 [some (.ref 122), some (.int (nI x)), some (.int (if r then 1 else 0)), none] [] 136 I G J Φ
  | 0, I, M, hn, X, hr, hd, k => by
    have wL := X.2.2.2.1
    have hx := X.2.2.2.2.2
    have b3 := wL.2.2.2.1
    have hm := X.2.2.2.2.1.2.1
    have e15 : I 123 (x + 15) = nI (M 0 1) := X.2.2.1.1.2
    have e13 : I 122 13 = nI (L 0 3) := X.2.1.1.2.2.2.1
    refine w_X5_goToDusk X.1 _ _ ?_
    rw [show nI x + (15 : Int32) = nI (x + 15) from nI_add x 15, nI_clamp (n := x + 15) (by omega), e15, e13, nI_leI (by omega) (by omega)]
    refine ⟨vp_in_nI (by omega) (by decide), fun _ => ?_, fun z => absurd (by omega) z⟩
    exact m_dusk X r hr hd (fun I' f _ X' => ⟨rfl, rfl, rfl, rfl, k I' f X'⟩)
  | n + 1, I, M, hn, X, hr, hd, k => by
    have wL := X.2.2.2.1
    have hx := X.2.2.2.2.2
    have b3 := wL.2.2.2.1
    have e15 : I 123 (x + 15) = nI (M 0 1) := X.2.2.1.1.2
    have e13 : I 122 13 = nI (L 0 3) := X.2.1.1.2.2.2.1
    refine w_X5_goToDusk X.1 _ _ ?_
    rw [show nI x + (15 : Int32) = nI (x + 15) from nI_add x 15, nI_clamp (n := x + 15) (by omega), e15, e13, nI_leI (by omega) (by omega)]
    refine ⟨vp_in_nI (by omega) (by decide), fun z => absurd z (by omega), fun _ => ?_⟩
    refine m_push X (fun I3 f3 X3 => ⟨_, rfl, rfl, rfl, rfl, vp_in_nI (by omega) (by decide), vp_in_nI (by omega) (by decide), ?_⟩)
    have t0 : ∀ j, trM L M (hpM L M (L 0 0)).1 (L 0 2) 0 j = M 0 j := fun j => by
      unfold trM; rw [if_neg (by omega), hpM_t L M 0 (by omega)]
    have e15b : I3 123 (x + 15) + (1 : Int32) = nI (M 0 1 + 1) := by
      have := X3.2.2.1.1.2
      rw [t0] at this
      rw [this]; exact nI_1 _
    rw [e15b]
    have R4 : RMm (u2 I3 123 (x + 15) (nI (M 0 1 + 1))) x L (phM L M) := X3.2.2.1.hour wL (M 0 1 + 1)
    have X4 : Mm (u2 I3 123 (x + 15) (nI (M 0 1 + 1))) G x L (phM L M) := X3.fr (fun y hy => u2_row _ _ _ hy) R4 (phM_w wL X.2.2.2.2.1 (by omega))
    refine m_goToDusk r n (by rw [phM_01]; omega) X4 (fun h hh => by rw [phM_2]; exact hr h hh) (by rw [phM_00]; exact hd) (fun I' f X' => k I' (((f3.u2 (by omega)).d).tr f) ?_)
    exact X'
/-- all men to one hill -/
theorem s_allPush (X : Cm I G a 22 L M) (hga : G 0 3 = some a) {h : Nat} (hh : h < L 0 0) (k : ∀ I', (∀ x, ¬ (28 ≤ x ∧ x < 34) → I' x = I x) → Cm I' G a 28 L (oaM M h 7 (L 0 2)) → Φ none 136 I' G J) : Ev (d + 2) mX4_allPush 136 0 [some (.ref 0), some (.int (nI h)), none] [] 136 I G J Φ := by
  obtain ⟨hG, hc, ha, hL, hM, wL, wM⟩ := X
  have hla := isL_or ha
  have b2 := wL.2.2.1
  have is28 : isM 28 := (by decide +kernel : 28 ∈ momL)
  refine w_X4_allPush hG _ (s_copyFrom hG is28 hc (by omega) (fun I1 f1 c1 => ⟨rfl, rfl, rfl, rfl, ?_⟩))
  have hM1 : RMc I1 28 L M := by
    obtain ⟨⟨c1a, c1b, c1c⟩, c4, c5, c6⟩ := c1
    refine ⟨⟨c1a.trans hM.1.1, c1b.trans hM.1.2⟩, fun j hj => ?_, fun m hm => ?_⟩
    · have b := wL.h hj
      exact ⟨(c4 j b.1).1.trans (hM.2.1 j hj).1, (c4 j b.1).2.trans (hM.2.1 j hj).2⟩
    · have b := wL.m hm
      exact ⟨(c5 m b.1).1.trans (hM.2.2 m hm).1, (c5 m b.1).2.trans (hM.2.2 m hm).2⟩
  have key : ∀ m, m ≤ L 0 2 → ∀ I2 : MI, (∀ x, ¬ (28 ≤ x ∧ x < 34) → I2 x = I x) → RMc I2 28 L (oaM M h 7 m) → Ev (d + 2) mX4_allPush 136 13 [some (.ref 0), some (.int (nI h)), some (.int (nI m))] [] 136 I2 G J Φ := by
    refine down_ind (E := fun m => ∀ I2 : MI, (∀ x, ¬ (28 ≤ x ∧ x < 34) → I2 x = I x) → RMc I2 28 L (oaM M h 7 m) → Ev (d + 2) mX4_allPush 136 13 [some (.ref 0), some (.int (nI h)), some (.int (nI m))] [] 136 I2 G J Φ) (L 0 2) ?_ ?_
    · intro I2 f2 R2
      refine w_X4_allPush_13 hG ha hga _ _ ⟨fun _ => k I2 f2 ⟨hG, is28, ha, hL.congr (fun x q1 q2 => f2 x (by omega)), R2, wL, oaM_w wM hh _⟩, fun q => absurd ?_ q⟩
      rw [f2 a (by omega), hL.1.2.2.1]
      exact nI_le (Nat.le_refl _) (by omega)
    · intro m hm ih I2 f2 R2
      refine w_X4_allPush_13 hG ha hga _ _ ⟨fun q => ?_, fun _ => ⟨vp_in_nI (by omega) (by decide), ?_⟩⟩
      · rw [f2 a (by omega), hL.1.2.2.1, nI_leI (by omega) (by omega)] at q
        omega
      · rw [nI_clamp (n := m) (by omega), show nI m + (1 : Int32) = nI (m + 1) from nI_1 _]
        refine ih _ (fun x hx => by rw [u2_row _ _ _ (by omega), f2 x hx]) ?_
        have := R2.ord m (h + 1)
        have e : u2 (oaM M h 7 m) 4 m (h + 1) = oaM M h 7 (m + 1) := by
          have b7 : 7 / 2 ^ m % 2 = 1 := by
            rcases (show m = 0 ∨ m = 1 ∨ m = 2 by omega) with rfl | rfl | rfl <;> rfl
          funext t j
          by_cases e1 : t = 4
          · by_cases e2 : j = m
            · simp [u2, oaM, e1, e2, b7]
            · simp [u2, oaM, e1, e2, show j < m ↔ j < m + 1 by omega]
          · simp [u2, oaM, e1]
        rw [e] at this
        exact this
  refine key 0 (Nat.zero_le _) I1 (fun x hx => f1 x (by omega)) ?_
  have e : oaM M h 7 0 = M := by funext t j; simp [oaM]
  rw [e]
  exact hM1
end TRI
