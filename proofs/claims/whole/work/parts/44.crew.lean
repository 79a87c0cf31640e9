/-! ===== crew, the reference's, and both ===== -/
section CREM
variable {d : Nat} {I : MI} {G : MG} {J : MJ} {Φ : Ph} {a : Nat} {L : Ld} {T : Tm}
theorem m_crewL (X : Mm I G 0 L T.1) {h : Nat} (hh : h < L 0 0) (k : Φ (some (.int (cvI (crW L (ndN L T.1 h) (2 ^ L 0 2))))) 136 I G J) : ∀ s, s ≤ 2 ^ L 0 2 → Ev (d + 2) mX5_crew 136 15 [some (.ref 122), some (.int (nI h)), some (.int (cvI (crW L (ndN L T.1 h) s))), some (.int (nI s)), none, none] [] 136 I G J Φ := by
  have wL := X.2.2.2.1
  have b := wL.h hh
  have b2 := wL.2.2.1
  have p8 : 2 ^ L 0 2 ≤ 8 := Nat.pow_le_pow_right (n := 2) (by omega) b2
  have nb := nd_b (M := T.1) wL hh
  have e12 : I 122 12 = nI (L 0 2) := X.2.1.1.2.2.1
  have esl : I 126 h = nI (L 2 h) := (X.2.1.2.1 h hh).2.1
  have es : (1 : Int32) <<< (nI (L 0 2) &&& 31) = nI (2 ^ L 0 2) := by
    have := nshl (a := 1) (i := L 0 2) (by omega) (by omega)
    rw [Nat.one_mul] at this
    exact this
  refine down_ind (E := fun s => Ev (d + 2) mX5_crew 136 15 [some (.ref 122), some (.int (nI h)), some (.int (cvI (crW L (ndN L T.1 h) s))), some (.int (nI s)), none, none] [] 136 I G J Φ) (2 ^ L 0 2) ?_ ?_
  · refine w_X5_crew_15 X.1 _ _ _ ⟨fun _ => k, fun q => absurd ?_ q⟩
    rw [e12, es]; exact nI_le (Nat.le_refl _) (by omega)
  · intro s hs ih
    have cl := crW_le L (ndN L T.1 h) s
    have f27 := foN_lt wL s
    refine w_X5_crew_15 X.1 _ _ _ ⟨fun q => ?_, fun _ => ?_⟩
    · rw [e12, es, nI_leI (by omega) (by omega)] at q
      omega
    · refine down_ind (E := fun m => Ev (d + 2) mX5_crew 136 31 [some (.ref 122), some (.int (nI h)), some (.int (cvI (crW L (ndN L T.1 h) s))), some (.int (nI s)), some (.int (nI (sumN (fun m => if s / 2 ^ m % 2 = 1 then L 8 m else 0) m))), some (.int (nI m))] [] 136 I G J Φ) (L 0 2) ?_ ?_ 0 (Nat.zero_le _)
      · refine w_X5_crew_31 X.1 _ _ _ _ _ ⟨fun _ => m_sizeIn (x := 0) X hh ⟨_, rfl, rfl, rfl, rfl, rfl, vp_in_nI (by omega) (by decide), ?_⟩, fun q => absurd ?_ q⟩
        · rw [nI_clamp (n := h) (by omega), esl, nI_add, cv_n (by omega), show nI s + (1 : Int32) = nI (s + 1) from nI_1 _]
          show (nI (foN L s) < nI (ndN L T.1 h) → _) ∧ (¬ nI (foN L s) < nI (ndN L T.1 h) → _)
          rw [nI_ltI (by omega) (by omega)]
          rw [crW, crB] at ih
          have same : ¬ (ndN L T.1 h ≤ foN L s ∧ (crW L (ndN L T.1 h) s = 0 ∨ bcN s < bcN (crW L (ndN L T.1 h) s))) → Ev (d + 2) mX5_crew 136 15 [some (.ref 122), some (.int (nI h)), some (.int (cvI (crW L (ndN L T.1 h) s))), some (.int (nI (s + 1))), none, none] [] 136 I G J Φ := fun z => by
            rw [if_neg z] at ih; exact ih
          have new : (ndN L T.1 h ≤ foN L s ∧ (crW L (ndN L T.1 h) s = 0 ∨ bcN s < bcN (crW L (ndN L T.1 h) s))) → Ev (d + 2) mX5_crew 136 15 [some (.ref 122), some (.int (nI h)), some (.int (nI s)), some (.int (nI (s + 1))), none, none] [] 136 I G J Φ := fun z => by
            have s0 : s ≠ 0 := fun e => by
              have : foN L s = 0 := by
                rw [e]; unfold foN
                have := sumN_le (f := fun m => if 0 / 2 ^ m % 2 = 1 then L 8 m else 0) (b := 0) (n := L 0 2) (fun m _ => by simp)
                omega
              omega
            have cvs : cvI s = nI s := by unfold cvI; rw [if_neg s0]
            rw [if_pos z, cvs] at ih; exact ih
          refine ⟨fun z => same (fun y => by omega), fun z => ⟨fun e => new ⟨by omega, Or.inl e⟩, fun e => ?_⟩⟩
          have cvb : cvI (crW L (ndN L T.1 h) s) = nI (crW L (ndN L T.1 h) s) := by unfold cvI; rw [if_neg e]
          have l1 := bcN_lt s (by omega)
          have l2 := bcN_lt (crW L (ndN L T.1 h) s) (by omega)
          refine m_ones X.1 (by omega) ⟨_, rfl, rfl, rfl, rfl, rfl, ?_⟩
          rw [cvb] at same ⊢
          refine m_ones X.1 (by omega) ⟨_, rfl, rfl, rfl, rfl, rfl, ?_⟩
          rw [nI_leI (by omega) (by omega)]
          exact ⟨fun z => same (fun y => y.2.elim e (fun y2 => by omega)), fun z2 => new ⟨by omega, Or.inr (by omega)⟩⟩
        · rw [e12]; exact nI_le (Nat.le_refl _) (by omega)
      · intro m hm ihm
        have bm := wL.m hm
        have ef : I 132 m = nI (L 8 m) := X.2.1.2.2.2 m hm
        refine w_X5_crew_31 X.1 _ _ _ _ _ ⟨fun q => ?_, fun _ => m_has X.1 (by omega) (by omega) ⟨_, rfl, rfl, rfl, rfl, rfl, ?_⟩⟩
        · rw [e12, nI_leI (by omega) (by omega)] at q
          omega
        · rw [if01, nI_clamp (n := m) (by omega), ef, show nI m + (1 : Int32) = nI (m + 1) from nI_1 _, nI_add, show (0 : Int32) = nI 0 from rfl, nI_add]
          rw [sumN] at ihm
          refine ⟨fun z => ?_, fun z => ⟨vp_in_nI (by omega) (by decide), ?_⟩⟩
          · rw [if_neg z] at ihm; exact ihm
          · rw [if_pos (Decidable.not_not.mp z)] at ihm; exact ihm
theorem p_crew (S : SR I G J a L T) (x : Int32) : Ev (d + 3) mX4_crew 136 0 [some (.ref 0), some (.int x), none, none, none, none] [] 136 I G J (P2 I G (d + 2) mX5_crew [some (.ref 122), some (.int x), none, none, none, none]) := by
  have wL := S.w
  refine w_X4_crew S.1.1 S.1.2.1 S.1.2.2.1 x (s_hasHill S.cl x ⟨_, rfl, rfl, rfl, rfl, rfl, ?_⟩)
  rw [if01]
  refine ⟨fun p => ?_, fun p => S.same (w_X5_crew S.1.1 _ (m_isHill S.ml x ⟨_, rfl, rfl, rfl, rfl, rfl, ?_⟩))⟩
  · have hx := Decidable.not_not.mp p
    obtain ⟨h, hh, e⟩ := hill_of (by have := wL.1; omega) hx
    subst e
    have nb := nd_b (M := T.1) wL hh
    refine s_needOf S.cm hh ⟨_, rfl, rfl, rfl, rfl, rfl, ?_⟩
    have c1 : crW L (ndN L T.1 h) 1 = 0 := by
      rw [crW, crB, crW]
      split <;> rfl
    have := c_crew (d := d + 2) (Φ := P2 I G (d + 2) mX5_crew [some (.ref 122), some (.int (nI h)), none, none, none, none]) S hh (S.same (w_X5_crew S.1.1 _ (m_isHill S.ml _ ⟨_, rfl, rfl, rfl, rfl, rfl, by
      rw [if01]
      exact ⟨fun _ => m_crewL S.mm hh ⟨rfl, rfl, rfl, rfl, rfl⟩ 0 (Nat.zero_le _), fun z => absurd hx z⟩⟩))) 1 (Nat.one_le_two_pow) (Nat.le_refl _)
    rw [c1] at this
    exact this
  · rw [if01]
    exact ⟨fun z => absurd (Decidable.not_not.mp z) p, fun _ => ⟨rfl, rfl, rfl, rfl, rfl⟩⟩
end CREM
