/-! ===== evening ===== -/
section EVE
variable {d : Nat} {I : MI} {G : MG} {J : MJ} {Φ : Ph} {a : Nat} {L : Ld} {T : Tm}
/-- the s-th thing seen is not so on evening i -/
def misB (I : MI) (T : Tm) (i s : Nat) : Bool := decide (T.2.2 i (I 37 s).toNatClampNeg ≠ (I 38 s).toNatClampNeg)
def agB (I : MI) (T : Tm) (ns i : Nat) : Bool := !anyN (misB I T i) ns
theorem s_agrees (S : SR I G J a L T) {ns i : Nat} (h0 : I 0 13 = nI ns) (hns : ns ≤ 6) (hs : ∀ s, s < ns → ∃ h t, h < L 0 0 ∧ t ≤ 9 ∧ I 37 s = nI h ∧ I 134 s = nI h ∧ I 38 s = nI t ∧ I 135 s = nI t) (hi : i < T.2.1) (k : Φ (some (.int (if agB I T ns i then 1 else 0))) 136 I G J) : Ev (d + 1) mX4_agrees 136 0 [some (.ref 0), some (.int (nI i)), none] [] 136 I G J Φ := by
  have wL := S.w
  have wE := S.2.1.1.2.1
  refine w_X4_agrees S.1.1 _ ?_
  refine down_ind (E := fun s => anyN (misB I T i) s = false → Ev (d + 1) mX4_agrees 136 2 [some (.ref 0), some (.int (nI i)), some (.int (nI s))] [] 136 I G J Φ) ns ?_ ?_ 0 (Nat.zero_le _) rfl
  · intro hm
    refine w_X4_agrees_2 S.1.1 _ _ ⟨fun _ => ?_, fun q => absurd ?_ q⟩
    · unfold agB at k
      rw [hm] at k
      exact k
    · rw [h0]; exact nI_le (Nat.le_refl _) (by omega)
  · intro s hs1 ih hm
    obtain ⟨h, t, hh, ht, e1, e2, e3, e4⟩ := hs s hs1
    have b := wL.h hh
    have b2 := wE.1
    have hw16 : ∀ h, h < L 0 0 → T.2.2 i h < 16 := fun h hh => by have := wE.2 i hi h hh; omega
    have hlt := pkN_lt hw16
    have h4 : 16 ^ L 0 0 ≤ 16 ^ 4 := Nat.pow_le_pow_right (by omega) wL.1
    refine w_X4_agrees_2 S.1.1 _ _ ⟨fun q => ?_, fun _ => ⟨vp_in_nI (by omega) (by decide), ?_⟩⟩
    · rw [h0, nI_leI (by omega) (by omega)] at q
      omega
    · rw [nI_clamp (n := s) (by omega), e1, e3, show nI s + (1 : Int32) = nI (s + 1) from nI_1 _]
      refine s_writtenStep S.1.1 isM_22_ (w := pkN (T.2.2 i) (L 0 0)) (by omega) (by omega) (S.2.1.2.1.2.2 i hi) (by omega) ⟨_, rfl, rfl, rfl, rfl, rfl, vp_in_nI (by omega) (by decide), ?_⟩
      have hb := wE.2 i hi h hh
      rw [pkN_get hw16 hh, nI_eq (by omega) (by omega)]
      have em : misB I T i s = decide (T.2.2 i h ≠ t) := by
        unfold misB
        rw [e1, e3, nI_clamp (n := h) (by omega), nI_clamp (n := t) (by omega)]
      refine ⟨fun z => ih ?_, fun z => ?_⟩
      · rw [anyN, hm, em]; simp [z]
      · have : anyN (misB I T i) ns = true := (anyN_iff _ _).mpr ⟨s, hs1, by rw [em]; simp [z]⟩
        unfold agB at k
        rw [this] at k
        exact k
theorem p_evening (S : SR I G J a L T) : Ev (d + 2) mX4_evening 136 0 [some (.ref 0), none, none] [] 136 I G J (P2 I G (d + 1) mX5_evening [some (.ref 122), none, none, none, none]) := by
  have wL := S.w
  have wE := S.2.1.1.2.1
  have b2 := wE.1
  obtain ⟨ns, s1, s2, s3, s4⟩ := S.2.2.2.2.1
  have em16 : I 123 16 = nI T.2.1 := S.2.1.2.2.2.1
  have shl : ∀ i, i < T.2.1 → (1 : Int32) <<< (nI i &&& 31) = nI (2 ^ i) := fun i hi => by
    have hp : 2 ^ i ≤ 2 ^ 20 := Nat.pow_le_pow_right (by decide) (by omega)
    have := nshl (a := 1) (i := i) (by omega) (by omega)
    rw [Nat.one_mul] at this
    exact this
  have shl0 : ∀ i, i < T.2.1 → (0 : Int32) <<< (nI i &&& 31) = nI 0 := fun i hi => by
    have := nshl (a := 0) (i := i) (by omega) (by omega)
    rw [Nat.zero_mul] at this
    exact this
  have bor : ∀ i, nI (bitsN (agB I T ns) i) ||| nI (2 ^ i) = nI (bitsN (agB I T ns) i + 2 ^ i) := fun i => by rw [nor, bitsN_or]
  have k : P2 I G (d + 1) mX5_evening [some (.ref 122), none, none, none, none] (some (.int (nI (bitsN (agB I T ns) T.2.1)))) 136 I G J := by
    refine S.same (w_X5_evening S.1.1 ?_)
    refine down_ind (E := fun i => Ev (d + 1) mX5_evening 136 4 [some (.ref 122), some (.int (nI (bitsN (agB I T ns) i))), some (.int (nI i)), none, none] [] 136 I G J _) T.2.1 ?_ ?_ 0 (Nat.zero_le _)
    · refine w_X5_evening_4 S.1.1 _ _ ⟨fun _ => ⟨rfl, rfl, rfl, rfl, rfl⟩, fun q => absurd ?_ q⟩
      rw [em16]; exact nI_le (Nat.le_refl _) (by omega)
    · intro i hi ih
      refine w_X5_evening_4 S.1.1 _ _ ⟨fun q => ?_, fun _ => ?_⟩
      · rw [em16, nI_leI (by omega) (by omega)] at q
        omega
      · refine down_ind (E := fun s => Ev (d + 1) mX5_evening 136 20 [some (.ref 122), some (.int (nI (bitsN (agB I T ns) i))), some (.int (nI i)), some (.int (if anyN (misB I T i) s = false then 1 else 0)), some (.int (nI s))] [] 136 I G J _) ns ?_ ?_ 0 (Nat.zero_le _)
        · refine w_X5_evening_20 S.1.1 _ _ _ _ ⟨fun _ => m_one S.1.1 ⟨_, rfl, rfl, rfl, rfl, rfl, ?_⟩, fun q => absurd ?_ q⟩
          · rw [show nI i + (1 : Int32) = nI (i + 1) from nI_1 _]
            have : (nI (bitsN (agB I T ns) i) ||| ((if anyN (misB I T i) ns = false then (1 : Int32) else 0) <<< (nI i &&& 31))) = nI (bitsN (agB I T ns) (i + 1)) := by
              rw [bitsN]
              by_cases e : anyN (misB I T i) ns = false
              · rw [if_pos e, shl i hi, bor, if_pos (show agB I T ns i = true by unfold agB; rw [e]; rfl)]
              · rw [if_neg e, shl0 i hi, nor, Nat.or_zero, if_neg (show ¬ agB I T ns i = true by unfold agB; simp at e; rw [e]; decide), Nat.add_zero]
            rw [this]
            exact ih
          · rw [s3]; exact nI_le (Nat.le_refl _) (by omega)
        · intro s hs ihs
          obtain ⟨h, t, hh, ht, e1, e2, e3, e4⟩ := s4 s hs
          have b := wL.h hh
          have hb := wE.2 i hi h hh
          have em : misB I T i s = decide (T.2.2 i h ≠ t) := by
            unfold misB
            rw [e1, e3, nI_clamp (n := h) (by omega), nI_clamp (n := t) (by omega)]
          refine w_X5_evening_20 S.1.1 _ _ _ _ ⟨fun q => ?_, fun _ => ?_⟩
          · rw [s3, nI_leI (by omega) (by omega)] at q
            omega
          · have ei : ((20 : Int32) + ((4 : Int32) * nI i)) + nI h = nI (20 + 4 * i + h) := by
              rw [show (20 : Int32) = nI 20 from rfl, show (4 : Int32) = nI 4 from rfl, pk_mul, nI_add, nI_add]
            have er : I 123 (20 + 4 * i + h) = nI (T.2.2 i h) := by
              have := S.2.1.2.2.2.2 i hi h hh
              rw [Nat.zero_add] at this
              exact this
            rw [if01, nI_clamp (n := s) (by omega), e2, e4, ei, nI_clamp (n := 20 + 4 * i + h) (by omega), er, nI_eq (by omega) (by omega), show nI s + (1 : Int32) = nI (s + 1) from nI_1 _]
            refine ⟨fun z => ?_, fun z => ⟨vp_in_nI (by omega) (by decide), vp_in_nI (by omega) (by decide), vp_in_nI (by omega) (by decide), fun y => ?_, fun y => ?_⟩⟩
            · rw [if_neg (show ¬ anyN (misB I T i) (s + 1) = false by rw [anyN]; simp at z; rw [z]; simp)] at ihs
              exact ihs
            · rw [if_neg (show ¬ anyN (misB I T i) (s + 1) = false by rw [anyN, em]; simp [y])] at ihs
              exact ihs
            · have z' := Decidable.not_not.mp z
              rw [if_pos (show anyN (misB I T i) (s + 1) = false by rw [anyN, em, z']; simp [y])] at ihs
              exact ihs
  refine w_X4_evening S.1.1 ?_
  refine down_ind (E := fun i => Ev (d + 2) mX4_evening 136 4 [some (.ref 0), some (.int (nI (bitsN (agB I T ns) i))), some (.int (nI i))] [] 136 I G J _) T.2.1 ?_ ?_ 0 (Nat.zero_le _)
  · refine w_X4_evening_4 S.1.1 _ _ ⟨fun _ => k, fun q => absurd ?_ q⟩
    rw [S.2.1.2.1.2.1]; exact nI_le (Nat.le_refl _) (by omega)
  · intro i hi ih
    refine w_X4_evening_4 S.1.1 _ _ ⟨fun q => ?_, fun _ => ?_⟩
    · rw [S.2.1.2.1.2.1, nI_leI (by omega) (by omega)] at q
      omega
    · refine s_agrees S s2 s1 s4 hi ⟨_, rfl, rfl, rfl, rfl, rfl, ?_⟩
      rw [if01, show nI i + (1 : Int32) = nI (i + 1) from nI_1 _, shl i hi, bor]
      rw [bitsN] at ih
      refine ⟨fun z => ?_, fun z => ?_⟩
      · rw [if_neg z, Nat.add_zero] at ih
        exact ih
      · rw [if_pos (Decidable.not_not.mp z)] at ih
        exact ih
end EVE
