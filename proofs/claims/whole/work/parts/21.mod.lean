theorem m1_ge {a : Nat} (ha : a < 2 ^ 30) : (0 ≤ nI a + (-1 : Int32)) ↔ 1 ≤ a := by
  have e := addm1_toI ha
  constructor
  · intro h
    have h9 : (0 : Int32).toInt ≤ (nI a + (-1)).toInt := Int32.le_iff_toInt_le.mp h
    have h7 : (0 : Int) ≤ (a : Int) - 1 := Int.le_trans h9 (Int.le_of_eq e)
    omega
  · intro h
    refine Int32.le_iff_toInt_le.mpr ?_
    have h8 : (0 : Int) ≤ (nI a + (-1)).toInt := Int.le_trans (by omega : (0 : Int) ≤ (a : Int) - 1) (Int.le_of_eq e.symm)
    exact h8
section MOD2b
variable {d : Nat} {I : MI} {G : MG} {J : MJ} {Φ : Ph} {x : Nat} {L : Ld} {M : Mo}
theorem m_tire (X : Mm I G x L M) {s : Nat} (hs : s < 2 ^ 31) (k : ∀ I', FrM x I I' → Mm I' G x L (trS L s M (L 0 2)) → Φ none 136 I' G J) : Ev (d + 1) mX5_tire 136 0 [some (.ref 122), some (.int (nI x)), some (.int (nI s)), none, none, none] [] 136 I G J Φ := by
  have hG := X.1
  have wL := X.2.2.2.1
  have wM := X.2.2.2.2.1
  have hx := X.2.2.2.2.2
  have b3 := wL.2.2.1
  have b0 := wL.1
  refine w_X5_tire hG _ _ ?_
  refine down_ind (E := fun i => ∀ I', FrM x I I' → Mm I' G x L (trS L s M i) → Ev (d + 1) mX5_tire 136 2 [some (.ref 122), some (.int (nI x)), some (.int (nI s)), some (.int (nI i)), none, none] [] 136 I' G J Φ) (L 0 2) ?_ ?_ 0 (Nat.zero_le _) I FrM.rf (by rw [trS_0]; exact X)
  · intro I' hf X'
    refine w_X5_tire_2 hG _ _ _ ⟨fun _ => k I' hf X', fun q => absurd ?_ q⟩
    rw [X'.2.1.1.2.2.1]
    exact nI_le (Nat.le_refl _) (by omega)
  · intro i hi ih I' hf X'
    obtain ⟨-, hL, hM, -, wM', -⟩ := id X'
    have b4 := wL.m hi
    have b5 := wM.2.2.2 i hi
    have e1 : (nI x + 11) + nI i = nI (x + 11 + i) := by rw [show (11 : Int32) = nI 11 from rfl, nI_add, nI_add]
    have e2 : (nI x + 8) + nI i = nI (x + 8 + i) := by rw [show (8 : Int32) = nI 8 from rfl, nI_add, nI_add]
    have e3 : trS L s M i 3 i = M 3 i := by simp [trS]
    have e4 : trS L s M i 4 i = M 4 i := by simp [trS]
    have g3 := (hM.2.2 i hi).1
    have g4 := (hM.2.2 i hi).2
    rw [e3] at g3
    rw [e4] at g4
    have v8 : vp_in (nI (x + 8 + i)) 1400 := vp_in_nI (by omega) (by decide)
    have v11 : vp_in (nI (x + 11 + i)) 1400 := vp_in_nI (by omega) (by decide)
    have v6 : vp_in (nI i) 6 := vp_in_nI (by omega) (by decide)
    have hts := trS_s L s M i
    have go : ∀ v : Nat, v = (if M 4 i ≠ 0 ∧ s / 2 ^ (M 4 i - 1) % 2 = 0 then M 3 i - 1 else min (L 8 i) (M 3 i + 1)) → Ev (d + 1) mX5_tire 136 2 [some (.ref 122), some (.int (nI x)), some (.int (nI s)), some (.int (nI i + 1)), none, none] [] 136 (u2 I' 123 (x + 8 + i) (nI v)) G J Φ := by
      intro v hv
      have hf2 : FrM x I' (u2 I' 123 (x + 8 + i) (nI v)) := FrM.rf.u2 (by omega)
      rw [show nI i + (1 : Int32) = nI (i + 1) from nI_1 i]
      refine ih _ (hf.tr hf2) (X'.fr hf2.1 ?_ (trS_w wM _))
      rw [← hts, ← hv]
      exact hM.str wL b4.1 v
    have up : (if M 4 i ≠ 0 ∧ s / 2 ^ (M 4 i - 1) % 2 = 0 then M 3 i - 1 else min (L 8 i) (M 3 i + 1)) = min (L 8 i) (M 3 i + 1) → Ev (d + 1) mX5_tire 136 56 [some (.ref 122), some (.int (nI x)), some (.int (nI s)), some (.int (nI i)), some (.int (oV (M 4 i))), none] [.int (nI (M 3 i) + 1)] 136 I' G J Φ := by
      intro hu
      rw [show nI (M 3 i) + (1 : Int32) = nI (M 3 i + 1) from nI_1 _]
      refine w_X5_tire_56 hG _ _ _ _ _ ⟨fun _ => ⟨v6, ?_⟩, fun z => absurd (nI_pos' (by omega)) z⟩
      rw [e2, nI_clamp (n := i) (by omega), nI_clamp (n := x + 8 + i) (by omega), hL.2.2.2 i hi, nI_leI (by omega) (by omega)]
      refine ⟨fun z => ⟨v8, go _ (by rw [hu]; omega)⟩, fun z => ⟨v6, v8, go _ (by rw [hu]; omega)⟩⟩
    refine w_X5_tire_2 hG _ _ _ ⟨fun q => ?_, fun _ => ?_⟩
    · rw [hL.1.2.2.1, nI_leI (by omega) (by omega)] at q
      omega
    · rw [e1, e2, nI_clamp (n := x + 11 + i) (by omega), nI_clamp (n := x + 8 + i) (by omega), g3, g4]
      refine ⟨v11, v8, fun q => up ?_, fun q => ?_⟩
      · have : M 4 i = 0 := by
          have h9 : oV (M 4 i) = oV 0 := q
          rw [oV_inj (by omega) (by omega)] at h9
          exact h9
        rw [if_neg (fun z => z.1 this)]
      · have q0 : M 4 i ≠ 0 := fun z => q (by rw [z]; rfl)
        have eo : oV (M 4 i) = nI (M 4 i - 1) := if_neg q0
        have hh9 : Ev d mX5_has 136 0 [some (.int (nI s)), some (.int (oV (M 4 i)))] [] 136 I' G J (fun r n I5 G5 J5 => ∃ v5 : Int32, r = some (.int v5) ∧ n = 136 ∧ I' = I5 ∧ G = G5 ∧ J = J5 ∧ ((¬ v5 = 0 → Ev (d + 1) mX5_tire 136 56 [some (.ref 122), some (.int (nI x)), some (.int (nI s)), some (.int (nI i)), some (.int (oV (M 4 i))), none] [.int (nI (M 3 i) + 1)] 136 I' G J Φ) ∧ (v5 = 0 → Ev (d + 1) mX5_tire 136 56 [some (.ref 122), some (.int (nI x)), some (.int (nI s)), some (.int (nI i)), some (.int (oV (M 4 i))), none] [.int (nI (M 3 i) + (-1))] 136 I' G J Φ))) := by
          rw [show some (Value.int (oV (M 4 i))) = some (Value.int (nI (M 4 i - 1))) by rw [eo]]
          refine m_has hG hs (by omega) ⟨_, rfl, rfl, rfl, rfl, rfl, ?_⟩
          rw [if01]
          refine ⟨fun z => ?_, fun z => ?_⟩
          · have := up (by rw [if_neg (fun y => z (by omega))])
            rw [eo] at this
            exact this
          · have hdn : (if M 4 i ≠ 0 ∧ s / 2 ^ (M 4 i - 1) % 2 = 0 then M 3 i - 1 else min (L 8 i) (M 3 i + 1)) = M 3 i - 1 := if_pos ⟨q0, by omega⟩
            have em := m1_ge (a := M 3 i) (by omega)
            refine w_X5_tire_56 hG _ _ _ _ _ ⟨fun z2 => ⟨v6, ?_⟩, fun z2 => ⟨by rw [e2]; exact v8, ?_⟩⟩
            · have : 1 ≤ M 3 i := em.mp z2
              have e5 : nI (M 3 i) + (-1 : Int32) = nI (M 3 i - 1) := sb_m1 (by omega)
              rw [e2, nI_clamp (n := i) (by omega), nI_clamp (n := x + 8 + i) (by omega), hL.2.2.2 i hi, e5, nI_leI (by omega) (by omega)]
              exact ⟨fun _ => ⟨v8, go _ hdn.symm⟩, fun y => absurd (by omega) y⟩
            · have : ¬ 1 ≤ M 3 i := fun y => z2 (em.mpr y)
              rw [e2, nI_clamp (by omega)]
              exact go 0 (by rw [hdn]; omega)
        exact hh9
end MOD2b
