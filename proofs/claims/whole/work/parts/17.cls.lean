/-! ===== an hour, a day, a dusk ===== -/
section CLS4
variable {d : Nat} {I : MI} {G : MG} {J : MJ} {Φ : Ph} {a c : Nat} {L : Ld} {M : Mo}
theorem phM_w (wL : WLd L) (w : WMo L M) (hh : M 0 1 < L 0 3) : WMo L (phM L M) := by
  obtain ⟨w1, w2, w3, w4⟩ := trM_w (M0 := M) wL (hpM_w w (L 0 0)) (L 0 2)
  refine ⟨by rw [phM, u2_ne _ _ (by omega)]; exact w1, by rw [phM, u2_at]; omega, fun h hh => ?_, fun m hm => ?_⟩
  · rw [phM, u2_row _ _ _ (show (1 : Nat) ≠ 0 by decide), u2_row _ _ _ (show (2 : Nat) ≠ 0 by decide)]
    exact w3 h hh
  · rw [phM, u2_row _ _ _ (show (3 : Nat) ≠ 0 by decide), u2_row _ _ _ (show (4 : Nat) ≠ 0 by decide)]
    exact w4 m hm
theorem s_passHour (X : Cm I G a c L M) (hlt : M 0 1 < L 0 3) (k : ∀ I', Fr c I I' → Cm I' G a c L (phM L M) → Φ (some (.int (nI (hpM L M (L 0 0)).2))) 136 I' G J) : Ev (d + 4) mX2_passHour 136 0 [some (.ref c), some (.ref a), none, none, none, none] [] 136 I G J Φ := by
  have hG := X.1
  have hc := X.2.1
  have ha := X.2.2.1
  have wL := X.2.2.2.2.2.1
  have wM := X.2.2.2.2.2.2
  have b3 := wL.2.2.1
  have b0 := wL.1
  have bov : ovN L M < 2 ^ 31 := by
    have h1 := bitsN_lt (ovr L M) (L 0 0)
    have h2 : 2 ^ L 0 0 ≤ 2 ^ 4 := Nat.pow_le_pow_right (by decide) wL.1
    unfold ovN
    omega
  refine w_X2_passHour hG hc ha (s_overBits X ⟨_, rfl, rfl, rfl, rfl, rfl, ?_⟩)
  refine down_ind (E := fun i => ∀ I', Fr c I I' → Cm I' G a c L (hpM L M i).1 → Ev (d + 4) mX2_passHour 136 11 [some (.ref c), some (.ref a), some (.int (nI (ovN L M))), some (.int (nI (hpM L M i).2)), some (.int (nI i)), none] [] 136 I' G J Φ) (L 0 0) ?_ ?_ 0 (Nat.zero_le _) I Fr.rf X
  · intro I1 hf1 X1
    refine w_X2_passHour_11 hG hc ha _ _ _ ⟨fun _ => ?_, fun q => absurd ?_ q⟩
    rotate_left
    · rw [X1.2.2.2.1.1.1]
      exact nI_le (Nat.le_refl _) (by omega)
    refine down_ind (E := fun i => ∀ I', Fr c I I' → Cm I' G a c L (trM L M (hpM L M (L 0 0)).1 i) → Ev (d + 4) mX2_passHour 136 53 [some (.ref c), some (.ref a), some (.int (nI (ovN L M))), some (.int (nI (hpM L M (L 0 0)).2)), some (.int (nI i)), none] [] 136 I' G J Φ) (L 0 2) ?_ ?_ 0 (Nat.zero_le _) I1 hf1 (by rw [trM_0]; exact X1)
    · intro I' hf X'
      obtain ⟨-, -, -, hL, hM, -, wM'⟩ := id X'
      refine w_X2_passHour_53 hG hc ha _ _ _ ⟨fun _ => ?_, fun q => absurd ?_ q⟩
      · have hf2 : Fr c I' (u2 I' c 1 (I' c 1 + 1)) := Fr.rf.u2 (by omega) (by omega)
        have e0 : trM L M (hpM L M (L 0 0)).1 (L 0 2) 0 1 = M 0 1 := by
          simp only [trM, show ¬ (0 = 3) by decide, false_and, if_false]
          rw [hpM_t L M 0 (by decide)]
        refine k _ (hf.tr hf2) (X'.fr hf2 ?_ (phM_w wL wM hlt))
        rw [hM.1.2, e0, show nI (M 0 1) + (1 : Int32) = nI (M 0 1 + 1) from nI_1 _]
        exact hM.hour _
      · rw [hL.1.2.2.1]
        exact nI_le (Nat.le_refl _) (by omega)
    · intro i hi ih I' hf X'
      obtain ⟨-, -, -, hL, hM, -, wM'⟩ := id X'
      have b4 := wL.m hi
      have b5 := (wM'.2.2.2 i hi)
      have v : vp_in (nI i) 3 := vp_in_nI b4.1 (by decide)
      have e3 : trM L M (hpM L M (L 0 0)).1 i 3 i = M 3 i := by
        simp only [trM, Nat.lt_irrefl, and_false, if_false]
        rw [hpM_t L M 3 (by decide)]
      have e4 : trM L M (hpM L M (L 0 0)).1 i 4 i = M 4 i := by
        simp only [trM, show ¬ (4 = 3) by decide, false_and, if_false]
        rw [hpM_t L M 4 (by decide)]
      have f4 : (hpM L M (L 0 0)).1 4 i = M 4 i := by rw [hpM_t L M 4 (by decide)]
      have f3 : (hpM L M (L 0 0)).1 3 i = M 3 i := by rw [hpM_t L M 3 (by decide)]
      rw [e3, e4] at b5
      have g3 := (hM.2.2 i hi).1
      have g4 := (hM.2.2 i hi).2
      rw [e3] at g3
      rw [e4] at g4
      have hts := trM_s L M (hpM L M (L 0 0)).1 i
      rw [f3, f4] at hts
      have go : ∀ v : Nat, v = (if M 4 i ≠ 0 ∧ ovr L M (M 4 i - 1) = false then M 3 i - 1 else min (L 8 i) (M 3 i + 1)) → Ev (d + 4) mX2_passHour 136 53 [some (.ref c), some (.ref a), some (.int (nI (ovN L M))), some (.int (nI (hpM L M (L 0 0)).2)), some (.int (nI i + 1)), none] [] 136 (u2 I' (c + 3) i (nI v)) G J Φ := by
        intro v hv
        have hf2 : Fr c I' (u2 I' (c + 3) i (nI v)) := Fr.rf.u2 (by omega) (by omega)
        rw [show nI i + (1 : Int32) = nI (i + 1) from nI_1 i]
        refine ih _ (hf.tr hf2) (X'.fr hf2 ?_ (trM_w wL (hpM_w wM _) _))
        rw [← hts, ← hv]
        exact hM.str i v
      refine w_X2_passHour_53 hG hc ha _ _ _ ⟨fun q => ?_, fun _ => ⟨v, s_hasHill X'.l _ ⟨_, rfl, rfl, rfl, rfl, rfl, ?_⟩⟩⟩
      · rw [hL.1.2.2.1, nI_leI (by omega) (by omega)] at q
        omega
      · rw [if01, nI_clamp (by omega), g3, g4, hL.2.2.2 i hi]
        have hmin : (if nI (M 3 i) + (1 : Int32) < nI (L 8 i) then nI (M 3 i) + 1 else nI (L 8 i)) = nI (min (L 8 i) (M 3 i + 1)) := by
          rw [show nI (M 3 i) + (1 : Int32) = nI (M 3 i + 1) from nI_1 _]
          by_cases e : M 3 i + 1 < L 8 i
          · rw [if_pos ((nI_ltI (by omega) (by omega)).mpr e), show min (L 8 i) (M 3 i + 1) = M 3 i + 1 by omega]
          · rw [if_neg (fun z => e ((nI_ltI (by omega) (by omega)).mp z)), show min (L 8 i) (M 3 i + 1) = L 8 i by omega]
        have hmax : (if (0 : Int32) < nI (M 3 i) - 1 then nI (M 3 i) - 1 else 0) = nI (M 3 i - 1) := by
          have := max_sub (s := M 3 i) (q := 1) (m := 0) (by omega) (by omega) (by omega)
          rw [show (0 : Int32) = nI 0 from rfl, show (1 : Int32) = nI 1 from rfl, this, show max 0 (M 3 i - 1) = M 3 i - 1 by omega]
        rw [hmin, hmax]
        have hB : (0 ≤ oV (M 4 i) ∧ oV (M 4 i) < nI (L 0 0)) ↔ M 4 i ≠ 0 := by
          by_cases e : M 4 i = 0
          · rw [e]
            exact ⟨fun z => absurd z.1 (by decide), fun z => absurd rfl z⟩
          · unfold oV
            rw [if_neg e, nI_ltI (by omega) (by omega)]
            exact ⟨fun _ => e, fun _ => ⟨nI_pos' (by omega), by omega⟩⟩
        rw [hB]
        refine ⟨fun q => ⟨v, v, v, ?_⟩, fun q => ⟨v, ?_⟩⟩
        · exact go _ (by rw [if_neg (fun z => q z.1)])
        · have q0 : M 4 i ≠ 0 := fun z => q (fun y => y z)
          have hsh : (nI (ovN L M) >>> (oV (M 4 i) &&& 31)) &&& 1 = nI (ovN L M / 2 ^ (M 4 i - 1) % 2) := by
            unfold oV
            rw [if_neg q0, nshr bov (by omega), nand1 (by have := Nat.div_le_self (ovN L M) (2 ^ (M 4 i - 1)); omega)]
          rw [hsh]
          unfold ovN
          rw [bitsN_bit _ (show M 4 i - 1 < L 0 0 by omega)]
          by_cases ho : ovr L M (M 4 i - 1) = true
          · rw [if_pos ho]
            exact ⟨fun _ => ⟨v, v, v, go _ (by rw [if_neg (fun z => by rw [ho] at z; exact absurd z.2 (by decide))])⟩, fun z => absurd z (by decide)⟩
          · rw [if_neg ho]
            exact ⟨fun z => absurd rfl z, fun _ => ⟨v, v, go _ (by rw [if_pos ⟨q0, by simpa using ho⟩])⟩⟩
  · intro i hi ih I' hf X'
    obtain ⟨-, -, -, hL, hM, -, wM'⟩ := id X'
    have b4 := wL.h hi
    have b5 := (wM'.2.2.1 i hi).1
    refine w_X2_passHour_11 hG hc ha _ _ _ ⟨fun q => ?_, fun _ => s_canComeUp X' hi ⟨_, rfl, rfl, rfl, rfl, rfl, ?_⟩⟩
    · rw [hL.1.1, nI_leI (by omega) (by omega)] at q
      omega
    · rw [if01, show nI i + (1 : Int32) = nI (i + 1) from nI_1 i]
      have e1 := hpM_1 L M i
      have e2 := hpM_2 L M i
      have w9 := hpM_w wM (i + 1)
      refine ⟨fun q => ?_, fun q => ⟨vp_in_nI b4.1 (by decide), vp_in_nI b4.1 (by decide), ?_⟩⟩
      · rw [if_neg q] at e1 e2
        have := ih I' hf (by rw [e1]; exact X')
        rw [e2] at this
        exact this
      · rw [if_pos (Decidable.not_not.mp q)] at e1 e2
        have hf2 : Fr c I' (u2 I' (c + 1) i (nI ((hpM L M i).1 1 i + 1))) := Fr.rf.u2 (by omega) (by omega)
        have := ih _ (hf.tr hf2) (X'.fr hf2 (by rw [e1]; exact hM.step i _) w9)
        rw [e2] at this
        rw [nI_clamp (by omega), (hM.2.1 i hi).1, show nI ((hpM L M i).1 1 i) + (1 : Int32) = nI ((hpM L M i).1 1 i + 1) from nI_1 _, show nI (hpM L M i).2 + (1 : Int32) = nI ((hpM L M i).2 + 1) from nI_1 _]
        exact this
end CLS4
