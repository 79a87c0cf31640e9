/-! ===== more of Land and Moment ===== -/
def saN (L : Ld) (M : Mo) (t : Nat) : Nat := sumN (fun m => M 3 m - t) (L 0 2)
def foN (L : Ld) (s : Nat) : Nat := sumN (fun m => if s / 2 ^ m % 2 = 1 then L 8 m else 0) (L 0 2)
def ovN (L : Ld) (M : Mo) : Nat := bitsN (ovr L M) (L 0 0)
section CLS2
variable {d : Nat} {I : MI} {G : MG} {J : MJ} {Φ : Ph} {a c : Nat} {L : Ld} {M : Mo}
theorem s_strengthAfter (X : Cm I G a c L M) {t : Nat} (ht : t < 1000) (k : Φ (some (.int (nI (saN L M t)))) 136 I G J) : Ev (d + 1) mX2_strengthAfter 136 0 [some (.ref c), some (.ref a), some (.int (nI t)), none, none] [] 136 I G J Φ := by
  obtain ⟨hG, hc, ha, hL, hM, wL, wM⟩ := X
  have b3 := wL.2.2.1
  refine w_X2_strengthAfter hG hc ha _ ?_
  refine down_ind (E := fun i => Ev (d + 1) mX2_strengthAfter 136 5 [some (.ref c), some (.ref a), some (.int (nI t)), some (.int (nI (sumN (fun m => M 3 m - t) i))), some (.int (nI i))] [] 136 I G J Φ) (L 0 2) ?_ ?_ 0 (Nat.zero_le _)
  · refine w_X2_strengthAfter_5 hG hc ha _ _ _ ⟨fun _ => k, fun q => absurd ?_ q⟩
    rw [hL.1.2.2.1]
    exact nI_le (Nat.le_refl _) (by omega)
  · intro i hi ih
    have b4 := wL.m hi
    have b5 := (wM.2.2.2 i hi).1
    refine w_X2_strengthAfter_5 hG hc ha _ _ _ ⟨fun q => ?_, fun _ => ⟨vp_in_nI b4.1 (by decide), ?_⟩⟩
    · rw [hL.1.2.2.1, nI_leI (by omega) (by omega)] at q
      omega
    · have e := max_sub (s := M 3 i) (q := t) (m := 0) (by omega) (by omega) (by omega)
      rw [nI_clamp (by omega), (hM.2.2 i hi).1, show (0 : Int32) = nI 0 from rfl, e, nI_add, show nI i + (1 : Int32) = nI (i + 1) from nI_1 i, show max 0 (M 3 i - t) = M 3 i - t by omega]
      exact ih
theorem s_isOnePlace (X : Cl I G a L) {x y p : Nat} (hx : x < 4) (hy : y < 4) (hp : p < 100) (k : Φ (some (.int (if onP L x y p then 1 else 0))) 136 I G J) : Ev d mX1_isOnePlace 136 0 [some (.ref a), some (.int (nI x)), some (.int (nI y)), some (.int (nI p)), none, none] [] 136 I G J Φ := by
  obtain ⟨hG, ha, hL, wL⟩ := X
  have b3 := wL.2.1
  have b0 := wL.1
  refine w_X1_isOnePlace hG ha _ _ _ ?_
  unfold onP at k
  have key : ∀ i, i ≤ L 0 1 → (anyN (joi L x y p) i = false → Ev d mX1_isOnePlace 136 3 [some (.ref a), some (.int (nI x)), some (.int (nI y)), some (.int (nI p)), some (.int (nI i)), none] [] 136 I G J Φ) := by
    refine down_ind (E := fun i => (anyN (joi L x y p) i = false → Ev d mX1_isOnePlace 136 3 [some (.ref a), some (.int (nI x)), some (.int (nI y)), some (.int (nI p)), some (.int (nI i)), none] [] 136 I G J Φ)) (L 0 1) ?_ ?_
    · intro hf
      refine w_X1_isOnePlace_3 hG ha _ _ _ _ ⟨fun _ => ?_, fun q => absurd ?_ q⟩
      · rw [hf] at k; exact k
      · rw [hL.1.2.1]
        exact nI_le (Nat.le_refl _) (by omega)
    · intro i hi ih hf
      have b4 := wL.j hi
      obtain ⟨e1, e2, e3⟩ := hL.2.2.1 i hi
      have hT : joi L x y p i = true → Φ (some (.int 1)) 136 I G J := by
        intro hj
        rw [(anyN_iff _ _).mpr ⟨i, hi, hj⟩] at k
        exact k
      have hF : joi L x y p i = false → Ev d mX1_isOnePlace 136 3 [some (.ref a), some (.int (nI x)), some (.int (nI y)), some (.int (nI p)), some (.int (nI i + 1)), none] [] 136 I G J Φ := by
        intro hj
        rw [show nI i + (1 : Int32) = nI (i + 1) from nI_1 i]
        exact ih (by rw [anyN, hf, hj]; rfl)
      refine w_X1_isOnePlace_3 hG ha _ _ _ _ ⟨fun q => ?_, fun _ => ?_⟩
      · rw [hL.1.2.1, nI_leI (by omega) (by omega)] at q
        omega
      · have v : vp_in (nI i) 4 := vp_in_nI b4.1 (by decide)
        simp only [nI_clamp (show i < 2 ^ 31 by omega), e1, e2, e3, nI_eq (show L 5 i < 2 ^ 31 by omega) (show x < 2 ^ 31 by omega), nI_eq (show L 6 i < 2 ^ 31 by omega) (show y < 2 ^ 31 by omega), nI_eq (show L 5 i < 2 ^ 31 by omega) (show y < 2 ^ 31 by omega), nI_eq (show L 6 i < 2 ^ 31 by omega) (show x < 2 ^ 31 by omega), nI_ltI (show p < 2 ^ 31 by omega) (show L 7 i < 2 ^ 31 by omega), v, true_and]
        unfold joi at hT hF
        simp only [decide_eq_true_eq, decide_eq_false_iff_not] at hT hF
        repeat' (first | exact hF (by omega) | exact hT (by omega) | refine And.intro (fun _ => ?_) (fun _ => ?_))
  exact key 0 (Nat.zero_le _) rfl
theorem s_overBits (X : Cm I G a c L M) (k : Φ (some (.int (nI (ovN L M)))) 136 I G J) : Ev (d + 1) mX2_overBits 136 0 [some (.ref c), some (.ref a), none, none] [] 136 I G J Φ := by
  have X' := X
  obtain ⟨hG, hc, ha, hL, hM, wL, wM⟩ := X
  have b0 := wL.1
  refine w_X2_overBits hG hc ha ?_
  refine down_ind (E := fun i => Ev (d + 1) mX2_overBits 136 4 [some (.ref c), some (.ref a), some (.int (nI (bitsN (ovr L M) i))), some (.int (nI i))] [] 136 I G J Φ) (L 0 0) ?_ ?_ 0 (Nat.zero_le _)
  · refine w_X2_overBits_4 hG hc ha _ _ ⟨fun _ => k, fun q => absurd ?_ q⟩
    rw [hL.1.1]
    exact nI_le (Nat.le_refl _) (by omega)
  · intro i hi ih
    have b4 := wL.h hi
    refine w_X2_overBits_4 hG hc ha _ _ ⟨fun q => ?_, fun _ => ?_⟩
    · rw [hL.1.1, nI_leI (by omega) (by omega)] at q
      omega
    · refine s_isOver X' hi ⟨_, rfl, rfl, rfl, rfl, rfl, ?_⟩
      rw [if01, show nI i + (1 : Int32) = nI (i + 1) from nI_1 i, show (1 : Int32) = nI 1 from rfl, nshl (by omega) (by have : 2 ^ i ≤ 2 ^ 3 := Nat.pow_le_pow_right (by decide) (by omega); omega), Nat.one_mul, nor, bitsN_or]
      rw [bitsN] at ih
      refine ⟨fun q => ?_, fun q => ?_⟩
      · rwa [if_neg q, Nat.add_zero] at ih
      · rwa [if_pos (Decidable.not_not.mp q)] at ih
theorem s_blockersAt (X : Cm I G a c L M) {h p : Nat} (hh : h < L 0 0) (hp : p < 100) (k : Φ (some (.int (nI (bkN L M h p)))) 136 I G J) : Ev (d + 1) mX2_blockersAt 136 0 [some (.ref c), some (.ref a), some (.int (nI h)), some (.int (nI p)), none, none, none] [] 136 I G J Φ := by
  have X' := X
  obtain ⟨hG, hc, ha, hL, hM, wL, wM⟩ := X
  have b0 := wL.1
  have b := wL.h hh
  refine w_X2_blockersAt hG hc ha _ _ ?_
  refine down_ind (E := fun i => Ev (d + 1) mX2_blockersAt 136 6 [some (.ref c), some (.ref a), some (.int (nI h)), some (.int (nI p)), some (.int (nI (bitsN (bkB L M h p) i))), some (.int (nI i)), none] [] 136 I G J Φ) (L 0 0) ?_ ?_ 0 (Nat.zero_le _)
  · refine w_X2_blockersAt_6 hG hc ha _ _ _ _ ⟨fun _ => k, fun q => absurd ?_ q⟩
    rw [hL.1.1]
    exact nI_le (Nat.le_refl _) (by omega)
  · intro i hi ih
    have b4 := wL.h hi
    have b5 := (wM.2.2.1 i hi).1
    rw [bitsN] at ih
    have hF : bkB L M h p i = false → Ev (d + 1) mX2_blockersAt 136 6 [some (.ref c), some (.ref a), some (.int (nI h)), some (.int (nI p)), some (.int (nI (bitsN (bkB L M h p) i))), some (.int (nI i + 1)), none] [] 136 I G J Φ := by
      intro hb
      rw [hb, if_neg (by decide), Nat.add_zero] at ih
      rw [show nI i + (1 : Int32) = nI (i + 1) from nI_1 i]
      exact ih
    refine w_X2_blockersAt_6 hG hc ha _ _ _ _ ⟨fun q => ?_, fun _ => ⟨fun q1 => ?_, fun q1 => ⟨vp_in_nI b4.1 (by decide), ?_⟩⟩⟩
    · rw [hL.1.1, nI_leI (by omega) (by omega)] at q
      omega
    · rw [nI_eq (by omega) (by omega)] at q1
      exact hF (by simp [bkB, q1])
    · rw [nI_clamp (by omega), (hM.2.1 i hi).1, nI_eq (by omega) (by omega)]
      rw [nI_eq (by omega) (by omega)] at q1
      refine ⟨fun q2 => hF (by simp [bkB, q2]), fun q2 => ?_⟩
      refine s_isOver X' hi ⟨_, rfl, rfl, rfl, rfl, rfl, ?_⟩
      rw [if01]
      refine ⟨fun q3 => hF (by simp [bkB, Decidable.not_not.mp q3]), fun q3 => ?_⟩
      refine s_isOnePlace X'.l b.1 b4.1 hp ⟨_, rfl, rfl, rfl, rfl, rfl, ?_⟩
      rw [if01]
      refine ⟨fun q4 => hF (by simp [bkB, q4]), fun q4 => ?_⟩
      rw [if_pos (by simp [bkB, q1, q2, q3, Decidable.not_not.mp q4])] at ih
      rw [show nI i + (1 : Int32) = nI (i + 1) from nI_1 i, show (1 : Int32) = nI 1 from rfl, nshl (by omega) (by have : 2 ^ i ≤ 2 ^ 3 := Nat.pow_le_pow_right (by decide) (by omega); omega), Nat.one_mul, nor, bitsN_or]
      exact ih
theorem bkN_lt {h p : Nat} (w : WLd L) : bkN L M h p < 16 := by
  have h1 := bitsN_lt (bkB L M h p) (L 0 0)
  have h2 : 2 ^ L 0 0 ≤ 2 ^ 4 := Nat.pow_le_pow_right (by decide) w.1
  unfold bkN
  omega
theorem stA_le (w : WLd L) (wM : WMo L M) (h : Nat) : stA L M h ≤ 27 := by
  have h1 := sumN_le (f := fun m => if M 4 m = h + 1 then M 3 m else 0) (b := 9) (n := L 0 2) (fun i hi => by
    have := (wM.2.2.2 i hi).1
    have := w.m hi
    split <;> omega)
  have := w.2.2.1
  unfold stA
  omega
theorem szN_le (w : WLd L) {h : Nat} (hh : h < L 0 0) : 1 ≤ szN L M h ∧ szN L M h ≤ 9 := by
  have := w.h hh
  unfold szN
  omega
theorem s_canComeUp (X : Cm I G a c L M) {h : Nat} (hh : h < L 0 0) (k : Φ (some (.int (if can L M h then 1 else 0))) 136 I G J) : Ev (d + 3) mX2_canComeUp 136 0 [some (.ref c), some (.ref a), some (.int (nI h))] [] 136 I G J Φ := by
  have X' := X
  obtain ⟨hG, hc, ha, hL, hM, wL, wM⟩ := X
  have b := wL.h hh
  have b5 := (wM.2.2.1 h hh).1
  have g1 := bkN_lt (M := M) (h := h) (p := M 1 h + 1) wL
  have g2 := stA_le wL wM h
  have g3 := szN_le (M := M) wL hh
  have g4 : ndN L M h ≤ 14 := by unfold ndN; omega
  refine w_X2_canComeUp hG hc ha _ (s_isOver X' hh ⟨_, rfl, rfl, rfl, rfl, rfl, ?_⟩)
  rw [if01]
  refine ⟨fun q => ?_, fun q => ?_⟩
  · rw [if_neg (by simp [can, Decidable.not_not.mp q])] at k
    exact k
  · refine s_strengthAt X' hh ⟨_, rfl, rfl, rfl, rfl, rfl, s_needOf X' hh ⟨_, rfl, rfl, rfl, rfl, rfl, ?_⟩⟩
    rw [nI_ltI (by omega) (by omega)]
    refine ⟨fun q2 => ?_, fun q2 => ⟨vp_in_nI b.1 (by decide), ?_⟩⟩
    · rw [if_neg (by simp [can]; omega)] at k
      exact k
    · rw [nI_clamp (by omega), (hM.2.1 h hh).1, show (1 : Int32) = nI 1 from rfl, nI_add]
      refine s_blockersAt X' hh (by omega) ⟨_, rfl, rfl, rfl, rfl, rfl, ?_⟩
      rw [show (0 : Int32) = nI 0 from rfl, nI_eq (by omega) (by omega)]
      refine ⟨fun q3 => ?_, fun q3 => ?_⟩
      · rw [if_neg (by simp [can, q3])] at k
        exact k
      · rw [if_pos (by simp [can, q, q3]; omega)] at k
        exact k
end CLS2
