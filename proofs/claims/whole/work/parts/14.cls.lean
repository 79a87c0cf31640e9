/-! ===== what the methods of Land and Moment answer ===== -/
section CLS
variable {d : Nat} {I : MI} {G : MG} {J : MJ} {Φ : Ph} {a c : Nat} {L : Ld} {M : Mo}
theorem s_hasHill (X : Cl I G a L) (x : Int32) (k : Φ (some (.int (if 0 ≤ x ∧ x < nI (L 0 0) then 1 else 0))) 136 I G J) : Ev d mX1_hasHill 136 0 [some (.ref a), some (.int x)] [] 136 I G J Φ := by
  obtain ⟨hG, ha, hL, wL⟩ := X
  refine w_X1_hasHill hG ha x ?_
  rw [hL.1.1]
  refine ⟨fun q => ?_, fun q => ⟨fun q2 => ?_, fun q2 => ?_⟩⟩
  · rwa [if_neg (fun z => (Int32.not_le.mpr q) z.1)] at k
  · rwa [if_neg (fun z => (Int32.not_le.mpr z.2) q2)] at k
  · rwa [if_pos ⟨Int32.not_lt.mp q, Int32.not_le.mp q2⟩] at k
theorem s_hasMan (X : Cl I G a L) (x : Int32) (k : Φ (some (.int (if 0 ≤ x ∧ x < nI (L 0 2) then 1 else 0))) 136 I G J) : Ev d mX1_hasMan 136 0 [some (.ref a), some (.int x)] [] 136 I G J Φ := by
  obtain ⟨hG, ha, hL, wL⟩ := X
  refine w_X1_hasMan hG ha x ?_
  rw [hL.1.2.2.1]
  refine ⟨fun q => ?_, fun q => ⟨fun q2 => ?_, fun q2 => ?_⟩⟩
  · rwa [if_neg (fun z => (Int32.not_le.mpr q) z.1)] at k
  · rwa [if_neg (fun z => (Int32.not_le.mpr z.2) q2)] at k
  · rwa [if_pos ⟨Int32.not_lt.mp q, Int32.not_le.mp q2⟩] at k
theorem s_isOver (X : Cm I G a c L M) {h : Nat} (hh : h < L 0 0) (k : Φ (some (.int (if ovr L M h then 1 else 0))) 136 I G J) : Ev d mX2_isOver 136 0 [some (.ref c), some (.ref a), some (.int (nI h))] [] 136 I G J Φ := by
  obtain ⟨hG, hc, ha, hL, hM, wL, wM⟩ := X
  have b := wL.h hh
  have b2 := (wM.2.2.1 h hh).1
  refine w_X2_isOver hG hc ha _ ⟨vp_in_nI b.1 (by decide), vp_in_nI b.1 (by decide), ?_⟩
  rw [nI_clamp (by omega), (hM.2.1 h hh).1, (hL.2.1 h hh).1, nI_ltI (by omega) (by omega)]
  unfold ovr at k
  simp only [decide_eq_true_eq] at k
  refine ⟨fun q => ?_, fun q => ?_⟩
  · rwa [if_neg (by omega)] at k
  · rwa [if_pos (by omega)] at k
theorem s_sizeNow (X : Cm I G a c L M) {h : Nat} (hh : h < L 0 0) (k : Φ (some (.int (nI (szN L M h)))) 136 I G J) : Ev (d + 1) mX2_sizeNow 136 0 [some (.ref c), some (.ref a), some (.int (nI h))] [] 136 I G J Φ := by
  obtain ⟨hG, hc, ha, hL, hM, wL, wM⟩ := X
  have b := wL.h hh
  have b2 := (wM.2.2.1 h hh).2
  have b3 := wM.1
  refine w_X2_sizeNow hG hc ha _ ⟨vp_in_nI b.1 (by decide), vp_in_nI b.1 (by decide), ?_⟩
  rw [nI_clamp (by omega), (hM.2.1 h hh).2, (hL.2.1 h hh).2.2.2]
  have e := max_sub (s := L 4 h) (q := M 2 h / 8) (m := 1) (by omega) (by omega) (by omega)
  rw [show (8 : Int32) = nI 8 from rfl, show (1 : Int32) = nI 1 from rfl, pk_div (by omega) (by omega) (by omega), e]
  exact k
theorem s_needOf (X : Cm I G a c L M) {h : Nat} (hh : h < L 0 0) (k : Φ (some (.int (nI (ndN L M h)))) 136 I G J) : Ev (d + 2) mX2_needOf 136 0 [some (.ref c), some (.ref a), some (.int (nI h))] [] 136 I G J Φ := by
  have X' := X
  obtain ⟨hG, hc, ha, hL, hM, wL, wM⟩ := X
  have b := wL.h hh
  refine w_X2_needOf hG hc ha _ (s_sizeNow X' hh ⟨_, rfl, rfl, rfl, rfl, rfl, vp_in_nI b.1 (by decide), ?_⟩)
  rw [nI_clamp (by omega), (hL.2.1 h hh).2.1, nI_add]
  exact k
theorem s_hoursLeft (X : Cm I G a c L M) (k : Φ (some (.int (nI (L 0 3 - M 0 1)))) 136 I G J) : Ev d mX2_hoursLeft 136 0 [some (.ref c), some (.ref a)] [] 136 I G J Φ := by
  obtain ⟨hG, hc, ha, hL, hM, wL, wM⟩ := X
  refine w_X2_hoursLeft hG hc ha ?_
  rw [hL.1.2.2.2.1, hM.1.2, pk_sub wM.2.1]
  exact k
theorem s_menAt (X : Cm I G a c L M) {h : Nat} (hh : h < L 0 0) (k : Φ (some (.int (nI (mnA L M h)))) 136 I G J) : Ev d mX2_menAt 136 0 [some (.ref c), some (.ref a), some (.int (nI h)), none, none] [] 136 I G J Φ := by
  obtain ⟨hG, hc, ha, hL, hM, wL, wM⟩ := X
  have b := wL.h hh
  have b3 := wL.2.2.1
  refine w_X2_menAt hG hc ha _ ?_
  refine down_ind (E := fun i => Ev d mX2_menAt 136 5 [some (.ref c), some (.ref a), some (.int (nI h)), some (.int (nI (sumN (fun m => if M 4 m = h + 1 then 1 else 0) i))), some (.int (nI i))] [] 136 I G J Φ) (L 0 2) ?_ ?_ 0 (Nat.zero_le _)
  · refine w_X2_menAt_5 hG hc ha _ _ _ ⟨fun _ => k, fun q => absurd ?_ q⟩
    rw [hL.1.2.2.1]
    exact nI_le (Nat.le_refl _) (by omega)
  · intro i hi ih
    have b4 := wL.m hi
    refine w_X2_menAt_5 hG hc ha _ _ _ ⟨fun q => ?_, fun _ => ⟨vp_in_nI b4.1 (by decide), ?_⟩⟩
    · rw [hL.1.2.2.1, nI_leI (by omega) (by omega)] at q
      omega
    · rw [nI_clamp (by omega), (hM.2.2 i hi).2, oV_h (by have := (wM.2.2.2 i hi).2; have := wL.1; omega) b.1]
      rw [show nI i + (1 : Int32) = nI (i + 1) from nI_1 i]
      rw [sumN] at ih
      refine ⟨fun q => ?_, fun q => ?_⟩
      · rwa [if_neg q, Nat.add_zero] at ih
      · rw [if_pos q] at ih
        rw [show (1 : Int32) = nI 1 from rfl, nI_add]
        exact ih
theorem s_strengthAt (X : Cm I G a c L M) {h : Nat} (hh : h < L 0 0) (k : Φ (some (.int (nI (stA L M h)))) 136 I G J) : Ev d mX2_strengthAt 136 0 [some (.ref c), some (.ref a), some (.int (nI h)), none, none] [] 136 I G J Φ := by
  obtain ⟨hG, hc, ha, hL, hM, wL, wM⟩ := X
  have b := wL.h hh
  have b3 := wL.2.2.1
  refine w_X2_strengthAt hG hc ha _ ?_
  refine down_ind (E := fun i => Ev d mX2_strengthAt 136 5 [some (.ref c), some (.ref a), some (.int (nI h)), some (.int (nI (sumN (fun m => if M 4 m = h + 1 then M 3 m else 0) i))), some (.int (nI i))] [] 136 I G J Φ) (L 0 2) ?_ ?_ 0 (Nat.zero_le _)
  · refine w_X2_strengthAt_5 hG hc ha _ _ _ ⟨fun _ => k, fun q => absurd ?_ q⟩
    rw [hL.1.2.2.1]
    exact nI_le (Nat.le_refl _) (by omega)
  · intro i hi ih
    have b4 := wL.m hi
    refine w_X2_strengthAt_5 hG hc ha _ _ _ ⟨fun q => ?_, fun _ => ⟨vp_in_nI b4.1 (by decide), ?_⟩⟩
    · rw [hL.1.2.2.1, nI_leI (by omega) (by omega)] at q
      omega
    · rw [nI_clamp (by omega), (hM.2.2 i hi).2, oV_h (by have := (wM.2.2.2 i hi).2; have := wL.1; omega) b.1]
      rw [show nI i + (1 : Int32) = nI (i + 1) from nI_1 i]
      rw [sumN] at ih
      refine ⟨fun q => ?_, fun q => ⟨vp_in_nI b4.1 (by decide), ?_⟩⟩
      · rwa [if_neg q, Nat.add_zero] at ih
      · rw [if_pos q] at ih
        rw [(hM.2.2 i hi).1, nI_add]
        exact ih
end CLS
