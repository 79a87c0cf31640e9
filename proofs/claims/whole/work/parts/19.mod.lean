/-! ===== the reference: what its small methods answer ===== -/
theorem cmp_lt0 (x y : Int64) : (lg_cmp x y < 0) = (x < y) := by
  unfold lg_cmp
  apply propext
  by_cases h1 : y < x
  · have h1' : x > y := h1
    rw [if_pos h1']
    refine ⟨fun z => absurd z (by decide), fun z => ?_⟩
    rw [Int64.lt_iff_toInt_lt] at h1 z
    omega
  · have h1' : ¬ x > y := h1
    rw [if_neg h1']
    by_cases h2 : x = y
    · rw [if_pos h2]
      refine ⟨fun z => absurd z (by decide), fun z => ?_⟩
      subst h2
      exact absurd z h1
    · rw [if_neg h2]
      refine ⟨fun _ => ?_, fun _ => by decide⟩
      rw [Int64.lt_iff_toInt_lt] at h1 ⊢
      have : x.toInt ≠ y.toInt := fun e => h2 (Int64.toInt_inj.mp e)
      omega
theorem cmp_gt0 (x y : Int64) : (0 < lg_cmp x y) = (y < x) := by
  unfold lg_cmp
  apply propext
  by_cases h1 : y < x
  · have h1' : x > y := h1
    rw [if_pos h1']
    exact ⟨fun _ => h1, fun _ => by decide⟩
  · have h1' : ¬ x > y := h1
    rw [if_neg h1']
    by_cases h2 : x = y
    · rw [if_pos h2]
      exact ⟨fun z => absurd z (by decide), fun z => absurd z h1⟩
    · rw [if_neg h2]
      exact ⟨fun z => absurd z (by decide), fun z => absurd z h1⟩
theorem wide_lt (a b : Int32) : (a.toInt64 < b.toInt64) = (a < b) := by
  apply propext
  rw [Int64.lt_iff_toInt_lt, Int32.lt_iff_toInt_lt, Int32.toInt_toInt64, Int32.toInt_toInt64]
theorem nar01 {P : Prop} [Decidable P] : narrow .boolean (.int (if P then 1 else 0)) = .int (if P then 1 else 0) := by
  by_cases h : P
  · rw [if_pos h]; rfl
  · rw [if_neg h]; rfl
def Ml (I : MI) (G : MG) (L : Ld) : Prop := WG G ∧ RLm I L ∧ WLd L
def Mm (I : MI) (G : MG) (x : Nat) (L : Ld) (M : Mo) : Prop := WG G ∧ RLm I L ∧ RMm I x L M ∧ WLd L ∧ WMo L M ∧ x + 100 ≤ 1400
theorem Mm.l {I : MI} {G : MG} {x : Nat} {L : Ld} {M : Mo} (X : Mm I G x L M) : Ml I G L := ⟨X.1, X.2.1, X.2.2.2.1⟩
section MOD
variable {d : Nat} {I : MI} {G : MG} {J : MJ} {Φ : Ph} {x : Nat} {L : Ld} {M : Mo}
theorem m_in (hG : WG G) (v lo hi : Int64) (k : Φ (some (.int (if ¬ v < lo ∧ ¬ hi < v then 1 else 0))) 136 I G J) : Ev d mX5_in 136 0 [some (.long v), none, some (.long lo), none, some (.long hi), none] [] 136 I G J Φ := by
  refine w_X5_in hG _ _ _ ?_
  rw [cmp_lt0, cmp_gt0]
  refine ⟨fun q => ?_, fun q => ⟨fun q2 => ?_, fun q2 => ?_⟩⟩
  · rwa [if_neg (fun z => z.1 q)] at k
  · rwa [if_neg (fun z => z.2 q2)] at k
  · rwa [if_pos ⟨q, q2⟩] at k
theorem m_one {P : Prop} [Decidable P] (hG : WG G) (k : Φ (some (.int (if P then 1 else 0))) 136 I G J) : Ev d mX5_one 136 0 [some (.int (if P then 1 else 0))] [] 136 I G J Φ := by
  refine w_X5_one hG _ ?_
  rw [if01]
  refine ⟨fun q => ?_, fun q => ?_⟩
  · rwa [if_neg q] at k
  · rwa [if_pos (Decidable.not_not.mp q)] at k
theorem m_has (hG : WG G) {s i : Nat} (hs : s < 2 ^ 31) (hi : i < 32) (k : Φ (some (.int (if s / 2 ^ i % 2 = 1 then 1 else 0))) 136 I G J) : Ev d mX5_has 136 0 [some (.int (nI s)), some (.int (nI i))] [] 136 I G J Φ := by
  have b2 := Nat.div_le_self s (2 ^ i)
  refine w_X5_has hG _ _ ?_
  rw [nshr hs hi, nand1 (by omega), show (1 : Int32) = nI 1 from rfl, nI_eq (by omega) (by omega)]
  refine ⟨fun q => ?_, fun q => ?_⟩
  · rwa [if_neg q] at k
  · rwa [if_pos q] at k
theorem hill_in {n : Nat} (hn : n < 1000) (v : Int32) : (¬ v.toInt64 < 0 ∧ ¬ (nI n - 1).toInt64 < v.toInt64) = (0 ≤ v ∧ v < nI n) := by
  rw [show (0 : Int64) = (0 : Int32).toInt64 from rfl, wide_lt, wide_lt]
  apply propext
  have e : (nI n - 1).toInt = (n : Int) - 1 := by
    have := sub_toI (a := n) (b := 1) (by omega) (by omega)
    exact this
  rw [Int32.not_lt, Int32.not_lt, Int32.le_iff_toInt_le, Int32.le_iff_toInt_le, Int32.lt_iff_toInt_lt, e, toI_nI (by omega)]
  omega
theorem m_isHill (X : Ml I G L) (v : Int32) (k : Φ (some (.int (if 0 ≤ v ∧ v < nI (L 0 0) then 1 else 0))) 136 I G J) : Ev (d + 1) mX5_isHill 136 0 [some (.ref 122), some (.int v)] [] 136 I G J Φ := by
  obtain ⟨hG, hL, wL⟩ := X
  refine w_X5_isHill hG _ (m_in hG _ _ _ ⟨_, rfl, rfl, rfl, rfl, rfl, nar01, ?_⟩)
  have e := hill_in (n := L 0 0) (by have := wL.1; omega) v
  rw [hL.1.1]
  simp only [e]
  exact k
theorem m_isMan (X : Ml I G L) (v : Int32) (k : Φ (some (.int (if 0 ≤ v ∧ v < nI (L 0 2) then 1 else 0))) 136 I G J) : Ev (d + 1) mX5_isMan 136 0 [some (.ref 122), some (.int v)] [] 136 I G J Φ := by
  obtain ⟨hG, hL, wL⟩ := X
  refine w_X5_isMan hG _ (m_in hG _ _ _ ⟨_, rfl, rfl, rfl, rfl, rfl, nar01, ?_⟩)
  have e := hill_in (n := L 0 2) (by have := wL.2.2.1; omega) v
  rw [hL.1.2.2.1]
  simp only [e]
  exact k
theorem m_sizeBy (X : Ml I G L) {h r : Nat} (hh : h < L 0 0) (hr : r < 2 ^ 30) (k : Φ (some (.int (nI (max 1 (L 4 h - r / 8))))) 136 I G J) : Ev d mX5_sizeBy 136 0 [some (.ref 122), some (.int (nI h)), some (.int (nI r)), none] [] 136 I G J Φ := by
  obtain ⟨hG, hL, wL⟩ := X
  have b := wL.h hh
  refine w_X5_sizeBy hG _ _ ⟨vp_in_nI (by omega) (by decide), ?_⟩
  rw [nI_clamp (by omega), (hL.2.1 h hh).2.2.2, show (8 : Int32) = nI 8 from rfl, pk_div (by omega) (by omega) (by omega), show (1 : Int32) = nI 1 from rfl]
  have e : nI 1 ≤ nI (L 4 h) - nI (r / 8) ↔ 1 + r / 8 ≤ L 4 h := by
    rw [Int32.le_iff_toInt_le, sub_toI (by omega) (by omega), toI_nI (by omega)]
    omega
  rw [e]
  refine ⟨fun q => ?_, fun q => ?_⟩
  · rw [pk_sub (by omega)]
    rwa [show max 1 (L 4 h - r / 8) = L 4 h - r / 8 by omega] at k
  · rwa [show max 1 (L 4 h - r / 8) = 1 by omega] at k
theorem m_sizeIn (X : Mm I G x L M) {h : Nat} (hh : h < L 0 0) (k : Φ (some (.int (nI (szN L M h)))) 136 I G J) : Ev (d + 1) mX5_sizeIn 136 0 [some (.ref 122), some (.int (nI x)), some (.int (nI h))] [] 136 I G J Φ := by
  have X' := X.l
  obtain ⟨hG, hL, hM, wL, wM, hx⟩ := X
  have b := wL.h hh
  have b2 := (wM.2.2.1 h hh).2
  have e : (nI x + 4) + nI h = nI (x + 4 + h) := by rw [show (4 : Int32) = nI 4 from rfl, nI_add, nI_add]
  refine w_X5_sizeIn hG _ _ ?_
  rw [e, nI_clamp (by omega), (hM.2.1 h hh).2]
  exact ⟨vp_in_nI (by omega) (by decide), m_sizeBy X' hh (by omega) ⟨_, rfl, rfl, rfl, rfl, rfl, k⟩⟩
theorem m_isOver (X : Mm I G x L M) {h : Nat} (hh : h < L 0 0) (k : Φ (some (.int (if ovr L M h then 1 else 0))) 136 I G J) : Ev d mX5_isOver 136 0 [some (.ref 122), some (.int (nI x)), some (.int (nI h))] [] 136 I G J Φ := by
  obtain ⟨hG, hL, hM, wL, wM, hx⟩ := X
  have b := wL.h hh
  have b2 := (wM.2.2.1 h hh).1
  refine w_X5_isOver hG _ _ ?_
  rw [nI_add, nI_clamp (by omega), nI_clamp (by omega), (hM.2.1 h hh).1, (hL.2.1 h hh).1, nI_eq (by omega) (by omega)]
  unfold ovr at k
  simp only [decide_eq_true_eq] at k
  refine ⟨vp_in_nI (by omega) (by decide), vp_in_nI (by omega) (by decide), fun q => ?_, fun q => ?_⟩
  · rwa [if_neg q] at k
  · rwa [if_pos q] at k
theorem or_bit (p : Nat → Bool) {i : Nat} (hi : i < 4) : nI (bitsN p i) ||| ((if p i = true then (1 : Int32) else 0) <<< (nI i &&& 31)) = nI (bitsN p (i + 1)) := by
  rw [bitsN]
  by_cases h : p i = true
  · rw [if_pos h, if_pos h, show (1 : Int32) = nI 1 from rfl, nshl (by omega) (by have : 2 ^ i ≤ 2 ^ 3 := Nat.pow_le_pow_right (by decide) (by omega); omega), Nat.one_mul, nor, bitsN_or]
  · rw [if_neg h, if_neg h, show (0 : Int32) = nI 0 from rfl, nshl (by omega) (by omega), Nat.zero_mul, nor, Nat.or_zero, Nat.add_zero]
theorem m_overIn (X : Mm I G x L M) (k : Φ (some (.int (nI (ovN L M)))) 136 I G J) : Ev (d + 1) mX5_overIn 136 0 [some (.ref 122), some (.int (nI x)), none, none] [] 136 I G J Φ := by
  have X' := X
  obtain ⟨hG, hL, hM, wL, wM, hx⟩ := X
  have b0 := wL.1
  refine w_X5_overIn hG _ ?_
  refine down_ind (E := fun i => Ev (d + 1) mX5_overIn 136 4 [some (.ref 122), some (.int (nI x)), some (.int (nI (bitsN (ovr L M) i))), some (.int (nI i))] [] 136 I G J Φ) (L 0 0) ?_ ?_ 0 (Nat.zero_le _)
  · refine w_X5_overIn_4 hG _ _ _ ⟨fun _ => k, fun q => absurd ?_ q⟩
    rw [hL.1.1]
    exact nI_le (Nat.le_refl _) (by omega)
  · intro i hi ih
    refine w_X5_overIn_4 hG _ _ _ ⟨fun q => ?_, fun _ => m_isOver X' hi ⟨_, rfl, rfl, rfl, rfl, rfl, m_one hG ⟨_, rfl, rfl, rfl, rfl, rfl, ?_⟩⟩⟩
    · rw [hL.1.1, nI_leI (by omega) (by omega)] at q
      omega
    · rw [show nI i + (1 : Int32) = nI (i + 1) from nI_1 i, or_bit _ (by omega)]
      exact ih
theorem m_over (X : Mm I G 0 L M) (k : Φ (some (.int (nI (ovN L M)))) 136 I G J) : Ev (d + 1) mX5_over 136 0 [some (.ref 122), none, none] [] 136 I G J Φ := by
  have X' := X
  obtain ⟨hG, hL, hM, wL, wM, hx⟩ := X
  have b0 := wL.1
  refine w_X5_over hG ?_
  refine down_ind (E := fun i => Ev (d + 1) mX5_over 136 4 [some (.ref 122), some (.int (nI (bitsN (ovr L M) i))), some (.int (nI i))] [] 136 I G J Φ) (L 0 0) ?_ ?_ 0 (Nat.zero_le _)
  · refine w_X5_over_4 hG _ _ ⟨fun _ => k, fun q => absurd ?_ q⟩
    rw [hL.1.1]
    exact nI_le (Nat.le_refl _) (by omega)
  · intro i hi ih
    refine w_X5_over_4 hG _ _ ⟨fun q => ?_, fun _ => m_isOver X' hi ⟨_, rfl, rfl, rfl, rfl, rfl, m_one hG ⟨_, rfl, rfl, rfl, rfl, rfl, ?_⟩⟩⟩
    · rw [hL.1.1, nI_leI (by omega) (by omega)] at q
      omega
    · rw [show nI i + (1 : Int32) = nI (i + 1) from nI_1 i, or_bit _ (by omega)]
      exact ih
theorem m_pushOf (X : Mm I G x L M) {h : Nat} (hh : h < L 0 0) (k : Φ (some (.int (nI (stA L M h)))) 136 I G J) : Ev d mX5_pushOf 136 0 [some (.ref 122), some (.int (nI x)), some (.int (nI h)), none, none] [] 136 I G J Φ := by
  obtain ⟨hG, hL, hM, wL, wM, hx⟩ := X
  have b := wL.h hh
  have b3 := wL.2.2.1
  refine w_X5_pushOf hG _ _ ?_
  refine down_ind (E := fun i => Ev d mX5_pushOf 136 5 [some (.ref 122), some (.int (nI x)), some (.int (nI h)), some (.int (nI (sumN (fun m => if M 4 m = h + 1 then M 3 m else 0) i))), some (.int (nI i))] [] 136 I G J Φ) (L 0 2) ?_ ?_ 0 (Nat.zero_le _)
  · refine w_X5_pushOf_5 hG _ _ _ _ ⟨fun _ => k, fun q => absurd ?_ q⟩
    rw [hL.1.2.2.1]
    exact nI_le (Nat.le_refl _) (by omega)
  · intro i hi ih
    have b4 := wL.m hi
    have e1 : (nI x + 11) + nI i = nI (x + 11 + i) := by rw [show (11 : Int32) = nI 11 from rfl, nI_add, nI_add]
    have e2 : (nI x + 8) + nI i = nI (x + 8 + i) := by rw [show (8 : Int32) = nI 8 from rfl, nI_add, nI_add]
    refine w_X5_pushOf_5 hG _ _ _ _ ⟨fun q => ?_, fun _ => ?_⟩
    · rw [hL.1.2.2.1, nI_leI (by omega) (by omega)] at q
      omega
    · rw [e1, e2, nI_clamp (by omega), nI_clamp (by omega), (hM.2.2 i hi).1, (hM.2.2 i hi).2, oV_h (by have := (wM.2.2.2 i hi).2; have := wL.1; omega) b.1, show nI i + (1 : Int32) = nI (i + 1) from nI_1 i]
      rw [sumN] at ih
      refine ⟨vp_in_nI (by omega) (by decide), fun q => ?_, fun q => ⟨vp_in_nI (by omega) (by decide), ?_⟩⟩
      · rw [if_neg q] at ih
        rw [show (0 : Int32) = nI 0 from rfl, nI_add]
        exact ih
      · rw [if_pos q] at ih
        rw [nI_add]
        exact ih
theorem m_rainsOn (X : Ml I G L) {n : Nat} (hn : n < 100000) (k : Φ (some (.int (if rnB L n then 1 else 0))) 136 I G J) : Ev (d + 1) mX5_rainsOn 136 0 [some (.ref 122), some (.int (nI n))] [] 136 I G J Φ := by
  obtain ⟨hG, hL, wL⟩ := X
  have b := wL.2.2.2.2.1
  refine w_X5_rainsOn hG _ ?_
  rw [hL.1.2.2.2.2, show (7 : Int32) = nI 7 from rfl, pk_rem (by omega) (by omega) (by omega)]
  refine m_has hG (by omega) (by omega) ⟨_, rfl, rfl, rfl, rfl, rfl, nar01, ?_⟩
  unfold rnB at k
  simp only [decide_eq_true_eq] at k
  exact k
end MOD
