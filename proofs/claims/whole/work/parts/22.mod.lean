/-! ===== the reference: push, orders, dusk ===== -/
theorem can_no {L : Ld} {M : Mo} {h : Nat} (q : stA L M h < szN L M h + L 2 h) : can L M h = false := by
  have : decide (ndN L M h ≤ stA L M h) = false := decide_eq_false (by unfold ndN; omega)
  simp [can, this]
theorem can_yes {L : Ld} {M : Mo} {h : Nat} (q0 : ovr L M h = false) (q : ¬ stA L M h < szN L M h + L 2 h) (q3 : bkN L M h (M 1 h + 1) = 0) : can L M h = true := by
  have : decide (ndN L M h ≤ stA L M h) = true := decide_eq_true (by unfold ndN; omega)
  simp [can, this, q0, q3]
section MOD3
variable {d : Nat} {I : MI} {G : MG} {J : MJ} {Φ : Ph} {x : Nat} {L : Ld} {M : Mo}
theorem m_push (X : Mm I G x L M) (k : ∀ I', FrM x I I' → Mm I' G x L (trM L M (hpM L M (L 0 0)).1 (L 0 2)) → Φ (some (.int (nI (hpM L M (L 0 0)).2))) 136 I' G J) : Ev (d + 2) mX5_push 136 0 [some (.ref 122), some (.int (nI x)), none, none, none, none] [] 136 I G J Φ := by
  have hG := X.1
  have wL := X.2.2.2.1
  have wM := X.2.2.2.2.1
  have hx := X.2.2.2.2.2
  have b0 := wL.1
  have bov : ovN L M < 2 ^ 31 := by
    have h1 := bitsN_lt (ovr L M) (L 0 0)
    have h2 : 2 ^ L 0 0 ≤ 2 ^ 4 := Nat.pow_le_pow_right (by decide) wL.1
    unfold ovN
    omega
  refine w_X5_push hG _ (m_overIn X ⟨_, rfl, rfl, rfl, rfl, rfl, ?_⟩)
  refine down_ind (E := fun i => ∀ I', FrM x I I' → Mm I' G x L (hpM L M i).1 → Ev (d + 2) mX5_push 136 11 [some (.ref 122), some (.int (nI x)), some (.int (nI (ovN L M))), some (.int (nI (hpM L M i).2)), some (.int (nI i)), none] [] 136 I' G J Φ) (L 0 0) ?_ ?_ 0 (Nat.zero_le _) I FrM.rf X
  · intro I1 hf1 X1
    refine w_X5_push_11 hG _ _ _ _ ⟨fun _ => m_tire X1 bov (fun I2 hf2 X2 => ⟨rfl, rfl, rfl, rfl, k I2 (hf1.tr hf2) ?_⟩), fun q => absurd ?_ q⟩
    · rw [trS_ov (fun m hm => by rw [hpM_t L M 4 (by decide)]; exact (wM.2.2.2 m hm).2)] at X2
      exact X2
    · rw [X1.2.1.1.1]
      exact nI_le (Nat.le_refl _) (by omega)
  · intro i hi ih I' hf X'
    obtain ⟨-, hL, hM, -, wM', -⟩ := id X'
    have b4 := wL.h hi
    have b5 := (wM'.2.2.1 i hi).1
    have g1 := bkN_lt (M := (hpM L M i).1) (h := i) (p := (hpM L M i).1 1 i + 1) wL
    have g2 := stA_le wL wM' i
    have g3 := szN_le (M := (hpM L M i).1) wL hi
    have eov : ovr L (hpM L M i).1 i = ovr L M i := by unfold ovr; rw [hpM_out L M (Nat.le_refl _)]
    have v14 : vp_in (nI (x + i)) 1400 := vp_in_nI (by omega) (by decide)
    have w9 := hpM_w wM (i + 1)
    have e1 := hpM_1 L M i
    have e2 := hpM_2 L M i
    have fin : Ev (d + 2) mX5_push 136 80 [some (.ref 122), some (.int (nI x)), some (.int (nI (ovN L M))), some (.int (nI (hpM L M i).2)), some (.int (nI i)), none] [.int (if can L (hpM L M i).1 i then 1 else 0)] 136 I' G J Φ := by
      refine w_X5_push_80 hG _ _ _ _ _ ?_
      rw [nI_add, nI_clamp (n := x + i) (by omega), (hM.2.1 i hi).1]
      refine ⟨v14, m_one hG ⟨_, rfl, rfl, rfl, rfl, rfl, v14, m_one hG ⟨_, rfl, rfl, rfl, rfl, rfl, ?_⟩⟩⟩
      rw [show nI i + (1 : Int32) = nI (i + 1) from nI_1 i]
      have key : ∀ z : Nat, (if can L (hpM L M i).1 i then (1 : Int32) else 0) = nI z → (hpM L M (i + 1)).2 = (hpM L M i).2 + z → (hpM L M (i + 1)).1 = u2 (hpM L M i).1 1 i ((hpM L M i).1 1 i + z) → Ev (d + 2) mX5_push 136 11 [some (.ref 122), some (.int (nI x)), some (.int (nI (ovN L M))), some (.int (nI (hpM L M i).2 + (if can L (hpM L M i).1 i then 1 else 0))), some (.int (nI (i + 1))), none] [] 136 (u2 I' 123 (x + i) (nI ((hpM L M i).1 1 i) + (if can L (hpM L M i).1 i then 1 else 0))) G J Φ := by
        intro z hz h1 h2
        rw [hz, nI_add, nI_add, ← h1]
        have hf2 : FrM x I' (u2 I' 123 (x + i) (nI ((hpM L M i).1 1 i + z))) := FrM.rf.u2 (by omega)
        refine ih _ (hf.tr hf2) (X'.fr hf2.1 ?_ w9)
        rw [h2]
        exact hM.step wL b4.1 _
      by_cases hcn : can L (hpM L M i).1 i = true
      · rw [if_pos hcn] at e1 e2
        exact key 1 (by rw [if_pos hcn]; rfl) e2 e1
      · rw [if_neg hcn] at e1 e2
        refine key 0 (by rw [if_neg hcn]; rfl) e2 ?_
        rw [e1, Nat.add_zero]
        funext t m
        by_cases h1 : t = 1 ∧ m = i
        · obtain ⟨rfl, rfl⟩ := h1; rw [u2_at]
        · rw [u2_ne _ _ h1]
    have no : can L (hpM L M i).1 i = false → Ev (d + 2) mX5_push 136 80 [some (.ref 122), some (.int (nI x)), some (.int (nI (ovN L M))), some (.int (nI (hpM L M i).2)), some (.int (nI i)), none] [.int 0] 136 I' G J Φ := by
      intro hcn
      rw [hcn] at fin
      exact fin
    refine w_X5_push_11 hG _ _ _ _ ⟨fun q => ?_, fun _ => m_has hG bov (by omega) ⟨_, rfl, rfl, rfl, rfl, rfl, ?_⟩⟩
    · rw [hL.1.1, nI_leI (by omega) (by omega)] at q
      omega
    · rw [if01]
      have hbit : ovN L M / 2 ^ i % 2 = if ovr L M i then 1 else 0 := bitsN_bit _ hi
      refine ⟨fun q => no ?_, fun q => m_pushOf X' hi ⟨_, rfl, rfl, rfl, rfl, rfl, m_sizeIn X' hi ⟨_, rfl, rfl, rfl, rfl, rfl, vp_in_nI (by omega) (by decide), ?_⟩⟩⟩
      · have : ovr L M i = true := by
          by_cases h9 : ovr L M i = true
          · exact h9
          · rw [if_neg h9] at hbit; omega
        simp [can, eov, this]
      · have q0 : ovr L M i = false := by
          by_cases h9 : ovr L M i = true
          · rw [if_pos h9] at hbit; omega
          · simpa using h9
        rw [nI_clamp (n := i) (by omega), (hL.2.1 i hi).2.1, nI_add, nI_ltI (by omega) (by omega)]
        refine ⟨fun q2 => no (can_no q2), fun q2 => ?_⟩
        rw [nI_add, nI_clamp (n := x + i) (by omega), (hM.2.1 i hi).1, show nI ((hpM L M i).1 1 i) + (1 : Int32) = nI ((hpM L M i).1 1 i + 1) from nI_1 _]
        refine ⟨v14, m_blocksIn X' hi (by omega) ⟨_, rfl, rfl, rfl, rfl, rfl, ?_⟩⟩
        rw [show (0 : Int32) = nI 0 from rfl, nI_eq (by omega) (by omega)]
        refine ⟨fun q3 => no (by simp [can, q3]), fun q3 => ?_⟩
        rw [can_yes (eov.trans q0) q2 q3] at fin
        exact fin
/-- the first n men ordered to a hill (h + 1), those of a set, the others to none -/
def oaM (M : Mo) (h s n : Nat) : Mo := fun t m => if t = 4 ∧ m < n then (if s / 2 ^ m % 2 = 1 then h + 1 else 0) else M t m
theorem oaM_0 (M : Mo) (h s : Nat) : oaM M h s 0 = M := by funext t m; simp [oaM]
theorem oaM_s (M : Mo) (h s n : Nat) : u2 (oaM M h s n) 4 n (if s / 2 ^ n % 2 = 1 then h + 1 else 0) = oaM M h s (n + 1) := by
  funext t m
  by_cases h1 : t = 4
  · by_cases h2 : m = n
    · simp [u2, oaM, h1, h2]
    · simp [u2, oaM, h1, h2, show m < n ↔ m < n + 1 by omega]
  · simp [u2, oaM, h1]
theorem oaM_w {h s : Nat} (w : WMo L M) (hh : h < L 0 0) (n : Nat) : WMo L (oaM M h s n) := by
  obtain ⟨w1, w2, w3, w4⟩ := w
  refine ⟨by simp [oaM]; exact w1, by simp [oaM]; exact w2, fun h hh => by simp [oaM]; exact w3 h hh, fun m hm => ⟨by simp [oaM]; exact (w4 m hm).1, ?_⟩⟩
  unfold oaM
  split
  · split <;> omega
  · exact (w4 m hm).2
theorem m_orderAll (X : Mm I G x L M) {h s : Nat} (hh : h < L 0 0) (hs : s < 2 ^ 31) (k : ∀ I', FrM x I I' → Mm I' G x L (oaM M h s (L 0 2)) → Φ none 136 I' G J) : Ev (d + 1) mX5_orderAll 136 0 [some (.ref 122), some (.int (nI x)), some (.int (nI h)), some (.int (nI s)), none] [] 136 I G J Φ := by
  have hG := X.1
  have wL := X.2.2.2.1
  have wM := X.2.2.2.2.1
  have hx := X.2.2.2.2.2
  have b3 := wL.2.2.1
  refine w_X5_orderAll hG _ _ _ ?_
  refine down_ind (E := fun i => ∀ I', FrM x I I' → Mm I' G x L (oaM M h s i) → Ev (d + 1) mX5_orderAll 136 3 [some (.ref 122), some (.int (nI x)), some (.int (nI h)), some (.int (nI s)), some (.int (nI i))] [] 136 I' G J Φ) (L 0 2) ?_ ?_ 0 (Nat.zero_le _) I FrM.rf (by rw [oaM_0]; exact X)
  · intro I' hf X'
    refine w_X5_orderAll_3 hG _ _ _ _ ⟨fun _ => k I' hf X', fun q => absurd ?_ q⟩
    rw [X'.2.1.1.2.2.1]
    exact nI_le (Nat.le_refl _) (by omega)
  · intro i hi ih I' hf X'
    obtain ⟨-, hL, hM, -, wM', -⟩ := id X'
    have b4 := wL.m hi
    have e1 : (nI x + 11) + nI i = nI (x + 11 + i) := by rw [show (11 : Int32) = nI 11 from rfl, nI_add, nI_add]
    have v11 : vp_in (nI (x + 11 + i)) 1400 := vp_in_nI (by omega) (by decide)
    have go : ∀ v : Nat, v = (if s / 2 ^ i % 2 = 1 then h + 1 else 0) → Ev (d + 1) mX5_orderAll 136 3 [some (.ref 122), some (.int (nI x)), some (.int (nI h)), some (.int (nI s)), some (.int (nI i + 1))] [] 136 (u2 I' 123 (x + 11 + i) (oV v)) G J Φ := by
      intro v hv
      have hf2 : FrM x I' (u2 I' 123 (x + 11 + i) (oV v)) := FrM.rf.u2 (by omega)
      rw [show nI i + (1 : Int32) = nI (i + 1) from nI_1 i]
      refine ih _ (hf.tr hf2) (X'.fr hf2.1 ?_ (oaM_w wM hh _))
      rw [← oaM_s, ← hv]
      exact hM.ord wL b4.1 v
    refine w_X5_orderAll_3 hG _ _ _ _ ⟨fun q => ?_, fun _ => m_has hG hs (by omega) ⟨_, rfl, rfl, rfl, rfl, rfl, ?_⟩⟩
    · rw [hL.1.2.2.1, nI_leI (by omega) (by omega)] at q
      omega
    · rw [if01, e1, nI_clamp (n := x + 11 + i) (by omega)]
      refine ⟨fun q => ⟨v11, ?_⟩, fun q => ⟨v11, ?_⟩⟩
      · exact go 0 (by rw [if_neg q])
      · have := go (h + 1) (by rw [if_pos (Decidable.not_not.mp q)])
        rw [show oV (h + 1) = nI h from if_neg (by omega)] at this
        exact this
end MOD3
