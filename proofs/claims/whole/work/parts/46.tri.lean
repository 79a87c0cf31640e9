/-! ===== trials of one stone: its step, strengths and orders alone change ===== -/
def tlM (L : Ld) (M : Mo) (h s : Nat) (f o : Nat → Nat) : Mo := fun t k => if t = 1 ∧ k = h then s else if t = 3 ∧ k < L 0 2 then f k else if t = 4 ∧ k < L 0 2 then o k else M t k
section TL
variable {L : Ld} {M : Mo} {h s : Nat} {f o : Nat → Nat}
theorem tl_1 : tlM L M h s f o 1 h = s := by simp [tlM]
theorem tl_1o {k : Nat} (hk : k ≠ h) : tlM L M h s f o 1 k = M 1 k := by simp [tlM, hk]
theorem tl_2 (k : Nat) : tlM L M h s f o 2 k = M 2 k := by simp [tlM]
theorem tl_0 (k : Nat) : tlM L M h s f o 0 k = M 0 k := by simp [tlM]
theorem tl_3 {k : Nat} (hk : k < L 0 2) : tlM L M h s f o 3 k = f k := by simp [tlM, hk]
theorem tl_4 {k : Nat} (hk : k < L 0 2) : tlM L M h s f o 4 k = o k := by simp [tlM, hk]
theorem tl_id : tlM L M h (M 1 h) (M 3) (M 4) = M := by
  funext t k
  unfold tlM
  split
  · rename_i e; rw [e.1, e.2]
  · split
    · rename_i e; rw [e.1]
    · split
      · rename_i e; rw [e.1]
      · rfl
theorem tl_up (s' : Nat) : u2 (tlM L M h s f o) 1 h s' = tlM L M h s' f o := by
  funext t k
  by_cases e : t = 1 ∧ k = h
  · simp [u2, tlM, e]
  · simp only [u2, tlM, e, if_false]
theorem tl_fo {f' o' : Nat → Nat} (h1 : ∀ m, m < L 0 2 → f m = f' m) (h2 : ∀ m, m < L 0 2 → o m = o' m) : tlM L M h s f o = tlM L M h s f' o' := by
  funext t k
  unfold tlM
  by_cases e : k < L 0 2
  · rw [h1 k e, h2 k e]
  · simp [e]
theorem tl_oa (c : Nat) : oaM (tlM L M h s f o) h c (L 0 2) = tlM L M h s f (fun m => if c / 2 ^ m % 2 = 1 then h + 1 else 0) := by
  funext t k
  by_cases e : t = 4 ∧ k < L 0 2
  · obtain ⟨rfl, e2⟩ := e
    simp [oaM, tlM, e2]
  · simp only [oaM, tlM, e, if_false]
theorem tl_tr (b : Nat) : trS L b (tlM L M h s f o) (L 0 2) = tlM L M h s (fun m => if o m ≠ 0 ∧ b / 2 ^ (o m - 1) % 2 = 0 then f m - 1 else min (L 8 m) (f m + 1)) o := by
  funext t k
  by_cases e : t = 3 ∧ k < L 0 2
  · obtain ⟨rfl, e2⟩ := e
    unfold trS
    rw [if_pos ⟨rfl, e2⟩, tl_3 e2, tl_4 e2, tl_3 e2]
  · unfold trS
    rw [if_neg e]
    simp only [tlM, e, if_false]
theorem tl_bk (p : Nat) : bkN L (tlM L M h s f o) h p = bkN L M h p := by
  unfold bkN
  refine bitsN_congr (fun i _ => ?_)
  unfold bkB
  by_cases e : i = h
  · simp [e]
  · unfold ovr
    rw [tl_1o e]
theorem tl_ov : ovr L (tlM L M h s f o) h = decide (s = L 1 h) := by unfold ovr; rw [tl_1]
theorem tl_sz : szN L (tlM L M h s f o) h = szN L M h := by unfold szN; rw [tl_2]
theorem tl_st : stA L (tlM L M h s f o) h = sumN (fun m => if o m = h + 1 then f m else 0) (L 0 2) := sumN_congr (fun i hi => by rw [tl_3 hi, tl_4 hi])
theorem tl_w (w : WMo L M) (hs : s ≤ L 1 h) (hf : ∀ m, m < L 0 2 → f m ≤ L 8 m) (ho : ∀ m, m < L 0 2 → o m ≤ L 0 0) : WMo L (tlM L M h s f o) := by
  obtain ⟨w1, w2, w3, w4⟩ := w
  refine ⟨by rw [tl_0]; exact w1, by rw [tl_0]; exact w2, fun k hk => ?_, fun m hm => ?_⟩
  · rw [tl_2]
    refine ⟨?_, (w3 k hk).2⟩
    by_cases e : k = h
    · subst e; rw [tl_1]; exact hs
    · rw [tl_1o e]; exact (w3 k hk).1
  · rw [tl_3 hm, tl_4 hm]
    exact ⟨hf m hm, ho m hm⟩
end TL
/-! free steps -/
def frF (b : Nat → Nat) : Nat → Nat → Nat
  | 0, _ => 0
  | n + 1, p => if b p = 0 then frF b n (p + 1) + 1 else 0
theorem frF_iff (b : Nat → Nat) : ∀ (n p k : Nat), k ≤ frF b n p ↔ k ≤ n ∧ ∀ j, j < k → b (p + j) = 0
  | 0, p, k => by
    rw [frF]
    exact ⟨fun h => ⟨h, fun j hj => by omega⟩, fun h => h.1⟩
  | n + 1, p, k => by
    rw [frF]
    cases k with
    | zero => exact ⟨fun _ => ⟨by omega, fun j hj => by omega⟩, fun _ => by omega⟩
    | succ k =>
      by_cases e : b p = 0
      · rw [if_pos e, Nat.add_le_add_iff_right, frF_iff b n (p + 1) k]
        refine ⟨fun h => ⟨by omega, fun j hj => ?_⟩, fun h => ⟨by omega, fun j hj => ?_⟩⟩
        · cases j with
          | zero => exact e
          | succ j => have := h.2 j (by omega); rwa [show p + (j + 1) = p + 1 + j by omega]
        · have := h.2 (j + 1) (by omega); rwa [show p + 1 + j = p + (j + 1) by omega]
      · rw [if_neg e]
        refine ⟨fun h => by omega, fun h => absurd (h.2 0 (by omega)) e⟩
theorem frF_le (b : Nat → Nat) (n p : Nat) : frF b n p ≤ n := ((frF_iff b n p _).mp (Nat.le_refl _)).1
def frN (L : Ld) (M : Mo) (h : Nat) : Nat := frF (bkN L M h) (L 1 h - M 1 h) (M 1 h + 1)
section FRS
variable {d : Nat} {I : MI} {G : MG} {J : MJ} {Φ : Ph} {a c : Nat} {L : Ld} {M : Mo}
theorem s_freeSteps (X : Cm I G a c L M) {h : Nat} (hh : h < L 0 0) (k : Φ (some (.int (nI (frN L M h)))) 136 I G J) : Ev (d + 2) mX2_freeSteps 136 0 [some (.ref c), some (.ref a), some (.int (nI h)), none, none] [] 136 I G J Φ := by
  have X' := X
  obtain ⟨hG, hc, ha, hL, hM, wL, wM⟩ := X
  have b := wL.h hh
  have b5 := (wM.2.2.1 h hh).1
  have v : vp_in (nI h) 4 := vp_in_nI b.1 (by decide)
  have key : ∀ n p q, p + n = L 1 h + 1 → q + frF (bkN L M h) n p = frN L M h → q ≤ 9 → Ev (d + 2) mX2_freeSteps 136 12 [some (.ref c), some (.ref a), some (.int (nI h)), some (.int (nI q)), some (.int (nI p))] [] 136 I G J Φ := by
    intro n
    induction n with
    | zero =>
      intro p q h1 h2 h3
      refine w_X2_freeSteps_12 hG hc ha _ _ _ ⟨v, ?_⟩
      rw [nI_clamp (n := h) (by omega), (hL.2.1 h hh).1, nI_ltI (by omega) (by omega)]
      refine ⟨fun _ => ?_, fun z => absurd (by omega) z⟩
      rw [frF, Nat.add_zero] at h2
      rw [h2]; exact k
    | succ n ih =>
      intro p q h1 h2 h3
      have g1 := bkN_lt (M := M) (h := h) (p := p) wL
      refine w_X2_freeSteps_12 hG hc ha _ _ _ ⟨v, ?_⟩
      rw [nI_clamp (n := h) (by omega), (hL.2.1 h hh).1, nI_ltI (by omega) (by omega)]
      refine ⟨fun z => absurd z (by omega), fun _ => s_blockersAt X' hh (by omega) ⟨_, rfl, rfl, rfl, rfl, rfl, ?_⟩⟩
      rw [show (0 : Int32) = nI 0 from rfl, nI_eq (by omega) (by omega), show nI p + (1 : Int32) = nI (p + 1) from nI_1 _, show nI q + (1 : Int32) = nI (q + 1) from nI_1 _]
      rw [frF] at h2
      refine ⟨fun z => ?_, fun z => ?_⟩
      · rw [if_pos z] at h2
        have l1 := frF_le (bkN L M h) (L 1 h - M 1 h) (M 1 h + 1)
        have l2 : frN L M h ≤ 9 := by unfold frN; omega
        exact ih (p + 1) (q + 1) (by omega) (by omega) (by omega)
      · rw [if_neg z, Nat.add_zero] at h2
        rw [h2]; exact k
  refine w_X2_freeSteps hG hc ha _ ⟨v, ?_⟩
  rw [nI_clamp (n := h) (by omega), (hM.2.1 h hh).1, show nI (M 1 h) + (1 : Int32) = nI (M 1 h + 1) from nI_1 _]
  exact key (L 1 h - M 1 h) (M 1 h + 1) 0 (by omega) (by rw [Nat.zero_add]; rfl) (by omega)
end FRS
/-! ===== little: all push each hour ===== -/
def ltP (H nd : Nat) (S b : Nat → Nat) : Nat → Nat → Nat → Nat
  | 0, _, s => s
  | n + 1, t, s => ltP H nd S b n (t + 1) (if s ≠ H ∧ nd ≤ S t ∧ b (s + 1) = 0 then s + 1 else s)
theorem ltP_H (H nd : Nat) (S b : Nat → Nat) : ∀ n t, ltP H nd S b n t H = H
  | 0, _ => rfl
  | n + 1, t => by rw [ltP, if_neg (fun z => z.1 rfl)]; exact ltP_H H nd S b n (t + 1)
theorem ltP_iff (H nd : Nat) (S b : Nat → Nat) (hS : ∀ i j, i ≤ j → S j ≤ S i) : ∀ n t s, s < H → (ltP H nd S b n t s = H ↔ H - s ≤ n ∧ (∀ j, j < H - s → b (s + 1 + j) = 0) ∧ nd ≤ S (t + (H - s - 1)))
  | 0, t, s, hs => by
    rw [ltP]
    exact ⟨fun z => by omega, fun z => by omega⟩
  | n + 1, t, s, hs => by
    rw [ltP]
    by_cases e : s ≠ H ∧ nd ≤ S t ∧ b (s + 1) = 0
    · rw [if_pos e]
      by_cases e2 : s + 1 = H
      · rw [e2, ltP_H]
        refine ⟨fun _ => ⟨by omega, fun j hj => ?_, ?_⟩, fun _ => rfl⟩
        · rw [show j = 0 by omega]; have := e.2.2; rw [e2] at this; exact this
        · rw [show t + (H - s - 1) = t by omega]; exact e.2.1
      · rw [ltP_iff H nd S b hS n (t + 1) (s + 1) (by omega), show t + 1 + (H - (s + 1) - 1) = t + (H - s - 1) by omega]
        refine ⟨fun z => ⟨by omega, fun j hj => ?_, z.2.2⟩, fun z => ⟨by omega, fun j hj => ?_, z.2.2⟩⟩
        · cases j with
          | zero => exact e.2.2
          | succ j => have := z.2.1 j (by omega); rwa [show s + 1 + (j + 1) = s + 1 + 1 + j by omega]
        · have := z.2.1 (j + 1) (by omega); rwa [show s + 1 + 1 + j = s + 1 + (j + 1) by omega]
    · rw [if_neg e, ltP_iff H nd S b hS n (t + 1) s hs]
      refine ⟨fun z => absurd ⟨by omega, ?_, ?_⟩ e, fun z => absurd ⟨by omega, ?_, ?_⟩ e⟩
      · exact Nat.le_trans z.2.2 (hS _ _ (by omega))
      · exact z.2.1 0 (by omega)
      · exact Nat.le_trans z.2.2 (hS _ _ (by omega))
      · exact z.2.1 0 (by omega)
theorem sumN_mono {f g : Nat → Nat} : ∀ {n : Nat}, (∀ i, i < n → f i ≤ g i) → sumN f n ≤ sumN g n
  | 0, _ => Nat.le_refl _
  | n + 1, h => by
    have h1 := sumN_mono (n := n) (fun i hi => h i (by omega))
    have h2 := h n (by omega)
    rw [sumN, sumN]
    omega
theorem saN_anti (L : Ld) (M : Mo) (i j : Nat) (h : i ≤ j) : saN L M j ≤ saN L M i := sumN_mono (fun m _ => by omega)
/-- over by z today, if all push -/
def ltO (L : Ld) (M : Mo) (h z : Nat) : Prop := ltP (L 1 h) (z + L 2 h) (saN L M) (bkN L M h) (L 0 3 - M 0 1) 0 (M 1 h) = L 1 h
theorem ltO_iff {L : Ld} {M : Mo} {h z : Nat} (hs : M 1 h < L 1 h) : ltO L M h z ↔ (L 1 h - M 1 h ≤ L 0 3 - M 0 1 ∧ L 1 h - M 1 h ≤ frN L M h) ∧ z + L 2 h ≤ saN L M (L 1 h - M 1 h - 1) := by
  unfold ltO frN
  rw [ltP_iff _ _ _ _ (saN_anti L M) _ _ _ hs, frF_iff, Nat.zero_add]
  exact ⟨fun z => ⟨⟨z.1, Nat.le_refl _, z.2.1⟩, z.2.2⟩, fun z => ⟨z.1.1, z.1.2.2, z.2⟩⟩
