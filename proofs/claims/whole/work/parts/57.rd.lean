/-! ===== reading: items ===== -/
def ckB (L : Ld) (k idx n0 v : Nat) : Bool := if k = 104 then decide ([2, 0, 0, 1].getD idx 0 ≤ v ∧ v ≤ [9, 5, 511, 9].getD idx 0) else if k = 106 then (if idx = 0 then decide (v < L 0 0) else if idx = 1 then decide (v < L 0 0 ∧ v ≠ n0) else decide (1 ≤ v ∧ v ≤ 9)) else if k = 109 then decide (1 ≤ v ∧ v ≤ 9) else if k = 111 then decide (1 ≤ v ∧ v ≤ 6) else decide (v ≤ 127)
def canB (L : Ld) (k : Nat) : Bool := if k = 104 then decide (L 0 0 < 4) else if k = 106 then decide (L 0 1 < 4) else if k = 109 then decide (L 0 2 < 3) else if k = 111 then decide (L 0 5 = 0) else if k = 114 then decide (L 0 6 = 0) else false
def cntN (k : Nat) : Nat := if k = 104 then 4 else if k = 106 then 3 else 1
def adL (L : Ld) (k : Nat) (g : Nat → Nat) : Ld := if k = 104 then u2 (u2 (u2 (u2 (u2 L 1 (L 0 0) (g 0)) 2 (L 0 0) (g 1)) 3 (L 0 0) (g 2)) 4 (L 0 0) (g 3)) 0 0 (L 0 0 + 1) else if k = 106 then u2 (u2 (u2 (u2 L 5 (L 0 1) (g 0)) 6 (L 0 1) (g 1)) 7 (L 0 1) (g 2)) 0 1 (L 0 1 + 1) else if k = 109 then u2 (u2 L 8 (L 0 2) (g 0)) 0 2 (L 0 2 + 1) else if k = 111 then u2 (u2 L 0 3 (g 0)) 0 5 1 else u2 (u2 L 0 4 (g 0)) 0 6 1
def rdN (c : Nat → Nat) (nt : Nat) (L : Ld) (k : Nat) : Nat → Nat → Nat → (Nat → Nat) → Bool × Nat × (Nat → Nat)
  | 0, _, i, g => (true, i, g)
  | m + 1, idx, i, g => if (tkN c nt i).1 = 2 ∧ ckB L k idx (g 0) (tkN c nt i).2.2.2 = true then rdN c nt L k m (idx + 1) (tkN c nt i).2.2.1 (fun j => if j = idx then (tkN c nt i).2.2.2 else g j) else (false, (tkN c nt i).2.1, g)
def rdE (c : Nat → Nat) (nt : Nat) (L : Ld) (k : Nat) (R : Bool × Nat × (Nat → Nat)) : Bool × Nat × Ld := if R.1 = true then (if (tkN c nt R.2.1).1 = 59 then (true, (tkN c nt R.2.1).2.2.1, adL L k R.2.2) else (false, (tkN c nt R.2.1).2.1, L)) else (false, R.2.1, L)
def rdI (c : Nat → Nat) (nt : Nat) (L : Ld) (k p i : Nat) (g : Nat → Nat) : Bool × Nat × Ld := if canB L k = true then rdE c nt L k (rdN c nt L k (cntN k) 0 i g) else (false, p, L)
def WRd (L : Ld) : Prop := WLd L ∧ L 0 5 ≤ 1 ∧ L 0 6 ≤ 1
theorem ck_0 (L : Ld) (k n0 n1 v : Nat) : ckB L k 0 n0 v = ckB L k 0 n1 v := by unfold ckB; simp
section ITM
variable {c : Nat → Nat} {nt : Nat} {L : Ld} {k : Nat}
/-- what was read fits; positions are kept in bounds -/
theorem rdN_ck (hc : ∀ j, j < nt → c j < 256) : ∀ (m idx i : Nat) (g : Nat → Nat), i ≤ nt → (rdN c nt L k m idx i g).2.1 ≤ nt ∧ ((rdN c nt L k m idx i g).1 = true → i ≤ (rdN c nt L k m idx i g).2.1 ∧ (∀ j, j < idx → (rdN c nt L k m idx i g).2.2 j = g j) ∧ ∀ j, idx ≤ j → j < idx + m → ckB L k j ((rdN c nt L k m idx i g).2.2 0) ((rdN c nt L k m idx i g).2.2 j) = true)
  | 0, idx, i, g, hi => ⟨hi, fun _ => ⟨Nat.le_refl _, fun _ _ => rfl, fun j h1 h2 => by omega⟩⟩
  | m + 1, idx, i, g, hi => by
    have b := tkN_b hi hc
    rw [rdN]
    by_cases e : (tkN c nt i).1 = 2 ∧ ckB L k idx (g 0) (tkN c nt i).2.2.2 = true
    · rw [if_pos e]
      have ih := rdN_ck hc m (idx + 1) (tkN c nt i).2.2.1 (fun j => if j = idx then (tkN c nt i).2.2.2 else g j) b.2.2.2.1
      refine ⟨ih.1, fun q => ?_⟩
      obtain ⟨h1, h2, h3⟩ := ih.2 q
      refine ⟨by have := b.2.2.2.2.1 (by omega); omega, fun j hj => ?_, fun j h4 h5 => ?_⟩
      · rw [h2 j (by omega), if_neg (by omega)]
      · by_cases ej : j = idx
        · subst ej
          rw [h2 j (by omega), if_pos rfl]
          by_cases e0 : j = 0
          · subst e0; rw [ck_0 L k _ (g 0)]; exact e.2
          · rw [h2 0 (by omega), if_neg (by omega)]; exact e.2
        · exact h3 j (by omega) (by omega)
    · rw [if_neg e]
      exact ⟨b.2.1, fun z => Bool.noConfusion (show false = true from z)⟩
theorem rdI_b (hc : ∀ j, j < nt → c j < 256) {p i : Nat} (g : Nat → Nat) (hp : p ≤ nt) (hi : i ≤ nt) : (rdI c nt L k p i g).2.1 ≤ nt ∧ ((rdI c nt L k p i g).1 = true → i < (rdI c nt L k p i g).2.1) := by
  unfold rdI
  have b := rdN_ck (L := L) (k := k) hc (cntN k) 0 i g hi
  split
  · unfold rdE
    split
    · rename_i q
      have b2 := tkN_b (i := (rdN c nt L k (cntN k) 0 i g).2.1) b.1 hc
      have b3 := (b.2 q).1
      split
      · rename_i q2
        refine ⟨b2.2.2.2.1, fun _ => ?_⟩
        have := b2.2.2.2.2.1 (by omega)
        show i < (tkN c nt (rdN c nt L k (cntN k) 0 i g).2.1).2.2.1
        omega
      · exact ⟨b2.2.1, fun z => Bool.noConfusion (show false = true from z)⟩
    · exact ⟨b.1, fun z => Bool.noConfusion (show false = true from z)⟩
  · exact ⟨hp, fun z => Bool.noConfusion (show false = true from z)⟩
theorem can_k (h : canB L k = true) : k = 104 ∨ k = 106 ∨ k = 109 ∨ k = 111 ∨ k = 114 := by
  unfold canB at h
  by_cases e1 : k = 104
  · exact Or.inl e1
  · by_cases e2 : k = 106
    · exact Or.inr (Or.inl e2)
    · by_cases e3 : k = 109
      · exact Or.inr (Or.inr (Or.inl e3))
      · by_cases e4 : k = 111
        · exact Or.inr (Or.inr (Or.inr (Or.inl e4)))
        · by_cases e5 : k = 114
          · exact Or.inr (Or.inr (Or.inr (Or.inr e5)))
          · rw [if_neg e1, if_neg e2, if_neg e3, if_neg e4, if_neg e5] at h
            exact absurd h (by decide)
end ITM
theorem ad_w {L : Ld} {k : Nat} {g : Nat → Nat} (w : WRd L) (hc : canB L k = true) (hk : ∀ j, j < cntN k → ckB L k j (g 0) (g j) = true) : WRd (adL L k g) := by
  obtain ⟨⟨w1, w2, w3, w4, w5, w6, w7, w8⟩, w9, w10⟩ := w
  rcases can_k hc with rfl | rfl | rfl | rfl | rfl
  · have h0 := hk 0 (by decide)
    have h1 := hk 1 (by decide)
    have h2 := hk 2 (by decide)
    have h3 := hk 3 (by decide)
    simp [ckB, canB] at h0 h1 h2 h3 hc
    have e : adL L 104 g = u2 (u2 (u2 (u2 (u2 L 1 (L 0 0) (g 0)) 2 (L 0 0) (g 1)) 3 (L 0 0) (g 2)) 4 (L 0 0) (g 3)) 0 0 (L 0 0 + 1) := rfl
    rw [e]
    refine ⟨⟨?_, ?_, ?_, ?_, ?_, fun h hh => ?_, fun j hj => ?_, fun m hm => ?_⟩, ?_, ?_⟩
    · rw [u2_at]; omega
    · simp (disch := omega) only [u2_ne]; exact w2
    · simp (disch := omega) only [u2_ne]; exact w3
    · simp (disch := omega) only [u2_ne]; exact w4
    · simp (disch := omega) only [u2_ne]; exact w5
    · rw [u2_at] at hh
      by_cases eh : h = L 0 0
      · subst eh
        simp (disch := omega) only [u2_ne, u2_at]
        omega
      · simp (disch := omega) only [u2_ne]
        exact w6 h (by omega)
    · simp (disch := omega) only [u2_ne] at hj
      rw [u2_at]
      simp (disch := omega) only [u2_ne]
      have := w7 j hj
      omega
    · simp (disch := omega) only [u2_ne] at hm ⊢
      exact w8 m hm
    · simp (disch := omega) only [u2_ne]; exact w9
    · simp (disch := omega) only [u2_ne]; exact w10
  · have h0 := hk 0 (by decide)
    have h1 := hk 1 (by decide)
    have h2 := hk 2 (by decide)
    simp [ckB, canB] at h0 h1 h2 hc
    have e : adL L 106 g = u2 (u2 (u2 (u2 L 5 (L 0 1) (g 0)) 6 (L 0 1) (g 1)) 7 (L 0 1) (g 2)) 0 1 (L 0 1 + 1) := rfl
    rw [e]
    refine ⟨⟨?_, ?_, ?_, ?_, ?_, fun h hh => ?_, fun j hj => ?_, fun m hm => ?_⟩, ?_, ?_⟩
    · simp (disch := omega) only [u2_ne]; exact w1
    · rw [u2_at]; omega
    · simp (disch := omega) only [u2_ne]; exact w3
    · simp (disch := omega) only [u2_ne]; exact w4
    · simp (disch := omega) only [u2_ne]; exact w5
    · simp (disch := omega) only [u2_ne] at hh ⊢
      exact w6 h hh
    · rw [u2_at] at hj
      by_cases ej : j = L 0 1
      · subst ej
        simp (disch := omega) only [u2_ne, u2_at]
        omega
      · simp (disch := omega) only [u2_ne]
        exact w7 j (by omega)
    · simp (disch := omega) only [u2_ne] at hm ⊢
      exact w8 m hm
    · simp (disch := omega) only [u2_ne]; exact w9
    · simp (disch := omega) only [u2_ne]; exact w10
  · have h0 := hk 0 (by decide)
    simp [ckB, canB] at h0 hc
    have e : adL L 109 g = u2 (u2 L 8 (L 0 2) (g 0)) 0 2 (L 0 2 + 1) := rfl
    rw [e]
    refine ⟨⟨?_, ?_, ?_, ?_, ?_, fun h hh => ?_, fun j hj => ?_, fun m hm => ?_⟩, ?_, ?_⟩
    · simp (disch := omega) only [u2_ne]; exact w1
    · simp (disch := omega) only [u2_ne]; exact w2
    · rw [u2_at]; omega
    · simp (disch := omega) only [u2_ne]; exact w4
    · simp (disch := omega) only [u2_ne]; exact w5
    · simp (disch := omega) only [u2_ne] at hh ⊢
      exact w6 h hh
    · simp (disch := omega) only [u2_ne] at hj ⊢
      exact w7 j hj
    · rw [u2_at] at hm
      by_cases em : m = L 0 2
      · subst em
        simp (disch := omega) only [u2_ne, u2_at]
        omega
      · simp (disch := omega) only [u2_ne]
        exact w8 m (by omega)
    · simp (disch := omega) only [u2_ne]; exact w9
    · simp (disch := omega) only [u2_ne]; exact w10
  · have h0 := hk 0 (by decide)
    simp [ckB, canB] at h0 hc
    have e : adL L 111 g = u2 (u2 L 0 3 (g 0)) 0 5 1 := rfl
    rw [e]
    refine ⟨⟨?_, ?_, ?_, ?_, ?_, fun h hh => ?_, fun j hj => ?_, fun m hm => ?_⟩, ?_, ?_⟩
    · simp (disch := omega) only [u2_ne]; exact w1
    · simp (disch := omega) only [u2_ne]; exact w2
    · simp (disch := omega) only [u2_ne]; exact w3
    · simp (disch := omega) only [u2_ne, u2_at]; omega
    · simp (disch := omega) only [u2_ne]; exact w5
    · simp (disch := omega) only [u2_ne] at hh ⊢
      exact w6 h hh
    · simp (disch := omega) only [u2_ne] at hj ⊢
      exact w7 j hj
    · simp (disch := omega) only [u2_ne] at hm ⊢
      exact w8 m hm
    · rw [u2_at]; omega
    · simp (disch := omega) only [u2_ne]; exact w10
  · have h0 := hk 0 (by decide)
    simp [ckB, canB] at h0 hc
    have e : adL L 114 g = u2 (u2 L 0 4 (g 0)) 0 6 1 := rfl
    rw [e]
    refine ⟨⟨?_, ?_, ?_, ?_, ?_, fun h hh => ?_, fun j hj => ?_, fun m hm => ?_⟩, ?_, ?_⟩
    · simp (disch := omega) only [u2_ne]; exact w1
    · simp (disch := omega) only [u2_ne]; exact w2
    · simp (disch := omega) only [u2_ne]; exact w3
    · simp (disch := omega) only [u2_ne]; exact w4
    · simp (disch := omega) only [u2_ne, u2_at]; omega
    · simp (disch := omega) only [u2_ne] at hh ⊢
      exact w6 h hh
    · simp (disch := omega) only [u2_ne] at hj ⊢
      exact w7 j hj
    · simp (disch := omega) only [u2_ne] at hm ⊢
      exact w8 m hm
    · simp (disch := omega) only [u2_ne]; exact w9
    · rw [u2_at]; omega
