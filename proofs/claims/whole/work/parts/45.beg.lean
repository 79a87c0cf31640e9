/-! ===== begin, the object's ===== -/
/-- the first moment -/
def bgM (L : Ld) : Mo := rsM L (fun _ _ => 0) (L 0 2)
section BEG
variable {d : Nat} {I : MI} {G : MG} {J : MJ} {Φ : Ph} {a c : Nat} {L : Ld}
theorem s_rest0 (X : Cl I G a L) (hc : isM c) (k : ∀ I', (∀ x, x ≠ c + 3 → I' x = I x) → (∀ m, m < L 0 2 → I' (c + 3) m = nI (L 8 m)) → Φ none 136 I' G J) : Ev d mX2_rest 136 0 [some (.ref c), some (.ref a), none] [] 136 I G J Φ := by
  obtain ⟨hG, ha, hL, wL⟩ := X
  have hm := isM_lt hc
  have hla := isL_or ha
  have b2 := wL.2.2.1
  refine w_X2_rest hG hc ha ?_
  have key : ∀ m, m ≤ L 0 2 → ∀ I1 : MI, (∀ x, x ≠ c + 3 → I1 x = I x) → (∀ j, j < m → I1 (c + 3) j = nI (L 8 j)) → Ev d mX2_rest 136 2 [some (.ref c), some (.ref a), some (.int (nI m))] [] 136 I1 G J Φ := by
    refine down_ind (E := fun m => ∀ I1 : MI, (∀ x, x ≠ c + 3 → I1 x = I x) → (∀ j, j < m → I1 (c + 3) j = nI (L 8 j)) → Ev d mX2_rest 136 2 [some (.ref c), some (.ref a), some (.int (nI m))] [] 136 I1 G J Φ) (L 0 2) ?_ ?_
    · intro I1 f1 f2
      refine w_X2_rest_2 hG hc ha _ ⟨fun _ => k I1 f1 f2, fun q => absurd ?_ q⟩
      rw [f1 a (by omega), hL.1.2.2.1]; exact nI_le (Nat.le_refl _) (by omega)
    · intro m hm ih I1 f1 f2
      refine w_X2_rest_2 hG hc ha _ ⟨fun q => ?_, fun _ => ⟨vp_in_nI (by omega) (by decide), vp_in_nI (by omega) (by decide), ?_⟩⟩
      · rw [f1 a (by omega), hL.1.2.2.1, nI_leI (by omega) (by omega)] at q
        omega
      · rw [nI_clamp (n := m) (by omega), show nI m + (1 : Int32) = nI (m + 1) from nI_1 _, f1 (a + 8) (by omega), hL.2.2.2 m hm]
        refine ih _ (fun x hx => by rw [u2_row _ _ _ hx, f1 x hx]) (fun j hj => ?_)
        by_cases e : j = m
        · rw [e, u2_at]
        · rw [u2_ne _ _ (by omega)]; exact f2 j (by omega)
  exact key 0 (Nat.zero_le _) I (fun _ _ => rfl) (fun j hj => absurd hj (by omega))
theorem s_begin (X : Cl I G a L) (hc : isM c) (k : ∀ I', (∀ x, ¬ (c ≤ x ∧ x < c + 5) → I' x = I x) → I' c 7 = 0 → RMc I' c L (bgM L) → Φ none 136 I' G J) : Ev (d + 1) mX2_begin 136 0 [some (.ref c), some (.ref a), none] [] 136 I G J Φ := by
  obtain ⟨hG, ha, hL, wL⟩ := X
  have hm := isM_lt hc
  have hla := isL_or ha
  have b0 := wL.1
  have b2 := wL.2.2.1
  refine w_X2_begin hG hc ha ?_
  have k44 : ∀ m, m ≤ 3 → ∀ I1 : MI, (∀ x, ¬ (c ≤ x ∧ x < c + 5) → I1 x = I x) → (I1 c 0 = 0 ∧ I1 c 1 = 0 ∧ I1 c 7 = 0) → (∀ h, h < 4 → I1 (c + 1) h = 0 ∧ I1 (c + 2) h = 0) → (∀ j, j < m → I1 (c + 4) j = (-9 : Int32)) → Ev (d + 1) mX2_begin 136 44 [some (.ref c), some (.ref a), some (.int (nI m))] [] 136 I1 G J Φ := by
    refine down_ind (E := fun m => ∀ I1 : MI, (∀ x, ¬ (c ≤ x ∧ x < c + 5) → I1 x = I x) → (I1 c 0 = 0 ∧ I1 c 1 = 0 ∧ I1 c 7 = 0) → (∀ h, h < 4 → I1 (c + 1) h = 0 ∧ I1 (c + 2) h = 0) → (∀ j, j < m → I1 (c + 4) j = (-9 : Int32)) → Ev (d + 1) mX2_begin 136 44 [some (.ref c), some (.ref a), some (.int (nI m))] [] 136 I1 G J Φ) 3 ?_ ?_
    · intro I1 f1 f2 f3 f4
      refine w_X2_begin_44 hG hc ha _ ⟨fun _ => ?_, fun q => absurd (nI_le (a := 3) (b := 3) (by omega) (by omega)) q⟩
      have X1 : Cl I1 G a L := ⟨hG, ha, hL.congr (fun x q1 q2 => f1 x (by omega)), wL⟩
      refine s_rest0 X1 hc (fun I2 g1 g2 => ⟨rfl, rfl, rfl, rfl, k I2 (fun x hx => by rw [g1 x (by omega), f1 x hx]) (by rw [g1 c (by omega)]; exact f2.2.2) ⟨⟨?_, ?_⟩, fun h hh => ?_, fun m hm => ?_⟩⟩)
      · rw [g1 c (by omega), f2.1]; rfl
      · rw [g1 c (by omega), f2.2.1]; rfl
      · rw [g1 (c + 1) (by omega), g1 (c + 2) (by omega)]
        exact f3 h (by omega)
      · rw [g1 (c + 4) (by omega), f4 m (by omega), g2 m hm]
        unfold bgM rsM
        rw [if_pos ⟨rfl, hm⟩, if_neg (by omega)]
        exact ⟨rfl, rfl⟩
    · intro m hm3 ih I1 f1 f2 f3 f4
      refine w_X2_begin_44 hG hc ha _ ⟨fun q => absurd q (nI_ge (a := m) (b := 3) (by omega) (by omega)), fun _ => ⟨vp_in_nI (by omega) (by decide), ?_⟩⟩
      rw [nI_clamp (n := m) (by omega), show nI m + (1 : Int32) = nI (m + 1) from nI_1 _]
      refine ih _ (fun x hx => by rw [u2_row _ _ _ (by omega), f1 x hx]) ?_ (fun h hh => ?_) (fun j hj => ?_)
      · rw [u2_row _ _ _ (by omega)]; exact f2
      · rw [u2_row _ _ _ (by omega), u2_row _ _ _ (by omega)]; exact f3 h hh
      · by_cases e : j = m
        · rw [e, u2_at]
        · rw [u2_ne _ _ (by omega)]; exact f4 j (by omega)
  have k17 : ∀ i, i ≤ 4 → ∀ I1 : MI, (∀ x, ¬ (c ≤ x ∧ x < c + 5) → I1 x = I x) → (I1 c 0 = 0 ∧ I1 c 1 = 0 ∧ I1 c 7 = 0) → (∀ h, h < i → I1 (c + 1) h = 0 ∧ I1 (c + 2) h = 0) → Ev (d + 1) mX2_begin 136 17 [some (.ref c), some (.ref a), some (.int (nI i))] [] 136 I1 G J Φ := by
    refine down_ind (E := fun i => ∀ I1 : MI, (∀ x, ¬ (c ≤ x ∧ x < c + 5) → I1 x = I x) → (I1 c 0 = 0 ∧ I1 c 1 = 0 ∧ I1 c 7 = 0) → (∀ h, h < i → I1 (c + 1) h = 0 ∧ I1 (c + 2) h = 0) → Ev (d + 1) mX2_begin 136 17 [some (.ref c), some (.ref a), some (.int (nI i))] [] 136 I1 G J Φ) 4 ?_ ?_
    · intro I1 f1 f2 f3
      exact w_X2_begin_17 hG hc ha _ ⟨fun _ => k44 0 (by omega) I1 f1 f2 f3 (fun j hj => absurd hj (by omega)), fun q => absurd (nI_le (a := 4) (b := 4) (by omega) (by omega)) q⟩
    · intro i hi ih I1 f1 f2 f3
      refine w_X2_begin_17 hG hc ha _ ⟨fun q => absurd q (nI_ge (a := i) (b := 4) (by omega) (by omega)), fun _ => ⟨vp_in_nI (by omega) (by decide), vp_in_nI (by omega) (by decide), ?_⟩⟩
      rw [nI_clamp (n := i) (by omega), show nI i + (1 : Int32) = nI (i + 1) from nI_1 _]
      refine ih _ (fun x hx => by rw [u2_row _ _ _ (by omega), u2_row _ _ _ (by omega), f1 x hx]) ?_ (fun h hh => ?_)
      · rw [u2_row _ _ _ (by omega), u2_row _ _ _ (by omega)]; exact f2
      · by_cases e : h = i
        · rw [e, u2_at, u2_row _ _ _ (by omega), u2_at]; exact ⟨rfl, rfl⟩
        · simp (disch := omega) only [u2_ne]
          exact f3 h (by omega)
  refine k17 0 (by omega) _ (fun x hx => ?_) ⟨?_, ?_, u2_at _ _ _ _⟩ (fun h hh => absurd hh (by omega))
  · rw [u2_row _ _ _ (by omega), u2_row _ _ _ (by omega), u2_row _ _ _ (by omega)]
  · rw [u2_ne _ _ (by omega), u2_ne _ _ (by omega), u2_at]
  · rw [u2_ne _ _ (by omega), u2_at]
end BEG
