/-! ===== the reference's begin and hills ===== -/
section BGM
variable {d : Nat} {I : MI} {G : MG} {J : MJ} {Φ : Ph} {c : Nat → Nat} {nt : Nat} {L : Ld}
theorem m_begin (X : Ml I G L) (k : ∀ I' : MI, (∀ x, x ≠ 122 → x ≠ 123 → x ≠ 124 → I' x = I x) → (∀ f, f ≠ 28 → f ≠ 31 → I' 122 f = I 122 f) → (I' 122 28 = nI 0 ∧ I' 122 31 = nI 0 ∧ I' 124 0 = 0 ∧ I' 124 1 = 0) → RMm I' 0 L (bgM L) → I' 123 16 = nI 0 → Φ none 136 I' G J) : Ev d mX5_begin 136 0 [some (.ref 122), none] [] 136 I G J Φ := by
  obtain ⟨hG, hL, wL⟩ := X
  have b0 := wL.1
  have b2 := wL.2.2.1
  refine w_X5_begin hG ?_
  have k23 : ∀ m, m ≤ 3 → ∀ I1 : MI, (∀ x, x ≠ 123 → I1 x = I x) → (∀ j, j < 100 → ¬ (8 ≤ j ∧ j < 14) → I1 123 j = nI 0) → (∀ j, j < m → I1 123 (8 + j) = I 132 j ∧ I1 123 (11 + j) = (-9 : Int32)) → Ev d mX5_begin 136 23 [some (.ref 122), some (.int (nI m))] [] 136 I1 G J Φ := by
    refine down_ind (E := fun m => ∀ I1 : MI, (∀ x, x ≠ 123 → I1 x = I x) → (∀ j, j < 100 → ¬ (8 ≤ j ∧ j < 14) → I1 123 j = nI 0) → (∀ j, j < m → I1 123 (8 + j) = I 132 j ∧ I1 123 (11 + j) = (-9 : Int32)) → Ev d mX5_begin 136 23 [some (.ref 122), some (.int (nI m))] [] 136 I1 G J Φ) 3 ?_ ?_
    · intro I1 f1 f2 f3
      refine w_X5_begin_23 hG _ ⟨fun _ => ?_, fun q => absurd (nI_le (a := 3) (b := 3) (by omega) (by omega)) q⟩
      have r123 : (u2 (u2 (u2 (u2 I1 122 31 (0 : Int32)) 122 28 (0 : Int32)) 124 0 (0 : Int32)) 124 1 (0 : Int32)) 123 = I1 123 := by
        rw [u2_row _ _ _ (by omega), u2_row _ _ _ (by omega), u2_row _ _ _ (by omega), u2_row _ _ _ (by omega)]
      refine k _ (fun x q1 q2 q3 => ?_) (fun f q1 q2 => ?_) ⟨?_, ?_, ?_, ?_⟩ ?_ ?_
      · rw [u2_row _ _ _ q3, u2_row _ _ _ q3, u2_row _ _ _ q1, u2_row _ _ _ q1, f1 x q2]
      · rw [u2_row _ _ _ (by omega), u2_row _ _ _ (by omega), u2_ne _ _ (by omega), u2_ne _ _ (by omega), f1 122 (by omega)]
      · rw [u2_row _ _ _ (by omega), u2_row _ _ _ (by omega), u2_at]; rfl
      · rw [u2_row _ _ _ (by omega), u2_row _ _ _ (by omega), u2_ne _ _ (by omega), u2_at]; rfl
      · rw [u2_ne _ _ (by omega), u2_at]
      · rw [u2_at]
      · refine ⟨⟨?_, ?_⟩, fun h hh => ?_, fun m hm => ?_⟩
        · rw [r123]; exact f2 14 (by omega) (by omega)
        · rw [r123]; exact f2 15 (by omega) (by omega)
        · rw [r123]; exact ⟨f2 (0 + h) (by omega) (by omega), f2 (0 + 4 + h) (by omega) (by omega)⟩
        · rw [r123, show 0 + 8 + m = 8 + m by omega, show 0 + 11 + m = 11 + m by omega, (f3 m (by omega)).1, (f3 m (by omega)).2, hL.2.2.2 m hm]
          unfold bgM rsM
          rw [if_pos ⟨rfl, hm⟩, if_neg (by omega)]
          exact ⟨rfl, rfl⟩
      · rw [r123]; exact f2 16 (by omega) (by omega)
    · intro m hm ih I1 f1 f2 f3
      refine w_X5_begin_23 hG _ ⟨fun q => absurd q (nI_ge (a := m) (b := 3) hm (by omega)), fun _ => ?_⟩
      rw [show (8 : Int32) + nI m = nI (8 + m) from nI_add 8 m, show (11 : Int32) + nI m = nI (11 + m) from nI_add 11 m, nI_clamp (n := m) (by omega), nI_clamp (n := 8 + m) (by omega), nI_clamp (n := 11 + m) (by omega), show nI m + (1 : Int32) = nI (m + 1) from nI_1 _]
      refine ⟨vp_in_nI (by omega) (by decide), vp_in_nI (by omega) (by decide), vp_in_nI (by omega) (by decide), ih _ (fun x hx => by rw [u2_row _ _ _ hx, u2_row _ _ _ hx, f1 x hx]) (fun j q1 q2 => by rw [u2_ne _ _ (by omega), u2_ne _ _ (by omega), f2 j q1 q2]) (fun j hj => ?_)⟩
      by_cases e : j = m
      · subst e
        rw [u2_at, u2_ne _ _ (by omega), u2_at, f1 132 (by omega)]
        exact ⟨rfl, rfl⟩
      · rw [u2_ne _ _ (by omega), u2_ne _ _ (by omega), u2_ne _ _ (by omega), u2_ne _ _ (by omega)]
        exact f3 j (by omega)
  have k2 : ∀ i, i ≤ 100 → ∀ I1 : MI, (∀ x, x ≠ 123 → I1 x = I x) → (∀ j, j < i → I1 123 j = nI 0) → Ev d mX5_begin 136 2 [some (.ref 122), some (.int (nI i))] [] 136 I1 G J Φ := by
    refine down_ind (E := fun i => ∀ I1 : MI, (∀ x, x ≠ 123 → I1 x = I x) → (∀ j, j < i → I1 123 j = nI 0) → Ev d mX5_begin 136 2 [some (.ref 122), some (.int (nI i))] [] 136 I1 G J Φ) 100 ?_ ?_
    · intro I1 f1 f2
      exact w_X5_begin_2 hG _ ⟨fun _ => k23 0 (by omega) I1 f1 (fun j q1 _ => f2 j q1) (fun j hj => absurd hj (by omega)), fun q => absurd (nI_le (a := 100) (b := 100) (by omega) (by omega)) q⟩
    · intro i hi ih I1 f1 f2
      refine w_X5_begin_2 hG _ ⟨fun q => absurd q (nI_ge (a := i) (b := 100) hi (by omega)), fun _ => ⟨vp_in_nI (by omega) (by decide), ?_⟩⟩
      rw [nI_clamp (n := i) (by omega), show nI i + (1 : Int32) = nI (i + 1) from nI_1 _]
      refine ih _ (fun x hx => by rw [u2_row _ _ _ hx, f1 x hx]) (fun j hj => ?_)
      by_cases e : j = i
      · rw [e, u2_at]; rfl
      · rw [u2_ne _ _ (by omega)]; exact f2 j (by omega)
  exact k2 0 (by omega) I (fun _ _ => rfl) (fun j hj => absurd hj (by omega))
/-- the end of a good text -/
theorem m_hillsE (hG : WG G) {items : Nat} {I1 : MI} (hR : rnP I1 L) (w : WRd L) (k : ∀ I' : MI, (∀ x, x ≠ 122 → x ≠ 123 → x ≠ 124 → ¬ (125 ≤ x ∧ x < 133) → I' x = I1 x) → RLm I' L → (I' 122 22 = nI 0 ∧ I' 122 28 = nI 0 ∧ I' 122 31 = nI 0 ∧ I' 124 0 = 0 ∧ I' 124 1 = 0) → RMm I' 0 L (bgM L) → I' 123 16 = nI 0 → Φ (some (.int (nI items))) 136 I' G J) : Ev (d + 1) mX5_hills 136 169 [some (.ref 122), some (.int (nI items)), some (.int (0 : Int32))] [] 136 (u2 (u2 (u2 (u2 (u2 (u2 I1 122 22 (0 : Int32)) 122 10 (I1 122 15)) 122 11 (I1 122 16)) 122 12 (I1 122 17)) 122 13 (I1 122 18)) 122 14 (I1 122 19)) G J Φ := by
  obtain ⟨⟨r1, r2, r3, r4, r5, r6⟩, rh, rj, rm⟩ := hR
  have wL := w.1
  have b0 := wL.1
  have b1 := wL.2.1
  have b2 := wL.2.2.1
  have I0f : ∀ x, x ≠ 122 → (u2 (u2 (u2 (u2 (u2 (u2 I1 122 22 (0 : Int32)) 122 10 (I1 122 15)) 122 11 (I1 122 16)) 122 12 (I1 122 17)) 122 13 (I1 122 18)) 122 14 (I1 122 19)) x = I1 x := fun x hx => by
    rw [u2_row _ _ _ hx, u2_row _ _ _ hx, u2_row _ _ _ hx, u2_row _ _ _ hx, u2_row _ _ _ hx, u2_row _ _ _ hx]
  have I0g : ∀ J0 : MI, J0 122 = (u2 (u2 (u2 (u2 (u2 (u2 I1 122 22 (0 : Int32)) 122 10 (I1 122 15)) 122 11 (I1 122 16)) 122 12 (I1 122 17)) 122 13 (I1 122 18)) 122 14 (I1 122 19)) 122 → (J0 122 10 = nI (L 0 0) ∧ J0 122 11 = nI (L 0 1) ∧ J0 122 12 = nI (L 0 2) ∧ J0 122 13 = nI (L 0 3) ∧ J0 122 14 = nI (L 0 4)) ∧ J0 122 22 = nI 0 := fun J0 h => by
    rw [h]
    simp (disch := omega) only [u2_ne, u2_at]
    exact ⟨⟨r1, r2, r3, r4, r5⟩, rfl⟩
  have k280 : ∀ m, m ≤ 3 → ∀ I2 : MI, (∀ x, ¬ (125 ≤ x ∧ x < 133) → I2 x = (u2 (u2 (u2 (u2 (u2 (u2 I1 122 22 (0 : Int32)) 122 10 (I1 122 15)) 122 11 (I1 122 16)) 122 12 (I1 122 17)) 122 13 (I1 122 18)) 122 14 (I1 122 19)) x) → (∀ x q, 125 ≤ x → x < 132 → q < 4 → I2 x q = I1 x (4 + q)) → (∀ q, 3 ≤ q → I2 132 q = I1 132 q) → (∀ q, q < m → I2 132 q = I1 132 (3 + q)) → Ev (d + 1) mX5_hills 136 280 [some (.ref 122), some (.int (nI items)), some (.int (nI m))] [] 136 I2 G J Φ := by
    refine down_ind (E := fun m => ∀ I2 : MI, (∀ x, ¬ (125 ≤ x ∧ x < 133) → I2 x = (u2 (u2 (u2 (u2 (u2 (u2 I1 122 22 (0 : Int32)) 122 10 (I1 122 15)) 122 11 (I1 122 16)) 122 12 (I1 122 17)) 122 13 (I1 122 18)) 122 14 (I1 122 19)) x) → (∀ x q, 125 ≤ x → x < 132 → q < 4 → I2 x q = I1 x (4 + q)) → (∀ q, 3 ≤ q → I2 132 q = I1 132 q) → (∀ q, q < m → I2 132 q = I1 132 (3 + q)) → Ev (d + 1) mX5_hills 136 280 [some (.ref 122), some (.int (nI items)), some (.int (nI m))] [] 136 I2 G J Φ) 3 ?_ ?_
    · intro I2 f1 f2 f3 f4
      have e122 := I0g I2 (f1 122 (by omega))
      have hL2 : RLm I2 L := by
        refine ⟨e122.1, fun h hh => ?_, fun j hj => ?_, fun m hm => ?_⟩
        · rw [f2 125 h (by omega) (by omega) (by omega), f2 126 h (by omega) (by omega) (by omega), f2 127 h (by omega) (by omega) (by omega), f2 128 h (by omega) (by omega) (by omega)]
          exact rh h hh
        · rw [f2 129 j (by omega) (by omega) (by omega), f2 130 j (by omega) (by omega) (by omega), f2 131 j (by omega) (by omega) (by omega)]
          exact rj j hj
        · rw [f4 m (by omega)]; exact rm m hm
      refine w_X5_hills_280 hG _ _ ⟨fun _ => ?_, fun q => absurd (nI_le (a := 3) (b := 3) (by omega) (by omega)) q⟩
      refine m_begin ⟨hG, hL2, wL⟩ (fun I3 g1 g2 g3 g4 g5 => ⟨rfl, rfl, rfl, rfl, k I3 (fun x q1 q2 q3 q4 => by rw [g1 x q1 q2 q3, f1 x q4, I0f x q1]) ?_ ⟨by rw [g2 22 (by omega) (by omega)]; exact e122.2, g3.1, g3.2.1, g3.2.2.1, g3.2.2.2⟩ g4 g5⟩)
      unfold RLm
      rw [g2 10 (by omega) (by omega), g2 11 (by omega) (by omega), g2 12 (by omega) (by omega), g2 13 (by omega) (by omega), g2 14 (by omega) (by omega), g1 125 (by omega) (by omega) (by omega), g1 126 (by omega) (by omega) (by omega), g1 127 (by omega) (by omega) (by omega), g1 128 (by omega) (by omega) (by omega), g1 129 (by omega) (by omega) (by omega), g1 130 (by omega) (by omega) (by omega), g1 131 (by omega) (by omega) (by omega), g1 132 (by omega) (by omega) (by omega)]
      exact hL2
    · intro m hm ih I2 f1 f2 f3 f4
      refine w_X5_hills_280 hG _ _ ⟨fun q => absurd q (nI_ge (a := m) (b := 3) hm (by omega)), fun _ => ?_⟩
      rw [show (3 : Int32) + nI m = nI (3 + m) from nI_add 3 m, nI_clamp (n := m) (by omega), nI_clamp (n := 3 + m) (by omega), show nI m + (1 : Int32) = nI (m + 1) from nI_1 _]
      refine ⟨vp_in_nI (by omega) (by decide), vp_in_nI (by omega) (by decide), ih _ (fun x hx => by rw [u2_row _ _ _ (by omega), f1 x hx]) (fun x q q1 q2 q3 => by rw [u2_row _ _ _ (by omega), f2 x q q1 q2 q3]) (fun q hq => by rw [u2_ne _ _ (by omega), f3 q hq]) (fun q hq => ?_)⟩
      by_cases e : q = m
      · rw [e, u2_at, f3 (3 + m) (by omega)]
      · rw [u2_ne _ _ (by omega)]; exact f4 q (by omega)
  have k169 : ∀ n, n ≤ 4 → ∀ I2 : MI, (∀ x, ¬ (125 ≤ x ∧ x < 132) → I2 x = (u2 (u2 (u2 (u2 (u2 (u2 I1 122 22 (0 : Int32)) 122 10 (I1 122 15)) 122 11 (I1 122 16)) 122 12 (I1 122 17)) 122 13 (I1 122 18)) 122 14 (I1 122 19)) x) → (∀ x q, 125 ≤ x → x < 132 → 4 ≤ q → I2 x q = I1 x q) → (∀ x q, 125 ≤ x → x < 132 → q < n → I2 x q = I1 x (4 + q)) → Ev (d + 1) mX5_hills 136 169 [some (.ref 122), some (.int (nI items)), some (.int (nI n))] [] 136 I2 G J Φ := by
    refine down_ind (E := fun n => ∀ I2 : MI, (∀ x, ¬ (125 ≤ x ∧ x < 132) → I2 x = (u2 (u2 (u2 (u2 (u2 (u2 I1 122 22 (0 : Int32)) 122 10 (I1 122 15)) 122 11 (I1 122 16)) 122 12 (I1 122 17)) 122 13 (I1 122 18)) 122 14 (I1 122 19)) x) → (∀ x q, 125 ≤ x → x < 132 → 4 ≤ q → I2 x q = I1 x q) → (∀ x q, 125 ≤ x → x < 132 → q < n → I2 x q = I1 x (4 + q)) → Ev (d + 1) mX5_hills 136 169 [some (.ref 122), some (.int (nI items)), some (.int (nI n))] [] 136 I2 G J Φ) 4 ?_ ?_
    · intro I2 f1 f2 f3
      exact w_X5_hills_169 hG _ _ ⟨fun _ => k280 0 (by omega) I2 (fun x hx => f1 x (by omega)) f3 (fun q _ => by rw [f1 132 (by omega), I0f 132 (by omega)]) (fun q hq => absurd hq (by omega)), fun q => absurd (nI_le (a := 4) (b := 4) (by omega) (by omega)) q⟩
    · intro n hn ih I2 f1 f2 f3
      refine w_X5_hills_169 hG _ _ ⟨fun q => absurd q (nI_ge (a := n) (b := 4) hn (by omega)), fun _ => ?_⟩
      rw [show (4 : Int32) + nI n = nI (4 + n) from nI_add 4 n, nI_clamp (n := n) (by omega), nI_clamp (n := 4 + n) (by omega), show nI n + (1 : Int32) = nI (n + 1) from nI_1 _]
      have v8 : vp_in (nI n) 8 := vp_in_nI (by omega) (by decide)
      have v84 : vp_in (nI (4 + n)) 8 := vp_in_nI (by omega) (by decide)
      refine ⟨v84, v8, v84, v8, v84, v8, v84, v8, v84, v8, v84, v8, v84, v8, ih _ (fun x hx => ?_) (fun x q q1 q2 q3 => ?_) (fun x q q1 q2 q3 => ?_)⟩
      · simp (disch := omega) only [u2_row]; exact f1 x hx
      · simp (disch := omega) only [u2_ne]; exact f2 x q q1 q2 q3
      · by_cases e : q = n
        · rw [e]
          rcases (show x = 125 ∨ x = 126 ∨ x = 127 ∨ x = 128 ∨ x = 129 ∨ x = 130 ∨ x = 131 by omega) with rfl | rfl | rfl | rfl | rfl | rfl | rfl
          · simp (disch := omega) only [u2_ne, u2_at]; exact f2 _ _ (by omega) (by omega) (by omega)
          · simp (disch := omega) only [u2_ne, u2_at]; exact f2 _ _ (by omega) (by omega) (by omega)
          · simp (disch := omega) only [u2_ne, u2_at]; exact f2 _ _ (by omega) (by omega) (by omega)
          · simp (disch := omega) only [u2_ne, u2_at]; exact f2 _ _ (by omega) (by omega) (by omega)
          · simp (disch := omega) only [u2_ne, u2_at]; exact f2 _ _ (by omega) (by omega) (by omega)
          · simp (disch := omega) only [u2_ne, u2_at]; exact f2 _ _ (by omega) (by omega) (by omega)
          · simp (disch := omega) only [u2_ne, u2_at]; exact f2 _ _ (by omega) (by omega) (by omega)
        · simp (disch := omega) only [u2_ne]; exact f3 x q q1 q2 (by omega)
  exact k169 0 (by omega) _ (fun _ _ => rfl) (fun x q q1 q2 _ => by rw [I0f x (by omega)]) (fun x q _ _ hq => absurd hq (by omega))
theorem kR_m1 {k : Nat} (hk : k < 256) : (kR k = (-1 : Int32)) = (k = 0) := by
  unfold kR
  apply propext
  by_cases e0 : k = 0
  · rw [if_pos e0]; exact ⟨fun _ => e0, fun _ => rfl⟩
  · rw [if_neg e0]
    by_cases e1 : k = 1
    · rw [if_pos e1]; exact ⟨fun z => absurd z (by decide), fun z => absurd z e0⟩
    · rw [if_neg e1]
      by_cases e2 : k = 2
      · rw [if_pos e2]; exact ⟨fun z => absurd z (by decide), fun z => absurd z e0⟩
      · rw [if_neg e2]
        refine ⟨fun z => ?_, fun z => absurd z e0⟩
        have : (nI k).toInt = -1 := by rw [z]; decide
        rw [toI_nI (by omega)] at this
        omega
theorem m_hills (hG : WG G) (tx : txP I 133 c nt) (h2 : I 122 22 = nI nt) (kOk : ∀ I' : MI, (∀ x, x ≠ 122 → x ≠ 123 → x ≠ 124 → ¬ (125 ≤ x ∧ x < 133) → I' x = I x) → (rdA c nt 201 0 emL 0).1 = true → RLm I' (rdA c nt 201 0 emL 0).2.2 → (I' 122 22 = nI 0 ∧ I' 122 28 = nI 0 ∧ I' 122 31 = nI 0 ∧ I' 124 0 = 0 ∧ I' 124 1 = 0) → RMm I' 0 (rdA c nt 201 0 emL 0).2.2 (bgM (rdA c nt 201 0 emL 0).2.2) → I' 123 16 = nI 0 → Φ (some (.int (nI (rdA c nt 201 0 emL 0).2.1))) 136 I' G J) (kF : ∀ I', nfP I I' → (rdA c nt 201 0 emL 0).1 = false → Φ (some (.int ((-10 : Int32) - nI (rdA c nt 201 0 emL 0).2.1))) 136 I' G J) : Ev (d + 6) mX5_hills 136 0 [some (.ref 122), none, none] [] 136 I G J Φ := by
  have n2 := tx.1
  have fEnd : ∀ (I1 : MI) (p : Nat) (x : Int32), nfP I I1 → p ≤ 200 → I1 122 27 = nI p → (rdA c nt 201 0 emL 0).1 = false → (rdA c nt 201 0 emL 0).2.1 = p → Ev (d + 6) mX5_hills 136 46 [some (.ref 122), some (.int x), none] [] 136 I1 G J Φ := by
    intro I1 p x f1 hp h7 z1 z2
    refine w_X5_hills_46 hG _ ?_
    rw [h7]
    refine ⟨fun _ => ⟨fun z => absurd z (nI_pos (by omega)), fun _ => ?_⟩, fun z => absurd (nI_pos' (by omega)) z⟩
    have := kF I1 f1 z1
    rw [z2] at this
    exact this
  have key : ∀ (f items i : Nat) (L : Ld) (I1 : MI), f + items = 201 → items ≤ i → i ≤ nt → nfP I I1 → rnP I1 L → WRd L → I1 122 27 = (-1 : Int32) → I1 122 23 = nI (tkN c nt i).2.2.1 → I1 122 24 = nI (tkN c nt i).2.1 → I1 122 25 = kR (tkN c nt i).1 → rdA c nt f items L i = rdA c nt 201 0 emL 0 → Ev (d + 6) mX5_hills 136 46 [some (.ref 122), some (.int (nI items)), none] [] 136 I1 G J Φ := by
    intro f
    induction f with
    | zero => intro items i L I1 hf h1 hi; omega
    | succ f ih =>
      intro items i L I1 hf h1 hi f1 hR w h7 t3 t4 t5 hrd
      have b := tkN_b hi tx.c
      have tx1 : txP I1 133 c nt := tx.cg (f1.1 133 (by omega) (by omega))
      have h22 : I1 122 22 = nI nt := by rw [f1.2.1 22 (by omega) (by omega)]; exact h2
      rw [rdA] at hrd
      refine w_X5_hills_46 hG _ ?_
      rw [h7, t5, kR_m1 b.2.2.2.2.2.2]
      refine ⟨fun z => absurd z (by decide), fun _ => ⟨fun q => ⟨fun _ => ?_, fun z => absurd (by decide) z⟩, fun q => ?_⟩⟩
      · rw [if_pos q] at hrd
        rw [← hrd] at kOk
        refine m_hillsE hG hR w (fun I' g1 g2 g3 g4 g5 => kOk I' (fun x q1 q2 q3 q4 => by rw [g1 x q1 q2 q3 q4, f1.1 x q1 q4]) rfl g2 g3 g4 g5)
      · rw [if_neg q] at hrd
        refine m_takeItem (k := (tkN c nt i).1) (i := (tkN c nt i).2.2.1) (p := (tkN c nt i).2.1) hG tx1 h22 b.2.2.2.1 b.2.1 b.2.2.2.2.2.2 t3 t4 t5 h7 hR w (fun I5 g1 g2 g3 g4 g5 g6 => ⟨rfl, rfl, rfl, rfl, ?_⟩) (fun I5 pp g1 g2 g3 g4 => ⟨rfl, rfl, rfl, rfl, ?_⟩)
        · -- the numbers are good
          rw [g4]
          refine ⟨fun z => absurd z (by decide), fun _ => ?_⟩
          have bn := rdN_ck (L := L) (k := (tkN c nt i).1) tx.c (cntN (tkN c nt i).1) 0 (tkN c nt i).2.2.1 (fun _ => 0) b.2.2.2.1
          have bi := (bn.2 g3).1
          have f5 := f1.tr g1
          refine m_next hG (nt - (rdN c nt L (tkN c nt i).1 (cntN (tkN c nt i).1) 0 (tkN c nt i).2.2.1 (fun _ => 0)).2.1) (rdN c nt L (tkN c nt i).1 (cntN (tkN c nt i).1) 0 (tkN c nt i).2.2.1 (fun _ => 0)).2.1 (by have := bn.1; omega) (tx.cg (f5.1 133 (by omega) (by omega))) (by rw [f5.2.1 22 (by omega) (by omega)]; exact h2) g5 (fun I7 t7 => ⟨rfl, rfl, rfl, rfl, ?_⟩)
          have f7 := f5.tr t7.nf
          have b7 := tkN_b bn.1 tx.c
          have e27 : I7 122 27 = (-1 : Int32) := by rw [t7.2.1 27 (by omega)]; exact g4
          have eI : rdI c nt L (tkN c nt i).1 (tkN c nt i).2.1 (tkN c nt i).2.2.1 (fun _ => 0) = if (tkN c nt (rdN c nt L (tkN c nt i).1 (cntN (tkN c nt i).1) 0 (tkN c nt i).2.2.1 (fun _ => 0)).2.1).1 = 59 then (true, (tkN c nt (rdN c nt L (tkN c nt i).1 (cntN (tkN c nt i).1) 0 (tkN c nt i).2.2.1 (fun _ => 0)).2.1).2.2.1, adL L (tkN c nt i).1 (rdN c nt L (tkN c nt i).1 (cntN (tkN c nt i).1) 0 (tkN c nt i).2.2.1 (fun _ => 0)).2.2) else (false, (tkN c nt (rdN c nt L (tkN c nt i).1 (cntN (tkN c nt i).1) 0 (tkN c nt i).2.2.1 (fun _ => 0)).2.1).2.1, L) := by
            unfold rdI rdE
            rw [if_pos g2, if_pos g3]
          rw [t7.2.2.2.2.1, show (59 : Int32) = nI 59 from rfl, kR_eq b7.2.2.2.2.2.2 (by omega) (by omega)]
          have w5 : WRd (adL L (tkN c nt i).1 (rdN c nt L (tkN c nt i).1 (cntN (tkN c nt i).1) 0 (tkN c nt i).2.2.1 (fun _ => 0)).2.2) := ad_w w g2 (fun j hj => (bn.2 g3).2.2 j (by omega) (by omega))
          have hR7 : rnP I7 (adL L (tkN c nt i).1 (rdN c nt L (tkN c nt i).1 (cntN (tkN c nt i).1) 0 (tkN c nt i).2.2.1 (fun _ => 0)).2.2) := by
            unfold rnP
            rw [t7.2.1 15 (by omega), t7.2.1 16 (by omega), t7.2.1 17 (by omega), t7.2.1 18 (by omega), t7.2.1 19 (by omega), t7.2.1 20 (by omega), t7.1 125 (by omega), t7.1 126 (by omega), t7.1 127 (by omega), t7.1 128 (by omega), t7.1 129 (by omega), t7.1 130 (by omega), t7.1 131 (by omega), t7.1 132 (by omega)]
            exact g6
          revert hrd bn bi b7 t7 eI w5 hR7
          generalize rdN c nt L (tkN c nt i).1 (cntN (tkN c nt i).1) 0 (tkN c nt i).2.2.1 (fun _ => 0) = RN
          intro hrd bn bi t7 b7 eI w5 hR7
          refine ⟨fun q2 => ?_, fun q2 => ?_⟩
          · rw [if_neg q2] at eI
            rw [eI, if_neg (fun z => Bool.noConfusion (show false = true from z))] at hrd
            refine m_want0 hG (p := (tkN c nt RN.2.1).2.1) (by have := b7.2.1; omega) e27 t7.2.2.2.1 ⟨_, rfl, rfl, rfl, rfl, fun _ => fEnd _ (tkN c nt RN.2.1).2.1 _ (f7.tr ⟨fun x q1 _ => u2_row _ _ _ q1, fun f q1 q2 => u2_ne _ _ (by omega), fun x j q1 q2 _ => by rw [u2_row _ _ _ (by omega)], fun j _ => by rw [u2_row _ _ _ (by omega)]⟩) (by have := b7.2.1; omega) (u2_at _ _ _ _) (by rw [← hrd]) (by rw [← hrd]), fun z => absurd rfl z⟩
          · rw [if_pos q2] at eI
            rw [eI, if_pos rfl] at hrd
            have bj := b7.2.2.2.2.1 (by omega)
            have bk := b.2.2.2.2.1 q
            refine m_want1 hG e27 ⟨_, rfl, rfl, rfl, rfl, fun z => absurd z (by decide), fun _ => ?_⟩
            refine m_next hG (nt - (tkN c nt RN.2.1).2.2.1) (tkN c nt RN.2.1).2.2.1 (by have := b7.2.2.2.1; omega) (tx.cg (f7.1 133 (by omega) (by omega))) (by rw [f7.2.1 22 (by omega) (by omega)]; exact h2) t7.2.2.1 (fun I8 t8 => ⟨rfl, rfl, rfl, rfl, ?_⟩)
            rw [show nI items + (1 : Int32) = nI (items + 1) from nI_1 _]
            refine ih (items + 1) (tkN c nt RN.2.1).2.2.1 _ I8 (by omega) (by omega) b7.2.2.2.1 (f7.tr t8.nf) ?_ w5 (by rw [t8.2.1 27 (by omega)]; exact e27) t8.2.2.1 t8.2.2.2.1 t8.2.2.2.2.1 hrd
            unfold rnP
            rw [t8.2.1 15 (by omega), t8.2.1 16 (by omega), t8.2.1 17 (by omega), t8.2.1 18 (by omega), t8.2.1 19 (by omega), t8.2.1 20 (by omega), t8.1 125 (by omega), t8.1 126 (by omega), t8.1 127 (by omega), t8.1 128 (by omega), t8.1 129 (by omega), t8.1 130 (by omega), t8.1 131 (by omega), t8.1 132 (by omega)]
            exact hR7
        · -- a fault
          rw [g3]
          have eI : rdI c nt L (tkN c nt i).1 (tkN c nt i).2.1 (tkN c nt i).2.2.1 (fun _ => 0) = (false, pp, L) := by
            rcases g4 with ⟨z1, z2⟩ | ⟨z1, z2, z3⟩
            · unfold rdI
              rw [if_neg (by rw [z1]; decide), z2]
            · unfold rdI rdE
              rw [if_pos z1, if_neg (by rw [z2]; decide), z3]
          rw [eI, if_neg (fun z => Bool.noConfusion (show false = true from z))] at hrd
          exact ⟨fun _ => fEnd I5 pp _ (f1.tr g1) g2 g3 (by rw [← hrd]) (by rw [← hrd]), fun z => absurd (nI_pos' (by omega)) z⟩
  refine w_X5_hills hG ?_
  have f0 : nfP I (u2 (u2 (u2 (u2 (u2 (u2 (u2 (u2 I 122 23 (0 : Int32)) 122 27 (-1 : Int32)) 122 15 (0 : Int32)) 122 16 (0 : Int32)) 122 17 (0 : Int32)) 122 18 (4 : Int32)) 122 19 (0 : Int32)) 122 20 (0 : Int32)) := by
    refine ⟨fun x q1 _ => ?_, fun f q1 q2 => ?_, fun x j q1 q2 _ => ?_, fun j _ => ?_⟩
    · simp (disch := omega) only [u2_row]
    · simp (disch := omega) only [u2_ne]
    · simp (disch := omega) only [u2_ne]
    · simp (disch := omega) only [u2_ne]
  refine m_next hG (nt - 0) 0 (by omega) (tx.cg (f0.1 133 (by omega) (by omega))) (by rw [f0.2.1 22 (by omega) (by omega)]; exact h2) (by simp (disch := omega) only [u2_ne, u2_at]; rfl) (fun I1 t => ⟨rfl, rfl, rfl, rfl, ?_⟩)
  refine key 201 0 0 emL I1 (by omega) (by omega) (by omega) (f0.tr t.nf) ?_ em_w (by rw [t.2.1 27 (by omega)]; simp (disch := omega) only [u2_ne, u2_at]) t.2.2.1 t.2.2.2.1 t.2.2.2.2.1 rfl
  unfold emL
  refine ⟨⟨?_, ?_, ?_, ?_, ?_, ?_⟩, fun h hh => ?_, fun q hq => ?_, fun m hm => ?_⟩
  · rw [t.2.1 15 (by omega)]; simp (disch := omega) only [u2_ne, u2_at]; rfl
  · rw [t.2.1 16 (by omega)]; simp (disch := omega) only [u2_ne, u2_at]; rfl
  · rw [t.2.1 17 (by omega)]; simp (disch := omega) only [u2_ne, u2_at]; rfl
  · rw [t.2.1 18 (by omega)]; simp (disch := omega) only [u2_ne, u2_at]; rfl
  · rw [t.2.1 19 (by omega)]; simp (disch := omega) only [u2_ne, u2_at]; rfl
  · rw [t.2.1 20 (by omega)]; simp (disch := omega) only [u2_ne, u2_at]; rfl
  · rw [u2_ne _ _ (by omega)] at hh; omega
  · rw [u2_ne _ _ (by omega)] at hq; omega
  · rw [u2_ne _ _ (by omega)] at hm; omega
end BGM
