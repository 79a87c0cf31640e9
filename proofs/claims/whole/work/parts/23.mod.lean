/-! ===== the reference: a dusk, a copy ===== -/
def FrD (x : Nat) (I I' : MI) : Prop := (∀ y, y ≠ 123 → I' y = I y) ∧ ∀ k, ¬ (x ≤ k ∧ k < x + 100) → I' 123 k = I 123 k
theorem FrM.d {x : Nat} {I I' : MI} (h : FrM x I I') : FrD x I I' := ⟨h.1, fun k hk => h.2 k (by omega)⟩
theorem FrD.tr {x : Nat} {I I' I'' : MI} (h : FrD x I I') (h2 : FrD x I' I'') : FrD x I I'' := ⟨fun y hy => (h2.1 y hy).trans (h.1 y hy), fun k hk => (h2.2 k hk).trans (h.2 k hk)⟩
theorem RMm.congr {I I' : MI} {x : Nat} {L : Ld} {M : Mo} (wL : WLd L) (h : RMm I x L M) (hf : ∀ k, x ≤ k → k < x + 16 → I' 123 k = I 123 k) : RMm I' x L M := by
  obtain ⟨⟨h1, h2⟩, h3, h4⟩ := h
  refine ⟨⟨by rw [hf _ (by omega) (by omega)]; exact h1, by rw [hf _ (by omega) (by omega)]; exact h2⟩, fun k hk => ?_, fun k hk => ?_⟩
  · have := wL.h hk
    rw [hf (x + k) (by omega) (by omega), hf (x + 4 + k) (by omega) (by omega)]; exact h3 k hk
  · have := wL.m hk
    rw [hf (x + 8 + k) (by omega) (by omega), hf (x + 11 + k) (by omega) (by omega)]; exact h4 k hk
theorem u2_self {α : Type} (f : Nat → Nat → α) (c k : Nat) : u2 f c k (f c k) = f := by
  funext y z
  by_cases h : y = c ∧ z = k
  · obtain ⟨rfl, rfl⟩ := h; rw [u2_at]
  · rw [u2_ne _ _ h]
/-- rows of evenings moved: those from row k + 1 on, and of row k the first h -/
def ShI (x : Nat) (I2 : MI) (k h : Nat) (I' : MI) : Prop := (∀ y, y ≠ 123 → I' y = I2 y) ∧ ∀ T, I' 123 T = if (x + 24 + 4 * k ≤ T ∧ T < x + 100) ∨ (x + 20 + 4 * k ≤ T ∧ T < x + 20 + 4 * k + h) then I2 123 (T - 4) else I2 123 T
section MOD4
variable {d : Nat} {I : MI} {G : MG} {J : MJ} {Φ : Ph} {x : Nat} {L : Ld} {M : Mo}
/-- what a dusk leaves of the evenings' rows -/
def EvD (x : Nat) (I I' : MI) : Prop := (∀ h, h < 4 → I' 123 (x + 20 + h) = I' 123 (x + h)) ∧ (∀ T, x + 24 ≤ T → T < x + 100 → I' 123 T = I 123 (T - 4)) ∧ (I' 123 (x + 16) = if (20 : Int32) ≤ I 123 (x + 16) then I 123 (x + 16) + 0 else I 123 (x + 16) + 1)
theorem m_dusk (X : Mm I G x L M) (r : Bool) (hr : ∀ h, h < L 0 0 → M 2 h ≤ 50000) (hdy : M 0 0 < 1000) (k : ∀ I', FrD x I I' → EvD x I I' → Mm I' G x L (duM L M r) → Φ none 136 I' G J) : Ev (d + 1) mX5_dusk 136 0 [some (.ref 122), some (.int (nI x)), some (.int (if r then 1 else 0)), none, none] [] 136 I G J Φ := by
  have hG := X.1
  have wL := X.2.2.2.1
  have wM := X.2.2.2.2.1
  have hx := X.2.2.2.2.2
  have b0 := wL.1
  have b3 := wL.2.2.1
  refine w_X5_dusk hG _ _ ?_
  refine down_ind (E := fun i => ∀ I', FrM x I I' → Mm I' G x L (dkM L M r i) → Ev (d + 1) mX5_dusk 136 2 [some (.ref 122), some (.int (nI x)), some (.int (if r then 1 else 0)), some (.int (nI i)), none] [] 136 I' G J Φ) (L 0 0) ?_ ?_ 0 (Nat.zero_le _) I FrM.rf (by rw [dkM_0]; exact X)
  · intro I1 hf1 X1
    refine w_X5_dusk_2 hG _ _ _ ⟨fun _ => ?_, fun q => absurd ?_ q⟩
    rotate_left
    · rw [X1.2.1.1.1]
      exact nI_le (Nat.le_refl _) (by omega)
    refine down_ind (E := fun i => ∀ I', FrM x I I' → Mm I' G x L (rsM L (dkM L M r (L 0 0)) i) → Ev (d + 1) mX5_dusk 136 124 [some (.ref 122), some (.int (nI x)), some (.int (if r then 1 else 0)), some (.int (nI i)), none] [] 136 I' G J Φ) (L 0 2) ?_ ?_ 0 (Nat.zero_le _) I1 hf1 (by rw [rsM_0]; exact X1)
    · intro I2 hf2 X2
      refine w_X5_dusk_124 hG _ _ _ ⟨fun _ => ?_, fun q => absurd ?_ q⟩
      rotate_left
      · rw [X2.2.1.1.2.2.1]
        exact nI_le (Nat.le_refl _) (by omega)
      -- the last stretch
      have last : ∀ I3, ShI x I2 0 0 I3 → Ev (d + 1) mX5_dusk 136 219 [some (.ref 122), some (.int (nI x)), some (.int (if r then 1 else 0)), some (.int 0), none] [] 136 I3 G J Φ := by
        intro I3 hs3
        have low3 : ∀ T, T < x + 24 → I3 123 T = I2 123 T := fun T hT => by rw [hs3.2 T, if_neg (by omega)]
        refine down_ind (E := fun i => ∀ I4 : MI, (∀ y, y ≠ 123 → I4 y = I2 y) → (∀ T, I4 123 T = if x + 20 ≤ T ∧ T < x + 20 + i then I2 123 (T - 20) else I3 123 T) → Ev (d + 1) mX5_dusk 136 219 [some (.ref 122), some (.int (nI x)), some (.int (if r then 1 else 0)), some (.int (nI i)), none] [] 136 I4 G J Φ) 4 ?_ ?_ 0 (by omega) I3 hs3.1 (fun T => by rw [if_neg (by omega)])
        · intro I4 h41 h42
          have v16 : vp_in (nI (x + 16)) 1400 := vp_in_nI (by omega) (by decide)
          have v14 : vp_in (nI (x + 14)) 1400 := vp_in_nI (by omega) (by decide)
          have v15 : vp_in (nI (x + 15)) 1400 := vp_in_nI (by omega) (by decide)
          have low4 : ∀ T, T < x + 20 → I4 123 T = I2 123 T := fun T hT => by rw [h42 T, if_neg (by omega), low3 T (by omega)]
          have hM4 : RMm I4 x L (rsM L (dkM L M r (L 0 0)) (L 0 2)) := X2.2.2.1.congr wL (fun j _ _ => low4 j (by omega))
          have e0 : rsM L (dkM L M r (L 0 0)) (L 0 2) 0 0 = M 0 0 := by
            simp only [rsM, show ¬ (0 = 3) by decide, false_and, if_false]
            rw [dkM_t (by decide) (by decide)]
          have i16 : I2 123 (x + 16) = I 123 (x + 16) := hf2.2 _ (by omega)
          have fin : ∀ w : Int32, (w = if (20 : Int32) ≤ I 123 (x + 16) then I 123 (x + 16) + 0 else I 123 (x + 16) + 1) → Φ none 136 (u2 (u2 (u2 I4 123 (x + 16) w) 123 (x + 14) ((u2 I4 123 (x + 16) w) 123 (x + 14) + 1)) 123 (x + 15) 0) G J := by
            intro w hw
            have e14 : (u2 I4 123 (x + 16) w) 123 (x + 14) = nI (M 0 0) := by
              rw [u2_ne _ _ (by omega)]
              exact hM4.1.1.trans (by rw [e0])
            rw [e14, show nI (M 0 0) + (1 : Int32) = nI (M 0 0 + 1) from nI_1 _]
            have rd : ∀ T, T ≠ x + 14 → T ≠ x + 15 → T ≠ x + 16 → (u2 (u2 (u2 I4 123 (x + 16) w) 123 (x + 14) (nI (M 0 0 + 1))) 123 (x + 15) 0) 123 T = I4 123 T := fun T h1 h2 h3 => by
              rw [u2_ne _ _ (by omega), u2_ne _ _ (by omega), u2_ne _ _ (by omega)]
            refine k _ ⟨fun y hy => ?_, fun j hj => ?_⟩ ⟨fun h hh => ?_, fun T h1 h2 => ?_, ?_⟩ ?_
            · rw [u2_row _ _ _ hy, u2_row _ _ _ hy, u2_row _ _ _ hy, h41 y hy]
              exact hf2.1 y hy
            · rw [rd j (by omega) (by omega) (by omega), h42 j, if_neg (by omega), hs3.2 j, if_neg (by omega)]
              exact hf2.2 j (by omega)
            · rw [rd _ (by omega) (by omega) (by omega), rd _ (by omega) (by omega) (by omega), h42 (x + 20 + h), if_pos (by omega), low4 (x + h) (by omega), show x + 20 + h - 20 = x + h by omega]
            · rw [rd T (by omega) (by omega) (by omega), h42 T, if_neg (by omega), hs3.2 T, if_pos (by omega)]
              exact hf2.2 _ (by omega)
            · rw [u2_ne _ _ (by omega), u2_ne _ _ (by omega), u2_at]
              exact hw
            · refine X2.fr (fun y hy => by rw [u2_row _ _ _ hy, u2_row _ _ _ hy, u2_row _ _ _ hy, h41 y hy]) ?_ (duM_w wM hr wL hdy r)
              have hM5 : RMm (u2 I4 123 (x + 16) w) x L (rsM L (dkM L M r (L 0 0)) (L 0 2)) := hM4.congr wL (fun j _ _ => u2_ne _ _ (by omega))
              exact (hM5.day wL _).hour wL 0
          have a16 : nI x + (16 : Int32) = nI (x + 16) := nI_add x 16
          have a14 : nI x + (14 : Int32) = nI (x + 14) := nI_add x 14
          have a15 : nI x + (15 : Int32) = nI (x + 15) := nI_add x 15
          refine w_X5_dusk_219 hG _ _ _ ⟨fun _ => ?_, fun q => absurd ?_ q⟩
          · rw [a16, a14, a15, nI_clamp (n := x + 16) (by omega), nI_clamp (n := x + 14) (by omega), nI_clamp (n := x + 15) (by omega)]
            have e16 : I4 123 (x + 16) = I 123 (x + 16) := (low4 _ (by omega)).trans i16
            rw [e16]
            refine ⟨v16, v16, fun q => ⟨v16, v14, v14, v15, fin _ (by rw [if_pos q])⟩, fun q => ⟨v16, v14, v14, v15, fin _ (by rw [if_neg q])⟩⟩
          · exact nI_le (a := 4) (b := 4) (by omega) (by omega)
        · intro i hi ih I4 h41 h42
          have a20 : (nI x + (20 : Int32)) + nI i = nI (x + 20 + i) := by rw [show (20 : Int32) = nI 20 from rfl, nI_add, nI_add]
          refine w_X5_dusk_219 hG _ _ _ ⟨fun q => ?_, fun _ => ?_⟩
          · rw [show (4 : Int32) = nI 4 from rfl, nI_leI (by omega) (by omega)] at q
            omega
          · rw [a20, nI_add, nI_clamp (n := x + i) (by omega), nI_clamp (n := x + 20 + i) (by omega), show nI i + (1 : Int32) = nI (i + 1) from nI_1 i]
            refine ⟨vp_in_nI (by omega) (by decide), vp_in_nI (by omega) (by decide), ih _ (fun y hy => by rw [u2_row _ _ _ hy, h41 y hy]) (fun T => ?_)⟩
            by_cases e : T = x + 20 + i
            · subst e
              rw [u2_at, if_pos (by omega), h42 (x + i), if_neg (by omega), low3 _ (by omega), show x + 20 + i - 20 = x + i by omega]
            · rw [u2_ne _ _ (by omega), h42 T]
              by_cases e2 : x + 20 ≤ T ∧ T < x + 20 + i
              · rw [if_pos e2, if_pos (by omega)]
              · rw [if_neg e2, if_neg (by omega)]
      -- the rows of evenings
      have shift : ∀ n I3, n ≤ 19 → ShI x I2 n 0 I3 → Ev (d + 1) mX5_dusk 136 158 [some (.ref 122), some (.int (nI x)), some (.int (if r then 1 else 0)), some (.int (nI n)), none] [] 136 I3 G J Φ := by
        intro n
        induction n with
        | zero =>
          intro I3 hn hs3
          exact w_X5_dusk_158 hG _ _ _ ⟨fun _ => last I3 hs3, fun q => absurd (nI_le (a := 0) (b := 0) (by omega) (by omega)) q⟩
        | succ n ihn =>
          intro I3 hn hs3
          refine w_X5_dusk_158 hG _ _ _ ⟨fun q => absurd q (nI_nle (by omega) (by omega)), fun _ => ?_⟩
          refine down_ind (E := fun i => ∀ I4, ShI x I2 (n + 1) i I4 → Ev (d + 1) mX5_dusk 136 165 [some (.ref 122), some (.int (nI x)), some (.int (if r then 1 else 0)), some (.int (nI (n + 1))), some (.int (nI i))] [] 136 I4 G J Φ) 4 ?_ ?_ 0 (by omega) I3 hs3
          · intro I4 hs4
            refine w_X5_dusk_165 hG _ _ _ _ ⟨fun _ => ?_, fun q => absurd (nI_le (a := 4) (b := 4) (by omega) (by omega)) q⟩
            rw [show nI (n + 1) + (-1 : Int32) = nI n from pk_m1 n]
            refine ihn I4 (by omega) ⟨hs4.1, fun T => ?_⟩
            rw [hs4.2 T]
            by_cases e : (x + 24 + 4 * (n + 1) ≤ T ∧ T < x + 100) ∨ (x + 20 + 4 * (n + 1) ≤ T ∧ T < x + 20 + 4 * (n + 1) + 4)
            · rw [if_pos e, if_pos (by omega)]
            · rw [if_neg e, if_neg (by omega)]
          · intro i hi ih I4 hs4
            have a1 : (nI x + (20 : Int32)) + ((4 : Int32) * nI (n + 1)) + nI i = nI (x + 20 + 4 * (n + 1) + i) := by rw [show (20 : Int32) = nI 20 from rfl, show (4 : Int32) = nI 4 from rfl, pk_mul, nI_add, nI_add, nI_add]
            have a2 : (nI x + (20 : Int32)) + ((4 : Int32) * (nI (n + 1) - 1)) + nI i = nI (x + 20 + 4 * n + i) := by rw [show nI (n + 1) - (1 : Int32) = nI n from nI_pred n, show (20 : Int32) = nI 20 from rfl, show (4 : Int32) = nI 4 from rfl, pk_mul, nI_add, nI_add, nI_add]
            refine w_X5_dusk_165 hG _ _ _ _ ⟨fun q => ?_, fun _ => ?_⟩
            · rw [show (4 : Int32) = nI 4 from rfl, nI_leI (by omega) (by omega)] at q
              omega
            · rw [a1, a2, nI_clamp (n := x + 20 + 4 * (n + 1) + i) (by omega), nI_clamp (n := x + 20 + 4 * n + i) (by omega), show nI i + (1 : Int32) = nI (i + 1) from nI_1 i]
              refine ⟨vp_in_nI (by omega) (by decide), vp_in_nI (by omega) (by decide), ih _ ⟨fun y hy => by rw [u2_row _ _ _ hy, hs4.1 y hy], fun T => ?_⟩⟩
              by_cases e : T = x + 20 + 4 * (n + 1) + i
              · subst e
                rw [u2_at, if_pos (by omega), hs4.2, if_neg (by omega), show x + 20 + 4 * (n + 1) + i - 4 = x + 20 + 4 * n + i by omega]
              · rw [u2_ne _ _ (by omega), hs4.2 T]
                by_cases e2 : (x + 24 + 4 * (n + 1) ≤ T ∧ T < x + 100) ∨ (x + 20 + 4 * (n + 1) ≤ T ∧ T < x + 20 + 4 * (n + 1) + i)
                · rw [if_pos e2, if_pos (by omega)]
                · rw [if_neg e2, if_neg (by omega)]
      exact shift 19 I2 (by omega) ⟨fun _ _ => rfl, fun T => by rw [if_neg (by omega)]⟩
    · intro i hi ih I' hf X'
      obtain ⟨-, hL, hM, -, wM', -⟩ := id X'
      have b4 := wL.m hi
      have e2 : (nI x + (8 : Int32)) + nI i = nI (x + 8 + i) := by rw [show (8 : Int32) = nI 8 from rfl, nI_add, nI_add]
      refine w_X5_dusk_124 hG _ _ _ ⟨fun q => ?_, fun _ => ⟨vp_in_nI (by omega) (by decide), ?_⟩⟩
      · rw [hL.1.2.2.1, nI_leI (by omega) (by omega)] at q
        omega
      · rw [e2, nI_clamp (n := i) (by omega), nI_clamp (n := x + 8 + i) (by omega), hL.2.2.2 i hi, show nI i + (1 : Int32) = nI (i + 1) from nI_1 i]
        have hf2 : FrM x I' (u2 I' 123 (x + 8 + i) (nI (L 8 i))) := FrM.rf.u2 (by omega)
        refine ⟨vp_in_nI (by omega) (by decide), ih _ (hf.tr hf2) (X'.fr hf2.1 (by rw [← rsM_s]; exact hM.str wL b4.1 _) (rsM_w (dkM_w wM hr wL r _) _))⟩
  · intro i hi ih I' hf X'
    obtain ⟨-, hL, hM, -, wM', -⟩ := id X'
    have b4 := wL.h hi
    have b5 := wM.2.2.1 i hi
    have b6 := hr i hi
    have eo : ovr L (dkM L M r i) i = ovr L M i := by unfold ovr; rw [dkM_at L M r (Nat.le_refl _)]
    have g1 := (hM.2.1 i hi).1
    have g2 := (hM.2.1 i hi).2
    rw [dkM_at L M r (Nat.le_refl _)] at g1 g2
    have e4 : (nI x + (4 : Int32)) + nI i = nI (x + 4 + i) := by rw [show (4 : Int32) = nI 4 from rfl, nI_add, nI_add]
    have v0 : vp_in (nI (x + i)) 1400 := vp_in_nI (by omega) (by decide)
    have v4 : vp_in (nI (x + 4 + i)) 1400 := vp_in_nI (by omega) (by decide)
    have upd : ∀ rv sv : Nat, dkM L M r (i + 1) = u2 (u2 (dkM L M r i) 2 i rv) 1 i sv → Ev (d + 1) mX5_dusk 136 2 [some (.ref 122), some (.int (nI x)), some (.int (if r then 1 else 0)), some (.int (nI i + 1)), none] [] 136 (u2 (u2 I' 123 (x + 4 + i) (nI rv)) 123 (x + i) (nI sv)) G J Φ := by
      intro rv sv he
      rw [show nI i + (1 : Int32) = nI (i + 1) from nI_1 i]
      have hf2 : FrM x I' (u2 (u2 I' 123 (x + 4 + i) (nI rv)) 123 (x + i) (nI sv)) := (FrM.rf.u2 (by omega)).u2 (by omega)
      refine ih _ (hf.tr hf2) (X'.fr hf2.1 ?_ (dkM_w wM hr wL r (i + 1)))
      rw [he]
      exact (hM.roll wL b4.1 rv).step wL b4.1 sv
    have same : (syB L M r i = true ∨ M 1 i = 0) → dkM L M r (i + 1) = u2 (u2 (dkM L M r i) 2 i (M 2 i)) 1 i (M 1 i) := by
      intro hs
      have e1 : u2 (u2 (dkM L M r i) 2 i (M 2 i)) 1 i (M 1 i) = dkM L M r i := by
        have h1 := u2_self (dkM L M r i) 2 i
        have h2 := u2_self (dkM L M r i) 1 i
        rw [dkM_at L M r (Nat.le_refl _)] at h1 h2
        rw [h1, h2]
      by_cases hb : syB L M r i = true
      · rw [dkM_y L M r hb, e1]
      · have h0 : M 1 i = 0 := hs.resolve_left hb
        rw [dkM_n L M r (by simpa using hb), h0, Nat.add_zero]
    have stay : (syB L M r i = true ∨ M 1 i = 0) → Ev (d + 1) mX5_dusk 136 59 [some (.ref 122), some (.int (nI x)), some (.int (if r then 1 else 0)), some (.int (nI i)), none] [.int 1] 136 I' G J Φ := by
      intro hs
      refine w_X5_dusk_59 hG _ _ _ _ ?_
      rw [e4, nI_add, nI_clamp (n := x + 4 + i) (by omega), nI_clamp (n := x + i) (by omega), g2]
      refine ⟨v4, fun z => absurd z (by decide), fun _ => ⟨v4, fun z => absurd z (by decide), fun _ => ⟨v0, v0, ?_⟩⟩⟩
      rw [u2_ne I' _ (show ¬ (123 = 123 ∧ x + i = x + 4 + i) by omega), g1, show nI (M 2 i) + (0 : Int32) = nI (M 2 i) from nI_add (M 2 i) 0]
      exact upd _ _ (same hs)
    have roll : syB L M r i = false → Ev (d + 1) mX5_dusk 136 59 [some (.ref 122), some (.int (nI x)), some (.int (if r then 1 else 0)), some (.int (nI i)), none] [.int 0] 136 I' G J Φ := by
      intro hs
      refine w_X5_dusk_59 hG _ _ _ _ ?_
      rw [e4, nI_add, nI_clamp (n := x + 4 + i) (by omega), nI_clamp (n := x + i) (by omega), g2, g1, nI_add]
      refine ⟨v4, fun _ => ⟨v0, v4, fun _ => ⟨v0, upd _ 0 (dkM_n L M r hs)⟩, fun z => absurd rfl z⟩, fun z => absurd rfl z⟩
    refine w_X5_dusk_2 hG _ _ _ ⟨fun q => ?_, fun _ => m_isOver X' hi ⟨_, rfl, rfl, rfl, rfl, rfl, ?_⟩⟩
    · rw [hL.1.1, nI_leI (by omega) (by omega)] at q
      omega
    · rw [if01, eo, nI_add, nI_clamp (n := x + i) (by omega), nI_clamp (n := i) (by omega), g1, (hL.2.1 i hi).2.2.1]
      refine ⟨fun q => stay (Or.inl (by unfold syB; rw [Decidable.not_not.mp q]; rfl)), fun q => ⟨v0, fun q2 => stay (Or.inr ?_), fun q2 => ⟨vp_in_nI (by omega) (by decide), v0, m_has hG (by omega) (by omega) ⟨_, rfl, rfl, rfl, rfl, rfl, ?_⟩⟩⟩⟩
      · have h9 : nI (M 1 i) = nI 0 := q2
        rw [nI_eq (by omega) (by omega)] at h9
        exact h9
      · have q' : ovr L M i = false := by simpa using q
        rw [if01, if01]
        refine ⟨fun q3 => roll (by unfold syB; rw [q']; simp [q3]), fun q3 => ⟨fun q4 => roll (by unfold syB; rw [q', show r = true by simpa using q4]; rfl), fun q4 => stay (Or.inl (by unfold syB; rw [q', show r = false by simpa using q4]; simpa using q3))⟩⟩
/-- a copy of a hundred -/
theorem m_copy (hG : WG G) {y : Nat} (hx : x + 100 ≤ 1400) (hy : y + 100 ≤ 1400) (hxy : x + 100 ≤ y ∨ y + 100 ≤ x) (k : ∀ I', FrD y I I' → (∀ j, j < 100 → I' 123 (y + j) = I 123 (x + j)) → Φ none 136 I' G J) : Ev d mX5_copy 136 0 [some (.ref 122), some (.int (nI x)), some (.int (nI y)), none] [] 136 I G J Φ := by
  refine w_X5_copy hG _ _ ?_
  refine down_ind (E := fun i => ∀ I', FrD y I I' → (∀ j, j < i → I' 123 (y + j) = I 123 (x + j)) → Ev d mX5_copy 136 2 [some (.ref 122), some (.int (nI x)), some (.int (nI y)), some (.int (nI i))] [] 136 I' G J Φ) 100 ?_ ?_ 0 (by omega) I ⟨fun _ _ => rfl, fun _ _ => rfl⟩ (fun j hj => absurd hj (by omega))
  · intro I' hf hc
    exact w_X5_copy_2 hG _ _ _ ⟨fun _ => k I' hf hc, fun q => absurd (nI_le (a := 100) (b := 100) (by omega) (by omega)) q⟩
  · intro i hi ih I' hf hc
    refine w_X5_copy_2 hG _ _ _ ⟨fun q => ?_, fun _ => ?_⟩
    · rw [show (100 : Int32) = nI 100 from rfl, nI_leI (by omega) (by omega)] at q
      omega
    · rw [nI_add, nI_add, nI_clamp (n := x + i) (by omega), nI_clamp (n := y + i) (by omega), show nI i + (1 : Int32) = nI (i + 1) from nI_1 i]
      refine ⟨vp_in_nI (by omega) (by decide), vp_in_nI (by omega) (by decide), ih _ ⟨fun z hz => by rw [u2_row _ _ _ hz]; exact hf.1 z hz, fun z hz => by rw [u2_ne _ _ (by omega)]; exact hf.2 z hz⟩ (fun j hj => ?_)⟩
      by_cases e : j = i
      · subst e
        rw [u2_at]
        exact hf.2 _ (by omega)
      · rw [u2_ne _ _ (by omega)]
        exact hc j (by omega)
end MOD4
