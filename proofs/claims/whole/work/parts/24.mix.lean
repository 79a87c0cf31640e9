/-! ===== moments copied, begun, written down ===== -/
def Fr6 (c : Nat) (I I' : MI) : Prop := ∀ x, ¬ (c ≤ x ∧ x < c + 6) → I' x = I x
/-- moment c is now as moment o was -/
def CpM (c o : Nat) (I I' : MI) : Prop := (I' c 0 = I o 0 ∧ I' c 1 = I o 1 ∧ I' c 7 = I o 7) ∧ (∀ h, h < 4 → I' (c + 1) h = I (o + 1) h ∧ I' (c + 2) h = I (o + 2) h) ∧ (∀ m, m < 3 → I' (c + 3) m = I (o + 3) m ∧ I' (c + 4) m = I (o + 4) m) ∧ (∀ i, i < 20 → I' (c + 5) i = I (o + 5) i)
theorem isM_apart {c o : Nat} (hc : isM c) (ho : isM o) (hne : c ≠ o) : c + 6 ≤ o ∨ o + 6 ≤ c := by
  have : ∀ c ∈ momL, ∀ o ∈ momL, c ≠ o → c + 6 ≤ o ∨ o + 6 ≤ c := by decide +kernel
  exact this c hc o ho hne
section MIX
variable {d : Nat} {I : MI} {G : MG} {J : MJ} {Φ : Ph} {a c o : Nat} {L : Ld} {M : Mo}
theorem s_copyFrom (hG : WG G) (hc : isM c) (ho : isM o) (hne : c ≠ o) (k : ∀ I', Fr6 c I I' → CpM c o I I' → Φ none 136 I' G J) : Ev (d + 1) mX2_copyFrom 136 0 [some (.ref c), some (.ref o)] [] 136 I G J Φ := by
  have hap := isM_apart hc ho hne
  refine w_X2_copyFrom hG hc ho (k _ (fun x hx => ?_) ⟨⟨?_, ?_, ?_⟩, fun h hh => ⟨?_, ?_⟩, fun h hh => ⟨?_, ?_⟩, fun h hh => ?_⟩)
  · simp (disch := omega) only [u2_row, ur_ne]
  · simp (disch := omega) only [u2_row, ur_ne, u2_ne, u2_at]
  · simp (disch := omega) only [u2_row, ur_ne, u2_ne, u2_at]
  · simp (disch := omega) only [u2_row, ur_ne, u2_ne, u2_at]
  · simp (disch := omega) only [u2_row, ur_ne, ur_at, sb_cpy0]
  · simp (disch := omega) only [u2_row, ur_ne, ur_at, sb_cpy0]
  · simp (disch := omega) only [u2_row, ur_ne, ur_at, sb_cpy0]
  · simp (disch := omega) only [u2_row, ur_ne, ur_at, sb_cpy0]
  · simp (disch := omega) only [u2_row, ur_ne, ur_at, sb_cpy0]
/-- the rows of evenings of a moment: n of them, W their steps -/
def pkN (w : Nat → Nat) : Nat → Nat
  | 0 => 0
  | n + 1 => pkN w n + w n * 16 ^ n
theorem pkN_lt {w : Nat → Nat} : ∀ {n : Nat}, (∀ h, h < n → w h < 16) → pkN w n < 16 ^ n
  | 0, _ => by simp [pkN]
  | n + 1, hw => by
    have ih := pkN_lt (n := n) (fun h hh => hw h (by omega))
    have := hw n (by omega)
    rw [pkN, Nat.pow_succ]
    have : w n * 16 ^ n ≤ 15 * 16 ^ n := Nat.mul_le_mul_right _ (by omega)
    omega
theorem pkN_get {w : Nat → Nat} : ∀ {n h : Nat}, (∀ h, h < n → w h < 16) → h < n → pkN w n / 2 ^ (4 * h) % 16 = w h
  | 0, h, _, hh => absurd hh (by omega)
  | n + 1, h, hw, hh => by
    have hlt := pkN_lt (n := n) (fun h hh => hw h (by omega))
    have e16 : ∀ k, 2 ^ (4 * k) = 16 ^ k := fun k => by rw [Nat.pow_mul]
    rw [pkN, e16]
    by_cases e : h = n
    · subst e
      rw [Nat.add_mul_div_right _ _ (Nat.pow_pos (by omega)), Nat.div_eq_of_lt hlt, Nat.zero_add]
      exact Nat.mod_eq_of_lt (hw h hh)
    · have ih := pkN_get (n := n) (h := h) (fun h hh => hw h (by omega)) (by omega)
      rw [e16] at ih
      have e2 : w n * 16 ^ n = (w n * 16 ^ (n - h - 1)) * 16 * 16 ^ h := by
        rw [Nat.mul_assoc, Nat.mul_assoc, ← Nat.pow_succ', ← Nat.pow_add]
        congr 2
        omega
      rw [e2, Nat.add_mul_div_right _ _ (Nat.pow_pos (by omega)), Nat.add_mul_mod_self_right]
      exact ih
theorem pkN_or {w : Nat → Nat} {n : Nat} (hw : ∀ h, h < n → w h < 16) : pkN w n ||| (w n * 2 ^ (4 * n)) = pkN w (n + 1) := by
  have hlt := pkN_lt (n := n) hw
  have e16 : 2 ^ (4 * n) = 16 ^ n := by rw [Nat.pow_mul]
  rw [← e16] at hlt
  have := Nat.two_pow_add_eq_or_of_lt hlt (w n)
  rw [pkN, ← e16, Nat.or_comm, Nat.mul_comm (w n), ← this, Nat.add_comm]
def REc (I : MI) (c : Nat) (L : Ld) (n : Nat) (W : Nat → Nat → Nat) : Prop := I c 7 = nI n ∧ ∀ i, i < n → I (c + 5) i = nI (pkN (W i) (L 0 0))
def REm (I : MI) (x : Nat) (L : Ld) (n : Nat) (W : Nat → Nat → Nat) : Prop := I 123 (x + 16) = nI n ∧ ∀ i, i < n → ∀ h, h < L 0 0 → I 123 (x + 20 + 4 * i + h) = nI (W i h)
def WEv (L : Ld) (n : Nat) (W : Nat → Nat → Nat) : Prop := n ≤ 20 ∧ ∀ i, i < n → ∀ h, h < L 0 0 → W i h ≤ 9
/-- an evening more -/
def wrN (n : Nat) : Nat := if n < 20 then n + 1 else n
def wrW (M : Mo) (W : Nat → Nat → Nat) : Nat → Nat → Nat := fun i h => if i = 0 then M 1 h else W (i - 1) h
theorem s_writeDown (X : Cm I G a c L M) {n : Nat} {W : Nat → Nat → Nat} (hE : REc I c L n W) (wE : WEv L n W) (k : ∀ I', (∀ x, ¬ (x = c ∨ x = c + 5) → I' x = I x) → Cm I' G a c L M → REc I' c L (wrN n) (wrW M W) → Φ none 136 I' G J) : Ev (d + 1) mX2_writeDown 136 0 [some (.ref c), some (.ref a), none, none] [] 136 I G J Φ := by
  have X0 := X
  obtain ⟨hG, hc, ha, hL, hM, wL, wM⟩ := X
  have b0 := wL.1
  have hma := isM_lt hc
  have hla := isL_or ha
  refine w_X2_writeDown hG hc ha ?_
  -- the packing of the steps
  have pack : ∀ I1 : MI, (∀ x, x ≠ c + 5 → I1 x = I x) → (∀ T, 1 ≤ T → T < 20 → I1 (c + 5) T = I (c + 5) (T - 1)) → Ev (d + 1) mX2_writeDown 136 31 [some (.ref c), some (.ref a), some (.int 0), some (.int 0)] [] 136 I1 G J Φ := by
    intro I1 h1 h2
    have r0 : I1 a 0 = nI (L 0 0) := by rw [h1 a (by omega)]; exact hL.1.1
    refine down_ind (E := fun i => Ev (d + 1) mX2_writeDown 136 31 [some (.ref c), some (.ref a), some (.int (nI (pkN (M 1) i))), some (.int (nI i))] [] 136 I1 G J Φ) (L 0 0) ?_ ?_ 0 (Nat.zero_le _)
    · refine w_X2_writeDown_31 hG hc ha _ _ ⟨fun _ => ?_, fun q => absurd ?_ q⟩
      · have e7 : I1 c 7 = nI n := by rw [h1 c (by omega)]; exact hE.1
        have ecn : (if (20 : Int32) < I1 c 7 + 1 then (20 : Int32) else I1 c 7 + 1) = nI (wrN n) := by
          rw [e7, show nI n + (1 : Int32) = nI (n + 1) from nI_1 n, show (20 : Int32) = nI 20 from rfl]
          unfold wrN
          by_cases e : n < 20
          · rw [if_neg (fun z => by rw [nI_ltI (by omega) (by have := wE.1; omega)] at z; omega), if_pos e]
          · have : n = 20 := by have := wE.1; omega
            subst this
            rfl
        rw [ecn]
        have rd : ∀ x, ¬ (x = c ∨ x = c + 5) → (u2 (u2 I1 (c + 5) 0 (nI (pkN (M 1) (L 0 0)))) c 7 (nI (wrN n))) x = I x := fun x hx => by
          rw [u2_row _ _ _ (by omega), u2_row _ _ _ (by omega), h1 x (by omega)]
        have hM' : RMc (u2 (u2 I1 (c + 5) 0 (nI (pkN (M 1) (L 0 0)))) c 7 (nI (wrN n))) c L M := ((hM.congr (fun x _ _ => h1 x (by omega))).evr 0 _).evs _
        refine k _ rd ⟨hG, hc, ha, hL.congr (fun x _ _ => rd x (by omega)), hM', wL, wM⟩ ⟨u2_at _ _ _ _, fun i hi => ?_⟩
        rw [u2_row _ _ _ (by omega)]
        by_cases e : i = 0
        · subst e
          rw [u2_at]
          rfl
        · have hi20 : i < 20 := by unfold wrN at hi; have := wE.1; split at hi <;> omega
          have hin : i - 1 < n := by unfold wrN at hi; have := wE.1; split at hi <;> omega
          rw [u2_ne _ _ (by omega), h2 i (by omega) hi20, hE.2 (i - 1) hin]
          have ew : wrW M W i = W (i - 1) := by funext h; simp [wrW, e]
          rw [ew]
      · rw [r0]
        exact nI_le (Nat.le_refl _) (by omega)
    · intro i hi ih
      have b4 := wL.h hi
      have b5 := (wM.2.2.1 i hi).1
      refine w_X2_writeDown_31 hG hc ha _ _ ⟨fun q => ?_, fun _ => ⟨vp_in_nI b4.1 (by decide), ?_⟩⟩
      · rw [r0, nI_leI (by omega) (by omega)] at q
        omega
      · have es : I1 (c + 1) i = nI (M 1 i) := by rw [h1 (c + 1) (by omega)]; exact (hM.2.1 i hi).1
        have hpw : 2 ^ (4 * i) ≤ 2 ^ 12 := Nat.pow_le_pow_right (by decide) (by omega)
        have hmul : M 1 i * 2 ^ (4 * i) ≤ 9 * 2 ^ 12 := Nat.mul_le_mul (by omega) hpw
        rw [nI_clamp (n := i) (by omega), es, show nI i * (4 : Int32) = nI (4 * i) by rw [show (4 : Int32) = nI 4 from rfl, pk_mul, Nat.mul_comm], nshl (by omega) (by omega), nor, pkN_or (fun h hh => by have := (wM.2.2.1 h (by omega)).1; have := wL.h (h := h) (by omega); omega), show nI i + (1 : Int32) = nI (i + 1) from nI_1 i]
        exact ih
  -- the rows move down
  have key : ∀ n1 I1, n1 ≤ 19 → (∀ x, x ≠ c + 5 → I1 x = I x) → (∀ T, I1 (c + 5) T = if n1 < T ∧ T < 20 then I (c + 5) (T - 1) else I (c + 5) T) → Ev (d + 1) mX2_writeDown 136 3 [some (.ref c), some (.ref a), some (.int (nI n1)), none] [] 136 I1 G J Φ := by
    intro n1
    induction n1 with
    | zero =>
      intro I1 hn h1 h2
      exact w_X2_writeDown_3 hG hc ha _ ⟨fun _ => pack I1 h1 (fun T ha hb => by rw [h2 T, if_pos (by omega)]), fun q => absurd (nI_le (a := 0) (b := 0) (by omega) (by omega)) q⟩
    | succ n1 ih =>
      intro I1 hn h1 h2
      refine w_X2_writeDown_3 hG hc ha _ ⟨fun q => absurd q (nI_nle (by omega) (by omega)), fun _ => ?_⟩
      rw [show nI (n1 + 1) - (1 : Int32) = nI n1 from nI_pred n1, show nI (n1 + 1) + (-1 : Int32) = nI n1 from pk_m1 n1, nI_clamp (n := n1) (by omega), nI_clamp (n := n1 + 1) (by omega)]
      refine ⟨vp_in_nI (by omega) (by decide), vp_in_nI (by omega) (by decide), ih _ (by omega) (fun x hx => by rw [u2_row _ _ _ hx, h1 x hx]) (fun T => ?_)⟩
      by_cases e : T = n1 + 1
      · subst e
        rw [u2_at, if_pos (by omega), h2 n1, if_neg (by omega), show n1 + 1 - 1 = n1 by omega]
      · rw [u2_ne _ _ (by omega), h2 T]
        by_cases e2 : n1 + 1 < T ∧ T < 20
        · rw [if_pos e2, if_pos (by omega)]
        · rw [if_neg e2, if_neg (by omega)]
  exact key 19 I (by omega) (fun _ _ => rfl) (fun T => by rw [if_neg (by omega)])
end MIX
