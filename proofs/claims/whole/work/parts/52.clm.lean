/-! ===== climbs, the object's ===== -/
theorem bit_less : ∀ c, c < 8 → ∀ m, m < 3 → c / 2 ^ m % 2 = 1 → 2 ^ m ≤ c ∧ ∀ k, k < 3 → (c - 2 ^ m) / 2 ^ k % 2 = if k = m then 0 else c / 2 ^ k % 2 := by decide +kernel
theorem sumN_but {g h : Nat → Nat} {m : Nat} : ∀ {n : Nat}, m < n → (∀ k, k < n → k ≠ m → g k = h k) → g m = 0 → sumN g n + h m = sumN h n
  | 0, hm, _, _ => by omega
  | n + 1, hm, h1, h2 => by
    rw [sumN, sumN]
    by_cases e : m = n
    · subst e
      rw [sumN_congr (fun i hi => h1 i (by omega) (by omega)), h2]; omega
    · have := sumN_but (n := n) (by omega) (fun k hk hk2 => h1 k (by omega) hk2) h2
      rw [← h1 n (by omega) (by omega)]
      omega
def jeP (w nd : Nat) (f : Nat → Nat) (c : Nat) : Prop := nd ≤ psN w f c ∧ ∀ m, m < w → c / 2 ^ m % 2 = 1 → psN w f c < nd + f m
/-- men who could be spared -/
theorem spare {w nd fr n : Nat} {F f : Nat → Nat} {c y s : Nat} (hw : w ≤ 3) (hf : ∀ m, m < w → f m ≤ F m) (hc : c < 8) (h0 : c ≠ 0) (hj : ¬ jeP w nd f c) : ∃ c', c' < c ∧ vlN w nd fr F n y (tiF F f c) (if s < fr ∧ nd ≤ psN w f c then s + 1 else s) ≤ vlN w nd fr F n y (tiF F f c') (if s < fr ∧ nd ≤ psN w f c' then s + 1 else s) := by
  by_cases e : nd ≤ psN w f c
  · have : ∃ m, m < w ∧ c / 2 ^ m % 2 = 1 ∧ nd + f m ≤ psN w f c := by
      refine Classical.byContradiction (fun z => hj ⟨e, fun m hm hb => ?_⟩)
      exact Nat.lt_of_not_le (fun q => z ⟨m, hm, hb, q⟩)
    obtain ⟨m, hm, hb, hs⟩ := this
    obtain ⟨b1, b2⟩ := bit_less c hc m (by omega) hb
    have p0 : 0 < 2 ^ m := Nat.two_pow_pos m
    have ps : psN w f (c - 2 ^ m) + f m = psN w f c := by
      have := sumN_but (g := fun k => if (c - 2 ^ m) / 2 ^ k % 2 = 1 then f k else 0) (h := fun k => if c / 2 ^ k % 2 = 1 then f k else 0) (m := m) (n := w) hm (fun k hk hk2 => by
        show (if (c - 2 ^ m) / 2 ^ k % 2 = 1 then f k else 0) = _
        rw [b2 k (by omega), if_neg hk2]) (by
        show (if (c - 2 ^ m) / 2 ^ m % 2 = 1 then f m else 0) = 0
        rw [b2 m (by omega), if_pos rfl, if_neg (by omega)])
      simp only [hb, if_true] at this
      exact this
    refine ⟨c - 2 ^ m, by omega, vl_mono n y (ti_sub hf (fun k hk hb2 => ?_)) ?_⟩
    · rw [b2 k (by omega)] at hb2
      by_cases ek : k = m
      · rw [if_pos ek] at hb2; omega
      · rwa [if_neg ek] at hb2
    · by_cases q : s < fr
      · rw [if_pos ⟨q, e⟩, if_pos ⟨q, by omega⟩]; exact Nat.le_refl _
      · rw [if_neg (fun z => q z.1), if_neg (fun z => q z.1)]; exact Nat.le_refl _
  · refine ⟨0, by omega, vl_mono n y (ti_sub hf (fun k hk hb2 => ?_)) ?_⟩
    · rw [Nat.zero_div] at hb2; omega
    · rw [if_neg (fun z => e z.2)]
      split <;> omega
/-- rows as they are kept -/
def rwF (P : Nat → Nat) (t hrs b i : Nat) : Nat := if i < t then P i else if i < hrs then dgN b (hrs - 1 - i) else 0
def exF (I I' : MI) (t : Nat) : Prop := (∀ x, ¬ (39 ≤ x ∧ x < 50) → I' x = I x) ∧ (∀ x, 41 ≤ x → x ≤ 41 + t → I' x = I x) ∧ (∀ i, i < t → I' 48 i = I 48 i) ∧ (∀ k, k ≠ 3 → I' 39 k = I 39 k)
theorem exF.rf {I : MI} {t : Nat} : exF I I t := ⟨fun _ _ => rfl, fun _ _ _ => rfl, fun _ _ => rfl, fun _ _ => rfl⟩
theorem exF.tr {I I' I'' : MI} {t : Nat} (h : exF I I' t) (g : exF I' I'' t) : exF I I'' t := ⟨fun x hx => (g.1 x hx).trans (h.1 x hx), fun x q1 q2 => (g.2.1 x q1 q2).trans (h.2.1 x q1 q2), fun i hi => (g.2.2.1 i hi).trans (h.2.2.1 i hi), fun k hk => (g.2.2.2 k hk).trans (h.2.2.2 k hk)⟩
theorem exF.le {I I' : MI} {t u : Nat} (h : exF I I' u) (q : t ≤ u) : exF I I' t := ⟨h.1, fun x q1 q2 => h.2.1 x q1 (by omega), fun i hi => h.2.2.1 i (by omega), h.2.2.2⟩
section CLO
variable {d : Nat} {I : MI} {G : MG} {J : MJ} {Φ : Ph} {a : Nat} {L : Ld}
theorem s_isIn (hG : WG G) {c m : Nat} (hc : c < 8) (hm : m < 3) (k : Φ (some (.int (if c / 2 ^ m % 2 = 1 then 1 else 0))) 136 I G J) : Ev d mX0_isIn 136 0 [some (.int (nI c)), some (.int (nI m))] [] 136 I G J Φ := by
  have b2 := Nat.div_le_self c (2 ^ m)
  refine w_X0_isIn hG _ _ ?_
  rw [nshr (by omega) (by omega), nand1 (by omega), show (1 : Int32) = nI 1 from rfl, nI_eq (by omega) (by omega)]
  refine ⟨fun q => ?_, fun q => ?_⟩
  · rwa [if_neg q] at k
  · rwa [if_pos q] at k
theorem s_justEnough (X : Cl I G a L) {nd t c : Nat} {f : Nat → Nat} (ht : t < 7) (hc : c < 8) (hnd : nd ≤ 100) (h4 : I 39 4 = nI nd) (hs : ∀ m, m < L 0 2 → I (41 + t) m = nI (f m)) (hf : ∀ m, m < L 0 2 → f m ≤ L 8 m) (k1 : jeP (L 0 2) nd f c → Φ (some (.int 1)) 136 I G J) (k0 : ¬ jeP (L 0 2) nd f c → Φ (some (.int 0)) 136 I G J) : Ev (d + 1) mX0_isJustEnough 136 0 [some (.ref 39), some (.ref a), some (.int (nI t)), some (.int (nI c)), none, none] [] 136 I G J Φ := by
  obtain ⟨hG, ha, hL, wL⟩ := X
  have b3 := wL.2.2.1
  have f9 : ∀ m, m < L 0 2 → f m ≤ 9 := fun m hm => by have := hf m hm; have := wL.m hm; omega
  have pb : psN (L 0 2) f c ≤ 27 := by
    have h1 := sumN_le (f := fun m => if c / 2 ^ m % 2 = 1 then f m else 0) (b := 9) (n := L 0 2) (fun i hi => by
      have := f9 i hi
      split <;> omega)
    unfold psN
    omega
  have v7 : vp_in (nI t) 7 := vp_in_nI ht (by decide)
  refine w_X0_isJustEnough hG ha _ _ ?_
  refine down_ind (E := fun i => Ev (d + 1) mX0_isJustEnough 136 6 [some (.ref 39), some (.ref a), some (.int (nI t)), some (.int (nI c)), some (.int (nI (sumN (fun m => if c / 2 ^ m % 2 = 1 then f m else 0) i))), some (.int (nI i))] [] 136 I G J Φ) (L 0 2) ?_ ?_ 0 (Nat.zero_le _)
  · refine w_X0_isJustEnough_6 hG ha _ _ _ _ ⟨fun _ => ?_, fun q => absurd ?_ q⟩
    · rw [h4]
      show (nI nd ≤ nI (psN (L 0 2) f c) → Ev (d + 1) mX0_isJustEnough 136 62 [some (.ref 39), some (.ref a), some (.int (nI t)), some (.int (nI c)), some (.int (nI (psN (L 0 2) f c))), some (.int (0 : Int32))] [] 136 I G J Φ) ∧ (¬ nI nd ≤ nI (psN (L 0 2) f c) → _)
      rw [nI_leI (by omega) (by omega)]
      refine ⟨fun e => ?_, fun e => k0 (fun z => e z.1)⟩
      have key : ∀ i, i ≤ L 0 2 → (∀ m, m < i → c / 2 ^ m % 2 = 1 → psN (L 0 2) f c < nd + f m) → Ev (d + 1) mX0_isJustEnough 136 62 [some (.ref 39), some (.ref a), some (.int (nI t)), some (.int (nI c)), some (.int (nI (psN (L 0 2) f c))), some (.int (nI i))] [] 136 I G J Φ := by
        refine down_ind (E := fun i => (∀ m, m < i → c / 2 ^ m % 2 = 1 → psN (L 0 2) f c < nd + f m) → Ev (d + 1) mX0_isJustEnough 136 62 [some (.ref 39), some (.ref a), some (.int (nI t)), some (.int (nI c)), some (.int (nI (psN (L 0 2) f c))), some (.int (nI i))] [] 136 I G J Φ) (L 0 2) ?_ ?_
        · intro hall
          refine w_X0_isJustEnough_62 hG ha _ _ _ _ ⟨fun _ => k1 ⟨e, hall⟩, fun q => absurd ?_ q⟩
          rw [hL.1.2.2.1]; exact nI_le (Nat.le_refl _) (by omega)
        · intro i hi ih hall
          have := f9 i hi
          have nx : (c / 2 ^ i % 2 = 1 → psN (L 0 2) f c < nd + f i) → Ev (d + 1) mX0_isJustEnough 136 62 [some (.ref 39), some (.ref a), some (.int (nI t)), some (.int (nI c)), some (.int (nI (psN (L 0 2) f c))), some (.int (nI (i + 1)))] [] 136 I G J Φ := fun q => ih (fun m hm hb => by
            by_cases em : m = i
            · subst em; exact q hb
            · exact hall m (by omega) hb)
          refine w_X0_isJustEnough_62 hG ha _ _ _ _ ⟨fun q => ?_, fun _ => s_isIn hG hc (by omega) ⟨_, rfl, rfl, rfl, rfl, rfl, ?_⟩⟩
          · rw [hL.1.2.2.1, nI_leI (by omega) (by omega)] at q
            omega
          · rw [if01, show nI i + (1 : Int32) = nI (i + 1) from nI_1 _]
            refine ⟨fun q => nx (fun z => absurd z q), fun q => ⟨v7, vp_in_nI (by omega) (by decide), ?_⟩⟩
            rw [nI_clamp (n := t) (by omega), nI_clamp (n := i) (by omega), hs i hi, h4]
            have ec : nI (psN (L 0 2) f c) - nI (f i) < nI nd ↔ psN (L 0 2) f c < nd + f i := by
              rw [Int32.lt_iff_toInt_lt, sub_toI (by omega) (by omega), toI_nI (by omega)]
              omega
            rw [ec]
            exact ⟨fun z => nx (fun _ => z), fun z => k0 (fun y => z (y.2 i hi (Decidable.not_not.mp q)))⟩
      exact key 0 (Nat.zero_le _) (fun m hm => absurd hm (by omega))
    · rw [hL.1.2.2.1]; exact nI_le (Nat.le_refl _) (by omega)
  · intro i hi ih
    refine w_X0_isJustEnough_6 hG ha _ _ _ _ ⟨fun q => ?_, fun _ => s_isIn hG hc (by omega) ⟨_, rfl, rfl, rfl, rfl, rfl, ?_⟩⟩
    · rw [hL.1.2.2.1, nI_leI (by omega) (by omega)] at q
      omega
    · rw [if01, show nI i + (1 : Int32) = nI (i + 1) from nI_1 _, nI_clamp (n := t) (by omega), nI_clamp (n := i) (by omega), hs i hi, show (0 : Int32) = nI 0 from rfl, nI_add, nI_add]
      rw [sumN] at ih
      refine ⟨fun q => ?_, fun q => ⟨v7, vp_in_nI (by omega) (by decide), ?_⟩⟩
      · rw [if_neg q] at ih; exact ih
      · rw [if_pos (Decidable.not_not.mp q)] at ih; exact ih
theorem s_clTire (X : Cl I G a L) {t c : Nat} {f : Nat → Nat} (ht : t < 6) (hc : c < 8) (hs : ∀ m, m < L 0 2 → I (41 + t) m = nI (f m)) (hf : ∀ m, m < L 0 2 → f m ≤ L 8 m) (k : ∀ I', (∀ x, x ≠ 41 + (t + 1) → I' x = I x) → (∀ m, m < L 0 2 → I' (41 + (t + 1)) m = nI (tiF (L 8) f c m)) → Φ none 136 I' G J) : Ev (d + 1) mX0_tire 136 0 [some (.ref 39), some (.ref a), some (.int (nI t)), some (.int (nI c)), none, none] [] 136 I G J Φ := by
  obtain ⟨hG, ha, hL, wL⟩ := X
  have b3 := wL.2.2.1
  have hla := isL_or ha
  refine w_X0_tire hG ha _ _ ?_
  have key : ∀ i, i ≤ L 0 2 → ∀ I1 : MI, (∀ x, x ≠ 41 + (t + 1) → I1 x = I x) → (∀ m, m < i → I1 (41 + (t + 1)) m = nI (tiF (L 8) f c m)) → Ev (d + 1) mX0_tire 136 3 [some (.ref 39), some (.ref a), some (.int (nI t)), some (.int (nI c)), some (.int (nI i)), none] [] 136 I1 G J Φ := by
    refine down_ind (E := fun i => ∀ I1 : MI, (∀ x, x ≠ 41 + (t + 1) → I1 x = I x) → (∀ m, m < i → I1 (41 + (t + 1)) m = nI (tiF (L 8) f c m)) → Ev (d + 1) mX0_tire 136 3 [some (.ref 39), some (.ref a), some (.int (nI t)), some (.int (nI c)), some (.int (nI i)), none] [] 136 I1 G J Φ) (L 0 2) ?_ ?_
    · intro I1 f1 f2
      refine w_X0_tire_3 hG ha _ _ _ ⟨fun _ => k I1 f1 f2, fun q => absurd ?_ q⟩
      rw [f1 a (by omega), hL.1.2.2.1]; exact nI_le (Nat.le_refl _) (by omega)
    · intro i hi ih I1 f1 f2
      have b4 := wL.m hi
      have b5 := hf i hi
      have v3 : vp_in (nI i) 3 := vp_in_nI (by omega) (by decide)
      have go : ∀ v, v = tiF (L 8) f c i → Ev (d + 1) mX0_tire 136 3 [some (.ref 39), some (.ref a), some (.int (nI t)), some (.int (nI c)), some (.int (nI (i + 1))), none] [] 136 (u2 I1 (41 + (t + 1)) i (nI v)) G J Φ := by
        intro v hv
        refine ih _ (fun x hx => by rw [u2_row _ _ _ hx, f1 x hx]) (fun m hm => ?_)
        by_cases e : m = i
        · rw [e, u2_at, hv]
        · rw [u2_ne _ _ (by omega)]; exact f2 m (by omega)
      refine w_X0_tire_3 hG ha _ _ _ ⟨fun q => ?_, fun _ => ?_⟩
      · rw [f1 a (by omega), hL.1.2.2.1, nI_leI (by omega) (by omega)] at q
        omega
      · rw [show nI t + (1 : Int32) = nI (t + 1) from nI_1 _, show nI i + (1 : Int32) = nI (i + 1) from nI_1 _, nI_clamp (n := t) (by omega), nI_clamp (n := t + 1) (by omega), nI_clamp (n := i) (by omega), f1 (41 + t) (by omega), hs i hi, f1 (a + 8) (by omega), hL.2.2.2 i hi]
        refine ⟨vp_in_nI (by omega) (by decide), v3, vp_in_nI (by omega) (by decide), s_isIn hG hc (by omega) ⟨_, rfl, rfl, rfl, rfl, rfl, ?_⟩⟩
        rw [if01]
        refine ⟨fun q => ⟨v3, v3, ?_⟩, fun q => ⟨v3, ?_⟩⟩
        · have e : (if nI (f i) + (1 : Int32) < nI (L 8 i) then nI (f i) + 1 else nI (L 8 i)) = nI (min (L 8 i) (f i + 1)) := by
            rw [show nI (f i) + (1 : Int32) = nI (f i + 1) from nI_1 _]
            by_cases e : f i + 1 < L 8 i
            · rw [if_pos ((nI_ltI (by omega) (by omega)).mpr e), show min (L 8 i) (f i + 1) = f i + 1 by omega]
            · rw [if_neg (fun z => e ((nI_ltI (by omega) (by omega)).mp z)), show min (L 8 i) (f i + 1) = L 8 i by omega]
          rw [e]
          exact go _ (by unfold tiF; rw [if_neg q])
        · have e : (if (0 : Int32) < nI (f i) - 1 then nI (f i) - 1 else 0) = nI (f i - 1) := by
            have := max_sub (s := f i) (q := 1) (m := 0) (by omega) (by omega) (by omega)
            rw [show (0 : Int32) = nI 0 from rfl, show (1 : Int32) = nI 1 from rfl, this, show max 0 (f i - 1) = f i - 1 by omega]
          rw [e]
          exact go _ (by unfold tiF; rw [if_pos (Decidable.not_not.mp q)])
  exact key 0 (Nat.zero_le _) I (fun _ _ => rfl) (fun m hm => absurd hm (by omega))
theorem s_keepRow (hG : WG G) {t v : Nat} (ht : t ≤ 6) (hv : v < 100) (k : ∀ I' : MI, (∀ x, x ≠ 39 → x ≠ 49 → I' x = I x) → (∀ j, j ≠ 3 → I' 39 j = I 39 j) → I' 39 3 = nI v → (∀ i, i < 6 → I' 49 i = if i < t then I 48 i else nI 0) → Φ none 136 I' G J) : Ev d mX0_keepRow 136 0 [some (.ref 39), some (.int (nI t)), some (.int (nI v)), none] [] 136 I G J Φ := by
  refine w_X0_keepRow hG _ _ ?_
  have key : ∀ i, i ≤ 6 → ∀ I1 : MI, (∀ x, x ≠ 39 → x ≠ 49 → I1 x = I x) → (∀ j, j ≠ 3 → I1 39 j = I 39 j) → I1 39 3 = nI v → (∀ j, j < i → I1 49 j = if j < t then I 48 j else nI 0) → Ev d mX0_keepRow 136 7 [some (.ref 39), some (.int (nI t)), some (.int (nI v)), some (.int (nI i))] [] 136 I1 G J Φ := by
    refine down_ind (E := fun i => ∀ I1 : MI, (∀ x, x ≠ 39 → x ≠ 49 → I1 x = I x) → (∀ j, j ≠ 3 → I1 39 j = I 39 j) → I1 39 3 = nI v → (∀ j, j < i → I1 49 j = if j < t then I 48 j else nI 0) → Ev d mX0_keepRow 136 7 [some (.ref 39), some (.int (nI t)), some (.int (nI v)), some (.int (nI i))] [] 136 I1 G J Φ) 6 ?_ ?_
    · intro I1 f1 f2 f3 f4
      exact w_X0_keepRow_7 hG _ _ _ ⟨fun _ => k I1 f1 f2 f3 f4, fun q => absurd (nI_le (a := 6) (b := 6) (by omega) (by omega)) q⟩
    · intro i hi ih I1 f1 f2 f3 f4
      have v6 : vp_in (nI i) 6 := vp_in_nI hi (by decide)
      have go : ∀ x : Int32, x = (if i < t then I 48 i else nI 0) → Ev d mX0_keepRow 136 7 [some (.ref 39), some (.int (nI t)), some (.int (nI v)), some (.int (nI (i + 1)))] [] 136 (u2 I1 49 i x) G J Φ := by
        intro x hx
        refine ih _ (fun y h1 h2 => by rw [u2_row _ _ _ h2, f1 y h1 h2]) (fun j hj => by rw [u2_row _ _ _ (by omega), f2 j hj]) (by rw [u2_row _ _ _ (by omega), f3]) (fun j hj => ?_)
        by_cases e : j = i
        · rw [e, u2_at, hx]
        · rw [u2_ne _ _ (by omega)]; exact f4 j (by omega)
      refine w_X0_keepRow_7 hG _ _ _ ⟨fun q => absurd q (nI_ge (a := i) (b := 6) hi (by omega)), fun _ => ?_⟩
      rw [nI_leI (by omega) (by omega), nI_clamp (n := i) (by omega), show nI i + (1 : Int32) = nI (i + 1) from nI_1 _, f1 48 (by omega) (by omega)]
      refine ⟨fun q => ⟨v6, go _ (by rw [if_neg (by omega)]; rfl)⟩, fun q => ⟨v6, v6, go _ (by rw [if_pos (by omega)])⟩⟩
  refine key 0 (by omega) _ (fun x h1 h2 => u2_row _ _ _ h1) (fun j hj => u2_ne _ _ (by omega)) (u2_at _ _ _ _) (fun j hj => absurd hj (by omega))
end CLO
