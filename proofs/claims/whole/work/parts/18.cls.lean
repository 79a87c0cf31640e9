/-! ===== a day, a dusk ===== -/
def syB (L : Ld) (M : Mo) (r : Bool) (h : Nat) : Bool := ovr L M h || (!r && decide (L 3 h / 2 ^ M 1 h % 2 = 1))
/-- the first n stones roll, or stay -/
def dkM (L : Ld) (M : Mo) (r : Bool) (n : Nat) : Mo := fun t h => if h < n ∧ syB L M r h = false then (if t = 1 then 0 else if t = 2 then M 2 h + M 1 h else M t h) else M t h
theorem dkM_0 (L : Ld) (M : Mo) (r : Bool) : dkM L M r 0 = M := by funext t h; simp [dkM]
theorem dkM_y (L : Ld) (M : Mo) (r : Bool) {n : Nat} (h : syB L M r n = true) : dkM L M r (n + 1) = dkM L M r n := by
  funext t m
  by_cases e : m = n
  · subst e; simp [dkM, h]
  · simp [dkM, show m < n + 1 ↔ m < n by omega]
theorem dkM_n (L : Ld) (M : Mo) (r : Bool) {n : Nat} (h : syB L M r n = false) : dkM L M r (n + 1) = u2 (u2 (dkM L M r n) 2 n (M 2 n + M 1 n)) 1 n 0 := by
  funext t m
  by_cases e : m = n
  · subst e
    by_cases h1 : t = 1
    · subst h1; simp [dkM, h, u2]
    · by_cases h2 : t = 2
      · subst h2; simp [dkM, h, u2]
      · simp [dkM, h, u2, h1, h2]
  · simp [dkM, u2, e, show m < n + 1 ↔ m < n by omega]
theorem dkM_at (L : Ld) (M : Mo) (r : Bool) {n m : Nat} (h : n ≤ m) (t : Nat) : dkM L M r n t m = M t m := by simp [dkM, show ¬ m < n by omega]
theorem dkM_t {L : Ld} {M : Mo} {r : Bool} {n t : Nat} (h1 : t ≠ 1) (h2 : t ≠ 2) : dkM L M r n t = M t := by funext m; simp [dkM, h1, h2]
def duM (L : Ld) (M : Mo) (r : Bool) : Mo := u2 (u2 (rsM L (dkM L M r (L 0 0)) (L 0 2)) 0 0 (M 0 0 + 1)) 0 1 0
def rnB (L : Ld) (day : Nat) : Bool := decide (L 0 4 / 2 ^ (day % 7) % 2 = 1)
/-- n hours -/
def phN (L : Ld) : Nat → Mo → Mo
  | 0, M => M
  | n + 1, M => phN L n (phM L M)
theorem phM_hour (L : Ld) (M : Mo) : phM L M 0 1 = M 0 1 + 1 := by rw [phM, u2_at]
section CLS5
variable {d : Nat} {I : MI} {G : MG} {J : MJ} {Φ : Ph} {a c : Nat} {L : Ld} {M : Mo}
theorem dkM_w (w : WMo L M) (hr : ∀ h, h < L 0 0 → M 2 h ≤ 50000) (wL : WLd L) (r : Bool) (n : Nat) : WMo L (dkM L M r n) := by
  obtain ⟨w1, w2, w3, w4⟩ := w
  refine ⟨by rw [dkM_t (by decide) (by decide)]; exact w1, by rw [dkM_t (by decide) (by decide)]; exact w2, fun h hh => ?_, fun m hm => by rw [dkM_t (by decide) (by decide), dkM_t (by decide) (by decide)]; exact w4 m hm⟩
  have := w3 h hh
  have := hr h hh
  have := wL.h hh
  unfold dkM
  by_cases e : h < n ∧ syB L M r h = false
  · simp only [e, and_self, if_true]
    simp
    omega
  · simp only [e, if_false]
    omega
theorem rsM_w (w : WMo L M) (n : Nat) : WMo L (rsM L M n) := by
  obtain ⟨w1, w2, w3, w4⟩ := w
  refine ⟨by simpa [rsM] using w1, by simpa [rsM] using w2, fun h hh => by simpa [rsM] using w3 h hh, fun m hm => ⟨?_, by simpa [rsM] using (w4 m hm).2⟩⟩
  by_cases e : m < n
  · simp [rsM, e]
  · simp only [rsM, e, and_false, if_false]
    exact (w4 m hm).1
theorem duM_w (w : WMo L M) (hr : ∀ h, h < L 0 0 → M 2 h ≤ 50000) (wL : WLd L) (hd : M 0 0 < 1000) (r : Bool) : WMo L (duM L M r) := by
  obtain ⟨w1, w2, w3, w4⟩ := rsM_w (dkM_w w hr wL r (L 0 0)) (L 0 2)
  unfold duM
  refine ⟨by rw [u2_ne _ _ (by omega), u2_at]; omega, by rw [u2_at]; omega, fun h hh => ?_, fun m hm => ?_⟩
  · rw [u2_row _ _ _ (show (1 : Nat) ≠ 0 by decide), u2_row _ _ _ (show (1 : Nat) ≠ 0 by decide), u2_row _ _ _ (show (2 : Nat) ≠ 0 by decide), u2_row _ _ _ (show (2 : Nat) ≠ 0 by decide)]
    exact w3 h hh
  · rw [u2_row _ _ _ (show (3 : Nat) ≠ 0 by decide), u2_row _ _ _ (show (3 : Nat) ≠ 0 by decide), u2_row _ _ _ (show (4 : Nat) ≠ 0 by decide), u2_row _ _ _ (show (4 : Nat) ≠ 0 by decide)]
    exact w4 m hm
theorem s_hasLedge (X : Cl I G a L) {h p : Nat} (hh : h < L 0 0) (hp : p < 32) (k : Φ (some (.int (if L 3 h / 2 ^ p % 2 = 1 then 1 else 0))) 136 I G J) : Ev d mX1_hasLedge 136 0 [some (.ref a), some (.int (nI h)), some (.int (nI p))] [] 136 I G J Φ := by
  obtain ⟨hG, ha, hL, wL⟩ := X
  have b := wL.h hh
  have b2 := Nat.div_le_self (L 3 h) (2 ^ p)
  refine w_X1_hasLedge hG ha _ _ ⟨vp_in_nI b.1 (by decide), ?_⟩
  rw [nI_clamp (by omega), (hL.2.1 h hh).2.2.1, nshr (by omega) hp, nand1 (by omega), show (1 : Int32) = nI 1 from rfl, nI_eq (by omega) (by omega)]
  refine ⟨fun q => ?_, fun q => ?_⟩
  · rwa [if_neg q] at k
  · rwa [if_pos q] at k
theorem s_rainsOn (X : Cl I G a L) {n : Nat} (hn : n < 100000) (k : Φ (some (.int (if rnB L n then 1 else 0))) 136 I G J) : Ev d mX1_rainsOn 136 0 [some (.ref a), some (.int (nI n))] [] 136 I G J Φ := by
  obtain ⟨hG, ha, hL, wL⟩ := X
  have b := wL.2.2.2.2.1
  have b2 := Nat.div_le_self (L 0 4) (2 ^ (n % 7))
  refine w_X1_rainsOn hG ha _ ?_
  rw [hL.1.2.2.2.2, show (7 : Int32) = nI 7 from rfl, pk_rem (by omega) (by omega) (by omega), nshr (by omega) (by omega), nand1 (by omega), show (1 : Int32) = nI 1 from rfl, nI_eq (by omega) (by omega)]
  unfold rnB at k
  simp only [decide_eq_true_eq] at k
  refine ⟨fun q => ?_, fun q => ?_⟩
  · rwa [if_neg q] at k
  · rwa [if_pos q] at k
theorem s_forceOf (X : Cl I G a L) {s : Nat} (hs : s < 8) (k : Φ (some (.int (nI (foN L s)))) 136 I G J) : Ev d mX1_forceOf 136 0 [some (.ref a), some (.int (nI s)), none, none] [] 136 I G J Φ := by
  obtain ⟨hG, ha, hL, wL⟩ := X
  have b3 := wL.2.2.1
  refine w_X1_forceOf hG ha _ ?_
  refine down_ind (E := fun i => Ev d mX1_forceOf 136 4 [some (.ref a), some (.int (nI s)), some (.int (nI (sumN (fun m => if s / 2 ^ m % 2 = 1 then L 8 m else 0) i))), some (.int (nI i))] [] 136 I G J Φ) (L 0 2) ?_ ?_ 0 (Nat.zero_le _)
  · refine w_X1_forceOf_4 hG ha _ _ _ ⟨fun _ => k, fun q => absurd ?_ q⟩
    rw [hL.1.2.2.1]
    exact nI_le (Nat.le_refl _) (by omega)
  · intro i hi ih
    have b4 := wL.m hi
    have b2 := Nat.div_le_self s (2 ^ i)
    refine w_X1_forceOf_4 hG ha _ _ _ ⟨fun q => ?_, fun _ => ?_⟩
    · rw [hL.1.2.2.1, nI_leI (by omega) (by omega)] at q
      omega
    · rw [nI_clamp (by omega), hL.2.2.2 i hi, nshr (by omega) (by omega), nand1 (by omega), show nI i + (1 : Int32) = nI (i + 1) from nI_1 i, show (1 : Int32) = nI 1 from rfl, nI_eq (by omega) (by omega), nI_add]
      rw [sumN] at ih
      refine ⟨fun q => ?_, fun q => ⟨vp_in_nI b4.1 (by decide), ?_⟩⟩
      · rwa [if_neg q, Nat.add_zero] at ih
      · rwa [if_pos q] at ih
theorem s_fallDusk (X : Cm I G a c L M) (r : Bool) (hr : ∀ h, h < L 0 0 → M 2 h ≤ 50000) (hdy : M 0 0 < 1000) (k : ∀ I', Fr c I I' → Cm I' G a c L (duM L M r) → Φ none 136 I' G J) : Ev (d + 1) mX2_fallDusk 136 0 [some (.ref c), some (.ref a), some (.int (if r then 1 else 0)), none, none] [] 136 I G J Φ := by
  have hG := X.1
  have hc := X.2.1
  have ha := X.2.2.1
  have wL := X.2.2.2.2.2.1
  have wM := X.2.2.2.2.2.2
  have b0 := wL.1
  refine w_X2_fallDusk hG hc ha _ ?_
  refine down_ind (E := fun i => ∀ I', Fr c I I' → Cm I' G a c L (dkM L M r i) → Ev (d + 1) mX2_fallDusk 136 2 [some (.ref c), some (.ref a), some (.int (if r then 1 else 0)), some (.int (nI i)), none] [] 136 I' G J Φ) (L 0 0) ?_ ?_ 0 (Nat.zero_le _) I Fr.rf (by rw [dkM_0]; exact X)
  · intro I' hf X'
    refine w_X2_fallDusk_2 hG hc ha _ _ ⟨fun _ => s_rest X' (fun I2 hf2 X2 => ⟨rfl, rfl, rfl, rfl, ?_⟩), fun q => absurd ?_ q⟩
    · obtain ⟨-, -, -, hL, hM, -, wM'⟩ := id X2
      have e0 : rsM L (dkM L M r (L 0 0)) (L 0 2) 0 0 = M 0 0 := by
        simp only [rsM, show ¬ (0 = 3) by decide, false_and, if_false]
        rw [dkM_t (by decide) (by decide)]
      have hf3 : Fr c I2 (u2 (u2 I2 c 0 (I2 c 0 + 1)) c 1 0) := (Fr.rf.u2 (by omega) (by omega)).u2 (by omega) (by omega)
      refine k _ ((hf.tr hf2).tr hf3) (X2.fr hf3 ?_ (duM_w wM hr wL hdy r))
      rw [hM.1.1, e0, show nI (M 0 0) + (1 : Int32) = nI (M 0 0 + 1) from nI_1 _]
      exact (hM.day _).hour 0
    · rw [X'.2.2.2.1.1.1]
      exact nI_le (Nat.le_refl _) (by omega)
  · intro i hi ih I' hf X'
    obtain ⟨-, -, -, hL, hM, -, wM'⟩ := id X'
    have b4 := wL.h hi
    have b5 := wM.2.2.1 i hi
    have b6 := hr i hi
    have v : vp_in (nI i) 4 := vp_in_nI b4.1 (by decide)
    have eo : ovr L (dkM L M r i) i = ovr L M i := by unfold ovr; rw [dkM_at L M r (Nat.le_refl _)]
    have g1 := (hM.2.1 i hi).1
    have g2 := (hM.2.1 i hi).2
    rw [dkM_at L M r (Nat.le_refl _)] at g1 g2
    have hY : syB L M r i = true → Ev (d + 1) mX2_fallDusk 136 2 [some (.ref c), some (.ref a), some (.int (if r then 1 else 0)), some (.int (nI i + 1)), none] [] 136 I' G J Φ := by
      intro hs
      rw [show nI i + (1 : Int32) = nI (i + 1) from nI_1 i]
      exact ih I' hf (by rw [dkM_y L M r hs]; exact X')
    have hN : syB L M r i = false → Ev (d + 1) mX2_fallDusk 136 2 [some (.ref c), some (.ref a), some (.int (if r then 1 else 0)), some (.int (nI i + 1)), none] [] 136 (u2 (u2 I' (c + 2) i (nI (M 2 i) + nI (M 1 i))) (c + 1) i 0) G J Φ := by
      intro hs
      rw [show nI i + (1 : Int32) = nI (i + 1) from nI_1 i, nI_add]
      have hf2 : Fr c I' (u2 (u2 I' (c + 2) i (nI (M 2 i + M 1 i))) (c + 1) i 0) := (Fr.rf.u2 (by omega) (by omega)).u2 (by omega) (by omega)
      refine ih _ (hf.tr hf2) (X'.fr hf2 ?_ (dkM_w wM hr wL r (i + 1)))
      rw [dkM_n L M r hs]
      exact (hM.roll i _).step i 0
    refine w_X2_fallDusk_2 hG hc ha _ _ ⟨fun q => ?_, fun _ => s_isOver X' hi ⟨_, rfl, rfl, rfl, rfl, rfl, ?_⟩⟩
    · rw [hL.1.1, nI_leI (by omega) (by omega)] at q
      omega
    · rw [if01, if01, nI_clamp (by omega), g1, g2, eo]
      refine ⟨fun q => hY (by unfold syB; rw [Decidable.not_not.mp q]; rfl), fun q => ⟨fun q2 => ⟨v, v, v, v, hN (by unfold syB; rw [show ovr L M i = false by simpa using q, show r = true by simpa using q2]; rfl)⟩, fun q2 => ⟨v, s_hasLedge X'.l hi (by omega) ⟨_, rfl, rfl, rfl, rfl, rfl, ?_⟩⟩⟩⟩
      rw [if01]
      have q' : ovr L M i = false := by simpa using q
      have q2' : r = false := by simpa using q2
      refine ⟨fun q3 => ⟨v, v, v, v, hN (by unfold syB; rw [q', q2']; simpa using q3)⟩, fun q3 => hY (by unfold syB; rw [q', q2']; simpa using q3)⟩
theorem s_passDay (X : Cm I G a c L M) (k : ∀ I', Fr c I I' → Cm I' G a c L (phN L (L 0 3 - M 0 1) M) → Φ none 136 I' G J) : Ev (d + 5) mX2_passDay 136 0 [some (.ref c), some (.ref a), none, none] [] 136 I G J Φ := by
  have hG := X.1
  have hc := X.2.1
  have ha := X.2.2.1
  have wL := X.2.2.2.2.2.1
  have b := wL.2.2.2.1
  refine w_X2_passDay hG hc ha (s_hoursLeft X ⟨_, rfl, rfl, rfl, rfl, rfl, ?_⟩)
  have key : ∀ n I' (M' : Mo) t, Fr c I I' → Cm I' G a c L M' → t + n = L 0 3 - M 0 1 → L 0 3 - M' 0 1 = n → M' 0 1 ≤ L 0 3 → phN L n M' = phN L (L 0 3 - M 0 1) M → Ev (d + 5) mX2_passDay 136 8 [some (.ref c), some (.ref a), some (.int (nI (L 0 3 - M 0 1))), some (.int (nI t))] [] 136 I' G J Φ := by
    intro n
    induction n with
    | zero =>
      intro I' M' t hf X' h1 h2 h3 h4
      refine w_X2_passDay_8 hG hc ha _ _ ⟨fun _ => k I' hf (by rw [← h4]; exact X'), fun q => absurd ?_ q⟩
      exact nI_le (by omega) (by omega)
    | succ n ih =>
      intro I' M' t hf X' h1 h2 h3 h4
      refine w_X2_passDay_8 hG hc ha _ _ ⟨fun q => ?_, fun _ => s_passHour X' (by omega) (fun I2 hf2 X2 => ⟨_, rfl, rfl, rfl, rfl, ?_⟩)⟩
      · rw [nI_leI (by omega) (by omega)] at q
        omega
      · rw [show nI t + (1 : Int32) = nI (t + 1) from nI_1 t]
        refine ih I2 _ (t + 1) (hf.tr hf2) X2 (by omega) (by rw [phM_hour]; omega) (by rw [phM_hour]; omega) ?_
        rw [← h4]
        rfl
  exact key (L 0 3 - M 0 1) I M 0 Fr.rf X (by omega) rfl X.2.2.2.2.2.2.2.1 rfl
theorem s_writtenStep (hG : WG G) (hc : isM c) {i h w : Nat} (hi : i < 20) (hh : h < 4) (hw : I (c + 5) i = nI w) (hb : w < 65536) (k : Φ (some (.int (nI (w / 2 ^ (4 * h) % 16)))) 136 I G J) : Ev d mX2_writtenStep 136 0 [some (.ref c), some (.int (nI i)), some (.int (nI h))] [] 136 I G J Φ := by
  have b2 := Nat.div_le_self w (2 ^ (h * 4))
  refine w_X2_writtenStep hG hc _ _ ⟨fun q => absurd q (nI_pos (by omega)), fun _ => ⟨fun _ => ⟨vp_in_nI hi (by decide), ?_⟩, fun q => absurd ?_ q⟩⟩
  · rw [nI_clamp (by omega), hw, show (4 : Int32) = nI 4 from rfl, pk_mul, nshr (by omega) (by omega), nand15 (by omega), Nat.mul_comm h 4]
    exact k
  · rw [show (20 : Int32) = nI 20 from rfl, nI_ltI (by omega) (by omega)]
    exact hi
end CLS5
