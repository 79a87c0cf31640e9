/-! ===== methods that change a moment ===== -/
/-- nothing but the five cells from c on has changed, and not its evenings -/
def Fr (c : Nat) (I I' : MI) : Prop := (∀ x, ¬ (c ≤ x ∧ x < c + 5) → I' x = I x) ∧ I' c 7 = I c 7
theorem Fr.rf {c : Nat} {I : MI} : Fr c I I := ⟨fun _ _ => rfl, rfl⟩
theorem Fr.tr {c : Nat} {I I' I'' : MI} (h : Fr c I I') (h2 : Fr c I' I'') : Fr c I I'' := ⟨fun x hx => (h2.1 x hx).trans (h.1 x hx), h2.2.trans h.2⟩
theorem Fr.u2 {c : Nat} {I I' : MI} (h : Fr c I I') {x k : Nat} {v : Int32} (hx : c ≤ x ∧ x < c + 5) (hk : ¬ (c = x ∧ 7 = k)) : Fr c I (u2 I' x k v) := ⟨fun y hy => (u2_row _ _ _ (fun (e : y = x) => hy (by rw [e]; exact hx))).trans (h.1 y hy), (u2_ne _ _ hk).trans h.2⟩
theorem RLc.congr {I I' : MI} {a : Nat} {L : Ld} (h : RLc I a L) (hf : ∀ x, a ≤ x → x < a + 9 → I' x = I x) : RLc I' a L := by
  obtain ⟨h1, h2, h3, h4⟩ := h
  unfold RLc
  rw [hf a (by omega) (by omega), hf (a + 1) (by omega) (by omega), hf (a + 2) (by omega) (by omega), hf (a + 3) (by omega) (by omega), hf (a + 4) (by omega) (by omega), hf (a + 5) (by omega) (by omega), hf (a + 6) (by omega) (by omega), hf (a + 7) (by omega) (by omega), hf (a + 8) (by omega) (by omega)]
  exact ⟨h1, h2, h3, h4⟩
theorem RMc.congr {I I' : MI} {c : Nat} {L : Ld} {M : Mo} (h : RMc I c L M) (hf : ∀ x, c ≤ x → x < c + 5 → I' x = I x) : RMc I' c L M := by
  obtain ⟨h1, h2, h3⟩ := h
  unfold RMc
  rw [hf c (by omega) (by omega), hf (c + 1) (by omega) (by omega), hf (c + 2) (by omega) (by omega), hf (c + 3) (by omega) (by omega), hf (c + 4) (by omega) (by omega)]
  exact ⟨h1, h2, h3⟩
theorem Cm.fr {I I' : MI} {G : MG} {a c : Nat} {L : Ld} {M M' : Mo} (X : Cm I G a c L M) (hf : Fr c I I') (hM : RMc I' c L M') (w : WMo L M') : Cm I' G a c L M' := by
  obtain ⟨hG, hc, ha, hL, -, wL, -⟩ := X
  have h1 := isM_lt hc
  have h2 := isL_or ha
  exact ⟨hG, hc, ha, hL.congr (fun x _ _ => hf.1 x (by omega)), hM, wL, w⟩
section RMU
variable {I : MI} {c : Nat} {L : Ld} {M : Mo}
theorem RMc.day (h : RMc I c L M) (v : Nat) : RMc (u2 I c 0 (nI v)) c L (u2 M 0 0 v) := by
  obtain ⟨⟨h1, h2⟩, h3, h4⟩ := h
  refine ⟨⟨by simp [u2], by simp [u2, h2]⟩, fun k hk => ⟨by simp [u2, h3 k hk], by simp [u2, h3 k hk]⟩, fun k hk => ⟨by simp [u2, h4 k hk], by simp [u2, h4 k hk]⟩⟩
theorem RMc.hour (h : RMc I c L M) (v : Nat) : RMc (u2 I c 1 (nI v)) c L (u2 M 0 1 v) := by
  obtain ⟨⟨h1, h2⟩, h3, h4⟩ := h
  refine ⟨⟨by simp [u2, h1], by simp [u2]⟩, fun k hk => ⟨by simp [u2, h3 k hk], by simp [u2, h3 k hk]⟩, fun k hk => ⟨by simp [u2, h4 k hk], by simp [u2, h4 k hk]⟩⟩
theorem RMc.evs (h : RMc I c L M) (v : Int32) : RMc (u2 I c 7 v) c L M := by
  obtain ⟨⟨h1, h2⟩, h3, h4⟩ := h
  refine ⟨⟨by simp [u2, h1], by simp [u2, h2]⟩, fun k hk => ⟨by simp [u2, h3 k hk], by simp [u2, h3 k hk]⟩, fun k hk => ⟨by simp [u2, h4 k hk], by simp [u2, h4 k hk]⟩⟩
theorem RMc.evr (h : RMc I c L M) (k : Nat) (v : Int32) : RMc (u2 I (c + 5) k v) c L M := h.congr (fun x _ _ => u2_row _ _ _ (by omega))
theorem RMc.step (h : RMc I c L M) (i v : Nat) : RMc (u2 I (c + 1) i (nI v)) c L (u2 M 1 i v) := by
  obtain ⟨⟨h1, h2⟩, h3, h4⟩ := h
  refine ⟨⟨by simp [u2, h1], by simp [u2, h2]⟩, fun k hk => ⟨?_, by simp [u2, h3 k hk]⟩, fun k hk => ⟨by simp [u2, h4 k hk], by simp [u2, h4 k hk]⟩⟩
  by_cases e : k = i
  · subst e; simp [u2]
  · simp [u2, e, h3 k hk]
theorem RMc.roll (h : RMc I c L M) (i v : Nat) : RMc (u2 I (c + 2) i (nI v)) c L (u2 M 2 i v) := by
  obtain ⟨⟨h1, h2⟩, h3, h4⟩ := h
  refine ⟨⟨by simp [u2, h1], by simp [u2, h2]⟩, fun k hk => ⟨by simp [u2, h3 k hk], ?_⟩, fun k hk => ⟨by simp [u2, h4 k hk], by simp [u2, h4 k hk]⟩⟩
  by_cases e : k = i
  · subst e; simp [u2]
  · simp [u2, e, h3 k hk]
theorem RMc.str (h : RMc I c L M) (i v : Nat) : RMc (u2 I (c + 3) i (nI v)) c L (u2 M 3 i v) := by
  obtain ⟨⟨h1, h2⟩, h3, h4⟩ := h
  refine ⟨⟨by simp [u2, h1], by simp [u2, h2]⟩, fun k hk => ⟨by simp [u2, h3 k hk], by simp [u2, h3 k hk]⟩, fun k hk => ⟨?_, by simp [u2, h4 k hk]⟩⟩
  by_cases e : k = i
  · subst e; simp [u2]
  · simp [u2, e, h4 k hk]
theorem RMc.ord (h : RMc I c L M) (i v : Nat) : RMc (u2 I (c + 4) i (oV v)) c L (u2 M 4 i v) := by
  obtain ⟨⟨h1, h2⟩, h3, h4⟩ := h
  refine ⟨⟨by simp [u2, h1], by simp [u2, h2]⟩, fun k hk => ⟨by simp [u2, h3 k hk], by simp [u2, h3 k hk]⟩, fun k hk => ⟨by simp [u2, h4 k hk], ?_⟩⟩
  by_cases e : k = i
  · subst e; simp [u2]
  · simp [u2, e, h4 k hk]
end RMU
/-- all men rested, the first n of them -/
def rsM (L : Ld) (M : Mo) (n : Nat) : Mo := fun t m => if t = 3 ∧ m < n then L 8 m else M t m
theorem rsM_0 (L : Ld) (M : Mo) : rsM L M 0 = M := by funext t m; simp [rsM]
theorem rsM_s (L : Ld) (M : Mo) (n : Nat) : u2 (rsM L M n) 3 n (L 8 n) = rsM L M (n + 1) := by
  funext t m
  by_cases h1 : t = 3
  · by_cases h2 : m = n
    · simp [u2, rsM, h1, h2]
    · simp [u2, rsM, h1, h2, show m < n ↔ m < n + 1 by omega]
  · simp [u2, rsM, h1]
/-- hills one by one: whether its stone comes up -/
def hpM (L : Ld) (M : Mo) : Nat → Mo × Nat
  | 0 => (M, 0)
  | k + 1 => if can L (hpM L M k).1 k then (u2 (hpM L M k).1 1 k ((hpM L M k).1 1 k + 1), (hpM L M k).2 + 1) else hpM L M k
/-- the first n men tire or rest, by who was over ahead -/
def trM (L : Ld) (M0 M : Mo) (n : Nat) : Mo := fun t m => if t = 3 ∧ m < n then (if M 4 m ≠ 0 ∧ ovr L M0 (M 4 m - 1) = false then M 3 m - 1 else min (L 8 m) (M 3 m + 1)) else M t m
theorem trM_0 (L : Ld) (M0 M : Mo) : trM L M0 M 0 = M := by funext t m; simp [trM]
theorem trM_s (L : Ld) (M0 M : Mo) (n : Nat) : u2 (trM L M0 M n) 3 n (if M 4 n ≠ 0 ∧ ovr L M0 (M 4 n - 1) = false then M 3 n - 1 else min (L 8 n) (M 3 n + 1)) = trM L M0 M (n + 1) := by
  funext t m
  by_cases h1 : t = 3
  · by_cases h2 : m = n
    · simp [u2, trM, h1, h2]
    · simp [u2, trM, h1, h2, show m < n ↔ m < n + 1 by omega]
  · simp [u2, trM, h1]
def phM (L : Ld) (M : Mo) : Mo := u2 (trM L M (hpM L M (L 0 0)).1 (L 0 2)) 0 1 (M 0 1 + 1)
theorem hpM_1 (L : Ld) (M : Mo) (k : Nat) : (hpM L M (k + 1)).1 = if can L (hpM L M k).1 k then u2 (hpM L M k).1 1 k ((hpM L M k).1 1 k + 1) else (hpM L M k).1 := by
  rw [hpM]
  split <;> rfl
theorem hpM_2 (L : Ld) (M : Mo) (k : Nat) : (hpM L M (k + 1)).2 = if can L (hpM L M k).1 k then (hpM L M k).2 + 1 else (hpM L M k).2 := by
  rw [hpM]
  split <;> rfl
theorem hpM_t (L : Ld) (M : Mo) (t : Nat) (ht : t ≠ 1) : ∀ k, (hpM L M k).1 t = M t
  | 0 => rfl
  | k + 1 => by
    rw [hpM_1]
    split
    · rw [u2_row _ _ _ ht]; exact hpM_t L M t ht k
    · exact hpM_t L M t ht k
theorem hpM_out (L : Ld) (M : Mo) {h : Nat} : ∀ {k}, k ≤ h → (hpM L M k).1 1 h = M 1 h
  | 0, _ => rfl
  | k + 1, hk => by
    rw [hpM_1]
    split
    · rw [u2_ne _ _ (show ¬ (1 = 1 ∧ h = k) by omega)]; exact hpM_out L M (by omega)
    · exact hpM_out L M (by omega)
theorem hpM_le (L : Ld) (M : Mo) : ∀ k, (hpM L M k).2 ≤ k
  | 0 => Nat.le_refl _
  | k + 1 => by
    have := hpM_le L M k
    rw [hpM_2]
    split <;> omega
theorem hpM_w {L : Ld} {M : Mo} (w : WMo L M) : ∀ k, WMo L (hpM L M k).1
  | 0 => w
  | k + 1 => by
    have ih := hpM_w w k
    rw [hpM_1]
    split
    · rename_i hcn
      obtain ⟨w1, w2, w3, w4⟩ := ih
      refine ⟨by rw [u2_row _ _ _ (show (0 : Nat) ≠ 1 by decide)]; exact w1, by rw [u2_row _ _ _ (show (0 : Nat) ≠ 1 by decide)]; exact w2, fun h hh => ?_, fun m hm => ?_⟩
      · rw [u2_row _ _ _ (show (2 : Nat) ≠ 1 by decide)]
        refine ⟨?_, (w3 h hh).2⟩
        by_cases e : h = k
        · subst e
          rw [u2_at]
          have h1 := (w3 h hh).1
          simp only [can, ovr, Bool.and_eq_true, Bool.not_eq_true', decide_eq_false_iff_not] at hcn
          omega
        · rw [u2_ne _ _ (show ¬ (1 = 1 ∧ h = k) by omega)]
          exact (w3 h hh).1
      · rw [u2_row _ _ _ (show (3 : Nat) ≠ 1 by decide), u2_row _ _ _ (show (4 : Nat) ≠ 1 by decide)]
        exact w4 m hm
    · exact ih
theorem trM_w {L : Ld} {M0 M : Mo} (wL : WLd L) (w : WMo L M) (n : Nat) : WMo L (trM L M0 M n) := by
  obtain ⟨w1, w2, w3, w4⟩ := w
  refine ⟨by simp [trM]; exact w1, by simp [trM]; exact w2, fun h hh => by simp [trM]; exact w3 h hh, fun m hm => ⟨?_, by simp [trM]; exact (w4 m hm).2⟩⟩
  unfold trM
  split
  · have := (w4 m hm).1
    split <;> omega
  · exact (w4 m hm).1
section CLS3
variable {d : Nat} {I : MI} {G : MG} {J : MJ} {Φ : Ph} {a c : Nat} {L : Ld} {M : Mo}
theorem s_rest (X : Cm I G a c L M) (k : ∀ I', Fr c I I' → Cm I' G a c L (rsM L M (L 0 2)) → Φ none 136 I' G J) : Ev d mX2_rest 136 0 [some (.ref c), some (.ref a), none] [] 136 I G J Φ := by
  have hG := X.1
  have hc := X.2.1
  have ha := X.2.2.1
  have wL := X.2.2.2.2.2.1
  have b3 := wL.2.2.1
  refine w_X2_rest hG hc ha ?_
  refine down_ind (E := fun i => ∀ I', Fr c I I' → Cm I' G a c L (rsM L M i) → Ev d mX2_rest 136 2 [some (.ref c), some (.ref a), some (.int (nI i))] [] 136 I' G J Φ) (L 0 2) ?_ ?_ 0 (Nat.zero_le _) I Fr.rf (by rw [rsM_0]; exact X)
  · intro I' hf X'
    refine w_X2_rest_2 hG hc ha _ ⟨fun _ => k I' hf X', fun q => absurd ?_ q⟩
    rw [X'.2.2.2.1.1.2.2.1]
    exact nI_le (Nat.le_refl _) (by omega)
  · intro i hi ih I' hf X'
    obtain ⟨-, -, -, hL, hM, -, wM⟩ := id X'
    have b4 := wL.m hi
    refine w_X2_rest_2 hG hc ha _ ⟨fun q => ?_, fun _ => ⟨vp_in_nI b4.1 (by decide), vp_in_nI b4.1 (by decide), ?_⟩⟩
    · rw [hL.1.2.2.1, nI_leI (by omega) (by omega)] at q
      omega
    · rw [nI_clamp (by omega), hL.2.2.2 i hi, show nI i + (1 : Int32) = nI (i + 1) from nI_1 i]
      have hf2 : Fr c I' (u2 I' (c + 3) i (nI (L 8 i))) := Fr.rf.u2 (by omega) (by omega)
      refine ih _ (hf.tr hf2) (X'.fr hf2 (by rw [← rsM_s]; exact hM.str i _) ?_)
      obtain ⟨w1, w2, w3, w4⟩ := wM
      refine ⟨by simpa [rsM] using w1, by simpa [rsM] using w2, fun h hh => by simpa [rsM] using w3 h hh, fun m hm => ⟨?_, by simpa [rsM] using (w4 m hm).2⟩⟩
      by_cases e : m < i + 1
      · simp [rsM, e]
      · have := (w4 m hm).1
        simp only [rsM, e, show ¬ m < i by omega, and_false, if_false] at this ⊢
        exact this
end CLS3
