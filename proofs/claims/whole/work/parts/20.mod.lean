/-! ===== the reference: blocks, tire, push ===== -/
def FrM (x : Nat) (I I' : MI) : Prop := (∀ y, y ≠ 123 → I' y = I y) ∧ ∀ k, ¬ (x ≤ k ∧ k < x + 16) → I' 123 k = I 123 k
theorem FrM.rf {x : Nat} {I : MI} : FrM x I I := ⟨fun _ _ => rfl, fun _ _ => rfl⟩
theorem FrM.tr {x : Nat} {I I' I'' : MI} (h : FrM x I I') (h2 : FrM x I' I'') : FrM x I I'' := ⟨fun y hy => (h2.1 y hy).trans (h.1 y hy), fun k hk => (h2.2 k hk).trans (h.2 k hk)⟩
theorem FrM.u2 {x : Nat} {I I' : MI} (h : FrM x I I') {k : Nat} {v : Int32} (hk : x ≤ k ∧ k < x + 16) : FrM x I (u2 I' 123 k v) := ⟨fun y hy => (u2_row _ _ _ hy).trans (h.1 y hy), fun j hj => (u2_ne _ _ (fun (e : 123 = 123 ∧ j = k) => hj (by rw [e.2]; exact hk))).trans (h.2 j hj)⟩
theorem RLm.congr {I I' : MI} {L : Ld} (h : RLm I L) (hf : ∀ y, y ≠ 123 → I' y = I y) : RLm I' L := by
  unfold RLm
  rw [hf 122 (by decide), hf 125 (by decide), hf 126 (by decide), hf 127 (by decide), hf 128 (by decide), hf 129 (by decide), hf 130 (by decide), hf 131 (by decide), hf 132 (by decide)]
  exact h
theorem Mm.fr {I I' : MI} {G : MG} {x : Nat} {L : Ld} {M M' : Mo} (X : Mm I G x L M) (hf : ∀ y, y ≠ 123 → I' y = I y) (hM : RMm I' x L M') (w : WMo L M') : Mm I' G x L M' := ⟨X.1, X.2.1.congr hf, hM, X.2.2.2.1, w, X.2.2.2.2.2⟩
section RMMU
variable {I : MI} {x : Nat} {L : Ld} {M : Mo}
theorem RMm.day (h : RMm I x L M) (wL : WLd L) (v : Nat) : RMm (u2 I 123 (x + 14) (nI v)) x L (u2 M 0 0 v) := by
  obtain ⟨⟨h1, h2⟩, h3, h4⟩ := h
  refine ⟨⟨by rw [u2_at, u2_at], by rw [u2_ne _ _ (by omega), u2_ne _ _ (by omega)]; exact h2⟩, fun k hk => ?_, fun k hk => ?_⟩
  · have := wL.h hk
    rw [u2_ne _ _ (by omega), u2_ne _ _ (by omega), u2_ne _ _ (by omega), u2_ne _ _ (by omega)]; exact h3 k hk
  · have := wL.m hk
    rw [u2_ne _ _ (by omega), u2_ne _ _ (by omega), u2_ne _ _ (by omega), u2_ne _ _ (by omega)]; exact h4 k hk
theorem RMm.hour (h : RMm I x L M) (wL : WLd L) (v : Nat) : RMm (u2 I 123 (x + 15) (nI v)) x L (u2 M 0 1 v) := by
  obtain ⟨⟨h1, h2⟩, h3, h4⟩ := h
  refine ⟨⟨by rw [u2_ne _ _ (by omega), u2_ne _ _ (by omega)]; exact h1, by rw [u2_at, u2_at]⟩, fun k hk => ?_, fun k hk => ?_⟩
  · have := wL.h hk
    rw [u2_ne _ _ (by omega), u2_ne _ _ (by omega), u2_ne _ _ (by omega), u2_ne _ _ (by omega)]; exact h3 k hk
  · have := wL.m hk
    rw [u2_ne _ _ (by omega), u2_ne _ _ (by omega), u2_ne _ _ (by omega), u2_ne _ _ (by omega)]; exact h4 k hk
theorem RMm.step (h : RMm I x L M) (wL : WLd L) {i : Nat} (hi : i < 4) (v : Nat) : RMm (u2 I 123 (x + i) (nI v)) x L (u2 M 1 i v) := by
  obtain ⟨⟨h1, h2⟩, h3, h4⟩ := h
  refine ⟨⟨by rw [u2_ne _ _ (by omega), u2_ne _ _ (by omega)]; exact h1, by rw [u2_ne _ _ (by omega), u2_ne _ _ (by omega)]; exact h2⟩, fun k hk => ⟨?_, ?_⟩, fun k hk => ?_⟩
  · by_cases e : k = i
    · subst e; rw [u2_at, u2_at]
    · rw [u2_ne _ _ (by omega), u2_ne _ _ (by omega)]; exact (h3 k hk).1
  · have := wL.h hk
    rw [u2_ne _ _ (by omega), u2_ne _ _ (by omega)]; exact (h3 k hk).2
  · have := wL.m hk
    rw [u2_ne _ _ (by omega), u2_ne _ _ (by omega), u2_ne _ _ (by omega), u2_ne _ _ (by omega)]; exact h4 k hk
theorem RMm.roll (h : RMm I x L M) (wL : WLd L) {i : Nat} (hi : i < 4) (v : Nat) : RMm (u2 I 123 (x + 4 + i) (nI v)) x L (u2 M 2 i v) := by
  obtain ⟨⟨h1, h2⟩, h3, h4⟩ := h
  refine ⟨⟨by rw [u2_ne _ _ (by omega), u2_ne _ _ (by omega)]; exact h1, by rw [u2_ne _ _ (by omega), u2_ne _ _ (by omega)]; exact h2⟩, fun k hk => ⟨?_, ?_⟩, fun k hk => ?_⟩
  · have := wL.h hk
    rw [u2_ne _ _ (by omega), u2_ne _ _ (by omega)]; exact (h3 k hk).1
  · by_cases e : k = i
    · subst e; rw [u2_at, u2_at]
    · rw [u2_ne _ _ (by omega), u2_ne _ _ (by omega)]; exact (h3 k hk).2
  · have := wL.m hk
    rw [u2_ne _ _ (by omega), u2_ne _ _ (by omega), u2_ne _ _ (by omega), u2_ne _ _ (by omega)]; exact h4 k hk
theorem RMm.str (h : RMm I x L M) (wL : WLd L) {i : Nat} (hi : i < 3) (v : Nat) : RMm (u2 I 123 (x + 8 + i) (nI v)) x L (u2 M 3 i v) := by
  obtain ⟨⟨h1, h2⟩, h3, h4⟩ := h
  refine ⟨⟨by rw [u2_ne _ _ (by omega), u2_ne _ _ (by omega)]; exact h1, by rw [u2_ne _ _ (by omega), u2_ne _ _ (by omega)]; exact h2⟩, fun k hk => ?_, fun k hk => ⟨?_, ?_⟩⟩
  · have := wL.h hk
    rw [u2_ne _ _ (by omega), u2_ne _ _ (by omega), u2_ne _ _ (by omega), u2_ne _ _ (by omega)]; exact h3 k hk
  · by_cases e : k = i
    · subst e; rw [u2_at, u2_at]
    · rw [u2_ne _ _ (by omega), u2_ne _ _ (by omega)]; exact (h4 k hk).1
  · have := wL.m hk
    rw [u2_ne _ _ (by omega), u2_ne _ _ (by omega)]; exact (h4 k hk).2
theorem RMm.ord (h : RMm I x L M) (wL : WLd L) {i : Nat} (hi : i < 3) (v : Nat) : RMm (u2 I 123 (x + 11 + i) (oV v)) x L (u2 M 4 i v) := by
  obtain ⟨⟨h1, h2⟩, h3, h4⟩ := h
  refine ⟨⟨by rw [u2_ne _ _ (by omega), u2_ne _ _ (by omega)]; exact h1, by rw [u2_ne _ _ (by omega), u2_ne _ _ (by omega)]; exact h2⟩, fun k hk => ?_, fun k hk => ⟨?_, ?_⟩⟩
  · have := wL.h hk
    rw [u2_ne _ _ (by omega), u2_ne _ _ (by omega), u2_ne _ _ (by omega), u2_ne _ _ (by omega)]; exact h3 k hk
  · have := wL.m hk
    rw [u2_ne _ _ (by omega), u2_ne _ _ (by omega)]; exact (h4 k hk).1
  · by_cases e : k = i
    · subst e; rw [u2_at, u2_at]
    · rw [u2_ne _ _ (by omega), u2_ne _ _ (by omega)]; exact (h4 k hk).2
end RMMU
theorem addm1_toI {a : Nat} (ha : a < 2 ^ 30) : (nI a + (-1)).toInt = (a : Int) - 1 := by
  rw [Int32.toInt_add, toI_nI (by omega), show (-1 : Int32).toInt = -1 from rfl, Int.bmod_eq_of_le (by omega) (by omega)]
  omega
/-- the first n men tire or rest, by a set of hills that are over -/
def trS (L : Ld) (s : Nat) (M : Mo) (n : Nat) : Mo := fun t m => if t = 3 ∧ m < n then (if M 4 m ≠ 0 ∧ s / 2 ^ (M 4 m - 1) % 2 = 0 then M 3 m - 1 else min (L 8 m) (M 3 m + 1)) else M t m
theorem trS_0 (L : Ld) (s : Nat) (M : Mo) : trS L s M 0 = M := by funext t m; simp [trS]
theorem trS_s (L : Ld) (s : Nat) (M : Mo) (n : Nat) : u2 (trS L s M n) 3 n (if M 4 n ≠ 0 ∧ s / 2 ^ (M 4 n - 1) % 2 = 0 then M 3 n - 1 else min (L 8 n) (M 3 n + 1)) = trS L s M (n + 1) := by
  funext t m
  by_cases h1 : t = 3
  · by_cases h2 : m = n
    · simp [u2, trS, h1, h2]
    · simp [u2, trS, h1, h2, show m < n ↔ m < n + 1 by omega]
  · simp [u2, trS, h1]
theorem trS_w {L : Ld} {s : Nat} {M : Mo} (w : WMo L M) (n : Nat) : WMo L (trS L s M n) := by
  obtain ⟨w1, w2, w3, w4⟩ := w
  refine ⟨by simp [trS]; exact w1, by simp [trS]; exact w2, fun h hh => by simp [trS]; exact w3 h hh, fun m hm => ⟨?_, by simp [trS]; exact (w4 m hm).2⟩⟩
  unfold trS
  split
  · have := (w4 m hm).1
    split <;> omega
  · exact (w4 m hm).1
theorem trS_ov {L : Ld} {M0 M : Mo} {n : Nat} (h : ∀ m, m < n → M 4 m ≤ L 0 0) : trS L (ovN L M0) M n = trM L M0 M n := by
  funext t m
  unfold trS trM
  by_cases e : t = 3 ∧ m < n
  · rw [if_pos e, if_pos e]
    by_cases e0 : M 4 m = 0
    · simp [e0]
    · have h1 : ovN L M0 / 2 ^ (M 4 m - 1) % 2 = if ovr L M0 (M 4 m - 1) then 1 else 0 := bitsN_bit _ (by have := h m e.2; omega)
      rw [h1]
      cases ovr L M0 (M 4 m - 1) <;> simp
  · rw [if_neg e, if_neg e]
/-- what blocks, by the first i joins -/
def mbB (L : Ld) (M : Mo) (h p i o : Nat) : Bool := decide (M 1 o = p) && !ovr L M o && anyN (joi L h o p) i
theorem mbB_end {L : Ld} {M : Mo} {h p : Nat} (wL : WLd L) : bitsN (mbB L M h p (L 0 1)) (L 0 0) = bkN L M h p := by
  refine bitsN_congr (fun o ho => ?_)
  unfold mbB bkB onP
  by_cases e : o = h
  · subst e
    have : anyN (joi L o o p) (L 0 1) = false := by
      rw [Bool.eq_false_iff]
      intro z
      obtain ⟨j, h1, h2⟩ := (anyN_iff _ _).mp z
      have := wL.j h1
      simp only [joi, decide_eq_true_eq] at h2
      omega
    simp [this]
  · simp [e]
theorem mbB_step {L : Ld} {M : Mo} {h p i q : Nat} (hq : q < L 0 0) (hj : ∀ o, joi L h o p i = true ↔ (o = q ∧ L 7 i ≤ p)) : bitsN (mbB L M h p (i + 1)) (L 0 0) = (bitsN (mbB L M h p i) (L 0 0)) ||| (if L 7 i ≤ p ∧ M 1 q = p ∧ ovr L M q = false then 2 ^ q else 0) := by
  apply Nat.eq_of_testBit_eq
  intro o
  rw [Nat.testBit_or, bitsN_test, bitsN_test]
  by_cases hc : L 7 i ≤ p ∧ M 1 q = p ∧ ovr L M q = false
  · rw [if_pos hc, Nat.testBit_two_pow]
    by_cases e : q = o
    · subst e
      have := (hj q).mpr ⟨rfl, hc.1⟩
      simp [mbB, anyN, this, hc, hq]
    · have : joi L h o p i = false := by
        rw [Bool.eq_false_iff]
        exact fun z => e ((hj o).mp z).1.symm
      simp [mbB, anyN, this, e]
  · rw [if_neg hc, Nat.zero_testBit, Bool.or_false]
    by_cases z : joi L h o p i = true
    · obtain ⟨e1, e2⟩ := (hj o).mp z
      subst e1
      have : ¬ (M 1 o = p ∧ ovr L M o = false) := fun y => hc ⟨e2, y⟩
      simp only [mbB]
      by_cases y1 : M 1 o = p
      · by_cases y2 : ovr L M o = false
        · exact absurd ⟨y1, y2⟩ this
        · simp [y2]
      · simp [y1]
    · have z' : joi L h o p i = false := by simpa using z
      simp [mbB, anyN, z']
theorem mbB_no {L : Ld} {M : Mo} {h p i : Nat} (hj : ∀ o, joi L h o p i = false) : bitsN (mbB L M h p (i + 1)) (L 0 0) = bitsN (mbB L M h p i) (L 0 0) := by
  refine bitsN_congr (fun o _ => ?_)
  simp [mbB, anyN, hj o]
section MOD2
variable {d : Nat} {I : MI} {G : MG} {J : MJ} {Φ : Ph} {x : Nat} {L : Ld} {M : Mo}
theorem m_blocksIn (X : Mm I G x L M) {h p : Nat} (hh : h < L 0 0) (hp : p < 100) (k : Φ (some (.int (nI (bkN L M h p)))) 136 I G J) : Ev (d + 1) mX5_blocksIn 136 0 [some (.ref 122), some (.int (nI x)), some (.int (nI h)), some (.int (nI p)), none, none, none, none] [] 136 I G J Φ := by
  have X' := X
  obtain ⟨hG, hL, hM, wL, wM, hx⟩ := X
  have b := wL.h hh
  have b3 := wL.2.1
  have b0 := wL.1
  refine w_X5_blocksIn hG _ _ _ ?_
  rw [← mbB_end wL] at k
  have hz : bitsN (mbB L M h p 0) (L 0 0) = 0 := (bitsN_0 _ _).mpr (fun o _ => by simp [mbB, anyN])
  have key := down_ind (E := fun i => Ev (d + 1) mX5_blocksIn 136 6 [some (.ref 122), some (.int (nI x)), some (.int (nI h)), some (.int (nI p)), some (.int (nI (bitsN (mbB L M h p i) (L 0 0)))), some (.int (nI i)), none, none] [] 136 I G J Φ) (L 0 1) ?_ ?_ 0 (Nat.zero_le _)
  · rw [hz] at key
    exact key
  · refine w_X5_blocksIn_6 hG _ _ _ _ _ ⟨fun _ => k, fun q => absurd ?_ q⟩
    rw [hL.1.2.1]
    exact nI_le (Nat.le_refl _) (by omega)
  · intro i hi ih
    have b4 := wL.j hi
    obtain ⟨e1, e2, e3⟩ := hL.2.2.1 i hi
    have v : vp_in (nI i) 8 := vp_in_nI (by omega) (by decide)
    have go0 : bitsN (mbB L M h p (i + 1)) (L 0 0) = bitsN (mbB L M h p i) (L 0 0) → ∀ o : Int32, Ev (d + 1) mX5_blocksIn 136 105 [some (.ref 122), some (.int (nI x)), some (.int (nI h)), some (.int (nI p)), some (.int (nI (bitsN (mbB L M h p i) (L 0 0)))), some (.int (nI i)), some (.int o), none] [.int 0] 136 I G J Φ := by
      intro e o
      refine w_X5_blocksIn_105 hG _ _ _ _ _ _ _ ⟨fun _ => ?_, fun z => absurd rfl z⟩
      rw [show nI i + (1 : Int32) = nI (i + 1) from nI_1 i, show (0 : Int32) = nI 0 from rfl, nor, Nat.or_zero, ← e]
      exact ih
    have goq : ∀ q : Nat, q < L 0 0 → q ≠ h → (∀ o, joi L h o p i = true ↔ (o = q ∧ L 7 i ≤ p)) → Ev (d + 1) mX5_blocksIn 136 59 [some (.ref 122), some (.int (nI x)), some (.int (nI h)), some (.int (nI p)), some (.int (nI (bitsN (mbB L M h p i) (L 0 0)))), some (.int (nI i)), none, none] [.int (nI q)] 136 I G J Φ := by
      intro q hq hqh hj
      have hst := mbB_step (M := M) hq hj
      have bq := wL.h hq
      have bq2 := (wM.2.2.1 q hq).1
      have no : ¬ (L 7 i ≤ p ∧ M 1 q = p ∧ ovr L M q = false) → bitsN (mbB L M h p (i + 1)) (L 0 0) = bitsN (mbB L M h p i) (L 0 0) := fun z => by rw [hst, if_neg z, Nat.or_zero]
      refine w_X5_blocksIn_59 hG _ _ _ _ _ _ ⟨fun z => absurd z (nI_pos (by omega)), fun _ => ⟨v, ?_⟩⟩
      rw [nI_clamp (by omega), e3, nI_ltI (by omega) (by omega), nI_add, nI_clamp (by omega), (hM.2.1 q hq).1, nI_eq (by omega) (by omega)]
      refine ⟨fun z => go0 (no (by omega)) _, fun z => ⟨vp_in_nI (by omega) (by decide), fun z2 => go0 (no (by omega)) _, fun z2 => m_isOver X' hq ⟨_, rfl, rfl, rfl, rfl, rfl, ?_⟩⟩⟩
      rw [if01]
      refine ⟨fun z3 => go0 (no (fun y => z3 (by simp [y.2.2]))) _, fun z3 => ?_⟩
      have z3' : ovr L M q = false := by simpa using z3
      refine w_X5_blocksIn_105 hG _ _ _ _ _ _ _ ⟨fun z => absurd z (by decide), fun _ => ?_⟩
      rw [if_pos ⟨by omega, z2, z3'⟩] at hst
      rw [show nI i + (1 : Int32) = nI (i + 1) from nI_1 i, show (1 : Int32) = nI 1 from rfl, nshl (by omega) (by have : 2 ^ q ≤ 2 ^ 3 := Nat.pow_le_pow_right (by decide) (by omega); omega), Nat.one_mul, nor, ← hst]
      exact ih
    refine w_X5_blocksIn_6 hG _ _ _ _ _ ⟨fun q => ?_, fun _ => ?_⟩
    · rw [hL.1.2.1, nI_leI (by omega) (by omega)] at q
      omega
    · rw [nI_clamp (by omega), e1, e2, nI_eq (by omega) (by omega), nI_eq (by omega) (by omega)]
      refine ⟨v, fun q1 => ⟨v, fun q2 => ?_, fun q2 => ⟨v, ?_⟩⟩, fun q1 => ⟨v, ?_⟩⟩
      · refine w_X5_blocksIn_59 hG _ _ _ _ _ _ ⟨fun _ => go0 (mbB_no (fun o => ?_)) _, fun z => absurd (by decide) z⟩
        simp only [joi, decide_eq_false_iff_not]
        omega
      · refine goq _ b4.2.1 (by omega) (fun o => ?_)
        simp only [joi, decide_eq_true_eq]
        omega
      · refine goq _ b4.2.2.1 (by omega) (fun o => ?_)
        simp only [joi, decide_eq_true_eq]
        omega
end MOD2
