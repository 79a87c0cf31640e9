/-! ===== numbers ===== -/
theorem li (n : Nat) : (OfNat.ofNat n : Int32) = nI n := rfl
theorem s_l : ∀ n, n < 32 → ((nI n &&& 31).toBitVec.smod 32).toNat = n := by decide +kernel
theorem nshr {a i : Nat} (ha : a < 2 ^ 31) (hi : i < 32) : nI a >>> (nI i &&& 31) = nI (a / 2 ^ i) := pk_shrN ha _ i (s_l i hi)
theorem nshl {a i : Nat} (hi : i < 32) (h : a * 2 ^ i < 2 ^ 32) : nI a <<< (nI i &&& 31) = nI (a * 2 ^ i) := pk_shlN _ i (s_l i hi) h
theorem nand1 {a : Nat} (h : a < 2 ^ 32) : nI a &&& 1 = nI (a % 2) := pk_andN h 1 (by decide)
theorem nand15 {a : Nat} (h : a < 2 ^ 32) : nI a &&& 15 = nI (a % 16) := pk_andN h 4 (by decide)
theorem nor (a b : Nat) : nI a ||| nI b = nI (a ||| b) := by
  apply Int32.toBitVec_inj.1
  show BitVec.ofNat 32 a ||| BitVec.ofNat 32 b = BitVec.ofNat 32 (a ||| b)
  apply BitVec.eq_of_getLsbD_eq
  intro i hi
  simp [hi]
theorem if01 {P : Prop} [Decidable P] : ((if P then (1 : Int32) else 0) = 0) = ¬ P := by
  by_cases h : P <;> simp [h]
theorem toI_nI {n : Nat} (h : n < 2 ^ 31) : (nI n).toInt = (n : Int) := nI_toInt h
theorem sub_toI {a b : Nat} (ha : a < 2 ^ 30) (hb : b < 2 ^ 30) : (nI a - nI b).toInt = (a : Int) - b := pk_sub_toInt ha hb
/-- sizes: a difference that stays at m at least -/
theorem max_sub {s q m : Nat} (hs : s < 2 ^ 30) (hq : q < 2 ^ 30) (hm : m < 2 ^ 30) : (if nI m < nI s - nI q then nI s - nI q else nI m) = nI (max m (s - q)) := by
  have e : nI m < nI s - nI q ↔ m + q < s := by
    rw [Int32.lt_iff_toInt_lt, sub_toI hs hq, toI_nI (by omega)]
    omega
  by_cases h : m + q < s
  · rw [if_pos (e.mpr h), pk_sub (by omega), show max m (s - q) = s - q by omega]
  · rw [if_neg (fun z => h (e.mp z)), show max m (s - q) = m by omega]
theorem down_ind {E : Nat → Prop} (N : Nat) (hN : E N) (hs : ∀ i, i < N → E (i + 1) → E i) : ∀ i, i ≤ N → E i := by
  intro i hi
  obtain ⟨k, hk⟩ : ∃ k, N = i + k := ⟨N - i, by omega⟩
  induction k generalizing i with
  | zero => rw [show i = N by omega]; exact hN
  | succ k ih => exact hs i (by omega) (ih (i + 1) (by omega) (by omega))
def sumN (f : Nat → Nat) : Nat → Nat
  | 0 => 0
  | n + 1 => sumN f n + f n
theorem sumN_le {f : Nat → Nat} {b : Nat} : ∀ {n : Nat}, (∀ i, i < n → f i ≤ b) → sumN f n ≤ n * b
  | 0, _ => by simp [sumN]
  | n + 1, h => by
    have h1 := sumN_le (n := n) (fun i hi => h i (by omega))
    have h2 := h n (by omega)
    rw [sumN, Nat.succ_mul]
    omega
theorem sumN_congr {f g : Nat → Nat} : ∀ {n : Nat}, (∀ i, i < n → f i = g i) → sumN f n = sumN g n
  | 0, _ => rfl
  | n + 1, h => by rw [sumN, sumN, sumN_congr (fun i hi => h i (by omega)), h n (by omega)]
def bitsN (p : Nat → Bool) : Nat → Nat
  | 0 => 0
  | n + 1 => bitsN p n + if p n then 2 ^ n else 0
theorem bitsN_lt (p : Nat → Bool) : ∀ n, bitsN p n < 2 ^ n
  | 0 => by simp [bitsN]
  | n + 1 => by
    have := bitsN_lt p n
    rw [bitsN, Nat.pow_succ]
    split <;> omega
theorem bitsN_or (p : Nat → Bool) (n : Nat) : bitsN p n ||| 2 ^ n = bitsN p n + 2 ^ n := by
  have := Nat.two_pow_add_eq_or_of_lt (bitsN_lt p n) 1
  rw [Nat.mul_one] at this
  rw [Nat.or_comm, ← this, Nat.add_comm]
theorem bitsN_test (p : Nat → Bool) : ∀ (n i : Nat), (bitsN p n).testBit i = (decide (i < n) && p i)
  | 0, i => by simp [bitsN]
  | n + 1, i => by
    have ih := bitsN_test p n i
    rw [bitsN]
    by_cases hp : p n = true
    · rw [if_pos hp, ← bitsN_or, Nat.testBit_or, ih, Nat.testBit_two_pow]
      by_cases hi : i = n
      · subst hi; simp [hp]
      · by_cases h2 : i < n
        · simp [h2, show i < n + 1 by omega, Ne.symm hi]
        · simp [h2, show ¬ i < n + 1 by omega, Ne.symm hi]
    · rw [if_neg hp, Nat.add_zero, ih]
      by_cases hi : i = n
      · subst hi; simp [hp]
      · by_cases h2 : i < n
        · simp [h2, show i < n + 1 by omega]
        · simp [h2, show ¬ i < n + 1 by omega]
theorem bitsN_bit (p : Nat → Bool) {n i : Nat} (h : i < n) : bitsN p n / 2 ^ i % 2 = if p i then 1 else 0 := by
  have h1 := bitsN_test p n i
  rw [Nat.testBit_eq_decide_div_mod_eq] at h1
  simp only [h, decide_true, Bool.true_and] at h1
  by_cases hp : p i = true
  · rw [if_pos hp]
    rw [hp] at h1
    simpa using h1
  · rw [if_neg hp]
    have hp' : p i = false := by simpa using hp
    rw [hp'] at h1
    simp only [decide_eq_false_iff_not] at h1
    omega
theorem bitsN_congr {p q : Nat → Bool} : ∀ {n : Nat}, (∀ i, i < n → p i = q i) → bitsN p n = bitsN q n
  | 0, _ => rfl
  | n + 1, h => by rw [bitsN, bitsN, bitsN_congr (fun i hi => h i (by omega)), h n (by omega)]
theorem bitsN_0 (p : Nat → Bool) : ∀ n, bitsN p n = 0 ↔ ∀ i, i < n → p i = false
  | 0 => by simp [bitsN]
  | n + 1 => by
    rw [bitsN]
    have ih := bitsN_0 p n
    have hpos : 0 < 2 ^ n := Nat.two_pow_pos n
    constructor
    · intro h i hi
      by_cases hp : p n = true
      · rw [if_pos hp] at h; omega
      · rw [if_neg hp] at h
        by_cases e : i = n
        · subst e; simpa using hp
        · exact ih.mp (by omega) i (by omega)
    · intro h
      rw [ih.mpr (fun i hi => h i (by omega)), h n (by omega)]
      simp
/-! ===== lands and moments ===== -/
/-- a land: 0: hills, joins, men, hours, rain; 1 high, 2 slope, 3 ledges, 4 size (by hill); 5, 6 the hills of a join, 7 from where; 8 force -/
abbrev Ld : Type := Nat → Nat → Nat
/-- a moment: 0: day, hour; 1 step, 2 rolled (by hill); 3 strength, 4 order (0 none, h + 1) (by man) -/
abbrev Mo : Type := Nat → Nat → Nat
def WLd (L : Ld) : Prop := L 0 0 ≤ 4 ∧ L 0 1 ≤ 4 ∧ L 0 2 ≤ 3 ∧ (1 ≤ L 0 3 ∧ L 0 3 ≤ 6) ∧ L 0 4 < 128 ∧ (∀ h, h < L 0 0 → 2 ≤ L 1 h ∧ L 1 h ≤ 9 ∧ L 2 h ≤ 5 ∧ L 3 h ≤ 511 ∧ 1 ≤ L 4 h ∧ L 4 h ≤ 9) ∧ (∀ j, j < L 0 1 → L 5 j < L 0 0 ∧ L 6 j < L 0 0 ∧ L 5 j ≠ L 6 j ∧ 1 ≤ L 7 j ∧ L 7 j ≤ 9) ∧ (∀ m, m < L 0 2 → 1 ≤ L 8 m ∧ L 8 m ≤ 9)
def WMo (L : Ld) (M : Mo) : Prop := M 0 0 ≤ 1000 ∧ M 0 1 ≤ L 0 3 ∧ (∀ h, h < L 0 0 → M 1 h ≤ L 1 h ∧ M 2 h ≤ 100000) ∧ (∀ m, m < L 0 2 → M 3 m ≤ L 8 m ∧ M 4 m ≤ L 0 0)
def oV (o : Nat) : Int32 := if o = 0 then -9 else nI (o - 1)
theorem oV_h {o h : Nat} (ho : o ≤ 4) (hh : h < 4) : (oV o = nI h) = (o = h + 1) := by
  have : ∀ o, o ≤ 4 → ∀ h, h < 4 → ((oV o = nI h) ↔ (o = h + 1)) := by decide +kernel
  exact propext (this o ho h hh)
theorem oV_inj {o p : Nat} (ho : o ≤ 4) (hp : p ≤ 4) : (oV o = oV p) = (o = p) := by
  have : ∀ o, o ≤ 4 → ∀ h, h ≤ 4 → ((oV o = oV h) ↔ (o = h)) := by decide +kernel
  exact propext (this o ho p hp)
def RLc (I : MI) (a : Nat) (L : Ld) : Prop := (I a 0 = nI (L 0 0) ∧ I a 5 = nI (L 0 1) ∧ I a 9 = nI (L 0 2) ∧ I a 11 = nI (L 0 3) ∧ I a 12 = nI (L 0 4)) ∧ (∀ h, h < L 0 0 → I (a + 1) h = nI (L 1 h) ∧ I (a + 2) h = nI (L 2 h) ∧ I (a + 3) h = nI (L 3 h) ∧ I (a + 4) h = nI (L 4 h)) ∧ (∀ j, j < L 0 1 → I (a + 5) j = nI (L 5 j) ∧ I (a + 6) j = nI (L 6 j) ∧ I (a + 7) j = nI (L 7 j)) ∧ (∀ m, m < L 0 2 → I (a + 8) m = nI (L 8 m))
def RMc (I : MI) (c : Nat) (L : Ld) (M : Mo) : Prop := (I c 0 = nI (M 0 0) ∧ I c 1 = nI (M 0 1)) ∧ (∀ h, h < L 0 0 → I (c + 1) h = nI (M 1 h) ∧ I (c + 2) h = nI (M 2 h)) ∧ (∀ m, m < L 0 2 → I (c + 3) m = nI (M 3 m) ∧ I (c + 4) m = oV (M 4 m))
def RLm (I : MI) (L : Ld) : Prop := (I 122 10 = nI (L 0 0) ∧ I 122 11 = nI (L 0 1) ∧ I 122 12 = nI (L 0 2) ∧ I 122 13 = nI (L 0 3) ∧ I 122 14 = nI (L 0 4)) ∧ (∀ h, h < L 0 0 → I 125 h = nI (L 1 h) ∧ I 126 h = nI (L 2 h) ∧ I 127 h = nI (L 3 h) ∧ I 128 h = nI (L 4 h)) ∧ (∀ j, j < L 0 1 → I 129 j = nI (L 5 j) ∧ I 130 j = nI (L 6 j) ∧ I 131 j = nI (L 7 j)) ∧ (∀ m, m < L 0 2 → I 132 m = nI (L 8 m))
def RMm (I : MI) (x : Nat) (L : Ld) (M : Mo) : Prop := (I 123 (x + 14) = nI (M 0 0) ∧ I 123 (x + 15) = nI (M 0 1)) ∧ (∀ h, h < L 0 0 → I 123 (x + h) = nI (M 1 h) ∧ I 123 (x + 4 + h) = nI (M 2 h)) ∧ (∀ m, m < L 0 2 → I 123 (x + 8 + m) = nI (M 3 m) ∧ I 123 (x + 11 + m) = oV (M 4 m))
/-- what a method of a land or a moment finds -/
def Cl (I : MI) (G : MG) (a : Nat) (L : Ld) : Prop := WG G ∧ isL a ∧ RLc I a L ∧ WLd L
def Cm (I : MI) (G : MG) (a c : Nat) (L : Ld) (M : Mo) : Prop := WG G ∧ isM c ∧ isL a ∧ RLc I a L ∧ RMc I c L M ∧ WLd L ∧ WMo L M
theorem Cm.l {I : MI} {G : MG} {a c : Nat} {L : Ld} {M : Mo} (X : Cm I G a c L M) : Cl I G a L := ⟨X.1, X.2.2.1, X.2.2.2.1, X.2.2.2.2.2.1⟩
theorem WLd.h {L : Ld} (w : WLd L) {h : Nat} (hh : h < L 0 0) : h < 4 ∧ 2 ≤ L 1 h ∧ L 1 h ≤ 9 ∧ L 2 h ≤ 5 ∧ L 3 h ≤ 511 ∧ 1 ≤ L 4 h ∧ L 4 h ≤ 9 := ⟨Nat.lt_of_lt_of_le hh w.1, w.2.2.2.2.2.1 h hh⟩
theorem WLd.j {L : Ld} (w : WLd L) {j : Nat} (hj : j < L 0 1) : j < 4 ∧ L 5 j < L 0 0 ∧ L 6 j < L 0 0 ∧ L 5 j ≠ L 6 j ∧ 1 ≤ L 7 j ∧ L 7 j ≤ 9 := ⟨Nat.lt_of_lt_of_le hj w.2.1, w.2.2.2.2.2.2.1 j hj⟩
theorem WLd.m {L : Ld} (w : WLd L) {m : Nat} (hm : m < L 0 2) : m < 3 ∧ 1 ≤ L 8 m ∧ L 8 m ≤ 9 := ⟨Nat.lt_of_lt_of_le hm w.2.2.1, w.2.2.2.2.2.2.2 m hm⟩
/-! what they say -/
def ovr (L : Ld) (M : Mo) (h : Nat) : Bool := decide (M 1 h = L 1 h)
def szN (L : Ld) (M : Mo) (h : Nat) : Nat := max 1 (L 4 h - M 2 h / 8)
def ndN (L : Ld) (M : Mo) (h : Nat) : Nat := szN L M h + L 2 h
def stA (L : Ld) (M : Mo) (h : Nat) : Nat := sumN (fun m => if M 4 m = h + 1 then M 3 m else 0) (L 0 2)
def mnA (L : Ld) (M : Mo) (h : Nat) : Nat := sumN (fun m => if M 4 m = h + 1 then 1 else 0) (L 0 2)
def joi (L : Ld) (a b p j : Nat) : Bool := decide (((L 5 j = a ∧ L 6 j = b) ∨ (L 5 j = b ∧ L 6 j = a)) ∧ L 7 j ≤ p)
def anyN (f : Nat → Bool) : Nat → Bool
  | 0 => false
  | n + 1 => anyN f n || f n
theorem anyN_iff (f : Nat → Bool) : ∀ n, anyN f n = true ↔ ∃ i, i < n ∧ f i = true
  | 0 => by simp [anyN]
  | n + 1 => by
    rw [anyN, Bool.or_eq_true, anyN_iff f n]
    constructor
    · rintro (⟨i, h1, h2⟩ | h)
      · exact ⟨i, by omega, h2⟩
      · exact ⟨n, by omega, h⟩
    · rintro ⟨i, h1, h2⟩
      by_cases e : i = n
      · subst e; exact Or.inr h2
      · exact Or.inl ⟨i, by omega, h2⟩
def onP (L : Ld) (a b p : Nat) : Bool := anyN (joi L a b p) (L 0 1)
def bkB (L : Ld) (M : Mo) (h p o : Nat) : Bool := decide (o ≠ h) && decide (M 1 o = p) && !ovr L M o && onP L h o p
def bkN (L : Ld) (M : Mo) (h p : Nat) : Nat := bitsN (bkB L M h p) (L 0 0)
def can (L : Ld) (M : Mo) (h : Nat) : Bool := !ovr L M h && decide (ndN L M h ≤ stA L M h) && decide (bkN L M h (M 1 h + 1) = 0)
