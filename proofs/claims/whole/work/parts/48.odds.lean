/-! ===== odds: days under given rains, weights, common divisors ===== -/
def rbB (r k : Nat) : Bool := decide (r / 2 ^ k % 2 = 1)
/-- behind k dusks -/
def stD (L : Ld) (r : Nat) (M : Mo) : Nat → Mo
  | 0 => M
  | k + 1 => dyM L (stD L r M k) (rbB r k)
def wtN (p r : Nat) : Nat → Nat
  | 0 => 1
  | k + 1 => wtN p r k * (if rbB r k then p else 10 - p)
def eoD (L : Ld) (M : Mo) : Mo := phN L (L 0 3 - M 0 1) M
/-- over at the end of day n + 1 -/
def ovD (L : Ld) (h r : Nat) (M : Mo) (n : Nat) : Bool := ovr L (eoD L (stD L r M n)) h
section ODM
variable {L : Ld} {M : Mo} {h r p : Nat}
theorem hp_keep (ho : ovr L M h = true) : ∀ k, (hpM L M k).1 1 h = M 1 h
  | 0 => rfl
  | k + 1 => by
    have ih := hp_keep ho k
    rw [hpM_1]
    by_cases e : h = k
    · subst e
      have : can L (hpM L M h).1 h = false := by
        have : ovr L (hpM L M h).1 h = true := by unfold ovr at ho ⊢; rw [ih]; exact ho
        simp [can, this]
      rw [this, if_neg (by decide)]
      exact ih
    · split
      · rw [u2_ne _ _ (by omega)]; exact ih
      · exact ih
theorem ph_keep (ho : ovr L M h = true) : ovr L (phM L M) h = true := by
  have e : phM L M 1 h = M 1 h := by
    unfold phM
    rw [u2_ne _ _ (by omega)]
    unfold trM
    rw [if_neg (by omega)]
    exact hp_keep ho _
  unfold ovr at ho ⊢
  rw [e]; exact ho
theorem phN_keep : ∀ (n : Nat) {M : Mo}, ovr L M h = true → ovr L (phN L n M) h = true
  | 0, _, ho => ho
  | n + 1, _, ho => by rw [phN]; exact phN_keep n (ph_keep ho)
theorem st_ovr (wL : WLd L) (hh : h < L 0 0) (n : Nat) : ovr L (stD L r M (n + 1)) h = ovD L h r M n := by
  rw [stD]
  exact du_ovr wL hh
theorem ovD_mono (wL : WLd L) (hh : h < L 0 0) {k : Nat} (ho : ovD L h r M k = true) : ∀ n, ovD L h r M (k + n) = true
  | 0 => ho
  | n + 1 => by
    have ih := ovD_mono wL hh ho n
    rw [← Nat.add_assoc]
    unfold ovD eoD
    exact phN_keep _ ((st_ovr wL hh (k + n)).trans ih)
theorem stD_congr {r' : Nat} : ∀ {n : Nat}, (∀ k, k < n → rbB r k = rbB r' k) → stD L r M n = stD L r' M n
  | 0, _ => rfl
  | n + 1, hk => by rw [stD, stD, stD_congr (fun k q => hk k (by omega)), hk n (by omega)]
theorem wtN_congr {r' : Nat} : ∀ {n : Nat}, (∀ k, k < n → rbB r k = rbB r' k) → wtN p r n = wtN p r' n
  | 0, _ => rfl
  | n + 1, hk => by rw [wtN, wtN, wtN_congr (fun k q => hk k (by omega)), hk n (by omega)]
theorem wtN_le (hp : p ≤ 10) : ∀ n, wtN p r n ≤ 10 ^ n
  | 0 => Nat.le_refl _
  | n + 1 => by
    rw [wtN, Nat.pow_succ]
    exact Nat.mul_le_mul (wtN_le hp n) (by split <;> omega)
theorem sumN_add (f : Nat → Nat) (a : Nat) : ∀ b, sumN f (a + b) = sumN f a + sumN (fun i => f (a + i)) b
  | 0 => rfl
  | b + 1 => by rw [← Nat.add_assoc, sumN, sumN_add f a b, sumN]; omega
theorem sumN_mul (c : Nat) (f : Nat → Nat) : ∀ n, sumN (fun i => f i * c) n = sumN f n * c
  | 0 => by simp [sumN]
  | n + 1 => by rw [sumN, sumN_mul c f n, sumN, Nat.add_mul]
def upF (L : Ld) (h : Nat) (M : Mo) (p n r : Nat) : Nat := if ovD L h r M n then wtN p r n else 0
def abF (L : Ld) (h : Nat) (M : Mo) (p n r : Nat) : Nat := if ovr L (stD L r M n) h then wtN p r n else 0
theorem ab_up (wL : WLd L) (hh : h < L 0 0) (hp : p ≤ 10) (n : Nat) : sumN (abF L h M p (n + 1)) (2 ^ (n + 1)) = sumN (upF L h M p n) (2 ^ n) * 10 := by
  have h1 : sumN (abF L h M p (n + 1)) (2 ^ n) = sumN (upF L h M p n) (2 ^ n) * (10 - p) := by
    rw [← sumN_mul]
    refine sumN_congr (fun r hr => ?_)
    have e : rbB r n = false := by unfold rbB; rw [Nat.div_eq_of_lt hr]; decide
    show (if ovr L (stD L r M (n + 1)) h then wtN p r (n + 1) else 0) = (if ovD L h r M n then wtN p r n else 0) * (10 - p)
    rw [st_ovr wL hh, wtN, e]
    split
    · rfl
    · rw [Nat.zero_mul]
  have h2 : sumN (fun i => abF L h M p (n + 1) (2 ^ n + i)) (2 ^ n) = sumN (upF L h M p n) (2 ^ n) * p := by
    rw [← sumN_mul]
    refine sumN_congr (fun r hr => ?_)
    have e : rbB (2 ^ n + r) n = true := by
      unfold rbB
      rw [Nat.add_div_left _ (Nat.two_pow_pos n), Nat.div_eq_of_lt hr]; decide
    have ek : ∀ k, k < n → rbB (2 ^ n + r) k = rbB r k := fun k hk => by
      unfold rbB
      rw [← Nat.testBit_eq_decide_div_mod_eq, ← Nat.testBit_eq_decide_div_mod_eq]
      exact Nat.testBit_two_pow_add_gt hk r
    show (if ovr L (stD L (2 ^ n + r) M (n + 1)) h then wtN p (2 ^ n + r) (n + 1) else 0) = (if ovD L h r M n then wtN p r n else 0) * p
    have e2 : ovD L h (2 ^ n + r) M n = ovD L h r M n := by unfold ovD; rw [stD_congr ek]
    rw [st_ovr wL hh, e2, wtN, e, wtN_congr ek]
    split
    · rfl
    · rw [Nat.zero_mul]
  rw [Nat.pow_succ, Nat.mul_two, sumN_add, h1, h2, ← Nat.mul_add, show 10 - p + p = 10 by omega]
theorem up_le (hp : p ≤ 10) {n : Nat} (hn : n ≤ 3) {r : Nat} (hr : r ≤ 8) : sumN (upF L h M p n) r ≤ 8000 := by
  have h1 := sumN_le (f := upF L h M p n) (b := 1000) (n := r) (fun i _ => by
    have := wtN_le (p := p) (r := i) hp n
    have : 10 ^ n ≤ 10 ^ 3 := Nat.pow_le_pow_right (by omega) hn
    unfold upF
    split <;> omega)
  omega
theorem ab_le (hp : p ≤ 10) {n : Nat} (hn : n ≤ 4) {r : Nat} (hr : r ≤ 16) : sumN (abF L h M p n) r ≤ 160000 := by
  have h1 := sumN_le (f := abF L h M p n) (b := 10000) (n := r) (fun i _ => by
    have := wtN_le (p := p) (r := i) hp n
    have : 10 ^ n ≤ 10 ^ 4 := Nat.pow_le_pow_right (by omega) hn
    unfold abF
    split <;> omega)
  omega
end ODM
theorem wt_pow : ∀ k, k < 4 → ∀ r, r < 2 ^ k → ∀ p, p < 11 → bcN r ≤ k ∧ p ^ bcN r * (10 - p) ^ (k - bcN r) = wtN p r k := by decide +kernel
theorem cmp_le0 (x y : Int64) : (lg_cmp x y ≤ 0) = ¬ (y < x) := by
  rw [← cmp_gt0, Int32.not_lt]
theorem cmp_ge0 (x y : Int64) : (0 ≤ lg_cmp x y) = ¬ (x < y) := by
  rw [← cmp_lt0, Int32.not_lt]
theorem cmp_eq0 (x y : Int64) : (lg_cmp x y = 0) = (x = y) := by
  unfold lg_cmp
  apply propext
  by_cases h1 : x > y
  · rw [if_pos h1]
    refine ⟨fun z => absurd z (by decide), fun z => ?_⟩
    subst z
    exact absurd h1 (Int64.lt_irrefl)
  · rw [if_neg h1]
    by_cases h2 : x = y
    · rw [if_pos h2]; exact ⟨fun _ => h2, fun _ => rfl⟩
    · rw [if_neg h2]; exact ⟨fun z => absurd z (by decide), fun z => absurd z h2⟩
theorem gcd_step (a b : Nat) : Nat.gcd b (a % b) = Nat.gcd a b := by
  rw [Nat.gcd_comm b, ← Nat.gcd_rec, Nat.gcd_comm]
section ODC
variable {d : Nat} {I : MI} {G : MG} {J : MJ} {Φ : Ph}
theorem c_cd0 (hG : WG G) {a : Nat} (t : Int32) (k : Φ (some (.long (lN a))) 136 I G J) : Ev d mX4_commonDivisor 136 3 [some (.long (lN a)), none, some (.long (lN 0)), none, some (.int t), none, none] [] 136 I G J Φ :=
  w_X4_commonDivisor_3 hG _ _ _ ⟨fun _ => k, fun _ => ⟨fun _ => k, fun z => absurd (by rw [cmp_eq0]; rfl) z⟩⟩
theorem c_cd1 (hG : WG G) {a b t : Nat} (hb : 0 < b) (ha : a < 2 ^ 40) (hb2 : b < 2 ^ 40) (ht : t < 100) (k : Ev d mX4_commonDivisor 136 3 [some (.long (lN b)), none, some (.long (lN (a % b))), none, some (.int (nI (t + 1))), none, none] [] 136 I G J Φ) : Ev d mX4_commonDivisor 136 3 [some (.long (lN a)), none, some (.long (lN b)), none, some (.int (nI t)), none, none] [] 136 I G J Φ := by
  have hne : ¬ lN b = (0 : Int64) := fun z => by
    have := (pk_lEQ (a := b) (b := 0) (by omega) (by omega)).mp z
    omega
  refine w_X4_commonDivisor_3 hG _ _ _ ⟨fun q => absurd q (nI_ge (a := t) (b := 100) ht (by omega)), fun _ => ⟨fun z => ?_, fun _ => ⟨hne, ?_⟩⟩⟩
  · rw [cmp_eq0] at z; exact absurd z hne
  · rw [pk_lRem (by omega) hb (by omega), show nI t + (1 : Int32) = nI (t + 1) from nI_1 _]
    exact k
theorem c_cd (hG : WG G) : ∀ (n a b t : Nat), b < 2 ^ n → t + 2 * n ≤ 100 → a < 2 ^ 40 → b < 2 ^ 40 → Φ (some (.long (lN (Nat.gcd a b)))) 136 I G J → Ev d mX4_commonDivisor 136 3 [some (.long (lN a)), none, some (.long (lN b)), none, some (.int (nI t)), none, none] [] 136 I G J Φ
  | 0, a, b, t, h1, h2, ha, hb, k => by
    obtain rfl : b = 0 := by omega
    rw [Nat.gcd_zero_right] at k
    exact c_cd0 hG _ k
  | n + 1, a, b, t, h1, h2, ha, hb, k => by
    by_cases e : b = 0
    · subst e
      rw [Nat.gcd_zero_right] at k
      exact c_cd0 hG _ k
    · have l1 := Nat.mod_lt a (show b > 0 by omega)
      refine c_cd1 hG (by omega) ha hb (by omega) ?_
      rw [← gcd_step] at k
      by_cases e2 : a % b = 0
      · rw [e2] at k ⊢
        rw [Nat.gcd_zero_right] at k
        exact c_cd0 hG _ k
      · have l2 := Nat.mod_lt b (show a % b > 0 by omega)
        have l3 : b % (a % b) + a % b ≤ b := by
          have q1 := Nat.mod_add_div b (a % b)
          have q2 : 1 ≤ b / (a % b) := Nat.div_pos (by omega) (by omega)
          have q3 : a % b * 1 ≤ a % b * (b / (a % b)) := Nat.mul_le_mul_left _ q2
          omega
        refine c_cd1 hG (by omega) hb (by omega) (by omega) ?_
        rw [← gcd_step] at k
        rw [Nat.pow_succ] at h1
        exact c_cd hG n (a % b) (b % (a % b)) (t + 1 + 1) (by omega) (by omega) (by omega) (by omega) k
theorem m_cd (hG : WG G) (x0 x2 : Int64) : ∀ (n a b : Nat), b ≤ n → a < 2 ^ 40 → b < 2 ^ 40 → Φ (some (.long (lN (Nat.gcd a b)))) 136 I G J → Ev d mX5_common 136 6 [some (.long x0), none, some (.long x2), none, some (.long (lN a)), none, some (.long (lN b)), none, none, none] [] 136 I G J Φ
  | 0, a, b, h1, ha, hb, k => by
    obtain rfl : b = 0 := by omega
    rw [Nat.gcd_zero_right] at k
    refine w_X5_common_6 hG _ _ _ _ ⟨fun _ => k, fun z => absurd ?_ z⟩
    rw [cmp_le0]; exact Int64.lt_irrefl
  | n + 1, a, b, h1, ha, hb, k => by
    by_cases e : b = 0
    · subst e
      rw [Nat.gcd_zero_right] at k
      refine w_X5_common_6 hG _ _ _ _ ⟨fun _ => k, fun z => absurd ?_ z⟩
      rw [cmp_le0]; exact Int64.lt_irrefl
    · have l1 := Nat.mod_lt a (show b > 0 by omega)
      have hne : ¬ lN b = (0 : Int64) := fun z => by
        have := (pk_lEQ (a := b) (b := 0) (by omega) (by omega)).mp z
        omega
      refine w_X5_common_6 hG _ _ _ _ ⟨fun z => ?_, fun _ => ⟨hne, ?_⟩⟩
      · rw [cmp_le0] at z
        exact absurd ((pk_lLT (a := 0) (b := b) (by omega) (by omega)).mpr (by omega)) z
      · rw [pk_lRem (by omega) (by omega) (by omega)]
        rw [← gcd_step] at k
        exact m_cd hG x0 x2 n b (a % b) (by omega) (by omega) (by omega) k
theorem s_power (hG : WG G) {b n : Nat} (hb : b ≤ 10) (hn : n ≤ 4) (k : Φ (some (.long (lN (b ^ n)))) 136 I G J) : Ev d mX4_power 136 0 [some (.int (nI b)), some (.int (nI n)), none, none, none] [] 136 I G J Φ := by
  refine w_X4_power hG _ _ ?_
  refine down_ind (E := fun i => Ev d mX4_power 136 5 [some (.int (nI b)), some (.int (nI n)), some (.long (lN (b ^ i))), none, some (.int (nI i))] [] 136 I G J Φ) n ?_ ?_ 0 (Nat.zero_le _)
  · exact w_X4_power_5 hG _ _ _ _ ⟨fun _ => k, fun q => absurd (nI_le (a := n) (b := n) (by omega) (by omega)) q⟩
  · intro i hi ih
    refine w_X4_power_5 hG _ _ _ _ ⟨fun q => absurd q (nI_ge (a := i) (b := n) hi (by omega)), fun _ => ?_⟩
    rw [nI_l (n := b) (by omega), lN_mul, ← Nat.pow_succ, show nI i + (1 : Int32) = nI (i + 1) from nI_1 _]
    exact ih
theorem s_rainWeight (hG : WG G) {n p r : Nat} (hn : n ≤ 3) (hp : p ≤ 10) (hr : r < 2 ^ n) (k : Φ (some (.long (lN (wtN p r n)))) 136 I G J) : Ev (d + 1) mX4_rainWeight 136 0 [some (.int (nI n)), some (.int (nI p)), some (.int (nI r)), none] [] 136 I G J Φ := by
  obtain ⟨w1, w2⟩ := wt_pow n (by omega) r hr p (by omega)
  have p8 : 2 ^ n ≤ 2 ^ 3 := Nat.pow_le_pow_right (by omega) hn
  refine w_X4_rainWeight hG _ _ _ (s_bitCount hG (by omega) ⟨_, rfl, rfl, rfl, rfl, rfl, s_power hG hp (by omega) ⟨_, rfl, rfl, rfl, rfl, rfl, ?_⟩⟩)
  rw [show (10 : Int32) - nI p = nI (10 - p) from pk_sub (a := 10) hp, pk_sub w1]
  refine s_power hG (by omega) (by omega) ⟨_, rfl, rfl, rfl, rfl, rfl, ?_⟩
  rw [lN_mul, w2]
  exact k
end ODC
