/-! ===== odds, both ===== -/
section ODD
variable {d : Nat} {I : MI} {G : MG} {J : MJ} {Φ : Ph} {a : Nat} {L : Ld} {M : Mo} {T : Tm}
/-- rolled stays small, days count -/
def iD (L : Ld) (M : Mo) (f : Nat) : Prop := (∀ h, h < L 0 0 → M 2 h ≤ 9 * M 0 0) ∧ M 0 0 + f ≤ 500
theorem iD_s (wL : WLd L) (w : WMo L M) (r : Bool) {f : Nat} (hi : iD L M (f + 1)) : iD L (dyM L M r) f := by
  have hm := w.2.1
  have inv := dy_inv wL (phN_w wL (L 0 3 - M 0 1) w (by omega)) r hi.1
  refine ⟨inv.2, ?_⟩
  rw [inv.1]
  have := hi.2
  omega
theorem c_ob (hga : G 0 3 = some a) {h r n : Nat} (hr : r < 16) (hn : n ≤ 3) : ∀ (f k : Nat) {I : MI}, f + k = n + 1 → Cm I G a 28 L (stD L r M k) → h < L 0 0 → iD L (stD L r M k) f → (k = 0 ∨ ovD L h r M (k - 1) = false) → (∀ I', (∀ x, ¬ (28 ≤ x ∧ x < 34) → I' x = I x) → Φ (some (.int (if ovD L h r M n then 1 else 0))) 136 I' G J) → Ev (d + 6) mX4_isOverBehind 136 8 [some (.ref 0), some (.int (nI h)), some (.int (nI (n + 1))), some (.int (nI r)), some (.int (nI k))] [] 136 I G J Φ
  | 0, k, I, hf, X, hh, hi, ho, kk => by
    obtain rfl : k = n + 1 := by omega
    refine w_X4_isOverBehind_8 X.1 X.2.2.1 hga _ _ _ _ ⟨fun _ => ?_, fun q => absurd (nI_le (a := n + 1) (b := n + 1) (by omega) (by omega)) q⟩
    have := kk I (fun _ _ => rfl)
    rw [show ovD L h r M n = false from ho.resolve_left (by omega), if_neg (by decide)] at this
    exact this
  | f + 1, k, I, hf, X, hh, hi, ho, kk => by
    have wL := X.2.2.2.2.2.1
    have b2 := Nat.div_le_self r (2 ^ k)
    refine w_X4_isOverBehind_8 X.1 X.2.2.1 hga _ _ _ _ ⟨fun q => absurd q (nI_ge (a := k) (b := n + 1) (by omega) (by omega)), fun _ => ?_⟩
    refine s_passDay X (fun I2 f2 X2 => ⟨rfl, rfl, rfl, rfl, s_isOver X2 hh ⟨_, rfl, rfl, rfl, rfl, rfl, ?_⟩⟩)
    rw [if01, nshr (a := r) (i := k) (by omega) (by omega), nand1 (by omega), show (1 : Int32) = nI 1 from rfl, nI_eq (by omega) (by omega), nI_add]
    refine ⟨fun z => ?_, fun z => ?_⟩
    · have z' : ovD L h r M k = false := by unfold ovD eoD; simpa using z
      have go : ∀ rr, rbB r k = rr → ∀ I3, Fr 28 I2 I3 → Cm I3 G a 28 L (duM L (phN L (L 0 3 - stD L r M k 0 1) (stD L r M k)) rr) → Ev (d + 6) mX4_isOverBehind 136 8 [some (.ref 0), some (.int (nI h)), some (.int (nI (n + 1))), some (.int (nI r)), some (.int (nI (k + 1)))] [] 136 I3 G J Φ := by
        intro rr hrr I3 f3 X3
        have e : duM L (phN L (L 0 3 - stD L r M k 0 1) (stD L r M k)) rr = stD L r M (k + 1) := by rw [stD, hrr]; rfl
        rw [e] at X3
        refine c_ob hga hr hn f (k + 1) (by omega) X3 hh (by rw [← e]; exact iD_s wL X.2.2.2.2.2.2 rr hi) (Or.inr z') (fun I' f' => kk I' (fun x hx => by rw [f' x hx, f3.1 x (by omega), f2.1 x (by omega)]))
      have h5 : ∀ j, j < L 0 0 → phN L (L 0 3 - stD L r M k 0 1) (stD L r M k) 2 j ≤ 50000 := fun j hj => by
        rw [phN_2]; have := hi.1 j hj; have := hi.2; omega
      have h6 : phN L (L 0 3 - stD L r M k 0 1) (stD L r M k) 0 0 < 1000 := by rw [phN_00]; have := hi.2; omega
      refine ⟨fun q => s_fallDusk X2 false h5 h6 (fun I3 f3 X3 => ⟨rfl, rfl, rfl, rfl, go false ?_ I3 f3 X3⟩), fun q => s_fallDusk X2 true h5 h6 (fun I3 f3 X3 => ⟨rfl, rfl, rfl, rfl, go true ?_ I3 f3 X3⟩)⟩
      · unfold rbB; exact decide_eq_false q
      · unfold rbB; exact decide_eq_true q
    · have z' : ovD L h r M k = true := Decidable.not_not.mp z
      have := kk I2 (fun x hx => by rw [f2.1 x (by omega)])
      have e := ovD_mono wL hh z' (n - k)
      rw [show k + (n - k) = n by omega] at e
      rw [e, if_pos rfl] at this
      exact this
/-- the object's sum over rains -/
theorem c_oddsL (S : SR I G J a L T) {h n p : Nat} (hh : h < L 0 0) (hn : n ≤ 3) (hp : p ≤ 10) (x4 : Int32) (k : ∀ I', (∀ x, ¬ (28 ≤ x ∧ x < 34) → I' x = I x) → (¬ x4 = 0 → Φ (some (.long (lN (10 ^ n / Nat.gcd (10 ^ n) (sumN (upF L h (oaM T.1 h 7 (L 0 2)) p n) (2 ^ n)))))) 136 I' G J) ∧ (x4 = 0 → Φ (some (.long (lN (sumN (upF L h (oaM T.1 h 7 (L 0 2)) p n) (2 ^ n) / Nat.gcd (10 ^ n) (sumN (upF L h (oaM T.1 h 7 (L 0 2)) p n) (2 ^ n)))))) 136 I' G J)) : ∀ r, r ≤ 2 ^ n → ∀ I1 : MI, (∀ x, ¬ (28 ≤ x ∧ x < 34) → I1 x = I x) → Ev (d + 8) mX4_odds 136 57 [some (.ref 0), some (.int (nI h)), some (.int (nI (n + 1))), some (.int (nI p)), some (.int x4), some (.int (nI n)), some (.long (lN (sumN (upF L h (oaM T.1 h 7 (L 0 2)) p n) r))), none, some (.int (nI r)), none, none, none, none, none] [] 136 I1 G J Φ := by
  have wL := S.w
  have hG := S.1.1
  have p8 : 2 ^ n ≤ 2 ^ 3 := Nat.pow_le_pow_right (by omega) hn
  have t3 : 10 ^ n ≤ 10 ^ 3 := Nat.pow_le_pow_right (by omega) hn
  have t0 : 0 < 10 ^ n := Nat.pow_pos (by omega)
  have es : (1 : Int32) <<< (nI n &&& 31) = nI (2 ^ n) := by
    have := nshl (a := 1) (i := n) (by omega) (by omega)
    rw [Nat.one_mul] at this
    exact this
  refine down_ind (E := fun r => ∀ I1 : MI, (∀ x, ¬ (28 ≤ x ∧ x < 34) → I1 x = I x) → Ev (d + 8) mX4_odds 136 57 [some (.ref 0), some (.int (nI h)), some (.int (nI (n + 1))), some (.int (nI p)), some (.int x4), some (.int (nI n)), some (.long (lN (sumN (upF L h (oaM T.1 h 7 (L 0 2)) p n) r))), none, some (.int (nI r)), none, none, none, none, none] [] 136 I1 G J Φ) (2 ^ n) ?_ ?_
  · intro I1 f1
    have ub := up_le (L := L) (h := h) (M := oaM T.1 h 7 (L 0 2)) hp hn (r := 2 ^ n) (by omega)
    have k1 := k I1 f1
    revert k1 ub
    generalize sumN (upF L h (oaM T.1 h 7 (L 0 2)) p n) (2 ^ n) = u
    intro ub k1
    have gp : 0 < Nat.gcd (10 ^ n) u := Nat.gcd_pos_of_pos_left _ t0
    have gl : Nat.gcd (10 ^ n) u ≤ 10 ^ n := Nat.le_of_dvd t0 (Nat.gcd_dvd_left _ _)
    refine w_X4_odds_57 hG _ _ _ _ _ _ _ ⟨fun _ => s_power (b := 10) hG (by omega) (by omega) ⟨_, rfl, rfl, rfl, rfl, rfl, w_X4_commonDivisor hG _ _ (c_cd hG 13 (10 ^ n) u 0 (by omega) (by omega) (by omega) (by omega) ⟨_, rfl, rfl, rfl, rfl, rfl, ?_⟩)⟩, fun q => absurd ?_ q⟩
    · have c1 : 0 ≤ lg_cmp (lN (Nat.gcd (10 ^ n) u)) (1 : Int64) := by
        rw [cmp_ge0]
        intro z
        have := (pk_lLT (a := Nat.gcd (10 ^ n) u) (b := 1) (by omega) (by omega)).mp z
        omega
      have hne : ¬ lN (Nat.gcd (10 ^ n) u) = (0 : Int64) := fun z => by
        have := (pk_lEQ (a := Nat.gcd (10 ^ n) u) (b := 0) (by omega) (by omega)).mp z
        omega
      rw [pk_lDiv (by omega) gp (by omega), pk_lDiv (by omega) gp (by omega)]
      exact ⟨fun q => ⟨fun _ => ⟨hne, k1.1 q⟩, fun z => absurd c1 z⟩, fun q => ⟨fun _ => ⟨hne, k1.2 q⟩, fun z => absurd c1 z⟩⟩
    · rw [es]; exact nI_le (Nat.le_refl _) (by omega)
  · intro r hr ih I1 f1
    have wb := wtN_le (p := p) (r := r) hp n
    have X1 : Cm I1 G a 22 L T.1 := ⟨hG, S.cm.2.1, S.1.2.1, S.cm.2.2.2.1.congr (fun x q1 q2 => f1 x (by have := isL_or S.1.2.1; omega)), S.cm.2.2.2.2.1.congr (fun x q1 q2 => f1 x (by omega)), wL, S.2.1.1.1⟩
    refine w_X4_odds_57 hG _ _ _ _ _ _ _ ⟨fun q => ?_, fun _ => s_rainWeight hG hn hp hr ⟨_, rfl, rfl, rfl, rfl, rfl, ?_⟩⟩
    · rw [es, nI_leI (by omega) (by omega)] at q
      omega
    · rw [cmp_le0, show (0 : Int64) = lN 0 from rfl, pk_lLT (by omega) (by omega), show nI r + (1 : Int32) = nI (r + 1) from nI_1 _, lN_add]
      have ih' : ∀ I2 : MI, (∀ x, ¬ (28 ≤ x ∧ x < 34) → I2 x = I x) → ∀ w, upF L h (oaM T.1 h 7 (L 0 2)) p n r = w → Ev (d + 8) mX4_odds 136 57 [some (.ref 0), some (.int (nI h)), some (.int (nI (n + 1))), some (.int (nI p)), some (.int x4), some (.int (nI n)), some (.long (lN (sumN (upF L h (oaM T.1 h 7 (L 0 2)) p n) r + w))), none, some (.int (nI (r + 1))), none, none, none, none, none] [] 136 I2 G J Φ := by
        intro I2 f2 w hw
        rw [← hw]
        exact ih I2 f2
      refine ⟨fun z => ih' I1 f1 0 ?_, fun z => w_X4_isOverBehind hG _ _ _ (s_allPush X1 S.1.2.2.1 hh (fun I2 f2 X2 => ⟨rfl, rfl, rfl, rfl, ?_⟩))⟩
      · unfold upF; split
        · omega
        · rfl
      · have iv := oa_inv (h := h) S.2.1.1
        refine c_ob (M := oaM T.1 h 7 (L 0 2)) S.1.2.2.1 (by omega) hn (n + 1) 0 (by omega) X2 hh ⟨iv.1, by have := iv.2; show oaM T.1 h 7 (L 0 2) 0 0 + (n + 1) ≤ 500; omega⟩ (Or.inl rfl) (fun I3 f3 => ⟨_, rfl, rfl, rfl, rfl, ?_⟩)
        rw [if01]
        have f4 : ∀ x, ¬ (28 ≤ x ∧ x < 34) → I3 x = I x := fun x hx => by rw [f3 x hx, f2 x hx, f1 x hx]
        refine ⟨fun z => ih' I3 f4 0 ?_, fun z => ih' I3 f4 _ ?_⟩
        · unfold upF; rw [if_neg z]
        · unfold upF; rw [if_pos (Decidable.not_not.mp z)]
/-- the reference's sum over rains -/
theorem m_oddsL (w : WT L T) {h n p : Nat} (hh : h < L 0 0) (hn : n ≤ 3) (hp : p ≤ 10) (x4 : Int32) (wL : WLd L) (k : ∀ I', FrD 100 I I' → (¬ x4 = 0 → Φ (some (.long (lN (10 ^ n / Nat.gcd (10 ^ n) (sumN (upF L h (oaM T.1 h 7 (L 0 2)) p n) (2 ^ n)))))) 136 I' G J) ∧ (x4 = 0 → Φ (some (.long (lN (sumN (upF L h (oaM T.1 h 7 (L 0 2)) p n) (2 ^ n) / Nat.gcd (10 ^ n) (sumN (upF L h (oaM T.1 h 7 (L 0 2)) p n) (2 ^ n)))))) 136 I' G J)) : ∀ r, r ≤ 2 ^ (n + 1) → ∀ I1 : MI, FrD 100 I I1 → Mm I1 G 0 L T.1 → Ev (d + 4) mX5_odds 136 79 [some (.ref 122), some (.int (nI h)), some (.int (nI (n + 1))), some (.int (nI p)), some (.int x4), some (.long (lN (sumN (abF L h (oaM T.1 h 7 (L 0 2)) p (n + 1)) r))), none, some (.long (lN (10 ^ (n + 1)))), none, some (.int (nI r)), none, none, none] [] 136 I1 G J Φ := by
  have p8 : 2 ^ (n + 1) ≤ 2 ^ 4 := Nat.pow_le_pow_right (by omega) (by omega)
  have t3 : 10 ^ n ≤ 10 ^ 3 := Nat.pow_le_pow_right (by omega) hn
  have t0 : 0 < 10 ^ n := Nat.pow_pos (by omega)
  have es : (1 : Int32) <<< (nI (n + 1) &&& 31) = nI (2 ^ (n + 1)) := by
    have := nshl (a := 1) (i := n + 1) (by omega) (by omega)
    rw [Nat.one_mul] at this
    exact this
  refine down_ind (E := fun r => ∀ I1 : MI, FrD 100 I I1 → Mm I1 G 0 L T.1 → Ev (d + 4) mX5_odds 136 79 [some (.ref 122), some (.int (nI h)), some (.int (nI (n + 1))), some (.int (nI p)), some (.int x4), some (.long (lN (sumN (abF L h (oaM T.1 h 7 (L 0 2)) p (n + 1)) r))), none, some (.long (lN (10 ^ (n + 1)))), none, some (.int (nI r)), none, none, none] [] 136 I1 G J Φ) (2 ^ (n + 1)) ?_ ?_
  · intro I1 f1 X1
    have ub := up_le (L := L) (h := h) (M := oaM T.1 h 7 (L 0 2)) hp hn (r := 2 ^ n) (by have : 2 ^ n ≤ 2 ^ 3 := Nat.pow_le_pow_right (by omega) hn; omega)
    have k1 := k I1 f1
    rw [ab_up wL hh hp]
    revert k1 ub
    generalize sumN (upF L h (oaM T.1 h 7 (L 0 2)) p n) (2 ^ n) = u
    intro ub k1
    have gp : 0 < Nat.gcd (10 ^ n) u := Nat.gcd_pos_of_pos_left _ t0
    have gl : Nat.gcd (10 ^ n) u ≤ 10 ^ n := Nat.le_of_dvd t0 (Nat.gcd_dvd_left _ _)
    have ge : Nat.gcd (10 ^ (n + 1)) (u * 10) = Nat.gcd (10 ^ n) u * 10 := by rw [Nat.pow_succ, Nat.gcd_mul_right]
    have tt : 10 ^ (n + 1) = 10 ^ n * 10 := Nat.pow_succ ..
    refine w_X5_odds_79 X1.1 _ _ _ _ _ _ _ ⟨fun _ => w_X5_common X1.1 _ _ (m_cd X1.1 _ _ (u * 10) (10 ^ (n + 1)) (u * 10) (Nat.le_refl _) (by omega) (by omega) ⟨_, rfl, rfl, rfl, rfl, rfl, ?_⟩), fun q => absurd ?_ q⟩
    · have hne : ¬ lN (Nat.gcd (10 ^ (n + 1)) (u * 10)) = (0 : Int64) := fun z => by
        have := (pk_lEQ (a := Nat.gcd (10 ^ (n + 1)) (u * 10)) (b := 0) (by omega) (by omega)).mp z
        omega
      rw [pk_lDiv (by omega) (by omega) (by omega), pk_lDiv (by omega) (by omega) (by omega)]
      refine ⟨fun q => ⟨hne, ?_⟩, fun q => ⟨hne, ?_⟩⟩
      · rw [ge, tt, Nat.mul_div_mul_right _ _ (by omega)]; exact k1.1 q
      · rw [ge, Nat.mul_div_mul_right _ _ (by omega)]; exact k1.2 q
    · rw [es]; exact nI_le (Nat.le_refl _) (by omega)
  · intro r hr ih I1 f1 X1
    have r16 : r < 16 := by omega
    refine w_X5_odds_79 X1.1 _ _ _ _ _ _ _ ⟨fun q => ?_, fun _ => ?_⟩
    · rw [es, nI_leI (by omega) (by omega)] at q
      omega
    · refine m_copy (x := 0) (y := 100) X1.1 (by omega) (by omega) (by omega) (fun I2 f2 c2 => ⟨rfl, rfl, rfl, rfl, ?_⟩)
      have X2 : Mm I2 G 100 L T.1 := ⟨X1.1, X1.2.1.congr f2.1, X1.2.2.1.cp wL c2, wL, w.1, by omega⟩
      refine m_orderAll (x := 100) (s := 7) X2 hh (by omega) (fun I3 f3 X3 => ⟨rfl, rfl, rfl, rfl, ?_⟩)
      have iv := oa_inv (h := h) w
      have loop : ∀ (f k : Nat) (I4 : MI), f + k = n + 1 → FrD 100 I1 I4 → Mm I4 G 100 L (stD L r (oaM T.1 h 7 (L 0 2)) k) → iD L (stD L r (oaM T.1 h 7 (L 0 2)) k) f → Ev (d + 4) mX5_odds 136 109 [some (.ref 122), some (.int (nI h)), some (.int (nI (n + 1))), some (.int (nI p)), some (.int x4), some (.long (lN (sumN (abF L h (oaM T.1 h 7 (L 0 2)) p (n + 1)) r))), none, some (.long (lN (10 ^ (n + 1)))), none, some (.int (nI r)), some (.long (lN (wtN p r k))), none, some (.int (nI k))] [] 136 I4 G J Φ := by
        intro f
        induction f with
        | zero =>
          intro k I4 hf f4 X4 hi
          obtain rfl : k = n + 1 := by omega
          have X0 : Mm I4 G 0 L T.1 := ⟨X1.1, X1.2.1.congr f4.1, X1.2.2.1.congr wL (fun j _ _ => f4.2 j (by omega)), wL, w.1, by omega⟩
          have ih' := ih I4 (f1.tr f4) X0
          rw [sumN] at ih'
          refine w_X5_odds_109 X1.1 _ _ _ _ _ _ _ _ _ ⟨fun _ => m_isOver (x := 100) X4 hh ⟨_, rfl, rfl, rfl, rfl, rfl, ?_⟩, fun q => absurd (nI_le (a := n + 1) (b := n + 1) (by omega) (by omega)) q⟩
          rw [if01, show nI r + (1 : Int32) = nI (r + 1) from nI_1 _, show (0 : Int64) = lN 0 from rfl, lN_add, lN_add]
          refine ⟨fun z => ?_, fun z => ?_⟩
          · have e : abF L h (oaM T.1 h 7 (L 0 2)) p (n + 1) r = 0 := by unfold abF; rw [if_neg z]
            rw [e] at ih'; exact ih'
          · have e : abF L h (oaM T.1 h 7 (L 0 2)) p (n + 1) r = wtN p r (n + 1) := by unfold abF; rw [if_pos (Decidable.not_not.mp z)]
            rw [e] at ih'; exact ih'
        | succ f ihf =>
          intro k I4 hf f4 X4 hi
          refine w_X5_odds_109 X1.1 _ _ _ _ _ _ _ _ _ ⟨fun q => absurd q (nI_ge (a := k) (b := n + 1) (by omega) (by omega)), fun _ => m_has X1.1 (by omega) (by omega) ⟨_, rfl, rfl, rfl, rfl, rfl, ?_⟩⟩
          have er : (if r / 2 ^ k % 2 = 1 then (1 : Int32) else 0) = if rbB r k then 1 else 0 := by unfold rbB; simp only [decide_eq_true_eq]
          rw [er]
          refine m_goToDusk (x := 100) (rbB r k) _ rfl X4 (fun j hj => by have := hi.1 j hj; have := hi.2; omega) (by have := hi.2; omega) (fun I5 f5 X5 => ⟨rfl, rfl, rfl, rfl, m_has X1.1 (by omega) (by omega) ⟨_, rfl, rfl, rfl, rfl, rfl, ?_⟩⟩)
          have go := ihf (k + 1) I5 (by omega) (f4.tr f5) X5 (iD_s wL X4.2.2.2.2.1 (rbB r k) hi)
          rw [if01, show nI k + (1 : Int32) = nI (k + 1) from nI_1 _, show (10 : Int32) - nI p = nI (10 - p) from pk_sub (a := 10) hp, nI_l (n := 10 - p) (by omega), nI_l (n := p) (by omega), lN_mul, lN_mul]
          rw [wtN] at go
          refine ⟨fun z => ?_, fun z => ?_⟩
          · rw [show rbB r k = false from decide_eq_false z, if_neg (by decide)] at go; exact go
          · rw [show rbB r k = true from decide_eq_true (Decidable.not_not.mp z), if_pos rfl] at go; exact go
      exact loop (n + 1) 0 I3 (by omega) (f2.tr f3.d) X3 ⟨iv.1, by have := iv.2; show oaM T.1 h 7 (L 0 2) 0 0 + (n + 1) ≤ 500; omega⟩
end ODD
