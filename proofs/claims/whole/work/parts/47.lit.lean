/-! ===== little, the reference's, and both ===== -/
def oLit (L : Ld) (M : Mo) (h : Nat) : Int32 := if (L 1 h - M 1 h ≤ L 0 3 - M 0 1 ∧ L 1 h - M 1 h ≤ frN L M h) ∧ 1 + L 2 h ≤ saN L M (L 1 h - M 1 h - 1) then nI (min 9 (saN L M (L 1 h - M 1 h - 1) - L 2 h)) else -9
theorem sevens {m : Nat} (h : m < 3) : 7 / 2 ^ m % 2 = 1 := by
  rcases (show m = 0 ∨ m = 1 ∨ m = 2 by omega) with rfl | rfl | rfl <;> rfl
section LIT
variable {d : Nat} {I : MI} {G : MG} {J : MJ} {Φ : Ph} {a : Nat} {L : Ld} {M : Mo} {T : Tm}
theorem saN_le (wL : WLd L) (wM : WMo L M) (t : Nat) : saN L M t ≤ 27 := by
  have h1 := sumN_le (f := fun m => M 3 m - t) (b := 9) (n := L 0 2) (fun i hi => by
    have := (wM.2.2.2 i hi).1
    have := wL.m hi
    show M 3 i - t ≤ 9
    omega)
  have := wL.2.2.1
  unfold saN
  omega
theorem m_isOverBy (X : Mm I G 0 L M) {h z : Nat} (hh : h < L 0 0) (hz : z ≤ 9) (k : ∀ I' (P : Prop) [Decidable P], (P ↔ ltO L M h z) → FrD 100 I I' → Φ (some (.int (if P then 1 else 0))) 136 I' G J) : Ev (d + 3) mX5_isOverBy 136 0 [some (.ref 122), some (.int (nI h)), some (.int (nI z)), none, none] [] 136 I G J Φ := by
  obtain ⟨hG, hL, hM, wL, wM, -⟩ := id X
  have b := wL.h hh
  have b2 := wL.2.2.1
  have b3 := wL.2.2.2.1
  have hm := wM.2.1
  have b5 := (wM.2.2.1 h hh).1
  have e126 : I 126 h = nI (L 2 h) := (hL.2.1 h hh).2.1
  have e13 : I 122 13 = nI (L 0 3) := hL.1.2.2.2.1
  have key : ∀ n t s I1, n + t = L 0 3 - M 0 1 → FrD 100 I I1 → s ≤ L 1 h → Mm I1 G 100 L (tlM L M h s (fun m => M 3 m - t) (fun _ => h + 1)) → (ltP (L 1 h) (z + L 2 h) (saN L M) (bkN L M h) n t s = L 1 h ↔ ltO L M h z) → Ev (d + 3) mX5_isOverBy 136 24 [some (.ref 122), some (.int (nI h)), some (.int (nI z)), some (.int (nI (M 0 1 + t))), none] [] 136 I1 G J Φ := by
    intro n
    induction n with
    | zero =>
      intro t s I1 h1 f1 hs X1 hP
      refine w_X5_isOverBy_24 hG _ _ _ ⟨fun _ => m_isOver (x := 100) X1 hh ⟨_, rfl, rfl, rfl, rfl, rfl, nar01, ?_⟩, fun q => absurd ?_ q⟩
      · rw [ltP] at hP
        exact k I1 _ (by rw [tl_ov]; simpa using hP) f1
      · rw [f1.1 122 (by omega), e13]; exact nI_le (by omega) (by omega)
    | succ n ih =>
      intro t s I1 h1 f1 hs X1 hP
      rw [ltP] at hP
      have est : stA L (tlM L M h s (fun m => M 3 m - t) (fun _ => h + 1)) h = saN L M t := by
        rw [tl_st]; exact sumN_congr (fun i _ => if_pos rfl)
      have l1 := saN_le wL wM t
      have g1 := bkN_lt (M := M) (h := h) (p := s + 1) wL
      have e100 : I1 123 (100 + h) = nI s := by
        have := (X1.2.2.1.2.1 h hh).1
        rwa [tl_1] at this
      have fin : ∀ (P : Prop) [Decidable P], (P ↔ (s ≠ L 1 h ∧ z + L 2 h ≤ saN L M t ∧ bkN L M h (s + 1) = 0)) → Ev (d + 3) mX5_isOverBy 136 86 [some (.ref 122), some (.int (nI h)), some (.int (nI z)), some (.int (nI (M 0 1 + t))), none] [.int (if P then 1 else 0)] 136 I1 G J Φ := by
        intro P _ hPP
        refine w_X5_isOverBy_86 hG _ _ _ _ ?_
        rw [show (100 : Int32) + nI h = nI (100 + h) from nI_add 100 h, nI_clamp (n := 100 + h) (by omega), e100]
        have v : vp_in (nI (100 + h)) 1400 := vp_in_nI (by omega) (by decide)
        refine ⟨v, m_one hG ⟨_, rfl, rfl, rfl, rfl, rfl, v, ?_⟩⟩
        have go : ∀ s', s' ≤ L 1 h → (if s ≠ L 1 h ∧ z + L 2 h ≤ saN L M t ∧ bkN L M h (s + 1) = 0 then s + 1 else s) = s' → Ev (d + 2) mX5_tire 136 0 [some (.ref 122), some (.int (100 : Int32)), some (.int (0 : Int32)), none, none, none] [] 136 (u2 I1 123 (100 + h) (nI s')) G J (fun r n I4 G4 J4 => r = none ∧ n = 136 ∧ G = G4 ∧ J = J4 ∧ (Ev (d + 3) mX5_isOverBy 136 24 [some (.ref 122), some (.int (nI h)), some (.int (nI z)), some (.int (nI (M 0 1 + t) + (1 : Int32))), none] [] 136 I4 G J Φ)) := by
          intro s' hs' he
          have f2 : FrM 100 I1 (u2 I1 123 (100 + h) (nI s')) := FrM.rf.u2 (by omega)
          have X2 : Mm (u2 I1 123 (100 + h) (nI s')) G 100 L (tlM L M h s' (fun m => M 3 m - t) (fun _ => h + 1)) := by
            refine X1.fr f2.1 ?_ (tl_w wM hs' (fun m hm => ?_) (fun m hm => by omega))
            · rw [← tl_up (s := s) s']
              exact X1.2.2.1.step wL b.1 s'
            · have := (wM.2.2.2 m hm).1
              show M 3 m - t ≤ _
              omega
          refine m_tire (x := 100) (s := 0) X2 (by omega) (fun I3 f3 X3 => ⟨rfl, rfl, rfl, rfl, ?_⟩)
          rw [show nI (M 0 1 + t) + (1 : Int32) = nI (M 0 1 + (t + 1)) from nI_1 _]
          refine ih (t + 1) s' I3 (by omega) ((f1.tr f2.d).tr f3.d) hs' ?_ (by rw [← he]; exact hP)
          rw [tl_tr] at X3
          have e : tlM L M h s' (fun m => if h + 1 ≠ 0 ∧ 0 / 2 ^ (h + 1 - 1) % 2 = 0 then M 3 m - t - 1 else min (L 8 m) (M 3 m - t + 1)) (fun _ => h + 1) = tlM L M h s' (fun m => M 3 m - (t + 1)) (fun _ => h + 1) := by
            refine tl_fo (fun m _ => ?_) (fun _ _ => rfl)
            rw [if_pos ⟨by omega, by rw [Nat.zero_div]⟩]
            omega
          rw [← e]
          exact X3
        by_cases q : P
        · have q2 := hPP.mp q
          rw [if_pos q, show nI s + (1 : Int32) = nI (s + 1) from nI_1 _]
          exact go (s + 1) (by omega) (by rw [if_pos q2])
        · have q2 : ¬ (s ≠ L 1 h ∧ z + L 2 h ≤ saN L M t ∧ bkN L M h (s + 1) = 0) := fun y => q (hPP.mpr y)
          rw [if_neg q, show nI s + (0 : Int32) = nI s from nI_add s 0]
          exact go s hs (by rw [if_neg q2])
      refine w_X5_isOverBy_24 hG _ _ _ ⟨fun q => ?_, fun _ => m_isOver (x := 100) X1 hh ⟨_, rfl, rfl, rfl, rfl, rfl, ?_⟩⟩
      · rw [f1.1 122 (by omega), e13, nI_leI (by omega) (by omega)] at q
        omega
      · rw [if01, tl_ov, decide_eq_true_eq]
        have no : ¬ (s ≠ L 1 h ∧ z + L 2 h ≤ saN L M t ∧ bkN L M h (s + 1) = 0) → Ev (d + 3) mX5_isOverBy 136 86 [some (.ref 122), some (.int (nI h)), some (.int (nI z)), some (.int (nI (M 0 1 + t))), none] [.int (0 : Int32)] 136 I1 G J Φ := fun q => by
          have := fin False (by simpa using q)
          rw [if_neg (fun z => z)] at this
          exact this
        refine ⟨fun q => no (fun y => y.1 (Decidable.not_not.mp q)), fun q => m_pushOf (x := 100) X1 hh ⟨_, rfl, rfl, rfl, rfl, rfl, vp_in_nI (by omega) (by decide), ?_⟩⟩
        rw [est, f1.1 126 (by omega), nI_clamp (n := h) (by omega), e126, nI_add, nI_ltI (by omega) (by omega)]
        refine ⟨fun q2 => no (fun y => by omega), fun q2 => ?_⟩
        rw [show (100 : Int32) + nI h = nI (100 + h) from nI_add 100 h, nI_clamp (n := 100 + h) (by omega), e100, show nI s + (1 : Int32) = nI (s + 1) from nI_1 _]
        refine ⟨vp_in_nI (by omega) (by decide), m_blocksIn (x := 100) X1 hh (by omega) ⟨_, rfl, rfl, rfl, rfl, rfl, ?_⟩⟩
        rw [tl_bk, show (0 : Int32) = nI 0 from rfl, nI_eq (by omega) (by omega)]
        refine ⟨fun q3 => no (fun y => q3 y.2.2), fun q3 => ?_⟩
        have := fin True (by simp only [true_iff]; exact ⟨q, by omega, q3⟩)
        rw [if_pos trivial] at this
        exact this
  refine w_X5_isOverBy hG _ _ (m_copy (x := 0) (y := 100) hG (by omega) (by omega) (by omega) (fun I1 f1 c1 => ⟨rfl, rfl, rfl, rfl, ?_⟩))
  have X1 : Mm I1 G 100 L M := ⟨hG, hL.congr f1.1, hM.cp wL c1, wL, wM, by omega⟩
  refine m_orderAll (x := 100) (s := 7) X1 hh (by omega) (fun I2 f2 X2 => ⟨rfl, rfl, rfl, rfl, ?_⟩)
  have e15 : I2 123 15 = nI (M 0 1) := by
    rw [f2.2 15 (by omega), f1.2 15 (by omega)]; exact hM.1.2
  rw [e15]
  refine key (L 0 3 - M 0 1) 0 (M 1 h) I2 (by omega) (f1.tr f2.d) b5 ?_ Iff.rfl
  have e : oaM M h 7 (L 0 2) = tlM L M h (M 1 h) (fun m => M 3 m - 0) (fun _ => h + 1) := by
    have := tl_oa (L := L) (M := M) (h := h) (s := M 1 h) (f := M 3) (o := M 4) 7
    rw [tl_id] at this
    rw [this]
    exact tl_fo (fun m _ => by omega) (fun m hm => if_pos (sevens (by omega)))
  rw [← e]
  exact X2
theorem m_littleL {h : Nat} : ∀ (z : Nat) {I : MI}, Mm I G 0 L M → h < L 0 0 → M 1 h < L 1 h → z ≤ 9 → (∀ y, z < y → y ≤ 9 → ¬ ltO L M h y) → (∀ I', FrD 100 I I' → Φ (some (.int (oLit L M h))) 136 I' G J) → Ev (d + 4) mX5_little 136 25 [some (.ref 122), some (.int (nI h)), some (.int (nI z))] [] 136 I G J Φ
  | 0, I, X, hh, hs, hz, hy, k => by
    refine w_X5_little_25 X.1 _ _ ⟨fun _ => ?_, fun q => absurd (nI_le (a := 0) (b := 0) (by omega) (by omega)) q⟩
    have := k I ⟨fun _ _ => rfl, fun _ _ => rfl⟩
    unfold oLit at this
    rw [if_neg (fun q => hy 1 (by omega) (by omega) ((ltO_iff hs).mpr q))] at this
    exact this
  | z + 1, I, X, hh, hs, hz, hy, k => by
    have b := X.2.2.2.1.h hh
    have l1 := saN_le X.2.2.2.1 X.2.2.2.2.1 (L 1 h - M 1 h - 1)
    refine w_X5_little_25 X.1 _ _ ⟨fun q => absurd q (nI_nle (by omega) (by omega)), fun _ => m_isOverBy X hh (by omega) (fun I1 P _ hP f1 => ⟨_, rfl, rfl, rfl, rfl, ?_⟩)⟩
    rw [if01, hP]
    refine ⟨fun q => ?_, fun q => ?_⟩
    · have X1 : Mm I1 G 0 L M := ⟨X.1, X.2.1.congr f1.1, X.2.2.1.congr X.2.2.2.1 (fun j _ _ => f1.2 j (by omega)), X.2.2.2.1, X.2.2.2.2.1, by omega⟩
      rw [show nI (z + 1) + (-1 : Int32) = nI z from pk_m1 z]
      refine m_littleL z X1 hh hs (by omega) (fun y h1 h2 => ?_) (fun I' f' => k I' (f1.tr f'))
      by_cases e : y = z + 1
      · rw [e]; exact q
      · exact hy y (by omega) h2
    · have q' := (ltO_iff hs).mp (Classical.not_not.mp q)
      have := k I1 f1
      unfold oLit at this
      rw [if_pos ⟨q'.1, by omega⟩] at this
      have e : min 9 (saN L M (L 1 h - M 1 h - 1) - L 2 h) = z + 1 := by
        by_cases e9 : z + 1 = 9
        · omega
        · have := hy (z + 2) (by omega) (by omega)
          rw [ltO_iff hs] at this
          have : ¬ (z + 2 + L 2 h ≤ saN L M (L 1 h - M 1 h - 1)) := fun y => this ⟨q'.1, y⟩
          omega
      rw [e] at this
      exact this
def oLitt (L : Ld) (T : Tm) (x : Int32) : Int32 := if 0 ≤ x ∧ x < nI (L 0 0) then (if ovr L T.1 x.toNatClampNeg then -2 else oLit L T.1 x.toNatClampNeg) else -1
theorem m_little (X : Mm I G 0 L T.1) (x : Int32) (k : ∀ I', FrD 100 I I' → Φ (some (.int (oLitt L T x))) 136 I' G J) : Ev (d + 4) mX5_little 136 0 [some (.ref 122), some (.int x), none] [] 136 I G J Φ := by
  have wL := X.2.2.2.1
  refine w_X5_little X.1 _ (m_isHill X.l x ⟨_, rfl, rfl, rfl, rfl, rfl, ?_⟩)
  rw [if01]
  refine ⟨fun p => ?_, fun p => ?_⟩
  · have hx := Decidable.not_not.mp p
    obtain ⟨h, hh, e⟩ := hill_of (by have := wL.1; omega) hx
    have b := wL.h hh
    have b5 := (X.2.2.2.2.1.2.2.1 h hh).1
    subst e
    refine m_isOver (x := 0) X hh ⟨_, rfl, rfl, rfl, rfl, rfl, ?_⟩
    rw [if01]
    refine ⟨fun z => ?_, fun z => ?_⟩
    · refine m_littleL 9 X hh ?_ (by omega) (fun y h1 h2 => by omega) (fun I' f' => ?_)
      · simp only [ovr, decide_eq_true_eq] at z
        omega
      · have := k I' f'
        unfold oLitt at this
        rw [if_pos hx, nI_clamp (n := h) (by omega), if_neg z] at this
        exact this
    · have := k I ⟨fun _ _ => rfl, fun _ _ => rfl⟩
      unfold oLitt at this
      rw [if_pos hx, nI_clamp (n := h) (by omega), if_pos (Decidable.not_not.mp z)] at this
      exact this
  · have := k I ⟨fun _ _ => rfl, fun _ _ => rfl⟩
    unfold oLitt at this
    rw [if_neg p] at this
    exact this
theorem p_little (S : SR I G J a L T) (x : Int32) : Ev (d + 3) mX4_little 136 0 [some (.ref 0), some (.int x), none, none] [] 136 I G J (P2 I G (d + 4) mX5_little [some (.ref 122), some (.int x), none]) := by
  have wL := S.w
  have k : P2 I G (d + 4) mX5_little [some (.ref 122), some (.int x), none] (some (.int (oLitt L T x))) 136 I G J := by
    refine ⟨rfl, ⟨_, rfl⟩, m_little S.mm x (fun I2 f2 => ⟨rfl, rfl, S.tri (fun y hy => f2.1 y (by omega)) (fun k hk => f2.2 k (by omega))⟩)⟩
  refine w_X4_little S.1.1 S.1.2.1 S.1.2.2.1 x (s_hasHill S.cl x ⟨_, rfl, rfl, rfl, rfl, rfl, ?_⟩)
  rw [if01]
  refine ⟨fun p => ?_, fun p => via ?_ k⟩
  · have hx := Decidable.not_not.mp p
    obtain ⟨h, hh, e⟩ := hill_of (by have := wL.1; omega) hx
    have b := wL.h hh
    have b3 := wL.2.2.2.1
    have wM := S.2.1.1.1
    have hm := wM.2.1
    have b5 := (wM.2.2.1 h hh).1
    have e1 : I (a + 1) h = nI (L 1 h) := (S.1.2.2.2.2.1.2.1 h hh).1
    have e2 : I (a + 2) h = nI (L 2 h) := (S.1.2.2.2.2.1.2.1 h hh).2.1
    have e3 : I (22 + 1) h = nI (T.1 1 h) := (S.2.1.2.1.1.2.1 h hh).1
    subst e
    have v : vp_in (nI h) 4 := vp_in_nI b.1 (by decide)
    refine s_isOver S.cm hh ⟨_, rfl, rfl, rfl, rfl, rfl, ?_⟩
    rw [if01]
    have eO : ovr L T.1 h = false → oLitt L T (nI h) = oLit L T.1 h := fun z => by
      unfold oLitt; rw [if_pos hx, nI_clamp (n := h) (by omega), z, if_neg (by decide)]
    refine ⟨fun z => ⟨v, v, s_hoursLeft S.cm ⟨_, rfl, rfl, rfl, rfl, rfl, ?_⟩⟩, fun z => via ?_ k⟩
    · have z' : ovr L T.1 h = false := by simpa using z
      have hs : T.1 1 h < L 1 h := by
        simp only [ovr, decide_eq_false_iff_not] at z'
        omega
      have eO := eO z'
      have l1 := saN_le wL wM (L 1 h - T.1 1 h - 1)
      have l2 := frF_le (bkN L T.1 h) (L 1 h - T.1 1 h) (T.1 1 h + 1)
      have l3 : frN L T.1 h ≤ 9 := by unfold frN; omega
      rw [nI_clamp (n := h) (by omega), e1, e3, pk_sub b5, nI_ltI (by omega) (by omega)]
      refine ⟨fun q => via ?_ k, fun q => s_freeSteps S.cm hh ⟨_, rfl, rfl, rfl, rfl, rfl, ?_⟩⟩
      · rw [eO]; unfold oLit; rw [if_neg (by omega)]
      · rw [nI_leI (by omega) (by omega)]
        refine ⟨fun q2 => ?_, fun q2 => via ?_ k⟩
        · have e9 : nI (L 1 h - T.1 1 h) - (1 : Int32) = nI (L 1 h - T.1 1 h - 1) := pk_sub (b := 1) (by omega)
          rw [e9]
          refine s_strengthAfter S.cm (by omega) ⟨_, rfl, rfl, rfl, rfl, rfl, v, ?_⟩
          rw [e2]
          have c1 : (1 : Int32) ≤ nI (saN L T.1 (L 1 h - T.1 1 h - 1)) - nI (L 2 h) ↔ 1 + L 2 h ≤ saN L T.1 (L 1 h - T.1 1 h - 1) := by
            rw [show (1 : Int32) = nI 1 from rfl, Int32.le_iff_toInt_le, sub_toI (by omega) (by omega), toI_nI (by omega)]
            omega
          rw [c1]
          refine ⟨fun q3 => via ?_ k, fun q3 => via ?_ k⟩
          · rw [eO]; unfold oLit; rw [if_pos ⟨⟨by omega, q2⟩, q3⟩, pk_sub (by omega), show (9 : Int32) = nI 9 from rfl]
            by_cases e7 : 9 < saN L T.1 (L 1 h - T.1 1 h - 1) - L 2 h
            · rw [if_pos ((nI_ltI (by omega) (by omega)).mpr e7), show min 9 (saN L T.1 (L 1 h - T.1 1 h - 1) - L 2 h) = 9 by omega]
            · rw [if_neg (fun y => e7 ((nI_ltI (by omega) (by omega)).mp y)), show min 9 (saN L T.1 (L 1 h - T.1 1 h - 1) - L 2 h) = saN L T.1 (L 1 h - T.1 1 h - 1) - L 2 h by omega]
          · rw [eO]; unfold oLit; rw [if_neg (by omega)]
        · rw [eO]; unfold oLit; rw [if_neg (by omega)]
    · unfold oLitt; rw [if_pos hx, nI_clamp (n := h) (by omega), if_pos (Decidable.not_not.mp z)]
  · unfold oLitt; rw [if_neg p]
end LIT
