/-! ===== days, the reference's, and both ===== -/
section DAYM
variable {d : Nat} {I : MI} {G : MG} {J : MJ} {Φ : Ph} {a : Nat} {L : Ld} {M : Mo} {T : Tm}
theorem phN_w (wL : WLd L) : ∀ (n : Nat) {M : Mo}, WMo L M → M 0 1 + n ≤ L 0 3 → WMo L (phN L n M)
  | 0, _, w, _ => w
  | n + 1, M, w, h => by
    rw [phN]
    exact phN_w wL n (phM_w wL w (by omega)) (by rw [phM_01]; omega)
theorem m_daysL {h : Nat} : ∀ (f n : Nat) {I : MI} {M : Mo}, f + n = 60 → Mm I G 100 L M → h < L 0 0 → (∀ h, h < L 0 0 → M 2 h ≤ 9 * M 0 0) → M 0 0 + f ≤ 500 → (∀ I', FrD 100 I I' → Φ (some (.int (dyR L h f n M))) 136 I' G J) → Ev (d + 4) mX5_days 136 28 [some (.ref 122), some (.int (nI h)), some (.int (nI n))] [] 136 I G J Φ
  | 0, n, I, M, hf, X, hh, hi, hd, k => by
    obtain rfl : n = 60 := by omega
    have e14 : I 123 114 = nI (M 0 0) := X.2.2.1.1.1
    refine w_X5_days_28 X.1 _ _ ⟨fun q => absurd q (nI_nlt (a := 60) (b := 60) (by omega) (by omega)), fun _ => ?_⟩
    refine m_isOver (x := 100) X hh ⟨_, rfl, rfl, rfl, rfl, rfl, ?_⟩
    rw [if01, e14]
    refine ⟨fun z => m_rainsOn X.l (by omega) ⟨_, rfl, rfl, rfl, rfl, rfl, ?_⟩, fun z => ?_⟩
    · refine m_goToDusk (x := 100) _ _ rfl X (fun h hh => by have := hi h hh; omega) (by omega) (fun I' f' X' => ⟨rfl, rfl, rfl, rfl, ?_⟩)
      refine w_X5_days_28 X.1 _ _ ⟨fun _ => ?_, fun q => absurd (nI_lt (a := 60) (b := 60 + 1) (by omega) (by omega)) q⟩
      have := k I' f'
      rw [dyR, if_neg z] at this
      exact this
    · have := k I ⟨fun _ _ => rfl, fun _ _ => rfl⟩
      rw [dyR, if_pos (Decidable.not_not.mp z)] at this
      exact this
  | f + 1, n, I, M, hf, X, hh, hi, hd, k => by
    have wL := X.2.2.2.1
    have e14 : I 123 114 = nI (M 0 0) := X.2.2.1.1.1
    refine w_X5_days_28 X.1 _ _ ⟨fun q => absurd q (nI_nlt (a := 60) (b := n) (by omega) (by omega)), fun _ => ?_⟩
    refine m_isOver (x := 100) X hh ⟨_, rfl, rfl, rfl, rfl, rfl, ?_⟩
    rw [if01, e14]
    refine ⟨fun z => m_rainsOn X.l (by omega) ⟨_, rfl, rfl, rfl, rfl, rfl, ?_⟩, fun z => ?_⟩
    · refine m_goToDusk (x := 100) _ _ rfl X (fun h hh => by have := hi h hh; omega) (by omega) (fun I1 f1 X1 => ⟨rfl, rfl, rfl, rfl, ?_⟩)
      have hm := X.2.2.2.2.1.2.1
      have inv := dy_inv wL (phN_w wL (L 0 3 - M 0 1) X.2.2.2.2.1 (by omega)) (rnB L (M 0 0)) hi
      have dd : dyM L M (rnB L (M 0 0)) 0 0 + f ≤ 500 := by rw [inv.1]; omega
      rw [show nI n + (1 : Int32) = nI (n + 1) from nI_1 _]
      refine m_daysL f (n + 1) (by omega) X1 hh inv.2 dd (fun I' f' => ?_)
      have := k I' (f1.tr f')
      rw [dyR, if_neg z] at this
      exact this
    · have := k I ⟨fun _ _ => rfl, fun _ _ => rfl⟩
      rw [dyR, if_pos (Decidable.not_not.mp z)] at this
      exact this
theorem RMm.cp {I' : MI} {x y : Nat} (wL : WLd L) (h1 : RMm I x L M) (hc : ∀ j, j < 100 → I' 123 (y + j) = I 123 (x + j)) : RMm I' y L M := by
  refine ⟨⟨(hc 14 (by omega)).trans h1.1.1, (hc 15 (by omega)).trans h1.1.2⟩, fun j hj => ?_, fun m hm => ?_⟩
  · have b := wL.h hj
    have e := hc (4 + j) (by omega)
    rw [← Nat.add_assoc, ← Nat.add_assoc] at e
    exact ⟨(hc j (by omega)).trans (h1.2.1 j hj).1, e.trans (h1.2.1 j hj).2⟩
  · have b := wL.m hm
    have e := hc (8 + m) (by omega)
    have e2 := hc (11 + m) (by omega)
    rw [← Nat.add_assoc, ← Nat.add_assoc] at e e2
    exact ⟨e.trans (h1.2.2 m hm).1, e2.trans (h1.2.2 m hm).2⟩
def oDays (L : Ld) (T : Tm) (x : Int32) : Int32 := if 0 ≤ x ∧ x < nI (L 0 0) then dyR L x.toNatClampNeg 60 0 (oaM T.1 x.toNatClampNeg 7 (L 0 2)) else -1
theorem oa_inv {h : Nat} (w : WT L T) : (∀ j, j < L 0 0 → oaM T.1 h 7 (L 0 2) 2 j ≤ 9 * oaM T.1 h 7 (L 0 2) 0 0) ∧ oaM T.1 h 7 (L 0 2) 0 0 + 60 ≤ 500 := by
  have e : oaM T.1 h 7 (L 0 2) 0 0 = T.1 0 0 := by unfold oaM; rw [if_neg (by omega)]
  refine ⟨fun j hj => ?_, by rw [e]; have := w.2.2.2.1; omega⟩
  rw [e]
  unfold oaM
  rw [if_neg (by omega)]
  exact w.2.2.2.2 j hj
theorem m_days (X : Mm I G 0 L T.1) (w : WT L T) (x : Int32) (k : ∀ I', FrD 100 I I' → Φ (some (.int (oDays L T x))) 136 I' G J) : Ev (d + 4) mX5_days 136 0 [some (.ref 122), some (.int x), none] [] 136 I G J Φ := by
  have wL := X.2.2.2.1
  refine w_X5_days X.1 _ (m_isHill X.l x ⟨_, rfl, rfl, rfl, rfl, rfl, ?_⟩)
  rw [if01]
  refine ⟨fun p => ?_, fun p => ?_⟩
  · have hx := Decidable.not_not.mp p
    obtain ⟨h, hh, e⟩ := hill_of (by have := wL.1; omega) hx
    have b := wL.h hh
    subst e
    refine m_copy (x := 0) (y := 100) X.1 (by omega) (by omega) (by omega) (fun I1 f1 c1 => ⟨rfl, rfl, rfl, rfl, ?_⟩)
    have X1 : Mm I1 G 100 L T.1 := ⟨X.1, X.2.1.congr f1.1, X.2.2.1.cp wL c1, wL, w.1, by omega⟩
    refine m_orderAll (x := 100) (s := 7) X1 hh (by omega) (fun I2 f2 X2 => ⟨rfl, rfl, rfl, rfl, ?_⟩)
    have iv := oa_inv (h := h) w
    refine m_daysL 60 0 (by omega) X2 hh iv.1 iv.2 (fun I' f' => ?_)
    have := k I' ((f1.tr f2.d).tr f')
    unfold oDays at this
    rw [if_pos hx, nI_clamp (n := h) (by omega)] at this
    exact this
  · have := k I ⟨fun _ _ => rfl, fun _ _ => rfl⟩
    unfold oDays at this
    rw [if_neg p] at this
    exact this
theorem p_days (S : SR I G J a L T) (x : Int32) : Ev (d + 6) mX4_days 136 0 [some (.ref 0), some (.int x), none] [] 136 I G J (P2 I G (d + 4) mX5_days [some (.ref 122), some (.int x), none]) := by
  have wL := S.w
  have k : ∀ I1 : MI, (∀ y, ¬ (28 ≤ y ∧ y < 34) → I1 y = I y) → P2 I G (d + 4) mX5_days [some (.ref 122), some (.int x), none] (some (.int (oDays L T x))) 136 I1 G J := fun I1 f1 => by
    have X1 : Mm I1 G 0 L T.1 := ⟨S.1.1, S.mm.2.1.congr2 (fun y hy => f1 y (by omega)), S.mm.2.2.1.congr wL (fun k _ _ => by rw [f1 123 (by omega)]), wL, S.2.1.1.1, by omega⟩
    refine ⟨rfl, ⟨_, rfl⟩, m_days X1 S.2.1.1 x (fun I2 f2 => ⟨rfl, rfl, S.tri (fun y hy => ?_) (fun k hk => ?_)⟩)⟩
    · rw [f2.1 y (by omega), f1 y (by omega)]
    · rw [f2.2 k (by omega), f1 123 (by omega)]
  refine w_X4_days S.1.1 S.1.2.1 S.1.2.2.1 x (s_hasHill S.cl x ⟨_, rfl, rfl, rfl, rfl, rfl, ?_⟩)
  rw [if01]
  refine ⟨fun p => ?_, fun p => via ?_ (k I (fun _ _ => rfl))⟩
  · have hx := Decidable.not_not.mp p
    obtain ⟨h, hh, e⟩ := hill_of (by have := wL.1; omega) hx
    have b := wL.h hh
    subst e
    refine s_isOver S.cm hh ⟨_, rfl, rfl, rfl, rfl, rfl, ?_⟩
    rw [if01]
    refine ⟨fun z => ?_, fun z => via ?_ (k I (fun _ _ => rfl))⟩
    · refine s_allPush S.cm S.1.2.2.1 hh (fun I1 f1 X1 => ⟨rfl, rfl, rfl, rfl, ?_⟩)
      have iv := oa_inv (h := h) S.2.1.1
      refine c_days S.1.2.2.1 60 0 (by omega) X1 hh (by rw [oa_ovr]; simpa using z) iv.1 iv.2 (fun I' f' => via ?_ (k I' (fun y hy => by rw [f' y hy, f1 y hy])))
      unfold oDays
      rw [if_pos hx, nI_clamp (n := h) (by omega)]
    · unfold oDays
      rw [if_pos hx, nI_clamp (n := h) (by omega), dyR, oa_ovr, if_pos (Decidable.not_not.mp z)]
      rfl
  · unfold oDays; rw [if_neg p]
end DAYM
