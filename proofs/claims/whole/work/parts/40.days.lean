/-! ===== days ===== -/
def dyM (L : Ld) (M : Mo) (r : Bool) : Mo := duM L (phN L (L 0 3 - M 0 1) M) r
def dyR (L : Ld) (h : Nat) : Nat → Nat → Mo → Int32
  | 0, n, M => if ovr L M h then nI n else -9
  | f + 1, n, M => if ovr L M h then nI n else dyR L h f (n + 1) (dyM L M (rnB L (M 0 0)))
section DAYS
variable {d : Nat} {I : MI} {G : MG} {J : MJ} {Φ : Ph} {a : Nat} {L : Ld} {M : Mo} {T : Tm} {x : Nat}
theorem phN_00 (L : Ld) : ∀ n M, phN L n M 0 0 = M 0 0
  | 0, M => rfl
  | n + 1, M => by rw [phN, phN_00 L n, phM_00]
theorem phN_2 (L : Ld) (h : Nat) : ∀ n M, phN L n M 2 h = M 2 h
  | 0, M => rfl
  | n + 1, M => by rw [phN, phN_2 L h n, phM_2]
theorem du_ovr (wL : WLd L) {P : Mo} {r : Bool} {h : Nat} (hh : h < L 0 0) : ovr L (duM L P r) h = ovr L P h := by
  have b := wL.h hh
  have e : duM L P r 1 h = if syB L P r h = false then 0 else P 1 h := by
    unfold duM
    rw [u2_row _ _ _ (by omega), u2_row _ _ _ (by omega)]
    unfold rsM
    rw [if_neg (by omega)]
    unfold dkM
    by_cases q : syB L P r h = false
    · rw [if_pos ⟨hh, q⟩, if_pos rfl, if_pos q]
    · rw [if_neg (fun z => q z.2), if_neg q]
  unfold ovr
  rw [e]
  by_cases q : syB L P r h = false
  · rw [if_pos q]
    have : ¬ P 1 h = L 1 h := fun z => by
      have : syB L P r h = true := by unfold syB ovr; simp [z]
      rw [this] at q; exact absurd q (by decide)
    simp [this]; omega
  · rw [if_neg q]
theorem oa_ovr (L : Ld) (M : Mo) (h s n j : Nat) : ovr L (oaM M h s n) j = ovr L M j := by
  unfold ovr oaM
  rw [if_neg (by omega)]
theorem SR.tri {I' : MI} (S : SR I G J a L T) (h1 : ∀ x, ¬ ((28 ≤ x ∧ x < 34) ∨ x = 123) → I' x = I x) (h2 : ∀ k, ¬ (100 ≤ k ∧ k < 200) → I' 123 k = I 123 k) : Kp I G I' G ∧ ∃ a L T, SR I' G J a L T :=
  S.up2 (T' := T) (fun _ _ => rfl) (fun y hy => h1 y (by omega)) ⟨by rw [h1 0 (by omega)], by rw [h1 0 (by omega)]⟩ (fun k _ => by rw [h1 122 (by omega)]) (S.2.1.cg S.w (fun y p1 p2 => h1 y (by omega)) (fun k hk => h2 k (by omega))) (S.2.2.1.cg S.w (by rw [h1 0 (by omega)]) (by rw [h1 122 (by omega)]) (fun y p1 p2 => h1 y (by omega)) (fun k p1 p2 => h2 k (by omega))) (S.2.2.2.1.cg S.w (h1 36 (by omega)) (h1 124 (by omega)) (fun y p1 p2 => h1 y (by omega)) (fun k p1 p2 => h2 k (by omega)))
theorem dy_inv (wL : WLd L) (wP : WMo L (phN L (L 0 3 - M 0 1) M)) (r : Bool) (hi : ∀ h, h < L 0 0 → M 2 h ≤ 9 * M 0 0) : dyM L M r 0 0 = M 0 0 + 1 ∧ ∀ h, h < L 0 0 → dyM L M r 2 h ≤ 9 * dyM L M r 0 0 := by
  have e : dyM L M r 0 0 = M 0 0 + 1 := by unfold dyM; rw [duM_00, phN_00]
  refine ⟨e, fun h hh => ?_⟩
  rw [e]
  unfold dyM
  have b0 := duM_2 L (phN L (L 0 3 - M 0 1) M) r h
  have b1 := (wP.2.2.1 h hh).1
  have b2 := wL.h hh
  have b3 := hi h hh
  rw [phN_2] at b0
  omega
/-- the object's loop of days, from a trial that is not over -/
theorem c_days {h : Nat} (hga : G 0 3 = some a) : ∀ (f n : Nat) {I : MI} {M : Mo}, f + n = 60 → Cm I G a 28 L M → h < L 0 0 → ovr L M h = false → (∀ h, h < L 0 0 → M 2 h ≤ 9 * M 0 0) → M 0 0 + f ≤ 500 → (∀ I', (∀ x, ¬ (28 ≤ x ∧ x < 34) → I' x = I x) → Φ (some (.int (dyR L h f n M))) 136 I' G J) → Ev (d + 6) mX4_days 136 37 [some (.ref 0), some (.int (nI h)), some (.int (nI (n + 1)))] [] 136 I G J Φ
  | 0, n, I, M, hf, X, hh, ho, hi, hd, k => by
    obtain rfl : n = 60 := by omega
    refine w_X4_days_37 X.1 X.2.2.1 hga _ _ ⟨fun _ => ?_, fun q => absurd (nI_lt (a := 60) (b := 60 + 1) (by omega) (by omega)) q⟩
    have := k I (fun _ _ => rfl)
    rw [dyR, ho] at this
    exact this
  | f + 1, n, I, M, hf, X, hh, ho, hi, hd, k => by
    have wL := X.2.2.2.2.2.1
    refine w_X4_days_37 X.1 X.2.2.1 hga _ _ ⟨fun q => absurd q (nI_nlt (a := 60) (b := n + 1) (by omega) (by omega)), fun _ => ?_⟩
    refine s_passDay X (fun I2 f2 X2 => ⟨rfl, rfl, rfl, rfl, s_isOver X2 hh ⟨_, rfl, rfl, rfl, rfl, rfl, ?_⟩⟩)
    have e0 : I2 28 0 = nI (M 0 0) := by rw [X2.2.2.2.2.1.1.1, phN_00]
    have inv := dy_inv wL X2.2.2.2.2.2.2 (rnB L (M 0 0)) hi
    have eo : ovr L (dyM L M (rnB L (M 0 0))) h = ovr L (phN L (L 0 3 - M 0 1) M) h := du_ovr wL hh
    rw [if01, e0]
    refine ⟨fun z => s_rainsOn X2.l (by omega) ⟨_, rfl, rfl, rfl, rfl, rfl, ?_⟩, fun z => ?_⟩
    · refine s_fallDusk X2 _ (fun h hh => by rw [phN_2]; have := hi h hh; omega) (by rw [phN_00]; omega) (fun I3 f3 X3 => ⟨rfl, rfl, rfl, rfl, ?_⟩)
      rw [show nI (n + 1) + (1 : Int32) = nI (n + 1 + 1) from nI_1 _]
      have z' : ovr L (phN L (L 0 3 - M 0 1) M) h = false := by simpa using z
      have dd : dyM L M (rnB L (M 0 0)) 0 0 + f ≤ 500 := by rw [inv.1]; omega
      refine c_days hga f (n + 1) (by omega) X3 hh (eo.trans z') inv.2 dd (fun I' f' => ?_)
      have := k I' (fun x hx => by rw [f' x hx, f3.1 x (by omega), f2.1 x (by omega)])
      rw [dyR, ho] at this
      exact this
    · have z' := Decidable.not_not.mp z
      have := k I2 (fun x hx => by rw [f2.1 x (by omega)])
      rw [dyR, ho] at this
      have e : dyR L h f (n + 1) (dyM L M (rnB L (M 0 0))) = nI (n + 1) := by
        cases f <;> rw [dyR, if_pos (eo.trans z')]
      rw [if_neg (by decide), e] at this
      exact this
end DAYS
