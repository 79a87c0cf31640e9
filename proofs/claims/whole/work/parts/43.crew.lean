/-! ===== crew ===== -/
def crB (L : Ld) (need b s : Nat) : Nat := if need ≤ foN L s ∧ (b = 0 ∨ bcN s < bcN b) then s else b
def crW (L : Ld) (need : Nat) : Nat → Nat
  | 0 => 0
  | n + 1 => crB L need (crW L need n) n
def cvI (b : Nat) : Int32 := if b = 0 then -9 else nI b
section CREW
variable {d : Nat} {I : MI} {G : MG} {J : MJ} {Φ : Ph} {a : Nat} {L : Ld} {T : Tm}
theorem crW_le (L : Ld) (need : Nat) : ∀ n, crW L need n ≤ n
  | 0 => Nat.le_refl _
  | n + 1 => by
    have := crW_le L need n
    rw [crW, crB]
    split <;> omega
theorem foN_lt (wL : WLd L) (s : Nat) : foN L s ≤ 27 := by
  have h := sumN_le (f := fun m => if s / 2 ^ m % 2 = 1 then L 8 m else 0) (b := 9) (n := L 0 2) (fun m hm => by
    have := wL.m hm
    show (if s / 2 ^ m % 2 = 1 then L 8 m else 0) ≤ 9
    split <;> omega)
  have := wL.2.2.1
  unfold foN
  omega
theorem bcN_lt : ∀ s, s < 8 → bcN s < 10 := by decide +kernel
theorem cv_9 {b : Nat} (hb : b < 8) : (cvI b = (-9 : Int32)) = (b = 0) := by
  have : ∀ b, b < 8 → ((cvI b = (-9 : Int32)) ↔ b = 0) := by decide +kernel
  exact propext (this b hb)
theorem cv_n {b : Nat} (hb : b < 8) : (cvI b < (0 : Int32)) = (b = 0) := by
  have : ∀ b, b < 8 → ((cvI b < (0 : Int32)) ↔ b = 0) := by decide +kernel
  exact propext (this b hb)
theorem nd_b (wL : WLd L) {M : Mo} {h : Nat} (hh : h < L 0 0) : 1 ≤ ndN L M h ∧ ndN L M h ≤ 20 := by
  have b := wL.h hh
  unfold ndN szN
  omega
theorem c_crew (S : SR I G J a L T) {h : Nat} (hh : h < L 0 0) (k : Φ (some (.int (cvI (crW L (ndN L T.1 h) (2 ^ L 0 2))))) 136 I G J) : ∀ s, s ≤ 2 ^ L 0 2 → 1 ≤ s → Ev (d + 1) mX4_crew 136 32 [some (.ref 0), some (.int (nI h)), some (.int (nI (ndN L T.1 h))), some (.int (cvI (crW L (ndN L T.1 h) s))), some (.int (nI s)), none] [] 136 I G J Φ := by
  have wL := S.w
  have b2 := wL.2.2.1
  have p8 : 2 ^ L 0 2 ≤ 8 := Nat.pow_le_pow_right (n := 2) (by omega) b2
  have nb := nd_b (M := T.1) wL hh
  have e9 : I a 9 = nI (L 0 2) := S.1.2.2.2.2.1.1.2.2.1
  have es : (1 : Int32) <<< (nI (L 0 2) &&& 31) = nI (2 ^ L 0 2) := by
    have := nshl (a := 1) (i := L 0 2) (by omega) (by omega)
    rw [Nat.one_mul] at this
    exact this
  refine down_ind (E := fun s => 1 ≤ s → Ev (d + 1) mX4_crew 136 32 [some (.ref 0), some (.int (nI h)), some (.int (nI (ndN L T.1 h))), some (.int (cvI (crW L (ndN L T.1 h) s))), some (.int (nI s)), none] [] 136 I G J Φ) (2 ^ L 0 2) ?_ ?_
  · intro _
    refine w_X4_crew_32 S.1.1 S.1.2.1 S.1.2.2.1 _ _ _ _ ⟨fun _ => k, fun q => absurd ?_ q⟩
    rw [e9, es]; exact nI_le (Nat.le_refl _) (by omega)
  · intro s hs ih h1
    have ih := ih (by omega)
    have cl := crW_le L (ndN L T.1 h) s
    have f27 := foN_lt wL s
    refine w_X4_crew_32 S.1.1 S.1.2.1 S.1.2.2.1 _ _ _ _ ⟨fun q => ?_, fun _ => ?_⟩
    · rw [e9, es, nI_leI (by omega) (by omega)] at q
      omega
    · rw [cv_9 (by omega), show nI s + (1 : Int32) = nI (s + 1) from nI_1 _]
      rw [crW, crB] at ih
      have same : ¬ (ndN L T.1 h ≤ foN L s ∧ (crW L (ndN L T.1 h) s = 0 ∨ bcN s < bcN (crW L (ndN L T.1 h) s))) → Ev (d + 1) mX4_crew 136 32 [some (.ref 0), some (.int (nI h)), some (.int (nI (ndN L T.1 h))), some (.int (cvI (crW L (ndN L T.1 h) s))), some (.int (nI (s + 1))), none] [] 136 I G J Φ := fun z => by
        rw [if_neg z] at ih; exact ih
      have cvs : cvI s = nI s := by unfold cvI; rw [if_neg (by omega)]
      have new : (ndN L T.1 h ≤ foN L s ∧ (crW L (ndN L T.1 h) s = 0 ∨ bcN s < bcN (crW L (ndN L T.1 h) s))) → Ev (d + 1) mX4_crew 136 32 [some (.ref 0), some (.int (nI h)), some (.int (nI (ndN L T.1 h))), some (.int (nI s)), some (.int (nI (s + 1))), none] [] 136 I G J Φ := fun z => by
        rw [if_pos z, cvs] at ih; exact ih
      refine ⟨fun e => s_forceOf S.cl (by omega) ⟨_, rfl, rfl, rfl, rfl, rfl, ?_⟩, fun e => ?_⟩
      · rw [nI_ltI (by omega) (by omega)]
        exact ⟨fun z => same (fun y => by omega), fun z => new ⟨by omega, Or.inl e⟩⟩
      · have cvb : cvI (crW L (ndN L T.1 h) s) = nI (crW L (ndN L T.1 h) s) := by unfold cvI; rw [if_neg e]
        have l1 := bcN_lt s (by omega)
        have l2 := bcN_lt (crW L (ndN L T.1 h) s) (by omega)
        refine s_bitCount S.1.1 (by omega) ⟨_, rfl, rfl, rfl, rfl, rfl, ?_⟩
        rw [cvb] at same ⊢
        refine s_bitCount S.1.1 (by omega) ⟨_, rfl, rfl, rfl, rfl, rfl, ?_⟩
        rw [nI_leI (by omega) (by omega)]
        refine ⟨fun z => same (fun y => y.2.elim e (fun y2 => by omega)), fun z => s_forceOf S.cl (by omega) ⟨_, rfl, rfl, rfl, rfl, rfl, ?_⟩⟩
        rw [nI_ltI (by omega) (by omega)]
        exact ⟨fun z2 => same (fun y => by omega), fun z2 => new ⟨by omega, Or.inr (by omega)⟩⟩
end CREW
