/-! ===== hour ===== -/
def hoT (L : Ld) (T : Tm) : Tm := if T.1 0 1 + 1 < L 0 3 then (phM L T.1, T.2) else (duM L (phM L T.1) (rnB L (T.1 0 0)), wrN T.2.1, wrW (duM L (phM L T.1) (rnB L (T.1 0 0))) T.2.2)
section HOUR
variable {d : Nat} {I : MI} {G : MG} {J : MJ} {Φ : Ph} {a : Nat} {L : Ld} {M : Mo} {T : Tm}
theorem phM_2 (L : Ld) (M : Mo) (h : Nat) : phM L M 2 h = M 2 h := by
  unfold phM
  rw [u2_row _ _ _ (by omega)]
  unfold trM
  rw [if_neg (by omega), hpM_t L M 2 (by omega)]
theorem phM_00 (L : Ld) (M : Mo) : phM L M 0 0 = M 0 0 := by
  unfold phM
  rw [u2_ne _ _ (by omega)]
  unfold trM
  rw [if_neg (by omega), hpM_t L M 0 (by omega)]
theorem phM_01 (L : Ld) (M : Mo) : phM L M 0 1 = M 0 1 + 1 := u2_at _ _ _ _
theorem duM_00 (L : Ld) (M : Mo) (r : Bool) : duM L M r 0 0 = M 0 0 + 1 := by unfold duM; rw [u2_ne _ _ (by omega), u2_at]
theorem duM_01 (L : Ld) (M : Mo) (r : Bool) : duM L M r 0 1 = 0 := u2_at _ _ _ _
theorem duM_2 (L : Ld) (M : Mo) (r : Bool) (h : Nat) : duM L M r 2 h ≤ M 2 h + M 1 h := by
  unfold duM
  rw [u2_row _ _ _ (by omega), u2_row _ _ _ (by omega)]
  unfold rsM
  rw [if_neg (by omega)]
  unfold dkM
  split
  · simp
  · omega
theorem hoT_w (wL : WLd L) (w : WT L T) (hd : T.1 0 0 < 99) : WT L (hoT L T) := by
  obtain ⟨w1, w5, w6, w7, w8⟩ := w
  have wp := phM_w wL w1 w6
  unfold hoT
  by_cases e : T.1 0 1 + 1 < L 0 3
  · rw [if_pos e]
    refine ⟨wp, w5, ?_, ?_, fun h hh => ?_⟩
    · show phM L T.1 0 1 < _; rw [phM_01]; exact e
    · show phM L T.1 0 0 ≤ _; rw [phM_00]; exact w7
    · show phM L T.1 2 h ≤ 9 * phM L T.1 0 0; rw [phM_00, phM_2]; exact w8 h hh
  · rw [if_neg e]
    have wd : WMo L (duM L (phM L T.1) (rnB L (T.1 0 0))) := duM_w wp (fun h hh => by rw [phM_2]; have := w8 h hh; omega) wL (by rw [phM_00]; omega) _
    refine ⟨wd, ⟨?_, fun i hi h hh => ?_⟩, ?_, ?_, fun h hh => ?_⟩
    · show wrN T.2.1 ≤ 20
      unfold wrN; have := w5.1; split <;> omega
    · show wrW (duM L (phM L T.1) (rnB L (T.1 0 0))) T.2.2 i h ≤ 9
      have hi' : i < wrN T.2.1 := hi
      unfold wrN at hi'
      unfold wrW
      by_cases e2 : i = 0
      · rw [if_pos e2]
        have b1 := (wd.2.2.1 h hh).1
        have b2 := wL.h hh
        omega
      · rw [if_neg e2]
        exact w5.2 (i - 1) (by have := w5.1; split at hi' <;> omega) h hh
    · show duM L (phM L T.1) (rnB L (T.1 0 0)) 0 1 < _; rw [duM_01]; have := wL.2.2.2.1; omega
    · show duM L (phM L T.1) (rnB L (T.1 0 0)) 0 0 ≤ _; rw [duM_00, phM_00]; omega
    · show duM L (phM L T.1) (rnB L (T.1 0 0)) 2 h ≤ 9 * duM L (phM L T.1) (rnB L (T.1 0 0)) 0 0
      have b0 := duM_2 L (phM L T.1) (rnB L (T.1 0 0)) h
      have b1 := (wp.2.2.1 h hh).1
      have b2 := wL.h hh
      have b3 := w8 h hh
      rw [duM_00, phM_00]
      rw [phM_2] at b0
      omega
/-- the object's hour, behind its remembering -/
theorem c_step (X : Cm I G a 22 L T.1) (hE : REc I 22 L T.2.1 T.2.2) (w : WT L T) (hd : T.1 0 0 < 99) (k : ∀ I', (∀ x, ¬ (22 ≤ x ∧ x < 28) → I' x = I x) → RTc I' 22 L (hoT L T) → Φ (some (.int (nI (hpM L T.1 (L 0 0)).2))) 136 I' G J) : Ev (d + 4) mX2_passHour 136 0 [some (.ref 22), some (.ref a), none, none, none, none] [] 136 I G J (fun r n I3 G3 J3 => ∃ v3 : Int32, r = some (.int v3) ∧ n = 136 ∧ G = G3 ∧ J = J3 ∧ (((I3 22 1) < (I3 a 11) → Φ (some (.int v3)) 136 I3 G J) ∧ (¬ (I3 22 1) < (I3 a 11) → Ev (d + 4) mX1_rainsOn 136 0 [some (.ref a), some (.int (I3 22 0))] [] 136 I3 G J (fun r n I5 G5 J5 => ∃ v5 : Int32, r = some (.int v5) ∧ n = 136 ∧ I3 = I5 ∧ G = G5 ∧ J = J5 ∧ (Ev (d + 4) mX2_fallDusk 136 0 [some (.ref 22), some (.ref a), some (.int v5), none, none] [] 136 I3 G J (fun r n I6 G6 J6 => r = none ∧ n = 136 ∧ G = G6 ∧ J = J6 ∧ (Ev (d + 4) mX2_writeDown 136 0 [some (.ref 22), some (.ref a), none, none] [] 136 I6 G J (fun r n I7 G7 J7 => r = none ∧ n = 136 ∧ G = G7 ∧ J = J7 ∧ (Φ (some (.int v3)) 136 I7 G J))))))))) := by
  have wL := X.2.2.2.2.2.1
  have b3 := wL.2.2.2.1
  have hw6 := w.2.2.1
  refine s_passHour X hw6 (fun I3 f3 X3 => ⟨_, rfl, rfl, rfl, rfl, ?_⟩)
  have e1 : I3 22 1 = nI (T.1 0 1 + 1) := by rw [X3.2.2.2.2.1.1.2, phM_01]
  have e2 : I3 a 11 = nI (L 0 3) := X3.2.2.2.1.1.2.2.2.1
  have e0 : I3 22 0 = nI (T.1 0 0) := by rw [X3.2.2.2.2.1.1.1, phM_00]
  have E3 : REc I3 22 L T.2.1 T.2.2 := ⟨f3.2.trans hE.1, fun i hi => by rw [f3.1 (22 + 5) (by omega)]; exact hE.2 i hi⟩
  rw [e1, e2, e0, nI_ltI (by omega) (by omega)]
  refine ⟨fun z => k I3 (fun x hx => f3.1 x (by omega)) ?_, fun z => ?_⟩
  · unfold hoT
    rw [if_pos z]
    exact ⟨X3.2.2.2.2.1, E3⟩
  · refine s_rainsOn X3.l (by omega) ⟨_, rfl, rfl, rfl, rfl, rfl, ?_⟩
    refine s_fallDusk X3 _ (fun h hh => by rw [phM_2]; have := w.2.2.2.2 h hh; omega) (by rw [phM_00]; omega) (fun I6 f6 X6 => ⟨rfl, rfl, rfl, rfl, ?_⟩)
    have E6 : REc I6 22 L T.2.1 T.2.2 := ⟨f6.2.trans E3.1, fun i hi => by rw [f6.1 (22 + 5) (by omega)]; exact E3.2 i hi⟩
    refine s_writeDown X6 E6 w.2.1 (fun I7 f7 X7 E7 => ⟨rfl, rfl, rfl, rfl, k I7 (fun x hx => ?_) ?_⟩)
    · rw [f7 x (by omega), f6.1 x (by omega), f3.1 x (by omega)]
    · unfold hoT
      rw [if_neg z]
      exact ⟨X7.2.2.2.2.1, E7⟩
end HOUR
