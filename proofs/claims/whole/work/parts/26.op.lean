/-! ===== blocks, written, saw, type ===== -/
section OPA
variable {d : Nat} {I : MI} {G : MG} {J : MJ} {Φ : Ph} {a : Nat} {L : Ld} {T : Tm}
def oBlocks (L : Ld) (T : Tm) (x : Int32) : Int32 := if 0 ≤ x ∧ x < nI (L 0 0) then (if ovr L T.1 x.toNatClampNeg then 0 else nI (bkN L T.1 x.toNatClampNeg (T.1 1 x.toNatClampNeg + 1))) else -1
theorem p_blocks (S : SR I G J a L T) (x : Int32) : Ev (d + 2) mX4_blocks 136 0 [some (.ref 0), some (.int x)] [] 136 I G J (P2 I G (d + 2) mX5_blocks [some (.ref 122), some (.int x)]) := by
  have wL := S.w
  have k : P2 I G (d + 2) mX5_blocks [some (.ref 122), some (.int x)] (some (.int (oBlocks L T x))) 136 I G J := by
    refine S.same (w_X5_blocks S.1.1 x (m_isHill S.ml x ⟨_, rfl, rfl, rfl, rfl, rfl, ?_⟩))
    rw [if01]
    refine ⟨fun p => ?_, fun p => ⟨?_, rfl, rfl, rfl, rfl⟩⟩
    · have hx := Decidable.not_not.mp p
      obtain ⟨h, hh, e⟩ := hill_of (by have := wL.1; omega) hx
      have b := wL.h hh
      have hr := S.2.1.2.2.1.2.1 h hh
      have hb := (S.2.1.1.1.2.2.1 h hh).1
      simp only [Nat.zero_add] at hr
      subst e
      refine m_isOver S.mm hh ⟨_, rfl, rfl, rfl, rfl, rfl, ?_⟩
      rw [if01]
      refine ⟨fun z => ⟨vp_in_nI (by omega) (by decide), ?_⟩, fun z => ⟨?_, rfl, rfl, rfl, rfl⟩⟩
      · rw [nI_clamp (n := h) (by omega), hr.1, show nI (T.1 1 h) + (1 : Int32) = nI (T.1 1 h + 1) from nI_1 _]
        refine m_blocksIn S.mm hh (by omega) ⟨_, rfl, rfl, rfl, rfl, rfl, ?_, rfl, rfl, rfl, rfl⟩
        refine congrArg (fun v => some (Value.int v)) (Eq.symm ?_); unfold oBlocks; rw [if_pos hx, nI_clamp (n := h) (by omega), if_neg z]
      · refine congrArg (fun v => some (Value.int v)) (Eq.symm ?_); unfold oBlocks; rw [if_pos hx, nI_clamp (n := h) (by omega), if_pos (Decidable.not_not.mp z)]
    · refine congrArg (fun v => some (Value.int v)) (Eq.symm ?_); unfold oBlocks; rw [if_neg p]
  refine w_X4_blocks S.1.1 S.1.2.1 S.1.2.2.1 x (s_hasHill S.cl x ⟨_, rfl, rfl, rfl, rfl, rfl, ?_⟩)
  rw [if01]
  refine ⟨fun p => ?_, fun p => via ?_ k⟩
  · have hx := Decidable.not_not.mp p
    obtain ⟨h, hh, e⟩ := hill_of (by have := wL.1; omega) hx
    have b := wL.h hh
    have hr := S.2.1.2.1.1.2.1 h hh
    have hb := (S.2.1.1.1.2.2.1 h hh).1
    subst e
    refine s_isOver S.cm hh ⟨_, rfl, rfl, rfl, rfl, rfl, ?_⟩
    rw [if01]
    refine ⟨fun z => ⟨vp_in_nI (by omega) (by decide), ?_⟩, fun z => via ?_ k⟩
    · rw [nI_clamp (n := h) (by omega), hr.1, show nI (T.1 1 h) + (1 : Int32) = nI (T.1 1 h + 1) from nI_1 _]
      refine s_blockersAt S.cm hh (by omega) ⟨_, rfl, rfl, rfl, rfl, rfl, via ?_ k⟩
      unfold oBlocks; rw [if_pos hx, nI_clamp (n := h) (by omega), if_neg z]
    · unfold oBlocks; rw [if_pos hx, nI_clamp (n := h) (by omega), if_pos (Decidable.not_not.mp z)]
  · unfold oBlocks; rw [if_neg p]
def oWritten (L : Ld) (T : Tm) (x1 x2 : Int32) : Int32 := if (0 ≤ x1 ∧ x1 < nI T.2.1) ∧ (0 ≤ x2 ∧ x2 < nI (L 0 0)) then nI (T.2.2 x1.toNatClampNeg x2.toNatClampNeg) else -1
theorem p_written (S : SR I G J a L T) (x1 x2 : Int32) : Ev (d + 1) mX4_written 136 0 [some (.ref 0), some (.int x1), some (.int x2)] [] 136 I G J (P2 I G (d + 2) mX5_written [some (.ref 122), some (.int x1), some (.int x2)]) := by
  have wL := S.w
  have wE := S.2.1.1.2.1
  have k : P2 I G (d + 2) mX5_written [some (.ref 122), some (.int x1), some (.int x2)] (some (.int (oWritten L T x1 x2))) 136 I G J := by
    refine S.same (w_X5_written S.1.1 x1 x2 (m_isHill S.ml x2 ⟨_, rfl, rfl, rfl, rfl, rfl, ?_⟩))
    rw [if01]
    refine ⟨fun p => ⟨?_, rfl, rfl, rfl, rfl⟩, fun p => m_in S.1.1 _ _ _ ⟨_, rfl, rfl, rfl, rfl, rfl, ?_⟩⟩
    · refine congrArg (fun v => some (Value.int v)) (Eq.symm ?_); unfold oWritten; rw [if_neg (fun z => p z.2)]
    · rw [if01, show I 123 16 = nI T.2.1 from S.2.1.2.2.2.1, hill_in (by have := wE.1; omega)]
      refine ⟨fun z => ⟨?_, rfl, rfl, rfl, rfl⟩, fun z => ?_⟩
      · refine congrArg (fun v => some (Value.int v)) (Eq.symm ?_); unfold oWritten; rw [if_neg (fun y => z y.1)]
      · have hx := Decidable.not_not.mp p
        have hz := Decidable.not_not.mp z
        obtain ⟨h, hh, e⟩ := hill_of (by have := wL.1; omega) hx
        obtain ⟨i, hi, e2⟩ := hill_of (by have := wE.1; omega) hz
        have b := wL.h hh
        have b2 := wE.1
        subst e e2
        have ei : ((20 : Int32) + ((4 : Int32) * nI i)) + nI h = nI (20 + 4 * i + h) := by
          rw [show (20 : Int32) = nI 20 from rfl, show (4 : Int32) = nI 4 from rfl, pk_mul, nI_add, nI_add]
        rw [ei]
        refine ⟨vp_in_nI (by omega) (by decide), ?_, rfl, rfl, rfl, rfl⟩
        refine congrArg (fun v => some (Value.int v)) (Eq.symm ?_); unfold oWritten; rw [if_pos ⟨hz, hx⟩, nI_clamp (n := h) (by omega), nI_clamp (n := i) (by omega), nI_clamp (n := 20 + 4 * i + h) (by omega)]
        have := S.2.1.2.2.2.2 i hi h hh
        rw [Nat.zero_add] at this
        exact this.symm
  refine w_X4_written S.1.1 S.1.2.1 S.1.2.2.1 x1 x2 ⟨fun q0 => via ?_ k, fun q0 => ⟨fun q1 => via ?_ k, fun q1 => s_hasHill S.cl x2 ⟨_, rfl, rfl, rfl, rfl, rfl, ?_⟩⟩⟩
  · unfold oWritten; rw [if_neg (fun z => Int32.not_lt.mpr z.1.1 q0)]
  · rw [S.2.1.2.1.2.1] at q1
    unfold oWritten; rw [if_neg (fun z => Int32.not_lt.mpr q1 z.1.2)]
  · rw [if01]
    rw [S.2.1.2.1.2.1] at q1
    refine ⟨fun p => ?_, fun p => via ?_ k⟩
    · have hx := Decidable.not_not.mp p
      have hz : 0 ≤ x1 ∧ x1 < nI T.2.1 := ⟨Int32.not_lt.mp q0, Int32.not_le.mp q1⟩
      obtain ⟨h, hh, e⟩ := hill_of (by have := wL.1; omega) hx
      obtain ⟨i, hi, e2⟩ := hill_of (by have := wE.1; omega) hz
      have b := wL.h hh
      have b2 := wE.1
      have hw16 : ∀ h, h < L 0 0 → T.2.2 i h < 16 := fun h hh => by have := wE.2 i hi h hh; omega
      have hlt := pkN_lt hw16
      have h4 : 16 ^ L 0 0 ≤ 16 ^ 4 := Nat.pow_le_pow_right (by omega) wL.1
      subst e e2
      refine s_writtenStep S.1.1 isM_22_ (w := pkN (T.2.2 i) (L 0 0)) (by omega) (by omega) (S.2.1.2.1.2.2 i hi) (by omega) ⟨_, rfl, rfl, rfl, rfl, rfl, via ?_ k⟩
      unfold oWritten; rw [if_pos ⟨hz, hx⟩, nI_clamp (n := h) (by omega), nI_clamp (n := i) (by omega), pkN_get hw16 hh]
    · unfold oWritten; rw [if_neg (fun z => p z.2)]
end OPA
