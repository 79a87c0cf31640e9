/-! ===== how many men ===== -/
def bcN (s : Nat) : Nat := sumN (fun k => s / 2 ^ k % 2) 8
section BITS
variable {d : Nat} {I : MI} {G : MG} {J : MJ} {Φ : Ph}
theorem s_bitCount (hG : WG G) {s : Nat} (hs : s < 8) (k : Φ (some (.int (nI (bcN s)))) 136 I G J) : Ev d mJ6_bitCount_0f7a4 136 0 [some (.int (nI s))] [] 136 I G J Φ := by
  refine w_J6_bitCount_0f7a4 hG _ (via ?_ k)
  clear k
  revert s
  decide +kernel
theorem m_ones (hG : WG G) {s : Nat} (hs : s < 8) (k : Φ (some (.int (nI (bcN s)))) 136 I G J) : Ev d mX5_ones 136 0 [some (.int (nI s)), none, none] [] 136 I G J Φ := by
  refine w_X5_ones hG _ ?_
  refine down_ind (E := fun i => Ev d mX5_ones 136 4 [some (.int (nI s)), some (.int (nI (sumN (fun k => s / 2 ^ k % 2) i))), some (.int (nI i))] [] 136 I G J Φ) 8 ?_ ?_ 0 (Nat.zero_le _)
  · exact w_X5_ones_4 hG _ _ _ ⟨fun _ => k, fun q => absurd (nI_le (a := 8) (b := 8) (by omega) (by omega)) q⟩
  · intro i hi ih
    have b2 := Nat.div_le_self s (2 ^ i)
    refine w_X5_ones_4 hG _ _ _ ⟨fun q => absurd q (nI_ge (a := i) (b := 8) hi (by omega)), fun _ => ?_⟩
    rw [nshr (a := s) (i := i) (by omega) (by omega), nand1 (by omega), nI_add, show nI i + (1 : Int32) = nI (i + 1) from nI_1 _]
    exact ih
end BITS
