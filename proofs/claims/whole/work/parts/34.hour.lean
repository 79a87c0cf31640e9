/-! ===== hour, the reference's, and both ===== -/
section HOUS
variable {d : Nat} {I : MI} {G : MG} {J : MJ} {Φ : Ph} {a : Nat} {L : Ld} {M : Mo} {T : Tm}
/-- evenings behind a dusk -/
theorem EvD.re {I' : MI} {x n : Nat} {W : Nat → Nat → Nat} {D : Mo} (wL : WLd L) (h : EvD x I I') (hE : REm I x L n W) (wE : WEv L n W) (hD : RMm I' x L D) : REm I' x L (wrN n) (wrW D W) := by
  obtain ⟨e1, e2, e3⟩ := h
  have b0 := wE.1
  refine ⟨?_, fun i hi j hj => ?_⟩
  · rw [e3, hE.1]
    unfold wrN
    by_cases e : n < 20
    · rw [if_neg (show ¬ (20 : Int32) ≤ nI n from nI_ge (a := n) (b := 20) e (by omega)), if_pos e]; exact nI_1 n
    · rw [if_pos (show (20 : Int32) ≤ nI n from nI_le (a := 20) (b := n) (by omega) (by omega)), if_neg e]; exact Int32.add_zero _
  · have b := wL.h hj
    unfold wrN at hi
    unfold wrW
    by_cases e : i = 0
    · subst e
      rw [if_pos rfl, show x + 20 + 4 * 0 + j = x + 20 + j by omega, e1 j b.1]
      exact (hD.2.1 j hj).1
    · rw [if_neg e]
      have hi1 : i - 1 < n := by split at hi <;> omega
      rw [e2 _ (by omega) (by split at hi <;> omega), show x + 20 + 4 * i + j - 4 = x + 20 + 4 * (i - 1) + j by omega]
      exact hE.2 (i - 1) hi1 j hj
theorem m_step (X : Mm I G 0 L T.1) (hE : REm I 0 L T.2.1 T.2.2) (w : WT L T) (hd : T.1 0 0 < 99) (k : ∀ I', FrD 0 I I' → RTm I' 0 L (hoT L T) → Φ (some (.int (nI (hpM L T.1 (L 0 0)).2))) 136 I' G J) : Ev (d + 2) mX5_push 136 0 [some (.ref 122), some (.int (0 : Int32)), none, none, none, none] [] 136 I G J (fun r n I3 G3 J3 => ∃ v3 : Int32, r = some (.int v3) ∧ n = 136 ∧ G = G3 ∧ J = J3 ∧ ((¬ ((I3 123 15) + (1 : Int32)) = (I3 122 13) → Φ (some (.int v3)) 136 (u2 I3 123 15 ((I3 123 15) + (1 : Int32))) G J) ∧ (((I3 123 15) + (1 : Int32)) = (I3 122 13) → Ev (d + 2) mX5_rainsOn 136 0 [some (.ref 122), some (.int (I3 123 14))] [] 136 (u2 I3 123 15 ((I3 123 15) + (1 : Int32))) G J (fun r n I5 G5 J5 => ∃ v5 : Int32, r = some (.int v5) ∧ n = 136 ∧ (u2 I3 123 15 ((I3 123 15) + (1 : Int32))) = I5 ∧ G = G5 ∧ J = J5 ∧ (Ev (d + 2) mX5_dusk 136 0 [some (.ref 122), some (.int (0 : Int32)), some (.int v5), none, none] [] 136 (u2 I3 123 15 ((I3 123 15) + (1 : Int32))) G J (fun r n I6 G6 J6 => r = none ∧ n = 136 ∧ G = G6 ∧ J = J6 ∧ (Φ (some (.int v3)) 136 I6 G J))))))) := by
  have wL := X.2.2.2.1
  have b3 := wL.2.2.2.1
  have hw6 := w.2.2.1
  have wp := phM_w wL w.1 hw6
  refine m_push (x := 0) X (fun I3 f3 X3 => ⟨_, rfl, rfl, rfl, rfl, ?_⟩)
  have t0 : ∀ j, trM L T.1 (hpM L T.1 (L 0 0)).1 (L 0 2) 0 j = T.1 0 j := fun j => by
    unfold trM; rw [if_neg (by omega), hpM_t L T.1 0 (by omega)]
  have e15 : I3 123 15 = nI (T.1 0 1) := by have := X3.2.2.1.1.2; rw [t0] at this; exact this
  have e14 : I3 123 14 = nI (T.1 0 0) := by have := X3.2.2.1.1.1; rw [t0] at this; exact this
  have e13 : I3 122 13 = nI (L 0 3) := X3.2.1.1.2.2.2.1
  have e15' : I3 123 15 + (1 : Int32) = nI (T.1 0 1 + 1) := by rw [e15]; exact nI_1 _
  rw [e15', e14, e13, nI_eq (by omega) (by omega)]
  have R4 : RMm (u2 I3 123 15 (nI (T.1 0 1 + 1))) 0 L (phM L T.1) := X3.2.2.1.hour wL (T.1 0 1 + 1)
  have X4 : Mm (u2 I3 123 15 (nI (T.1 0 1 + 1))) G 0 L (phM L T.1) := X3.fr (fun y hy => u2_row _ _ _ hy) R4 wp
  have E4 : REm (u2 I3 123 15 (nI (T.1 0 1 + 1))) 0 L T.2.1 T.2.2 := by
    refine ⟨?_, fun i hi j hj => ?_⟩
    · rw [u2_ne _ _ (by omega), f3.2 _ (by omega)]; exact hE.1
    · rw [u2_ne _ _ (by omega), f3.2 _ (by omega)]; exact hE.2 i hi j hj
  have F4 : FrD 0 I (u2 I3 123 15 (nI (T.1 0 1 + 1))) := (f3.u2 (by omega)).d
  refine ⟨fun z => k _ F4 ?_, fun z => ?_⟩
  · unfold hoT
    rw [if_pos (by omega)]
    exact ⟨R4, E4⟩
  · refine m_rainsOn X4.l (by omega) ⟨_, rfl, rfl, rfl, rfl, rfl, ?_⟩
    refine m_dusk (x := 0) X4 _ (fun h hh => by rw [phM_2]; have := w.2.2.2.2 h hh; omega) (by rw [phM_00]; omega) (fun I6 f6 g6 X6 => ⟨rfl, rfl, rfl, rfl, k I6 (F4.tr f6) ?_⟩)
    unfold hoT
    rw [if_neg (by omega)]
    exact ⟨X6.2.2.1, g6.re wL E4 w.2.1 X6.2.2.1⟩
theorem p_hour (S : SR I G J a L T) : Ev (d + 5) mX4_hour 136 0 [some (.ref 0), none] [] 136 I G J (P2 I G (d + 3) mX5_hour [some (.ref 122), none]) := by
  have wL := S.w
  have wT := S.2.1.1
  have e0 : I 22 0 = nI (T.1 0 0) := S.2.1.2.1.1.1.1
  have m0 : I 123 14 = nI (T.1 0 0) := S.2.1.2.2.1.1.1
  refine w_X4_hour S.1.1 S.1.2.1 S.1.2.2.1 ?_
  rw [e0, show (99 : Int32) = nI 99 from rfl, nI_ltI (by have := wT.2.2.2.1; omega) (by omega)]
  refine ⟨fun hd => ?_, fun z => S.same (w_X5_hour S.1.1 ?_)⟩
  · obtain ⟨np, P, hBC, hBM, hw⟩ := S.2.2.1.two
    refine s_remember wL S.1.1 wT S.2.1.2.1 hBC (fun I1 G1 g f f0 B1 => ?_)
    have hG1 := S.1.1.up34 g
    have hla := isL_or S.1.2.1
    have X1 : Cm I1 G1 a 22 L T.1 := ⟨hG1, isM_22_, S.1.2.1, S.1.2.2.2.2.1.congr (fun x q1 q2 => f x (by omega)), S.2.1.2.1.1.congr (fun x q1 q2 => f x (by omega)), wL, wT.1⟩
    have E1 : REc I1 22 L T.2.1 T.2.2 := (S.2.1.2.1.cg (fun x q1 q2 => f x (by omega))).2
    refine ⟨rfl, rfl, rfl, hG1, ⟨by rw [g 0 (by omega)], by rw [g 0 (by omega)]⟩, ?_⟩
    refine c_step X1 E1 wT hd (fun I2 f2 R2 => ⟨rfl, ⟨_, rfl⟩, ?_⟩)
    have i2 : ∀ y, 122 ≤ y → I2 y = I y := fun y hy => by rw [f2 y (by omega), f y (by omega)]
    refine w_X5_hour hG1 ?_
    rw [i2 123 (by omega), m0, show (99 : Int32) = nI 99 from rfl, nI_eq (by omega) (by omega)]
    refine ⟨fun _ => ?_, fun z => absurd z (by omega)⟩
    have TM2 : RTm I2 0 L T := S.2.1.2.2.cg wL wT (fun k _ _ => by rw [i2 123 (by omega)])
    refine m_remember wL hG1 wT TM2 hBC.1 hw (hBM.cg wL hBC.1 hw (by rw [i2 122 (by omega)]) (fun k _ _ => by rw [i2 123 (by omega)])) (fun I3 h1 h2 h3 B2 => ⟨rfl, rfl, rfl, rfl, ?_⟩)
    have X3l : RLm I3 L := by
      have := S.1.2.2.2.2.2.1
      unfold RLm at this ⊢
      rw [h2 10 (by omega), h2 11 (by omega), h2 12 (by omega), h2 13 (by omega), h2 14 (by omega), h1 125 (by omega), h1 126 (by omega), h1 127 (by omega), h1 128 (by omega), h1 129 (by omega), h1 130 (by omega), h1 131 (by omega), h1 132 (by omega), i2 122 (by omega), i2 125 (by omega), i2 126 (by omega), i2 127 (by omega), i2 128 (by omega), i2 129 (by omega), i2 130 (by omega), i2 131 (by omega), i2 132 (by omega)]
      exact this
    have TM3 : RTm I3 0 L T := TM2.cg wL wT (fun k q1 q2 => h3 k (by omega))
    have X3 : Mm I3 G1 0 L T.1 := ⟨hG1, X3l, TM3.1, wL, wT.1, by omega⟩
    refine m_step X3 TM3.2 wT hd (fun I4 f4 R4 => ⟨rfl, rfl, ?_⟩)
    have hr : ∀ y, ¬ (y = 0 ∨ (22 ≤ y ∧ y < 28) ∨ (50 ≤ y ∧ y < 110) ∨ y = 122 ∨ y = 123) → I4 y = I y := fun y hy => by
      rw [f4.1 y (by omega), h1 y (by omega), f2 y (by omega), f y (by omega)]
    have hr0 : ∀ k, k ≠ 8 → I4 0 k = I 0 k := fun k hk => by
      rw [f4.1 0 (by omega), h1 0 (by omega), f2 0 (by omega), f0 k hk]
    have hr122 : ∀ k, k ≠ 28 → I4 122 k = I 122 k := fun k hk => by
      rw [f4.1 122 (by omega), h2 k hk, i2 122 (by omega)]
    have hr123 : ∀ k, 100 ≤ k → k < 400 → I4 123 k = I 123 k := fun k hk hk2 => by
      rw [f4.2 k (by omega), h3 k hk2, i2 123 (by omega)]
    refine S.up2 (T' := hoT L T) g (fun y hy => hr y (by omega)) ⟨hr0 1 (by omega), hr0 13 (by omega)⟩ hr122 ⟨hoT_w wL wT hd, R2.cg (fun y q1 q2 => by rw [f4.1 y (by omega), h1 y (by omega)]), R4⟩ ?_ (S.2.2.2.1.cg wL (hr 36 (by omega)) (hr 124 (by omega)) (fun y q1 q2 => hr y (by omega)) (fun k q1 q2 => hr123 k (by omega) (by omega)))
    refine SB.of (np := rmN np) (P := rmP np P T) (B1.cg rfl ?_ (fun y q1 q2 => ?_)) (B2.cg wL B1.1 (rmP_w hBC.1 hw wT) ?_ (fun k q1 q2 => ?_)) (rmP_w hBC.1 hw wT)
    · rw [f4.1 0 (by omega), h1 0 (by omega), f2 0 (by omega)]
    · rw [f4.1 y (by omega), h1 y (by omega), f2 y (by omega)]
    · rw [f4.1 122 (by omega)]
    · rw [f4.2 k (by omega)]
  · have := wT.2.2.2.1
    rw [m0, show (99 : Int32) = nI 99 from rfl, nI_eq (by omega) (by omega)]
    exact ⟨fun y => absurd (by omega) y, fun _ => ⟨rfl, rfl, rfl, rfl, rfl⟩⟩
end HOUS
