/-! ===== reading: the reference's items ===== -/
def rnP (I : MI) (L : Ld) : Prop := (I 122 15 = nI (L 0 0) ∧ I 122 16 = nI (L 0 1) ∧ I 122 17 = nI (L 0 2) ∧ I 122 18 = nI (L 0 3) ∧ I 122 19 = nI (L 0 4) ∧ I 122 20 = nI (L 0 5 + 2 * L 0 6)) ∧ (∀ h, h < L 0 0 → I 125 (4 + h) = nI (L 1 h) ∧ I 126 (4 + h) = nI (L 2 h) ∧ I 127 (4 + h) = nI (L 3 h) ∧ I 128 (4 + h) = nI (L 4 h)) ∧ (∀ j, j < L 0 1 → I 129 (4 + j) = nI (L 5 j) ∧ I 130 (4 + j) = nI (L 6 j) ∧ I 131 (4 + j) = nI (L 7 j)) ∧ (∀ m, m < L 0 2 → I 132 (3 + m) = nI (L 8 m))
/-- what reading may touch -/
def nfP (I I' : MI) : Prop := (∀ x, x ≠ 122 → ¬ (125 ≤ x ∧ x < 133) → I' x = I x) ∧ (∀ f, ¬ (15 ≤ f ∧ f ≤ 20) → ¬ (23 ≤ f ∧ f ≤ 27) → I' 122 f = I 122 f) ∧ (∀ x j, 125 ≤ x → x < 132 → j < 4 → I' x j = I x j) ∧ (∀ j, j < 3 → I' 132 j = I 132 j)
theorem nfP.rf {I : MI} : nfP I I := ⟨fun _ _ _ => rfl, fun _ _ _ => rfl, fun _ _ _ _ _ => rfl, fun _ _ => rfl⟩
theorem nfP.tr {I I' I'' : MI} (h : nfP I I') (g : nfP I' I'') : nfP I I'' := ⟨fun x q1 q2 => (g.1 x q1 q2).trans (h.1 x q1 q2), fun f q1 q2 => (g.2.1 f q1 q2).trans (h.2.1 f q1 q2), fun x j q1 q2 q3 => (g.2.2.1 x j q1 q2 q3).trans (h.2.2.1 x j q1 q2 q3), fun j q => (g.2.2.2 j q).trans (h.2.2.2 j q)⟩
theorem tnF.nf {I I' : MI} (h : tnF I I') : nfP I I' := ⟨fun x q1 _ => h.1 x q1, fun f _ q2 => h.2 f q2, fun x j q1 q2 _ => by rw [h.1 x (by omega)], fun j _ => by rw [h.1 132 (by omega)]⟩
theorem nkP.nf {I I' : MI} {c : Nat → Nat} {nt i : Nat} (h : nkP I I' c nt i) : nfP I I' := ⟨fun x q1 _ => h.1 x q1, fun f _ q2 => h.2.1 f (by omega), fun x j q1 q2 _ => by rw [h.1 x (by omega)], fun j _ => by rw [h.1 132 (by omega)]⟩
/-- within an item whose numbers go to place n0 of rows b to e -/
def itF (b e n0 : Nat) (I I' : MI) : Prop := (∀ x, x ≠ 122 → ¬ (b ≤ x ∧ x < e) → I' x = I x) ∧ (∀ f, ¬ (23 ≤ f ∧ f ≤ 27) → I' 122 f = I 122 f) ∧ (∀ x q, b ≤ x → x < e → q ≠ n0 → I' x q = I x q)
def flP (I : MI) (R : Bool × Nat × (Nat → Nat)) : Prop := ∃ p, p ≤ 200 ∧ I 122 27 = nI p ∧ R.1 = false ∧ R.2.1 = p
def okP (c : Nat → Nat) (nt : Nat) (L : Ld) (k : Nat) (I : MI) (n0 b j : Nat) (R : Bool × Nat × (Nat → Nat)) : Prop := ∃ (i : Nat) (g : Nat → Nat), I 122 27 = (-1 : Int32) ∧ I 122 23 = nI i ∧ i ≤ nt ∧ rdN c nt L k (cntN k - j) j i g = R ∧ ∀ idx, idx < j → I (b + idx) n0 = nI (g idx) ∧ g idx ≤ 511
section RMI
variable {d : Nat} {I : MI} {G : MG} {J : MJ} {Φ : Ph} {c : Nat → Nat} {nt : Nat} {L : Ld} {k : Nat}
theorem itF.tn {b e n0 : Nat} {I I' I'' : MI} (hb : 125 ≤ b) (h : itF b e n0 I I') (g : tnF I' I'') : itF b e n0 I I'' := ⟨fun x q1 q2 => by rw [g.1 x q1, h.1 x q1 q2], fun f q => by rw [g.2 f q, h.2.1 f q], fun x q q1 q2 q3 => by rw [g.1 x (by omega), h.2.2 x q q1 q2 q3]⟩
theorem itF.u {b e n0 x : Nat} {v : Int32} {I I' : MI} (hb : 125 ≤ b) (h : itF b e n0 I I') (hx : b ≤ x ∧ x < e) : itF b e n0 I (u2 I' x n0 v) := ⟨fun y q1 q2 => by rw [u2_row _ _ _ (by omega), h.1 y q1 q2], fun f q => by rw [u2_row _ _ _ (by omega), h.2.1 f q], fun y q q1 q2 q3 => by rw [u2_ne _ _ (by omega), h.2.2 y q q1 q2 q3]⟩
/-- one number more -/
theorem m_st (hG : WG G) (tx : txP I 133 c nt) (h2 : I 122 22 = nI nt) {n0 b e j : Nat} {R : Bool × Nat × (Nat → Nat)} {I1 : MI} (hj : j < cntN k) (hb : 125 ≤ b ∧ b + j < e ∧ e ≤ 132) (f1 : itF b e n0 I I1) (st : okP c nt L k I1 n0 b j R ∨ flP I1 R) {x1 x2 : Int32} (hP : ∀ n v, v ≤ 511 → (ckB L k j n v = true ↔ (x1 ≤ nI v ∧ nI v ≤ x2))) (kk : ∀ (I2 : MI) (v : Int32), itF b e n0 I (u2 I2 (b + j) n0 v) → (∀ f, ¬ (23 ≤ f ∧ f ≤ 27) → I2 122 f = I 122 f) → (okP c nt L k (u2 I2 (b + j) n0 v) n0 b (j + 1) R ∨ flP (u2 I2 (b + j) n0 v) R) → Φ (some (.int v)) 136 I2 G J) : Ev (d + 3) mX5_takeNumber 136 0 [some (.ref 122), some (.int x1), some (.int x2)] [] 136 I1 G J Φ := by
  have n2 := tx.1
  rcases st with ⟨i, g, s7, s3, hi, hrd, hg⟩ | ⟨p, hp, s7, r1, r2⟩
  · have b2 := tkN_b hi tx.c
    rw [show cntN k - j = cntN k - (j + 1) + 1 by omega, rdN] at hrd
    refine m_tnR (P := fun v => ckB L k j (g 0) v = true) hG (tx.cg (f1.1 133 (by omega) (by omega))) (by rw [f1.2.1 22 (by omega)]; exact h2) hi s3 s7 (fun v hv => hP (g 0) v hv) (fun I2 q1 q2 q3 q4 q5 q6 q7 => ?_) (fun I2 q1 q2 q3 => ?_)
    · rw [if_pos ⟨q5, q7⟩] at hrd
      refine kk I2 _ (itF.u hb.1 (itF.tn hb.1 f1 q1) (by omega)) (fun f hf => by rw [q1.2 f hf, f1.2.1 f hf]) (Or.inl ⟨_, _, by rw [u2_row _ _ _ (by omega)]; exact q2, by rw [u2_row _ _ _ (by omega)]; exact q3, b2.2.2.2.1, hrd, fun idx hidx => ?_⟩)
      by_cases e : idx = j
      · rw [e, u2_at, if_pos rfl]; exact ⟨rfl, q6⟩
      · rw [u2_row _ _ _ (by omega), q1.1 _ (by omega), if_neg e]; exact hg idx (by omega)
    · rw [if_neg q3] at hrd
      refine kk I2 _ (itF.u hb.1 (itF.tn hb.1 f1 q1) (by omega)) (fun f hf => by rw [q1.2 f hf, f1.2.1 f hf]) (Or.inr ⟨(tkN c nt i).2.1, by have := b2.2.1; omega, by rw [u2_row _ _ _ (by omega)]; exact q2, by rw [← hrd], by rw [← hrd]⟩)
  · refine m_tnF hG (by omega) s7 _ _ ?_
    exact kk I1 _ (itF.u hb.1 f1 (by omega)) (fun f hf => f1.2.1 f hf) (Or.inr ⟨p, hp, by rw [u2_row _ _ _ (by omega)]; exact s7, r1, r2⟩)
theorem lo_hi {lo hi v : Nat} (h1 : lo ≤ 511) (h2 : hi ≤ 511) (h3 : v ≤ 511) : (nI lo ≤ nI v ∧ nI v ≤ nI hi) ↔ (lo ≤ v ∧ v ≤ hi) := by rw [nI_leI (by omega) (by omega), nI_leI (by omega) (by omega)]
theorem lo_pr {n v : Nat} (h2 : n ≤ 511) (h3 : v ≤ 511) : ((0 : Int32) ≤ nI v ∧ nI v ≤ nI n - 1) ↔ v < n := by
  have e : (nI n - 1).toInt = (n : Int) - 1 := sub_toI (a := n) (b := 1) (by omega) (by omega)
  rw [Int32.le_iff_toInt_le (x := nI v), e, toI_nI (by omega)]
  exact ⟨fun z => by omega, fun z => ⟨nI_pos' (by omega), by omega⟩⟩
theorem m_takeHill (hG : WG G) (tx : txP I 133 c nt) (h2 : I 122 22 = nI nt) {i : Nat} (hi : i ≤ nt) (h3 : I 122 23 = nI i) (h7 : I 122 27 = (-1 : Int32)) (hR : rnP I L) (hc : canB L 104 = true) (kOk : ∀ I', nfP I I' → (rdN c nt L 104 4 0 i (fun _ => 0)).1 = true → I' 122 27 = (-1 : Int32) → I' 122 23 = nI (rdN c nt L 104 4 0 i (fun _ => 0)).2.1 → rnP I' (adL L 104 (rdN c nt L 104 4 0 i (fun _ => 0)).2.2) → Φ none 136 I' G J) (kF : ∀ I', nfP I I' → flP I' (rdN c nt L 104 4 0 i (fun _ => 0)) → Φ none 136 I' G J) : Ev (d + 4) mX5_takeHill 136 0 [some (.ref 122), none] [] 136 I G J Φ := by
  have hl : L 0 0 < 4 := by simpa [canB] using hc
  obtain ⟨⟨r1, r2, r3, r4, r5, r6⟩, rh, rj, rm⟩ := hR
  have e4 : (4 : Int32) + I 122 15 = nI (4 + L 0 0) := by rw [r1]; exact nI_add 4 _
  have v : vp_in (nI (4 + L 0 0)) 8 := vp_in_nI (by omega) (by decide)
  refine w_X5_takeHill hG ?_
  rw [e4, nI_clamp (n := 4 + L 0 0) (by omega)]
  refine m_st (k := 104) (n0 := 4 + L 0 0) (b := 125) (e := 129) (j := 0) (R := rdN c nt L 104 4 0 i (fun _ => 0)) (L := L) hG tx h2 (by decide) (by omega) ⟨fun _ _ _ => rfl, fun _ _ => rfl, fun _ _ _ _ _ => rfl⟩ (Or.inl ⟨i, fun _ => 0, h7, h3, hi, rfl, fun idx hx => absurd hx (by omega)⟩) (fun n w hw => by rw [show (2 : Int32) = nI 2 from rfl, show (9 : Int32) = nI 9 from rfl, lo_hi (by omega) (by omega) hw]; simp [ckB]) (fun I1 v1 f1 u1 s1 => ⟨v1, rfl, rfl, rfl, rfl, v, ?_⟩)
  refine m_st (k := 104) (n0 := 4 + L 0 0) (b := 125) (e := 129) (j := 1) (L := L) hG tx h2 (by decide) (by omega) f1 s1 (fun n w hw => by rw [show (0 : Int32) = nI 0 from rfl, show (5 : Int32) = nI 5 from rfl, lo_hi (by omega) (by omega) hw]; simp [ckB]) (fun I2 v2 f2 u2' s2 => ⟨v2, rfl, rfl, rfl, rfl, v, ?_⟩)
  refine m_st (k := 104) (n0 := 4 + L 0 0) (b := 125) (e := 129) (j := 2) (L := L) hG tx h2 (by decide) (by omega) f2 s2 (fun n w hw => by rw [show (0 : Int32) = nI 0 from rfl, show (511 : Int32) = nI 511 from rfl, lo_hi (by omega) (by omega) hw]; simp [ckB]) (fun I3 v3 f3 u3 s3 => ⟨v3, rfl, rfl, rfl, rfl, v, ?_⟩)
  refine m_st (k := 104) (n0 := 4 + L 0 0) (b := 125) (e := 129) (j := 3) (L := L) hG tx h2 (by decide) (by omega) f3 s3 (fun n w hw => by rw [show (1 : Int32) = nI 1 from rfl, show (9 : Int32) = nI 9 from rfl, lo_hi (by omega) (by omega) hw]; simp [ckB]) (fun I4 v4 f4 u4 s4 => ⟨v4, rfl, rfl, rfl, rfl, v, ?_⟩)
  rw [u4 15 (by omega), r1, show nI (L 0 0) + (1 : Int32) = nI (L 0 0 + 1) from nI_1 _]
  have nf : nfP I (u2 (u2 I4 128 (4 + L 0 0) v4) 122 15 (nI (L 0 0 + 1))) := by
    refine ⟨fun x q1 q2 => by rw [u2_row _ _ _ q1, f4.1 x q1 (by omega)], fun f q1 q2 => by rw [u2_ne _ _ (by omega), f4.2.1 f q2], fun x q q1 q2 q3 => ?_, fun q hq => ?_⟩
    · rw [u2_row _ _ _ (by omega)]
      by_cases e : x < 129
      · exact f4.2.2 x q q1 e (by omega)
      · rw [f4.1 x (by omega) (by omega)]
    · rw [u2_row _ _ _ (by omega), f4.1 132 (by omega) (by omega)]
  rcases s4 with ⟨i', g', s7, s8, s9, s10, s11⟩ | ⟨p, hp, s7, z1, z2⟩
  · rw [show cntN 104 - (3 + 1) = 0 from rfl, rdN] at s10
    rw [← s10] at kOk
    have g0 := (s11 0 (by omega)).1
    have g1 := (s11 1 (by omega)).1
    have g2 := (s11 2 (by omega)).1
    have g3 := (s11 3 (by omega)).1
    refine kOk _ nf rfl (by rw [u2_ne _ _ (by omega)]; exact s7) (by rw [u2_ne _ _ (by omega)]; exact s8) ?_
    have e : adL L 104 g' = u2 (u2 (u2 (u2 (u2 L 1 (L 0 0) (g' 0)) 2 (L 0 0) (g' 1)) 3 (L 0 0) (g' 2)) 4 (L 0 0) (g' 3)) 0 0 (L 0 0 + 1) := rfl
    rw [e]
    have q16 : ∀ f, f ≠ 15 → ¬ (23 ≤ f ∧ f ≤ 27) → (u2 (u2 I4 128 (4 + L 0 0) v4) 122 15 (nI (L 0 0 + 1))) 122 f = I 122 f := fun f q1 q2 => by rw [u2_ne _ _ (by omega), f4.2.1 f q2]
    refine ⟨⟨?_, ?_, ?_, ?_, ?_, ?_⟩, fun h hh => ?_, fun q hq => ?_, fun m hm => ?_⟩
    · rw [u2_at, u2_at]
    · rw [q16 16 (by omega) (by omega), r2]; simp (disch := omega) only [u2_ne]
    · rw [q16 17 (by omega) (by omega), r3]; simp (disch := omega) only [u2_ne]
    · rw [q16 18 (by omega) (by omega), r4]; simp (disch := omega) only [u2_ne]
    · rw [q16 19 (by omega) (by omega), r5]; simp (disch := omega) only [u2_ne]
    · rw [q16 20 (by omega) (by omega), r6]; simp (disch := omega) only [u2_ne]
    · rw [u2_at] at hh
      rw [u2_row _ _ _ (show (125 : Nat) ≠ 122 by omega), u2_row _ _ _ (show (126 : Nat) ≠ 122 by omega), u2_row _ _ _ (show (127 : Nat) ≠ 122 by omega), u2_row _ _ _ (show (128 : Nat) ≠ 122 by omega)]
      by_cases eh : h = L 0 0
      · subst eh
        rw [show u2 (u2 (u2 (u2 (u2 L 1 (L 0 0) (g' 0)) 2 (L 0 0) (g' 1)) 3 (L 0 0) (g' 2)) 4 (L 0 0) (g' 3)) 0 0 (L 0 0 + 1) 1 (L 0 0) = g' 0 by simp (disch := omega) only [u2_ne, u2_at], show u2 (u2 (u2 (u2 (u2 L 1 (L 0 0) (g' 0)) 2 (L 0 0) (g' 1)) 3 (L 0 0) (g' 2)) 4 (L 0 0) (g' 3)) 0 0 (L 0 0 + 1) 2 (L 0 0) = g' 1 by simp (disch := omega) only [u2_ne, u2_at], show u2 (u2 (u2 (u2 (u2 L 1 (L 0 0) (g' 0)) 2 (L 0 0) (g' 1)) 3 (L 0 0) (g' 2)) 4 (L 0 0) (g' 3)) 0 0 (L 0 0 + 1) 3 (L 0 0) = g' 2 by simp (disch := omega) only [u2_ne, u2_at], show u2 (u2 (u2 (u2 (u2 L 1 (L 0 0) (g' 0)) 2 (L 0 0) (g' 1)) 3 (L 0 0) (g' 2)) 4 (L 0 0) (g' 3)) 0 0 (L 0 0 + 1) 4 (L 0 0) = g' 3 by simp (disch := omega) only [u2_ne, u2_at]]
        exact ⟨g0, g1, g2, g3⟩
      · rw [f4.2.2 125 _ (by omega) (by omega) (by omega), f4.2.2 126 _ (by omega) (by omega) (by omega), f4.2.2 127 _ (by omega) (by omega) (by omega), f4.2.2 128 _ (by omega) (by omega) (by omega)]
        have := rh h (by omega)
        simp (disch := omega) only [u2_ne]
        exact this
    · rw [u2_row _ _ _ (show (129 : Nat) ≠ 122 by omega), u2_row _ _ _ (show (130 : Nat) ≠ 122 by omega), u2_row _ _ _ (show (131 : Nat) ≠ 122 by omega)]
      simp (disch := omega) only [u2_ne] at hq
      have := rj q hq
      rw [show u2 (u2 (u2 (u2 (u2 L 1 (L 0 0) (g' 0)) 2 (L 0 0) (g' 1)) 3 (L 0 0) (g' 2)) 4 (L 0 0) (g' 3)) 0 0 (L 0 0 + 1) 5 q = L 5 q by simp (disch := omega) only [u2_ne], show u2 (u2 (u2 (u2 (u2 L 1 (L 0 0) (g' 0)) 2 (L 0 0) (g' 1)) 3 (L 0 0) (g' 2)) 4 (L 0 0) (g' 3)) 0 0 (L 0 0 + 1) 6 q = L 6 q by simp (disch := omega) only [u2_ne], show u2 (u2 (u2 (u2 (u2 L 1 (L 0 0) (g' 0)) 2 (L 0 0) (g' 1)) 3 (L 0 0) (g' 2)) 4 (L 0 0) (g' 3)) 0 0 (L 0 0 + 1) 7 q = L 7 q by simp (disch := omega) only [u2_ne]]
      rw [f4.1 129 (by omega) (by omega), f4.1 130 (by omega) (by omega), f4.1 131 (by omega) (by omega)]
      exact this
    · simp (disch := omega) only [u2_ne] at hm
      rw [u2_row _ _ _ (show (132 : Nat) ≠ 122 by omega), f4.1 132 (by omega) (by omega), rm m hm]
      simp (disch := omega) only [u2_ne]
  · exact kF _ nf ⟨p, hp, by rw [u2_ne _ _ (by omega)]; exact s7, z1, z2⟩
end RMI
