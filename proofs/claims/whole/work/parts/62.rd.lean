/-! ===== reading: the reference's joins and items ===== -/
section RMJ
variable {d : Nat} {I : MI} {G : MG} {J : MJ} {Φ : Ph} {c : Nat → Nat} {nt : Nat} {L : Ld} {k : Nat}
theorem m_takeJoin (hG : WG G) (tx : txP I 133 c nt) (h2 : I 122 22 = nI nt) {i : Nat} (hi : i ≤ nt) (h3 : I 122 23 = nI i) (h7 : I 122 27 = (-1 : Int32)) (hR : rnP I L) (w : WRd L) (hc : canB L 106 = true) (kOk : ∀ I', nfP I I' → (rdN c nt L 106 3 0 i (fun _ => 0)).1 = true → I' 122 27 = (-1 : Int32) → I' 122 23 = nI (rdN c nt L 106 3 0 i (fun _ => 0)).2.1 → rnP I' (adL L 106 (rdN c nt L 106 3 0 i (fun _ => 0)).2.2) → Φ none 136 I' G J) (kF : ∀ I', nfP I I' → flP I' (rdN c nt L 106 3 0 i (fun _ => 0)) → Φ none 136 I' G J) : Ev (d + 4) mX5_takeJoin 136 0 [some (.ref 122), none, none] [] 136 I G J Φ := by
  have hl : L 0 1 < 4 := by simpa [canB] using hc
  have w0 := w.1.1
  have n2 := tx.1
  obtain ⟨⟨r1, r2, r3, r4, r5, r6⟩, rh, rj, rm⟩ := hR
  have e4 : (4 : Int32) + I 122 16 = nI (4 + L 0 1) := by rw [r2]; exact nI_add 4 _
  have v : vp_in (nI (4 + L 0 1)) 8 := vp_in_nI (by omega) (by decide)
  -- the last number
  have tail : ∀ I6 : MI, itF 129 132 (4 + L 0 1) I I6 → (okP c nt L 106 I6 (4 + L 0 1) 129 2 (rdN c nt L 106 3 0 i (fun _ => 0)) ∨ flP I6 (rdN c nt L 106 3 0 i (fun _ => 0))) → Ev (d + 3) mX5_takeNumber 136 0 [some (.ref 122), some (.int (1 : Int32)), some (.int (9 : Int32))] [] 136 I6 G J (fun r n I7 G7 J7 => ∃ v7 : Int32, r = some (.int v7) ∧ n = 136 ∧ G = G7 ∧ J = J7 ∧ (vp_in (nI (4 + L 0 1)) 8 ∧ (Φ none 136 (u2 (u2 I7 131 (4 + L 0 1) v7) 122 16 ((I7 122 16) + (1 : Int32))) G J))) := by
    intro I6 f6 s6
    refine m_st (k := 106) (n0 := 4 + L 0 1) (b := 129) (e := 132) (j := 2) (L := L) hG tx h2 (by decide) (by omega) f6 s6 (fun n w hw => by rw [show (1 : Int32) = nI 1 from rfl, show (9 : Int32) = nI 9 from rfl, lo_hi (by omega) (by omega) hw]; simp [ckB]) (fun I4 v4 f4 u4 s4 => ⟨v4, rfl, rfl, rfl, rfl, v, ?_⟩)
    rw [u4 16 (by omega), r2, show nI (L 0 1) + (1 : Int32) = nI (L 0 1 + 1) from nI_1 _]
    have nf : nfP I (u2 (u2 I4 131 (4 + L 0 1) v4) 122 16 (nI (L 0 1 + 1))) := by
      refine ⟨fun x q1 q2 => by rw [u2_row _ _ _ q1, f4.1 x q1 (by omega)], fun f q1 q2 => by rw [u2_ne _ _ (by omega), f4.2.1 f q2], fun x q q1 q2 q3 => ?_, fun q hq => ?_⟩
      · rw [u2_row _ _ _ (by omega)]
        by_cases e : x < 129
        · rw [f4.1 x (by omega) (by omega)]
        · exact f4.2.2 x q (by omega) q2 (by omega)
      · rw [u2_row _ _ _ (by omega), f4.1 132 (by omega) (by omega)]
    rcases s4 with ⟨i', g', s7, s8, s9, s10, s11⟩ | ⟨p, hp, s7, z1, z2⟩
    · rw [show cntN 106 - (2 + 1) = 0 from rfl, rdN] at s10
      rw [← s10] at kOk
      have g0 := (s11 0 (by omega)).1
      have g1 := (s11 1 (by omega)).1
      have g2 := (s11 2 (by omega)).1
      refine kOk _ nf rfl (by rw [u2_ne _ _ (by omega)]; exact s7) (by rw [u2_ne _ _ (by omega)]; exact s8) ?_
      have e : adL L 106 g' = u2 (u2 (u2 (u2 L 5 (L 0 1) (g' 0)) 6 (L 0 1) (g' 1)) 7 (L 0 1) (g' 2)) 0 1 (L 0 1 + 1) := rfl
      rw [e]
      have q16 : ∀ f, f ≠ 16 → ¬ (23 ≤ f ∧ f ≤ 27) → (u2 (u2 I4 131 (4 + L 0 1) v4) 122 16 (nI (L 0 1 + 1))) 122 f = I 122 f := fun f q1 q2 => by rw [u2_ne _ _ (by omega), f4.2.1 f q2]
      refine ⟨⟨?_, ?_, ?_, ?_, ?_, ?_⟩, fun h hh => ?_, fun q hq => ?_, fun m hm => ?_⟩
      · rw [q16 15 (by omega) (by omega), r1]; simp (disch := omega) only [u2_ne]
      · rw [u2_at, u2_at]
      · rw [q16 17 (by omega) (by omega), r3]; simp (disch := omega) only [u2_ne]
      · rw [q16 18 (by omega) (by omega), r4]; simp (disch := omega) only [u2_ne]
      · rw [q16 19 (by omega) (by omega), r5]; simp (disch := omega) only [u2_ne]
      · rw [q16 20 (by omega) (by omega), r6]; simp (disch := omega) only [u2_ne]
      · simp (disch := omega) only [u2_ne] at hh
        have := rh h hh
        rw [u2_row _ _ _ (show (125 : Nat) ≠ 122 by omega), u2_row _ _ _ (show (126 : Nat) ≠ 122 by omega), u2_row _ _ _ (show (127 : Nat) ≠ 122 by omega), u2_row _ _ _ (show (128 : Nat) ≠ 122 by omega), f4.1 125 (by omega) (by omega), f4.1 126 (by omega) (by omega), f4.1 127 (by omega) (by omega), f4.1 128 (by omega) (by omega)]
        simp (disch := omega) only [u2_ne]
        exact this
      · rw [u2_at] at hq
        rw [u2_row _ _ _ (show (129 : Nat) ≠ 122 by omega), u2_row _ _ _ (show (130 : Nat) ≠ 122 by omega), u2_row _ _ _ (show (131 : Nat) ≠ 122 by omega)]
        by_cases eh : q = L 0 1
        · subst eh
          rw [show u2 (u2 (u2 (u2 L 5 (L 0 1) (g' 0)) 6 (L 0 1) (g' 1)) 7 (L 0 1) (g' 2)) 0 1 (L 0 1 + 1) 5 (L 0 1) = g' 0 by simp (disch := omega) only [u2_ne, u2_at], show u2 (u2 (u2 (u2 L 5 (L 0 1) (g' 0)) 6 (L 0 1) (g' 1)) 7 (L 0 1) (g' 2)) 0 1 (L 0 1 + 1) 6 (L 0 1) = g' 1 by simp (disch := omega) only [u2_ne, u2_at], show u2 (u2 (u2 (u2 L 5 (L 0 1) (g' 0)) 6 (L 0 1) (g' 1)) 7 (L 0 1) (g' 2)) 0 1 (L 0 1 + 1) 7 (L 0 1) = g' 2 by simp (disch := omega) only [u2_ne, u2_at]]
          exact ⟨g0, g1, g2⟩
        · rw [f4.2.2 129 _ (by omega) (by omega) (by omega), f4.2.2 130 _ (by omega) (by omega) (by omega), f4.2.2 131 _ (by omega) (by omega) (by omega)]
          have := rj q (by omega)
          simp (disch := omega) only [u2_ne]
          exact this
      · simp (disch := omega) only [u2_ne] at hm
        rw [u2_row _ _ _ (show (132 : Nat) ≠ 122 by omega), f4.1 132 (by omega) (by omega), rm m hm]
        simp (disch := omega) only [u2_ne]
    · exact kF _ nf ⟨p, hp, by rw [u2_ne _ _ (by omega)]; exact s7, z1, z2⟩
  refine w_X5_takeJoin hG ?_
  rw [e4, nI_clamp (n := 4 + L 0 1) (by omega), r1]
  refine m_st (k := 106) (n0 := 4 + L 0 1) (b := 129) (e := 132) (j := 0) (R := rdN c nt L 106 3 0 i (fun _ => 0)) (L := L) hG tx h2 (by decide) (by omega) ⟨fun _ _ _ => rfl, fun _ _ => rfl, fun _ _ _ _ _ => rfl⟩ (Or.inl ⟨i, fun _ => 0, h7, h3, hi, rfl, fun idx hx => absurd hx (by omega)⟩) (fun n w hw => by rw [lo_pr (by omega) hw]; simp [ckB]) (fun I1 v1 f1 u1 s1 => ⟨v1, rfl, rfl, rfl, rfl, v, ?_⟩)
  rw [u1 15 (by omega), r1]
  rcases s1 with ⟨i1, g, s7, s3, hi1, hrd, hg⟩ | ⟨p, hp, s7, z1, z2⟩
  · have b2 := tkN_b hi1 tx.c
    have g0 := hg 0 (by omega)
    rw [show cntN 106 - (0 + 1) = 1 + 1 from rfl, rdN] at hrd
    refine m_tnR (P := fun v => v < L 0 0) hG (tx.cg (f1.1 133 (by omega) (by omega))) (by rw [f1.2.1 22 (by omega)]; exact h2) hi1 s3 s7 (fun v hv => (lo_pr (by omega) hv).symm) (fun I3 q1 q2 q3 q4 q5 q6 q7 => ⟨_, rfl, rfl, rfl, rfl, v, ?_⟩) (fun I3 q1 q2 q3 => ⟨_, rfl, rfl, rfl, rfl, v, ?_⟩)
    · have f3 : itF 129 132 (4 + L 0 1) I (u2 I3 130 (4 + L 0 1) (nI (tkN c nt i1).2.2.2)) := itF.u (by omega) (itF.tn (by omega) f1 q1) (by omega)
      have e129 : I3 129 (4 + L 0 1) = nI (g 0) := by rw [q1.1 129 (by omega)]; exact g0.1
      rw [q2, e129, nI_eq (by omega) (by omega)]
      refine ⟨fun z => absurd z (by decide), fun _ => ⟨v, v, fun e => ?_, fun e => ?_⟩⟩
      · have ck : ¬ ((tkN c nt i1).1 = 2 ∧ ckB L 106 1 (g 0) (tkN c nt i1).2.2.2 = true) := fun z => by
          have := z.2
          simp [ckB] at this
          omega
        rw [if_neg ck] at hrd
        refine m_want0 hG (p := (tkN c nt i1).2.1) (by omega) (by rw [u2_row _ _ _ (by omega)]; exact q2) (by rw [u2_row _ _ _ (by omega)]; exact q4) ⟨_, rfl, rfl, rfl, rfl, tail _ ⟨fun x y1 y2 => by rw [u2_row _ _ _ y1, f3.1 x y1 y2], fun f y => by rw [u2_ne _ _ (by omega), f3.2.1 f y], fun x q y1 y2 y3 => by rw [u2_row _ _ _ (by omega), f3.2.2 x q y1 y2 y3]⟩ (Or.inr ⟨(tkN c nt i1).2.1, by omega, u2_at _ _ _ _, by rw [← hrd], by rw [← hrd]⟩)⟩
      · have ck : (tkN c nt i1).1 = 2 ∧ ckB L 106 1 (g 0) (tkN c nt i1).2.2.2 = true := ⟨q5, by simp [ckB]; omega⟩
        rw [if_pos ck] at hrd
        refine m_want1 hG (by rw [u2_row _ _ _ (by omega)]; exact q2) ⟨_, rfl, rfl, rfl, rfl, tail _ f3 (Or.inl ⟨_, _, by rw [u2_row _ _ _ (by omega)]; exact q2, by rw [u2_row _ _ _ (by omega)]; exact q3, b2.2.2.2.1, hrd, fun idx hx => ?_⟩)⟩
        by_cases e1 : idx = 1
        · subst e1
          rw [show (0 : Nat) + 1 = 1 from rfl, if_pos rfl, show 129 + 1 = 130 from rfl, u2_at]
          exact ⟨rfl, q6⟩
        · obtain rfl : idx = 0 := by omega
          rw [show (0 : Nat) + 1 = 1 from rfl, if_neg (by omega), u2_row _ _ _ (by omega)]
          exact ⟨e129, g0.2⟩
    · have f3 : itF 129 132 (4 + L 0 1) I (u2 I3 130 (4 + L 0 1) (0 : Int32)) := itF.u (by omega) (itF.tn (by omega) f1 q1) (by omega)
      have ck : ¬ ((tkN c nt i1).1 = 2 ∧ ckB L 106 1 (g 0) (tkN c nt i1).2.2.2 = true) := fun z => q3 ⟨z.1, by
        have := z.2
        simp [ckB] at this
        exact this.1⟩
      rw [if_neg ck] at hrd
      rw [q2]
      refine ⟨fun _ => ?_, fun z => absurd (nI_pos' (by omega)) z⟩
      exact m_wantF hG (p := (tkN c nt i1).2.1) (by omega) (by rw [u2_row _ _ _ (by omega)]; exact q2) _ ⟨_, rfl, rfl, rfl, rfl, tail _ f3 (Or.inr ⟨(tkN c nt i1).2.1, by omega, by rw [u2_row _ _ _ (by omega)]; exact q2, by rw [← hrd], by rw [← hrd]⟩)⟩
  · refine m_tnF hG (p := p) (by omega) s7 _ _ ⟨_, rfl, rfl, rfl, rfl, v, ?_⟩
    have f3 : itF 129 132 (4 + L 0 1) I (u2 (u2 I1 (129 + 0) (4 + L 0 1) v1) 130 (4 + L 0 1) (0 : Int32)) := itF.u (by omega) f1 (by omega)
    rw [s7]
    refine ⟨fun _ => ?_, fun z => absurd (nI_pos' (by omega)) z⟩
    exact m_wantF hG (p := p) (by omega) (by rw [u2_row _ _ _ (by omega)]; exact s7) _ ⟨_, rfl, rfl, rfl, rfl, tail _ f3 (Or.inr ⟨p, hp, by rw [u2_row _ _ _ (by omega)]; exact s7, z1, z2⟩)⟩
theorem kR_eq {n : Nat} (hk : k < 256) (h3 : 3 ≤ n) (hn : n < 256) : (kR k = nI n) = (k = n) := by
  unfold kR
  apply propext
  by_cases e0 : k = 0
  · rw [if_pos e0]
    refine ⟨fun z => ?_, fun z => by omega⟩
    have : (nI n).toInt = -1 := by rw [← z]; decide
    rw [toI_nI (by omega)] at this
    omega
  · rw [if_neg e0]
    by_cases e1 : k = 1
    · rw [if_pos e1]
      refine ⟨fun z => ?_, fun z => by omega⟩
      have : (nI n).toInt = -2 := by rw [← z]; decide
      rw [toI_nI (by omega)] at this
      omega
    · rw [if_neg e1]
      by_cases e2 : k = 2
      · rw [if_pos e2]
        refine ⟨fun z => ?_, fun z => by omega⟩
        have := (nI_eq (a := 0) (b := n) (by omega) (by omega)).mp z
        omega
      · rw [if_neg e2, nI_eq (by omega) (by omega)]
end RMJ
