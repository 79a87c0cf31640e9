/-! ===== hills, both ===== -/
theorem neg10 : ∀ p, p < 201 → ¬ (0 : Int32) ≤ (-10 : Int32) - nI p := by decide +kernel
section HIL
variable {d : Nat} {I : MI} {G : MG} {J : MJ} {Φ : Ph} {a : Nat} {L : Ld} {T : Tm}
theorem bg_w (wL : WLd L) : WT L (bgM L, 0, fun _ _ => 0) := by
  have b3 := wL.2.2.2.1
  have e0 : ∀ j, bgM L 0 j = 0 := fun j => by unfold bgM rsM; rw [if_neg (by omega)]
  have e1 : ∀ j, bgM L 1 j = 0 := fun j => by unfold bgM rsM; rw [if_neg (by omega)]
  have e2 : ∀ j, bgM L 2 j = 0 := fun j => by unfold bgM rsM; rw [if_neg (by omega)]
  have e4 : ∀ j, bgM L 4 j = 0 := fun j => by unfold bgM rsM; rw [if_neg (by omega)]
  refine ⟨⟨?_, ?_, fun h hh => ?_, fun m hm => ?_⟩, ⟨Nat.zero_le _, fun i hi => absurd hi (Nat.not_lt_zero _)⟩, ?_, ?_, fun h hh => ?_⟩
  · show bgM L 0 0 ≤ _; rw [e0]; omega
  · show bgM L 0 1 ≤ _; rw [e0]; omega
  · show bgM L 1 h ≤ _ ∧ bgM L 2 h ≤ _; rw [e1, e2]; omega
  · show bgM L 3 m ≤ _ ∧ bgM L 4 m ≤ _
    rw [e4]
    refine ⟨?_, by omega⟩
    unfold bgM rsM
    rw [if_pos ⟨rfl, hm⟩]
    exact Nat.le_refl _
  · show bgM L 0 1 < _; rw [e0]; omega
  · show bgM L 0 0 ≤ _; rw [e0]; omega
  · show bgM L 2 h ≤ _; rw [e2]; omega
theorem SX.tx (h : SX I) : ∃ (c : Nat → Nat) (nt : Nat), I 0 1 = nI nt ∧ I 122 22 = nI nt ∧ txP I 1 c nt ∧ txP I 133 c nt := by
  obtain ⟨nt, h1, h2, h3, h4⟩ := h
  have e : ∀ i, i < nt → I 1 i = nI (I 1 i).toNatClampNeg ∧ I 133 i = nI (I 1 i).toNatClampNeg ∧ (I 1 i).toNatClampNeg < 256 := fun i hi => by
    obtain ⟨x, hx, q1, q2⟩ := h4 i hi
    rw [q1, q2, nI_clamp (n := x) (by omega)]
    exact ⟨rfl, rfl, hx⟩
  exact ⟨fun i => (I 1 i).toNatClampNeg, nt, h2, h3, ⟨h1, fun j hj => ⟨(e j hj).1, (e j hj).2.2⟩⟩, ⟨h1, fun j hj => ⟨(e j hj).2.1, (e j hj).2.2⟩⟩⟩
theorem p_hills (S : SR I G J a L T) : Ev (d + 5) mX4_hills 136 0 [some (.ref 0), none, none, none] [] 136 I G J (P2 I G (d + 6) mX5_hills [some (.ref 122), none, none]) := by
  obtain ⟨⟨hG, ha, hga, ⟨b, hb, hne, hgb⟩, hRc, hRm, wL⟩, sP, sB, sK, sS, sX, sJ, sU⟩ := id S
  have hla := isL_or ha
  have hlb := isL_or hb
  obtain ⟨c, nt, t1, t2, tx1, tx2⟩ := sX.tx
  refine w_X4_hills hG ha hga hb hgb ?_
  rw [t1]
  refine s_readAll hG hb sU tx1 (fun I1 f1 ok bad => ⟨_, rfl, rfl, rfl, rfl, ?_⟩)
  by_cases e : (rdA c nt 201 0 emL 0).1 = true
  · obtain ⟨it, wR, dr⟩ := ok e
    rw [if_pos e]
    refine ⟨fun _ => ?_, fun z => absurd (nI_pos' (by omega)) z⟩
    have hG' : WG (u2 (u2 G 0 4 (some a)) 0 3 (some b)) := WG_lnd (WG_lnd hG (Or.inr rfl) _) (Or.inl rfl) _
    revert wR dr it
    generalize hRA : (rdA c nt 201 0 emL 0).2.2 = L'
    generalize hIT : (rdA c nt 201 0 emL 0).2.1 = n
    intro it wR dr
    have X : Cl (u2 I1 0 1 (0 : Int32)) (u2 (u2 G 0 4 (some a)) 0 3 (some b)) b L' := ⟨hG', hb, dr.1.congr (fun x q1 q2 => u2_row _ _ _ (by omega)), wR.1⟩
    refine s_begin X isM_22_ (fun I3 g1 g2 g3 => ⟨rfl, rfl, rfl, rfl, ?_⟩)
    have key : ∀ i, i ≤ 2 → ∀ I4 : MI, (∀ x, x ≠ 36 → I4 x = (u2 (u2 I3 0 8 (0 : Int32)) 0 13 (0 : Int32)) x) → (∀ j, j < i → I4 36 j = 0) → Ev (d + 5) mX4_hills 136 68 [some (.ref 0), some (.int (nI n)), some (.ref b), some (.int (nI i))] [] 136 I4 (u2 (u2 G 0 4 (some a)) 0 3 (some b)) J (P2 I G (d + 6) mX5_hills [some (.ref 122), none, none]) := by
      refine down_ind (E := fun i => ∀ I4 : MI, (∀ x, x ≠ 36 → I4 x = (u2 (u2 I3 0 8 (0 : Int32)) 0 13 (0 : Int32)) x) → (∀ j, j < i → I4 36 j = 0) → Ev (d + 5) mX4_hills 136 68 [some (.ref 0), some (.int (nI n)), some (.ref b), some (.int (nI i))] [] 136 I4 (u2 (u2 G 0 4 (some a)) 0 3 (some b)) J (P2 I G (d + 6) mX5_hills [some (.ref 122), none, none])) 2 ?_ ?_
      · intro I4 h1 h2
        refine w_X4_hills_68 hG' hb _ _ ⟨fun _ => ⟨rfl, ⟨_, rfl⟩, ?_⟩, fun q => absurd (nI_le (a := 2) (b := 2) (by omega) (by omega)) q⟩
        -- the object's memory
        have m4 : ∀ x, ¬ (x = 0 ∨ x = 2 ∨ x = 3 ∨ x = 36 ∨ (b ≤ x ∧ x < b + 9) ∨ (22 ≤ x ∧ x < 27)) → I4 x = I x := fun x hx => by
          rw [h1 x (by omega), u2_row _ _ _ (by omega), u2_row _ _ _ (by omega), g1 x (by omega), u2_row _ _ _ (by omega), f1 x (by omega) (by omega) (by omega)]
        have m4b : ∀ x, b ≤ x → x < b + 9 → I4 x = I1 x := fun x q1 q2 => by
          rw [h1 x (by omega), u2_row _ _ _ (by omega), u2_row _ _ _ (by omega), g1 x (by omega), u2_row _ _ _ (by omega)]
        have m4m : ∀ x, 22 ≤ x → x < 27 → I4 x = I3 x := fun x q1 q2 => by
          rw [h1 x (by omega), u2_row _ _ _ (by omega), u2_row _ _ _ (by omega)]
        have z1 : I4 0 1 = nI 0 := by rw [h1 0 (by omega), u2_ne _ _ (by omega), u2_ne _ _ (by omega), g1 0 (by omega), u2_at]; rfl
        have z8 : I4 0 8 = nI 0 := by rw [h1 0 (by omega), u2_ne _ _ (by omega), u2_at]; rfl
        have z13 : I4 0 13 = nI 0 := by rw [h1 0 (by omega), u2_at]; rfl
        refine m_hills hG' (tx2.cg (m4 133 (by omega))) (by rw [m4 122 (by omega)]; exact t2) (fun I5 k1 k2 k3 k4 k5 k6 => ?_) (fun I5 _ z => absurd e (by rw [z]; decide))
        rw [hRA] at k3 k5
        rw [hIT]
        have m5 : ∀ x, ¬ (x = 0 ∨ x = 2 ∨ x = 3 ∨ x = 36 ∨ (b ≤ x ∧ x < b + 9) ∨ (22 ≤ x ∧ x < 27) ∨ (122 ≤ x ∧ x < 133)) → I5 x = I x := fun x hx => by rw [k1 x (by omega) (by omega) (by omega) (by omega), m4 x (by omega)]
        have m54 : ∀ x, x < 122 → I5 x = I4 x := fun x hx => k1 x (by omega) (by omega) (by omega) (by omega)
        refine ⟨rfl, rfl, ⟨m5 1000 (by omega), ?_⟩, b, L', (bgM L', 0, fun _ _ => 0), ⟨hG', hb, u2_at _ _ _ _, ⟨a, ha, fun z => hne z.symm, by rw [u2_ne _ _ (by omega), u2_at]⟩, ?_, k3, wR.1⟩, ⟨bg_w wR.1, ⟨?_, ?_, fun i hi => absurd hi (by show ¬ i < 0; omega)⟩, ⟨k5, k6, fun i hi => absurd hi (by show ¬ i < 0; omega)⟩⟩, ?_, ?_, ⟨0, by omega, ?_, k4.2.2.1, fun i hi => absurd hi (by omega)⟩, ⟨0, by omega, ?_, k4.1, fun i hi => absurd hi (by omega)⟩, sJ, ?_⟩
        · unfold oul
          rw [u2_row _ _ _ (by omega), u2_row _ _ _ (by omega)]
        · exact dr.1.congr (fun x q1 q2 => by rw [m54 x (by omega), m4b x q1 q2])
        · exact g3.congr (fun x q1 q2 => by rw [m54 x (by omega), m4m x q1 (by omega)])
        · rw [m54 22 (by omega), m4m 22 (by omega) (by omega)]; exact g2
        · obtain ⟨np, P, pq, e1, e2, e3, e4, e5, e6⟩ := sB
          refine ⟨0, P, pq, by omega, by rw [m54 0 (by omega)]; exact z8, k4.2.1, fun j hj => ?_, e5, fun j hj => absurd hj (by omega)⟩
          rw [u2_row _ _ _ (by omega), u2_row _ _ _ (by omega)]
          exact e4 j hj
        · intro q hq
          refine Or.inl ⟨by rw [m54 36 (by omega)]; exact h2 q hq, ?_⟩
          rcases (show q = 0 ∨ q = 1 by omega) with rfl | rfl
          · exact k4.2.2.2.1
          · exact k4.2.2.2.2
        · rw [m54 0 (by omega)]; exact z13
        · rw [m54 0 (by omega)]; exact z1
        · have s0 : SU I5 G := sU.cg (fun x hx => m5 x (by omega))
          unfold SU oul at s0 ⊢
          rw [u2_row _ _ _ (show (1001 : Nat) ≠ 0 by omega), u2_row _ _ _ (show (1001 : Nat) ≠ 0 by omega), u2_row _ _ _ (show (1002 : Nat) ≠ 0 by omega), u2_row _ _ _ (show (1002 : Nat) ≠ 0 by omega), u2_row _ _ _ (show (1003 : Nat) ≠ 0 by omega), u2_row _ _ _ (show (1003 : Nat) ≠ 0 by omega), u2_row _ _ _ (show (1004 : Nat) ≠ 0 by omega), u2_row _ _ _ (show (1004 : Nat) ≠ 0 by omega)]
          exact s0
      · intro i hi ih I4 h1 h2
        refine w_X4_hills_68 hG' hb _ _ ⟨fun q => absurd q (nI_ge (a := i) (b := 2) hi (by omega)), fun _ => ⟨vp_in_nI (by omega) (by decide), ?_⟩⟩
        rw [nI_clamp (n := i) (by omega), show nI i + (1 : Int32) = nI (i + 1) from nI_1 _]
        refine ih _ (fun x hx => by rw [u2_row _ _ _ hx, h1 x hx]) (fun j hj => ?_)
        by_cases ej : j = i
        · rw [ej, u2_at]
        · rw [u2_ne _ _ (by omega)]; exact h2 j (by omega)
    exact key 0 (by omega) _ (fun _ _ => rfl) (fun j hj => absurd hj (by omega))
  · have e' : (rdA c nt 201 0 emL 0).1 = false := by simpa using e
    have bd := bad e'
    rw [if_neg e]
    refine ⟨fun z => absurd z (neg10 _ (by omega)), fun _ => ⟨rfl, ⟨_, rfl⟩, ?_⟩⟩
    refine m_hills hG (tx2.cg (f1 133 (by omega) (by omega) (by omega))) (by rw [f1 122 (by omega) (by omega) (by omega)]; exact t2) (fun I5 _ z => absurd z e) (fun I5 k1 _ => ⟨rfl, rfl, ?_⟩)
    have m5 : ∀ x, ¬ (x = 2 ∨ x = 3 ∨ (b ≤ x ∧ x < b + 9) ∨ x = 122 ∨ (125 ≤ x ∧ x < 133)) → I5 x = I x := fun x hx => by rw [k1.1 x (by omega) (by omega), f1 x (by omega) (by omega) (by omega)]
    have m122 : ∀ f, ¬ (15 ≤ f ∧ f ≤ 20) → ¬ (23 ≤ f ∧ f ≤ 27) → I5 122 f = I 122 f := fun f q1 q2 => by rw [k1.2.1 f q1 q2, f1 122 (by omega) (by omega) (by omega)]
    refine ⟨⟨m5 1000 (by omega), rfl⟩, a, L, T, ⟨hG, ha, hga, ⟨b, hb, hne, hgb⟩, hRc.congr (fun x q1 q2 => m5 x (by omega)), ?_, wL⟩, sP.cg wL (fun x q1 q2 => m5 x (by omega)) (fun k _ => by rw [m5 123 (by omega)]), sB.cg wL (by rw [m5 0 (by omega)]) (m122 28 (by omega) (by omega)) (fun x q1 q2 => m5 x (by omega)) (fun k _ _ => by rw [m5 123 (by omega)]), sK.cg wL (m5 36 (by omega)) (m5 124 (by omega)) (fun x q1 q2 => m5 x (by omega)) (fun k _ _ => by rw [m5 123 (by omega)]), sS.cg (by rw [m5 0 (by omega)]) (m122 31 (by omega) (by omega)) (m5 37 (by omega)) (m5 38 (by omega)) (m5 134 (by omega)) (m5 135 (by omega)), sX.cg (by rw [m5 0 (by omega)]) (m122 22 (by omega) (by omega)) (m5 1 (by omega)) (m5 133 (by omega)), sJ, sU.cg (fun x hx => m5 x (by omega))⟩
    have b0 := wL.1
    have b1 := wL.2.1
    have b2 := wL.2.2.1
    obtain ⟨r0, rh, rj, rm⟩ := hRm
    have lo : ∀ x j, 125 ≤ x → x < 132 → j < 4 → I5 x j = I x j := fun x j q1 q2 q3 => by rw [k1.2.2.1 x j q1 q2 q3, f1 x (by omega) (by omega) (by omega)]
    refine ⟨?_, fun h hh => ?_, fun j hj => ?_, fun m hm => ?_⟩
    · rw [m122 10 (by omega) (by omega), m122 11 (by omega) (by omega), m122 12 (by omega) (by omega), m122 13 (by omega) (by omega), m122 14 (by omega) (by omega)]; exact r0
    · rw [lo 125 h (by omega) (by omega) (by omega), lo 126 h (by omega) (by omega) (by omega), lo 127 h (by omega) (by omega) (by omega), lo 128 h (by omega) (by omega) (by omega)]; exact rh h hh
    · rw [lo 129 j (by omega) (by omega) (by omega), lo 130 j (by omega) (by omega) (by omega), lo 131 j (by omega) (by omega) (by omega)]; exact rj j hj
    · rw [k1.2.2.2 m (by omega), f1 132 (by omega) (by omega) (by omega)]; exact rm m hm
end HIL
