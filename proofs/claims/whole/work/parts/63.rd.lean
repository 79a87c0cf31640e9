/-! ===== reading: the reference's items, all kinds ===== -/
section RMK
variable {d : Nat} {I : MI} {G : MG} {J : MJ} {Φ : Ph} {c : Nat → Nat} {nt : Nat} {L : Ld} {k : Nat}
theorem rd1 {i : Nat} (h : cntN k = 1) : rdN c nt L k (cntN k) 0 i (fun _ => 0) = if (tkN c nt i).1 = 2 ∧ ckB L k 0 0 (tkN c nt i).2.2.2 = true then (true, (tkN c nt i).2.2.1, (fun j => if j = 0 then (tkN c nt i).2.2.2 else 0)) else (false, (tkN c nt i).2.1, (fun _ => 0)) := by
  rw [h, rdN]
  rfl
theorem m_takeItem (hG : WG G) (tx : txP I 133 c nt) (h2 : I 122 22 = nI nt) {i p : Nat} (hi : i ≤ nt) (hp : p ≤ nt) (hk : k < 256) (h3 : I 122 23 = nI i) (h4 : I 122 24 = nI p) (h5 : I 122 25 = kR k) (h7 : I 122 27 = (-1 : Int32)) (hR : rnP I L) (w : WRd L) (kOk : ∀ I', nfP I I' → canB L k = true → (rdN c nt L k (cntN k) 0 i (fun _ => 0)).1 = true → I' 122 27 = (-1 : Int32) → I' 122 23 = nI (rdN c nt L k (cntN k) 0 i (fun _ => 0)).2.1 → rnP I' (adL L k (rdN c nt L k (cntN k) 0 i (fun _ => 0)).2.2) → Φ none 136 I' G J) (kF : ∀ I' q, nfP I I' → q ≤ 200 → I' 122 27 = nI q → ((canB L k = false ∧ q = p) ∨ (canB L k = true ∧ (rdN c nt L k (cntN k) 0 i (fun _ => 0)).1 = false ∧ (rdN c nt L k (cntN k) 0 i (fun _ => 0)).2.1 = q)) → Φ none 136 I' G J) : Ev (d + 5) mX5_takeItem 136 0 [some (.ref 122)] [] 136 I G J Φ := by
  have n2 := tx.1
  have b2 := tkN_b hi tx.c
  obtain ⟨⟨w1, w2, w3, -⟩, w9, w10⟩ := id w
  obtain ⟨⟨r1, r2, r3, r4, r5, r6⟩, rh, rj, rm⟩ := id hR
  have no : canB L k = false → Φ none 136 (u2 I 122 27 (nI p)) G J := fun e => kF _ p ⟨fun x q1 _ => u2_row _ _ _ q1, fun f q1 q2 => u2_ne _ _ (by omega), fun x j q1 q2 _ => by rw [u2_row _ _ _ (by omega)], fun j _ => by rw [u2_row _ _ _ (by omega)]⟩ (by omega) (u2_at _ _ _ _) (Or.inl ⟨e, rfl⟩)
  refine w_X5_takeItem hG ?_
  rw [h5, show (104 : Int32) = nI 104 from rfl, show (106 : Int32) = nI 106 from rfl, show (109 : Int32) = nI 109 from rfl, show (111 : Int32) = nI 111 from rfl, show (114 : Int32) = nI 114 from rfl, kR_eq (n := 104) hk (by omega) (by omega), kR_eq (n := 106) hk (by omega) (by omega), kR_eq (n := 109) hk (by omega) (by omega), kR_eq (n := 111) hk (by omega) (by omega), kR_eq (n := 114) hk (by omega) (by omega)]
  refine ⟨fun k1 => ⟨fun k2 => ⟨fun k3 => ⟨fun k4 => ⟨fun k5 => ?_, fun k5 => ?_⟩, fun k4 => ?_⟩, fun k3 => ?_⟩, fun k2 => ?_⟩, fun k1 => ?_⟩
  · have e : canB L k = false := by unfold canB; rw [if_neg k1, if_neg k2, if_neg k3, if_neg k4, if_neg k5]
    exact m_want0 hG (p := p) (by omega) h7 h4 ⟨_, rfl, rfl, rfl, rfl, fun _ => no e, fun z => absurd rfl z⟩
  · -- rain
    subst k5
    have eb : (L 0 5 + 2 * L 0 6) / 2 ^ 1 % 2 = 1 ↔ ¬ L 0 6 = 0 := by omega
    have ec : canB L 114 = decide (L 0 6 = 0) := by simp [canB]
    rw [r6]
    refine m_has (i := 1) hG (by omega) (by omega) ⟨_, rfl, rfl, rfl, rfl, rfl, ?_⟩
    rw [if01, eb]
    refine ⟨fun q => m_want0 hG (p := p) (by omega) h7 h4 ⟨_, rfl, rfl, rfl, rfl, fun _ => no (by rw [ec]; exact decide_eq_false (Decidable.not_not.mp q)), fun z => absurd rfl z⟩, fun q => m_want1 hG h7 ⟨_, rfl, rfl, rfl, rfl, fun z => absurd z (by decide), fun _ => ?_⟩⟩
    have q0 : L 0 6 = 0 := Decidable.not_not.mp q
    have ec' : canB L 114 = true := by rw [ec]; exact decide_eq_true q0
    have hrd := rd1 (c := c) (nt := nt) (L := L) (k := 114) (i := i) rfl
    have eor : nI (L 0 5 + 2 * L 0 6) ||| (2 : Int32) = nI (L 0 5 + 2 * 1) := by
      rw [q0, show (2 : Int32) = nI 2 from rfl, nor]
      rcases (show L 0 5 = 0 ∨ L 0 5 = 1 by omega) with z | z <;> (rw [z]; rfl)
    rw [r6, eor]
    refine m_tnR (I := u2 I 122 20 (nI (L 0 5 + 2 * 1))) (P := fun v => v ≤ 127) hG (tx.cg (u2_row _ _ _ (by omega))) (by rw [u2_ne _ _ (by omega)]; exact h2) hi (by rw [u2_ne _ _ (by omega)]; exact h3) (by rw [u2_ne _ _ (by omega)]; exact h7) (fun v hv => by rw [show (0 : Int32) = nI 0 from rfl, show (127 : Int32) = nI 127 from rfl, lo_hi (by omega) (by omega) hv]; omega) (fun I1 q1 q2 q3 q4 q5 q6 q7 => ⟨_, rfl, rfl, rfl, rfl, ?_⟩) (fun I1 q1 q2 q3 => ⟨_, rfl, rfl, rfl, rfl, ?_⟩)
    · rw [if_pos ⟨q5, by simp [ckB]; exact q7⟩] at hrd
      rw [hrd] at kOk
      have f1 : ∀ f, f ≠ 20 → ¬ (23 ≤ f ∧ f ≤ 27) → I1 122 f = I 122 f := fun f y1 y2 => by rw [q1.2 f y2, u2_ne _ _ (by omega)]
      have f2 : ∀ x, x ≠ 122 → I1 x = I x := fun x y1 => by rw [q1.1 x y1, u2_row _ _ _ y1]
      refine kOk _ ⟨fun x y1 y2 => by rw [u2_row _ _ _ y1, f2 x y1], fun f y1 y2 => by rw [u2_ne _ _ (by omega), f1 f (by omega) y2], fun x j y1 y2 _ => by rw [u2_row _ _ _ (by omega), f2 x (by omega)], fun j _ => by rw [u2_row _ _ _ (by omega), f2 132 (by omega)]⟩ ec' rfl (by rw [u2_ne _ _ (by omega)]; exact q2) (by rw [u2_ne _ _ (by omega)]; exact q3) ?_
      have e : adL L 114 (fun j => if j = 0 then (tkN c nt i).2.2.2 else 0) = u2 (u2 L 0 4 (tkN c nt i).2.2.2) 0 6 1 := rfl
      show rnP _ (adL L 114 (fun j => if j = 0 then (tkN c nt i).2.2.2 else 0))
      rw [e]
      refine ⟨⟨?_, ?_, ?_, ?_, ?_, ?_⟩, fun h hh => ?_, fun q hq => ?_, fun m hm => ?_⟩
      · rw [u2_ne _ _ (by omega), f1 15 (by omega) (by omega), r1]; simp (disch := omega) only [u2_ne]
      · rw [u2_ne _ _ (by omega), f1 16 (by omega) (by omega), r2]; simp (disch := omega) only [u2_ne]
      · rw [u2_ne _ _ (by omega), f1 17 (by omega) (by omega), r3]; simp (disch := omega) only [u2_ne]
      · rw [u2_ne _ _ (by omega), f1 18 (by omega) (by omega), r4]; simp (disch := omega) only [u2_ne]
      · rw [u2_at]; simp (disch := omega) only [u2_ne, u2_at]
      · rw [u2_ne _ _ (by omega), q1.2 20 (by omega), u2_at]; simp (disch := omega) only [u2_ne, u2_at]
      · simp (disch := omega) only [u2_ne] at hh
        have := rh h hh
        rw [u2_row _ _ _ (show (125 : Nat) ≠ 122 by omega), u2_row _ _ _ (show (126 : Nat) ≠ 122 by omega), u2_row _ _ _ (show (127 : Nat) ≠ 122 by omega), u2_row _ _ _ (show (128 : Nat) ≠ 122 by omega), f2 125 (by omega), f2 126 (by omega), f2 127 (by omega), f2 128 (by omega)]
        simp (disch := omega) only [u2_ne]
        exact this
      · simp (disch := omega) only [u2_ne] at hq
        have := rj q hq
        rw [u2_row _ _ _ (show (129 : Nat) ≠ 122 by omega), u2_row _ _ _ (show (130 : Nat) ≠ 122 by omega), u2_row _ _ _ (show (131 : Nat) ≠ 122 by omega), f2 129 (by omega), f2 130 (by omega), f2 131 (by omega)]
        simp (disch := omega) only [u2_ne]
        exact this
      · simp (disch := omega) only [u2_ne] at hm
        rw [u2_row _ _ _ (show (132 : Nat) ≠ 122 by omega), f2 132 (by omega), rm m hm]
        simp (disch := omega) only [u2_ne]
    · rw [if_neg (fun z => q3 ⟨z.1, by simpa [ckB] using z.2⟩)] at hrd
      rw [hrd] at kF
      refine kF _ (tkN c nt i).2.1 ⟨fun x y1 y2 => by rw [u2_row _ _ _ y1, q1.1 x y1, u2_row _ _ _ y1], fun f y1 y2 => by rw [u2_ne _ _ (by omega), q1.2 f y2, u2_ne _ _ (by omega)], fun x j y1 y2 _ => by rw [u2_row _ _ _ (by omega), q1.1 x (by omega), u2_row _ _ _ (by omega)], fun j _ => by rw [u2_row _ _ _ (by omega), q1.1 132 (by omega), u2_row _ _ _ (by omega)]⟩ (by have := b2.2.1; omega) (by rw [u2_ne _ _ (by omega)]; exact q2) (Or.inr ⟨ec', rfl, rfl⟩)
  · -- hours
    subst k4
    have eb : (L 0 5 + 2 * L 0 6) / 2 ^ 0 % 2 = 1 ↔ ¬ L 0 5 = 0 := by omega
    have ec : canB L 111 = decide (L 0 5 = 0) := by simp [canB]
    rw [r6]
    refine m_has (i := 0) hG (by omega) (by omega) ⟨_, rfl, rfl, rfl, rfl, rfl, ?_⟩
    rw [if01, eb]
    refine ⟨fun q => m_want0 hG (p := p) (by omega) h7 h4 ⟨_, rfl, rfl, rfl, rfl, fun _ => no (by rw [ec]; exact decide_eq_false (Decidable.not_not.mp q)), fun z => absurd rfl z⟩, fun q => m_want1 hG h7 ⟨_, rfl, rfl, rfl, rfl, fun z => absurd z (by decide), fun _ => ?_⟩⟩
    have q0 : L 0 5 = 0 := Decidable.not_not.mp q
    have ec' : canB L 111 = true := by rw [ec]; exact decide_eq_true q0
    have hrd := rd1 (c := c) (nt := nt) (L := L) (k := 111) (i := i) rfl
    have eor : nI (L 0 5 + 2 * L 0 6) ||| (1 : Int32) = nI (1 + 2 * L 0 6) := by
      rw [q0, show (1 : Int32) = nI 1 from rfl, nor]
      rcases (show L 0 6 = 0 ∨ L 0 6 = 1 by omega) with z | z <;> (rw [z]; rfl)
    rw [r6, eor]
    refine m_tnR (I := u2 I 122 20 (nI (1 + 2 * L 0 6))) (P := fun v => 1 ≤ v ∧ v ≤ 6) hG (tx.cg (u2_row _ _ _ (by omega))) (by rw [u2_ne _ _ (by omega)]; exact h2) hi (by rw [u2_ne _ _ (by omega)]; exact h3) (by rw [u2_ne _ _ (by omega)]; exact h7) (fun v hv => by rw [show (1 : Int32) = nI 1 from rfl, show (6 : Int32) = nI 6 from rfl, lo_hi (by omega) (by omega) hv]) (fun I1 q1 q2 q3 q4 q5 q6 q7 => ⟨_, rfl, rfl, rfl, rfl, ?_⟩) (fun I1 q1 q2 q3 => ⟨_, rfl, rfl, rfl, rfl, ?_⟩)
    · rw [if_pos ⟨q5, by simp [ckB]; exact q7⟩] at hrd
      rw [hrd] at kOk
      have f1 : ∀ f, f ≠ 20 → ¬ (23 ≤ f ∧ f ≤ 27) → I1 122 f = I 122 f := fun f y1 y2 => by rw [q1.2 f y2, u2_ne _ _ (by omega)]
      have f2 : ∀ x, x ≠ 122 → I1 x = I x := fun x y1 => by rw [q1.1 x y1, u2_row _ _ _ y1]
      refine kOk _ ⟨fun x y1 y2 => by rw [u2_row _ _ _ y1, f2 x y1], fun f y1 y2 => by rw [u2_ne _ _ (by omega), f1 f (by omega) y2], fun x j y1 y2 _ => by rw [u2_row _ _ _ (by omega), f2 x (by omega)], fun j _ => by rw [u2_row _ _ _ (by omega), f2 132 (by omega)]⟩ ec' rfl (by rw [u2_ne _ _ (by omega)]; exact q2) (by rw [u2_ne _ _ (by omega)]; exact q3) ?_
      have e : adL L 111 (fun j => if j = 0 then (tkN c nt i).2.2.2 else 0) = u2 (u2 L 0 3 (tkN c nt i).2.2.2) 0 5 1 := rfl
      show rnP _ (adL L 111 (fun j => if j = 0 then (tkN c nt i).2.2.2 else 0))
      rw [e]
      refine ⟨⟨?_, ?_, ?_, ?_, ?_, ?_⟩, fun h hh => ?_, fun q hq => ?_, fun m hm => ?_⟩
      · rw [u2_ne _ _ (by omega), f1 15 (by omega) (by omega), r1]; simp (disch := omega) only [u2_ne]
      · rw [u2_ne _ _ (by omega), f1 16 (by omega) (by omega), r2]; simp (disch := omega) only [u2_ne]
      · rw [u2_ne _ _ (by omega), f1 17 (by omega) (by omega), r3]; simp (disch := omega) only [u2_ne]
      · rw [u2_at]; simp (disch := omega) only [u2_ne, u2_at]
      · rw [u2_ne _ _ (by omega), f1 19 (by omega) (by omega), r5]; simp (disch := omega) only [u2_ne]
      · rw [u2_ne _ _ (by omega), q1.2 20 (by omega), u2_at]; simp (disch := omega) only [u2_ne, u2_at]
      · simp (disch := omega) only [u2_ne] at hh
        have := rh h hh
        rw [u2_row _ _ _ (show (125 : Nat) ≠ 122 by omega), u2_row _ _ _ (show (126 : Nat) ≠ 122 by omega), u2_row _ _ _ (show (127 : Nat) ≠ 122 by omega), u2_row _ _ _ (show (128 : Nat) ≠ 122 by omega), f2 125 (by omega), f2 126 (by omega), f2 127 (by omega), f2 128 (by omega)]
        simp (disch := omega) only [u2_ne]
        exact this
      · simp (disch := omega) only [u2_ne] at hq
        have := rj q hq
        rw [u2_row _ _ _ (show (129 : Nat) ≠ 122 by omega), u2_row _ _ _ (show (130 : Nat) ≠ 122 by omega), u2_row _ _ _ (show (131 : Nat) ≠ 122 by omega), f2 129 (by omega), f2 130 (by omega), f2 131 (by omega)]
        simp (disch := omega) only [u2_ne]
        exact this
      · simp (disch := omega) only [u2_ne] at hm
        rw [u2_row _ _ _ (show (132 : Nat) ≠ 122 by omega), f2 132 (by omega), rm m hm]
        simp (disch := omega) only [u2_ne]
    · rw [if_neg (fun z => q3 ⟨z.1, by simpa [ckB] using z.2⟩)] at hrd
      rw [hrd] at kF
      refine kF _ (tkN c nt i).2.1 ⟨fun x y1 y2 => by rw [u2_row _ _ _ y1, q1.1 x y1, u2_row _ _ _ y1], fun f y1 y2 => by rw [u2_ne _ _ (by omega), q1.2 f y2, u2_ne _ _ (by omega)], fun x j y1 y2 _ => by rw [u2_row _ _ _ (by omega), q1.1 x (by omega), u2_row _ _ _ (by omega)], fun j _ => by rw [u2_row _ _ _ (by omega), q1.1 132 (by omega), u2_row _ _ _ (by omega)]⟩ (by have := b2.2.1; omega) (by rw [u2_ne _ _ (by omega)]; exact q2) (Or.inr ⟨ec', rfl, rfl⟩)
  · -- a man
    subst k3
    have ec : canB L 109 = decide (L 0 2 < 3) := by simp [canB]
    rw [r3, show (3 : Int32) = nI 3 from rfl, nI_leI (by omega) (by omega)]
    refine ⟨fun q => m_want0 hG (p := p) (by omega) h7 h4 ⟨_, rfl, rfl, rfl, rfl, fun _ => no (by rw [ec]; exact decide_eq_false (by omega)), fun z => absurd rfl z⟩, fun q => m_want1 hG h7 ⟨_, rfl, rfl, rfl, rfl, fun z => absurd z (by decide), fun _ => ?_⟩⟩
    have ec' : canB L 109 = true := by rw [ec]; exact decide_eq_true (by omega)
    have hrd := rd1 (c := c) (nt := nt) (L := L) (k := 109) (i := i) rfl
    rw [r3, nI_add, nI_clamp (n := 3 + L 0 2) (by omega)]
    have v6 : vp_in (nI (3 + L 0 2)) 6 := vp_in_nI (by omega) (by decide)
    refine m_tnR (P := fun v => 1 ≤ v ∧ v ≤ 9) hG tx h2 hi h3 h7 (fun v hv => by rw [show (1 : Int32) = nI 1 from rfl, show (9 : Int32) = nI 9 from rfl, lo_hi (by omega) (by omega) hv]) (fun I1 q1 q2 q3 q4 q5 q6 q7 => ⟨_, rfl, rfl, rfl, rfl, v6, ?_⟩) (fun I1 q1 q2 q3 => ⟨_, rfl, rfl, rfl, rfl, v6, ?_⟩)
    · rw [if_pos ⟨q5, by simp [ckB]; exact q7⟩] at hrd
      rw [hrd] at kOk
      rw [q1.2 17 (by omega), r3, show nI (L 0 2) + (1 : Int32) = nI (L 0 2 + 1) from nI_1 _]
      refine kOk _ ⟨fun x y1 y2 => by rw [u2_row _ _ _ y1, u2_row _ _ _ (by omega), q1.1 x y1], fun f y1 y2 => by rw [u2_ne _ _ (by omega), u2_row _ _ _ (by omega), q1.2 f y2], fun x j y1 y2 _ => by rw [u2_row _ _ _ (by omega), u2_row _ _ _ (by omega), q1.1 x (by omega)], fun j _ => by rw [u2_row _ _ _ (by omega), u2_ne _ _ (by omega), q1.1 132 (by omega)]⟩ ec' rfl (by rw [u2_ne _ _ (by omega), u2_row _ _ _ (by omega)]; exact q2) (by rw [u2_ne _ _ (by omega), u2_row _ _ _ (by omega)]; exact q3) ?_
      have e : adL L 109 (fun j => if j = 0 then (tkN c nt i).2.2.2 else 0) = u2 (u2 L 8 (L 0 2) (tkN c nt i).2.2.2) 0 2 (L 0 2 + 1) := rfl
      show rnP _ (adL L 109 (fun j => if j = 0 then (tkN c nt i).2.2.2 else 0))
      rw [e]
      have f1 : ∀ f, f ≠ 17 → ¬ (23 ≤ f ∧ f ≤ 27) → (u2 (u2 I1 132 (3 + L 0 2) (nI (tkN c nt i).2.2.2)) 122 17 (nI (L 0 2 + 1))) 122 f = I 122 f := fun f y1 y2 => by rw [u2_ne _ _ (by omega), u2_row _ _ _ (by omega), q1.2 f y2]
      have f2 : ∀ x, x ≠ 122 → x ≠ 132 → (u2 (u2 I1 132 (3 + L 0 2) (nI (tkN c nt i).2.2.2)) 122 17 (nI (L 0 2 + 1))) x = I x := fun x y1 y2 => by rw [u2_row _ _ _ y1, u2_row _ _ _ y2, q1.1 x y1]
      refine ⟨⟨?_, ?_, ?_, ?_, ?_, ?_⟩, fun h hh => ?_, fun q hq => ?_, fun m hm => ?_⟩
      · rw [f1 15 (by omega) (by omega), r1]; simp (disch := omega) only [u2_ne]
      · rw [f1 16 (by omega) (by omega), r2]; simp (disch := omega) only [u2_ne]
      · rw [u2_at, u2_at]
      · rw [f1 18 (by omega) (by omega), r4]; simp (disch := omega) only [u2_ne]
      · rw [f1 19 (by omega) (by omega), r5]; simp (disch := omega) only [u2_ne]
      · rw [f1 20 (by omega) (by omega), r6]; simp (disch := omega) only [u2_ne]
      · simp (disch := omega) only [u2_ne] at hh
        have := rh h hh
        rw [f2 125 (by omega) (by omega), f2 126 (by omega) (by omega), f2 127 (by omega) (by omega), f2 128 (by omega) (by omega)]
        simp (disch := omega) only [u2_ne]
        exact this
      · simp (disch := omega) only [u2_ne] at hq
        have := rj q hq
        rw [f2 129 (by omega) (by omega), f2 130 (by omega) (by omega), f2 131 (by omega) (by omega)]
        simp (disch := omega) only [u2_ne]
        exact this
      · rw [u2_at] at hm
        rw [u2_row _ _ _ (show (132 : Nat) ≠ 122 by omega)]
        by_cases em : m = L 0 2
        · subst em
          rw [u2_at]
          simp (disch := omega) only [u2_ne, u2_at]
        · rw [u2_ne _ _ (by omega), q1.1 132 (by omega), rm m (by omega)]
          simp (disch := omega) only [u2_ne]
    · rw [if_neg (fun z => q3 ⟨z.1, by simpa [ckB] using z.2⟩)] at hrd
      rw [hrd] at kF
      refine kF _ (tkN c nt i).2.1 ⟨fun x y1 y2 => by rw [u2_row _ _ _ y1, u2_row _ _ _ (by omega), q1.1 x y1], fun f y1 y2 => by rw [u2_ne _ _ (by omega), u2_row _ _ _ (by omega), q1.2 f y2], fun x j y1 y2 _ => by rw [u2_row _ _ _ (by omega), u2_row _ _ _ (by omega), q1.1 x (by omega)], fun j _ => by rw [u2_row _ _ _ (by omega), u2_ne _ _ (by omega), q1.1 132 (by omega)]⟩ (by have := b2.2.1; omega) (by rw [u2_ne _ _ (by omega), u2_row _ _ _ (by omega)]; exact q2) (Or.inr ⟨ec', rfl, rfl⟩)
  · -- a join
    subst k2
    have ec : canB L 106 = decide (L 0 1 < 4) := by simp [canB]
    rw [r2, show (4 : Int32) = nI 4 from rfl, nI_leI (by omega) (by omega)]
    refine ⟨fun q => m_want0 hG (p := p) (by omega) h7 h4 ⟨_, rfl, rfl, rfl, rfl, fun _ => no (by rw [ec]; exact decide_eq_false (by omega)), fun z => absurd rfl z⟩, fun q => m_want1 hG h7 ⟨_, rfl, rfl, rfl, rfl, fun z => absurd z (by decide), fun _ => ?_⟩⟩
    have ec' : canB L 106 = true := by rw [ec]; exact decide_eq_true (by omega)
    exact m_takeJoin hG tx h2 hi h3 h7 hR w ec' (fun I' y1 y2 y3 y4 y5 => ⟨rfl, rfl, rfl, rfl, kOk I' y1 ec' y2 y3 y4 y5⟩) (fun I' y1 y2 => ⟨rfl, rfl, rfl, rfl, by obtain ⟨pp, z1, z2, z3, z4⟩ := y2; exact kF I' pp y1 z1 z2 (Or.inr ⟨ec', z3, z4⟩)⟩)
  · -- a hill
    subst k1
    have ec : canB L 104 = decide (L 0 0 < 4) := by simp [canB]
    rw [r1, show (4 : Int32) = nI 4 from rfl, nI_leI (by omega) (by omega)]
    refine ⟨fun q => m_want0 hG (p := p) (by omega) h7 h4 ⟨_, rfl, rfl, rfl, rfl, fun _ => no (by rw [ec]; exact decide_eq_false (by omega)), fun z => absurd rfl z⟩, fun q => m_want1 hG h7 ⟨_, rfl, rfl, rfl, rfl, fun z => absurd z (by decide), fun _ => ?_⟩⟩
    have ec' : canB L 104 = true := by rw [ec]; exact decide_eq_true (by omega)
    exact m_takeHill hG tx h2 hi h3 h7 hR ec' (fun I' y1 y2 y3 y4 y5 => ⟨rfl, rfl, rfl, rfl, kOk I' y1 ec' y2 y3 y4 y5⟩) (fun I' y1 y2 => ⟨rfl, rfl, rfl, rfl, by obtain ⟨pp, z1, z2, z3, z4⟩ := y2; exact kF I' pp y1 z1 z2 (Or.inr ⟨ec', z3, z4⟩)⟩)
end RMK
