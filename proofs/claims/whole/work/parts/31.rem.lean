/-! ===== remember ===== -/
def rmN (np : Nat) : Nat := if np < 10 then np + 1 else 10
def rmP (np : Nat) (P : Nat → Tm) (T : Tm) : Nat → Tm := fun j => if np < 10 then (if j = np then T else P j) else (if j = 9 then T else P (j + 1))
def BC (I : MI) (G : MG) (L : Ld) (np : Nat) (P : Nat → Tm) : Prop := np ≤ 10 ∧ I 0 8 = nI np ∧ ∃ pq : Nat → Nat, (∀ j, j < 10 → G 34 j = some (pq j) ∧ pq j ∈ pstL) ∧ (∀ i j, i < 10 → j < 10 → pq i = pq j → i = j) ∧ ∀ j, j < np → RTc I (pq j) L (P j)
def BM (I : MI) (L : Ld) (np : Nat) (P : Nat → Tm) : Prop := I 122 28 = nI np ∧ ∀ j, j < np → RTm I (400 + 100 * j) L (P j)
theorem SB.two {I : MI} {G : MG} {L : Ld} (h : SB I G L) : ∃ np P, BC I G L np P ∧ BM I L np P ∧ ∀ j, j < np → WT L (P j) := by
  obtain ⟨np, P, pq, n1, n2, n3, n4, n5, n6⟩ := h
  exact ⟨np, P, ⟨n1, n2, pq, n4, n5, fun j hj => (n6 j hj).2.1⟩, ⟨n3, fun j hj => (n6 j hj).2.2⟩, fun j hj => (n6 j hj).1⟩
theorem SB.of {I : MI} {G : MG} {L : Ld} {np : Nat} {P : Nat → Tm} (h1 : BC I G L np P) (h2 : BM I L np P) (h3 : ∀ j, j < np → WT L (P j)) : SB I G L := by
  obtain ⟨n1, n2, pq, n4, n5, n6⟩ := h1
  exact ⟨np, P, pq, n1, n2, h2.1, n4, n5, fun j hj => ⟨h3 j hj, n6 j hj, h2.2 j hj⟩⟩
theorem BC.cg {I I' : MI} {G G' : MG} {L : Ld} {np : Nat} {P : Nat → Tm} (h : BC I G L np P) (hG : G' 34 = G 34) (h0 : I' 0 8 = I 0 8) (h1 : ∀ x, 50 ≤ x → x < 110 → I' x = I x) : BC I' G' L np P := by
  obtain ⟨n1, n2, pq, n4, n5, n6⟩ := h
  refine ⟨n1, h0.trans n2, pq, by rw [hG]; exact n4, n5, fun j hj => (n6 j hj).cg (fun x q1 q2 => ?_)⟩
  have := pst_is _ (n4 j (by omega)).2
  exact h1 x (by omega) (by omega)
theorem BM.cg {I I' : MI} {L : Ld} {np : Nat} {P : Nat → Tm} (wL : WLd L) (hn : np ≤ 10) (hw : ∀ j, j < np → WT L (P j)) (h : BM I L np P) (h0 : I' 122 28 = I 122 28) (h1 : ∀ k, 400 ≤ k → k < 1400 → I' 123 k = I 123 k) : BM I' L np P :=
  ⟨h0.trans h.1, fun j hj => (h.2 j hj).cg wL (hw j hj) (fun k q1 q2 => h1 k (by omega) (by omega))⟩
theorem rmP_w {L : Ld} {np : Nat} {P : Nat → Tm} {T : Tm} (hn : np ≤ 10) (w : ∀ j, j < np → WT L (P j)) (wT : WT L T) : ∀ j, j < rmN np → WT L (rmP np P T j) := by
  intro j hj
  unfold rmN at hj
  unfold rmP
  by_cases e : np < 10
  · rw [if_pos e] at hj ⊢
    by_cases e2 : j = np
    · rw [if_pos e2]; exact wT
    · rw [if_neg e2]; exact w j (by omega)
  · rw [if_neg e] at hj ⊢
    by_cases e2 : j = 9
    · rw [if_pos e2]; exact wT
    · rw [if_neg e2]; exact w (j + 1) (by omega)
section REM
variable {d : Nat} {I : MI} {G : MG} {J : MJ} {Φ : Ph} {a : Nat} {L : Ld} {T : Tm}
theorem s_remember (wL : WLd L) (hG : WG G) (wT : WT L T) (hT : RTc I 22 L T) {np : Nat} {P : Nat → Tm} (hB : BC I G L np P) (k : ∀ I' G', (∀ c, c ≠ 34 → G' c = G c) → (∀ x, ¬ (x = 0 ∨ (50 ≤ x ∧ x < 110)) → I' x = I x) → (∀ k, k ≠ 8 → I' 0 k = I 0 k) → BC I' G' L (rmN np) (rmP np P T) → Φ none 136 I' G' J) : Ev (d + 2) mX4_remember 136 0 [some (.ref 0), none, none] [] 136 I G J Φ := by
  obtain ⟨n1, n2, pq, n4, n5, n6⟩ := hB
  refine w_X4_remember hG (pq := pq) (fun j hj => ⟨(pst_is _ (n4 j hj).2).1, (n4 j hj).1⟩) ?_
  rw [n2, show (10 : Int32) = nI 10 from rfl, nI_ltI (by omega) (by omega)]
  have hap : ∀ i j, i < 10 → j < 10 → i ≠ j → pq i + 6 ≤ pq j ∨ pq j + 6 ≤ pq i := fun i j hi hj hij => isM_apart (pst_is _ (n4 i hi).2).1 (pst_is _ (n4 j hj).2).1 (fun e => hij (n5 i j hi hj e))
  refine ⟨fun z => ⟨vp_in_nI z (by decide), ?_⟩, fun z => ?_⟩
  · rw [nI_clamp (n := np) (by omega)]
    have hp := pst_is _ (n4 np z).2
    refine s_copyFrom hG hp.1 isM_22_ (by omega) (fun I1 f1 c1 => ⟨rfl, rfl, rfl, rfl, ?_⟩)
    have e8 : I1 0 8 + (1 : Int32) = nI (np + 1) := by rw [f1 0 (by omega), n2]; exact nI_1 np
    rw [e8]
    refine k _ G (fun _ _ => rfl) (fun x hx => ?_) (fun k hk => ?_) ⟨by unfold rmN; rw [if_pos z]; omega, by rw [u2_at]; unfold rmN; rw [if_pos z], pq, n4, n5, fun j hj => ?_⟩
    · rw [u2_row _ _ _ (by omega), f1 x (by omega)]
    · rw [u2_ne _ _ (by omega), f1 0 (by omega)]
    · unfold rmN at hj
      rw [if_pos z] at hj
      have hpj := pst_is _ (n4 j (by omega)).2
      unfold rmP
      rw [if_pos z]
      by_cases e : j = np
      · rw [if_pos e, e]
        exact (hT.cp wL wT c1).cg (fun x q1 q2 => by rw [u2_row _ _ _ (by omega)])
      · rw [if_neg e]
        have := hap j np (by omega) z e
        exact (n6 j (by omega)).cg (fun x q1 q2 => by rw [u2_row _ _ _ (by omega), f1 x (by omega)])
  · have key : ∀ i, i ≤ 10 → 1 ≤ i → ∀ G1 : MG, (∀ c, c ≠ 34 → G1 c = G c) → (∀ j, j < 10 → G1 34 j = some (if j + 1 < i then pq (j + 1) else pq j)) → Ev (d + 2) mX4_remember 136 18 [some (.ref 0), some (.ref (pq 0)), some (.int (nI i))] [] 136 I G1 J Φ := by
      refine down_ind (E := fun i => 1 ≤ i → ∀ G1 : MG, (∀ c, c ≠ 34 → G1 c = G c) → (∀ j, j < 10 → G1 34 j = some (if j + 1 < i then pq (j + 1) else pq j)) → Ev (d + 2) mX4_remember 136 18 [some (.ref 0), some (.ref (pq 0)), some (.int (nI i))] [] 136 I G1 J Φ) 10 ?_ ?_
      · intro _ G1 g1 g2
        have hG1 : WG G1 := hG.up34 g1
        have hp0 := pst_is _ (n4 0 (by omega)).2
        refine w_X4_remember_18 hG1 (pq := fun j => if j + 1 < 10 then pq (j + 1) else pq j) (fun j hj => ⟨?_, g2 j hj⟩) hp0.1 _ ⟨fun _ => ?_, fun q => absurd (nI_le (a := 10) (b := 10) (by omega) (by omega)) q⟩
        · by_cases e : j + 1 < 10
          · simp only [if_pos e]; exact (pst_is _ (n4 (j + 1) e).2).1
          · simp only [if_neg e]; exact (pst_is _ (n4 j hj).2).1
        · have g3 : ∀ c, c ≠ 34 → (u2 G1 34 9 (some (pq 0))) c = G c := fun c hc => by rw [u2_row _ _ _ hc, g1 c hc]
          refine s_copyFrom (hG.up34 g3) hp0.1 isM_22_ (by omega) (fun I1 f1 c1 => ⟨rfl, rfl, rfl, rfl, ?_⟩)
          have e8 : I1 0 8 + (1 : Int32) = nI 10 := by rw [f1 0 (by omega), u2_at]; rfl
          rw [e8]
          refine k _ _ g3 (fun x hx => ?_) (fun k hk => ?_) ⟨by unfold rmN; rw [if_neg z]; omega, by rw [u2_at]; unfold rmN; rw [if_neg z], fun j => if j < 9 then pq (j + 1) else pq 0, fun j hj => ?_, fun i j hi hj => ?_, fun j hj => ?_⟩
          · rw [u2_row _ _ _ (by omega), f1 x (by omega), u2_row _ _ _ (by omega)]
          · rw [u2_ne _ _ (by omega), f1 0 (by omega), u2_ne _ _ (by omega)]
          · by_cases e : j < 9
            · simp only [if_pos e]
              rw [u2_ne _ _ (by omega), g2 j hj, if_pos (by omega)]
              exact ⟨rfl, (n4 (j + 1) (by omega)).2⟩
            · simp only [if_neg e]
              rw [show j = 9 by omega, u2_at]
              exact ⟨rfl, (n4 0 (by omega)).2⟩
          · by_cases e : i < 9
            · by_cases e2 : j < 9
              · simp only [if_pos e, if_pos e2]
                intro h; have := n5 _ _ (by omega) (by omega) h; omega
              · simp only [if_pos e, if_neg e2]
                intro h; have := n5 _ _ (by omega) (by omega) h; omega
            · by_cases e2 : j < 9
              · simp only [if_neg e, if_pos e2]
                intro h; have := n5 _ _ (by omega) (by omega) h; omega
              · intro _; omega
          · unfold rmN at hj
            rw [if_neg z] at hj
            unfold rmP
            rw [if_neg z]
            by_cases e : j = 9
            · rw [if_pos e]
              simp only [if_neg (show ¬ j < 9 by omega)]
              have hT' : RTc (u2 I 0 8 (9 : Int32)) 22 L T := hT.cg (fun x q1 q2 => by rw [u2_row _ _ _ (by omega)])
              exact (hT'.cp wL wT c1).cg (fun x q1 q2 => by rw [u2_row _ _ _ (by omega)])
            · rw [if_neg e]
              simp only [if_pos (show j < 9 by omega)]
              have hpj := pst_is _ (n4 (j + 1) (by omega)).2
              have := hap (j + 1) 0 (by omega) (by omega) (by omega)
              exact (n6 (j + 1) (by omega)).cg (fun x q1 q2 => by rw [u2_row _ _ _ (by omega), f1 x (by omega), u2_row _ _ _ (by omega)])
      · intro i hi ih h1 G1 g1 g2
        have hG1 : WG G1 := hG.up34 g1
        have hp0 := pst_is _ (n4 0 (by omega)).2
        refine w_X4_remember_18 hG1 (pq := fun j => if j + 1 < i then pq (j + 1) else pq j) (fun j hj => ⟨?_, g2 j hj⟩) hp0.1 _ ⟨fun q => absurd q (nI_ge (a := i) (b := 10) (by omega) (by omega)), fun _ => ?_⟩
        · by_cases e : j + 1 < i
          · simp only [if_pos e]; exact (pst_is _ (n4 (j + 1) (by omega)).2).1
          · simp only [if_neg e]; exact (pst_is _ (n4 j hj).2).1
        · obtain ⟨m, rfl⟩ : ∃ m, i = m + 1 := ⟨i - 1, by omega⟩
          rw [show nI (m + 1) - (1 : Int32) = nI m from nI_pred m, show nI (m + 1) + (1 : Int32) = nI (m + 1 + 1) from nI_1 _, nI_clamp (n := m) (by omega), nI_clamp (n := m + 1) (by omega)]
          refine ⟨vp_in_nI (by omega) (by decide), vp_in_nI (by omega) (by decide), ih (by omega) _ (fun c hc => by rw [u2_row _ _ _ hc, g1 c hc]) (fun j hj => ?_)⟩
          by_cases e : j = m
          · subst e
            simp only [u2_at, if_neg (show ¬ j + 1 + 1 < j + 1 by omega), if_pos (show j + 1 < j + 1 + 1 by omega)]
          · rw [u2_ne _ _ (by omega), g2 j hj]
            by_cases e2 : j + 1 < m + 1
            · rw [if_pos e2, if_pos (by omega)]
            · rw [if_neg e2, if_neg (by omega)]
    exact key 1 (by omega) (by omega) G (fun _ _ => rfl) (fun j hj => by rw [if_neg (by omega)]; exact (n4 j hj).1)
theorem m_remember (wL : WLd L) (hG : WG G) (wT : WT L T) (hT : RTm I 0 L T) {np : Nat} {P : Nat → Tm} (hn : np ≤ 10) (hw : ∀ j, j < np → WT L (P j)) (hB : BM I L np P) (k : ∀ I', (∀ x, ¬ (x = 122 ∨ x = 123) → I' x = I x) → (∀ k, k ≠ 28 → I' 122 k = I 122 k) → (∀ k, k < 400 → I' 123 k = I 123 k) → BM I' L (rmN np) (rmP np P T) → Φ none 136 I' G J) : Ev (d + 1) mX5_remember 136 0 [some (.ref 122), none] [] 136 I G J Φ := by
  obtain ⟨n3, n6⟩ := hB
  refine w_X5_remember hG ?_
  rw [n3, show (10 : Int32) = nI 10 from rfl, nI_eq (by omega) (by omega), i400]
  refine ⟨fun z => ?_, fun z => ?_⟩
  · have z' : np < 10 := by omega
    refine m_copy (x := 0) hG (by omega) (by omega) (by omega) (fun I1 f1 c1 => ⟨rfl, rfl, rfl, rfl, ?_⟩)
    have e8 : I1 122 28 + (1 : Int32) = nI (np + 1) := by rw [f1.1 122 (by omega), n3]; exact nI_1 np
    rw [e8]
    refine k _ (fun x hx => ?_) (fun k hk => ?_) (fun k hk => ?_) ⟨by rw [u2_at]; unfold rmN; rw [if_pos z'], fun j hj => ?_⟩
    · rw [u2_row _ _ _ (by omega), f1.1 x (by omega)]
    · rw [u2_ne _ _ (by omega), f1.1 122 (by omega)]
    · rw [u2_row _ _ _ (by omega), f1.2 k (by omega)]
    · unfold rmN at hj
      rw [if_pos z'] at hj
      unfold rmP
      rw [if_pos z']
      by_cases e : j = np
      · rw [if_pos e, e]
        exact hT.cp wL wT (fun i hi => by rw [u2_row _ _ _ (by omega), c1 i hi])
      · rw [if_neg e]
        exact (n6 j (by omega)).cg wL (hw j (by omega)) (fun i q1 q2 => by rw [u2_row _ _ _ (by omega), f1.2 i (by omega)])
  · have key : ∀ i, i ≤ 10 → 1 ≤ i → ∀ I1 : MI, (∀ x, x ≠ 123 → I1 x = I x) → (∀ k, k < 400 → I1 123 k = I 123 k) → (∀ j, j < 10 → RTm I1 (400 + 100 * j) L (if j + 1 < i then P (j + 1) else P j)) → Ev (d + 1) mX5_remember 136 11 [some (.ref 122), some (.int (nI i))] [] 136 I1 G J Φ := by
      refine down_ind (E := fun i => 1 ≤ i → ∀ I1 : MI, (∀ x, x ≠ 123 → I1 x = I x) → (∀ k, k < 400 → I1 123 k = I 123 k) → (∀ j, j < 10 → RTm I1 (400 + 100 * j) L (if j + 1 < i then P (j + 1) else P j)) → Ev (d + 1) mX5_remember 136 11 [some (.ref 122), some (.int (nI i))] [] 136 I1 G J Φ) 10 ?_ ?_
      · intro _ I1 g1 g2 g3
        refine w_X5_remember_11 hG _ ⟨fun _ => ?_, fun q => absurd (nI_le (a := 10) (b := 10) (by omega) (by omega)) q⟩
        rw [g1 122 (by omega), n3, z, show nI 10 - (1 : Int32) = nI 9 from nI_pred 9, i400]
        refine m_copy (x := 0) hG (by omega) (by omega) (by omega) (fun I2 f1 c1 => ⟨rfl, rfl, rfl, rfl, ?_⟩)
        have e8 : I2 122 28 + (1 : Int32) = nI 10 := by rw [f1.1 122 (by omega), u2_at]; exact nI_1 9
        rw [e8]
        refine k _ (fun x hx => ?_) (fun k hk => ?_) (fun k hk => ?_) ⟨by rw [u2_at]; unfold rmN; rw [if_neg (by omega)], fun j hj => ?_⟩
        · rw [u2_row _ _ _ (by omega), f1.1 x (by omega), u2_row _ _ _ (by omega), g1 x (by omega)]
        · rw [u2_ne _ _ (by omega), f1.1 122 (by omega), u2_ne _ _ (by omega), g1 122 (by omega)]
        · rw [u2_row _ _ _ (by omega), f1.2 k (by omega), u2_row _ _ _ (by omega), g2 k hk]
        · unfold rmN at hj
          rw [if_neg (by omega)] at hj
          unfold rmP
          rw [if_neg (by omega)]
          by_cases e : j = 9
          · rw [if_pos e, e]
            exact hT.cp wL wT (fun i hi => by rw [u2_row _ _ _ (by omega), c1 i hi, u2_row _ _ _ (by omega), g2 _ (by omega)])
          · rw [if_neg e]
            have := g3 j (by omega)
            rw [if_pos (by omega)] at this
            exact this.cg wL (hw (j + 1) (by omega)) (fun i q1 q2 => by rw [u2_row _ _ _ (by omega), f1.2 i (by omega), u2_row _ _ _ (by omega)])
      · intro i hi ih h1 I1 g1 g2 g3
        obtain ⟨m, rfl⟩ : ∃ m, i = m + 1 := ⟨i - 1, by omega⟩
        refine w_X5_remember_11 hG _ ⟨fun q => absurd q (nI_ge (a := m + 1) (b := 10) (by omega) (by omega)), fun _ => ?_⟩
        rw [show nI (m + 1) - (1 : Int32) = nI m from nI_pred m, show nI (m + 1) + (1 : Int32) = nI (m + 1 + 1) from nI_1 _, i400, i400]
        refine m_copy hG (by omega) (by omega) (by omega) (fun I2 f1 c1 => ⟨rfl, rfl, rfl, rfl, ih (by omega) I2 (fun x hx => by rw [f1.1 x hx, g1 x hx]) (fun k hk => by rw [f1.2 k (by omega), g2 k hk]) (fun j hj => ?_)⟩)
        by_cases e : j = m
        · subst e
          have := g3 (j + 1) (by omega)
          rw [if_neg (by omega)] at this
          rw [if_pos (by omega)]
          exact this.cp wL (hw (j + 1) (by omega)) c1
        · have := g3 j hj
          by_cases e2 : j + 1 < m + 1
          · rw [if_pos e2] at this
            rw [if_pos (by omega)]
            exact this.cg wL (hw (j + 1) (by omega)) (fun i q1 q2 => by rw [f1.2 i (by omega)])
          · rw [if_neg e2] at this
            rw [if_neg (by omega)]
            exact this.cg wL (hw j (by omega)) (fun i q1 q2 => by rw [f1.2 i (by omega)])
    exact key 1 (by omega) (by omega) I (fun _ _ => rfl) (fun _ _ => rfl) (fun j hj => by rw [if_neg (by omega)]; exact n6 j (by omega))
end REM
