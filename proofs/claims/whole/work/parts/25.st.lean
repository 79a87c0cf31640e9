/-! ===== the whole state: the object and the reference side by side ===== -/
/-- a moment with its evenings -/
abbrev Tm : Type := Mo × Nat × (Nat → Nat → Nat)
def WT (L : Ld) (T : Tm) : Prop := WMo L T.1 ∧ WEv L T.2.1 T.2.2 ∧ T.1 0 1 < L 0 3 ∧ T.1 0 0 ≤ 99 ∧ ∀ h, h < L 0 0 → T.1 2 h ≤ 9 * T.1 0 0
def RTc (I : MI) (c : Nat) (L : Ld) (T : Tm) : Prop := RMc I c L T.1 ∧ REc I c L T.2.1 T.2.2
def RTm (I : MI) (x : Nat) (L : Ld) (T : Tm) : Prop := RMm I x L T.1 ∧ REm I x L T.2.1 T.2.2
theorem RTc.cg {I I' : MI} {c : Nat} {L : Ld} {T : Tm} (h : RTc I c L T) (hf : ∀ x, c ≤ x → x < c + 6 → I' x = I x) : RTc I' c L T := by
  refine ⟨h.1.congr (fun x h1 h2 => hf x h1 (by omega)), ?_, fun i hi => ?_⟩
  · rw [hf c (by omega) (by omega)]; exact h.2.1
  · rw [hf (c + 5) (by omega) (by omega)]; exact h.2.2 i hi
theorem RTm.cg {I I' : MI} {x : Nat} {L : Ld} {T : Tm} (wL : WLd L) (wT : WT L T) (h : RTm I x L T) (hf : ∀ k, x ≤ k → k < x + 100 → I' 123 k = I 123 k) : RTm I' x L T := by
  refine ⟨h.1.congr wL (fun k h1 h2 => hf k h1 (by omega)), ?_, fun i hi j hj => ?_⟩
  · rw [hf (x + 16) (by omega) (by omega)]; exact h.2.1
  · have := wL.1
    have := wT.2.1.1
    rw [hf _ (by omega) (by omega)]; exact h.2.2 i hi j hj
def SL (I : MI) (G : MG) (a : Nat) (L : Ld) : Prop := WG G ∧ isL a ∧ G 0 3 = some a ∧ (∃ b, isL b ∧ b ≠ a ∧ G 0 4 = some b) ∧ RLc I a L ∧ RLm I L ∧ WLd L
def SP (I : MI) (L : Ld) (T : Tm) : Prop := WT L T ∧ RTc I 22 L T ∧ RTm I 0 L T
def pstL : List Nat := [50, 56, 62, 68, 74, 80, 86, 92, 98, 104]
theorem pst_is_ : ∀ c ∈ pstL, c ∈ momL ∧ 50 ≤ c ∧ c ≤ 104 := by decide +kernel
theorem pst_is : ∀ c ∈ pstL, isM c ∧ 50 ≤ c ∧ c ≤ 104 := pst_is_
theorem isM_22_ : 22 ∈ momL := by decide +kernel
def SB (I : MI) (G : MG) (L : Ld) : Prop := ∃ (np : Nat) (P : Nat → Tm) (pq : Nat → Nat), np ≤ 10 ∧ I 0 8 = nI np ∧ I 122 28 = nI np ∧ (∀ j, j < 10 → G 34 j = some (pq j) ∧ pq j ∈ pstL) ∧ (∀ i j, i < 10 → j < 10 → pq i = pq j → i = j) ∧ ∀ j, j < np → WT L (P j) ∧ RTc I (pq j) L (P j) ∧ RTm I (400 + 100 * j) L (P j)
def SK (I : MI) (L : Ld) : Prop := ∀ b, b < 2 → (I 36 b = 0 ∧ I 124 b = 0) ∨ (I 36 b = 1 ∧ I 124 b = 1 ∧ ∃ T, WT L T ∧ RTc I (110 + 6 * b) L T ∧ RTm I (200 + 100 * b) L T)
def SS (I : MI) (L : Ld) : Prop := ∃ ns, ns ≤ 6 ∧ I 0 13 = nI ns ∧ I 122 31 = nI ns ∧ ∀ i, i < ns → ∃ h s, h < L 0 0 ∧ s ≤ 9 ∧ I 37 i = nI h ∧ I 134 i = nI h ∧ I 38 i = nI s ∧ I 135 i = nI s
def SX (I : MI) : Prop := ∃ nt, nt ≤ 200 ∧ I 0 1 = nI nt ∧ I 122 22 = nI nt ∧ ∀ i, i < nt → ∃ c, c < 256 ∧ I 1 i = nI c ∧ I 133 i = nI c
section CG
variable {I I' : MI} {G G' : MG} {a : Nat} {L : Ld} {T : Tm}
theorem SL.cg (h : SL I G a L) (h1 : ∀ x, 4 ≤ x → x < 22 → I' x = I x) (h2 : ∀ k, 10 ≤ k → k < 15 → I' 122 k = I 122 k) (h3 : ∀ y, 125 ≤ y → y < 133 → I' y = I y) : SL I' G a L := by
  obtain ⟨hG, ha, hg, hb, hc, hm, w⟩ := h
  have hl := isL_or ha
  refine ⟨hG, ha, hg, hb, hc.congr (fun x q1 q2 => h1 x (by omega) (by omega)), ?_, w⟩
  unfold RLm
  rw [h2 10 (by omega) (by omega), h2 11 (by omega) (by omega), h2 12 (by omega) (by omega), h2 13 (by omega) (by omega), h2 14 (by omega) (by omega), h3 125 (by omega) (by omega), h3 126 (by omega) (by omega), h3 127 (by omega) (by omega), h3 128 (by omega) (by omega), h3 129 (by omega) (by omega), h3 130 (by omega) (by omega), h3 131 (by omega) (by omega), h3 132 (by omega) (by omega)]
  exact hm
theorem SP.cg (wL : WLd L) (h : SP I L T) (h1 : ∀ x, 22 ≤ x → x < 28 → I' x = I x) (h2 : ∀ k, k < 100 → I' 123 k = I 123 k) : SP I' L T :=
  ⟨h.1, h.2.1.cg h1, h.2.2.cg wL h.1 (fun k _ q => h2 k (by omega))⟩
theorem SB.cg (wL : WLd L) (h : SB I G L) (h0 : I' 0 8 = I 0 8) (h0' : I' 122 28 = I 122 28) (h1 : ∀ x, 50 ≤ x → x < 110 → I' x = I x) (h2 : ∀ k, 400 ≤ k → k < 1400 → I' 123 k = I 123 k) : SB I' G L := by
  obtain ⟨np, P, pq, e1, e2, e3, e4, e5, e6⟩ := h
  refine ⟨np, P, pq, e1, h0.trans e2, h0'.trans e3, e4, e5, fun j hj => ?_⟩
  have := pst_is _ (e4 j (by omega)).2
  exact ⟨(e6 j hj).1, (e6 j hj).2.1.cg (fun x q1 q2 => h1 x (by omega) (by omega)), (e6 j hj).2.2.cg wL (e6 j hj).1 (fun k q1 q2 => h2 k (by omega) (by omega))⟩
theorem SK.cg (wL : WLd L) (h : SK I L) (h0 : I' 36 = I 36) (h0' : I' 124 = I 124) (h1 : ∀ x, 110 ≤ x → x < 122 → I' x = I x) (h2 : ∀ k, 200 ≤ k → k < 400 → I' 123 k = I 123 k) : SK I' L := by
  intro b hb
  rw [h0, h0']
  rcases h b hb with q | ⟨q1, q2, T, w, q3, q4⟩
  · exact Or.inl q
  · exact Or.inr ⟨q1, q2, T, w, q3.cg (fun x p1 p2 => h1 x (by omega) (by omega)), q4.cg wL w (fun k p1 p2 => h2 k (by omega) (by omega))⟩
theorem SS.cg (h : SS I L) (h0 : I' 0 13 = I 0 13) (h1 : I' 122 31 = I 122 31) (h2 : I' 37 = I 37) (h3 : I' 38 = I 38) (h4 : I' 134 = I 134) (h5 : I' 135 = I 135) : SS I' L := by
  unfold SS
  rw [h0, h1, h2, h3, h4, h5]
  exact h
theorem SX.cg (h : SX I) (h0 : I' 0 1 = I 0 1) (h1 : I' 122 22 = I 122 22) (h2 : I' 1 = I 1) (h3 : I' 133 = I 133) : SX I' := by
  unfold SX
  rw [h0, h1, h2, h3]
  exact h
end CG
/-- the rows that never change -/
def SU (I : MI) (G : MG) : Prop := (oul G 1001 = 6 ∧ oul G 1002 = 6 ∧ oul G 1003 = 4 ∧ oul G 1004 = 4) ∧ (∀ k, k < 6 → I 1001 k = nI ([0, 0, 0, 1, 2, 0].getD k 0) ∧ I 1002 k = nI ([1, 10, 100, 1000, 10000, 100000].getD k 0)) ∧ (∀ k, k < 4 → I 1003 k = nI ([2, 0, 0, 1].getD k 0) ∧ I 1004 k = nI ([9, 5, 511, 9].getD k 0))
theorem SU.cg {I I' : MI} {G : MG} (h : SU I G) (hf : ∀ x, 1000 < x → I' x = I x) : SU I' G := by
  unfold SU
  rw [hf 1001 (by omega), hf 1002 (by omega), hf 1003 (by omega), hf 1004 (by omega)]
  exact h
def SR (I : MI) (G : MG) (J : MJ) (a : Nat) (L : Ld) (T : Tm) : Prop := SL I G a L ∧ SP I L T ∧ SB I G L ∧ SK I L ∧ SS I L ∧ SX I ∧ J 0 15 = J 122 32 ∧ SU I G
/-- what stays of memory that the script lies in -/
def Kp (I : MI) (G : MG) (I' : MI) (G' : MG) : Prop := I' 1000 = I 1000 ∧ oul G' 1000 = oul G 1000
def Q2 (I : MI) (G : MG) (r : Option Value) : Ph := fun r' n I' G' J' => n = 136 ∧ r' = r ∧ Kp I G I' G' ∧ ∃ a L T, SR I' G' J' a L T
/-- the reference's call behind the object's: the same answer, and side by side again -/
def P2 (I : MI) (G : MG) (d : Nat) (M : Mt) (ls : List (Option Value)) : Ph := fun r n I' G' J' => n = 136 ∧ (∃ v, r = some (.int v)) ∧ Ev d M 136 0 ls [] 136 I' G' J' (Q2 I G r)
def P2l (I : MI) (G : MG) (d : Nat) (M : Mt) (ls : List (Option Value)) : Ph := fun r n I' G' J' => n = 136 ∧ (∃ v, r = some (.long v)) ∧ Ev d M 136 0 ls [] 136 I' G' J' (Q2 I G r)
section OPS
variable {d : Nat} {I : MI} {G : MG} {J : MJ} {Φ : Ph} {a : Nat} {L : Ld} {T : Tm}
theorem SR.cl (S : SR I G J a L T) : Cl I G a L := ⟨S.1.1, S.1.2.1, S.1.2.2.2.2.1, S.1.2.2.2.2.2.2⟩
theorem SR.cm (S : SR I G J a L T) : Cm I G a 22 L T.1 := ⟨S.1.1, isM_22_, S.1.2.1, S.1.2.2.2.2.1, S.2.1.2.1.1, S.1.2.2.2.2.2.2, S.2.1.1.1⟩
theorem SR.ml (S : SR I G J a L T) : Ml I G L := ⟨S.1.1, S.1.2.2.2.2.2.1, S.1.2.2.2.2.2.2⟩
theorem SR.mm (S : SR I G J a L T) : Mm I G 0 L T.1 := ⟨S.1.1, S.1.2.2.2.2.2.1, S.2.1.2.2.1, S.1.2.2.2.2.2.2, S.2.1.1.1, by omega⟩
theorem SR.w (S : SR I G J a L T) : WLd L := S.1.2.2.2.2.2.2
theorem Kp.rf : Kp I G I G := ⟨rfl, rfl⟩
theorem via {v w : Int32} (h : v = w) (k : Φ (some (.int v)) 136 I G J) : Φ (some (.int w)) 136 I G J := h ▸ k
theorem hill_of {n : Nat} (hn : n ≤ 200) {x : Int32} (h : 0 ≤ x ∧ x < nI n) : ∃ j, j < n ∧ x = nI j := by
  obtain ⟨j, hj, e⟩ := nI_of (fun z => Int32.not_lt.mpr h.1 z)
  subst e
  exact ⟨j, (nI_ltI hj (by omega)).mp h.2, rfl⟩
theorem SR.upx {I' : MI} (S : SR I G J a L T) (h1 : ∀ x, ¬ (x = 0 ∨ x = 1 ∨ x = 37 ∨ x = 38 ∨ x = 122 ∨ x = 133 ∨ x = 134 ∨ x = 135) → I' x = I x) (h2 : I' 0 8 = I 0 8) (h3 : ∀ k, ¬ (k = 22 ∨ k = 31) → I' 122 k = I 122 k) (sS : SS I' L) (sX : SX I') : Kp I G I' G ∧ ∃ a L T, SR I' G J a L T := by
  obtain ⟨s1, s2, s3, s4, s5, s6, s7, s8⟩ := S
  have w := s1.2.2.2.2.2.2
  refine ⟨⟨h1 1000 (by omega), rfl⟩, a, L, T, ?_, ?_, ?_, ?_, sS, sX, s7, ?_⟩
  · exact s1.cg (fun x q1 q2 => h1 x (by omega)) (fun k q1 q2 => h3 k (by omega)) (fun x q1 q2 => h1 x (by omega))
  · exact s2.cg w (fun x q1 q2 => h1 x (by omega)) (fun k q => by rw [h1 123 (by omega)])
  · exact s3.cg w h2 (h3 28 (by omega)) (fun x q1 q2 => h1 x (by omega)) (fun k q q2 => by rw [h1 123 (by omega)])
  · exact s4.cg w (h1 36 (by omega)) (h1 124 (by omega)) (fun x q1 q2 => h1 x (by omega)) (fun k q q2 => by rw [h1 123 (by omega)])
  · exact s8.cg (fun x hx => h1 x (by omega))
theorem p_clear (S : SR I G J a L T) : Ev d mX4_clear 136 0 [some (.ref 0), none] [] 136 I G J (P2 I G d mX5_clear [some (.ref 122), none]) := by
  obtain ⟨nt, n1, n2, n3, n4⟩ := S.2.2.2.2.2.1
  refine w_X4_clear S.1.1 ⟨rfl, ⟨_, rfl⟩, w_X5_clear S.1.1 ⟨rfl, ?_, S.upx (fun x q => ?_) ?_ (fun k q => ?_) (S.2.2.2.2.1.cg ?_ ?_ ?_ ?_ ?_ ?_) ⟨0, by omega, ?_, ?_, fun i hi => absurd hi (by omega)⟩⟩⟩
  · rw [u2_row _ _ _ (by decide), n2, n3]
  · rw [u2_row _ _ _ (by omega), u2_row _ _ _ (by omega)]
  · rw [u2_row _ _ _ (by omega), u2_ne _ _ (by omega)]
  · rw [u2_ne _ _ (by omega), u2_row _ _ _ (by omega)]
  · rw [u2_row _ _ _ (by omega), u2_ne _ _ (by omega)]
  · rw [u2_ne _ _ (by omega), u2_row _ _ _ (by omega)]
  · rw [u2_row _ _ _ (by omega), u2_row _ _ _ (by omega)]
  · rw [u2_row _ _ _ (by omega), u2_row _ _ _ (by omega)]
  · rw [u2_row _ _ _ (by omega), u2_row _ _ _ (by omega)]
  · rw [u2_row _ _ _ (by omega), u2_row _ _ _ (by omega)]
  · rw [u2_row _ _ _ (by omega), u2_at]; rfl
  · rw [u2_at]; rfl
theorem p_forget (S : SR I G J a L T) : Ev d mX4_forget 136 0 [some (.ref 0), none] [] 136 I G J (P2 I G d mX5_forget [some (.ref 122), none]) := by
  obtain ⟨nt, n1, n2, n3, n4⟩ := S.2.2.2.2.1
  refine w_X4_forget S.1.1 ⟨rfl, ⟨_, rfl⟩, w_X5_forget S.1.1 ⟨rfl, ?_, S.upx (fun x q => ?_) ?_ (fun k q => ?_) ⟨0, by omega, ?_, ?_, fun i hi => absurd hi (by omega)⟩ (S.2.2.2.2.2.1.cg ?_ ?_ ?_ ?_)⟩⟩
  · rw [u2_row _ _ _ (by decide), n2, n3]
  · rw [u2_row _ _ _ (by omega), u2_row _ _ _ (by omega)]
  · rw [u2_row _ _ _ (by omega), u2_ne _ _ (by omega)]
  · rw [u2_ne _ _ (by omega), u2_row _ _ _ (by omega)]
  · rw [u2_row _ _ _ (by omega), u2_at]; rfl
  · rw [u2_at]; rfl
  · rw [u2_row _ _ _ (by omega), u2_ne _ _ (by omega)]
  · rw [u2_ne _ _ (by omega), u2_row _ _ _ (by omega)]
  · rw [u2_row _ _ _ (by omega), u2_row _ _ _ (by omega)]
  · rw [u2_row _ _ _ (by omega), u2_row _ _ _ (by omega)]
theorem p_trace (S : SR I G J a L T) : Ev d mX4_trace 136 0 [some (.ref 0)] [] 136 I G J (P2l I G d mX5_trace [some (.ref 122)]) := by
  refine w_X4_trace S.1.1 ⟨rfl, ⟨_, rfl⟩, w_X5_trace S.1.1 ⟨rfl, ?_, Kp.rf, a, L, T, S⟩⟩
  rw [S.2.2.2.2.2.2.1]
/-- an answer that changes nothing -/
theorem SR.same {v : Int32} (S : SR I G J a L T) {M : Mt} {ls : List (Option Value)} (h : Ev d M 136 0 ls [] 136 I G J (fun r n I' G' J' => r = some (.int v) ∧ n = 136 ∧ I = I' ∧ G = G' ∧ J = J')) : P2 I G d M ls (some (.int v)) 136 I G J := by
  refine ⟨rfl, ⟨_, rfl⟩, Ev.post ?_ h⟩
  rintro r n I' G' J' ⟨h1, h2, rfl, rfl, rfl⟩
  exact ⟨h2, h1, Kp.rf, a, L, T, S⟩
def oCount (L : Ld) (I : MI) (x : Int32) : Int32 := if x = nI 0 then nI (L 0 0) else if x = nI 1 then nI (L 0 1) else if x = nI 2 then nI (L 0 2) else if x = nI 3 then nI (L 0 3) else if x = nI 4 then nI (L 0 4) else if x = nI 5 then I 0 13 else if x = nI 6 then I 0 1 else -1
theorem p_count (S : SR I G J a L T) (x : Int32) : Ev d mX4_count 136 0 [some (.ref 0), some (.int x)] [] 136 I G J (P2 I G d mX5_count [some (.ref 122), some (.int x)]) := by
  obtain ⟨nt, n1, n2, n3, n4⟩ := S.2.2.2.2.2.1
  obtain ⟨ns, s1, s2, s3, s4⟩ := S.2.2.2.2.1
  have k : P2 I G d mX5_count [some (.ref 122), some (.int x)] (some (.int (oCount L I x))) 136 I G J := by
    refine S.same (w_X5_count S.1.1 x ?_)
    refine ⟨fun (q0 : x = nI 0) => ⟨?_, rfl, rfl, rfl, rfl⟩, fun (q0 : ¬ x = nI 0) => ⟨fun (q1 : x = nI 1) => ⟨?_, rfl, rfl, rfl, rfl⟩, fun (q1 : ¬ x = nI 1) => ⟨fun (q2 : x = nI 2) => ⟨?_, rfl, rfl, rfl, rfl⟩, fun (q2 : ¬ x = nI 2) => ⟨fun (q3 : x = nI 3) => ⟨?_, rfl, rfl, rfl, rfl⟩, fun (q3 : ¬ x = nI 3) => ⟨fun (q4 : x = nI 4) => ⟨?_, rfl, rfl, rfl, rfl⟩, fun (q4 : ¬ x = nI 4) => ⟨fun (q5 : x = nI 5) => ⟨?_, rfl, rfl, rfl, rfl⟩, fun (q5 : ¬ x = nI 5) => ⟨fun (q6 : x = nI 6) => ⟨?_, rfl, rfl, rfl, rfl⟩, fun (q6 : ¬ x = nI 6) => ⟨?_, rfl, rfl, rfl, rfl⟩⟩⟩⟩⟩⟩⟩⟩
    · refine congrArg (fun v => some (Value.int v)) (Eq.symm ?_); unfold oCount; rw [if_pos q0]; exact S.1.2.2.2.2.2.1.1.1.symm
    · refine congrArg (fun v => some (Value.int v)) (Eq.symm ?_); unfold oCount; rw [if_neg q0, if_pos q1]; exact S.1.2.2.2.2.2.1.1.2.1.symm
    · refine congrArg (fun v => some (Value.int v)) (Eq.symm ?_); unfold oCount; rw [if_neg q0, if_neg q1, if_pos q2]; exact S.1.2.2.2.2.2.1.1.2.2.1.symm
    · refine congrArg (fun v => some (Value.int v)) (Eq.symm ?_); unfold oCount; rw [if_neg q0, if_neg q1, if_neg q2, if_pos q3]; exact S.1.2.2.2.2.2.1.1.2.2.2.1.symm
    · refine congrArg (fun v => some (Value.int v)) (Eq.symm ?_); unfold oCount; rw [if_neg q0, if_neg q1, if_neg q2, if_neg q3, if_pos q4]; exact S.1.2.2.2.2.2.1.1.2.2.2.2.symm
    · refine congrArg (fun v => some (Value.int v)) (Eq.symm ?_); unfold oCount; rw [if_neg q0, if_neg q1, if_neg q2, if_neg q3, if_neg q4, if_pos q5]; exact s2.trans s3.symm
    · refine congrArg (fun v => some (Value.int v)) (Eq.symm ?_); unfold oCount; rw [if_neg q0, if_neg q1, if_neg q2, if_neg q3, if_neg q4, if_neg q5, if_pos q6]; exact n2.trans n3.symm
    · refine congrArg (fun v => some (Value.int v)) (Eq.symm ?_); unfold oCount; rw [if_neg q0, if_neg q1, if_neg q2, if_neg q3, if_neg q4, if_neg q5, if_neg q6]
  refine w_X4_count S.1.1 S.1.2.1 S.1.2.2.1 x ⟨fun (q0 : x = nI 0) => via ?_ k, fun (q0 : ¬ x = nI 0) => ⟨fun (q1 : x = nI 1) => via ?_ k, fun (q1 : ¬ x = nI 1) => ⟨fun (q2 : x = nI 2) => via ?_ k, fun (q2 : ¬ x = nI 2) => ⟨fun (q3 : x = nI 3) => via ?_ k, fun (q3 : ¬ x = nI 3) => ⟨fun (q4 : x = nI 4) => via ?_ k, fun (q4 : ¬ x = nI 4) => ⟨fun (q5 : x = nI 5) => via ?_ k, fun (q5 : ¬ x = nI 5) => ⟨fun (q6 : x = nI 6) => via ?_ k, fun (q6 : ¬ x = nI 6) => via ?_ k⟩⟩⟩⟩⟩⟩⟩
  · unfold oCount; rw [if_pos q0]; exact S.1.2.2.2.2.1.1.1.symm
  · unfold oCount; rw [if_neg q0, if_pos q1]; exact S.1.2.2.2.2.1.1.2.1.symm
  · unfold oCount; rw [if_neg q0, if_neg q1, if_pos q2]; exact S.1.2.2.2.2.1.1.2.2.1.symm
  · unfold oCount; rw [if_neg q0, if_neg q1, if_neg q2, if_pos q3]; exact S.1.2.2.2.2.1.1.2.2.2.1.symm
  · unfold oCount; rw [if_neg q0, if_neg q1, if_neg q2, if_neg q3, if_pos q4]; exact S.1.2.2.2.2.1.1.2.2.2.2.symm
  · unfold oCount; rw [if_neg q0, if_neg q1, if_neg q2, if_neg q3, if_neg q4, if_pos q5]
  · unfold oCount; rw [if_neg q0, if_neg q1, if_neg q2, if_neg q3, if_neg q4, if_neg q5, if_pos q6]
  · unfold oCount; rw [if_neg q0, if_neg q1, if_neg q2, if_neg q3, if_neg q4, if_neg q5, if_neg q6]
def oNow (L : Ld) (T : Tm) (I : MI) (x : Int32) : Int32 := if x = nI 0 then nI (T.1 0 0) else if x = nI 1 then nI (T.1 0 1) else if x = nI 2 then nI (ovN L T.1) else if x = nI 3 then nI T.2.1 else if x = nI 4 then I 0 8 else -1
theorem p_now (S : SR I G J a L T) (x : Int32) : Ev (d + 2) mX4_now 136 0 [some (.ref 0), some (.int x)] [] 136 I G J (P2 I G (d + 2) mX5_now [some (.ref 122), some (.int x)]) := by
  obtain ⟨np, PP, pq, n1, n2, n3, n4⟩ := S.2.2.1
  have k : P2 I G (d + 2) mX5_now [some (.ref 122), some (.int x)] (some (.int (oNow L T I x))) 136 I G J := by
    refine S.same (w_X5_now S.1.1 x ?_)
    refine ⟨fun (q0 : x = nI 0) => ⟨?_, rfl, rfl, rfl, rfl⟩, fun (q0 : ¬ x = nI 0) => ⟨fun (q1 : x = nI 1) => ⟨?_, rfl, rfl, rfl, rfl⟩, fun (q1 : ¬ x = nI 1) => ⟨fun (q2 : x = nI 2) => m_over S.mm ⟨_, rfl, rfl, rfl, rfl, rfl, ⟨?_, rfl, rfl, rfl, rfl⟩⟩, fun (q2 : ¬ x = nI 2) => ⟨fun (q3 : x = nI 3) => ⟨?_, rfl, rfl, rfl, rfl⟩, fun (q3 : ¬ x = nI 3) => ⟨fun (q4 : x = nI 4) => ⟨?_, rfl, rfl, rfl, rfl⟩, fun (q4 : ¬ x = nI 4) => ⟨?_, rfl, rfl, rfl, rfl⟩⟩⟩⟩⟩⟩
    · refine congrArg (fun v => some (Value.int v)) (Eq.symm ?_); unfold oNow; rw [if_pos q0]; exact S.2.1.2.2.1.1.1.symm
    · refine congrArg (fun v => some (Value.int v)) (Eq.symm ?_); unfold oNow; rw [if_neg q0, if_pos q1]; exact S.2.1.2.2.1.1.2.symm
    · refine congrArg (fun v => some (Value.int v)) (Eq.symm ?_); unfold oNow; rw [if_neg q0, if_neg q1, if_pos q2]
    · refine congrArg (fun v => some (Value.int v)) (Eq.symm ?_); unfold oNow; rw [if_neg q0, if_neg q1, if_neg q2, if_pos q3]; exact S.2.1.2.2.2.1.symm
    · refine congrArg (fun v => some (Value.int v)) (Eq.symm ?_); unfold oNow; rw [if_neg q0, if_neg q1, if_neg q2, if_neg q3, if_pos q4]; exact n2.trans n3.symm
    · refine congrArg (fun v => some (Value.int v)) (Eq.symm ?_); unfold oNow; rw [if_neg q0, if_neg q1, if_neg q2, if_neg q3, if_neg q4]
  refine w_X4_now S.1.1 S.1.2.1 S.1.2.2.1 x ⟨fun (q0 : x = nI 0) => via ?_ k, fun (q0 : ¬ x = nI 0) => ⟨fun (q1 : x = nI 1) => via ?_ k, fun (q1 : ¬ x = nI 1) => ⟨fun (q2 : x = nI 2) => s_overBits S.cm ⟨_, rfl, rfl, rfl, rfl, rfl, via ?_ k⟩, fun (q2 : ¬ x = nI 2) => ⟨fun (q3 : x = nI 3) => via ?_ k, fun (q3 : ¬ x = nI 3) => ⟨fun (q4 : x = nI 4) => via ?_ k, fun (q4 : ¬ x = nI 4) => via ?_ k⟩⟩⟩⟩⟩
  · unfold oNow; rw [if_pos q0]; exact S.2.1.2.1.1.1.1.symm
  · unfold oNow; rw [if_neg q0, if_pos q1]; exact S.2.1.2.1.1.1.2.symm
  · unfold oNow; rw [if_neg q0, if_neg q1, if_pos q2]
  · unfold oNow; rw [if_neg q0, if_neg q1, if_neg q2, if_pos q3]; exact S.2.1.2.1.2.1.symm
  · unfold oNow; rw [if_neg q0, if_neg q1, if_neg q2, if_neg q3, if_pos q4]
  · unfold oNow; rw [if_neg q0, if_neg q1, if_neg q2, if_neg q3, if_neg q4]
def oHill (L : Ld) (x1 x2 : Int32) : Int32 := if 0 ≤ x1 ∧ x1 < nI (L 0 0) then (if x2 = nI 0 then nI (L 1 x1.toNatClampNeg) else if x2 = nI 1 then nI (L 2 x1.toNatClampNeg) else if x2 = nI 2 then nI (L 3 x1.toNatClampNeg) else if x2 = nI 3 then nI (L 4 x1.toNatClampNeg) else -1) else -1
theorem p_hill (S : SR I G J a L T) (x1 x2 : Int32) : Ev (d + 1) mX4_hill 136 0 [some (.ref 0), some (.int x1), some (.int x2)] [] 136 I G J (P2 I G (d + 2) mX5_hill [some (.ref 122), some (.int x1), some (.int x2)]) := by
  have wL := S.w
  have k : P2 I G (d + 2) mX5_hill [some (.ref 122), some (.int x1), some (.int x2)] (some (.int (oHill L x1 x2))) 136 I G J := by
    refine S.same (w_X5_hill S.1.1 x1 x2 (m_isHill S.ml x1 ⟨_, rfl, rfl, rfl, rfl, rfl, ?_⟩))
    rw [if01]
    refine ⟨fun p => ?_, fun p => ⟨?_, rfl, rfl, rfl, rfl⟩⟩
    · have hx := Decidable.not_not.mp p
      obtain ⟨h, hh, e⟩ := hill_of (by have := wL.1; have := wL.2.2.1; omega) hx
      have b := wL.h hh
      have hr := S.1.2.2.2.2.2.1.2.1 h hh
      subst e
      refine ⟨fun (q0 : ¬ x2 = nI 0) => ⟨fun (q1 : ¬ x2 = nI 1) => ⟨fun (q2 : ¬ x2 = nI 2) => ⟨fun (q3 : ¬ x2 = nI 3) => ⟨?_, rfl, rfl, rfl, rfl⟩, fun (q3 : x2 = nI 3) => ⟨vp_in_nI (by omega) (by decide), ?_, rfl, rfl, rfl, rfl⟩⟩, fun (q2 : x2 = nI 2) => ⟨vp_in_nI (by omega) (by decide), ?_, rfl, rfl, rfl, rfl⟩⟩, fun (q1 : x2 = nI 1) => ⟨vp_in_nI (by omega) (by decide), ?_, rfl, rfl, rfl, rfl⟩⟩, fun (q0 : x2 = nI 0) => ⟨vp_in_nI (by omega) (by decide), ?_, rfl, rfl, rfl, rfl⟩⟩
      · refine congrArg (fun v => some (Value.int v)) (Eq.symm ?_); unfold oHill; rw [if_pos hx, if_neg q0, if_neg q1, if_neg q2, if_neg q3]
      · refine congrArg (fun v => some (Value.int v)) (Eq.symm ?_); unfold oHill; rw [if_pos hx, if_neg q0, if_neg q1, if_neg q2, if_pos q3]; rw [nI_clamp (n := h) (by omega)]; exact hr.2.2.2.symm
      · refine congrArg (fun v => some (Value.int v)) (Eq.symm ?_); unfold oHill; rw [if_pos hx, if_neg q0, if_neg q1, if_pos q2]; rw [nI_clamp (n := h) (by omega)]; exact hr.2.2.1.symm
      · refine congrArg (fun v => some (Value.int v)) (Eq.symm ?_); unfold oHill; rw [if_pos hx, if_neg q0, if_pos q1]; rw [nI_clamp (n := h) (by omega)]; exact hr.2.1.symm
      · refine congrArg (fun v => some (Value.int v)) (Eq.symm ?_); unfold oHill; rw [if_pos hx, if_pos q0]; rw [nI_clamp (n := h) (by omega)]; exact hr.1.symm
    · refine congrArg (fun v => some (Value.int v)) (Eq.symm ?_); unfold oHill; rw [if_neg p]
  refine w_X4_hill S.1.1 S.1.2.1 S.1.2.2.1 x1 x2 (s_hasHill S.cl x1 ⟨_, rfl, rfl, rfl, rfl, rfl, ?_⟩)
  rw [if01]
  refine ⟨fun p => ?_, fun p => via ?_ k⟩
  · have hx := Decidable.not_not.mp p
    obtain ⟨h, hh, e⟩ := hill_of (by have := wL.1; have := wL.2.2.1; omega) hx
    have b := wL.h hh
    have hr := S.1.2.2.2.2.1.2.1 h hh
    subst e
    refine ⟨fun (q0 : x2 = nI 0) => ⟨vp_in_nI (by omega) (by decide), via ?_ k⟩, fun (q0 : ¬ x2 = nI 0) => ⟨fun (q1 : x2 = nI 1) => ⟨vp_in_nI (by omega) (by decide), via ?_ k⟩, fun (q1 : ¬ x2 = nI 1) => ⟨fun (q2 : x2 = nI 2) => ⟨vp_in_nI (by omega) (by decide), via ?_ k⟩, fun (q2 : ¬ x2 = nI 2) => ⟨fun (q3 : x2 = nI 3) => ⟨vp_in_nI (by omega) (by decide), via ?_ k⟩, fun (q3 : ¬ x2 = nI 3) => via ?_ k⟩⟩⟩⟩
    · unfold oHill; rw [if_pos hx, if_pos q0]; rw [nI_clamp (n := h) (by omega)]; exact hr.1.symm
    · unfold oHill; rw [if_pos hx, if_neg q0, if_pos q1]; rw [nI_clamp (n := h) (by omega)]; exact hr.2.1.symm
    · unfold oHill; rw [if_pos hx, if_neg q0, if_neg q1, if_pos q2]; rw [nI_clamp (n := h) (by omega)]; exact hr.2.2.1.symm
    · unfold oHill; rw [if_pos hx, if_neg q0, if_neg q1, if_neg q2, if_pos q3]; rw [nI_clamp (n := h) (by omega)]; exact hr.2.2.2.symm
    · unfold oHill; rw [if_pos hx, if_neg q0, if_neg q1, if_neg q2, if_neg q3]
  · unfold oHill; rw [if_neg p]
def oStone (L : Ld) (T : Tm) (x1 x2 : Int32) : Int32 := if 0 ≤ x1 ∧ x1 < nI (L 0 0) then (if x2 = nI 0 then nI (T.1 1 x1.toNatClampNeg) else if x2 = nI 1 then nI (szN L T.1 x1.toNatClampNeg) else if x2 = nI 2 then nI (T.1 2 x1.toNatClampNeg) else if x2 = nI 3 then (if ovr L T.1 x1.toNatClampNeg then 1 else 0) else -1) else -1
theorem p_stone (S : SR I G J a L T) (x1 x2 : Int32) : Ev (d + 2) mX4_stone 136 0 [some (.ref 0), some (.int x1), some (.int x2)] [] 136 I G J (P2 I G (d + 2) mX5_stone [some (.ref 122), some (.int x1), some (.int x2)]) := by
  have wL := S.w
  have k : P2 I G (d + 2) mX5_stone [some (.ref 122), some (.int x1), some (.int x2)] (some (.int (oStone L T x1 x2))) 136 I G J := by
    refine S.same (w_X5_stone S.1.1 x1 x2 (m_isHill S.ml x1 ⟨_, rfl, rfl, rfl, rfl, rfl, ?_⟩))
    rw [if01]
    refine ⟨fun p => ?_, fun p => ⟨?_, rfl, rfl, rfl, rfl⟩⟩
    · have hx := Decidable.not_not.mp p
      obtain ⟨h, hh, e⟩ := hill_of (by have := wL.1; have := wL.2.2.1; omega) hx
      have b := wL.h hh
      have hr := S.2.1.2.2.1.2.1 h hh
      simp only [Nat.zero_add] at hr
      subst e
      refine ⟨fun (q0 : ¬ x2 = nI 0) => ⟨fun (q1 : ¬ x2 = nI 1) => ⟨fun (q2 : ¬ x2 = nI 2) => ⟨fun (q3 : ¬ x2 = nI 3) => ⟨?_, rfl, rfl, rfl, rfl⟩, fun (q3 : x2 = nI 3) => m_isOver S.mm hh ⟨_, rfl, rfl, rfl, rfl, rfl, m_one S.1.1 ⟨_, rfl, rfl, rfl, rfl, rfl, ⟨?_, rfl, rfl, rfl, rfl⟩⟩⟩⟩, fun (q2 : x2 = nI 2) => ⟨(nI_add 4 h ▸ vp_in_nI (by omega) (by decide) : vp_in (nI 4 + nI h) 1400), ?_, rfl, rfl, rfl, rfl⟩⟩, fun (q1 : x2 = nI 1) => m_sizeIn S.mm hh ⟨_, rfl, rfl, rfl, rfl, rfl, ⟨?_, rfl, rfl, rfl, rfl⟩⟩⟩, fun (q0 : x2 = nI 0) => ⟨vp_in_nI (by omega) (by decide), ?_, rfl, rfl, rfl, rfl⟩⟩
      · refine congrArg (fun v => some (Value.int v)) (Eq.symm ?_); unfold oStone; rw [if_pos hx, if_neg q0, if_neg q1, if_neg q2, if_neg q3]
      · refine congrArg (fun v => some (Value.int v)) (Eq.symm ?_); unfold oStone; rw [if_pos hx, if_neg q0, if_neg q1, if_neg q2, if_pos q3]; rw [nI_clamp (n := h) (by omega)]
      · refine congrArg (fun v => some (Value.int v)) (Eq.symm ?_); unfold oStone; rw [if_pos hx, if_neg q0, if_neg q1, if_pos q2]; show _ = I 123 (nI 4 + nI h).toNatClampNeg; rw [nI_add, nI_clamp (n := h) (by omega), nI_clamp (n := 4 + h) (by omega)]; exact hr.2.symm
      · refine congrArg (fun v => some (Value.int v)) (Eq.symm ?_); unfold oStone; rw [if_pos hx, if_neg q0, if_pos q1]; rw [nI_clamp (n := h) (by omega)]
      · refine congrArg (fun v => some (Value.int v)) (Eq.symm ?_); unfold oStone; rw [if_pos hx, if_pos q0]; rw [nI_clamp (n := h) (by omega)]; exact hr.1.symm
    · refine congrArg (fun v => some (Value.int v)) (Eq.symm ?_); unfold oStone; rw [if_neg p]
  refine w_X4_stone S.1.1 S.1.2.1 S.1.2.2.1 x1 x2 (s_hasHill S.cl x1 ⟨_, rfl, rfl, rfl, rfl, rfl, ?_⟩)
  rw [if01]
  refine ⟨fun p => ?_, fun p => via ?_ k⟩
  · have hx := Decidable.not_not.mp p
    obtain ⟨h, hh, e⟩ := hill_of (by have := wL.1; have := wL.2.2.1; omega) hx
    have b := wL.h hh
    have hr := S.2.1.2.1.1.2.1 h hh
    subst e
    refine ⟨fun (q0 : x2 = nI 0) => ⟨vp_in_nI (by omega) (by decide), via ?_ k⟩, fun (q0 : ¬ x2 = nI 0) => ⟨fun (q1 : x2 = nI 1) => s_sizeNow S.cm hh ⟨_, rfl, rfl, rfl, rfl, rfl, via ?_ k⟩, fun (q1 : ¬ x2 = nI 1) => ⟨fun (q2 : x2 = nI 2) => ⟨vp_in_nI (by omega) (by decide), via ?_ k⟩, fun (q2 : ¬ x2 = nI 2) => ⟨fun (q3 : x2 = nI 3) => s_isOver S.cm hh ⟨_, rfl, rfl, rfl, rfl, rfl, ?_⟩, fun (q3 : ¬ x2 = nI 3) => via ?_ k⟩⟩⟩⟩
    · unfold oStone; rw [if_pos hx, if_pos q0]; rw [nI_clamp (n := h) (by omega)]; exact hr.1.symm
    · unfold oStone; rw [if_pos hx, if_neg q0, if_pos q1]; rw [nI_clamp (n := h) (by omega)]
    · unfold oStone; rw [if_pos hx, if_neg q0, if_neg q1, if_pos q2]; rw [nI_clamp (n := h) (by omega)]; exact hr.2.symm
    · rw [if01]; refine ⟨fun z => via ?_ k, fun z => via ?_ k⟩
      · unfold oStone; rw [if_pos hx, if_neg q0, if_neg q1, if_neg q2, if_pos q3, nI_clamp (n := h) (by omega), if_neg z]
      · unfold oStone; rw [if_pos hx, if_neg q0, if_neg q1, if_neg q2, if_pos q3, nI_clamp (n := h) (by omega), if_pos (Decidable.not_not.mp z)]
    · unfold oStone; rw [if_pos hx, if_neg q0, if_neg q1, if_neg q2, if_neg q3]
  · unfold oStone; rw [if_neg p]
def oMan (L : Ld) (T : Tm) (x1 x2 : Int32) : Int32 := if 0 ≤ x1 ∧ x1 < nI (L 0 2) then (if x2 = nI 0 then nI (L 8 x1.toNatClampNeg) else if x2 = nI 1 then nI (T.1 3 x1.toNatClampNeg) else if x2 = nI 2 then oV (T.1 4 x1.toNatClampNeg) else -1) else -1
theorem p_man (S : SR I G J a L T) (x1 x2 : Int32) : Ev (d + 1) mX4_man 136 0 [some (.ref 0), some (.int x1), some (.int x2)] [] 136 I G J (P2 I G (d + 2) mX5_man [some (.ref 122), some (.int x1), some (.int x2)]) := by
  have wL := S.w
  have k : P2 I G (d + 2) mX5_man [some (.ref 122), some (.int x1), some (.int x2)] (some (.int (oMan L T x1 x2))) 136 I G J := by
    refine S.same (w_X5_man S.1.1 x1 x2 (m_isMan S.ml x1 ⟨_, rfl, rfl, rfl, rfl, rfl, ?_⟩))
    rw [if01]
    refine ⟨fun p => ?_, fun p => ⟨?_, rfl, rfl, rfl, rfl⟩⟩
    · have hx := Decidable.not_not.mp p
      obtain ⟨h, hh, e⟩ := hill_of (by have := wL.1; have := wL.2.2.1; omega) hx
      have b := wL.m hh
      have hr := S.2.1.2.2.1.2.2 h hh
      simp only [Nat.zero_add] at hr
      subst e
      refine ⟨fun (q0 : ¬ x2 = nI 0) => ⟨fun (q1 : ¬ x2 = nI 1) => ⟨fun (q2 : ¬ x2 = nI 2) => ⟨?_, rfl, rfl, rfl, rfl⟩, fun (q2 : x2 = nI 2) => ⟨(nI_add 11 h ▸ vp_in_nI (by omega) (by decide) : vp_in (nI 11 + nI h) 1400), ?_, rfl, rfl, rfl, rfl⟩⟩, fun (q1 : x2 = nI 1) => ⟨(nI_add 8 h ▸ vp_in_nI (by omega) (by decide) : vp_in (nI 8 + nI h) 1400), ?_, rfl, rfl, rfl, rfl⟩⟩, fun (q0 : x2 = nI 0) => ⟨vp_in_nI (by omega) (by decide), ?_, rfl, rfl, rfl, rfl⟩⟩
      · refine congrArg (fun v => some (Value.int v)) (Eq.symm ?_); unfold oMan; rw [if_pos hx, if_neg q0, if_neg q1, if_neg q2]
      · refine congrArg (fun v => some (Value.int v)) (Eq.symm ?_); unfold oMan; rw [if_pos hx, if_neg q0, if_neg q1, if_pos q2]; show _ = I 123 (nI 11 + nI h).toNatClampNeg; rw [nI_add, nI_clamp (n := h) (by omega), nI_clamp (n := 11 + h) (by omega)]; exact hr.2.symm
      · refine congrArg (fun v => some (Value.int v)) (Eq.symm ?_); unfold oMan; rw [if_pos hx, if_neg q0, if_pos q1]; show _ = I 123 (nI 8 + nI h).toNatClampNeg; rw [nI_add, nI_clamp (n := h) (by omega), nI_clamp (n := 8 + h) (by omega)]; exact hr.1.symm
      · refine congrArg (fun v => some (Value.int v)) (Eq.symm ?_); unfold oMan; rw [if_pos hx, if_pos q0]; rw [nI_clamp (n := h) (by omega)]; exact (S.1.2.2.2.2.2.1.2.2.2 h hh).symm
    · refine congrArg (fun v => some (Value.int v)) (Eq.symm ?_); unfold oMan; rw [if_neg p]
  refine w_X4_man S.1.1 S.1.2.1 S.1.2.2.1 x1 x2 (s_hasMan S.cl x1 ⟨_, rfl, rfl, rfl, rfl, rfl, ?_⟩)
  rw [if01]
  refine ⟨fun p => ?_, fun p => via ?_ k⟩
  · have hx := Decidable.not_not.mp p
    obtain ⟨h, hh, e⟩ := hill_of (by have := wL.1; have := wL.2.2.1; omega) hx
    have b := wL.m hh
    have hr := S.2.1.2.1.1.2.2 h hh
    subst e
    refine ⟨fun (q0 : x2 = nI 0) => ⟨vp_in_nI (by omega) (by decide), via ?_ k⟩, fun (q0 : ¬ x2 = nI 0) => ⟨fun (q1 : x2 = nI 1) => ⟨vp_in_nI (by omega) (by decide), via ?_ k⟩, fun (q1 : ¬ x2 = nI 1) => ⟨fun (q2 : x2 = nI 2) => ⟨vp_in_nI (by omega) (by decide), via ?_ k⟩, fun (q2 : ¬ x2 = nI 2) => via ?_ k⟩⟩⟩
    · unfold oMan; rw [if_pos hx, if_pos q0]; rw [nI_clamp (n := h) (by omega)]; exact (S.1.2.2.2.2.1.2.2.2 h hh).symm
    · unfold oMan; rw [if_pos hx, if_neg q0, if_pos q1]; rw [nI_clamp (n := h) (by omega)]; exact hr.1.symm
    · unfold oMan; rw [if_pos hx, if_neg q0, if_neg q1, if_pos q2]; rw [nI_clamp (n := h) (by omega)]; exact hr.2.symm
    · unfold oMan; rw [if_pos hx, if_neg q0, if_neg q1, if_neg q2]
  · unfold oMan; rw [if_neg p]
end OPS
