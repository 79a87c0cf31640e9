/-! ===== the law, whole ===== -/
theorem pst_ok : ∀ j, j < 10 → 50 + 6 * j ∈ pstL := by decide +kernel
section LAW3
variable {I : MI} {G : MG} {J : MJ} {Φ : Ph} {N : Nat}
set_option maxRecDepth 100000 in
theorem law_ev (hb : N ≤ 320) (hΦ : ∀ (I : MI) (G : MG) (J : MJ), Φ (some (.int 1)) 136 I G J) (hN : oul G 1000 = N) (hU : SU I G) (hG : ∀ q ∈ refT, 122 ≤ q.1 → G q.1 q.2.1 = some q.2.2) : Ev (12 + 1) mL_law 0 0 [some (.ref 1000), none, none, none] [] 0 I G J Φ := by
  refine E_new 4 16 dL_law_0 nw_RL_7 (by decide +kernel) (by decide) (by decide) (by decide) (by decide +kernel) (by decide) (by decide +kernel) ?_
  refine E_dup dL_law_3 rfl ?_
  refine E_invi (M := mL_law) (pc := 4) (As := []) (st := [.ref 0]) mX4_init 0 dL_law_4 lk_RL_9 rfl (by decide) (by decide) (by decide +kernel) (by decide) (by decide +kernel) (by decide) (?_ : Ev 12 mX4_init 1 0 [some (.ref 0), none] [] 1 _ _ _ (fun r n I1 G1 J1 => r = none ∧ n = 122 ∧ obP (ur I 0 (fun _ => 0)) (ur G 0 (fun _ => none)) (ur J 0 (fun _ => 0)) I1 G1 J1)) ?_ rfl
  · refine c_obj (d := 9) (fun q hq hl => ?_) (fun I1 G1 J1 h => ⟨rfl, rfl, h⟩)
    rw [ur_ne _ _ (by omega)]; exact hG q hq hl
  · rintro r n I1 G1 J1 ⟨rfl, rfl, ho⟩
    obtain ⟨o1, o2, o3, o4, o5, o6, o7, o8, o9⟩ := ho
    refine E_astore_n 1 dL_law_7 rfl (Nat.le_of_ble_eq_true rfl) (?_ : Ev (12 + 1) mL_law 0 8 [some (.ref 1000), some (.ref 0), none, none] [] 122 I1 G1 J1 Φ)
    refine E_new 5 33 dL_law_8 nw_RL_10 (by decide +kernel) (by decide) (by decide) (by decide +kernel) (by decide +kernel) (by decide) (by decide +kernel) ?_
    refine E_dup dL_law_11 rfl ?_
    refine E_invi (M := mL_law) (pc := 12) (As := []) (st := [.ref 122]) mX5_init 0 dL_law_12 lk_RL_12 rfl (by decide) (by decide) (by decide +kernel) (by decide) (by decide +kernel) (by decide) (?_ : Ev 12 mX5_init 123 0 [some (.ref 122)] [] 123 _ _ _ (fun r n I3 G3 J3 => r = none ∧ n = 136 ∧ oul G3 1000 = N ∧ ∃ a L T, SR I3 G3 J3 a L T)) ?_ rfl
    · refine c_mdl (d := 11) (fun q hq hl => ?_) (fun f => by rw [ur_at]) (fun I3 G3 J3 a1 a2 a3 a4 a5 a6 a7 a8 => ⟨rfl, rfl, ?_, 4, emL, (bgM emL, 0, fun _ _ => 0), ?_⟩)
      · rw [ur_ne _ _ (by omega)]; exact o3 q hq
      · unfold oul at hN ⊢
        rw [a2 1000 (by omega), ur_ne _ _ (by omega), (o1 1000 (by omega)).2.1, ur_ne _ _ (by omega)]; exact hN
      · have x0 : ∀ f, I3 0 f = nI 0 := fun f => by
          rw [a1 0 (by omega), ur_ne _ _ (by omega), o2.1, ur_at]; rfl
        have fr : ∀ x, 0 < x → x < 122 → I3 x = I1 x := fun x q1 q2 => by rw [a1 x (by omega), ur_ne _ _ (by omega)]
        have fg : ∀ x, x < 122 → G3 x = G1 x := fun x q2 => by rw [a2 x (by omega), ur_ne _ _ (by omega)]
        refine ⟨⟨a4, (by decide +kernel : 4 ∈ lndL), by rw [fg 0 (by omega)]; exact o4.1, ⟨13, (by decide +kernel : 13 ∈ lndL), by decide, by rw [fg 0 (by omega)]; exact o4.2⟩, o6.congr (fun x q1 q2 => fr x (by omega) (by omega)), a5, em_w.1⟩, ⟨bg_w em_w.1, ⟨o8.congr (fun x q1 q2 => fr x (by omega) (by omega)), by rw [fr 22 (by omega) (by omega)]; exact o9, fun i hi => absurd hi (Nat.not_lt_zero _)⟩, ⟨a7, a8, fun i hi => absurd hi (Nat.not_lt_zero _)⟩⟩, ⟨0, fun _ => (bgM emL, 0, fun _ _ => 0), fun j => 50 + 6 * j, by omega, x0 8, a6.2.1, fun j hj => ⟨by rw [fg 34 (by omega)]; exact o5 j hj, pst_ok j hj⟩, fun i j _ _ h => ?_, fun j hj => absurd hj (by omega)⟩, fun b hb => Or.inl ⟨by rw [fr 36 (by omega) (by omega)]; exact o7 b hb, ?_⟩, ⟨0, by omega, x0 13, a6.2.2.1, fun i hi => absurd hi (by omega)⟩, ⟨0, by omega, x0 1, a6.1, fun i hi => absurd hi (by omega)⟩, ?_, ?_⟩
        · have h : 50 + 6 * i = 50 + 6 * j := h
          omega
        · rcases (show b = 0 ∨ b = 1 by omega) with rfl | rfl
          · exact a6.2.2.2.1
          · exact a6.2.2.2.2
        · rw [a3 0 (by omega), a3 122 (by omega), ur_ne _ _ (by omega), ur_at, o2.2, ur_at]
        · have e : ∀ x, 1000 < x → I3 x = I x ∧ G3 x = G x := fun x hx => by
            rw [a1 x (by omega), a2 x (by omega), ur_ne _ _ (by omega), ur_ne _ _ (by omega), (o1 x (by omega)).1, (o1 x (by omega)).2.1, ur_ne _ _ (by omega), ur_ne _ _ (by omega)]
            exact ⟨rfl, rfl⟩
          unfold SU oul at hU ⊢
          rw [(e 1001 (by omega)).1, (e 1002 (by omega)).1, (e 1003 (by omega)).1, (e 1004 (by omega)).1, (e 1001 (by omega)).2, (e 1002 (by omega)).2, (e 1003 (by omega)).2, (e 1004 (by omega)).2]
          exact hU
    · rintro r n I3 G3 J3 ⟨rfl, rfl, hN3, hs⟩
      refine E_astore_n 2 dL_law_15 rfl (Nat.le_of_ble_eq_true rfl) (?_ : Ev (12 + 1) mL_law 0 16 [some (.ref 1000), some (.ref 0), some (.ref 122), none] [] 136 I3 G3 J3 Φ)
      refine E_iconst (0 : Int32) dL_law_16 rfl ?_
      refine E_istore_n 3 dL_law_17 rfl (Nat.le_of_ble_eq_true rfl) (?_ : Ev (12 + 1) mL_law 0 18 (lsL 0) [] 136 I3 G3 J3 Φ)
      exact law_loop hb hΦ 400 0 (by omega) (by omega) hN3 hs
end LAW3
