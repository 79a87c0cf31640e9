/-! ===== reading: the object's items ===== -/
def drP (I : MI) (a : Nat) (L : Ld) : Prop := RLc I a L ∧ I a 13 = nI (L 0 5) ∧ I a 14 = nI (L 0 6)
theorem drP.cg {I I' : MI} {a : Nat} {L : Ld} (h : drP I a L) (hf : ∀ x, a ≤ x → x < a + 9 → I' x = I x) : drP I' a L := ⟨h.1.congr hf, by rw [hf a (by omega) (by omega)]; exact h.2.1, by rw [hf a (by omega) (by omega)]; exact h.2.2⟩
section RDI
variable {d : Nat} {I : MI} {G : MG} {J : MJ} {Φ : Ph} {c : Nat → Nat} {nt : Nat} {a : Nat} {L : Ld} {k : Nat}
theorem s_canStand (hG : WG G) (ha : isL a) (hR : drP I a L) (w : WRd L) (hk : k < 256) (yes : canB L k = true → Φ (some (.int 1)) 136 I G J) (no : canB L k = false → Φ (some (.int 0)) 136 I G J) : Ev d mX3_canStand 136 0 [some (.int (nI k)), some (.ref a)] [] 136 I G J Φ := by
  obtain ⟨⟨⟨r1, r2, r3, r4, r5⟩, -⟩, r6, r7⟩ := hR
  obtain ⟨⟨w1, w2, w3, -⟩, w9, w10⟩ := w
  refine w_X3_canStand hG _ ha ?_
  rw [nI_eq (a := k) (b := 104) (by omega) (by omega), nI_eq (a := k) (b := 105) (by omega) (by omega), nI_eq (a := k) (b := 106) (by omega) (by omega), nI_eq (a := k) (b := 107) (by omega) (by omega), nI_eq (a := k) (b := 108) (by omega) (by omega), nI_eq (a := k) (b := 109) (by omega) (by omega), nI_eq (a := k) (b := 110) (by omega) (by omega), nI_eq (a := k) (b := 111) (by omega) (by omega), nI_eq (a := k) (b := 112) (by omega) (by omega), nI_eq (a := k) (b := 113) (by omega) (by omega), nI_eq (a := k) (b := 114) (by omega) (by omega), r1, r2, r3, r6, r7, show (4 : Int32) = nI 4 from rfl, show (3 : Int32) = nI 3 from rfl, show (0 : Int32) = nI 0 from rfl, nI_leI (a := 4) (b := L 0 0) (by omega) (by omega), nI_leI (a := 4) (b := L 0 1) (by omega) (by omega), nI_leI (a := 3) (b := L 0 2) (by omega) (by omega), nI_eq (a := L 0 5) (b := 0) (by omega) (by omega), nI_eq (a := L 0 6) (b := 0) (by omega) (by omega)]
  unfold canB at yes no
  refine ⟨fun q => ⟨fun q2 => no ?_, fun q2 => yes ?_⟩, fun q1 => ⟨fun q => no ?_, fun _ => ⟨fun q => ⟨fun q2 => no ?_, fun q2 => yes ?_⟩, fun q2 => ⟨fun q => no ?_, fun _ => ⟨fun q => no ?_, fun _ => ⟨fun q => ⟨fun q2 => no ?_, fun q2 => yes ?_⟩, fun q3 => ⟨fun q => no ?_, fun _ => ⟨fun q => ⟨fun q2 => no ?_, fun q2 => yes ?_⟩, fun q4 => ⟨fun q => no ?_, fun _ => ⟨fun q => no ?_, fun _ => ⟨fun q => ⟨fun q2 => no ?_, fun q2 => yes ?_⟩, fun q5 => no ?_⟩⟩⟩⟩⟩⟩⟩⟩⟩⟩⟩
  · simp [q]; omega
  · simp [q]; omega
  · simp [q]
  · simp [q]; omega
  · simp [q]; omega
  · simp [q]
  · simp [q]
  · simp [q]; omega
  · simp [q]; omega
  · simp [q]
  · simp [q]; omega
  · simp [q]; omega
  · simp [q]
  · simp [q]
  · simp [q]; omega
  · simp [q]; omega
  · simp [q1, q2, q3, q4, q5]
theorem s_numbersOf (hG : WG G) (hk : canB L k = true) (kk : Φ (some (.int (nI (cntN k)))) 136 I G J) : Ev d mX3_numbersOf 136 0 [some (.int (nI k))] [] 136 I G J Φ := by
  rcases can_k hk with rfl | rfl | rfl | rfl | rfl
  · exact w_X3_numbersOf hG _ ⟨fun _ => kk, fun z => absurd rfl z⟩
  · exact w_X3_numbersOf hG _ ⟨fun z => absurd z (by decide), fun _ => ⟨fun _ => kk, fun z => absurd rfl z⟩⟩
  · exact w_X3_numbersOf hG _ ⟨fun z => absurd z (by decide), fun _ => ⟨fun z => absurd z (by decide), fun _ => kk⟩⟩
  · exact w_X3_numbersOf hG _ ⟨fun z => absurd z (by decide), fun _ => ⟨fun z => absurd z (by decide), fun _ => kk⟩⟩
  · exact w_X3_numbersOf hG _ ⟨fun z => absurd z (by decide), fun _ => ⟨fun z => absurd z (by decide), fun _ => kk⟩⟩
theorem s_within (hG : WG G) {v lo hi : Nat} (hv : v < 2 ^ 31) (hlo : lo < 2 ^ 31) (hhi : hi < 2 ^ 31) (h6 : I 2 6 = nI v) (kk : Φ (some (.int (if lo ≤ v ∧ v ≤ hi then 1 else 0))) 136 I G J) : Ev d mX3_isWithin 136 0 [some (.ref 2), some (.int (nI lo)), some (.int (nI hi))] [] 136 I G J Φ := by
  refine w_X3_isWithin hG _ _ ?_
  rw [h6, nI_ltI hv hlo, nI_ltI hhi hv]
  refine ⟨fun q => ?_, fun q => ⟨fun q2 => ?_, fun q2 => ?_⟩⟩
  · rwa [if_neg (by omega)] at kk
  · rwa [if_neg (by omega)] at kk
  · rwa [if_pos (by omega)] at kk
theorem nar_b (b : Bool) : narrow .boolean (.int (if b = true then 1 else 0)) = .int (if b = true then 1 else 0) := nar01
theorem s_fits (hG : WG G) (ha : isL a) (hR : drP I a L) (w : WRd L) (su : SU I G) (hk : canB L k = true) {idx v n0 : Nat} (hx : idx < cntN k) (hv : v ≤ 511) (h6 : I 2 6 = nI v) (h3 : 0 < idx → I 3 0 = nI n0 ∧ n0 ≤ 511) (kk : Φ (some (.int (if ckB L k idx n0 v = true then 1 else 0))) 136 I G J) : Ev (d + 2) mX3_fits 136 0 [some (.ref 2), some (.int (nI k)), some (.int (nI idx)), some (.ref a)] [] 136 I G J Φ := by
  have w0 := w.1.1
  have cl : Cl I G a L := ⟨hG, ha, hR.1, w.1⟩
  have iv : ∀ {dd lo hi : Nat}, lo ≤ 511 → hi ≤ 511 → (ckB L k idx n0 v = decide (lo ≤ v ∧ v ≤ hi)) → Ev dd mX3_isWithin 136 0 [some (.ref 2), some (.int (nI lo)), some (.int (nI hi))] [] 136 I G J (fun r n I3 G3 J3 => ∃ v3 : Int32, r = some (.int v3) ∧ n = 136 ∧ I = I3 ∧ G = G3 ∧ J = J3 ∧ (narrow .boolean (.int v3) = .int v3 ∧ (Φ (some (.int v3)) 136 I G J))) := by
    intro dd lo hi h1 h2 h4
    refine s_within hG (by omega) (by omega) (by omega) h6 ⟨_, rfl, rfl, rfl, rfl, rfl, nar01, ?_⟩
    rw [h4] at kk
    simpa using kk
  rcases can_k hk with rfl | rfl | rfl | rfl | rfl
  · have hx4 : idx < 4 := hx
    refine w_X3_fits hG _ _ ha ⟨fun _ => ?_, fun z => absurd rfl z⟩
    rw [su.1.2.2.1, su.1.2.2.2, nI_clamp (n := idx) (by omega), (su.2.2 idx hx4).1, (su.2.2 idx hx4).2]
    have b1 : ∀ j, j < 4 → [2, 0, 0, 1].getD j 0 ≤ 511 ∧ [9, 5, 511, 9].getD j 0 ≤ 511 := by decide
    exact ⟨vp_in_nI hx4 (by decide), vp_in_nI hx4 (by decide), iv (b1 idx hx4).1 (b1 idx hx4).2 (by unfold ckB; rw [if_pos rfl])⟩
  · have hx3 : idx < 3 := hx
    refine w_X3_fits hG _ _ ha ⟨fun z => absurd z (by decide), fun _ => ⟨fun z => absurd z (by decide), fun _ => ⟨fun _ => ?_, fun z => absurd rfl z⟩⟩⟩
    refine w_X3_fitsJoin hG _ ha ?_
    rw [show (0 : Int32) = nI 0 from rfl, show (1 : Int32) = nI 1 from rfl, nI_eq (a := idx) (b := 0) (by omega) (by omega), nI_eq (a := idx) (b := 1) (by omega) (by omega), h6]
    have hh : (0 ≤ nI v ∧ nI v < nI (L 0 0)) ↔ v < L 0 0 := by
      rw [nI_ltI (by omega) (by omega)]
      exact ⟨fun z => z.2, fun z => ⟨nI_pos' (by omega), z⟩⟩
    refine ⟨fun e => s_hasHill cl _ ⟨_, rfl, rfl, rfl, rfl, rfl, nar01, ?_⟩, fun e0 => ⟨fun e => s_hasHill cl _ ⟨_, rfl, rfl, rfl, rfl, rfl, ?_⟩, fun e1 => iv (lo := 1) (hi := 9) (by omega) (by omega) ?_ |>.post (fun r n I3 G3 J3 hq => ?_)⟩⟩
    · refine ⟨_, rfl, rfl, rfl, rfl, rfl, nar01, ?_⟩
      subst e
      simp only [hh]
      simpa [ckB] using kk
    · obtain ⟨h30, h31⟩ := h3 (by omega)
      rw [show nI 0 = (0 : Int32) from rfl, if01, hh, h30, nI_eq (by omega) (by omega)]
      subst e
      refine ⟨fun q => ⟨_, rfl, rfl, rfl, rfl, rfl, rfl, ?_⟩, fun q => ⟨fun q2 => ⟨_, rfl, rfl, rfl, rfl, rfl, rfl, ?_⟩, fun q2 => ⟨_, rfl, rfl, rfl, rfl, rfl, rfl, ?_⟩⟩⟩
      · have : ckB L 106 1 n0 v = false := by simp [ckB]; omega
        rw [this] at kk; exact kk
      · have : ckB L 106 1 n0 v = false := by simp [ckB]; omega
        rw [this] at kk; exact kk
      · have : ckB L 106 1 n0 v = true := by simp [ckB]; omega
        rw [this] at kk; exact kk
    · unfold ckB; rw [if_neg (by decide), if_pos rfl, if_neg e0, if_neg e1]
    · obtain ⟨v3, q1, q2, q3, q4, q5, q6, q7⟩ := hq
      exact ⟨v3, q1, q2, q3, q4, q5, q6, v3, rfl, rfl, rfl, rfl, rfl, q6, q7⟩
  · refine w_X3_fits hG _ _ ha ⟨fun z => absurd z (by decide), fun _ => ⟨fun z => absurd z (by decide), fun _ => ⟨fun z => absurd z (by decide), fun _ => ⟨fun z => absurd z (by decide), fun _ => ⟨fun z => absurd z (by decide), fun _ => ⟨fun _ => ?_, fun z => absurd rfl z⟩⟩⟩⟩⟩⟩
    exact iv (lo := 1) (hi := 9) (by omega) (by omega) (by unfold ckB; rw [if_neg (by decide), if_neg (by decide), if_pos rfl])
  · refine w_X3_fits hG _ _ ha ⟨fun z => absurd z (by decide), fun _ => ⟨fun z => absurd z (by decide), fun _ => ⟨fun z => absurd z (by decide), fun _ => ⟨fun z => absurd z (by decide), fun _ => ⟨fun z => absurd z (by decide), fun _ => ⟨fun z => absurd z (by decide), fun _ => ⟨fun z => absurd z (by decide), fun _ => ⟨fun _ => ?_, fun z => absurd rfl z⟩⟩⟩⟩⟩⟩⟩⟩
    exact iv (lo := 1) (hi := 6) (by omega) (by omega) (by unfold ckB; rw [if_neg (by decide), if_neg (by decide), if_neg (by decide), if_pos rfl])
  · refine w_X3_fits hG _ _ ha ⟨fun z => absurd z (by decide), fun _ => ⟨fun z => absurd z (by decide), fun _ => ⟨fun z => absurd z (by decide), fun _ => ⟨fun z => absurd z (by decide), fun _ => ⟨fun z => absurd z (by decide), fun _ => ⟨fun z => absurd z (by decide), fun _ => ⟨fun z => absurd z (by decide), fun _ => ⟨fun z => absurd z (by decide), fun _ => ?_⟩⟩⟩⟩⟩⟩⟩⟩
    exact iv (lo := 0) (hi := 127) (by omega) (by omega) (by unfold ckB; rw [if_neg (by decide), if_neg (by decide), if_neg (by decide), if_neg (by decide)]; simp)
theorem s_addItem (hG : WG G) (ha : isL a) (hR : drP I a L) (w : WRd L) (hk : canB L k = true) {g : Nat → Nat} (h3 : ∀ j, j < cntN k → I 3 j = nI (g j)) (kk : ∀ I' : MI, (∀ x, ¬ (a ≤ x ∧ x < a + 9) → I' x = I x) → drP I' a (adL L k g) → Φ none 136 I' G J) : Ev (d + 1) mX3_addItem 136 0 [some (.ref 2), some (.int (nI k)), some (.ref a)] [] 136 I G J Φ := by
  have hla := isL_or ha
  obtain ⟨⟨⟨r1, r2, r3, r4, r5⟩, rh, rj, rm⟩, r6, r7⟩ := hR
  rcases can_k hk with rfl | rfl | rfl | rfl | rfl
  · simp [canB] at hk
    have g0 := h3 0 (by decide)
    have g1 := h3 1 (by decide)
    have g2 := h3 2 (by decide)
    have g3 := h3 3 (by decide)
    have v : vp_in (nI (L 0 0)) 4 := vp_in_nI hk (by decide)
    refine w_X3_addItem hG _ ha ⟨fun _ => ?_, fun z => absurd rfl z⟩
    refine w_X1_addHill hG ha ?_
    rw [r1, nI_clamp (n := L 0 0) (by omega)]
    refine ⟨fun q => absurd q (nI_ge (a := L 0 0) (b := 4) hk (by omega)), fun _ => ⟨v, v, v, v, rfl, rfl, rfl, rfl, kk _ (fun x hx => ?_) ?_⟩⟩
    · simp (disch := omega) only [u2_row]
    · have e : adL L 104 g = u2 (u2 (u2 (u2 (u2 L 1 (L 0 0) (g 0)) 2 (L 0 0) (g 1)) 3 (L 0 0) (g 2)) 4 (L 0 0) (g 3)) 0 0 (L 0 0 + 1) := rfl
      rw [e]
      refine ⟨⟨⟨?_, ?_, ?_, ?_, ?_⟩, fun h hh => ?_, fun j hj => ?_, fun m hm => ?_⟩, ?_, ?_⟩
      · rw [u2_at, u2_at]; exact nI_1 _
      · simp (disch := omega) only [u2_ne]; exact r2
      · simp (disch := omega) only [u2_ne]; exact r3
      · simp (disch := omega) only [u2_ne]; exact r4
      · simp (disch := omega) only [u2_ne]; exact r5
      · rw [u2_at] at hh
        by_cases eh : h = L 0 0
        · subst eh
          simp (disch := omega) only [u2_ne, u2_at]
          exact ⟨g0, g1, g2, g3⟩
        · simp (disch := omega) only [u2_ne]
          exact rh h (by omega)
      · simp (disch := omega) only [u2_ne] at hj ⊢
        exact rj j hj
      · simp (disch := omega) only [u2_ne] at hm ⊢
        exact rm m hm
      · simp (disch := omega) only [u2_ne]; exact r6
      · simp (disch := omega) only [u2_ne]; exact r7
  · simp [canB] at hk
    have g0 := h3 0 (by decide)
    have g1 := h3 1 (by decide)
    have g2 := h3 2 (by decide)
    have v : vp_in (nI (L 0 1)) 4 := vp_in_nI hk (by decide)
    refine w_X3_addItem hG _ ha ⟨fun z => absurd z (by decide), fun _ => ⟨fun z => absurd z (by decide), fun _ => ⟨fun _ => ?_, fun z => absurd rfl z⟩⟩⟩
    refine w_X1_addJoin hG ha ?_
    rw [r2, nI_clamp (n := L 0 1) (by omega)]
    refine ⟨fun q => absurd q (nI_ge (a := L 0 1) (b := 4) hk (by omega)), fun _ => ⟨v, v, v, rfl, rfl, rfl, rfl, kk _ (fun x hx => ?_) ?_⟩⟩
    · simp (disch := omega) only [u2_row]
    · have e : adL L 106 g = u2 (u2 (u2 (u2 L 5 (L 0 1) (g 0)) 6 (L 0 1) (g 1)) 7 (L 0 1) (g 2)) 0 1 (L 0 1 + 1) := rfl
      rw [e]
      refine ⟨⟨⟨?_, ?_, ?_, ?_, ?_⟩, fun h hh => ?_, fun j hj => ?_, fun m hm => ?_⟩, ?_, ?_⟩
      · simp (disch := omega) only [u2_ne]; exact r1
      · rw [u2_at, u2_at]; exact nI_1 _
      · simp (disch := omega) only [u2_ne]; exact r3
      · simp (disch := omega) only [u2_ne]; exact r4
      · simp (disch := omega) only [u2_ne]; exact r5
      · simp (disch := omega) only [u2_ne] at hh ⊢
        exact rh h hh
      · rw [u2_at] at hj
        by_cases ej : j = L 0 1
        · subst ej
          simp (disch := omega) only [u2_ne, u2_at]
          exact ⟨g0, g1, g2⟩
        · simp (disch := omega) only [u2_ne]
          exact rj j (by omega)
      · simp (disch := omega) only [u2_ne] at hm ⊢
        exact rm m hm
      · simp (disch := omega) only [u2_ne]; exact r6
      · simp (disch := omega) only [u2_ne]; exact r7
  · simp [canB] at hk
    have g0 := h3 0 (by decide)
    have v : vp_in (nI (L 0 2)) 3 := vp_in_nI hk (by decide)
    refine w_X3_addItem hG _ ha ⟨fun z => absurd z (by decide), fun _ => ⟨fun z => absurd z (by decide), fun _ => ⟨fun z => absurd z (by decide), fun _ => ⟨fun z => absurd z (by decide), fun _ => ⟨fun z => absurd z (by decide), fun _ => ⟨fun _ => ?_, fun z => absurd rfl z⟩⟩⟩⟩⟩⟩
    refine w_X1_addMan hG ha _ ?_
    rw [r3, nI_clamp (n := L 0 2) (by omega)]
    refine ⟨fun q => absurd q (nI_ge (a := L 0 2) (b := 3) hk (by omega)), fun _ => ⟨v, rfl, rfl, rfl, rfl, kk _ (fun x hx => ?_) ?_⟩⟩
    · simp (disch := omega) only [u2_row]
    · have e : adL L 109 g = u2 (u2 L 8 (L 0 2) (g 0)) 0 2 (L 0 2 + 1) := rfl
      rw [e]
      refine ⟨⟨⟨?_, ?_, ?_, ?_, ?_⟩, fun h hh => ?_, fun j hj => ?_, fun m hm => ?_⟩, ?_, ?_⟩
      · simp (disch := omega) only [u2_ne]; exact r1
      · simp (disch := omega) only [u2_ne]; exact r2
      · rw [u2_at, u2_at]; exact nI_1 _
      · simp (disch := omega) only [u2_ne]; exact r4
      · simp (disch := omega) only [u2_ne]; exact r5
      · simp (disch := omega) only [u2_ne] at hh ⊢
        exact rh h hh
      · simp (disch := omega) only [u2_ne] at hj ⊢
        exact rj j hj
      · rw [u2_at] at hm
        by_cases em : m = L 0 2
        · subst em
          simp (disch := omega) only [u2_ne, u2_at]
          exact g0
        · simp (disch := omega) only [u2_ne]
          exact rm m (by omega)
      · simp (disch := omega) only [u2_ne]; exact r6
      · simp (disch := omega) only [u2_ne]; exact r7
  · have g0 := h3 0 (by decide)
    refine w_X3_addItem hG _ ha ⟨fun z => absurd z (by decide), fun _ => ⟨fun z => absurd z (by decide), fun _ => ⟨fun z => absurd z (by decide), fun _ => ⟨fun z => absurd z (by decide), fun _ => ⟨fun z => absurd z (by decide), fun _ => ⟨fun z => absurd z (by decide), fun _ => ⟨fun z => absurd z (by decide), fun _ => ⟨fun _ => kk _ (fun x hx => ?_) ?_, fun z => absurd rfl z⟩⟩⟩⟩⟩⟩⟩⟩
    · simp (disch := omega) only [u2_row]
    · have e : adL L 111 g = u2 (u2 L 0 3 (g 0)) 0 5 1 := rfl
      rw [e]
      refine ⟨⟨⟨?_, ?_, ?_, ?_, ?_⟩, fun h hh => ?_, fun j hj => ?_, fun m hm => ?_⟩, ?_, ?_⟩
      · simp (disch := omega) only [u2_ne]; exact r1
      · simp (disch := omega) only [u2_ne]; exact r2
      · simp (disch := omega) only [u2_ne]; exact r3
      · simp (disch := omega) only [u2_ne, u2_at]; exact g0
      · simp (disch := omega) only [u2_ne]; exact r5
      · simp (disch := omega) only [u2_ne] at hh ⊢
        exact rh h hh
      · simp (disch := omega) only [u2_ne] at hj ⊢
        exact rj j hj
      · simp (disch := omega) only [u2_ne] at hm ⊢
        exact rm m hm
      · rw [u2_at, u2_at]; rfl
      · simp (disch := omega) only [u2_ne]; exact r7
  · have g0 := h3 0 (by decide)
    refine w_X3_addItem hG _ ha ⟨fun z => absurd z (by decide), fun _ => ⟨fun z => absurd z (by decide), fun _ => ⟨fun z => absurd z (by decide), fun _ => ⟨fun z => absurd z (by decide), fun _ => ⟨fun z => absurd z (by decide), fun _ => ⟨fun z => absurd z (by decide), fun _ => ⟨fun z => absurd z (by decide), fun _ => ⟨fun z => absurd z (by decide), fun _ => kk _ (fun x hx => ?_) ?_⟩⟩⟩⟩⟩⟩⟩⟩
    · simp (disch := omega) only [u2_row]
    · have e : adL L 114 g = u2 (u2 L 0 4 (g 0)) 0 6 1 := rfl
      rw [e]
      refine ⟨⟨⟨?_, ?_, ?_, ?_, ?_⟩, fun h hh => ?_, fun j hj => ?_, fun m hm => ?_⟩, ?_, ?_⟩
      · simp (disch := omega) only [u2_ne]; exact r1
      · simp (disch := omega) only [u2_ne]; exact r2
      · simp (disch := omega) only [u2_ne]; exact r3
      · simp (disch := omega) only [u2_ne]; exact r4
      · simp (disch := omega) only [u2_ne, u2_at]; exact g0
      · simp (disch := omega) only [u2_ne] at hh ⊢
        exact rh h hh
      · simp (disch := omega) only [u2_ne] at hj ⊢
        exact rj j hj
      · simp (disch := omega) only [u2_ne] at hm ⊢
        exact rm m hm
      · simp (disch := omega) only [u2_ne]; exact r6
      · rw [u2_at, u2_at]; rfl
end RDI
