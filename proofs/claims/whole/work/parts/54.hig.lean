/-! ===== highest: the object's search, the reference's codes ===== -/
theorem if_le {P : Prop} [Decidable P] {a b c : Nat} (h1 : a ≤ c) (h2 : b ≤ c) : (if P then a else b) ≤ c := by split <;> assumption
section HIG
variable {d : Nat} {I : MI} {G : MG} {J : MJ} {Φ : Ph} {a : Nat} {L : Ld} {M : Mo} {T : Tm}
theorem Cm.c39 {I' : MI} (X : Cm I G a 22 L M) (h : ∀ x, ¬ (39 ≤ x ∧ x < 50) → I' x = I x) : Cm I' G a 22 L M := by
  obtain ⟨hG, hc, ha, hL, hM, wL, wM⟩ := X
  have := isL_or ha
  exact ⟨hG, hc, ha, hL.congr (fun x _ _ => h x (by omega)), hM.congr (fun x _ _ => h x (by omega)), wL, wM⟩
theorem fr_le (wL : WLd L) {h : Nat} (hh : h < L 0 0) : frN L M h ≤ 9 := by
  have := frF_le (bkN L M h) (L 1 h - M 1 h) (M 1 h + 1)
  have := wL.h hh
  unfold frN
  omega
theorem fr_step {h s : Nat} (hs : s ≤ frN L M h) : s < frN L M h ↔ (M 1 h + s < L 1 h ∧ bkN L M h (M 1 h + s + 1) = 0) := by
  have h0 := (frF_iff (bkN L M h) (L 1 h - M 1 h) (M 1 h + 1) s).mp hs
  have e := frF_iff (bkN L M h) (L 1 h - M 1 h) (M 1 h + 1) (s + 1)
  constructor
  · intro q
    have q2 := e.mp q
    refine ⟨by omega, ?_⟩
    have := q2.2 s (by omega)
    rwa [show M 1 h + 1 + s = M 1 h + s + 1 by omega] at this
  · intro q
    refine e.mpr ⟨by omega, fun j hj => ?_⟩
    by_cases ej : j = s
    · rw [ej, show M 1 h + 1 + s = M 1 h + s + 1 by omega]; exact q.2
    · exact h0.2 j (by omega)
theorem nd_le (wL : WLd L) {h : Nat} (hh : h < L 0 0) : 1 ≤ ndN L M h ∧ ndN L M h ≤ 14 := by
  have := szN_le (M := M) wL hh
  have := wL.h hh
  unfold ndN
  omega
theorem s_search (X : Cm I G a 22 L M) {h : Nat} (hh : h < L 0 0) (hlt : M 0 1 < L 0 3) (k : ∀ (I' : MI) (b v : Nat), (∀ x, ¬ (39 ≤ x ∧ x < 50) → I' x = I x) → laP (L 0 2) (ndN L M h) (frN L M h) (L 8) (L 0 3 - M 0 1) (M 3) 0 b v → I' 39 3 = nI v → (∀ i, i < L 0 3 - M 0 1 → I' 49 i = nI (dgN b (L 0 3 - M 0 1 - 1 - i))) → Φ none 136 I' G J) : Ev (d + 9) mX0_search 136 0 [some (.ref 39), some (.ref a), some (.ref 22), some (.int (nI h))] [] 136 I G J Φ := by
  obtain ⟨hG, hc, ha, hL, hM, wL, wM⟩ := id X
  have b3 := wL.2.2.2.1
  have bm := wL.2.2.1
  have hla := isL_or ha
  have n1 := nd_le (M := M) wL hh
  have n2 := fr_le (M := M) wL hh
  refine w_X0_search hG ha hc _ (s_needOf X hh ⟨_, rfl, rfl, rfl, rfl, rfl, ?_⟩)
  refine s_hoursLeft (X.c39 (fun x hx => u2_row _ _ _ (by omega))) ⟨_, rfl, rfl, rfl, rfl, rfl, ?_⟩
  have e6 : (if (6 : Int32) < nI (L 0 3 - M 0 1) then (6 : Int32) else nI (L 0 3 - M 0 1)) = nI (L 0 3 - M 0 1) := if_neg (nI_nlt (a := 6) (by omega) (by omega))
  rw [e6]
  refine s_freeSteps (X.c39 (fun x hx => by rw [u2_row _ _ _ (by omega), u2_row _ _ _ (by omega)])) hh ⟨_, rfl, rfl, rfl, rfl, rfl, ?_⟩
  refine s_keepRow (t := 0) (v := 0) hG (by omega) (by omega) (fun I1 f1 f2 f3 f4 => ⟨rfl, rfl, rfl, rfl, ?_⟩)
  have f5 : ∀ x, ¬ (39 ≤ x ∧ x < 50) → I1 x = I x := fun x hx => by
    rw [f1 x (by omega) (by omega), ur_ne _ _ (by omega), u2_row _ _ _ (by omega), u2_row _ _ _ (by omega), u2_row _ _ _ (by omega)]
  have X1 := X.c39 f5
  have g4 : I1 39 4 = nI (ndN L M h) := by rw [f2 4 (by omega), ur_ne _ _ (by omega), u2_ne _ _ (by omega), u2_ne _ _ (by omega), u2_at]
  have g5 : I1 39 5 = nI (L 0 3 - M 0 1) := by rw [f2 5 (by omega), ur_ne _ _ (by omega), u2_ne _ _ (by omega), u2_at]
  have g6 : I1 39 6 = nI (frN L M h) := by rw [f2 6 (by omega), ur_ne _ _ (by omega), u2_at]
  have st : ∀ m, m < L 0 2 → I1 (41 + 0) m = nI (M 3 m) := fun m hm => by
    rw [f1 _ (by omega) (by omega), Nat.add_zero, ur_at, pk_cpy_in (by omega) (by omega), u2_row _ _ _ (by omega), u2_row _ _ _ (by omega), u2_row _ _ _ (by omega), Nat.zero_add, Nat.sub_zero]
    exact (hM.2.2 m hm).1
  refine (s_explore (d := d) (nd := ndN L M h) (hrs := L 0 3 - M 0 1) (fr := frN L M h) hG ha wL n1 (by omega) n2 (L 0 3 - M 0 1) 0 0 (I := I1) (best := 0) (f := M 3) (P := fun _ => 0) (B := fun _ => 0) (by omega) X1.2.2.2.1 ⟨g4, g5, g6, f3⟩ st (fun i hi => absurd hi (by omega)) (fun i hi => by rw [f4 i hi, if_neg (by omega)]) (fun m hm => (wM.2.2.2 m hm).1) (by omega) (by omega) (fun I2 best B q1 q2 q3 q4 q5 => ⟨rfl, rfl, rfl, rfl, ?_⟩)).mono (by omega)
  have f6 : ∀ x, ¬ (39 ≤ x ∧ x < 50) → I2 x = I x := fun x hx => by rw [q1.1 x hx, f5 x hx]
  obtain ⟨p1, p2⟩ := q5
  rcases p2 with ⟨e1, e2⟩ | ⟨e1, b, e2, e3, e4, e5, e7⟩
  · subst e1
    refine k I2 0 0 f6 ⟨Nat.pow_pos (by omega), vd_0 _ _, vl_0 n1.1 _ _ _, fun j hj hv => ⟨p1 j hj hv, fun z => by omega⟩⟩ q2 (fun i hi => ?_)
    rw [q3 i (by omega), e2 i (by omega), dg_0]
  · refine k I2 b best f6 ⟨e2, e3, e4, fun j hj hv => ⟨p1 j hj hv, fun z => e5 j z hv⟩⟩ q2 (fun i hi => ?_)
    rw [q3 i (by omega), e7 i (by omega)]
    unfold rwF
    rw [if_neg (by omega), if_pos hi]
theorem dg_sh {x i : Nat} (hx : x < 2 ^ 31) (hi : i < 10) : (nI x >>> (((3 : Int32) * nI i) &&& 31)) &&& (7 : Int32) = nI (dgN x i) := by
  have b2 := Nat.div_le_self x (2 ^ (3 * i))
  rw [show (3 : Int32) * nI i = nI (3 * i) from pk_mul 3 i, nshr hx (by omega), pk_andN (by omega) 3 (by decide)]
  unfold dgN
  rw [Nat.pow_mul]
theorem dg_lt (x i : Nat) : dgN x i < 8 := Nat.mod_lt _ (by omega)
theorem m_isCode (X : Ml I G L) {x n : Nat} (hx : x < 2 ^ 31) (hn : n ≤ 6) (k1 : vdN (L 0 2) n x → Φ (some (.int 1)) 136 I G J) (k0 : ¬ vdN (L 0 2) n x → Φ (some (.int 0)) 136 I G J) : Ev d mX5_isCode 136 0 [some (.ref 122), some (.int (nI x)), some (.int (nI n)), none, none] [] 136 I G J Φ := by
  obtain ⟨hG, hL, wL⟩ := X
  have b2 := wL.2.2.1
  have p8 : 2 ^ L 0 2 ≤ 2 ^ 3 := Nat.pow_le_pow_right (by omega) b2
  have es : (1 : Int32) <<< (nI (L 0 2) &&& 31) = nI (2 ^ L 0 2) := by
    have := nshl (a := 1) (i := L 0 2) (by omega) (by omega)
    rw [Nat.one_mul] at this
    exact this
  refine w_X5_isCode hG _ _ ?_
  have key : ∀ i, i ≤ n → (∀ k, k < i → dgN x k < 2 ^ L 0 2) → Ev d mX5_isCode 136 5 [some (.ref 122), some (.int (nI x)), some (.int (nI n)), some (.int (1 : Int32)), some (.int (nI i))] [] 136 I G J Φ := by
    refine down_ind (E := fun i => (∀ k, k < i → dgN x k < 2 ^ L 0 2) → Ev d mX5_isCode 136 5 [some (.ref 122), some (.int (nI x)), some (.int (nI n)), some (.int (1 : Int32)), some (.int (nI i))] [] 136 I G J Φ) n ?_ ?_
    · intro hall
      exact w_X5_isCode_5 hG _ _ _ _ ⟨fun _ => ⟨rfl, k1 hall⟩, fun q => absurd (nI_le (Nat.le_refl _) (by omega)) q⟩
    · intro i hi ih hall
      have := dg_lt x i
      refine w_X5_isCode_5 hG _ _ _ _ ⟨fun q => absurd q (nI_ge (a := i) (b := n) hi (by omega)), fun _ => ⟨fun z => absurd z (by decide), fun _ => ?_⟩⟩
      rw [hL.1.2.2.1, es, dg_sh hx (by omega), nI_leI (by omega) (by omega), show nI i + (1 : Int32) = nI (i + 1) from nI_1 _]
      refine ⟨fun q => ?_, fun q => ih (fun k hk => ?_)⟩
      · have no : ¬ vdN (L 0 2) n x := fun z => by have := z i hi; omega
        exact w_X5_isCode_5 hG _ _ _ _ ⟨fun _ => ⟨rfl, k0 no⟩, fun _ => ⟨fun _ => ⟨rfl, k0 no⟩, fun z => absurd rfl z⟩⟩
      · by_cases e : k = i
        · rw [e]; omega
        · exact hall k (by omega)
  exact key 0 (Nat.zero_le _) (fun k hk => absurd hk (by omega))
theorem m_stepBy (X : Mm I G 0 L M) {h x n : Nat} (hh : h < L 0 0) (hx : x < 2 ^ 31) (hn : n ≤ 6) (k : ∀ I', FrD 100 I I' → Φ (some (.int (nI (M 1 h + vlN (L 0 2) (ndN L M h) (frN L M h) (L 8) n x (M 3) 0)))) 136 I' G J) : Ev (d + 3) mX5_stepBy 136 0 [some (.ref 122), some (.int (nI h)), some (.int (nI x)), some (.int (nI n)), none, none, none] [] 136 I G J Φ := by
  obtain ⟨hG, hL, hM, wL, wM, -⟩ := id X
  have b := wL.h hh
  have b2 := wL.2.2.1
  have b5 := (wM.2.2.1 h hh).1
  have fr1 : frN L M h ≤ L 1 h - M 1 h := frF_le _ _ _
  have n1 := nd_le (M := M) wL hh
  have e126 : I 126 h = nI (L 2 h) := (hL.2.1 h hh).2.1
  have key : ∀ (r i s : Nat) (I1 : MI) (f o : Nat → Nat), i + r = n → FrD 100 I I1 → s ≤ frN L M h → (∀ m, m < L 0 2 → f m ≤ L 8 m) → (∀ m, m < L 0 2 → o m ≤ L 0 0) → Mm I1 G 100 L (tlM L M h (M 1 h + s) f o) → vlN (L 0 2) (ndN L M h) (frN L M h) (L 8) r x f s = vlN (L 0 2) (ndN L M h) (frN L M h) (L 8) n x (M 3) 0 → Ev (d + 3) mX5_stepBy 136 10 [some (.ref 122), some (.int (nI h)), some (.int (nI x)), some (.int (nI n)), some (.int (nI i)), none, none] [] 136 I1 G J Φ := by
    intro r
    induction r with
    | zero =>
      intro i s I1 f o hi f1 hs hf ho X1 hv
      obtain rfl : i = n := by omega
      refine w_X5_stepBy_10 hG _ _ _ _ ⟨fun _ => ?_, fun q => absurd (nI_le (Nat.le_refl _) (by omega)) q⟩
      rw [show (100 : Int32) + nI h = nI (100 + h) from nI_add 100 h, nI_clamp (n := 100 + h) (by omega)]
      refine ⟨vp_in_nI (by omega) (by decide), ?_⟩
      have e100 := (X1.2.2.1.2.1 h hh).1
      rw [tl_1] at e100
      rw [vlN] at hv
      have := k I1 f1
      rw [← hv, ← e100] at this
      exact this
    | succ r ihr =>
      intro i s I1 f o hi f1 hs hf ho X1 hv
      have c8 := dg_lt x r
      have e7 : (nI n - (1 : Int32)) - nI i = nI r := by
        rw [show nI n - (1 : Int32) = nI (n - 1) from pk_sub (b := 1) (by omega), pk_sub (by omega), show n - 1 - i = r by omega]
      refine w_X5_stepBy_10 hG _ _ _ _ ⟨fun q => absurd q (nI_ge (a := i) (b := n) (by omega) (by omega)), fun _ => ?_⟩
      rw [e7, dg_sh hx (by omega)]
      refine m_orderAll (x := 100) (s := dgN x r) X1 hh (by omega) (fun I2 f2 X2 => ⟨rfl, rfl, rfl, rfl, ?_⟩)
      rw [tl_oa] at X2
      have f12 := f1.tr f2.d
      have e100 : I2 123 (100 + h) = nI (M 1 h + s) := by
        have := (X2.2.2.1.2.1 h hh).1
        rwa [tl_1] at this
      have est : stA L (tlM L M h (M 1 h + s) f (fun m => if dgN x r / 2 ^ m % 2 = 1 then h + 1 else 0)) h = psN (L 0 2) f (dgN x r) := by
        rw [tl_st]
        refine sumN_congr (fun m _ => ?_)
        by_cases e : dgN x r / 2 ^ m % 2 = 1
        · simp [e]
        · simp [e]
      have ops : ∀ m, m < L 0 2 → (if dgN x r / 2 ^ m % 2 = 1 then h + 1 else 0) ≤ L 0 0 := fun m _ => by split <;> omega
      have pb : psN (L 0 2) f (dgN x r) ≤ 27 := by rw [← est]; exact stA_le wL X2.2.2.2.2.1 h
      have g1 := bkN_lt (M := M) (h := h) (p := M 1 h + s + 1) wL
      have g3 := szN_le (M := M) wL hh
      -- the hour's end: s' the step, x5 whether it is over
      have fin : ∀ (P O : Prop) [Decidable P] [Decidable O], (O ↔ M 1 h + s = L 1 h) → (P ↔ (s < frN L M h ∧ ndN L M h ≤ psN (L 0 2) f (dgN x r))) → Ev (d + 3) mX5_stepBy 136 100 [some (.ref 122), some (.int (nI h)), some (.int (nI x)), some (.int (nI n)), some (.int (nI i)), some (.int (if O then 1 else 0)), none] [.int (if P then 1 else 0)] 136 I2 G J Φ := by
        intro P O _ _ hO hP
        refine w_X5_stepBy_100 hG _ _ _ _ _ _ ?_
        rw [show (100 : Int32) + nI h = nI (100 + h) from nI_add 100 h, nI_clamp (n := 100 + h) (by omega), e100]
        have v : vp_in (nI (100 + h)) 1400 := vp_in_nI (by omega) (by decide)
        refine ⟨v, m_one hG ⟨_, rfl, rfl, rfl, rfl, rfl, v, ?_⟩⟩
        have go : ∀ (s' bb : Nat), bb < 2 ^ 31 → s' ≤ frN L M h → (if s < frN L M h ∧ ndN L M h ≤ psN (L 0 2) f (dgN x r) then s + 1 else s) = s' → (bb = 0 ∨ frN L M h ≤ s') → Ev (d + 2) mX5_tire 136 0 [some (.ref 122), some (.int (100 : Int32)), some (.int (nI bb)), none, none, none] [] 136 (u2 I2 123 (100 + h) (nI (M 1 h + s'))) G J (fun r n4 I4 G4 J4 => r = none ∧ n4 = 136 ∧ G = G4 ∧ J = J4 ∧ (Ev (d + 3) mX5_stepBy 136 10 [some (.ref 122), some (.int (nI h)), some (.int (nI x)), some (.int (nI n)), some (.int (nI i + (1 : Int32))), none, none] [] 136 I4 G J Φ)) := by
          intro s' bb hbb hs' he hbo
          have f3 : FrM 100 I2 (u2 I2 123 (100 + h) (nI (M 1 h + s'))) := FrM.rf.u2 (by omega)
          have X3 : Mm (u2 I2 123 (100 + h) (nI (M 1 h + s'))) G 100 L (tlM L M h (M 1 h + s') f (fun m => if dgN x r / 2 ^ m % 2 = 1 then h + 1 else 0)) := by
            refine X2.fr f3.1 ?_ (tl_w wM (by omega) hf ops)
            rw [← tl_up (s := M 1 h + s) (M 1 h + s')]
            exact X2.2.2.1.step wL b.1 _
          refine m_tire (x := 100) (s := bb) X3 hbb (fun I4 f4 X4 => ⟨rfl, rfl, rfl, rfl, ?_⟩)
          rw [show nI i + (1 : Int32) = nI (i + 1) from nI_1 _]
          rw [tl_tr] at X4
          refine ihr (i + 1) s' I4 _ _ (by omega) ((f12.tr f3.d).tr f4.d) hs' (fun m hm => ?_) ops X4 ?_
          · have := hf m hm
            exact if_le (by omega) (by omega)
          · rw [← hv, vlN, he]
            by_cases e9 : frN L M h ≤ s'
            · rw [vl_end _ _ _ _ e9, vl_end _ _ _ _ e9]
            · obtain rfl : bb = 0 := hbo.resolve_right e9
              have ef : ∀ m, (if (if dgN x r / 2 ^ m % 2 = 1 then h + 1 else 0) ≠ 0 ∧ 0 / 2 ^ ((if dgN x r / 2 ^ m % 2 = 1 then h + 1 else 0) - 1) % 2 = 0 then f m - 1 else min (L 8 m) (f m + 1)) = tiF (L 8) f (dgN x r) m := fun m => by
                unfold tiF
                rw [Nat.zero_div]
                by_cases e : dgN x r / 2 ^ m % 2 = 1
                · rw [if_pos e, if_pos e, if_pos ⟨by omega, rfl⟩]
                · rw [if_neg e, if_neg e, if_neg (fun z => z.1 rfl)]
              rw [show (fun m => if (if dgN x r / 2 ^ m % 2 = 1 then h + 1 else 0) ≠ 0 ∧ 0 / 2 ^ ((if dgN x r / 2 ^ m % 2 = 1 then h + 1 else 0) - 1) % 2 = 0 then f m - 1 else min (L 8 m) (f m + 1)) = tiF (L 8) f (dgN x r) from funext ef]
        have sh : (1 : Int32) <<< (nI h &&& 31) = nI (2 ^ h) := by
          have p3 : 2 ^ h ≤ 2 ^ 3 := Nat.pow_le_pow_right (by omega) (by omega)
          have := nshl (a := 1) (i := h) (by omega) (by omega)
          rw [Nat.one_mul] at this
          exact this
        have b31 : 2 ^ h < 2 ^ 31 := by
          have p3 : 2 ^ h ≤ 2 ^ 3 := Nat.pow_le_pow_right (by omega) (by omega)
          omega
        rw [if01, hO, sh]
        by_cases q : P
        · have q2 := hP.mp q
          rw [if_pos q, show nI (M 1 h + s) + (1 : Int32) = nI (M 1 h + (s + 1)) from nI_1 _]
          refine ⟨fun z => go (s + 1) 0 (by omega) (by omega) (by rw [if_pos q2]) (Or.inl rfl), fun z => ?_⟩
          have := fr_step hs
          omega
        · have q2 : ¬ (s < frN L M h ∧ ndN L M h ≤ psN (L 0 2) f (dgN x r)) := fun y => q (hP.mpr y)
          rw [if_neg q, show nI (M 1 h + s) + (0 : Int32) = nI (M 1 h + s) from nI_add _ 0]
          refine ⟨fun z => go s 0 (by omega) hs (by rw [if_neg q2]) (Or.inl rfl), fun z => go s (2 ^ h) b31 hs (by rw [if_neg q2]) (Or.inr (by omega))⟩
      refine m_isOver (x := 100) X2 hh ⟨_, rfl, rfl, rfl, rfl, rfl, ?_⟩
      have eO : (ovr L (tlM L M h (M 1 h + s) f (fun m => if dgN x r / 2 ^ m % 2 = 1 then h + 1 else 0)) h = true) ↔ M 1 h + s = L 1 h := by rw [tl_ov, decide_eq_true_eq]
      have no : ¬ (s < frN L M h ∧ ndN L M h ≤ psN (L 0 2) f (dgN x r)) → Ev (d + 3) mX5_stepBy 136 100 [some (.ref 122), some (.int (nI h)), some (.int (nI x)), some (.int (nI n)), some (.int (nI i)), some (.int (if ovr L (tlM L M h (M 1 h + s) f (fun m => if dgN x r / 2 ^ m % 2 = 1 then h + 1 else 0)) h = true then 1 else 0)), none] [.int (0 : Int32)] 136 I2 G J Φ := fun q => by
        have := fin False _ eO (by simpa using q)
        rw [if_neg (fun z => z)] at this
        exact this
      rw [if01]
      have fst := fr_step hs
      refine ⟨fun q => no (fun y => ?_), fun q => m_pushOf (x := 100) X2 hh ⟨_, rfl, rfl, rfl, rfl, rfl, m_sizeIn (x := 100) X2 hh ⟨_, rfl, rfl, rfl, rfl, rfl, vp_in_nI (by omega) (by decide), ?_⟩⟩⟩
      · have := eO.mp (Decidable.not_not.mp q)
        have := fst.mp y.1
        omega
      · rw [est, tl_sz, f12.1 126 (by omega), nI_clamp (n := h) (by omega), e126, nI_add, nI_ltI (by omega) (by omega)]
        refine ⟨fun q2 => no (fun y => by have := y.2; unfold ndN at this; omega), fun q2 => ?_⟩
        rw [show (100 : Int32) + nI h = nI (100 + h) from nI_add 100 h, nI_clamp (n := 100 + h) (by omega), e100, show nI (M 1 h + s) + (1 : Int32) = nI (M 1 h + s + 1) from nI_1 _]
        refine ⟨vp_in_nI (by omega) (by decide), m_blocksIn (x := 100) X2 hh (by omega) ⟨_, rfl, rfl, rfl, rfl, rfl, ?_⟩⟩
        rw [tl_bk, show (0 : Int32) = nI 0 from rfl, nI_eq (by omega) (by omega)]
        refine ⟨fun q3 => no (fun y => q3 (fst.mp y.1).2), fun q3 => ?_⟩
        have := fin True _ eO (by
          simp only [true_iff]
          refine ⟨fst.mpr ⟨?_, q3⟩, by unfold ndN; omega⟩
          have : ¬ M 1 h + s = L 1 h := fun z => q (eO.mpr z)
          omega)
        rw [if_pos trivial] at this
        exact this
  refine w_X5_stepBy hG _ _ _ (m_copy (x := 0) (y := 100) hG (by omega) (by omega) (by omega) (fun I1 f1 c1 => ⟨rfl, rfl, rfl, rfl, ?_⟩))
  have X1 : Mm I1 G 100 L M := ⟨hG, hL.congr f1.1, hM.cp wL c1, wL, wM, by omega⟩
  refine key n 0 0 I1 (M 3) (M 4) (by omega) f1 (by omega) (fun m hm => (wM.2.2.2 m hm).1) (fun m hm => (wM.2.2.2 m hm).2) ?_ rfl
  rw [Nat.add_zero, tl_id]
  exact X1
end HIG
