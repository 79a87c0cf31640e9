/-! ===== highest, both ===== -/
section HIP
variable {d : Nat} {I : MI} {G : MG} {J : MJ} {Φ : Ph} {a : Nat} {L : Ld} {M : Mo} {T : Tm}
theorem SR.c39 {I' : MI} (S : SR I G J a L T) (h1 : ∀ x, ¬ ((39 ≤ x ∧ x < 50) ∨ x = 123) → I' x = I x) (h2 : ∀ k, ¬ (100 ≤ k ∧ k < 200) → I' 123 k = I 123 k) : Kp I G I' G ∧ ∃ a L T, SR I' G J a L T := by
  obtain ⟨s1, s2, s3, s4, s5, s6, s7, s8⟩ := S
  have w := s1.2.2.2.2.2.2
  refine ⟨⟨h1 1000 (by omega), rfl⟩, a, L, T, ?_, ?_, ?_, ?_, ?_, ?_, s7, ?_⟩
  · exact s1.cg (fun x q1 q2 => h1 x (by omega)) (fun k q1 q2 => by rw [h1 122 (by omega)]) (fun x q1 q2 => h1 x (by omega))
  · exact s2.cg w (fun x q1 q2 => h1 x (by omega)) (fun k q => h2 k (by omega))
  · exact s3.cg w (by rw [h1 0 (by omega)]) (by rw [h1 122 (by omega)]) (fun x q1 q2 => h1 x (by omega)) (fun k q q2 => h2 k (by omega))
  · exact s4.cg w (h1 36 (by omega)) (h1 124 (by omega)) (fun x q1 q2 => h1 x (by omega)) (fun k q q2 => h2 k (by omega))
  · exact s5.cg (by rw [h1 0 (by omega)]) (by rw [h1 122 (by omega)]) (h1 37 (by omega)) (h1 38 (by omega)) (h1 134 (by omega)) (h1 135 (by omega))
  · exact s6.cg (by rw [h1 0 (by omega)]) (by rw [h1 122 (by omega)]) (h1 1 (by omega)) (h1 133 (by omega))
  · exact s8.cg (fun x hx => h1 x (by omega))
/-- the answers that a least highest row gives -/
def anH (Φ : Ph) (I : MI) (G : MG) (J : MJ) (M : Mo) (h n : Nat) (x2 : Int32) (b v : Nat) : Prop := (x2 = (-9 : Int32) → Φ (some (.int (nI (M 1 h + v)))) 136 I G J) ∧ (∀ i, i < n → x2 = nI i → Φ (some (.int (nI (dgN b (n - 1 - i))))) 136 I G J) ∧ (¬ x2 = (-9 : Int32) → ¬ x2 < nI n → Φ (some (.int (-5 : Int32))) 136 I G J)
theorem m_highest (X : Mm I G 0 L M) {h : Nat} (hh : h < L 0 0) (hlt : M 0 1 < L 0 3) {x2 : Int32} (hx2 : 0 ≤ x2 ∨ x2 = (-9 : Int32)) (k : ∀ (I' : MI) (b v : Nat), FrD 100 I I' → laP (L 0 2) (ndN L M h) (frN L M h) (L 8) (L 0 3 - M 0 1) (M 3) 0 b v → anH Φ I' G J M h (L 0 3 - M 0 1) x2 b v) : Ev (d + 4) mX5_highest 136 0 [some (.ref 122), some (.int (nI h)), some (.int x2), none, none, none, none, none, none] [] 136 I G J Φ := by
  obtain ⟨hG, hL, hM, wL, wM, -⟩ := id X
  have b := wL.h hh
  have b3 := wL.2.2.2.1
  have n1 := nd_le (M := M) wL hh
  have n2 := fr_le (M := M) wL hh
  have b5 := (wM.2.2.1 h hh).1
  have hx : 0 ≤ nI h ∧ nI h < nI (L 0 0) := ⟨nI_pos' (by omega), (nI_ltI (by omega) (by have := wL.1; omega)).mpr hh⟩
  have el : I 122 13 - I 123 15 = nI (L 0 3 - M 0 1) := by
    have e15 : I 123 15 = nI (M 0 1) := hM.1.2
    rw [hL.1.2.2.2.1, e15, pk_sub (by omega)]
  have p6 : 8 ^ (L 0 3 - M 0 1) ≤ 8 ^ 6 := Nat.pow_le_pow_right (by omega) (by omega)
  have p0 : 0 < 8 ^ (L 0 3 - M 0 1) := Nat.pow_pos (by omega)
  have es : (1 : Int32) <<< (((3 : Int32) * nI (L 0 3 - M 0 1)) &&& 31) = nI (8 ^ (L 0 3 - M 0 1)) := by
    have e8 : 2 ^ (3 * (L 0 3 - M 0 1)) = 8 ^ (L 0 3 - M 0 1) := by rw [Nat.pow_mul]
    have := nshl (a := 1) (i := 3 * (L 0 3 - M 0 1)) (by omega) (by rw [Nat.one_mul, e8]; omega)
    rw [Nat.one_mul, e8] at this
    rw [show (3 : Int32) * nI (L 0 3 - M 0 1) = nI (3 * (L 0 3 - M 0 1)) from pk_mul 3 _]
    exact this
  -- the end
  have fin : ∀ (I1 : MI) (O : Prop) [Decidable O] (b v : Nat) (x5 : Int32), FrD 100 I I1 → (O ↔ ovr L M h = true) → (¬ O → x5 = nI (M 1 h + v)) → laP (L 0 2) (ndN L M h) (frN L M h) (L 8) (L 0 3 - M 0 1) (M 3) 0 b v → (O → v = 0) → (¬ x2 = (-9 : Int32) → (x2 < nI (L 0 3 - M 0 1) → Φ (some (.int ((nI b >>> (((3 : Int32) * ((nI (L 0 3 - M 0 1) - (1 : Int32)) - x2)) &&& 31)) &&& (7 : Int32)))) 136 I1 G J) ∧ (¬ x2 < nI (L 0 3 - M 0 1) → Φ (some (.int (-5 : Int32))) 136 I1 G J)) ∧ (x2 = (-9 : Int32) → ((if O then (1 : Int32) else 0) = 0 → Φ (some (.int x5)) 136 I1 G J) ∧ (¬ (if O then (1 : Int32) else 0) = 0 → vp_in (nI h) 8 ∧ (Φ (some (.int (I1 125 (nI h).toNatClampNeg))) 136 I1 G J))) := by
    intro I1 O _ bb v x5 f1 hO h5 hla hv0
    have kk := k I1 bb v f1 hla
    rw [if01]
    refine ⟨fun q => ⟨fun q2 => ?_, fun q2 => kk.2.2 q q2⟩, fun q => ⟨fun q2 => ?_, fun q2 => ⟨vp_in_nI (by omega) (by decide), ?_⟩⟩⟩
    · obtain ⟨i, hi, e⟩ := hill_of (n := L 0 3 - M 0 1) (by omega) ⟨hx2.resolve_right q, q2⟩
      have := kk.2.1 i hi e
      have bl : bb < 8 ^ (L 0 3 - M 0 1) := hla.1
      rw [e, show nI (L 0 3 - M 0 1) - (1 : Int32) = nI (L 0 3 - M 0 1 - 1) from pk_sub (b := 1) (by omega), pk_sub (by omega), dg_sh (by omega) (by omega)]
      exact this
    · rw [h5 q2]; exact kk.1 q
    · have o1 := hO.mp (Decidable.not_not.mp q2)
      have := kk.1 q
      rw [hv0 (Decidable.not_not.mp q2)] at this
      have e : I1 125 (nI h).toNatClampNeg = nI (M 1 h + 0) := by
        rw [nI_clamp (n := h) (by omega), f1.1 125 (by omega), (hL.2.1 h hh).1]
        simp only [ovr, decide_eq_true_eq] at o1
        rw [o1, Nat.add_zero]
      rw [e]
      exact this
  have la0 : ovr L M h = true → laP (L 0 2) (ndN L M h) (frN L M h) (L 8) (L 0 3 - M 0 1) (M 3) 0 0 0 := by
    intro o1
    simp only [ovr, decide_eq_true_eq] at o1
    have f0 : frN L M h ≤ 0 := by
      have : frN L M h ≤ L 1 h - M 1 h := frF_le _ _ _
      omega
    exact ⟨p0, vd_0 _ _, vl_0 n1.1 _ _ _, fun j _ _ => ⟨Nat.le_trans (vl_fr _ _ _ _ (by omega)) f0, fun z => by omega⟩⟩
  have loop : ovr L M h = false → ∀ K, K ≤ 8 ^ (L 0 3 - M 0 1) → 1 ≤ K → ∀ (I1 : MI) (bb v : Nat), FrD 100 I I1 → bb < K → vdN (L 0 2) (L 0 3 - M 0 1) bb → vlN (L 0 2) (ndN L M h) (frN L M h) (L 8) (L 0 3 - M 0 1) bb (M 3) 0 = v → (∀ j, j < K → vdN (L 0 2) (L 0 3 - M 0 1) j → vlN (L 0 2) (ndN L M h) (frN L M h) (L 8) (L 0 3 - M 0 1) j (M 3) 0 ≤ v ∧ (j < bb → vlN (L 0 2) (ndN L M h) (frN L M h) (L 8) (L 0 3 - M 0 1) j (M 3) 0 < v)) → Ev (d + 4) mX5_highest 136 50 [some (.ref 122), some (.int (nI h)), some (.int x2), some (.int (nI (L 0 3 - M 0 1))), some (.int (nI bb)), some (.int (nI (M 1 h + v))), some (.int (if ovr L M h = true then 1 else 0)), some (.int (nI K)), none] [] 136 I1 G J Φ := by
    intro o0
    refine down_ind (E := fun K => 1 ≤ K → ∀ (I1 : MI) (bb v : Nat), FrD 100 I I1 → bb < K → vdN (L 0 2) (L 0 3 - M 0 1) bb → vlN (L 0 2) (ndN L M h) (frN L M h) (L 8) (L 0 3 - M 0 1) bb (M 3) 0 = v → (∀ j, j < K → vdN (L 0 2) (L 0 3 - M 0 1) j → vlN (L 0 2) (ndN L M h) (frN L M h) (L 8) (L 0 3 - M 0 1) j (M 3) 0 ≤ v ∧ (j < bb → vlN (L 0 2) (ndN L M h) (frN L M h) (L 8) (L 0 3 - M 0 1) j (M 3) 0 < v)) → Ev (d + 4) mX5_highest 136 50 [some (.ref 122), some (.int (nI h)), some (.int x2), some (.int (nI (L 0 3 - M 0 1))), some (.int (nI bb)), some (.int (nI (M 1 h + v))), some (.int (if ovr L M h = true then 1 else 0)), some (.int (nI K)), none] [] 136 I1 G J Φ) (8 ^ (L 0 3 - M 0 1)) ?_ ?_
    · intro _ I1 bb v f1 hb hvd hvl hall
      refine w_X5_highest_50 hG _ _ _ _ _ _ _ ⟨fun _ => fin I1 _ bb v _ f1 Iff.rfl (fun _ => rfl) ⟨hb, hvd, hvl, hall⟩ (fun z => absurd z (by rw [o0]; decide)), fun z => absurd ?_ z⟩
      rw [es]; exact nI_le (Nat.le_refl _) (by omega)
    · intro K hK ih h1 I1 bb v f1 hb hvd hvl hall
      have X1 : Mm I1 G 0 L M := ⟨hG, hL.congr f1.1, hM.congr wL (fun j _ _ => f1.2 j (by omega)), wL, wM, by omega⟩
      have v9 : v ≤ 9 := by
        rw [← hvl]
        exact Nat.le_trans (vl_fr _ _ _ _ (by omega)) n2
      refine w_X5_highest_50 hG _ _ _ _ _ _ _ ⟨fun z => ?_, fun _ => ⟨fun z => absurd z (by rw [o0]; decide), fun _ => ?_⟩⟩
      · rw [es, nI_leI (by omega) (by omega)] at z
        omega
      · rw [show nI K + (1 : Int32) = nI (K + 1) from nI_1 _]
        refine m_isCode X1.l (by omega) (by omega) (fun hd => ⟨_, rfl, rfl, rfl, rfl, rfl, fun z => absurd z (by decide), fun _ => ?_⟩) (fun hd => ⟨_, rfl, rfl, rfl, rfl, rfl, fun _ => ⟨fun _ => ?_, fun z => absurd ?_ z⟩, fun z => absurd rfl z⟩)
        · refine m_stepBy X1 hh (by omega) (by omega) (fun I2 f2 => ⟨_, rfl, rfl, rfl, rfl, ?_⟩)
          have w9 : vlN (L 0 2) (ndN L M h) (frN L M h) (L 8) (L 0 3 - M 0 1) K (M 3) 0 ≤ 9 := Nat.le_trans (vl_fr _ _ _ _ (by omega)) n2
          rw [nI_leI (by omega) (by omega)]
          refine ⟨fun q => ih (by omega) I2 bb v (f1.tr f2) (by omega) hvd hvl (fun j hj hv => ?_), fun q => ih (by omega) I2 K _ (f1.tr f2) (by omega) hd rfl (fun j hj hv => ?_)⟩
          · by_cases e : j = K
            · subst e; exact ⟨by omega, fun z => by omega⟩
            · exact hall j (by omega) hv
          · by_cases e : j = K
            · subst e; exact ⟨Nat.le_refl _, fun z => by omega⟩
            · have := (hall j (by omega) hv).1
              exact ⟨by omega, fun _ => by omega⟩
        · refine ih (by omega) I1 bb v f1 (by omega) hvd hvl (fun j hj hv => ?_)
          by_cases e : j = K
          · subst e; exact absurd hv hd
          · exact hall j (by omega) hv
        · rw [Int32.le_iff_toInt_le, toI_nI (by omega)]
          have : (-1 : Int32).toInt = -1 := by decide
          omega
  have start : Ev (d + 4) mX5_highest 136 50 [some (.ref 122), some (.int (nI h)), some (.int x2), some (.int (nI (L 0 3 - M 0 1))), some (.int (0 : Int32)), some (.int (-1 : Int32)), some (.int (if ovr L M h = true then 1 else 0)), some (.int (0 : Int32)), none] [] 136 I G J Φ := by
    by_cases o1 : ovr L M h = true
    · have fi := fin I (ovr L M h = true) 0 0 (-1 : Int32) ⟨fun _ _ => rfl, fun _ _ => rfl⟩ Iff.rfl (fun z => absurd o1 z) (la0 o1) (fun _ => rfl)
      refine w_X5_highest_50 hG _ _ _ _ _ _ _ ⟨fun _ => fi, fun _ => ⟨fun _ => fi, fun z => absurd z (by rw [o1]; decide)⟩⟩
    · have o0 : ovr L M h = false := by simpa using o1
      refine w_X5_highest_50 hG _ _ _ _ _ _ _ ⟨fun z => ?_, fun _ => ⟨fun z => absurd z (by rw [o0]; decide), fun _ => ?_⟩⟩
      · rw [es] at z
        exact absurd ((nI_leI (a := 8 ^ (L 0 3 - M 0 1)) (b := 0) (by omega) (by omega)).mp z) (by omega)
      · refine m_isCode (x := 0) X.l (by omega) (by omega) (fun hd => ⟨_, rfl, rfl, rfl, rfl, rfl, fun z => absurd z (by decide), fun _ => ?_⟩) (fun hd => absurd (vd_0 _ _) hd)
        refine m_stepBy (x := 0) X hh (by omega) (by omega) (fun I2 f2 => ⟨_, rfl, rfl, rfl, rfl, ?_⟩)
        rw [vl_0 n1.1]
        refine ⟨fun z => ?_, fun _ => ?_⟩
        · rw [Int32.le_iff_toInt_le, toI_nI (by omega)] at z
          have : (-1 : Int32).toInt = -1 := by decide
          omega
        · refine loop o0 1 (by omega) (by omega) I2 0 0 f2 (by omega) (vd_0 _ _) (vl_0 n1.1 _ _ _) (fun j hj hv => ?_)
          obtain rfl : j = 0 := by omega
          rw [vl_0 n1.1]
          exact ⟨Nat.le_refl _, fun z => by omega⟩
  refine w_X5_highest hG _ _ (m_isHill X.l _ ⟨_, rfl, rfl, rfl, rfl, rfl, ?_⟩)
  rw [if01, el]
  refine ⟨fun z => absurd hx z, fun _ => ⟨fun _ => m_isOver (x := 0) X hh ⟨_, rfl, rfl, rfl, rfl, rfl, start⟩, fun q => ⟨fun _ => m_isOver (x := 0) X hh ⟨_, rfl, rfl, rfl, rfl, rfl, start⟩, fun z => absurd (hx2.resolve_left q) z⟩⟩⟩
theorem p_highest (S : SR I G J a L T) (x1 x2 : Int32) : Ev (d + 10) mX4_highest 136 0 [some (.ref 0), some (.int x1), some (.int x2), none] [] 136 I G J (P2 I G (d + 4) mX5_highest [some (.ref 122), some (.int x1), some (.int x2), none, none, none, none, none, none]) := by
  have wL := S.w
  have hG := S.1.1
  have b3 := wL.2.2.2.1
  have hlt := S.2.1.1.2.2.1
  have bad : ¬ ((0 ≤ x1 ∧ x1 < nI (L 0 0)) ∧ (0 ≤ x2 ∨ x2 = (-9 : Int32))) → P2 I G (d + 4) mX5_highest [some (.ref 122), some (.int x1), some (.int x2), none, none, none, none, none, none] (some (.int (-1 : Int32))) 136 I G J := by
    intro g
    refine S.same (w_X5_highest hG _ _ (m_isHill S.ml x1 ⟨_, rfl, rfl, rfl, rfl, rfl, ?_⟩))
    rw [if01]
    refine ⟨fun _ => ⟨rfl, rfl, rfl, rfl, rfl⟩, fun q => ⟨fun q2 => absurd ⟨Decidable.not_not.mp q, Or.inl q2⟩ g, fun q2 => ⟨fun q3 => absurd ⟨Decidable.not_not.mp q, Or.inr q3⟩ g, fun _ => ⟨rfl, rfl, rfl, rfl, rfl⟩⟩⟩⟩
  refine w_X4_highest hG S.1.2.1 S.1.2.2.1 _ _ (s_hasHill S.cl x1 ⟨_, rfl, rfl, rfl, rfl, rfl, ?_⟩)
  rw [if01]
  refine ⟨fun q => bad (fun g => q g.1), fun p => ?_⟩
  have hx := Decidable.not_not.mp p
  obtain ⟨h, hh, e⟩ := hill_of (by have := wL.1; omega) hx
  have b := wL.h hh
  subst e
  -- the reference behind any search
  have ref : (0 ≤ x2 ∨ x2 = (-9 : Int32)) → ∀ (I1 : MI), (∀ x, ¬ (39 ≤ x ∧ x < 50) → I1 x = I x) → ∀ r, (∀ (I' : MI) (b v : Nat), laP (L 0 2) (ndN L T.1 h) (frN L T.1 h) (L 8) (L 0 3 - T.1 0 1) (T.1 3) 0 b v → anH (fun r' _ _ _ _ => r' = some (.int r)) I' G J T.1 h (L 0 3 - T.1 0 1) x2 b v) → P2 I G (d + 4) mX5_highest [some (.ref 122), some (.int (nI h)), some (.int x2), none, none, none, none, none, none] (some (.int r)) 136 I1 G J := by
    intro hx2 I1 f1 r kk
    have X1 : Mm I1 G 0 L T.1 := ⟨hG, S.mm.2.1.congr2 (fun y hy => f1 y (by omega)), S.mm.2.2.1.congr wL (fun k _ _ => by rw [f1 123 (by omega)]), wL, S.2.1.1.1, by omega⟩
    refine ⟨rfl, ⟨_, rfl⟩, m_highest X1 hh hlt hx2 (fun I2 b v f2 hla => ?_)⟩
    have t := S.c39 (I' := I2) (fun x hx => by rw [f2.1 x (by omega), f1 x (by omega)]) (fun k hk => by rw [f2.2 k (by omega), f1 123 (by omega)])
    have q := kk I2 b v hla
    exact ⟨fun z => ⟨rfl, q.1 z, t⟩, fun i hi z => ⟨rfl, q.2.1 i hi z, t⟩, fun z1 z2 => ⟨rfl, q.2.2 z1 z2, t⟩⟩
  have srch : ∀ (Ψ : Ph), (∀ (I7 : MI) (b v : Nat), (∀ x, ¬ (39 ≤ x ∧ x < 50) → I7 x = I x) → laP (L 0 2) (ndN L T.1 h) (frN L T.1 h) (L 8) (L 0 3 - T.1 0 1) (T.1 3) 0 b v → I7 39 3 = nI v → (∀ i, i < L 0 3 - T.1 0 1 → I7 49 i = nI (dgN b (L 0 3 - T.1 0 1 - 1 - i))) → Ψ none 136 I7 G J) → Ev (d + 9) mX0_search 136 0 [some (.ref 39), some (.ref a), some (.ref 22), some (.int (nI h))] [] 136 I G J Ψ := fun Ψ k => s_search S.cm hh hlt k
  have e9 : ∀ n : Nat, n < 2 ^ 31 → ¬ nI n ≤ (-9 : Int32) := fun n hn z => by
    rw [Int32.le_iff_toInt_le, toI_nI hn] at z
    have : (-9 : Int32).toInt = -9 := by decide
    omega
  have ne9 : ∀ n : Nat, n < 2 ^ 31 → ¬ nI n = (-9 : Int32) := fun n hn z => e9 n hn (by rw [z]; decide)
  have five : (0 ≤ x2 ∨ x2 = (-9 : Int32)) → nI (L 0 3 - T.1 0 1) ≤ x2 → P2 I G (d + 4) mX5_highest [some (.ref 122), some (.int (nI h)), some (.int x2), none, none, none, none, none, none] (some (.int (-5 : Int32))) 136 I G J := by
    intro hx2 hge
    refine ref hx2 I (fun _ _ => rfl) _ (fun I' b v _ => ⟨fun z => ?_, fun i hi z => ?_, fun _ _ => rfl⟩)
    · rw [z] at hge; exact absurd hge (e9 _ (by omega))
    · rw [z, nI_leI (by omega) (by omega)] at hge; omega
  refine ⟨fun q => s_hoursLeft S.cm ⟨_, rfl, rfl, rfl, rfl, rfl, ?_⟩, fun q => ⟨fun q9 => s_hoursLeft S.cm ⟨_, rfl, rfl, rfl, rfl, rfl, ?_⟩, fun z => bad (fun g => g.2.elim q z)⟩⟩
  · refine ⟨fun z => five (Or.inl q) z, fun z => ?_⟩
    obtain ⟨i, hi, e⟩ := hill_of (n := L 0 3 - T.1 0 1) (by omega) ⟨q, Int32.not_le.mp z⟩
    subst e
    refine ⟨fun _ => srch _ (fun I7 b v f7 hla h3 hr => ⟨rfl, rfl, rfl, rfl, fun _ => ⟨vp_in_nI (by omega) (by decide), ?_⟩, fun z => absurd z (ne9 i (by omega))⟩), fun z => absurd (nI_lt (a := i) (b := 6) (by omega) (by omega)) z⟩
    rw [nI_clamp (n := i) (by omega), hr i hi]
    refine ref (Or.inl q) I7 f7 _ (fun I' b' v' hla' => ⟨fun z => absurd z (ne9 i (by omega)), fun i' hi' z => ?_, fun _ z => absurd ((nI_ltI (by omega) (by omega)).mpr hi) z⟩)
    have : i = i' := (nI_eq (by omega) (by omega)).mp z
    rw [(la_uniq hla' hla).1, this]
  · subst q9
    refine ⟨fun z => five (Or.inr rfl) z, fun z => ⟨fun _ => srch _ (fun I7 b' v f7 hla h3 hr => ⟨rfl, rfl, rfl, rfl, fun z => absurd rfl z, fun _ => ⟨vp_in_nI (by omega) (by decide), ?_⟩⟩), fun z => absurd (by decide) z⟩⟩
    have e1 : I7 (22 + 1) h = nI (T.1 1 h) := by rw [f7 (22 + 1) (by omega)]; exact (S.2.1.2.1.1.2.1 h hh).1
    rw [nI_clamp (n := h) (by omega), e1, h3, nI_add]
    refine ref (Or.inr rfl) I7 f7 _ (fun I' b2 v' hla' => ⟨fun _ => ?_, fun i' hi' z => absurd z.symm (ne9 i' (by omega)), fun z _ => absurd rfl z⟩)
    rw [(la_uniq hla' hla).2]
end HIP
