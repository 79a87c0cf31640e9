/-! ===== reading: the reference's tokens and numbers ===== -/
def kR (k : Nat) : Int32 := if k = 0 then -1 else if k = 1 then -2 else if k = 2 then 0 else nI k
/-- what next() leaves -/
def nkP (I I' : MI) (c : Nat → Nat) (nt i : Nat) : Prop := (∀ x, x ≠ 122 → I' x = I x) ∧ (∀ f, ¬ (23 ≤ f ∧ f ≤ 26) → I' 122 f = I 122 f) ∧ I' 122 23 = nI (tkN c nt i).2.2.1 ∧ I' 122 24 = nI (tkN c nt i).2.1 ∧ I' 122 25 = kR (tkN c nt i).1 ∧ ((tkN c nt i).1 = 2 → I' 122 26 = nI (tkN c nt i).2.2.2)
section RDM
variable {d : Nat} {I : MI} {G : MG} {J : MJ} {Φ : Ph} {c : Nat → Nat} {nt : Nat}
theorem m_isFigure (hG : WG G) {x : Nat} (hx : x < 2 ^ 31) (k : Φ (some (.int (if dgB x = true then 1 else 0))) 136 I G J) : Ev (d + 1) mX5_isFigure 136 0 [some (.int (nI x))] [] 136 I G J Φ := by
  refine w_X5_isFigure hG _ (m_in hG _ _ _ ⟨_, rfl, rfl, rfl, rfl, rfl, nar01, ?_⟩)
  have e : (¬ (nI x).toInt64 < (48 : Int64) ∧ ¬ (57 : Int64) < (nI x).toInt64) = (dgB x = true) := by
    rw [show (48 : Int64) = (nI 48).toInt64 from rfl, show (57 : Int64) = (nI 57).toInt64 from rfl, in_ab, nI_leI (by omega) (by omega), nI_leI (by omega) (by omega)]
    unfold dgB
    simp
  simp only [e]
  exact k
theorem m_nxNumber (hG : WG G) (tx : txP I 133 c nt) {p : Nat} (h2 : I 122 22 = nI nt) (h3 : I 122 23 = nI p) (hp : p < nt) (hdg : dgB (c p) = true) (h6 : I 122 26 = nI 0) (k : ∀ I' : MI, (∀ x, x ≠ 122 → I' x = I x) → (∀ f, ¬ (f = 23 ∨ f = 25 ∨ f = 26) → I' 122 f = I 122 f) → I' 122 23 = nI (scA c nt p 0).1 → I' 122 25 = kR (nuK c nt p) → ((scA c nt p 0).2 ≤ 511 → I' 122 26 = nI (scA c nt p 0).2) → Φ none 136 I' G J) : Ev (d + 2) mX5_next 136 107 [some (.ref 122), some (.int (if c p = 48 then 1 else 0)), some (.int (nI 0))] [] 136 I G J Φ := by
  have n2 := tx.1
  have key : ∀ (n j e v : Nat) (I1 : MI), j + n = nt → p ≤ j → (∀ x, x ≠ 122 → I1 x = I x) → (∀ f, ¬ (f = 23 ∨ f = 25 ∨ f = 26) → I1 122 f = I 122 f) → I1 122 23 = nI j → I1 122 26 = nI v → v ≤ 100000 → vrP v e → scA c nt j e = scA c nt p 0 → Ev (d + 2) mX5_next 136 107 [some (.ref 122), some (.int (if c p = 48 then 1 else 0)), some (.int (nI (j - p)))] [] 136 I1 G J Φ := by
    intro n
    have fin : ∀ (j e v : Nat) (I1 : MI), p ≤ j → j ≤ nt → (∀ x, x ≠ 122 → I1 x = I x) → (∀ f, ¬ (f = 23 ∨ f = 25 ∨ f = 26) → I1 122 f = I 122 f) → I1 122 23 = nI j → I1 122 26 = nI v → v ≤ 100000 → vrP v e → (j, e) = scA c nt p 0 → (511 < v → Φ none 136 (u2 I1 122 25 (-2 : Int32)) G J) ∧ (¬ 511 < v → (¬ c p = 48 → Φ none 136 (u2 I1 122 25 (0 : Int32)) G J) ∧ (¬ ¬ c p = 48 → (j - p ≤ 1 → Φ none 136 (u2 I1 122 25 (0 : Int32)) G J) ∧ (¬ j - p ≤ 1 → Φ none 136 (u2 I1 122 25 (-2 : Int32)) G J))) := by
      intro j e v I1 hpj hjn f1 f2 f3 f6 hv hvr hsc
      have go : ∀ t : Nat, t = nuK c nt p → Φ none 136 (u2 I1 122 25 (kR t)) G J := by
        intro t ht
        refine k _ (fun x hx => by rw [u2_row _ _ _ hx, f1 x hx]) (fun f hf => by rw [u2_ne _ _ (by omega), f2 f hf]) (by rw [u2_ne _ _ (by omega), f3, ← hsc]) (by rw [u2_at, ht]) (fun h5 => ?_)
        rw [← hsc] at h5 ⊢
        rw [u2_ne _ _ (by omega), f6, hvr.1 h5]
      have wr : (511 < e ∨ (c p = 48 ∧ 1 < j - p)) → Φ none 136 (u2 I1 122 25 (-2 : Int32)) G J := fun q => go 1 (by unfold nuK; rw [← hsc, if_pos q])
      have ok : ¬ (511 < e ∨ (c p = 48 ∧ 1 < j - p)) → Φ none 136 (u2 I1 122 25 (0 : Int32)) G J := fun q => go 2 (by unfold nuK; rw [← hsc, if_neg q])
      have h1 := hvr.1
      have h2 := hvr.2
      exact ⟨fun q => wr (by omega), fun q => ⟨fun q2 => ok (by omega), fun q2 => ⟨fun q3 => ok (by omega), fun q3 => wr (by omega)⟩⟩⟩
    induction n with
    | zero =>
      intro j e v I1 hj hpj f1 f2 f3 f6 hv hvr hsc
      rw [sc_end e (fun z => by omega)] at hsc
      have e22 : I1 122 22 = nI nt := by rw [f2 22 (by omega)]; exact h2
      refine w_X5_next_107 hG _ _ ⟨fun _ => ?_, fun q => absurd ?_ q⟩
      · rw [f6, if01, show (511 : Int32) = nI 511 from rfl, nI_ltI (by omega) (by omega), show (1 : Int32) = nI 1 from rfl, nI_leI (by omega) (by omega)]
        exact fin j e v I1 hpj (by omega) f1 f2 f3 f6 hv hvr hsc
      · rw [e22, f3]; exact nI_le (by omega) (by omega)
    | succ n ih =>
      intro j e v I1 hj hpj f1 f2 f3 f6 hv hvr hsc
      have cj := tx.2 j (by omega)
      have tj : I1 133 j = nI (c j) := by rw [f1 133 (by omega)]; exact cj.1
      have e22 : I1 122 22 = nI nt := by rw [f2 22 (by omega)]; exact h2
      refine w_X5_next_107 hG _ _ ⟨fun q => ?_, fun _ => ?_⟩
      · rw [e22, f3, nI_leI (by omega) (by omega)] at q
        omega
      · rw [f3, nI_clamp (n := j) (by omega), tj]
        refine ⟨vp_in_nI (by omega) (by decide), m_isFigure hG (by omega) ⟨_, rfl, rfl, rfl, rfl, rfl, ?_⟩⟩
        rw [if01, f6, if01, show (511 : Int32) = nI 511 from rfl, nI_ltI (by omega) (by omega), show (1 : Int32) = nI 1 from rfl, nI_leI (by omega) (by omega)]
        refine ⟨fun q => ?_, fun q => ?_⟩
        · rw [sc_end e (fun z => q z.2)] at hsc
          exact fin j e v I1 hpj (by omega) f1 f2 f3 f6 hv hvr hsc
        · have q' := Decidable.not_not.mp q
          rw [sc_go e (by omega) q'] at hsc
          have qd : 48 ≤ c j ∧ c j ≤ 57 := by unfold dgB at q'; simpa using q'
          have h1 := hvr.1
          have h2 := hvr.2
          rw [nI_add j 1, nI_add (j - p) 1, show j - p + 1 = j + 1 - p by omega, show (9999 : Int32) = nI 9999 from rfl, nI_leI (by omega) (by omega)]
          refine ⟨fun q2 => ⟨vp_in_nI (by omega) (by decide), ?_⟩, fun q2 => ?_⟩
          · rw [show (10 : Int32) = nI 10 from rfl, pk_mul, nI_add, show (48 : Int32) = nI 48 from rfl, pk_sub (by omega)]
            exact ih (j + 1) _ (10 * v + c j - 48) _ (by omega) (by omega) (fun x hx => by rw [u2_row _ _ _ hx, u2_row _ _ _ hx, f1 x hx]) (fun f hf => by rw [u2_ne _ _ (by omega), u2_ne _ _ (by omega), f2 f hf]) (u2_at _ _ _ _) (by rw [u2_ne _ _ (by omega), u2_at]) (by omega) ⟨fun z => by omega, fun z => by omega⟩ hsc
          · exact ih (j + 1) _ v _ (by omega) (by omega) (fun x hx => by rw [u2_row _ _ _ hx, u2_row _ _ _ hx, f1 x hx]) (fun f hf => by rw [u2_ne _ _ (by omega), u2_ne _ _ (by omega), f2 f hf]) (u2_at _ _ _ _) (by rw [u2_ne _ _ (by omega), u2_at]) (by omega) ⟨fun z => by omega, fun z => by omega⟩ hsc
  have := key (nt - p) p 0 0 I (by omega) (Nat.le_refl _) (fun _ _ => rfl) (fun _ _ => rfl) h3 h6 (by omega) ⟨fun _ => rfl, fun z => by omega⟩ rfl
  rw [Nat.sub_self] at this
  exact this
theorem m_next (hG : WG G) : ∀ (n i : Nat) {I : MI}, i + n = nt → txP I 133 c nt → I 122 22 = nI nt → I 122 23 = nI i → (∀ I', nkP I I' c nt i → Φ none 136 I' G J) → Ev (d + 2) mX5_next 136 0 [some (.ref 122), none, none] [] 136 I G J Φ
  | 0, i, I, hi, tx, h2, h3, k => by
    have n2 := tx.1
    have e : tkN c nt i = (0, i, i, 0) := by rw [tk_end (by omega)]; unfold tkA; rw [if_pos (by omega)]
    have go : Φ none 136 (u2 (u2 I 122 24 (nI i)) 122 25 (-1 : Int32)) G J := by
      refine k _ ⟨fun x hx => by rw [u2_row _ _ _ hx, u2_row _ _ _ hx], fun f hf => ?_, ?_, ?_, ?_, fun z => ?_⟩
      · rw [u2_ne _ _ (by omega), u2_ne _ _ (by omega)]
      · rw [u2_ne _ _ (by omega), u2_ne _ _ (by omega), e]; exact h3
      · rw [u2_ne _ _ (by omega), u2_at, e]
      · rw [u2_at, e]; rfl
      · rw [e] at z; exact absurd (show (0 : Nat) = 2 from z) (by decide)
    refine w_X5_next hG ?_
    rw [h2, h3, nI_leI (by omega) (by omega), nI_eq (by omega) (by omega)]
    exact ⟨fun _ => ⟨fun z => absurd (by omega) z, fun _ => go⟩, fun z => absurd (by omega) z⟩
  | n + 1, i, I, hi, tx, h2, h3, k => by
    have n2 := tx.1
    have ci := tx.2 i (by omega)
    refine w_X5_next hG ?_
    rw [h2, h3, nI_leI (by omega) (by omega), nI_eq (a := i) (b := nt) (by omega) (by omega), nI_clamp (n := i) (by omega), ci.1, show (32 : Int32) = nI 32 from rfl, nI_eq (a := c i) (b := 32) (by omega) (by omega), show nI i + (1 : Int32) = nI (i + 1) from nI_1 _]
    have v : vp_in (nI i) 200 := vp_in_nI (by omega) (by decide)
    refine ⟨fun z => absurd z (by omega), fun _ => ⟨v, fun q => ⟨fun _ => ⟨v, ?_⟩, fun z => absurd z (by omega)⟩, fun q => ?_⟩⟩
    · have e : tkN c nt i = tkA c nt i := tk_end (fun z => q z.2)
      refine m_isFigure hG (by omega) ⟨_, rfl, rfl, rfl, rfl, rfl, ?_⟩
      rw [if01]
      refine ⟨fun q2 => ⟨v, ?_⟩, fun q2 => ⟨v, ?_⟩⟩
      · have go : ∀ t : Nat, (if sgB (c i) = true then c i else 1) = t → Φ none 136 (u2 (u2 (u2 I 122 24 (nI i)) 122 23 (nI (i + 1))) 122 25 (kR t)) G J := by
          intro t ht
          have e2 : tkN c nt i = (t, i, i + 1, 0) := by rw [e]; unfold tkA; rw [if_neg (by omega), if_neg q2, ht]
          refine k _ ⟨fun x hx => by rw [u2_row _ _ _ hx, u2_row _ _ _ hx, u2_row _ _ _ hx], fun f hf => ?_, ?_, ?_, ?_, fun z => ?_⟩
          · rw [u2_ne _ _ (by omega), u2_ne _ _ (by omega), u2_ne _ _ (by omega)]
          · rw [u2_ne _ _ (by omega), u2_at, e2]
          · rw [u2_ne _ _ (by omega), u2_ne _ _ (by omega), u2_at, e2]
          · rw [u2_at, e2]
          · rw [e2] at z
            have z : t = 2 := z
            subst ht
            split at z
            · rename_i hs
              rw [z] at hs
              exact absurd hs (by decide)
            · exact absurd z (by decide)
        have yes : (c i = 104 ∨ c i = 106 ∨ c i = 109 ∨ c i = 111 ∨ c i = 114 ∨ c i = 59) → Φ none 136 (u2 (u2 (u2 I 122 24 (nI i)) 122 23 (nI (i + 1))) 122 25 (nI (c i))) G J := fun z => by
          have hs : sgB (c i) = true := by unfold sgB; exact decide_eq_true z
          have := go (c i) (by rw [if_pos hs])
          have ek : kR (c i) = nI (c i) := by unfold kR; rw [if_neg (by omega), if_neg (by omega), if_neg (by omega)]
          rw [ek] at this
          exact this
        rw [show (104 : Int32) = nI 104 from rfl, show (106 : Int32) = nI 106 from rfl, show (109 : Int32) = nI 109 from rfl, show (111 : Int32) = nI 111 from rfl, show (114 : Int32) = nI 114 from rfl, show (59 : Int32) = nI 59 from rfl, nI_eq (a := c i) (b := 104) (by omega) (by omega), nI_eq (a := c i) (b := 106) (by omega) (by omega), nI_eq (a := c i) (b := 109) (by omega) (by omega), nI_eq (a := c i) (b := 111) (by omega) (by omega), nI_eq (a := c i) (b := 114) (by omega) (by omega), nI_eq (a := c i) (b := 59) (by omega) (by omega)]
        refine ⟨fun q => yes (by omega), fun q => ⟨fun q2 => yes (by omega), fun q2 => ⟨fun q3 => yes (by omega), fun q3 => ⟨fun q4 => yes (by omega), fun q4 => ⟨fun q5 => yes (by omega), fun q5 => ⟨fun q6 => ?_, fun q6 => yes (by omega)⟩⟩⟩⟩⟩⟩
        have hs : ¬ sgB (c i) = true := by unfold sgB; simp only [decide_eq_true_eq]; omega
        exact go 1 (by rw [if_neg hs])
      · have q2' := Decidable.not_not.mp q2
        have e2 : tkN c nt i = (nuK c nt i, i, (scA c nt i 0).1, (scA c nt i 0).2) := by rw [e]; unfold tkA; rw [if_neg (by omega), if_pos q2']
        have b := tkA_b (c := c) (nt := nt) (p := i) (by omega) tx.c
        rw [← e, e2] at b
        have go := m_nxNumber (d := d) (Φ := Φ) (J := J) (I := u2 (u2 I 122 24 (nI i)) 122 26 (0 : Int32)) (p := i) hG ⟨tx.1, fun j hj => by rw [u2_row _ _ _ (by omega), u2_row _ _ _ (by omega)]; exact tx.2 j hj⟩ (by rw [u2_ne _ _ (by omega), u2_ne _ _ (by omega)]; exact h2) (by rw [u2_ne _ _ (by omega), u2_ne _ _ (by omega)]; exact h3) (by omega) q2' (u2_at _ _ _ _) (fun I' f1 f2 f3 f5 f6 => k I' ⟨fun x hx => by rw [f1 x hx, u2_row _ _ _ hx, u2_row _ _ _ hx], fun f hf => by rw [f2 f (by omega), u2_ne _ _ (by omega), u2_ne _ _ (by omega)], by rw [e2]; exact f3, by rw [f2 24 (by omega), u2_ne _ _ (by omega), u2_at, e2], by rw [e2]; exact f5, fun z => by rw [e2] at z ⊢; exact f6 (b.2.2.2.2.1 z)⟩)
        rw [show (48 : Int32) = nI 48 from rfl, nI_eq (a := c i) (b := 48) (by omega) (by omega)]
        refine ⟨fun q3 => ?_, fun q3 => ?_⟩
        · rw [if_neg q3] at go; exact go
        · rw [if_pos q3] at go; exact go
    · refine m_next hG n (i + 1) (by omega) ⟨tx.1, fun j hj => by rw [u2_row _ _ _ (by omega)]; exact tx.2 j hj⟩ (by rw [u2_ne _ _ (by omega)]; exact h2) (u2_at _ _ _ _) (fun I' hk => k I' ?_)
      obtain ⟨k1, k2, k3⟩ := hk
      exact ⟨fun x hx => by rw [k1 x hx, u2_row _ _ _ hx], fun f hf => by rw [k2 f hf, u2_ne _ _ (by omega)], by rw [tk_go (by omega) q]; exact k3⟩
theorem m_want1 (hG : WG G) (h : I 122 27 = (-1 : Int32)) (k : Φ (some (.int 1)) 136 I G J) : Ev d mX5_want 136 0 [some (.ref 122), some (.int (1 : Int32))] [] 136 I G J Φ := by
  refine w_X5_want hG _ ⟨fun _ => ?_, fun z => absurd z (by decide)⟩
  rw [h]
  exact ⟨fun z => absurd z (by decide), fun _ => k⟩
theorem m_want0 (hG : WG G) {p : Nat} (hp : p < 2 ^ 31) (h : I 122 27 = (-1 : Int32)) (h4 : I 122 24 = nI p) (k : Φ (some (.int 0)) 136 (u2 I 122 27 (nI p)) G J) : Ev d mX5_want 136 0 [some (.ref 122), some (.int (0 : Int32))] [] 136 I G J Φ := by
  refine w_X5_want hG _ ⟨fun z => absurd rfl z, fun _ => ?_⟩
  rw [h, h4]
  exact ⟨fun z => absurd z (by decide), fun _ => ⟨fun _ => k, fun z => absurd (nI_pos' hp) z⟩⟩
theorem m_wantF (hG : WG G) {p : Nat} (hp : p < 2 ^ 31) (h : I 122 27 = nI p) (x : Int32) (k : Φ (some (.int 0)) 136 I G J) : Ev d mX5_want 136 0 [some (.ref 122), some (.int x)] [] 136 I G J Φ := by
  refine w_X5_want hG _ ?_
  rw [h]
  have z := nI_pos' hp
  exact ⟨fun _ => ⟨fun _ => k, fun y => absurd z y⟩, fun _ => ⟨fun _ => ⟨fun _ => k, fun y => absurd z y⟩, fun y => absurd z y⟩⟩
/-- what takeNumber() may touch -/
def tnF (I I' : MI) : Prop := (∀ x, x ≠ 122 → I' x = I x) ∧ (∀ f, ¬ (23 ≤ f ∧ f ≤ 27) → I' 122 f = I 122 f)
theorem m_tnR (hG : WG G) (tx : txP I 133 c nt) (h2 : I 122 22 = nI nt) {i : Nat} (hi : i ≤ nt) (h3 : I 122 23 = nI i) (h7 : I 122 27 = (-1 : Int32)) {x1 x2 : Int32} {P : Nat → Prop} (hP : ∀ v, v ≤ 511 → (P v ↔ (x1 ≤ nI v ∧ nI v ≤ x2))) (ok : ∀ I', tnF I I' → I' 122 27 = (-1 : Int32) → I' 122 23 = nI (tkN c nt i).2.2.1 → I' 122 24 = nI (tkN c nt i).2.1 → (tkN c nt i).1 = 2 → (tkN c nt i).2.2.2 ≤ 511 → P (tkN c nt i).2.2.2 → Φ (some (.int (nI (tkN c nt i).2.2.2))) 136 I' G J) (bad : ∀ I', tnF I I' → I' 122 27 = nI (tkN c nt i).2.1 → ¬ ((tkN c nt i).1 = 2 ∧ P (tkN c nt i).2.2.2) → Φ (some (.int 0)) 136 I' G J) : Ev (d + 3) mX5_takeNumber 136 0 [some (.ref 122), some (.int x1), some (.int x2)] [] 136 I G J Φ := by
  have n2 := tx.1
  have b := tkN_b hi tx.c
  refine w_X5_takeNumber hG _ _ ?_
  rw [h7]
  refine ⟨fun _ => ?_, fun z => absurd (by decide) z⟩
  refine m_next hG (nt - i) i (by omega) tx h2 h3 (fun I2 t => ⟨rfl, rfl, rfl, rfl, ?_⟩)
  obtain ⟨t1, t2, t3, t4, t5, t6⟩ := t
  have f2 : tnF I I2 := ⟨t1, fun f hf => t2 f (by omega)⟩
  have e7 : I2 122 27 = (-1 : Int32) := by rw [t2 27 (by omega)]; exact h7
  have wrong : ¬ ((tkN c nt i).1 = 2 ∧ P (tkN c nt i).2.2.2) → Ev (d + 2) mX5_want 136 0 [some (.ref 122), some (.int (0 : Int32))] [] 136 I2 G J (fun r n I4 G4 J4 => ∃ v4 : Int32, r = some (.int v4) ∧ n = 136 ∧ G = G4 ∧ J = J4 ∧ ((v4 = 0 → Φ (some (.int (0 : Int32))) 136 I4 G J) ∧ (¬ v4 = 0 → Φ (some (.int (I4 122 26))) 136 I4 G J))) := by
    intro q
    refine m_want0 hG (by omega) e7 t4 ⟨_, rfl, rfl, rfl, rfl, fun _ => bad _ ⟨fun x hx => by rw [u2_row _ _ _ hx, t1 x hx], fun f hf => by rw [u2_ne _ _ (by omega), t2 f (by omega)]⟩ (u2_at _ _ _ _) q, fun z => absurd rfl z⟩
  have k2 : (I2 122 25 = 0) ↔ (tkN c nt i).1 = 2 := by
    rw [t5]
    unfold kR
    by_cases e0 : (tkN c nt i).1 = 0
    · rw [if_pos e0]; exact ⟨fun z => absurd z (by decide), fun z => by omega⟩
    · rw [if_neg e0]
      by_cases e1 : (tkN c nt i).1 = 1
      · rw [if_pos e1]; exact ⟨fun z => absurd z (by decide), fun z => by omega⟩
      · rw [if_neg e1]
        by_cases e2 : (tkN c nt i).1 = 2
        · rw [if_pos e2]; exact ⟨fun _ => e2, fun _ => rfl⟩
        · rw [if_neg e2]
          exact ⟨fun z => absurd ((nI_eq (b := 0) (by omega) (by omega)).mp z) e0, fun z => absurd z e2⟩
  rw [k2]
  refine ⟨fun q => wrong (fun z => q z.1), fun q => ?_⟩
  have v5 := b.2.2.2.2.2.1 q
  rw [t6 q]
  refine m_in hG _ _ _ ⟨_, rfl, rfl, rfl, rfl, rfl, ?_⟩
  rw [if01, in_ab, ← hP _ v5]
  refine ⟨fun z => wrong (fun y => z y.2), fun z => m_want1 hG e7 ⟨_, rfl, rfl, rfl, rfl, fun y => absurd y (by decide), fun _ => ?_⟩⟩
  rw [t6 q]
  exact ok I2 f2 e7 t3 t4 q v5 (Classical.not_not.mp z)
theorem m_tnF (hG : WG G) {p : Nat} (hp : p < 2 ^ 31) (h : I 122 27 = nI p) (x1 x2 : Int32) (k : Φ (some (.int 0)) 136 I G J) : Ev (d + 1) mX5_takeNumber 136 0 [some (.ref 122), some (.int x1), some (.int x2)] [] 136 I G J Φ := by
  refine w_X5_takeNumber hG _ _ ?_
  rw [h]
  exact ⟨fun z => absurd z (nI_pos hp), fun _ => k⟩
end RDM
