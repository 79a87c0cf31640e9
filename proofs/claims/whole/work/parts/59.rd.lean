/-! ===== reading: the object's text ===== -/
def rdA (c : Nat → Nat) (nt : Nat) : Nat → Nat → Ld → Nat → Bool × Nat × Ld
  | 0, _, L, _ => (false, 0, L)
  | f + 1, items, L, i => if (tkN c nt i).1 = 0 then (true, items, L) else if (rdI c nt L (tkN c nt i).1 (tkN c nt i).2.1 (tkN c nt i).2.2.1 (fun _ => 0)).1 = true then rdA c nt f (items + 1) (rdI c nt L (tkN c nt i).1 (tkN c nt i).2.1 (tkN c nt i).2.2.1 (fun _ => 0)).2.2 (rdI c nt L (tkN c nt i).1 (tkN c nt i).2.1 (tkN c nt i).2.2.1 (fun _ => 0)).2.1 else (false, (rdI c nt L (tkN c nt i).1 (tkN c nt i).2.1 (tkN c nt i).2.2.1 (fun _ => 0)).2.1, L)
def emL : Ld := u2 (fun _ _ => 0) 0 3 4
theorem em_w : WRd emL := by
  unfold emL
  refine ⟨⟨by decide, by decide, by decide, by decide, by decide, fun h hh => ?_, fun j hj => ?_, fun m hm => ?_⟩, by decide, by decide⟩
  · rw [u2_ne _ _ (by omega)] at hh; omega
  · rw [u2_ne _ _ (by omega)] at hj; omega
  · rw [u2_ne _ _ (by omega)] at hm; omega
theorem rdI_w {c : Nat → Nat} {nt : Nat} {L : Ld} {k p i : Nat} {g : Nat → Nat} (hc : ∀ j, j < nt → c j < 256) (hi : i ≤ nt) (w : WRd L) (h : (rdI c nt L k p i g).1 = true) : WRd (rdI c nt L k p i g).2.2 := by
  unfold rdI at h ⊢
  by_cases e : canB L k = true
  · rw [if_pos e] at h ⊢
    unfold rdE at h ⊢
    by_cases e2 : (rdN c nt L k (cntN k) 0 i g).1 = true
    · rw [if_pos e2] at h ⊢
      by_cases e3 : (tkN c nt (rdN c nt L k (cntN k) 0 i g).2.1).1 = 59
      · rw [if_pos e3]
        exact ad_w w e (fun j hj => ((rdN_ck hc (cntN k) 0 i g hi).2 e2).2.2 j (by omega) (by omega))
      · rw [if_neg e3] at h; exact Bool.noConfusion (show false = true from h)
    · rw [if_neg e2] at h; exact Bool.noConfusion (show false = true from h)
  · rw [if_neg e] at h; exact Bool.noConfusion (show false = true from h)
section RDT
variable {d : Nat} {I : MI} {G : MG} {J : MJ} {Φ : Ph} {c : Nat → Nat} {nt : Nat} {a : Nat} {L : Ld} {k : Nat}
theorem txP.cg {I I' : MI} {r : Nat} (h : txP I r c nt) (hf : I' r = I r) : txP I' r c nt := ⟨h.1, fun j hj => by rw [hf]; exact h.2 j hj⟩
theorem s_readItem (hG : WG G) (ha : isL a) (hR : drP I a L) (w : WRd L) (su : SU I G) (tx : txP I 1 c nt) (h2 : I 2 2 = nI nt) {p i : Nat} (h3 : I 2 3 = nI i) (h4 : I 2 4 = nI p) (h5 : I 2 5 = nI k) (hk : k < 256) (hi : i ≤ nt) (hp : p ≤ nt) (k1 : ∀ I' : MI, (∀ x, x ≠ 2 → x ≠ 3 → ¬ (a ≤ x ∧ x < a + 9) → I' x = I x) → I' 2 2 = nI nt → (rdI c nt L k p i (fun _ => 0)).1 = true → I' 2 3 = nI (rdI c nt L k p i (fun _ => 0)).2.1 → drP I' a (rdI c nt L k p i (fun _ => 0)).2.2 → Φ (some (.int 1)) 136 I' G J) (k0 : ∀ I' : MI, (∀ x, x ≠ 2 → x ≠ 3 → ¬ (a ≤ x ∧ x < a + 9) → I' x = I x) → (rdI c nt L k p i (fun _ => 0)).1 = false → I' 2 4 = nI (rdI c nt L k p i (fun _ => 0)).2.1 → Φ (some (.int 0)) 136 I' G J) : Ev (d + 3) mX3_readItem 136 0 [some (.ref 2), some (.ref a), none, none, none] [] 136 I G J Φ := by
  have hla := isL_or ha
  have n2 := tx.1
  refine w_X3_readItem hG ha ?_
  rw [h5]
  refine s_canStand hG ha hR w hk (fun hc => ⟨_, rfl, rfl, rfl, rfl, rfl, fun _ => ?_, fun z => absurd z (by decide)⟩) (fun hc => ⟨_, rfl, rfl, rfl, rfl, rfl, fun z => absurd rfl z, fun _ => ?_⟩)
  · refine s_numbersOf hG hc ⟨_, rfl, rfl, rfl, rfl, rfl, ?_⟩
    have eR : rdI c nt L k p i (fun _ => 0) = rdE c nt L k (rdN c nt L k (cntN k) 0 i (fun _ => 0)) := by unfold rdI; rw [if_pos hc]
    rw [eR] at k1 k0
    have c4 : cntN k ≤ 4 := by
      unfold cntN
      split
      · omega
      · split <;> omega
    have key : ∀ (m idx i1 : Nat) (g : Nat → Nat) (I1 : MI), idx + m = cntN k → (∀ x, x ≠ 2 → x ≠ 3 → I1 x = I x) → I1 2 2 = nI nt → I1 2 3 = nI i1 → i1 ≤ nt → (∀ j, j < idx → I1 3 j = nI (g j) ∧ g j ≤ 511) → rdN c nt L k m idx i1 g = rdN c nt L k (cntN k) 0 i (fun _ => 0) → Ev (d + 3) mX3_readItem 136 23 [some (.ref 2), some (.ref a), some (.int (nI k)), some (.int (nI (cntN k))), some (.int (nI idx))] [] 136 I1 G J Φ := by
      intro m
      induction m with
      | zero =>
        intro idx i1 g I1 hm f1 f2 f3 hi1 fg hrd
        have ei : idx = cntN k := by omega
        rw [ei]
        rw [rdN] at hrd
        refine w_X3_readItem_23 hG ha _ _ _ ⟨fun _ => ?_, fun q => absurd (nI_le (Nat.le_refl _) (by omega)) q⟩
        refine s_take hG (nt - i1) i1 (by omega) (tx.cg (f1 1 (by omega) (by omega))) f2 f3 (fun I2 t2 => ⟨rfl, rfl, rfl, rfl, ?_⟩)
        obtain ⟨t1, t2, t3, t4, t5, t6⟩ := t2
        have b := tkN_b hi1 tx.c
        rw [t5, show (59 : Int32) = nI 59 from rfl, nI_eq (by omega) (by omega)]
        rw [← hrd] at k1 k0
        refine ⟨fun q => ?_, fun q => ?_⟩
        · have eE : rdE c nt L k (true, i1, g) = (true, (tkN c nt i1).2.2.1, adL L k g) := by unfold rdE; rw [if_pos rfl, if_pos q]
          rw [eE] at k1
          refine s_addItem (g := g) hG ha (hR.cg (fun x q1 q2 => by rw [t1 x (by omega), f1 x (by omega) (by omega)])) w hc (fun j hj => by rw [t1 3 (by omega)]; exact (fg j (by omega)).1) (fun I' f' hd => ⟨rfl, rfl, rfl, rfl, k1 I' (fun x x2 x3 x4 => by rw [f' x x4, t1 x x2, f1 x x2 x3]) (by rw [f' 2 (by omega)]; exact t2) rfl (by rw [f' 2 (by omega)]; exact t3) hd⟩)
        · have eE : rdE c nt L k (true, i1, g) = (false, (tkN c nt i1).2.1, L) := by unfold rdE; rw [if_pos rfl, if_neg q]
          rw [eE] at k0
          exact k0 I2 (fun x x2 x3 x4 => by rw [t1 x x2, f1 x x2 x3]) rfl t4
      | succ m ih =>
        intro idx i1 g I1 hm f1 f2 f3 hi1 fg hrd
        rw [rdN] at hrd
        refine w_X3_readItem_23 hG ha _ _ _ ⟨fun q => absurd q (nI_ge (a := idx) (b := cntN k) (by omega) (by omega)), fun _ => ?_⟩
        refine s_take hG (nt - i1) i1 (by omega) (tx.cg (f1 1 (by omega) (by omega))) f2 f3 (fun I2 t2 => ⟨rfl, rfl, rfl, rfl, ?_⟩)
        obtain ⟨t1, t2, t3, t4, t5, t6⟩ := t2
        have b := tkN_b hi1 tx.c
        have bad : ¬ ((tkN c nt i1).1 = 2 ∧ ckB L k idx (g 0) (tkN c nt i1).2.2.2 = true) → Φ (some (.int (0 : Int32))) 136 I2 G J := by
          intro q
          rw [if_neg q] at hrd
          rw [← hrd] at k0
          exact k0 I2 (fun x x2 x3 x4 => by rw [t1 x x2, f1 x x2 x3]) rfl t4
        rw [t5, show (2 : Int32) = nI 2 from rfl, nI_eq (by omega) (by omega)]
        refine ⟨fun q => bad (fun z => q z.1), fun q => ?_⟩
        have v5 := b.2.2.2.2.2.1 q
        refine s_fits (n0 := g 0) hG ha (hR.cg (fun x q1 q2 => by rw [t1 x (by omega), f1 x (by omega) (by omega)])) w (su.cg (fun x hx => by rw [t1 x (by omega), f1 x (by omega) (by omega)])) hc (by omega) v5 (t6 q) (fun h0 => by rw [t1 3 (by omega)]; exact fg 0 h0) ⟨_, rfl, rfl, rfl, rfl, rfl, ?_⟩
        rw [if01, nI_clamp (n := idx) (by omega), t6 q, show nI idx + (1 : Int32) = nI (idx + 1) from nI_1 _]
        refine ⟨fun z => ⟨vp_in_nI (by omega) (by decide), ?_⟩, fun z => bad (fun y => z y.2)⟩
        rw [if_pos ⟨q, Decidable.not_not.mp z⟩] at hrd
        refine ih (idx + 1) _ _ _ (by omega) (fun x x2 x3 => by rw [u2_row _ _ _ x3, t1 x x2, f1 x x2 x3]) (by rw [u2_row _ _ _ (by omega)]; exact t2) (by rw [u2_row _ _ _ (by omega)]; exact t3) b.2.2.2.1 (fun j hj => ?_) hrd
        by_cases ej : j = idx
        · rw [ej, u2_at, if_pos rfl]; exact ⟨rfl, v5⟩
        · rw [u2_ne _ _ (by omega), if_neg ej, t1 3 (by omega)]; exact fg j (by omega)
    exact key (cntN k) 0 i (fun _ => 0) I (by omega) (fun _ _ _ => rfl) h2 h3 hi (fun j hj => absurd hj (by omega)) rfl
  · have eR : rdI c nt L k p i (fun _ => 0) = (false, p, L) := by unfold rdI; rw [if_neg (by rw [hc]; decide)]
    rw [eR] at k0
    exact k0 I (fun _ _ _ _ => rfl) rfl h4
theorem s_readAll (hG : WG G) (ha : isL a) (su : SU I G) (tx : txP I 1 c nt) (k : ∀ I' : MI, (∀ x, x ≠ 2 → x ≠ 3 → ¬ (a ≤ x ∧ x < a + 9) → I' x = I x) → ((rdA c nt 201 0 emL 0).1 = true → (rdA c nt 201 0 emL 0).2.1 ≤ 200 ∧ WRd (rdA c nt 201 0 emL 0).2.2 ∧ drP I' a (rdA c nt 201 0 emL 0).2.2) → ((rdA c nt 201 0 emL 0).1 = false → (rdA c nt 201 0 emL 0).2.1 ≤ 200) → Φ (some (.int (if (rdA c nt 201 0 emL 0).1 = true then nI (rdA c nt 201 0 emL 0).2.1 else (-10 : Int32) - nI (rdA c nt 201 0 emL 0).2.1))) 136 I' G J) : Ev (d + 4) mX3_readAll 136 0 [some (.ref 2), some (.int (nI nt)), some (.ref a), none] [] 136 I G J Φ := by
  have hla := isL_or ha
  have n2 := tx.1
  have key : ∀ (f items i : Nat) (L : Ld) (I1 : MI), f + items = 201 → items ≤ i → i ≤ nt → (∀ x, x ≠ 2 → x ≠ 3 → ¬ (a ≤ x ∧ x < a + 9) → I1 x = I x) → I1 2 2 = nI nt → I1 2 3 = nI i → drP I1 a L → WRd L → rdA c nt f items L i = rdA c nt 201 0 emL 0 → Ev (d + 4) mX3_readAll 136 24 [some (.ref 2), some (.int (nI nt)), some (.ref a), some (.int (nI items))] [] 136 I1 G J Φ := by
    intro f
    induction f with
    | zero =>
      intro items i L I1 hf h1 hi f1 f2 f3 hR w hrd
      omega
    | succ f ih =>
      intro items i L I1 hf h1 hi f1 f2 f3 hR w hrd
      rw [rdA] at hrd
      have b := tkN_b hi tx.c
      refine w_X3_readAll_24 hG ha _ _ ⟨fun q => absurd q (nI_nlt (a := 200) (b := items) (by omega) (by omega)), fun _ => ?_⟩
      refine s_take hG (nt - i) i (by omega) (tx.cg (f1 1 (by omega) (by omega) (by omega))) f2 f3 (fun I2 t2 => ⟨rfl, rfl, rfl, rfl, ?_⟩)
      obtain ⟨t1, t2, t3, t4, t5, t6⟩ := t2
      rw [t5, show (0 : Int32) = nI 0 from rfl, nI_eq (by omega) (by omega)]
      have R2 : drP I2 a L := hR.cg (fun x q1 q2 => t1 x (by omega))
      refine ⟨fun q => ?_, fun q => ?_⟩
      · rw [if_neg q] at hrd
        refine s_readItem (p := (tkN c nt i).2.1) (i := (tkN c nt i).2.2.1) (k := (tkN c nt i).1) hG ha R2 w (su.cg (fun x hx => by rw [t1 x (by omega), f1 x (by omega) (by omega) (by omega)])) (tx.cg (by rw [t1 1 (by omega), f1 1 (by omega) (by omega) (by omega)])) t2 t3 t4 t5 b.2.2.2.2.2.2 b.2.2.2.1 b.2.1 (fun I3 g1 g2 g3 g4 g5 => ⟨_, rfl, rfl, rfl, rfl, fun _ => ?_, fun z => absurd z (by decide)⟩) (fun I3 g1 g3 g4 => ⟨_, rfl, rfl, rfl, rfl, fun z => absurd rfl z, fun _ => ?_⟩)
        · rw [if_pos g3] at hrd
          have bi := rdI_b (L := L) (k := (tkN c nt i).1) (p := (tkN c nt i).2.1) (i := (tkN c nt i).2.2.1) tx.c (fun _ => 0) b.2.1 b.2.2.2.1
          have bj := bi.2 g3
          have bk := b.2.2.2.2.1 q
          rw [show nI items + (1 : Int32) = nI (items + 1) from nI_1 _]
          exact ih (items + 1) _ _ I3 (by omega) (by omega) bi.1 (fun x x2 x3 x4 => by rw [g1 x x2 x3 x4, t1 x x2, f1 x x2 x3 x4]) g2 g4 g5 (rdI_w tx.c b.2.2.2.1 w g3) hrd
        · rw [if_neg (by rw [g3]; decide)] at hrd
          have bi := rdI_b (L := L) (k := (tkN c nt i).1) (p := (tkN c nt i).2.1) (i := (tkN c nt i).2.2.1) tx.c (fun _ => 0) b.2.1 b.2.2.2.1
          rw [← hrd] at k
          have := k I3 (fun x x2 x3 x4 => by rw [g1 x x2 x3 x4, t1 x x2, f1 x x2 x3 x4]) (fun z => Bool.noConfusion (show false = true from z)) (fun _ => Nat.le_trans bi.1 n2)
          rw [if_neg (fun z => Bool.noConfusion (show false = true from z))] at this
          rw [g4]
          exact this
      · rw [if_pos q] at hrd
        rw [← hrd] at k
        have := k I2 (fun x x2 x3 x4 => by rw [t1 x x2, f1 x x2 x3 x4]) (fun _ => ⟨by show items ≤ 200; omega, w, R2⟩) (fun z => Bool.noConfusion (show true = false from z))
        rw [if_pos rfl] at this
        exact this
  have e200 : (if (200 : Int32) < nI nt then (200 : Int32) else nI nt) = nI nt := if_neg (nI_nlt (a := 200) (b := nt) (by omega) (by omega))
  refine w_X3_readAll hG _ ha ?_
  rw [e200]
  refine w_X1_empty hG ha ⟨rfl, rfl, rfl, rfl, ?_⟩
  refine key 201 0 0 emL _ (by omega) (by omega) (by omega) (fun x x2 x3 x4 => ?_) ?_ ?_ ?_ em_w rfl
  · simp (disch := omega) only [u2_row]
  · simp (disch := omega) only [u2_ne, u2_at]
  · simp (disch := omega) only [u2_ne, u2_at]; rfl
  · unfold emL
    refine ⟨⟨⟨?_, ?_, ?_, ?_, ?_⟩, fun h hh => ?_, fun j hj => ?_, fun m hm => ?_⟩, ?_, ?_⟩
    · simp (disch := omega) only [u2_ne, u2_at]; rfl
    · simp (disch := omega) only [u2_ne, u2_at]; rfl
    · simp (disch := omega) only [u2_ne, u2_at]; rfl
    · simp (disch := omega) only [u2_ne, u2_at]; rfl
    · simp (disch := omega) only [u2_ne, u2_at]; rfl
    · rw [u2_ne _ _ (by omega)] at hh; omega
    · rw [u2_ne _ _ (by omega)] at hj; omega
    · rw [u2_ne _ _ (by omega)] at hm; omega
    · simp (disch := omega) only [u2_ne, u2_at]; rfl
    · simp (disch := omega) only [u2_ne, u2_at]; rfl
end RDT
