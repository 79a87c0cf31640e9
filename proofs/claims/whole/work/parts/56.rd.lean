/-! ===== reading: tokens of a text c of nt letters ===== -/
def dgB (x : Nat) : Bool := decide (48 ≤ x ∧ x ≤ 57)
def sgB (x : Nat) : Bool := decide (x = 104 ∨ x = 106 ∨ x = 109 ∨ x = 111 ∨ x = 114 ∨ x = 59)
def skN (c : Nat → Nat) (nt : Nat) : Nat → Nat → Nat
  | 0, i => i
  | f + 1, i => if i < nt ∧ c i = 32 then skN c nt f (i + 1) else i
def scN (c : Nat → Nat) (nt : Nat) : Nat → Nat → Nat → Nat × Nat
  | 0, i, e => (i, e)
  | f + 1, i, e => if i < nt ∧ dgB (c i) = true then scN c nt f (i + 1) (10 * e + (c i - 48)) else (i, e)
def scA (c : Nat → Nat) (nt p e : Nat) : Nat × Nat := scN c nt (nt - p) p e
def nuK (c : Nat → Nat) (nt p : Nat) : Nat := if 511 < (scA c nt p 0).2 ∨ (c p = 48 ∧ 1 < (scA c nt p 0).1 - p) then 1 else 2
/-- kind (0 end, 1 wrong, 2 number, or the letter), place, next, value -/
def tkA (c : Nat → Nat) (nt p : Nat) : Nat × Nat × Nat × Nat := if nt ≤ p then (0, p, p, 0) else if dgB (c p) = true then (nuK c nt p, p, (scA c nt p 0).1, (scA c nt p 0).2) else (if sgB (c p) = true then c p else 1, p, p + 1, 0)
def tkN (c : Nat → Nat) (nt i : Nat) : Nat × Nat × Nat × Nat := tkA c nt (skN c nt (nt - i) i)
section TOK
variable {c : Nat → Nat} {nt : Nat}
theorem sk_go {i : Nat} (h : i < nt) (hc : c i = 32) : skN c nt (nt - i) i = skN c nt (nt - (i + 1)) (i + 1) := by
  rw [show nt - i = nt - (i + 1) + 1 by omega, skN, if_pos ⟨h, hc⟩]
theorem sk_end {i : Nat} (h : ¬ (i < nt ∧ c i = 32)) : skN c nt (nt - i) i = i := by
  cases e : nt - i with
  | zero => rfl
  | succ f => rw [skN, if_neg h]
theorem tk_go {i : Nat} (h : i < nt) (hc : c i = 32) : tkN c nt i = tkN c nt (i + 1) := by unfold tkN; rw [sk_go h hc]
theorem tk_end {i : Nat} (h : ¬ (i < nt ∧ c i = 32)) : tkN c nt i = tkA c nt i := by unfold tkN; rw [sk_end h]
theorem sc_go {i : Nat} (e : Nat) (h : i < nt) (hc : dgB (c i) = true) : scA c nt i e = scA c nt (i + 1) (10 * e + (c i - 48)) := by
  unfold scA
  rw [show nt - i = nt - (i + 1) + 1 by omega, scN, if_pos ⟨h, hc⟩]
theorem sc_end {i : Nat} (e : Nat) (h : ¬ (i < nt ∧ dgB (c i) = true)) : scA c nt i e = (i, e) := by
  unfold scA
  cases q : nt - i with
  | zero => rfl
  | succ f => rw [scN, if_neg h]
theorem sk_b : ∀ (f i : Nat), i ≤ nt → i ≤ skN c nt f i ∧ skN c nt f i ≤ nt
  | 0, i, h => ⟨Nat.le_refl _, h⟩
  | f + 1, i, h => by
    rw [skN]
    split
    · rename_i q
      have := sk_b f (i + 1) (by omega)
      omega
    · exact ⟨Nat.le_refl _, h⟩
theorem sc_b : ∀ (f i e : Nat), i ≤ nt → i ≤ (scN c nt f i e).1 ∧ (scN c nt f i e).1 ≤ nt
  | 0, i, e, h => ⟨Nat.le_refl _, h⟩
  | f + 1, i, e, h => by
    rw [scN]
    split
    · rename_i q
      have := sc_b f (i + 1) (10 * e + (c i - 48)) (by omega)
      omega
    · exact ⟨Nat.le_refl _, h⟩
theorem tkA_b {p : Nat} (hp : p ≤ nt) (hc : ∀ j, j < nt → c j < 256) : (tkA c nt p).2.1 = p ∧ p ≤ (tkA c nt p).2.2.1 ∧ (tkA c nt p).2.2.1 ≤ nt ∧ ((tkA c nt p).1 ≠ 0 → p < (tkA c nt p).2.2.1) ∧ ((tkA c nt p).1 = 2 → (tkA c nt p).2.2.2 ≤ 511) ∧ (tkA c nt p).1 < 256 := by
  unfold tkA
  by_cases e : nt ≤ p
  · rw [if_pos e]; exact ⟨rfl, Nat.le_refl _, hp, fun z => absurd rfl z, fun z => absurd (show (0 : Nat) = 2 from z) (by decide), show (0 : Nat) < 256 by decide⟩
  · have cp := hc p (by omega)
    rw [if_neg e]
    by_cases e2 : dgB (c p) = true
    · rw [if_pos e2]
      have b := sc_b (c := c) (nt := nt) (nt - (p + 1)) (p + 1) (10 * 0 + (c p - 48)) (by omega)
      have e3 : scA c nt p 0 = scN c nt (nt - (p + 1)) (p + 1) (10 * 0 + (c p - 48)) := sc_go 0 (by omega) e2
      refine ⟨rfl, ?_, ?_, fun _ => ?_, fun z => ?_, ?_⟩
      · show p ≤ (scA c nt p 0).1; rw [e3]; omega
      · show (scA c nt p 0).1 ≤ nt; rw [e3]; omega
      · show p < (scA c nt p 0).1; rw [e3]; omega
      · show (scA c nt p 0).2 ≤ 511
        have z : nuK c nt p = 2 := z
        unfold nuK at z
        by_cases q : 511 < (scA c nt p 0).2 ∨ (c p = 48 ∧ 1 < (scA c nt p 0).1 - p)
        · rw [if_pos q] at z; exact absurd z (by decide)
        · omega
      · show nuK c nt p < 256
        unfold nuK
        split <;> omega
    · rw [if_neg e2]
      refine ⟨rfl, Nat.le_succ _, by show p + 1 ≤ nt; omega, fun _ => by show p < p + 1; omega, fun z => ?_, ?_⟩
      · show 0 ≤ 511; omega
      · show (if sgB (c p) = true then c p else 1) < 256
        split <;> omega
theorem tkN_b {i : Nat} (hi : i ≤ nt) (hc : ∀ j, j < nt → c j < 256) : i ≤ (tkN c nt i).2.1 ∧ (tkN c nt i).2.1 ≤ nt ∧ (tkN c nt i).2.1 ≤ (tkN c nt i).2.2.1 ∧ (tkN c nt i).2.2.1 ≤ nt ∧ ((tkN c nt i).1 ≠ 0 → i < (tkN c nt i).2.2.1) ∧ ((tkN c nt i).1 = 2 → (tkN c nt i).2.2.2 ≤ 511) ∧ (tkN c nt i).1 < 256 := by
  have b1 := sk_b (c := c) (nt := nt) (nt - i) i hi
  have b2 := tkA_b b1.2 hc
  unfold tkN
  refine ⟨by rw [b2.1]; exact b1.1, by rw [b2.1]; exact b1.2, by rw [b2.1]; exact b2.2.1, b2.2.2.1, fun z => ?_, b2.2.2.2.2.1, b2.2.2.2.2.2⟩
  have := b2.2.2.2.1 z
  omega
end TOK
/-- a text lies in a row -/
def txP (I : MI) (r : Nat) (c : Nat → Nat) (nt : Nat) : Prop := nt ≤ 200 ∧ ∀ j, j < nt → I r j = nI (c j) ∧ c j < 256
theorem txP.c {I : MI} {r : Nat} {c : Nat → Nat} {nt : Nat} (h : txP I r c nt) : ∀ j, j < nt → c j < 256 := fun j hj => (h.2 j hj).2
/-- a number as far as it grew -/
def vrP (v e : Nat) : Prop := (e ≤ 511 → v = e) ∧ (511 < e → 511 < v)
section RDO
variable {d : Nat} {I : MI} {G : MG} {J : MJ} {Φ : Ph} {c : Nat → Nat} {nt : Nat}
theorem s_isDigit (hG : WG G) {x : Nat} (hx : x < 2 ^ 31) (k : Φ (some (.int (if dgB x = true then 1 else 0))) 136 I G J) : Ev d mX3_isDigit 136 0 [some (.int (nI x))] [] 136 I G J Φ := by
  refine w_X3_isDigit hG _ ?_
  rw [show (48 : Int32) = nI 48 from rfl, show (57 : Int32) = nI 57 from rfl, nI_ltI (by omega) (by omega), nI_ltI (by omega) (by omega)]
  unfold dgB at k
  simp only [decide_eq_true_eq] at k
  refine ⟨fun q => ?_, fun q => ⟨fun q2 => ?_, fun q2 => ?_⟩⟩
  · rwa [if_neg (by omega)] at k
  · rwa [if_neg (by omega)] at k
  · rwa [if_pos (by omega)] at k
theorem s_isSign (hG : WG G) {x : Nat} (hx : x < 2 ^ 31) (k : Φ (some (.int (if sgB x = true then 1 else 0))) 136 I G J) : Ev d mX3_isSign 136 0 [some (.int (nI x))] [] 136 I G J Φ := by
  refine w_X3_isSign hG _ ?_
  rw [show (104 : Int32) = nI 104 from rfl, show (106 : Int32) = nI 106 from rfl, show (109 : Int32) = nI 109 from rfl, show (111 : Int32) = nI 111 from rfl, show (114 : Int32) = nI 114 from rfl, show (59 : Int32) = nI 59 from rfl, nI_eq (a := x) (b := 104) (by omega) (by omega), nI_eq (a := x) (b := 106) (by omega) (by omega), nI_eq (a := x) (b := 109) (by omega) (by omega), nI_eq (a := x) (b := 111) (by omega) (by omega), nI_eq (a := x) (b := 114) (by omega) (by omega), nI_eq (a := x) (b := 59) (by omega) (by omega)]
  unfold sgB at k
  simp only [decide_eq_true_eq] at k
  have yes : (x = 104 ∨ x = 106 ∨ x = 109 ∨ x = 111 ∨ x = 114 ∨ x = 59) → Φ (some (.int 1)) 136 I G J := fun q => by rwa [if_pos q] at k
  refine ⟨fun q => yes (by omega), fun q => ⟨fun q2 => yes (by omega), fun q2 => ⟨fun q3 => yes (by omega), fun q3 => ⟨fun q4 => yes (by omega), fun q4 => ⟨fun q5 => yes (by omega), fun q5 => ⟨fun q6 => ?_, fun q6 => yes (by omega)⟩⟩⟩⟩⟩⟩
  rwa [if_neg (by omega)] at k
theorem s_rdNumber (hG : WG G) (tx : txP I 1 c nt) {p : Nat} (h2 : I 2 2 = nI nt) (h3 : I 2 3 = nI p) (h4 : I 2 4 = nI p) (hp : p < nt) (k : ∀ I' : MI, (∀ x, x ≠ 2 → I' x = I x) → (I' 2 2 = nI nt ∧ I' 2 4 = nI p) → I' 2 3 = nI (scA c nt p 0).1 → I' 2 5 = nI (nuK c nt p) → ((scA c nt p 0).2 ≤ 511 → I' 2 6 = nI (scA c nt p 0).2) → Φ none 136 I' G J) : Ev (d + 1) mX3_takeNumber 136 0 [some (.ref 2), none, none] [] 136 I G J Φ := by
  have n2 := tx.1
  have cp := tx.2 p hp
  have key : ∀ (n j e v : Nat) (I1 : MI), j + n = nt → p ≤ j → (∀ x, x ≠ 2 → I1 x = I x) → (I1 2 2 = nI nt ∧ I1 2 4 = nI p) → I1 2 3 = nI j → I1 2 6 = nI v → v ≤ 6000 → vrP v e → scA c nt j e = scA c nt p 0 → Ev (d + 1) mX3_takeNumber 136 36 [some (.ref 2), some (.int (if c p = 48 then 1 else 0)), none] [] 136 I1 G J Φ := by
    intro n
    induction n with
    | zero =>
      intro j e v I1 hj hpj f1 f2 f3 f6 hv hvr hsc
      rw [sc_end e (fun z => by omega)] at hsc
      have fin : ∀ t : Nat, t = nuK c nt p → Φ none 136 (u2 I1 2 5 (nI t)) G J := by
        intro t ht
        refine k _ (fun x hx => by rw [u2_row _ _ _ hx, f1 x hx]) ⟨by rw [u2_ne _ _ (by omega)]; exact f2.1, by rw [u2_ne _ _ (by omega)]; exact f2.2⟩ (by rw [u2_ne _ _ (by omega), f3, ← hsc]) (by rw [u2_at, ht]) (fun h5 => ?_)
        rw [← hsc] at h5 ⊢
        rw [u2_ne _ _ (by omega), f6, hvr.1 h5]
      have wr : (511 < e ∨ (c p = 48 ∧ 1 < j - p)) → Φ none 136 (u2 I1 2 5 (1 : Int32)) G J := fun q => fin 1 (by unfold nuK; rw [← hsc, if_pos q])
      have ok : ¬ (511 < e ∨ (c p = 48 ∧ 1 < j - p)) → Φ none 136 (u2 I1 2 5 (2 : Int32)) G J := fun q => fin 2 (by unfold nuK; rw [← hsc, if_neg q])
      refine w_X3_takeNumber_36 hG _ ⟨fun _ => ?_, fun q => absurd ?_ q⟩
      · rw [f6, f3, f2.2, if01, show (511 : Int32) = nI 511 from rfl, nI_ltI (by omega) (by omega), pk_sub (by omega), show (1 : Int32) = nI 1 from rfl, nI_leI (by omega) (by omega)]
        have h1 := hvr.1
        have h2 := hvr.2
        refine ⟨fun q => wr (by omega), fun q => ⟨fun q2 => ok (by omega), fun q2 => ⟨fun q3 => ok (by omega), fun q3 => wr (by omega)⟩⟩⟩
      · rw [f2.1, f3]; exact nI_le (by omega) (by omega)
    | succ n ih =>
      intro j e v I1 hj hpj f1 f2 f3 f6 hv hvr hsc
      have cj := tx.2 j (by omega)
      have tj : I1 1 j = nI (c j) := by rw [f1 1 (by omega)]; exact cj.1
      refine w_X3_takeNumber_36 hG _ ⟨fun q => ?_, fun _ => ?_⟩
      · rw [f2.1, f3, nI_leI (by omega) (by omega)] at q
        omega
      · rw [f3, nI_clamp (n := j) (by omega), tj]
        refine ⟨vp_in_nI (by omega) (by decide), s_isDigit hG (by omega) ⟨_, rfl, rfl, rfl, rfl, rfl, ?_⟩⟩
        rw [if01, f6, f2.2, if01, show (511 : Int32) = nI 511 from rfl, nI_ltI (by omega) (by omega), pk_sub (by omega), show (1 : Int32) = nI 1 from rfl, nI_leI (by omega) (by omega)]
        have h1 := hvr.1
        have h2 := hvr.2
        refine ⟨fun q => ?_, fun q => ?_⟩
        · rw [sc_end e (fun z => q z.2)] at hsc
          have fin : ∀ t : Nat, t = nuK c nt p → Φ none 136 (u2 I1 2 5 (nI t)) G J := by
            intro t ht
            refine k _ (fun x hx => by rw [u2_row _ _ _ hx, f1 x hx]) ⟨by rw [u2_ne _ _ (by omega)]; exact f2.1, by rw [u2_ne _ _ (by omega)]; exact f2.2⟩ (by rw [u2_ne _ _ (by omega), f3, ← hsc]) (by rw [u2_at, ht]) (fun h5 => ?_)
            rw [← hsc] at h5 ⊢
            rw [u2_ne _ _ (by omega), f6, hvr.1 h5]
          have wr : (511 < e ∨ (c p = 48 ∧ 1 < j - p)) → Φ none 136 (u2 I1 2 5 (nI 1)) G J := fun q => fin 1 (by unfold nuK; rw [← hsc, if_pos q])
          have ok : ¬ (511 < e ∨ (c p = 48 ∧ 1 < j - p)) → Φ none 136 (u2 I1 2 5 (2 : Int32)) G J := fun q => fin 2 (by unfold nuK; rw [← hsc, if_neg q])
          refine ⟨fun q => wr (by omega), fun q => ⟨fun q2 => ok (by omega), fun q2 => ⟨fun q3 => ok (by omega), fun q3 => wr (by omega)⟩⟩⟩
        · have q' := Decidable.not_not.mp q
          rw [sc_go e (by omega) q'] at hsc
          have qd : 48 ≤ c j ∧ c j ≤ 57 := by unfold dgB at q'; simpa using q'
          rw [nI_add j 1]
          refine ⟨fun q2 => ?_, fun q2 => ⟨vp_in_nI (by omega) (by decide), ?_⟩⟩
          · exact ih (j + 1) _ v _ (by omega) (by omega) (fun x hx => by rw [u2_row _ _ _ hx, f1 x hx]) ⟨by rw [u2_ne _ _ (by omega)]; exact f2.1, by rw [u2_ne _ _ (by omega)]; exact f2.2⟩ (u2_at _ _ _ _) (by rw [u2_ne _ _ (by omega)]; exact f6) hv ⟨fun z => by omega, fun z => by omega⟩ hsc
          · rw [show (10 : Int32) = nI 10 from rfl, pk_mul, show (48 : Int32) = nI 48 from rfl, pk_sub qd.1, nI_add]
            exact ih (j + 1) _ (v * 10 + (c j - 48)) _ (by omega) (by omega) (fun x hx => by rw [u2_row _ _ _ hx, u2_row _ _ _ hx, f1 x hx]) ⟨by rw [u2_ne _ _ (by omega), u2_ne _ _ (by omega)]; exact f2.1, by rw [u2_ne _ _ (by omega), u2_ne _ _ (by omega)]; exact f2.2⟩ (u2_at _ _ _ _) (by rw [u2_ne _ _ (by omega), u2_at]) (by omega) ⟨fun z => by omega, fun z => by omega⟩ hsc
  refine w_X3_takeNumber hG ⟨fun q => ?_, fun _ => ?_⟩
  · rw [h2, h3, nI_leI (by omega) (by omega)] at q
    omega
  · rw [h3, nI_clamp (n := p) (by omega), cp.1, show (48 : Int32) = nI 48 from rfl, nI_eq (by omega) (by omega)]
    have go := key (nt - p) p 0 0 (u2 I 2 6 (0 : Int32)) (by omega) (Nat.le_refl _) (fun x hx => u2_row _ _ _ hx) ⟨by rw [u2_ne _ _ (by omega)]; exact h2, by rw [u2_ne _ _ (by omega)]; exact h4⟩ (by rw [u2_ne _ _ (by omega)]; exact h3) (u2_at _ _ _ _) (by omega) ⟨fun _ => rfl, fun z => by omega⟩ rfl
    refine ⟨vp_in_nI (by omega) (by decide), fun q => ?_, fun q => ?_⟩
    · rw [if_neg q] at go; exact go
    · rw [if_pos q] at go; exact go
/-- what a taken token leaves -/
def tkP (I I' : MI) (c : Nat → Nat) (nt i : Nat) : Prop := (∀ x, x ≠ 2 → I' x = I x) ∧ I' 2 2 = nI nt ∧ I' 2 3 = nI (tkN c nt i).2.2.1 ∧ I' 2 4 = nI (tkN c nt i).2.1 ∧ I' 2 5 = nI (tkN c nt i).1 ∧ ((tkN c nt i).1 = 2 → I' 2 6 = nI (tkN c nt i).2.2.2)
theorem s_take (hG : WG G) : ∀ (n i : Nat) {I : MI}, i + n = nt → txP I 1 c nt → I 2 2 = nI nt → I 2 3 = nI i → (∀ I', tkP I I' c nt i → Φ none 136 I' G J) → Ev (d + 2) mX3_take 136 0 [some (.ref 2)] [] 136 I G J Φ
  | 0, i, I, hi, tx, h2, h3, k => by
    have n2 := tx.1
    have e : tkN c nt i = (0, i, i, 0) := by rw [tk_end (by omega)]; unfold tkA; rw [if_pos (by omega)]
    have go : Φ none 136 (u2 (u2 I 2 4 (nI i)) 2 5 (0 : Int32)) G J := by
      refine k _ ⟨fun x hx => by rw [u2_row _ _ _ hx, u2_row _ _ _ hx], ?_, ?_, ?_, ?_, fun z => ?_⟩
      · rw [u2_ne _ _ (by omega), u2_ne _ _ (by omega)]; exact h2
      · rw [u2_ne _ _ (by omega), u2_ne _ _ (by omega), e]; exact h3
      · rw [u2_ne _ _ (by omega), u2_at, e]
      · rw [u2_at, e]; rfl
      · rw [e] at z; exact absurd (show (0 : Nat) = 2 from z) (by decide)
    refine w_X3_take hG ?_
    rw [h2, h3, nI_leI (by omega) (by omega), nI_ltI (by omega) (by omega)]
    exact ⟨fun _ => ⟨fun z => absurd z (by omega), fun _ => go⟩, fun z => absurd (by omega) z⟩
  | n + 1, i, I, hi, tx, h2, h3, k => by
    have n2 := tx.1
    have ci := tx.2 i (by omega)
    refine w_X3_take hG ?_
    rw [h2, h3, nI_leI (by omega) (by omega), nI_ltI (by omega) (by omega), nI_clamp (n := i) (by omega), ci.1, show (32 : Int32) = nI 32 from rfl, nI_eq (by omega) (by omega), show nI i + (1 : Int32) = nI (i + 1) from nI_1 _]
    have v : vp_in (nI i) 200 := vp_in_nI (by omega) (by decide)
    refine ⟨fun z => absurd z (by omega), fun _ => ⟨v, fun q => ⟨fun _ => ⟨v, ?_⟩, fun z => absurd (by omega) z⟩, fun q => ?_⟩⟩
    · have e : tkN c nt i = tkA c nt i := tk_end (fun z => q z.2)
      refine s_isDigit hG (by omega) ⟨_, rfl, rfl, rfl, rfl, rfl, ?_⟩
      rw [if01]
      refine ⟨fun q2 => ⟨v, s_isSign hG (by omega) ⟨_, rfl, rfl, rfl, rfl, rfl, ?_⟩⟩, fun q2 => ?_⟩
      · rw [if01]
        have go : ∀ t : Nat, (if sgB (c i) = true then c i else 1) = t → Φ none 136 (u2 (u2 (u2 I 2 4 (nI i)) 2 5 (nI t)) 2 3 (nI (i + 1))) G J := by
          intro t ht
          have e2 : tkN c nt i = (t, i, i + 1, 0) := by rw [e]; unfold tkA; rw [if_neg (by omega), if_neg q2, ht]
          refine k _ ⟨fun x hx => by rw [u2_row _ _ _ hx, u2_row _ _ _ hx, u2_row _ _ _ hx], ?_, ?_, ?_, ?_, fun z => ?_⟩
          · rw [u2_ne _ _ (by omega), u2_ne _ _ (by omega), u2_ne _ _ (by omega)]; exact h2
          · rw [u2_at, e2]
          · rw [u2_ne _ _ (by omega), u2_ne _ _ (by omega), u2_at, e2]
          · rw [u2_ne _ _ (by omega), u2_at, e2]
          · rw [e2] at z
            have z : t = 2 := z
            subst ht
            split at z
            · rename_i hs
              rw [z] at hs
              exact absurd hs (by decide)
            · exact absurd z (by decide)
        refine ⟨fun q3 => go 1 (by rw [if_neg q3]), fun q3 => ⟨v, go (c i) (by rw [if_pos (Decidable.not_not.mp q3)])⟩⟩
      · have q2' := Decidable.not_not.mp q2
        have e2 : tkN c nt i = (nuK c nt i, i, (scA c nt i 0).1, (scA c nt i 0).2) := by rw [e]; unfold tkA; rw [if_neg (by omega), if_pos q2']
        have b := tkA_b (c := c) (nt := nt) (p := i) (by omega) tx.c
        rw [← e, e2] at b
        refine s_rdNumber (I := u2 I 2 4 (nI i)) (p := i) hG ⟨tx.1, fun j hj => by rw [u2_row _ _ _ (by omega)]; exact tx.2 j hj⟩ (by rw [u2_ne _ _ (by omega)]; exact h2) (by rw [u2_ne _ _ (by omega)]; exact h3) (u2_at _ _ _ _) (by omega) (fun I' f1 f2 f3 f5 f6 => ⟨rfl, rfl, rfl, rfl, k I' ⟨fun x hx => by rw [f1 x hx, u2_row _ _ _ hx], f2.1, by rw [e2]; exact f3, by rw [e2]; exact f2.2, by rw [e2]; exact f5, fun z => ?_⟩⟩)
        rw [e2] at z ⊢
        exact f6 (b.2.2.2.2.1 z)
    · refine s_take hG n (i + 1) (by omega) ⟨tx.1, fun j hj => by rw [u2_row _ _ _ (by omega)]; exact tx.2 j hj⟩ (by rw [u2_ne _ _ (by omega)]; exact h2) (u2_at _ _ _ _) (fun I' hk => k I' ?_)
      obtain ⟨k1, k2⟩ := hk
      exact ⟨fun x hx => by rw [k1 x hx, u2_row _ _ _ hx], by rw [tk_go (by omega) q]; exact k2⟩
end RDO
