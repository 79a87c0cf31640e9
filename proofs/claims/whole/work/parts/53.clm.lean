/-! ===== climbs: the search ===== -/
def imP (w nd fr : Nat) (F : Nat → Nat) (n t hrs : Nat) (f P : Nat → Nat) (s best : Nat) (B : Nat → Nat) (best' : Nat) (B' : Nat → Nat) : Prop := (best' = best ∧ ∀ i, i < 6 → B' i = B i) ∨ (best < best' ∧ ∃ b, b < 8 ^ n ∧ vdN w n b ∧ vlN w nd fr F n b f s = best' ∧ (∀ j, j < b → vdN w n j → vlN w nd fr F n j f s < best') ∧ ∀ i, i < 6 → B' i = rwF P t hrs b i)
theorem imP.le {w nd fr : Nat} {F : Nat → Nat} {n t hrs : Nat} {f P : Nat → Nat} {s best : Nat} {B : Nat → Nat} {best' : Nat} {B' : Nat → Nat} (h : imP w nd fr F n t hrs f P s best B best' B') : best ≤ best' := h.elim (fun e => Nat.le_of_eq e.1.symm) (fun e => Nat.le_of_lt e.1)
def psP (w nd fr : Nat) (F : Nat → Nat) (n t hrs : Nat) (f P : Nat → Nat) (s best : Nat) (B : Nat → Nat) (best' : Nat) (B' : Nat → Nat) : Prop := (∀ j, j < 8 ^ n → vdN w n j → vlN w nd fr F n j f s ≤ best') ∧ imP w nd fr F n t hrs f P s best B best' B'
theorem rw_0 (P : Nat → Nat) (t hrs i : Nat) : rwF P t hrs 0 i = if i < t then P i else 0 := by
  unfold rwF
  rw [dg_0]
  split
  · rfl
  · split <;> rfl
theorem vd_0 (w n : Nat) : vdN w n 0 := fun k _ => by rw [dg_0]; exact Nat.two_pow_pos w
section EXP
variable {d : Nat} {G : MG} {J : MJ} {Φ : Ph} {a : Nat} {L : Ld} {nd hrs fr : Nat}
theorem s_explore (hG : WG G) (ha : isL a) (wL : WLd L) (hnd : 1 ≤ nd ∧ nd ≤ 14) (hh : hrs ≤ 6) (hfr : fr ≤ 9) : ∀ (n t s : Nat) {Φ : Ph} {I : MI} {best : Nat} {f P B : Nat → Nat}, t + n = hrs → RLc I a L → (I 39 4 = nI nd ∧ I 39 5 = nI hrs ∧ I 39 6 = nI fr ∧ I 39 3 = nI best) → (∀ m, m < L 0 2 → I (41 + t) m = nI (f m)) → (∀ i, i < t → I 48 i = nI (P i)) → (∀ i, i < 6 → I 49 i = nI (B i)) → (∀ m, m < L 0 2 → f m ≤ L 8 m) → s ≤ fr → best ≤ fr → (∀ (I' : MI) (best' : Nat) (B' : Nat → Nat), exF I I' t → I' 39 3 = nI best' → (∀ i, i < 6 → I' 49 i = nI (B' i)) → best' ≤ fr → psP (L 0 2) nd fr (L 8) n t hrs f P s best B best' B' → Φ none 136 I' G J) → Ev (d + 2 + n) mX0_explore 136 0 [some (.ref 39), some (.ref a), some (.int (nI t)), some (.int (nI s)), none] [] 136 I G J Φ := by
  have b3 := wL.2.2.1
  have hla := isL_or ha
  have p8 : 2 ^ L 0 2 ≤ 2 ^ 3 := Nat.pow_le_pow_right (by omega) b3
  intro n
  induction n with
  | zero =>
    intro t s Φ I best f P B ht hL h39 hst h48 h49 hf hs hb k
    obtain rfl : t = hrs := by omega
    refine w_X0_explore (d := d + 1) hG ha _ _ ?_
    rw [h39.2.2.2, h39.2.1, nI_leI (by omega) (by omega)]
    refine ⟨fun q => ⟨fun _ => ?_, fun z => absurd (nI_le (Nat.le_refl _) (by omega)) z⟩, fun q => s_keepRow hG hh (by omega) (fun I1 f1 f2 f3 f4 => ⟨rfl, rfl, rfl, rfl, ?_⟩)⟩
    · refine k I best B exF.rf h39.2.2.2 h49 hb ⟨fun j _ _ => ?_, Or.inl ⟨rfl, fun _ _ => rfl⟩⟩
      rw [vlN]; exact q
    · rw [f2 5 (by omega), h39.2.1]
      refine ⟨fun _ => ?_, fun z => absurd (nI_le (Nat.le_refl _) (by omega)) z⟩
      refine k I1 s (rwF P t t 0) ⟨fun x hx => f1 x (by omega) (by omega), fun x q1 q2 => f1 x (by omega) (by omega), fun i hi => by rw [f1 48 (by omega) (by omega)], f2⟩ f3 (fun i hi => ?_) hs ⟨fun j _ _ => by rw [vlN]; exact Nat.le_refl _, Or.inr ⟨by omega, 0, by omega, vd_0 _ _, rfl, fun j hj => by omega, fun _ _ => rfl⟩⟩
      rw [f4 i hi, rw_0]
      by_cases e : i < t
      · rw [if_pos e, if_pos e]; exact h48 i e
      · rw [if_neg e, if_neg e]
  | succ n ihn =>
    intro t s Φ I best f P B ht hL h39 hst h48 h49 hf hs hb k
    have p0 : 0 < 8 ^ n := Nat.pow_pos (by omega)
    -- what is so behind the first question
    have rest : ∀ (I1 : MI) (best1 : Nat) (B1 : Nat → Nat), exF I I1 t → I1 39 3 = nI best1 → (∀ i, i < 6 → I1 49 i = nI (B1 i)) → best1 ≤ fr → s ≤ best1 → ((best1 = best ∧ ∀ i, i < 6 → B1 i = B i) ∨ (best < best1 ∧ best1 = s ∧ ∀ i, i < 6 → B1 i = rwF P t hrs 0 i)) → ((I1 39 5) ≤ nI t → Φ none 136 I1 G J) ∧ (¬ (I1 39 5) ≤ nI t → ((I1 39 6) ≤ (I1 39 3) → Φ none 136 I1 G J) ∧ (¬ (I1 39 6) ≤ (I1 39 3) → ((I1 39 3) < ((nI s + (I1 39 5)) - nI t) → Ev (d + 2 + n + 1) mX0_explore 136 52 [some (.ref 39), some (.ref a), some (.int (nI t)), some (.int (nI s)), some (.int (0 : Int32))] [] 136 I1 G J Φ) ∧ (¬ (I1 39 3) < ((nI s + (I1 39 5)) - nI t) → Φ none 136 I1 G J))) := by
      intro I1 best1 B1 f1 g3 g49 hb1 hs1 hdis
      have dis : imP (L 0 2) nd fr (L 8) (n + 1) t hrs f P s best B best1 B1 := by
        rcases hdis with e | ⟨e1, e2, e3⟩
        · exact Or.inl e
        · exact Or.inr ⟨e1, 0, Nat.pow_pos (by omega), vd_0 _ _, by rw [vl_0 hnd.1, e2], fun j hj => by omega, e3⟩
      have out : (∀ j, vlN (L 0 2) nd fr (L 8) (n + 1) j f s ≤ best1) → Φ none 136 I1 G J := fun h => k I1 best1 B1 f1 g3 g49 hb1 ⟨fun j _ _ => h j, dis⟩
      have e5 : I1 39 5 = nI hrs := by rw [f1.2.2.2 5 (by omega)]; exact h39.2.1
      have e6 : I1 39 6 = nI fr := by rw [f1.2.2.2 6 (by omega)]; exact h39.2.2.1
      have e4 : I1 39 4 = nI nd := by rw [f1.2.2.2 4 (by omega)]; exact h39.1
      rw [e5, e6, g3, nI_leI (by omega) (by omega), nI_leI (by omega) (by omega), nI_add, pk_sub (by omega), nI_ltI (by omega) (by omega)]
      refine ⟨fun q => absurd q (by omega), fun _ => ⟨fun q => out (fun j => Nat.le_trans (vl_fr _ _ _ _ hs) q), fun q => ⟨fun q2 => ?_, fun q2 => out (fun j => Nat.le_trans (vl_n _ _ _ _) (by omega))⟩⟩⟩
      have sfr : s < fr := by omega
      -- the loop over the men
      have key : ∀ c, c ≤ 2 ^ L 0 2 → ∀ (I2 : MI) (best2 : Nat) (B2 : Nat → Nat), exF I I2 t → I2 39 3 = nI best2 → (∀ i, i < 6 → I2 49 i = nI (B2 i)) → best2 ≤ fr → (∀ j, j < c * 8 ^ n → vdN (L 0 2) (n + 1) j → vlN (L 0 2) nd fr (L 8) (n + 1) j f s ≤ best2) → imP (L 0 2) nd fr (L 8) (n + 1) t hrs f P s best B best2 B2 → Ev (d + 2 + n + 1) mX0_explore 136 52 [some (.ref 39), some (.ref a), some (.int (nI t)), some (.int (nI s)), some (.int (nI c))] [] 136 I2 G J Φ := by
        refine down_ind (E := fun c => ∀ (I2 : MI) (best2 : Nat) (B2 : Nat → Nat), exF I I2 t → I2 39 3 = nI best2 → (∀ i, i < 6 → I2 49 i = nI (B2 i)) → best2 ≤ fr → (∀ j, j < c * 8 ^ n → vdN (L 0 2) (n + 1) j → vlN (L 0 2) nd fr (L 8) (n + 1) j f s ≤ best2) → imP (L 0 2) nd fr (L 8) (n + 1) t hrs f P s best B best2 B2 → Ev (d + 2 + n + 1) mX0_explore 136 52 [some (.ref 39), some (.ref a), some (.int (nI t)), some (.int (nI s)), some (.int (nI c))] [] 136 I2 G J Φ) (2 ^ L 0 2) ?_ ?_
        · intro I2 best2 B2 f2 q3 q49 hb2 hall hd
          have ea : I2 a 9 = nI (L 0 2) := by rw [f2.1 a (by omega)]; exact hL.1.2.2.1
          have es : (1 : Int32) <<< (nI (L 0 2) &&& 31) = nI (2 ^ L 0 2) := by
            have := nshl (a := 1) (i := L 0 2) (by omega) (by omega)
            rw [Nat.one_mul] at this
            exact this
          refine w_X0_explore_52 (d := d + 2 + n) hG ha _ _ _ ⟨fun _ => k I2 best2 B2 f2 q3 q49 hb2 ⟨fun j hj hv => ?_, hd⟩, fun z => absurd ?_ z⟩
          · obtain ⟨c, y, hc, hy, rfl⟩ := of_cons hj
            have hc2 := ((vd_cons hc hy).mp hv).1
            refine hall _ ?_ hv
            have : (c + 1) * 8 ^ n ≤ 2 ^ L 0 2 * 8 ^ n := Nat.mul_le_mul_right _ hc2
            rw [Nat.add_mul, Nat.one_mul] at this
            omega
          · rw [ea, es]; exact nI_le (Nat.le_refl _) (by omega)
        · intro c hc ih I2 best2 B2 f2 q3 q49 hb2 hall hd
          have c8 : c < 8 := by omega
          have ea : I2 a 9 = nI (L 0 2) := by rw [f2.1 a (by omega)]; exact hL.1.2.2.1
          have es : (1 : Int32) <<< (nI (L 0 2) &&& 31) = nI (2 ^ L 0 2) := by
            have := nshl (a := 1) (i := L 0 2) (by omega) (by omega)
            rw [Nat.one_mul] at this
            exact this
          have X2 : Cl I2 G a L := ⟨hG, ha, hL.congr (fun x _ _ => f2.1 x (by omega)), wL⟩
          have st2 : ∀ m, m < L 0 2 → I2 (41 + t) m = nI (f m) := fun m hm => by rw [f2.2.1 _ (by omega) (by omega)]; exact hst m hm
          -- a crew that is tried
          have tried : ∀ s', (if s < fr ∧ nd ≤ psN (L 0 2) f c then s + 1 else s) = s' → s' ≤ fr → vp_in (nI t) 6 ∧ (Ev (d + 2 + n) mX0_tire 136 0 [some (.ref 39), some (.ref a), some (.int (nI t)), some (.int (nI c)), none, none] [] 136 (u2 I2 48 t (nI c)) G J (fun r n4 I4 G4 J4 => r = none ∧ n4 = 136 ∧ G = G4 ∧ J = J4 ∧ (Ev (d + 2 + n) mX0_explore 136 0 [some (.ref 39), some (.ref a), some (.int (nI (t + 1))), some (.int (nI s')), none] [] 136 I4 G J (fun r n6 I6 G6 J6 => r = none ∧ n6 = 136 ∧ G = G6 ∧ J = J6 ∧ (Ev (d + 2 + n + 1) mX0_explore 136 52 [some (.ref 39), some (.ref a), some (.int (nI t)), some (.int (nI s)), some (.int (nI (c + 1)))] [] 136 I6 G J Φ))))) := by
            intro s' hs' hsf
            have X3 : Cl (u2 I2 48 t (nI c)) G a L := ⟨hG, ha, hL.congr (fun x _ _ => by rw [u2_row _ _ _ (by omega), f2.1 x (by omega)]), wL⟩
            refine ⟨vp_in_nI (by omega) (by decide), s_clTire (d := d + 1 + n) (Φ := fun r n4 I4 G4 J4 => r = none ∧ n4 = 136 ∧ G = G4 ∧ J = J4 ∧ (Ev (d + 2 + n) mX0_explore 136 0 [some (.ref 39), some (.ref a), some (.int (nI (t + 1))), some (.int (nI s')), none] [] 136 I4 G J (fun r n6 I6 G6 J6 => r = none ∧ n6 = 136 ∧ G = G6 ∧ J = J6 ∧ (Ev (d + 2 + n + 1) mX0_explore 136 52 [some (.ref 39), some (.ref a), some (.int (nI t)), some (.int (nI s)), some (.int (nI (c + 1)))] [] 136 I6 G J Φ)))) (f := f) X3 (by omega) c8 (fun m hm => by rw [u2_row _ _ _ (by omega)]; exact st2 m hm) hf (fun I4 g1 g2 => ⟨rfl, rfl, rfl, rfl, ?_⟩) |>.mono (by omega)⟩
            have r4 : ∀ x, x ≠ 48 → x ≠ 41 + (t + 1) → I4 x = I2 x := fun x h1 h2 => by rw [g1 x h2, u2_row _ _ _ h1]
            have r48 : ∀ i, i ≠ t → I4 48 i = I2 48 i := fun i hi => by rw [g1 48 (by omega), u2_ne _ _ (by omega)]
            have r48t : I4 48 t = nI c := by rw [g1 48 (by omega), u2_at]
            refine ihn (t + 1) s' (I := I4) (best := best2) (f := tiF (L 8) f c) (P := fun i => if i = t then c else P i) (B := B2) (by omega) (hL.congr (fun x _ _ => by rw [r4 x (by omega) (by omega), f2.1 x (by omega)])) ⟨by rw [r4 39 (by omega) (by omega), f2.2.2.2 4 (by omega)]; exact h39.1, by rw [r4 39 (by omega) (by omega), f2.2.2.2 5 (by omega)]; exact h39.2.1, by rw [r4 39 (by omega) (by omega), f2.2.2.2 6 (by omega)]; exact h39.2.2.1, by rw [r4 39 (by omega) (by omega)]; exact q3⟩ g2 (fun i hi => ?_) (fun i hi => by rw [r4 49 (by omega) (by omega)]; exact q49 i hi) (ti_le hf c) hsf hb2 (fun I6 best6 B6 f6 w3 w49 hb6 hps => ⟨rfl, rfl, rfl, rfl, ?_⟩)
            · show I4 48 i = nI (if i = t then c else P i)
              by_cases e : i = t
              · rw [if_pos e, e]; exact r48t
              · rw [if_neg e, r48 i e, f2.2.2.1 i (by omega)]; exact h48 i (by omega)
            · have f24 : exF I2 I4 t := ⟨fun x hx => r4 x (by omega) (by omega), fun x h1 h2 => r4 x (by omega) (by omega), fun i hi => r48 i (by omega), fun j hj => by rw [r4 39 (by omega) (by omega)]⟩
              obtain ⟨ps1, ps2⟩ := hps
              have vc : ∀ y, y < 8 ^ n → vlN (L 0 2) nd fr (L 8) (n + 1) (c * 8 ^ n + y) f s = vlN (L 0 2) nd fr (L 8) n y (tiF (L 8) f c) s' := fun y hy => by rw [vl_cons f s c8 hy, hs']
              have b26 : best2 ≤ best6 := ps2.le
              refine ih I6 best6 B6 ((f2.tr f24).tr (f6.le (by omega))) w3 w49 hb6 (fun j hj hv => ?_) ?_
              · by_cases e : j < c * 8 ^ n
                · exact Nat.le_trans (hall j e hv) b26
                · rw [Nat.add_mul, Nat.one_mul] at hj
                  obtain ⟨y, rfl⟩ : ∃ y, j = c * 8 ^ n + y := ⟨j - c * 8 ^ n, by omega⟩
                  have hy : y < 8 ^ n := by omega
                  rw [vc y hy]
                  exact ps1 y hy ((vd_cons c8 hy).mp hv).2
              · rcases ps2 with ⟨e1, e2⟩ | ⟨e1, b, hb1, hb2', hb3, hb4, hb5⟩
                · rcases hd with ⟨d1, d2⟩ | ⟨d1, bb, d2, d3, d4, d5, d6⟩
                  · exact Or.inl ⟨e1.trans d1, fun i hi => (e2 i hi).trans (d2 i hi)⟩
                  · exact Or.inr ⟨by omega, bb, d2, d3, by rw [e1]; exact d4, fun j hj hv => by rw [e1]; exact d5 j hj hv, fun i hi => (e2 i hi).trans (d6 i hi)⟩
                · have bb2 : best ≤ best2 := hd.le
                  refine Or.inr ⟨by omega, c * 8 ^ n + b, ?_, (vd_cons c8 hb1).mpr ⟨hc, hb2'⟩, by rw [vc b hb1]; exact hb3, fun j hj hv => ?_, fun i hi => ?_⟩
                  · have : (c + 1) * 8 ^ n ≤ 8 * 8 ^ n := Nat.mul_le_mul_right _ (by omega)
                    rw [Nat.add_mul, Nat.one_mul] at this
                    have e8 : 8 ^ (n + 1) = 8 * 8 ^ n := by rw [Nat.pow_succ, Nat.mul_comm]
                    rw [e8]
                    omega
                  · by_cases e : j < c * 8 ^ n
                    · exact Nat.lt_of_le_of_lt (hall j e hv) e1
                    · obtain ⟨y, rfl⟩ : ∃ y, j = c * 8 ^ n + y := ⟨j - c * 8 ^ n, by omega⟩
                      have hy : y < 8 ^ n := by omega
                      rw [vc y hy]
                      exact hb4 y (by omega) ((vd_cons c8 hy).mp hv).2
                  · rw [hb5 i hi]
                    unfold rwF
                    dsimp only
                    by_cases e : i < t
                    · rw [if_pos (by omega), if_pos e, if_neg (by omega)]
                    · by_cases e2 : i = t
                      · rw [if_pos (show i < t + 1 by omega), if_neg e, if_pos e2, if_pos (show i < hrs by omega), show hrs - 1 - i = n by omega, dg_hi c8 hb1]
                      · rw [if_neg (by omega), if_neg e]
                        by_cases e3 : i < hrs
                        · rw [if_pos e3, if_pos e3, dg_lo (by omega)]
                        · rw [if_neg e3, if_neg e3]
          refine w_X0_explore_52 (d := d + 2 + n) hG ha _ _ _ ⟨fun z => ?_, fun _ => ?_⟩
          · rw [ea, es, nI_leI (by omega) (by omega)] at z
            omega
          · rw [show nI t + (1 : Int32) = nI (t + 1) from nI_1 _, show nI s + (1 : Int32) = nI (s + 1) from nI_1 _, show nI c + (1 : Int32) = nI (c + 1) from nI_1 _, nI_clamp (n := t) (by omega), show (0 : Int32) = nI 0 from rfl, nI_eq (a := c) (b := 0) (by omega) (by omega)]
            refine ⟨fun e => ?_, fun e => ?_⟩
            · have tr := tried s (by rw [e, ps_0, if_neg (by omega)]) hs
              refine ⟨tr.1, tr.2.post (fun r n4 I4 G4 J4 hq => ⟨hq.1, hq.2.1, hq.2.2.1, hq.2.2.2.1, fun z => absurd e z, fun _ => hq.2.2.2.2⟩)⟩
            · refine s_justEnough (d := d + 1 + n) (f := f) (nd := nd) (Φ := _) X2 (by omega) c8 (by omega) (by rw [f2.2.2.2 4 (by omega)]; exact h39.1) st2 hf (fun hj => ⟨_, rfl, rfl, rfl, rfl, rfl, fun z => absurd z (by decide), fun _ => ?_⟩) (fun hj => ⟨_, rfl, rfl, rfl, rfl, rfl, fun _ => ?_, fun z => absurd rfl z⟩) |>.mono (by omega)
              · have tr := tried (s + 1) (by rw [if_pos ⟨sfr, hj.1⟩]) (by omega)
                refine ⟨tr.1, tr.2.post (fun r n4 I4 G4 J4 hq => ⟨hq.1, hq.2.1, hq.2.2.1, hq.2.2.2.1, fun _ => hq.2.2.2.2, fun z => absurd z e⟩)⟩
              · refine ih I2 best2 B2 f2 q3 q49 hb2 (fun j hj2 hv => ?_) hd
                by_cases e2 : j < c * 8 ^ n
                · exact hall j e2 hv
                · rw [Nat.add_mul, Nat.one_mul] at hj2
                  obtain ⟨y, rfl⟩ : ∃ y, j = c * 8 ^ n + y := ⟨j - c * 8 ^ n, by omega⟩
                  have hy : y < 8 ^ n := by omega
                  obtain ⟨c', hc', hle⟩ := spare (n := n) (fr := fr) (y := y) (s := s) b3 hf c8 e hj
                  rw [vl_cons f s c8 hy]
                  refine Nat.le_trans hle ?_
                  rw [← vl_cons f s (by omega) hy]
                  refine hall _ ?_ ((vd_cons (by omega) hy).mpr ⟨by omega, ((vd_cons c8 hy).mp hv).2⟩)
                  have : (c' + 1) * 8 ^ n ≤ c * 8 ^ n := Nat.mul_le_mul_right _ (by omega)
                  rw [Nat.add_mul, Nat.one_mul] at this
                  omega
      exact key 0 (Nat.zero_le _) I1 best1 B1 f1 g3 g49 hb1 (fun j hj => absurd hj (by omega)) dis
    refine w_X0_explore (d := d + 2 + n) hG ha _ _ ?_
    rw [h39.2.2.2]
    refine ⟨fun q => ?_, fun q => s_keepRow hG (by omega) (by omega) (fun I1 f1 f2 f3 f4 => ⟨rfl, rfl, rfl, rfl, ?_⟩)⟩
    · rw [nI_leI (by omega) (by omega)] at q
      have := rest I best B exF.rf h39.2.2.2 h49 hb q (Or.inl ⟨rfl, fun _ _ => rfl⟩)
      rw [h39.2.2.2] at this
      exact this
    · rw [nI_leI (by omega) (by omega)] at q
      refine rest I1 s (rwF P t hrs 0) ⟨fun x hx => f1 x (by omega) (by omega), fun x q1 q2 => f1 x (by omega) (by omega), fun i hi => by rw [f1 48 (by omega) (by omega)], f2⟩ f3 (fun i hi => ?_) hs (Nat.le_refl _) (Or.inr ⟨by omega, rfl, fun _ _ => rfl⟩)
      rw [f4 i hi, rw_0]
      by_cases e : i < t
      · rw [if_pos e, if_pos e]; exact h48 i e
      · rw [if_neg e, if_neg e]
end EXP
