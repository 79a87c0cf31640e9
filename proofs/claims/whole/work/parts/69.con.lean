/-! ===== the object's constructor: its loops and its end ===== -/
theorem pst_at : ∀ i, i < 10 → 50 + 6 * i ∈ momL := by decide +kernel
theorem img_at : ∀ i, i < 2 → 110 + 6 * i ∈ momL := by decide +kernel
def r0P (G : MG) : Prop := (∀ p ∈ row0, G 0 p.1 = some p.2) ∧ G 0 3 = some 4 ∧ G 0 4 = some 13
theorem stP.put2 {n s t c : Nat} {I : MI} {G : MG} {J : MJ} {I1 : MI} {G1 : MG} {J1 : MJ} (h : stP n I G J I1 G1 J1) (hn : 36 ≤ n) (hc : c = 34 ∨ c = 35) : stP n I G J I1 (u2 G1 c s (some t)) J1 := by
  obtain ⟨h1, h2, h3⟩ := h
  refine ⟨fun x hx => ⟨(h1 x hx).1, by rw [u2_row _ _ _ (by omega)]; exact (h1 x hx).2.1, (h1 x hx).2.2⟩, h2, fun q hq q0 q35 ql => ?_⟩
  by_cases e : q.1 = c
  · have := refN q hq (Or.inr ⟨by omega, by omega⟩)
    exact absurd this q35
  · rw [u2_row _ _ _ e]; exact h3 q hq q0 q35 ql
/-- what the object's constructor leaves -/
def obP (I : MI) (G : MG) (J : MJ) (I1 : MI) (G1 : MG) (J1 : MJ) : Prop := (∀ x, 122 ≤ x → I1 x = I x ∧ G1 x = G x ∧ J1 x = J x) ∧ (I1 0 = I 0 ∧ J1 0 = J 0) ∧ WG G1 ∧ (G1 0 3 = some 4 ∧ G1 0 4 = some 13) ∧ (∀ j, j < 10 → G1 34 j = some (50 + 6 * j)) ∧ RLc I1 4 emL ∧ (∀ b, b < 2 → I1 36 b = 0) ∧ RMc I1 22 emL (bgM emL) ∧ I1 22 7 = 0
section CON5
variable {d : Nat} {I : MI} {G : MG} {J : MJ} {Φ : Ph}
set_option maxRecDepth 100000 in
theorem x4_end (hG : ∀ q ∈ refT, 122 ≤ q.1 → G q.1 q.2.1 = some q.2.2) (k : ∀ (I' : MI) (G' : MG) (J' : MJ), obP I G J I' G' J' → Φ none 122 I' G' J') {I1 : MI} {G1 : MG} {J1 : MJ} (s1 : stP 50 I G J I1 G1 J1) (l1 : RLc I1 4 emL) (z1 : ∀ b, b < 2 → I1 36 b = 0) (r1 : r0P G1) : Ev (d + 3) mX4_init 1 125 [some (.ref 0), some (.int (nI 0))] [] 50 I1 G1 J1 Φ := by
  have sh0 : ∀ n, 50 ≤ n → shn n 0 = (4, 16) := fun n hn => shn_of (by omega) (by decide +kernel)
  -- the end
  have fin : ∀ (I2 : MI) (G2 : MG) (J2 : MJ), stP 122 I G J I2 G2 J2 → RLc I2 4 emL → (∀ b, b < 2 → I2 36 b = 0) → r0P G2 → (∀ j, j < 10 → G2 34 j = some (50 + 6 * j)) → (∀ j, j < 2 → G2 35 j = some (110 + 6 * j)) → Ev (d + 3) mX4_init 1 176 [some (.ref 0), some (.int (nI 2))] [] 122 I2 G2 J2 Φ := by
    intro I2 G2 J2 s2 l2 z2 r2 p2 i2
    have wg : WG G2 := by
      intro q hq
      by_cases e0 : q.1 = 0
      · have := r2.1 _ (ref0 q hq e0)
        rw [e0]; exact this
      · by_cases e35 : q.1 = 35
        · rcases ref35 q hq e35 with rfl | rfl
          · exact i2 0 (by omega)
          · exact i2 1 (by omega)
        · by_cases el : q.1 < 122
          · exact s2.2.2 q hq e0 e35 el
          · rw [(s2.1 q.1 (by omega)).2.1]; exact hG q hq (by omega)
    refine E_aload_n 0 dX4_init_176 rfl rfl ?_
    refine E_getr 4 5 0 16 22 dX4_init_177 fl_RX4_35 rfl (sh0 _ (by omega)) (r2.1 (5, 22) (by decide +kernel)) ?_
    refine E_aload_n 0 dX4_init_180 rfl rfl ?_
    refine E_getr 4 3 0 16 4 dX4_init_181 fl_RX4_25 rfl (sh0 _ (by omega)) r2.2.1 ?_
    refine E_invv (M := mX4_init) (pc := 184) (As := [.ref 4]) (st := []) mX2_begin 1 2 8 dX4_init_184 lk_RX4_67 ⟨_, rfl, rfl⟩ (shn_of (by decide) (by decide +kernel)) rfl (by decide) (by decide) (by decide +kernel) (by decide) (by decide +kernel) (by decide) (?_ : Ev (d + 2) mX2_begin 122 0 [some (.ref 22), some (.ref 4), none] [] 122 I2 G2 J2 (fun r n I3 G3 J3 => r = none ∧ n = 122 ∧ obP I G J I3 G3 J3)) ?_ rfl
    · refine s_begin2 ⟨wg, (by decide +kernel : 4 ∈ lndL), l2, em_w.1⟩ isM_22_ (fun I3 g1 g2 g3 => ⟨rfl, rfl, fun x hx => ?_, ⟨?_, s2.2.1.2⟩, wg, r2.2, p2, ?_, fun b hb => ?_, g3, g2⟩)
      · have := s2.1 x hx
        exact ⟨by rw [g1 x (by omega)]; exact this.1, this.2⟩
      · rw [g1 0 (by omega)]; exact s2.2.1.1
      · exact l2.congr (fun x q1 q2 => g1 x (by omega))
      · rw [g1 36 (by omega)]; exact z2 b hb
    · rintro r n I3 G3 J3 ⟨rfl, rfl, ho⟩
      exact E_vret dX4_init_187 rfl rfl (by decide +kernel) (k I3 G3 J3 ho)
  -- images
  have lp2 : ∀ i, i ≤ 2 → ∀ (I2 : MI) (G2 : MG) (J2 : MJ), stP (110 + 6 * i) I G J I2 G2 J2 → RLc I2 4 emL → (∀ b, b < 2 → I2 36 b = 0) → r0P G2 → (∀ j, j < 10 → G2 34 j = some (50 + 6 * j)) → (∀ j, j < i → G2 35 j = some (110 + 6 * j)) → Ev (d + 3) mX4_init 1 152 [some (.ref 0), some (.int (nI i))] [] (110 + 6 * i) I2 G2 J2 Φ := by
    refine down_ind (E := fun i => ∀ (I2 : MI) (G2 : MG) (J2 : MJ), stP (110 + 6 * i) I G J I2 G2 J2 → RLc I2 4 emL → (∀ b, b < 2 → I2 36 b = 0) → r0P G2 → (∀ j, j < 10 → G2 34 j = some (50 + 6 * j)) → (∀ j, j < i → G2 35 j = some (110 + 6 * j)) → Ev (d + 3) mX4_init 1 152 [some (.ref 0), some (.int (nI i))] [] (110 + 6 * i) I2 G2 J2 Φ) 2 ?_ ?_
    · intro I2 G2 J2 s2 l2 z2 r2 p2 i2
      refine E_iload_n 1 dX4_init_152 rfl rfl ?_
      refine E_iconst (2 : Int32) dX4_init_153 rfl ?_
      refine E_icmp_ge 176 dX4_init_154 rfl (fun _ => ?_) (fun h => absurd (nI_le (a := 2) (b := 2) (by omega) (by omega)) h)
      exact fin I2 G2 J2 s2 l2 z2 r2 p2 i2
    · intro i hi ih I2 G2 J2 s2 l2 z2 r2 p2 i2
      refine E_iload_n 1 dX4_init_152 rfl rfl ?_
      refine E_iconst (2 : Int32) dX4_init_153 rfl ?_
      refine E_icmp_ge 176 dX4_init_154 rfl (fun h => absurd h (nI_ge (a := i) (b := 2) hi (by omega))) (fun _ => ?_)
      refine E_aload_n 0 dX4_init_157 rfl rfl ?_
      refine E_getr 4 9 0 16 35 dX4_init_158 fl_RX4_46 rfl (sh0 _ (by omega)) (r2.1 (9, 35) (by decide +kernel)) ?_
      refine E_iload_n 1 dX4_init_161 rfl rfl ?_
      refine x4_mom (d := d + 1) (img_at i hi) dX4_init_162 dX4_init_165 dX4_init_166 (Nat.le_of_ble_eq_true rfl) (fun I3 G3 J3 f3 q3 => ?_)
      have s3 := s2.grow (n' := 110 + 6 * i + 6) (by omega) (by omega) f3 q3
      have m := (momF _ (img_at i hi)).1
      refine E_as 35 2 i (110 + 6 * i) 8 dX4_init_169 (shn_of (by omega) (by decide +kernel)) (shn_of (by omega) m.2.2.1) (vp_in_nI hi (by decide)) (nI_clamp (by omega)) ?_
      refine E_iinc (nI (i + 1)) dX4_init_170 rfl (nI_1 i) (Nat.le_of_ble_eq_true rfl) (?_ : Ev (d + 3) mX4_init 1 173 [some (.ref 0), some (.int (nI (i + 1)))] [] (110 + 6 * i + 6) I3 (u2 G3 35 i (some (110 + 6 * i))) J3 Φ)
      refine E_goto 152 dX4_init_173 rfl ?_
      refine ih I3 _ J3 (s3.put2 (by omega) (Or.inr rfl)) (l2.congr (fun x q1 q2 => (f3 x (by omega)).1)) (fun b hb => by rw [(f3 36 (by omega)).1]; exact z2 b hb) ⟨fun p hp => ?_, ?_, ?_⟩ (fun j hj => ?_) (fun j hj => ?_)
      · rw [u2_row _ _ _ (by omega), (f3 0 (by omega)).2.1]; exact r2.1 p hp
      · rw [u2_row _ _ _ (by omega), (f3 0 (by omega)).2.1]; exact r2.2.1
      · rw [u2_row _ _ _ (by omega), (f3 0 (by omega)).2.1]; exact r2.2.2
      · rw [u2_row _ _ _ (by omega), (f3 34 (by omega)).2.1]; exact p2 j hj
      · by_cases e : j = i
        · rw [e, u2_at]
        · rw [u2_ne _ _ (by omega), (f3 35 (by omega)).2.1]; exact i2 j (by omega)
  -- what may be undone
  have lp1 : ∀ i, i ≤ 10 → ∀ (I2 : MI) (G2 : MG) (J2 : MJ), stP (50 + 6 * i) I G J I2 G2 J2 → RLc I2 4 emL → (∀ b, b < 2 → I2 36 b = 0) → r0P G2 → (∀ j, j < i → G2 34 j = some (50 + 6 * j)) → Ev (d + 3) mX4_init 1 125 [some (.ref 0), some (.int (nI i))] [] (50 + 6 * i) I2 G2 J2 Φ := by
    refine down_ind (E := fun i => ∀ (I2 : MI) (G2 : MG) (J2 : MJ), stP (50 + 6 * i) I G J I2 G2 J2 → RLc I2 4 emL → (∀ b, b < 2 → I2 36 b = 0) → r0P G2 → (∀ j, j < i → G2 34 j = some (50 + 6 * j)) → Ev (d + 3) mX4_init 1 125 [some (.ref 0), some (.int (nI i))] [] (50 + 6 * i) I2 G2 J2 Φ) 10 ?_ ?_
    · intro I2 G2 J2 s2 l2 z2 r2 p2
      refine E_iload_n 1 dX4_init_125 rfl rfl ?_
      refine E_bipush (10 : Int32) dX4_init_126 rfl ?_
      refine E_icmp_ge 150 dX4_init_128 rfl (fun _ => ?_) (fun h => absurd (nI_le (a := 10) (b := 10) (by omega) (by omega)) h)
      refine E_iconst (0 : Int32) dX4_init_150 rfl ?_
      refine E_istore_n 1 dX4_init_151 rfl (Nat.le_of_ble_eq_true rfl) (?_ : Ev (d + 3) mX4_init 1 152 [some (.ref 0), some (.int (nI 0))] [] (110 + 6 * 0) I2 G2 J2 Φ)
      exact lp2 0 (by omega) I2 G2 J2 s2 l2 z2 r2 p2 (fun j hj => absurd hj (by omega))
    · intro i hi ih I2 G2 J2 s2 l2 z2 r2 p2
      refine E_iload_n 1 dX4_init_125 rfl rfl ?_
      refine E_bipush (10 : Int32) dX4_init_126 rfl ?_
      refine E_icmp_ge 150 dX4_init_128 rfl (fun h => absurd h (nI_ge (a := i) (b := 10) hi (by omega))) (fun _ => ?_)
      refine E_aload_n 0 dX4_init_131 rfl rfl ?_
      refine E_getr 4 7 0 16 34 dX4_init_132 fl_RX4_42 rfl (sh0 _ (by omega)) (r2.1 (7, 34) (by decide +kernel)) ?_
      refine E_iload_n 1 dX4_init_135 rfl rfl ?_
      refine x4_mom (d := d + 1) (pst_at i hi) dX4_init_136 dX4_init_139 dX4_init_140 (Nat.le_of_ble_eq_true rfl) (fun I3 G3 J3 f3 q3 => ?_)
      have s3 := s2.grow (n' := 50 + 6 * i + 6) (by omega) (by omega) f3 q3
      have m := (momF _ (pst_at i hi)).1
      refine E_as 34 10 i (50 + 6 * i) 8 dX4_init_143 (shn_of (by omega) (by decide +kernel)) (shn_of (by omega) m.2.2.1) (vp_in_nI hi (by decide)) (nI_clamp (by omega)) ?_
      refine E_iinc (nI (i + 1)) dX4_init_144 rfl (nI_1 i) (Nat.le_of_ble_eq_true rfl) (?_ : Ev (d + 3) mX4_init 1 147 [some (.ref 0), some (.int (nI (i + 1)))] [] (50 + 6 * i + 6) I3 (u2 G3 34 i (some (50 + 6 * i))) J3 Φ)
      refine E_goto 125 dX4_init_147 rfl ?_
      refine ih I3 _ J3 (s3.put2 (by omega) (Or.inl rfl)) (l2.congr (fun x q1 q2 => (f3 x (by omega)).1)) (fun b hb => by rw [(f3 36 (by omega)).1]; exact z2 b hb) ⟨fun p hp => ?_, ?_, ?_⟩ (fun j hj => ?_)
      · rw [u2_row _ _ _ (by omega), (f3 0 (by omega)).2.1]; exact r2.1 p hp
      · rw [u2_row _ _ _ (by omega), (f3 0 (by omega)).2.1]; exact r2.2.1
      · rw [u2_row _ _ _ (by omega), (f3 0 (by omega)).2.1]; exact r2.2.2
      · by_cases e : j = i
        · rw [e, u2_at]
        · rw [u2_ne _ _ (by omega), (f3 34 (by omega)).2.1]; exact p2 j (by omega)
  exact lp1 0 (by omega) I1 G1 J1 s1 l1 z1 r1 (fun j hj => absurd hj (by omega))
end CON5
