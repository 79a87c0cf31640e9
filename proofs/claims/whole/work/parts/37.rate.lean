/-! ===== rate, the object's ===== -/
def rvI (L : Ld) (T : Tm) (h : Nat) : Nat → Int32
  | 0 => nI (szN L T.1 h)
  | 1 => nI (szN L T.1 h) + nI (T.1 1 h)
  | 2 => nI (szN L T.1 h) - nI (L 2 h)
  | 3 => (2 : Int32) * (nI (szN L T.1 h) + nI (T.1 1 h))
  | 4 => (nI (szN L T.1 h) - nI (L 2 h)) + nI h
  | _ => nI (szN L T.1 h) + nI (mnA L T.1 h)
def rtJ : Nat → Int64
  | 0 => 1
  | 1 => 11
  | 2 => 101
  | 3 => 1011
  | 4 => 10101
  | _ => 100001
def FrJ (c p : Nat) (J J' : MJ) : Prop := ∀ x y, ¬ (x = c ∧ y = p) → J' x y = J x y
section RATE
variable {d : Nat} {I : MI} {G : MG} {J : MJ} {Φ : Ph} {a : Nat} {L : Ld} {T : Tm}
theorem s_rate0 (S : SR I G J a L T) {J1 : MJ} {h : Nat} (hh : h < L 0 0) (k : ∀ J', FrJ 0 15 J1 J' → J' 0 15 = J1 0 15 + rtJ 0 → Φ (some (.int (rvI L T h 0))) 136 I G J') : Ev (d + 2) mX4_rateAs 136 0 [some (.ref 0), some (.int (0 : Int32)), some (.int (nI h)), none] [] 136 I G J1 Φ := by
  have u := S.2.2.2.2.2.2.2
  refine w_X4_rateAs S.1.1 S.1.2.1 S.1.2.2.1 _ _ ⟨by rw [u.1.2.1]; exact vp_in_nI (n := 0) (by omega) (by decide), fun q => absurd rfl q, fun _ => ?_⟩
  have e : I 1002 ((0 : Int32).toNatClampNeg) = nI 1 := (u.2.1 0 (by omega)).2
  rw [e]
  exact s_sizeNow S.cm hh ⟨_, rfl, rfl, rfl, rfl, rfl, k _ (fun x y hxy => u2_ne _ _ hxy) (by rw [u2_at]; rfl)⟩
theorem s_rateUp (S : SR I G J a L T) {J1 : MJ} {h q up : Nat} (hh : h < L 0 0) (hq : q = 1 ∨ q = 2 ∨ q = 3 ∨ q = 4 ∨ q = 5) (hu : [0, 0, 0, 1, 2, 0].getD q 0 = up) (hc : ∀ J2 : MJ, ∀ Ψ : Ph, (∀ J', FrJ 0 15 J2 J' → J' 0 15 = J2 0 15 + rtJ up → Ψ (some (.int (rvI L T h up))) 136 I G J') → Ev (d + 1) mX4_rateAs 136 0 [some (.ref 0), some (.int (nI up)), some (.int (nI h)), none] [] 136 I G J2 Ψ) (k : ∀ J', FrJ 0 15 J1 J' → J' 0 15 = J1 0 15 + rtJ q → Φ (some (.int (rvI L T h q))) 136 I G J') : Ev (d + 2) mX4_rateAs 136 0 [some (.ref 0), some (.int (nI q)), some (.int (nI h)), none] [] 136 I G J1 Φ := by
  have u := S.2.2.2.2.2.2.2
  have b := S.w.h hh
  have hq6 : q < 6 := by omega
  have ec : (nI q).toNatClampNeg = q := nI_clamp (n := q) (by omega)
  have e1 : I 1001 q = nI up := by rw [(u.2.1 q hq6).1, hu]
  have e2 := (u.2.1 q hq6).2
  have es : I (22 + 1) h = nI (T.1 1 h) := (S.2.1.2.1.1.2.1 h hh).1
  have el : I (a + 2) h = nI (L 2 h) := (S.1.2.2.2.2.1.2.1 h hh).2.1
  refine w_X4_rateAs S.1.1 S.1.2.1 S.1.2.2.1 _ _ ⟨by rw [u.1.2.1]; exact vp_in_nI hq6 (by decide), fun _ => ⟨by rw [u.1.1]; exact vp_in_nI hq6 (by decide), ?_⟩, fun z => absurd z (nI_ne0 (by omega) (by omega))⟩
  rw [ec, e1, e2, nI_clamp (n := h) (by omega), es, el]
  have V4 : vp_in (nI h) 4 := vp_in_nI (by omega) (by decide)
  refine hc _ _ (fun J' f g => ⟨_, rfl, rfl, rfl, rfl, ?_⟩)
  have f' : FrJ 0 15 J1 J' := fun x y hxy => (f x y hxy).trans (u2_ne _ _ hxy)
  rw [u2_at, Int64.add_assoc] at g
  rcases hq with rfl | rfl | rfl | rfl | rfl
  · obtain rfl : up = 0 := by rw [← hu]; rfl
    exact ⟨fun _ => ⟨V4, k J' f' g⟩, fun z => absurd rfl z⟩
  · obtain rfl : up = 0 := by rw [← hu]; rfl
    exact ⟨fun z => absurd z (by decide), fun _ => ⟨fun _ => ⟨V4, k J' f' g⟩, fun z => absurd rfl z⟩⟩
  · obtain rfl : up = 1 := by rw [← hu]; rfl
    exact ⟨fun z => absurd z (by decide), fun _ => ⟨fun z => absurd z (by decide), fun _ => ⟨fun _ => k J' f' g, fun z => absurd rfl z⟩⟩⟩
  · obtain rfl : up = 2 := by rw [← hu]; rfl
    exact ⟨fun z => absurd z (by decide), fun _ => ⟨fun z => absurd z (by decide), fun _ => ⟨fun z => absurd z (by decide), fun _ => ⟨fun _ => k J' f' g, fun z => absurd rfl z⟩⟩⟩⟩
  · obtain rfl : up = 0 := by rw [← hu]; rfl
    refine ⟨fun z => absurd z (by decide), fun _ => ⟨fun z => absurd z (by decide), fun _ => ⟨fun z => absurd z (by decide), fun _ => ⟨fun z => absurd z (by decide), fun _ => ?_⟩⟩⟩⟩
    exact s_menAt S.cm hh ⟨_, rfl, rfl, rfl, rfl, rfl, k J' f' g⟩
theorem s_rateAs (S : SR I G J a L T) {J1 : MJ} {h q : Nat} (hh : h < L 0 0) (hq : q < 6) (k : ∀ J', FrJ 0 15 J1 J' → J' 0 15 = J1 0 15 + rtJ q → Φ (some (.int (rvI L T h q))) 136 I G J') : Ev (d + 4) mX4_rateAs 136 0 [some (.ref 0), some (.int (nI q)), some (.int (nI h)), none] [] 136 I G J1 Φ := by
  rcases (show q = 0 ∨ q = 1 ∨ q = 2 ∨ q = 3 ∨ q = 4 ∨ q = 5 by omega) with rfl | rfl | rfl | rfl | rfl | rfl
  · exact s_rate0 S hh k
  · exact s_rateUp S hh (by omega) rfl (fun J2 Ψ kk => s_rate0 S hh kk) k
  · exact s_rateUp S hh (by omega) rfl (fun J2 Ψ kk => s_rate0 S hh kk) k
  · exact s_rateUp (up := 1) S hh (by omega) rfl (fun J2 Ψ kk => s_rateUp (q := 1) (up := 0) S hh (by omega) rfl (fun J2 Ψ kk => s_rate0 S hh kk) kk) k
  · exact s_rateUp (up := 2) S hh (by omega) rfl (fun J2 Ψ kk => s_rateUp (q := 2) (up := 0) S hh (by omega) rfl (fun J2 Ψ kk => s_rate0 S hh kk) kk) k
  · exact s_rateUp S hh (by omega) rfl (fun J2 Ψ kk => s_rate0 S hh kk) k
end RATE
