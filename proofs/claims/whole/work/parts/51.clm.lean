/-! ===== climbs: rows of men, hour by hour, as numbers to the base 8 ===== -/
def dgN (x k : Nat) : Nat := x / 8 ^ k % 8
def tiF (F f : Nat → Nat) (c m : Nat) : Nat := if c / 2 ^ m % 2 = 1 then f m - 1 else min (F m) (f m + 1)
def psN (n : Nat) (f : Nat → Nat) (c : Nat) : Nat := sumN (fun m => if c / 2 ^ m % 2 = 1 then f m else 0) n
def vlN (w nd fr : Nat) (F : Nat → Nat) : Nat → Nat → (Nat → Nat) → Nat → Nat
  | 0, _, _, s => s
  | n + 1, x, f, s => vlN w nd fr F n x (tiF F f (dgN x n)) (if s < fr ∧ nd ≤ psN w f (dgN x n) then s + 1 else s)
def vdN (w n x : Nat) : Prop := ∀ k, k < n → dgN x k < 2 ^ w
section CLM
variable {w nd fr : Nat} {F : Nat → Nat}
theorem vl_ge : ∀ (n x : Nat) (f : Nat → Nat) (s : Nat), s ≤ vlN w nd fr F n x f s
  | 0, _, _, _ => Nat.le_refl _
  | n + 1, x, f, s => by
    rw [vlN]
    refine Nat.le_trans ?_ (vl_ge n x _ _)
    split <;> omega
theorem vl_n : ∀ (n x : Nat) (f : Nat → Nat) (s : Nat), vlN w nd fr F n x f s ≤ s + n
  | 0, _, _, _ => Nat.le_refl _
  | n + 1, x, f, s => by
    rw [vlN]
    have := vl_n n x (tiF F f (dgN x n)) (if s < fr ∧ nd ≤ psN w f (dgN x n) then s + 1 else s)
    refine Nat.le_trans this ?_
    split <;> omega
theorem vl_fr : ∀ (n x : Nat) (f : Nat → Nat) (s : Nat), s ≤ fr → vlN w nd fr F n x f s ≤ fr
  | 0, _, _, _, h => h
  | n + 1, x, f, s, h => by
    rw [vlN]
    refine vl_fr n x _ _ ?_
    split <;> omega
theorem vl_end (n x : Nat) (f : Nat → Nat) (s : Nat) (h : fr ≤ s) : vlN w nd fr F n x f s = s := by
  induction n generalizing f with
  | zero => rfl
  | succ n ih => rw [vlN, if_neg (by omega)]; exact ih _
theorem dg_0 (k : Nat) : dgN 0 k = 0 := by unfold dgN; rw [Nat.zero_div]
theorem ps_0 (f : Nat → Nat) : psN w f 0 = 0 := by
  have := sumN_le (f := fun m => if 0 / 2 ^ m % 2 = 1 then f m else 0) (b := 0) (n := w) (fun m _ => by simp)
  unfold psN
  omega
theorem vl_0 (hnd : 1 ≤ nd) : ∀ (n : Nat) (f : Nat → Nat) (s : Nat), vlN w nd fr F n 0 f s = s
  | 0, _, _ => rfl
  | n + 1, f, s => by rw [vlN, dg_0, ps_0, if_neg (by omega)]; exact vl_0 hnd n _ s
theorem vl_cg : ∀ (n : Nat) {x y : Nat} (f : Nat → Nat) (s : Nat), (∀ k, k < n → dgN x k = dgN y k) → vlN w nd fr F n x f s = vlN w nd fr F n y f s
  | 0, _, _, _, _, _ => rfl
  | n + 1, x, y, f, s, h => by rw [vlN, vlN, h n (by omega)]; exact vl_cg n _ _ (fun k hk => h k (by omega))
theorem ps_mono {f g : Nat → Nat} (h : ∀ m, m < w → f m ≤ g m) (c : Nat) : psN w f c ≤ psN w g c := sumN_mono (fun m hm => by
  show (if c / 2 ^ m % 2 = 1 then f m else 0) ≤ (if c / 2 ^ m % 2 = 1 then g m else 0)
  have := h m hm
  split <;> omega)
theorem ti_mono {f g : Nat → Nat} (h : ∀ m, m < w → f m ≤ g m) (c : Nat) : ∀ m, m < w → tiF F f c m ≤ tiF F g c m := fun m hm => by
  have := h m hm
  unfold tiF
  split <;> omega
theorem vl_mono : ∀ (n x : Nat) {f g : Nat → Nat} {s t : Nat}, (∀ m, m < w → f m ≤ g m) → s ≤ t → vlN w nd fr F n x f s ≤ vlN w nd fr F n x g t
  | 0, _, _, _, _, _, _, h => h
  | n + 1, x, f, g, s, t, h1, h2 => by
    rw [vlN, vlN]
    refine vl_mono n x (ti_mono h1 _) ?_
    have := ps_mono h1 (dgN x n)
    by_cases e : s < fr ∧ nd ≤ psN w f (dgN x n)
    · rw [if_pos e]
      by_cases e2 : t < fr
      · rw [if_pos ⟨e2, by omega⟩]; omega
      · split <;> omega
    · rw [if_neg e]
      split <;> omega
theorem ti_le {f : Nat → Nat} (h : ∀ m, m < w → f m ≤ F m) (c : Nat) : ∀ m, m < w → tiF F f c m ≤ F m := fun m hm => by
  have := h m hm
  unfold tiF
  split <;> omega
/-- fewer men: fresher -/
theorem ti_sub {f : Nat → Nat} (h : ∀ m, m < w → f m ≤ F m) {c c' : Nat} (hc : ∀ m, m < w → c' / 2 ^ m % 2 = 1 → c / 2 ^ m % 2 = 1) : ∀ m, m < w → tiF F f c m ≤ tiF F f c' m := fun m hm => by
  have h1 := h m hm
  have h2 := hc m hm
  unfold tiF
  by_cases e : c' / 2 ^ m % 2 = 1
  · rw [if_pos e, if_pos (h2 e)]; omega
  · rw [if_neg e]; split <;> omega
/-- digits of a number that begins with c -/
theorem dg_lo {n c y k : Nat} (hk : k < n) : dgN (c * 8 ^ n + y) k = dgN y k := by
  unfold dgN
  obtain ⟨q, rfl⟩ : ∃ q, n = k + 1 + q := ⟨n - k - 1, by omega⟩
  have e : c * 8 ^ (k + 1 + q) = 8 ^ k * (8 * (c * 8 ^ q)) := by
    rw [Nat.pow_add, Nat.pow_succ]
    rw [Nat.mul_comm (8 ^ k) 8, Nat.mul_assoc 8, ← Nat.mul_assoc c, Nat.mul_comm c 8, Nat.mul_assoc 8, ← Nat.mul_assoc (8 ^ k) 8, Nat.mul_comm (8 ^ k) 8, Nat.mul_assoc 8, ← Nat.mul_assoc c, ← Nat.mul_assoc (8 ^ k), Nat.mul_comm c (8 ^ k)]
  rw [e, Nat.mul_add_div (Nat.pow_pos (by omega)), Nat.mul_add_mod]
theorem dg_hi {n c y : Nat} (hc : c < 8) (hy : y < 8 ^ n) : dgN (c * 8 ^ n + y) n = c := by
  unfold dgN
  rw [Nat.mul_comm, Nat.mul_add_div (Nat.pow_pos (by omega)), Nat.div_eq_of_lt hy, Nat.add_zero, Nat.mod_eq_of_lt hc]
theorem vl_cons {n c y : Nat} (f : Nat → Nat) (s : Nat) (hc : c < 8) (hy : y < 8 ^ n) : vlN w nd fr F (n + 1) (c * 8 ^ n + y) f s = vlN w nd fr F n y (tiF F f c) (if s < fr ∧ nd ≤ psN w f c then s + 1 else s) := by
  rw [vlN, dg_hi hc hy]
  exact vl_cg n _ _ (fun k hk => dg_lo hk)
theorem vd_cons {n c y : Nat} (hc : c < 8) (hy : y < 8 ^ n) : vdN w (n + 1) (c * 8 ^ n + y) ↔ c < 2 ^ w ∧ vdN w n y := by
  refine ⟨fun h => ⟨?_, fun k hk => ?_⟩, fun h k hk => ?_⟩
  · have := h n (by omega); rwa [dg_hi hc hy] at this
  · have := h k (by omega); rwa [dg_lo hk] at this
  · by_cases e : k = n
    · rw [e, dg_hi hc hy]; exact h.1
    · rw [dg_lo (by omega)]; exact h.2 k (by omega)
theorem of_cons {n j : Nat} (hj : j < 8 ^ (n + 1)) : ∃ c y, c < 8 ∧ y < 8 ^ n ∧ j = c * 8 ^ n + y := by
  have hp : 0 < 8 ^ n := Nat.pow_pos (by omega)
  refine ⟨j / 8 ^ n, j % 8 ^ n, ?_, Nat.mod_lt _ hp, ?_⟩
  · rw [Nat.pow_succ] at hj
    exact Nat.div_lt_of_lt_mul hj
  · rw [Nat.mul_comm]; exact (Nat.div_add_mod _ _).symm
/-- the least number of those that come highest -/
def laP (w nd fr : Nat) (F : Nat → Nat) (n : Nat) (f : Nat → Nat) (s b v : Nat) : Prop := b < 8 ^ n ∧ vdN w n b ∧ vlN w nd fr F n b f s = v ∧ ∀ j, j < 8 ^ n → vdN w n j → vlN w nd fr F n j f s ≤ v ∧ (j < b → vlN w nd fr F n j f s < v)
theorem la_uniq {n : Nat} {f : Nat → Nat} {s b v b' v' : Nat} (h : laP w nd fr F n f s b v) (h' : laP w nd fr F n f s b' v') : b = b' ∧ v = v' := by
  obtain ⟨h1, h2, h3, h4⟩ := h
  obtain ⟨g1, g2, g3, g4⟩ := h'
  have a1 := h4 b' g1 g2
  have a2 := g4 b h1 h2
  have ev : v = v' := by omega
  refine ⟨?_, ev⟩
  rcases Nat.lt_trichotomy b b' with e | e | e
  · have := a2.2 e; omega
  · exact e
  · have := a1.2 e; omega
end CLM
