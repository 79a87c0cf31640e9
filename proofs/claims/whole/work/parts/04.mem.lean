/-! ===== the classes' own rows ===== -/
theorem in_0 : ∀ w ∈ u_ws RX0 TX0 7, w ∈ tb := by decide +kernel
theorem in_1 : ∀ w ∈ u_ws RX1 TX1 15, w ∈ tb := by decide +kernel
theorem in_2 : ∀ w ∈ u_ws RX2 TX2 8, w ∈ tb := by decide +kernel
theorem in_3 : ∀ w ∈ u_ws RX3 TX3 7, w ∈ tb := by decide +kernel
theorem in_4 : ∀ w ∈ u_ws RX4 TX4 16, w ∈ tb := by decide +kernel
theorem in_5 : ∀ w ∈ u_ws RX5 TX5 33, w ∈ tb := by decide +kernel
def tyA (ci : Nat) : Nat → FieldType := match ci with
  | 0 => tyX0 | 1 => tyX1 | 2 => tyX2 | 3 => tyX3 | 4 => tyX4 | _ => tyX5
theorem cls_6 {ci : Nat} {q : vw_C} (h : vwCl[ci]? = some q) : ci < 6 := by
  have := (List.getElem?_eq_some_iff.mp h).1
  simpa [vwCl] using this
theorem cls_all {P : Nat → vw_C → Prop} (h0 : P 0 (RX0, TX0, 7)) (h1 : P 1 (RX1, TX1, 15)) (h2 : P 2 (RX2, TX2, 8)) (h3 : P 3 (RX3, TX3, 7)) (h4 : P 4 (RX4, TX4, 16)) (h5 : P 5 (RX5, TX5, 33)) : ∀ (ci : Nat) (q : vw_C), vwCl[ci]? = some q → P ci q := by
  intro ci q h
  match ci, h with
  | 0, h => cases h; exact h0
  | 1, h => cases h; exact h1
  | 2, h => cases h; exact h2
  | 3, h => cases h; exact h3
  | 4, h => cases h; exact h4
  | 5, h => cases h; exact h5
  | k + 6, h => exact absurd (cls_6 h) (by omega)
theorem cls_in : ∀ (ci : Nat) (q : vw_C), vwCl[ci]? = some q → ∀ w ∈ u_ws q.1 q.2.1 q.2.2, w ∈ tb := cls_all in_0 in_1 in_2 in_3 in_4 in_5
theorem cls_ty : ∀ (ci : Nat) (q : vw_C), vwCl[ci]? = some q → ∀ k, k < q.2.2 → parseFieldDescriptor (q.2.1 k).2.2.1 = some (tyA ci k) := cls_all tyX0_ok tyX1_ok tyX2_ok tyX3_ok tyX4_ok tyX5_ok
theorem cls_nm : ∀ (ci : Nat) (q : vw_C), vwCl[ci]? = some q → ∀ a, a < q.2.2 → ∀ b, b < q.2.2 → a ≠ b → (q.2.1 a).2.1 ≠ (q.2.1 b).2.1 := cls_all nmX0 nmX1 nmX2 nmX3 nmX4 nmX5
theorem sh_obj : ∀ x ∈ shL, x.1 < 6 → (vwCl[x.1]?).map (fun q => q.2.2) = some x.2 := by decide +kernel
theorem sh_mem {c : Nat} {x : Nat × Nat} (h : shp c = x) (hx : x.1 ≠ 99) : x ∈ shL := by
  unfold shp at h
  rw [List.getD_eq_getElem?_getD] at h
  cases hc : shL[c]? with
  | none => rw [hc] at h; subst h; exact absurd rfl hx
  | some y =>
    rw [hc] at h
    subst h
    exact List.mem_of_getElem? hc
theorem sh_size {c ci z : Nat} {q : vw_C} (h : shp c = (ci, z)) (h6 : ci < 6) (hq : vwCl[ci]? = some q) : q.2.2 = z := by
  have := sh_obj _ (sh_mem h (by show ci ≠ 99; omega)) h6
  simp only at this
  rw [hq] at this
  exact Option.some.inj this
theorem cel_obj {K : Pk} {I : MI} {G : MG} {J : MJ} {c ci z : Nat} (h : shp c = (ci, z)) (h6 : ci < 6) : celE K I G J c = .inr (ci, (List.range z).map (fval K.1 I G J ci c)) := by
  unfold celE
  rw [h, if_pos h6]
theorem cel_int {K : Pk} {I : MI} {G : MG} {J : MJ} {c ci z : Nat} (h : shp c = (ci, z)) (h6 : 6 ≤ ci) (h9 : ci < 9) : celE K I G J c = .inl (K.2.1 (ci - 6), z, .inl (I c)) := by
  unfold celE
  rw [h, if_neg (Nat.not_lt.mpr h6), if_pos h9]
theorem cel_ref {K : Pk} {I : MI} {G : MG} {J : MJ} {c ci z : Nat} (h : shp c = (ci, z)) (h9 : 9 ≤ ci) : celE K I G J c = .inl (K.2.1 (ci - 6), z, .inr (.inr (.inr (.inr (fun i => (G c i).map K.1))))) := by
  unfold celE
  rw [h]
  dsimp only
  rw [if_neg (show ¬ ci < 6 by omega), if_neg (show ¬ ci < 9 by omega)]
/-- the field behind a constant of a class: class and place -/
def FL (own : String) (ix ci k : Nat) : Prop := ∃ q : vw_C, vwCl[ci]? = some q ∧ k < q.2.2 ∧ Cond.fieldLink own ix q.1 (q.2.1 k).2.1 (q.2.1 k).2.2.1 ∈ tb ∧ (q.2.1 k).1 = q.1
theorem Iw_set {K : Pk} {n c : Nat} {I I' : MI} {G G' : MG} {J J' : MJ} {H H1 : Heap} (hI : Iw K n I G J H) (had : Had K) (hc : c < n) (z : H1.size = H.size) (oq : ∀ q : Nat, q ≠ K.1 c → H1[q]? = H[q]?) (he : va_at K.2.2.1 vwCl (K.1 c, celE K I' G' J' c) H1) (h1 : ∀ x, x ≠ c → I' x = I x) (h2 : ∀ x, x ≠ c → G' x = G x) (h3 : ∀ x, x ≠ c → J' x = J x) : Iw K n I' G' J' H1 := by
  refine ⟨?_, z.trans hI.2.1, hI.2.2⟩
  rw [← wsO_set hc h1 h2 h3]
  exact hI.1.set (wsO_D had hI.2.2) (wsO_at hc) he oq
theorem Iw_A {K : Pk} {n c : Nat} {I : MI} {G : MG} {J : MJ} {H : Heap} (hI : Iw K n I G J H) (had : Had K) (hc : c < n) : Aw K (K.1 c) := by
  unfold Aw
  rw [had c (by have := hI.2.2; omega)]
  omega
theorem fv_set {ad : Nat → Nat} {I I' : MI} {G G' : MG} {J J' : MJ} {ci c k z : Nat} {v : Value} (hk : k < z) (hv : fval ad I' G' J' ci c k = v) (hne : ∀ j, j ≠ k → fval ad I' G' J' ci c j = fval ad I G J ci c j) : (List.range z).map (fval ad I' G' J' ci c) = ((List.range z).map (fval ad I G J ci c)).set k v := by
  apply List.ext_getElem?
  intro j
  by_cases hj : j = k
  · subst hj
    rw [List.getElem?_set_self (by simp [hk])]
    simp [hk, hv]
  · rw [List.getElem?_set_ne (Ne.symm hj)]
    simp only [List.getElem?_map]
    by_cases hz : j < z
    · rw [List.getElem?_range hz]
      simp [hne j hj]
    · rw [List.getElem?_eq_none (by simp; omega)]
      rfl
section MEM
variable {d : Nat} {M : Mt} {n0 pc : Nat} {ls : List (Option Value)} {st : List Value} {n : Nat} {I : MI} {G : MG} {J : MJ} {Φ : Ph}
theorem E_getv {ix : Nat} (ci k c z : Nat) {v : Value} (hd : decode M.2.1 pc = .ok (.getfield ix, 3)) (hf : FL M.1.cls ix ci k) (hs : shn n c = (ci, z)) (hv : ∀ ad : Nat → Nat, fval ad I G J ci c k = cvv ad v) (kk : Ev d M n0 (pc + 3) ls (v :: st) n I G J Φ) : Ev d M n0 pc ls (.ref c :: st) n I G J Φ := by
  intro K B p l e R s m args below meth cd H locs Q a hC hR h0 hI hO hS hL hQ
  obtain ⟨q, hq, hk, hw, hdc⟩ := hf
  have h6 := cls_6 hq
  obtain ⟨hcn, hsh⟩ := shn_lt hs (by omega)
  have hz := sh_size hsh h6 hq
  refine va_get (C := q.1) (T := q.2.1) (N := q.2.2) hC.1.1 hC.1.2.1 hC.1.2.2.2.2 (cls_in ci q hq) hC.1.2.2.2.1 hC.2.2.2.2.1 hI.1 c ((wsO_at hcn).trans (by rw [cel_obj hsh h6])) hq k hk (hC.1.2.2.2.2 _ hw) (fun x h => by rw [← hdc]; exact h) (v := cvv K.1 v) (by simp [← hz, hk, hv]) hd ?_
  exact kk K B p l e R s m args below meth cd H locs Q a hC hR h0 hI hO hS hL hQ
theorem E_geti {ix : Nat} (ci k c z : Nat) (hd : decode M.2.1 pc = .ok (.getfield ix, 3)) (hf : FL M.1.cls ix ci k) (hk : fkd ci k = 0) (hs : shn n c = (ci, z)) (kk : Ev d M n0 (pc + 3) ls (.int (I c k) :: st) n I G J Φ) : Ev d M n0 pc ls (.ref c :: st) n I G J Φ :=
  E_getv ci k c z hd hf hs (fun ad => by simp [fval, hk, cvv]) kk
theorem E_getl {ix : Nat} (ci k c z : Nat) (hd : decode M.2.1 pc = .ok (.getfield ix, 3)) (hf : FL M.1.cls ix ci k) (hk : fkd ci k = 2) (hs : shn n c = (ci, z)) (kk : Ev d M n0 (pc + 3) ls (.long (J c k) :: st) n I G J Φ) : Ev d M n0 pc ls (.ref c :: st) n I G J Φ :=
  E_getv ci k c z hd hf hs (fun ad => by simp [fval, hk, cvv]) kk
theorem E_getr {ix : Nat} (ci k c z r : Nat) (hd : decode M.2.1 pc = .ok (.getfield ix, 3)) (hf : FL M.1.cls ix ci k) (hk : fkd ci k = 1) (hs : shn n c = (ci, z)) (hr : G c k = some r) (kk : Ev d M n0 (pc + 3) ls (.ref r :: st) n I G J Φ) : Ev d M n0 pc ls (.ref c :: st) n I G J Φ :=
  E_getv ci k c z hd hf hs (fun ad => by simp [fval, hk, cvv, hr, va_rf]) kk
/-- a put into a field, final or not -/
theorem E_putv {ix : Nat} (ci k c z : Nat) {v : Value} {I' : MI} {G' : MG} {J' : MJ} (hd : decode M.2.1 pc = .ok (.putfield ix, 3)) (hf : FL M.1.cls ix ci k) (hs : shn n c = (ci, z))
    (hfin : (∃ q, vwCl[ci]? = some q ∧ (q.2.1 k).2.2.2 = false) ∨ (∃ q, vwCl[ci]? = some q ∧ (q.2.1 k).2.2.2 = true ∧ q.1 = M.1.cls ∧ M.1.name = "<init>"))
    (hn : narrow (tyA ci k) v = v) (hft : ∀ ad : Nat → Nat, fits (tyA ci k) (cvv ad v) = true ∧ narrow (tyA ci k) (cvv ad v) = cvv ad v) (hv : ∀ ad : Nat → Nat, fval ad I' G' J' ci c k = cvv ad v) (hne : ∀ (ad : Nat → Nat) (j : Nat), j ≠ k → fval ad I' G' J' ci c j = fval ad I G J ci c j)
    (h1 : ∀ x, x ≠ c → I' x = I x) (h2 : ∀ x, x ≠ c → G' x = G x) (h3 : ∀ x, x ≠ c → J' x = J x) (kk : Ev d M n0 (pc + 3) ls st n I' G' J' Φ) : Ev d M n0 pc ls (v :: .ref c :: st) n I G J Φ := by
  intro K B p l e R s m args below meth cd H locs Q a hC hR h0 hI hO hS hL hQ
  have had := hC.2.2.2.2.2.2
  obtain ⟨q, hq, hk, hw, hdc⟩ := hf
  have h6 := cls_6 hq
  obtain ⟨hcn, hsh⟩ := shn_lt hs (by omega)
  have hz := sh_size hsh h6 hq
  have hts := hC.1.2.2.2.2
  have hown := hC.1.2.2.2.1
  have hin := cls_in ci q hq
  have hap := va_apart (own := M.1.cls) hts hin (tyA ci) (cls_ty ci q hq) (cls_nm ci q hq) hC.2.2.2.2.1 hq
  have he : (wsO K n I G J)[c]? = some (K.1 c, .inr (ci, (List.range z).map (fval K.1 I G J ci c))) := (wsO_at hcn).trans (by rw [cel_obj hsh h6])
  obtain ⟨r, hr1, cell, q1, q2, q3, q4⟩ := hI.1 c _ he
  have hr : r = q := Option.some.inj (hr1.symm.trans hq)
  subst hr
  obtain ⟨hSl, hfc, kC, hkC, hkind⟩ := hC.2.2.2.2.1.1 ci _ hq
  obtain ⟨cf, kf, fi, f, hi, hsl⟩ := hSl k hk
  have hlay := hts _ (hin _ (u_in_lay hk))
  unfold u_lay at hlay
  have hst := (u_facts hfc hkC (u_lays hts hin hk) hi).1
  have hdt := cls_ty ci r hq k hk
  have hc1000 : c < 1000 := by have := hI.2.2; omega
  have fin : ∀ H1 : Heap, H1[K.1 c]? = some (cell.setSlot f.slot (cvv K.1 v)) → H1.size = H.size → (∀ x : Nat, x ≠ K.1 c → H1[x]? = H[x]?) → W p l e R s m args below meth cd H1 (locs ++ [⟨K.1 c, f.slot⟩]) (n - n0) (pre n - pre n0) Q (F0 m (pc + 3) a (st.map (cvv K.1))) := by
    intro H1 e1 e2 e3
    rw [hsl] at e1 ⊢
    refine kk K B p l e R s m args below meth cd H1 _ Q a hC hR h0 (Iw_set hI had hcn e2 e3 ?_ h1 h2 h3) (hO.mem (fun x hx => h1 x (by omega)) (fun x hx => h2 x (by omega))) (hS.put e2 e3 (Iw_A hI had hcn)) hL hQ
    rw [cel_obj hsh h6, fv_set (by omega) (hv K.1) (hne K.1)]
    exact ⟨_, hq, t_OB.to (V := updV (vp_V _) k (cvv K.1 v)) ⟨_, e1, q2, q3, t_set q4 hap hk _⟩ (fun j _ => vp_updV_set (by simp; omega) _ j)⟩
  rcases hfin with ⟨q', hq', hf'⟩ | ⟨q', hq', hf', hcl, hnm⟩
  · cases hq.symm.trans hq'
    rw [if_neg (by rw [hf']; decide)] at hlay
    have h6' := u_store hfc hkC hkind hlay hi hdt (hft K.1).2 (hft K.1).1
    exact W.putK hC.1.1 hC.1.2.1 (f := f) ⟨hown, hts _ hw, ⟨_, _, _, by rw [← hdc]; exact hi⟩, hst⟩ (by rw [q2]; exact h6') q1 q3 (by rw [hsl]; exact k2_hasslot (q4 k hk)) rfl rfl hd fin
  · cases hq.symm.trans hq'
    rw [if_pos hf'] at hlay
    have hcf : m.cls = cf := by
      obtain ⟨_, _, c', _, _, _, -, -, hf2, -, -, -, hown2, -⟩ := Cond.laysFinal_spec hlay
      have e1 : c' = cf := by have := hi.symm.trans hf2; simp at this; exact this.1.symm
      rw [hdc, hcl] at hown2
      rw [← e1]; exact Option.some.inj (hown.symm.trans hown2)
    have h6' := u_fits hfc hkC hkind (Or.inr hlay) hi hdt (hft K.1).2 (hft K.1).1
    exact W.putFinK hC.1.1 hC.1.2.1 hown (hts _ hw) (by rw [← hdc]; exact hi) hst hcf (by rw [hC.2.2.2.1, hnm]) (by rw [q2]; exact h6') q1 q3 (by rw [hsl]; exact k2_hasslot (q4 k hk)) rfl rfl hd fin
theorem E_puti {ix : Nat} (ci k c z : Nat) {x : Int32} (hd : decode M.2.1 pc = .ok (.putfield ix, 3)) (hf : FL M.1.cls ix ci k) (hk : fkd ci k = 0) (hs : shn n c = (ci, z)) (hfin : ∃ q, vwCl[ci]? = some q ∧ (q.2.1 k).2.2.2 = false) (hn : narrow (tyA ci k) (.int x) = .int x) (hft : fits (tyA ci k) (.int x) = true) (kk : Ev d M n0 (pc + 3) ls st n (u2 I c k x) G J Φ) : Ev d M n0 pc ls (.int x :: .ref c :: st) n I G J Φ :=
  E_putv ci k c z hd hf hs (Or.inl hfin) hn (fun ad => ⟨hft, hn⟩) (fun ad => by simp [fval, hk, cvv, u2]) (fun ad j hj => by simp [fval, u2, hj]) (fun x hx => u2_row _ _ _ hx) (fun _ _ => rfl) (fun _ _ => rfl) kk
theorem E_putl {ix : Nat} (ci k c z : Nat) {x : Int64} (hd : decode M.2.1 pc = .ok (.putfield ix, 3)) (hf : FL M.1.cls ix ci k) (hk : fkd ci k = 2) (hs : shn n c = (ci, z)) (hfin : ∃ q, vwCl[ci]? = some q ∧ (q.2.1 k).2.2.2 = false) (hn : narrow (tyA ci k) (.long x) = .long x) (hft : fits (tyA ci k) (.long x) = true) (kk : Ev d M n0 (pc + 3) ls st n I G (u2 J c k x) Φ) : Ev d M n0 pc ls (.long x :: .ref c :: st) n I G J Φ :=
  E_putv ci k c z hd hf hs (Or.inl hfin) hn (fun ad => ⟨hft, hn⟩) (fun ad => by simp [fval, hk, cvv, u2]) (fun ad j hj => by simp [fval, u2, hj]) (fun _ _ => rfl) (fun _ _ => rfl) (fun x hx => u2_row _ _ _ hx) kk
theorem E_putr {ix : Nat} (ci k c z r : Nat) (hd : decode M.2.1 pc = .ok (.putfield ix, 3)) (hf : FL M.1.cls ix ci k) (hk : fkd ci k = 1) (hs : shn n c = (ci, z)) (hfin : (∃ q, vwCl[ci]? = some q ∧ (q.2.1 k).2.2.2 = false) ∨ (∃ q, vwCl[ci]? = some q ∧ (q.2.1 k).2.2.2 = true ∧ q.1 = M.1.cls ∧ M.1.name = "<init>")) (hn : ∀ r, narrow (tyA ci k) (.ref r) = .ref r) (hft : ∀ r, fits (tyA ci k) (.ref r) = true) (kk : Ev d M n0 (pc + 3) ls st n I (u2 G c k (some r)) J Φ) : Ev d M n0 pc ls (.ref r :: .ref c :: st) n I G J Φ :=
  E_putv ci k c z hd hf hs hfin (hn r) (fun ad => ⟨hft (ad r), hn (ad r)⟩) (fun ad => by simp [fval, hk, cvv, u2, va_rf]) (fun ad j hj => by simp [fval, u2, hj]) (fun _ _ => rfl) (fun x hx => u2_row _ _ _ hx) (fun _ _ => rfl) kk
end MEM
