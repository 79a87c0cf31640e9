/-! ===== shorter forms ===== -/
theorem vpd {i : Int32} {n : Nat} (h : decide (¬ (i < 0 ∨ n ≤ i.toNatClampNeg)) = true) : vp_in i n := by unfold vp_in; exact of_decide_eq_true h
section CONV
variable {d : Nat} {M : Mt} {n0 pc : Nat} {ls : List (Option Value)} {st : List Value} {n : Nat} {I : MI} {G : MG} {J : MJ} {Φ : Ph}
theorem E_max {ix : Nat} {x y : Int32} (hd : decode M.2.1 pc = .ok (.invokestatic ix, 3)) (hw : Cond.methodLink M.1.cls ix Lib.Math.max.name ∈ tb ∧ Cond.static Lib.Math.max.name ∈ tb ∧ Cond.initialized "java/lang/Math" ∈ tb ∧ Cond.code Lib.Math.max.name Lib.Math.max.code 2 (some .int) ∈ tb) (hcat : (st.map fun v => v.category).sum ≤ 8) (k : Ev (d + 1) M n (pc + 3) ls (.int (if x < y then y else x) :: st) n I G J Φ) : Ev (d + 1) M n pc ls (.int y :: .int x :: st) n I G J Φ := by
  intro K B p l e R s m args below meth c H locs Q a hC hR h0 hI hO hS hL hQ
  have hts := hC.1.2.2.2.2
  have hlo : 64 ≤ R.locals := by have := hR.2.1; omega
  exact va_mmax (rest := st.map (cvv K.1)) hC.1.1 hC.1.2.1 (by obtain ⟨lx, h1, -⟩ := hL; exact hC.1.2.2.1.trans h1.1.symm) hC.1.2.2.2.1 (hts _ hw.1) (hts _ hw.2.1) (hts _ hw.2.2.1) (hts _ hw.2.2.2) (by have := hR.1; omega) (by rw [cat_cvv]; omega) (by omega) (by omega) hd (k K B p l e R s m args below meth c H locs Q a hC hR h0 hI hO hS hL hQ)
theorem E_min {ix : Nat} {x y : Int32} (hd : decode M.2.1 pc = .ok (.invokestatic ix, 3)) (hw : Cond.methodLink M.1.cls ix Lib.Math.min.name ∈ tb ∧ Cond.static Lib.Math.min.name ∈ tb ∧ Cond.initialized "java/lang/Math" ∈ tb ∧ Cond.code Lib.Math.min.name Lib.Math.min.code 2 (some .int) ∈ tb) (hcat : (st.map fun v => v.category).sum ≤ 8) (k : Ev (d + 1) M n (pc + 3) ls (.int (if y < x then y else x) :: st) n I G J Φ) : Ev (d + 1) M n pc ls (.int y :: .int x :: st) n I G J Φ := by
  intro K B p l e R s m args below meth c H locs Q a hC hR h0 hI hO hS hL hQ
  have hts := hC.1.2.2.2.2
  have hlo : 64 ≤ R.locals := by have := hR.2.1; omega
  exact va_mmin (rest := st.map (cvv K.1)) hC.1.1 hC.1.2.1 (by obtain ⟨lx, h1, -⟩ := hL; exact hC.1.2.2.1.trans h1.1.symm) hC.1.2.2.2.1 (hts _ hw.1) (hts _ hw.2.1) (hts _ hw.2.2.1) (hts _ hw.2.2.2) (by have := hR.1; omega) (by rw [cat_cvv]; omega) (by omega) (by omega) hd (k K B p l e R s m args below meth c H locs Q a hC hR h0 hI hO hS hL hQ)
/-- calls that make nothing -/
theorem E_cv {ix : Nat} (M2 : Mt) (w ci z : Nat) {b : Nat} {As : List Value} {Ψ : Ph} (hd : decode M.2.1 pc = .ok (.invokevirtual ix, 3)) (hw : LkV M.1.cls ix M2 w) (hci : ∃ q, vwCl[ci]? = some q ∧ q.1 = M2.1.cls) (hs : shn n b = (ci, z)) (hA : As.length = w) (hcat : (st.map fun v => v.category).sum ≤ 8) (hz : M2.2.2.2.2.1 = 0 ∧ M2.2.2.2.2.2 = 0) (hlen : (ent (.ref b :: As)).length ≤ M2.2.2.1) {stk : List Value} (hst : stk = As.reverse ++ .ref b :: st)
    (h : Ev d M2 n 0 (entN M2.2.2.1 (.ref b :: As)) [] n I G J Ψ) (hk : ∀ r n1 I1 G1 J1, Ψ r n1 I1 G1 J1 → Ev (d + 1) M n (pc + 3) ls (r.toList ++ st) n1 I1 G1 J1 Φ) : Ev (d + 1) M n pc ls stk n I G J Φ :=
  E_invv M2 w ci z hd hw hci hs hA hcat (Nat.le_refl _) (Nat.le_refl _) (by rw [hz.1]; omega) (by rw [hz.2]; omega) hlen h hk hst
theorem E_cs {ix : Nat} (M2 : Mt) (w : Nat) {As : List Value} {Ψ : Ph} (hd : decode M.2.1 pc = .ok (.invokestatic ix, 3)) (hw : LkS M.1.cls ix M2 w) (hA : As.length = w) (hcat : (st.map fun v => v.category).sum ≤ 8) (hz : M2.2.2.2.2.1 = 0 ∧ M2.2.2.2.2.2 = 0) (hlen : (ent As).length ≤ M2.2.2.1) {stk : List Value} (hst : stk = As.reverse ++ st)
    (h : Ev d M2 n 0 (entN M2.2.2.1 As) [] n I G J Ψ) (hk : ∀ r n1 I1 G1 J1, Ψ r n1 I1 G1 J1 → Ev (d + 1) M n (pc + 3) ls (r.toList ++ st) n1 I1 G1 J1 Φ) : Ev (d + 1) M n pc ls stk n I G J Φ :=
  E_invs M2 w hd hw hA hcat (Nat.le_refl _) (Nat.le_refl _) (by rw [hz.1]; omega) (by rw [hz.2]; omega) hlen h hk hst
/-- indices by their numbers -/
theorem E_ia {i : Int32} (c z j : Nat) (hd : decode M.2.1 pc = .ok (.iaload, 1)) (hs : shn n c = (6, z)) (hin : vp_in i z) (hj : i.toNatClampNeg = j) (k : Ev d M n0 (pc + 1) ls (.int (I c j) :: st) n I G J Φ) : Ev d M n0 pc ls (.int i :: .ref c :: st) n I G J Φ := by
  subst hj
  exact E_iald c z hd hs hin k
theorem E_ca {i : Int32} (c z j : Nat) (hd : decode M.2.1 pc = .ok (.caload, 1)) (hs : shn n c = (7, z)) (hin : vp_in i z) (hj : i.toNatClampNeg = j) (k : Ev d M n0 (pc + 1) ls (.int (I c j) :: st) n I G J Φ) : Ev d M n0 pc ls (.int i :: .ref c :: st) n I G J Φ := by
  subst hj
  exact E_cald c z hd hs hin k
theorem E_za {i : Int32} (c z j : Nat) (hd : decode M.2.1 pc = .ok (.baload, 1)) (hs : shn n c = (8, z)) (hin : vp_in i z) (hj : i.toNatClampNeg = j) (k : Ev d M n0 (pc + 1) ls (.int (I c j) :: st) n I G J Φ) : Ev d M n0 pc ls (.int i :: .ref c :: st) n I G J Φ := by
  subst hj
  exact E_zald c z hd hs hin k
theorem E_is {i x : Int32} (c z j : Nat) (hd : decode M.2.1 pc = .ok (.iastore, 1)) (hs : shn n c = (6, z)) (hin : vp_in i z) (hj : i.toNatClampNeg = j) (k : Ev d M n0 (pc + 1) ls st n (u2 I c j x) G J Φ) : Ev d M n0 pc ls (.int x :: .int i :: .ref c :: st) n I G J Φ := by
  subst hj
  exact E_iast c z hd hs hin k
theorem E_cs1 {i x : Int32} (c z j : Nat) (y : Int32) (hd : decode M.2.1 pc = .ok (.castore, 1)) (hs : shn n c = (7, z)) (hin : vp_in i z) (hj : i.toNatClampNeg = j) (hx : narrow .char (.int x) = .int y) (k : Ev d M n0 (pc + 1) ls st n (u2 I c j y) G J Φ) : Ev d M n0 pc ls (.int x :: .int i :: .ref c :: st) n I G J Φ := by
  subst hj
  exact E_cast c z hd hs hin hx k
theorem E_zs {i x : Int32} (c z j : Nat) (y : Int32) (hd : decode M.2.1 pc = .ok (.bastore, 1)) (hs : shn n c = (8, z)) (hin : vp_in i z) (hj : i.toNatClampNeg = j) (hx : narrow .boolean (.int x) = .int y) (k : Ev d M n0 (pc + 1) ls st n (u2 I c j y) G J Φ) : Ev d M n0 pc ls (.int x :: .int i :: .ref c :: st) n I G J Φ := by
  subst hj
  exact E_zast c z hd hs hin hx k
theorem E_aa {i : Int32} (c z j r : Nat) (hd : decode M.2.1 pc = .ok (.aaload, 1)) (hs : shn n c = (9, z)) (hin : vp_in i z) (hj : i.toNatClampNeg = j) (hr : G c j = some r) (k : Ev d M n0 (pc + 1) ls (.ref r :: st) n I G J Φ) : Ev d M n0 pc ls (.int i :: .ref c :: st) n I G J Φ := by
  subst hj
  exact E_aald c z r hd hs hin hr k
theorem E_ag {i : Int32} (c z j r : Nat) (hd : decode M.2.1 pc = .ok (.aaload, 1)) (hs : shn n c = (10, z)) (hin : vp_in i z) (hj : i.toNatClampNeg = j) (hr : G c j = some r) (k : Ev d M n0 (pc + 1) ls (.ref r :: st) n I G J Φ) : Ev d M n0 pc ls (.int i :: .ref c :: st) n I G J Φ := by
  subst hj
  exact E_aald2 c z r hd hs hin hr k
theorem E_as {i : Int32} (c z j r zr : Nat) (hd : decode M.2.1 pc = .ok (.aastore, 1)) (hs : shn n c = (9, z)) (hr : shn n r = (2, zr)) (hin : vp_in i z) (hj : i.toNatClampNeg = j) (k : Ev d M n0 (pc + 1) ls st n I (u2 G c j (some r)) J Φ) : Ev d M n0 pc ls (.ref r :: .int i :: .ref c :: st) n I G J Φ := by
  subst hj
  exact E_aast c z r zr hd hs hr hin k
theorem E_ou {i : Int32} (c j : Nat) (hd : decode M.2.1 pc = .ok (.iaload, 1)) (h1 : 1000 ≤ c) (h2 : c < 1005) (hin : vp_in i (oul G c)) (hj : i.toNatClampNeg = j) (k : Ev d M n0 (pc + 1) ls (.int (I c j) :: st) n I G J Φ) : Ev d M n0 pc ls (.int i :: .ref c :: st) n I G J Φ := by
  subst hj
  exact E_ould c hd h1 h2 hin k
/-- returns of methods that make nothing -/
theorem E_ri {v : Int32} (hd : decode M.2.1 pc = .ok (.ireturn, 1)) (hr : M.2.2.2.1 = some .int) (hz : M.2.2.2.2.1 = 0 ∧ M.2.2.2.2.2 = 0) (k : Φ (some (.int v)) n I G J) : Ev d M n pc ls [.int v] n I G J Φ := E_iret hd (Or.inl hr) (by rw [hz.1]; rfl) (by rw [hz.2]; rfl) k
theorem E_rz {v : Int32} (hd : decode M.2.1 pc = .ok (.ireturn, 1)) (hr : M.2.2.2.1 = some .boolean) (hv : narrow .boolean (.int v) = .int v) (hz : M.2.2.2.2.1 = 0 ∧ M.2.2.2.2.2 = 0) (k : Φ (some (.int v)) n I G J) : Ev d M n pc ls [.int v] n I G J Φ := E_iret hd (Or.inr ⟨hr, hv⟩) (by rw [hz.1]; rfl) (by rw [hz.2]; rfl) k
theorem E_rl {v : Int64} (hd : decode M.2.1 pc = .ok (.lreturn, 1)) (hr : M.2.2.2.1 = some .long) (hz : M.2.2.2.2.1 = 0 ∧ M.2.2.2.2.2 = 0) (k : Φ (some (.long v)) n I G J) : Ev d M n pc ls [.long v] n I G J Φ := E_lret hd hr (by rw [hz.1]; rfl) (by rw [hz.2]; rfl) k
theorem E_rv (hd : decode M.2.1 pc = .ok (.return_, 1)) (hr : M.2.2.2.1 = none) (hz : M.2.2.2.2.1 = 0 ∧ M.2.2.2.2.2 = 0) (k : Φ none n I G J) : Ev d M n pc ls [] n I G J Φ := E_vret hd hr (by rw [hz.1]; rfl) (by rw [hz.2]; rfl) k
end CONV
