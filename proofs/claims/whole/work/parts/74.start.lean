def R_law : String := "DuskStonesLaw"
def lw_P (b : Addr) (xs : List Int32) (args : Array Value) (s : State) : Prop := args = #[.ref b] ∧ s.IntsAt b xs ∧ xs.length ≤ 320 ∧ (Jvm.Cond.and given_1 narrow_1).before args s = true
def lw_Q (_ : Array Value) (s : State) (o : Outcome) (t : State) : Prop := o = .returned (some (.int 1)) ∧ Framed s o t [] 600000 7302250
def lw_Z (below : List Frame) (a : Array Value) (s : State) : State → Prop := fun t => ∃ o, t.status = .running ∧ Ended t below o ∧ lw_Q a s o t
/-- the law's own end, with 1 on the stack, nothing written that was there before, its room as the claim has it -/
theorem lw_ret {p : Program} {l : Launch} {e : Env} {s : State} {m : MethodId} {below : List Frame} {meth : Method} {c : Code} {b : Nat} (hx : p.tables.exec = Jvm.exec) (hb : c.code = code) (hr : meth.sig.returnType = ret) (hlocks : meth.locks = false) {pc : Nat} {H : Heap} {ls : Array Slot} (hdg : decode code pc = .ok (.ireturn, 1)) : W p l e room_1 s m #[Value.ref b] below meth c H [] 600000 7302250 (lw_Z below #[Value.ref b] s) (F0 m pc ls [.int 1]) := by
  intro T hT X
  obtain ⟨fs, hret, hrun, hended, hW, hframe⟩ := X.leave (v := some (.int 1)) (hlocks := hlocks) (fun h => by rw [hr] at h; cases h)
  have hmeth' : T.vm.method? m = some meth := X.method'
  refine ⟨T.setFrames fs, ?_, .returned (some (.int 1)), hrun, hended, rfl, ⟨_, rfl⟩, hW, hframe⟩
  jvm_step X.here [X.here.top, hx, hb, hdg, hmeth', hr, ret, narrow_b1]
  (try refine ⟨rfl, ?_⟩); (try refine ⟨rfl, ?_⟩)
  first | (intro acts; rw [hret _ acts rfl rfl rfl]) | rw [hret _ _ rfl rfl rfl]
  exact Steps.refl _
/-- what holds at the law's entry: the machine, the code, the tables' words (any of lw_tbl by 'hts w (by decide +kernel)'), the script of L ints xs at the cell b, what the Statement gives of the start (any of its parts by flat_of_before) -/
def lw_At (p : Program) (s : State) (m : MethodId) (meth : Method) (c : Code) (b L : Nat) (xs : Nat → Int32) : Prop :=
  p.tables.exec = Jvm.exec ∧ c.code = code ∧ meth.sig.returnType = ret ∧ c.maxLocals = 4 ∧ s.vm.findClass R_law = some m.cls ∧ (∀ w ∈ lw_tbl, w.before #[Value.ref b] s = true) ∧ va_X b L xs s s.heap ∧ b < s.heap.size ∧ meth.locks = false ∧ (Jvm.Cond.and given_1 narrow_1).before #[Value.ref b] s = true ∧ meth.name = "law"
/-! ===== from the machine's state to the walk's ===== -/
theorem cls_inst : ∀ (ci : Nat) (q : vw_C), vwCl[ci]? = some q → Cond.instantiable q.1 q.2.2 ∈ lw_tbl :=
  cls_all (P := fun _ q => Cond.instantiable q.1 q.2.2 ∈ lw_tbl) (by decide +kernel) (by decide +kernel) (by decide +kernel) (by decide +kernel) (by decide +kernel) (by decide +kernel)
theorem kn_fn {s : State} {args : Array Value} (hts : ∀ w ∈ lw_tbl, w.before args s = true) : ∃ D : va_G, ∀ (ci : Nat) (q : vw_C), vwCl[ci]? = some q → u_Kn s q.1 q.2.1 q.2.2 (D.1 ci) (D.2 ci) := by
  have h : ∀ ci : Nat, ∃ y : ClassId × (Nat → Nat), ∀ q : vw_C, vwCl[ci]? = some q → u_Kn s q.1 q.2.1 q.2.2 y.1 y.2 := by
    intro ci
    cases hq : vwCl[ci]? with
    | none => exact ⟨(0, fun _ => 0), fun q h => by cases h⟩
    | some q0 =>
      obtain ⟨cC, iS, hk⟩ := u_known (ws := tb) (n := q0.2.2) (fun w hw => hts w (tb_lw hw)) (cls_in ci q0 hq) (hts _ (cls_inst ci q0 hq))
      exact ⟨(cC, iS), fun q h => by cases h; exact hk⟩
  obtain ⟨f, hf⟩ := Classical.skolem.mp h
  exact ⟨(fun c => (f c).1, fun c => (f c).2), fun ci q hq => hf ci q hq⟩
theorem ar_of {s : State} {cA : ClassId} {kA : Class} {comp : ClassId} {ty : FieldType} (hk : s.vm.classes[cA]? = some kA) (hd : kA.kind = .array comp ty) : ArrOfT s cA ty := fun _ _ => ⟨fun _ h => (by cases h), kA, hk, comp, hd⟩
def zarL (c0 c1 c2 c3 c4 : ClassId) (i : Nat) : ClassId := if i = 0 then c0 else if i = 1 then c1 else if i = 2 then c2 else if i = 3 then c3 else c4
theorem ar_all {s : State} {args : Array Value} (hts : ∀ w ∈ lw_tbl, w.before args s = true) (h3 : (Cond.arrayOver (.object RX2)).before #[] s = true) (h4 : (Cond.arrayOver (.array .int)).before #[] s = true) : ∃ ar : Nat → ClassId, ∀ (k : Nat) (q : ClassId × FieldType), ([(ar 0, .int), (ar 1, .char), (ar 2, .boolean), (ar 3, .object RX2), (ar 4, .array .int)] : List (ClassId × FieldType))[k]? = some q → ArrOfT s q.1 q.2 ∧ va_RA s q.1 q.2 := by
  obtain ⟨c0, k0, p0, a0, b0, d0⟩ := Cond.arrayClass_spec (hts _ (tb_lw ac_int))
  obtain ⟨c1, k1, p1, a1, b1, d1⟩ := Cond.arrayClass_spec (hts _ (tb_lw ac_char))
  obtain ⟨c2, k2, p2, a2, b2, d2⟩ := Cond.arrayClass_spec (hts _ (tb_lw ac_boolean))
  obtain ⟨p3, c3, k3, e3, -, b3, d3, a3⟩ := Cond.arrayOver_spec h3
  obtain ⟨p4, c4, k4, e4, -, b4, d4, a4⟩ := arrayOverA_spec h4
  refine ⟨zarL c0 c1 c2 c3 c4, fun k q hk => ?_⟩
  have hk5 : k < 5 := (List.getElem?_eq_some_iff.mp hk).1
  rcases (show k = 0 ∨ k = 1 ∨ k = 2 ∨ k = 3 ∨ k = 4 by omega) with rfl | rfl | rfl | rfl | rfl
  · cases hk; exact ⟨ar_of b0 d0, a0⟩
  · cases hk; exact ⟨ar_of b1 d1, a1⟩
  · cases hk; exact ⟨ar_of b2 d2, a2⟩
  · cases hk; exact ⟨ar_of b3 d3, ⟨k3, p3, b3, d3, e3, a3⟩⟩
  · cases hk; exact ⟨ar_of b4 d4, a4⟩
/-- a static row of ints, out of what is given at the start -/
theorem st_row {args : Array Value} {s : State} (C n : String) (N : Nat) (f : Nat → Int32) {A : Nat → Prop} (hN : N < 2 ^ 31) (hl : (Cond.laysStatic C n "[I").before args s = true) (hi : (Cond.initialized C).before args s = true) (ha : (Cond.arrayOf (.static C n "[I") .int).before args s = true) (hlen : (Cond.eq (.length (.static C n "[I")) (.int (Int32.ofNat N))).before args s = true) (hel : ∀ j : Nat, j < N → (Cond.eq (.elem (.static C n "[I") (.int (Int32.ofNat j))) (.int (f j))).before args s = true) (hA : ∀ a : Nat, a < s.heap.size → ¬ A a) : ∃ t : Nat, va_Z C n "[I" (.ref t) A s s.heap ∧ va_T .int t N (fun j => .int (f j)) A s s.heap ∧ t < s.heap.size := by
  obtain ⟨t, ht, hT⟩ := va_Tof (f := fun j => .int (f j)) hN ha (va_eqt hlen) (fun j hj => va_eqt (hel j hj)) hA
  obtain ⟨cell, h1, h2⟩ := hT
  exact ⟨t, va_Zof hl hi ht hA, ⟨cell, h1, h2⟩, (Array.getElem?_eq_some_iff.mp h1).1⟩
abbrev gvL : List Cond := flatC (Jvm.Cond.and given_1 narrow_1)
def fU1 (k : Nat) : Int32 := nI ([0, 0, 0, 1, 2, 0].getD k 0)
def fU2 (k : Nat) : Int32 := nI ([1, 10, 100, 1000, 10000, 100000].getD k 0)
def fU3 (k : Nat) : Int32 := nI ([2, 0, 0, 1].getD k 0)
def fU4 (k : Nat) : Int32 := nI ([9, 5, 511, 9].getD k 0)
theorem el_1 : ∀ j : Nat, j < 6 → Cond.eq (.elem (.static "DuskStones" "KIND_ABOVE" "[I") (.int (Int32.ofNat j))) (.int (fU1 j)) ∈ gvL := by decide +kernel
theorem el_2 : ∀ j : Nat, j < 6 → Cond.eq (.elem (.static "DuskStones" "KIND_TRACE" "[I") (.int (Int32.ofNat j))) (.int (fU2 j)) ∈ gvL := by decide +kernel
theorem el_3 : ∀ j : Nat, j < 4 → Cond.eq (.elem (.static "DuskStones$Reader" "HILL_LEAST" "[I") (.int (Int32.ofNat j))) (.int (fU3 j)) ∈ gvL := by decide +kernel
theorem el_4 : ∀ j : Nat, j < 4 → Cond.eq (.elem (.static "DuskStones$Reader" "HILL_MOST" "[I") (.int (Int32.ofNat j))) (.int (fU4 j)) ∈ gvL := by decide +kernel
def zadL (z b t1 t2 t3 t4 k : Nat) : Nat := if k < 1000 then z + k else if k = 1000 then b else if k = 1001 then t1 else if k = 1002 then t2 else if k = 1003 then t3 else t4
def zI0L (xs : Nat → Int32) : MI := fun c => if c = 1000 then xs else if c = 1001 then fU1 else if c = 1002 then fU2 else if c = 1003 then fU3 else fU4
def zgzL (c k : Nat) : Option Nat := (refT.find? (fun q => q.1 == c && q.2.1 == k)).map (fun q => q.2.2)
def zG0L (L : Nat) : MG := fun c k => if c = 1000 then some L else if c = 1001 ∨ c = 1002 then some 6 else if c = 1003 ∨ c = 1004 then some 4 else zgzL c k
theorem gz_ok : ∀ q ∈ refT, q.1 < 1000 ∧ zgzL q.1 q.2.1 = some q.2.2 := by decide +kernel
theorem G0_ok (L : Nat) : ∀ q ∈ refT, 122 ≤ q.1 → zG0L L q.1 q.2.1 = some q.2.2 := fun q hq _ => by
  obtain ⟨h1, h2⟩ := gz_ok q hq
  unfold zG0L
  rw [if_neg (by omega), if_neg (by omega), if_neg (by omega)]
  exact h2
theorem SU_0 (L : Nat) (xs : Nat → Int32) : SU (zI0L xs) (zG0L L) := ⟨⟨rfl, rfl, rfl, rfl⟩, fun _ _ => ⟨rfl, rfl⟩, fun _ _ => ⟨rfl, rfl⟩⟩
/-- from the entry, for every script of at most 320 ints, the law comes to its end with true -/
theorem whole_start {p : Program} {e : Env} {s : State} {m : MethodId} {below : List Frame} {meth : Method} {c : Code} (l : Launch) {b L : Nat} {xs : Nat → Int32} (hL : L ≤ 320) (C0 : lw_At p s m meth c b L xs) : W p l e room_1 s m #[Value.ref b] below meth c s.heap [] 0 0 (lw_Z below #[Value.ref b] s) (entryFrame m ([Value.ref b] : List Value).toArray 4) := by
  obtain ⟨hexec, hcode, hret, hml, hown, hts, hX, hbl, hlocks, hgv, hname⟩ := C0
  have hs := flat_of_before _ hgv
  have hA : ∀ a : Nat, a < s.heap.size → ¬ (s.heap.size ≤ a) := fun a h => Nat.not_le.mpr h
  obtain ⟨t1, z1, r1, l1⟩ := st_row "DuskStones" "KIND_ABOVE" 6 fU1 (A := fun q => s.heap.size ≤ q) (by decide) (hts _ (by decide +kernel)) (hts _ (by decide +kernel)) (hs _ (by decide +kernel)) (hs _ (by decide +kernel)) (fun j hj => hs _ (el_1 j hj)) hA
  obtain ⟨t2, z2, r2, l2⟩ := st_row "DuskStones" "KIND_TRACE" 6 fU2 (A := fun q => s.heap.size ≤ q) (by decide) (hts _ (by decide +kernel)) (hts _ (by decide +kernel)) (hs _ (by decide +kernel)) (hs _ (by decide +kernel)) (fun j hj => hs _ (el_2 j hj)) hA
  obtain ⟨t3, z3, r3, l3⟩ := st_row "DuskStones$Reader" "HILL_LEAST" 4 fU3 (A := fun q => s.heap.size ≤ q) (by decide) (hts _ (by decide +kernel)) (hts _ (by decide +kernel)) (hs _ (by decide +kernel)) (hs _ (by decide +kernel)) (fun j hj => hs _ (el_3 j hj)) hA
  obtain ⟨t4, z4, r4, l4⟩ := st_row "DuskStones$Reader" "HILL_MOST" 4 fU4 (A := fun q => s.heap.size ≤ q) (by decide) (hts _ (by decide +kernel)) (hts _ (by decide +kernel)) (hs _ (by decide +kernel)) (hs _ (by decide +kernel)) (fun j hj => hs _ (el_4 j hj)) hA
  have x1 : (Cond.arrayOver (.object RX2)).before #[] s = true := hts (Cond.arrayOver (.object RX2)) (by decide +kernel)
  have x2 : (Cond.arrayOver (.array .int)).before #[] s = true := hts (Cond.arrayOver (.array .int)) (by decide +kernel)
  have hXw : Xw s := ⟨hts (.methodLinkNest RX4 24 yX1_init RX4) (by decide +kernel), hts (.methodLinkNest RX4 34 yX2_init RX4) (by decide +kernel), hts (.methodLinkNest RX4 62 yX0_init RX4) (by decide +kernel), x1, x2⟩
  obtain ⟨D, hD⟩ := kn_fn hts
  obtain ⟨ar, har⟩ := ar_all hts x1 x2
  obtain ⟨K, hKd⟩ : ∃ K : Pk, K = (zadL s.heap.size b t1 t2 t3 t4, ar, D, s.heap.size) := ⟨_, rfl⟩
  have hK3 : K.2.2.2 = s.heap.size := by rw [hKd]
  have kA : ∀ k, K.1 k = zadL s.heap.size b t1 t2 t3 t4 k := fun k => by rw [hKd]
  have hAw : Aw K = fun q => s.heap.size ≤ q := by unfold Aw; rw [hK3]
  have had : Had K := fun k hk => by rw [kA, hK3]; exact if_pos hk
  have hK : va_K K.2.2.1 vwCl (tyK K) s := by rw [hKd]; exact ⟨hD, har⟩
  have hC : Cx K mL_law p s m #[Value.ref b] meth c := ⟨⟨hexec, hcode, hml, hown, fun w hw => hts w (tb_lw hw)⟩, hret, hlocks, hname, hK, hXw, had⟩
  have hR : Rk (12 + 1) mL_law room_1 := ⟨by decide +kernel, by decide +kernel, by decide +kernel, by decide +kernel⟩
  have hI : Iw K 0 (zI0L xs) (zG0L L) (fun _ _ => 0) s.heap := ⟨fun k q h => by simp [wsO] at h, by rw [hK3]; rfl, by omega⟩
  have r0 : va_T .int b L (fun j => .int (xs j)) (fun q => s.heap.size ≤ q) s s.heap := by
    obtain ⟨scr, h1, h2, h3, h4, h5⟩ := hX
    exact ⟨scr, h1, h2, h3, by omega, (by rw [h4]), h5, hA b hbl⟩
  have hO : Out K (zI0L xs, zG0L L) (zI0L xs) (zG0L L) s := by
    refine ⟨⟨fun x h1 h2 => ?_, ?_, ?_, ?_, ?_⟩, fun _ _ => ⟨rfl, rfl⟩⟩
    · rw [kA, hAw, hK3]
      rcases (show x = 1000 ∨ x = 1001 ∨ x = 1002 ∨ x = 1003 ∨ x = 1004 by omega) with rfl | rfl | rfl | rfl | rfl
      · exact ⟨r0, hbl⟩
      · exact ⟨r1, l1⟩
      · exact ⟨r2, l2⟩
      · exact ⟨r3, l3⟩
      · exact ⟨r4, l4⟩
    · rw [kA, hAw]; exact z1
    · rw [kA, hAw]; exact z2
    · rw [kA, hAw]; exact z3
    · rw [kA, hAw]; exact z4
  have hLv := Lv_ent (ad := K.1) (vs := [.ref 1000]) (N := 4) (by decide)
  have eV : ([.ref 1000] : List Value).map (cvv K.1) = [.ref b] := by
    show [Value.ref (K.1 1000)] = [.ref b]
    rw [kA]; rfl
  rw [eV] at hLv
  rw [lg_entry_eq]
  have hw := law_ev (I := zI0L xs) (G := zG0L L) (J := fun _ _ => 0) (Φ := fun r n _ _ _ => r = some (.int 1) ∧ n = 136) hL (fun _ _ _ => ⟨rfl, rfl⟩) rfl (SU_0 L xs) (G0_ok L) K (zI0L xs, zG0L L) p l e room_1 s m #[Value.ref b] below meth c s.heap [] (lw_Z below #[Value.ref b] s) _ hC hR (by rw [hK3]; rfl) hI hO va_S.rf hLv ?_
  · rw [Nat.sub_self, Nat.sub_self] at hw
    exact hw
  · intro r n1 I1 G1 J1 H1 locs1 pc1 a1 hΦ hI1 hO1 hS1 hat h1 h2
    obtain ⟨rfl, -⟩ := hΦ
    rcases hat with ⟨v, hv, hd, -⟩ | ⟨v, hv, -⟩ | ⟨hv, -⟩
    · refine va_forget (fun q hq => ?_) (W.widen (k := 600000) (n := 7302250) (by decide) (by decide) ?_)
      · have := hS1.2.2 q hq
        rw [hAw] at this
        exact this
      · exact lw_ret hexec hcode hret hlocks hd
    · cases hv
    · cases hv
