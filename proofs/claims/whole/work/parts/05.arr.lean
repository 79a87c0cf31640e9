section ARR
variable {d : Nat} {M : Mt} {n0 pc : Nat} {ls : List (Option Value)} {st : List Value} {n : Nat} {I : MI} {G : MG} {J : MJ} {Φ : Ph}
theorem ty_at {K : Pk} : (tyK K)[0]? = some (K.2.1 0, .int) ∧ (tyK K)[1]? = some (K.2.1 1, .char) ∧ (tyK K)[2]? = some (K.2.1 2, .boolean) ∧ (tyK K)[3]? = some (K.2.1 3, .object RX2) ∧ (tyK K)[4]? = some (K.2.1 4, .array .int) := ⟨rfl, rfl, rfl, rfl, rfl⟩
theorem E_iald {i : Int32} (c z : Nat) (hd : decode M.2.1 pc = .ok (.iaload, 1)) (hs : shn n c = (6, z)) (hin : vp_in i z) (k : Ev d M n0 (pc + 1) ls (.int (I c i.toNatClampNeg) :: st) n I G J Φ) : Ev d M n0 pc ls (.int i :: .ref c :: st) n I G J Φ := by
  intro K B p l e R s m args below meth cd H locs Q a hC hR h0 hI hO hS hL hQ
  obtain ⟨hcn, hsh⟩ := shn_lt hs (by omega)
  exact va_iald hC.1.1 hC.1.2.1 hC.2.2.2.2.1 hI.1 c 0 ((wsO_at hcn).trans (by rw [cel_int hsh (by omega) (by omega)])) ty_at.1 hin hd (k K B p l e R s m args below meth cd H locs Q a hC hR h0 hI hO hS hL hQ)
theorem E_cald {i : Int32} (c z : Nat) (hd : decode M.2.1 pc = .ok (.caload, 1)) (hs : shn n c = (7, z)) (hin : vp_in i z) (k : Ev d M n0 (pc + 1) ls (.int (I c i.toNatClampNeg) :: st) n I G J Φ) : Ev d M n0 pc ls (.int i :: .ref c :: st) n I G J Φ := by
  intro K B p l e R s m args below meth cd H locs Q a hC hR h0 hI hO hS hL hQ
  obtain ⟨hcn, hsh⟩ := shn_lt hs (by omega)
  exact va_cald hC.1.1 hC.1.2.1 hC.2.2.2.2.1 hI.1 c 1 ((wsO_at hcn).trans (by rw [cel_int hsh (by omega) (by omega)])) ty_at.2.1 hin hd (k K B p l e R s m args below meth cd H locs Q a hC hR h0 hI hO hS hL hQ)
theorem E_zald {i : Int32} (c z : Nat) (hd : decode M.2.1 pc = .ok (.baload, 1)) (hs : shn n c = (8, z)) (hin : vp_in i z) (k : Ev d M n0 (pc + 1) ls (.int (I c i.toNatClampNeg) :: st) n I G J Φ) : Ev d M n0 pc ls (.int i :: .ref c :: st) n I G J Φ := by
  intro K B p l e R s m args below meth cd H locs Q a hC hR h0 hI hO hS hL hQ
  obtain ⟨hcn, hsh⟩ := shn_lt hs (by omega)
  exact va_zald hC.1.1 hC.1.2.1 hC.2.2.2.2.1 hI.1 c 2 ((wsO_at hcn).trans (by rw [cel_int hsh (by omega) (by omega)])) ty_at.2.2.1 hin hd (k K B p l e R s m args below meth cd H locs Q a hC hR h0 hI hO hS hL hQ)
theorem E_aald {i : Int32} (c z r : Nat) (hd : decode M.2.1 pc = .ok (.aaload, 1)) (hs : shn n c = (9, z)) (hin : vp_in i z) (hr : G c i.toNatClampNeg = some r) (k : Ev d M n0 (pc + 1) ls (.ref r :: st) n I G J Φ) : Ev d M n0 pc ls (.int i :: .ref c :: st) n I G J Φ := by
  intro K B p l e R s m args below meth cd H locs Q a hC hR h0 hI hO hS hL hQ
  obtain ⟨hcn, hsh⟩ := shn_lt hs (by omega)
  refine va_aldq (C := RX2) hC.1.1 hC.1.2.1 hC.2.2.2.2.1 hI.1 c 3 ((wsO_at hcn).trans (by rw [cel_ref hsh (by omega)])) ty_at.2.2.2.1 hin hd ?_
  rw [hr]
  exact k K B p l e R s m args below meth cd H locs Q a hC hR h0 hI hO hS hL hQ
theorem E_aald2 {i : Int32} (c z r : Nat) (hd : decode M.2.1 pc = .ok (.aaload, 1)) (hs : shn n c = (10, z)) (hin : vp_in i z) (hr : G c i.toNatClampNeg = some r) (k : Ev d M n0 (pc + 1) ls (.ref r :: st) n I G J Φ) : Ev d M n0 pc ls (.int i :: .ref c :: st) n I G J Φ := by
  intro K B p l e R s m args below meth cd H locs Q a hC hR h0 hI hO hS hL hQ
  obtain ⟨hcn, hsh⟩ := shn_lt hs (by omega)
  have ha : (wsO K n I G J)[c]? = some (K.1 c, .inl (K.2.1 4, z, .inr (.inr (.inr (.inr (fun i => (G c i).map K.1)))))) := (wsO_at hcn).trans (by rw [cel_ref hsh (by omega)])
  have hlt : i.toNatClampNeg < z := Nat.not_le.mp fun q => hin (Or.inr q)
  refine W.aald (v := .ref (K.1 r)) (ty := .array .int) hC.1.1 hC.1.2.1 (hI.1 c _ ha) ((hC.2.2.2.2.1.2 4 _ ty_at.2.2.2.2).1 z (fun j => va_rf ((G c j).map K.1))) rfl (fun q => by cases q) (by show ¬ (i < 0 ∨ (arrV _ _ _).slots.size ≤ _); rw [arrV_size]; exact hin) (by show (arrV _ _ _).slots[_]? = _; rw [arrV_read _ _ hlt]; show some (va_rf ((G c i.toNatClampNeg).map K.1)) = _; rw [hr]; rfl) rfl rfl hd ?_
  exact k K B p l e R s m args below meth cd H locs Q a hC hR h0 hI hO hS hL hQ
theorem E_alenc (c z : Nat) (v : Int32) (hd : decode M.2.1 pc = .ok (.arraylength, 1)) (hs : shn n c = (7, z)) (hv : Int32.ofNat z = v) (k : Ev d M n0 (pc + 1) ls (.int v :: st) n I G J Φ) : Ev d M n0 pc ls (.ref c :: st) n I G J Φ := by
  intro K B p l e R s m args below meth cd H locs Q a hC hR h0 hI hO hS hL hQ
  obtain ⟨hcn, hsh⟩ := shn_lt hs (by omega)
  exact va_alen hC.1.1 hC.1.2.1 hC.2.2.2.2.1 hI.1 c 1 ((wsO_at hcn).trans (by rw [cel_int hsh (by omega) (by omega)])) ty_at.2.1 hv hd (k K B p l e R s m args below meth cd H locs Q a hC hR h0 hI hO hS hL hQ)
/-! the script and the static rows -/
theorem E_ould {i : Int32} (c : Nat) (hd : decode M.2.1 pc = .ok (.iaload, 1)) (h1 : 1000 ≤ c) (h2 : c < 1005) (hin : vp_in i (oul G c)) (k : Ev d M n0 (pc + 1) ls (.int (I c i.toNatClampNeg) :: st) n I G J Φ) : Ev d M n0 pc ls (.int i :: .ref c :: st) n I G J Φ := by
  intro K B p l e R s m args below meth cd H locs Q a hC hR h0 hI hO hS hL hQ
  obtain ⟨hX, hb⟩ := hO.cell c h1 h2
  exact va_ti hC.1.1 hC.1.2.1 hX hS hin rfl hd (k K B p l e R s m args below meth cd H locs Q a hC hR h0 hI hO hS hL hQ)
theorem E_oulen (c : Nat) (hd : decode M.2.1 pc = .ok (.arraylength, 1)) (h1 : 1000 ≤ c) (h2 : c < 1005) (k : Ev d M n0 (pc + 1) ls (.int (nI (oul G c)) :: st) n I G J Φ) : Ev d M n0 pc ls (.ref c :: st) n I G J Φ := by
  intro K B p l e R s m args below meth cd H locs Q a hC hR h0 hI hO hS hL hQ
  obtain ⟨hX, hb⟩ := hO.cell c h1 h2
  exact va_tlen hC.1.1 hC.1.2.1 hX hS rfl hd (k K B p l e R s m args below meth cd H locs Q a hC hR h0 hI hO hS hL hQ)
theorem E_gets {ix : Nat} (C nm : String) (r : Nat) (hd : decode M.2.1 pc = .ok (.getstatic ix, 3)) (hz : ∀ (K : Pk) (B : MI × MG) (s : State), Ou0 K B s → va_Z C nm "[I" (.ref (K.1 r)) (Aw K) s s.heap) (hw : Cond.fieldLink M.1.cls ix C nm "[I" ∈ tb) (k : Ev d M n0 (pc + 3) ls (.ref r :: st) n I G J Φ) : Ev d M n0 pc ls st n I G J Φ := by
  intro K B p l e R s m args below meth cd H locs Q a hC hR h0 hI hO hS hL hQ
  exact va_gets hC.1.1 hC.1.2.1 (hz K B s hO.1) hS hC.1.2.2.2.1 (hC.1.2.2.2.2 _ hw) (fun _ h => h) hd (k K B p l e R s m args below meth cd H locs Q a hC hR h0 hI hO hS hL hQ)
/-! stores into rows of ints -/
theorem row_at {K : Pk} {I : MI} {G : MG} {J : MJ} {c ci z j : Nat} {x : Int32} {H1 : Heap} (hsh : shp c = (ci, z)) (h6 : 6 ≤ ci) (h9 : ci < 9) (e : H1[K.1 c]? = some ((vp_cell (K.2.1 (ci - 6)) (z, .inl (I c))).setSlot j (.int x))) : va_at K.2.2.1 vwCl (K.1 c, celE K (u2 I c j x) G J c) H1 := by
  rw [cel_int hsh h6 h9, u2_upd]
  show H1[K.1 c]? = some (vp_cell _ _)
  rw [e, vp_cell_i, vp_cell_i, arrV_store]
  congr 2
  funext q
  by_cases hq : q = j
  · subst hq
    simp [updV, upd]
  · simp [updV, upd, hq]
theorem E_iast {i x : Int32} (c z : Nat) (hd : decode M.2.1 pc = .ok (.iastore, 1)) (hs : shn n c = (6, z)) (hin : vp_in i z) (k : Ev d M n0 (pc + 1) ls st n (u2 I c i.toNatClampNeg x) G J Φ) : Ev d M n0 pc ls (.int x :: .int i :: .ref c :: st) n I G J Φ := by
  intro K B p l e R s m args below meth cd H locs Q a hC hR h0 hI hO hS hL hQ
  have had := hC.2.2.2.2.2.2
  obtain ⟨hcn, hsh⟩ := shn_lt hs (by omega)
  have hb := hI.2.2
  have ha : (wsO K n I G J)[c]? = some (K.1 c, .inl (K.2.1 0, z, .inl (I c))) := (wsO_at hcn).trans (by rw [cel_int hsh (by omega) (by omega)])
  refine W.iast hC.1.1 hC.1.2.1 (hI.1 c _ ha) ((hC.2.2.2.2.1.2 0 _ ty_at.1).1 z (fun j => .int (I c j))) (fun q => by cases q) (by show ¬ (i < 0 ∨ (arrV _ _ _).slots.size ≤ _); rw [arrV_size]; exact hin) rfl rfl hd fun H1 e1 zz oq => ?_
  exact k K B p l e R s m args below meth cd H1 _ Q a hC hR h0 (Iw_set hI had hcn zz oq (row_at hsh (by omega) (by omega) e1) (fun x hx => u2_row _ _ _ hx) (fun _ _ => rfl) (fun _ _ => rfl)) (hO.mem (fun x hx => u2_row _ _ _ (by omega)) (fun _ _ => rfl)) (hS.put zz oq (Iw_A hI had hcn)) hL hQ
theorem E_cast {i x y : Int32} (c z : Nat) (hd : decode M.2.1 pc = .ok (.castore, 1)) (hs : shn n c = (7, z)) (hin : vp_in i z) (hx : narrow .char (.int x) = .int y) (k : Ev d M n0 (pc + 1) ls st n (u2 I c i.toNatClampNeg y) G J Φ) : Ev d M n0 pc ls (.int x :: .int i :: .ref c :: st) n I G J Φ := by
  intro K B p l e R s m args below meth cd H locs Q a hC hR h0 hI hO hS hL hQ
  have had := hC.2.2.2.2.2.2
  obtain ⟨hcn, hsh⟩ := shn_lt hs (by omega)
  have hb := hI.2.2
  have ha : (wsO K n I G J)[c]? = some (K.1 c, .inl (K.2.1 1, z, .inl (I c))) := (wsO_at hcn).trans (by rw [cel_int hsh (by omega) (by omega)])
  refine W.cast hC.1.1 hC.1.2.1 (hI.1 c _ ha) ((hC.2.2.2.2.1.2 1 _ ty_at.2.1).1 z (fun j => .int (I c j))) (fun q => by cases q) (by show ¬ (i < 0 ∨ (arrV _ _ _).slots.size ≤ _); rw [arrV_size]; exact hin) rfl rfl hd fun H1 e1 zz oq => ?_
  rw [hx] at e1
  exact k K B p l e R s m args below meth cd H1 _ Q a hC hR h0 (Iw_set hI had hcn zz oq (row_at hsh (by omega) (by omega) e1) (fun x hx => u2_row _ _ _ hx) (fun _ _ => rfl) (fun _ _ => rfl)) (hO.mem (fun x hx => u2_row _ _ _ (by omega)) (fun _ _ => rfl)) (hS.put zz oq (Iw_A hI had hcn)) hL hQ
theorem E_zast {i x y : Int32} (c z : Nat) (hd : decode M.2.1 pc = .ok (.bastore, 1)) (hs : shn n c = (8, z)) (hin : vp_in i z) (hx : narrow .boolean (.int x) = .int y) (k : Ev d M n0 (pc + 1) ls st n (u2 I c i.toNatClampNeg y) G J Φ) : Ev d M n0 pc ls (.int x :: .int i :: .ref c :: st) n I G J Φ := by
  intro K B p l e R s m args below meth cd H locs Q a hC hR h0 hI hO hS hL hQ
  have had := hC.2.2.2.2.2.2
  obtain ⟨hcn, hsh⟩ := shn_lt hs (by omega)
  have hb := hI.2.2
  have ha : (wsO K n I G J)[c]? = some (K.1 c, .inl (K.2.1 2, z, .inl (I c))) := (wsO_at hcn).trans (by rw [cel_int hsh (by omega) (by omega)])
  refine W.zast hC.1.1 hC.1.2.1 (hI.1 c _ ha) ((hC.2.2.2.2.1.2 2 _ ty_at.2.2.1).1 z (fun j => .int (I c j))) (fun q => by cases q) (by show ¬ (i < 0 ∨ (arrV _ _ _).slots.size ≤ _); rw [arrV_size]; exact hin) rfl rfl hd fun H1 e1 zz oq => ?_
  rw [hx] at e1
  exact k K B p l e R s m args below meth cd H1 _ Q a hC hR h0 (Iw_set hI had hcn zz oq (row_at hsh (by omega) (by omega) e1) (fun x hx => u2_row _ _ _ hx) (fun _ _ => rfl) (fun _ _ => rfl)) (hO.mem (fun x hx => u2_row _ _ _ (by omega)) (fun _ _ => rfl)) (hS.put zz oq (Iw_A hI had hcn)) hL hQ
/-- a moment into a row of moments -/
theorem E_aast {i : Int32} (c z r zr : Nat) (hd : decode M.2.1 pc = .ok (.aastore, 1)) (hs : shn n c = (9, z)) (hr : shn n r = (2, zr)) (hin : vp_in i z) (k : Ev d M n0 (pc + 1) ls st n I (u2 G c i.toNatClampNeg (some r)) J Φ) : Ev d M n0 pc ls (.ref r :: .int i :: .ref c :: st) n I G J Φ := by
  intro K B p l e R s m args below meth cd H locs Q a hC hR h0 hI hO hS hL hQ
  have had := hC.2.2.2.2.2.2
  obtain ⟨hcn, hsh⟩ := shn_lt hs (by omega)
  obtain ⟨hrn, hrh⟩ := shn_lt hr (by omega)
  have hb := hI.2.2
  have ha : (wsO K n I G J)[c]? = some (K.1 c, .inl (K.2.1 3, z, .inr (.inr (.inr (.inr (fun i => (G c i).map K.1)))))) := (wsO_at hcn).trans (by rw [cel_ref hsh (by omega)])
  have hv : (wsO K n I G J)[r]? = some (K.1 r, .inr (2, (List.range zr).map (fval K.1 I G J 2 r))) := (wsO_at hrn).trans (by rw [cel_obj hrh (by omega)])
  have hlt : i.toNatClampNeg < z := Nat.not_le.mp fun q => hin (Or.inr q)
  have hn0 : ¬ i < 0 := fun q => hin (Or.inl q)
  obtain ⟨r', hr', cellV, g1, g2, g3, -⟩ := hI.1 r _ hv
  have hcls := (hC.2.2.2.2.1.1 2 (RX2, TX2, 8) rfl).2
  obtain ⟨kA, comp, k1, k2, k3, -⟩ := (hC.2.2.2.2.1.2 3 _ ty_at.2.2.2.1).2
  have hcomp : comp = K.2.2.1.1 2 := Option.some.inj (k3.symm.trans hcls.1)
  subst hcomp
  obtain ⟨kC, hkC, -⟩ := hcls.2
  refine W.aast hC.1.1 hC.1.2.1 (hI.1 c _ ha) (fun q h => by cases h) (fun h => by cases h) k1 k2 rfl hkC ⟨hn0, by show _ < (arrV _ _ _).slots.size; rw [arrV_size]; exact hlt⟩ g1 (fun q h => by rw [g3] at h; cases h) (by rw [g2]; exact hkC) (by rw [g2]; exact va_assign hcls) rfl rfl hd fun H1 e1 zz oq => ?_
  refine k K B p l e R s m args below meth cd H1 _ Q a hC hR h0 (Iw_set hI had hcn zz oq ?_ (fun _ _ => rfl) (fun x hx => u2_row _ _ _ hx) (fun _ _ => rfl)) (hO.mem (fun _ _ => rfl) (fun x hx => u2_row _ _ _ (by omega))) (hS.put zz oq (Iw_A hI had hcn)) hL hQ
  rw [cel_ref hsh (by omega)]
  show H1[K.1 c]? = some (vp_cell _ _)
  rw [e1, vp_cell_q, vp_cell_q, arrV_store]
  congr 2
  funext q
  by_cases hq : q = i.toNatClampNeg
  · subst hq
    simp [updV, u2, va_rf]
  · simp [updV, u2, hq]
/-- System.arraycopy of ints between two rows -/
theorem E_copy {ix : Nat} {sp dp w : Int32} (c1 z1 c2 z2 : Nat) (hd : decode M.2.1 pc = .ok (.invokestatic ix, 3)) (hw : Cond.methodLink M.1.cls ix arraycopyName ∈ tb ∧ Cond.native arraycopyName ∈ tb ∧ Cond.static arraycopyName ∈ tb ∧ Cond.initialized "java/lang/System" ∈ tb) (hs1 : shn n c1 = (6, z1)) (hs2 : shn n c2 = (6, z2)) (hsp : ¬ sp < 0) (hdp : ¬ dp < 0) (hww : ¬ w < 0) (hb1 : sp.toNatClampNeg + w.toNatClampNeg ≤ z1) (hb2 : dp.toNatClampNeg + w.toNatClampNeg ≤ z2) (hcat : (st.map fun v => v.category).sum ≤ 8) (hdd : 1 ≤ d)
    (k : Ev d M n0 (pc + 3) ls st n (ur I c2 (va_cpy (I c1) (I c2) sp.toNatClampNeg dp.toNatClampNeg w.toNatClampNeg)) G J Φ) : Ev d M n0 pc ls (.int w :: .int dp :: .ref c2 :: .int sp :: .ref c1 :: st) n I G J Φ := by
  intro K B p l e R s m args below meth cd H locs Q a hC hR h0 hI hO hS hL hQ
  have had := hC.2.2.2.2.2.2
  have hts := hC.1.2.2.2.2
  obtain ⟨hcn1, hsh1⟩ := shn_lt hs1 (by omega)
  obtain ⟨hcn2, hsh2⟩ := shn_lt hs2 (by omega)
  have hb := hI.2.2
  have ha1 : (wsO K n I G J)[c1]? = some (K.1 c1, .inl (K.2.1 0, z1, .inl (I c1))) := (wsO_at hcn1).trans (by rw [cel_int hsh1 (by omega) (by omega)])
  have ha2 : (wsO K n I G J)[c2]? = some (K.1 c2, .inl (K.2.1 0, z2, .inl (I c2))) := (wsO_at hcn2).trans (by rw [cel_int hsh2 (by omega) (by omega)])
  have nn : ∀ z : Int32, ¬ z < 0 → z.toInt = (z.toNatClampNeg : Int) := by
    intro z hz
    have hz0 : (0 : Int) ≤ z.toInt := by
      have := Int32.not_lt.mp hz
      simpa using Int32.le_iff_toInt_le.mp this
    show z.toInt = ((z.toInt.toNat : Nat) : Int)
    omega
  intro T hT X
  have hc0 : H[K.1 c1]? = some (vp_cell (K.2.1 0) (z1, .inl (I c1))) := hI.1 c1 _ ha1
  have hc1 : H[K.1 c2]? = some (vp_cell (K.2.1 0) (z2, .inl (I c2))) := hI.1 c2 _ ha2
  obtain ⟨-, k0, hk0, cm0, hkk0⟩ := (hC.2.2.2.2.1.2 0 _ ty_at.1).1 z1 (fun j => .int (I c1 j))
  have hcatm : ((st.map (cvv K.1)).map fun v => v.category).sum = (st.map fun v => v.category).sum := by
    rw [List.map_map]
    congr 1
    exact List.map_congr_left (fun v _ => cvv_cat K.1 v)
  have hlo : 64 ≤ R.locals := by have := hR.2.1; omega
  obtain ⟨vm', X', step⟩ := X.arraycopy hC.1.1 hC.1.2.2.2.1 (hts _ hw.1) (hts _ hw.2.1) (hts _ hw.2.2.1) (hts _ hw.2.2.2) (src := K.1 c1) (dst := K.1 c2) (cs := vp_cell (K.2.1 0) (z1, .inl (I c1))) (cd := vp_cell (K.2.1 0) (z2, .inl (I c2))) (srcPos := sp) (destPos := dp) (n := w) (by rw [hT]; exact hc0) (by rw [hT]; exact hc1)
    (fun _ h => by cases h) (fun _ h => by cases h) (fun h => by cases h) (fun h => by cases h) hk0 hk0 hkk0 hkk0 (by simp [refKind]) hsp hdp hww
    (by rw [nn sp hsp, nn w hww]; show ¬ _ > ((arrV (K.2.1 0) z1 (fun j => .int (I c1 j))).slots.size : Int); rw [arrV_size]; omega)
    (by rw [nn dp hdp, nn w hww]; show ¬ _ > ((arrV (K.2.1 0) z2 (fun j => .int (I c2 j))).slots.size : Int); rw [arrV_size]; omega)
    (fun vm₁ _ i hi => by
      have e : (vp_cell (K.2.1 0) (z1, .inl (I c1))).slots.getD (sp.toNatClampNeg + i) .null = .int (I c1 (sp.toNatClampNeg + i)) := by
        show (arrV (K.2.1 0) z1 (fun j => .int (I c1 j))).slots.getD _ _ = _
        rw [Array.getD_eq_getD_getElem?, arrV_read _ _ (by omega)]
        rfl
      refine ⟨?_, ?_⟩
      · rw [e]
        rfl
      · rw [e]
        exact trivial)
    (g := F0 m pc a (.int w :: .int dp :: .ref (K.1 c2) :: .int sp :: .ref (K.1 c1) :: st.map (cvv K.1))) rfl (by obtain ⟨lx, h1, -⟩ := hL; exact h1.1.trans hC.1.2.2.1.symm) (rest := st.map (cvv K.1)) rfl (by rw [hC.1.2.1]; exact hd) (by have := hR.1; omega) (by have h9 : nativeFrameWords "java/lang/System" "arraycopy" 5 + 11 ≤ 56 := (by decide +kernel); show 2 * 0 + _ + _ ≤ _; rw [hcatm]; omega)
  have e1 : copied (vp_cell (K.2.1 0) (z1, .inl (I c1))) (vp_cell (K.2.1 0) (z2, .inl (I c2))) sp dp w = vp_cell (K.2.1 0) (z2, .inl (va_cpy (I c1) (I c2) sp.toNatClampNeg dp.toNatClampNeg w.toNatClampNeg)) := va_copied (fun z => .int z) (K.2.1 0) (K.2.1 0) (I c1) (I c2) hb1
  rw [e1] at X' step
  have hl : K.1 c2 < H.size := (Array.getElem?_eq_some_iff.mp hc1).1
  generalize hcell : vp_cell (K.2.1 0) (z2, .inl (va_cpy (I c1) (I c2) sp.toNatClampNeg dp.toNatClampNeg w.toNatClampNeg)) = cell at X' step
  have hheap : ((T.setVm vm').setCell (K.1 c2) cell).heap = H.setIfInBounds (K.1 c2) cell := by rw [← hT]; rfl
  have oq : ∀ q : Nat, q ≠ K.1 c2 → (H.setIfInBounds (K.1 c2) cell)[q]? = H[q]? := fun q hq => by simp [Array.getElem?_setIfInBounds, Ne.symm hq]
  obtain ⟨t, a1, b1⟩ := k K B p l e R s m args below meth cd (H.setIfInBounds (K.1 c2) cell) _ Q a hC hR h0 (Iw_set hI had hcn2 (by simp) oq (by
      rw [cel_int hsh2 (by omega) (by omega), ur_at]
      show (H.setIfInBounds (K.1 c2) cell)[K.1 c2]? = some (vp_cell _ _)
      rw [hcell]
      simp [Array.getElem?_setIfInBounds, hl]) (fun x hx => ur_ne _ _ hx) (fun _ _ => rfl) (fun _ _ => rfl)) (hO.mem (fun x hx => ur_ne _ _ (by omega)) (fun _ _ => rfl)) ⟨by simp; exact hS.1, fun q g1 g2 => by
      rw [oq q (fun e => g2 (by rw [e]; exact Iw_A hI had hcn2))]
      exact hS.2.1 q g1 g2, fun q hq => by
      rcases List.mem_append.mp hq with h | h
      · exact hS.2.2 q h
      · obtain ⟨zz, -, hzz⟩ := List.mem_map.mp h
        rw [← hzz]
        exact Iw_A hI had hcn2⟩ hL hQ _ hheap X'
  exact ⟨t, step t a1, b1⟩
end ARR
