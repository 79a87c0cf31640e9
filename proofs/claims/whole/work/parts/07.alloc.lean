/-! ===== new cells ===== -/
theorem dfl_all : ∀ (ci : Nat) (q : vw_C), vwCl[ci]? = some q → ∀ j, j < q.2.2 → defaultValue (tyA ci j) = (if fkd ci j = 0 then .int 0 else if fkd ci j = 1 then .null else .long 0) := cls_all (by decide +kernel) (by decide +kernel) (by decide +kernel) (by decide +kernel) (by decide +kernel) (by decide +kernel)
section ALLOC
variable {d : Nat} {M : Mt} {n0 pc : Nat} {ls : List (Option Value)} {st : List Value} {n : Nat} {I : MI} {G : MG} {J : MJ} {Φ : Ph}
/-- the world with one cell more -/
theorem Iw_push {K : Pk} {I' : MI} {G' : MG} {J' : MJ} {H H1 : Heap} (hI : Iw K n I G J H) (hn : n < 1000) (z : H1.size = H.size + 1) (oq : ∀ q : Nat, q < H.size → H1[q]? = H[q]?) (he : va_at K.2.2.1 vwCl (K.1 n, celE K I' G' J' n) H1) (h1 : ∀ x, x < n → I' x = I x) (h2 : ∀ x, x < n → G' x = G x) (h3 : ∀ x, x < n → J' x = J x) : Iw K (n + 1) I' G' J' H1 := by
  refine ⟨?_, by rw [z, hI.2.1]; omega, by omega⟩
  rw [← wsO_succ h1 h2 h3 rfl]
  refine (hI.1.kept (fun k x hx => oq x.1 ((hI.1 k x hx).lt))).app (fun k x hx => ?_)
  have hz : k < 1 := (List.getElem?_eq_some_iff.mp hx).1
  rw [show k = 0 by omega] at hx
  cases hx
  exact he
theorem vS_push {K : Pk} {H0 H H1 : Heap} {locs : List Loc} (hS : va_S (Aw K) H0 H locs) (z : H.size ≤ H1.size) (oq : ∀ q : Nat, q < H.size → H1[q]? = H[q]?) : va_S (Aw K) H0 H1 locs :=
  ⟨Nat.le_trans hS.1 z, fun x h1 h2 => (oq x (Nat.lt_of_lt_of_le h1 hS.1)).trans (hS.2.1 x h1 h2), hS.2.2⟩
theorem E_new {ix : Nat} (ci z : Nat) (hd : decode M.2.1 pc = .ok (.new ix, 3)) (hq : ∃ q, vwCl[ci]? = some q ∧ q.2.2 = z ∧ Cond.classLink M.1.cls ix q.1 ∈ tb ∧ Cond.instantiable q.1 z ∈ tb ∧ Cond.initialized q.1 ∈ tb) (hs : shp n = (ci, z)) (hn : n < 1000) (hn0 : n0 ≤ n) (hpn : pre n0 ≤ pre n) (hp : pre (n + 1) = pre n + z) (hm1 : n - n0 + 1 ≤ M.2.2.2.2.1) (hm2 : pre n - pre n0 + z ≤ M.2.2.2.2.2)
    (k : Ev d M n0 (pc + 3) ls (.ref n :: st) (n + 1) (ur I n (fun _ => 0)) (ur G n (fun _ => none)) (ur J n (fun _ => 0)) Φ) : Ev d M n0 pc ls st n I G J Φ := by
  intro K B p l e R s m args below meth c H locs Q a hC hR h0 hI hO hS hL hQ
  have had := hC.2.2.2.2.2.2
  have hts := hC.1.2.2.2.2
  obtain ⟨q, hq, hz, w1, w2, w3⟩ := hq
  have hKn := hC.2.2.2.2.1.1 ci _ hq
  have hsz : H.size = K.1 n := by rw [hI.2.1, had n hn]
  refine W.newcK hC.1.1 hC.1.2.1 hC.1.2.2.2.1 (hts _ w1) (hts _ w2) (hts _ w3) rfl hd (Nat.le_trans hm1 hR.2.2.1) (Nat.le_trans hm2 hR.2.2.2) hKn.2.1 hsz fun H1 kC hkC e1 z1 o1 => ?_
  have hw := k K B p l e R s m args below meth c H1 locs Q a hC hR h0 (Iw_push hI hn (by rw [z1, hsz]) (fun x hx => o1 x (by rw [← hsz]; exact hx)) ?_ (fun x hx => ur_ne _ _ (by omega)) (fun x hx => ur_ne _ _ (by omega)) (fun x hx => ur_ne _ _ (by omega))) (hO.mem (fun x hx => ur_ne _ _ (by omega)) (fun x hx => ur_ne _ _ (by omega))) (vS_push hS (by rw [z1, hsz]; omega) (fun x hx => o1 x (by rw [← hsz]; exact hx))) hL hQ
  · rw [show n + 1 - n0 = n - n0 + 1 by omega, show pre (n + 1) - pre n0 = pre n - pre n0 + z by omega] at hw
    exact hw
  · rw [cel_obj hs (cls_6 hq)]
    refine ⟨q, hq, (u_born (tyA ci) hts (cls_in ci q hq) hKn hkC e1 (cls_ty ci q hq)).to (fun j hj => ?_)⟩
    rw [dfl_all ci q hq j hj]
    simp only [vp_V, List.getD_eq_getElem?_getD, List.getElem?_map, List.getElem?_range (show j < z by omega), Option.map_some, Option.getD_some, fval, ur_at, va_rf, Option.map_none]
def aTy : Nat → ArrayType := fun t => if t = 0 then .int else if t = 1 then .char else .boolean
theorem E_newa {at_ : ArrayType} {w : Int32} (t z : Nat) (hd : decode M.2.1 pc = .ok (.newarray at_, 2)) (ht : t < 3) (hat : at_ = aTy t) (hw : Cond.arrayClass (newarray.typeOf at_) ∈ tb) (hs : shp n = (6 + t, z)) (hwn : ¬ w < 0) (hwz : w.toNatClampNeg = z) (hzb : z ≤ 100000) (hn : n < 1000) (hn0 : n0 ≤ n) (hpn : pre n0 ≤ pre n) (hp : pre (n + 1) = pre n + z) (hm1 : n - n0 + 1 ≤ M.2.2.2.2.1) (hm2 : pre n - pre n0 + z ≤ M.2.2.2.2.2)
    (k : Ev d M n0 (pc + 2) ls (.ref n :: st) (n + 1) (ur I n (fun _ => 0)) (ur G n (fun _ => none)) (ur J n (fun _ => 0)) Φ) : Ev d M n0 pc ls (.int w :: st) n I G J Φ := by
  intro K B p l e R s m args below meth c H locs Q a hC hR h0 hI hO hS hL hQ
  have had := hC.2.2.2.2.2.2
  have hts := hC.1.2.2.2.2
  have hsz : H.size = K.1 n := by rw [hI.2.1, had n hn]
  refine va_newaK (rest := st.map (cvv K.1)) hC.1.1 hC.1.2.1 (hts _ hw) rfl hd rfl hwn hwz (by subst hat; rcases (show t = 0 ∨ t = 1 ∨ t = 2 by omega) with rfl | rfl | rfl <;> simp [aTy, newarray.typeOf, componentBytes] <;> omega) (Nat.le_trans hm1 hR.2.2.1) (Nat.le_trans hm2 hR.2.2.2) hsz fun H1 cA e1 z1 o1 hAr hNm => ?_
  have hcA : cA = K.2.1 t := by
    subst hat
    rcases (show t = 0 ∨ t = 1 ∨ t = 2 by omega) with rfl | rfl | rfl
    · exact Option.some.inj (hNm.symm.trans (hC.2.2.2.2.1.2 0 _ ty_at.1).2)
    · exact Option.some.inj (hNm.symm.trans (hC.2.2.2.2.1.2 1 _ ty_at.2.1).2)
    · exact Option.some.inj (hNm.symm.trans (hC.2.2.2.2.1.2 2 _ ty_at.2.2.1).2)
  have hdf : defaultValue (newarray.typeOf at_) = .int 0 := by
    subst hat
    rcases (show t = 0 ∨ t = 1 ∨ t = 2 by omega) with rfl | rfl | rfl <;> rfl
  have hw2 := k K B p l e R s m args below meth c H1 locs Q a hC hR h0 (Iw_push hI hn (by rw [z1, hsz]) (fun x hx => o1 x (by rw [← hsz]; exact hx)) ?_ (fun x hx => ur_ne _ _ (by omega)) (fun x hx => ur_ne _ _ (by omega)) (fun x hx => ur_ne _ _ (by omega))) (hO.mem (fun x hx => ur_ne _ _ (by omega)) (fun x hx => ur_ne _ _ (by omega))) (vS_push hS (by rw [z1, hsz]; omega) (fun x hx => o1 x (by rw [← hsz]; exact hx))) hL hQ
  · rw [show n + 1 - n0 = n - n0 + 1 by omega, show pre (n + 1) - pre n0 = pre n - pre n0 + z by omega] at hw2
    exact hw2
  · rw [cel_int hs (by omega) (by omega), ur_at]
    show H1[K.1 n]? = some (vp_cell _ _)
    rw [e1, hcA, hdf, vp_cell_i, show 6 + t - 6 = t by omega]
theorem E_anew {ix : Nat} {w : Int32} (z : Nat) (hd : decode M.2.1 pc = .ok (.anewarray ix, 3)) (hw : Cond.classLink M.1.cls ix RX2 ∈ tb) (hs : shp n = (9, z)) (hwn : ¬ w < 0) (hwz : w.toNatClampNeg = z) (hzb : z ≤ 100000) (hn : n < 1000) (hn0 : n0 ≤ n) (hpn : pre n0 ≤ pre n) (hp : pre (n + 1) = pre n + z) (hm1 : n - n0 + 1 ≤ M.2.2.2.2.1) (hm2 : pre n - pre n0 + z ≤ M.2.2.2.2.2)
    (k : Ev d M n0 (pc + 3) ls (.ref n :: st) (n + 1) (ur I n (fun _ => 0)) (ur G n (fun _ => none)) (ur J n (fun _ => 0)) Φ) : Ev d M n0 pc ls (.int w :: st) n I G J Φ := by
  intro K B p l e R s m args below meth c H locs Q a hC hR h0 hI hO hS hL hQ
  have had := hC.2.2.2.2.2.2
  have hts := hC.1.2.2.2.2
  have hsz : H.size = K.1 n := by rw [hI.2.1, had n hn]
  subst hwz
  refine W.anew (rest := st.map (cvv K.1)) hC.1.1 hC.1.2.1 hC.1.2.2.2.1 (hts _ hw) (va_AO.use hC.2.2.2.2.2.1.2.2.2.1) rfl hd rfl hwn (by omega) (Nat.le_trans hm1 hR.2.2.1) (Nat.le_trans hm2 hR.2.2.2) fun cA kA comp f1 f2 f3 f4 => ?_
  generalize hH1 : H.push ({ cls := cA, slots := Array.replicate w.toNatClampNeg .null, vm := .none } : Cell) = H1
  have z1 : H1.size = H.size + 1 := by rw [← hH1, Array.size_push]
  have e1 : H1[H.size]? = some (arrV cA w.toNatClampNeg (fun _ => .null)) := by rw [← hH1, Array.getElem?_push_size, ← arrV_new]
  have o1 : ∀ q : Nat, q < H.size → H1[q]? = H[q]? := fun q hq => by rw [← hH1, Array.getElem?_push, if_neg (Nat.ne_of_lt hq)]
  have hcA : cA = K.2.1 3 := by
    obtain ⟨kA', comp', -, -, -, h5⟩ := (hC.2.2.2.2.1.2 3 _ ty_at.2.2.2.1).2
    exact Option.some.inj (f1.symm.trans h5)
  have hw2 := k K B p l e R s m args below meth c H1 locs Q a hC hR h0 (Iw_push hI hn z1 o1 ?_ (fun x hx => ur_ne _ _ (by omega)) (fun x hx => ur_ne _ _ (by omega)) (fun x hx => ur_ne _ _ (by omega))) (hO.mem (fun x hx => ur_ne _ _ (by omega)) (fun x hx => ur_ne _ _ (by omega))) (vS_push hS (by rw [z1]; omega) o1) hL hQ
  · rw [show n + 1 - n0 = n - n0 + 1 by omega, show pre (n + 1) - pre n0 = pre n - pre n0 + w.toNatClampNeg by omega] at hw2
    rw [hsz]
    exact hw2
  · rw [cel_ref hs (by omega), ur_at]
    show H1[K.1 n]? = some (vp_cell _ _)
    rw [← hsz, e1, hcA, vp_cell_q]
    rfl
/-- w rows from cell n on are nought -/
def zrI (I : MI) (n w : Nat) : MI := fun x => if n ≤ x ∧ x < n + w then fun _ => 0 else I x
def zrJ (J : MJ) (n w : Nat) : MJ := fun x => if n ≤ x ∧ x < n + w then fun _ => 0 else J x
def zrG (G : MG) (n w : Nat) : MG := fun x => if x = n then fun i => if i + 1 < w then some (n + 1 + i) else none else if n ≤ x ∧ x < n + w then fun _ => none else G x
set_option maxHeartbeats 1000000 in
theorem E_mna {ix : Nat} {w v : Int32} (N z : Nat) (hd : decode M.2.1 pc = .ok (.multianewarray ix 2, 4)) (hw : Cond.classLink M.1.cls ix "[[I" ∈ tb ∧ Cond.arrayClass .int ∈ tb) (hs : shp n = (10, N)) (hss : ∀ j, j < N → shp (n + 1 + j) = (6, z)) (hwn : ¬ w < 0) (hvn : ¬ v < 0) (hwz : w.toNatClampNeg = N) (hvz : v.toNatClampNeg = z) (hzb : z ≤ 1000) (hNb : N ≤ 1000) (hn : n + 1 + N ≤ 1000) (hn0 : n0 ≤ n) (hpn : pre n0 ≤ pre n) (hp : pre (n + 1 + N) = pre n + N + N * z) (hm1 : n - n0 + (1 + N) ≤ M.2.2.2.2.1) (hm2 : pre n - pre n0 + (N + N * z) ≤ M.2.2.2.2.2)
    (k : Ev d M n0 (pc + 4) ls (.ref n :: st) (n + 1 + N) (zrI I n (N + 1)) (zrG G n (N + 1)) (zrJ J n (N + 1)) Φ) : Ev d M n0 pc ls (.int v :: .int w :: st) n I G J Φ := by
  intro K B p l e R s m args below meth c H locs Q a hC hR h0 hI hO hS hL hQ
  have had := hC.2.2.2.2.2.2
  have hts := hC.1.2.2.2.2
  have hsz : H.size = K.1 n := by rw [hI.2.1, had n (by omega)]
  subst hwz
  subst hvz
  intro T hT Xs
  obtain ⟨vm₁, cA, comp, -, fA, fC, hO2, -, X', step⟩ := Xs.multianewarray2F hC.1.1 hC.1.2.2.2.1 (ty := .int) (hts _ hw.1) (Jvm.Stand.arrayOver_alikeB (Vm.Alike.refl _) hC.2.2.2.2.2.1.2.2.2.2) (hts _ hw.2) (g := F0 m pc a (.int v :: .int w :: st.map (cvv K.1))) rfl (by rw [hC.1.2.1]; exact hd) rfl hwn hvn (by omega) (by simp [componentBytes]; omega) (by omega) rfl rfl (Nat.le_trans hm1 hR.2.2.1) (Nat.le_trans hm2 hR.2.2.2)
  have hcA : cA = K.2.1 4 := Option.some.inj (fA.symm.trans (hC.2.2.2.2.1.2 4 _ ty_at.2.2.2.2).2)
  have hcC : comp = K.2.1 0 := Option.some.inj (fC.symm.trans (hC.2.2.2.2.1.2 0 _ ty_at.1).2)
  subst hcA
  subst hcC
  generalize hF : Jvm.Free.Multi.fill (T.setVm vm₁) (K.2.1 4) (K.2.1 0) w.toNatClampNeg v.toNatClampNeg (defaultValue .int) w.toNatClampNeg = F at X' step
  have hTh : (T.setVm vm₁).heap = H := hT
  obtain ⟨f1, f2, -, -⟩ := Jvm.Free.Multi.fill_facts (T.setVm vm₁) (K.2.1 4) (K.2.1 0) w.toNatClampNeg v.toNatClampNeg (defaultValue .int) w.toNatClampNeg
  rw [hF, hTh] at f1 f2
  have hold : ∀ x : Nat, x < H.size → F.heap[x]? = H[x]? := fun x hx => by
    have := Jvm.Free.Multi.fill_old (T.setVm vm₁) (K.2.1 4) (K.2.1 0) w.toNatClampNeg v.toNatClampNeg (defaultValue .int) (a := x) (by rw [hTh]; exact hx) w.toNatClampNeg
    rw [hF, hTh] at this
    exact this
  have hrow : ∀ j : Nat, j < w.toNatClampNeg → F.heap[H.size + 1 + j]? = some (vp_cell (K.2.1 0) (v.toNatClampNeg, .inl (fun _ => 0))) := fun j hj => by
    have := Jvm.Free.Multi.fill_inner (T.setVm vm₁) (K.2.1 4) (K.2.1 0) w.toNatClampNeg v.toNatClampNeg (defaultValue .int) w.toNatClampNeg j hj
    rw [hF, hTh] at this
    rw [this, vp_cell_i, ← arrV_new]
    rfl
  have hI1 : Iw K (n + 1 + w.toNatClampNeg) (zrI I n (w.toNatClampNeg + 1)) (zrG G n (w.toNatClampNeg + 1)) (zrJ J n (w.toNatClampNeg + 1)) F.heap := by
    refine ⟨fun i q hq => ?_, by rw [f1, hI.2.1]; omega, hn⟩
    have hil : i < n + 1 + w.toNatClampNeg := by
      have := (List.getElem?_eq_some_iff.mp hq).1
      simpa [wsO] using this
    rw [wsO_at hil] at hq
    cases hq
    rcases Nat.lt_trichotomy i n with hlt | heq | hgt
    · rw [celE_congr (I := I) (G := G) (J := J) (by unfold zrI; rw [if_neg (by omega)]) (by unfold zrG; rw [if_neg (by omega), if_neg (by omega)]) (by unfold zrJ; rw [if_neg (by omega)])]
      exact (hI.1 i _ (wsO_at hlt)).kept (hold _ ((hI.1 i _ (wsO_at hlt)).lt))
    · subst heq
      rw [cel_ref hs (by omega)]
      show F.heap[K.1 i]? = some (vp_cell _ _)
      rw [← hsz, f2, vp_cell_q]
      have key : ∀ t : Nat, Jvm.Free.Multi.outerC (K.2.1 4) w.toNatClampNeg H.size t = arrV (K.2.1 4) w.toNatClampNeg (fun j => va_rf (if j < t then some (H.size + 1 + j) else none)) := by
        intro t
        induction t with
        | zero =>
          show ({ cls := K.2.1 4, slots := Array.replicate w.toNatClampNeg .null, vm := .none } : Cell) = _
          rw [arrV_new]
          refine congrArg (arrV (K.2.1 4) w.toNatClampNeg) (funext fun j => ?_)
          simp [va_rf]
        | succ t ih =>
          show (Jvm.Free.Multi.outerC (K.2.1 4) w.toNatClampNeg H.size t).setSlot t (.ref (H.size + 1 + t)) = _
          rw [ih, arrV_store]
          refine congrArg (arrV (K.2.1 4) w.toNatClampNeg) (funext fun j => ?_)
          by_cases e9 : j = t
          · subst e9
            simp [updV, va_rf]
          · by_cases h9 : j < t
            · simp [updV, e9, h9, Nat.lt_succ_of_lt h9]
            · simp [updV, e9, h9, show ¬ j < t + 1 by omega]
      rw [key]
      congr 2
      funext j
      have hadj : w.toNatClampNeg ≤ 1000 := hNb
      by_cases hj : j < w.toNatClampNeg
      · have h10 : K.1 (i + 1 + j) = H.size + 1 + j := by rw [had (i + 1 + j) (by omega), hI.2.1]; omega
        simp [zrG, hj, h10]
      · simp [zrG, hj]
    · obtain ⟨j, rfl⟩ : ∃ j, i = n + 1 + j := ⟨i - n - 1, by omega⟩
      rw [cel_int (hss j (by omega)) (by omega) (by omega)]
      show F.heap[K.1 (n + 1 + j)]? = some (vp_cell _ _)
      have h10 : K.1 (n + 1 + j) = H.size + 1 + j := by rw [had (n + 1 + j) (by omega), hI.2.1]; omega
      rw [h10, hrow j (by omega)]
      unfold zrI
      rw [if_pos (by omega)]
  have hw2 := k K B p l e R s m args below meth c F.heap locs Q a hC hR h0 hI1 (hO.mem (fun x hx => by unfold zrI; rw [if_neg (by omega)]) (fun x hx => by unfold zrG; rw [if_neg (by omega), if_neg (by omega)])) (vS_push hS (by rw [f1]; omega) hold) hL hQ
  rw [show n + 1 + w.toNatClampNeg - n0 = n - n0 + 1 + w.toNatClampNeg by omega, show pre (n + 1 + w.toNatClampNeg) - pre n0 = pre n - pre n0 + w.toNatClampNeg + w.toNatClampNeg * v.toNatClampNeg by omega] at hw2
  obtain ⟨t, a1, b1⟩ := hw2 F rfl X'
  refine ⟨t, step t ?_, b1⟩
  have e9 : T.heap.size = K.1 n := by rw [hT, hsz]
  rw [e9]
  exact a1
end ALLOC
