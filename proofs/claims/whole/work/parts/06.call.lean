/-! ===== entry, calls ===== -/
def ent : List Value → List (Option Value)
  | [] => []
  | v :: vs => if v.category = 2 then some v :: none :: ent vs else some v :: ent vs
def entN (N : Nat) (vs : List Value) : List (Option Value) := ent vs ++ List.replicate (N - (ent vs).length) none
theorem ent_len (ad : Nat → Nat) : ∀ vs : List Value, (lg_sl (vs.map (cvv ad))).length = (ent vs).length
  | [] => rfl
  | v :: vs => by
    have ih := ent_len ad vs
    unfold lg_sl at ih ⊢
    simp only [List.map_cons, List.flatMap_cons, List.length_append, cvv_cat, ent, ih]
    by_cases h : v.category = 2
    · simp [h]; omega
    · simp [h]; omega
theorem ent_in (ad : Nat → Nat) : ∀ (vs : List Value) (i k : Nat) (v : Value), (ent vs)[k]? = some (some v) → (i + k, cvv ad v) ∈ lv_args i (vs.map (cvv ad))
  | [], i, k, v, h => by simp [ent] at h
  | w :: vs, i, k, v, h => by
    simp only [List.map_cons, lv_args, cvv_cat]
    unfold ent at h
    by_cases hw : w.category = 2
    · rw [if_pos hw] at h
      rw [if_pos hw]
      match k, h with
      | 0, h => simp at h; subst h; exact List.mem_cons_self
      | 1, h => simp at h
      | k + 2, h =>
        simp only [List.getElem?_cons_succ] at h
        have := ent_in ad vs (i + 2) k v h
        rw [show i + (k + 2) = i + 2 + k by omega]
        exact List.mem_cons_of_mem _ this
    · rw [if_neg hw] at h
      rw [if_neg hw]
      match k, h with
      | 0, h => simp at h; subst h; exact List.mem_cons_self
      | k + 1, h =>
        simp only [List.getElem?_cons_succ] at h
        have := ent_in ad vs (i + 1) k v h
        rw [show i + (k + 1) = i + 1 + k by omega]
        exact List.mem_cons_of_mem _ this
theorem Lv_ent {ad : Nat → Nat} {N : Nat} {vs : List Value} (h : (ent vs).length ≤ N) : Lv ad N (entN N vs) ((lg_sl (vs.map (cvv ad)) ++ List.replicate (N - (lg_sl (vs.map (cvv ad))).length) Slot.unset).toArray) := by
  refine ⟨_, lv_entry (vs.map (cvv ad)) (by rw [ent_len]; exact h), by simp [entN]; omega, fun k v hk => ?_⟩
  unfold entN at hk
  by_cases hl : k < (ent vs).length
  · rw [List.getElem?_append_left hl] at hk
    have := ent_in ad vs 0 k v hk
    rwa [Nat.zero_add] at this
  · rw [List.getElem?_append_right (by omega), List.getElem?_replicate] at hk
    split at hk <;> cases hk
theorem Xw.moved {s U : State} (hW : s.WarmedH U.vm) (h : Xw s) : Xw U :=
  ⟨h.1.warmM hW, h.2.1.warmM hW, h.2.2.1.warmM hW, va_AO.moved hW.alike h.2.2.2.1, Jvm.Stand.arrayOver_alikeB hW.alike h.2.2.2.2⟩
theorem Xw.same {s U : State} (hv : s.vm = U.vm) (h : Xw s) : Xw U :=
  ⟨h.1.same rfl hv, h.2.1.same rfl hv, h.2.2.1.same rfl hv, va_AO.moved (by rw [hv]; exact Vm.Alike.refl _) h.2.2.2.1, Jvm.Stand.arrayOver_alikeB (by rw [hv]; exact Vm.Alike.refl _) h.2.2.2.2⟩
/-- what a callee finds -/
def PcB (K : Pk) (n : Nat) (I : MI) (G : MG) (J : MJ) (U : State) : Prop := U.heap.size = K.2.2.2 + n ∧ Iw K n I G J U.heap ∧ va_K K.2.2.1 vwCl (tyK K) U ∧ Out K (I, G) I G U ∧ Xw U
/-- what it leaves -/
def QcB (K : Pk) (M : Mt) (n : Nat) (I : MI) (G : MG) (Ψ : Ph) : Array Value → State → Outcome → State → Prop := fun _ st0 oc t =>
  (∃ (r : Option Value) (n1 : Nat) (I1 : MI) (G1 : MG) (J1 : MJ), oc = .returned (r.map (cvv K.1)) ∧ Ψ r n1 I1 G1 J1 ∧ n1 = n + M.2.2.2.2.1 ∧ pre n1 = pre n + M.2.2.2.2.2 ∧ Iw K n1 I1 G1 J1 t.heap ∧ ∀ x, 1000 ≤ x → I1 x = I x ∧ G1 x = G x) ∧ va_F (Aw K) st0 t
def rmD (d : Nat) (M : Mt) : Room := { frames := d, cells := M.2.2.2.2.1, slots := M.2.2.2.2.2, locals := d * 64 }
def wsM (M : Mt) : List Cond := Cond.code M.1 M.2.1 M.2.2.1 M.2.2.2.1 :: tb
set_option maxHeartbeats 1000000 in
theorem Met_of {d n : Nat} {M : Mt} {vs : List Value} {I : MI} {G : MG} {J : MJ} {Ψ : Ph} (l : Launch) (K : Pk) (had : Had K) (hpl : plainName M.1.cls = true) (hlen : (ent vs).length ≤ M.2.2.1) (h : Ev d M n 0 (entN M.2.2.1 vs) [] n I G J Ψ) :
    Met l M.1 (wsM M) (rmD d M) (va_Pc (vs.map (cvv K.1)) (PcB K n I G J)) (QcB K M n I G Ψ) M.2.2.2.2.1 M.2.2.2.2.2 (Aw K) := by
  refine Met.ofW (cc := M.2.1) (maxL := M.2.2.1) (ret := M.2.2.2.1) hpl rfl ?_
  intro p e s m args below meth c s₁ B hml hv
  obtain ⟨rfl, hsz, hI, hK, hO, hX⟩ := hv
  have hts := atoms_spec (ws := wsM M) B.pre
  have hown : s.vm.findClass M.1.cls = some m.cls := findClass_of_methodNamed B.named
  have hlocks := B.notSynchronized
  have hnm : meth.name = M.1.name := (name_of_methodNamed B.named B.method).1
  have hr := B.returns
  rw [lg_entry_eq]
  have hC : Cx K M p s m (vs.map (cvv K.1)).toArray meth c := ⟨⟨B.exec, B.bytes, hml, hown, fun w hw => hts w (List.mem_cons_of_mem _ hw)⟩, hr, hlocks, hnm, hK, hX, had⟩
  have hw := h K (I, G) p l e (rmD d M) s m (vs.map (cvv K.1)).toArray below meth c s.heap [] (MQ below (QcB K M n I G Ψ) (vs.map (cvv K.1)).toArray s M.2.2.2.2.1 M.2.2.2.2.2 (Aw K)) _ hC ⟨Nat.le_refl _, Nat.le_refl _, Nat.le_refl _, Nat.le_refl _⟩ hsz hI hO va_S.rf (Lv_ent hlen) ?_
  · rw [Nat.sub_self, Nat.sub_self] at hw
    exact hw
  · intro r n1 I1 G1 J1 H1 locs1 pc1 a1 hΨ hI1 hO1 hS1 hat h1 h2
    have hq : ∀ t : State, t.heap = H1 → s.WarmedH t.vm → QcB K M n I G Ψ (vs.map (cvv K.1)).toArray s (.returned (r.map (cvv K.1))) t := fun t ht hW =>
      ⟨⟨r, n1, I1, G1, J1, rfl, hΨ, h1, h2, by rw [ht]; exact hI1, hO1.2⟩, hS1.F ht⟩
    rcases hat with ⟨v, rfl, hd, hrt⟩ | ⟨v, rfl, hd, hrt⟩ | ⟨rfl, hd, hrt⟩
    · rcases hrt with hrt | ⟨hrt, hnr⟩
      · exact W.iret (v := v) B.exec B.bytes (hr.trans hrt) hq hS1.2.2 hd
      · exact W.zret (v := v) B.exec B.bytes (hr.trans hrt) hnr hq hS1.2.2 hd
    · exact W.lret (v := v) B.exec B.bytes (hr.trans hrt) hq hS1.2.2 hd
    · exact W.vret B.exec B.bytes (hr.trans hrt) hq hS1.2.2 hd
theorem cat_cvv (ad : Nat → Nat) (st : List Value) : ((st.map (cvv ad)).map fun v => v.category).sum = (st.map fun v => v.category).sum := by
  rw [List.map_map]
  congr 1
  exact List.map_congr_left (fun v _ => cvv_cat ad v)
section CALL
variable {d : Nat} {M : Mt} {n0 pc : Nat} {ls : List (Option Value)} {st : List Value} {n : Nat} {I : MI} {G : MG} {J : MJ} {Φ : Ph}
/-- behind a call -/
theorem E_run {M2 : Mt} {Ψ : Ph} {K : Pk} {B : MI × MG} {p : Program} {l : Launch} {e : Env} {R : Room} {s : State} {m : MethodId} {args : Array Value} {below : List Frame} {meth : Method} {c : Code} {H : Heap} {locs : List Loc} {Q : State → Prop} {a : Array Slot} {stk rest : List Value} {as : Array Value}
    (hr : va_Run p l e R s m args below meth c H locs (n - n0) (pre n - pre n0) M2.2.2.2.2.1 M2.2.2.2.2.2 (F0 m pc a stk) (rest.map (cvv K.1)) (QcB K M2 n I G Ψ as) (Aw K))
    (hk : ∀ r n1 I1 G1 J1, Ψ r n1 I1 G1 J1 → Ev d M n0 (pc + 3) ls (r.toList ++ rest) n1 I1 G1 J1 Φ) (hn : n0 ≤ n) (hpn : pre n0 ≤ pre n)
    (hC : Cx K M p s m args meth c) (hR : Rk d M R) (h0 : s.heap.size = K.2.2.2 + n0) (hI : Iw K n I G J H) (hO : Out K B I G s) (hS : va_S (Aw K) s.heap H locs) (hL : Lv K.1 M.2.2.1 ls a) (hQ : Rt K B M n0 Φ p l e R s m args below meth c Q) :
    W p l e R s m args below meth c H locs (n - n0) (pre n - pre n0) Q (F0 m pc a stk) := by
  intro T hT X
  obtain ⟨v, st₀, t, T', L, e0, X', hL2, e1, e2, ⟨⟨r, n1, I1, G1, J1, hv, hΨ, g1, g2, hI1, hag⟩, hz, hkp⟩, stp⟩ := hr T hT X
  cases hv
  rw [e0] at hz hkp
  have hS1 : va_S (Aw K) s.heap T'.heap (locs ++ L) := ⟨Nat.le_trans hS.1 (by rw [e1]; exact hz), fun q h1 h2 => by rw [e1, hkp q (Nat.lt_of_lt_of_le h1 hS.1) h2]; exact hS.2.1 q h1 h2, fun q hq => by
    rcases List.mem_append.mp hq with h | h
    · exact hS.2.2 q h
    · exact hL2 q h⟩
  have hw := hk r n1 I1 G1 J1 hΨ K B p l e R s m args below meth c T'.heap (locs ++ L) Q a hC hR h0 (by rw [e1]; exact hI1) (hO.mem (fun x hx => (hag x hx).1) (fun x hx => (hag x hx).2)) hS1 hL hQ
  rw [show n1 - n0 = n - n0 + M2.2.2.2.2.1 by omega, show pre n1 - pre n0 = pre n - pre n0 + M2.2.2.2.2.2 by omega] at hw
  obtain ⟨t2, a1, b1⟩ := hw T' rfl X'
  refine ⟨t2, stp t2 ?_, b1⟩
  cases r with
  | none => exact a1
  | some w => exact a1
theorem PcB_of {K : Pk} {B : MI × MG} {s : State} {H : Heap} {locs : List Loc} {p : Program} {m : MethodId} {args : Array Value} {meth : Method} {c : Code} (hC : Cx K M p s m args meth c) (h0 : s.heap.size = K.2.2.2 + n0) (hI : Iw K n I G J H) (hO : Out K B I G s) (hS : va_S (Aw K) s.heap H locs) (U : State) (hU : U.heap = H) (hW : s.WarmedH U.vm) : PcB K n I G J U :=
  ⟨by rw [hU]; exact hI.2.1, by rw [hU]; exact hI, va_K.moved hW.alike hC.2.2.2.2.1, hO.move hW.alike (fun q hq => by rw [hU]; exact hS.2.1 q (by omega) (fun z => by unfold Aw at z; omega)), hC.2.2.2.2.2.1.moved hW⟩
theorem PcB_blind {K : Pk} {vs : List Value} : FrameBlind (va_Pc vs (PcB K n I G J)) := by
  intro a U g mk q
  obtain ⟨q0, q1, q2, q3, q4, q5⟩ := q
  exact ⟨q0, q1, q2, va_K.moved (u := U) (U := U.calling g mk a) (Vm.Alike.refl U.vm) q3, q4.move (U := U.calling g mk a) (Vm.Alike.refl U.vm) (fun _ _ => rfl), q5.same rfl⟩
/-- words of a call of an instance method, of a static one, of a constructor -/
def LkV (own : String) (ix : Nat) (M2 : Mt) (w : Nat) : Prop := Cond.methodLink own ix M2.1 ∈ tb ∧ Cond.instanceMethod M2.1 ∈ tb ∧ Cond.selects M2.1.cls M2.1 M2.1 ∈ tb ∧ Cond.initialized M2.1.cls ∈ tb ∧ Cond.code M2.1 M2.2.1 M2.2.2.1 M2.2.2.2.1 ∈ tb ∧ (plainName M2.1.cls = true ∧ M2.1.cls ≠ "java/lang/invoke/MethodHandle" ∧ M2.1.cls ≠ "java/lang/invoke/VarHandle" ∧ (parseMethodDescriptor M2.1.desc).map (fun d => d.parameters.length) = some w) ∧ M2.2.2.1 ≤ 45
def LkS (own : String) (ix : Nat) (M2 : Mt) (w : Nat) : Prop := Cond.methodLink own ix M2.1 ∈ tb ∧ Cond.static M2.1 ∈ tb ∧ Cond.initialized M2.1.cls ∈ tb ∧ Cond.code M2.1 M2.2.1 M2.2.2.1 M2.2.2.2.1 ∈ tb ∧ (plainName M2.1.cls = true ∧ M2.1.cls ≠ "java/lang/invoke/MethodHandle" ∧ M2.1.cls ≠ "java/lang/invoke/VarHandle" ∧ (parseMethodDescriptor M2.1.desc).map (fun d => d.parameters.length) = some w) ∧ M2.2.2.1 ≤ 45
def LkI (own : String) (ix : Nat) (M2 : Mt) (w : Nat) : Prop := (Cond.methodLink own ix M2.1 ∈ tb ∨ (own = RX4 ∧ ((ix = 24 ∧ M2.1 = yX1_init) ∨ (ix = 34 ∧ M2.1 = yX2_init) ∨ (ix = 62 ∧ M2.1 = yX0_init)))) ∧ Cond.instanceMethod M2.1 ∈ tb ∧ Cond.initialized M2.1.cls ∈ tb ∧ Cond.code M2.1 M2.2.1 M2.2.2.1 none ∈ tb ∧ M2.2.2.2.1 = none ∧ M2.1.name = "<init>" ∧ (plainName M2.1.cls = true ∧ M2.1.cls ≠ "java/lang/invoke/MethodHandle" ∧ M2.1.cls ≠ "java/lang/invoke/VarHandle" ∧ (parseMethodDescriptor M2.1.desc).map (fun d => d.parameters.length) = some w) ∧ M2.2.2.1 ≤ 45
theorem Rk_call {d : Nat} {M M2 : Mt} {R : Room} (hR : Rk (d + 1) M R) (h : M2.2.2.1 ≤ 45) : (rmD d M2).frames + 1 ≤ R.frames ∧ 8 + (M2.2.2.1 + 11) + (rmD d M2).locals ≤ R.locals := by
  obtain ⟨h1, h2, -⟩ := hR
  refine ⟨h1, ?_⟩
  show 8 + (M2.2.2.1 + 11) + d * 64 ≤ R.locals
  omega
theorem wsM_good {M2 : Mt} (h : Cond.code M2.1 M2.2.1 M2.2.2.1 M2.2.2.2.1 ∈ tb) : GoodIn tb (wsM M2) := tb_good (fun w hw => (List.mem_cons.mp hw).elim (fun q => q ▸ h) id)
set_option maxHeartbeats 1000000 in
/-- a call of an instance method on cell b -/
theorem E_invv {ix : Nat} (M2 : Mt) (w ci z : Nat) {b : Nat} {As : List Value} {Ψ : Ph} (hd : decode M.2.1 pc = .ok (.invokevirtual ix, 3)) (hw : LkV M.1.cls ix M2 w) (hci : ∃ q, vwCl[ci]? = some q ∧ q.1 = M2.1.cls) (hs : shn n b = (ci, z)) (hA : As.length = w) (hcat : (st.map fun v => v.category).sum ≤ 8) (hn : n0 ≤ n) (hpn : pre n0 ≤ pre n) (hm1 : n - n0 + M2.2.2.2.2.1 ≤ M.2.2.2.2.1) (hm2 : pre n - pre n0 + M2.2.2.2.2.2 ≤ M.2.2.2.2.2) (hlen : (ent (.ref b :: As)).length ≤ M2.2.2.1)
    (h : Ev d M2 n 0 (entN M2.2.2.1 (.ref b :: As)) [] n I G J Ψ) (hk : ∀ r n1 I1 G1 J1, Ψ r n1 I1 G1 J1 → Ev (d + 1) M n0 (pc + 3) ls (r.toList ++ st) n1 I1 G1 J1 Φ) {stk : List Value} (hst : stk = As.reverse ++ .ref b :: st) : Ev (d + 1) M n0 pc ls stk n I G J Φ := by
  intro K B p l e R s m args below meth c H locs Q a hC hR h0 hI hO hS hL hQ
  subst hst
  have had := hC.2.2.2.2.2.2
  obtain ⟨w1, w2, w3, w4, w5, ⟨p1, p2, p3, p4⟩, w6⟩ := hw
  obtain ⟨q, hq, hqc⟩ := hci
  have h6 := cls_6 hq
  obtain ⟨hbn, hbh⟩ := shn_lt hs (by omega)
  have hv : (wsO K n I G J)[b]? = some (K.1 b, .inr (ci, (List.range z).map (fval K.1 I G J ci b))) := (wsO_at hbn).trans (by rw [cel_obj hbh h6])
  have hts := hC.1.2.2.2.2
  have hmet := Met_of l K had p1 hlen h
  have hcw : CallW R s args M.1.cls M2.1.cls ix M2.1 M2.2.1 M2.2.2.1 M2.2.2.2.1 (wsM M2) (rmD d M2) M2.2.2.2.2.1 M2.2.2.2.2.2 w := cwV w hts (tb_good (fun x hx => by
    unfold wsV at hx
    rcases List.mem_append.mp hx with hx | hx
    · simp only [List.mem_cons, List.not_mem_nil, or_false] at hx
      rcases hx with rfl | rfl | rfl | rfl
      · exact w1
      · exact w2
      · exact w3
      · exact w4
    · exact (wsM_good w5 x hx).1)) rfl rfl rfl ⟨rfl, p2, p3, p4⟩ (Rk_call hR w6)
  have hrun := va_runV (g := F0 m pc a ((As.reverse ++ .ref b :: st).map (cvv K.1))) (As := As.map (cvv K.1)) (rest := st.map (cvv K.1)) (H := H) (locs := locs) (cells := n - n0) (slots := pre n - pre n0) (e := e) (below := below) (meth := meth) (l := l) hC.1 hmet hcw ⟨PcB_blind, by rw [← hqc]; exact va_recv hC.2.2.2.2.1 hI.1 hq hv, fun U hU hW => ⟨rfl, PcB_of hC h0 hI hO hS U hU hW⟩⟩ rfl (by rw [List.length_map]; exact hA) (by obtain ⟨lx, h1, -⟩ := hL; exact h1.1) (by simp [cvv]) (lv_room (by rw [cat_cvv]; exact hcat)) hd ⟨Nat.le_trans hm1 hR.2.2.1, Nat.le_trans hm2 hR.2.2.2⟩
  exact E_run hrun hk hn hpn hC hR h0 hI hO hS hL hQ
set_option maxHeartbeats 1000000 in
/-- a call of a static method -/
theorem E_invs {ix : Nat} (M2 : Mt) (w : Nat) {As : List Value} {Ψ : Ph} (hd : decode M.2.1 pc = .ok (.invokestatic ix, 3)) (hw : LkS M.1.cls ix M2 w) (hA : As.length = w) (hcat : (st.map fun v => v.category).sum ≤ 8) (hn : n0 ≤ n) (hpn : pre n0 ≤ pre n) (hm1 : n - n0 + M2.2.2.2.2.1 ≤ M.2.2.2.2.1) (hm2 : pre n - pre n0 + M2.2.2.2.2.2 ≤ M.2.2.2.2.2) (hlen : (ent As).length ≤ M2.2.2.1)
    (h : Ev d M2 n 0 (entN M2.2.2.1 As) [] n I G J Ψ) (hk : ∀ r n1 I1 G1 J1, Ψ r n1 I1 G1 J1 → Ev (d + 1) M n0 (pc + 3) ls (r.toList ++ st) n1 I1 G1 J1 Φ) {stk : List Value} (hst : stk = As.reverse ++ st) : Ev (d + 1) M n0 pc ls stk n I G J Φ := by
  intro K B p l e R s m args below meth c H locs Q a hC hR h0 hI hO hS hL hQ
  subst hst
  have had := hC.2.2.2.2.2.2
  obtain ⟨w1, w2, w4, w5, ⟨p1, p2, p3, p4⟩, w6⟩ := hw
  have hts := hC.1.2.2.2.2
  have hmet := Met_of l K had p1 hlen h
  have hcw := va_cwS (R := R) (own := M.1.cls) (index := ix) (rm := rmD d M2) (mc := M2.2.2.2.2.1) (ms := M2.2.2.2.2.2) w hts (tb_good (ws := va_wsS M.1.cls ix M2.1 (wsM M2)) (fun x hx => by
    unfold va_wsS at hx
    rcases List.mem_append.mp hx with hx | hx
    · simp only [List.mem_cons, List.not_mem_nil, or_false] at hx
      rcases hx with rfl | rfl | rfl
      · exact w1
      · exact w2
      · exact w4
    · exact (wsM_good w5 x hx).1)) rfl rfl rfl ⟨p2, p3, p4⟩ (Rk_call hR w6)
  have hrun := va_runS (g := F0 m pc a ((As.reverse ++ st).map (cvv K.1))) (As := As.map (cvv K.1)) (rest := st.map (cvv K.1)) (H := H) (locs := locs) (cells := n - n0) (slots := pre n - pre n0) (e := e) (below := below) (meth := meth) (l := l) hC.1 hmet hcw ⟨PcB_blind, fun U hU hW => ⟨rfl, PcB_of hC h0 hI hO hS U hU hW⟩⟩ rfl (by rw [List.length_map]; exact hA) (by obtain ⟨lx, h1, -⟩ := hL; exact h1.1) (by simp) (lv_room (by rw [cat_cvv]; exact hcat)) hd ⟨Nat.le_trans hm1 hR.2.2.1, Nat.le_trans hm2 hR.2.2.2⟩
  exact E_run hrun hk hn hpn hC hR h0 hI hO hS hL hQ
set_option maxHeartbeats 1000000 in
/-- a call of a constructor -/
theorem E_invi {ix : Nat} (M2 : Mt) (w : Nat) {b : Nat} {As : List Value} {Ψ : Ph} (hd : decode M.2.1 pc = .ok (.invokespecial ix, 3)) (hw : LkI M.1.cls ix M2 w) (hA : As.length = w) (hcat : (st.map fun v => v.category).sum ≤ 8) (hn : n0 ≤ n) (hpn : pre n0 ≤ pre n) (hm1 : n - n0 + M2.2.2.2.2.1 ≤ M.2.2.2.2.1) (hm2 : pre n - pre n0 + M2.2.2.2.2.2 ≤ M.2.2.2.2.2) (hlen : (ent (.ref b :: As)).length ≤ M2.2.2.1)
    (h : Ev d M2 n 0 (entN M2.2.2.1 (.ref b :: As)) [] n I G J Ψ) (hk : ∀ r n1 I1 G1 J1, Ψ r n1 I1 G1 J1 → Ev (d + 1) M n0 (pc + 3) ls (r.toList ++ st) n1 I1 G1 J1 Φ) {stk : List Value} (hst : stk = As.reverse ++ .ref b :: st) : Ev (d + 1) M n0 pc ls stk n I G J Φ := by
  intro K B p l e R s m args below meth c H locs Q a hC hR h0 hI hO hS hL hQ
  subst hst
  have had := hC.2.2.2.2.2.2
  obtain ⟨w1, w2, w4, w5, w7, w8, ⟨p1, p2, p3, p4⟩, w6⟩ := hw
  have hts := hC.1.2.2.2.2
  have hmet := Met_of l K had p1 hlen h
  have hgd : GoodIn tb (wsM M2) := wsM_good (by rw [w7]; exact w5)
  have hpre : PreS s H (va_Pc ((Value.ref b :: As).map (cvv K.1)) (PcB K n I G J)) (.ref (K.1 b) :: As.map (cvv K.1)) := ⟨PcB_blind, fun U hU hW => ⟨rfl, PcB_of hC h0 hI hO hS U hU hW⟩⟩
  rcases w1 with w1 | ⟨hown, w1⟩
  · have hcw := cwI (R := R) (own := M.1.cls) (index := ix) (ws := wsM M2) (bytes := M2.2.1) (maxL := M2.2.2.1) (rm := rmD d M2) (mc := M2.2.2.2.2.1) (ms := M2.2.2.2.2.2) w hts hgd (by unfold wsM; rw [w7]) rfl rfl (hts _ w4) (hts _ w1) (hts _ w2) w8 ⟨p2, p3, p4⟩ (Rk_call hR w6)
    have hrun := va_runI (g := F0 m pc a ((As.reverse ++ .ref b :: st).map (cvv K.1))) (b := K.1 b) (As := As.map (cvv K.1)) (rest := st.map (cvv K.1)) (H := H) (locs := locs) (cells := n - n0) (slots := pre n - pre n0) (e := e) (below := below) (meth := meth) (l := l) hC.1 hmet hcw hpre rfl (by rw [List.length_map]; exact hA) (by obtain ⟨lx, h1, -⟩ := hL; exact h1.1) (by simp [cvv]) (lv_room (by rw [cat_cvv]; exact hcat)) hd ⟨Nat.le_trans hm1 hR.2.2.1, Nat.le_trans hm2 hR.2.2.2⟩
    exact E_run hrun hk hn hpn hC hR h0 hI hO hS hL hQ
  · have hlk : va_Nw (.methodLinkNest M.1.cls ix M2.1 RX4) s := by
      have hX := hC.2.2.2.2.2.1
      rw [hown]
      rcases w1 with ⟨rfl, e2⟩ | ⟨rfl, e2⟩ | ⟨rfl, e2⟩
      · rw [e2]; exact hX.1
      · rw [e2]; exact hX.2.1
      · rw [e2]; exact hX.2.2.1
    have hcw := va_cnB (R := R) (own := M.1.cls) (index := ix) (ws := wsM M2) (bytes := M2.2.1) (maxL := M2.2.2.1) (ret := none) (rm := rmD d M2) (mc := M2.2.2.2.2.1) (ms := M2.2.2.2.2.2) w hts hgd (by unfold wsM; rw [w7]) rfl rfl hlk (hts _ w4) ⟨p2, p3, p4⟩ (Rk_call hR w6)
    have hrun := va_runIN (g := F0 m pc a ((As.reverse ++ .ref b :: st).map (cvv K.1))) (b := K.1 b) (As := As.map (cvv K.1)) (rest := st.map (cvv K.1)) (H := H) (locs := locs) (cells := n - n0) (slots := pre n - pre n0) (e := e) (below := below) (meth := meth) (l := l) hC.1 hmet ⟨hcw, w8, hts _ w2⟩ hpre rfl (by rw [List.length_map]; exact hA) (by obtain ⟨lx, h1, -⟩ := hL; exact h1.1) (by simp [cvv]) (lv_room (by rw [cat_cvv]; exact hcat)) hd ⟨Nat.le_trans hm1 hR.2.2.1, Nat.le_trans hm2 hR.2.2.2⟩
    exact E_run hrun hk hn hpn hC hR h0 hI hO hS hL hQ
/-- Object's own constructor -/
theorem E_obj {ix b : Nat} (hd : decode M.2.1 pc = .ok (.invokespecial ix, 3)) (hw : Cond.methodLink M.1.cls ix objectInit ∈ tb ∧ Cond.instanceMethod objectInit ∈ tb ∧ Cond.code objectInit ⟨#[0xb1]⟩ 1 none ∈ tb) (hcat : (st.map fun v => v.category).sum ≤ 8) (hdd : 1 ≤ d) (k : Ev d M n0 (pc + 3) ls st n I G J Φ) : Ev d M n0 pc ls (.ref b :: st) n I G J Φ := by
  intro K B p l e R s m args below meth c H locs Q a hC hR h0 hI hO hS hL hQ
  have hts := hC.1.2.2.2.2
  have hlo : 64 ≤ R.locals := by have := hR.2.1; omega
  refine W.objInit hC.1.1 hC.1.2.1 hC.1.2.2.2.1 (hts _ hw.1) (hts _ hw.2.1) (hts _ hw.2.2) rfl (by obtain ⟨lx, h1, -⟩ := hL; exact h1.1.trans hC.1.2.2.1.symm) (a := K.1 b) (rest := st.map (cvv K.1)) rfl hd (by have := hR.1; omega) ?_ (k K B p l e R s m args below meth c H locs Q a hC hR h0 hI hO hS hL hQ)
  have := lv_room (m := m) (pc := pc) (ls := a) (rest := (.ref b :: st).map (cvv K.1)) (st := st.map (cvv K.1)) (by rw [cat_cvv]; exact hcat)
  omega
end CALL
