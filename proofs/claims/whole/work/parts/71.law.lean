/-! ===== calls by which the script stays ===== -/
section CALL2
variable {d : Nat} {M : Mt} {n0 pc : Nat} {ls : List (Option Value)} {st : List Value} {n : Nat} {I : MI} {G : MG} {J : MJ} {Φ : Ph}
/-- behind a call -/
theorem E_run2 {M2 : Mt} {Ψ : Ph} {K : Pk} {B : MI × MG} {p : Program} {l : Launch} {e : Env} {R : Room} {s : State} {m : MethodId} {args : Array Value} {below : List Frame} {meth : Method} {c : Code} {H : Heap} {locs : List Loc} {Q : State → Prop} {a : Array Slot} {stk rest : List Value} {as : Array Value}
    (hr : va_Run p l e R s m args below meth c H locs (n - n0) (pre n - pre n0) M2.2.2.2.2.1 M2.2.2.2.2.2 (F0 m pc a stk) (rest.map (cvv K.1)) (QcB K M2 n I G Ψ as) (Aw K))
    (hk : ∀ r n1 I1 G1 J1, Ψ r n1 I1 G1 J1 → (∀ x, 1000 ≤ x → I1 x = I x ∧ G1 x = G x) → Ev d M n0 (pc + 3) ls (r.toList ++ rest) n1 I1 G1 J1 Φ) (hn : n0 ≤ n) (hpn : pre n0 ≤ pre n)
    (hC : Cx K M p s m args meth c) (hR : Rk d M R) (h0 : s.heap.size = K.2.2.2 + n0) (hI : Iw K n I G J H) (hO : Out K B I G s) (hS : va_S (Aw K) s.heap H locs) (hL : Lv K.1 M.2.2.1 ls a) (hQ : Rt K B M n0 Φ p l e R s m args below meth c Q) :
    W p l e R s m args below meth c H locs (n - n0) (pre n - pre n0) Q (F0 m pc a stk) := by
  intro T hT X
  obtain ⟨v, st₀, t, T', L, e0, X', hL2, e1, e2, ⟨⟨r, n1, I1, G1, J1, hv, hΨ, g1, g2, hI1, hag⟩, hz, hkp⟩, stp⟩ := hr T hT X
  cases hv
  rw [e0] at hz hkp
  have hS1 : va_S (Aw K) s.heap T'.heap (locs ++ L) := ⟨Nat.le_trans hS.1 (by rw [e1]; exact hz), fun q h1 h2 => by rw [e1, hkp q (Nat.lt_of_lt_of_le h1 hS.1) h2]; exact hS.2.1 q h1 h2, fun q hq => by
    rcases List.mem_append.mp hq with h | h
    · exact hS.2.2 q h
    · exact hL2 q h⟩
  have hw := hk r n1 I1 G1 J1 hΨ hag K B p l e R s m args below meth c T'.heap (locs ++ L) Q a hC hR h0 (by rw [e1]; exact hI1) (hO.mem (fun x hx => (hag x hx).1) (fun x hx => (hag x hx).2)) hS1 hL hQ
  rw [show n1 - n0 = n - n0 + M2.2.2.2.2.1 by omega, show pre n1 - pre n0 = pre n - pre n0 + M2.2.2.2.2.2 by omega] at hw
  obtain ⟨t2, a1, b1⟩ := hw T' rfl X'
  refine ⟨t2, stp t2 ?_, b1⟩
  cases r with
  | none => exact a1
  | some w => exact a1
set_option maxHeartbeats 1000000 in
/-- a call of an instance method on cell b -/
theorem E_invv2 {ix : Nat} (M2 : Mt) (w ci z : Nat) {b : Nat} {As : List Value} {Ψ : Ph} (hd : decode M.2.1 pc = .ok (.invokevirtual ix, 3)) (hw : LkV M.1.cls ix M2 w) (hci : ∃ q, vwCl[ci]? = some q ∧ q.1 = M2.1.cls) (hs : shn n b = (ci, z)) (hA : As.length = w) (hcat : (st.map fun v => v.category).sum ≤ 8) (hn : n0 ≤ n) (hpn : pre n0 ≤ pre n) (hm1 : n - n0 + M2.2.2.2.2.1 ≤ M.2.2.2.2.1) (hm2 : pre n - pre n0 + M2.2.2.2.2.2 ≤ M.2.2.2.2.2) (hlen : (ent (.ref b :: As)).length ≤ M2.2.2.1)
    (h : Ev d M2 n 0 (entN M2.2.2.1 (.ref b :: As)) [] n I G J Ψ) (hk : ∀ r n1 I1 G1 J1, Ψ r n1 I1 G1 J1 → (∀ x, 1000 ≤ x → I1 x = I x ∧ G1 x = G x) → Ev (d + 1) M n0 (pc + 3) ls (r.toList ++ st) n1 I1 G1 J1 Φ) {stk : List Value} (hst : stk = As.reverse ++ .ref b :: st) : Ev (d + 1) M n0 pc ls stk n I G J Φ := by
  intro K B p l e R s m args below meth c H locs Q a hC hR h0 hI hO hS hL hQ
  subst hst
  have had := hC.2.2.2.2.2.2
  obtain ⟨w1, w2, w3, w4, w5, ⟨p1, p2, p3, p4⟩, w6⟩ := hw
  obtain ⟨q, hq, hqc⟩ := hci
  have h6 := cls_6 hq
  obtain ⟨hbn, hbh⟩ := shn_lt hs (by omega)
  have hv : (wsO K n I G J)[b]? = some (K.1 b, .inr (ci, (List.range z).map (fval K.1 I G J ci b))) := (wsO_at hbn).trans (by rw [cel_obj hbh h6])
  have hts := hC.1.2.2.2.2
  have hmet := Met_of l K had p1 hlen h
  have hcw : CallW R s args M.1.cls M2.1.cls ix M2.1 M2.2.1 M2.2.2.1 M2.2.2.2.1 (wsM M2) (rmD d M2) M2.2.2.2.2.1 M2.2.2.2.2.2 w := cwV w hts (tb_good (fun x hx => by
    unfold wsV at hx
    rcases List.mem_append.mp hx with hx | hx
    · simp only [List.mem_cons, List.not_mem_nil, or_false] at hx
      rcases hx with rfl | rfl | rfl | rfl
      · exact w1
      · exact w2
      · exact w3
      · exact w4
    · exact (wsM_good w5 x hx).1)) rfl rfl rfl ⟨rfl, p2, p3, p4⟩ (Rk_call hR w6)
  have hrun := va_runV (g := F0 m pc a ((As.reverse ++ .ref b :: st).map (cvv K.1))) (As := As.map (cvv K.1)) (rest := st.map (cvv K.1)) (H := H) (locs := locs) (cells := n - n0) (slots := pre n - pre n0) (e := e) (below := below) (meth := meth) (l := l) hC.1 hmet hcw ⟨PcB_blind, by rw [← hqc]; exact va_recv hC.2.2.2.2.1 hI.1 hq hv, fun U hU hW => ⟨rfl, PcB_of hC h0 hI hO hS U hU hW⟩⟩ rfl (by rw [List.length_map]; exact hA) (by obtain ⟨lx, h1, -⟩ := hL; exact h1.1) (by simp [cvv]) (lv_room (by rw [cat_cvv]; exact hcat)) hd ⟨Nat.le_trans hm1 hR.2.2.1, Nat.le_trans hm2 hR.2.2.2⟩
  exact E_run2 hrun hk hn hpn hC hR h0 hI hO hS hL hQ
end CALL2
/-! ===== the law: one comparison ===== -/
abbrev lsL (i : Nat) : List (Option Value) := [some (.ref 1000), some (.ref 0), some (.ref 122), some (.int (nI i))]
theorem P2.mono {I : MI} {G : MG} {d d' : Nat} {M : Mt} {ls : List (Option Value)} {r : Option Value} {n : Nat} {I' : MI} {G' : MG} {J' : MJ} (h : d ≤ d') (k : P2 I G d M ls r n I' G' J') : P2 I G d' M ls r n I' G' J' := ⟨k.1, k.2.1, k.2.2.mono h⟩
theorem P2l.mono {I : MI} {G : MG} {d d' : Nat} {M : Mt} {ls : List (Option Value)} {r : Option Value} {n : Nat} {I' : MI} {G' : MG} {J' : MJ} (h : d ≤ d') (k : P2l I G d M ls r n I' G' J') : P2l I G d' M ls r n I' G' J' := ⟨k.1, k.2.1, k.2.2.mono h⟩
theorem pre136 : pre 0 ≤ pre 136 ∧ pre 136 - pre 0 + 0 ≤ 2689 := by decide +kernel
section LAW1
variable {d : Nat} {I : MI} {G : MG} {J : MJ} {Φ : Ph} {st : List Value} {i N P : Nat}
theorem la_arg {z : Int} (k : Nat) (h1 : decode cL_law P = .ok (.aload_n 0, 1)) (h2 : decode cL_law (P + 1) = .ok (.iload_n 3, 1)) (h3 : decode cL_law (P + 1 + 1) = .ok (.iconst z, 1)) (h4 : decode cL_law (P + 1 + 1 + 1) = .ok (.iadd, 1)) (h5 : decode cL_law (P + 1 + 1 + 1 + 1) = .ok (.iaload, 1)) (hz : Int32.ofInt z = nI k) (hN : oul G 1000 = N) (hi : i + k < N) (hb : N ≤ 320) (kk : Ev d mL_law 0 (P + 1 + 1 + 1 + 1 + 1) (lsL i) (.int (I 1000 (i + k)) :: st) 136 I G J Φ) : Ev d mL_law 0 P (lsL i) st 136 I G J Φ := by
  refine E_aload_n 0 h1 rfl rfl ?_
  refine E_iload_n 3 h2 rfl rfl ?_
  refine E_iconst (nI k) h3 hz ?_
  refine E_iadd h4 ?_
  rw [nI_add]
  refine E_ou 1000 (i + k) h5 (by decide) (by decide) (by rw [hN]; exact vp_in_nI hi (by omega)) (nI_clamp (by omega)) ?_
  exact kk
/-- the object's call, then the reference's (what is laid between them is given), then the comparison -/
theorem la_two {ixX ixM : Nat} {MX MM : Mt} {As : List Value} {w Q : Nat} {off : Int} (hx : LkV RL ixX MX w) (hm : LkV RL ixM MM w) (cx : MX.1.cls = RX4) (cm : MM.1.cls = RX5) (zx : MX.2.2.2.2.1 = 0 ∧ MX.2.2.2.2.2 = 0) (zm : MM.2.2.2.2.1 = 0 ∧ MM.2.2.2.2.2 = 0) (hA : As.length = w) (lx : (ent (.ref 0 :: As)).length ≤ MX.2.2.1) (lm : (ent (.ref 122 :: As)).length ≤ MM.2.2.1) (d1 : decode cL_law P = .ok (.invokevirtual ixX, 3)) (d2 : decode cL_law (P + 3) = .ok (.aload_n 2, 1)) (d3 : decode cL_law Q = .ok (.invokevirtual ixM, 3)) (d4 : decode cL_law (Q + 3) = .ok (.if_icmp .eq off, 3)) (ho : ((Q + 3 : Nat) : Int) + off = (802 : Nat))
    (args : ∀ (I1 : MI) (G1 : MG) (J1 : MJ) (v : Int32), (∀ x, 1000 ≤ x → I1 x = I x ∧ G1 x = G x) → Ev (d + 1) mL_law 0 Q (lsL i) (As.reverse ++ .ref 122 :: [.int v]) 136 I1 G1 J1 Φ → Ev (d + 1) mL_law 0 (P + 3 + 1) (lsL i) (.ref 122 :: [.int v]) 136 I1 G1 J1 Φ)
    (h : Ev d MX 136 0 (entN MX.2.2.1 (.ref 0 :: As)) [] 136 I G J (P2 I G d MM (entN MM.2.2.1 (.ref 122 :: As))))
    (kk : ∀ (I' : MI) (G' : MG) (J' : MJ), Kp I G I' G' → (∃ a L T, SR I' G' J' a L T) → Ev (d + 1) mL_law 0 802 (lsL i) [] 136 I' G' J' Φ) : Ev (d + 1) mL_law 0 P (lsL i) (As.reverse ++ .ref 0 :: []) 136 I G J Φ := by
  refine E_invv2 (M := mL_law) (pc := P) (As := As) (st := []) MX w 4 16 d1 hx ⟨_, rfl, cx.symm⟩ (shn_of (by decide) (by decide +kernel)) hA (by decide) (by decide) pre136.1 (by rw [zx.1]; decide) (by rw [zx.2]; exact pre136.2) lx h ?_ rfl
  rintro r n1 I1 G1 J1 ⟨rfl, ⟨v, rfl⟩, hev⟩ hag
  refine E_aload_n 2 d2 rfl rfl ?_
  refine args I1 G1 J1 v hag ?_
  refine E_invv (M := mL_law) (pc := Q) (As := As) (st := [.int v]) MM w 5 33 d3 hm ⟨_, rfl, cm.symm⟩ (shn_of (by decide) (by decide +kernel)) hA (Nat.le_of_ble_eq_true rfl) (by decide) pre136.1 (by rw [zm.1]; decide) (by rw [zm.2]; exact pre136.2) lm hev ?_ rfl
  rintro r n2 I2 G2 J2 ⟨rfl, rfl, hk, hs⟩
  refine E_icmp_eq 802 d4 ho (fun _ => kk I2 G2 J2 hk hs) (fun z => absurd rfl z)
theorem la_twl {ixX ixM : Nat} {MX MM : Mt} {As : List Value} {w Q : Nat} {off : Int} (hx : LkV RL ixX MX w) (hm : LkV RL ixM MM w) (cx : MX.1.cls = RX4) (cm : MM.1.cls = RX5) (zx : MX.2.2.2.2.1 = 0 ∧ MX.2.2.2.2.2 = 0) (zm : MM.2.2.2.2.1 = 0 ∧ MM.2.2.2.2.2 = 0) (hA : As.length = w) (lx : (ent (.ref 0 :: As)).length ≤ MX.2.2.1) (lm : (ent (.ref 122 :: As)).length ≤ MM.2.2.1) (d1 : decode cL_law P = .ok (.invokevirtual ixX, 3)) (d2 : decode cL_law (P + 3) = .ok (.aload_n 2, 1)) (d3 : decode cL_law Q = .ok (.invokevirtual ixM, 3)) (d4 : decode cL_law (Q + 3) = .ok (.lcmp, 1)) (d5 : decode cL_law (Q + 3 + 1) = .ok (.ifCond .eq off, 3)) (ho : ((Q + 3 + 1 : Nat) : Int) + off = (802 : Nat))
    (args : ∀ (I1 : MI) (G1 : MG) (J1 : MJ) (v : Int64), (∀ x, 1000 ≤ x → I1 x = I x ∧ G1 x = G x) → Ev (d + 1) mL_law 0 Q (lsL i) (As.reverse ++ .ref 122 :: [.long v]) 136 I1 G1 J1 Φ → Ev (d + 1) mL_law 0 (P + 3 + 1) (lsL i) (.ref 122 :: [.long v]) 136 I1 G1 J1 Φ)
    (h : Ev d MX 136 0 (entN MX.2.2.1 (.ref 0 :: As)) [] 136 I G J (P2l I G d MM (entN MM.2.2.1 (.ref 122 :: As))))
    (kk : ∀ (I' : MI) (G' : MG) (J' : MJ), Kp I G I' G' → (∃ a L T, SR I' G' J' a L T) → Ev (d + 1) mL_law 0 802 (lsL i) [] 136 I' G' J' Φ) : Ev (d + 1) mL_law 0 P (lsL i) (As.reverse ++ .ref 0 :: []) 136 I G J Φ := by
  refine E_invv2 (M := mL_law) (pc := P) (As := As) (st := []) MX w 4 16 d1 hx ⟨_, rfl, cx.symm⟩ (shn_of (by decide) (by decide +kernel)) hA (by decide) (by decide) pre136.1 (by rw [zx.1]; decide) (by rw [zx.2]; exact pre136.2) lx h ?_ rfl
  rintro r n1 I1 G1 J1 ⟨rfl, ⟨v, rfl⟩, hev⟩ hag
  refine E_aload_n 2 d2 rfl rfl ?_
  refine args I1 G1 J1 v hag ?_
  refine E_invv (M := mL_law) (pc := Q) (As := As) (st := [.long v]) MM w 5 33 d3 hm ⟨_, rfl, cm.symm⟩ (shn_of (by decide) (by decide +kernel)) hA (Nat.le_of_ble_eq_true rfl) (by decide) pre136.1 (by rw [zm.1]; decide) (by rw [zm.2]; exact pre136.2) lm hev ?_ rfl
  rintro r n2 I2 G2 J2 ⟨rfl, rfl, hk, hs⟩
  refine E_lcmp d4 ?_
  refine E_if_eq 802 d5 ho (fun _ => kk I2 G2 J2 hk hs) (fun z => absurd ?_ z)
  rw [cmp_eq0]
end LAW1
