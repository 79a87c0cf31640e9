def momL : List Nat := [22, 28, 50, 56, 62, 68, 74, 80, 86, 92, 98, 104, 110, 116]
def lndL : List Nat := [4, 13]
def isM (c : Nat) : Prop := c ∈ momL
def isL (c : Nat) : Prop := c ∈ lndL
def refT : List (Nat × Nat × Nat) := [(22, 2, 23), (22, 3, 24), (22, 4, 25), (22, 5, 26), (22, 6, 27), (28, 2, 29), (28, 3, 30), (28, 4, 31), (28, 5, 32), (28, 6, 33), (50, 2, 51), (50, 3, 52), (50, 4, 53), (50, 5, 54), (50, 6, 55), (56, 2, 57), (56, 3, 58), (56, 4, 59), (56, 5, 60), (56, 6, 61), (62, 2, 63), (62, 3, 64), (62, 4, 65), (62, 5, 66), (62, 6, 67), (68, 2, 69), (68, 3, 70), (68, 4, 71), (68, 5, 72), (68, 6, 73), (74, 2, 75), (74, 3, 76), (74, 4, 77), (74, 5, 78), (74, 6, 79), (80, 2, 81), (80, 3, 82), (80, 4, 83), (80, 5, 84), (80, 6, 85), (86, 2, 87), (86, 3, 88), (86, 4, 89), (86, 5, 90), (86, 6, 91), (92, 2, 93), (92, 3, 94), (92, 4, 95), (92, 5, 96), (92, 6, 97), (98, 2, 99), (98, 3, 100), (98, 4, 101), (98, 5, 102), (98, 6, 103), (104, 2, 105), (104, 3, 106), (104, 4, 107), (104, 5, 108), (104, 6, 109), (110, 2, 111), (110, 3, 112), (110, 4, 113), (110, 5, 114), (110, 6, 115), (116, 2, 117), (116, 3, 118), (116, 4, 119), (116, 5, 120), (116, 6, 121), (4, 1, 5), (4, 2, 6), (4, 3, 7), (4, 4, 8), (4, 6, 9), (4, 7, 10), (4, 8, 11), (4, 10, 12), (13, 1, 14), (13, 2, 15), (13, 3, 16), (13, 4, 17), (13, 6, 18), (13, 7, 19), (13, 8, 20), (13, 10, 21), (0, 0, 1), (0, 2, 2), (0, 5, 22), (0, 6, 28), (0, 7, 34), (0, 9, 35), (0, 10, 36), (0, 11, 37), (0, 12, 38), (0, 14, 39), (2, 0, 1), (2, 1, 3), (39, 0, 40), (39, 1, 48), (39, 2, 49), (35, 0, 110), (35, 1, 116), (40, 0, 41), (40, 1, 42), (40, 2, 43), (40, 3, 44), (40, 4, 45), (40, 5, 46), (40, 6, 47), (122, 0, 123), (122, 1, 124), (122, 2, 125), (122, 3, 126), (122, 4, 127), (122, 5, 128), (122, 6, 129), (122, 7, 130), (122, 8, 131), (122, 9, 132), (122, 21, 133), (122, 29, 134), (122, 30, 135)]
/-- the references that never change -/
def WG (G : MG) : Prop := ∀ q ∈ refT, G q.1 q.2.1 = some q.2.2
section WGS
variable {G : MG} {c : Nat}
theorem sM0_ : ∀ c ∈ momL, shn 136 (c + 0) = (2, 8) := by decide +kernel
theorem sM0 (h : isM c) : shn 136 c = (2, 8) := sM0_ c h
theorem sM1_ : ∀ c ∈ momL, shn 136 (c + 1) = (6, 4) := by decide +kernel
theorem sM1 (h : isM c) : shn 136 (c + 1) = (6, 4) := sM1_ c h
theorem sM2_ : ∀ c ∈ momL, shn 136 (c + 2) = (6, 4) := by decide +kernel
theorem sM2 (h : isM c) : shn 136 (c + 2) = (6, 4) := sM2_ c h
theorem sM3_ : ∀ c ∈ momL, shn 136 (c + 3) = (6, 3) := by decide +kernel
theorem sM3 (h : isM c) : shn 136 (c + 3) = (6, 3) := sM3_ c h
theorem sM4_ : ∀ c ∈ momL, shn 136 (c + 4) = (6, 3) := by decide +kernel
theorem sM4 (h : isM c) : shn 136 (c + 4) = (6, 3) := sM4_ c h
theorem sM5_ : ∀ c ∈ momL, shn 136 (c + 5) = (6, 20) := by decide +kernel
theorem sM5 (h : isM c) : shn 136 (c + 5) = (6, 20) := sM5_ c h
theorem gM2_ : ∀ c ∈ momL, (c, 2, c + 1) ∈ refT := by decide +kernel
theorem gM2 (hG : WG G) (h : isM c) : G c 2 = some (c + 1) := hG _ (gM2_ c h)
theorem gM3_ : ∀ c ∈ momL, (c, 3, c + 2) ∈ refT := by decide +kernel
theorem gM3 (hG : WG G) (h : isM c) : G c 3 = some (c + 2) := hG _ (gM3_ c h)
theorem gM4_ : ∀ c ∈ momL, (c, 4, c + 3) ∈ refT := by decide +kernel
theorem gM4 (hG : WG G) (h : isM c) : G c 4 = some (c + 3) := hG _ (gM4_ c h)
theorem gM5_ : ∀ c ∈ momL, (c, 5, c + 4) ∈ refT := by decide +kernel
theorem gM5 (hG : WG G) (h : isM c) : G c 5 = some (c + 4) := hG _ (gM5_ c h)
theorem gM6_ : ∀ c ∈ momL, (c, 6, c + 5) ∈ refT := by decide +kernel
theorem gM6 (hG : WG G) (h : isM c) : G c 6 = some (c + 5) := hG _ (gM6_ c h)
theorem sL0_ : ∀ c ∈ lndL, shn 136 (c + 0) = (1, 15) := by decide +kernel
theorem sL0 (h : isL c) : shn 136 c = (1, 15) := sL0_ c h
theorem sL1_ : ∀ c ∈ lndL, shn 136 (c + 1) = (6, 4) := by decide +kernel
theorem sL1 (h : isL c) : shn 136 (c + 1) = (6, 4) := sL1_ c h
theorem sL2_ : ∀ c ∈ lndL, shn 136 (c + 2) = (6, 4) := by decide +kernel
theorem sL2 (h : isL c) : shn 136 (c + 2) = (6, 4) := sL2_ c h
theorem sL3_ : ∀ c ∈ lndL, shn 136 (c + 3) = (6, 4) := by decide +kernel
theorem sL3 (h : isL c) : shn 136 (c + 3) = (6, 4) := sL3_ c h
theorem sL4_ : ∀ c ∈ lndL, shn 136 (c + 4) = (6, 4) := by decide +kernel
theorem sL4 (h : isL c) : shn 136 (c + 4) = (6, 4) := sL4_ c h
theorem sL5_ : ∀ c ∈ lndL, shn 136 (c + 5) = (6, 4) := by decide +kernel
theorem sL5 (h : isL c) : shn 136 (c + 5) = (6, 4) := sL5_ c h
theorem sL6_ : ∀ c ∈ lndL, shn 136 (c + 6) = (6, 4) := by decide +kernel
theorem sL6 (h : isL c) : shn 136 (c + 6) = (6, 4) := sL6_ c h
theorem sL7_ : ∀ c ∈ lndL, shn 136 (c + 7) = (6, 4) := by decide +kernel
theorem sL7 (h : isL c) : shn 136 (c + 7) = (6, 4) := sL7_ c h
theorem sL8_ : ∀ c ∈ lndL, shn 136 (c + 8) = (6, 3) := by decide +kernel
theorem sL8 (h : isL c) : shn 136 (c + 8) = (6, 3) := sL8_ c h
theorem gL1_ : ∀ c ∈ lndL, (c, 1, c + 1) ∈ refT := by decide +kernel
theorem gL1 (hG : WG G) (h : isL c) : G c 1 = some (c + 1) := hG _ (gL1_ c h)
theorem gL2_ : ∀ c ∈ lndL, (c, 2, c + 2) ∈ refT := by decide +kernel
theorem gL2 (hG : WG G) (h : isL c) : G c 2 = some (c + 2) := hG _ (gL2_ c h)
theorem gL3_ : ∀ c ∈ lndL, (c, 3, c + 3) ∈ refT := by decide +kernel
theorem gL3 (hG : WG G) (h : isL c) : G c 3 = some (c + 3) := hG _ (gL3_ c h)
theorem gL4_ : ∀ c ∈ lndL, (c, 4, c + 4) ∈ refT := by decide +kernel
theorem gL4 (hG : WG G) (h : isL c) : G c 4 = some (c + 4) := hG _ (gL4_ c h)
theorem gL6_ : ∀ c ∈ lndL, (c, 6, c + 5) ∈ refT := by decide +kernel
theorem gL6 (hG : WG G) (h : isL c) : G c 6 = some (c + 5) := hG _ (gL6_ c h)
theorem gL7_ : ∀ c ∈ lndL, (c, 7, c + 6) ∈ refT := by decide +kernel
theorem gL7 (hG : WG G) (h : isL c) : G c 7 = some (c + 6) := hG _ (gL7_ c h)
theorem gL8_ : ∀ c ∈ lndL, (c, 8, c + 7) ∈ refT := by decide +kernel
theorem gL8 (hG : WG G) (h : isL c) : G c 8 = some (c + 7) := hG _ (gL8_ c h)
theorem gL10_ : ∀ c ∈ lndL, (c, 10, c + 8) ∈ refT := by decide +kernel
theorem gL10 (hG : WG G) (h : isL c) : G c 10 = some (c + 8) := hG _ (gL10_ c h)
theorem wg_0_0 (hG : WG G) : G 0 0 = some 1 := hG (0, 0, 1) (by decide +kernel)
theorem wg_0_2 (hG : WG G) : G 0 2 = some 2 := hG (0, 2, 2) (by decide +kernel)
theorem wg_0_5 (hG : WG G) : G 0 5 = some 22 := hG (0, 5, 22) (by decide +kernel)
theorem wg_0_6 (hG : WG G) : G 0 6 = some 28 := hG (0, 6, 28) (by decide +kernel)
theorem wg_0_7 (hG : WG G) : G 0 7 = some 34 := hG (0, 7, 34) (by decide +kernel)
theorem wg_0_9 (hG : WG G) : G 0 9 = some 35 := hG (0, 9, 35) (by decide +kernel)
theorem wg_0_10 (hG : WG G) : G 0 10 = some 36 := hG (0, 10, 36) (by decide +kernel)
theorem wg_0_11 (hG : WG G) : G 0 11 = some 37 := hG (0, 11, 37) (by decide +kernel)
theorem wg_0_12 (hG : WG G) : G 0 12 = some 38 := hG (0, 12, 38) (by decide +kernel)
theorem wg_0_14 (hG : WG G) : G 0 14 = some 39 := hG (0, 14, 39) (by decide +kernel)
theorem wg_2_0 (hG : WG G) : G 2 0 = some 1 := hG (2, 0, 1) (by decide +kernel)
theorem wg_2_1 (hG : WG G) : G 2 1 = some 3 := hG (2, 1, 3) (by decide +kernel)
theorem wg_39_0 (hG : WG G) : G 39 0 = some 40 := hG (39, 0, 40) (by decide +kernel)
theorem wg_39_1 (hG : WG G) : G 39 1 = some 48 := hG (39, 1, 48) (by decide +kernel)
theorem wg_39_2 (hG : WG G) : G 39 2 = some 49 := hG (39, 2, 49) (by decide +kernel)
theorem wg_35_0 (hG : WG G) : G 35 0 = some 110 := hG (35, 0, 110) (by decide +kernel)
theorem wg_35_1 (hG : WG G) : G 35 1 = some 116 := hG (35, 1, 116) (by decide +kernel)
theorem wg_40_0 (hG : WG G) : G 40 0 = some 41 := hG (40, 0, 41) (by decide +kernel)
theorem wg_40_1 (hG : WG G) : G 40 1 = some 42 := hG (40, 1, 42) (by decide +kernel)
theorem wg_40_2 (hG : WG G) : G 40 2 = some 43 := hG (40, 2, 43) (by decide +kernel)
theorem wg_40_3 (hG : WG G) : G 40 3 = some 44 := hG (40, 3, 44) (by decide +kernel)
theorem wg_40_4 (hG : WG G) : G 40 4 = some 45 := hG (40, 4, 45) (by decide +kernel)
theorem wg_40_5 (hG : WG G) : G 40 5 = some 46 := hG (40, 5, 46) (by decide +kernel)
theorem wg_40_6 (hG : WG G) : G 40 6 = some 47 := hG (40, 6, 47) (by decide +kernel)
theorem wg_122_0 (hG : WG G) : G 122 0 = some 123 := hG (122, 0, 123) (by decide +kernel)
theorem wg_122_1 (hG : WG G) : G 122 1 = some 124 := hG (122, 1, 124) (by decide +kernel)
theorem wg_122_2 (hG : WG G) : G 122 2 = some 125 := hG (122, 2, 125) (by decide +kernel)
theorem wg_122_3 (hG : WG G) : G 122 3 = some 126 := hG (122, 3, 126) (by decide +kernel)
theorem wg_122_4 (hG : WG G) : G 122 4 = some 127 := hG (122, 4, 127) (by decide +kernel)
theorem wg_122_5 (hG : WG G) : G 122 5 = some 128 := hG (122, 5, 128) (by decide +kernel)
theorem wg_122_6 (hG : WG G) : G 122 6 = some 129 := hG (122, 6, 129) (by decide +kernel)
theorem wg_122_7 (hG : WG G) : G 122 7 = some 130 := hG (122, 7, 130) (by decide +kernel)
theorem wg_122_8 (hG : WG G) : G 122 8 = some 131 := hG (122, 8, 131) (by decide +kernel)
theorem wg_122_9 (hG : WG G) : G 122 9 = some 132 := hG (122, 9, 132) (by decide +kernel)
theorem wg_122_21 (hG : WG G) : G 122 21 = some 133 := hG (122, 21, 133) (by decide +kernel)
theorem wg_122_29 (hG : WG G) : G 122 29 = some 134 := hG (122, 29, 134) (by decide +kernel)
theorem wg_122_30 (hG : WG G) : G 122 30 = some 135 := hG (122, 30, 135) (by decide +kernel)
theorem wg_40 (hG : WG G) {j : Nat} (h : j < 7) : G 40 j = some (41 + j) := by
  have : ∀ j, j < 7 → (40, j, 41 + j) ∈ refT := by decide +kernel
  exact hG _ (this j h)
theorem sh_4x : ∀ j, j < 7 → shn 136 (41 + j) = (6, 3) := by decide +kernel
theorem wg_35 (hG : WG G) {j : Nat} (h : j < 2) : G 35 j = some (110 + 6 * j) := by
  have : ∀ j, j < 2 → (35, j, 110 + 6 * j) ∈ refT := by decide +kernel
  exact hG _ (this j h)
theorem isM_img {j : Nat} (h : j < 2) : isM (110 + 6 * j) := by
  have : ∀ j, j < 2 → 110 + 6 * j ∈ momL := by decide +kernel
  exact this j h
theorem isM_22 : isM 22 := by unfold isM; decide
theorem isM_28 : isM 28 := by unfold isM; decide
theorem isL_4 : isL 4 := by unfold isL; decide
theorem isL_13 : isL 13 := by unfold isL; decide
theorem isM_lt (h : isM c) : 22 ≤ c ∧ c < 117 := by
  have : ∀ c ∈ momL, 22 ≤ c ∧ c < 117 := by decide +kernel
  exact this c h
theorem isL_or (h : isL c) : c = 4 ∨ c = 13 := by
  have : ∀ c ∈ lndL, c = 4 ∨ c = 13 := by decide +kernel
  exact this c h
theorem WG_lnd (hG : WG G) {s : Nat} (hs : s = 3 ∨ s = 4) (v : Option Nat) : WG (u2 G 0 s v) := by
  have h0 : ∀ q ∈ refT, ¬ (q.1 = 0 ∧ (q.2.1 = 3 ∨ q.2.1 = 4)) := by decide +kernel
  intro q hq
  rw [u2_ne _ _ (fun z => h0 q hq ⟨z.1, by rcases hs with rfl | rfl; exact Or.inl z.2; exact Or.inr z.2⟩)]
  exact hG q hq
theorem WG_past (hG : WG G) {s : Nat} (v : Option Nat) : WG (u2 G 34 s v) := by
  have h0 : ∀ q ∈ refT, ¬ q.1 = 34 := by decide +kernel
  intro q hq
  rw [u2_ne _ _ (fun z => h0 q hq z.1)]
  exact hG q hq
end WGS
/-- fewer known locals -/
def wk : List (Option Value) → List (Option Value) → Prop
  | [], [] => True
  | _ :: l, none :: l2 => wk l l2
  | a :: l, some v :: l2 => a = some v ∧ wk l l2
  | _, _ => False
theorem wk_at : ∀ {l l2 : List (Option Value)}, wk l l2 → l2.length = l.length ∧ ∀ (k : Nat) (v : Value), l2[k]? = some (some v) → l[k]? = some (some v)
  | [], [], _ => ⟨rfl, fun k v h => h⟩
  | [], _ :: _, h => h.elim
  | _ :: _, [], h => h.elim
  | a :: l, none :: l2, h => by
    obtain ⟨h1, h2⟩ := wk_at (l := l) (l2 := l2) h
    refine ⟨by simp [h1], fun k v hk => ?_⟩
    cases k with
    | zero => simp at hk
    | succ k => simp only [List.getElem?_cons_succ] at hk ⊢; exact h2 k v hk
  | a :: l, some w :: l2, h => by
    obtain ⟨rfl, h⟩ := h
    obtain ⟨h1, h2⟩ := wk_at (l := l) (l2 := l2) h
    refine ⟨by simp [h1], fun k v hk => ?_⟩
    cases k with
    | zero => exact hk
    | succ k => simp only [List.getElem?_cons_succ] at hk ⊢; exact h2 k v hk
theorem E_wk {d : Nat} {M : Mt} {n0 pc : Nat} {ls ls2 : List (Option Value)} {st : List Value} {n : Nat} {I : MI} {G : MG} {J : MJ} {Φ : Ph} (hw : wk ls ls2) (k : Ev d M n0 pc ls2 st n I G J Φ) : Ev d M n0 pc ls st n I G J Φ := by
  intro K B p l e R s m args below meth c H locs Q a hC hR h0 hI hO hS hL hQ
  obtain ⟨lx, h1, h2, h3⟩ := hL
  obtain ⟨w1, w2⟩ := wk_at hw
  exact k K B p l e R s m args below meth c H locs Q a hC hR h0 hI hO hS ⟨lx, h1, w1.trans h2, fun k v hk => h3 k v (w2 k v hk)⟩ hQ
/-- a field whose content is known -/
theorem E_getw {d : Nat} {M : Mt} {n0 pc : Nat} {ls : List (Option Value)} {st : List Value} {n : Nat} {I : MI} {G : MG} {J : MJ} {Φ : Ph} {ix : Nat} (ci k c z : Nat) (v : Int32) (hd : decode M.2.1 pc = .ok (.getfield ix, 3)) (hf : FL M.1.cls ix ci k) (hk : fkd ci k = 0) (hs : shn n c = (ci, z)) (hv : I c k = v) (kk : Ev d M n0 (pc + 3) ls (.int v :: st) n I G J Φ) : Ev d M n0 pc ls (.ref c :: st) n I G J Φ := by
  subst hv
  exact E_geti ci k c z hd hf hk hs kk
theorem E_awi {d : Nat} {M : Mt} {n0 pc : Nat} {ls : List (Option Value)} {st : List Value} {n : Nat} {I : MI} {G : MG} {J : MJ} {Φ : Ph} {i : Int32} (c z j : Nat) (v : Int32) (hd : decode M.2.1 pc = .ok (.iaload, 1)) (hs : shn n c = (6, z)) (hin : vp_in i z) (hj : i.toNatClampNeg = j) (hv : I c j = v) (k : Ev d M n0 (pc + 1) ls (.int v :: st) n I G J Φ) : Ev d M n0 pc ls (.int i :: .ref c :: st) n I G J Φ := by
  subst hv
  exact E_ia c z j hd hs hin hj k
theorem E_awc {d : Nat} {M : Mt} {n0 pc : Nat} {ls : List (Option Value)} {st : List Value} {n : Nat} {I : MI} {G : MG} {J : MJ} {Φ : Ph} {i : Int32} (c z j : Nat) (v : Int32) (hd : decode M.2.1 pc = .ok (.caload, 1)) (hs : shn n c = (7, z)) (hin : vp_in i z) (hj : i.toNatClampNeg = j) (hv : I c j = v) (k : Ev d M n0 (pc + 1) ls (.int v :: st) n I G J Φ) : Ev d M n0 pc ls (.int i :: .ref c :: st) n I G J Φ := by
  subst hv
  exact E_ca c z j hd hs hin hj k
theorem E_awb {d : Nat} {M : Mt} {n0 pc : Nat} {ls : List (Option Value)} {st : List Value} {n : Nat} {I : MI} {G : MG} {J : MJ} {Φ : Ph} {i : Int32} (c z j : Nat) (v : Int32) (hd : decode M.2.1 pc = .ok (.baload, 1)) (hs : shn n c = (8, z)) (hin : vp_in i z) (hj : i.toNatClampNeg = j) (hv : I c j = v) (k : Ev d M n0 (pc + 1) ls (.int v :: st) n I G J Φ) : Ev d M n0 pc ls (.int i :: .ref c :: st) n I G J Φ := by
  subst hv
  exact E_za c z j hd hs hin hj k
