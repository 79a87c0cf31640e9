/-! ===== the words of the tables that every method carries ===== -/
def tb : List Cond := lw_tbl.filter goodWord
theorem tb_of {i : Nat} {w : Cond} (h : lw_tbl[i]? = some w) (hg : goodWord w = true) : w ∈ tb := List.mem_filter.mpr ⟨List.mem_of_getElem? h, hg⟩
theorem tb_lw {w : Cond} (h : w ∈ tb) : w ∈ lw_tbl := (List.mem_filter.mp h).1
theorem tb_good {ws : List Cond} (h : ∀ w ∈ ws, w ∈ tb) : GoodIn tb ws := fun w hw => ⟨h w hw, good_of_word (List.mem_filter.mp (h w hw)).2⟩
/-! ===== memory: ints, references (numbers of cells), longs, by cell and place ===== -/
abbrev MI : Type := Nat → Nat → Int32
abbrev MG : Type := Nat → Nat → Option Nat
abbrev MJ : Type := Nat → Nat → Int64
/-- a method: name, code, locals, return type, cells and slots that it makes -/
abbrev Mt : Type := MethodName × ByteArray × Nat × Option FieldType × Nat × Nat
/-- where a cell lies; the classes of arrays; classes and slots of objects; the base -/
abbrev Pk : Type := (Nat → Nat) × (Nat → ClassId) × va_G × Nat
/-- the cells in the order in which they are made: kind (0 to 5 the classes of vwCl, 6 int[], 7 char[], 8 boolean[], 9 Moment[], 10 int[][]) and length -/
def shL : List (Nat × Nat) := [(4, 16), (7, 200), (3, 7), (6, 4), (1, 15), (6, 4), (6, 4), (6, 4), (6, 4), (6, 4), (6, 4), (6, 4), (6, 3), (1, 15), (6, 4), (6, 4), (6, 4), (6, 4), (6, 4), (6, 4), (6, 4), (6, 3), (2, 8), (6, 4), (6, 4), (6, 3), (6, 3), (6, 20), (2, 8), (6, 4), (6, 4), (6, 3), (6, 3), (6, 20), (9, 10), (9, 2), (8, 2), (6, 6), (6, 6), (0, 7), (10, 7), (6, 3), (6, 3), (6, 3), (6, 3), (6, 3), (6, 3), (6, 3), (6, 6), (6, 6), (2, 8), (6, 4), (6, 4), (6, 3), (6, 3), (6, 20), (2, 8), (6, 4), (6, 4), (6, 3), (6, 3), (6, 20), (2, 8), (6, 4), (6, 4), (6, 3), (6, 3), (6, 20), (2, 8), (6, 4), (6, 4), (6, 3), (6, 3), (6, 20), (2, 8), (6, 4), (6, 4), (6, 3), (6, 3), (6, 20), (2, 8), (6, 4), (6, 4), (6, 3), (6, 3), (6, 20), (2, 8), (6, 4), (6, 4), (6, 3), (6, 3), (6, 20), (2, 8), (6, 4), (6, 4), (6, 3), (6, 3), (6, 20), (2, 8), (6, 4), (6, 4), (6, 3), (6, 3), (6, 20), (2, 8), (6, 4), (6, 4), (6, 3), (6, 3), (6, 20), (2, 8), (6, 4), (6, 4), (6, 3), (6, 3), (6, 20), (2, 8), (6, 4), (6, 4), (6, 3), (6, 3), (6, 20), (5, 33), (6, 1400), (8, 2), (6, 8), (6, 8), (6, 8), (6, 8), (6, 8), (6, 8), (6, 8), (6, 6), (6, 200), (6, 6), (6, 6)]
def shp (c : Nat) : Nat × Nat := shL.getD c (99, 0)
def pre (n : Nat) : Nat := ((shL.take n).map (fun q => q.2)).sum
def fkL : List (List Nat) := [[1, 1, 1, 0, 0, 0, 0], [0, 1, 1, 1, 1, 0, 1, 1, 1, 0, 1, 0, 0, 0, 0], [0, 0, 1, 1, 1, 1, 1, 0], [1, 1, 0, 0, 0, 0, 0], [1, 0, 1, 1, 1, 1, 1, 1, 0, 1, 1, 1, 1, 0, 1, 2], [1, 1, 1, 1, 1, 1, 1, 1, 1, 1, 0, 0, 0, 0, 0, 0, 0, 0, 0, 0, 0, 1, 0, 0, 0, 0, 0, 0, 0, 1, 1, 0, 2]]
def fkd (ci k : Nat) : Nat := (fkL.getD ci []).getD k 0
/-- the shape of a cell that has been made -/
def shn (n c : Nat) : Nat × Nat := if c < n then shp c else (99, 0)
theorem shn_lt {n c k z : Nat} (h : shn n c = (k, z)) (hk : k < 99) : c < n ∧ shp c = (k, z) := by
  unfold shn at h
  split at h
  · exact ⟨by assumption, h⟩
  · cases h; omega
def cvv (ad : Nat → Nat) (v : Value) : Value := match v with
  | .ref k => .ref (ad k)
  | w => w
theorem cvv_cat (ad : Nat → Nat) (v : Value) : (cvv ad v).category = v.category := by cases v <;> rfl
theorem cvv_rf (ad : Nat → Nat) (r : Option Nat) : va_rf (r.map ad) = cvv ad (va_rf r) := by cases r <;> rfl
def fval (ad : Nat → Nat) (I : MI) (G : MG) (J : MJ) (ci c k : Nat) : Value :=
  if fkd ci k = 0 then .int (I c k) else if fkd ci k = 1 then va_rf ((G c k).map ad) else .long (J c k)
def celE (K : Pk) (I : MI) (G : MG) (J : MJ) (c : Nat) : va_E :=
  if (shp c).1 < 6 then .inr ((shp c).1, (List.range (shp c).2).map (fval K.1 I G J (shp c).1 c))
  else if (shp c).1 < 9 then .inl (K.2.1 ((shp c).1 - 6), (shp c).2, .inl (I c))
  else .inl (K.2.1 ((shp c).1 - 6), (shp c).2, .inr (.inr (.inr (.inr (fun i => (G c i).map K.1)))))
def wsO (K : Pk) (n : Nat) (I : MI) (G : MG) (J : MJ) : va_W := (List.range n).map (fun c => (K.1 c, celE K I G J c))
def Aw (K : Pk) : Nat → Prop := fun q => K.2.2.2 ≤ q
def u2 {α : Type} (f : Nat → Nat → α) (c k : Nat) (v : α) : Nat → Nat → α := fun x y => if x = c ∧ y = k then v else f x y
theorem u2_at {α : Type} (f : Nat → Nat → α) (c k : Nat) (v : α) : u2 f c k v c k = v := if_pos ⟨rfl, rfl⟩
theorem u2_row {α : Type} (f : Nat → Nat → α) {c x : Nat} (k : Nat) (v : α) (h : x ≠ c) : u2 f c k v x = f x := funext fun y => if_neg fun q => h q.1
theorem u2_ne {α : Type} (f : Nat → Nat → α) {c k x y : Nat} (v : α) (h : ¬ (x = c ∧ y = k)) : u2 f c k v x y = f x y := if_neg h
theorem u2_upd (f : MI) (c k : Nat) (v : Int32) : u2 f c k v c = upd (f c) k v := funext fun y => by simp [u2, upd]
theorem u2_up {α : Type} (f : Nat → Nat → α) (c k : Nat) (v : α) : u2 f c k v c = va_up (f c) k v := funext fun y => by simp [u2, va_up]
/-- row c replaced -/
def ur {α : Type} (f : Nat → Nat → α) (c : Nat) (r : Nat → α) : Nat → Nat → α := fun x => if x = c then r else f x
theorem ur_at {α : Type} (f : Nat → Nat → α) (c : Nat) (r : Nat → α) : ur f c r c = r := if_pos rfl
theorem ur_ne {α : Type} (f : Nat → Nat → α) {c x : Nat} (r : Nat → α) (h : x ≠ c) : ur f c r x = f x := if_neg h
theorem celE_congr {K : Pk} {I I' : MI} {G G' : MG} {J J' : MJ} {x : Nat} (h1 : I' x = I x) (h2 : G' x = G x) (h3 : J' x = J x) : celE K I' G' J' x = celE K I G J x := by
  unfold celE fval
  rw [h1, h2, h3]
theorem wsO_at {K : Pk} {n c : Nat} {I : MI} {G : MG} {J : MJ} (h : c < n) : (wsO K n I G J)[c]? = some (K.1 c, celE K I G J c) := by
  simp [wsO, h]
theorem wsO_set {K : Pk} {n c : Nat} {I I' : MI} {G G' : MG} {J J' : MJ} (h : c < n) (h1 : ∀ x, x ≠ c → I' x = I x) (h2 : ∀ x, x ≠ c → G' x = G x) (h3 : ∀ x, x ≠ c → J' x = J x) : (wsO K n I G J).set c (K.1 c, celE K I' G' J' c) = wsO K n I' G' J' := by
  apply List.ext_getElem?
  intro i
  by_cases hi : i = c
  · subst hi
    rw [List.getElem?_set_self (by simp [wsO, h]), wsO_at h]
  · rw [List.getElem?_set_ne (Ne.symm hi)]
    by_cases hl : i < n
    · rw [wsO_at hl, wsO_at hl, celE_congr (h1 i hi) (h2 i hi) (h3 i hi)]
    · rw [List.getElem?_eq_none (by simp [wsO]; omega), List.getElem?_eq_none (by simp [wsO]; omega)]
theorem wsO_succ {K : Pk} {n : Nat} {I I' : MI} {G G' : MG} {J J' : MJ} {e : va_E} (h1 : ∀ x, x < n → I' x = I x) (h2 : ∀ x, x < n → G' x = G x) (h3 : ∀ x, x < n → J' x = J x) (he : celE K I' G' J' n = e) : wsO K n I G J ++ [(K.1 n, e)] = wsO K (n + 1) I' G' J' := by
  subst he
  unfold wsO
  rw [List.range_succ, List.map_append]
  congr 1
  apply List.map_congr_left
  intro x hx
  have hx := List.mem_range.mp hx
  rw [celE_congr (h1 x hx) (h2 x hx) (h3 x hx)]
def Had (K : Pk) : Prop := ∀ k, k < 1000 → K.1 k = K.2.2.2 + k
theorem wsO_D {K : Pk} {n : Nat} {I : MI} {G : MG} {J : MJ} (h : Had K) (hn : n ≤ 1000) : va_D (Aw K) (wsO K n I G J) := by
  have key : ∀ (k : Nat) (q : Nat × va_E), (wsO K n I G J)[k]? = some q → k < n ∧ q.1 = K.2.2.2 + k := by
    intro k q hk
    have hl : k < n := by
      have := (List.getElem?_eq_some_iff.mp hk).1
      simpa [wsO] using this
    rw [wsO_at hl] at hk
    cases hk
    exact ⟨hl, h k (by omega)⟩
  refine ⟨fun i j p q hi hj e => ?_, fun k q hk => ?_⟩
  · have h1 := key i p hi
    have h2 := key j q hj
    omega
  · have h1 := key k q hk
    unfold Aw
    omega
/-- the heap holds the first n cells, and nothing behind them -/
def Iw (K : Pk) (n : Nat) (I : MI) (G : MG) (J : MJ) (H : Heap) : Prop := va_P K.2.2.1 vwCl (wsO K n I G J) H ∧ H.size = K.2.2.2 + n ∧ n ≤ 1000
/-- the script (1000) and the four static rows (1001 ..): ints that nobody writes; their lengths stand in G -/
def oul (G : MG) (c : Nat) : Nat := (G c 0).getD 0
def Ou0 (K : Pk) (B : MI × MG) (s : State) : Prop :=
  (∀ c, 1000 ≤ c → c < 1005 → va_T .int (K.1 c) (oul B.2 c) (fun j => .int (B.1 c j)) (Aw K) s s.heap ∧ K.1 c < K.2.2.2) ∧
  va_Z "DuskStones" "KIND_ABOVE" "[I" (.ref (K.1 1001)) (Aw K) s s.heap ∧ va_Z "DuskStones" "KIND_TRACE" "[I" (.ref (K.1 1002)) (Aw K) s s.heap ∧
  va_Z "DuskStones$Reader" "HILL_LEAST" "[I" (.ref (K.1 1003)) (Aw K) s s.heap ∧ va_Z "DuskStones$Reader" "HILL_MOST" "[I" (.ref (K.1 1004)) (Aw K) s s.heap
/-- .. as at the method's start (B) -/
def Out (K : Pk) (B : MI × MG) (I : MI) (G : MG) (s : State) : Prop := Ou0 K B s ∧ ∀ x, 1000 ≤ x → I x = B.1 x ∧ G x = B.2 x
theorem Out.mem {K : Pk} {B : MI × MG} {I I' : MI} {G G' : MG} {s : State} (h : Out K B I G s) (h1 : ∀ x, 1000 ≤ x → I' x = I x) (h2 : ∀ x, 1000 ≤ x → G' x = G x) : Out K B I' G' s :=
  ⟨h.1, fun x hx => ⟨(h1 x hx).trans (h.2 x hx).1, (h2 x hx).trans (h.2 x hx).2⟩⟩
theorem Out.cell {K : Pk} {B : MI × MG} {I : MI} {G : MG} {s : State} (h : Out K B I G s) (c : Nat) (h1 : 1000 ≤ c) (h2 : c < 1005) : va_T .int (K.1 c) (oul G c) (fun j => .int (I c j)) (Aw K) s s.heap ∧ K.1 c < K.2.2.2 := by
  have q := h.1.1 c h1 h2
  obtain ⟨e1, e2⟩ := h.2 c h1
  unfold oul at q ⊢
  rw [e1, e2]
  exact q
theorem Out.move {K : Pk} {B : MI × MG} {I : MI} {G : MG} {s U : State} (h : Out K B I G s) (hvm : s.vm.Alike U.vm) (hq : ∀ a : Nat, a < K.2.2.2 → U.heap[a]? = s.heap[a]?) : Out K (I, G) I G U := by
  have hz : ∀ a : Nat, a < s.heap.size → ¬ Aw K a → U.heap[a]? = s.heap[a]? := fun a _ h2 => hq a (Nat.not_le.mp h2)
  obtain ⟨-, z1, z2, z3, z4⟩ := h.1
  refine ⟨⟨fun c a b => ?_, (z1.kept hz).moved hvm, (z2.kept hz).moved hvm, (z3.kept hz).moved hvm, (z4.kept hz).moved hvm⟩, fun _ _ => ⟨rfl, rfl⟩⟩
  have q := h.cell c a b
  exact ⟨(q.1.kept hz).moved hvm, q.2⟩
def tyK (K : Pk) : List (ClassId × FieldType) := [(K.2.1 0, .int), (K.2.1 1, .char), (K.2.1 2, .boolean), (K.2.1 3, .object RX2), (K.2.1 4, .array .int)]
/-- words that don't ride with the others -/
def Xw (s : State) : Prop := va_Nw (.methodLinkNest RX4 24 yX1_init RX4) s ∧ va_Nw (.methodLinkNest RX4 34 yX2_init RX4) s ∧ va_Nw (.methodLinkNest RX4 62 yX0_init RX4) s ∧ (Cond.arrayOver (.object RX2)).before #[] s = true ∧ (Cond.arrayOver (.array .int)).before #[] s = true
def Cx (K : Pk) (M : Mt) (p : Program) (s : State) (m : MethodId) (args : Array Value) (meth : Method) (c : Code) : Prop :=
  CallFix p m c M.2.1 M.2.2.1 s args tb M.1.cls ∧ meth.sig.returnType = M.2.2.2.1 ∧ meth.locks = false ∧ meth.name = M.1.name ∧ va_K K.2.2.1 vwCl (tyK K) s ∧ Xw s ∧ Had K
def Rk (d : Nat) (M : Mt) (R : Room) : Prop := d ≤ R.frames ∧ d * 64 ≤ R.locals ∧ M.2.2.2.2.1 ≤ R.cells ∧ M.2.2.2.2.2 ≤ R.slots
/-- the locals: what the list knows, the frame holds -/
def Lv (ad : Nat → Nat) (N : Nat) (ls : List (Option Value)) (a : Array Slot) : Prop := ∃ l, lv_has a N l ∧ ls.length = N ∧ ∀ (k : Nat) (v : Value), ls[k]? = some (some v) → (k, cvv ad v) ∈ l
def RetAt (M : Mt) (pc : Nat) (r : Option Value) : Prop :=
  (∃ v : Int32, r = some (.int v) ∧ decode M.2.1 pc = .ok (.ireturn, 1) ∧ (M.2.2.2.1 = some .int ∨ (M.2.2.2.1 = some .boolean ∧ narrow .boolean (.int v) = .int v))) ∨
  (∃ v : Int64, r = some (.long v) ∧ decode M.2.1 pc = .ok (.lreturn, 1) ∧ M.2.2.2.1 = some .long) ∨ (r = none ∧ decode M.2.1 pc = .ok (.return_, 1) ∧ M.2.2.2.1 = none)
abbrev Ph : Type := Option Value → Nat → MI → MG → MJ → Prop
def Rt (K : Pk) (B : MI × MG) (M : Mt) (n0 : Nat) (Φ : Ph) (p : Program) (l : Launch) (e : Env) (R : Room) (s : State) (m : MethodId) (args : Array Value) (below : List Frame) (meth : Method) (c : Code) (Q : State → Prop) : Prop :=
  ∀ (r : Option Value) (n1 : Nat) (I1 : MI) (G1 : MG) (J1 : MJ) (H1 : Heap) (locs1 : List Loc) (pc1 : Nat) (a1 : Array Slot), Φ r n1 I1 G1 J1 → Iw K n1 I1 G1 J1 H1 → Out K B I1 G1 s → va_S (Aw K) s.heap H1 locs1 → RetAt M pc1 r → n1 = n0 + M.2.2.2.2.1 → pre n1 = pre n0 + M.2.2.2.2.2 →
    W p l e R s m args below meth c H1 locs1 M.2.2.2.2.1 M.2.2.2.2.2 Q (F0 m pc1 a1 (r.toList.map (cvv K.1)))
/-- THE JUDGEMENT: at depth d, in method M that was entered with n0 cells, from pc, locals, stack and memory on the machine comes to the method's end, and there Φ holds of answer and memory -/
def Ev (d : Nat) (M : Mt) (n0 pc : Nat) (ls : List (Option Value)) (st : List Value) (n : Nat) (I : MI) (G : MG) (J : MJ) (Φ : Ph) : Prop :=
  ∀ (K : Pk) (B : MI × MG) (p : Program) (l : Launch) (e : Env) (R : Room) (s : State) (m : MethodId) (args : Array Value) (below : List Frame) (meth : Method) (c : Code) (H : Heap) (locs : List Loc) (Q : State → Prop) (a : Array Slot),
    Cx K M p s m args meth c → Rk d M R → s.heap.size = K.2.2.2 + n0 → Iw K n I G J H → Out K B I G s → va_S (Aw K) s.heap H locs → Lv K.1 M.2.2.1 ls a → Rt K B M n0 Φ p l e R s m args below meth c Q →
    W p l e R s m args below meth c H locs (n - n0) (pre n - pre n0) Q (F0 m pc a (st.map (cvv K.1)))
theorem Ev.mono {d d' : Nat} {M : Mt} {n0 pc : Nat} {ls : List (Option Value)} {st : List Value} {n : Nat} {I : MI} {G : MG} {J : MJ} {Φ : Ph} (h : d ≤ d') (k : Ev d M n0 pc ls st n I G J Φ) : Ev d' M n0 pc ls st n I G J Φ :=
  fun K B p l e R s m args below meth c H locs Q a hC hR => k K B p l e R s m args below meth c H locs Q a hC ⟨Nat.le_trans h hR.1, Nat.le_trans (Nat.mul_le_mul_right 64 h) hR.2.1, hR.2.2⟩
theorem Ev.post {d : Nat} {M : Mt} {n0 pc : Nat} {ls : List (Option Value)} {st : List Value} {n : Nat} {I : MI} {G : MG} {J : MJ} {Φ Ψ : Ph} (h : ∀ r n I G J, Φ r n I G J → Ψ r n I G J) (k : Ev d M n0 pc ls st n I G J Φ) : Ev d M n0 pc ls st n I G J Ψ :=
  fun K B p l e R s m args below meth c H locs Q a hC hR h0 hI hO hS hL hQ => k K B p l e R s m args below meth c H locs Q a hC hR h0 hI hO hS hL (fun r n1 I1 G1 J1 H1 l1 pc1 a1 q => hQ r n1 I1 G1 J1 H1 l1 pc1 a1 (h _ _ _ _ _ q))
/-- a step that only the stack and the pc feel -/
theorem Ev.of {d : Nat} {M : Mt} {n0 pc pc' : Nat} {ls : List (Option Value)} {st st' : List Value} {n : Nat} {I : MI} {G : MG} {J : MJ} {Φ : Ph}
    (h : ∀ (K : Pk) (B : MI × MG) (p : Program) (l : Launch) (e : Env) (R : Room) (s : State) (m : MethodId) (args : Array Value) (below : List Frame) (meth : Method) (c : Code) (H : Heap) (locs : List Loc) (cells slots : Nat) (Q : State → Prop) (a : Array Slot), Cx K M p s m args meth c → Lv K.1 M.2.2.1 ls a → W p l e R s m args below meth c H locs cells slots Q (F0 m pc' a (st'.map (cvv K.1))) → W p l e R s m args below meth c H locs cells slots Q (F0 m pc a (st.map (cvv K.1))))
    (k : Ev d M n0 pc' ls st' n I G J Φ) : Ev d M n0 pc ls st n I G J Φ :=
  fun K B p l e R s m args below meth c H locs Q a hC hR h0 hI hO hS hL hQ => h K B p l e R s m args below meth c H locs _ _ Q a hC hL (k K B p l e R s m args below meth c H locs Q a hC hR h0 hI hO hS hL hQ)
theorem Lv.at {ad : Nat → Nat} {N : Nat} {ls : List (Option Value)} {a : Array Slot} (h : Lv ad N ls a) {k : Nat} {v : Value} (hk : ls[k]? = some (some v)) : a[k]? = some (.val (cvv ad v)) := by
  obtain ⟨l, h1, -, h2⟩ := h
  exact h1.2.2 _ (h2 k v hk)
/-- what a store of one word leaves of the locals -/
def sto (ls : List (Option Value)) (i : Nat) (v : Value) : List (Option Value) := (match i with
  | 0 => ls
  | j + 1 => match ls.getD j none with
    | some w => if w.category = 2 then ls.set j none else ls
    | none => ls).set i (some v)
def sto2 (ls : List (Option Value)) (i : Nat) (v : Value) : List (Option Value) := (sto ls i v).set (i + 1) none
theorem sto_len (ls : List (Option Value)) (i : Nat) (v : Value) : (sto ls i v).length = ls.length := by
  unfold sto
  split
  · simp
  · split
    · split <;> simp
    · simp
theorem sto_get {ls : List (Option Value)} {i k : Nat} {v w : Value} (h : (sto ls i v)[k]? = some (some w)) : (k = i ∧ w = v) ∨ (k ≠ i ∧ ls[k]? = some (some w) ∧ ¬ (k + 1 = i ∧ w.category = 2)) := by
  by_cases hk : k = i
  · subst hk
    refine Or.inl ⟨rfl, ?_⟩
    unfold sto at h
    have hl := (List.getElem?_eq_some_iff.mp h).1
    rw [List.length_set] at hl
    rw [List.getElem?_set_self hl] at h
    cases h
    rfl
  · refine Or.inr ⟨hk, ?_⟩
    unfold sto at h
    rw [List.getElem?_set_ne (Ne.symm hk)] at h
    cases i with
    | zero => exact ⟨h, fun q => by omega⟩
    | succ j =>
      dsimp only at h
      cases hj : ls.getD j none with
      | none =>
        rw [hj] at h
        refine ⟨h, fun q => ?_⟩
        have e : k = j := by omega
        subst e
        rw [List.getD_eq_getElem?_getD, h] at hj
        cases hj
      | some u =>
        rw [hj] at h
        dsimp only at h
        by_cases hu : u.category = 2
        · rw [if_pos hu] at h
          by_cases e : k = j
          · subst e
            have hl := (List.getElem?_eq_some_iff.mp h).1
            rw [List.length_set] at hl
            rw [List.getElem?_set_self hl] at h
            cases h
          · rw [List.getElem?_set_ne (Ne.symm e)] at h
            exact ⟨h, fun q => by omega⟩
        · rw [if_neg hu] at h
          refine ⟨h, fun q => ?_⟩
          have e : k = j := by omega
          subst e
          rw [List.getD_eq_getElem?_getD, h] at hj
          cases hj
          exact hu q.2
/-- a step that stores into a local -/
theorem Lv_sto {ad : Nat → Nat} {N i : Nat} {ls : List (Option Value)} {a : Array Slot} {v : Value} {l : List (Nat × Value)} (hl : ls.length = N) (h2 : ∀ (k : Nat) (v : Value), ls[k]? = some (some v) → (k, cvv ad v) ∈ l)
    (h : lv_has a N ((i, cvv ad v) :: l.filter (fun q => !(q.1 == i) && !(q.1 + 1 == i && q.2.category == 2)))) : Lv ad N (sto ls i v) a := by
  refine ⟨_, h, (sto_len ls i v).trans hl, fun k w hk => ?_⟩
  rcases sto_get hk with ⟨rfl, rfl⟩ | ⟨q1, q2, q3⟩
  · exact List.mem_cons_self
  · refine List.mem_cons_of_mem _ (List.mem_filter.mpr ⟨h2 k w q2, ?_⟩)
    simp only [cvv_cat, Bool.and_eq_true, Bool.not_eq_true', beq_eq_false_iff_ne, ne_eq, Bool.and_eq_false_iff]
    refine ⟨q1, ?_⟩
    by_cases e : k + 1 = i
    · exact Or.inr (fun z => q3 ⟨e, z⟩)
    · exact Or.inl e
theorem Lv_sto2 {ad : Nat → Nat} {N i : Nat} {ls : List (Option Value)} {a : Array Slot} {v : Value} {l : List (Nat × Value)} (hl : ls.length = N) (h2 : ∀ (k : Nat) (v : Value), ls[k]? = some (some v) → (k, cvv ad v) ∈ l)
    (h : lv_has a N ((i, cvv ad v) :: l.filter (fun q => !(q.1 == i) && (!(q.1 == i + 1) && !(q.1 + 1 == i && q.2.category == 2))))) : Lv ad N (sto2 ls i v) a := by
  refine ⟨_, h, by unfold sto2; rw [List.length_set, sto_len, hl], fun k w hk => ?_⟩
  unfold sto2 at hk
  have hne : k ≠ i + 1 := by
    intro e
    subst e
    have hl2 := (List.getElem?_eq_some_iff.mp hk).1
    rw [List.length_set] at hl2
    rw [List.getElem?_set_self hl2] at hk
    cases hk
  rw [List.getElem?_set_ne (Ne.symm hne)] at hk
  rcases sto_get hk with ⟨rfl, rfl⟩ | ⟨q1, q2, q3⟩
  · exact List.mem_cons_self
  · refine List.mem_cons_of_mem _ (List.mem_filter.mpr ⟨h2 k w q2, ?_⟩)
    simp only [cvv_cat, Bool.and_eq_true, Bool.not_eq_true', beq_eq_false_iff_ne, ne_eq, Bool.and_eq_false_iff]
    refine ⟨q1, hne, ?_⟩
    by_cases e : k + 1 = i
    · exact Or.inr (fun z => q3 ⟨e, z⟩)
    · exact Or.inl e
