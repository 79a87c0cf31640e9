section RULES
variable {d : Nat} {M : Mt} {n0 pc : Nat} {ls : List (Option Value)} {st : List Value} {n : Nat} {I : MI} {G : MG} {J : MJ} {Φ : Ph}
theorem E_iconst {z : Int} (v : Int32) (hd : decode M.2.1 pc = .ok (.iconst z, 1)) (hv : Int32.ofInt z = v) (k : Ev d M n0 (pc + 1) ls (.int v :: st) n I G J Φ) : Ev d M n0 (pc) ls (st) n I G J Φ :=
  Ev.of (fun K B p l e R s m args below meth c H locs cells slots Q a hC hL k => lv_iconst (v := v) hC.1.1 hC.1.2.1 hd hv k) k
theorem E_bipush {z : Int} (v : Int32) (hd : decode M.2.1 pc = .ok (.bipush z, 2)) (hv : (Int8.ofInt z).toInt32 = v) (k : Ev d M n0 (pc + 2) ls (.int v :: st) n I G J Φ) : Ev d M n0 (pc) ls (st) n I G J Φ :=
  Ev.of (fun K B p l e R s m args below meth c H locs cells slots Q a hC hL k => lv_bipush (v := v) hC.1.1 hC.1.2.1 hd hv k) k
theorem E_sipush {z : Int} (v : Int32) (hd : decode M.2.1 pc = .ok (.sipush z, 3)) (hv : (Int16.ofInt z).toInt32 = v) (k : Ev d M n0 (pc + 3) ls (.int v :: st) n I G J Φ) : Ev d M n0 (pc) ls (st) n I G J Φ :=
  Ev.of (fun K B p l e R s m args below meth c H locs cells slots Q a hC hL k => lv_sipush (v := v) hC.1.1 hC.1.2.1 hd hv k) k
theorem E_lconst {z : Fin 2} (v : Int64) (hd : decode M.2.1 pc = .ok (.lconst z, 1)) (hv : Int64.ofNat (z : Nat) = v) (k : Ev d M n0 (pc + 1) ls (.long v :: st) n I G J Φ) : Ev d M n0 (pc) ls (st) n I G J Φ :=
  Ev.of (fun K B p l e R s m args below meth c H locs cells slots Q a hC hL k => lv_lconst (v := v) hC.1.1 hC.1.2.1 hd hv k) k
theorem E_ldc {ix : Nat} (v : Int32) (hd : decode M.2.1 pc = .ok (.ldc ix, 2)) (hw : Cond.constant M.1.cls ix v ∈ tb) (k : Ev d M n0 (pc + 2) ls (.int v :: st) n I G J Φ) : Ev d M n0 (pc) ls (st) n I G J Φ :=
  Ev.of (fun K B p l e R s m args below meth c H locs cells slots Q a hC hL k => lv_ldc hC.1.1 hC.1.2.1 hC.1.2.2.2.1 (hC.1.2.2.2.2 _ hw) hd k) k
theorem E_ldcw {ix : Nat} (v : Int32) (hd : decode M.2.1 pc = .ok (.ldc_w ix, 3)) (hw : Cond.constant M.1.cls ix v ∈ tb) (k : Ev d M n0 (pc + 3) ls (.int v :: st) n I G J Φ) : Ev d M n0 (pc) ls (st) n I G J Φ :=
  Ev.of (fun K B p l e R s m args below meth c H locs cells slots Q a hC hL k => lv_ldcw hC.1.1 hC.1.2.1 hC.1.2.2.2.1 (hC.1.2.2.2.2 _ hw) hd k) k
theorem E_ldc2 {ix : Nat} (v : Int64) (hd : decode M.2.1 pc = .ok (.ldc2_w ix, 3)) (hw : Cond.constantLong M.1.cls ix v ∈ tb) (k : Ev d M n0 (pc + 3) ls (.long v :: st) n I G J Φ) : Ev d M n0 (pc) ls (st) n I G J Φ :=
  Ev.of (fun K B p l e R s m args below meth c H locs cells slots Q a hC hL k => lv_ldc2 hC.1.1 hC.1.2.1 hC.1.2.2.2.1 (hC.1.2.2.2.2 _ hw) hd k) k
theorem E_iload_n {q : Fin 4} (i : Nat) {x : Int32} (hd : decode M.2.1 pc = .ok (.iload_n q, 1)) (hi : (q : Nat) = i) (hl : ls[i]? = some (some (.int x))) (k : Ev d M n0 (pc + 1) ls (.int x :: st) n I G J Φ) : Ev d M n0 (pc) ls (st) n I G J Φ :=
  Ev.of (fun K B p l e R s m args below meth c H locs cells slots Q a hC hL k => lv_iload_n hC.1.1 hC.1.2.1 hd hi (hL.at hl) k) k
theorem E_iload {i : Nat} {x : Int32} (hd : decode M.2.1 pc = .ok (.iload i, 2)) (hl : ls[i]? = some (some (.int x))) (k : Ev d M n0 (pc + 2) ls (.int x :: st) n I G J Φ) : Ev d M n0 (pc) ls (st) n I G J Φ :=
  Ev.of (fun K B p l e R s m args below meth c H locs cells slots Q a hC hL k => lv_iload hC.1.1 hC.1.2.1 hd (hL.at hl) k) k
theorem E_istore_n {q : Fin 4} (i : Nat) {x : Int32} (hd : decode M.2.1 pc = .ok (.istore_n q, 1)) (hi : (q : Nat) = i) (hn : i < M.2.2.1) (k : Ev d M n0 (pc + 1) (sto ls i (.int x)) (st) n I G J Φ) : Ev d M n0 (pc) ls (.int x :: st) n I G J Φ := by
  intro K B p l e R s m args below meth c H locs Q a hC hR h0 hI hO hS hL hQ
  obtain ⟨lx, h1, h2, h3⟩ := hL
  refine lv_istore_n hC.1.1 hC.1.2.1 hd hi h1 hn rfl (fun a2 hl2 => ?_)
  exact k K B p l e R s m args below meth c H locs Q a2 hC hR h0 hI hO hS (Lv_sto (v := .int x) h2 h3 hl2) hQ
theorem E_istore {i : Nat} {x : Int32} (hd : decode M.2.1 pc = .ok (.istore i, 2)) (hn : i < M.2.2.1) (k : Ev d M n0 (pc + 2) (sto ls i (.int x)) (st) n I G J Φ) : Ev d M n0 (pc) ls (.int x :: st) n I G J Φ := by
  intro K B p l e R s m args below meth c H locs Q a hC hR h0 hI hO hS hL hQ
  obtain ⟨lx, h1, h2, h3⟩ := hL
  refine lv_istore hC.1.1 hC.1.2.1 hd h1 hn rfl (fun a2 hl2 => ?_)
  exact k K B p l e R s m args below meth c H locs Q a2 hC hR h0 hI hO hS (Lv_sto (v := .int x) h2 h3 hl2) hQ
theorem E_lload_n {q : Fin 4} (i : Nat) {x : Int64} (hd : decode M.2.1 pc = .ok (.lload_n q, 1)) (hi : (q : Nat) = i) (hl : ls[i]? = some (some (.long x))) (k : Ev d M n0 (pc + 1) ls (.long x :: st) n I G J Φ) : Ev d M n0 (pc) ls (st) n I G J Φ :=
  Ev.of (fun K B p l e R s m args below meth c H locs cells slots Q a hC hL k => lv_lload_n hC.1.1 hC.1.2.1 hd hi (hL.at hl) k) k
theorem E_lload {i : Nat} {x : Int64} (hd : decode M.2.1 pc = .ok (.lload i, 2)) (hl : ls[i]? = some (some (.long x))) (k : Ev d M n0 (pc + 2) ls (.long x :: st) n I G J Φ) : Ev d M n0 (pc) ls (st) n I G J Φ :=
  Ev.of (fun K B p l e R s m args below meth c H locs cells slots Q a hC hL k => lv_lload hC.1.1 hC.1.2.1 hd (hL.at hl) k) k
theorem E_lstore_n {q : Fin 4} (i : Nat) {x : Int64} (hd : decode M.2.1 pc = .ok (.lstore_n q, 1)) (hi : (q : Nat) = i) (hn : i + 1 < M.2.2.1) (k : Ev d M n0 (pc + 1) (sto2 ls i (.long x)) (st) n I G J Φ) : Ev d M n0 (pc) ls (.long x :: st) n I G J Φ := by
  intro K B p l e R s m args below meth c H locs Q a hC hR h0 hI hO hS hL hQ
  obtain ⟨lx, h1, h2, h3⟩ := hL
  refine lv_lstore_n hC.1.1 hC.1.2.1 hd hi h1 hn rfl (fun a2 hl2 => ?_)
  exact k K B p l e R s m args below meth c H locs Q a2 hC hR h0 hI hO hS (Lv_sto2 (v := .long x) h2 h3 hl2) hQ
theorem E_lstore {i : Nat} {x : Int64} (hd : decode M.2.1 pc = .ok (.lstore i, 2)) (hn : i + 1 < M.2.2.1) (k : Ev d M n0 (pc + 2) (sto2 ls i (.long x)) (st) n I G J Φ) : Ev d M n0 (pc) ls (.long x :: st) n I G J Φ := by
  intro K B p l e R s m args below meth c H locs Q a hC hR h0 hI hO hS hL hQ
  obtain ⟨lx, h1, h2, h3⟩ := hL
  refine lv_lstore hC.1.1 hC.1.2.1 hd h1 hn rfl (fun a2 hl2 => ?_)
  exact k K B p l e R s m args below meth c H locs Q a2 hC hR h0 hI hO hS (Lv_sto2 (v := .long x) h2 h3 hl2) hQ
theorem E_aload_n {q : Fin 4} (i : Nat) {x : Nat} (hd : decode M.2.1 pc = .ok (.aload_n q, 1)) (hi : (q : Nat) = i) (hl : ls[i]? = some (some (.ref x))) (k : Ev d M n0 (pc + 1) ls (.ref x :: st) n I G J Φ) : Ev d M n0 (pc) ls (st) n I G J Φ :=
  Ev.of (fun K B p l e R s m args below meth c H locs cells slots Q a hC hL k => lv_aload_n hC.1.1 hC.1.2.1 hd hi (hL.at hl) k) k
theorem E_aload {i : Nat} {x : Nat} (hd : decode M.2.1 pc = .ok (.aload i, 2)) (hl : ls[i]? = some (some (.ref x))) (k : Ev d M n0 (pc + 2) ls (.ref x :: st) n I G J Φ) : Ev d M n0 (pc) ls (st) n I G J Φ :=
  Ev.of (fun K B p l e R s m args below meth c H locs cells slots Q a hC hL k => lv_aload hC.1.1 hC.1.2.1 hd (hL.at hl) k) k
theorem E_astore_n {q : Fin 4} (i : Nat) {x : Nat} (hd : decode M.2.1 pc = .ok (.astore_n q, 1)) (hi : (q : Nat) = i) (hn : i < M.2.2.1) (k : Ev d M n0 (pc + 1) (sto ls i (.ref x)) (st) n I G J Φ) : Ev d M n0 (pc) ls (.ref x :: st) n I G J Φ := by
  intro K B p l e R s m args below meth c H locs Q a hC hR h0 hI hO hS hL hQ
  obtain ⟨lx, h1, h2, h3⟩ := hL
  refine lv_astore_n hC.1.1 hC.1.2.1 hd hi h1 hn rfl (fun a2 hl2 => ?_)
  exact k K B p l e R s m args below meth c H locs Q a2 hC hR h0 hI hO hS (Lv_sto (v := .ref x) h2 h3 hl2) hQ
theorem E_astore {i : Nat} {x : Nat} (hd : decode M.2.1 pc = .ok (.astore i, 2)) (hn : i < M.2.2.1) (k : Ev d M n0 (pc + 2) (sto ls i (.ref x)) (st) n I G J Φ) : Ev d M n0 (pc) ls (.ref x :: st) n I G J Φ := by
  intro K B p l e R s m args below meth c H locs Q a hC hR h0 hI hO hS hL hQ
  obtain ⟨lx, h1, h2, h3⟩ := hL
  refine lv_astore hC.1.1 hC.1.2.1 hd h1 hn rfl (fun a2 hl2 => ?_)
  exact k K B p l e R s m args below meth c H locs Q a2 hC hR h0 hI hO hS (Lv_sto (v := .ref x) h2 h3 hl2) hQ
theorem E_iinc {i : Nat} {z : Int} {x : Int32} (v : Int32) (hd : decode M.2.1 pc = .ok (.iinc i z, 3)) (hl : ls[i]? = some (some (.int x))) (hv : x + Int32.ofInt z = v) (hn : i < M.2.2.1) (k : Ev d M n0 (pc + 3) (sto ls i (.int v)) st n I G J Φ) : Ev d M n0 pc ls st n I G J Φ := by
  intro K B p l e R s m args below meth c H locs Q a hC hR h0 hI hO hS hL hQ
  obtain ⟨lx, h1, h2, h3⟩ := hL
  obtain ⟨j, hj⟩ := List.getElem?_of_mem (h3 i _ hl)
  refine lv_iinc (v := v) hC.1.1 hC.1.2.1 hd h1 (k := j) hj hv hn rfl (fun a2 hl2 => ?_)
  exact k K B p l e R s m args below meth c H locs Q a2 hC hR h0 hI hO hS (Lv_sto (v := .int v) h2 h3 hl2) hQ
theorem E_iadd {x y : Int32} (hd : decode M.2.1 pc = .ok (.iadd, 1)) (k : Ev d M n0 (pc + 1) ls (.int (x + y) :: st) n I G J Φ) : Ev d M n0 (pc) ls (.int y :: .int x :: st) n I G J Φ :=
  Ev.of (fun K B p l e R s m args below meth c H locs cells slots Q a hC hL k => lv_iadd hC.1.1 hC.1.2.1 hd k) k
theorem E_isub {x y : Int32} (hd : decode M.2.1 pc = .ok (.isub, 1)) (k : Ev d M n0 (pc + 1) ls (.int (x - y) :: st) n I G J Φ) : Ev d M n0 (pc) ls (.int y :: .int x :: st) n I G J Φ :=
  Ev.of (fun K B p l e R s m args below meth c H locs cells slots Q a hC hL k => lv_isub hC.1.1 hC.1.2.1 hd k) k
theorem E_imul {x y : Int32} (hd : decode M.2.1 pc = .ok (.imul, 1)) (k : Ev d M n0 (pc + 1) ls (.int (x * y) :: st) n I G J Φ) : Ev d M n0 (pc) ls (.int y :: .int x :: st) n I G J Φ :=
  Ev.of (fun K B p l e R s m args below meth c H locs cells slots Q a hC hL k => lv_imul hC.1.1 hC.1.2.1 hd k) k
theorem E_iand {x y : Int32} (hd : decode M.2.1 pc = .ok (.iand, 1)) (k : Ev d M n0 (pc + 1) ls (.int (x &&& y) :: st) n I G J Φ) : Ev d M n0 (pc) ls (.int y :: .int x :: st) n I G J Φ :=
  Ev.of (fun K B p l e R s m args below meth c H locs cells slots Q a hC hL k => lv_iand hC.1.1 hC.1.2.1 hd k) k
theorem E_ior {x y : Int32} (hd : decode M.2.1 pc = .ok (.ior, 1)) (k : Ev d M n0 (pc + 1) ls (.int (x ||| y) :: st) n I G J Φ) : Ev d M n0 (pc) ls (.int y :: .int x :: st) n I G J Φ :=
  Ev.of (fun K B p l e R s m args below meth c H locs cells slots Q a hC hL k => lv_ior hC.1.1 hC.1.2.1 hd k) k
theorem E_ishl {x y : Int32} (hd : decode M.2.1 pc = .ok (.ishl, 1)) (k : Ev d M n0 (pc + 1) ls (.int (x <<< (y &&& 31)) :: st) n I G J Φ) : Ev d M n0 (pc) ls (.int y :: .int x :: st) n I G J Φ :=
  Ev.of (fun K B p l e R s m args below meth c H locs cells slots Q a hC hL k => lv_ishl hC.1.1 hC.1.2.1 hd k) k
theorem E_ishr {x y : Int32} (hd : decode M.2.1 pc = .ok (.ishr, 1)) (k : Ev d M n0 (pc + 1) ls (.int (x >>> (y &&& 31)) :: st) n I G J Φ) : Ev d M n0 (pc) ls (.int y :: .int x :: st) n I G J Φ :=
  Ev.of (fun K B p l e R s m args below meth c H locs cells slots Q a hC hL k => lv_ishr hC.1.1 hC.1.2.1 hd k) k
theorem E_iushr {x y : Int32} (hd : decode M.2.1 pc = .ok (.iushr, 1)) (k : Ev d M n0 (pc + 1) ls (.int (x.toUInt32 >>> (y.toUInt32 &&& Int32.toUInt32 31)).toInt32 :: st) n I G J Φ) : Ev d M n0 (pc) ls (.int y :: .int x :: st) n I G J Φ :=
  Ev.of (fun K B p l e R s m args below meth c H locs cells slots Q a hC hL k => lv_iushr hC.1.1 hC.1.2.1 hd rfl k) k
theorem E_idiv {x y : Int32} (hd : decode M.2.1 pc = .ok (.idiv, 1)) (hne : ¬ y = 0) (k : Ev d M n0 (pc + 1) ls (.int (x / y) :: st) n I G J Φ) : Ev d M n0 (pc) ls (.int y :: .int x :: st) n I G J Φ :=
  Ev.of (fun K B p l e R s m args below meth c H locs cells slots Q a hC hL k => lv_idiv hC.1.1 hC.1.2.1 hd hne k) k
theorem E_irem {x y : Int32} (hd : decode M.2.1 pc = .ok (.irem, 1)) (hne : ¬ y = 0) (k : Ev d M n0 (pc + 1) ls (.int (x - x / y * y) :: st) n I G J Φ) : Ev d M n0 (pc) ls (.int y :: .int x :: st) n I G J Φ :=
  Ev.of (fun K B p l e R s m args below meth c H locs cells slots Q a hC hL k => lv_irem hC.1.1 hC.1.2.1 hd hne k) k
theorem E_ladd {x y : Int64} (hd : decode M.2.1 pc = .ok (.ladd, 1)) (k : Ev d M n0 (pc + 1) ls (.long (x + y) :: st) n I G J Φ) : Ev d M n0 (pc) ls (.long y :: .long x :: st) n I G J Φ :=
  Ev.of (fun K B p l e R s m args below meth c H locs cells slots Q a hC hL k => lv_ladd hC.1.1 hC.1.2.1 hd k) k
theorem E_lmul {x y : Int64} (hd : decode M.2.1 pc = .ok (.lmul, 1)) (k : Ev d M n0 (pc + 1) ls (.long (x * y) :: st) n I G J Φ) : Ev d M n0 (pc) ls (.long y :: .long x :: st) n I G J Φ :=
  Ev.of (fun K B p l e R s m args below meth c H locs cells slots Q a hC hL k => lv_lmul hC.1.1 hC.1.2.1 hd k) k
theorem E_ldiv {x y : Int64} (hd : decode M.2.1 pc = .ok (.ldiv, 1)) (hne : ¬ y = 0) (k : Ev d M n0 (pc + 1) ls (.long (x / y) :: st) n I G J Φ) : Ev d M n0 (pc) ls (.long y :: .long x :: st) n I G J Φ :=
  Ev.of (fun K B p l e R s m args below meth c H locs cells slots Q a hC hL k => lv_ldiv hC.1.1 hC.1.2.1 hd hne k) k
theorem E_lrem {x y : Int64} (hd : decode M.2.1 pc = .ok (.lrem, 1)) (hne : ¬ y = 0) (k : Ev d M n0 (pc + 1) ls (.long (x - x / y * y) :: st) n I G J Φ) : Ev d M n0 (pc) ls (.long y :: .long x :: st) n I G J Φ :=
  Ev.of (fun K B p l e R s m args below meth c H locs cells slots Q a hC hL k => lv_lrem hC.1.1 hC.1.2.1 hd hne k) k
theorem E_lcmp {x y : Int64} (hd : decode M.2.1 pc = .ok (.lcmp, 1)) (k : Ev d M n0 (pc + 1) ls (.int (lg_cmp x y) :: st) n I G J Φ) : Ev d M n0 (pc) ls (.long y :: .long x :: st) n I G J Φ :=
  Ev.of (fun K B p l e R s m args below meth c H locs cells slots Q a hC hL k => W.lcmp hC.1.1 hC.1.2.1 hd k) k
theorem E_i2l {x : Int32} (hd : decode M.2.1 pc = .ok (.i2l, 1)) (k : Ev d M n0 (pc + 1) ls (.long x.toInt64 :: st) n I G J Φ) : Ev d M n0 (pc) ls (.int x :: st) n I G J Φ :=
  Ev.of (fun K B p l e R s m args below meth c H locs cells slots Q a hC hL k => lv_i2l hC.1.1 hC.1.2.1 hd rfl k) k
theorem E_i2c {x : Int32} (hd : decode M.2.1 pc = .ok (.i2c, 1)) (k : Ev d M n0 (pc + 1) ls (.int (x.toUInt32 % 65536).toInt32 :: st) n I G J Φ) : Ev d M n0 (pc) ls (.int x :: st) n I G J Φ :=
  Ev.of (fun K B p l e R s m args below meth c H locs cells slots Q a hC hL k => lv_i2c hC.1.1 hC.1.2.1 hd rfl k) k
theorem E_dup {v : Value} (hd : decode M.2.1 pc = .ok (.dup, 1)) (hv : v.category = 1) (k : Ev d M n0 (pc + 1) ls (v :: v :: st) n I G J Φ) : Ev d M n0 (pc) ls (v :: st) n I G J Φ :=
  Ev.of (fun K B p l e R s m args below meth c H locs cells slots Q a hC hL k => lv_dup hC.1.1 hC.1.2.1 hd (by rw [cvv_cat]; exact hv) k) k
theorem E_pop {v : Value} (hd : decode M.2.1 pc = .ok (.pop, 1)) (hv : v.category = 1) (k : Ev d M n0 (pc + 1) ls (st) n I G J Φ) : Ev d M n0 (pc) ls (v :: st) n I G J Φ :=
  Ev.of (fun K B p l e R s m args below meth c H locs cells slots Q a hC hL k => lv_pop hC.1.1 hC.1.2.1 hd (by rw [cvv_cat]; exact hv) k) k
theorem E_dup2 {v w : Value} (hd : decode M.2.1 pc = .ok (.dup2, 1)) (hv : v.category = 1) (hw : w.category = 1) (k : Ev d M n0 (pc + 1) ls (v :: w :: v :: w :: st) n I G J Φ) : Ev d M n0 (pc) ls (v :: w :: st) n I G J Φ :=
  Ev.of (fun K B p l e R s m args below meth c H locs cells slots Q a hC hL k => lv_dup2_11 hC.1.1 hC.1.2.1 hd (by rw [cvv_cat]; exact hv) (by rw [cvv_cat]; exact hw) k) k
theorem E_dup2l {v : Value} (hd : decode M.2.1 pc = .ok (.dup2, 1)) (hv : v.category = 2) (k : Ev d M n0 (pc + 1) ls (v :: v :: st) n I G J Φ) : Ev d M n0 (pc) ls (v :: st) n I G J Φ :=
  Ev.of (fun K B p l e R s m args below meth c H locs cells slots Q a hC hL k => lv_dup2_2 hC.1.1 hC.1.2.1 hd (by rw [cvv_cat]; exact hv) k) k
theorem E_if_eq {x : Int32} {off : Int} (tgt : Nat) (hd : decode M.2.1 pc = .ok (.ifCond .eq off, 3)) (ht : (pc : Int) + off = (tgt : Int)) (kt : x = 0 → Ev d M n0 (tgt) ls (st) n I G J Φ) (kf : ¬ (x = 0) → Ev d M n0 (pc + 3) ls (st) n I G J Φ) : Ev d M n0 (pc) ls (.int x :: st) n I G J Φ :=
  fun K B p l e R s m args below meth c H locs Q a hC hR h0 hI hO hS hL hQ => lv_if_eq hC.1.1 hC.1.2.1 hd ht (fun q => kt (by simpa using q) K B p l e R s m args below meth c H locs Q a hC hR h0 hI hO hS hL hQ) (fun q => kf (by simpa using q) K B p l e R s m args below meth c H locs Q a hC hR h0 hI hO hS hL hQ)
theorem E_icmp_eq {x y : Int32} {off : Int} (tgt : Nat) (hd : decode M.2.1 pc = .ok (.if_icmp .eq off, 3)) (ht : (pc : Int) + off = (tgt : Int)) (kt : x = y → Ev d M n0 (tgt) ls (st) n I G J Φ) (kf : ¬ (x = y) → Ev d M n0 (pc + 3) ls (st) n I G J Φ) : Ev d M n0 (pc) ls (.int y :: .int x :: st) n I G J Φ :=
  fun K B p l e R s m args below meth c H locs Q a hC hR h0 hI hO hS hL hQ => lv_icmp_eq hC.1.1 hC.1.2.1 hd ht (fun q => kt (by simpa using q) K B p l e R s m args below meth c H locs Q a hC hR h0 hI hO hS hL hQ) (fun q => kf (by simpa using q) K B p l e R s m args below meth c H locs Q a hC hR h0 hI hO hS hL hQ)
theorem E_if_ne {x : Int32} {off : Int} (tgt : Nat) (hd : decode M.2.1 pc = .ok (.ifCond .ne off, 3)) (ht : (pc : Int) + off = (tgt : Int)) (kt : ¬ x = 0 → Ev d M n0 (tgt) ls (st) n I G J Φ) (kf : ¬ (¬ x = 0) → Ev d M n0 (pc + 3) ls (st) n I G J Φ) : Ev d M n0 (pc) ls (.int x :: st) n I G J Φ :=
  fun K B p l e R s m args below meth c H locs Q a hC hR h0 hI hO hS hL hQ => lv_if_ne hC.1.1 hC.1.2.1 hd ht (fun q => kt (by simpa using q) K B p l e R s m args below meth c H locs Q a hC hR h0 hI hO hS hL hQ) (fun q => kf (by simpa using q) K B p l e R s m args below meth c H locs Q a hC hR h0 hI hO hS hL hQ)
theorem E_icmp_ne {x y : Int32} {off : Int} (tgt : Nat) (hd : decode M.2.1 pc = .ok (.if_icmp .ne off, 3)) (ht : (pc : Int) + off = (tgt : Int)) (kt : ¬ x = y → Ev d M n0 (tgt) ls (st) n I G J Φ) (kf : ¬ (¬ x = y) → Ev d M n0 (pc + 3) ls (st) n I G J Φ) : Ev d M n0 (pc) ls (.int y :: .int x :: st) n I G J Φ :=
  fun K B p l e R s m args below meth c H locs Q a hC hR h0 hI hO hS hL hQ => lv_icmp_ne hC.1.1 hC.1.2.1 hd ht (fun q => kt (by simpa using q) K B p l e R s m args below meth c H locs Q a hC hR h0 hI hO hS hL hQ) (fun q => kf (by simpa using q) K B p l e R s m args below meth c H locs Q a hC hR h0 hI hO hS hL hQ)
theorem E_if_lt {x : Int32} {off : Int} (tgt : Nat) (hd : decode M.2.1 pc = .ok (.ifCond .lt off, 3)) (ht : (pc : Int) + off = (tgt : Int)) (kt : x < 0 → Ev d M n0 (tgt) ls (st) n I G J Φ) (kf : ¬ (x < 0) → Ev d M n0 (pc + 3) ls (st) n I G J Φ) : Ev d M n0 (pc) ls (.int x :: st) n I G J Φ :=
  fun K B p l e R s m args below meth c H locs Q a hC hR h0 hI hO hS hL hQ => lv_if_lt hC.1.1 hC.1.2.1 hd ht (fun q => kt (by simpa using q) K B p l e R s m args below meth c H locs Q a hC hR h0 hI hO hS hL hQ) (fun q => kf (by simpa using q) K B p l e R s m args below meth c H locs Q a hC hR h0 hI hO hS hL hQ)
theorem E_icmp_lt {x y : Int32} {off : Int} (tgt : Nat) (hd : decode M.2.1 pc = .ok (.if_icmp .lt off, 3)) (ht : (pc : Int) + off = (tgt : Int)) (kt : x < y → Ev d M n0 (tgt) ls (st) n I G J Φ) (kf : ¬ (x < y) → Ev d M n0 (pc + 3) ls (st) n I G J Φ) : Ev d M n0 (pc) ls (.int y :: .int x :: st) n I G J Φ :=
  fun K B p l e R s m args below meth c H locs Q a hC hR h0 hI hO hS hL hQ => lv_icmp_lt hC.1.1 hC.1.2.1 hd ht (fun q => kt (by simpa using q) K B p l e R s m args below meth c H locs Q a hC hR h0 hI hO hS hL hQ) (fun q => kf (by simpa using q) K B p l e R s m args below meth c H locs Q a hC hR h0 hI hO hS hL hQ)
theorem E_if_ge {x : Int32} {off : Int} (tgt : Nat) (hd : decode M.2.1 pc = .ok (.ifCond .ge off, 3)) (ht : (pc : Int) + off = (tgt : Int)) (kt : 0 ≤ x → Ev d M n0 (tgt) ls (st) n I G J Φ) (kf : ¬ (0 ≤ x) → Ev d M n0 (pc + 3) ls (st) n I G J Φ) : Ev d M n0 (pc) ls (.int x :: st) n I G J Φ :=
  fun K B p l e R s m args below meth c H locs Q a hC hR h0 hI hO hS hL hQ => lv_if_ge hC.1.1 hC.1.2.1 hd ht (fun q => kt (by simpa using q) K B p l e R s m args below meth c H locs Q a hC hR h0 hI hO hS hL hQ) (fun q => kf (by simpa using q) K B p l e R s m args below meth c H locs Q a hC hR h0 hI hO hS hL hQ)
theorem E_icmp_ge {x y : Int32} {off : Int} (tgt : Nat) (hd : decode M.2.1 pc = .ok (.if_icmp .ge off, 3)) (ht : (pc : Int) + off = (tgt : Int)) (kt : y ≤ x → Ev d M n0 (tgt) ls (st) n I G J Φ) (kf : ¬ (y ≤ x) → Ev d M n0 (pc + 3) ls (st) n I G J Φ) : Ev d M n0 (pc) ls (.int y :: .int x :: st) n I G J Φ :=
  fun K B p l e R s m args below meth c H locs Q a hC hR h0 hI hO hS hL hQ => lv_icmp_ge hC.1.1 hC.1.2.1 hd ht (fun q => kt (by simpa using q) K B p l e R s m args below meth c H locs Q a hC hR h0 hI hO hS hL hQ) (fun q => kf (by simpa using q) K B p l e R s m args below meth c H locs Q a hC hR h0 hI hO hS hL hQ)
theorem E_if_gt {x : Int32} {off : Int} (tgt : Nat) (hd : decode M.2.1 pc = .ok (.ifCond .gt off, 3)) (ht : (pc : Int) + off = (tgt : Int)) (kt : 0 < x → Ev d M n0 (tgt) ls (st) n I G J Φ) (kf : ¬ (0 < x) → Ev d M n0 (pc + 3) ls (st) n I G J Φ) : Ev d M n0 (pc) ls (.int x :: st) n I G J Φ :=
  fun K B p l e R s m args below meth c H locs Q a hC hR h0 hI hO hS hL hQ => lv_if_gt hC.1.1 hC.1.2.1 hd ht (fun q => kt (by simpa using q) K B p l e R s m args below meth c H locs Q a hC hR h0 hI hO hS hL hQ) (fun q => kf (by simpa using q) K B p l e R s m args below meth c H locs Q a hC hR h0 hI hO hS hL hQ)
theorem E_icmp_gt {x y : Int32} {off : Int} (tgt : Nat) (hd : decode M.2.1 pc = .ok (.if_icmp .gt off, 3)) (ht : (pc : Int) + off = (tgt : Int)) (kt : y < x → Ev d M n0 (tgt) ls (st) n I G J Φ) (kf : ¬ (y < x) → Ev d M n0 (pc + 3) ls (st) n I G J Φ) : Ev d M n0 (pc) ls (.int y :: .int x :: st) n I G J Φ :=
  fun K B p l e R s m args below meth c H locs Q a hC hR h0 hI hO hS hL hQ => lv_icmp_gt hC.1.1 hC.1.2.1 hd ht (fun q => kt (by simpa using q) K B p l e R s m args below meth c H locs Q a hC hR h0 hI hO hS hL hQ) (fun q => kf (by simpa using q) K B p l e R s m args below meth c H locs Q a hC hR h0 hI hO hS hL hQ)
theorem E_if_le {x : Int32} {off : Int} (tgt : Nat) (hd : decode M.2.1 pc = .ok (.ifCond .le off, 3)) (ht : (pc : Int) + off = (tgt : Int)) (kt : x ≤ 0 → Ev d M n0 (tgt) ls (st) n I G J Φ) (kf : ¬ (x ≤ 0) → Ev d M n0 (pc + 3) ls (st) n I G J Φ) : Ev d M n0 (pc) ls (.int x :: st) n I G J Φ :=
  fun K B p l e R s m args below meth c H locs Q a hC hR h0 hI hO hS hL hQ => lv_if_le hC.1.1 hC.1.2.1 hd ht (fun q => kt (by simpa using q) K B p l e R s m args below meth c H locs Q a hC hR h0 hI hO hS hL hQ) (fun q => kf (by simpa using q) K B p l e R s m args below meth c H locs Q a hC hR h0 hI hO hS hL hQ)
theorem E_icmp_le {x y : Int32} {off : Int} (tgt : Nat) (hd : decode M.2.1 pc = .ok (.if_icmp .le off, 3)) (ht : (pc : Int) + off = (tgt : Int)) (kt : x ≤ y → Ev d M n0 (tgt) ls (st) n I G J Φ) (kf : ¬ (x ≤ y) → Ev d M n0 (pc + 3) ls (st) n I G J Φ) : Ev d M n0 (pc) ls (.int y :: .int x :: st) n I G J Φ :=
  fun K B p l e R s m args below meth c H locs Q a hC hR h0 hI hO hS hL hQ => lv_icmp_le hC.1.1 hC.1.2.1 hd ht (fun q => kt (by simpa using q) K B p l e R s m args below meth c H locs Q a hC hR h0 hI hO hS hL hQ) (fun q => kf (by simpa using q) K B p l e R s m args below meth c H locs Q a hC hR h0 hI hO hS hL hQ)
theorem E_goto {off : Int} (tgt : Nat) (hd : decode M.2.1 pc = .ok (.goto off, 3)) (ht : (pc : Int) + off = (tgt : Int)) (k : Ev d M n0 (tgt) ls (st) n I G J Φ) : Ev d M n0 (pc) ls (st) n I G J Φ :=
  Ev.of (fun K B p l e R s m args below meth c H locs cells slots Q a hC hL k => lv_goto hC.1.1 hC.1.2.1 hd ht k) k
/-- a switch over i, i + 1 ..: the case, or the rest -/
def SW (x : Int32) (P : Nat → Prop) (dt : Nat) : Nat → List Nat → Prop
  | _, [] => P dt
  | i, t :: ts => (x = nI i → P t) ∧ (¬ x = nI i → SW x P dt (i + 1) ts)
theorem SW_in {x : Int32} {P : Nat → Prop} {dt : Nat} : ∀ {ts : List Nat} {i j t : Nat}, SW x P dt i ts → ts[j]? = some t → x = nI (i + j) → i + ts.length < 2 ^ 31 → P t
  | [], i, j, t, _, h, _, _ => by simp at h
  | u :: us, i, j, t, h, hj, hx, hb => by
    cases j with
    | zero =>
      rw [List.getElem?_cons_zero] at hj
      cases hj
      exact h.1 hx
    | succ j =>
      rw [List.getElem?_cons_succ] at hj
      simp only [List.length_cons] at hb
      have hl := (List.getElem?_eq_some_iff.mp hj).1
      refine SW_in (h.2 (fun e => ?_)) hj (by rw [hx]; congr 1; omega) (by omega)
      rw [hx] at e
      have := (nI_eq (by omega) (by omega)).mp e
      omega
theorem SW_out {x : Int32} {P : Nat → Prop} {dt : Nat} : ∀ {ts : List Nat} {i : Nat}, SW x P dt i ts → (∀ j, j < ts.length → ¬ x = nI (i + j)) → P dt
  | [], i, h, _ => h
  | u :: us, i, h, hx => SW_out (h.2 (hx 0 (by simp))) (fun j hj => by have := hx (j + 1) (by simp; omega); rw [show i + (j + 1) = i + 1 + j by omega] at this; exact this)
theorem E_tsw {x : Int32} {dflt hi : Int} {offs : Array Int} {len : Nat} (lo : Nat) (ts : List Nat) (dt : Nat) (hd : decode M.2.1 pc = .ok (.tableswitch dflt (lo : Int) hi offs, len)) (ht : offs.toList.map (fun o => (pc : Int) + o) = ts.map (fun (t : Nat) => (Int.ofNat t))) (hh : hi + 1 = (lo : Int) + (ts.length : Int)) (hdt : (pc : Int) + dflt = (dt : Int)) (hb : lo + ts.length < 2 ^ 31)
    (k : SW x (fun t => Ev d M n0 t ls st n I G J Φ) dt lo ts) : Ev d M n0 pc ls (.int x :: st) n I G J Φ := by
  intro K B p l e R s m args below meth c H locs Q a hC hR h0 hI hO hS hL hQ
  by_cases h1 : x.toInt < (lo : Int) ∨ hi < x.toInt
  · refine lv_tableOut hC.1.1 hC.1.2.1 hd h1 hdt ?_
    refine SW_out k (fun j hj e => ?_) K B p l e R s m args below meth c H locs Q a hC hR h0 hI hO hS hL hQ
    rw [e, nI_toInt (by omega)] at h1
    omega
  · obtain ⟨j, hj⟩ : ∃ j : Nat, x.toInt = ((lo + j : Nat) : Int) := ⟨(x.toInt - lo).toNat, by omega⟩
    have hjl : j < ts.length := by omega
    have hx : x = nI (lo + j) := Int32.toInt_inj.mp (by rw [hj, nI_toInt (by omega)])
    have hts : ts[j]? = some ts[j] := List.getElem?_eq_getElem hjl
    have hlen : offs.toList.length = ts.length := by have := congrArg List.length ht; simpa using this
    have hjo : j < offs.size := by rw [← Array.length_toList]; omega
    have ho : offs[j]? = some offs[j] := Array.getElem?_eq_getElem hjo
    have he : (pc : Int) + offs[j] = (ts[j] : Int) := by
      have := congrArg (fun z => z[j]?) ht
      simp only [List.getElem?_map, Array.getElem?_toList, ho, hts, Option.map_some, Option.some.injEq] at this
      exact this
    refine lv_tableIn hC.1.1 hC.1.2.1 hd (by omega) (by omega) (off := offs[j]) (by rw [show (x.toInt - (lo : Int)).toNat = j by omega]; exact ho) he ?_
    exact SW_in k hts hx hb K B p l e R s m args below meth c H locs Q a hC hR h0 hI hO hS hL hQ
/-- a switch over keys -/
def KW (x : Int32) (P : Nat → Prop) (dt : Nat) : List (Int32 × Nat) → Prop
  | [] => P dt
  | q :: ts => (x = q.1 → P q.2) ∧ (¬ x = q.1 → KW x P dt ts)
theorem KW_go {x : Int32} {P : Nat → Prop} {dt pc : Nat} {dflt : Int} (hdt : (pc : Int) + dflt = (dt : Int)) : ∀ {ts : List (Int32 × Nat)} {ps : List (Int × Int)}, KW x P dt ts → ps.map (fun q => (q.1, (pc : Int) + q.2)) = ts.map (fun q => (q.1.toInt, (q.2 : Int))) → ∃ t : Nat, P t ∧ (pc : Int) + Op.lookupswitch.offset ps dflt x.toInt = (t : Int)
  | [], [], h, _ => ⟨dt, h, by simpa [Op.lookupswitch.offset] using hdt⟩
  | [], _ :: _, _, e => by simp at e
  | _ :: _, [], _, e => by simp at e
  | q :: ts, (a, o) :: ps, h, e => by
    simp only [List.map_cons, List.cons.injEq, Prod.mk.injEq] at e
    obtain ⟨⟨e1, e2⟩, e3⟩ := e
    by_cases hx : x = q.1
    · refine ⟨q.2, h.1 hx, ?_⟩
      rw [Op.lookupswitch.offset_cons, if_pos (by rw [hx, e1])]
      exact e2
    · obtain ⟨t, h1, h2⟩ := KW_go hdt (h.2 hx) e3
      refine ⟨t, h1, ?_⟩
      rw [lv_osw hx e1.symm]
      exact h2
theorem E_lsw {x : Int32} {dflt : Int} {ps : Array (Int × Int)} {len : Nat} (ts : List (Int32 × Nat)) (dt : Nat) (hd : decode M.2.1 pc = .ok (.lookupswitch dflt ps, len)) (hp : (ps.toList.zip (ps.toList.drop 1)).all (fun (a, next) => a.1 < next.1) = true) (ht : ps.toList.map (fun q => (q.1, (pc : Int) + q.2)) = ts.map (fun q => (q.1.toInt, (q.2 : Int)))) (hdt : (pc : Int) + dflt = (dt : Int))
    (k : KW x (fun t => Ev d M n0 t ls st n I G J Φ) dt ts) : Ev d M n0 pc ls (.int x :: st) n I G J Φ := by
  intro K B p l e R s m args below meth c H locs Q a hC hR h0 hI hO hS hL hQ
  obtain ⟨t, h1, h2⟩ := KW_go hdt k ht
  exact lv_lookup hC.1.1 hC.1.2.1 hd hp rfl h2 (h1 K B p l e R s m args below meth c H locs Q a hC hR h0 hI hO hS hL hQ)
/-! returns -/
theorem E_iret {v : Int32} (hd : decode M.2.1 pc = .ok (.ireturn, 1)) (hr : M.2.2.2.1 = some .int ∨ (M.2.2.2.1 = some .boolean ∧ narrow .boolean (.int v) = .int v)) (hn : n = n0 + M.2.2.2.2.1) (hs : pre n = pre n0 + M.2.2.2.2.2) (k : Φ (some (.int v)) n I G J) : Ev d M n0 pc ls [.int v] n I G J Φ := by
  intro K B p l e R s m args below meth c H locs Q a hC hR h0 hI hO hS hL hQ
  have hw := hQ (some (.int v)) n I G J H locs pc a k hI hO hS (Or.inl ⟨v, rfl, hd, hr⟩) hn hs
  rw [show n - n0 = M.2.2.2.2.1 by omega, show pre n - pre n0 = M.2.2.2.2.2 by omega]
  exact hw
theorem E_lret {v : Int64} (hd : decode M.2.1 pc = .ok (.lreturn, 1)) (hr : M.2.2.2.1 = some .long) (hn : n = n0 + M.2.2.2.2.1) (hs : pre n = pre n0 + M.2.2.2.2.2) (k : Φ (some (.long v)) n I G J) : Ev d M n0 pc ls [.long v] n I G J Φ := by
  intro K B p l e R s m args below meth c H locs Q a hC hR h0 hI hO hS hL hQ
  have hw := hQ (some (.long v)) n I G J H locs pc a k hI hO hS (Or.inr (Or.inl ⟨v, rfl, hd, hr⟩)) hn hs
  rw [show n - n0 = M.2.2.2.2.1 by omega, show pre n - pre n0 = M.2.2.2.2.2 by omega]
  exact hw
theorem E_vret (hd : decode M.2.1 pc = .ok (.return_, 1)) (hr : M.2.2.2.1 = none) (hn : n = n0 + M.2.2.2.2.1) (hs : pre n = pre n0 + M.2.2.2.2.2) (k : Φ none n I G J) : Ev d M n0 pc ls [] n I G J Φ := by
  intro K B p l e R s m args below meth c H locs Q a hC hR h0 hI hO hS hL hQ
  have hw := hQ none n I G J H locs pc a k hI hO hS (Or.inr (Or.inr ⟨rfl, hd, hr⟩)) hn hs
  rw [show n - n0 = M.2.2.2.2.1 by omega, show pre n - pre n0 = M.2.2.2.2.2 by omega]
  exact hw
end RULES
