/-! the judgement, and its rows -/
abbrev Zt : Type := List Frame → Array Value → State → State → Prop
/-- own class, code, locals, answer's type, name, room, places at the entry, the end -/
abbrev KT : Type := String × ByteArray × Nat × Option FieldType × String × Room × Nat × Zt
def Cx (G : GE) (K : KT) (p : Program) (s : State) (m : MethodId) (args : Array Value) (meth : Method) (c : Code) : Prop :=
  p.tables.exec = Jvm.exec ∧ c.code = K.2.1 ∧ c.maxLocals = K.2.2.1 ∧ meth.sig.returnType = K.2.2.2.1 ∧ s.vm.findClass K.1 = some m.cls ∧ (∀ w ∈ TG, w.before args s = true) ∧ meth.locks = false ∧ meth.name = K.2.2.2.2.1 ∧ GK G s ∧ s.heap.size = G.2.2.1 + K.2.2.2.2.2.2.1
def Rr (l : Launch) (G : GE) (K : KT) (kc ks : Nat) (pc : Nat) (ls st : List AV) (σ : Sg) : Prop :=
  ∀ (p : Program) (e : Env) (s : State) (m : MethodId) (args : Array Value) (below : List Frame) (meth : Method) (c : Code) (H : Heap) (locs : List Loc) (cls : Array Slot),
    Cx G K p s m args meth c → va_S (AA G) s.heap H locs → Rp G σ H → H.size = G.2.2.1 + σ.2.2.1 → σ.2.2.1 = K.2.2.2.2.2.2.1 + kc → lv_has cls K.2.2.1 (lvL G ls) →
    W p l e K.2.2.2.2.2.1 s m args below meth c H locs kc ks (K.2.2.2.2.2.2.2 below args s) (F0 m pc cls (st.map (cv G)))
def bAnd (x y : Int) : Int := (iI x &&& iI y).toInt
def bOr (x y : Int) : Int := (iI x ||| iI y).toInt
def bXor (x y : Int) : Int := (iI x ^^^ iI y).toInt
def bShl (x y : Int) : Int := (iI x <<< (iI y &&& 31)).toInt
def bShr (x y : Int) : Int := (iI x >>> (iI y &&& 31)).toInt
def bUsh (x y : Int) : Int := ((iI x).toUInt32 >>> ((iI y).toUInt32 &&& Int32.toUInt32 31)).toInt32.toInt
def bDiv (x y : Int) : Int := (iI x / iI y).toInt
def bRem (x y : Int) : Int := (iI x - iI x / iI y * iI y).toInt
theorem iI_bAnd (x y : Int) : iI (bAnd x y) = iI x &&& iI y := iI_of _
theorem iI_bOr (x y : Int) : iI (bOr x y) = iI x ||| iI y := iI_of _
theorem iI_bXor (x y : Int) : iI (bXor x y) = iI x ^^^ iI y := iI_of _
theorem iI_bShl (x y : Int) : iI (bShl x y) = iI x <<< (iI y &&& 31) := iI_of _
theorem iI_bShr (x y : Int) : iI (bShr x y) = iI x >>> (iI y &&& 31) := iI_of _
theorem iI_bDiv (x y : Int) : iI (bDiv x y) = iI x / iI y := iI_of _
theorem iI_bRem (x y : Int) : iI (bRem x y) = iI x - iI x / iI y * iI y := iI_of _
section ROWS
variable {l : Launch} {G : GE} {K : KT} {kc ks pc : Nat} {ls st : List AV} {σ : Sg}

theorem R_iconst {n : Int} (hd : decode K.2.1 pc = .ok (.iconst n, 1)) (k : Rr l G K kc ks (pc + 1) ls (ai n :: st) σ) : Rr l G K kc ks pc ls st σ := by
  intro p e s m args below meth c H locs cls C hS hP hz hn hl
  have h := k p e s m args below meth c H locs cls C hS hP hz hn hl
  exact lv_iconst C.1 C.2.1 hd rfl h

theorem R_bipush {n z : Int} (hd : decode K.2.1 pc = .ok (.bipush n, 2)) (hv : (Int8.ofInt n).toInt32 = iI z) (k : Rr l G K kc ks (pc + 2) ls (ai z :: st) σ) : Rr l G K kc ks pc ls st σ := by
  intro p e s m args below meth c H locs cls C hS hP hz hn hl
  have h := k p e s m args below meth c H locs cls C hS hP hz hn hl
  exact lv_bipush C.1 C.2.1 hd hv h

theorem R_sipush {n z : Int} (hd : decode K.2.1 pc = .ok (.sipush n, 3)) (hv : (Int16.ofInt n).toInt32 = iI z) (k : Rr l G K kc ks (pc + 3) ls (ai z :: st) σ) : Rr l G K kc ks pc ls st σ := by
  intro p e s m args below meth c H locs cls C hS hP hz hn hl
  have h := k p e s m args below meth c H locs cls C hS hP hz hn hl
  exact lv_sipush C.1 C.2.1 hd hv h

theorem R_ldc {n : Nat} {z : Int} (hd : decode K.2.1 pc = .ok (.ldc n, 2)) (hw : Cond.constant K.1 n (iI z) ∈ TG) (k : Rr l G K kc ks (pc + 2) ls (ai z :: st) σ) : Rr l G K kc ks pc ls st σ := by
  intro p e s m args below meth c H locs cls C hS hP hz hn hl
  have h := k p e s m args below meth c H locs cls C hS hP hz hn hl
  exact lv_ldc C.1 C.2.1 C.2.2.2.2.1 (C.2.2.2.2.2.1 _ hw) hd h

theorem R_ldcw {n : Nat} {z : Int} (hd : decode K.2.1 pc = .ok (.ldc_w n, 3)) (hw : Cond.constant K.1 n (iI z) ∈ TG) (k : Rr l G K kc ks (pc + 3) ls (ai z :: st) σ) : Rr l G K kc ks pc ls st σ := by
  intro p e s m args below meth c H locs cls C hS hP hz hn hl
  have h := k p e s m args below meth c H locs cls C hS hP hz hn hl
  exact lv_ldcw C.1 C.2.1 C.2.2.2.2.1 (C.2.2.2.2.2.1 _ hw) hd h

theorem R_ldc2 {n : Nat} {z : Int} (hd : decode K.2.1 pc = .ok (.ldc2_w n, 3)) (hw : Cond.constantLong K.1 n (lI z) ∈ TG) (k : Rr l G K kc ks (pc + 3) ls (al z :: st) σ) : Rr l G K kc ks pc ls st σ := by
  intro p e s m args below meth c H locs cls C hS hP hz hn hl
  have h := k p e s m args below meth c H locs cls C hS hP hz hn hl
  exact lv_ldc2 C.1 C.2.1 C.2.2.2.2.1 (C.2.2.2.2.2.1 _ hw) hd h

theorem R_iload_n {j : Fin 4} {i : Nat} {x : Int} (hd : decode K.2.1 pc = .ok (.iload_n j, 1)) (hi : (j : Nat) = i) (hx : ls[i]? = some (ai x)) (k : Rr l G K kc ks (pc + 1) ls (ai x :: st) σ) : Rr l G K kc ks pc ls st σ := by
  intro p e s m args below meth c H locs cls C hS hP hz hn hl
  have h := k p e s m args below meth c H locs cls C hS hP hz hn hl
  exact lv_iload_n C.1 C.2.1 hd hi (lv_get hl hx) h

theorem R_iload {i : Nat} {x : Int} (hd : decode K.2.1 pc = .ok (.iload i, 2)) (hx : ls[i]? = some (ai x)) (k : Rr l G K kc ks (pc + 2) ls (ai x :: st) σ) : Rr l G K kc ks pc ls st σ := by
  intro p e s m args below meth c H locs cls C hS hP hz hn hl
  have h := k p e s m args below meth c H locs cls C hS hP hz hn hl
  exact lv_iload C.1 C.2.1 hd (lv_get hl hx) h

theorem R_lload_n {j : Fin 4} {i : Nat} {x : Int} (hd : decode K.2.1 pc = .ok (.lload_n j, 1)) (hi : (j : Nat) = i) (hx : ls[i]? = some (al x)) (k : Rr l G K kc ks (pc + 1) ls (al x :: st) σ) : Rr l G K kc ks pc ls st σ := by
  intro p e s m args below meth c H locs cls C hS hP hz hn hl
  have h := k p e s m args below meth c H locs cls C hS hP hz hn hl
  exact lv_lload_n C.1 C.2.1 hd hi (lv_get hl hx) h

theorem R_lload {i : Nat} {x : Int} (hd : decode K.2.1 pc = .ok (.lload i, 2)) (hx : ls[i]? = some (al x)) (k : Rr l G K kc ks (pc + 2) ls (al x :: st) σ) : Rr l G K kc ks pc ls st σ := by
  intro p e s m args below meth c H locs cls C hS hP hz hn hl
  have h := k p e s m args below meth c H locs cls C hS hP hz hn hl
  exact lv_lload C.1 C.2.1 hd (lv_get hl hx) h

theorem R_aload_n {j : Fin 4} {i : Nat} {x : Nat} (hd : decode K.2.1 pc = .ok (.aload_n j, 1)) (hi : (j : Nat) = i) (hx : ls[i]? = some (ar x)) (k : Rr l G K kc ks (pc + 1) ls (ar x :: st) σ) : Rr l G K kc ks pc ls st σ := by
  intro p e s m args below meth c H locs cls C hS hP hz hn hl
  have h := k p e s m args below meth c H locs cls C hS hP hz hn hl
  exact lv_aload_n C.1 C.2.1 hd hi (lv_get hl hx) h

theorem R_aload {i : Nat} {x : Nat} (hd : decode K.2.1 pc = .ok (.aload i, 2)) (hx : ls[i]? = some (ar x)) (k : Rr l G K kc ks (pc + 2) ls (ar x :: st) σ) : Rr l G K kc ks pc ls st σ := by
  intro p e s m args below meth c H locs cls C hS hP hz hn hl
  have h := k p e s m args below meth c H locs cls C hS hP hz hn hl
  exact lv_aload C.1 C.2.1 hd (lv_get hl hx) h

theorem R_istore_n {j : Fin 4} {i : Nat} {x : Int} (hd : decode K.2.1 pc = .ok (.istore_n j, 1)) (hi : (j : Nat) = i) (hn : i < K.2.2.1) (k : Rr l G K kc ks (pc + 1) (sto ls i (ai x)) st σ) : Rr l G K kc ks pc ls (ai x :: st) σ := by
  intro p e s m args below meth c H locs cls C hS hP hz hn2 hl
  exact lv_istore_n C.1 C.2.1 hd hi hl hn rfl (fun ls' hl' => k p e s m args below meth c H locs ls' C hS hP hz hn2 (lv_mono hl' (sto_mem rfl)))

theorem R_istore {i : Nat} {x : Int} (hd : decode K.2.1 pc = .ok (.istore i, 2)) (hn : i < K.2.2.1) (k : Rr l G K kc ks (pc + 2) (sto ls i (ai x)) st σ) : Rr l G K kc ks pc ls (ai x :: st) σ := by
  intro p e s m args below meth c H locs cls C hS hP hz hn2 hl
  exact lv_istore C.1 C.2.1 hd hl hn rfl (fun ls' hl' => k p e s m args below meth c H locs ls' C hS hP hz hn2 (lv_mono hl' (sto_mem rfl)))

theorem R_lstore_n {j : Fin 4} {i : Nat} {x : Int} (hd : decode K.2.1 pc = .ok (.lstore_n j, 1)) (hi : (j : Nat) = i) (hn : i + 1 < K.2.2.1) (k : Rr l G K kc ks (pc + 1) (stL ls i (al x)) st σ) : Rr l G K kc ks pc ls (al x :: st) σ := by
  intro p e s m args below meth c H locs cls C hS hP hz hn2 hl
  exact lv_lstore_n C.1 C.2.1 hd hi hl hn rfl (fun ls' hl' => k p e s m args below meth c H locs ls' C hS hP hz hn2 (lv_mono hl' (stL_mem rfl)))

theorem R_lstore {i : Nat} {x : Int} (hd : decode K.2.1 pc = .ok (.lstore i, 2)) (hn : i + 1 < K.2.2.1) (k : Rr l G K kc ks (pc + 2) (stL ls i (al x)) st σ) : Rr l G K kc ks pc ls (al x :: st) σ := by
  intro p e s m args below meth c H locs cls C hS hP hz hn2 hl
  exact lv_lstore C.1 C.2.1 hd hl hn rfl (fun ls' hl' => k p e s m args below meth c H locs ls' C hS hP hz hn2 (lv_mono hl' (stL_mem rfl)))

theorem R_astore_n {j : Fin 4} {i : Nat} {x : Nat} (hd : decode K.2.1 pc = .ok (.astore_n j, 1)) (hi : (j : Nat) = i) (hn : i < K.2.2.1) (k : Rr l G K kc ks (pc + 1) (sto ls i (ar x)) st σ) : Rr l G K kc ks pc ls (ar x :: st) σ := by
  intro p e s m args below meth c H locs cls C hS hP hz hn2 hl
  exact lv_astore_n C.1 C.2.1 hd hi hl hn rfl (fun ls' hl' => k p e s m args below meth c H locs ls' C hS hP hz hn2 (lv_mono hl' (sto_mem rfl)))

theorem R_astore {i : Nat} {x : Nat} (hd : decode K.2.1 pc = .ok (.astore i, 2)) (hn : i < K.2.2.1) (k : Rr l G K kc ks (pc + 2) (sto ls i (ar x)) st σ) : Rr l G K kc ks pc ls (ar x :: st) σ := by
  intro p e s m args below meth c H locs cls C hS hP hz hn2 hl
  exact lv_astore C.1 C.2.1 hd hl hn rfl (fun ls' hl' => k p e s m args below meth c H locs ls' C hS hP hz hn2 (lv_mono hl' (sto_mem rfl)))

theorem R_iinc {i : Nat} {n x : Int} (hd : decode K.2.1 pc = .ok (.iinc i n, 3)) (hx : ls[i]? = some (ai x)) (hn : i < K.2.2.1) (k : Rr l G K kc ks (pc + 3) (sto ls i (ai (x + n))) st σ) : Rr l G K kc ks pc ls st σ := by
  intro p e s m args below meth c H locs cls C hS hP hz hn2 hl
  obtain ⟨q, hq⟩ := List.getElem?_of_mem (lvL_mem (G := G).mpr ⟨.inl x, hx, rfl⟩ : ((i, cv G (ai x)) : Nat × Value) ∈ lvL G ls)
  exact lv_iinc C.1 C.2.1 hd hl (k := q) hq (v := iI (x + n)) (iI_add x n) hn rfl (fun ls' hl' => k p e s m args below meth c H locs ls' C hS hP hz hn2 (lv_mono hl' (sto_mem rfl)))

theorem R_iadd {x y : Int} (hd : decode K.2.1 pc = .ok (.iadd, 1)) (k : Rr l G K kc ks (pc + 1) ls (ai (x + y) :: st) σ) : Rr l G K kc ks pc ls (ai y :: ai x :: st) σ := by
  intro p e s m args below meth c H locs cls C hS hP hz hn hl
  have h := k p e s m args below meth c H locs cls C hS hP hz hn hl
  refine lv_iadd C.1 C.2.1 hd ?_
  rw [iI_add]
  exact h

theorem R_isub {x y : Int} (hd : decode K.2.1 pc = .ok (.isub, 1)) (k : Rr l G K kc ks (pc + 1) ls (ai (x - y) :: st) σ) : Rr l G K kc ks pc ls (ai y :: ai x :: st) σ := by
  intro p e s m args below meth c H locs cls C hS hP hz hn hl
  have h := k p e s m args below meth c H locs cls C hS hP hz hn hl
  refine lv_isub C.1 C.2.1 hd ?_
  rw [iI_sub]
  exact h

theorem R_imul {x y : Int} (hd : decode K.2.1 pc = .ok (.imul, 1)) (k : Rr l G K kc ks (pc + 1) ls (ai (x * y) :: st) σ) : Rr l G K kc ks pc ls (ai y :: ai x :: st) σ := by
  intro p e s m args below meth c H locs cls C hS hP hz hn hl
  have h := k p e s m args below meth c H locs cls C hS hP hz hn hl
  refine lv_imul C.1 C.2.1 hd ?_
  rw [iI_mul]
  exact h

theorem R_iand {x y : Int} (hd : decode K.2.1 pc = .ok (.iand, 1)) (k : Rr l G K kc ks (pc + 1) ls (ai (bAnd x y) :: st) σ) : Rr l G K kc ks pc ls (ai y :: ai x :: st) σ := by
  intro p e s m args below meth c H locs cls C hS hP hz hn hl
  have h := k p e s m args below meth c H locs cls C hS hP hz hn hl
  refine lv_iand C.1 C.2.1 hd ?_
  rw [← iI_bAnd]
  exact h

theorem R_ior {x y : Int} (hd : decode K.2.1 pc = .ok (.ior, 1)) (k : Rr l G K kc ks (pc + 1) ls (ai (bOr x y) :: st) σ) : Rr l G K kc ks pc ls (ai y :: ai x :: st) σ := by
  intro p e s m args below meth c H locs cls C hS hP hz hn hl
  have h := k p e s m args below meth c H locs cls C hS hP hz hn hl
  refine lv_ior C.1 C.2.1 hd ?_
  rw [← iI_bOr]
  exact h

theorem R_ixor {x y : Int} (hd : decode K.2.1 pc = .ok (.ixor, 1)) (k : Rr l G K kc ks (pc + 1) ls (ai (bXor x y) :: st) σ) : Rr l G K kc ks pc ls (ai y :: ai x :: st) σ := by
  intro p e s m args below meth c H locs cls C hS hP hz hn hl
  have h := k p e s m args below meth c H locs cls C hS hP hz hn hl
  refine lv_ixor C.1 C.2.1 hd ?_
  rw [← iI_bXor]
  exact h

theorem R_ishl {x y : Int} (hd : decode K.2.1 pc = .ok (.ishl, 1)) (k : Rr l G K kc ks (pc + 1) ls (ai (bShl x y) :: st) σ) : Rr l G K kc ks pc ls (ai y :: ai x :: st) σ := by
  intro p e s m args below meth c H locs cls C hS hP hz hn hl
  have h := k p e s m args below meth c H locs cls C hS hP hz hn hl
  refine lv_ishl C.1 C.2.1 hd ?_
  rw [← iI_bShl]
  exact h

theorem R_ishr {x y : Int} (hd : decode K.2.1 pc = .ok (.ishr, 1)) (k : Rr l G K kc ks (pc + 1) ls (ai (bShr x y) :: st) σ) : Rr l G K kc ks pc ls (ai y :: ai x :: st) σ := by
  intro p e s m args below meth c H locs cls C hS hP hz hn hl
  have h := k p e s m args below meth c H locs cls C hS hP hz hn hl
  refine lv_ishr C.1 C.2.1 hd ?_
  rw [← iI_bShr]
  exact h

theorem R_iushr {x y : Int} (hd : decode K.2.1 pc = .ok (.iushr, 1)) (k : Rr l G K kc ks (pc + 1) ls (ai (bUsh x y) :: st) σ) : Rr l G K kc ks pc ls (ai y :: ai x :: st) σ := by
  intro p e s m args below meth c H locs cls C hS hP hz hn hl
  have h := k p e s m args below meth c H locs cls C hS hP hz hn hl
  exact lv_iushr C.1 C.2.1 hd (iI_of _).symm h

theorem R_idiv {x y : Int} (hd : decode K.2.1 pc = .ok (.idiv, 1)) (hy : wr y ≠ 0) (k : Rr l G K kc ks (pc + 1) ls (ai (bDiv x y) :: st) σ) : Rr l G K kc ks pc ls (ai y :: ai x :: st) σ := by
  intro p e s m args below meth c H locs cls C hS hP hz hn hl
  have h := k p e s m args below meth c H locs cls C hS hP hz hn hl
  refine lv_idiv C.1 C.2.1 hd (fun q => hy (by rw [iI_0, iI_eq] at q; exact q)) ?_
  rw [← iI_bDiv]
  exact h

theorem R_irem {x y : Int} (hd : decode K.2.1 pc = .ok (.irem, 1)) (hy : wr y ≠ 0) (k : Rr l G K kc ks (pc + 1) ls (ai (bRem x y) :: st) σ) : Rr l G K kc ks pc ls (ai y :: ai x :: st) σ := by
  intro p e s m args below meth c H locs cls C hS hP hz hn hl
  have h := k p e s m args below meth c H locs cls C hS hP hz hn hl
  refine lv_irem C.1 C.2.1 hd (fun q => hy (by rw [iI_0, iI_eq] at q; exact q)) ?_
  rw [← iI_bRem]
  exact h

theorem R_ladd {x y : Int} (hd : decode K.2.1 pc = .ok (.ladd, 1)) (k : Rr l G K kc ks (pc + 1) ls (al (x + y) :: st) σ) : Rr l G K kc ks pc ls (al y :: al x :: st) σ := by
  intro p e s m args below meth c H locs cls C hS hP hz hn hl
  have h := k p e s m args below meth c H locs cls C hS hP hz hn hl
  refine lv_ladd C.1 C.2.1 hd ?_
  rw [lI_add]
  exact h

theorem R_lmul {x y : Int} (hd : decode K.2.1 pc = .ok (.lmul, 1)) (k : Rr l G K kc ks (pc + 1) ls (al (x * y) :: st) σ) : Rr l G K kc ks pc ls (al y :: al x :: st) σ := by
  intro p e s m args below meth c H locs cls C hS hP hz hn hl
  have h := k p e s m args below meth c H locs cls C hS hP hz hn hl
  refine lv_lmul C.1 C.2.1 hd ?_
  rw [lI_mul]
  exact h

theorem R_i2l {x : Int} (hd : decode K.2.1 pc = .ok (.i2l, 1)) (k : Rr l G K kc ks (pc + 1) ls (al (wr x) :: st) σ) : Rr l G K kc ks pc ls (ai x :: st) σ := by
  intro p e s m args below meth c H locs cls C hS hP hz hn hl
  have h := k p e s m args below meth c H locs cls C hS hP hz hn hl
  exact lv_i2l C.1 C.2.1 hd (lI_i2l x) h

theorem R_dup {v : Int ⊕ Nat} (hd : decode K.2.1 pc = .ok (.dup, 1)) (k : Rr l G K kc ks (pc + 1) ls (some (v.elim .inl (fun p => .inr (.inl p))) :: some (v.elim .inl (fun p => .inr (.inl p))) :: st) σ) : Rr l G K kc ks pc ls (some (v.elim .inl (fun p => .inr (.inl p))) :: st) σ := by
  intro p e s m args below meth c H locs cls C hS hP hz hn hl
  have h := k p e s m args below meth c H locs cls C hS hP hz hn hl
  cases v <;> exact lv_dup C.1 C.2.1 hd rfl h

theorem R_dupI {x : Int} (hd : decode K.2.1 pc = .ok (.dup, 1)) (k : Rr l G K kc ks (pc + 1) ls (ai x :: ai x :: st) σ) : Rr l G K kc ks pc ls (ai x :: st) σ := by
  intro p e s m args below meth c H locs cls C hS hP hz hn hl
  have h := k p e s m args below meth c H locs cls C hS hP hz hn hl
  exact lv_dup C.1 C.2.1 hd rfl h

theorem R_dupA {x : Nat} (hd : decode K.2.1 pc = .ok (.dup, 1)) (k : Rr l G K kc ks (pc + 1) ls (ar x :: ar x :: st) σ) : Rr l G K kc ks pc ls (ar x :: st) σ := by
  intro p e s m args below meth c H locs cls C hS hP hz hn hl
  have h := k p e s m args below meth c H locs cls C hS hP hz hn hl
  exact lv_dup C.1 C.2.1 hd rfl h

theorem R_dup2 {x : Int} {q : Nat} (hd : decode K.2.1 pc = .ok (.dup2, 1)) (k : Rr l G K kc ks (pc + 1) ls (ai x :: ar q :: ai x :: ar q :: st) σ) : Rr l G K kc ks pc ls (ai x :: ar q :: st) σ := by
  intro p e s m args below meth c H locs cls C hS hP hz hn hl
  have h := k p e s m args below meth c H locs cls C hS hP hz hn hl
  exact lv_dup2_11 C.1 C.2.1 hd rfl rfl h

theorem R_goto {off : Int} {tgt : Nat} (hd : decode K.2.1 pc = .ok (.goto off, 3)) (ht : (pc : Int) + off = (tgt : Int)) (k : Rr l G K kc ks tgt ls st σ) : Rr l G K kc ks pc ls st σ := by
  intro p e s m args below meth c H locs cls C hS hP hz hn hl
  exact lv_goto C.1 C.2.1 hd ht (k p e s m args below meth c H locs cls C hS hP hz hn hl)

theorem R_icmp_eq {x y off : Int} {tgt : Nat} (hd : decode K.2.1 pc = .ok (.if_icmp .eq off, 3)) (ht : (pc : Int) + off = (tgt : Int)) (kt : wr x = wr y → Rr l G K kc ks tgt ls st σ) (kf : ¬ (wr x = wr y) → Rr l G K kc ks (pc + 3) ls st σ) : Rr l G K kc ks pc ls (ai y :: ai x :: st) σ := by
  intro p e s m args below meth c H locs cls C hS hP hz hn hl
  exact lv_icmp_eq C.1 C.2.1 hd ht (fun q => kt (by first | exact (iI_eq _ _).mp q | exact fun z => q ((iI_eq _ _).mpr z)) p e s m args below meth c H locs cls C hS hP hz hn hl) (fun q => kf (fun z => q (by first | exact (iI_eq _ _).mpr z | exact fun w => z ((iI_eq _ _).mp w))) p e s m args below meth c H locs cls C hS hP hz hn hl)
theorem R_if_eq {x off : Int} {tgt : Nat} (hd : decode K.2.1 pc = .ok (.ifCond .eq off, 3)) (ht : (pc : Int) + off = (tgt : Int)) (kt : wr x = 0 → Rr l G K kc ks tgt ls st σ) (kf : ¬ (wr x = 0) → Rr l G K kc ks (pc + 3) ls st σ) : Rr l G K kc ks pc ls (ai x :: st) σ := by
  intro p e s m args below meth c H locs cls C hS hP hz hn hl
  exact lv_if_eq C.1 C.2.1 hd ht (fun q => kt (by rw [iI_0] at q; first | exact (iI_eq _ _).mp q | exact fun z => q ((iI_eq _ _).mpr z)) p e s m args below meth c H locs cls C hS hP hz hn hl) (fun q => kf (fun z => q (by rw [iI_0]; first | exact (iI_eq _ _).mpr z | exact fun w => z ((iI_eq _ _).mp w))) p e s m args below meth c H locs cls C hS hP hz hn hl)

theorem R_icmp_ne {x y off : Int} {tgt : Nat} (hd : decode K.2.1 pc = .ok (.if_icmp .ne off, 3)) (ht : (pc : Int) + off = (tgt : Int)) (kt : ¬ wr x = wr y → Rr l G K kc ks tgt ls st σ) (kf : wr x = wr y → Rr l G K kc ks (pc + 3) ls st σ) : Rr l G K kc ks pc ls (ai y :: ai x :: st) σ := by
  intro p e s m args below meth c H locs cls C hS hP hz hn hl
  exact lv_icmp_ne C.1 C.2.1 hd ht (fun q => kt (fun z => q ((iI_eq _ _).mpr z)) p e s m args below meth c H locs cls C hS hP hz hn hl) (fun q => kf ((iI_eq _ _).mp q) p e s m args below meth c H locs cls C hS hP hz hn hl)
theorem R_if_ne {x off : Int} {tgt : Nat} (hd : decode K.2.1 pc = .ok (.ifCond .ne off, 3)) (ht : (pc : Int) + off = (tgt : Int)) (kt : ¬ wr x = 0 → Rr l G K kc ks tgt ls st σ) (kf : wr x = 0 → Rr l G K kc ks (pc + 3) ls st σ) : Rr l G K kc ks pc ls (ai x :: st) σ := by
  intro p e s m args below meth c H locs cls C hS hP hz hn hl
  exact lv_if_ne C.1 C.2.1 hd ht (fun q => kt (fun z => q (by rw [iI_0]; exact (iI_eq _ _).mpr z)) p e s m args below meth c H locs cls C hS hP hz hn hl) (fun q => kf (by rw [iI_0] at q; exact (iI_eq _ _).mp q) p e s m args below meth c H locs cls C hS hP hz hn hl)

theorem R_icmp_lt {x y off : Int} {tgt : Nat} (hd : decode K.2.1 pc = .ok (.if_icmp .lt off, 3)) (ht : (pc : Int) + off = (tgt : Int)) (kt : wr x < wr y → Rr l G K kc ks tgt ls st σ) (kf : ¬ (wr x < wr y) → Rr l G K kc ks (pc + 3) ls st σ) : Rr l G K kc ks pc ls (ai y :: ai x :: st) σ := by
  intro p e s m args below meth c H locs cls C hS hP hz hn hl
  exact lv_icmp_lt C.1 C.2.1 hd ht (fun q => kt (by first | exact (iI_lt _ _).mp q | exact fun z => q ((iI_lt _ _).mpr z)) p e s m args below meth c H locs cls C hS hP hz hn hl) (fun q => kf (fun z => q (by first | exact (iI_lt _ _).mpr z | exact fun w => z ((iI_lt _ _).mp w))) p e s m args below meth c H locs cls C hS hP hz hn hl)
theorem R_if_lt {x off : Int} {tgt : Nat} (hd : decode K.2.1 pc = .ok (.ifCond .lt off, 3)) (ht : (pc : Int) + off = (tgt : Int)) (kt : wr x < 0 → Rr l G K kc ks tgt ls st σ) (kf : ¬ (wr x < 0) → Rr l G K kc ks (pc + 3) ls st σ) : Rr l G K kc ks pc ls (ai x :: st) σ := by
  intro p e s m args below meth c H locs cls C hS hP hz hn hl
  exact lv_if_lt C.1 C.2.1 hd ht (fun q => kt (by rw [iI_0] at q; first | exact (iI_lt _ _).mp q | exact fun z => q ((iI_lt _ _).mpr z)) p e s m args below meth c H locs cls C hS hP hz hn hl) (fun q => kf (fun z => q (by rw [iI_0]; first | exact (iI_lt _ _).mpr z | exact fun w => z ((iI_lt _ _).mp w))) p e s m args below meth c H locs cls C hS hP hz hn hl)

theorem R_icmp_ge {x y off : Int} {tgt : Nat} (hd : decode K.2.1 pc = .ok (.if_icmp .ge off, 3)) (ht : (pc : Int) + off = (tgt : Int)) (kt : wr y ≤ wr x → Rr l G K kc ks tgt ls st σ) (kf : ¬ (wr y ≤ wr x) → Rr l G K kc ks (pc + 3) ls st σ) : Rr l G K kc ks pc ls (ai y :: ai x :: st) σ := by
  intro p e s m args below meth c H locs cls C hS hP hz hn hl
  exact lv_icmp_ge C.1 C.2.1 hd ht (fun q => kt (by first | exact (iI_le _ _).mp q | exact fun z => q ((iI_le _ _).mpr z)) p e s m args below meth c H locs cls C hS hP hz hn hl) (fun q => kf (fun z => q (by first | exact (iI_le _ _).mpr z | exact fun w => z ((iI_le _ _).mp w))) p e s m args below meth c H locs cls C hS hP hz hn hl)
theorem R_if_ge {x off : Int} {tgt : Nat} (hd : decode K.2.1 pc = .ok (.ifCond .ge off, 3)) (ht : (pc : Int) + off = (tgt : Int)) (kt : 0 ≤ wr x → Rr l G K kc ks tgt ls st σ) (kf : ¬ (0 ≤ wr x) → Rr l G K kc ks (pc + 3) ls st σ) : Rr l G K kc ks pc ls (ai x :: st) σ := by
  intro p e s m args below meth c H locs cls C hS hP hz hn hl
  exact lv_if_ge C.1 C.2.1 hd ht (fun q => kt (by rw [iI_0] at q; first | exact (iI_le _ _).mp q | exact fun z => q ((iI_le _ _).mpr z)) p e s m args below meth c H locs cls C hS hP hz hn hl) (fun q => kf (fun z => q (by rw [iI_0]; first | exact (iI_le _ _).mpr z | exact fun w => z ((iI_le _ _).mp w))) p e s m args below meth c H locs cls C hS hP hz hn hl)

theorem R_icmp_gt {x y off : Int} {tgt : Nat} (hd : decode K.2.1 pc = .ok (.if_icmp .gt off, 3)) (ht : (pc : Int) + off = (tgt : Int)) (kt : wr y < wr x → Rr l G K kc ks tgt ls st σ) (kf : ¬ (wr y < wr x) → Rr l G K kc ks (pc + 3) ls st σ) : Rr l G K kc ks pc ls (ai y :: ai x :: st) σ := by
  intro p e s m args below meth c H locs cls C hS hP hz hn hl
  exact lv_icmp_gt C.1 C.2.1 hd ht (fun q => kt (by first | exact (iI_lt _ _).mp q | exact fun z => q ((iI_lt _ _).mpr z)) p e s m args below meth c H locs cls C hS hP hz hn hl) (fun q => kf (fun z => q (by first | exact (iI_lt _ _).mpr z | exact fun w => z ((iI_lt _ _).mp w))) p e s m args below meth c H locs cls C hS hP hz hn hl)
theorem R_if_gt {x off : Int} {tgt : Nat} (hd : decode K.2.1 pc = .ok (.ifCond .gt off, 3)) (ht : (pc : Int) + off = (tgt : Int)) (kt : 0 < wr x → Rr l G K kc ks tgt ls st σ) (kf : ¬ (0 < wr x) → Rr l G K kc ks (pc + 3) ls st σ) : Rr l G K kc ks pc ls (ai x :: st) σ := by
  intro p e s m args below meth c H locs cls C hS hP hz hn hl
  exact lv_if_gt C.1 C.2.1 hd ht (fun q => kt (by rw [iI_0] at q; first | exact (iI_lt _ _).mp q | exact fun z => q ((iI_lt _ _).mpr z)) p e s m args below meth c H locs cls C hS hP hz hn hl) (fun q => kf (fun z => q (by rw [iI_0]; first | exact (iI_lt _ _).mpr z | exact fun w => z ((iI_lt _ _).mp w))) p e s m args below meth c H locs cls C hS hP hz hn hl)

theorem R_icmp_le {x y off : Int} {tgt : Nat} (hd : decode K.2.1 pc = .ok (.if_icmp .le off, 3)) (ht : (pc : Int) + off = (tgt : Int)) (kt : wr x ≤ wr y → Rr l G K kc ks tgt ls st σ) (kf : ¬ (wr x ≤ wr y) → Rr l G K kc ks (pc + 3) ls st σ) : Rr l G K kc ks pc ls (ai y :: ai x :: st) σ := by
  intro p e s m args below meth c H locs cls C hS hP hz hn hl
  exact lv_icmp_le C.1 C.2.1 hd ht (fun q => kt (by first | exact (iI_le _ _).mp q | exact fun z => q ((iI_le _ _).mpr z)) p e s m args below meth c H locs cls C hS hP hz hn hl) (fun q => kf (fun z => q (by first | exact (iI_le _ _).mpr z | exact fun w => z ((iI_le _ _).mp w))) p e s m args below meth c H locs cls C hS hP hz hn hl)
theorem R_if_le {x off : Int} {tgt : Nat} (hd : decode K.2.1 pc = .ok (.ifCond .le off, 3)) (ht : (pc : Int) + off = (tgt : Int)) (kt : wr x ≤ 0 → Rr l G K kc ks tgt ls st σ) (kf : ¬ (wr x ≤ 0) → Rr l G K kc ks (pc + 3) ls st σ) : Rr l G K kc ks pc ls (ai x :: st) σ := by
  intro p e s m args below meth c H locs cls C hS hP hz hn hl
  exact lv_if_le C.1 C.2.1 hd ht (fun q => kt (by rw [iI_0] at q; first | exact (iI_le _ _).mp q | exact fun z => q ((iI_le _ _).mpr z)) p e s m args below meth c H locs cls C hS hP hz hn hl) (fun q => kf (fun z => q (by rw [iI_0]; first | exact (iI_le _ _).mpr z | exact fun w => z ((iI_le _ _).mp w))) p e s m args below meth c H locs cls C hS hP hz hn hl)

theorem R_tabOut {dflt lo hi : Int} {offs : Array Int} {len : Nat} {x : Int} {tgt : Nat} (hd : decode K.2.1 pc = .ok (.tableswitch dflt lo hi offs, len)) (hx : wr x < lo ∨ hi < wr x) (ht : (pc : Int) + dflt = (tgt : Int)) (k : Rr l G K kc ks tgt ls st σ) : Rr l G K kc ks pc ls (ai x :: st) σ := by
  intro p e s m args below meth c H locs cls C hS hP hz hn hl
  exact lv_tableOut C.1 C.2.1 hd (by rw [iI_toInt]; exact hx) ht (k p e s m args below meth c H locs cls C hS hP hz hn hl)
theorem R_tabIn {dflt lo hi : Int} {offs : Array Int} {len : Nat} {x off : Int} {tgt : Nat} (hd : decode K.2.1 pc = .ok (.tableswitch dflt lo hi offs, len)) (h1 : ¬ wr x < lo) (h2 : ¬ hi < wr x) (ho : offs[(wr x - lo).toNat]? = some off) (ht : (pc : Int) + off = (tgt : Int)) (k : Rr l G K kc ks tgt ls st σ) : Rr l G K kc ks pc ls (ai x :: st) σ := by
  intro p e s m args below meth c H locs cls C hS hP hz hn hl
  exact lv_tableIn C.1 C.2.1 hd (by rw [iI_toInt]; exact h1) (by rw [iI_toInt]; exact h2) (by rw [iI_toInt]; exact ho) ht (k p e s m args below meth c H locs cls C hS hP hz hn hl)
theorem R_lcmp {x y : Int} (hd : decode K.2.1 pc = .ok (.lcmp, 1)) (k : ∀ z : Int, (x = y → z = 0) → Rr l G K kc ks (pc + 1) ls (ai z :: st) σ) : Rr l G K kc ks pc ls (al y :: al x :: st) σ := by
  intro p e s m args below meth c H locs cls C hS hP hz hn hl
  refine W.lcmp C.1 C.2.1 hd ?_
  rw [← iI_of (lg_cmp _ _)]
  exact k _ (fun q => by subst q; simp [lg_cmp]) p e s m args below meth c H locs cls C hS hP hz hn hl
end ROWS
