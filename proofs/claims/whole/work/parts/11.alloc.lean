/-! rows that make cells, copy rows, the empty constructor -/
def up1 {α : Type} (I : Nat → α) (p : Nat) (f : α) : Nat → α := fun q => if q = p then f else I q
theorem up1_self {α : Type} (I : Nat → α) (p : Nat) (f : α) : up1 I p f p = f := if_pos rfl
theorem up1_ne {α : Type} (I : Nat → α) {p q : Nat} (f : α) (h : q ≠ p) : up1 I p f q = I q := if_neg h
theorem kd_tmp (σ : Sg) {p : Nat} (h : 63 ≤ p) : kd σ p = (0, σ.2.2.2 p) := by
  unfold kd
  rw [List.getElem?_eq_none (show lay.length ≤ p from h)]
theorem kd_low {σ σ' : Sg} {p : Nat} (h : p < 63) : kd σ' p = kd σ p := by
  unfold kd
  have : lay[p]? = some (lay[p]'(show p < lay.length from h)) := List.getElem?_eq_getElem _
  rw [this]
theorem kd_up (I I' : Nat → Nat → Int) (Rf Rf' : Nat → Nat → Option Nat) (n n' : Nat) (tl : Nat → Nat) {p q : Nat} (N : Nat) (h : q ≠ p) : kd (I', Rf', n', up1 tl p N) q = kd (I, Rf, n, tl) q := by
  unfold kd
  cases lay[q]? with
  | some x => rfl
  | none => simp [up1_ne tl N h]
section ALLOC
variable {l : Launch} {G : GE} {K : KT} {kc ks pc : Nat} {ls st : List AV} {σ : Sg}
theorem new_at {σ : Sg} {H1 : Heap} {q : Nat} {e : va_E} (hP1 : va_P G.1 vwCl (wsOf G σ ++ [(q, e)]) H1) (hD1 : va_D (AA G) (wsOf G σ ++ [(q, e)])) (hle : H1.size ≤ G.2.2.1 + σ.2.2.1 + 1) : q = G.2.2.1 + σ.2.2.1 := by
  have hlen : (wsOf G σ).length = σ.2.2.1 := by unfold wsOf; simp
  have hat : (wsOf G σ ++ [(q, e)])[σ.2.2.1]? = some (q, e) := by
    rw [List.getElem?_append_right (by omega), hlen]
    simp
  have h1 : q < H1.size := (hP1 _ _ hat).lt
  have h2 : G.2.2.1 ≤ q := hD1.2 _ _ hat
  rcases Nat.lt_or_ge q (G.2.2.1 + σ.2.2.1) with h | h
  · have h3 : (wsOf G σ ++ [(q, e)])[q - G.2.2.1]? = some (G.2.2.1 + (q - G.2.2.1), cellOf G σ (q - G.2.2.1)) := by
      rw [List.getElem?_append_left (by omega), ws_get G σ (by omega)]
    have := hD1.1 _ _ _ _ h3 hat (by show G.2.2.1 + (q - G.2.2.1) = q; omega)
    omega
  · omega
theorem after_new {I I' : Nat → Nat → Int} {Rf Rf' : Nat → Nat → Option Nat} {nx : Nat} {tl tl' : Nat → Nat} {p : Program} {e : Env} {s : State} {m : MethodId} {args : Array Value} {below : List Frame} {meth : Method} {c : Code} {H1 : Heap} {locs : List Loc} {cls : Array Slot} {q pc' N : Nat} {x : va_E}
    (C : Cx G K p s m args meth c) (hP1 : va_P G.1 vwCl (wsOf G (I, Rf, nx, tl) ++ [(q, x)]) H1) (hD1 : va_D (AA G) (wsOf G (I, Rf, nx, tl) ++ [(q, x)])) (hS1 : va_S (AA G) s.heap H1 locs) (hn : nx = K.2.2.2.2.2.2.1 + kc) (hlim : nx < 1000000) (hl : lv_has cls K.2.2.1 (lvL G ls))
    (hx : cellOf G (I', Rf', nx + 1, tl') nx = x) (ho : ∀ j, j < nx → cellOf G (I', Rf', nx + 1, tl') j = cellOf G (I, Rf, nx, tl) j) (kk : Rr l G K (kc + 1) (ks + N) pc' ls (ar nx :: st) (I', Rf', nx + 1, tl')) :
    W p l e K.2.2.2.2.2.1 s m args below meth c H1 locs (kc + 1) (ks + N) (K.2.2.2.2.2.2.2 below args s) (F0 m pc' cls (.ref q :: st.map (cv G))) := by
  refine W_sz fun hle => ?_
  have h0 := C.2.2.2.2.2.2.2.2.2
  have hq : q = G.2.2.1 + nx := new_at (σ := (I, Rf, nx, tl)) hP1 hD1 (by show H1.size ≤ G.2.2.1 + nx + 1; omega)
  subst hq
  rw [ws_push G (I, Rf, nx, tl) (I', Rf', nx + 1, tl') rfl hx ho] at hP1
  have hR : Rp G (I', Rf', nx + 1, tl') H1 := ⟨hP1, hlim⟩
  have hw := kk p e s m args below meth c H1 locs cls C hS1 hR (size_of (K := K) (kc := kc + 1) hR h0 hS1.1 (by show nx + 1 = _; omega) hle) (by show nx + 1 = _; omega) hl
  rw [← adr_lo (G := G) (p := nx) hlim]
  exact hw
theorem R_new {idx ci N : Nat} {C' : String} {T : u_T} {I : Nat → Nat → Int} {Rf : Nat → Nat → Option Nat} {nx : Nat} {tl : Nat → Nat} (hd : decode K.2.1 pc = .ok (.new idx, 3)) (hc : vwCl[ci]? = some (C', T, N)) (hw : Cond.classLink K.1 idx C' ∈ TG) (hw2 : Cond.instantiable C' N ∈ TG) (hw3 : Cond.initialized C' ∈ TG) (hk : lay[nx]? = some (ci + 3, N)) (hlim : nx < 63) (hR : kc + 1 ≤ K.2.2.2.2.2.1.cells ∧ ks + N ≤ K.2.2.2.2.2.1.slots)
    (hfs : ∀ j, j < N → defaultValue (tyc ci j) = vp_V (fvs G (fun _ => 0) (fun _ => none) (ftl.getD ci []) 0) j)
    (kk : Rr l G K (kc + 1) (ks + N) (pc + 3) ls (ar nx :: st) (up1 I nx (fun _ => 0), up1 Rf nx (fun _ => none), nx + 1, tl)) : Rr l G K kc ks pc ls st (I, Rf, nx, tl) := by
  intro p e s m args below meth c H locs cls C hS hP hz hn hl
  have hts := C.2.2.2.2.2.1
  refine va_new (ci := ci) (fs := fvs G (fun _ => 0) (fun _ => none) (ftl.getD ci []) 0) C.1 C.2.1 hts (inTG hc) (tyc ci) (tyc_ok hc) C.2.2.2.2.1 (hts _ hw) (hts _ hw2) (hts _ hw3) C.2.2.2.2.2.2.2.2.1.1 hP.1 (ws_D G _) hS (fun q h => by have := C.2.2.2.2.2.2.2.2.2; show G.2.2.1 ≤ q; omega) hc hfs hR.1 hR.2 hd (fun q H1 hP1 hD1 hS1 => ?_)
  refine after_new C hP1 hD1 hS1 hn (by omega) hl ?_ (fun j hj => ?_) kk
  · unfold cellOf
    rw [show kd (up1 I nx (fun _ => 0), up1 Rf nx (fun _ => none), nx + 1, tl) nx = (ci + 3, N) by unfold kd; rw [hk]]
    show cellAt G (ci + 3, N) (up1 I nx (fun _ => 0) nx) (up1 Rf nx (fun _ => none) nx) = _
    rw [up1_self, up1_self]
    rfl
  · unfold cellOf
    show cellAt G (kd _ j) (up1 I nx (fun _ => 0) j) (up1 Rf nx (fun _ => none) j) = cellAt G (kd _ j) (I j) (Rf j)
    rw [up1_ne I _ (Nat.ne_of_lt hj), up1_ne Rf _ (Nat.ne_of_lt hj)]
    rfl
theorem same_arr {s : State} {cA : ClassId} {ty : FieldType} {t0 : Nat} {c0 : ClassId} (h1 : va_K G.1 vwCl (tysG G ++ [(cA, ty)]) s) (h0 : (tysG G)[t0]? = some (c0, ty)) (hty : ty = .int ∨ ty = .boolean) : cA = c0 := by
  have h2 : va_RA s cA ty := (h1.2 3 _ rfl).2
  have h3 : va_RA s c0 ty := (h1.2 t0 _ (by rw [List.getElem?_append_left (List.getElem?_eq_some_iff.mp h0).1]; exact h0)).2
  rcases hty with rfl | rfl
  · exact Option.some.inj (h2.symm.trans h3)
  · exact Option.some.inj (h2.symm.trans h3)
theorem R_newI {n : Int} {N : Nat} {I : Nat → Nat → Int} {Rf : Nat → Nat → Option Nat} {nx : Nat} {tl : Nat → Nat} (hd : decode K.2.1 pc = .ok (.newarray .int, 2)) (hN : n = N) (hb : N < 100000) (hk : kd (up1 I nx (fun _ => 0), Rf, nx + 1, up1 tl nx N) nx = (0, N)) (hlim : nx < 1000000) (hR : kc + 1 ≤ K.2.2.2.2.2.1.cells ∧ ks + N ≤ K.2.2.2.2.2.1.slots)
    (kk : Rr l G K (kc + 1) (ks + N) (pc + 2) ls (ar nx :: st) (up1 I nx (fun _ => 0), Rf, nx + 1, up1 tl nx N)) : Rr l G K kc ks pc ls (ai n :: st) (I, Rf, nx, tl) := by
  intro p e s m args below meth c H locs cls C hS hP hz hn hl
  subst hN
  have hts := C.2.2.2.2.2.1
  refine va_newa (atype := .int) (ty := .int) (a0 := (N, .inl (fun _ => iI 0))) C.1 C.2.1 (hts _ wAI) rfl C.2.2.2.2.2.2.2.2.1.1 hP.1 (ws_D G _) hS (fun q h => by have := C.2.2.2.2.2.2.2.2.2; show G.2.2.1 ≤ q; omega) (fun cA => rfl) (by rw [iI_0, iI_lt, wr_id (by omega) (by omega)]; unfold wr; omega) (iI_clamp (by omega)) (by show N * 4 ≤ _; omega) hR.1 hR.2 hd (fun q cA H1 hK1 hP1 hD1 hS1 => ?_)
  have hcA : cA = G.2.1.1 := same_arr hK1 (t0 := 0) rfl (Or.inl rfl)
  subst hcA
  refine after_new C hP1 hD1 hS1 hn hlim hl ?_ (fun j hj => ?_) kk
  · unfold cellOf
    rw [hk]
    show cellAt G (0, N) (up1 I nx (fun _ => 0) nx) _ = _
    rw [up1_self]
    rfl
  · unfold cellOf
    show cellAt G (kd _ j) (up1 I nx (fun _ => 0) j) (Rf j) = cellAt G (kd _ j) (I j) (Rf j)
    rw [up1_ne I _ (Nat.ne_of_lt hj), kd_up I _ Rf Rf nx (nx + 1) tl N (Nat.ne_of_lt hj)]
theorem R_newZ {n : Int} {N : Nat} {I : Nat → Nat → Int} {Rf : Nat → Nat → Option Nat} {nx : Nat} {tl : Nat → Nat} (hd : decode K.2.1 pc = .ok (.newarray .boolean, 2)) (hN : n = N) (hb : N < 100000) (hk : kd (up1 I nx (fun _ => 0), Rf, nx + 1, up1 tl nx N) nx = (1, N)) (hlim : nx < 1000000) (hR : kc + 1 ≤ K.2.2.2.2.2.1.cells ∧ ks + N ≤ K.2.2.2.2.2.1.slots)
    (kk : Rr l G K (kc + 1) (ks + N) (pc + 2) ls (ar nx :: st) (up1 I nx (fun _ => 0), Rf, nx + 1, up1 tl nx N)) : Rr l G K kc ks pc ls (ai n :: st) (I, Rf, nx, tl) := by
  intro p e s m args below meth c H locs cls C hS hP hz hn hl
  subst hN
  have hts := C.2.2.2.2.2.1
  refine va_newa (atype := .boolean) (ty := .boolean) (a0 := (N, .inl (fun _ => iI 0))) C.1 C.2.1 (hts _ wAZ) rfl C.2.2.2.2.2.2.2.2.1.1 hP.1 (ws_D G _) hS (fun q h => by have := C.2.2.2.2.2.2.2.2.2; show G.2.2.1 ≤ q; omega) (fun cA => rfl) (by rw [iI_0, iI_lt, wr_id (by omega) (by omega)]; unfold wr; omega) (iI_clamp (by omega)) (by show N * 1 ≤ _; omega) hR.1 hR.2 hd (fun q cA H1 hK1 hP1 hD1 hS1 => ?_)
  have hcA : cA = G.2.1.2.1 := same_arr hK1 (t0 := 1) rfl (Or.inr rfl)
  subst hcA
  refine after_new C hP1 hD1 hS1 hn hlim hl ?_ (fun j hj => ?_) kk
  · unfold cellOf
    rw [hk]
    show cellAt G (1, N) (up1 I nx (fun _ => 0) nx) _ = _
    rw [up1_self]
    rfl
  · unfold cellOf
    show cellAt G (kd _ j) (up1 I nx (fun _ => 0) j) (Rf j) = cellAt G (kd _ j) (I j) (Rf j)
    rw [up1_ne I _ (Nat.ne_of_lt hj), kd_up I _ Rf Rf nx (nx + 1) tl N (Nat.ne_of_lt hj)]
theorem R_objInit {idx x : Nat} (hd : decode K.2.1 pc = .ok (.invokespecial idx, 3)) (hw : Cond.methodLink K.1 idx objectInit ∈ TG) (hR : 1 ≤ K.2.2.2.2.2.1.frames ∧ ((st.map (cv G)).map fun v => v.category).sum + 12 ≤ K.2.2.2.2.2.1.locals) (kk : Rr l G K kc ks (pc + 3) ls st σ) : Rr l G K kc ks pc ls (ar x :: st) σ := by
  intro p e s m args below meth c H locs cls C hS hP hz hn hl
  have hts := C.2.2.2.2.2.1
  exact W.objInit C.1 C.2.1 C.2.2.2.2.1 (hts _ hw) (hts _ wObj) (hts _ wObj2) rfl (hl.1.trans C.2.2.1.symm) rfl hd hR.1 (by show 2 * 0 + _ + 12 ≤ _; rw [Nat.mul_zero, Nat.zero_add]; exact hR.2) (kk p e s m args below meth c H locs cls C hS hP hz hn hl)
theorem R_copy {idx ps pd ns nd a b n : Nat} {zs zd zn : Int} {I : Nat → Nat → Int} {σ2 : (Nat → Nat → Option Nat) × Nat × (Nat → Nat)} (hd : decode K.2.1 pc = .ok (.invokestatic idx, 3)) (hw : Cond.methodLink K.1 idx arraycopyName ∈ TG) (hks : kd (I, σ2) ps = (0, ns)) (hkd : kd (I, σ2) pd = (0, nd)) (hps : ps < σ2.2.1) (hpd : pd < σ2.2.1) (ha : zs = a) (hb : zd = b) (hn : zn = n) (h1 : a + n ≤ ns) (h2 : b + n ≤ nd) (hlim : ns < 100000 ∧ nd < 100000)
    (hR : 1 ≤ K.2.2.2.2.2.1.frames ∧ ((st.map (cv G)).map fun v => v.category).sum + 18 ≤ K.2.2.2.2.2.1.locals) (kk : Rr l G K kc ks (pc + 3) ls st (up1 I pd (fun j => if b ≤ j ∧ j < b + n then I ps (a + (j - b)) else I pd j), σ2)) : Rr l G K kc ks pc ls (ai zn :: ai zd :: ar pd :: ai zs :: ar ps :: st) (I, σ2) := by
  intro p e s m args below meth c H locs cls C hS hP hz2 hn2 hl
  subst ha hb hn
  have hts := C.2.2.2.2.2.1
  have hcs : cellOf G (I, σ2) ps = .inl (G.2.1.1, ns, .inl (fun j => iI (I ps j))) := by unfold cellOf; rw [hks]; rfl
  have hcd : cellOf G (I, σ2) pd = .inl (G.2.1.1, nd, .inl (fun j => iI (I pd j))) := by unfold cellOf; rw [hkd]; rfl
  have hgs := ws_get G (I, σ2) hps
  rw [hcs] at hgs
  have hgd := ws_get G (I, σ2) hpd
  rw [hcd] at hgd
  have hm : σ2.2.1 ≤ 1000000 := hP.2
  show W _ _ _ _ _ _ _ _ _ _ _ _ _ _ _ (F0 m pc cls (.int (iI n) :: .int (iI b) :: .ref (adr G pd) :: .int (iI a) :: .ref (adr G ps) :: st.map (cv G)))
  rw [adr_lo (G := G) (p := pd) (by omega), adr_lo (G := G) (p := ps) (by omega)]
  refine va_copyi C.1 C.2.1 (C.2.2.1.trans hl.1.symm) C.2.2.2.2.1 (hts _ hw) (hts _ wArr) (hts _ wArr2) (hts _ wSys) C.2.2.2.2.2.2.2.2.1.1 hP.1 (ws_D G (I, σ2)) hS ps pd 0 0 hgs hgd rfl rfl rfl (by rw [iI_0, iI_lt, wr_id (by omega) (by omega)]; unfold wr; omega) (by rw [iI_0, iI_lt, wr_id (by omega) (by omega)]; unfold wr; omega) (by rw [iI_0, iI_lt, wr_id (by omega) (by omega)]; unfold wr; omega) (by rw [iI_clamp (by omega), iI_clamp (by omega)]; exact h1) (by rw [iI_clamp (by omega), iI_clamp (by omega)]; exact h2) (fun _ _ => rfl) hR.1 (by show _ + 18 ≤ _; exact hR.2) hd (fun H1 locs1 hP1 hD1 hS1 => ?_)
  rw [iI_clamp (by omega), iI_clamp (by omega), iI_clamp (by omega)] at hP1
  rw [ws_set G (I, σ2) (up1 I pd (fun j => if b ≤ j ∧ j < b + n then I ps (a + (j - b)) else I pd j), σ2) hpd rfl (by
      unfold cellOf
      rw [show kd (up1 I pd (fun j => if b ≤ j ∧ j < b + n then I ps (a + (j - b)) else I pd j), σ2) pd = (0, nd) from hkd]
      show cellAt G (0, nd) (up1 I pd (fun j => if b ≤ j ∧ j < b + n then I ps (a + (j - b)) else I pd j) pd) _ = _
      rw [up1_self]
      unfold cellAt
      dsimp only
      congr 4
      funext j
      unfold va_cpy
      split <;> rfl) (fun j hj => by
      unfold cellOf
      show cellAt G (kd _ j) (up1 I pd (fun j => if b ≤ j ∧ j < b + n then I ps (a + (j - b)) else I pd j) j) _ = _
      rw [up1_ne I _ hj]
      rfl)] at hP1
  have hRp : Rp G (up1 I pd (fun j => if b ≤ j ∧ j < b + n then I ps (a + (j - b)) else I pd j), σ2) H1 := ⟨hP1, hP.2⟩
  exact W_sz fun hle => kk p e s m args below meth c H1 locs1 cls C hS1 hRp (size_of (K := K) hRp C.2.2.2.2.2.2.2.2.2 hS1.1 hn2 hle) hn2 hl
end ALLOC
