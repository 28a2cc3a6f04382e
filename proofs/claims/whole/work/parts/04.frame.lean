/-! abstract values, the layout of the heap, the judgement Rr -/
abbrev AV : Type := Option (Int ⊕ Nat ⊕ Int)
abbrev ai (z : Int) : AV := some (.inl z)
abbrev ar (p : Nat) : AV := some (.inr (.inl p))
abbrev al (z : Int) : AV := some (.inr (.inr z))
def iI (z : Int) : Int32 := Int32.ofInt z
def lI (z : Int) : Int64 := Int64.ofInt z
/-- a number as 32 bits hold it -/
def wr (z : Int) : Int := (z + 2147483648) % 4294967296 - 2147483648
theorem wr_bmod (z : Int) : z.bmod (2 ^ 32) = wr z := by
  unfold wr
  rw [Int.bmod_def]
  split <;> omega
theorem iI_toInt (z : Int) : (iI z).toInt = wr z := by
  unfold iI
  rw [Int32.toInt_ofInt]
  exact wr_bmod z
theorem wr_id {z : Int} (h1 : -2147483648 ≤ z) (h2 : z < 2147483648) : wr z = z := by unfold wr; omega
theorem wr_lo (z : Int) : -2147483648 ≤ wr z := by unfold wr; omega
theorem wr_hi (z : Int) : wr z < 2147483648 := by unfold wr; omega
theorem iI_lt (x y : Int) : iI x < iI y ↔ wr x < wr y := by rw [Int32.lt_iff_toInt_lt, iI_toInt, iI_toInt]
theorem iI_le (x y : Int) : iI x ≤ iI y ↔ wr x ≤ wr y := by rw [Int32.le_iff_toInt_le, iI_toInt, iI_toInt]
theorem iI_eq (x y : Int) : iI x = iI y ↔ wr x = wr y := by rw [← Int32.toInt_inj, iI_toInt, iI_toInt]
theorem iI_add (x y : Int) : iI x + iI y = iI (x + y) := (Int32.ofInt_add x y).symm
theorem iI_sub (x y : Int) : iI x - iI y = iI (x - y) := (Int32.ofInt_sub x y).symm
theorem iI_mul (x y : Int) : iI x * iI y = iI (x * y) := (Int32.ofInt_mul x y).symm
theorem iI_0 : (0 : Int32) = iI 0 := rfl
theorem iI_of (x : Int32) : iI x.toInt = x := Int32.ofInt_toInt x
theorem iI_clamp {k : Nat} (h : k < 2147483648) : (iI k).toNatClampNeg = k := by
  show (iI k).toInt.toNat = k
  rw [iI_toInt, wr_id (by omega) (by omega)]
  rfl
theorem iI_in {k n : Nat} (h : k < n) (hn : n < 2147483648) : vp_in (iI k) n := by
  rw [vp_in_iff, iI_toInt, wr_id (by omega) (by omega)]
  omega
theorem lI_add (x y : Int) : lI x + lI y = lI (x + y) := (Int64.ofInt_add x y).symm
theorem lI_mul (x y : Int) : lI x * lI y = lI (x * y) := (Int64.ofInt_mul x y).symm
theorem lI_i2l (x : Int) : (iI x).toInt64 = lI (wr x) := by
  have h : (lI (wr x)).toInt = (iI x).toInt64.toInt := by
    rw [Int32.toInt_toInt64, iI_toInt]
    unfold lI
    exact Int64.toInt_ofInt_of_le (by have := wr_lo x; omega) (by have := wr_hi x; omega)
  exact (Int64.toInt_inj.mp h).symm
/-- D, (int[], boolean[], int[][]), the base, the addresses of tables, the script's length and numbers -/
abbrev GE : Type := va_G × (ClassId × ClassId × ClassId) × Nat × (Nat → Nat) × Nat × (Nat → Int)
def adr (G : GE) (p : Nat) : Nat := if p < 1000000 then G.2.2.1 + p else G.2.2.2.1 (p - 1000000)
def cv (G : GE) : AV → Value
  | none => .null
  | some (.inl z) => .int (iI z)
  | some (.inr (.inl p)) => .ref (adr G p)
  | some (.inr (.inr z)) => .long (lI z)
/-- the numbers by place and slot, the references by place and slot, how many places there are, lengths of passing arrays -/
abbrev Sg : Type := (Nat → Nat → Int) × (Nat → Nat → Option Nat) × Nat × (Nat → Nat)
def lay : List (Nat × Nat) := [(7, 6), (3, 4), (0, 256), (1, 256), (6, 4), (0, 10), (2, 10),
  (0, 17), (0, 17), (0, 17), (0, 17), (0, 17), (0, 17), (0, 17), (0, 17), (0, 17), (0, 17),
  (2, 11), (0, 5), (0, 5), (0, 5), (0, 5), (0, 5), (0, 5), (0, 5), (0, 5), (0, 5), (0, 5), (0, 5),
  (4, 2), (2, 11), (0, 48), (0, 48), (0, 48), (0, 48), (0, 48), (0, 48), (0, 48), (0, 48), (0, 48), (0, 48), (0, 48),
  (5, 3), (0, 768), (0, 768), (0, 5), (0, 9), (0, 17),
  (8, 18), (0, 256), (1, 256), (0, 10), (0, 170), (0, 9), (0, 17), (0, 11), (0, 11), (0, 11), (0, 11), (0, 11), (0, 8448), (1, 8448), (0, 5)]
def ftl : List (List Nat) := [[0, 0, 1, 1], [0, 1], [1, 1, 1], [0, 1, 1, 1], [1, 1, 1, 1, 1, 1], [0, 0, 1, 1, 0, 1, 1, 1, 1, 1, 1, 1, 1, 1, 1, 1, 1, 2]]
def fv (G : GE) (f : Nat → Int) (g : Nat → Option Nat) (t j : Nat) : Value := match t with
  | 0 => .int (iI (f j))
  | 1 => va_rf ((g j).map (adr G))
  | _ => .long (lI (f j))
def fvs (G : GE) (f : Nat → Int) (g : Nat → Option Nat) : List Nat → Nat → List Value
  | [], _ => []
  | t :: ts, j => fv G f g t j :: fvs G f g ts (j + 1)
def kd (σ : Sg) (p : Nat) : Nat × Nat := match lay[p]? with
  | some q => q
  | none => (0, σ.2.2.2 p)
def cellAt (G : GE) (d : Nat × Nat) (f : Nat → Int) (g : Nat → Option Nat) : va_E := match d with
  | (0, n) => .inl (G.2.1.1, n, .inl (fun j => iI (f j)))
  | (1, n) => .inl (G.2.1.2.1, n, .inl (fun j => iI (f j)))
  | (2, n) => .inl (G.2.1.2.2, n, .inr (.inr (.inr (.inr (fun j => (g j).map (adr G))))))
  | (c + 3, _) => .inr (c, fvs G f g (ftl.getD c []) 0)
def cellOf (G : GE) (σ : Sg) (p : Nat) : va_E := cellAt G (kd σ p) (σ.1 p) (σ.2.1 p)
def wsOf (G : GE) (σ : Sg) : va_W := (List.range σ.2.2.1).map (fun k => (G.2.2.1 + k, cellOf G σ k))
def Rp (G : GE) (σ : Sg) (H : Heap) : Prop := va_P G.1 vwCl (wsOf G σ) H ∧ σ.2.2.1 ≤ 1000000
def AA (G : GE) : Nat → Prop := fun q => G.2.2.1 ≤ q
theorem ws_get (G : GE) (σ : Sg) {k : Nat} (h : k < σ.2.2.1) : (wsOf G σ)[k]? = some (G.2.2.1 + k, cellOf G σ k) := by
  unfold wsOf
  rw [List.getElem?_map, List.getElem?_range h]
  rfl
theorem ws_none (G : GE) (σ : Sg) {k : Nat} (h : σ.2.2.1 ≤ k) : (wsOf G σ)[k]? = none := by
  unfold wsOf
  rw [List.getElem?_eq_none]
  simp
  exact h
theorem ws_at (G : GE) (σ : Sg) {k : Nat} {q : Nat × va_E} (h : (wsOf G σ)[k]? = some q) : k < σ.2.2.1 ∧ q = (G.2.2.1 + k, cellOf G σ k) := by
  by_cases hk : k < σ.2.2.1
  · rw [ws_get G σ hk] at h
    exact ⟨hk, (Option.some.inj h).symm⟩
  · rw [ws_none G σ (Nat.le_of_not_lt hk)] at h
    cases h
theorem ws_D (G : GE) (σ : Sg) : va_D (AA G) (wsOf G σ) := by
  refine ⟨fun i j p q hi hj he => ?_, fun k q hk => ?_⟩
  · obtain ⟨-, rfl⟩ := ws_at G σ hi
    obtain ⟨-, rfl⟩ := ws_at G σ hj
    have : G.2.2.1 + i = G.2.2.1 + j := he
    omega
  · obtain ⟨-, rfl⟩ := ws_at G σ hk
    exact Nat.le_add_right _ _
theorem ws_set (G : GE) (σ σ' : Sg) {k : Nat} {e : va_E} (h : k < σ.2.2.1) (hn : σ'.2.2.1 = σ.2.2.1) (he : cellOf G σ' k = e) (ho : ∀ j, j ≠ k → cellOf G σ' j = cellOf G σ j) : (wsOf G σ).set k (G.2.2.1 + k, e) = wsOf G σ' := by
  apply List.ext_getElem?
  intro i
  rw [List.getElem?_set]
  by_cases hi : i < σ.2.2.1
  · rw [ws_get G σ' (by rw [hn]; exact hi), ws_get G σ hi]
    by_cases hk : k = i
    · subst hk
      have : k < (wsOf G σ).length := by unfold wsOf; simp; exact h
      rw [if_pos rfl, if_pos this, he]
    · rw [if_neg hk, ho i (Ne.symm hk)]
  · rw [ws_none G σ' (by rw [hn]; omega), ws_none G σ (by omega), if_neg (by omega)]
theorem ws_push (G : GE) (σ σ' : Sg) {e : va_E} (hn : σ'.2.2.1 = σ.2.2.1 + 1) (he : cellOf G σ' σ.2.2.1 = e) (ho : ∀ j, j < σ.2.2.1 → cellOf G σ' j = cellOf G σ j) : wsOf G σ ++ [(G.2.2.1 + σ.2.2.1, e)] = wsOf G σ' := by
  apply List.ext_getElem?
  intro i
  have hl : (wsOf G σ).length = σ.2.2.1 := by unfold wsOf; simp
  by_cases hi : i < σ.2.2.1
  · rw [List.getElem?_append_left (by rw [hl]; exact hi), ws_get G σ hi, ws_get G σ' (by omega), ho i hi]
  · rw [List.getElem?_append_right (by omega), hl]
    by_cases hk : i = σ.2.2.1
    · subst hk
      rw [ws_get G σ' (by omega), he]
      simp
    · rw [ws_none G σ' (by omega)]
      rw [List.getElem?_eq_none]
      simp
      omega
def tnm : Nat → String := fun t => match t with
  | 0 => "FIRST_MATRIX"
  | 1 => "NUMBERS_OF_KIND"
  | 2 => "NO_NUMBERS"
  | 3 => "NEAR_X"
  | _ => "NEAR_Y"
def tbl : Nat → List Int := fun t => match t with
  | 0 => [1000, 0, 0, 0, 1000, 0, 0, 0, 1000]
  | 1 => [1, 3, 0, 0, 0, 9, 17, 0]
  | 2 => []
  | 3 => [-2, 2, 0, 0]
  | 4 => [0, 0, -2, 2]
  | _ => []
def tN (G : GE) (t : Nat) : Nat := if t = 5 then G.2.2.2.2.1 else (tbl t).length
def tF (G : GE) (t j : Nat) : Int := if t = 5 then G.2.2.2.2.2 j else (tbl t).getD j 0
def nestW : List Cond := [
  .fieldLinkNest RX2 119 RX4 "NEAR_X" "[I" RX4, .fieldLinkNest RX2 122 RX4 "NEAR_Y" "[I" RX4, .fieldLinkNest RX3 27 RX4 "NUMBERS_OF_KIND" "[I" RX4,
  .methodLinkNest RX4 11 yX0_init RX4, .methodLinkNest RX4 18 yX3_init RX4, .methodLinkNest RX4 25 yX1_init RX4, .methodLinkNest RX4 32 yX2_init RX4,
  .methodLinkNest RX2 64 yX4_placeOf RX4, .methodLinkNest RX2 89 yX4_colourOf RX4, .methodLinkNest RX3 40 yX4_isWithin RX4, .castable "[I" "java/lang/Cloneable"]
theorem nest_warm {s U : State} (hW : s.WarmedH U.vm) : ∀ w ∈ nestW, va_Nw w s → va_Nw w U := by
  intro w hw h
  simp only [nestW, List.mem_cons, List.not_mem_nil, or_false] at hw
  rcases hw with rfl | rfl | rfl | rfl | rfl | rfl | rfl | rfl | rfl | rfl | rfl
  · exact va_Nw.warmF hW h
  · exact va_Nw.warmF hW h
  · exact va_Nw.warmF hW h
  · exact va_Nw.warmM hW h
  · exact va_Nw.warmM hW h
  · exact va_Nw.warmM hW h
  · exact va_Nw.warmM hW h
  · exact va_Nw.warmM hW h
  · exact va_Nw.warmM hW h
  · exact va_Nw.warmM hW h
  · exact va_Nw.warmC hW h
theorem nest_tab : ∀ w ∈ nestW, w.onTables = true := by
  intro w hw
  simp only [nestW, List.mem_cons, List.not_mem_nil, or_false] at hw
  rcases hw with rfl | rfl | rfl | rfl | rfl | rfl | rfl | rfl | rfl | rfl | rfl <;> rfl
abbrev tysG (G : GE) : List (ClassId × FieldType) := [(G.2.1.1, .int), (G.2.1.2.1, .boolean), (G.2.1.2.2, .array .int)]
def GK (G : GE) (U : State) : Prop :=
  va_K G.1 vwCl (tysG G) U ∧ (∀ w ∈ nestW, va_Nw w U) ∧ (Cond.arrayOver (.array .int)).before #[] U = true ∧
  (∀ t, t < 5 → va_Z RX4 (tnm t) "[I" (.ref (G.2.2.2.1 t)) (AA G) U U.heap) ∧
  (∀ t, t < 6 → va_X (G.2.2.2.1 t) (tN G t) (fun j => iI (tF G t j)) U U.heap ∧ G.2.2.2.1 t < G.2.2.1)
theorem GK.warm {G : GE} {s U : State} (hW : s.WarmedH U.vm) (hh : ∀ q : Nat, q < s.heap.size → ¬ AA G q → U.heap[q]? = s.heap[q]?) (h : GK G s) : GK G U := by
  obtain ⟨h1, h2, h3, h4, h5⟩ := h
  refine ⟨va_K.moved hW.alike h1, fun w hw => nest_warm hW w hw (h2 w hw), over_moved hW.alike h3, fun t ht => ?_, fun t ht => ?_⟩
  · exact ((h4 t ht).moved hW.alike).kept hh
  · obtain ⟨h6, h7⟩ := h5 t ht
    refine ⟨(h6.moved hW.alike).kept (hh _ ?_ (Nat.not_le.mpr h7)), h7⟩
    obtain ⟨scr, h8, -⟩ := h6
    exact (Array.getElem?_eq_some_iff.mp h8).1
theorem GK.calling {G : GE} {U : State} {g : JFrame} {mk : MethodId} {a : Array Value} (h : GK G U) : GK G (U.calling g mk a) := by
  obtain ⟨h1, h2, h3, h4, h5⟩ := h
  refine ⟨va_K.moved (u := U) (U := U.calling g mk a) (Vm.Alike.refl U.vm) h1, fun w hw => va_Nw.same (u := U) (U := U.calling g mk a) (nest_tab w hw) rfl (h2 w hw), over_moved (u := U) (E := U.calling g mk a) (Vm.Alike.refl U.vm) h3, fun t ht => ?_, fun t ht => ?_⟩
  · exact (h4 t ht).moved (U := U.calling g mk a) (Vm.Alike.refl U.vm)
  · exact ⟨(h5 t ht).1.moved (U := U.calling g mk a) (Vm.Alike.refl U.vm), (h5 t ht).2⟩
/-- the locals that are known -/
def lvL (G : GE) (ls : List AV) : List (Nat × Value) := (List.range ls.length).filterMap (fun k => match ls[k]? with
  | some (some v) => some (k, cv G (some v))
  | _ => none)
theorem lvL_mem {G : GE} {ls : List AV} {q : Nat × Value} : q ∈ lvL G ls ↔ ∃ v, ls[q.1]? = some (some v) ∧ q.2 = cv G (some v) := by
  unfold lvL
  rw [List.mem_filterMap]
  constructor
  · rintro ⟨k, hk, h⟩
    cases hv : ls[k]? with
    | none => rw [hv] at h; cases h
    | some o =>
      cases o with
      | none => rw [hv] at h; cases h
      | some v =>
        rw [hv] at h
        cases h
        exact ⟨v, hv, rfl⟩
  · rintro ⟨v, hv, h⟩
    refine ⟨q.1, List.mem_range.mpr (List.getElem?_eq_some_iff.mp hv).1, ?_⟩
    rw [hv]
    obtain ⟨a, b⟩ := q
    cases h
    rfl
theorem lv_mono {ls : Array Slot} {n : Nat} {l l' : List (Nat × Value)} (h : lv_has ls n l) (hs : ∀ q ∈ l', q ∈ l) : lv_has ls n l' := ⟨h.1, h.2.1, fun q hq => h.2.2 q (hs q hq)⟩
theorem lv_get {G : GE} {cls : Array Slot} {n k : Nat} {ls : List AV} {v : Int ⊕ Nat ⊕ Int} (h : lv_has cls n (lvL G ls)) (hk : ls[k]? = some (some v)) : cls[k]? = some (.val (cv G (some v))) := h.2.2 (k, cv G (some v)) (lvL_mem.mpr ⟨v, hk, rfl⟩)
def clr (ls : List AV) (i : Nat) : List AV := match i with
  | 0 => ls
  | j + 1 => match ls[j]? with
    | some (some (.inr (.inr _))) => ls.set j none
    | _ => ls
abbrev sto (ls : List AV) (i : Nat) (v : AV) : List AV := (clr ls i).set i v
abbrev stL (ls : List AV) (i : Nat) (v : AV) : List AV := ((clr ls i).set i v).set (i + 1) none
theorem clr_get {ls : List AV} {i k : Nat} {v : Int ⊕ Nat ⊕ Int} (h : (clr ls i)[k]? = some (some v)) : ls[k]? = some (some v) ∧ ¬ (k + 1 = i ∧ ∃ z, v = .inr (.inr z)) := by
  cases i with
  | zero => exact ⟨h, fun q => by omega⟩
  | succ j =>
    simp only [clr] at h
    split at h
    · rename_i z hz
      rw [List.getElem?_set] at h
      by_cases hj : j = k
      · subst hj
        rw [if_pos rfl] at h
        split at h
        · cases h
        · cases h
      · rw [if_neg hj] at h
        exact ⟨h, fun q => by omega⟩
    · rename_i hno
      refine ⟨h, fun q => ?_⟩
      obtain ⟨hk, z, rfl⟩ := q
      have : k = j := by omega
      subst this
      exact hno z h
theorem cv_cat2 {G : GE} {v : Int ⊕ Nat ⊕ Int} (h : (cv G (some v)).category = 2) : ∃ z, v = .inr (.inr z) := by
  rcases v with z | p | z
  · simp [cv, Value.category] at h
  · simp [cv, Value.category] at h
  · exact ⟨z, rfl⟩
theorem sto_mem {G : GE} {ls : List AV} {i : Nat} {v : AV} {w : Value} (hw : cv G v = w) : ∀ q ∈ lvL G (sto ls i v), q ∈ (i, w) :: (lvL G ls).filter (fun q => !(q.1 == i) && !(q.1 + 1 == i && q.2.category == 2)) := by
  intro q hq
  obtain ⟨x, hx, he⟩ := lvL_mem.mp hq
  obtain ⟨a, b⟩ := q
  dsimp only at hx he
  subst he
  rw [List.getElem?_set] at hx
  by_cases hi : i = a
  · subst hi
    rw [if_pos rfl] at hx
    split at hx
    · have := Option.some.inj hx
      subst this
      rw [hw]
      exact List.mem_cons_self
    · cases hx
  · rw [if_neg hi] at hx
    obtain ⟨h1, h2⟩ := clr_get hx
    refine List.mem_cons_of_mem _ (List.mem_filter.mpr ⟨lvL_mem.mpr ⟨x, h1, rfl⟩, ?_⟩)
    simp only [Bool.and_eq_true, Bool.not_eq_true', beq_eq_false_iff_ne, Bool.and_eq_false_iff]
    refine ⟨Ne.symm hi, ?_⟩
    by_cases h3 : a + 1 = i
    · right
      intro h4
      exact h2 ⟨h3, cv_cat2 h4⟩
    · left
      exact h3
theorem stL_mem {G : GE} {ls : List AV} {i : Nat} {v : AV} {w : Value} (hw : cv G v = w) : ∀ q ∈ lvL G (stL ls i v), q ∈ (i, w) :: (lvL G ls).filter (fun q => !(q.1 == i) && (!(q.1 == i + 1) && !(q.1 + 1 == i && q.2.category == 2))) := by
  intro q hq
  obtain ⟨x, hx, he⟩ := lvL_mem.mp hq
  obtain ⟨a, b⟩ := q
  dsimp only at hx he
  subst he
  rw [List.getElem?_set] at hx
  by_cases hi1 : i + 1 = a
  · rw [if_pos hi1] at hx
    split at hx <;> cases hx
  · rw [if_neg hi1, List.getElem?_set] at hx
    by_cases hi : i = a
    · subst hi
      rw [if_pos rfl] at hx
      split at hx
      · have := Option.some.inj hx
        subst this
        rw [hw]
        exact List.mem_cons_self
      · cases hx
    · rw [if_neg hi] at hx
      obtain ⟨h1, h2⟩ := clr_get hx
      refine List.mem_cons_of_mem _ (List.mem_filter.mpr ⟨lvL_mem.mpr ⟨x, h1, rfl⟩, ?_⟩)
      simp only [Bool.and_eq_true, Bool.not_eq_true', beq_eq_false_iff_ne, Bool.and_eq_false_iff]
      refine ⟨Ne.symm hi, Ne.symm hi1, ?_⟩
      by_cases h3 : a + 1 = i
      · right
        intro h4
        exact h2 ⟨h3, cv_cat2 h4⟩
      · left
        exact h3
