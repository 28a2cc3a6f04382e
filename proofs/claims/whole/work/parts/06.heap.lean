/-! rows that read and write cells -/
theorem W_sz {p : Program} {l : Launch} {e : Env} {R : Room} {s : State} {m : MethodId} {args : Array Value} {below : List Frame} {meth : Method} {c : Code} {H : Heap} {locs : List Loc} {cells slots : Nat} {Q : State → Prop} {g : JFrame} (k : H.size ≤ s.heap.size + cells → W p l e R s m args below meth c H locs cells slots Q g) : W p l e R s m args below meth c H locs cells slots Q g := fun T hT X => k (by rw [← hT]; exact X.heapSize) T hT X
def up2 {α : Type} (I : Nat → Nat → α) (p k : Nat) (z : α) : Nat → Nat → α := fun q => if q = p then (fun j => if j = k then z else I q j) else I q
theorem up2_self {α : Type} (I : Nat → Nat → α) (p k : Nat) (z : α) : up2 I p k z p = fun j => if j = k then z else I p j := if_pos rfl
theorem up2_ne {α : Type} (I : Nat → Nat → α) {p q : Nat} (k : Nat) (z : α) (h : q ≠ p) : up2 I p k z q = I q := if_neg h
theorem up2_at {α : Type} (I : Nat → Nat → α) (p k q j : Nat) (z : α) : up2 I p k z q j = if q = p ∧ j = k then z else I q j := by
  unfold up2
  by_cases h : q = p
  · subst h
    simp
  · simp [h]
theorem fvs_get (G : GE) (f : Nat → Int) (g : Nat → Option Nat) : ∀ (ts : List Nat) (j k : Nat), (fvs G f g ts j)[k]? = (ts[k]?).map (fun t => fv G f g t (j + k))
  | [], j, k => by simp [fvs]
  | t :: ts, j, 0 => by simp [fvs]
  | t :: ts, j, k + 1 => by
    simp only [fvs, List.getElem?_cons_succ]
    rw [fvs_get G f g ts (j + 1) k, show j + 1 + k = j + (k + 1) by omega]
theorem fvs_len (G : GE) (f : Nat → Int) (g : Nat → Option Nat) : ∀ (ts : List Nat) (j : Nat), (fvs G f g ts j).length = ts.length
  | [], j => rfl
  | t :: ts, j => by simp [fvs, fvs_len G f g ts (j + 1)]
theorem fvs_set (G : GE) {f f' : Nat → Int} {g g' : Nat → Option Nat} {ts : List Nat} {k t : Nat} {v : Value} (hk : ts[k]? = some t) (hv : fv G f' g' t k = v) (ho : ∀ j, j ≠ k → f' j = f j ∧ g' j = g j) : (fvs G f g ts 0).set k v = fvs G f' g' ts 0 := by
  apply List.ext_getElem?
  intro i
  rw [List.getElem?_set, fvs_get, fvs_get, fvs_len]
  by_cases hi : k = i
  · subst hi
    rw [if_pos rfl, if_pos (List.getElem?_eq_some_iff.mp hk).1, hk]
    simp [hv]
  · rw [if_neg hi]
    obtain ⟨h1, h2⟩ := ho i (Ne.symm hi)
    cases ts[i]? with
    | none => rfl
    | some t2 =>
      simp only [Option.map_some, Nat.zero_add]
      congr 1
      unfold fv
      rw [h1, h2]
def FI (own : String) (idx ci k t : Nat) : Prop := ∃ (C : String) (T : u_T) (N : Nat), vwCl[ci]? = some (C, T, N) ∧ k < N ∧ Cond.fieldLink own idx (T k).1 (T k).2.1 (T k).2.2.1 ∈ TG ∧ (ftl.getD ci [])[k]? = some t
theorem inT0 : ∀ w ∈ wsX00, w ∈ TG := by decide +kernel
theorem inT1 : ∀ w ∈ wsX10, w ∈ TG := by decide +kernel
theorem inT2 : ∀ w ∈ wsX20, w ∈ TG := by decide +kernel
theorem inT3 : ∀ w ∈ wsX30, w ∈ TG := by decide +kernel
theorem inT4 : ∀ w ∈ wsX40, w ∈ TG := by decide +kernel
theorem inT5 : ∀ w ∈ wsX50, w ∈ TG := by decide +kernel
theorem inTG {ci : Nat} {C : String} {T : u_T} {N : Nat} (h : vwCl[ci]? = some (C, T, N)) : ∀ w ∈ u_ws C T N, w ∈ TG := by
  match ci, h with
  | 0, h => cases h; exact inT0
  | 1, h => cases h; exact inT1
  | 2, h => cases h; exact inT2
  | 3, h => cases h; exact inT3
  | 4, h => cases h; exact inT4
  | 5, h => cases h; exact inT5
  | n + 6, h => simp [vwCl] at h
def tyc : Nat → Nat → FieldType := fun ci => match ci with
  | 0 => tyX0
  | 1 => tyX1
  | 2 => tyX2
  | 3 => tyX3
  | 4 => tyX4
  | _ => tyX5
theorem tyc_ok {ci : Nat} {C : String} {T : u_T} {N : Nat} (h : vwCl[ci]? = some (C, T, N)) : ∀ k, k < N → parseFieldDescriptor (T k).2.2.1 = some (tyc ci k) := by
  match ci, h with
  | 0, h => cases h; exact tyX0_ok
  | 1, h => cases h; exact tyX1_ok
  | 2, h => cases h; exact tyX2_ok
  | 3, h => cases h; exact tyX3_ok
  | 4, h => cases h; exact tyX4_ok
  | 5, h => cases h; exact tyX5_ok
  | n + 6, h => simp [vwCl] at h
theorem nmc {ci : Nat} {C : String} {T : u_T} {N : Nat} (h : vwCl[ci]? = some (C, T, N)) : ∀ a, a < N → ∀ b, b < N → a ≠ b → (T a).2.1 ≠ (T b).2.1 := by
  match ci, h with
  | 0, h => cases h; exact nmX0
  | 1, h => cases h; exact nmX1
  | 2, h => cases h; exact nmX2
  | 3, h => cases h; exact nmX3
  | 4, h => cases h; exact nmX4
  | 5, h => cases h; exact nmX5
  | n + 6, h => simp [vwCl] at h
section HEAP
variable {l : Launch} {G : GE} {K : KT} {kc ks pc : Nat} {ls st : List AV} {σ : Sg}
theorem adr_lo {G : GE} {p : Nat} (h : p < 1000000) : adr G p = G.2.2.1 + p := if_pos h
theorem adr_hi (G : GE) (t : Nat) : adr G (1000000 + t) = G.2.2.2.1 t := by
  unfold adr
  rw [if_neg (by omega), Nat.add_sub_cancel_left]
theorem R_getF {idx ci k t n p : Nat} {v : AV} (hf : FI K.1 idx ci k t) (hd : decode K.2.1 pc = .ok (.getfield idx, 3)) (hk : kd σ p = (ci + 3, n)) (hp : p < σ.2.2.1) (hv : fv G (σ.1 p) (σ.2.1 p) t k = cv G v) (kk : Rr l G K kc ks (pc + 3) ls (v :: st) σ) : Rr l G K kc ks pc ls (ar p :: st) σ := by
  intro p2 e s m args below meth c H locs cls C hS hP hz hn hl
  obtain ⟨C', T, N, hc, hkN, hw, ht⟩ := hf
  have hcell : cellOf G σ p = .inr (ci, fvs G (σ.1 p) (σ.2.1 p) (ftl.getD ci []) 0) := by unfold cellOf; rw [hk]; rfl
  have hg := ws_get G σ hp
  rw [hcell] at hg
  show W _ _ _ _ _ _ _ _ _ _ _ _ _ _ _ (F0 m pc cls (.ref (adr G p) :: st.map (cv G)))
  rw [adr_lo (by have := hP.2; omega)]
  refine va_get C.1 C.2.1 C.2.2.2.2.2.1 (inTG hc) C.2.2.2.2.1 C.2.2.2.2.2.2.2.2.1.1 hP.1 p hg hc k hkN (C.2.2.2.2.2.1 _ hw) (fun _ q => q) (v := cv G v) (by rw [fvs_get, ht]; simp [hv]) hd ?_
  exact kk p2 e s m args below meth c H locs cls C hS hP hz hn hl
theorem R_getI {idx ci k n p : Nat} (hf : FI K.1 idx ci k 0) (hd : decode K.2.1 pc = .ok (.getfield idx, 3)) (hk : kd σ p = (ci + 3, n)) (hp : p < σ.2.2.1) (kk : Rr l G K kc ks (pc + 3) ls (ai (σ.1 p k) :: st) σ) : Rr l G K kc ks pc ls (ar p :: st) σ := R_getF hf hd hk hp rfl kk
theorem R_getL {idx ci k n p : Nat} (hf : FI K.1 idx ci k 2) (hd : decode K.2.1 pc = .ok (.getfield idx, 3)) (hk : kd σ p = (ci + 3, n)) (hp : p < σ.2.2.1) (kk : Rr l G K kc ks (pc + 3) ls (al (σ.1 p k) :: st) σ) : Rr l G K kc ks pc ls (ar p :: st) σ := R_getF hf hd hk hp rfl kk
theorem R_getA {idx ci k n p q : Nat} (hf : FI K.1 idx ci k 1) (hd : decode K.2.1 pc = .ok (.getfield idx, 3)) (hk : kd σ p = (ci + 3, n)) (hp : p < σ.2.2.1) (hq : σ.2.1 p k = some q) (kk : Rr l G K kc ks (pc + 3) ls (ar q :: st) σ) : Rr l G K kc ks pc ls (ar p :: st) σ := R_getF hf hd hk hp (by simp [fv, hq]; rfl) kk
theorem R_iaload {p n k : Nat} {z : Int} (hd : decode K.2.1 pc = .ok (.iaload, 1)) (hk : kd σ p = (0, n)) (hp : p < σ.2.2.1) (hz : z = k) (hkn : k < n) (hn : n < 2147483648) (kk : Rr l G K kc ks (pc + 1) ls (ai (σ.1 p k) :: st) σ) : Rr l G K kc ks pc ls (ai z :: ar p :: st) σ := by
  intro p2 e s m args below meth c H locs cls C hS hP hz2 hn2 hl
  subst hz
  have hcell : cellOf G σ p = .inl (G.2.1.1, n, .inl (fun j => iI (σ.1 p j))) := by unfold cellOf; rw [hk]; rfl
  have hg := ws_get G σ hp
  rw [hcell] at hg
  show W _ _ _ _ _ _ _ _ _ _ _ _ _ _ _ (F0 m pc cls (.int (iI k) :: .ref (adr G p) :: st.map (cv G)))
  rw [adr_lo (by have := hP.2; omega)]
  refine va_iald C.1 C.2.1 C.2.2.2.2.2.2.2.2.1.1 hP.1 p 0 hg rfl (iI_in hkn hn) hd ?_
  rw [iI_clamp (by omega)]
  exact kk p2 e s m args below meth c H locs cls C hS hP hz2 hn2 hl
theorem R_baload {p n k : Nat} {z : Int} (hd : decode K.2.1 pc = .ok (.baload, 1)) (hk : kd σ p = (1, n)) (hp : p < σ.2.2.1) (hz : z = k) (hkn : k < n) (hn : n < 2147483648) (kk : Rr l G K kc ks (pc + 1) ls (ai (σ.1 p k) :: st) σ) : Rr l G K kc ks pc ls (ai z :: ar p :: st) σ := by
  intro p2 e s m args below meth c H locs cls C hS hP hz2 hn2 hl
  subst hz
  have hcell : cellOf G σ p = .inl (G.2.1.2.1, n, .inl (fun j => iI (σ.1 p j))) := by unfold cellOf; rw [hk]; rfl
  have hg := ws_get G σ hp
  rw [hcell] at hg
  show W _ _ _ _ _ _ _ _ _ _ _ _ _ _ _ (F0 m pc cls (.int (iI k) :: .ref (adr G p) :: st.map (cv G)))
  rw [adr_lo (by have := hP.2; omega)]
  refine va_zald C.1 C.2.1 C.2.2.2.2.2.2.2.2.1.1 hP.1 p 1 hg rfl (iI_in hkn hn) hd ?_
  rw [iI_clamp (by omega)]
  exact kk p2 e s m args below meth c H locs cls C hS hP hz2 hn2 hl
theorem R_aaload {p n k q : Nat} {z : Int} (hd : decode K.2.1 pc = .ok (.aaload, 1)) (hk : kd σ p = (2, n)) (hp : p < σ.2.2.1) (hz : z = k) (hkn : k < n) (hn : n < 2147483648) (hq : σ.2.1 p k = some q) (kk : Rr l G K kc ks (pc + 1) ls (ar q :: st) σ) : Rr l G K kc ks pc ls (ai z :: ar p :: st) σ := by
  intro p2 e s m args below meth c H locs cls C hS hP hz2 hn2 hl
  subst hz
  have hcell : cellOf G σ p = .inl (G.2.1.2.2, n, .inr (.inr (.inr (.inr (fun j => (σ.2.1 p j).map (adr G)))))) := by unfold cellOf; rw [hk]; rfl
  have hg := ws_get G σ hp
  rw [hcell] at hg
  have ha : H[G.2.2.1 + p]? = some (arrV G.2.1.2.2 n (fun j => va_rf ((σ.2.1 p j).map (adr G)))) := hP.1 p _ hg
  show W _ _ _ _ _ _ _ _ _ _ _ _ _ _ _ (F0 m pc cls (.int (iI k) :: .ref (adr G p) :: st.map (cv G)))
  rw [adr_lo (by have := hP.2; omega)]
  refine W.aald (v := .ref (adr G q)) (ty := .array .int) C.1 C.2.1 ha ((C.2.2.2.2.2.2.2.2.1.1.2 2 _ rfl).1 n (fun j => va_rf ((σ.2.1 p j).map (adr G)))) rfl (fun q => by cases q) (by rw [arrV_size]; exact iI_in hkn hn) (by rw [iI_clamp (by omega), arrV_read _ _ hkn, hq]; rfl) rfl rfl hd ?_
  exact kk p2 e s m args below meth c H locs cls C hS hP hz2 hn2 hl
theorem R_alen {p n : Nat} (hd : decode K.2.1 pc = .ok (.arraylength, 1)) (hk : kd σ p = (0, n)) (hp : p < σ.2.2.1) (kk : Rr l G K kc ks (pc + 1) ls (ai n :: st) σ) : Rr l G K kc ks pc ls (ar p :: st) σ := by
  intro p2 e s m args below meth c H locs cls C hS hP hz2 hn2 hl
  have hcell : cellOf G σ p = .inl (G.2.1.1, n, .inl (fun j => iI (σ.1 p j))) := by unfold cellOf; rw [hk]; rfl
  have hg := ws_get G σ hp
  rw [hcell] at hg
  show W _ _ _ _ _ _ _ _ _ _ _ _ _ _ _ (F0 m pc cls (.ref (adr G p) :: st.map (cv G)))
  rw [adr_lo (by have := hP.2; omega)]
  refine va_alen C.1 C.2.1 C.2.2.2.2.2.2.2.2.1.1 hP.1 p 0 hg rfl (v := iI n) rfl hd ?_
  exact kk p2 e s m args below meth c H locs cls C hS hP hz2 hn2 hl
/-- what every write needs: the new picture, the size kept -/
theorem size_of {H : Heap} (hP : Rp G σ H) {s : State} {K : KT} {kc : Nat} (h0 : s.heap.size = G.2.2.1 + K.2.2.2.2.2.2.1) (hS : s.heap.size ≤ H.size) (hn : σ.2.2.1 = K.2.2.2.2.2.2.1 + kc) (hle : H.size ≤ s.heap.size + kc) : H.size = G.2.2.1 + σ.2.2.1 := by
  rcases Nat.eq_zero_or_pos σ.2.2.1 with h | h
  · omega
  · have := (hP.1 (σ.2.2.1 - 1) _ (ws_get G σ (by omega))).lt
    have : G.2.2.1 + (σ.2.2.1 - 1) < H.size := this
    omega
theorem R_iastore {p n k : Nat} {z x : Int} {I : Nat → Nat → Int} {σ2 : (Nat → Nat → Option Nat) × Nat × (Nat → Nat)} (hd : decode K.2.1 pc = .ok (.iastore, 1)) (hk : kd (I, σ2) p = (0, n)) (hp : p < σ2.2.1) (hz : z = k) (hkn : k < n) (hn : n < 2147483648) (kk : Rr l G K kc ks (pc + 1) ls st (up2 I p k x, σ2)) : Rr l G K kc ks pc ls (ai x :: ai z :: ar p :: st) (I, σ2) := by
  intro p2 e s m args below meth c H locs cls C hS hP hz2 hn2 hl
  subst hz
  have hcell : cellOf G (I, σ2) p = .inl (G.2.1.1, n, .inl (fun j => iI (I p j))) := by unfold cellOf; rw [hk]; rfl
  have hg := ws_get G (I, σ2) hp
  rw [hcell] at hg
  show W _ _ _ _ _ _ _ _ _ _ _ _ _ _ _ (F0 m pc cls (.int (iI x) :: .int (iI k) :: .ref (adr G p) :: st.map (cv G)))
  rw [adr_lo (by have := hP.2; have : p < σ2.2.1 := hp; dsimp only at *; omega)]
  refine va_iast C.1 C.2.1 C.2.2.2.2.2.2.2.2.1.1 hP.1 (ws_D G (I, σ2)) hS p 0 hg rfl (iI_in hkn hn) hd (fun H1 locs1 hP1 hD1 hS1 => ?_)
  rw [iI_clamp (by omega)] at hP1
  rw [ws_set G (I, σ2) (up2 I p k x, σ2) hp rfl (by
      unfold cellOf
      rw [show kd (up2 I p k x, σ2) p = (0, n) from hk]
      show cellAt G (0, n) (up2 I p k x p) _ = _
      rw [up2_self]
      unfold cellAt
      dsimp only
      congr 4
      funext j
      unfold upd
      split <;> rfl) (fun j hj => by
      unfold cellOf
      show cellAt G (kd (up2 I p k x, σ2) j) (up2 I p k x j) _ = _
      rw [up2_ne I k x hj]
      rfl)] at hP1
  have hR : Rp G (up2 I p k x, σ2) H1 := ⟨hP1, hP.2⟩
  exact W_sz fun hle => kk p2 e s m args below meth c H1 locs1 cls C hS1 hR (size_of (K := K) hR C.2.2.2.2.2.2.2.2.2 hS1.1 hn2 hle) hn2 hl
theorem nar_z {x : Int} (hx : x = 0 ∨ x = 1) : vp_nar .boolean (iI x) = iI x := by
  rcases hx with rfl | rfl <;> rfl
theorem R_bastore {p n k : Nat} {z x : Int} {I : Nat → Nat → Int} {σ2 : (Nat → Nat → Option Nat) × Nat × (Nat → Nat)} (hd : decode K.2.1 pc = .ok (.bastore, 1)) (hk : kd (I, σ2) p = (1, n)) (hp : p < σ2.2.1) (hz : z = k) (hkn : k < n) (hn : n < 2147483648) (hx : x = 0 ∨ x = 1) (kk : Rr l G K kc ks (pc + 1) ls st (up2 I p k x, σ2)) : Rr l G K kc ks pc ls (ai x :: ai z :: ar p :: st) (I, σ2) := by
  intro p2 e s m args below meth c H locs cls C hS hP hz2 hn2 hl
  subst hz
  have hcell : cellOf G (I, σ2) p = .inl (G.2.1.2.1, n, .inl (fun j => iI (I p j))) := by unfold cellOf; rw [hk]; rfl
  have hg := ws_get G (I, σ2) hp
  rw [hcell] at hg
  show W _ _ _ _ _ _ _ _ _ _ _ _ _ _ _ (F0 m pc cls (.int (iI x) :: .int (iI k) :: .ref (adr G p) :: st.map (cv G)))
  rw [adr_lo (by have := hP.2; have : p < σ2.2.1 := hp; dsimp only at *; omega)]
  refine va_zast C.1 C.2.1 C.2.2.2.2.2.2.2.2.1.1 hP.1 (ws_D G (I, σ2)) hS p 1 hg rfl (iI_in hkn hn) hd (fun H1 locs1 hP1 hD1 hS1 => ?_)
  rw [iI_clamp (by omega), nar_z hx] at hP1
  rw [ws_set G (I, σ2) (up2 I p k x, σ2) hp rfl (by
      unfold cellOf
      rw [show kd (up2 I p k x, σ2) p = (1, n) from hk]
      show cellAt G (1, n) (up2 I p k x p) _ = _
      rw [up2_self]
      unfold cellAt
      dsimp only
      congr 4
      funext j
      unfold upd
      split <;> rfl) (fun j hj => by
      unfold cellOf
      show cellAt G (kd (up2 I p k x, σ2) j) (up2 I p k x j) _ = _
      rw [up2_ne I k x hj]
      rfl)] at hP1
  have hR : Rp G (up2 I p k x, σ2) H1 := ⟨hP1, hP.2⟩
  exact W_sz fun hle => kk p2 e s m args below meth c H1 locs1 cls C hS1 hR (size_of (K := K) hR C.2.2.2.2.2.2.2.2.2 hS1.1 hn2 hle) hn2 hl
end HEAP
