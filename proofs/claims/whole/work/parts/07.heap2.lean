/-! putfield, statics, tables -/
def FP (ci k t : Nat) : Prop := match t with
  | 0 => tyc ci k = .int
  | 1 => (∃ n, tyc ci k = .object n) ∨ ∃ y, tyc ci k = .array y
  | _ => tyc ci k = .long
theorem fp_nf {ci k t : Nat} {v : Value} (h : FP ci k t) (hv : (t = 0 ∧ ∃ x, v = .int x) ∨ (t = 1 ∧ ∃ a, v = .ref a) ∨ (t = 2 ∧ ∃ x, v = .long x)) : narrow (tyc ci k) v = v ∧ fits (tyc ci k) v = true := by
  rcases hv with ⟨rfl, x, rfl⟩ | ⟨rfl, x, rfl⟩ | ⟨rfl, x, rfl⟩
  · rw [show tyc ci k = .int from h]
    exact ⟨rfl, rfl⟩
  · rcases h with ⟨n, h⟩ | ⟨y, h⟩ <;> rw [h] <;> exact ⟨rfl, rfl⟩
  · rw [show tyc ci k = .long from h]
    exact ⟨rfl, rfl⟩
theorem X_lt {b L : Nat} {xs : Nat → Int32} {U : State} {H : Heap} (h : va_X b L xs U H) : b < H.size := by
  obtain ⟨scr, h8, -⟩ := h
  exact (Array.getElem?_eq_some_iff.mp h8).1
section HEAP2
variable {l : Launch} {G : GE} {K : KT} {kc ks pc : Nat} {ls st : List AV} {σ : Sg}
theorem put_next {idx ci k t n p : Nat} {v : AV} {I I' : Nat → Nat → Int} {Rf Rf' : Nat → Nat → Option Nat} {σ3 : Nat × (Nat → Nat)} (hk : kd (I, Rf, σ3) p = (ci + 3, n)) (hp : p < σ3.1) (ht : (ftl.getD ci [])[k]? = some t) (hv : fv G (I' p) (Rf' p) t k = cv G v) (ho : ∀ j, j ≠ k → I' p j = I p j ∧ Rf' p j = Rf p j) (hq : ∀ q, q ≠ p → I' q = I q ∧ Rf' q = Rf q) : (wsOf G (I, Rf, σ3)).set p (G.2.2.1 + p, .inr (ci, (fvs G (I p) (Rf p) (ftl.getD ci []) 0).set k (cv G v))) = wsOf G (I', Rf', σ3) := by
  refine ws_set G (I, Rf, σ3) (I', Rf', σ3) hp rfl ?_ (fun j hj => ?_)
  · unfold cellOf
    rw [show kd (I', Rf', σ3) p = (ci + 3, n) from hk]
    show (Sum.inr (ci, fvs G (I' p) (Rf' p) (ftl.getD ci []) 0) : va_E) = _
    rw [fvs_set G ht hv ho]
  · unfold cellOf
    show cellAt G (kd (I', Rf', σ3) j) (I' j) (Rf' j) = cellAt G (kd (I, Rf, σ3) j) (I j) (Rf j)
    rw [(hq j hj).1, (hq j hj).2]
    rfl
theorem R_putF {idx ci k t n p : Nat} {v : AV} {fin : Bool} {I I' : Nat → Nat → Int} {Rf Rf' : Nat → Nat → Option Nat} {σ3 : Nat × (Nat → Nat)} (hf : FI K.1 idx ci k t) (hd : decode K.2.1 pc = .ok (.putfield idx, 3)) (hfp : FP ci k t) (hvt : (t = 0 ∧ ∃ x, cv G v = .int x) ∨ (t = 1 ∧ ∃ a, cv G v = .ref a) ∨ (t = 2 ∧ ∃ x, cv G v = .long x)) (hfin : ∀ C T N, vwCl[ci]? = some (C, T, N) → ((T k).2.2.2 = false ∨ ((T k).2.2.2 = true ∧ (T k).1 = K.1 ∧ K.2.2.2.2.1 = "<init>")))
    (hk : kd (I, Rf, σ3) p = (ci + 3, n)) (hp : p < σ3.1) (hv : fv G (I' p) (Rf' p) t k = cv G v) (ho : ∀ j, j ≠ k → I' p j = I p j ∧ Rf' p j = Rf p j) (hq : ∀ q, q ≠ p → I' q = I q ∧ Rf' q = Rf q) (kk : Rr l G K kc ks (pc + 3) ls st (I', Rf', σ3)) : Rr l G K kc ks pc ls (v :: ar p :: st) (I, Rf, σ3) := by
  intro p2 e s m args below meth c H locs cls C hS hP hz2 hn2 hl
  obtain ⟨C', T, N, hc, hkN, hw, ht⟩ := hf
  have hcell : cellOf G (I, Rf, σ3) p = .inr (ci, fvs G (I p) (Rf p) (ftl.getD ci []) 0) := by unfold cellOf; rw [hk]; rfl
  have hg := ws_get G (I, Rf, σ3) hp
  rw [hcell] at hg
  show W _ _ _ _ _ _ _ _ _ _ _ _ _ _ _ (F0 m pc cls (cv G v :: .ref (adr G p) :: st.map (cv G)))
  rw [adr_lo (by have := hP.2; have : p < σ3.1 := hp; dsimp only at *; omega)]
  have hnf := fp_nf hfp hvt
  have hlen : k < (fvs G (I p) (Rf p) (ftl.getD ci []) 0).length := by rw [fvs_len]; exact (List.getElem?_eq_some_iff.mp ht).1
  have fin2 : ∀ (H1 : Heap) (locs1 : List Loc), va_P G.1 vwCl ((wsOf G (I, Rf, σ3)).set p (G.2.2.1 + p, .inr (ci, (fvs G (I p) (Rf p) (ftl.getD ci []) 0).set k (cv G v)))) H1 → va_S (AA G) s.heap H1 locs1 → W p2 l e K.2.2.2.2.2.1 s m args below meth c H1 locs1 kc ks (K.2.2.2.2.2.2.2 below args s) (F0 m (pc + 3) cls (st.map (cv G))) := by
    intro H1 locs1 hP1 hS1
    rw [put_next (idx := idx) hk hp ht hv ho hq] at hP1
    have hR : Rp G (I', Rf', σ3) H1 := ⟨hP1, hP.2⟩
    exact W_sz fun hle => kk p2 e s m args below meth c H1 locs1 cls C hS1 hR (size_of (K := K) hR C.2.2.2.2.2.2.2.2.2 hS1.1 hn2 hle) hn2 hl
  rcases hfin C' T N hc with h | ⟨h1, h2, h3⟩
  · exact va_put C.1 C.2.1 C.2.2.2.2.2.1 (inTG hc) (tyc ci) (tyc_ok hc) (nmc hc) C.2.2.2.2.1 C.2.2.2.2.2.2.2.2.1.1 hP.1 (ws_D G (I, Rf, σ3)) hS p hg hc k hkN (C.2.2.2.2.2.1 _ hw) (fun _ q => q) h (tyc_ok hc k hkN) hnf.1 hnf.2 hlen hd (fun H1 locs1 hP1 _ hS1 => fin2 H1 locs1 hP1 hS1)
  · exact va_putF C.1 C.2.1 C.2.2.2.2.2.1 (inTG hc) (tyc ci) (tyc_ok hc) (nmc hc) C.2.2.2.2.1 C.2.2.2.2.2.2.2.2.1.1 hP.1 (ws_D G (I, Rf, σ3)) hS p hg hc k hkN (C.2.2.2.2.2.1 _ hw) (fun _ q => q) h1 (C.2.2.2.2.2.2.2.1.trans h3) h2 (tyc_ok hc k hkN) hnf.1 hnf.2 hlen hd (fun H1 locs1 hP1 _ hS1 => fin2 H1 locs1 hP1 hS1)
/-- a field that may be written here -/
def FW (own nm : String) (ci k : Nat) : Prop := ∀ C T N, vwCl[ci]? = some (C, T, N) → ((T k).2.2.2 = false ∨ ((T k).2.2.2 = true ∧ (T k).1 = own ∧ nm = "<init>"))
theorem R_putI {idx ci k n p : Nat} {x : Int} {I : Nat → Nat → Int} {Rf : Nat → Nat → Option Nat} {σ3 : Nat × (Nat → Nat)} (hf : FI K.1 idx ci k 0) (hd : decode K.2.1 pc = .ok (.putfield idx, 3)) (hfp : FP ci k 0) (hfin : FW K.1 K.2.2.2.2.1 ci k) (hk : kd (I, Rf, σ3) p = (ci + 3, n)) (hp : p < σ3.1) (kk : Rr l G K kc ks (pc + 3) ls st (up2 I p k x, Rf, σ3)) : Rr l G K kc ks pc ls (ai x :: ar p :: st) (I, Rf, σ3) :=
  R_putF (fin := false) hf hd hfp (Or.inl ⟨rfl, _, rfl⟩) hfin hk hp (by rw [up2_self]; simp [fv, cv]) (fun j hj => ⟨by rw [up2_self]; simp [hj], rfl⟩) (fun q hq => ⟨up2_ne I k x hq, rfl⟩) kk
theorem R_putL {idx ci k n p : Nat} {x : Int} {I : Nat → Nat → Int} {Rf : Nat → Nat → Option Nat} {σ3 : Nat × (Nat → Nat)} (hf : FI K.1 idx ci k 2) (hd : decode K.2.1 pc = .ok (.putfield idx, 3)) (hfp : FP ci k 2) (hfin : FW K.1 K.2.2.2.2.1 ci k) (hk : kd (I, Rf, σ3) p = (ci + 3, n)) (hp : p < σ3.1) (kk : Rr l G K kc ks (pc + 3) ls st (up2 I p k x, Rf, σ3)) : Rr l G K kc ks pc ls (al x :: ar p :: st) (I, Rf, σ3) :=
  R_putF (fin := false) hf hd hfp (Or.inr (Or.inr ⟨rfl, _, rfl⟩)) hfin hk hp (by rw [up2_self]; simp [fv, cv]) (fun j hj => ⟨by rw [up2_self]; simp [hj], rfl⟩) (fun q hq => ⟨up2_ne I k x hq, rfl⟩) kk
theorem R_putA {idx ci k n p q : Nat} {I : Nat → Nat → Int} {Rf : Nat → Nat → Option Nat} {σ3 : Nat × (Nat → Nat)} (hf : FI K.1 idx ci k 1) (hd : decode K.2.1 pc = .ok (.putfield idx, 3)) (hfp : FP ci k 1) (hfin : FW K.1 K.2.2.2.2.1 ci k) (hk : kd (I, Rf, σ3) p = (ci + 3, n)) (hp : p < σ3.1) (kk : Rr l G K kc ks (pc + 3) ls st (I, up2 Rf p k (some q), σ3)) : Rr l G K kc ks pc ls (ar q :: ar p :: st) (I, Rf, σ3) :=
  R_putF (fin := false) hf hd hfp (Or.inr (Or.inl ⟨rfl, _, rfl⟩)) hfin hk hp (by rw [up2_self]; simp [fv, cv, va_rf]) (fun j hj => ⟨rfl, by rw [up2_self]; simp [hj]⟩) (fun q2 hq => ⟨rfl, up2_ne Rf k (some q) hq⟩) kk
theorem R_gets {idx t : Nat} (ht : t < 5) (hw : Cond.fieldLink K.1 idx RX4 (tnm t) "[I" ∈ TG) (hd : decode K.2.1 pc = .ok (.getstatic idx, 3)) (kk : Rr l G K kc ks (pc + 3) ls (ar (1000000 + t) :: st) σ) : Rr l G K kc ks pc ls st σ := by
  intro p2 e s m args below meth c H locs cls C hS hP hz2 hn2 hl
  refine va_gets C.1 C.2.1 (C.2.2.2.2.2.2.2.2.1.2.2.2.1 t ht) hS C.2.2.2.2.1 (C.2.2.2.2.2.1 _ hw) (fun _ q => q) hd ?_
  rw [← adr_hi G t]
  exact kk p2 e s m args below meth c H locs cls C hS hP hz2 hn2 hl
theorem R_getsN {idx t : Nat} (ht : t < 5) (hw : Cond.fieldLinkNest K.1 idx RX4 (tnm t) "[I" RX4 ∈ nestW) (hd : decode K.2.1 pc = .ok (.getstatic idx, 3)) (kk : Rr l G K kc ks (pc + 3) ls (ar (1000000 + t) :: st) σ) : Rr l G K kc ks pc ls st σ := by
  intro p2 e s m args below meth c H locs cls C hS hP hz2 hn2 hl
  refine va_getsN C.1 C.2.1 (C.2.2.2.2.2.2.2.2.1.2.2.2.1 t ht) hS C.2.2.2.2.1 (va_Nw.use rfl (C.2.2.2.2.2.2.2.2.1.2.1 _ hw)) (fun _ q => q) hd ?_
  rw [← adr_hi G t]
  exact kk p2 e s m args below meth c H locs cls C hS hP hz2 hn2 hl
theorem R_tald {t k : Nat} {z : Int} (ht : t < 6) (hd : decode K.2.1 pc = .ok (.iaload, 1)) (hz : z = k) (hk : k < tN G t) (hN : tN G t < 2147483648) (kk : Rr l G K kc ks (pc + 1) ls (ai (tF G t k) :: st) σ) : Rr l G K kc ks pc ls (ai z :: ar (1000000 + t) :: st) σ := by
  intro p2 e s m args below meth c H locs cls C hS hP hz2 hn2 hl
  subst hz
  show W _ _ _ _ _ _ _ _ _ _ _ _ _ _ _ (F0 m pc cls (.int (iI k) :: .ref (adr G (1000000 + t)) :: st.map (cv G)))
  rw [adr_hi G t]
  obtain ⟨hX, hlt⟩ := C.2.2.2.2.2.2.2.2.1.2.2.2.2 t ht
  refine va_sld (A := AA G) C.1 C.2.1 hX (X_lt hX) (Nat.not_le.mpr hlt) hS (iI_in hk hN) hd ?_
  rw [iI_clamp (by omega)]
  exact kk p2 e s m args below meth c H locs cls C hS hP hz2 hn2 hl
theorem R_tlen {t : Nat} (ht : t < 6) (hd : decode K.2.1 pc = .ok (.arraylength, 1)) (kk : Rr l G K kc ks (pc + 1) ls (ai (tN G t) :: st) σ) : Rr l G K kc ks pc ls (ar (1000000 + t) :: st) σ := by
  intro p2 e s m args below meth c H locs cls C hS hP hz2 hn2 hl
  show W _ _ _ _ _ _ _ _ _ _ _ _ _ _ _ (F0 m pc cls (.ref (adr G (1000000 + t)) :: st.map (cv G)))
  rw [adr_hi G t]
  obtain ⟨hX, hlt⟩ := C.2.2.2.2.2.2.2.2.1.2.2.2.2 t ht
  refine va_slen (A := AA G) C.1 C.2.1 hX (X_lt hX) (Nat.not_le.mpr hlt) hS hd ?_
  exact kk p2 e s m args below meth c H locs cls C hS hP hz2 hn2 hl
end HEAP2
