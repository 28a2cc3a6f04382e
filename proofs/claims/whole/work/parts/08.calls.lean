/-! contracts over abstract states; entry, return, calls -/
/-- name, code, locals, answer's type, frames below, words below -/
abbrev MI : Type := MethodName × ByteArray × Nat × Option FieldType × Nat × Nat
def wsM (mi : MI) : List Cond := Cond.code mi.1 mi.2.1 mi.2.2.1 mi.2.2.2.1 :: TG
def rmM (mi : MI) (mc ms : Nat) : Room := { frames := mi.2.2.2.2.1, cells := mc, slots := ms, locals := mi.2.2.2.2.2 }
def Pm (G : GE) (as : List AV) (σ : Sg) : Array Value → State → Prop := fun v U => v = (as.map (cv G)).toArray ∧ U.heap.size = G.2.2.1 + σ.2.2.1 ∧ Rp G σ U.heap ∧ GK G U
def Qm (G : GE) (n0 mc : Nat) (Q : Option AV → Sg → Prop) : Array Value → State → Outcome → State → Prop := fun _ st o t => (∃ (r : Option AV) (σ' : Sg), o = .returned (r.map (cv G)) ∧ Q r σ' ∧ σ'.2.2.1 = n0 + mc ∧ Rp G σ' t.heap ∧ t.heap.size = G.2.2.1 + σ'.2.2.1) ∧ va_F (AA G) st t
def Mt (l : Launch) (G : GE) (mi : MI) (mc ms : Nat) (as : List AV) (σ : Sg) (Q : Option AV → Sg → Prop) : Prop :=
  Met l mi.1 (wsM mi) (rmM mi mc ms) (Pm G as σ) (Qm G σ.2.2.1 mc Q) mc ms (AA G)
def Zm (G : GE) (n0 mc ms : Nat) (Q : Option AV → Sg → Prop) : Zt := fun below args s => MQ below (Qm G n0 mc Q) args s mc ms (AA G)
def Km (G : GE) (mi : MI) (mc ms n0 : Nat) (Q : Option AV → Sg → Prop) : KT := (mi.1.cls, mi.2.1, mi.2.2.1, mi.2.2.2.1, mi.1.name, rmM mi mc ms, n0, Zm G n0 mc ms Q)
def entL : List AV → List AV
  | [] => []
  | some (.inr (.inr z)) :: vs => some (.inr (.inr z)) :: none :: entL vs
  | v :: vs => v :: entL vs
def ent (as : List AV) (n : Nat) : List AV := entL as ++ List.replicate (n - (entL as).length) none
theorem ent_len (G : GE) : ∀ as : List AV, (lg_sl (as.map (cv G))).length = (entL as).length
  | [] => rfl
  | none :: vs => by
    have e : lg_sl (Value.null :: vs.map (cv G)) = Slot.val Value.null :: lg_sl (vs.map (cv G)) := rfl
    show (lg_sl (Value.null :: vs.map (cv G))).length = (none :: entL vs).length
    rw [e, List.length_cons, List.length_cons, ent_len G vs]
  | some (.inl z) :: vs => by
    have e : lg_sl (Value.int (iI z) :: vs.map (cv G)) = Slot.val (Value.int (iI z)) :: lg_sl (vs.map (cv G)) := rfl
    show (lg_sl (Value.int (iI z) :: vs.map (cv G))).length = (some (.inl z) :: entL vs).length
    rw [e, List.length_cons, List.length_cons, ent_len G vs]
  | some (.inr (.inl z)) :: vs => by
    have e : lg_sl (Value.ref (adr G z) :: vs.map (cv G)) = Slot.val (Value.ref (adr G z)) :: lg_sl (vs.map (cv G)) := rfl
    show (lg_sl (Value.ref (adr G z) :: vs.map (cv G))).length = (some (.inr (.inl z)) :: entL vs).length
    rw [e, List.length_cons, List.length_cons, ent_len G vs]
  | some (.inr (.inr z)) :: vs => by
    have e : lg_sl (Value.long (lI z) :: vs.map (cv G)) = Slot.val (Value.long (lI z)) :: Slot.second :: lg_sl (vs.map (cv G)) := rfl
    show (lg_sl (Value.long (lI z) :: vs.map (cv G))).length = (some (.inr (.inr z)) :: none :: entL vs).length
    rw [e, List.length_cons, List.length_cons, List.length_cons, List.length_cons, ent_len G vs]
theorem ent_in (G : GE) : ∀ (as : List AV) (i k : Nat) (v : Int ⊕ Nat ⊕ Int), (entL as)[k]? = some (some v) → (i + k, cv G (some v)) ∈ lv_args i (as.map (cv G))
  | [], i, k, v, h => by simp [entL] at h
  | none :: vs, i, k, v, h => by
    cases k with
    | zero => simp [entL] at h
    | succ k =>
      have h2 : (entL vs)[k]? = some (some v) := by simpa [entL] using h
      have := ent_in G vs (i + 1) k v h2
      show _ ∈ (i, Value.null) :: lv_args (i + 1) (vs.map (cv G))
      rw [show i + (k + 1) = i + 1 + k by omega]
      exact List.mem_cons_of_mem _ this
  | some (.inl z) :: vs, i, k, v, h => by
    cases k with
    | zero =>
      have : v = .inl z := by simpa [entL] using h.symm
      subst this
      exact List.mem_cons_self
    | succ k =>
      have h2 : (entL vs)[k]? = some (some v) := by simpa [entL] using h
      have := ent_in G vs (i + 1) k v h2
      show _ ∈ (i, Value.int (iI z)) :: lv_args (i + 1) (vs.map (cv G))
      rw [show i + (k + 1) = i + 1 + k by omega]
      exact List.mem_cons_of_mem _ this
  | some (.inr (.inl z)) :: vs, i, k, v, h => by
    cases k with
    | zero =>
      have : v = .inr (.inl z) := by simpa [entL] using h.symm
      subst this
      exact List.mem_cons_self
    | succ k =>
      have h2 : (entL vs)[k]? = some (some v) := by simpa [entL] using h
      have := ent_in G vs (i + 1) k v h2
      show _ ∈ (i, Value.ref (adr G z)) :: lv_args (i + 1) (vs.map (cv G))
      rw [show i + (k + 1) = i + 1 + k by omega]
      exact List.mem_cons_of_mem _ this
  | some (.inr (.inr z)) :: vs, i, k, v, h => by
    cases k with
    | zero =>
      have : v = .inr (.inr z) := by simpa [entL] using h.symm
      subst this
      exact List.mem_cons_self
    | succ k =>
      cases k with
      | zero => simp [entL] at h
      | succ k =>
        have h2 : (entL vs)[k]? = some (some v) := by simpa [entL] using h
        have := ent_in G vs (i + 2) k v h2
        show _ ∈ (i, Value.long (lI z)) :: lv_args (i + 2) (vs.map (cv G))
        rw [show i + (k + 1 + 1) = i + 2 + k by omega]
        exact List.mem_cons_of_mem _ this
theorem ent_sub (G : GE) (as : List AV) (n : Nat) : ∀ q ∈ lvL G (ent as n), q ∈ lv_args 0 (as.map (cv G)) := by
  intro q hq
  obtain ⟨v, hv, he⟩ := lvL_mem.mp hq
  obtain ⟨a, b⟩ := q
  dsimp only at hv he
  subst he
  unfold ent at hv
  by_cases h : a < (entL as).length
  · rw [List.getElem?_append_left h] at hv
    have := ent_in G as 0 a v hv
    rwa [Nat.zero_add] at this
  · rw [List.getElem?_append_right (by omega), List.getElem?_replicate] at hv
    split at hv <;> cases hv
theorem Mt.of {l : Launch} {G : GE} {mi : MI} {mc ms : Nat} {as : List AV} {σ : Sg} {Q : Option AV → Sg → Prop} (hy : plainName mi.1.cls = true) (hl : (entL as).length ≤ mi.2.2.1) (k : Rr l G (Km G mi mc ms σ.2.2.1 Q) 0 0 0 (ent as mi.2.2.1) [] σ) : Mt l G mi mc ms as σ Q := by
  refine Met.ofW (cc := mi.2.1) (maxL := mi.2.2.1) (ret := mi.2.2.2.1) hy rfl ?_
  intro p e s m args below meth c s₁ B hml hv
  obtain ⟨rfl, hsz, hP, hG⟩ := hv
  have hts := atoms_spec (ws := wsM mi) B.pre
  rw [lg_entry_eq]
  exact k p e s m _ below meth c s.heap [] _ ⟨B.exec, B.bytes, hml, B.returns, findClass_of_methodNamed B.named, fun w hw => hts w (List.mem_cons_of_mem _ hw), B.notSynchronized, (name_of_methodNamed B.named B.method).1, hG, hsz⟩ va_S.rf hP hsz rfl (lv_mono (lv_entry (as.map (cv G)) (n := mi.2.2.1) (by rw [ent_len]; exact hl)) (ent_sub G as _))
/-- a weaker end -/
theorem Mt.mono {l : Launch} {G : GE} {mi : MI} {mc ms : Nat} {as : List AV} {σ : Sg} {Q Q' : Option AV → Sg → Prop} (h : Mt l G mi mc ms as σ Q) (hq : ∀ r σ', σ'.2.2.1 = σ.2.2.1 + mc → Q r σ' → Q' r σ') : Mt l G mi mc ms as σ Q' := by
  intro p e ha hc hk s m args below hf hap hP hX
  obtain ⟨t, o, h1, h2, h3, ⟨⟨⟨r, σ', q1, q2, q3, q4⟩, q5⟩, q6⟩⟩ := h p e ha hc hk s m args below hf hap hP hX
  exact ⟨t, o, h1, h2, h3, ⟨⟨⟨r, σ', q1, hq r σ' q3 q2, q3, q4⟩, q5⟩, q6⟩⟩
section RET
variable {l : Launch} {G : GE} {K : KT} {mc ms kc ks pc : Nat} {ls : List AV} {σ : Sg} {Q : Option AV → Sg → Prop}
theorem R_iret {z : Int} (hd : decode K.2.1 pc = .ok (.ireturn, 1)) (hZ : K.2.2.2.2.2.2.2 = Zm G K.2.2.2.2.2.2.1 mc ms Q) (hr : K.2.2.2.1 = some .int) (hc : kc = mc) (hs : ks ≤ ms) (hQ : Q (some (ai z)) σ) : Rr l G K kc ks pc ls [ai z] σ := by
  intro p e s m args below meth c H locs cls C hS hP hz hn hl
  subst hc
  rw [hZ]
  refine W.widen (k := kc) (n := ms) (Nat.le_refl _) hs ?_
  exact W.iret C.1 C.2.1 (C.2.2.2.1.trans hr) (fun t ht hW => ⟨⟨some (ai z), σ, rfl, hQ, hn, by rw [ht]; exact hP, by rw [ht]; exact hz⟩, hS.F ht⟩) hS.2.2 hd (hlocks := C.2.2.2.2.2.2.1)
theorem R_zret {z : Int} (hd : decode K.2.1 pc = .ok (.ireturn, 1)) (hZ : K.2.2.2.2.2.2.2 = Zm G K.2.2.2.2.2.2.1 mc ms Q) (hr : K.2.2.2.1 = some .boolean) (hz1 : z = 0 ∨ z = 1) (hc : kc = mc) (hs : ks ≤ ms) (hQ : Q (some (ai z)) σ) : Rr l G K kc ks pc ls [ai z] σ := by
  intro p e s m args below meth c H locs cls C hS hP hz hn hl
  subst hc
  rw [hZ]
  refine W.widen (k := kc) (n := ms) (Nat.le_refl _) hs ?_
  exact W.zret C.1 C.2.1 (C.2.2.2.1.trans hr) (by rcases hz1 with rfl | rfl <;> rfl) (fun t ht hW => ⟨⟨some (ai z), σ, rfl, hQ, hn, by rw [ht]; exact hP, by rw [ht]; exact hz⟩, hS.F ht⟩) hS.2.2 hd (hlocks := C.2.2.2.2.2.2.1)
theorem R_lret {z : Int} (hd : decode K.2.1 pc = .ok (.lreturn, 1)) (hZ : K.2.2.2.2.2.2.2 = Zm G K.2.2.2.2.2.2.1 mc ms Q) (hr : K.2.2.2.1 = some .long) (hc : kc = mc) (hs : ks ≤ ms) (hQ : Q (some (al z)) σ) : Rr l G K kc ks pc ls [al z] σ := by
  intro p e s m args below meth c H locs cls C hS hP hz hn hl
  subst hc
  rw [hZ]
  refine W.widen (k := kc) (n := ms) (Nat.le_refl _) hs ?_
  exact W.lret C.1 C.2.1 (C.2.2.2.1.trans hr) (fun t ht hW => ⟨⟨some (al z), σ, rfl, hQ, hn, by rw [ht]; exact hP, by rw [ht]; exact hz⟩, hS.F ht⟩) hS.2.2 hd (hlocks := C.2.2.2.2.2.2.1)
theorem R_vret (hd : decode K.2.1 pc = .ok (.return_, 1)) (hZ : K.2.2.2.2.2.2.2 = Zm G K.2.2.2.2.2.2.1 mc ms Q) (hr : K.2.2.2.1 = none) (hc : kc = mc) (hs : ks ≤ ms) (hQ : Q (none) σ) : Rr l G K kc ks pc ls [] σ := by
  intro p e s m args below meth c H locs cls C hS hP hz hn hl
  subst hc
  rw [hZ]
  refine W.widen (k := kc) (n := ms) (Nat.le_refl _) hs ?_
  exact W.vret C.1 C.2.1 (C.2.2.2.1.trans hr) (fun t ht hW => ⟨⟨none, σ, rfl, hQ, hn, by rw [ht]; exact hP, by rw [ht]; exact hz⟩, hS.F ht⟩) hS.2.2 hd (hlocks := C.2.2.2.2.2.2.1)
end RET
section CALL
variable {l : Launch} {G : GE} {K : KT} {kc ks pc : Nat} {ls st : List AV} {σ : Sg}
theorem Pm_blind (G : GE) (as : List AV) (σ : Sg) : FrameBlind (Pm G as σ) := fun _ _ _ _ h => ⟨h.1, h.2.1, h.2.2.1, h.2.2.2.calling⟩
theorem Pm_at {p : Program} {s : State} {m : MethodId} {args : Array Value} {meth : Method} {c : Code} {H : Heap} {locs : List Loc} (C : Cx G K p s m args meth c) (hS : va_S (AA G) s.heap H locs) (hP : Rp G σ H) (hz : H.size = G.2.2.1 + σ.2.2.1) (as : List AV) : ∀ U : State, U.heap = H → s.WarmedH U.vm → Pm G as σ (as.map (cv G)).toArray U :=
  fun U hU hW => ⟨rfl, by rw [hU]; exact hz, by rw [hU]; exact hP, GK.warm hW (fun q h1 h2 => by rw [hU]; exact hS.2.1 q h1 h2) C.2.2.2.2.2.2.2.2.1⟩
theorem R_after {p : Program} {e : Env} {s : State} {m : MethodId} {args : Array Value} {below : List Frame} {meth : Method} {c : Code} {H : Heap} {locs : List Loc} {cls : Array Slot} {mc ms : Nat} {st0 : List Value} {rest : List AV} {a : Array Value} {Qc : Option AV → Sg → Prop}
    (C : Cx G K p s m args meth c) (hr : va_Run p l e K.2.2.2.2.2.1 s m args below meth c H locs kc ks mc ms (F0 m pc cls st0) (rest.map (cv G)) (Qm G σ.2.2.1 mc Qc a) (AA G)) (hS : va_S (AA G) s.heap H locs) (hn : σ.2.2.1 = K.2.2.2.2.2.2.1 + kc) (hl : lv_has cls K.2.2.1 (lvL G ls))
    (kk : ∀ r σ', Qc r σ' → σ'.2.2.1 = σ.2.2.1 + mc → Rr l G K (kc + mc) (ks + ms) (pc + 3) ls (r.toList ++ rest) σ') : W p l e K.2.2.2.2.2.1 s m args below meth c H locs kc ks (K.2.2.2.2.2.2.2 below args s) (F0 m pc cls st0) := by
  intro T hT X
  obtain ⟨v, st₀, t, T', L, h0, X', hL, e1, e2, ⟨⟨r, σ', hv, hQ, hnx, hR, hz⟩, hF⟩, go⟩ := hr T hT X
  cases hv
  have hS1 : va_S (AA G) s.heap T'.heap (locs ++ L) := by
    refine ⟨Nat.le_trans hS.1 (by rw [e1, ← h0]; exact hF.1), fun q h1 h2 => ?_, fun q hq => ?_⟩
    · rw [e1, hF.2 q (by rw [h0]; exact Nat.lt_of_lt_of_le h1 hS.1) h2, h0]
      exact hS.2.1 q h1 h2
    · rcases List.mem_append.mp hq with h | h
      · exact hS.2.2 q h
      · exact hL q h
  have w := kk r σ' hQ hnx p e s m args below meth c T'.heap (locs ++ L) cls C hS1 (by rw [e1]; exact hR) (by rw [e1]; exact hz) (by omega) hl
  obtain ⟨t2, a1, b1⟩ := w T' rfl X'
  refine ⟨t2, go t2 ?_, b1⟩
  have : (r.toList ++ rest).map (cv G) = (r.map (cv G)).toList ++ rest.map (cv G) := by cases r <;> simp
  rw [this] at a1
  exact a1
/-- a callee's words -/
def CB (own : String) (idx : Nat) (mi : MI) (n : Nat) : Prop := Cond.methodLink own idx mi.1 ∈ TG ∧ Cond.initialized mi.1.cls ∈ TG ∧ Cond.code mi.1 mi.2.1 mi.2.2.1 mi.2.2.2.1 ∈ TG ∧ (mi.1.cls ≠ "java/lang/invoke/MethodHandle" ∧ mi.1.cls ≠ "java/lang/invoke/VarHandle" ∧ (parseMethodDescriptor mi.1.desc).map (fun d => d.parameters.length) = some n)
def CBN (own : String) (idx : Nat) (mi : MI) (n : Nat) : Prop := Cond.methodLinkNest own idx mi.1 RX4 ∈ nestW ∧ Cond.initialized mi.1.cls ∈ TG ∧ Cond.code mi.1 mi.2.1 mi.2.2.1 mi.2.2.2.1 ∈ TG ∧ (mi.1.cls ≠ "java/lang/invoke/MethodHandle" ∧ mi.1.cls ≠ "java/lang/invoke/VarHandle" ∧ (parseMethodDescriptor mi.1.desc).map (fun d => d.parameters.length) = some n)
def CR (K : KT) (mi : MI) : Prop := mi.2.2.2.2.1 + 1 ≤ K.2.2.2.2.2.1.frames ∧ 8 + (mi.2.2.1 + 11) + mi.2.2.2.2.2 ≤ K.2.2.2.2.2.1.locals
theorem wsM_good {mi : MI} (h : Cond.code mi.1 mi.2.1 mi.2.2.1 mi.2.2.2.1 ∈ TG) : GoodIn TG (wsM mi) := by
  intro w hw
  rcases List.mem_cons.mp hw with rfl | hw
  · exact TG_good _ h
  · exact TG_good _ hw
theorem cb_of {own : String} {idx n mc ms : Nat} {mi : MI} {R : Room} {s : State} {args : Array Value} (h : CB own idx mi n) (hts : ∀ w ∈ TG, w.before args s = true) (hR : mi.2.2.2.2.1 + 1 ≤ R.frames ∧ 8 + (mi.2.2.1 + 11) + mi.2.2.2.2.2 ≤ R.locals) : CallB R s args own idx mi.1 mi.2.1 mi.2.2.1 mi.2.2.2.1 (wsM mi) (rmM mi mc ms) mc ms n :=
  callB_of n hts (wsM_good h.2.2.1) rfl rfl rfl (hts _ h.2.1) (hts _ h.1) h.2.2.2 hR
theorem cbn_of {own : String} {idx n mc ms : Nat} {mi : MI} {R : Room} {s : State} {args : Array Value} (h : CBN own idx mi n) (hts : ∀ w ∈ TG, w.before args s = true) (hn : ∀ w ∈ nestW, va_Nw w s) (hR : mi.2.2.2.2.1 + 1 ≤ R.frames ∧ 8 + (mi.2.2.1 + 11) + mi.2.2.2.2.2 ≤ R.locals) : va_CN R s args own idx mi.1 RX4 mi.2.1 mi.2.2.1 mi.2.2.2.1 (wsM mi) (rmM mi mc ms) mc ms n :=
  va_cnB n hts (wsM_good h.2.2.1) rfl rfl rfl (hn _ h.1) (hts _ h.2.1) h.2.2.2 hR
theorem R_cV {idx mc ms b ci n nn : Nat} {mi : MI} {as rest : List AV} {Qc : Option AV → Sg → Prop} (hd : decode K.2.1 pc = .ok (.invokevirtual idx, 3)) (hw : CB K.1 idx mi nn) (hw2 : Cond.instanceMethod mi.1 ∈ TG ∧ Cond.selects mi.1.cls mi.1 mi.1 ∈ TG) (hR : CR K mi) (hM : Mt l G mi mc ms (ar b :: as) σ Qc) (hst : st = as.reverse ++ ar b :: rest) (hf : kc + mc ≤ K.2.2.2.2.2.1.cells ∧ ks + ms ≤ K.2.2.2.2.2.1.slots)
    (hb : kd σ b = (ci + 3, n)) (hp : b < σ.2.2.1) (hC : (vwCl[ci]?).map (fun q => q.1) = some mi.1.cls) (hna : as.length = nn) (hcat : ((rest.map (cv G)).map fun v => v.category).sum ≤ 8)
    (kk : ∀ r σ', Qc r σ' → σ'.2.2.1 = σ.2.2.1 + mc → Rr l G K (kc + mc) (ks + ms) (pc + 3) ls (r.toList ++ rest) σ') : Rr l G K kc ks pc ls st σ := by
  intro p e s m args below meth c H locs cls C hS hP hz hn hl
  subst hst
  have hcell : cellOf G σ b = .inr (ci, fvs G (σ.1 b) (σ.2.1 b) (ftl.getD ci []) 0) := by unfold cellOf; rw [hb]; rfl
  have hg := ws_get G σ hp
  rw [hcell] at hg
  obtain ⟨q, hq, hq1⟩ : ∃ q, vwCl[ci]? = some q ∧ q.1 = mi.1.cls := by
    cases h : vwCl[ci]? with
    | none => rw [h] at hC; cases hC
    | some q => rw [h] at hC; exact ⟨q, rfl, Option.some.inj hC⟩
  have hadr : adr G b = G.2.2.1 + b := adr_lo (by have := hP.2; omega)
  have hrecv := va_recv C.2.2.2.2.2.2.2.2.1.1 hP.1 hq hg
  rw [hq1, ← hadr] at hrecv
  have hts := C.2.2.2.2.2.1
  refine R_after C (a := (Value.ref (adr G b) :: as.map (cv G)).toArray) (va_runV (As := as.map (cv G)) (C := mi.1.cls) (b := adr G b) ⟨C.1, C.2.1, C.2.2.1, C.2.2.2.2.1, hts⟩ hM ⟨cb_of hw hts hR, hts _ hw2.1, hts _ hw2.2⟩ ⟨Pm_blind G _ σ, hrecv, Pm_at C hS hP hz (ar b :: as)⟩ rfl (by rw [List.length_map]; exact hna) hl.1 (by simp [cv]) (lv_room hcat) hd hf) hS hn hl kk
theorem R_cS {idx mc ms nn : Nat} {mi : MI} {as rest : List AV} {Qc : Option AV → Sg → Prop} (hd : decode K.2.1 pc = .ok (.invokestatic idx, 3)) (hw : CB K.1 idx mi nn) (hw2 : Cond.static mi.1 ∈ TG) (hR : CR K mi) (hM : Mt l G mi mc ms as σ Qc) (hst : st = as.reverse ++ rest) (hf : kc + mc ≤ K.2.2.2.2.2.1.cells ∧ ks + ms ≤ K.2.2.2.2.2.1.slots) (hna : as.length = nn) (hcat : ((rest.map (cv G)).map fun v => v.category).sum ≤ 8)
    (kk : ∀ r σ', Qc r σ' → σ'.2.2.1 = σ.2.2.1 + mc → Rr l G K (kc + mc) (ks + ms) (pc + 3) ls (r.toList ++ rest) σ') : Rr l G K kc ks pc ls st σ := by
  intro p e s m args below meth c H locs cls C hS hP hz hn hl
  subst hst
  have hts := C.2.2.2.2.2.1
  refine R_after C (a := (as.map (cv G)).toArray) (va_runS (As := as.map (cv G)) ⟨C.1, C.2.1, C.2.2.1, C.2.2.2.2.1, hts⟩ hM ⟨cb_of hw hts hR, hts _ hw2⟩ ⟨Pm_blind G _ σ, Pm_at C hS hP hz as⟩ rfl (by rw [List.length_map]; exact hna) hl.1 (by simp) (lv_room hcat) hd hf) hS hn hl kk
theorem R_cSN {idx mc ms nn : Nat} {mi : MI} {as rest : List AV} {Qc : Option AV → Sg → Prop} (hd : decode K.2.1 pc = .ok (.invokestatic idx, 3)) (hw : CBN K.1 idx mi nn) (hw2 : Cond.static mi.1 ∈ TG) (hR : CR K mi) (hM : Mt l G mi mc ms as σ Qc) (hst : st = as.reverse ++ rest) (hf : kc + mc ≤ K.2.2.2.2.2.1.cells ∧ ks + ms ≤ K.2.2.2.2.2.1.slots) (hna : as.length = nn) (hcat : ((rest.map (cv G)).map fun v => v.category).sum ≤ 8)
    (kk : ∀ r σ', Qc r σ' → σ'.2.2.1 = σ.2.2.1 + mc → Rr l G K (kc + mc) (ks + ms) (pc + 3) ls (r.toList ++ rest) σ') : Rr l G K kc ks pc ls st σ := by
  intro p e s m args below meth c H locs cls C hS hP hz hn hl
  subst hst
  have hts := C.2.2.2.2.2.1
  refine R_after C (a := (as.map (cv G)).toArray) (va_runSN (host := RX4) (As := as.map (cv G)) ⟨C.1, C.2.1, C.2.2.1, C.2.2.2.2.1, hts⟩ hM ⟨cbn_of hw hts C.2.2.2.2.2.2.2.2.1.2.1 hR, hts _ hw2, trivial⟩ ⟨Pm_blind G _ σ, Pm_at C hS hP hz as⟩ rfl (by rw [List.length_map]; exact hna) hl.1 (by simp) (lv_room hcat) hd hf) hS hn hl kk
theorem R_cI {idx mc ms b nn : Nat} {mi : MI} {as rest : List AV} {Qc : Option AV → Sg → Prop} (hd : decode K.2.1 pc = .ok (.invokespecial idx, 3)) (hw : CB K.1 idx mi nn) (hw2 : mi.1.name = "<init>" ∧ mi.2.2.2.1 = none ∧ Cond.instanceMethod mi.1 ∈ TG) (hR : CR K mi) (hM : Mt l G mi mc ms (ar b :: as) σ Qc) (hst : st = as.reverse ++ ar b :: rest) (hf : kc + mc ≤ K.2.2.2.2.2.1.cells ∧ ks + ms ≤ K.2.2.2.2.2.1.slots) (hna : as.length = nn) (hcat : ((rest.map (cv G)).map fun v => v.category).sum ≤ 8)
    (kk : ∀ r σ', Qc r σ' → σ'.2.2.1 = σ.2.2.1 + mc → Rr l G K (kc + mc) (ks + ms) (pc + 3) ls (r.toList ++ rest) σ') : Rr l G K kc ks pc ls st σ := by
  intro p e s m args below meth c H locs cls C hS hP hz hn hl
  subst hst
  have hts := C.2.2.2.2.2.1
  refine R_after C (a := (Value.ref (adr G b) :: as.map (cv G)).toArray) (va_runI (As := as.map (cv G)) (b := adr G b) ⟨C.1, C.2.1, C.2.2.1, C.2.2.2.2.1, hts⟩ hM ⟨by have := cb_of (mc := mc) (ms := ms) hw hts hR; rw [hw2.2.1] at this; exact this, hw2.1, hts _ hw2.2.2⟩ ⟨Pm_blind G _ σ, Pm_at C hS hP hz (ar b :: as)⟩ rfl (by rw [List.length_map]; exact hna) hl.1 (by simp [cv]) (lv_room hcat) hd hf) hS hn hl kk
theorem R_cIN {idx mc ms b nn : Nat} {mi : MI} {as rest : List AV} {Qc : Option AV → Sg → Prop} (hd : decode K.2.1 pc = .ok (.invokespecial idx, 3)) (hw : CBN K.1 idx mi nn) (hw2 : mi.1.name = "<init>" ∧ mi.2.2.2.1 = none ∧ Cond.instanceMethod mi.1 ∈ TG) (hR : CR K mi) (hM : Mt l G mi mc ms (ar b :: as) σ Qc) (hst : st = as.reverse ++ ar b :: rest) (hf : kc + mc ≤ K.2.2.2.2.2.1.cells ∧ ks + ms ≤ K.2.2.2.2.2.1.slots) (hna : as.length = nn) (hcat : ((rest.map (cv G)).map fun v => v.category).sum ≤ 8)
    (kk : ∀ r σ', Qc r σ' → σ'.2.2.1 = σ.2.2.1 + mc → Rr l G K (kc + mc) (ks + ms) (pc + 3) ls (r.toList ++ rest) σ') : Rr l G K kc ks pc ls st σ := by
  intro p e s m args below meth c H locs cls C hS hP hz hn hl
  subst hst
  have hts := C.2.2.2.2.2.1
  refine R_after C (a := (Value.ref (adr G b) :: as.map (cv G)).toArray) (va_runIN (host := RX4) (As := as.map (cv G)) (b := adr G b) ⟨C.1, C.2.1, C.2.2.1, C.2.2.2.2.1, hts⟩ hM ⟨by have := cbn_of (mc := mc) (ms := ms) hw hts C.2.2.2.2.2.2.2.2.1.2.1 hR; rw [hw2.2.1] at this; exact this, hw2.1, hts _ hw2.2.2⟩ ⟨Pm_blind G _ σ, Pm_at C hS hP hz (ar b :: as)⟩ rfl (by rw [List.length_map]; exact hna) hl.1 (by simp [cv]) (lv_room hcat) hd hf) hS hn hl kk
end CALL
