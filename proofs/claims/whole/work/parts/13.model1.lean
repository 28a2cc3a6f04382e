/-! the reference: small calls -/
section MODEL1
variable (l : Launch) (G : GE)
theorem b_in (σ : Sg) (v a b : Int) : Mt l G miX5_in 0 0 [ai v, ai a, ai b] σ (fun r σ' => (∃ z : Int, r = some (ai z) ∧ ((z = 1 ∧ wr a ≤ wr v ∧ wr v ≤ wr b) ∨ (z = 0 ∧ ¬ (wr a ≤ wr v ∧ wr v ≤ wr b)))) ∧ σ' = σ) := (t_in l G σ v a b).mono fun r σ' _ h => by
  obtain ⟨h1, h2⟩ := h
  refine ⟨⟨_, h1, ?_⟩, h2⟩
  split
  · exact Or.inl ⟨rfl, by assumption⟩
  · exact Or.inr ⟨rfl, by assumption⟩
theorem b_isWithin (σ : Sg) (v a b : Int) : Mt l G miX4_isWithin 0 0 [ai v, ai a, ai b] σ (fun r σ' => (∃ z : Int, r = some (ai z) ∧ ((z = 1 ∧ wr a ≤ wr v ∧ wr v ≤ wr b) ∨ (z = 0 ∧ ¬ (wr a ≤ wr v ∧ wr v ≤ wr b)))) ∧ σ' = σ) := (t_isWithin l G σ v a b).mono fun r σ' _ h => by
  obtain ⟨h1, h2⟩ := h
  refine ⟨⟨_, h1, ?_⟩, h2⟩
  split
  · exact Or.inl ⟨rfl, by assumption⟩
  · exact Or.inr ⟨rfl, by assumption⟩
theorem t_isCell (I : Nat → Nat → Int) (sw : Bool) (nx : Nat) (tl : Nat → Nat) (hnx : 63 ≤ nx) (x y : Int) {S : Sp} (hR : RelM I S) (hO : OkS S) : Mt l G miX5_isCell 0 0 [ar 48, ai x, ai y] (I, Rs sw, nx, tl) (fun r σ' => (∃ z : Int, r = some (ai z) ∧ ((z = 1 ∧ (0 ≤ wr x ∧ wr x < sW S) ∧ (0 ≤ wr y ∧ wr y < sH S)) ∨ (z = 0 ∧ ¬ ((0 ≤ wr x ∧ wr x < sW S) ∧ (0 ≤ wr y ∧ wr y < sH S))))) ∧ σ' = (I, Rs sw, nx, tl)) := by
  obtain ⟨h1, h2, -⟩ := hR
  obtain ⟨⟨o1, o2⟩, ⟨o3, o4⟩, -⟩ := hO
  refine Mt.ofL (ls := [ar 48, ai x, ai y]) (by decide) (Nat.le_of_ble_eq_true rfl) rfl ?_
  dsimp only [Km, miX5_isCell]
  refine R_iload_n dX5_isCell_0 rfl rfl ?_
  refine R_iconst dX5_isCell_1 ?_
  refine R_aload_n dX5_isCell_2 rfl rfl ?_
  refine R_getI fRX5_7 dX5_isCell_3 rfl (Nat.lt_of_lt_of_le (Nat.le_of_ble_eq_true rfl) hnx) ?_
  refine R_iconst dX5_isCell_6 ?_
  refine R_isub dX5_isCell_7 ?_
  refine R_cS dX5_isCell_8 kRX5_60 vX5_in ⟨(Nat.le_of_ble_eq_true rfl), (Nat.le_of_ble_eq_true rfl)⟩ (b_in l G _ _ _ _) rfl ⟨(Nat.le_of_ble_eq_true rfl), (Nat.le_of_ble_eq_true rfl)⟩ rfl (Nat.le_of_ble_eq_true rfl) (fun r σ' hq hn' => ?_)
  obtain ⟨⟨b8, rfl, hb8⟩, rfl⟩ := hq
  dsimp only at hb8
  rw [h1] at hb8
  try simp (discharger := omega) only [wr_id] at hb8
  refine R_if_eq (tgt := 32) dX5_isCell_11 (by decide) (fun c_11 => ?_) (fun c_11 => ?_)
  · first
    | (simp (discharger := omega) only [wr_id] at c_11; done)
    | (try simp (discharger := omega) only [wr_id] at c_11
       exfalso
       first | omega | exact c_11 trivial)
    | (try simp (discharger := omega) only [wr_id] at c_11
       refine R_iconst dX5_isCell_32 ?_
       refine R_zret dX5_isCell_33 rfl rfl (by first | exact Or.inl rfl | exact Or.inr rfl | omega) rfl (Nat.le_refl _) ?_
       exact ⟨⟨_, rfl, by first | exact Or.inl ⟨rfl, by omega⟩ | exact Or.inr ⟨rfl, by omega⟩⟩, rfl⟩)
  · first
    | (simp (discharger := omega) only [wr_id] at c_11; done)
    | (try simp (discharger := omega) only [wr_id] at c_11
       exfalso
       first | omega | exact c_11 trivial)
    | (try simp (discharger := omega) only [wr_id] at c_11
       refine R_iload_n dX5_isCell_14 rfl rfl ?_
       refine R_iconst dX5_isCell_15 ?_
       refine R_aload_n dX5_isCell_16 rfl rfl ?_
       refine R_getI fRX5_13 dX5_isCell_17 rfl (Nat.lt_of_lt_of_le (Nat.le_of_ble_eq_true rfl) hnx) ?_
       refine R_iconst dX5_isCell_20 ?_
       refine R_isub dX5_isCell_21 ?_
       refine R_cS dX5_isCell_22 kRX5_60 vX5_in ⟨(Nat.le_of_ble_eq_true rfl), (Nat.le_of_ble_eq_true rfl)⟩ (b_in l G _ _ _ _) rfl ⟨(Nat.le_of_ble_eq_true rfl), (Nat.le_of_ble_eq_true rfl)⟩ rfl (Nat.le_of_ble_eq_true rfl) (fun r σ' hq hn' => ?_)
       obtain ⟨⟨b22, rfl, hb22⟩, rfl⟩ := hq
       dsimp only at hb22
       rw [h2] at hb22
       try simp (discharger := omega) only [wr_id] at hb22
       refine R_if_eq (tgt := 32) dX5_isCell_25 (by decide) (fun c_25 => ?_) (fun c_25 => ?_)
       · first
         | (simp (discharger := omega) only [wr_id] at c_25; done)
         | (try simp (discharger := omega) only [wr_id] at c_25
            exfalso
            first | omega | exact c_25 trivial)
         | (try simp (discharger := omega) only [wr_id] at c_25
            refine R_iconst dX5_isCell_32 ?_
            refine R_zret dX5_isCell_33 rfl rfl (by first | exact Or.inl rfl | exact Or.inr rfl | omega) rfl (Nat.le_refl _) ?_
            exact ⟨⟨_, rfl, by first | exact Or.inl ⟨rfl, by omega⟩ | exact Or.inr ⟨rfl, by omega⟩⟩, rfl⟩)
       · first
         | (simp (discharger := omega) only [wr_id] at c_25; done)
         | (try simp (discharger := omega) only [wr_id] at c_25
            exfalso
            first | omega | exact c_25 trivial)
         | (try simp (discharger := omega) only [wr_id] at c_25
            refine R_iconst dX5_isCell_28 ?_
            refine R_goto (tgt := 33) dX5_isCell_29 (by decide) ?_
            refine R_zret dX5_isCell_33 rfl rfl (by first | exact Or.inl rfl | exact Or.inr rfl | omega) rfl (Nat.le_refl _) ?_
            exact ⟨⟨_, rfl, by first | exact Or.inl ⟨rfl, by omega⟩ | exact Or.inr ⟨rfl, by omega⟩⟩, rfl⟩))
theorem lp_size (I : Nat → Nat → Int) (sw : Bool) (nx : Nat) (tl : Nat → Nat) (hnx : 63 ≤ nx) (Q : Option AV → Sg → Prop) (a b : Int) (hQ : ∀ I', (∀ k, k < 256 → I' 49 k = 0 ∧ I' 50 k = 0) → (∀ p, p ≠ 49 → p ≠ 50 → I' p = I p) → Rr l G (Km G miX5_size 0 0 nx Q) 0 0 67 [ar 48, ai a, ai b, ai 256] [] (I', Rs sw, nx, tl)) :
    ∀ (n i : Nat) (J : Nat → Nat → Int), 256 - i < n → i ≤ 256 → (∀ k, k < i → J 49 k = 0 ∧ J 50 k = 0) → (∀ p, p ≠ 49 → p ≠ 50 → J p = I p) → Rr l G (Km G miX5_size 0 0 nx Q) 0 0 40 [ar 48, ai a, ai b, ai i] [] (J, Rs sw, nx, tl) := by
  intro n
  induction n with
  | zero => intro i J h; omega
  | succ n ih =>
    intro i J hn hi hJ hF
    dsimp only [Km, miX5_size] at *
    refine R_iload_n dX5_size_40 rfl rfl ?_
    refine R_sipush (z := 256) dX5_size_41 rfl ?_
    refine R_icmp_ge (tgt := 67) dX5_size_44 (by decide) (fun c_44 => ?_) (fun c_44 => ?_)
    · first
      | (simp (discharger := omega) only [wr_id] at c_44; done)
      | (try simp (discharger := omega) only [wr_id] at c_44
         exfalso
         first | omega | exact c_44 trivial)
      | (try simp (discharger := omega) only [wr_id] at c_44
         have e : i = 256 := by omega
         subst e
         exact hQ J hJ hF)
    · first
      | (simp (discharger := omega) only [wr_id] at c_44; done)
      | (try simp (discharger := omega) only [wr_id] at c_44
         exfalso
         first | omega | exact c_44 trivial)
      | (try simp (discharger := omega) only [wr_id] at c_44
         refine R_aload_n dX5_size_47 rfl rfl ?_
         refine R_getA fRX5_16 dX5_size_48 rfl (Nat.lt_of_lt_of_le (Nat.le_of_ble_eq_true rfl) hnx) rfl ?_
         refine R_iload_n dX5_size_51 rfl rfl ?_
         refine R_iconst dX5_size_52 ?_
         refine R_iastore (k := i) dX5_size_53 rfl (Nat.lt_of_lt_of_le (Nat.le_of_ble_eq_true rfl) hnx) (by omega) (by omega) (by decide) ?_
         refine R_aload_n dX5_size_54 rfl rfl ?_
         refine R_getA fRX5_20 dX5_size_55 rfl (Nat.lt_of_lt_of_le (Nat.le_of_ble_eq_true rfl) hnx) rfl ?_
         refine R_iload_n dX5_size_58 rfl rfl ?_
         refine R_iconst dX5_size_59 ?_
         refine R_bastore (k := i) dX5_size_60 rfl (Nat.lt_of_lt_of_le (Nat.le_of_ble_eq_true rfl) hnx) (by omega) (by omega) (by decide) (by omega) ?_
         refine R_iinc dX5_size_61 rfl (Nat.le_of_ble_eq_true rfl) ?_
         refine R_goto (tgt := 40) dX5_size_64 (by decide) ?_
         refine ih (i + 1) _ (by omega) (by omega) (fun k hk => ?_) (fun p h1 h2 => ?_)
         · have := hJ k
           constructor
           · rw [up2_at, up2_at]; simp; intro q; exact (this (by omega)).1
           · rw [up2_at, up2_at]; simp; intro q; exact (this (by omega)).2
         · rw [up2_ne _ _ _ h2, up2_ne _ _ _ h1]
           exact hF p h1 h2)
/-- size -/
theorem m_size (I : Nat → Nat → Int) (sw : Bool) (nx : Nat) (tl : Nat → Nat) (hnx : 63 ≤ nx) (w h : Int) (rw1 : inR w) (rh : inR h) {S : Sp} (hR : RelM I S) : Mt l G miX5_size 0 0 [ar 48, ai w, ai h] (I, Rs sw, nx, tl) (QI sw nx tl (fun r I' => (∀ p, p < 48 → I' p = I p) ∧ r = some (ai (o_size S w h).1) ∧ RelM I' (o_size S w h).2)) := by
  unfold inR at *
  refine Mt.ofL (ls := [ar 48, ai w, ai h, none]) (by decide) (Nat.le_of_ble_eq_true rfl) rfl ?_
  dsimp only [Km, miX5_size]
  refine R_iload_n dX5_size_0 rfl rfl ?_
  refine R_iconst dX5_size_1 ?_
  refine R_bipush (z := 16) dX5_size_2 rfl ?_
  refine R_cS dX5_size_4 kRX5_60 vX5_in ⟨(Nat.le_of_ble_eq_true rfl), (Nat.le_of_ble_eq_true rfl)⟩ (b_in l G _ _ _ _) rfl ⟨(Nat.le_of_ble_eq_true rfl), (Nat.le_of_ble_eq_true rfl)⟩ rfl (Nat.le_of_ble_eq_true rfl) (fun r σ' hq hn' => ?_)
  obtain ⟨⟨b4, rfl, hb4⟩, rfl⟩ := hq
  try simp (discharger := omega) only [wr_id] at hb4
  refine R_if_eq (tgt := 20) dX5_size_7 (by decide) (fun c_7 => ?_) (fun c_7 => ?_)
  · first
    | (simp (discharger := omega) only [wr_id] at c_7; done)
    | (try simp (discharger := omega) only [wr_id] at c_7
       exfalso
       first | omega | exact c_7 trivial)
    | (try simp (discharger := omega) only [wr_id] at c_7
       refine R_bipush (z := (-102)) dX5_size_20 rfl ?_
       refine R_iret dX5_size_22 rfl rfl rfl (Nat.le_refl _) ?_
       rw [o_size, if_neg (by omega)]
       exact ⟨I, rfl, fun _ _ => rfl, rfl, hR⟩)
  · first
    | (simp (discharger := omega) only [wr_id] at c_7; done)
    | (try simp (discharger := omega) only [wr_id] at c_7
       exfalso
       first | omega | exact c_7 trivial)
    | (try simp (discharger := omega) only [wr_id] at c_7
       refine R_iload_n dX5_size_10 rfl rfl ?_
       refine R_iconst dX5_size_11 ?_
       refine R_bipush (z := 16) dX5_size_12 rfl ?_
       refine R_cS dX5_size_14 kRX5_60 vX5_in ⟨(Nat.le_of_ble_eq_true rfl), (Nat.le_of_ble_eq_true rfl)⟩ (b_in l G _ _ _ _) rfl ⟨(Nat.le_of_ble_eq_true rfl), (Nat.le_of_ble_eq_true rfl)⟩ rfl (Nat.le_of_ble_eq_true rfl) (fun r σ' hq hn' => ?_)
       obtain ⟨⟨b14, rfl, hb14⟩, rfl⟩ := hq
       try simp (discharger := omega) only [wr_id] at hb14
       refine R_if_ne (tgt := 23) dX5_size_17 (by decide) (fun c_17 => ?_) (fun c_17 => ?_)
       · first
         | (simp (discharger := omega) only [wr_id] at c_17; done)
         | (try simp (discharger := omega) only [wr_id] at c_17
            exfalso
            first | omega | exact c_17 trivial)
         | (try simp (discharger := omega) only [wr_id] at c_17
            refine R_aload_n dX5_size_23 rfl rfl ?_
            refine R_iload_n dX5_size_24 rfl rfl ?_
            refine R_putI fRX5_7 dX5_size_25 fp_5_0 (fv_5_0 _ _) rfl (Nat.lt_of_lt_of_le (Nat.le_of_ble_eq_true rfl) hnx) ?_
            refine R_aload_n dX5_size_28 rfl rfl ?_
            refine R_iload_n dX5_size_29 rfl rfl ?_
            refine R_putI fRX5_13 dX5_size_30 fp_5_1 (fv_5_1 _ _) rfl (Nat.lt_of_lt_of_le (Nat.le_of_ble_eq_true rfl) hnx) ?_
            refine R_aload_n dX5_size_33 rfl rfl ?_
            refine R_iconst dX5_size_34 ?_
            refine R_putI fRX5_64 dX5_size_35 fp_5_4 (fv_5_4 _ _) rfl (Nat.lt_of_lt_of_le (Nat.le_of_ble_eq_true rfl) hnx) ?_
            refine R_iconst dX5_size_38 ?_
            refine R_istore_n dX5_size_39 rfl (Nat.le_of_ble_eq_true rfl) ?_
            refine lp_size l G (up2 (up2 (up2 I 48 0 w) 48 1 h) 48 4 0) sw nx tl hnx _ w h (fun I' h1 h2 => ?_) 257 0 _ (by omega) (by omega) (fun k hk => by omega) (fun p _ _ => rfl)
            dsimp only [Km, miX5_size]
            refine R_iload_n dX5_size_67 rfl rfl ?_
            refine R_iload_n dX5_size_68 rfl rfl ?_
            refine R_imul dX5_size_69 ?_
            refine R_iret dX5_size_70 rfl rfl rfl (Nat.le_refl _) ?_
            rw [o_size, if_pos (by omega)]
            obtain ⟨g1, g2, g3, g4, g5, g6, g7, g8, g9⟩ := hR
            refine ⟨I', rfl, fun p hp => ?_, rfl, ?_⟩
            · rw [h2 p (by omega) (by omega), up2_ne _ _ _ (by omega), up2_ne _ _ _ (by omega), up2_ne _ _ _ (by omega)]
            · have e0 : ∀ j, I' 48 j = up2 (up2 (up2 I 48 0 w) 48 1 h) 48 4 0 48 j := fun j => by rw [h2 48 (by decide) (by decide)]
              have ek : ∀ p, 50 < p → I' p = I p := fun p hp => by rw [h2 p (by omega) (by omega), up2_ne _ _ _ (by omega), up2_ne _ _ _ (by omega), up2_ne _ _ _ (by omega)]
              refine ⟨?_, ?_, fun k hk => (h1 k hk).1, fun k hk => (h1 k hk).2, ?_, fun j hj => absurd hj (Nat.not_lt_zero j), fun j hj => absurd hj (Nat.not_lt_zero j), fun i hi => by rw [ek _ (by decide)]; exact g8 i hi, fun i hi => by rw [ek _ (by decide)]; exact g9 i hi⟩
              · rw [e0]; simp [up2_at]; show w = (w.toNat : Int); omega
              · rw [e0]; simp [up2_at]; show h = (h.toNat : Int); omega
              · rw [e0]; simp [up2_at]; rfl)
       · first
         | (simp (discharger := omega) only [wr_id] at c_17; done)
         | (try simp (discharger := omega) only [wr_id] at c_17
            exfalso
            first | omega | exact c_17 trivial)
         | (try simp (discharger := omega) only [wr_id] at c_17
            refine R_bipush (z := (-102)) dX5_size_20 rfl ?_
            refine R_iret dX5_size_22 rfl rfl rfl (Nat.le_refl _) ?_
            rw [o_size, if_neg (by omega)]
            exact ⟨I, rfl, fun _ _ => rfl, rfl, hR⟩))
theorem m_cell (I : Nat → Nat → Int) (sw : Bool) (nx : Nat) (tl : Nat → Nat) (hnx : 63 ≤ nx) (x y v : Int) (rx : inR x) (ry : inR y) (rv : inR v) {S : Sp} (hR : RelM I S) (hO : OkS S) : Mt l G miX5_cell 0 0 [ar 48, ai x, ai y, ai v] (I, Rs sw, nx, tl) (QI sw nx tl (fun r I' => (∀ p, p < 48 → I' p = I p) ∧ r = some (ai (o_cell S x y v).1) ∧ RelM I' (o_cell S x y v).2)) := by
  have o1 := hO.1
  have o2 := hO.2.1
  unfold inR at *
  refine Mt.ofL (ls := [ar 48, ai x, ai y, ai v, none]) (by decide) (Nat.le_of_ble_eq_true rfl) rfl ?_
  dsimp only [Km, miX5_cell]
  refine R_aload_n dX5_cell_0 rfl rfl ?_
  refine R_iload_n dX5_cell_1 rfl rfl ?_
  refine R_iload_n dX5_cell_2 rfl rfl ?_
  refine R_cV dX5_cell_3 kRX5_67 vX5_isCell ⟨(Nat.le_of_ble_eq_true rfl), (Nat.le_of_ble_eq_true rfl)⟩ (t_isCell l G I sw nx tl hnx _ _ hR hO) rfl ⟨(Nat.le_of_ble_eq_true rfl), (Nat.le_of_ble_eq_true rfl)⟩ rfl (Nat.lt_of_lt_of_le (Nat.le_of_ble_eq_true rfl) hnx) rfl rfl (Nat.le_of_ble_eq_true rfl) (fun r σ' hq hn' => ?_)
  obtain ⟨⟨b3, rfl, hb3⟩, rfl⟩ := hq
  try simp (discharger := omega) only [wr_id] at hb3
  refine R_if_ne (tgt := 12) dX5_cell_6 (by decide) (fun c_6 => ?_) (fun c_6 => ?_)
  · first
    | (simp (discharger := omega) only [wr_id] at c_6; done)
    | (try simp (discharger := omega) only [wr_id] at c_6
       exfalso
       first | omega | exact c_6 trivial)
    | (try simp (discharger := omega) only [wr_id] at c_6
       refine R_iload_n dX5_cell_12 rfl rfl ?_
       refine R_iconst dX5_cell_13 ?_
       refine R_sipush (z := 1023) dX5_cell_14 rfl ?_
       refine R_cS dX5_cell_17 kRX5_60 vX5_in ⟨(Nat.le_of_ble_eq_true rfl), (Nat.le_of_ble_eq_true rfl)⟩ (b_in l G _ _ _ _) rfl ⟨(Nat.le_of_ble_eq_true rfl), (Nat.le_of_ble_eq_true rfl)⟩ rfl (Nat.le_of_ble_eq_true rfl) (fun r σ' hq hn' => ?_)
       obtain ⟨⟨b17, rfl, hb17⟩, rfl⟩ := hq
       try simp (discharger := omega) only [wr_id] at hb17
       refine R_if_ne (tgt := 26) dX5_cell_20 (by decide) (fun c_20 => ?_) (fun c_20 => ?_)
       · first
         | (simp (discharger := omega) only [wr_id] at c_20; done)
         | (try simp (discharger := omega) only [wr_id] at c_20
            exfalso
            first | omega | exact c_20 trivial)
         | (try simp (discharger := omega) only [wr_id] at c_20
            refine R_aload_n dX5_cell_26 rfl rfl ?_
            refine R_getA fRX5_16 dX5_cell_27 rfl (Nat.lt_of_lt_of_le (Nat.le_of_ble_eq_true rfl) hnx) rfl ?_
            refine R_bipush (z := 16) dX5_cell_30 rfl ?_
            refine R_iload_n dX5_cell_32 rfl rfl ?_
            refine R_imul dX5_cell_33 ?_
            refine R_iload_n dX5_cell_34 rfl rfl ?_
            refine R_iadd dX5_cell_35 ?_
            refine R_iaload (k := (16 * y + x).toNat) dX5_cell_36 rfl (Nat.lt_of_lt_of_le (Nat.le_of_ble_eq_true rfl) hnx) (by omega) (by omega) (by decide) ?_
            refine R_istore dX5_cell_37 (Nat.le_of_ble_eq_true rfl) ?_
            refine R_aload_n dX5_cell_39 rfl rfl ?_
            refine R_getA fRX5_16 dX5_cell_40 rfl (Nat.lt_of_lt_of_le (Nat.le_of_ble_eq_true rfl) hnx) rfl ?_
            refine R_bipush (z := 16) dX5_cell_43 rfl ?_
            refine R_iload_n dX5_cell_45 rfl rfl ?_
            refine R_imul dX5_cell_46 ?_
            refine R_iload_n dX5_cell_47 rfl rfl ?_
            refine R_iadd dX5_cell_48 ?_
            refine R_iload_n dX5_cell_49 rfl rfl ?_
            refine R_iastore (k := (16 * y + x).toNat) dX5_cell_50 rfl (Nat.lt_of_lt_of_le (Nat.le_of_ble_eq_true rfl) hnx) (by omega) (by omega) (by decide) ?_
            refine R_iload dX5_cell_51 rfl ?_
            refine R_iret dX5_cell_53 rfl rfl rfl (Nat.le_refl _) ?_
            rw [o_cell, if_pos (by omega), if_pos (by omega)]
            obtain ⟨g1, g2, g3, g4, g5, g6, g7, g8, g9⟩ := hR
            refine ⟨_, rfl, fun p hp => up2_ne _ _ _ (by omega), ?_, ?_⟩
            · show some (ai (I 49 (16 * y + x).toNat)) = _
              rw [g3 _ (by omega)]
            · refine ⟨by rw [up2_ne _ _ _ (by decide)]; exact g1, by rw [up2_ne _ _ _ (by decide)]; exact g2, fun k hk => ?_, fun k hk => by rw [up2_ne _ _ _ (by decide)]; exact g4 k hk, by rw [up2_ne _ _ _ (by decide)]; exact g5, fun k hk => by rw [up2_ne _ _ _ (by decide)]; exact g6 k hk, fun k hk i hi => by rw [up2_ne _ _ _ (by decide)]; exact g7 k hk i hi, fun k hk => by rw [up2_ne _ _ _ (by decide)]; exact g8 k hk, fun k hk => by rw [up2_ne _ _ _ (by decide)]; exact g9 k hk⟩
              rw [up2_self]
              show (if k = (16 * y + x).toNat then v else I 49 k) = if k = (16 * y + x).toNat then v else sC S k
              rw [g3 k hk])
       · first
         | (simp (discharger := omega) only [wr_id] at c_20; done)
         | (try simp (discharger := omega) only [wr_id] at c_20
            exfalso
            first | omega | exact c_20 trivial)
         | (try simp (discharger := omega) only [wr_id] at c_20
            refine R_bipush (z := (-102)) dX5_cell_23 rfl ?_
            refine R_iret dX5_cell_25 rfl rfl rfl (Nat.le_refl _) ?_
            rw [o_cell, if_pos (by omega), if_neg (by omega)]
            exact ⟨I, rfl, fun _ _ => rfl, rfl, hR⟩))
  · first
    | (simp (discharger := omega) only [wr_id] at c_6; done)
    | (try simp (discharger := omega) only [wr_id] at c_6
       exfalso
       first | omega | exact c_6 trivial)
    | (try simp (discharger := omega) only [wr_id] at c_6
       refine R_bipush (z := (-101)) dX5_cell_9 rfl ?_
       refine R_iret dX5_cell_11 rfl rfl rfl (Nat.le_refl _) ?_
       rw [o_cell, if_neg (by omega)]
       exact ⟨I, rfl, fun _ _ => rfl, rfl, hR⟩)
theorem m_dead (I : Nat → Nat → Int) (sw : Bool) (nx : Nat) (tl : Nat → Nat) (hnx : 63 ≤ nx) (x y v : Int) (rx : inR x) (ry : inR y) (rv : v = 0 ∨ v = 1) {S : Sp} (hR : RelM I S) (hO : OkS S) : Mt l G miX5_dead 0 0 [ar 48, ai x, ai y, ai v] (I, Rs sw, nx, tl) (QI sw nx tl (fun r I' => (∀ p, p < 48 → I' p = I p) ∧ r = some (ai (o_dead S x y v).1) ∧ RelM I' (o_dead S x y v).2)) := by
  have o1 := hO.1
  have o2 := hO.2.1
  have o4 := hO.2.2.2.1
  have hR2 := hR
  obtain ⟨g1, g2, g3, g4, g5, g6, g7, g8, g9⟩ := hR2
  unfold inR at *
  refine Mt.ofL (ls := [ar 48, ai x, ai y, ai v, none]) (by decide) (Nat.le_of_ble_eq_true rfl) rfl ?_
  dsimp only [Km, miX5_dead]
  refine R_aload_n dX5_dead_0 rfl rfl ?_
  refine R_iload_n dX5_dead_1 rfl rfl ?_
  refine R_iload_n dX5_dead_2 rfl rfl ?_
  refine R_cV dX5_dead_3 kRX5_67 vX5_isCell ⟨(Nat.le_of_ble_eq_true rfl), (Nat.le_of_ble_eq_true rfl)⟩ (t_isCell l G I sw nx tl hnx _ _ hR hO) rfl ⟨(Nat.le_of_ble_eq_true rfl), (Nat.le_of_ble_eq_true rfl)⟩ rfl (Nat.lt_of_lt_of_le (Nat.le_of_ble_eq_true rfl) hnx) rfl rfl (Nat.le_of_ble_eq_true rfl) (fun r σ' hq hn' => ?_)
  obtain ⟨⟨b3, rfl, hb3⟩, rfl⟩ := hq
  try simp (discharger := omega) only [wr_id] at hb3
  refine R_if_ne (tgt := 12) dX5_dead_6 (by decide) (fun c_6 => ?_) (fun c_6 => ?_)
  · first
    | (simp (discharger := omega) only [wr_id] at c_6; done)
    | (try simp (discharger := omega) only [wr_id] at c_6
       exfalso
       first | omega | exact c_6 trivial)
    | (try simp (discharger := omega) only [wr_id] at c_6
       refine R_aload_n dX5_dead_12 rfl rfl ?_
       refine R_getA fRX5_20 dX5_dead_13 rfl (Nat.lt_of_lt_of_le (Nat.le_of_ble_eq_true rfl) hnx) rfl ?_
       refine R_bipush (z := 16) dX5_dead_16 rfl ?_
       refine R_iload_n dX5_dead_18 rfl rfl ?_
       refine R_imul dX5_dead_19 ?_
       refine R_iload_n dX5_dead_20 rfl rfl ?_
       refine R_iadd dX5_dead_21 ?_
       refine R_baload (k := (16 * y + x).toNat) dX5_dead_22 rfl (Nat.lt_of_lt_of_le (Nat.le_of_ble_eq_true rfl) hnx) (by omega) (by omega) (by decide) ?_
       have hd := o4 (16 * y + x).toNat (by omega)
       rw [show (I, Rs sw, nx, tl).1 50 (16 * y + x).toNat = sD S (16 * y + x).toNat from g4 _ (by omega)]
       refine R_if_eq (tgt := 30) dX5_dead_23 (by decide) (fun c_23 => ?_) (fun c_23 => ?_)
       · first
         | (simp (discharger := omega) only [wr_id] at c_23; done)
         | (try simp (discharger := omega) only [wr_id] at c_23
            exfalso
            first | omega | exact c_23 trivial)
         | (try simp (discharger := omega) only [wr_id] at c_23
            refine R_iconst dX5_dead_30 ?_
            refine R_istore dX5_dead_31 (Nat.le_of_ble_eq_true rfl) ?_
            refine R_aload_n dX5_dead_33 rfl rfl ?_
            refine R_getA fRX5_20 dX5_dead_34 rfl (Nat.lt_of_lt_of_le (Nat.le_of_ble_eq_true rfl) hnx) rfl ?_
            refine R_bipush (z := 16) dX5_dead_37 rfl ?_
            refine R_iload_n dX5_dead_39 rfl rfl ?_
            refine R_imul dX5_dead_40 ?_
            refine R_iload_n dX5_dead_41 rfl rfl ?_
            refine R_iadd dX5_dead_42 ?_
            refine R_iload_n dX5_dead_43 rfl rfl ?_
            refine R_bastore (k := (16 * y + x).toNat) dX5_dead_44 rfl (Nat.lt_of_lt_of_le (Nat.le_of_ble_eq_true rfl) hnx) (by omega) (by omega) (by decide) (by omega) ?_
            refine R_iload dX5_dead_45 rfl ?_
            refine R_iret dX5_dead_47 rfl rfl rfl (Nat.le_refl _) ?_
            rw [o_dead, if_pos (by omega)]
            refine ⟨_, rfl, fun p hp => up2_ne _ _ _ (by omega), ?_, ?_⟩
            · congr 2
              dsimp only
              omega
            · refine ⟨by rw [up2_ne _ _ _ (by decide)]; exact g1, by rw [up2_ne _ _ _ (by decide)]; exact g2, fun k hk => by rw [up2_ne _ _ _ (by decide)]; exact g3 k hk, fun k hk => ?_, by rw [up2_ne _ _ _ (by decide)]; exact g5, fun k hk => by rw [up2_ne _ _ _ (by decide)]; exact g6 k hk, fun k hk i hi => by rw [up2_ne _ _ _ (by decide)]; exact g7 k hk i hi, fun k hk => by rw [up2_ne _ _ _ (by decide)]; exact g8 k hk, fun k hk => by rw [up2_ne _ _ _ (by decide)]; exact g9 k hk⟩
              rw [up2_self]
              show (if k = (16 * y + x).toNat then v else I 50 k) = if k = (16 * y + x).toNat then v else sD S k
              rw [g4 k hk])
       · first
         | (simp (discharger := omega) only [wr_id] at c_23; done)
         | (try simp (discharger := omega) only [wr_id] at c_23
            exfalso
            first | omega | exact c_23 trivial)
         | (try simp (discharger := omega) only [wr_id] at c_23
            refine R_iconst dX5_dead_26 ?_
            refine R_goto (tgt := 31) dX5_dead_27 (by decide) ?_
            refine R_istore dX5_dead_31 (Nat.le_of_ble_eq_true rfl) ?_
            refine R_aload_n dX5_dead_33 rfl rfl ?_
            refine R_getA fRX5_20 dX5_dead_34 rfl (Nat.lt_of_lt_of_le (Nat.le_of_ble_eq_true rfl) hnx) rfl ?_
            refine R_bipush (z := 16) dX5_dead_37 rfl ?_
            refine R_iload_n dX5_dead_39 rfl rfl ?_
            refine R_imul dX5_dead_40 ?_
            refine R_iload_n dX5_dead_41 rfl rfl ?_
            refine R_iadd dX5_dead_42 ?_
            refine R_iload_n dX5_dead_43 rfl rfl ?_
            refine R_bastore (k := (16 * y + x).toNat) dX5_dead_44 rfl (Nat.lt_of_lt_of_le (Nat.le_of_ble_eq_true rfl) hnx) (by omega) (by omega) (by decide) (by omega) ?_
            refine R_iload dX5_dead_45 rfl ?_
            refine R_iret dX5_dead_47 rfl rfl rfl (Nat.le_refl _) ?_
            rw [o_dead, if_pos (by omega)]
            refine ⟨_, rfl, fun p hp => up2_ne _ _ _ (by omega), ?_, ?_⟩
            · congr 2
              dsimp only
              omega
            · refine ⟨by rw [up2_ne _ _ _ (by decide)]; exact g1, by rw [up2_ne _ _ _ (by decide)]; exact g2, fun k hk => by rw [up2_ne _ _ _ (by decide)]; exact g3 k hk, fun k hk => ?_, by rw [up2_ne _ _ _ (by decide)]; exact g5, fun k hk => by rw [up2_ne _ _ _ (by decide)]; exact g6 k hk, fun k hk i hi => by rw [up2_ne _ _ _ (by decide)]; exact g7 k hk i hi, fun k hk => by rw [up2_ne _ _ _ (by decide)]; exact g8 k hk, fun k hk => by rw [up2_ne _ _ _ (by decide)]; exact g9 k hk⟩
              rw [up2_self]
              show (if k = (16 * y + x).toNat then v else I 50 k) = if k = (16 * y + x).toNat then v else sD S k
              rw [g4 k hk]))
  · first
    | (simp (discharger := omega) only [wr_id] at c_6; done)
    | (try simp (discharger := omega) only [wr_id] at c_6
       exfalso
       first | omega | exact c_6 trivial)
    | (try simp (discharger := omega) only [wr_id] at c_6
       refine R_bipush (z := (-101)) dX5_dead_9 rfl ?_
       refine R_iret dX5_dead_11 rfl rfl rfl (Nat.le_refl _) ?_
       rw [o_dead, if_neg (by omega)]
       exact ⟨I, rfl, fun _ _ => rfl, rfl, hR⟩)
theorem m_entry (I : Nat → Nat → Int) (sw : Bool) (nx : Nat) (tl : Nat → Nat) (hnx : 63 ≤ nx) (i v : Int) (ri : inR i) (rv : inR v) {S : Sp} (hR : RelM I S) : Mt l G miX5_entry 0 0 [ar 48, ai i, ai v] (I, Rs sw, nx, tl) (QI sw nx tl (fun r I' => (∀ p, p < 48 → I' p = I p) ∧ r = some (ai (o_entry S i v).1) ∧ RelM I' (o_entry S i v).2)) := by
  have hR2 := hR
  obtain ⟨g1, g2, g3, g4, g5, g6, g7, g8, g9⟩ := hR2
  unfold inR at *
  refine Mt.ofL (ls := [ar 48, ai i, ai v, none]) (by decide) (Nat.le_of_ble_eq_true rfl) rfl ?_
  dsimp only [Km, miX5_entry]
  refine R_iload_n dX5_entry_0 rfl rfl ?_
  refine R_iconst dX5_entry_1 ?_
  refine R_bipush (z := 8) dX5_entry_2 rfl ?_
  refine R_cS dX5_entry_4 kRX5_60 vX5_in ⟨(Nat.le_of_ble_eq_true rfl), (Nat.le_of_ble_eq_true rfl)⟩ (b_in l G _ _ _ _) rfl ⟨(Nat.le_of_ble_eq_true rfl), (Nat.le_of_ble_eq_true rfl)⟩ rfl (Nat.le_of_ble_eq_true rfl) (fun r σ' hq hn' => ?_)
  obtain ⟨⟨b4, rfl, hb4⟩, rfl⟩ := hq
  try simp (discharger := omega) only [wr_id] at hb4
  refine R_if_ne (tgt := 13) dX5_entry_7 (by decide) (fun c_7 => ?_) (fun c_7 => ?_)
  · first
    | (simp (discharger := omega) only [wr_id] at c_7; done)
    | (try simp (discharger := omega) only [wr_id] at c_7
       exfalso
       first | omega | exact c_7 trivial)
    | (try simp (discharger := omega) only [wr_id] at c_7
       refine R_iload_n dX5_entry_13 rfl rfl ?_
       refine R_sipush (z := (-4000)) dX5_entry_14 rfl ?_
       refine R_sipush (z := 4000) dX5_entry_17 rfl ?_
       refine R_cS dX5_entry_20 kRX5_60 vX5_in ⟨(Nat.le_of_ble_eq_true rfl), (Nat.le_of_ble_eq_true rfl)⟩ (b_in l G _ _ _ _) rfl ⟨(Nat.le_of_ble_eq_true rfl), (Nat.le_of_ble_eq_true rfl)⟩ rfl (Nat.le_of_ble_eq_true rfl) (fun r σ' hq hn' => ?_)
       obtain ⟨⟨b17, rfl, hb17⟩, rfl⟩ := hq
       try simp (discharger := omega) only [wr_id] at hb17
       refine R_if_ne (tgt := 29) dX5_entry_23 (by decide) (fun c_23 => ?_) (fun c_23 => ?_)
       · first
         | (simp (discharger := omega) only [wr_id] at c_23; done)
         | (try simp (discharger := omega) only [wr_id] at c_23
            exfalso
            first | omega | exact c_23 trivial)
         | (try simp (discharger := omega) only [wr_id] at c_23
            refine R_aload_n dX5_entry_29 rfl rfl ?_
            refine R_getA fRX5_30 dX5_entry_30 rfl (Nat.lt_of_lt_of_le (Nat.le_of_ble_eq_true rfl) hnx) rfl ?_
            refine R_iload_n dX5_entry_33 rfl rfl ?_
            refine R_iaload (k := i.toNat) dX5_entry_34 rfl (Nat.lt_of_lt_of_le (Nat.le_of_ble_eq_true rfl) hnx) (by omega) (by omega) (by decide) ?_
            refine R_istore_n dX5_entry_35 rfl (Nat.le_of_ble_eq_true rfl) ?_
            refine R_aload_n dX5_entry_36 rfl rfl ?_
            refine R_getA fRX5_30 dX5_entry_37 rfl (Nat.lt_of_lt_of_le (Nat.le_of_ble_eq_true rfl) hnx) rfl ?_
            refine R_iload_n dX5_entry_40 rfl rfl ?_
            refine R_iload_n dX5_entry_41 rfl rfl ?_
            refine R_iastore (k := i.toNat) dX5_entry_42 rfl (Nat.lt_of_lt_of_le (Nat.le_of_ble_eq_true rfl) hnx) (by omega) (by omega) (by decide) ?_
            refine R_iload_n dX5_entry_43 rfl rfl ?_
            refine R_iret dX5_entry_44 rfl rfl rfl (Nat.le_refl _) ?_
            rw [o_entry, if_pos (by omega), if_pos (by omega)]
            refine ⟨_, rfl, fun p hp => up2_ne _ _ _ (by omega), ?_, ?_⟩
            · show some (ai (I 53 i.toNat)) = _
              rw [g8 _ (by omega)]
            · refine ⟨by rw [up2_ne _ _ _ (by decide)]; exact g1, by rw [up2_ne _ _ _ (by decide)]; exact g2, fun k hk => by rw [up2_ne _ _ _ (by decide)]; exact g3 k hk, fun k hk => by rw [up2_ne _ _ _ (by decide)]; exact g4 k hk, by rw [up2_ne _ _ _ (by decide)]; exact g5, fun k hk => by rw [up2_ne _ _ _ (by decide)]; exact g6 k hk, fun k hk i hi => by rw [up2_ne _ _ _ (by decide)]; exact g7 k hk i hi, fun k hk => ?_, fun k hk => by rw [up2_ne _ _ _ (by decide)]; exact g9 k hk⟩
              rw [up2_self]
              show (if k = i.toNat then v else I 53 k) = if k = i.toNat then v else sE S k
              rw [g8 k hk])
       · first
         | (simp (discharger := omega) only [wr_id] at c_23; done)
         | (try simp (discharger := omega) only [wr_id] at c_23
            exfalso
            first | omega | exact c_23 trivial)
         | (try simp (discharger := omega) only [wr_id] at c_23
            refine R_bipush (z := (-102)) dX5_entry_26 rfl ?_
            refine R_iret dX5_entry_28 rfl rfl rfl (Nat.le_refl _) ?_
            rw [o_entry, if_pos (by omega), if_neg (by omega)]
            exact ⟨I, rfl, fun _ _ => rfl, rfl, hR⟩))
  · first
    | (simp (discharger := omega) only [wr_id] at c_7; done)
    | (try simp (discharger := omega) only [wr_id] at c_7
       exfalso
       first | omega | exact c_7 trivial)
    | (try simp (discharger := omega) only [wr_id] at c_7
       refine R_bipush (z := (-101)) dX5_entry_10 rfl ?_
       refine R_iret dX5_entry_12 rfl rfl rfl (Nat.le_refl _) ?_
       rw [o_entry, if_neg (by omega)]
       exact ⟨I, rfl, fun _ _ => rfl, rfl, hR⟩)
theorem m_point (I : Nat → Nat → Int) (sw : Bool) (nx : Nat) (tl : Nat → Nat) (hnx : 63 ≤ nx) (i v : Int) (ri : inR i) (rv : inR v) {S : Sp} (hR : RelM I S) : Mt l G miX5_point 0 0 [ar 48, ai i, ai v] (I, Rs sw, nx, tl) (QI sw nx tl (fun r I' => (∀ p, p < 48 → I' p = I p) ∧ r = some (ai (o_point S i v).1) ∧ RelM I' (o_point S i v).2)) := by
  have hR2 := hR
  obtain ⟨g1, g2, g3, g4, g5, g6, g7, g8, g9⟩ := hR2
  unfold inR at *
  refine Mt.ofL (ls := [ar 48, ai i, ai v, none]) (by decide) (Nat.le_of_ble_eq_true rfl) rfl ?_
  dsimp only [Km, miX5_point]
  refine R_iload_n dX5_point_0 rfl rfl ?_
  refine R_iconst dX5_point_1 ?_
  refine R_bipush (z := 16) dX5_point_2 rfl ?_
  refine R_cS dX5_point_4 kRX5_60 vX5_in ⟨(Nat.le_of_ble_eq_true rfl), (Nat.le_of_ble_eq_true rfl)⟩ (b_in l G _ _ _ _) rfl ⟨(Nat.le_of_ble_eq_true rfl), (Nat.le_of_ble_eq_true rfl)⟩ rfl (Nat.le_of_ble_eq_true rfl) (fun r σ' hq hn' => ?_)
  obtain ⟨⟨b4, rfl, hb4⟩, rfl⟩ := hq
  try simp (discharger := omega) only [wr_id] at hb4
  refine R_if_ne (tgt := 13) dX5_point_7 (by decide) (fun c_7 => ?_) (fun c_7 => ?_)
  · first
    | (simp (discharger := omega) only [wr_id] at c_7; done)
    | (try simp (discharger := omega) only [wr_id] at c_7
       exfalso
       first | omega | exact c_7 trivial)
    | (try simp (discharger := omega) only [wr_id] at c_7
       refine R_iload_n dX5_point_13 rfl rfl ?_
       refine R_iconst dX5_point_14 ?_
       refine R_sipush (z := 4095) dX5_point_15 rfl ?_
       refine R_cS dX5_point_18 kRX5_60 vX5_in ⟨(Nat.le_of_ble_eq_true rfl), (Nat.le_of_ble_eq_true rfl)⟩ (b_in l G _ _ _ _) rfl ⟨(Nat.le_of_ble_eq_true rfl), (Nat.le_of_ble_eq_true rfl)⟩ rfl (Nat.le_of_ble_eq_true rfl) (fun r σ' hq hn' => ?_)
       obtain ⟨⟨b17, rfl, hb17⟩, rfl⟩ := hq
       try simp (discharger := omega) only [wr_id] at hb17
       refine R_if_ne (tgt := 27) dX5_point_21 (by decide) (fun c_21 => ?_) (fun c_21 => ?_)
       · first
         | (simp (discharger := omega) only [wr_id] at c_21; done)
         | (try simp (discharger := omega) only [wr_id] at c_21
            exfalso
            first | omega | exact c_21 trivial)
         | (try simp (discharger := omega) only [wr_id] at c_21
            refine R_aload_n dX5_point_27 rfl rfl ?_
            refine R_getA fRX5_33 dX5_point_28 rfl (Nat.lt_of_lt_of_le (Nat.le_of_ble_eq_true rfl) hnx) rfl ?_
            refine R_iload_n dX5_point_31 rfl rfl ?_
            refine R_iaload (k := i.toNat) dX5_point_32 rfl (Nat.lt_of_lt_of_le (Nat.le_of_ble_eq_true rfl) hnx) (by omega) (by omega) (by decide) ?_
            refine R_istore_n dX5_point_33 rfl (Nat.le_of_ble_eq_true rfl) ?_
            refine R_aload_n dX5_point_34 rfl rfl ?_
            refine R_getA fRX5_33 dX5_point_35 rfl (Nat.lt_of_lt_of_le (Nat.le_of_ble_eq_true rfl) hnx) rfl ?_
            refine R_iload_n dX5_point_38 rfl rfl ?_
            refine R_iload_n dX5_point_39 rfl rfl ?_
            refine R_iastore (k := i.toNat) dX5_point_40 rfl (Nat.lt_of_lt_of_le (Nat.le_of_ble_eq_true rfl) hnx) (by omega) (by omega) (by decide) ?_
            refine R_iload_n dX5_point_41 rfl rfl ?_
            refine R_iret dX5_point_42 rfl rfl rfl (Nat.le_refl _) ?_
            rw [o_point, if_pos (by omega), if_pos (by omega)]
            refine ⟨_, rfl, fun p hp => up2_ne _ _ _ (by omega), ?_, ?_⟩
            · show some (ai (I 54 i.toNat)) = _
              rw [g9 _ (by omega)]
            · refine ⟨by rw [up2_ne _ _ _ (by decide)]; exact g1, by rw [up2_ne _ _ _ (by decide)]; exact g2, fun k hk => by rw [up2_ne _ _ _ (by decide)]; exact g3 k hk, fun k hk => by rw [up2_ne _ _ _ (by decide)]; exact g4 k hk, by rw [up2_ne _ _ _ (by decide)]; exact g5, fun k hk => by rw [up2_ne _ _ _ (by decide)]; exact g6 k hk, fun k hk i hi => by rw [up2_ne _ _ _ (by decide)]; exact g7 k hk i hi, fun k hk => by rw [up2_ne _ _ _ (by decide)]; exact g8 k hk, fun k hk => ?_⟩
              rw [up2_self]
              show (if k = i.toNat then v else I 54 k) = if k = i.toNat then v else sP S k
              rw [g9 k hk])
       · first
         | (simp (discharger := omega) only [wr_id] at c_21; done)
         | (try simp (discharger := omega) only [wr_id] at c_21
            exfalso
            first | omega | exact c_21 trivial)
         | (try simp (discharger := omega) only [wr_id] at c_21
            refine R_bipush (z := (-102)) dX5_point_24 rfl ?_
            refine R_iret dX5_point_26 rfl rfl rfl (Nat.le_refl _) ?_
            rw [o_point, if_pos (by omega), if_neg (by omega)]
            exact ⟨I, rfl, fun _ _ => rfl, rfl, hR⟩))
  · first
    | (simp (discharger := omega) only [wr_id] at c_7; done)
    | (try simp (discharger := omega) only [wr_id] at c_7
       exfalso
       first | omega | exact c_7 trivial)
    | (try simp (discharger := omega) only [wr_id] at c_7
       refine R_bipush (z := (-101)) dX5_point_10 rfl ?_
       refine R_iret dX5_point_12 rfl rfl rfl (Nat.le_refl _) ?_
       rw [o_point, if_neg (by omega)]
       exact ⟨I, rfl, fun _ _ => rfl, rfl, hR⟩)
theorem m_undo (I : Nat → Nat → Int) (sw : Bool) (nx : Nat) (tl : Nat → Nat) (hnx : 63 ≤ nx) {S : Sp} (hR : RelM I S) (hO : OkS S) : Mt l G miX5_undo 0 0 [ar 48] (I, Rs sw, nx, tl) (QI sw nx tl (fun r I' => (∀ p, p < 48 → I' p = I p) ∧ r = some (ai (o_undo S).1) ∧ RelM I' (o_undo S).2)) := by
  have o5 := hO.2.2.2.2.1
  have hR2 := hR
  obtain ⟨g1, g2, g3, g4, g5, g6, g7, g8, g9⟩ := hR2
  refine Mt.ofL (ls := [ar 48]) (by decide) (Nat.le_of_ble_eq_true rfl) rfl ?_
  dsimp only [Km, miX5_undo]
  refine R_aload_n dX5_undo_0 rfl rfl ?_
  refine R_getI fRX5_64 dX5_undo_1 rfl (Nat.lt_of_lt_of_le (Nat.le_of_ble_eq_true rfl) hnx) ?_
  rw [show (I, Rs sw, nx, tl).1 48 4 = (sN S : Int) from g5]
  refine R_if_ne (tgt := 10) dX5_undo_4 (by decide) (fun c_4 => ?_) (fun c_4 => ?_)
  · first
    | (simp (discharger := omega) only [wr_id] at c_4; done)
    | (try simp (discharger := omega) only [wr_id] at c_4
       exfalso
       first | omega | exact c_4 trivial)
    | (try simp (discharger := omega) only [wr_id] at c_4
       refine R_aload_n dX5_undo_10 rfl rfl ?_
       first | refine R_dupA dX5_undo_11 ?_ | refine R_dupI dX5_undo_11 ?_
       refine R_getI fRX5_64 dX5_undo_12 rfl (Nat.lt_of_lt_of_le (Nat.le_of_ble_eq_true rfl) hnx) ?_
       refine R_iconst dX5_undo_15 ?_
       refine R_isub dX5_undo_16 ?_
       refine R_putI fRX5_64 dX5_undo_17 fp_5_4 (fv_5_4 _ _) rfl (Nat.lt_of_lt_of_le (Nat.le_of_ble_eq_true rfl) hnx) ?_
       refine R_aload_n dX5_undo_20 rfl rfl ?_
       refine R_getI fRX5_64 dX5_undo_21 rfl (Nat.lt_of_lt_of_le (Nat.le_of_ble_eq_true rfl) hnx) ?_
       refine R_iret dX5_undo_24 rfl rfl rfl (Nat.le_refl _) ?_
       rw [o_undo, if_neg (by omega)]
       refine ⟨_, rfl, fun p hp => up2_ne _ _ _ (by omega), ?_, ?_⟩
       · congr 2
         dsimp only
         rw [up2_self, g5]
         simp
         omega
       · refine ⟨by rw [up2_self]; exact g1, by rw [up2_self]; exact g2, fun k hk => by rw [up2_ne _ _ _ (by decide)]; exact g3 k hk, fun k hk => by rw [up2_ne _ _ _ (by decide)]; exact g4 k hk, ?_, fun k hk => by rw [up2_ne _ _ _ (by decide)]; exact g6 k (Nat.lt_of_lt_of_le hk (Nat.sub_le _ _)), fun k hk i hi => by rw [up2_ne _ _ _ (by decide)]; exact g7 k (Nat.lt_of_lt_of_le hk (Nat.sub_le _ _)) i hi, fun k hk => by rw [up2_ne _ _ _ (by decide)]; exact g8 k hk, fun k hk => by rw [up2_ne _ _ _ (by decide)]; exact g9 k hk⟩
         rw [up2_self]
         show I 48 4 - 1 = ((sN S - 1 : Nat) : Int)
         rw [g5]
         omega)
  · first
    | (simp (discharger := omega) only [wr_id] at c_4; done)
    | (try simp (discharger := omega) only [wr_id] at c_4
       exfalso
       first | omega | exact c_4 trivial)
    | (try simp (discharger := omega) only [wr_id] at c_4
       refine R_bipush (z := (-103)) dX5_undo_7 rfl ?_
       refine R_iret dX5_undo_9 rfl rfl rfl (Nat.le_refl _) ?_
       rw [o_undo, if_pos (by omega)]
       exact ⟨I, rfl, fun _ _ => rfl, rfl, hR⟩)
theorem m_kind (I : Nat → Nat → Int) (sw : Bool) (nx : Nat) (tl : Nat → Nat) (hnx : 63 ≤ nx) (k : Int) (rk : inR k) {S : Sp} (hR : RelM I S) (hO : OkS S) : Mt l G miX5_kind 0 0 [ar 48, ai k] (I, Rs sw, nx, tl) (fun r σ' => r = some (ai (o_kind S k)) ∧ σ' = (I, Rs sw, nx, tl)) := by
  have o5 := hO.2.2.2.2.1
  obtain ⟨g1, g2, g3, g4, g5, g6, g7, g8, g9⟩ := hR
  unfold inR at *
  refine Mt.ofL (ls := [ar 48, ai k]) (by decide) (Nat.le_of_ble_eq_true rfl) rfl ?_
  dsimp only [Km, miX5_kind]
  refine R_iload_n dX5_kind_0 rfl rfl ?_
  refine R_iconst dX5_kind_1 ?_
  refine R_aload_n dX5_kind_2 rfl rfl ?_
  refine R_getI fRX5_64 dX5_kind_3 rfl (Nat.lt_of_lt_of_le (Nat.le_of_ble_eq_true rfl) hnx) ?_
  refine R_iconst dX5_kind_6 ?_
  refine R_isub dX5_kind_7 ?_
  rw [show (I, Rs sw, nx, tl).1 48 4 = (sN S : Int) from g5]
  refine R_cS dX5_kind_8 kRX5_60 vX5_in ⟨(Nat.le_of_ble_eq_true rfl), (Nat.le_of_ble_eq_true rfl)⟩ (b_in l G _ _ _ _) rfl ⟨(Nat.le_of_ble_eq_true rfl), (Nat.le_of_ble_eq_true rfl)⟩ rfl (Nat.le_of_ble_eq_true rfl) (fun r σ' hq hn' => ?_)
  obtain ⟨⟨b8, rfl, hb8⟩, rfl⟩ := hq
  try simp (discharger := omega) only [wr_id] at hb8
  refine R_if_eq (tgt := 23) dX5_kind_11 (by decide) (fun c_11 => ?_) (fun c_11 => ?_)
  · first
    | (simp (discharger := omega) only [wr_id] at c_11; done)
    | (try simp (discharger := omega) only [wr_id] at c_11
       exfalso
       first | omega | exact c_11 trivial)
    | (try simp (discharger := omega) only [wr_id] at c_11
       refine R_iconst dX5_kind_23 ?_
       refine R_iret dX5_kind_24 rfl rfl rfl (Nat.le_refl _) ?_
       refine ⟨?_, rfl⟩
       congr 2
       first | (rw [o_kind, if_neg (by omega)]; done) | (rw [o_kind, if_pos (by omega)]; exact g6 _ (by omega)))
  · first
    | (simp (discharger := omega) only [wr_id] at c_11; done)
    | (try simp (discharger := omega) only [wr_id] at c_11
       exfalso
       first | omega | exact c_11 trivial)
    | (try simp (discharger := omega) only [wr_id] at c_11
       refine R_aload_n dX5_kind_14 rfl rfl ?_
       refine R_getA fRX5_24 dX5_kind_15 rfl (Nat.lt_of_lt_of_le (Nat.le_of_ble_eq_true rfl) hnx) rfl ?_
       refine R_iload_n dX5_kind_18 rfl rfl ?_
       refine R_iaload (k := k.toNat) dX5_kind_19 rfl (Nat.lt_of_lt_of_le (Nat.le_of_ble_eq_true rfl) hnx) (by omega) (by omega) (by decide) ?_
       refine R_goto (tgt := 24) dX5_kind_20 (by decide) ?_
       refine R_iret dX5_kind_24 rfl rfl rfl (Nat.le_refl _) ?_
       refine ⟨?_, rfl⟩
       congr 2
       first | (rw [o_kind, if_neg (by omega)]; done) | (rw [o_kind, if_pos (by omega)]; exact g6 _ (by omega)))
end MODEL1
