/-! the reference: one number of a stage -/
def ovx (w : Nat) : Int := if w = 0 then -2 else if w = 1 then 2 else 0
def ovy (w : Nat) : Int := if w = 2 then -2 else if w = 3 then 2 else 0
theorem ov_c {w : Nat} (h : w < 4) : (w = 0 ∧ ovx w = -2 ∧ ovy w = 0) ∨ (w = 1 ∧ ovx w = 2 ∧ ovy w = 0) ∨ (w = 2 ∧ ovx w = 0 ∧ ovy w = -2) ∨ (w = 3 ∧ ovx w = 0 ∧ ovy w = 2) := by
  rcases (show w = 0 ∨ w = 1 ∨ w = 2 ∨ w = 3 by omega) with rfl | rfl | rfl | rfl
  · exact Or.inl ⟨rfl, rfl, rfl⟩
  · exact Or.inr (Or.inl ⟨rfl, rfl, rfl⟩)
  · exact Or.inr (Or.inr (Or.inl ⟨rfl, rfl, rfl⟩))
  · exact Or.inr (Or.inr (Or.inr ⟨rfl, rfl, rfl⟩))
theorem nr_in {W H w x y : Nat} (hw : w < 4) (hx : x < W) (hy : y < H) (h : (0 ≤ (x : Int) + ovx w ∧ (x : Int) + ovx w < W) ∧ (0 ≤ (y : Int) + ovy w ∧ (y : Int) + ovy w < H)) : nr W H w x y = some (((x : Int) + ovx w).toNat, ((y : Int) + ovy w).toNat) := by
  rcases ov_c hw with ⟨rfl, e1, e2⟩ | ⟨rfl, e1, e2⟩ | ⟨rfl, e1, e2⟩ | ⟨rfl, e1, e2⟩ <;> rw [e1, e2] at h ⊢ <;> unfold nr
  · rw [if_pos rfl, if_pos (by omega)]
    congr 2 <;> omega
  · rw [if_neg (by omega), if_pos rfl, if_pos (by omega)]
    congr 2 <;> omega
  · rw [if_neg (by omega), if_neg (by omega), if_pos rfl, if_pos (by omega)]
    congr 2 <;> omega
  · rw [if_neg (by omega), if_neg (by omega), if_neg (by omega), if_pos (by omega)]
    congr 2 <;> omega
theorem nr_out {W H w x y : Nat} (hw : w < 4) (hx : x < W) (hy : y < H) (h : ¬ ((0 ≤ (x : Int) + ovx w ∧ (x : Int) + ovx w < W) ∧ (0 ≤ (y : Int) + ovy w ∧ (y : Int) + ovy w < H))) : nr W H w x y = none := by
  rcases ov_c hw with ⟨rfl, e1, e2⟩ | ⟨rfl, e1, e2⟩ | ⟨rfl, e1, e2⟩ | ⟨rfl, e1, e2⟩ <;> rw [e1, e2] at h <;> unfold nr
  · rw [if_pos rfl, if_neg (by omega)]
  · rw [if_neg (by omega), if_pos rfl, if_neg (by omega)]
  · rw [if_neg (by omega), if_neg (by omega), if_pos rfl, if_neg (by omega)]
  · rw [if_neg (by omega), if_neg (by omega), if_neg (by omega), if_neg (by omega)]
section MODEL4
variable (l : Launch) (G : GE)
theorem m_place (σ : Sg) (k x y p : Int) : Mt l G miX5_place 0 0 [ai k, ai x, ai y, ai p] σ (fun r σ' => r = some (ai (768 * k + 3 * (16 * y + x) + p)) ∧ σ' = σ) := by
  refine Mt.ofL (ls := [ai k, ai x, ai y, ai p]) (by decide) (Nat.le_of_ble_eq_true rfl) rfl ?_
  dsimp only [Km, miX5_place]
  refine R_sipush (z := 768) dX5_place_0 rfl ?_
  refine R_iload_n dX5_place_3 rfl rfl ?_
  refine R_imul dX5_place_4 ?_
  refine R_iconst dX5_place_5 ?_
  refine R_bipush (z := 16) dX5_place_6 rfl ?_
  refine R_iload_n dX5_place_8 rfl rfl ?_
  refine R_imul dX5_place_9 ?_
  refine R_iload_n dX5_place_10 rfl rfl ?_
  refine R_iadd dX5_place_11 ?_
  refine R_imul dX5_place_12 ?_
  refine R_iadd dX5_place_13 ?_
  refine R_iload_n dX5_place_14 rfl rfl ?_
  refine R_iadd dX5_place_15 ?_
  refine R_iret dX5_place_16 rfl rfl rfl (Nat.le_refl _) ?_
  exact ⟨rfl, rfl⟩
theorem m_colour (σ : Sg) (x y : Nat) (hx : x < 1000) (hy : y < 1000) : Mt l G miX5_colour 0 0 [ai x, ai y] σ (fun r σ' => r = some (ai (cl x y)) ∧ σ' = σ) := by
  have e1 : bRem x 2 = ((x % 2 : Nat) : Int) := bRemN (y := 2) (by omega) (by omega) (by omega)
  have e2 : bRem y 2 = ((y % 2 : Nat) : Int) := bRemN (y := 2) (by omega) (by omega) (by omega)
  refine Mt.ofL (ls := [ai x, ai y]) (by decide) (Nat.le_of_ble_eq_true rfl) rfl ?_
  dsimp only [Km, miX5_colour]
  refine R_iload_n dX5_colour_0 rfl rfl ?_
  refine R_iconst dX5_colour_1 ?_
  refine R_irem dX5_colour_2 (by decide) ?_
  rw [e1]
  refine R_if_ne (tgt := 16) dX5_colour_3 (by decide) (fun c_3 => ?_) (fun c_3 => ?_)
  · first
    | (simp (discharger := omega) only [wr_id] at c_3; done)
    | (try simp (discharger := omega) only [wr_id] at c_3
       exfalso
       first | omega | exact c_3 trivial)
    | (try simp (discharger := omega) only [wr_id] at c_3
       refine R_iload_n dX5_colour_16 rfl rfl ?_
       refine R_iconst dX5_colour_17 ?_
       refine R_irem dX5_colour_18 (by decide) ?_
       refine R_iconst dX5_colour_19 ?_
       rw [e1]
       refine R_icmp_ne (tgt := 34) dX5_colour_20 (by decide) (fun c_20 => ?_) (fun c_20 => ?_)
       · first
         | (simp (discharger := omega) only [wr_id] at c_20; done)
         | (try simp (discharger := omega) only [wr_id] at c_20
            exfalso
            first | omega | exact c_20 trivial)
         | (try simp (discharger := omega) only [wr_id] at c_20
            refine R_iconst dX5_colour_34 ?_
            refine R_iret dX5_colour_35 rfl rfl rfl (Nat.le_refl _) ?_
            exact ⟨sa (by unfold cl; omega), rfl⟩)
       · first
         | (simp (discharger := omega) only [wr_id] at c_20; done)
         | (try simp (discharger := omega) only [wr_id] at c_20
            exfalso
            first | omega | exact c_20 trivial)
         | (try simp (discharger := omega) only [wr_id] at c_20
            refine R_iload_n dX5_colour_23 rfl rfl ?_
            refine R_iconst dX5_colour_24 ?_
            refine R_irem dX5_colour_25 (by decide) ?_
            refine R_iconst dX5_colour_26 ?_
            rw [e2]
            refine R_icmp_ne (tgt := 34) dX5_colour_27 (by decide) (fun c_27 => ?_) (fun c_27 => ?_)
            · first
              | (simp (discharger := omega) only [wr_id] at c_27; done)
              | (try simp (discharger := omega) only [wr_id] at c_27
                 exfalso
                 first | omega | exact c_27 trivial)
              | (try simp (discharger := omega) only [wr_id] at c_27
                 refine R_iconst dX5_colour_34 ?_
                 refine R_iret dX5_colour_35 rfl rfl rfl (Nat.le_refl _) ?_
                 exact ⟨sa (by unfold cl; omega), rfl⟩)
            · first
              | (simp (discharger := omega) only [wr_id] at c_27; done)
              | (try simp (discharger := omega) only [wr_id] at c_27
                 exfalso
                 first | omega | exact c_27 trivial)
              | (try simp (discharger := omega) only [wr_id] at c_27
                 refine R_iconst dX5_colour_30 ?_
                 refine R_goto (tgt := 35) dX5_colour_31 (by decide) ?_
                 refine R_iret dX5_colour_35 rfl rfl rfl (Nat.le_refl _) ?_
                 exact ⟨sa (by unfold cl; omega), rfl⟩)))
  · first
    | (simp (discharger := omega) only [wr_id] at c_3; done)
    | (try simp (discharger := omega) only [wr_id] at c_3
       exfalso
       first | omega | exact c_3 trivial)
    | (try simp (discharger := omega) only [wr_id] at c_3
       refine R_iload_n dX5_colour_6 rfl rfl ?_
       refine R_iconst dX5_colour_7 ?_
       refine R_irem dX5_colour_8 (by decide) ?_
       rw [e2]
       refine R_if_ne (tgt := 16) dX5_colour_9 (by decide) (fun c_9 => ?_) (fun c_9 => ?_)
       · first
         | (simp (discharger := omega) only [wr_id] at c_9; done)
         | (try simp (discharger := omega) only [wr_id] at c_9
            exfalso
            first | omega | exact c_9 trivial)
         | (try simp (discharger := omega) only [wr_id] at c_9
            refine R_iload_n dX5_colour_16 rfl rfl ?_
            refine R_iconst dX5_colour_17 ?_
            refine R_irem dX5_colour_18 (by decide) ?_
            refine R_iconst dX5_colour_19 ?_
            rw [e1]
            refine R_icmp_ne (tgt := 34) dX5_colour_20 (by decide) (fun c_20 => ?_) (fun c_20 => ?_)
            · first
              | (simp (discharger := omega) only [wr_id] at c_20; done)
              | (try simp (discharger := omega) only [wr_id] at c_20
                 exfalso
                 first | omega | exact c_20 trivial)
              | (try simp (discharger := omega) only [wr_id] at c_20
                 refine R_iconst dX5_colour_34 ?_
                 refine R_iret dX5_colour_35 rfl rfl rfl (Nat.le_refl _) ?_
                 exact ⟨sa (by unfold cl; omega), rfl⟩)
            · first
              | (simp (discharger := omega) only [wr_id] at c_20; done)
              | (try simp (discharger := omega) only [wr_id] at c_20
                 exfalso
                 first | omega | exact c_20 trivial)
              | (try simp (discharger := omega) only [wr_id] at c_20
                 refine R_iload_n dX5_colour_23 rfl rfl ?_
                 refine R_iconst dX5_colour_24 ?_
                 refine R_irem dX5_colour_25 (by decide) ?_
                 refine R_iconst dX5_colour_26 ?_
                 rw [e2]
                 refine R_icmp_ne (tgt := 34) dX5_colour_27 (by decide) (fun c_27 => ?_) (fun c_27 => ?_)
                 · first
                   | (simp (discharger := omega) only [wr_id] at c_27; done)
                   | (try simp (discharger := omega) only [wr_id] at c_27
                      exfalso
                      first | omega | exact c_27 trivial)
                   | (try simp (discharger := omega) only [wr_id] at c_27
                      refine R_iconst dX5_colour_34 ?_
                      refine R_iret dX5_colour_35 rfl rfl rfl (Nat.le_refl _) ?_
                      exact ⟨sa (by unfold cl; omega), rfl⟩)
                 · first
                   | (simp (discharger := omega) only [wr_id] at c_27; done)
                   | (try simp (discharger := omega) only [wr_id] at c_27
                      exfalso
                      first | omega | exact c_27 trivial)
                   | (try simp (discharger := omega) only [wr_id] at c_27
                      refine R_iconst dX5_colour_30 ?_
                      refine R_goto (tgt := 35) dX5_colour_31 (by decide) ?_
                      refine R_iret dX5_colour_35 rfl rfl rfl (Nat.le_refl _) ?_
                      exact ⟨sa (by unfold cl; omega), rfl⟩)))
       · first
         | (simp (discharger := omega) only [wr_id] at c_9; done)
         | (try simp (discharger := omega) only [wr_id] at c_9
            exfalso
            first | omega | exact c_9 trivial)
         | (try simp (discharger := omega) only [wr_id] at c_9
            refine R_iconst dX5_colour_12 ?_
            refine R_goto (tgt := 35) dX5_colour_13 (by decide) ?_
            refine R_iret dX5_colour_35 rfl rfl rfl (Nat.le_refl _) ?_
            exact ⟨sa (by unfold cl; omega), rfl⟩))
theorem m_overX (σ : Sg) (w : Nat) (hw : w < 4) : Mt l G miX5_overX 0 0 [ai w] σ (fun r σ' => r = some (ai (ovx w)) ∧ σ' = σ) := by
  have hv := ov_c hw
  refine Mt.ofL (ls := [ai w]) (by decide) (Nat.le_of_ble_eq_true rfl) rfl ?_
  dsimp only [Km, miX5_overX]
  refine R_iload_n dX5_overX_0 rfl rfl ?_
  refine R_if_ne (tgt := 9) dX5_overX_1 (by decide) (fun c_1 => ?_) (fun c_1 => ?_)
  · first
    | (simp (discharger := omega) only [wr_id] at c_1; done)
    | (try simp (discharger := omega) only [wr_id] at c_1
       exfalso
       first | omega | exact c_1 trivial)
    | (try simp (discharger := omega) only [wr_id] at c_1
       refine R_iload_n dX5_overX_9 rfl rfl ?_
       refine R_iconst dX5_overX_10 ?_
       refine R_icmp_ne (tgt := 18) dX5_overX_11 (by decide) (fun c_11 => ?_) (fun c_11 => ?_)
       · first
         | (simp (discharger := omega) only [wr_id] at c_11; done)
         | (try simp (discharger := omega) only [wr_id] at c_11
            exfalso
            first | omega | exact c_11 trivial)
         | (try simp (discharger := omega) only [wr_id] at c_11
            refine R_iconst dX5_overX_18 ?_
            refine R_iret dX5_overX_19 rfl rfl rfl (Nat.le_refl _) ?_
            exact ⟨sa (by omega), rfl⟩)
       · first
         | (simp (discharger := omega) only [wr_id] at c_11; done)
         | (try simp (discharger := omega) only [wr_id] at c_11
            exfalso
            first | omega | exact c_11 trivial)
         | (try simp (discharger := omega) only [wr_id] at c_11
            refine R_iconst dX5_overX_14 ?_
            refine R_goto (tgt := 19) dX5_overX_15 (by decide) ?_
            refine R_iret dX5_overX_19 rfl rfl rfl (Nat.le_refl _) ?_
            exact ⟨sa (by omega), rfl⟩))
  · first
    | (simp (discharger := omega) only [wr_id] at c_1; done)
    | (try simp (discharger := omega) only [wr_id] at c_1
       exfalso
       first | omega | exact c_1 trivial)
    | (try simp (discharger := omega) only [wr_id] at c_1
       refine R_bipush (z := (-2)) dX5_overX_4 rfl ?_
       refine R_goto (tgt := 19) dX5_overX_6 (by decide) ?_
       refine R_iret dX5_overX_19 rfl rfl rfl (Nat.le_refl _) ?_
       exact ⟨sa (by omega), rfl⟩)
theorem m_overY (σ : Sg) (w : Nat) (hw : w < 4) : Mt l G miX5_overY 0 0 [ai w] σ (fun r σ' => r = some (ai (ovy w)) ∧ σ' = σ) := by
  have hv := ov_c hw
  refine Mt.ofL (ls := [ai w]) (by decide) (Nat.le_of_ble_eq_true rfl) rfl ?_
  dsimp only [Km, miX5_overY]
  refine R_iload_n dX5_overY_0 rfl rfl ?_
  refine R_iconst dX5_overY_1 ?_
  refine R_icmp_ne (tgt := 10) dX5_overY_2 (by decide) (fun c_2 => ?_) (fun c_2 => ?_)
  · first
    | (simp (discharger := omega) only [wr_id] at c_2; done)
    | (try simp (discharger := omega) only [wr_id] at c_2
       exfalso
       first | omega | exact c_2 trivial)
    | (try simp (discharger := omega) only [wr_id] at c_2
       refine R_iload_n dX5_overY_10 rfl rfl ?_
       refine R_iconst dX5_overY_11 ?_
       refine R_icmp_ne (tgt := 19) dX5_overY_12 (by decide) (fun c_12 => ?_) (fun c_12 => ?_)
       · first
         | (simp (discharger := omega) only [wr_id] at c_12; done)
         | (try simp (discharger := omega) only [wr_id] at c_12
            exfalso
            first | omega | exact c_12 trivial)
         | (try simp (discharger := omega) only [wr_id] at c_12
            refine R_iconst dX5_overY_19 ?_
            refine R_iret dX5_overY_20 rfl rfl rfl (Nat.le_refl _) ?_
            exact ⟨sa (by omega), rfl⟩)
       · first
         | (simp (discharger := omega) only [wr_id] at c_12; done)
         | (try simp (discharger := omega) only [wr_id] at c_12
            exfalso
            first | omega | exact c_12 trivial)
         | (try simp (discharger := omega) only [wr_id] at c_12
            refine R_iconst dX5_overY_15 ?_
            refine R_goto (tgt := 20) dX5_overY_16 (by decide) ?_
            refine R_iret dX5_overY_20 rfl rfl rfl (Nat.le_refl _) ?_
            exact ⟨sa (by omega), rfl⟩))
  · first
    | (simp (discharger := omega) only [wr_id] at c_2; done)
    | (try simp (discharger := omega) only [wr_id] at c_2
       exfalso
       first | omega | exact c_2 trivial)
    | (try simp (discharger := omega) only [wr_id] at c_2
       refine R_bipush (z := (-2)) dX5_overY_5 rfl ?_
       refine R_goto (tgt := 20) dX5_overY_7 (by decide) ?_
       refine R_iret dX5_overY_20 rfl rfl rfl (Nat.le_refl _) ?_
       exact ⟨sa (by omega), rfl⟩)
theorem m_isPlace (I : Nat → Nat → Int) (sw : Bool) (nx : Nat) (tl : Nat → Nat) (hnx : 63 ≤ nx) (k : Nat) (a b : Int) (ra : inR a) (rb : inR b) {S : Sp} (hk : k ≤ sN S) (hO : OkS S) (hM : Ms I S (sN S)) : Mt l G miX5_isPlace 0 0 [ar 48, ai k, ai a, ai b] (I, Rs sw, nx, tl) (fun r σ' => (∃ z : Int, r = some (ai z) ∧ ((z = 1 ∧ ((0 ≤ a ∧ a < fW S k) ∧ (0 ≤ b ∧ b < fH S k))) ∨ (z = 0 ∧ ¬ ((0 ≤ a ∧ a < fW S k) ∧ (0 ≤ b ∧ b < fH S k))))) ∧ σ' = (I, Rs sw, nx, tl)) := by
  have o5 := hO.2.2.2.2.1
  obtain ⟨q1, q2, -⟩ := hM k hk
  have r1 := (f_rng hO k hk).1
  have r2 := (f_rng hO k hk).2.1
  unfold inR at *
  refine Mt.ofL (ls := [ar 48, ai k, ai a, ai b]) (by decide) (Nat.le_of_ble_eq_true rfl) rfl ?_
  dsimp only [Km, miX5_isPlace]
  refine R_iload_n dX5_isPlace_0 rfl rfl ?_
  refine R_iconst dX5_isPlace_1 ?_
  refine R_aload_n dX5_isPlace_2 rfl rfl ?_
  refine R_getA fRX5_36 dX5_isPlace_3 rfl (Nat.lt_of_lt_of_le (Nat.le_of_ble_eq_true rfl) hnx) rfl ?_
  refine R_iload_n dX5_isPlace_6 rfl rfl ?_
  refine R_iaload (k := k) dX5_isPlace_7 rfl (Nat.lt_of_lt_of_le (Nat.le_of_ble_eq_true rfl) hnx) (by omega) (by omega) (by decide) ?_
  refine R_iconst dX5_isPlace_8 ?_
  refine R_isub dX5_isPlace_9 ?_
  rw [show (I, Rs sw, nx, tl).1 55 k = (fW S k : Int) from q1]
  refine R_cS dX5_isPlace_10 kRX5_60 vX5_in ⟨(Nat.le_of_ble_eq_true rfl), (Nat.le_of_ble_eq_true rfl)⟩ (b_in l G _ _ _ _) rfl ⟨(Nat.le_of_ble_eq_true rfl), (Nat.le_of_ble_eq_true rfl)⟩ rfl (Nat.le_of_ble_eq_true rfl) (fun r σ' hq hn' => ?_)
  obtain ⟨⟨b8, rfl, hb8⟩, rfl⟩ := hq
  try simp (discharger := omega) only [wr_id] at hb8
  refine R_if_eq (tgt := 36) dX5_isPlace_13 (by decide) (fun c_13 => ?_) (fun c_13 => ?_)
  · first
    | (simp (discharger := omega) only [wr_id] at c_13; done)
    | (try simp (discharger := omega) only [wr_id] at c_13
       exfalso
       first | omega | exact c_13 trivial)
    | (try simp (discharger := omega) only [wr_id] at c_13
       refine R_iconst dX5_isPlace_36 ?_
       refine R_zret dX5_isPlace_37 rfl rfl (by first | exact Or.inl rfl | exact Or.inr rfl | omega) rfl (Nat.le_refl _) ?_
       exact ⟨⟨_, rfl, by first | exact Or.inl ⟨rfl, by omega⟩ | exact Or.inr ⟨rfl, by omega⟩⟩, rfl⟩)
  · first
    | (simp (discharger := omega) only [wr_id] at c_13; done)
    | (try simp (discharger := omega) only [wr_id] at c_13
       exfalso
       first | omega | exact c_13 trivial)
    | (try simp (discharger := omega) only [wr_id] at c_13
       refine R_iload_n dX5_isPlace_16 rfl rfl ?_
       refine R_iconst dX5_isPlace_17 ?_
       refine R_aload_n dX5_isPlace_18 rfl rfl ?_
       refine R_getA fRX5_39 dX5_isPlace_19 rfl (Nat.lt_of_lt_of_le (Nat.le_of_ble_eq_true rfl) hnx) rfl ?_
       refine R_iload_n dX5_isPlace_22 rfl rfl ?_
       refine R_iaload (k := k) dX5_isPlace_23 rfl (Nat.lt_of_lt_of_le (Nat.le_of_ble_eq_true rfl) hnx) (by omega) (by omega) (by decide) ?_
       refine R_iconst dX5_isPlace_24 ?_
       refine R_isub dX5_isPlace_25 ?_
       rw [show (I, Rs sw, nx, tl).1 56 k = (fH S k : Int) from q2]
       refine R_cS dX5_isPlace_26 kRX5_60 vX5_in ⟨(Nat.le_of_ble_eq_true rfl), (Nat.le_of_ble_eq_true rfl)⟩ (b_in l G _ _ _ _) rfl ⟨(Nat.le_of_ble_eq_true rfl), (Nat.le_of_ble_eq_true rfl)⟩ rfl (Nat.le_of_ble_eq_true rfl) (fun r σ' hq hn' => ?_)
       obtain ⟨⟨b22, rfl, hb22⟩, rfl⟩ := hq
       try simp (discharger := omega) only [wr_id] at hb22
       refine R_if_eq (tgt := 36) dX5_isPlace_29 (by decide) (fun c_29 => ?_) (fun c_29 => ?_)
       · first
         | (simp (discharger := omega) only [wr_id] at c_29; done)
         | (try simp (discharger := omega) only [wr_id] at c_29
            exfalso
            first | omega | exact c_29 trivial)
         | (try simp (discharger := omega) only [wr_id] at c_29
            refine R_iconst dX5_isPlace_36 ?_
            refine R_zret dX5_isPlace_37 rfl rfl (by first | exact Or.inl rfl | exact Or.inr rfl | omega) rfl (Nat.le_refl _) ?_
            exact ⟨⟨_, rfl, by first | exact Or.inl ⟨rfl, by omega⟩ | exact Or.inr ⟨rfl, by omega⟩⟩, rfl⟩)
       · first
         | (simp (discharger := omega) only [wr_id] at c_29; done)
         | (try simp (discharger := omega) only [wr_id] at c_29
            exfalso
            first | omega | exact c_29 trivial)
         | (try simp (discharger := omega) only [wr_id] at c_29
            refine R_iconst dX5_isPlace_32 ?_
            refine R_goto (tgt := 37) dX5_isPlace_33 (by decide) ?_
            refine R_zret dX5_isPlace_37 rfl rfl (by first | exact Or.inl rfl | exact Or.inr rfl | omega) rfl (Nat.le_refl _) ?_
            exact ⟨⟨_, rfl, by first | exact Or.inl ⟨rfl, by omega⟩ | exact Or.inr ⟨rfl, by omega⟩⟩, rfl⟩))
/-- the picture of stage k stands -/
def PicK (I : Nat → Nat → Int) (S : Sp) (k : Nat) : Prop := ∀ x y p, x < fW S k → y < fH S k → p < fP S k → I 60 (768 * k + 3 * (16 * y + x) + p) = pic S k x y p
theorem nS_rng {W H : Nat} {d : Nat → Int} {F : Nat → Nat → Nat → Int} {x y : Nat} (hF : ∀ a b, a < W → b < H → 0 ≤ F a b 0 ∧ F a b 0 ≤ 4095) (hx : x < W) (hy : y < H) : ∀ w, w ≤ 4 → (0 ≤ nS W H d F x y w ∧ nS W H d F x y w ≤ 4095 * w) ∧ nM W H d x y w ≤ w
  | 0, _ => ⟨⟨Int.le_refl 0, Int.le_refl 0⟩, Nat.le_refl 0⟩
  | w + 1, h => by
    have ih := nS_rng (d := d) hF hx hy w (by omega)
    by_cases hi : (0 ≤ (x : Int) + ovx w ∧ (x : Int) + ovx w < W) ∧ (0 ≤ (y : Int) + ovy w ∧ (y : Int) + ovy w < H)
    · have e := nr_in (by omega) hx hy hi
      have := hF ((x : Int) + ovx w).toNat ((y : Int) + ovy w).toNat (by omega) (by omega)
      simp only [nS, nM, e]
      split <;> omega
    · have e := nr_out (by omega) hx hy hi
      simp only [nS, nM, e]
      omega
theorem lp_mended (I : Nat → Nat → Int) (sw : Bool) (nx : Nat) (tl : Nat → Nat) (hnx : 63 ≤ nx) (Q : Option AV → Sg → Prop) (k x y : Nat) (own : Int) {S : Sp} (hR : RelM I S) (hO : OkS S) (hM : Ms I S (sN S)) (hP : PicK I S k) (hk : k < sN S) (hx : x < fW S k) (hy : y < fH S k) (hp : 1 ≤ fP S k)
    (hQ : ∀ A B : AV, Rr l G (Km G miX5_mended 0 0 nx Q) 0 0 120 [ar 48, ai k, ai x, ai y, ai own, ai (nS (fW S k) (fH S k) (sD S) (pic S k) x y 4), ai (nM (fW S k) (fH S k) (sD S) x y 4), ai 4, A, B] [] (I, Rs sw, nx, tl)) :
    ∀ (n w : Nat) (A B : AV), 4 - w < n → w ≤ 4 → Rr l G (Km G miX5_mended 0 0 nx Q) 0 0 40 [ar 48, ai k, ai x, ai y, ai own, ai (nS (fW S k) (fH S k) (sD S) (pic S k) x y w), ai (nM (fW S k) (fH S k) (sD S) x y w), ai w, A, B] [] (I, Rs sw, nx, tl) := by
  have o5 := hO.2.2.2.2.1
  obtain ⟨g1, g2, g3, g4, g5, g6, g7, g8, g9⟩ := id hR
  have r1 := (f_rng hO k (by omega)).1
  have r2 := (f_rng hO k (by omega)).2.1
  intro n
  induction n with
  | zero => intro w A B h; omega
  | succ n ih =>
    intro w A B hn hw
    dsimp only [Km, miX5_mended] at *
    refine R_iload dX5_mended_40 rfl ?_
    refine R_iconst dX5_mended_42 ?_
    refine R_icmp_ge (tgt := 120) dX5_mended_43 (by decide) (fun c_43 => ?_) (fun c_43 => ?_)
    · first
      | (simp (discharger := omega) only [wr_id] at c_43; done)
      | (try simp (discharger := omega) only [wr_id] at c_43
         exfalso
         first | omega | exact c_43 trivial)
      | (try simp (discharger := omega) only [wr_id] at c_43
         have e : w = 4 := by omega
         subst e
         exact hQ A B)
    · first
      | (simp (discharger := omega) only [wr_id] at c_43; done)
      | (try simp (discharger := omega) only [wr_id] at c_43
         exfalso
         first | omega | exact c_43 trivial)
      | (try simp (discharger := omega) only [wr_id] at c_43
         have hv := ov_c (w := w) (by omega)
         have ih2 : ∀ (s m : Int) (A B : AV), s = nS (fW S k) (fH S k) (sD S) (pic S k) x y (w + 1) → m = nM (fW S k) (fH S k) (sD S) x y (w + 1) → _ := fun s m A B hs hm => by
           have := ih (w + 1) A B (by omega) (by omega)
           rw [← hs, ← hm] at this
           exact this
         refine R_iload_n dX5_mended_46 rfl rfl ?_
         refine R_iload dX5_mended_47 rfl ?_
         refine R_cS dX5_mended_49 kRX5_89 vX5_overX ⟨(Nat.le_of_ble_eq_true rfl), (Nat.le_of_ble_eq_true rfl)⟩ (m_overX l G _ w (by omega)) rfl ⟨(Nat.le_of_ble_eq_true rfl), (Nat.le_of_ble_eq_true rfl)⟩ rfl (Nat.le_of_ble_eq_true rfl) (fun r σ' hq hn' => ?_)
         obtain ⟨rfl, rfl⟩ := hq
         refine R_iadd dX5_mended_52 ?_
         refine R_istore dX5_mended_53 (Nat.le_of_ble_eq_true rfl) ?_
         refine R_iload_n dX5_mended_55 rfl rfl ?_
         refine R_iload dX5_mended_56 rfl ?_
         refine R_cS dX5_mended_58 kRX5_92 vX5_overY ⟨(Nat.le_of_ble_eq_true rfl), (Nat.le_of_ble_eq_true rfl)⟩ (m_overY l G _ w (by omega)) rfl ⟨(Nat.le_of_ble_eq_true rfl), (Nat.le_of_ble_eq_true rfl)⟩ rfl (Nat.le_of_ble_eq_true rfl) (fun r σ' hq hn' => ?_)
         obtain ⟨rfl, rfl⟩ := hq
         refine R_iadd dX5_mended_61 ?_
         refine R_istore dX5_mended_62 (Nat.le_of_ble_eq_true rfl) ?_
         refine R_aload_n dX5_mended_64 rfl rfl ?_
         refine R_iload_n dX5_mended_65 rfl rfl ?_
         refine R_iload dX5_mended_66 rfl ?_
         refine R_iload dX5_mended_68 rfl ?_
         refine R_cV dX5_mended_70 kRX5_95 vX5_isPlace ⟨(Nat.le_of_ble_eq_true rfl), (Nat.le_of_ble_eq_true rfl)⟩ (m_isPlace l G I sw nx tl hnx k _ _ ⟨by omega, by omega⟩ ⟨by omega, by omega⟩ (by omega) hO hM) rfl ⟨(Nat.le_of_ble_eq_true rfl), (Nat.le_of_ble_eq_true rfl)⟩ rfl (Nat.lt_of_lt_of_le (Nat.le_of_ble_eq_true rfl) hnx) rfl rfl (Nat.le_of_ble_eq_true rfl) (fun r σ' hq hn' => ?_)
         obtain ⟨⟨b8, rfl, hb8⟩, rfl⟩ := hq
         refine R_if_eq (tgt := 114) dX5_mended_73 (by decide) (fun c_73 => ?_) (fun c_73 => ?_)
         · first
           | (simp (discharger := omega) only [wr_id] at c_73; done)
           | (try simp (discharger := omega) only [wr_id] at c_73
              exfalso
              first | omega | exact c_73 trivial)
           | (try simp (discharger := omega) only [wr_id] at c_73
              have e := nr_out (W := fW S k) (H := fH S k) (w := w) (by omega) hx hy (by omega)
              refine R_iinc dX5_mended_114 rfl (Nat.le_of_ble_eq_true rfl) ?_
              refine R_goto (tgt := 40) dX5_mended_117 (by decide) ?_
              refine ih2 _ _ _ _ ?_ ?_
              · first | (simp only [nS, e]; done) | (simp only [nS, e]; rw [if_pos (by omega)]; done) | (simp only [nS, e]; rw [if_neg (by omega)]; done)
              · first | (simp only [nM, e]; done) | (simp only [nM, e]; rw [if_pos (by omega)]; rfl) | (simp only [nM, e]; rw [if_neg (by omega)]; done))
         · first
           | (simp (discharger := omega) only [wr_id] at c_73; done)
           | (try simp (discharger := omega) only [wr_id] at c_73
              exfalso
              first | omega | exact c_73 trivial)
           | (try simp (discharger := omega) only [wr_id] at c_73
              have hin : (0 ≤ (x : Int) + ovx w ∧ (x : Int) + ovx w < fW S k) ∧ (0 ≤ (y : Int) + ovy w ∧ (y : Int) + ovy w < fH S k) := by omega
              have e := nr_in (W := fW S k) (H := fH S k) (w := w) (by omega) hx hy hin
              have hd := hO.2.2.2.1 (16 * ((y : Int) + ovy w).toNat + ((x : Int) + ovx w).toNat) (by omega)
              have e4 := g4 (16 * ((y : Int) + ovy w).toNat + ((x : Int) + ovx w).toNat) (by omega)
              refine R_aload_n dX5_mended_76 rfl rfl ?_
              refine R_getA fRX5_20 dX5_mended_77 rfl (Nat.lt_of_lt_of_le (Nat.le_of_ble_eq_true rfl) hnx) rfl ?_
              refine R_bipush (z := 16) dX5_mended_80 rfl ?_
              refine R_iload dX5_mended_82 rfl ?_
              refine R_imul dX5_mended_84 ?_
              refine R_iload dX5_mended_85 rfl ?_
              refine R_iadd dX5_mended_87 ?_
              refine R_baload (k := 16 * ((y : Int) + ovy w).toNat + ((x : Int) + ovx w).toNat) dX5_mended_88 rfl (Nat.lt_of_lt_of_le (Nat.le_of_ble_eq_true rfl) hnx) (by omega) (by omega) (by decide) ?_
              rw [show (I, Rs sw, nx, tl).1 50 (16 * ((y : Int) + ovy w).toNat + ((x : Int) + ovx w).toNat) = sD S (16 * ((y : Int) + ovy w).toNat + ((x : Int) + ovx w).toNat) from e4]
              refine R_if_ne (tgt := 114) dX5_mended_89 (by decide) (fun c_89 => ?_) (fun c_89 => ?_)
              · first
                | (simp (discharger := omega) only [wr_id] at c_89; done)
                | (try simp (discharger := omega) only [wr_id] at c_89
                   exfalso
                   first | omega | exact c_89 trivial)
                | (try simp (discharger := omega) only [wr_id] at c_89
                   refine R_iinc dX5_mended_114 rfl (Nat.le_of_ble_eq_true rfl) ?_
                   refine R_goto (tgt := 40) dX5_mended_117 (by decide) ?_
                   refine ih2 _ _ _ _ ?_ ?_
                   · first | (simp only [nS, e]; done) | (simp only [nS, e]; rw [if_pos (by omega)]; done) | (simp only [nS, e]; rw [if_neg (by omega)]; done)
                   · first | (simp only [nM, e]; done) | (simp only [nM, e]; rw [if_pos (by omega)]; rfl) | (simp only [nM, e]; rw [if_neg (by omega)]; done))
              · first
                | (simp (discharger := omega) only [wr_id] at c_89; done)
                | (try simp (discharger := omega) only [wr_id] at c_89
                   exfalso
                   first | omega | exact c_89 trivial)
                | (try simp (discharger := omega) only [wr_id] at c_89
                   refine R_iload dX5_mended_92 rfl ?_
                   refine R_aload_n dX5_mended_94 rfl rfl ?_
                   refine R_getA fRX5_51 dX5_mended_95 rfl (Nat.lt_of_lt_of_le (Nat.le_of_ble_eq_true rfl) hnx) rfl ?_
                   refine R_iload_n dX5_mended_98 rfl rfl ?_
                   refine R_iload dX5_mended_99 rfl ?_
                   refine R_iload dX5_mended_101 rfl ?_
                   refine R_iconst dX5_mended_103 ?_
                   refine R_cS dX5_mended_104 kRX5_85 vX5_place ⟨(Nat.le_of_ble_eq_true rfl), (Nat.le_of_ble_eq_true rfl)⟩ (m_place l G _ _ _ _ _) rfl ⟨(Nat.le_of_ble_eq_true rfl), (Nat.le_of_ble_eq_true rfl)⟩ rfl (Nat.le_of_ble_eq_true rfl) (fun r σ' hq hn' => ?_)
                   obtain ⟨rfl, rfl⟩ := hq
                   refine R_iaload (k := 768 * k + 3 * (16 * ((y : Int) + ovy w).toNat + ((x : Int) + ovx w).toNat) + 0) dX5_mended_107 rfl (Nat.lt_of_lt_of_le (Nat.le_of_ble_eq_true rfl) hnx) (by omega) (by omega) (by decide) ?_
                   rw [show (I, Rs sw, nx, tl).1 60 (768 * k + 3 * (16 * ((y : Int) + ovy w).toNat + ((x : Int) + ovx w).toNat) + 0) = pic S k ((x : Int) + ovx w).toNat ((y : Int) + ovy w).toNat 0 from hP _ _ _ (by omega) (by omega) (by omega)]
                   refine R_iadd dX5_mended_108 ?_
                   refine R_istore dX5_mended_109 (Nat.le_of_ble_eq_true rfl) ?_
                   refine R_iinc dX5_mended_111 rfl (Nat.le_of_ble_eq_true rfl) ?_
                   refine R_iinc dX5_mended_114 rfl (Nat.le_of_ble_eq_true rfl) ?_
                   refine R_goto (tgt := 40) dX5_mended_117 (by decide) ?_
                   refine ih2 _ _ _ _ ?_ ?_
                   · first | (simp only [nS, e]; done) | (simp only [nS, e]; rw [if_pos (by omega)]; done) | (simp only [nS, e]; rw [if_neg (by omega)]; done)
                   · first | (simp only [nM, e]; done) | (simp only [nM, e]; rw [if_pos (by omega)]; rfl) | (simp only [nM, e]; rw [if_neg (by omega)]; done))))
theorem m_mended (I : Nat → Nat → Int) (sw : Bool) (nx : Nat) (tl : Nat → Nat) (hnx : 63 ≤ nx) (k x y : Nat) {S : Sp} (hR : RelM I S) (hO : OkS S) (hM : Ms I S (sN S)) (hP : PicK I S k) (hk : k < sN S) (hx : x < fW S k) (hy : y < fH S k) : Mt l G miX5_mended 0 0 [ar 48, ai k, ai x, ai y] (I, Rs sw, nx, tl) (fun r σ' => r = some (ai (if sD S (16 * y + x) = 0 then pic S k x y 0 else if nM (fW S k) (fH S k) (sD S) x y 4 = 0 then pic S k x y 0 else nS (fW S k) (fH S k) (sD S) (pic S k) x y 4 / nM (fW S k) (fH S k) (sD S) x y 4)) ∧ σ' = (I, Rs sw, nx, tl)) := by
  have o5 := hO.2.2.2.2.1
  obtain ⟨g1, g2, g3, g4, g5, g6, g7, g8, g9⟩ := id hR
  have r1 := (f_rng hO k (by omega)).1
  have r2 := (f_rng hO k (by omega)).2.1
  have hp : 1 ≤ fP S k := by rcases fP_13 S k with h | h <;> omega
  have hF : ∀ a b, a < fW S k → b < fH S k → 0 ≤ pic S k a b 0 ∧ pic S k a b 0 ≤ 4095 := fun a b ha hb => pic_rng hO k 0 (by omega) (by omega)
  have hd := hO.2.2.2.1 (16 * y + x) (by omega)
  have rg := nS_rng (d := sD S) hF hx hy 4 (by omega)
  refine Mt.ofL (ls := [ar 48, ai k, ai x, ai y, none, none, none, none, none, none]) (by decide) (Nat.le_of_ble_eq_true rfl) rfl ?_
  dsimp only [Km, miX5_mended]
  refine R_aload_n dX5_mended_0 rfl rfl ?_
  refine R_getA fRX5_51 dX5_mended_1 rfl (Nat.lt_of_lt_of_le (Nat.le_of_ble_eq_true rfl) hnx) rfl ?_
  refine R_iload_n dX5_mended_4 rfl rfl ?_
  refine R_iload_n dX5_mended_5 rfl rfl ?_
  refine R_iload_n dX5_mended_6 rfl rfl ?_
  refine R_iconst dX5_mended_7 ?_
  refine R_cS dX5_mended_8 kRX5_85 vX5_place ⟨(Nat.le_of_ble_eq_true rfl), (Nat.le_of_ble_eq_true rfl)⟩ (m_place l G _ _ _ _ _) rfl ⟨(Nat.le_of_ble_eq_true rfl), (Nat.le_of_ble_eq_true rfl)⟩ rfl (Nat.le_of_ble_eq_true rfl) (fun r σ' hq hn' => ?_)
  obtain ⟨rfl, rfl⟩ := hq
  refine R_iaload (k := 768 * k + 3 * (16 * y + x) + 0) dX5_mended_11 rfl (Nat.lt_of_lt_of_le (Nat.le_of_ble_eq_true rfl) hnx) (by omega) (by omega) (by decide) ?_
  rw [show (I, Rs sw, nx, tl).1 60 (768 * k + 3 * (16 * y + x) + 0) = pic S k x y 0 from hP x y 0 hx hy (by omega)]
  refine R_istore dX5_mended_12 (Nat.le_of_ble_eq_true rfl) ?_
  refine R_aload_n dX5_mended_14 rfl rfl ?_
  refine R_getA fRX5_20 dX5_mended_15 rfl (Nat.lt_of_lt_of_le (Nat.le_of_ble_eq_true rfl) hnx) rfl ?_
  refine R_bipush (z := 16) dX5_mended_18 rfl ?_
  refine R_iload_n dX5_mended_20 rfl rfl ?_
  refine R_imul dX5_mended_21 ?_
  refine R_iload_n dX5_mended_22 rfl rfl ?_
  refine R_iadd dX5_mended_23 ?_
  refine R_baload (k := 16 * y + x) dX5_mended_24 rfl (Nat.lt_of_lt_of_le (Nat.le_of_ble_eq_true rfl) hnx) (by omega) (by omega) (by decide) ?_
  rw [show (I, Rs sw, nx, tl).1 50 (16 * y + x) = sD S (16 * y + x) from g4 _ (by omega)]
  refine R_if_ne (tgt := 31) dX5_mended_25 (by decide) (fun c_25 => ?_) (fun c_25 => ?_)
  · first
    | (simp (discharger := omega) only [wr_id] at c_25; done)
    | (try simp (discharger := omega) only [wr_id] at c_25
       exfalso
       first | omega | exact c_25 trivial)
    | (try simp (discharger := omega) only [wr_id] at c_25
       refine R_iconst dX5_mended_31 ?_
       refine R_istore dX5_mended_32 (Nat.le_of_ble_eq_true rfl) ?_
       refine R_iconst dX5_mended_34 ?_
       refine R_istore dX5_mended_35 (Nat.le_of_ble_eq_true rfl) ?_
       refine R_iconst dX5_mended_37 ?_
       refine R_istore dX5_mended_38 (Nat.le_of_ble_eq_true rfl) ?_
       refine lp_mended l G I sw nx tl hnx _ k x y _ hR hO hM hP hk hx hy hp (fun A B => ?_) 5 0 none none (by omega) (by omega)
       dsimp only [Km, miX5_mended]
       refine R_iload dX5_mended_120 rfl ?_
       refine R_if_ne (tgt := 130) dX5_mended_122 (by decide) (fun c_122 => ?_) (fun c_122 => ?_)
       · first
         | (simp (discharger := omega) only [wr_id] at c_122; done)
         | (try simp (discharger := omega) only [wr_id] at c_122
            exfalso
            first | omega | exact c_122 trivial)
         | (try simp (discharger := omega) only [wr_id] at c_122
            refine R_iload dX5_mended_130 rfl ?_
            refine R_iload dX5_mended_132 rfl ?_
            refine R_idiv dX5_mended_134 (by rw [wr_id (by omega) (by omega)]; omega) ?_
            refine R_iret dX5_mended_135 rfl rfl rfl (Nat.le_refl _) ?_
            first
            | (exact ⟨sa (by rw [if_neg (by omega), if_pos (by omega)]), rfl⟩)
            | (exact ⟨sa (by rw [if_neg (by omega), if_neg (by omega), bDivI (by omega) (by omega)]), rfl⟩))
       · first
         | (simp (discharger := omega) only [wr_id] at c_122; done)
         | (try simp (discharger := omega) only [wr_id] at c_122
            exfalso
            first | omega | exact c_122 trivial)
         | (try simp (discharger := omega) only [wr_id] at c_122
            refine R_iload dX5_mended_125 rfl ?_
            refine R_goto (tgt := 135) dX5_mended_127 (by decide) ?_
            refine R_iret dX5_mended_135 rfl rfl rfl (Nat.le_refl _) ?_
            first
            | (exact ⟨sa (by rw [if_neg (by omega), if_pos (by omega)]), rfl⟩)
            | (exact ⟨sa (by rw [if_neg (by omega), if_neg (by omega), bDivI (by omega) (by omega)]), rfl⟩)))
  · first
    | (simp (discharger := omega) only [wr_id] at c_25; done)
    | (try simp (discharger := omega) only [wr_id] at c_25
       exfalso
       first | omega | exact c_25 trivial)
    | (try simp (discharger := omega) only [wr_id] at c_25
       refine R_iload dX5_mended_28 rfl ?_
       refine R_iret dX5_mended_30 rfl rfl rfl (Nat.le_refl _) ?_
       exact ⟨sa (by rw [if_pos (by omega)]), rfl⟩)
end MODEL4
