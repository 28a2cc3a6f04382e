/-! the reference: a whole stage, all stages -/
section MODEL7
variable (l : Launch) (G : GE)
/-- what a number of stage k + 1 is made from stands -/
theorem m_made (I : Nat → Nat → Int) (sw : Bool) (nx : Nat) (tl : Nat → Nat) (hnx : 63 ≤ nx) (k x y p : Nat) {S : Sp} (hR : RelM I S) (hO : OkS S) (hM : Ms I S (sN S)) (hP : PicK I S k) (hk : k < sN S) (hx : x < fW S (k + 1)) (hy : y < fH S (k + 1)) (hp : p < fP S (k + 1)) : Mt l G miX5_made 0 0 [ar 48, ai k, ai x, ai y, ai p] (I, Rs sw, nx, tl) (QI sw nx tl (fun r I' => r = some (ai (mkS S k (pic S k) x y p)) ∧ ∀ q, q ≠ 62 → I' q = I q)) := by
  have o5 := hO.2.2.2.2.1
  obtain ⟨j1, j2, j3, j4, j5, j6, j7, j8⟩ := hO.2.2.2.2.2.1 k hk
  have r1 := (f_rng hO k (by omega)).1
  have r2 := (f_rng hO k (by omega)).2.1
  have r3 := fP_13 S k
  obtain ⟨g1, g2, g3, g4, g5, g6, g7, g8, g9⟩ := id hR
  have e6 := g6 k hk
  have w1 : fW S (k + 1) = if sK S k = 7 then fW S k / 2 else fW S k := rfl
  have w2 : fH S (k + 1) = if sK S k = 7 then fH S k / 2 else fH S k := rfl
  have w3 : fP S (k + 1) = if sK S k = 4 then 3 else fP S k := rfl
  have fin : ∀ z : Int, z = mkS S k (pic S k) x y p → QI sw nx tl (fun r I' => r = some (ai (mkS S k (pic S k) x y p)) ∧ ∀ q, q ≠ 62 → I' q = I q) (some (ai z)) (I, Rs sw, nx, tl) := fun z hz => ⟨I, rfl, by rw [hz], fun _ _ => rfl⟩
  rcases (show sK S k = 0 ∨ sK S k = 1 ∨ sK S k = 2 ∨ sK S k = 3 ∨ sK S k = 4 ∨ sK S k = 5 ∨ sK S k = 6 ∨ sK S k = 7 by omega) with h | h | h | h | h | h | h | h
  · rw [if_neg (by omega)] at w1 w2
    rw [if_neg (by omega)] at w3
    have e0 : I 60 (768 * k + 3 * (16 * y + x) + p) = pic S k x y p := hP x y p (by omega) (by omega) (by omega)
    have q0 := pic_rng hO k p (x := x) (y := y) (by omega) (by omega)
    rw [h] at e6
    refine Mt.ofL (ls := [ar 48, ai k, ai x, ai y, ai p, none]) (by decide) (Nat.le_of_ble_eq_true rfl) rfl ?_
    dsimp only [Km, miX5_made]
    refine R_aload_n dX5_made_0 rfl rfl ?_
    refine R_getA fRX5_24 dX5_made_1 rfl (Nat.lt_of_lt_of_le (Nat.le_of_ble_eq_true rfl) hnx) rfl ?_
    refine R_iload_n dX5_made_4 rfl rfl ?_
    refine R_iaload (k := k) dX5_made_5 rfl (Nat.lt_of_lt_of_le (Nat.le_of_ble_eq_true rfl) hnx) (by omega) (by omega) (by decide) ?_
    refine R_bipush (z := 7) dX5_made_6 rfl ?_
    rw [show (I, Rs sw, nx, tl).1 51 k = ((0 : Nat) : Int) from e6]
    refine R_icmp_eq (tgt := 21) dX5_made_8 (by decide) (fun c_8 => ?_) (fun c_8 => ?_)
    · first
      | (simp (discharger := omega) only [wr_id] at c_8; done)
      | (try simp (discharger := omega) only [wr_id] at c_8
         exfalso
         first | omega | exact c_8 trivial)
      | (try simp (discharger := omega) only [wr_id] at c_8
         refine R_iconst dX5_made_21 ?_
         refine R_goto (tgt := 38) dX5_made_22 (by decide) ?_
         try rw [show (I, Rs sw, nx, tl).1 60 (768 * k + 3 * (16 * y + x) + p) = pic S k x y p from e0]
         refine R_istore dX5_made_38 (Nat.le_of_ble_eq_true rfl) ?_
         refine R_aload_n dX5_made_40 rfl rfl ?_
         refine R_getA fRX5_24 dX5_made_41 rfl (Nat.lt_of_lt_of_le (Nat.le_of_ble_eq_true rfl) hnx) rfl ?_
         refine R_iload_n dX5_made_44 rfl rfl ?_
         refine R_iaload (k := k) dX5_made_45 rfl (Nat.lt_of_lt_of_le (Nat.le_of_ble_eq_true rfl) hnx) (by omega) (by omega) (by decide) ?_
         rw [show (I, Rs sw, nx, tl).1 51 k = ((0 : Nat) : Int) from e6]
         refine R_tabIn (off := 42) (tgt := 88) dX5_made_46 (by decide) (by decide) rfl (by decide) ?_
         refine R_iload dX5_made_88 rfl ?_
         refine R_aload_n dX5_made_90 rfl rfl ?_
         refine R_getA fRX5_27 dX5_made_91 rfl (Nat.lt_of_lt_of_le (Nat.le_of_ble_eq_true rfl) hnx) rfl ?_
         refine R_bipush (z := 17) dX5_made_94 rfl ?_
         refine R_iload_n dX5_made_96 rfl rfl ?_
         refine R_imul dX5_made_97 ?_
         refine R_iaload (k := 17 * k) dX5_made_98 rfl (Nat.lt_of_lt_of_le (Nat.le_of_ble_eq_true rfl) hnx) (by omega) (by omega) (by decide) ?_
         rw [show (I, Rs sw, nx, tl).1 52 (17 * k) = sT S k 0 from g7 k hk 0 (by rw [h]; decide)]
         refine R_isub dX5_made_99 ?_
         refine R_iret dX5_made_100 rfl rfl rfl (Nat.le_refl _) ?_
         refine fin _ ?_
         rw [mkS, if_pos h])
    · first
      | (simp (discharger := omega) only [wr_id] at c_8; done)
      | (try simp (discharger := omega) only [wr_id] at c_8
         exfalso
         first | omega | exact c_8 trivial)
      | (try simp (discharger := omega) only [wr_id] at c_8
         refine R_aload_n dX5_made_11 rfl rfl ?_
         refine R_getA fRX5_24 dX5_made_12 rfl (Nat.lt_of_lt_of_le (Nat.le_of_ble_eq_true rfl) hnx) rfl ?_
         refine R_iload_n dX5_made_15 rfl rfl ?_
         refine R_iaload (k := k) dX5_made_16 rfl (Nat.lt_of_lt_of_le (Nat.le_of_ble_eq_true rfl) hnx) (by omega) (by omega) (by decide) ?_
         refine R_iconst dX5_made_17 ?_
         rw [show (I, Rs sw, nx, tl).1 51 k = ((0 : Nat) : Int) from e6]
         refine R_icmp_ne (tgt := 25) dX5_made_18 (by decide) (fun c_18 => ?_) (fun c_18 => ?_)
         · first
           | (simp (discharger := omega) only [wr_id] at c_18; done)
           | (try simp (discharger := omega) only [wr_id] at c_18
              exfalso
              first | omega | exact c_18 trivial)
           | (try simp (discharger := omega) only [wr_id] at c_18
              refine R_aload_n dX5_made_25 rfl rfl ?_
              refine R_getA fRX5_51 dX5_made_26 rfl (Nat.lt_of_lt_of_le (Nat.le_of_ble_eq_true rfl) hnx) rfl ?_
              refine R_iload_n dX5_made_29 rfl rfl ?_
              refine R_iload_n dX5_made_30 rfl rfl ?_
              refine R_iload_n dX5_made_31 rfl rfl ?_
              refine R_iload dX5_made_32 rfl ?_
              refine R_cS dX5_made_34 kRX5_85 vX5_place ⟨(Nat.le_of_ble_eq_true rfl), (Nat.le_of_ble_eq_true rfl)⟩ (m_place l G _ _ _ _ _) rfl ⟨(Nat.le_of_ble_eq_true rfl), (Nat.le_of_ble_eq_true rfl)⟩ rfl (Nat.le_of_ble_eq_true rfl) (fun r σ' hq hn' => ?_)
              obtain ⟨rfl, rfl⟩ := hq
              refine R_iaload (k := 768 * k + 3 * (16 * y + x) + p) dX5_made_37 rfl (Nat.lt_of_lt_of_le (Nat.le_of_ble_eq_true rfl) hnx) (by omega) (by omega) (by decide) ?_
              try rw [show (I, Rs sw, nx, tl).1 60 (768 * k + 3 * (16 * y + x) + p) = pic S k x y p from e0]
              refine R_istore dX5_made_38 (Nat.le_of_ble_eq_true rfl) ?_
              refine R_aload_n dX5_made_40 rfl rfl ?_
              refine R_getA fRX5_24 dX5_made_41 rfl (Nat.lt_of_lt_of_le (Nat.le_of_ble_eq_true rfl) hnx) rfl ?_
              refine R_iload_n dX5_made_44 rfl rfl ?_
              refine R_iaload (k := k) dX5_made_45 rfl (Nat.lt_of_lt_of_le (Nat.le_of_ble_eq_true rfl) hnx) (by omega) (by omega) (by decide) ?_
              rw [show (I, Rs sw, nx, tl).1 51 k = ((0 : Nat) : Int) from e6]
              refine R_tabIn (off := 42) (tgt := 88) dX5_made_46 (by decide) (by decide) rfl (by decide) ?_
              refine R_iload dX5_made_88 rfl ?_
              refine R_aload_n dX5_made_90 rfl rfl ?_
              refine R_getA fRX5_27 dX5_made_91 rfl (Nat.lt_of_lt_of_le (Nat.le_of_ble_eq_true rfl) hnx) rfl ?_
              refine R_bipush (z := 17) dX5_made_94 rfl ?_
              refine R_iload_n dX5_made_96 rfl rfl ?_
              refine R_imul dX5_made_97 ?_
              refine R_iaload (k := 17 * k) dX5_made_98 rfl (Nat.lt_of_lt_of_le (Nat.le_of_ble_eq_true rfl) hnx) (by omega) (by omega) (by decide) ?_
              rw [show (I, Rs sw, nx, tl).1 52 (17 * k) = sT S k 0 from g7 k hk 0 (by rw [h]; decide)]
              refine R_isub dX5_made_99 ?_
              refine R_iret dX5_made_100 rfl rfl rfl (Nat.le_refl _) ?_
              refine fin _ ?_
              rw [mkS, if_pos h])
         · first
           | (simp (discharger := omega) only [wr_id] at c_18; done)
           | (try simp (discharger := omega) only [wr_id] at c_18
              exfalso
              first | omega | exact c_18 trivial)
           | (try simp (discharger := omega) only [wr_id] at c_18
              refine R_iconst dX5_made_21 ?_
              refine R_goto (tgt := 38) dX5_made_22 (by decide) ?_
              try rw [show (I, Rs sw, nx, tl).1 60 (768 * k + 3 * (16 * y + x) + p) = pic S k x y p from e0]
              refine R_istore dX5_made_38 (Nat.le_of_ble_eq_true rfl) ?_
              refine R_aload_n dX5_made_40 rfl rfl ?_
              refine R_getA fRX5_24 dX5_made_41 rfl (Nat.lt_of_lt_of_le (Nat.le_of_ble_eq_true rfl) hnx) rfl ?_
              refine R_iload_n dX5_made_44 rfl rfl ?_
              refine R_iaload (k := k) dX5_made_45 rfl (Nat.lt_of_lt_of_le (Nat.le_of_ble_eq_true rfl) hnx) (by omega) (by omega) (by decide) ?_
              rw [show (I, Rs sw, nx, tl).1 51 k = ((0 : Nat) : Int) from e6]
              refine R_tabIn (off := 42) (tgt := 88) dX5_made_46 (by decide) (by decide) rfl (by decide) ?_
              refine R_iload dX5_made_88 rfl ?_
              refine R_aload_n dX5_made_90 rfl rfl ?_
              refine R_getA fRX5_27 dX5_made_91 rfl (Nat.lt_of_lt_of_le (Nat.le_of_ble_eq_true rfl) hnx) rfl ?_
              refine R_bipush (z := 17) dX5_made_94 rfl ?_
              refine R_iload_n dX5_made_96 rfl rfl ?_
              refine R_imul dX5_made_97 ?_
              refine R_iaload (k := 17 * k) dX5_made_98 rfl (Nat.lt_of_lt_of_le (Nat.le_of_ble_eq_true rfl) hnx) (by omega) (by omega) (by decide) ?_
              rw [show (I, Rs sw, nx, tl).1 52 (17 * k) = sT S k 0 from g7 k hk 0 (by rw [h]; decide)]
              refine R_isub dX5_made_99 ?_
              refine R_iret dX5_made_100 rfl rfl rfl (Nat.le_refl _) ?_
              refine fin _ ?_
              rw [mkS, if_pos h]))
  · rw [if_neg (by omega)] at w1 w2
    rw [if_neg (by omega)] at w3
    have e0 : I 60 (768 * k + 3 * (16 * y + x) + p) = pic S k x y p := hP x y p (by omega) (by omega) (by omega)
    have q0 := pic_rng hO k p (x := x) (y := y) (by omega) (by omega)
    rw [h] at e6
    refine Mt.ofL (ls := [ar 48, ai k, ai x, ai y, ai p, none]) (by decide) (Nat.le_of_ble_eq_true rfl) rfl ?_
    dsimp only [Km, miX5_made]
    refine R_aload_n dX5_made_0 rfl rfl ?_
    refine R_getA fRX5_24 dX5_made_1 rfl (Nat.lt_of_lt_of_le (Nat.le_of_ble_eq_true rfl) hnx) rfl ?_
    refine R_iload_n dX5_made_4 rfl rfl ?_
    refine R_iaload (k := k) dX5_made_5 rfl (Nat.lt_of_lt_of_le (Nat.le_of_ble_eq_true rfl) hnx) (by omega) (by omega) (by decide) ?_
    refine R_bipush (z := 7) dX5_made_6 rfl ?_
    rw [show (I, Rs sw, nx, tl).1 51 k = ((1 : Nat) : Int) from e6]
    refine R_icmp_eq (tgt := 21) dX5_made_8 (by decide) (fun c_8 => ?_) (fun c_8 => ?_)
    · first
      | (simp (discharger := omega) only [wr_id] at c_8; done)
      | (try simp (discharger := omega) only [wr_id] at c_8
         exfalso
         first | omega | exact c_8 trivial)
      | (try simp (discharger := omega) only [wr_id] at c_8
         refine R_iconst dX5_made_21 ?_
         refine R_goto (tgt := 38) dX5_made_22 (by decide) ?_
         try rw [show (I, Rs sw, nx, tl).1 60 (768 * k + 3 * (16 * y + x) + p) = pic S k x y p from e0]
         refine R_istore dX5_made_38 (Nat.le_of_ble_eq_true rfl) ?_
         refine R_aload_n dX5_made_40 rfl rfl ?_
         refine R_getA fRX5_24 dX5_made_41 rfl (Nat.lt_of_lt_of_le (Nat.le_of_ble_eq_true rfl) hnx) rfl ?_
         refine R_iload_n dX5_made_44 rfl rfl ?_
         refine R_iaload (k := k) dX5_made_45 rfl (Nat.lt_of_lt_of_le (Nat.le_of_ble_eq_true rfl) hnx) (by omega) (by omega) (by decide) ?_
         rw [show (I, Rs sw, nx, tl).1 51 k = ((1 : Nat) : Int) from e6]
         refine R_tabIn (off := 55) (tgt := 101) dX5_made_46 (by decide) (by decide) rfl (by decide) ?_
         refine R_iload dX5_made_101 rfl ?_
         refine R_aload_n dX5_made_103 rfl rfl ?_
         refine R_getA fRX5_27 dX5_made_104 rfl (Nat.lt_of_lt_of_le (Nat.le_of_ble_eq_true rfl) hnx) rfl ?_
         refine R_bipush (z := 17) dX5_made_107 rfl ?_
         refine R_iload_n dX5_made_109 rfl rfl ?_
         refine R_imul dX5_made_110 ?_
         refine R_iload_n dX5_made_111 rfl rfl ?_
         refine R_iload_n dX5_made_112 rfl rfl ?_
         refine R_cS dX5_made_113 kRX5_98 vX5_colour ⟨(Nat.le_of_ble_eq_true rfl), (Nat.le_of_ble_eq_true rfl)⟩ (m_colour l G _ _ _ (by omega) (by omega)) rfl ⟨(Nat.le_of_ble_eq_true rfl), (Nat.le_of_ble_eq_true rfl)⟩ rfl (Nat.le_of_ble_eq_true rfl) (fun r σ' hq hn' => ?_)
         obtain ⟨rfl, rfl⟩ := hq
         refine R_iadd dX5_made_116 ?_
         refine R_iaload (k := 17 * k + cl x y) dX5_made_117 rfl (Nat.lt_of_lt_of_le (Nat.le_of_ble_eq_true rfl) hnx) (by omega) (by unfold cl; omega) (by decide) ?_
         rw [show (I, Rs sw, nx, tl).1 52 (17 * k + cl x y) = sT S k (cl x y) from g7 k hk _ (by rw [h]; show cl x y < 3; unfold cl; omega)]
         have q1 := j6 h (cl x y) (by unfold cl; omega)
         have m1 : 0 ≤ pic S k x y p * sT S k (cl x y) := Int.mul_nonneg (by omega) (by omega)
         have m2 : pic S k x y p * sT S k (cl x y) ≤ 4095 * sT S k (cl x y) := Int.mul_le_mul_of_nonneg_right (by omega) (by omega)
         refine R_imul dX5_made_118 ?_
         refine R_sipush (z := 1000) dX5_made_119 rfl ?_
         refine R_idiv dX5_made_122 (by decide) ?_
         refine R_iret dX5_made_123 rfl rfl rfl (Nat.le_refl _) ?_
         rw [bDivI (by omega) (by omega)]
         refine fin _ ?_
         rw [mkS, if_neg (show ¬ sK S k = 0 by omega), if_pos h])
    · first
      | (simp (discharger := omega) only [wr_id] at c_8; done)
      | (try simp (discharger := omega) only [wr_id] at c_8
         exfalso
         first | omega | exact c_8 trivial)
      | (try simp (discharger := omega) only [wr_id] at c_8
         refine R_aload_n dX5_made_11 rfl rfl ?_
         refine R_getA fRX5_24 dX5_made_12 rfl (Nat.lt_of_lt_of_le (Nat.le_of_ble_eq_true rfl) hnx) rfl ?_
         refine R_iload_n dX5_made_15 rfl rfl ?_
         refine R_iaload (k := k) dX5_made_16 rfl (Nat.lt_of_lt_of_le (Nat.le_of_ble_eq_true rfl) hnx) (by omega) (by omega) (by decide) ?_
         refine R_iconst dX5_made_17 ?_
         rw [show (I, Rs sw, nx, tl).1 51 k = ((1 : Nat) : Int) from e6]
         refine R_icmp_ne (tgt := 25) dX5_made_18 (by decide) (fun c_18 => ?_) (fun c_18 => ?_)
         · first
           | (simp (discharger := omega) only [wr_id] at c_18; done)
           | (try simp (discharger := omega) only [wr_id] at c_18
              exfalso
              first | omega | exact c_18 trivial)
           | (try simp (discharger := omega) only [wr_id] at c_18
              refine R_aload_n dX5_made_25 rfl rfl ?_
              refine R_getA fRX5_51 dX5_made_26 rfl (Nat.lt_of_lt_of_le (Nat.le_of_ble_eq_true rfl) hnx) rfl ?_
              refine R_iload_n dX5_made_29 rfl rfl ?_
              refine R_iload_n dX5_made_30 rfl rfl ?_
              refine R_iload_n dX5_made_31 rfl rfl ?_
              refine R_iload dX5_made_32 rfl ?_
              refine R_cS dX5_made_34 kRX5_85 vX5_place ⟨(Nat.le_of_ble_eq_true rfl), (Nat.le_of_ble_eq_true rfl)⟩ (m_place l G _ _ _ _ _) rfl ⟨(Nat.le_of_ble_eq_true rfl), (Nat.le_of_ble_eq_true rfl)⟩ rfl (Nat.le_of_ble_eq_true rfl) (fun r σ' hq hn' => ?_)
              obtain ⟨rfl, rfl⟩ := hq
              refine R_iaload (k := 768 * k + 3 * (16 * y + x) + p) dX5_made_37 rfl (Nat.lt_of_lt_of_le (Nat.le_of_ble_eq_true rfl) hnx) (by omega) (by omega) (by decide) ?_
              try rw [show (I, Rs sw, nx, tl).1 60 (768 * k + 3 * (16 * y + x) + p) = pic S k x y p from e0]
              refine R_istore dX5_made_38 (Nat.le_of_ble_eq_true rfl) ?_
              refine R_aload_n dX5_made_40 rfl rfl ?_
              refine R_getA fRX5_24 dX5_made_41 rfl (Nat.lt_of_lt_of_le (Nat.le_of_ble_eq_true rfl) hnx) rfl ?_
              refine R_iload_n dX5_made_44 rfl rfl ?_
              refine R_iaload (k := k) dX5_made_45 rfl (Nat.lt_of_lt_of_le (Nat.le_of_ble_eq_true rfl) hnx) (by omega) (by omega) (by decide) ?_
              rw [show (I, Rs sw, nx, tl).1 51 k = ((1 : Nat) : Int) from e6]
              refine R_tabIn (off := 55) (tgt := 101) dX5_made_46 (by decide) (by decide) rfl (by decide) ?_
              refine R_iload dX5_made_101 rfl ?_
              refine R_aload_n dX5_made_103 rfl rfl ?_
              refine R_getA fRX5_27 dX5_made_104 rfl (Nat.lt_of_lt_of_le (Nat.le_of_ble_eq_true rfl) hnx) rfl ?_
              refine R_bipush (z := 17) dX5_made_107 rfl ?_
              refine R_iload_n dX5_made_109 rfl rfl ?_
              refine R_imul dX5_made_110 ?_
              refine R_iload_n dX5_made_111 rfl rfl ?_
              refine R_iload_n dX5_made_112 rfl rfl ?_
              refine R_cS dX5_made_113 kRX5_98 vX5_colour ⟨(Nat.le_of_ble_eq_true rfl), (Nat.le_of_ble_eq_true rfl)⟩ (m_colour l G _ _ _ (by omega) (by omega)) rfl ⟨(Nat.le_of_ble_eq_true rfl), (Nat.le_of_ble_eq_true rfl)⟩ rfl (Nat.le_of_ble_eq_true rfl) (fun r σ' hq hn' => ?_)
              obtain ⟨rfl, rfl⟩ := hq
              refine R_iadd dX5_made_116 ?_
              refine R_iaload (k := 17 * k + cl x y) dX5_made_117 rfl (Nat.lt_of_lt_of_le (Nat.le_of_ble_eq_true rfl) hnx) (by omega) (by unfold cl; omega) (by decide) ?_
              rw [show (I, Rs sw, nx, tl).1 52 (17 * k + cl x y) = sT S k (cl x y) from g7 k hk _ (by rw [h]; show cl x y < 3; unfold cl; omega)]
              have q1 := j6 h (cl x y) (by unfold cl; omega)
              have m1 : 0 ≤ pic S k x y p * sT S k (cl x y) := Int.mul_nonneg (by omega) (by omega)
              have m2 : pic S k x y p * sT S k (cl x y) ≤ 4095 * sT S k (cl x y) := Int.mul_le_mul_of_nonneg_right (by omega) (by omega)
              refine R_imul dX5_made_118 ?_
              refine R_sipush (z := 1000) dX5_made_119 rfl ?_
              refine R_idiv dX5_made_122 (by decide) ?_
              refine R_iret dX5_made_123 rfl rfl rfl (Nat.le_refl _) ?_
              rw [bDivI (by omega) (by omega)]
              refine fin _ ?_
              rw [mkS, if_neg (show ¬ sK S k = 0 by omega), if_pos h])
         · first
           | (simp (discharger := omega) only [wr_id] at c_18; done)
           | (try simp (discharger := omega) only [wr_id] at c_18
              exfalso
              first | omega | exact c_18 trivial)
           | (try simp (discharger := omega) only [wr_id] at c_18
              refine R_iconst dX5_made_21 ?_
              refine R_goto (tgt := 38) dX5_made_22 (by decide) ?_
              try rw [show (I, Rs sw, nx, tl).1 60 (768 * k + 3 * (16 * y + x) + p) = pic S k x y p from e0]
              refine R_istore dX5_made_38 (Nat.le_of_ble_eq_true rfl) ?_
              refine R_aload_n dX5_made_40 rfl rfl ?_
              refine R_getA fRX5_24 dX5_made_41 rfl (Nat.lt_of_lt_of_le (Nat.le_of_ble_eq_true rfl) hnx) rfl ?_
              refine R_iload_n dX5_made_44 rfl rfl ?_
              refine R_iaload (k := k) dX5_made_45 rfl (Nat.lt_of_lt_of_le (Nat.le_of_ble_eq_true rfl) hnx) (by omega) (by omega) (by decide) ?_
              rw [show (I, Rs sw, nx, tl).1 51 k = ((1 : Nat) : Int) from e6]
              refine R_tabIn (off := 55) (tgt := 101) dX5_made_46 (by decide) (by decide) rfl (by decide) ?_
              refine R_iload dX5_made_101 rfl ?_
              refine R_aload_n dX5_made_103 rfl rfl ?_
              refine R_getA fRX5_27 dX5_made_104 rfl (Nat.lt_of_lt_of_le (Nat.le_of_ble_eq_true rfl) hnx) rfl ?_
              refine R_bipush (z := 17) dX5_made_107 rfl ?_
              refine R_iload_n dX5_made_109 rfl rfl ?_
              refine R_imul dX5_made_110 ?_
              refine R_iload_n dX5_made_111 rfl rfl ?_
              refine R_iload_n dX5_made_112 rfl rfl ?_
              refine R_cS dX5_made_113 kRX5_98 vX5_colour ⟨(Nat.le_of_ble_eq_true rfl), (Nat.le_of_ble_eq_true rfl)⟩ (m_colour l G _ _ _ (by omega) (by omega)) rfl ⟨(Nat.le_of_ble_eq_true rfl), (Nat.le_of_ble_eq_true rfl)⟩ rfl (Nat.le_of_ble_eq_true rfl) (fun r σ' hq hn' => ?_)
              obtain ⟨rfl, rfl⟩ := hq
              refine R_iadd dX5_made_116 ?_
              refine R_iaload (k := 17 * k + cl x y) dX5_made_117 rfl (Nat.lt_of_lt_of_le (Nat.le_of_ble_eq_true rfl) hnx) (by omega) (by unfold cl; omega) (by decide) ?_
              rw [show (I, Rs sw, nx, tl).1 52 (17 * k + cl x y) = sT S k (cl x y) from g7 k hk _ (by rw [h]; show cl x y < 3; unfold cl; omega)]
              have q1 := j6 h (cl x y) (by unfold cl; omega)
              have m1 : 0 ≤ pic S k x y p * sT S k (cl x y) := Int.mul_nonneg (by omega) (by omega)
              have m2 : pic S k x y p * sT S k (cl x y) ≤ 4095 * sT S k (cl x y) := Int.mul_le_mul_of_nonneg_right (by omega) (by omega)
              refine R_imul dX5_made_118 ?_
              refine R_sipush (z := 1000) dX5_made_119 rfl ?_
              refine R_idiv dX5_made_122 (by decide) ?_
              refine R_iret dX5_made_123 rfl rfl rfl (Nat.le_refl _) ?_
              rw [bDivI (by omega) (by omega)]
              refine fin _ ?_
              rw [mkS, if_neg (show ¬ sK S k = 0 by omega), if_pos h]))
  · rw [if_neg (by omega)] at w1 w2
    rw [if_neg (by omega)] at w3
    have e0 : I 60 (768 * k + 3 * (16 * y + x) + p) = pic S k x y p := hP x y p (by omega) (by omega) (by omega)
    have q0 := pic_rng hO k p (x := x) (y := y) (by omega) (by omega)
    rw [h] at e6
    refine Mt.ofL (ls := [ar 48, ai k, ai x, ai y, ai p, none]) (by decide) (Nat.le_of_ble_eq_true rfl) rfl ?_
    dsimp only [Km, miX5_made]
    refine R_aload_n dX5_made_0 rfl rfl ?_
    refine R_getA fRX5_24 dX5_made_1 rfl (Nat.lt_of_lt_of_le (Nat.le_of_ble_eq_true rfl) hnx) rfl ?_
    refine R_iload_n dX5_made_4 rfl rfl ?_
    refine R_iaload (k := k) dX5_made_5 rfl (Nat.lt_of_lt_of_le (Nat.le_of_ble_eq_true rfl) hnx) (by omega) (by omega) (by decide) ?_
    refine R_bipush (z := 7) dX5_made_6 rfl ?_
    rw [show (I, Rs sw, nx, tl).1 51 k = ((2 : Nat) : Int) from e6]
    refine R_icmp_eq (tgt := 21) dX5_made_8 (by decide) (fun c_8 => ?_) (fun c_8 => ?_)
    · first
      | (simp (discharger := omega) only [wr_id] at c_8; done)
      | (try simp (discharger := omega) only [wr_id] at c_8
         exfalso
         first | omega | exact c_8 trivial)
      | (try simp (discharger := omega) only [wr_id] at c_8
         refine R_iconst dX5_made_21 ?_
         refine R_goto (tgt := 38) dX5_made_22 (by decide) ?_
         try rw [show (I, Rs sw, nx, tl).1 60 (768 * k + 3 * (16 * y + x) + p) = pic S k x y p from e0]
         refine R_istore dX5_made_38 (Nat.le_of_ble_eq_true rfl) ?_
         refine R_aload_n dX5_made_40 rfl rfl ?_
         refine R_getA fRX5_24 dX5_made_41 rfl (Nat.lt_of_lt_of_le (Nat.le_of_ble_eq_true rfl) hnx) rfl ?_
         refine R_iload_n dX5_made_44 rfl rfl ?_
         refine R_iaload (k := k) dX5_made_45 rfl (Nat.lt_of_lt_of_le (Nat.le_of_ble_eq_true rfl) hnx) (by omega) (by omega) (by decide) ?_
         rw [show (I, Rs sw, nx, tl).1 51 k = ((2 : Nat) : Int) from e6]
         refine R_tabIn (off := 78) (tgt := 124) dX5_made_46 (by decide) (by decide) rfl (by decide) ?_
         refine R_aload_n dX5_made_124 rfl rfl ?_
         refine R_iload_n dX5_made_125 rfl rfl ?_
         refine R_iload_n dX5_made_126 rfl rfl ?_
         refine R_iload_n dX5_made_127 rfl rfl ?_
         refine R_cV dX5_made_128 kRX5_102 vX5_mended ⟨(Nat.le_of_ble_eq_true rfl), (Nat.le_of_ble_eq_true rfl)⟩ (m_mended l G I sw nx tl hnx k x y hR hO hM hP hk (by omega) (by omega)) rfl ⟨(Nat.le_of_ble_eq_true rfl), (Nat.le_of_ble_eq_true rfl)⟩ rfl (Nat.lt_of_lt_of_le (Nat.le_of_ble_eq_true rfl) hnx) rfl rfl (Nat.le_of_ble_eq_true rfl) (fun r σ' hq hn' => ?_)
         obtain ⟨rfl, rfl⟩ := hq
         refine R_iret dX5_made_131 rfl rfl rfl (Nat.le_refl _) ?_
         refine fin _ ?_
         rw [mkS, if_neg (show ¬ sK S k = 0 by omega), if_neg (show ¬ sK S k = 1 by omega), if_pos h])
    · first
      | (simp (discharger := omega) only [wr_id] at c_8; done)
      | (try simp (discharger := omega) only [wr_id] at c_8
         exfalso
         first | omega | exact c_8 trivial)
      | (try simp (discharger := omega) only [wr_id] at c_8
         refine R_aload_n dX5_made_11 rfl rfl ?_
         refine R_getA fRX5_24 dX5_made_12 rfl (Nat.lt_of_lt_of_le (Nat.le_of_ble_eq_true rfl) hnx) rfl ?_
         refine R_iload_n dX5_made_15 rfl rfl ?_
         refine R_iaload (k := k) dX5_made_16 rfl (Nat.lt_of_lt_of_le (Nat.le_of_ble_eq_true rfl) hnx) (by omega) (by omega) (by decide) ?_
         refine R_iconst dX5_made_17 ?_
         rw [show (I, Rs sw, nx, tl).1 51 k = ((2 : Nat) : Int) from e6]
         refine R_icmp_ne (tgt := 25) dX5_made_18 (by decide) (fun c_18 => ?_) (fun c_18 => ?_)
         · first
           | (simp (discharger := omega) only [wr_id] at c_18; done)
           | (try simp (discharger := omega) only [wr_id] at c_18
              exfalso
              first | omega | exact c_18 trivial)
           | (try simp (discharger := omega) only [wr_id] at c_18
              refine R_aload_n dX5_made_25 rfl rfl ?_
              refine R_getA fRX5_51 dX5_made_26 rfl (Nat.lt_of_lt_of_le (Nat.le_of_ble_eq_true rfl) hnx) rfl ?_
              refine R_iload_n dX5_made_29 rfl rfl ?_
              refine R_iload_n dX5_made_30 rfl rfl ?_
              refine R_iload_n dX5_made_31 rfl rfl ?_
              refine R_iload dX5_made_32 rfl ?_
              refine R_cS dX5_made_34 kRX5_85 vX5_place ⟨(Nat.le_of_ble_eq_true rfl), (Nat.le_of_ble_eq_true rfl)⟩ (m_place l G _ _ _ _ _) rfl ⟨(Nat.le_of_ble_eq_true rfl), (Nat.le_of_ble_eq_true rfl)⟩ rfl (Nat.le_of_ble_eq_true rfl) (fun r σ' hq hn' => ?_)
              obtain ⟨rfl, rfl⟩ := hq
              refine R_iaload (k := 768 * k + 3 * (16 * y + x) + p) dX5_made_37 rfl (Nat.lt_of_lt_of_le (Nat.le_of_ble_eq_true rfl) hnx) (by omega) (by omega) (by decide) ?_
              try rw [show (I, Rs sw, nx, tl).1 60 (768 * k + 3 * (16 * y + x) + p) = pic S k x y p from e0]
              refine R_istore dX5_made_38 (Nat.le_of_ble_eq_true rfl) ?_
              refine R_aload_n dX5_made_40 rfl rfl ?_
              refine R_getA fRX5_24 dX5_made_41 rfl (Nat.lt_of_lt_of_le (Nat.le_of_ble_eq_true rfl) hnx) rfl ?_
              refine R_iload_n dX5_made_44 rfl rfl ?_
              refine R_iaload (k := k) dX5_made_45 rfl (Nat.lt_of_lt_of_le (Nat.le_of_ble_eq_true rfl) hnx) (by omega) (by omega) (by decide) ?_
              rw [show (I, Rs sw, nx, tl).1 51 k = ((2 : Nat) : Int) from e6]
              refine R_tabIn (off := 78) (tgt := 124) dX5_made_46 (by decide) (by decide) rfl (by decide) ?_
              refine R_aload_n dX5_made_124 rfl rfl ?_
              refine R_iload_n dX5_made_125 rfl rfl ?_
              refine R_iload_n dX5_made_126 rfl rfl ?_
              refine R_iload_n dX5_made_127 rfl rfl ?_
              refine R_cV dX5_made_128 kRX5_102 vX5_mended ⟨(Nat.le_of_ble_eq_true rfl), (Nat.le_of_ble_eq_true rfl)⟩ (m_mended l G I sw nx tl hnx k x y hR hO hM hP hk (by omega) (by omega)) rfl ⟨(Nat.le_of_ble_eq_true rfl), (Nat.le_of_ble_eq_true rfl)⟩ rfl (Nat.lt_of_lt_of_le (Nat.le_of_ble_eq_true rfl) hnx) rfl rfl (Nat.le_of_ble_eq_true rfl) (fun r σ' hq hn' => ?_)
              obtain ⟨rfl, rfl⟩ := hq
              refine R_iret dX5_made_131 rfl rfl rfl (Nat.le_refl _) ?_
              refine fin _ ?_
              rw [mkS, if_neg (show ¬ sK S k = 0 by omega), if_neg (show ¬ sK S k = 1 by omega), if_pos h])
         · first
           | (simp (discharger := omega) only [wr_id] at c_18; done)
           | (try simp (discharger := omega) only [wr_id] at c_18
              exfalso
              first | omega | exact c_18 trivial)
           | (try simp (discharger := omega) only [wr_id] at c_18
              refine R_iconst dX5_made_21 ?_
              refine R_goto (tgt := 38) dX5_made_22 (by decide) ?_
              try rw [show (I, Rs sw, nx, tl).1 60 (768 * k + 3 * (16 * y + x) + p) = pic S k x y p from e0]
              refine R_istore dX5_made_38 (Nat.le_of_ble_eq_true rfl) ?_
              refine R_aload_n dX5_made_40 rfl rfl ?_
              refine R_getA fRX5_24 dX5_made_41 rfl (Nat.lt_of_lt_of_le (Nat.le_of_ble_eq_true rfl) hnx) rfl ?_
              refine R_iload_n dX5_made_44 rfl rfl ?_
              refine R_iaload (k := k) dX5_made_45 rfl (Nat.lt_of_lt_of_le (Nat.le_of_ble_eq_true rfl) hnx) (by omega) (by omega) (by decide) ?_
              rw [show (I, Rs sw, nx, tl).1 51 k = ((2 : Nat) : Int) from e6]
              refine R_tabIn (off := 78) (tgt := 124) dX5_made_46 (by decide) (by decide) rfl (by decide) ?_
              refine R_aload_n dX5_made_124 rfl rfl ?_
              refine R_iload_n dX5_made_125 rfl rfl ?_
              refine R_iload_n dX5_made_126 rfl rfl ?_
              refine R_iload_n dX5_made_127 rfl rfl ?_
              refine R_cV dX5_made_128 kRX5_102 vX5_mended ⟨(Nat.le_of_ble_eq_true rfl), (Nat.le_of_ble_eq_true rfl)⟩ (m_mended l G I sw nx tl hnx k x y hR hO hM hP hk (by omega) (by omega)) rfl ⟨(Nat.le_of_ble_eq_true rfl), (Nat.le_of_ble_eq_true rfl)⟩ rfl (Nat.lt_of_lt_of_le (Nat.le_of_ble_eq_true rfl) hnx) rfl rfl (Nat.le_of_ble_eq_true rfl) (fun r σ' hq hn' => ?_)
              obtain ⟨rfl, rfl⟩ := hq
              refine R_iret dX5_made_131 rfl rfl rfl (Nat.le_refl _) ?_
              refine fin _ ?_
              rw [mkS, if_neg (show ¬ sK S k = 0 by omega), if_neg (show ¬ sK S k = 1 by omega), if_pos h]))
  · rw [if_neg (by omega)] at w1 w2
    rw [if_neg (by omega)] at w3
    have e0 : I 60 (768 * k + 3 * (16 * y + x) + p) = pic S k x y p := hP x y p (by omega) (by omega) (by omega)
    have q0 := pic_rng hO k p (x := x) (y := y) (by omega) (by omega)
    rw [h] at e6
    refine Mt.ofL (ls := [ar 48, ai k, ai x, ai y, ai p, none]) (by decide) (Nat.le_of_ble_eq_true rfl) rfl ?_
    dsimp only [Km, miX5_made]
    refine R_aload_n dX5_made_0 rfl rfl ?_
    refine R_getA fRX5_24 dX5_made_1 rfl (Nat.lt_of_lt_of_le (Nat.le_of_ble_eq_true rfl) hnx) rfl ?_
    refine R_iload_n dX5_made_4 rfl rfl ?_
    refine R_iaload (k := k) dX5_made_5 rfl (Nat.lt_of_lt_of_le (Nat.le_of_ble_eq_true rfl) hnx) (by omega) (by omega) (by decide) ?_
    refine R_bipush (z := 7) dX5_made_6 rfl ?_
    rw [show (I, Rs sw, nx, tl).1 51 k = ((3 : Nat) : Int) from e6]
    refine R_icmp_eq (tgt := 21) dX5_made_8 (by decide) (fun c_8 => ?_) (fun c_8 => ?_)
    · first
      | (simp (discharger := omega) only [wr_id] at c_8; done)
      | (try simp (discharger := omega) only [wr_id] at c_8
         exfalso
         first | omega | exact c_8 trivial)
      | (try simp (discharger := omega) only [wr_id] at c_8
         refine R_iconst dX5_made_21 ?_
         refine R_goto (tgt := 38) dX5_made_22 (by decide) ?_
         try rw [show (I, Rs sw, nx, tl).1 60 (768 * k + 3 * (16 * y + x) + p) = pic S k x y p from e0]
         refine R_istore dX5_made_38 (Nat.le_of_ble_eq_true rfl) ?_
         refine R_aload_n dX5_made_40 rfl rfl ?_
         refine R_getA fRX5_24 dX5_made_41 rfl (Nat.lt_of_lt_of_le (Nat.le_of_ble_eq_true rfl) hnx) rfl ?_
         refine R_iload_n dX5_made_44 rfl rfl ?_
         refine R_iaload (k := k) dX5_made_45 rfl (Nat.lt_of_lt_of_le (Nat.le_of_ble_eq_true rfl) hnx) (by omega) (by omega) (by decide) ?_
         rw [show (I, Rs sw, nx, tl).1 51 k = ((3 : Nat) : Int) from e6]
         refine R_tabIn (off := 86) (tgt := 132) dX5_made_46 (by decide) (by decide) rfl (by decide) ?_
         refine R_aload_n dX5_made_132 rfl rfl ?_
         refine R_iload_n dX5_made_133 rfl rfl ?_
         refine R_iload_n dX5_made_134 rfl rfl ?_
         refine R_iload_n dX5_made_135 rfl rfl ?_
         refine R_cV dX5_made_136 kRX5_106 vX5_middle ⟨(Nat.le_of_ble_eq_true rfl), (Nat.le_of_ble_eq_true rfl)⟩ (m_middle l G I sw nx tl hnx k x y hO hM hP hk (by omega) (by omega)) rfl ⟨(Nat.le_of_ble_eq_true rfl), (Nat.le_of_ble_eq_true rfl)⟩ rfl (Nat.lt_of_lt_of_le (Nat.le_of_ble_eq_true rfl) hnx) rfl rfl (Nat.le_of_ble_eq_true rfl) (fun r σ' hq hn' => ?_)
         obtain ⟨J, rfl, rfl, hF⟩ := hq
         refine R_iret dX5_made_139 rfl rfl rfl (Nat.le_refl _) ?_
         exact ⟨J, rfl, by rw [mkS, if_neg (show ¬ sK S k = 0 by omega), if_neg (show ¬ sK S k = 1 by omega), if_neg (show ¬ sK S k = 2 by omega), if_pos h], hF⟩)
    · first
      | (simp (discharger := omega) only [wr_id] at c_8; done)
      | (try simp (discharger := omega) only [wr_id] at c_8
         exfalso
         first | omega | exact c_8 trivial)
      | (try simp (discharger := omega) only [wr_id] at c_8
         refine R_aload_n dX5_made_11 rfl rfl ?_
         refine R_getA fRX5_24 dX5_made_12 rfl (Nat.lt_of_lt_of_le (Nat.le_of_ble_eq_true rfl) hnx) rfl ?_
         refine R_iload_n dX5_made_15 rfl rfl ?_
         refine R_iaload (k := k) dX5_made_16 rfl (Nat.lt_of_lt_of_le (Nat.le_of_ble_eq_true rfl) hnx) (by omega) (by omega) (by decide) ?_
         refine R_iconst dX5_made_17 ?_
         rw [show (I, Rs sw, nx, tl).1 51 k = ((3 : Nat) : Int) from e6]
         refine R_icmp_ne (tgt := 25) dX5_made_18 (by decide) (fun c_18 => ?_) (fun c_18 => ?_)
         · first
           | (simp (discharger := omega) only [wr_id] at c_18; done)
           | (try simp (discharger := omega) only [wr_id] at c_18
              exfalso
              first | omega | exact c_18 trivial)
           | (try simp (discharger := omega) only [wr_id] at c_18
              refine R_aload_n dX5_made_25 rfl rfl ?_
              refine R_getA fRX5_51 dX5_made_26 rfl (Nat.lt_of_lt_of_le (Nat.le_of_ble_eq_true rfl) hnx) rfl ?_
              refine R_iload_n dX5_made_29 rfl rfl ?_
              refine R_iload_n dX5_made_30 rfl rfl ?_
              refine R_iload_n dX5_made_31 rfl rfl ?_
              refine R_iload dX5_made_32 rfl ?_
              refine R_cS dX5_made_34 kRX5_85 vX5_place ⟨(Nat.le_of_ble_eq_true rfl), (Nat.le_of_ble_eq_true rfl)⟩ (m_place l G _ _ _ _ _) rfl ⟨(Nat.le_of_ble_eq_true rfl), (Nat.le_of_ble_eq_true rfl)⟩ rfl (Nat.le_of_ble_eq_true rfl) (fun r σ' hq hn' => ?_)
              obtain ⟨rfl, rfl⟩ := hq
              refine R_iaload (k := 768 * k + 3 * (16 * y + x) + p) dX5_made_37 rfl (Nat.lt_of_lt_of_le (Nat.le_of_ble_eq_true rfl) hnx) (by omega) (by omega) (by decide) ?_
              try rw [show (I, Rs sw, nx, tl).1 60 (768 * k + 3 * (16 * y + x) + p) = pic S k x y p from e0]
              refine R_istore dX5_made_38 (Nat.le_of_ble_eq_true rfl) ?_
              refine R_aload_n dX5_made_40 rfl rfl ?_
              refine R_getA fRX5_24 dX5_made_41 rfl (Nat.lt_of_lt_of_le (Nat.le_of_ble_eq_true rfl) hnx) rfl ?_
              refine R_iload_n dX5_made_44 rfl rfl ?_
              refine R_iaload (k := k) dX5_made_45 rfl (Nat.lt_of_lt_of_le (Nat.le_of_ble_eq_true rfl) hnx) (by omega) (by omega) (by decide) ?_
              rw [show (I, Rs sw, nx, tl).1 51 k = ((3 : Nat) : Int) from e6]
              refine R_tabIn (off := 86) (tgt := 132) dX5_made_46 (by decide) (by decide) rfl (by decide) ?_
              refine R_aload_n dX5_made_132 rfl rfl ?_
              refine R_iload_n dX5_made_133 rfl rfl ?_
              refine R_iload_n dX5_made_134 rfl rfl ?_
              refine R_iload_n dX5_made_135 rfl rfl ?_
              refine R_cV dX5_made_136 kRX5_106 vX5_middle ⟨(Nat.le_of_ble_eq_true rfl), (Nat.le_of_ble_eq_true rfl)⟩ (m_middle l G I sw nx tl hnx k x y hO hM hP hk (by omega) (by omega)) rfl ⟨(Nat.le_of_ble_eq_true rfl), (Nat.le_of_ble_eq_true rfl)⟩ rfl (Nat.lt_of_lt_of_le (Nat.le_of_ble_eq_true rfl) hnx) rfl rfl (Nat.le_of_ble_eq_true rfl) (fun r σ' hq hn' => ?_)
              obtain ⟨J, rfl, rfl, hF⟩ := hq
              refine R_iret dX5_made_139 rfl rfl rfl (Nat.le_refl _) ?_
              exact ⟨J, rfl, by rw [mkS, if_neg (show ¬ sK S k = 0 by omega), if_neg (show ¬ sK S k = 1 by omega), if_neg (show ¬ sK S k = 2 by omega), if_pos h], hF⟩)
         · first
           | (simp (discharger := omega) only [wr_id] at c_18; done)
           | (try simp (discharger := omega) only [wr_id] at c_18
              exfalso
              first | omega | exact c_18 trivial)
           | (try simp (discharger := omega) only [wr_id] at c_18
              refine R_iconst dX5_made_21 ?_
              refine R_goto (tgt := 38) dX5_made_22 (by decide) ?_
              try rw [show (I, Rs sw, nx, tl).1 60 (768 * k + 3 * (16 * y + x) + p) = pic S k x y p from e0]
              refine R_istore dX5_made_38 (Nat.le_of_ble_eq_true rfl) ?_
              refine R_aload_n dX5_made_40 rfl rfl ?_
              refine R_getA fRX5_24 dX5_made_41 rfl (Nat.lt_of_lt_of_le (Nat.le_of_ble_eq_true rfl) hnx) rfl ?_
              refine R_iload_n dX5_made_44 rfl rfl ?_
              refine R_iaload (k := k) dX5_made_45 rfl (Nat.lt_of_lt_of_le (Nat.le_of_ble_eq_true rfl) hnx) (by omega) (by omega) (by decide) ?_
              rw [show (I, Rs sw, nx, tl).1 51 k = ((3 : Nat) : Int) from e6]
              refine R_tabIn (off := 86) (tgt := 132) dX5_made_46 (by decide) (by decide) rfl (by decide) ?_
              refine R_aload_n dX5_made_132 rfl rfl ?_
              refine R_iload_n dX5_made_133 rfl rfl ?_
              refine R_iload_n dX5_made_134 rfl rfl ?_
              refine R_iload_n dX5_made_135 rfl rfl ?_
              refine R_cV dX5_made_136 kRX5_106 vX5_middle ⟨(Nat.le_of_ble_eq_true rfl), (Nat.le_of_ble_eq_true rfl)⟩ (m_middle l G I sw nx tl hnx k x y hO hM hP hk (by omega) (by omega)) rfl ⟨(Nat.le_of_ble_eq_true rfl), (Nat.le_of_ble_eq_true rfl)⟩ rfl (Nat.lt_of_lt_of_le (Nat.le_of_ble_eq_true rfl) hnx) rfl rfl (Nat.le_of_ble_eq_true rfl) (fun r σ' hq hn' => ?_)
              obtain ⟨J, rfl, rfl, hF⟩ := hq
              refine R_iret dX5_made_139 rfl rfl rfl (Nat.le_refl _) ?_
              exact ⟨J, rfl, by rw [mkS, if_neg (show ¬ sK S k = 0 by omega), if_neg (show ¬ sK S k = 1 by omega), if_neg (show ¬ sK S k = 2 by omega), if_pos h], hF⟩))
  · rw [if_neg (by omega)] at w1 w2
    rw [if_pos h] at w3
    rw [h] at e6
    refine Mt.ofL (ls := [ar 48, ai k, ai x, ai y, ai p, none]) (by decide) (Nat.le_of_ble_eq_true rfl) rfl ?_
    dsimp only [Km, miX5_made]
    refine R_aload_n dX5_made_0 rfl rfl ?_
    refine R_getA fRX5_24 dX5_made_1 rfl (Nat.lt_of_lt_of_le (Nat.le_of_ble_eq_true rfl) hnx) rfl ?_
    refine R_iload_n dX5_made_4 rfl rfl ?_
    refine R_iaload (k := k) dX5_made_5 rfl (Nat.lt_of_lt_of_le (Nat.le_of_ble_eq_true rfl) hnx) (by omega) (by omega) (by decide) ?_
    refine R_bipush (z := 7) dX5_made_6 rfl ?_
    rw [show (I, Rs sw, nx, tl).1 51 k = ((4 : Nat) : Int) from e6]
    refine R_icmp_eq (tgt := 21) dX5_made_8 (by decide) (fun c_8 => ?_) (fun c_8 => ?_)
    · first
      | (simp (discharger := omega) only [wr_id] at c_8; done)
      | (try simp (discharger := omega) only [wr_id] at c_8
         exfalso
         first | omega | exact c_8 trivial)
      | (try simp (discharger := omega) only [wr_id] at c_8
         refine R_iconst dX5_made_21 ?_
         refine R_goto (tgt := 38) dX5_made_22 (by decide) ?_
         refine R_istore dX5_made_38 (Nat.le_of_ble_eq_true rfl) ?_
         refine R_aload_n dX5_made_40 rfl rfl ?_
         refine R_getA fRX5_24 dX5_made_41 rfl (Nat.lt_of_lt_of_le (Nat.le_of_ble_eq_true rfl) hnx) rfl ?_
         refine R_iload_n dX5_made_44 rfl rfl ?_
         refine R_iaload (k := k) dX5_made_45 rfl (Nat.lt_of_lt_of_le (Nat.le_of_ble_eq_true rfl) hnx) (by omega) (by omega) (by decide) ?_
         rw [show (I, Rs sw, nx, tl).1 51 k = ((4 : Nat) : Int) from e6]
         refine R_tabIn (off := 94) (tgt := 140) dX5_made_46 (by decide) (by decide) rfl (by decide) ?_
         refine R_aload_n dX5_made_140 rfl rfl ?_
         refine R_iload_n dX5_made_141 rfl rfl ?_
         refine R_iload_n dX5_made_142 rfl rfl ?_
         refine R_iload_n dX5_made_143 rfl rfl ?_
         refine R_iload dX5_made_144 rfl ?_
         refine R_cV dX5_made_146 kRX5_109 vX5_coloured ⟨(Nat.le_of_ble_eq_true rfl), (Nat.le_of_ble_eq_true rfl)⟩ (m_coloured l G I sw nx tl hnx k x y p hO hM hP hk (by omega) (by omega) (by omega)) rfl ⟨(Nat.le_of_ble_eq_true rfl), (Nat.le_of_ble_eq_true rfl)⟩ rfl (Nat.lt_of_lt_of_le (Nat.le_of_ble_eq_true rfl) hnx) rfl rfl (Nat.le_of_ble_eq_true rfl) (fun r σ' hq hn' => ?_)
         obtain ⟨rfl, rfl⟩ := hq
         refine R_iret dX5_made_149 rfl rfl rfl (Nat.le_refl _) ?_
         refine fin _ ?_
         rw [mkS, if_neg (show ¬ sK S k = 0 by omega), if_neg (show ¬ sK S k = 1 by omega), if_neg (show ¬ sK S k = 2 by omega), if_neg (show ¬ sK S k = 3 by omega), if_pos h])
    · first
      | (simp (discharger := omega) only [wr_id] at c_8; done)
      | (try simp (discharger := omega) only [wr_id] at c_8
         exfalso
         first | omega | exact c_8 trivial)
      | (try simp (discharger := omega) only [wr_id] at c_8
         refine R_aload_n dX5_made_11 rfl rfl ?_
         refine R_getA fRX5_24 dX5_made_12 rfl (Nat.lt_of_lt_of_le (Nat.le_of_ble_eq_true rfl) hnx) rfl ?_
         refine R_iload_n dX5_made_15 rfl rfl ?_
         refine R_iaload (k := k) dX5_made_16 rfl (Nat.lt_of_lt_of_le (Nat.le_of_ble_eq_true rfl) hnx) (by omega) (by omega) (by decide) ?_
         refine R_iconst dX5_made_17 ?_
         rw [show (I, Rs sw, nx, tl).1 51 k = ((4 : Nat) : Int) from e6]
         refine R_icmp_ne (tgt := 25) dX5_made_18 (by decide) (fun c_18 => ?_) (fun c_18 => ?_)
         · first
           | (simp (discharger := omega) only [wr_id] at c_18; done)
           | (try simp (discharger := omega) only [wr_id] at c_18
              exfalso
              first | omega | exact c_18 trivial)
           | (try simp (discharger := omega) only [wr_id] at c_18
              refine R_aload_n dX5_made_25 rfl rfl ?_
              refine R_getA fRX5_51 dX5_made_26 rfl (Nat.lt_of_lt_of_le (Nat.le_of_ble_eq_true rfl) hnx) rfl ?_
              refine R_iload_n dX5_made_29 rfl rfl ?_
              refine R_iload_n dX5_made_30 rfl rfl ?_
              refine R_iload_n dX5_made_31 rfl rfl ?_
              refine R_iload dX5_made_32 rfl ?_
              refine R_cS dX5_made_34 kRX5_85 vX5_place ⟨(Nat.le_of_ble_eq_true rfl), (Nat.le_of_ble_eq_true rfl)⟩ (m_place l G _ _ _ _ _) rfl ⟨(Nat.le_of_ble_eq_true rfl), (Nat.le_of_ble_eq_true rfl)⟩ rfl (Nat.le_of_ble_eq_true rfl) (fun r σ' hq hn' => ?_)
              obtain ⟨rfl, rfl⟩ := hq
              refine R_iaload (k := 768 * k + 3 * (16 * y + x) + p) dX5_made_37 rfl (Nat.lt_of_lt_of_le (Nat.le_of_ble_eq_true rfl) hnx) (by omega) (by omega) (by decide) ?_
              refine R_istore dX5_made_38 (Nat.le_of_ble_eq_true rfl) ?_
              refine R_aload_n dX5_made_40 rfl rfl ?_
              refine R_getA fRX5_24 dX5_made_41 rfl (Nat.lt_of_lt_of_le (Nat.le_of_ble_eq_true rfl) hnx) rfl ?_
              refine R_iload_n dX5_made_44 rfl rfl ?_
              refine R_iaload (k := k) dX5_made_45 rfl (Nat.lt_of_lt_of_le (Nat.le_of_ble_eq_true rfl) hnx) (by omega) (by omega) (by decide) ?_
              rw [show (I, Rs sw, nx, tl).1 51 k = ((4 : Nat) : Int) from e6]
              refine R_tabIn (off := 94) (tgt := 140) dX5_made_46 (by decide) (by decide) rfl (by decide) ?_
              refine R_aload_n dX5_made_140 rfl rfl ?_
              refine R_iload_n dX5_made_141 rfl rfl ?_
              refine R_iload_n dX5_made_142 rfl rfl ?_
              refine R_iload_n dX5_made_143 rfl rfl ?_
              refine R_iload dX5_made_144 rfl ?_
              refine R_cV dX5_made_146 kRX5_109 vX5_coloured ⟨(Nat.le_of_ble_eq_true rfl), (Nat.le_of_ble_eq_true rfl)⟩ (m_coloured l G I sw nx tl hnx k x y p hO hM hP hk (by omega) (by omega) (by omega)) rfl ⟨(Nat.le_of_ble_eq_true rfl), (Nat.le_of_ble_eq_true rfl)⟩ rfl (Nat.lt_of_lt_of_le (Nat.le_of_ble_eq_true rfl) hnx) rfl rfl (Nat.le_of_ble_eq_true rfl) (fun r σ' hq hn' => ?_)
              obtain ⟨rfl, rfl⟩ := hq
              refine R_iret dX5_made_149 rfl rfl rfl (Nat.le_refl _) ?_
              refine fin _ ?_
              rw [mkS, if_neg (show ¬ sK S k = 0 by omega), if_neg (show ¬ sK S k = 1 by omega), if_neg (show ¬ sK S k = 2 by omega), if_neg (show ¬ sK S k = 3 by omega), if_pos h])
         · first
           | (simp (discharger := omega) only [wr_id] at c_18; done)
           | (try simp (discharger := omega) only [wr_id] at c_18
              exfalso
              first | omega | exact c_18 trivial)
           | (try simp (discharger := omega) only [wr_id] at c_18
              refine R_iconst dX5_made_21 ?_
              refine R_goto (tgt := 38) dX5_made_22 (by decide) ?_
              refine R_istore dX5_made_38 (Nat.le_of_ble_eq_true rfl) ?_
              refine R_aload_n dX5_made_40 rfl rfl ?_
              refine R_getA fRX5_24 dX5_made_41 rfl (Nat.lt_of_lt_of_le (Nat.le_of_ble_eq_true rfl) hnx) rfl ?_
              refine R_iload_n dX5_made_44 rfl rfl ?_
              refine R_iaload (k := k) dX5_made_45 rfl (Nat.lt_of_lt_of_le (Nat.le_of_ble_eq_true rfl) hnx) (by omega) (by omega) (by decide) ?_
              rw [show (I, Rs sw, nx, tl).1 51 k = ((4 : Nat) : Int) from e6]
              refine R_tabIn (off := 94) (tgt := 140) dX5_made_46 (by decide) (by decide) rfl (by decide) ?_
              refine R_aload_n dX5_made_140 rfl rfl ?_
              refine R_iload_n dX5_made_141 rfl rfl ?_
              refine R_iload_n dX5_made_142 rfl rfl ?_
              refine R_iload_n dX5_made_143 rfl rfl ?_
              refine R_iload dX5_made_144 rfl ?_
              refine R_cV dX5_made_146 kRX5_109 vX5_coloured ⟨(Nat.le_of_ble_eq_true rfl), (Nat.le_of_ble_eq_true rfl)⟩ (m_coloured l G I sw nx tl hnx k x y p hO hM hP hk (by omega) (by omega) (by omega)) rfl ⟨(Nat.le_of_ble_eq_true rfl), (Nat.le_of_ble_eq_true rfl)⟩ rfl (Nat.lt_of_lt_of_le (Nat.le_of_ble_eq_true rfl) hnx) rfl rfl (Nat.le_of_ble_eq_true rfl) (fun r σ' hq hn' => ?_)
              obtain ⟨rfl, rfl⟩ := hq
              refine R_iret dX5_made_149 rfl rfl rfl (Nat.le_refl _) ?_
              refine fin _ ?_
              rw [mkS, if_neg (show ¬ sK S k = 0 by omega), if_neg (show ¬ sK S k = 1 by omega), if_neg (show ¬ sK S k = 2 by omega), if_neg (show ¬ sK S k = 3 by omega), if_pos h]))
  · rw [if_neg (by omega)] at w1 w2
    rw [if_neg (by omega)] at w3
    have e0 : I 60 (768 * k + 3 * (16 * y + x) + p) = pic S k x y p := hP x y p (by omega) (by omega) (by omega)
    have q0 := pic_rng hO k p (x := x) (y := y) (by omega) (by omega)
    rw [h] at e6
    refine Mt.ofL (ls := [ar 48, ai k, ai x, ai y, ai p, none]) (by decide) (Nat.le_of_ble_eq_true rfl) rfl ?_
    dsimp only [Km, miX5_made]
    refine R_aload_n dX5_made_0 rfl rfl ?_
    refine R_getA fRX5_24 dX5_made_1 rfl (Nat.lt_of_lt_of_le (Nat.le_of_ble_eq_true rfl) hnx) rfl ?_
    refine R_iload_n dX5_made_4 rfl rfl ?_
    refine R_iaload (k := k) dX5_made_5 rfl (Nat.lt_of_lt_of_le (Nat.le_of_ble_eq_true rfl) hnx) (by omega) (by omega) (by decide) ?_
    refine R_bipush (z := 7) dX5_made_6 rfl ?_
    rw [show (I, Rs sw, nx, tl).1 51 k = ((5 : Nat) : Int) from e6]
    refine R_icmp_eq (tgt := 21) dX5_made_8 (by decide) (fun c_8 => ?_) (fun c_8 => ?_)
    · first
      | (simp (discharger := omega) only [wr_id] at c_8; done)
      | (try simp (discharger := omega) only [wr_id] at c_8
         exfalso
         first | omega | exact c_8 trivial)
      | (try simp (discharger := omega) only [wr_id] at c_8
         refine R_iconst dX5_made_21 ?_
         refine R_goto (tgt := 38) dX5_made_22 (by decide) ?_
         try rw [show (I, Rs sw, nx, tl).1 60 (768 * k + 3 * (16 * y + x) + p) = pic S k x y p from e0]
         refine R_istore dX5_made_38 (Nat.le_of_ble_eq_true rfl) ?_
         refine R_aload_n dX5_made_40 rfl rfl ?_
         refine R_getA fRX5_24 dX5_made_41 rfl (Nat.lt_of_lt_of_le (Nat.le_of_ble_eq_true rfl) hnx) rfl ?_
         refine R_iload_n dX5_made_44 rfl rfl ?_
         refine R_iaload (k := k) dX5_made_45 rfl (Nat.lt_of_lt_of_le (Nat.le_of_ble_eq_true rfl) hnx) (by omega) (by omega) (by decide) ?_
         rw [show (I, Rs sw, nx, tl).1 51 k = ((5 : Nat) : Int) from e6]
         refine R_tabIn (off := 104) (tgt := 150) dX5_made_46 (by decide) (by decide) rfl (by decide) ?_
         refine R_aload_n dX5_made_150 rfl rfl ?_
         refine R_iload_n dX5_made_151 rfl rfl ?_
         refine R_iload_n dX5_made_152 rfl rfl ?_
         refine R_iload_n dX5_made_153 rfl rfl ?_
         refine R_iload dX5_made_154 rfl ?_
         refine R_cV dX5_made_156 kRX5_112 vX5_matrixed ⟨(Nat.le_of_ble_eq_true rfl), (Nat.le_of_ble_eq_true rfl)⟩ (m_matrixed l G I sw nx tl hnx k x y p hR hO hP hk h (by omega) (by omega) (by omega)) rfl ⟨(Nat.le_of_ble_eq_true rfl), (Nat.le_of_ble_eq_true rfl)⟩ rfl (Nat.lt_of_lt_of_le (Nat.le_of_ble_eq_true rfl) hnx) rfl rfl (Nat.le_of_ble_eq_true rfl) (fun r σ' hq hn' => ?_)
         obtain ⟨rfl, rfl⟩ := hq
         refine R_iret dX5_made_159 rfl rfl rfl (Nat.le_refl _) ?_
         refine fin _ ?_
         rw [mkS, if_neg (show ¬ sK S k = 0 by omega), if_neg (show ¬ sK S k = 1 by omega), if_neg (show ¬ sK S k = 2 by omega), if_neg (show ¬ sK S k = 3 by omega), if_neg (show ¬ sK S k = 4 by omega), if_pos h])
    · first
      | (simp (discharger := omega) only [wr_id] at c_8; done)
      | (try simp (discharger := omega) only [wr_id] at c_8
         exfalso
         first | omega | exact c_8 trivial)
      | (try simp (discharger := omega) only [wr_id] at c_8
         refine R_aload_n dX5_made_11 rfl rfl ?_
         refine R_getA fRX5_24 dX5_made_12 rfl (Nat.lt_of_lt_of_le (Nat.le_of_ble_eq_true rfl) hnx) rfl ?_
         refine R_iload_n dX5_made_15 rfl rfl ?_
         refine R_iaload (k := k) dX5_made_16 rfl (Nat.lt_of_lt_of_le (Nat.le_of_ble_eq_true rfl) hnx) (by omega) (by omega) (by decide) ?_
         refine R_iconst dX5_made_17 ?_
         rw [show (I, Rs sw, nx, tl).1 51 k = ((5 : Nat) : Int) from e6]
         refine R_icmp_ne (tgt := 25) dX5_made_18 (by decide) (fun c_18 => ?_) (fun c_18 => ?_)
         · first
           | (simp (discharger := omega) only [wr_id] at c_18; done)
           | (try simp (discharger := omega) only [wr_id] at c_18
              exfalso
              first | omega | exact c_18 trivial)
           | (try simp (discharger := omega) only [wr_id] at c_18
              refine R_aload_n dX5_made_25 rfl rfl ?_
              refine R_getA fRX5_51 dX5_made_26 rfl (Nat.lt_of_lt_of_le (Nat.le_of_ble_eq_true rfl) hnx) rfl ?_
              refine R_iload_n dX5_made_29 rfl rfl ?_
              refine R_iload_n dX5_made_30 rfl rfl ?_
              refine R_iload_n dX5_made_31 rfl rfl ?_
              refine R_iload dX5_made_32 rfl ?_
              refine R_cS dX5_made_34 kRX5_85 vX5_place ⟨(Nat.le_of_ble_eq_true rfl), (Nat.le_of_ble_eq_true rfl)⟩ (m_place l G _ _ _ _ _) rfl ⟨(Nat.le_of_ble_eq_true rfl), (Nat.le_of_ble_eq_true rfl)⟩ rfl (Nat.le_of_ble_eq_true rfl) (fun r σ' hq hn' => ?_)
              obtain ⟨rfl, rfl⟩ := hq
              refine R_iaload (k := 768 * k + 3 * (16 * y + x) + p) dX5_made_37 rfl (Nat.lt_of_lt_of_le (Nat.le_of_ble_eq_true rfl) hnx) (by omega) (by omega) (by decide) ?_
              try rw [show (I, Rs sw, nx, tl).1 60 (768 * k + 3 * (16 * y + x) + p) = pic S k x y p from e0]
              refine R_istore dX5_made_38 (Nat.le_of_ble_eq_true rfl) ?_
              refine R_aload_n dX5_made_40 rfl rfl ?_
              refine R_getA fRX5_24 dX5_made_41 rfl (Nat.lt_of_lt_of_le (Nat.le_of_ble_eq_true rfl) hnx) rfl ?_
              refine R_iload_n dX5_made_44 rfl rfl ?_
              refine R_iaload (k := k) dX5_made_45 rfl (Nat.lt_of_lt_of_le (Nat.le_of_ble_eq_true rfl) hnx) (by omega) (by omega) (by decide) ?_
              rw [show (I, Rs sw, nx, tl).1 51 k = ((5 : Nat) : Int) from e6]
              refine R_tabIn (off := 104) (tgt := 150) dX5_made_46 (by decide) (by decide) rfl (by decide) ?_
              refine R_aload_n dX5_made_150 rfl rfl ?_
              refine R_iload_n dX5_made_151 rfl rfl ?_
              refine R_iload_n dX5_made_152 rfl rfl ?_
              refine R_iload_n dX5_made_153 rfl rfl ?_
              refine R_iload dX5_made_154 rfl ?_
              refine R_cV dX5_made_156 kRX5_112 vX5_matrixed ⟨(Nat.le_of_ble_eq_true rfl), (Nat.le_of_ble_eq_true rfl)⟩ (m_matrixed l G I sw nx tl hnx k x y p hR hO hP hk h (by omega) (by omega) (by omega)) rfl ⟨(Nat.le_of_ble_eq_true rfl), (Nat.le_of_ble_eq_true rfl)⟩ rfl (Nat.lt_of_lt_of_le (Nat.le_of_ble_eq_true rfl) hnx) rfl rfl (Nat.le_of_ble_eq_true rfl) (fun r σ' hq hn' => ?_)
              obtain ⟨rfl, rfl⟩ := hq
              refine R_iret dX5_made_159 rfl rfl rfl (Nat.le_refl _) ?_
              refine fin _ ?_
              rw [mkS, if_neg (show ¬ sK S k = 0 by omega), if_neg (show ¬ sK S k = 1 by omega), if_neg (show ¬ sK S k = 2 by omega), if_neg (show ¬ sK S k = 3 by omega), if_neg (show ¬ sK S k = 4 by omega), if_pos h])
         · first
           | (simp (discharger := omega) only [wr_id] at c_18; done)
           | (try simp (discharger := omega) only [wr_id] at c_18
              exfalso
              first | omega | exact c_18 trivial)
           | (try simp (discharger := omega) only [wr_id] at c_18
              refine R_iconst dX5_made_21 ?_
              refine R_goto (tgt := 38) dX5_made_22 (by decide) ?_
              try rw [show (I, Rs sw, nx, tl).1 60 (768 * k + 3 * (16 * y + x) + p) = pic S k x y p from e0]
              refine R_istore dX5_made_38 (Nat.le_of_ble_eq_true rfl) ?_
              refine R_aload_n dX5_made_40 rfl rfl ?_
              refine R_getA fRX5_24 dX5_made_41 rfl (Nat.lt_of_lt_of_le (Nat.le_of_ble_eq_true rfl) hnx) rfl ?_
              refine R_iload_n dX5_made_44 rfl rfl ?_
              refine R_iaload (k := k) dX5_made_45 rfl (Nat.lt_of_lt_of_le (Nat.le_of_ble_eq_true rfl) hnx) (by omega) (by omega) (by decide) ?_
              rw [show (I, Rs sw, nx, tl).1 51 k = ((5 : Nat) : Int) from e6]
              refine R_tabIn (off := 104) (tgt := 150) dX5_made_46 (by decide) (by decide) rfl (by decide) ?_
              refine R_aload_n dX5_made_150 rfl rfl ?_
              refine R_iload_n dX5_made_151 rfl rfl ?_
              refine R_iload_n dX5_made_152 rfl rfl ?_
              refine R_iload_n dX5_made_153 rfl rfl ?_
              refine R_iload dX5_made_154 rfl ?_
              refine R_cV dX5_made_156 kRX5_112 vX5_matrixed ⟨(Nat.le_of_ble_eq_true rfl), (Nat.le_of_ble_eq_true rfl)⟩ (m_matrixed l G I sw nx tl hnx k x y p hR hO hP hk h (by omega) (by omega) (by omega)) rfl ⟨(Nat.le_of_ble_eq_true rfl), (Nat.le_of_ble_eq_true rfl)⟩ rfl (Nat.lt_of_lt_of_le (Nat.le_of_ble_eq_true rfl) hnx) rfl rfl (Nat.le_of_ble_eq_true rfl) (fun r σ' hq hn' => ?_)
              obtain ⟨rfl, rfl⟩ := hq
              refine R_iret dX5_made_159 rfl rfl rfl (Nat.le_refl _) ?_
              refine fin _ ?_
              rw [mkS, if_neg (show ¬ sK S k = 0 by omega), if_neg (show ¬ sK S k = 1 by omega), if_neg (show ¬ sK S k = 2 by omega), if_neg (show ¬ sK S k = 3 by omega), if_neg (show ¬ sK S k = 4 by omega), if_pos h]))
  · rw [if_neg (by omega)] at w1 w2
    rw [if_neg (by omega)] at w3
    have e0 : I 60 (768 * k + 3 * (16 * y + x) + p) = pic S k x y p := hP x y p (by omega) (by omega) (by omega)
    have q0 := pic_rng hO k p (x := x) (y := y) (by omega) (by omega)
    rw [h] at e6
    refine Mt.ofL (ls := [ar 48, ai k, ai x, ai y, ai p, none]) (by decide) (Nat.le_of_ble_eq_true rfl) rfl ?_
    dsimp only [Km, miX5_made]
    refine R_aload_n dX5_made_0 rfl rfl ?_
    refine R_getA fRX5_24 dX5_made_1 rfl (Nat.lt_of_lt_of_le (Nat.le_of_ble_eq_true rfl) hnx) rfl ?_
    refine R_iload_n dX5_made_4 rfl rfl ?_
    refine R_iaload (k := k) dX5_made_5 rfl (Nat.lt_of_lt_of_le (Nat.le_of_ble_eq_true rfl) hnx) (by omega) (by omega) (by decide) ?_
    refine R_bipush (z := 7) dX5_made_6 rfl ?_
    rw [show (I, Rs sw, nx, tl).1 51 k = ((6 : Nat) : Int) from e6]
    refine R_icmp_eq (tgt := 21) dX5_made_8 (by decide) (fun c_8 => ?_) (fun c_8 => ?_)
    · first
      | (simp (discharger := omega) only [wr_id] at c_8; done)
      | (try simp (discharger := omega) only [wr_id] at c_8
         exfalso
         first | omega | exact c_8 trivial)
      | (try simp (discharger := omega) only [wr_id] at c_8
         refine R_iconst dX5_made_21 ?_
         refine R_goto (tgt := 38) dX5_made_22 (by decide) ?_
         try rw [show (I, Rs sw, nx, tl).1 60 (768 * k + 3 * (16 * y + x) + p) = pic S k x y p from e0]
         refine R_istore dX5_made_38 (Nat.le_of_ble_eq_true rfl) ?_
         refine R_aload_n dX5_made_40 rfl rfl ?_
         refine R_getA fRX5_24 dX5_made_41 rfl (Nat.lt_of_lt_of_le (Nat.le_of_ble_eq_true rfl) hnx) rfl ?_
         refine R_iload_n dX5_made_44 rfl rfl ?_
         refine R_iaload (k := k) dX5_made_45 rfl (Nat.lt_of_lt_of_le (Nat.le_of_ble_eq_true rfl) hnx) (by omega) (by omega) (by decide) ?_
         rw [show (I, Rs sw, nx, tl).1 51 k = ((6 : Nat) : Int) from e6]
         refine R_tabIn (off := 114) (tgt := 160) dX5_made_46 (by decide) (by decide) rfl (by decide) ?_
         refine R_aload_n dX5_made_160 rfl rfl ?_
         refine R_iload_n dX5_made_161 rfl rfl ?_
         refine R_iload dX5_made_162 rfl ?_
         refine R_cV dX5_made_164 kRX5_115 vX5_curved ⟨(Nat.le_of_ble_eq_true rfl), (Nat.le_of_ble_eq_true rfl)⟩ (m_curved l G I sw nx tl hnx k _ hR hO hk h q0) rfl ⟨(Nat.le_of_ble_eq_true rfl), (Nat.le_of_ble_eq_true rfl)⟩ rfl (Nat.lt_of_lt_of_le (Nat.le_of_ble_eq_true rfl) hnx) rfl rfl (Nat.le_of_ble_eq_true rfl) (fun r σ' hq hn' => ?_)
         obtain ⟨rfl, rfl⟩ := hq
         refine R_iret dX5_made_167 rfl rfl rfl (Nat.le_refl _) ?_
         refine fin _ ?_
         rw [mkS, if_neg (show ¬ sK S k = 0 by omega), if_neg (show ¬ sK S k = 1 by omega), if_neg (show ¬ sK S k = 2 by omega), if_neg (show ¬ sK S k = 3 by omega), if_neg (show ¬ sK S k = 4 by omega), if_neg (show ¬ sK S k = 5 by omega), if_pos h])
    · first
      | (simp (discharger := omega) only [wr_id] at c_8; done)
      | (try simp (discharger := omega) only [wr_id] at c_8
         exfalso
         first | omega | exact c_8 trivial)
      | (try simp (discharger := omega) only [wr_id] at c_8
         refine R_aload_n dX5_made_11 rfl rfl ?_
         refine R_getA fRX5_24 dX5_made_12 rfl (Nat.lt_of_lt_of_le (Nat.le_of_ble_eq_true rfl) hnx) rfl ?_
         refine R_iload_n dX5_made_15 rfl rfl ?_
         refine R_iaload (k := k) dX5_made_16 rfl (Nat.lt_of_lt_of_le (Nat.le_of_ble_eq_true rfl) hnx) (by omega) (by omega) (by decide) ?_
         refine R_iconst dX5_made_17 ?_
         rw [show (I, Rs sw, nx, tl).1 51 k = ((6 : Nat) : Int) from e6]
         refine R_icmp_ne (tgt := 25) dX5_made_18 (by decide) (fun c_18 => ?_) (fun c_18 => ?_)
         · first
           | (simp (discharger := omega) only [wr_id] at c_18; done)
           | (try simp (discharger := omega) only [wr_id] at c_18
              exfalso
              first | omega | exact c_18 trivial)
           | (try simp (discharger := omega) only [wr_id] at c_18
              refine R_aload_n dX5_made_25 rfl rfl ?_
              refine R_getA fRX5_51 dX5_made_26 rfl (Nat.lt_of_lt_of_le (Nat.le_of_ble_eq_true rfl) hnx) rfl ?_
              refine R_iload_n dX5_made_29 rfl rfl ?_
              refine R_iload_n dX5_made_30 rfl rfl ?_
              refine R_iload_n dX5_made_31 rfl rfl ?_
              refine R_iload dX5_made_32 rfl ?_
              refine R_cS dX5_made_34 kRX5_85 vX5_place ⟨(Nat.le_of_ble_eq_true rfl), (Nat.le_of_ble_eq_true rfl)⟩ (m_place l G _ _ _ _ _) rfl ⟨(Nat.le_of_ble_eq_true rfl), (Nat.le_of_ble_eq_true rfl)⟩ rfl (Nat.le_of_ble_eq_true rfl) (fun r σ' hq hn' => ?_)
              obtain ⟨rfl, rfl⟩ := hq
              refine R_iaload (k := 768 * k + 3 * (16 * y + x) + p) dX5_made_37 rfl (Nat.lt_of_lt_of_le (Nat.le_of_ble_eq_true rfl) hnx) (by omega) (by omega) (by decide) ?_
              try rw [show (I, Rs sw, nx, tl).1 60 (768 * k + 3 * (16 * y + x) + p) = pic S k x y p from e0]
              refine R_istore dX5_made_38 (Nat.le_of_ble_eq_true rfl) ?_
              refine R_aload_n dX5_made_40 rfl rfl ?_
              refine R_getA fRX5_24 dX5_made_41 rfl (Nat.lt_of_lt_of_le (Nat.le_of_ble_eq_true rfl) hnx) rfl ?_
              refine R_iload_n dX5_made_44 rfl rfl ?_
              refine R_iaload (k := k) dX5_made_45 rfl (Nat.lt_of_lt_of_le (Nat.le_of_ble_eq_true rfl) hnx) (by omega) (by omega) (by decide) ?_
              rw [show (I, Rs sw, nx, tl).1 51 k = ((6 : Nat) : Int) from e6]
              refine R_tabIn (off := 114) (tgt := 160) dX5_made_46 (by decide) (by decide) rfl (by decide) ?_
              refine R_aload_n dX5_made_160 rfl rfl ?_
              refine R_iload_n dX5_made_161 rfl rfl ?_
              refine R_iload dX5_made_162 rfl ?_
              refine R_cV dX5_made_164 kRX5_115 vX5_curved ⟨(Nat.le_of_ble_eq_true rfl), (Nat.le_of_ble_eq_true rfl)⟩ (m_curved l G I sw nx tl hnx k _ hR hO hk h q0) rfl ⟨(Nat.le_of_ble_eq_true rfl), (Nat.le_of_ble_eq_true rfl)⟩ rfl (Nat.lt_of_lt_of_le (Nat.le_of_ble_eq_true rfl) hnx) rfl rfl (Nat.le_of_ble_eq_true rfl) (fun r σ' hq hn' => ?_)
              obtain ⟨rfl, rfl⟩ := hq
              refine R_iret dX5_made_167 rfl rfl rfl (Nat.le_refl _) ?_
              refine fin _ ?_
              rw [mkS, if_neg (show ¬ sK S k = 0 by omega), if_neg (show ¬ sK S k = 1 by omega), if_neg (show ¬ sK S k = 2 by omega), if_neg (show ¬ sK S k = 3 by omega), if_neg (show ¬ sK S k = 4 by omega), if_neg (show ¬ sK S k = 5 by omega), if_pos h])
         · first
           | (simp (discharger := omega) only [wr_id] at c_18; done)
           | (try simp (discharger := omega) only [wr_id] at c_18
              exfalso
              first | omega | exact c_18 trivial)
           | (try simp (discharger := omega) only [wr_id] at c_18
              refine R_iconst dX5_made_21 ?_
              refine R_goto (tgt := 38) dX5_made_22 (by decide) ?_
              try rw [show (I, Rs sw, nx, tl).1 60 (768 * k + 3 * (16 * y + x) + p) = pic S k x y p from e0]
              refine R_istore dX5_made_38 (Nat.le_of_ble_eq_true rfl) ?_
              refine R_aload_n dX5_made_40 rfl rfl ?_
              refine R_getA fRX5_24 dX5_made_41 rfl (Nat.lt_of_lt_of_le (Nat.le_of_ble_eq_true rfl) hnx) rfl ?_
              refine R_iload_n dX5_made_44 rfl rfl ?_
              refine R_iaload (k := k) dX5_made_45 rfl (Nat.lt_of_lt_of_le (Nat.le_of_ble_eq_true rfl) hnx) (by omega) (by omega) (by decide) ?_
              rw [show (I, Rs sw, nx, tl).1 51 k = ((6 : Nat) : Int) from e6]
              refine R_tabIn (off := 114) (tgt := 160) dX5_made_46 (by decide) (by decide) rfl (by decide) ?_
              refine R_aload_n dX5_made_160 rfl rfl ?_
              refine R_iload_n dX5_made_161 rfl rfl ?_
              refine R_iload dX5_made_162 rfl ?_
              refine R_cV dX5_made_164 kRX5_115 vX5_curved ⟨(Nat.le_of_ble_eq_true rfl), (Nat.le_of_ble_eq_true rfl)⟩ (m_curved l G I sw nx tl hnx k _ hR hO hk h q0) rfl ⟨(Nat.le_of_ble_eq_true rfl), (Nat.le_of_ble_eq_true rfl)⟩ rfl (Nat.lt_of_lt_of_le (Nat.le_of_ble_eq_true rfl) hnx) rfl rfl (Nat.le_of_ble_eq_true rfl) (fun r σ' hq hn' => ?_)
              obtain ⟨rfl, rfl⟩ := hq
              refine R_iret dX5_made_167 rfl rfl rfl (Nat.le_refl _) ?_
              refine fin _ ?_
              rw [mkS, if_neg (show ¬ sK S k = 0 by omega), if_neg (show ¬ sK S k = 1 by omega), if_neg (show ¬ sK S k = 2 by omega), if_neg (show ¬ sK S k = 3 by omega), if_neg (show ¬ sK S k = 4 by omega), if_neg (show ¬ sK S k = 5 by omega), if_pos h]))
  · rw [if_pos h] at w1 w2
    rw [if_neg (by omega)] at w3
    rw [h] at e6
    refine Mt.ofL (ls := [ar 48, ai k, ai x, ai y, ai p, none]) (by decide) (Nat.le_of_ble_eq_true rfl) rfl ?_
    dsimp only [Km, miX5_made]
    refine R_aload_n dX5_made_0 rfl rfl ?_
    refine R_getA fRX5_24 dX5_made_1 rfl (Nat.lt_of_lt_of_le (Nat.le_of_ble_eq_true rfl) hnx) rfl ?_
    refine R_iload_n dX5_made_4 rfl rfl ?_
    refine R_iaload (k := k) dX5_made_5 rfl (Nat.lt_of_lt_of_le (Nat.le_of_ble_eq_true rfl) hnx) (by omega) (by omega) (by decide) ?_
    refine R_bipush (z := 7) dX5_made_6 rfl ?_
    rw [show (I, Rs sw, nx, tl).1 51 k = ((7 : Nat) : Int) from e6]
    refine R_icmp_eq (tgt := 21) dX5_made_8 (by decide) (fun c_8 => ?_) (fun c_8 => ?_)
    · first
      | (simp (discharger := omega) only [wr_id] at c_8; done)
      | (try simp (discharger := omega) only [wr_id] at c_8
         exfalso
         first | omega | exact c_8 trivial)
      | (try simp (discharger := omega) only [wr_id] at c_8
         refine R_iconst dX5_made_21 ?_
         refine R_goto (tgt := 38) dX5_made_22 (by decide) ?_
         refine R_istore dX5_made_38 (Nat.le_of_ble_eq_true rfl) ?_
         refine R_aload_n dX5_made_40 rfl rfl ?_
         refine R_getA fRX5_24 dX5_made_41 rfl (Nat.lt_of_lt_of_le (Nat.le_of_ble_eq_true rfl) hnx) rfl ?_
         refine R_iload_n dX5_made_44 rfl rfl ?_
         refine R_iaload (k := k) dX5_made_45 rfl (Nat.lt_of_lt_of_le (Nat.le_of_ble_eq_true rfl) hnx) (by omega) (by omega) (by decide) ?_
         rw [show (I, Rs sw, nx, tl).1 51 k = ((7 : Nat) : Int) from e6]
         refine R_tabOut (tgt := 168) dX5_made_46 (by decide) (by decide) ?_
         refine R_aload_n dX5_made_168 rfl rfl ?_
         refine R_iload_n dX5_made_169 rfl rfl ?_
         refine R_iload_n dX5_made_170 rfl rfl ?_
         refine R_iload_n dX5_made_171 rfl rfl ?_
         refine R_iload dX5_made_172 rfl ?_
         refine R_cV dX5_made_174 kRX5_118 vX5_halved ⟨(Nat.le_of_ble_eq_true rfl), (Nat.le_of_ble_eq_true rfl)⟩ (m_halved l G I sw nx tl hnx k x y p hO hP hk (by omega) (by omega) (by omega)) rfl ⟨(Nat.le_of_ble_eq_true rfl), (Nat.le_of_ble_eq_true rfl)⟩ rfl (Nat.lt_of_lt_of_le (Nat.le_of_ble_eq_true rfl) hnx) rfl rfl (Nat.le_of_ble_eq_true rfl) (fun r σ' hq hn' => ?_)
         obtain ⟨rfl, rfl⟩ := hq
         refine R_iret dX5_made_177 rfl rfl rfl (Nat.le_refl _) ?_
         refine fin _ ?_
         rw [mkS, if_neg (show ¬ sK S k = 0 by omega), if_neg (show ¬ sK S k = 1 by omega), if_neg (show ¬ sK S k = 2 by omega), if_neg (show ¬ sK S k = 3 by omega), if_neg (show ¬ sK S k = 4 by omega), if_neg (show ¬ sK S k = 5 by omega), if_neg (show ¬ sK S k = 6 by omega)])
    · first
      | (simp (discharger := omega) only [wr_id] at c_8; done)
      | (try simp (discharger := omega) only [wr_id] at c_8
         exfalso
         first | omega | exact c_8 trivial)
      | (try simp (discharger := omega) only [wr_id] at c_8
         refine R_aload_n dX5_made_11 rfl rfl ?_
         refine R_getA fRX5_24 dX5_made_12 rfl (Nat.lt_of_lt_of_le (Nat.le_of_ble_eq_true rfl) hnx) rfl ?_
         refine R_iload_n dX5_made_15 rfl rfl ?_
         refine R_iaload (k := k) dX5_made_16 rfl (Nat.lt_of_lt_of_le (Nat.le_of_ble_eq_true rfl) hnx) (by omega) (by omega) (by decide) ?_
         refine R_iconst dX5_made_17 ?_
         rw [show (I, Rs sw, nx, tl).1 51 k = ((7 : Nat) : Int) from e6]
         refine R_icmp_ne (tgt := 25) dX5_made_18 (by decide) (fun c_18 => ?_) (fun c_18 => ?_)
         · first
           | (simp (discharger := omega) only [wr_id] at c_18; done)
           | (try simp (discharger := omega) only [wr_id] at c_18
              exfalso
              first | omega | exact c_18 trivial)
           | (try simp (discharger := omega) only [wr_id] at c_18
              refine R_aload_n dX5_made_25 rfl rfl ?_
              refine R_getA fRX5_51 dX5_made_26 rfl (Nat.lt_of_lt_of_le (Nat.le_of_ble_eq_true rfl) hnx) rfl ?_
              refine R_iload_n dX5_made_29 rfl rfl ?_
              refine R_iload_n dX5_made_30 rfl rfl ?_
              refine R_iload_n dX5_made_31 rfl rfl ?_
              refine R_iload dX5_made_32 rfl ?_
              refine R_cS dX5_made_34 kRX5_85 vX5_place ⟨(Nat.le_of_ble_eq_true rfl), (Nat.le_of_ble_eq_true rfl)⟩ (m_place l G _ _ _ _ _) rfl ⟨(Nat.le_of_ble_eq_true rfl), (Nat.le_of_ble_eq_true rfl)⟩ rfl (Nat.le_of_ble_eq_true rfl) (fun r σ' hq hn' => ?_)
              obtain ⟨rfl, rfl⟩ := hq
              refine R_iaload (k := 768 * k + 3 * (16 * y + x) + p) dX5_made_37 rfl (Nat.lt_of_lt_of_le (Nat.le_of_ble_eq_true rfl) hnx) (by omega) (by omega) (by decide) ?_
              refine R_istore dX5_made_38 (Nat.le_of_ble_eq_true rfl) ?_
              refine R_aload_n dX5_made_40 rfl rfl ?_
              refine R_getA fRX5_24 dX5_made_41 rfl (Nat.lt_of_lt_of_le (Nat.le_of_ble_eq_true rfl) hnx) rfl ?_
              refine R_iload_n dX5_made_44 rfl rfl ?_
              refine R_iaload (k := k) dX5_made_45 rfl (Nat.lt_of_lt_of_le (Nat.le_of_ble_eq_true rfl) hnx) (by omega) (by omega) (by decide) ?_
              rw [show (I, Rs sw, nx, tl).1 51 k = ((7 : Nat) : Int) from e6]
              refine R_tabOut (tgt := 168) dX5_made_46 (by decide) (by decide) ?_
              refine R_aload_n dX5_made_168 rfl rfl ?_
              refine R_iload_n dX5_made_169 rfl rfl ?_
              refine R_iload_n dX5_made_170 rfl rfl ?_
              refine R_iload_n dX5_made_171 rfl rfl ?_
              refine R_iload dX5_made_172 rfl ?_
              refine R_cV dX5_made_174 kRX5_118 vX5_halved ⟨(Nat.le_of_ble_eq_true rfl), (Nat.le_of_ble_eq_true rfl)⟩ (m_halved l G I sw nx tl hnx k x y p hO hP hk (by omega) (by omega) (by omega)) rfl ⟨(Nat.le_of_ble_eq_true rfl), (Nat.le_of_ble_eq_true rfl)⟩ rfl (Nat.lt_of_lt_of_le (Nat.le_of_ble_eq_true rfl) hnx) rfl rfl (Nat.le_of_ble_eq_true rfl) (fun r σ' hq hn' => ?_)
              obtain ⟨rfl, rfl⟩ := hq
              refine R_iret dX5_made_177 rfl rfl rfl (Nat.le_refl _) ?_
              refine fin _ ?_
              rw [mkS, if_neg (show ¬ sK S k = 0 by omega), if_neg (show ¬ sK S k = 1 by omega), if_neg (show ¬ sK S k = 2 by omega), if_neg (show ¬ sK S k = 3 by omega), if_neg (show ¬ sK S k = 4 by omega), if_neg (show ¬ sK S k = 5 by omega), if_neg (show ¬ sK S k = 6 by omega)])
         · first
           | (simp (discharger := omega) only [wr_id] at c_18; done)
           | (try simp (discharger := omega) only [wr_id] at c_18
              exfalso
              first | omega | exact c_18 trivial)
           | (try simp (discharger := omega) only [wr_id] at c_18
              refine R_iconst dX5_made_21 ?_
              refine R_goto (tgt := 38) dX5_made_22 (by decide) ?_
              refine R_istore dX5_made_38 (Nat.le_of_ble_eq_true rfl) ?_
              refine R_aload_n dX5_made_40 rfl rfl ?_
              refine R_getA fRX5_24 dX5_made_41 rfl (Nat.lt_of_lt_of_le (Nat.le_of_ble_eq_true rfl) hnx) rfl ?_
              refine R_iload_n dX5_made_44 rfl rfl ?_
              refine R_iaload (k := k) dX5_made_45 rfl (Nat.lt_of_lt_of_le (Nat.le_of_ble_eq_true rfl) hnx) (by omega) (by omega) (by decide) ?_
              rw [show (I, Rs sw, nx, tl).1 51 k = ((7 : Nat) : Int) from e6]
              refine R_tabOut (tgt := 168) dX5_made_46 (by decide) (by decide) ?_
              refine R_aload_n dX5_made_168 rfl rfl ?_
              refine R_iload_n dX5_made_169 rfl rfl ?_
              refine R_iload_n dX5_made_170 rfl rfl ?_
              refine R_iload_n dX5_made_171 rfl rfl ?_
              refine R_iload dX5_made_172 rfl ?_
              refine R_cV dX5_made_174 kRX5_118 vX5_halved ⟨(Nat.le_of_ble_eq_true rfl), (Nat.le_of_ble_eq_true rfl)⟩ (m_halved l G I sw nx tl hnx k x y p hO hP hk (by omega) (by omega) (by omega)) rfl ⟨(Nat.le_of_ble_eq_true rfl), (Nat.le_of_ble_eq_true rfl)⟩ rfl (Nat.lt_of_lt_of_le (Nat.le_of_ble_eq_true rfl) hnx) rfl rfl (Nat.le_of_ble_eq_true rfl) (fun r σ' hq hn' => ?_)
              obtain ⟨rfl, rfl⟩ := hq
              refine R_iret dX5_made_177 rfl rfl rfl (Nat.le_refl _) ?_
              refine fin _ ?_
              rw [mkS, if_neg (show ¬ sK S k = 0 by omega), if_neg (show ¬ sK S k = 1 by omega), if_neg (show ¬ sK S k = 2 by omega), if_neg (show ¬ sK S k = 3 by omega), if_neg (show ¬ sK S k = 4 by omega), if_neg (show ¬ sK S k = 5 by omega), if_neg (show ¬ sK S k = 6 by omega)]))
end MODEL7
