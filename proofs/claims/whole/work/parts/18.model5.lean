/-! the reference: MATRIX, CURVE, HALF of one number -/
section MODEL5
variable (l : Launch) (G : GE)
theorem mX_rng {t : Nat → Int} {F : Nat → Nat → Nat → Int} {x y p : Nat} (hF : ∀ q, q < 3 → 0 ≤ F x y q ∧ F x y q ≤ 4095) (ht : ∀ i, i < 9 → -4000 ≤ t i ∧ t i ≤ 4000) (hp : p < 3) : ∀ n : Nat, n ≤ 3 → -16380000 * (n : Int) ≤ mX t F x y p n ∧ mX t F x y p n ≤ 16380000 * n
  | 0, _ => ⟨Int.le_refl 0, Int.le_refl 0⟩
  | n + 1, h => by
    have ih := mX_rng hF ht hp n (by omega)
    have h1 := hF n (by omega)
    have h2 := ht (3 * p + n) (by omega)
    have h3 : t (3 * p + n) * F x y n ≤ 4000 * F x y n := Int.mul_le_mul_of_nonneg_right h2.2 h1.1
    have h4 : -4000 * F x y n ≤ t (3 * p + n) * F x y n := Int.mul_le_mul_of_nonneg_right h2.1 h1.1
    simp only [mX]
    omega
theorem lp_matrixed (I : Nat → Nat → Int) (sw : Bool) (nx : Nat) (tl : Nat → Nat) (hnx : 63 ≤ nx) (Q : Option AV → Sg → Prop) (k x y p : Nat) {S : Sp} (hR : RelM I S) (hO : OkS S) (hP : PicK I S k) (hk : k < sN S) (h5 : sK S k = 5) (hx : x < fW S k) (hy : y < fH S k) (hp : p < 3) (h3 : fP S k = 3)
    (hQ : Rr l G (Km G miX5_matrixed 0 0 nx Q) 0 0 54 [ar 48, ai k, ai x, ai y, ai p, ai (mX (sT S k) (pic S k) x y p 3), ai 3] [] (I, Rs sw, nx, tl)) :
    ∀ (n i : Nat), 3 - i < n → i ≤ 3 → Rr l G (Km G miX5_matrixed 0 0 nx Q) 0 0 6 [ar 48, ai k, ai x, ai y, ai p, ai (mX (sT S k) (pic S k) x y p i), ai i] [] (I, Rs sw, nx, tl) := by
  have o5 := hO.2.2.2.2.1
  have r1 := (f_rng hO k (by omega)).1
  have r2 := (f_rng hO k (by omega)).2.1
  obtain ⟨g1, g2, g3, g4, g5, g6, g7, g8, g9⟩ := id hR
  have hm : many (sK S k) = 9 := by rw [h5]; rfl
  intro n
  induction n with
  | zero => intro i h; omega
  | succ n ih =>
    intro i hn hi
    dsimp only [Km, miX5_matrixed] at *
    have ih2 : ∀ z : Int, i < 3 → z = mX (sT S k) (pic S k) x y p (i + 1) → _ := fun z hlt hz => hz ▸ ih (i + 1) (by omega) (by omega)
    refine R_iload dX5_matrixed_6 rfl ?_
    refine R_iconst dX5_matrixed_8 ?_
    refine R_icmp_ge (tgt := 54) dX5_matrixed_9 (by decide) (fun c_9 => ?_) (fun c_9 => ?_)
    · first
      | (simp (discharger := omega) only [wr_id] at c_9; done)
      | (try simp (discharger := omega) only [wr_id] at c_9
         exfalso
         first | omega | exact c_9 trivial)
      | (try simp (discharger := omega) only [wr_id] at c_9
         have e : i = 3 := by omega
         subst e
         exact hQ)
    · first
      | (simp (discharger := omega) only [wr_id] at c_9; done)
      | (try simp (discharger := omega) only [wr_id] at c_9
         exfalso
         first | omega | exact c_9 trivial)
      | (try simp (discharger := omega) only [wr_id] at c_9
         refine R_iload dX5_matrixed_12 rfl ?_
         refine R_aload_n dX5_matrixed_14 rfl rfl ?_
         refine R_getA fRX5_27 dX5_matrixed_15 rfl (Nat.lt_of_lt_of_le (Nat.le_of_ble_eq_true rfl) hnx) rfl ?_
         refine R_bipush (z := 17) dX5_matrixed_18 rfl ?_
         refine R_iload_n dX5_matrixed_20 rfl rfl ?_
         refine R_imul dX5_matrixed_21 ?_
         refine R_iconst dX5_matrixed_22 ?_
         refine R_iload dX5_matrixed_23 rfl ?_
         refine R_imul dX5_matrixed_25 ?_
         refine R_iadd dX5_matrixed_26 ?_
         refine R_iload dX5_matrixed_27 rfl ?_
         refine R_iadd dX5_matrixed_29 ?_
         refine R_iaload (k := 17 * k + (3 * p + i)) dX5_matrixed_30 rfl (Nat.lt_of_lt_of_le (Nat.le_of_ble_eq_true rfl) hnx) (by omega) (by omega) (by decide) ?_
         refine R_aload_n dX5_matrixed_31 rfl rfl ?_
         refine R_getA fRX5_51 dX5_matrixed_32 rfl (Nat.lt_of_lt_of_le (Nat.le_of_ble_eq_true rfl) hnx) rfl ?_
         refine R_iload_n dX5_matrixed_35 rfl rfl ?_
         refine R_iload_n dX5_matrixed_36 rfl rfl ?_
         refine R_iload_n dX5_matrixed_37 rfl rfl ?_
         refine R_iload dX5_matrixed_38 rfl ?_
         refine R_cS dX5_matrixed_40 kRX5_85 vX5_place ⟨(Nat.le_of_ble_eq_true rfl), (Nat.le_of_ble_eq_true rfl)⟩ (m_place l G _ _ _ _ _) rfl ⟨(Nat.le_of_ble_eq_true rfl), (Nat.le_of_ble_eq_true rfl)⟩ rfl (Nat.le_of_ble_eq_true rfl) (fun r σ' hq hn' => ?_)
         obtain ⟨rfl, rfl⟩ := hq
         refine R_iaload (k := 768 * k + 3 * (16 * y + x) + i) dX5_matrixed_43 rfl (Nat.lt_of_lt_of_le (Nat.le_of_ble_eq_true rfl) hnx) (by omega) (by omega) (by decide) ?_
         rw [show (I, Rs sw, nx, tl).1 52 (17 * k + (3 * p + i)) = sT S k (3 * p + i) from g7 k hk _ (by omega), show (I, Rs sw, nx, tl).1 60 (768 * k + 3 * (16 * y + x) + i) = pic S k x y i from hP _ _ _ (by omega) (by omega) (by omega)]
         refine R_imul dX5_matrixed_44 ?_
         refine R_iadd dX5_matrixed_45 ?_
         refine R_istore dX5_matrixed_46 (Nat.le_of_ble_eq_true rfl) ?_
         refine R_iinc dX5_matrixed_48 rfl (Nat.le_of_ble_eq_true rfl) ?_
         refine R_goto (tgt := 6) dX5_matrixed_51 (by decide) ?_
         exact ih2 _ (by omega) rfl)
theorem m_matrixed (I : Nat → Nat → Int) (sw : Bool) (nx : Nat) (tl : Nat → Nat) (hnx : 63 ≤ nx) (k x y p : Nat) {S : Sp} (hR : RelM I S) (hO : OkS S) (hP : PicK I S k) (hk : k < sN S) (h5 : sK S k = 5) (hx : x < fW S k) (hy : y < fH S k) (hp : p < 3) : Mt l G miX5_matrixed 0 0 [ar 48, ai k, ai x, ai y, ai p] (I, Rs sw, nx, tl) (fun r σ' => r = some (ai (if mX (sT S k) (pic S k) x y p 3 < 0 then 0 else mX (sT S k) (pic S k) x y p 3 / 1000)) ∧ σ' = (I, Rs sw, nx, tl)) := by
  obtain ⟨-, -, j3, -, -, -, j7, -⟩ := hO.2.2.2.2.2.1 k hk
  have r1 := (f_rng hO k (by omega)).1
  have r2 := (f_rng hO k (by omega)).2.1
  have rg := mX_rng (t := sT S k) (F := pic S k) (x := x) (y := y) (p := p) (fun q _ => pic_rng hO k q (by omega) (by omega)) (j7 h5) hp 3 (by omega)
  refine Mt.ofL (ls := [ar 48, ai k, ai x, ai y, ai p, none, none]) (by decide) (Nat.le_of_ble_eq_true rfl) rfl ?_
  dsimp only [Km, miX5_matrixed]
  refine R_iconst dX5_matrixed_0 ?_
  refine R_istore dX5_matrixed_1 (Nat.le_of_ble_eq_true rfl) ?_
  refine R_iconst dX5_matrixed_3 ?_
  refine R_istore dX5_matrixed_4 (Nat.le_of_ble_eq_true rfl) ?_
  refine lp_matrixed l G I sw nx tl hnx _ k x y p hR hO hP hk h5 hx hy hp (j3 (by omega)) ?_ 4 0 (by omega) (by omega)
  dsimp only [Km, miX5_matrixed]
  refine R_iload dX5_matrixed_54 rfl ?_
  refine R_if_ge (tgt := 63) dX5_matrixed_56 (by decide) (fun c_56 => ?_) (fun c_56 => ?_)
  · first
    | (simp (discharger := omega) only [wr_id] at c_56; done)
    | (try simp (discharger := omega) only [wr_id] at c_56
       exfalso
       first | omega | exact c_56 trivial)
    | (try simp (discharger := omega) only [wr_id] at c_56
       refine R_iload dX5_matrixed_63 rfl ?_
       refine R_sipush (z := 1000) dX5_matrixed_65 rfl ?_
       refine R_idiv dX5_matrixed_68 (by decide) ?_
       refine R_iret dX5_matrixed_69 rfl rfl rfl (Nat.le_refl _) ?_
       first
       | (exact ⟨sa (by rw [if_pos (by omega)]), rfl⟩)
       | (exact ⟨sa (by rw [if_neg (by omega), bDivI (by omega) (by omega)]), rfl⟩))
  · first
    | (simp (discharger := omega) only [wr_id] at c_56; done)
    | (try simp (discharger := omega) only [wr_id] at c_56
       exfalso
       first | omega | exact c_56 trivial)
    | (try simp (discharger := omega) only [wr_id] at c_56
       refine R_iconst dX5_matrixed_59 ?_
       refine R_goto (tgt := 69) dX5_matrixed_60 (by decide) ?_
       refine R_iret dX5_matrixed_69 rfl rfl rfl (Nat.le_refl _) ?_
       first
       | (exact ⟨sa (by rw [if_pos (by omega)]), rfl⟩)
       | (exact ⟨sa (by rw [if_neg (by omega), bDivI (by omega) (by omega)]), rfl⟩))
theorem m_curved (I : Nat → Nat → Int) (sw : Bool) (nx : Nat) (tl : Nat → Nat) (hnx : 63 ≤ nx) (k : Nat) (v : Int) {S : Sp} (hR : RelM I S) (hO : OkS S) (hk : k < sN S) (h6 : sK S k = 6) (hv : 0 ≤ v ∧ v ≤ 4095) : Mt l G miX5_curved 0 0 [ar 48, ai k, ai v] (I, Rs sw, nx, tl) (fun r σ' => r = some (ai (sT S k (v / 256).toNat + (sT S k ((v / 256).toNat + 1) - sT S k (v / 256).toNat) * (v % 256) / 256)) ∧ σ' = (I, Rs sw, nx, tl)) := by
  have o5 := hO.2.2.2.2.1
  obtain ⟨g1, g2, g3, g4, g5, g6, g7, g8, g9⟩ := id hR
  have hm : many (sK S k) = 17 := by rw [h6]; rfl
  obtain ⟨-, -, -, -, -, -, -, j8⟩ := hO.2.2.2.2.2.1 k hk
  obtain ⟨a1, a2, a3⟩ := j8 h6 (v / 256).toNat (by omega)
  obtain ⟨b1, b2, -⟩ := j8 h6 ((v / 256).toNat + 1) (by omega)
  have a4 := a3 (by omega)
  have e1 : bDiv v 256 = v / 256 := bDivI (by omega) (by omega)
  have e2 : bRem v 256 = v % 256 := bRemI (by omega) (by omega)
  have c1 : 0 ≤ (sT S k ((v / 256).toNat + 1) - sT S k (v / 256).toNat) * (v % 256) := Int.mul_nonneg (by omega) (by omega)
  have c2 : (sT S k ((v / 256).toNat + 1) - sT S k (v / 256).toNat) * (v % 256) ≤ (sT S k ((v / 256).toNat + 1) - sT S k (v / 256).toNat) * 255 := Int.mul_le_mul_of_nonneg_left (by omega) (by omega)
  have q1 := g7 k hk (v / 256).toNat (by omega)
  have q2 := g7 k hk ((v / 256).toNat + 1) (by omega)
  refine Mt.ofL (ls := [ar 48, ai k, ai v, none, none]) (by decide) (Nat.le_of_ble_eq_true rfl) rfl ?_
  dsimp only [Km, miX5_curved]
  refine R_iload_n dX5_curved_0 rfl rfl ?_
  refine R_sipush (z := 256) dX5_curved_1 rfl ?_
  refine R_idiv dX5_curved_4 (by decide) ?_
  rw [e1]
  refine R_istore_n dX5_curved_5 rfl (Nat.le_of_ble_eq_true rfl) ?_
  refine R_aload_n dX5_curved_6 rfl rfl ?_
  refine R_getA fRX5_27 dX5_curved_7 rfl (Nat.lt_of_lt_of_le (Nat.le_of_ble_eq_true rfl) hnx) rfl ?_
  refine R_bipush (z := 17) dX5_curved_10 rfl ?_
  refine R_iload_n dX5_curved_12 rfl rfl ?_
  refine R_imul dX5_curved_13 ?_
  refine R_iload_n dX5_curved_14 rfl rfl ?_
  refine R_iadd dX5_curved_15 ?_
  refine R_iaload (k := 17 * k + (v / 256).toNat) dX5_curved_16 rfl (Nat.lt_of_lt_of_le (Nat.le_of_ble_eq_true rfl) hnx) (by omega) (by omega) (by decide) ?_
  rw [show (I, Rs sw, nx, tl).1 52 (17 * k + (v / 256).toNat) = sT S k (v / 256).toNat from q1]
  refine R_istore dX5_curved_17 (Nat.le_of_ble_eq_true rfl) ?_
  refine R_iload dX5_curved_19 rfl ?_
  refine R_aload_n dX5_curved_21 rfl rfl ?_
  refine R_getA fRX5_27 dX5_curved_22 rfl (Nat.lt_of_lt_of_le (Nat.le_of_ble_eq_true rfl) hnx) rfl ?_
  refine R_bipush (z := 17) dX5_curved_25 rfl ?_
  refine R_iload_n dX5_curved_27 rfl rfl ?_
  refine R_imul dX5_curved_28 ?_
  refine R_iload_n dX5_curved_29 rfl rfl ?_
  refine R_iadd dX5_curved_30 ?_
  refine R_iconst dX5_curved_31 ?_
  refine R_iadd dX5_curved_32 ?_
  refine R_iaload (k := 17 * k + ((v / 256).toNat + 1)) dX5_curved_33 rfl (Nat.lt_of_lt_of_le (Nat.le_of_ble_eq_true rfl) hnx) (by omega) (by omega) (by decide) ?_
  rw [show (I, Rs sw, nx, tl).1 52 (17 * k + ((v / 256).toNat + 1)) = sT S k ((v / 256).toNat + 1) from q2]
  refine R_iload dX5_curved_34 rfl ?_
  refine R_isub dX5_curved_36 ?_
  refine R_iload_n dX5_curved_37 rfl rfl ?_
  refine R_sipush (z := 256) dX5_curved_38 rfl ?_
  refine R_irem dX5_curved_41 (by decide) ?_
  rw [e2]
  refine R_imul dX5_curved_42 ?_
  refine R_sipush (z := 256) dX5_curved_43 rfl ?_
  refine R_idiv dX5_curved_46 (by decide) ?_
  rw [bDivI (by omega) (by omega)]
  refine R_iadd dX5_curved_47 ?_
  refine R_iret dX5_curved_48 rfl rfl rfl (Nat.le_refl _) ?_
  exact ⟨rfl, rfl⟩
theorem lp_halved (I : Nat → Nat → Int) (sw : Bool) (nx : Nat) (tl : Nat → Nat) (hnx : 63 ≤ nx) (Q : Option AV → Sg → Prop) (k x y p : Nat) {S : Sp} (hO : OkS S) (hP : PicK I S k) (hk : k < sN S) (hx : 2 * x + 1 < fW S k) (hy : 2 * y + 1 < fH S k) (hp : p < fP S k)
    (hQ : Rr l G (Km G miX5_halved 0 0 nx Q) 0 0 50 [ar 48, ai k, ai x, ai y, ai p, ai (hX (pic S k) x y p 4), ai 4] [] (I, Rs sw, nx, tl)) :
    ∀ (n i : Nat), 4 - i < n → i ≤ 4 → Rr l G (Km G miX5_halved 0 0 nx Q) 0 0 6 [ar 48, ai k, ai x, ai y, ai p, ai (hX (pic S k) x y p i), ai i] [] (I, Rs sw, nx, tl) := by
  have o5 := hO.2.2.2.2.1
  have r1 := (f_rng hO k (by omega)).1
  have r2 := (f_rng hO k (by omega)).2.1
  have r3 := fP_13 S k
  intro n
  induction n with
  | zero => intro i h; omega
  | succ n ih =>
    intro i hn hi
    dsimp only [Km, miX5_halved] at *
    have ih2 : ∀ z : Int, i < 4 → z = hX (pic S k) x y p (i + 1) → _ := fun z hlt hz => hz ▸ ih (i + 1) (by omega) (by omega)
    have e1 : bRem i 2 = ((i % 2 : Nat) : Int) := bRemN (y := 2) (by omega) (by omega) (by omega)
    have e2 : bDiv i 2 = ((i / 2 : Nat) : Int) := bDivN (y := 2) (by omega) (by omega) (by omega)
    refine R_iload dX5_halved_6 rfl ?_
    refine R_iconst dX5_halved_8 ?_
    refine R_icmp_ge (tgt := 50) dX5_halved_9 (by decide) (fun c_9 => ?_) (fun c_9 => ?_)
    · first
      | (simp (discharger := omega) only [wr_id] at c_9; done)
      | (try simp (discharger := omega) only [wr_id] at c_9
         exfalso
         first | omega | exact c_9 trivial)
      | (try simp (discharger := omega) only [wr_id] at c_9
         have e : i = 4 := by omega
         subst e
         exact hQ)
    · first
      | (simp (discharger := omega) only [wr_id] at c_9; done)
      | (try simp (discharger := omega) only [wr_id] at c_9
         exfalso
         first | omega | exact c_9 trivial)
      | (try simp (discharger := omega) only [wr_id] at c_9
         refine R_iload dX5_halved_12 rfl ?_
         refine R_aload_n dX5_halved_14 rfl rfl ?_
         refine R_getA fRX5_51 dX5_halved_15 rfl (Nat.lt_of_lt_of_le (Nat.le_of_ble_eq_true rfl) hnx) rfl ?_
         refine R_iload_n dX5_halved_18 rfl rfl ?_
         refine R_iconst dX5_halved_19 ?_
         refine R_iload_n dX5_halved_20 rfl rfl ?_
         refine R_imul dX5_halved_21 ?_
         refine R_iload dX5_halved_22 rfl ?_
         refine R_iconst dX5_halved_24 ?_
         refine R_irem dX5_halved_25 (by decide) ?_
         rw [e1]
         refine R_iadd dX5_halved_26 ?_
         refine R_iconst dX5_halved_27 ?_
         refine R_iload_n dX5_halved_28 rfl rfl ?_
         refine R_imul dX5_halved_29 ?_
         refine R_iload dX5_halved_30 rfl ?_
         refine R_iconst dX5_halved_32 ?_
         refine R_idiv dX5_halved_33 (by decide) ?_
         rw [e2]
         refine R_iadd dX5_halved_34 ?_
         refine R_iload dX5_halved_35 rfl ?_
         refine R_cS dX5_halved_37 kRX5_85 vX5_place ⟨(Nat.le_of_ble_eq_true rfl), (Nat.le_of_ble_eq_true rfl)⟩ (m_place l G _ _ _ _ _) rfl ⟨(Nat.le_of_ble_eq_true rfl), (Nat.le_of_ble_eq_true rfl)⟩ rfl (Nat.le_of_ble_eq_true rfl) (fun r σ' hq hn' => ?_)
         obtain ⟨rfl, rfl⟩ := hq
         refine R_iaload (k := 768 * k + 3 * (16 * (2 * y + i / 2) + (2 * x + i % 2)) + p) dX5_halved_40 rfl (Nat.lt_of_lt_of_le (Nat.le_of_ble_eq_true rfl) hnx) (by omega) (by omega) (by decide) ?_
         rw [show (I, Rs sw, nx, tl).1 60 (768 * k + 3 * (16 * (2 * y + i / 2) + (2 * x + i % 2)) + p) = pic S k (2 * x + i % 2) (2 * y + i / 2) p from hP _ _ _ (by omega) (by omega) (by omega)]
         refine R_iadd dX5_halved_41 ?_
         refine R_istore dX5_halved_42 (Nat.le_of_ble_eq_true rfl) ?_
         refine R_iinc dX5_halved_44 rfl (Nat.le_of_ble_eq_true rfl) ?_
         refine R_goto (tgt := 6) dX5_halved_47 (by decide) ?_
         exact ih2 _ (by omega) rfl)
theorem hX_rng {F : Nat → Nat → Nat → Int} {x y p : Nat} (hF : ∀ a b, a ≤ 2 * x + 1 → b ≤ 2 * y + 1 → 0 ≤ F a b p ∧ F a b p ≤ 4095) : ∀ n : Nat, n ≤ 4 → 0 ≤ hX F x y p n ∧ hX F x y p n ≤ 4095 * n
  | 0, _ => ⟨Int.le_refl 0, Int.le_refl 0⟩
  | n + 1, h => by
    have ih := hX_rng hF n (by omega)
    have h1 := hF (2 * x + n % 2) (2 * y + n / 2) (by omega) (by omega)
    simp only [hX]
    omega
theorem m_halved (I : Nat → Nat → Int) (sw : Bool) (nx : Nat) (tl : Nat → Nat) (hnx : 63 ≤ nx) (k x y p : Nat) {S : Sp} (hO : OkS S) (hP : PicK I S k) (hk : k < sN S) (hx : 2 * x + 1 < fW S k) (hy : 2 * y + 1 < fH S k) (hp : p < fP S k) : Mt l G miX5_halved 0 0 [ar 48, ai k, ai x, ai y, ai p] (I, Rs sw, nx, tl) (fun r σ' => r = some (ai (hX (pic S k) x y p 4 / 4)) ∧ σ' = (I, Rs sw, nx, tl)) := by
  have r1 := (f_rng hO k (by omega)).1
  have r2 := (f_rng hO k (by omega)).2.1
  have rg := hX_rng (F := pic S k) (x := x) (y := y) (p := p) (fun a b ha hb => pic_rng hO k p (by omega) (by omega)) 4 (by omega)
  refine Mt.ofL (ls := [ar 48, ai k, ai x, ai y, ai p, none, none]) (by decide) (Nat.le_of_ble_eq_true rfl) rfl ?_
  dsimp only [Km, miX5_halved]
  refine R_iconst dX5_halved_0 ?_
  refine R_istore dX5_halved_1 (Nat.le_of_ble_eq_true rfl) ?_
  refine R_iconst dX5_halved_3 ?_
  refine R_istore dX5_halved_4 (Nat.le_of_ble_eq_true rfl) ?_
  refine lp_halved l G I sw nx tl hnx _ k x y p hO hP hk hx hy hp ?_ 5 0 (by omega) (by omega)
  dsimp only [Km, miX5_halved]
  refine R_iload dX5_halved_50 rfl ?_
  refine R_iconst dX5_halved_52 ?_
  refine R_idiv dX5_halved_53 (by decide) ?_
  refine R_iret dX5_halved_54 rfl rfl rfl (Nat.le_refl _) ?_
  exact ⟨sa (bDivI (by omega) (by omega)), rfl⟩
end MODEL5
