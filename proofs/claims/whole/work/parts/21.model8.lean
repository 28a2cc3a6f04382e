/-! the reference: make -/
section MODEL8
variable (l : Launch) (G : GE)
def PicP (J : Nat → Nat → Int) (S : Sp) (k Y X P : Nat) : Prop := ∀ x y p, x < fW S (k + 1) → y < fH S (k + 1) → p < fP S (k + 1) → (y < Y ∨ (y = Y ∧ (x < X ∨ (x = X ∧ p < P)))) → J 60 (768 * (k + 1) + 3 * (16 * y + x) + p) = pic S (k + 1) x y p
def IvM (I J : Nat → Nat → Int) (S : Sp) (k Y X P : Nat) : Prop := (∀ p, p ≠ 60 → p ≠ 62 → J p = I p) ∧ (∀ q, q ≤ k → PicK J S q) ∧ PicP J S k Y X P
theorem Ms_of {I J : Nat → Nat → Int} {S : Sp} {n : Nat} (h : ∀ p, p ≠ 60 → p ≠ 62 → J p = I p) (hM : Ms I S n) : Ms J S n := fun q hq => by
  rw [h 55 (by decide) (by decide), h 56 (by decide) (by decide), h 57 (by decide) (by decide), h 58 (by decide) (by decide), h 59 (by decide) (by decide)]
  exact hM q hq
theorem Re_of {I J : Nat → Nat → Int} {S : Sp} (h : ∀ p, p ≠ 60 → p ≠ 62 → J p = I p) (hR : RelM I S) : RelM J S := RelM_of hR (fun p h1 h2 => h p (by omega) (by omega))
theorem IvM_put {I J J2 : Nat → Nat → Int} {S : Sp} {k Y X P : Nat} (hO : OkS S) (hk : k < sN S) (h : IvM I J S k Y X P) (hX : X < fW S (k + 1)) (hY : Y < fH S (k + 1)) (hP : P < fP S (k + 1)) (h2 : ∀ q, q ≠ 62 → J2 q = J q) : IvM I (up2 J2 60 (768 * (k + 1) + 3 * (16 * Y + X) + P) (pic S (k + 1) X Y P)) S k Y X (P + 1) := by
  have r1 := (f_rng hO (k + 1) (by omega)).1
  have r2 := (f_rng hO (k + 1) (by omega)).2.1
  have r3 := fP_13 S (k + 1)
  obtain ⟨a1, a2, a3⟩ := h
  refine ⟨fun p h3 h4 => by rw [up2_ne _ _ _ h3, h2 p h4]; exact a1 p h3 h4, fun q hq x y p hx hy hp => ?_, fun x y p hx hy hp hc => ?_⟩
  · have s1 := (f_rng hO q (by omega)).1
    have s2 := (f_rng hO q (by omega)).2.1
    have s3 := fP_13 S q
    rw [up2_self]
    dsimp only
    rw [if_neg (by omega), h2 60 (by decide)]
    exact a2 q hq x y p hx hy hp
  · rw [up2_self]
    dsimp only
    split
    · rename_i e
      have e1 : y = Y := by omega
      have e2 : x = X := by omega
      have e3 : p = P := by omega
      rw [e1, e2, e3]
    · rw [h2 60 (by decide)]
      refine a3 x y p hx hy hp ?_
      rcases hc with hc | ⟨hc1, hc | ⟨hc2, hc3⟩⟩
      · exact Or.inl hc
      · exact Or.inr ⟨hc1, Or.inl hc⟩
      · have : p ≠ P := fun q => by subst q; subst hc1; subst hc2; omega
        exact Or.inr ⟨hc1, Or.inr ⟨hc2, by omega⟩⟩
theorem ediv_rng {a b : Int} {m : Int} (ha : 0 ≤ a ∧ a ≤ m) (hb : 0 < b) : 0 ≤ a / b ∧ a / b ≤ m := ⟨Int.ediv_nonneg ha.1 (Int.le_of_lt hb), Int.le_trans (Int.ediv_le_self _ ha.1) ha.2⟩
theorem mkS_rng {S : Sp} {k x y p : Nat} (hO : OkS S) (hk : k < sN S) (hx : x < fW S (k + 1)) (hy : y < fH S (k + 1)) (hp : p < fP S (k + 1)) : inR (mkS S k (pic S k) x y p) := by
  obtain ⟨j1, j2, j3, j4, j5, j6, j7, j8⟩ := hO.2.2.2.2.2.1 k hk
  have r1 := (f_rng hO k (by omega)).1
  have r2 := (f_rng hO k (by omega)).2.1
  have r3 := fP_13 S k
  have w1 : fW S (k + 1) = if sK S k = 7 then fW S k / 2 else fW S k := rfl
  have w2 : fH S (k + 1) = if sK S k = 7 then fH S k / 2 else fH S k := rfl
  have w3 : fP S (k + 1) = if sK S k = 4 then 3 else fP S k := rfl
  have hF : ∀ a b, a < fW S k → b < fH S k → 0 ≤ pic S k a b 0 ∧ pic S k a b 0 ≤ 4095 := fun a b ha hb => pic_rng hO k 0 (by omega) (by omega)
  have x16 : x < 16 := by split at w1 <;> omega
  have y16 : y < 16 := by split at w2 <;> omega
  have q0 := pic_rng hO k p x16 y16
  have qz := pic_rng hO k 0 x16 y16
  unfold inR
  rcases (show sK S k = 0 ∨ sK S k = 1 ∨ sK S k = 2 ∨ sK S k = 3 ∨ sK S k = 4 ∨ sK S k = 5 ∨ sK S k = 6 ∨ sK S k = 7 by omega) with h | h | h | h | h | h | h | h
  · rw [mkS, if_pos h]
    have := j5 h
    omega
  · rw [mkS, if_neg (show ¬ sK S k = 0 by omega), if_pos h]
    have q1 := j6 h (cl x y) (by unfold cl; omega)
    have m1 : 0 ≤ pic S k x y p * sT S k (cl x y) := Int.mul_nonneg (by omega) (by omega)
    have m2 : pic S k x y p * sT S k (cl x y) ≤ 4095 * sT S k (cl x y) := Int.mul_le_mul_of_nonneg_right (by omega) (by omega)
    omega
  · rw [if_neg (by omega)] at w1 w2
    rw [mkS, if_neg (show ¬ sK S k = 0 by omega), if_neg (show ¬ sK S k = 1 by omega), if_pos h]
    have rg := nS_rng (d := sD S) hF (x := x) (y := y) (by omega) (by omega) 4 (by omega)
    split
    · omega
    · split
      · omega
      · have := ediv_rng (a := nS (fW S k) (fH S k) (sD S) (pic S k) x y 4) (b := nM (fW S k) (fH S k) (sD S) x y 4) (m := 16380) (by omega) (by omega)
        omega
  · rw [if_neg (by omega)] at w1 w2
    rw [mkS, if_neg (show ¬ sK S k = 0 by omega), if_neg (show ¬ sK S k = 1 by omega), if_neg (show ¬ sK S k = 2 by omega), if_pos h]
    refine so_in (fun j hj => ?_) 4 (by omega) 2 (by omega)
    unfold inR f5
    split
    · omega
    · by_cases hi : (0 ≤ (x : Int) + ovx j ∧ (x : Int) + ovx j < fW S k) ∧ (0 ≤ (y : Int) + ovy j ∧ (y : Int) + ovy j < fH S k)
      · rw [nr_in (by omega) (by omega) (by omega) hi]
        have := pic_rng hO k 0 (x := ((x : Int) + ovx j).toNat) (y := ((y : Int) + ovy j).toNat) (by omega) (by omega)
        dsimp only
        omega
      · rw [nr_out (by omega) (by omega) (by omega) hi]
        dsimp only
        omega
  · rw [mkS, if_neg (show ¬ sK S k = 0 by omega), if_neg (show ¬ sK S k = 1 by omega), if_neg (show ¬ sK S k = 2 by omega), if_neg (show ¬ sK S k = 3 by omega), if_pos h]
    have rg := tS_rng (p := p) (x := x) (y := y) hF 3
    split
    · omega
    · split
      · omega
      · have := ediv_rng (a := tS (fW S k) (fH S k) p (pic S k) x y 3) (b := tM (fW S k) (fH S k) p x y 3) (m := 36855) (by omega) (by omega)
        omega
  · rw [if_neg (by omega)] at w3
    rw [mkS, if_neg (show ¬ sK S k = 0 by omega), if_neg (show ¬ sK S k = 1 by omega), if_neg (show ¬ sK S k = 2 by omega), if_neg (show ¬ sK S k = 3 by omega), if_neg (show ¬ sK S k = 4 by omega), if_pos h]
    have rg := mX_rng (t := sT S k) (F := pic S k) (x := x) (y := y) (p := p) (fun q _ => pic_rng hO k q x16 y16) (j7 h) (by omega) 3 (by omega)
    split <;> omega
  · rw [mkS, if_neg (show ¬ sK S k = 0 by omega), if_neg (show ¬ sK S k = 1 by omega), if_neg (show ¬ sK S k = 2 by omega), if_neg (show ¬ sK S k = 3 by omega), if_neg (show ¬ sK S k = 4 by omega), if_neg (show ¬ sK S k = 5 by omega), if_pos h]
    obtain ⟨a1, a2, a3⟩ := j8 h (pic S k x y p / 256).toNat (by omega)
    obtain ⟨b1, b2, -⟩ := j8 h ((pic S k x y p / 256).toNat + 1) (by omega)
    have a4 := a3 (by omega)
    have c1 : 0 ≤ (sT S k ((pic S k x y p / 256).toNat + 1) - sT S k (pic S k x y p / 256).toNat) * (pic S k x y p % 256) := Int.mul_nonneg (by omega) (by omega)
    have c2 : (sT S k ((pic S k x y p / 256).toNat + 1) - sT S k (pic S k x y p / 256).toNat) * (pic S k x y p % 256) ≤ (sT S k ((pic S k x y p / 256).toNat + 1) - sT S k (pic S k x y p / 256).toNat) * 255 := Int.mul_le_mul_of_nonneg_left (by omega) (by omega)
    omega
  · rw [if_pos h] at w1 w2
    rw [mkS, if_neg (show ¬ sK S k = 0 by omega), if_neg (show ¬ sK S k = 1 by omega), if_neg (show ¬ sK S k = 2 by omega), if_neg (show ¬ sK S k = 3 by omega), if_neg (show ¬ sK S k = 4 by omega), if_neg (show ¬ sK S k = 5 by omega), if_neg (show ¬ sK S k = 6 by omega)]
    have rg := hX_rng (F := pic S k) (x := x) (y := y) (p := p) (fun a b ha hb => pic_rng hO k p (by omega) (by omega)) 4 (by omega)
    omega
theorem lp_mkp (I : Nat → Nat → Int) (sw : Bool) (nx : Nat) (tl : Nat → Nat) (hnx : 63 ≤ nx) (Q : Option AV → Sg → Prop) (L k y x : Nat) {S : Sp} (hR : RelM I S) (hO : OkS S) (hM : Ms I S (sN S)) (hk : k < sN S) (hx : x < fW S (k + 1)) (hy : y < fH S (k + 1))
    (hQ : ∀ (J : Nat → Nat → Int) (A B : AV), IvM I J S k y x (fP S (k + 1)) → Rr l G (Km G miX5_make 0 0 nx Q) 0 0 171 [ar 48, ai L, ai k, ai y, ai x, A, B] [] (J, Rs sw, nx, tl)) :
    ∀ (n i : Nat) (J : Nat → Nat → Int) (B : AV), fP S (k + 1) - i < n → i ≤ fP S (k + 1) → IvM I J S k y x i → Rr l G (Km G miX5_make 0 0 nx Q) 0 0 99 [ar 48, ai L, ai k, ai y, ai x, ai i, B] [] (J, Rs sw, nx, tl) := by
  have o5 := hO.2.2.2.2.1
  have r1 := (f_rng hO (k + 1) (by omega)).1
  have r2 := (f_rng hO (k + 1) (by omega)).2.1
  have r3 := fP_13 S (k + 1)
  intro n
  induction n with
  | zero => intro i J B h; omega
  | succ n ih =>
    intro i J B hn hi hJ
    have hMJ := Ms_of hJ.1 hM
    have hRJ := Re_of hJ.1 hR
    obtain ⟨-, -, q3, -⟩ := hMJ (k + 1) (by omega)
    dsimp only [Km, miX5_make] at *
    refine R_iload dX5_make_99 rfl ?_
    refine R_aload_n dX5_make_101 rfl rfl ?_
    refine R_getA fRX5_42 dX5_make_102 rfl (Nat.lt_of_lt_of_le (Nat.le_of_ble_eq_true rfl) hnx) rfl ?_
    refine R_iload_n dX5_make_105 rfl rfl ?_
    refine R_iconst dX5_make_106 ?_
    refine R_iadd dX5_make_107 ?_
    refine R_iaload (k := k + 1) dX5_make_108 rfl (Nat.lt_of_lt_of_le (Nat.le_of_ble_eq_true rfl) hnx) (by omega) (by omega) (by decide) ?_
    rw [show (J, Rs sw, nx, tl).1 57 (k + 1) = (fP S (k + 1) : Int) from q3]
    refine R_icmp_ge (tgt := 171) dX5_make_109 (by decide) (fun c_109 => ?_) (fun c_109 => ?_)
    · first
      | (simp (discharger := omega) only [wr_id] at c_109; done)
      | (try simp (discharger := omega) only [wr_id] at c_109
         exfalso
         first | omega | exact c_109 trivial)
      | (try simp (discharger := omega) only [wr_id] at c_109
         have e : i = fP S (k + 1) := by omega
         subst e
         exact hQ J _ _ hJ)
    · first
      | (simp (discharger := omega) only [wr_id] at c_109; done)
      | (try simp (discharger := omega) only [wr_id] at c_109
         exfalso
         first | omega | exact c_109 trivial)
      | (try simp (discharger := omega) only [wr_id] at c_109
         refine R_aload_n dX5_make_112 rfl rfl ?_
         refine R_iload_n dX5_make_113 rfl rfl ?_
         refine R_iload dX5_make_114 rfl ?_
         refine R_iload_n dX5_make_116 rfl rfl ?_
         refine R_iload dX5_make_117 rfl ?_
         refine R_cV dX5_make_119 kRX5_121 vX5_made ⟨(Nat.le_of_ble_eq_true rfl), (Nat.le_of_ble_eq_true rfl)⟩ (m_made l G J sw nx tl hnx k x y i hRJ hO hMJ (hJ.2.1 k (Nat.le_refl k)) hk hx hy (by omega)) rfl ⟨(Nat.le_of_ble_eq_true rfl), (Nat.le_of_ble_eq_true rfl)⟩ rfl (Nat.lt_of_lt_of_le (Nat.le_of_ble_eq_true rfl) hnx) rfl rfl (Nat.le_of_ble_eq_true rfl) (fun r σ' hq hn' => ?_)
         obtain ⟨J2, rfl, rfl, h2⟩ := hq
         have rg := mkS_rng hO hk hx hy (p := i) (by omega)
         unfold inR at rg
         have nxt : ∀ z : Int, z = clamp (mkS S k (pic S k) x y i) → ∀ B : AV, Rr l G (Km G miX5_make 0 0 nx Q) 0 0 99 [ar 48, ai L, ai k, ai y, ai x, ai ((i : Int) + 1), B] [] (up2 J2 60 (768 * (k + 1) + 3 * (16 * y + x) + i) z, Rs sw, nx, tl) := fun z hz B => by (rw [hz]; exact ih (i + 1) _ B (by omega) (by omega) (IvM_put hO hk hJ hx hy (by omega) h2))
         dsimp only [Km, miX5_make] at nxt
         generalize mkS S k (pic S k) x y i = v at *
         refine R_istore dX5_make_122 (Nat.le_of_ble_eq_true rfl) ?_
         refine R_aload_n dX5_make_124 rfl rfl ?_
         refine R_getA fRX5_51 dX5_make_125 rfl (Nat.lt_of_lt_of_le (Nat.le_of_ble_eq_true rfl) hnx) rfl ?_
         refine R_iload_n dX5_make_128 rfl rfl ?_
         refine R_iconst dX5_make_129 ?_
         refine R_iadd dX5_make_130 ?_
         refine R_iload dX5_make_131 rfl ?_
         refine R_iload_n dX5_make_133 rfl rfl ?_
         refine R_iload dX5_make_134 rfl ?_
         refine R_cS dX5_make_136 kRX5_85 vX5_place ⟨(Nat.le_of_ble_eq_true rfl), (Nat.le_of_ble_eq_true rfl)⟩ (m_place l G _ _ _ _ _) rfl ⟨(Nat.le_of_ble_eq_true rfl), (Nat.le_of_ble_eq_true rfl)⟩ rfl (Nat.le_of_ble_eq_true rfl) (fun r σ' hq hn' => ?_)
         obtain ⟨rfl, rfl⟩ := hq
         refine R_iload dX5_make_139 rfl ?_
         refine R_if_ge (tgt := 148) dX5_make_141 (by decide) (fun c_141 => ?_) (fun c_141 => ?_)
         · first
           | (simp (discharger := omega) only [wr_id] at c_141; done)
           | (try simp (discharger := omega) only [wr_id] at c_141
              exfalso
              first | omega | exact c_141 trivial)
           | (try simp (discharger := omega) only [wr_id] at c_141
              refine R_iload dX5_make_148 rfl ?_
              refine R_sipush (z := 4095) dX5_make_150 rfl ?_
              refine R_icmp_le (tgt := 162) dX5_make_153 (by decide) (fun c_153 => ?_) (fun c_153 => ?_)
              · first
                | (simp (discharger := omega) only [wr_id] at c_153; done)
                | (try simp (discharger := omega) only [wr_id] at c_153
                   exfalso
                   first | omega | exact c_153 trivial)
                | (try simp (discharger := omega) only [wr_id] at c_153
                   refine R_iload dX5_make_162 rfl ?_
                   refine R_iastore (k := 768 * (k + 1) + 3 * (16 * y + x) + i) dX5_make_164 rfl (Nat.lt_of_lt_of_le (Nat.le_of_ble_eq_true rfl) hnx) (by omega) (by omega) (by decide) ?_
                   refine R_iinc dX5_make_165 rfl (Nat.le_of_ble_eq_true rfl) ?_
                   refine R_goto (tgt := 99) dX5_make_168 (by decide) ?_
                   first
                   | (exact nxt _ (by rw [clamp, if_pos (by omega)]) _)
                   | (exact nxt _ (by rw [clamp, if_neg (by omega), if_pos (by omega)]) _)
                   | (exact nxt _ (by rw [clamp, if_neg (by omega), if_neg (by omega)]) _))
              · first
                | (simp (discharger := omega) only [wr_id] at c_153; done)
                | (try simp (discharger := omega) only [wr_id] at c_153
                   exfalso
                   first | omega | exact c_153 trivial)
                | (try simp (discharger := omega) only [wr_id] at c_153
                   refine R_sipush (z := 4095) dX5_make_156 rfl ?_
                   refine R_goto (tgt := 164) dX5_make_159 (by decide) ?_
                   refine R_iastore (k := 768 * (k + 1) + 3 * (16 * y + x) + i) dX5_make_164 rfl (Nat.lt_of_lt_of_le (Nat.le_of_ble_eq_true rfl) hnx) (by omega) (by omega) (by decide) ?_
                   refine R_iinc dX5_make_165 rfl (Nat.le_of_ble_eq_true rfl) ?_
                   refine R_goto (tgt := 99) dX5_make_168 (by decide) ?_
                   first
                   | (exact nxt _ (by rw [clamp, if_pos (by omega)]) _)
                   | (exact nxt _ (by rw [clamp, if_neg (by omega), if_pos (by omega)]) _)
                   | (exact nxt _ (by rw [clamp, if_neg (by omega), if_neg (by omega)]) _)))
         · first
           | (simp (discharger := omega) only [wr_id] at c_141; done)
           | (try simp (discharger := omega) only [wr_id] at c_141
              exfalso
              first | omega | exact c_141 trivial)
           | (try simp (discharger := omega) only [wr_id] at c_141
              refine R_iconst dX5_make_144 ?_
              refine R_goto (tgt := 164) dX5_make_145 (by decide) ?_
              refine R_iastore (k := 768 * (k + 1) + 3 * (16 * y + x) + i) dX5_make_164 rfl (Nat.lt_of_lt_of_le (Nat.le_of_ble_eq_true rfl) hnx) (by omega) (by omega) (by decide) ?_
              refine R_iinc dX5_make_165 rfl (Nat.le_of_ble_eq_true rfl) ?_
              refine R_goto (tgt := 99) dX5_make_168 (by decide) ?_
              first
              | (exact nxt _ (by rw [clamp, if_pos (by omega)]) _)
              | (exact nxt _ (by rw [clamp, if_neg (by omega), if_pos (by omega)]) _)
              | (exact nxt _ (by rw [clamp, if_neg (by omega), if_neg (by omega)]) _)))
theorem lp_mkx (I : Nat → Nat → Int) (sw : Bool) (nx : Nat) (tl : Nat → Nat) (hnx : 63 ≤ nx) (Q : Option AV → Sg → Prop) (L k y : Nat) {S : Sp} (hR : RelM I S) (hO : OkS S) (hM : Ms I S (sN S)) (hk : k < sN S) (hy : y < fH S (k + 1))
    (hQ : ∀ (J : Nat → Nat → Int) (A B C : AV), IvM I J S k (y + 1) 0 0 → Rr l G (Km G miX5_make 0 0 nx Q) 0 0 177 [ar 48, ai L, ai k, ai y, A, B, C] [] (J, Rs sw, nx, tl)) :
    ∀ (n i : Nat) (J : Nat → Nat → Int) (A B : AV), fW S (k + 1) - i < n → i ≤ fW S (k + 1) → IvM I J S k y i 0 → Rr l G (Km G miX5_make 0 0 nx Q) 0 0 83 [ar 48, ai L, ai k, ai y, ai i, A, B] [] (J, Rs sw, nx, tl) := by
  have o5 := hO.2.2.2.2.1
  have r1 := (f_rng hO (k + 1) (by omega)).1
  intro n
  induction n with
  | zero => intro i J A B h; omega
  | succ n ih =>
    intro i J A B hn hi hJ
    have hMJ := Ms_of hJ.1 hM
    obtain ⟨q1, -⟩ := hMJ (k + 1) (by omega)
    have cont : i < fW S (k + 1) → ∀ (J : Nat → Nat → Int) (A B : AV), IvM I J S k y i (fP S (k + 1)) → Rr l G (Km G miX5_make 0 0 nx Q) 0 0 171 [ar 48, ai L, ai k, ai y, ai i, A, B] [] (J, Rs sw, nx, tl) := fun hlt J A B h => by
      have h0 := ih (i + 1) J A B (by omega) (by omega) ⟨h.1, h.2.1, fun x y2 p hx hy2 hp hc => h.2.2 x y2 p hx hy2 hp (by omega)⟩
      dsimp only [Km, miX5_make] at *
      refine R_iinc dX5_make_171 rfl (Nat.le_of_ble_eq_true rfl) ?_
      refine R_goto (tgt := 83) dX5_make_174 (by decide) ?_
      exact h0
    dsimp only [Km, miX5_make] at *
    refine R_iload dX5_make_83 rfl ?_
    refine R_aload_n dX5_make_85 rfl rfl ?_
    refine R_getA fRX5_36 dX5_make_86 rfl (Nat.lt_of_lt_of_le (Nat.le_of_ble_eq_true rfl) hnx) rfl ?_
    refine R_iload_n dX5_make_89 rfl rfl ?_
    refine R_iconst dX5_make_90 ?_
    refine R_iadd dX5_make_91 ?_
    refine R_iaload (k := k + 1) dX5_make_92 rfl (Nat.lt_of_lt_of_le (Nat.le_of_ble_eq_true rfl) hnx) (by omega) (by omega) (by decide) ?_
    rw [show (J, Rs sw, nx, tl).1 55 (k + 1) = (fW S (k + 1) : Int) from q1]
    refine R_icmp_ge (tgt := 177) dX5_make_93 (by decide) (fun c_93 => ?_) (fun c_93 => ?_)
    · first
      | (simp (discharger := omega) only [wr_id] at c_93; done)
      | (try simp (discharger := omega) only [wr_id] at c_93
         exfalso
         first | omega | exact c_93 trivial)
      | (try simp (discharger := omega) only [wr_id] at c_93
         exact hQ J _ _ _ ⟨hJ.1, hJ.2.1, fun x y2 p hx hy2 hp hc => hJ.2.2 x y2 p hx hy2 hp (by omega)⟩)
    · first
      | (simp (discharger := omega) only [wr_id] at c_93; done)
      | (try simp (discharger := omega) only [wr_id] at c_93
         exfalso
         first | omega | exact c_93 trivial)
      | (try simp (discharger := omega) only [wr_id] at c_93
         refine R_iconst dX5_make_96 ?_
         refine R_istore dX5_make_97 (Nat.le_of_ble_eq_true rfl) ?_
         exact lp_mkp l G I sw nx tl hnx Q L k y i hR hO hM hk (by omega) hy (cont (by omega)) (fP S (k + 1) + 1) 0 J B (by omega) (by omega) hJ)
theorem lp_mky (I : Nat → Nat → Int) (sw : Bool) (nx : Nat) (tl : Nat → Nat) (hnx : 63 ≤ nx) (Q : Option AV → Sg → Prop) (L k : Nat) {S : Sp} (hR : RelM I S) (hO : OkS S) (hM : Ms I S (sN S)) (hk : k < sN S)
    (hQ : ∀ (J : Nat → Nat → Int) (A B C D : AV), (∀ p, p ≠ 60 → p ≠ 62 → J p = I p) → (∀ q, q ≤ k + 1 → PicK J S q) → Rr l G (Km G miX5_make 0 0 nx Q) 0 0 183 [ar 48, ai L, ai k, A, B, C, D] [] (J, Rs sw, nx, tl)) :
    ∀ (n i : Nat) (J : Nat → Nat → Int) (A B C : AV), fH S (k + 1) - i < n → i ≤ fH S (k + 1) → IvM I J S k i 0 0 → Rr l G (Km G miX5_make 0 0 nx Q) 0 0 68 [ar 48, ai L, ai k, ai i, A, B, C] [] (J, Rs sw, nx, tl) := by
  have o5 := hO.2.2.2.2.1
  have r2 := (f_rng hO (k + 1) (by omega)).2.1
  intro n
  induction n with
  | zero => intro i J A B C h; omega
  | succ n ih =>
    intro i J A B C hn hi hJ
    have hMJ := Ms_of hJ.1 hM
    obtain ⟨-, q2, -⟩ := hMJ (k + 1) (by omega)
    have cont : i < fH S (k + 1) → ∀ (J : Nat → Nat → Int) (A B C : AV), IvM I J S k (i + 1) 0 0 → Rr l G (Km G miX5_make 0 0 nx Q) 0 0 177 [ar 48, ai L, ai k, ai i, A, B, C] [] (J, Rs sw, nx, tl) := fun hlt J A B C h => by
      have h0 := ih (i + 1) J A B C (by omega) (by omega) h
      dsimp only [Km, miX5_make] at *
      refine R_iinc dX5_make_177 rfl (Nat.le_of_ble_eq_true rfl) ?_
      refine R_goto (tgt := 68) dX5_make_180 (by decide) ?_
      exact h0
    dsimp only [Km, miX5_make] at *
    refine R_iload_n dX5_make_68 rfl rfl ?_
    refine R_aload_n dX5_make_69 rfl rfl ?_
    refine R_getA fRX5_39 dX5_make_70 rfl (Nat.lt_of_lt_of_le (Nat.le_of_ble_eq_true rfl) hnx) rfl ?_
    refine R_iload_n dX5_make_73 rfl rfl ?_
    refine R_iconst dX5_make_74 ?_
    refine R_iadd dX5_make_75 ?_
    refine R_iaload (k := k + 1) dX5_make_76 rfl (Nat.lt_of_lt_of_le (Nat.le_of_ble_eq_true rfl) hnx) (by omega) (by omega) (by decide) ?_
    rw [show (J, Rs sw, nx, tl).1 56 (k + 1) = (fH S (k + 1) : Int) from q2]
    refine R_icmp_ge (tgt := 183) dX5_make_77 (by decide) (fun c_77 => ?_) (fun c_77 => ?_)
    · first
      | (simp (discharger := omega) only [wr_id] at c_77; done)
      | (try simp (discharger := omega) only [wr_id] at c_77
         exfalso
         first | omega | exact c_77 trivial)
      | (try simp (discharger := omega) only [wr_id] at c_77
         refine hQ J _ _ _ _ hJ.1 (fun q hq => ?_)
         rcases Nat.lt_or_ge q (k + 1) with h | h
         · exact hJ.2.1 q (by omega)
         · have e : q = k + 1 := by omega
           subst e
           exact fun x y p hx hy hp => hJ.2.2 x y p hx hy hp (by omega))
    · first
      | (simp (discharger := omega) only [wr_id] at c_77; done)
      | (try simp (discharger := omega) only [wr_id] at c_77
         exfalso
         first | omega | exact c_77 trivial)
      | (try simp (discharger := omega) only [wr_id] at c_77
         refine R_iconst dX5_make_80 ?_
         refine R_istore dX5_make_81 (Nat.le_of_ble_eq_true rfl) ?_
         exact lp_mkx l G I sw nx tl hnx Q L k i hR hO hM hk (by omega) (cont (by omega)) (fW S (k + 1) + 1) 0 J B C (by omega) (by omega) hJ)
end MODEL8
