/-! the reference: part, bound -/
section MODEL10
variable (l : Launch) (G : GE)
def rP (S : Sp) (p x b : Nat) : Nat → Int
  | 0 => 0
  | n + 1 => rP S p x b n + pic S (sN S) (x + n) b p
def sPt (S : Sp) (p x y w : Nat) : Nat → Int
  | 0 => 0
  | n + 1 => sPt S p x y w n + rP S p x (y + n) w
theorem rP_rng {S : Sp} (hO : OkS S) {p x b : Nat} (hb : b < 16) : ∀ n : Nat, x + n ≤ 16 → 0 ≤ rP S p x b n ∧ rP S p x b n ≤ 4095 * n
  | 0, _ => ⟨Int.le_refl 0, Int.le_refl 0⟩
  | n + 1, h => by
    have ih := rP_rng hO (p := p) (x := x) hb n (by omega)
    have := pic_rng hO (sN S) p (x := x + n) (y := b) (by omega) hb
    simp only [rP]
    omega
theorem sPt_rng {S : Sp} (hO : OkS S) {p x y w : Nat} (hw : x + w ≤ 16) : ∀ n : Nat, y + n ≤ 16 → 0 ≤ sPt S p x y w n ∧ sPt S p x y w n ≤ 65520 * n
  | 0, _ => ⟨Int.le_refl 0, Int.le_refl 0⟩
  | n + 1, h => by
    have ih := sPt_rng hO (p := p) (y := y) hw n (by omega)
    have := rP_rng hO (p := p) (x := x) (b := y + n) (by omega) w hw
    simp only [sPt]
    omega
def o_part (S : Sp) (x y w h p : Int) : Int := if ((0 ≤ x ∧ 0 ≤ y ∧ 1 ≤ w ∧ 1 ≤ h) ∧ x + w ≤ fW S (sN S) ∧ y + h ≤ fH S (sN S)) ∧ (0 ≤ p ∧ p < fP S (sN S)) then sPt S p.toNat x.toNat y.toNat w.toNat h.toNat else -102
theorem lp_part2 (I : Nat → Nat → Int) (sw : Bool) (nx : Nat) (tl : Nat → Nat) (hnx : 63 ≤ nx) (Q : Option AV → Sg → Prop) (x y w h p b : Nat) (s : Int) {S : Sp} (hR : RelM I S) (hO : OkS S) (hP : PicK I S (sN S)) (hx : x + w ≤ fW S (sN S)) (hb : b < fH S (sN S)) (hp : p < fP S (sN S))
    (hQ : ∀ A : AV, Rr l G (Km G miX5_part 0 0 nx Q) 0 0 98 [ar 48, ai x, ai y, ai w, ai h, ai p, ai (s + rP S p x b w), ai b, A] [] (I, Rs sw, nx, tl)) :
    ∀ (n i : Nat), w - i < n → i ≤ w → Rr l G (Km G miX5_part 0 0 nx Q) 0 0 61 [ar 48, ai x, ai y, ai w, ai h, ai p, ai (s + rP S p x b i), ai b, ai ((x : Int) + i)] [] (I, Rs sw, nx, tl) := by
  have o5 := hO.2.2.2.2.1
  have g5 := hR.2.2.2.2.1
  have r1 := (f_rng hO (sN S) (Nat.le_refl _)).1
  have r2 := (f_rng hO (sN S) (Nat.le_refl _)).2.1
  have r3 := fP_13 S (sN S)
  intro n
  induction n with
  | zero => intro i h; omega
  | succ n ih =>
    intro i hn hi
    have ih2 : i < w → ∀ u : Int, u = s + rP S p x b (i + 1) → Rr l G (Km G miX5_part 0 0 nx Q) 0 0 61 [ar 48, ai x, ai y, ai w, ai h, ai p, ai u, ai b, ai ((x : Int) + i + 1)] [] (I, Rs sw, nx, tl) := fun hlt u hu => by
      have h0 := ih (i + 1) (by omega) (by omega)
      rw [← hu, show (x : Int) + ((i + 1 : Nat) : Int) = (x : Int) + i + 1 by omega] at h0
      exact h0
    dsimp only [Km, miX5_part] at *
    refine R_iload dX5_part_61 rfl ?_
    refine R_iload_n dX5_part_63 rfl rfl ?_
    refine R_iload_n dX5_part_64 rfl rfl ?_
    refine R_iadd dX5_part_65 ?_
    refine R_icmp_ge (tgt := 98) dX5_part_66 (by decide) (fun c_66 => ?_) (fun c_66 => ?_)
    · first
      | (simp (discharger := omega) only [wr_id] at c_66; done)
      | (try simp (discharger := omega) only [wr_id] at c_66
         exfalso
         first | omega | exact c_66 trivial)
      | (try simp (discharger := omega) only [wr_id] at c_66
         have e : i = w := by omega
         subst e
         exact hQ _)
    · first
      | (simp (discharger := omega) only [wr_id] at c_66; done)
      | (try simp (discharger := omega) only [wr_id] at c_66
         exfalso
         first | omega | exact c_66 trivial)
      | (try simp (discharger := omega) only [wr_id] at c_66
         refine R_iload dX5_part_69 rfl ?_
         refine R_aload_n dX5_part_71 rfl rfl ?_
         refine R_getA fRX5_51 dX5_part_72 rfl (Nat.lt_of_lt_of_le (Nat.le_of_ble_eq_true rfl) hnx) rfl ?_
         refine R_aload_n dX5_part_75 rfl rfl ?_
         refine R_getI fRX5_64 dX5_part_76 rfl (Nat.lt_of_lt_of_le (Nat.le_of_ble_eq_true rfl) hnx) ?_
         refine R_iload dX5_part_79 rfl ?_
         refine R_iload dX5_part_81 rfl ?_
         refine R_iload dX5_part_83 rfl ?_
         rw [show (I, Rs sw, nx, tl).1 48 4 = (sN S : Int) from g5]
         refine R_cS dX5_part_85 kRX5_85 vX5_place ⟨(Nat.le_of_ble_eq_true rfl), (Nat.le_of_ble_eq_true rfl)⟩ (m_place l G _ _ _ _ _) rfl ⟨(Nat.le_of_ble_eq_true rfl), (Nat.le_of_ble_eq_true rfl)⟩ rfl (Nat.le_of_ble_eq_true rfl) (fun r σ' hq hn' => ?_)
         obtain ⟨rfl, rfl⟩ := hq
         refine R_iaload (k := 768 * sN S + 3 * (16 * b + (x + i)) + p) dX5_part_88 rfl (Nat.lt_of_lt_of_le (Nat.le_of_ble_eq_true rfl) hnx) (by omega) (by omega) (by decide) ?_
         rw [show (I, Rs sw, nx, tl).1 60 (768 * sN S + 3 * (16 * b + (x + i)) + p) = pic S (sN S) (x + i) b p from hP _ _ _ (by omega) hb hp]
         refine R_iadd dX5_part_89 ?_
         refine R_istore dX5_part_90 (Nat.le_of_ble_eq_true rfl) ?_
         refine R_iinc dX5_part_92 rfl (Nat.le_of_ble_eq_true rfl) ?_
         refine R_goto (tgt := 61) dX5_part_95 (by decide) ?_
         exact ih2 (by omega) _ (by simp only [rP]; omega))
theorem lp_part1 (I : Nat → Nat → Int) (sw : Bool) (nx : Nat) (tl : Nat → Nat) (hnx : 63 ≤ nx) (Q : Option AV → Sg → Prop) (x y w h p : Nat) {S : Sp} (hR : RelM I S) (hO : OkS S) (hP : PicK I S (sN S)) (hx : x + w ≤ fW S (sN S)) (hy : y + h ≤ fH S (sN S)) (hp : p < fP S (sN S)) (hQ : Q (some (ai (sPt S p x y w h))) (I, Rs sw, nx, tl)) :
    ∀ (n i : Nat) (A : AV), h - i < n → i ≤ h → Rr l G (Km G miX5_part 0 0 nx Q) 0 0 49 [ar 48, ai x, ai y, ai w, ai h, ai p, ai (sPt S p x y w i), ai ((y : Int) + i), A] [] (I, Rs sw, nx, tl) := by
  have o5 := hO.2.2.2.2.1
  have r1 := (f_rng hO (sN S) (Nat.le_refl _)).1
  have r2 := (f_rng hO (sN S) (Nat.le_refl _)).2.1
  intro n
  induction n with
  | zero => intro i A h; omega
  | succ n ih =>
    intro i A hn hi
    have cont : i < h → ∀ A : AV, Rr l G (Km G miX5_part 0 0 nx Q) 0 0 98 [ar 48, ai x, ai y, ai w, ai h, ai p, ai (sPt S p x y w i + rP S p x (y + i) w), ai ((y + i : Nat) : Int), A] [] (I, Rs sw, nx, tl) := fun hlt A => by
      have h0 := ih (i + 1) A (by omega) (by omega)
      rw [show (y : Int) + ((i + 1 : Nat) : Int) = ((y + i : Nat) : Int) + 1 by omega] at h0
      dsimp only [Km, miX5_part] at *
      refine R_iinc dX5_part_98 rfl (Nat.le_of_ble_eq_true rfl) ?_
      refine R_goto (tgt := 49) dX5_part_101 (by decide) ?_
      exact h0
    dsimp only [Km, miX5_part] at *
    refine R_iload dX5_part_49 rfl ?_
    refine R_iload_n dX5_part_51 rfl rfl ?_
    refine R_iload dX5_part_52 rfl ?_
    refine R_iadd dX5_part_54 ?_
    refine R_icmp_ge (tgt := 104) dX5_part_55 (by decide) (fun c_55 => ?_) (fun c_55 => ?_)
    · first
      | (simp (discharger := omega) only [wr_id] at c_55; done)
      | (try simp (discharger := omega) only [wr_id] at c_55
         exfalso
         first | omega | exact c_55 trivial)
      | (try simp (discharger := omega) only [wr_id] at c_55
         refine R_iload dX5_part_104 rfl ?_
         refine R_iret dX5_part_106 rfl rfl rfl (Nat.le_refl _) ?_
         have e : i = h := by omega
         subst e
         exact hQ)
    · first
      | (simp (discharger := omega) only [wr_id] at c_55; done)
      | (try simp (discharger := omega) only [wr_id] at c_55
         exfalso
         first | omega | exact c_55 trivial)
      | (try simp (discharger := omega) only [wr_id] at c_55
         refine R_iload_n dX5_part_58 rfl rfl ?_
         refine R_istore dX5_part_59 (Nat.le_of_ble_eq_true rfl) ?_
         have h0 := lp_part2 l G I sw nx tl hnx Q x y w h p (y + i) (sPt S p x y w i) hR hO hP hx (by omega) hp (cont (by omega)) (w + 1) 0 (by omega) (by omega)
         rw [show sPt S p x y w i + rP S p x (y + i) 0 = sPt S p x y w i from Int.add_zero _, show (x : Int) + ((0 : Nat) : Int) = (x : Int) from Int.add_zero _] at h0
         exact h0)
theorem m_part (I : Nat → Nat → Int) (sw : Bool) (nx : Nat) (tl : Nat → Nat) (hnx : 63 ≤ nx) (x y w h p : Int) (rx : inR x) (ry : inR y) (rw1 : inR w) (rh : inR h) (rp : inR p) {S : Sp} (hR : RelM I S) (hO : OkS S) : Mt l G miX5_part 0 0 [ar 48, ai x, ai y, ai w, ai h, ai p] (I, Rs sw, nx, tl) (QI sw nx tl (fun r I' => (∀ p, p < 48 → I' p = I p) ∧ r = some (ai (o_part S x y w h p)) ∧ RelM I' S)) := by
  have o5 := hO.2.2.2.2.1
  have g5 := hR.2.2.2.2.1
  have rp2 := rp
  unfold inR at rp2
  have r1 := (f_rng hO (sN S) (Nat.le_refl _)).1
  have r2 := (f_rng hO (sN S) (Nat.le_refl _)).2.1
  have r3 := fP_13 S (sN S)
  refine Mt.ofL (ls := [ar 48, ai x, ai y, ai w, ai h, ai p, none, none, none]) (by decide) (Nat.le_of_ble_eq_true rfl) rfl ?_
  dsimp only [Km, miX5_part]
  refine R_aload_n dX5_part_0 rfl rfl ?_
  refine R_aload_n dX5_part_1 rfl rfl ?_
  refine R_getI fRX5_64 dX5_part_2 rfl (Nat.lt_of_lt_of_le (Nat.le_of_ble_eq_true rfl) hnx) ?_
  rw [show (I, Rs sw, nx, tl).1 48 4 = (sN S : Int) from g5]
  refine R_cV dX5_part_5 kRX5_124 vX5_make ⟨(Nat.le_of_ble_eq_true rfl), (Nat.le_of_ble_eq_true rfl)⟩ (m_make l G I sw nx tl hnx (sN S) hR hO (Nat.le_refl _)) rfl ⟨(Nat.le_of_ble_eq_true rfl), (Nat.le_of_ble_eq_true rfl)⟩ rfl (Nat.lt_of_lt_of_le (Nat.le_of_ble_eq_true rfl) hnx) rfl rfl (Nat.le_of_ble_eq_true rfl) (fun r σ' hq hn' => ?_)
  obtain ⟨J, rfl, rfl, hF, hM, hP⟩ := hq
  have hRJ : RelM J S := RelM_of hR (fun p h1 h2 => hF p (by omega))
  have e5 := hRJ.2.2.2.2.1
  obtain ⟨-, -, q3, -⟩ := hM (sN S) (Nat.le_refl _)
  have fin : ∀ z : Int, z = o_part S x y w h p → QI sw nx tl (fun r I' => (∀ p, p < 48 → I' p = I p) ∧ r = some (ai (o_part S x y w h p)) ∧ RelM I' S) (some (ai z)) (J, Rs sw, nx, tl) := fun z hz => ⟨J, rfl, fun p hp => hF p (by omega), by rw [hz], hRJ⟩
  refine R_aload_n dX5_part_8 rfl rfl ?_
  refine R_iload_n dX5_part_9 rfl rfl ?_
  refine R_iload_n dX5_part_10 rfl rfl ?_
  refine R_iload_n dX5_part_11 rfl rfl ?_
  refine R_iload dX5_part_12 rfl ?_
  refine R_cV dX5_part_14 kRX5_128 vX5_isPart ⟨(Nat.le_of_ble_eq_true rfl), (Nat.le_of_ble_eq_true rfl)⟩ (m_isPart l G J sw nx tl hnx x y w h rx ry rw1 rh hRJ hO hM) rfl ⟨(Nat.le_of_ble_eq_true rfl), (Nat.le_of_ble_eq_true rfl)⟩ rfl (Nat.lt_of_lt_of_le (Nat.le_of_ble_eq_true rfl) hnx) rfl rfl (Nat.le_of_ble_eq_true rfl) (fun r σ' hq hn' => ?_)
  obtain ⟨⟨b14, rfl, hb14⟩, rfl⟩ := hq
  unfold inPt at hb14
  refine R_if_eq (tgt := 40) dX5_part_17 (by decide) (fun c_17 => ?_) (fun c_17 => ?_)
  · first
    | (simp (discharger := omega) only [wr_id] at c_17; done)
    | (try simp (discharger := omega) only [wr_id] at c_17
       exfalso
       first | omega | exact c_17 trivial)
    | (try simp (discharger := omega) only [wr_id] at c_17
       refine R_bipush (z := (-102)) dX5_part_40 rfl ?_
       refine R_iret dX5_part_42 rfl rfl rfl (Nat.le_refl _) ?_
       refine fin _ ?_
       rw [o_part, if_neg (by omega)])
  · first
    | (simp (discharger := omega) only [wr_id] at c_17; done)
    | (try simp (discharger := omega) only [wr_id] at c_17
       exfalso
       first | omega | exact c_17 trivial)
    | (try simp (discharger := omega) only [wr_id] at c_17
       refine R_iload dX5_part_20 rfl ?_
       refine R_iconst dX5_part_22 ?_
       refine R_aload_n dX5_part_23 rfl rfl ?_
       refine R_getA fRX5_42 dX5_part_24 rfl (Nat.lt_of_lt_of_le (Nat.le_of_ble_eq_true rfl) hnx) rfl ?_
       refine R_aload_n dX5_part_27 rfl rfl ?_
       refine R_getI fRX5_64 dX5_part_28 rfl (Nat.lt_of_lt_of_le (Nat.le_of_ble_eq_true rfl) hnx) ?_
       rw [show (J, Rs sw, nx, tl).1 48 4 = (sN S : Int) from e5]
       refine R_iaload (k := sN S) dX5_part_31 rfl (Nat.lt_of_lt_of_le (Nat.le_of_ble_eq_true rfl) hnx) (by omega) (by omega) (by decide) ?_
       refine R_iconst dX5_part_32 ?_
       refine R_isub dX5_part_33 ?_
       rw [show (J, Rs sw, nx, tl).1 57 (sN S) = (fP S (sN S) : Int) from q3]
       refine R_cS dX5_part_34 kRX5_60 vX5_in ⟨(Nat.le_of_ble_eq_true rfl), (Nat.le_of_ble_eq_true rfl)⟩ (b_in l G _ _ _ _) rfl ⟨(Nat.le_of_ble_eq_true rfl), (Nat.le_of_ble_eq_true rfl)⟩ rfl (Nat.le_of_ble_eq_true rfl) (fun r σ' hq hn' => ?_)
       obtain ⟨⟨b34, rfl, hb34⟩, rfl⟩ := hq
       try simp (discharger := omega) only [wr_id] at hb34
       refine R_if_ne (tgt := 43) dX5_part_37 (by decide) (fun c_37 => ?_) (fun c_37 => ?_)
       · first
         | (simp (discharger := omega) only [wr_id] at c_37; done)
         | (try simp (discharger := omega) only [wr_id] at c_37
            exfalso
            first | omega | exact c_37 trivial)
         | (try simp (discharger := omega) only [wr_id] at c_37
            refine R_iconst dX5_part_43 ?_
            refine R_istore dX5_part_44 (Nat.le_of_ble_eq_true rfl) ?_
            refine R_iload_n dX5_part_46 rfl rfl ?_
            refine R_istore dX5_part_47 (Nat.le_of_ble_eq_true rfl) ?_
            obtain ⟨a, rfl⟩ : ∃ a : Nat, x = a := ⟨x.toNat, by omega⟩
            obtain ⟨b, rfl⟩ : ∃ a : Nat, y = a := ⟨y.toNat, by omega⟩
            obtain ⟨c, rfl⟩ : ∃ a : Nat, w = a := ⟨w.toNat, by omega⟩
            obtain ⟨d, rfl⟩ : ∃ a : Nat, h = a := ⟨h.toNat, by omega⟩
            obtain ⟨q, rfl⟩ : ∃ a : Nat, p = a := ⟨p.toNat, by omega⟩
            have h0 := lp_part1 l G J sw nx tl hnx _ a b c d q hRJ hO (hP (sN S) (Nat.le_refl _)) (by omega) (by omega) (by omega) (fin _ (by rw [o_part, if_pos (by omega), Int.toNat_natCast, Int.toNat_natCast, Int.toNat_natCast, Int.toNat_natCast, Int.toNat_natCast])) (d + 1) 0 none (by omega) (by omega)
            rw [show (b : Int) + ((0 : Nat) : Int) = (b : Int) from Int.add_zero _] at h0
            exact h0)
       · first
         | (simp (discharger := omega) only [wr_id] at c_37; done)
         | (try simp (discharger := omega) only [wr_id] at c_37
            exfalso
            first | omega | exact c_37 trivial)
         | (try simp (discharger := omega) only [wr_id] at c_37
            refine R_bipush (z := (-102)) dX5_part_40 rfl ?_
            refine R_iret dX5_part_42 rfl rfl rfl (Nat.le_refl _) ?_
            refine fin _ ?_
            rw [o_part, if_neg (by omega)]))
end MODEL10
