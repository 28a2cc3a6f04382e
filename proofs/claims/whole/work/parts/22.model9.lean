/-! the reference: make, whole -/
section MODEL9
variable (l : Launch) (G : GE)
theorem lp_mkk (I : Nat → Nat → Int) (sw : Bool) (nx : Nat) (tl : Nat → Nat) (hnx : 63 ≤ nx) (Q : Option AV → Sg → Prop) (L : Nat) {S : Sp} (hR : RelM I S) (hO : OkS S) (hM : Ms I S (sN S)) (hL : L ≤ sN S)
    (hQ : ∀ J : Nat → Nat → Int, (∀ p, p ≠ 60 → p ≠ 62 → J p = I p) → (∀ q, q ≤ L → PicK J S q) → Q none (J, Rs sw, nx, tl)) :
    ∀ (n i : Nat) (J : Nat → Nat → Int) (A B C D : AV), L - i < n → i ≤ L → (∀ p, p ≠ 60 → p ≠ 62 → J p = I p) → (∀ q, q ≤ i → PicK J S q) → Rr l G (Km G miX5_make 0 0 nx Q) 0 0 61 [ar 48, ai L, ai i, A, B, C, D] [] (J, Rs sw, nx, tl) := by
  have o5 := hO.2.2.2.2.1
  intro n
  induction n with
  | zero => intro i J A B C D h; omega
  | succ n ih =>
    intro i J A B C D hn hi hF hP
    have cont : i < L → ∀ (J : Nat → Nat → Int) (A B C D : AV), (∀ p, p ≠ 60 → p ≠ 62 → J p = I p) → (∀ q, q ≤ i + 1 → PicK J S q) → Rr l G (Km G miX5_make 0 0 nx Q) 0 0 183 [ar 48, ai L, ai i, A, B, C, D] [] (J, Rs sw, nx, tl) := fun hlt J A B C D h1 h2 => by
      have h0 := ih (i + 1) J A B C D (by omega) (by omega) h1 h2
      dsimp only [Km, miX5_make] at *
      refine R_iinc dX5_make_183 rfl (Nat.le_of_ble_eq_true rfl) ?_
      refine R_goto (tgt := 61) dX5_make_186 (by decide) ?_
      exact h0
    dsimp only [Km, miX5_make] at *
    refine R_iload_n dX5_make_61 rfl rfl ?_
    refine R_iload_n dX5_make_62 rfl rfl ?_
    refine R_icmp_ge (tgt := 189) dX5_make_63 (by decide) (fun c_63 => ?_) (fun c_63 => ?_)
    · first
      | (simp (discharger := omega) only [wr_id] at c_63; done)
      | (try simp (discharger := omega) only [wr_id] at c_63
         exfalso
         first | omega | exact c_63 trivial)
      | (try simp (discharger := omega) only [wr_id] at c_63
         have e : i = L := by omega
         subst e
         exact R_vret dX5_make_189 rfl rfl rfl (Nat.le_refl _) (hQ J hF hP))
    · first
      | (simp (discharger := omega) only [wr_id] at c_63; done)
      | (try simp (discharger := omega) only [wr_id] at c_63
         exfalso
         first | omega | exact c_63 trivial)
      | (try simp (discharger := omega) only [wr_id] at c_63
         refine R_iconst dX5_make_66 ?_
         refine R_istore_n dX5_make_67 rfl (Nat.le_of_ble_eq_true rfl) ?_
         exact lp_mky l G I sw nx tl hnx Q L i hR hO hM (by omega) (cont (by omega)) (fH S (i + 1) + 1) 0 J B C D (by omega) (by omega) ⟨hF, hP, fun x y p hx hy hp hc => by omega⟩)
/-- cells of the rows ahead, and of this row's places ahead, are taken -/
def Tk (J : Nat → Nat → Int) (S : Sp) (Y X : Nat) : Prop := ∀ x y, x < sW S → y < sH S → (y < Y ∨ (y = Y ∧ x < X)) → J 60 (3 * (16 * y + x)) = sC S (16 * y + x)
theorem lp_tkx (I : Nat → Nat → Int) (sw : Bool) (nx : Nat) (tl : Nat → Nat) (hnx : 63 ≤ nx) (Q : Option AV → Sg → Prop) (L y : Nat) {S : Sp} (hR : RelM I S) (hO : OkS S) (hy : y < sH S)
    (hQ : ∀ (J : Nat → Nat → Int) (A : AV), (∀ p, p ≠ 60 → p ≠ 62 → J p = I p) → Tk J S (y + 1) 0 → Rr l G (Km G miX5_make 0 0 nx Q) 0 0 53 [ar 48, ai L, ai y, A, none, none, none] [] (J, Rs sw, nx, tl)) :
    ∀ (n i : Nat) (J : Nat → Nat → Int), sW S - i < n → i ≤ sW S → (∀ p, p ≠ 60 → p ≠ 62 → J p = I p) → Tk J S y i → Rr l G (Km G miX5_make 0 0 nx Q) 0 0 16 [ar 48, ai L, ai y, ai i, none, none, none] [] (J, Rs sw, nx, tl) := by
  have o1 := hO.1
  have o2 := hO.2.1
  intro n
  induction n with
  | zero => intro i J h; omega
  | succ n ih =>
    intro i J hn hi hF hT
    obtain ⟨g1, g2, g3, g4, g5, g6, g7, g8, g9⟩ := Re_of hF hR
    dsimp only [Km, miX5_make] at *
    refine R_iload_n dX5_make_16 rfl rfl ?_
    refine R_aload_n dX5_make_17 rfl rfl ?_
    refine R_getI fRX5_7 dX5_make_18 rfl (Nat.lt_of_lt_of_le (Nat.le_of_ble_eq_true rfl) hnx) ?_
    rw [show (J, Rs sw, nx, tl).1 48 0 = (sW S : Int) from g1]
    refine R_icmp_ge (tgt := 53) dX5_make_21 (by decide) (fun c_21 => ?_) (fun c_21 => ?_)
    · first
      | (simp (discharger := omega) only [wr_id] at c_21; done)
      | (try simp (discharger := omega) only [wr_id] at c_21
         exfalso
         first | omega | exact c_21 trivial)
      | (try simp (discharger := omega) only [wr_id] at c_21
         exact hQ J _ hF (fun x y2 hx hy2 hc => hT x y2 hx hy2 (by omega)))
    · first
      | (simp (discharger := omega) only [wr_id] at c_21; done)
      | (try simp (discharger := omega) only [wr_id] at c_21
         exfalso
         first | omega | exact c_21 trivial)
      | (try simp (discharger := omega) only [wr_id] at c_21
         refine R_aload_n dX5_make_24 rfl rfl ?_
         refine R_getA fRX5_51 dX5_make_25 rfl (Nat.lt_of_lt_of_le (Nat.le_of_ble_eq_true rfl) hnx) rfl ?_
         refine R_iconst dX5_make_28 ?_
         refine R_iload_n dX5_make_29 rfl rfl ?_
         refine R_iload_n dX5_make_30 rfl rfl ?_
         refine R_iconst dX5_make_31 ?_
         refine R_cS dX5_make_32 kRX5_85 vX5_place ⟨(Nat.le_of_ble_eq_true rfl), (Nat.le_of_ble_eq_true rfl)⟩ (m_place l G _ _ _ _ _) rfl ⟨(Nat.le_of_ble_eq_true rfl), (Nat.le_of_ble_eq_true rfl)⟩ rfl (Nat.le_of_ble_eq_true rfl) (fun r σ' hq hn' => ?_)
         obtain ⟨rfl, rfl⟩ := hq
         refine R_aload_n dX5_make_35 rfl rfl ?_
         refine R_getA fRX5_16 dX5_make_36 rfl (Nat.lt_of_lt_of_le (Nat.le_of_ble_eq_true rfl) hnx) rfl ?_
         refine R_bipush (z := 16) dX5_make_39 rfl ?_
         refine R_iload_n dX5_make_41 rfl rfl ?_
         refine R_imul dX5_make_42 ?_
         refine R_iload_n dX5_make_43 rfl rfl ?_
         refine R_iadd dX5_make_44 ?_
         refine R_iaload (k := 16 * y + i) dX5_make_45 rfl (Nat.lt_of_lt_of_le (Nat.le_of_ble_eq_true rfl) hnx) (by omega) (by omega) (by decide) ?_
         rw [show (J, Rs sw, nx, tl).1 49 (16 * y + i) = sC S (16 * y + i) from g3 _ (by omega)]
         refine R_iastore (k := 3 * (16 * y + i)) dX5_make_46 rfl (Nat.lt_of_lt_of_le (Nat.le_of_ble_eq_true rfl) hnx) (by omega) (by omega) (by decide) ?_
         refine R_iinc dX5_make_47 rfl (Nat.le_of_ble_eq_true rfl) ?_
         refine R_goto (tgt := 16) dX5_make_50 (by decide) ?_
         refine ih (i + 1) _ (by omega) (by omega) (fun p h1 h2 => by rw [up2_ne _ _ _ h1]; exact hF p h1 h2) (fun x y2 hx hy2 hc => ?_)
         rw [up2_self]
         dsimp only
         split
         · rename_i e
           have e1 : y2 = y := by omega
           have e2 : x = i := by omega
           rw [e1, e2]
         · exact hT x y2 hx hy2 (by omega))
theorem lp_tky (I : Nat → Nat → Int) (sw : Bool) (nx : Nat) (tl : Nat → Nat) (hnx : 63 ≤ nx) (Q : Option AV → Sg → Prop) (L : Nat) {S : Sp} (hR : RelM I S) (hO : OkS S)
    (hQ : ∀ (J : Nat → Nat → Int) (A B : AV), (∀ p, p ≠ 60 → p ≠ 62 → J p = I p) → Tk J S (sH S) 0 → Rr l G (Km G miX5_make 0 0 nx Q) 0 0 59 [ar 48, ai L, A, B, none, none, none] [] (J, Rs sw, nx, tl)) :
    ∀ (n i : Nat) (J : Nat → Nat → Int) (A : AV), sH S - i < n → i ≤ sH S → (∀ p, p ≠ 60 → p ≠ 62 → J p = I p) → Tk J S i 0 → Rr l G (Km G miX5_make 0 0 nx Q) 0 0 6 [ar 48, ai L, ai i, A, none, none, none] [] (J, Rs sw, nx, tl) := by
  have o1 := hO.1
  have o2 := hO.2.1
  intro n
  induction n with
  | zero => intro i J A h; omega
  | succ n ih =>
    intro i J A hn hi hF hT
    obtain ⟨g1, g2, g3, g4, g5, g6, g7, g8, g9⟩ := Re_of hF hR
    have cont : i < sH S → ∀ (J : Nat → Nat → Int) (A : AV), (∀ p, p ≠ 60 → p ≠ 62 → J p = I p) → Tk J S (i + 1) 0 → Rr l G (Km G miX5_make 0 0 nx Q) 0 0 53 [ar 48, ai L, ai i, A, none, none, none] [] (J, Rs sw, nx, tl) := fun hlt J A h1 h2 => by
      have h0 := ih (i + 1) J A (by omega) (by omega) h1 h2
      dsimp only [Km, miX5_make] at *
      refine R_iinc dX5_make_53 rfl (Nat.le_of_ble_eq_true rfl) ?_
      refine R_goto (tgt := 6) dX5_make_56 (by decide) ?_
      exact h0
    dsimp only [Km, miX5_make] at *
    refine R_iload_n dX5_make_6 rfl rfl ?_
    refine R_aload_n dX5_make_7 rfl rfl ?_
    refine R_getI fRX5_13 dX5_make_8 rfl (Nat.lt_of_lt_of_le (Nat.le_of_ble_eq_true rfl) hnx) ?_
    rw [show (J, Rs sw, nx, tl).1 48 1 = (sH S : Int) from g2]
    refine R_icmp_ge (tgt := 59) dX5_make_11 (by decide) (fun c_11 => ?_) (fun c_11 => ?_)
    · first
      | (simp (discharger := omega) only [wr_id] at c_11; done)
      | (try simp (discharger := omega) only [wr_id] at c_11
         exfalso
         first | omega | exact c_11 trivial)
      | (try simp (discharger := omega) only [wr_id] at c_11
         exact hQ J _ _ hF (fun x y2 hx hy2 hc => hT x y2 hx hy2 (by omega)))
    · first
      | (simp (discharger := omega) only [wr_id] at c_11; done)
      | (try simp (discharger := omega) only [wr_id] at c_11
         exfalso
         first | omega | exact c_11 trivial)
      | (try simp (discharger := omega) only [wr_id] at c_11
         refine R_iconst dX5_make_14 ?_
         refine R_istore_n dX5_make_15 rfl (Nat.le_of_ble_eq_true rfl) ?_
         exact lp_tkx l G I sw nx tl hnx Q L i hR hO (by omega) (cont (by omega)) (sW S + 1) 0 J (by omega) (by omega) hF hT)
theorem m_make (I : Nat → Nat → Int) (sw : Bool) (nx : Nat) (tl : Nat → Nat) (hnx : 63 ≤ nx) (L : Nat) {S : Sp} (hR : RelM I S) (hO : OkS S) (hL : L ≤ sN S) : Mt l G miX5_make 0 0 [ar 48, ai L] (I, Rs sw, nx, tl) (QI sw nx tl (fun r I' => r = none ∧ (∀ p, p < 55 → I' p = I p) ∧ Ms I' S (sN S) ∧ (∀ q, q ≤ L → PicK I' S q))) := by
  refine Mt.ofL (ls := [ar 48, ai L, none, none, none, none, none]) (by decide) (Nat.le_of_ble_eq_true rfl) rfl ?_
  dsimp only [Km, miX5_make]
  refine R_aload_n dX5_make_0 rfl rfl ?_
  refine R_cV dX5_make_1 kRX5_71 vX5_measure ⟨(Nat.le_of_ble_eq_true rfl), (Nat.le_of_ble_eq_true rfl)⟩ (m_measure l G I sw nx tl hnx hR hO) rfl ⟨(Nat.le_of_ble_eq_true rfl), (Nat.le_of_ble_eq_true rfl)⟩ rfl (Nat.lt_of_lt_of_le (Nat.le_of_ble_eq_true rfl) hnx) rfl rfl (Nat.le_of_ble_eq_true rfl) (fun r σ' hq hn' => ?_)
  obtain ⟨J, rfl, rfl, hM, hF⟩ := hq
  refine R_iconst dX5_make_4 ?_
  refine R_istore_n dX5_make_5 rfl (Nat.le_of_ble_eq_true rfl) ?_
  have hRJ := fr_M hF hR
  refine lp_tky l G J sw nx tl hnx _ L hRJ hO (fun J2 A B h1 h2 => ?_) (sH S + 1) 0 J none (by omega) (by omega) (fun _ _ _ => rfl) (fun x y hx hy hc => by omega)
  dsimp only [Km, miX5_make]
  refine R_iconst dX5_make_59 ?_
  refine R_istore_n dX5_make_60 rfl (Nat.le_of_ble_eq_true rfl) ?_
  refine lp_mkk l G J sw nx tl hnx _ L hRJ hO hM hL (fun J3 h3 h4 => ⟨J3, rfl, rfl, fun p hp => by rw [h3 p (by omega) (by omega)]; exact hF p (by omega), Ms_of h3 hM, h4⟩) (L + 1) 0 J2 B none none none (by omega) (by omega) h1 (fun q hq => ?_)
  have e : q = 0 := by omega
  subst e
  intro x y p hx hy hp
  have e2 : p = 0 := by have : p < 1 := hp; omega
  subst e2
  have := h2 x y hx hy (Or.inl hy)
  rw [show 768 * 0 + 3 * (16 * y + x) + 0 = 3 * (16 * y + x) by omega]
  exact this
/-- a number of a stage -/
def o_at (S : Sp) (k x y p : Int) : Int := if 0 ≤ k ∧ k ≤ sN S then (if ((0 ≤ x ∧ x < fW S k.toNat) ∧ (0 ≤ y ∧ y < fH S k.toNat)) ∧ (0 ≤ p ∧ p < fP S k.toNat) then pic S k.toNat x.toNat y.toNat p.toNat else -102) else -101
theorem m_at (I : Nat → Nat → Int) (sw : Bool) (nx : Nat) (tl : Nat → Nat) (hnx : 63 ≤ nx) (k x y p : Int) (rk : inR k) (rx : inR x) (ry : inR y) (rp : inR p) {S : Sp} (hR : RelM I S) (hO : OkS S) : Mt l G miX5_at 0 0 [ar 48, ai k, ai x, ai y, ai p] (I, Rs sw, nx, tl) (QI sw nx tl (fun r I' => (∀ p, p < 48 → I' p = I p) ∧ r = some (ai (o_at S k x y p)) ∧ RelM I' S)) := by
  have o5 := hO.2.2.2.2.1
  have g5 := hR.2.2.2.2.1
  have rk2 := rk
  have rx2 := rx
  have ry2 := ry
  unfold inR at rk2 rx2 ry2 rp
  by_cases hk : 0 ≤ k ∧ k ≤ sN S
  · obtain ⟨q, rfl⟩ : ∃ q : Nat, k = q := ⟨k.toNat, by omega⟩
    have r1 := (f_rng hO q (by omega)).1
    have r2 := (f_rng hO q (by omega)).2.1
    have r3 := fP_13 S q
    refine Mt.ofL (ls := [ar 48, ai q, ai x, ai y, ai p]) (by decide) (Nat.le_of_ble_eq_true rfl) rfl ?_
    dsimp only [Km, miX5_at]
    refine R_iload_n dX5_at_0 rfl rfl ?_
    refine R_iconst dX5_at_1 ?_
    refine R_aload_n dX5_at_2 rfl rfl ?_
    refine R_getI fRX5_64 dX5_at_3 rfl (Nat.lt_of_lt_of_le (Nat.le_of_ble_eq_true rfl) hnx) ?_
    rw [show (I, Rs sw, nx, tl).1 48 4 = (sN S : Int) from g5]
    refine R_cS dX5_at_6 kRX5_60 vX5_in ⟨(Nat.le_of_ble_eq_true rfl), (Nat.le_of_ble_eq_true rfl)⟩ (b_in l G _ _ _ _) rfl ⟨(Nat.le_of_ble_eq_true rfl), (Nat.le_of_ble_eq_true rfl)⟩ rfl (Nat.le_of_ble_eq_true rfl) (fun r σ' hq hn' => ?_)
    obtain ⟨⟨b6, rfl, hb6⟩, rfl⟩ := hq
    try simp (discharger := omega) only [wr_id] at hb6
    refine R_if_ne (tgt := 15) dX5_at_9 (by decide) (fun c_9 => ?_) (fun c_9 => ?_)
    · first
      | (simp (discharger := omega) only [wr_id] at c_9; done)
      | (try simp (discharger := omega) only [wr_id] at c_9
         exfalso
         first | omega | exact c_9 trivial)
      | (try simp (discharger := omega) only [wr_id] at c_9
         refine R_aload_n dX5_at_15 rfl rfl ?_
         refine R_iload_n dX5_at_16 rfl rfl ?_
         refine R_cV dX5_at_17 kRX5_124 vX5_make ⟨(Nat.le_of_ble_eq_true rfl), (Nat.le_of_ble_eq_true rfl)⟩ (m_make l G I sw nx tl hnx q hR hO (by omega)) rfl ⟨(Nat.le_of_ble_eq_true rfl), (Nat.le_of_ble_eq_true rfl)⟩ rfl (Nat.lt_of_lt_of_le (Nat.le_of_ble_eq_true rfl) hnx) rfl rfl (Nat.le_of_ble_eq_true rfl) (fun r σ' hq hn' => ?_)
         obtain ⟨J, rfl, rfl, hF, hM, hP⟩ := hq
         obtain ⟨-, -, q3, -⟩ := hM q (by omega)
         have hRJ : RelM J S := RelM_of hR (fun p h1 h2 => hF p (by omega))
         have fin : ∀ z : Int, z = o_at S q x y p → QI sw nx tl (fun r I' => (∀ p, p < 48 → I' p = I p) ∧ r = some (ai (o_at S q x y p)) ∧ RelM I' S) (some (ai z)) (J, Rs sw, nx, tl) := fun z hz => ⟨J, rfl, fun p hp => hF p (by omega), by rw [hz], hRJ⟩
         refine R_aload_n dX5_at_20 rfl rfl ?_
         refine R_iload_n dX5_at_21 rfl rfl ?_
         refine R_iload_n dX5_at_22 rfl rfl ?_
         refine R_iload_n dX5_at_23 rfl rfl ?_
         refine R_cV dX5_at_24 kRX5_95 vX5_isPlace ⟨(Nat.le_of_ble_eq_true rfl), (Nat.le_of_ble_eq_true rfl)⟩ (m_isPlace l G J sw nx tl hnx q _ _ rx ry (by omega) hO hM) rfl ⟨(Nat.le_of_ble_eq_true rfl), (Nat.le_of_ble_eq_true rfl)⟩ rfl (Nat.lt_of_lt_of_le (Nat.le_of_ble_eq_true rfl) hnx) rfl rfl (Nat.le_of_ble_eq_true rfl) (fun r σ' hq hn' => ?_)
         obtain ⟨⟨b24, rfl, hb24⟩, rfl⟩ := hq
         refine R_if_eq (tgt := 63) dX5_at_27 (by decide) (fun c_27 => ?_) (fun c_27 => ?_)
         · first
           | (simp (discharger := omega) only [wr_id] at c_27; done)
           | (try simp (discharger := omega) only [wr_id] at c_27
              exfalso
              first | omega | exact c_27 trivial)
           | (try simp (discharger := omega) only [wr_id] at c_27
              refine R_bipush (z := (-102)) dX5_at_63 rfl ?_
              refine R_iret dX5_at_65 rfl rfl rfl (Nat.le_refl _) ?_
              refine fin _ ?_
              rw [o_at, if_pos hk, Int.toNat_natCast]
              first | (rw [if_neg (by omega)]; done) | (rw [if_pos (by omega)]; exact hP q (Nat.le_refl q) _ _ _ (by omega) (by omega) (by omega)))
         · first
           | (simp (discharger := omega) only [wr_id] at c_27; done)
           | (try simp (discharger := omega) only [wr_id] at c_27
              exfalso
              first | omega | exact c_27 trivial)
           | (try simp (discharger := omega) only [wr_id] at c_27
              refine R_iload dX5_at_30 rfl ?_
              refine R_iconst dX5_at_32 ?_
              refine R_aload_n dX5_at_33 rfl rfl ?_
              refine R_getA fRX5_42 dX5_at_34 rfl (Nat.lt_of_lt_of_le (Nat.le_of_ble_eq_true rfl) hnx) rfl ?_
              refine R_iload_n dX5_at_37 rfl rfl ?_
              refine R_iaload (k := q) dX5_at_38 rfl (Nat.lt_of_lt_of_le (Nat.le_of_ble_eq_true rfl) hnx) (by omega) (by omega) (by decide) ?_
              refine R_iconst dX5_at_39 ?_
              refine R_isub dX5_at_40 ?_
              rw [show (J, Rs sw, nx, tl).1 57 q = (fP S q : Int) from q3]
              refine R_cS dX5_at_41 kRX5_60 vX5_in ⟨(Nat.le_of_ble_eq_true rfl), (Nat.le_of_ble_eq_true rfl)⟩ (b_in l G _ _ _ _) rfl ⟨(Nat.le_of_ble_eq_true rfl), (Nat.le_of_ble_eq_true rfl)⟩ rfl (Nat.le_of_ble_eq_true rfl) (fun r σ' hq hn' => ?_)
              obtain ⟨⟨b41, rfl, hb41⟩, rfl⟩ := hq
              try simp (discharger := omega) only [wr_id] at hb41
              refine R_if_eq (tgt := 63) dX5_at_44 (by decide) (fun c_44 => ?_) (fun c_44 => ?_)
              · first
                | (simp (discharger := omega) only [wr_id] at c_44; done)
                | (try simp (discharger := omega) only [wr_id] at c_44
                   exfalso
                   first | omega | exact c_44 trivial)
                | (try simp (discharger := omega) only [wr_id] at c_44
                   refine R_bipush (z := (-102)) dX5_at_63 rfl ?_
                   refine R_iret dX5_at_65 rfl rfl rfl (Nat.le_refl _) ?_
                   refine fin _ ?_
                   rw [o_at, if_pos hk, Int.toNat_natCast]
                   first | (rw [if_neg (by omega)]; done) | (rw [if_pos (by omega)]; exact hP q (Nat.le_refl q) _ _ _ (by omega) (by omega) (by omega)))
              · first
                | (simp (discharger := omega) only [wr_id] at c_44; done)
                | (try simp (discharger := omega) only [wr_id] at c_44
                   exfalso
                   first | omega | exact c_44 trivial)
                | (try simp (discharger := omega) only [wr_id] at c_44
                   refine R_aload_n dX5_at_47 rfl rfl ?_
                   refine R_getA fRX5_51 dX5_at_48 rfl (Nat.lt_of_lt_of_le (Nat.le_of_ble_eq_true rfl) hnx) rfl ?_
                   refine R_iload_n dX5_at_51 rfl rfl ?_
                   refine R_iload_n dX5_at_52 rfl rfl ?_
                   refine R_iload_n dX5_at_53 rfl rfl ?_
                   refine R_iload dX5_at_54 rfl ?_
                   refine R_cS dX5_at_56 kRX5_85 vX5_place ⟨(Nat.le_of_ble_eq_true rfl), (Nat.le_of_ble_eq_true rfl)⟩ (m_place l G _ _ _ _ _) rfl ⟨(Nat.le_of_ble_eq_true rfl), (Nat.le_of_ble_eq_true rfl)⟩ rfl (Nat.le_of_ble_eq_true rfl) (fun r σ' hq hn' => ?_)
                   obtain ⟨rfl, rfl⟩ := hq
                   refine R_iaload (k := 768 * q + 3 * (16 * y.toNat + x.toNat) + p.toNat) dX5_at_59 rfl (Nat.lt_of_lt_of_le (Nat.le_of_ble_eq_true rfl) hnx) (by omega) (by omega) (by decide) ?_
                   refine R_goto (tgt := 65) dX5_at_60 (by decide) ?_
                   refine R_iret dX5_at_65 rfl rfl rfl (Nat.le_refl _) ?_
                   refine fin _ ?_
                   rw [o_at, if_pos hk, Int.toNat_natCast]
                   first | (rw [if_neg (by omega)]; done) | (rw [if_pos (by omega)]; exact hP q (Nat.le_refl q) _ _ _ (by omega) (by omega) (by omega)))))
    · first
      | (simp (discharger := omega) only [wr_id] at c_9; done)
      | (try simp (discharger := omega) only [wr_id] at c_9
         exfalso
         first | omega | exact c_9 trivial)
      | (try simp (discharger := omega) only [wr_id] at c_9
         refine R_bipush (z := (-101)) dX5_at_12 rfl ?_
         refine R_iret dX5_at_14 rfl rfl rfl (Nat.le_refl _) ?_
         (exfalso; omega))
  · refine Mt.ofL (ls := [ar 48, ai k, ai x, ai y, ai p]) (by decide) (Nat.le_of_ble_eq_true rfl) rfl ?_
    dsimp only [Km, miX5_at]
    refine R_iload_n dX5_at_0 rfl rfl ?_
    refine R_iconst dX5_at_1 ?_
    refine R_aload_n dX5_at_2 rfl rfl ?_
    refine R_getI fRX5_64 dX5_at_3 rfl (Nat.lt_of_lt_of_le (Nat.le_of_ble_eq_true rfl) hnx) ?_
    rw [show (I, Rs sw, nx, tl).1 48 4 = (sN S : Int) from g5]
    refine R_cS dX5_at_6 kRX5_60 vX5_in ⟨(Nat.le_of_ble_eq_true rfl), (Nat.le_of_ble_eq_true rfl)⟩ (b_in l G _ _ _ _) rfl ⟨(Nat.le_of_ble_eq_true rfl), (Nat.le_of_ble_eq_true rfl)⟩ rfl (Nat.le_of_ble_eq_true rfl) (fun r σ' hq hn' => ?_)
    obtain ⟨⟨b6, rfl, hb6⟩, rfl⟩ := hq
    try simp (discharger := omega) only [wr_id] at hb6
    refine R_if_ne (tgt := 15) dX5_at_9 (by decide) (fun c_9 => ?_) (fun c_9 => ?_)
    · first
      | (simp (discharger := omega) only [wr_id] at c_9; done)
      | (try simp (discharger := omega) only [wr_id] at c_9
         exfalso
         first | omega | exact c_9 trivial)
      | (try simp (discharger := omega) only [wr_id] at c_9
         refine R_aload_n dX5_at_15 rfl rfl ?_
         refine R_iload_n dX5_at_16 rfl rfl ?_
         (exfalso; omega))
    · first
      | (simp (discharger := omega) only [wr_id] at c_9; done)
      | (try simp (discharger := omega) only [wr_id] at c_9
         exfalso
         first | omega | exact c_9 trivial)
      | (try simp (discharger := omega) only [wr_id] at c_9
         refine R_bipush (z := (-101)) dX5_at_12 rfl ?_
         refine R_iret dX5_at_14 rfl rfl rfl (Nat.le_refl _) ?_
         rw [o_at, if_neg hk]
         exact ⟨I, rfl, fun _ _ => rfl, rfl, hR⟩)
/-- a part of the last stage -/
def inPt (S : Sp) (x y w h : Int) : Prop := (0 ≤ x ∧ 0 ≤ y ∧ 1 ≤ w ∧ 1 ≤ h) ∧ x + w ≤ fW S (sN S) ∧ y + h ≤ fH S (sN S)
theorem m_isPart (I : Nat → Nat → Int) (sw : Bool) (nx : Nat) (tl : Nat → Nat) (hnx : 63 ≤ nx) (x y w h : Int) (rx : inR x) (ry : inR y) (rw1 : inR w) (rh : inR h) {S : Sp} (hR : RelM I S) (hO : OkS S) (hM : Ms I S (sN S)) : Mt l G miX5_isPart 0 0 [ar 48, ai x, ai y, ai w, ai h] (I, Rs sw, nx, tl) (fun r σ' => (∃ z : Int, r = some (ai z) ∧ ((z = 1 ∧ inPt S x y w h) ∨ (z = 0 ∧ ¬ inPt S x y w h))) ∧ σ' = (I, Rs sw, nx, tl)) := by
  have o5 := hO.2.2.2.2.1
  have g5 := hR.2.2.2.2.1
  obtain ⟨q1, q2, -⟩ := hM (sN S) (Nat.le_refl _)
  have r1 := (f_rng hO (sN S) (Nat.le_refl _)).1
  have r2 := (f_rng hO (sN S) (Nat.le_refl _)).2.1
  unfold inR at *
  unfold inPt
  refine Mt.ofL (ls := [ar 48, ai x, ai y, ai w, ai h]) (by decide) (Nat.le_of_ble_eq_true rfl) rfl ?_
  dsimp only [Km, miX5_isPart]
  refine R_iload_n dX5_isPart_0 rfl rfl ?_
  refine R_iconst dX5_isPart_1 ?_
  refine R_aload_n dX5_isPart_2 rfl rfl ?_
  refine R_getA fRX5_36 dX5_isPart_3 rfl (Nat.lt_of_lt_of_le (Nat.le_of_ble_eq_true rfl) hnx) rfl ?_
  refine R_aload_n dX5_isPart_6 rfl rfl ?_
  refine R_getI fRX5_64 dX5_isPart_7 rfl (Nat.lt_of_lt_of_le (Nat.le_of_ble_eq_true rfl) hnx) ?_
  rw [show (I, Rs sw, nx, tl).1 48 4 = (sN S : Int) from g5]
  refine R_iaload (k := sN S) dX5_isPart_10 rfl (Nat.lt_of_lt_of_le (Nat.le_of_ble_eq_true rfl) hnx) (by omega) (by omega) (by decide) ?_
  refine R_iconst dX5_isPart_11 ?_
  refine R_isub dX5_isPart_12 ?_
  rw [show (I, Rs sw, nx, tl).1 55 (sN S) = (fW S (sN S) : Int) from q1]
  refine R_cS dX5_isPart_13 kRX5_60 vX5_in ⟨(Nat.le_of_ble_eq_true rfl), (Nat.le_of_ble_eq_true rfl)⟩ (b_in l G _ _ _ _) rfl ⟨(Nat.le_of_ble_eq_true rfl), (Nat.le_of_ble_eq_true rfl)⟩ rfl (Nat.le_of_ble_eq_true rfl) (fun r σ' hq hn' => ?_)
  obtain ⟨⟨b13, rfl, hb13⟩, rfl⟩ := hq
  try simp (discharger := omega) only [wr_id] at hb13
  refine R_if_eq (tgt := 81) dX5_isPart_16 (by decide) (fun c_16 => ?_) (fun c_16 => ?_)
  · first
    | (simp (discharger := omega) only [wr_id] at c_16; done)
    | (try simp (discharger := omega) only [wr_id] at c_16
       exfalso
       first | omega | exact c_16 trivial)
    | (try simp (discharger := omega) only [wr_id] at c_16
       refine R_iconst dX5_isPart_81 ?_
       refine R_zret dX5_isPart_82 rfl rfl (by first | exact Or.inl rfl | exact Or.inr rfl | omega) rfl (Nat.le_refl _) ?_
       exact ⟨⟨_, rfl, by first | exact Or.inl ⟨rfl, by omega⟩ | exact Or.inr ⟨rfl, by omega⟩⟩, rfl⟩)
  · first
    | (simp (discharger := omega) only [wr_id] at c_16; done)
    | (try simp (discharger := omega) only [wr_id] at c_16
       exfalso
       first | omega | exact c_16 trivial)
    | (try simp (discharger := omega) only [wr_id] at c_16
       refine R_iload_n dX5_isPart_19 rfl rfl ?_
       refine R_iconst dX5_isPart_20 ?_
       refine R_aload_n dX5_isPart_21 rfl rfl ?_
       refine R_getA fRX5_39 dX5_isPart_22 rfl (Nat.lt_of_lt_of_le (Nat.le_of_ble_eq_true rfl) hnx) rfl ?_
       refine R_aload_n dX5_isPart_25 rfl rfl ?_
       refine R_getI fRX5_64 dX5_isPart_26 rfl (Nat.lt_of_lt_of_le (Nat.le_of_ble_eq_true rfl) hnx) ?_
       rw [show (I, Rs sw, nx, tl).1 48 4 = (sN S : Int) from g5]
       refine R_iaload (k := sN S) dX5_isPart_29 rfl (Nat.lt_of_lt_of_le (Nat.le_of_ble_eq_true rfl) hnx) (by omega) (by omega) (by decide) ?_
       refine R_iconst dX5_isPart_30 ?_
       refine R_isub dX5_isPart_31 ?_
       rw [show (I, Rs sw, nx, tl).1 56 (sN S) = (fH S (sN S) : Int) from q2]
       refine R_cS dX5_isPart_32 kRX5_60 vX5_in ⟨(Nat.le_of_ble_eq_true rfl), (Nat.le_of_ble_eq_true rfl)⟩ (b_in l G _ _ _ _) rfl ⟨(Nat.le_of_ble_eq_true rfl), (Nat.le_of_ble_eq_true rfl)⟩ rfl (Nat.le_of_ble_eq_true rfl) (fun r σ' hq hn' => ?_)
       obtain ⟨⟨b32, rfl, hb32⟩, rfl⟩ := hq
       try simp (discharger := omega) only [wr_id] at hb32
       refine R_if_eq (tgt := 81) dX5_isPart_35 (by decide) (fun c_35 => ?_) (fun c_35 => ?_)
       · first
         | (simp (discharger := omega) only [wr_id] at c_35; done)
         | (try simp (discharger := omega) only [wr_id] at c_35
            exfalso
            first | omega | exact c_35 trivial)
         | (try simp (discharger := omega) only [wr_id] at c_35
            refine R_iconst dX5_isPart_81 ?_
            refine R_zret dX5_isPart_82 rfl rfl (by first | exact Or.inl rfl | exact Or.inr rfl | omega) rfl (Nat.le_refl _) ?_
            exact ⟨⟨_, rfl, by first | exact Or.inl ⟨rfl, by omega⟩ | exact Or.inr ⟨rfl, by omega⟩⟩, rfl⟩)
       · first
         | (simp (discharger := omega) only [wr_id] at c_35; done)
         | (try simp (discharger := omega) only [wr_id] at c_35
            exfalso
            first | omega | exact c_35 trivial)
         | (try simp (discharger := omega) only [wr_id] at c_35
            refine R_iload_n dX5_isPart_38 rfl rfl ?_
            refine R_iconst dX5_isPart_39 ?_
            refine R_aload_n dX5_isPart_40 rfl rfl ?_
            refine R_getA fRX5_36 dX5_isPart_41 rfl (Nat.lt_of_lt_of_le (Nat.le_of_ble_eq_true rfl) hnx) rfl ?_
            refine R_aload_n dX5_isPart_44 rfl rfl ?_
            refine R_getI fRX5_64 dX5_isPart_45 rfl (Nat.lt_of_lt_of_le (Nat.le_of_ble_eq_true rfl) hnx) ?_
            rw [show (I, Rs sw, nx, tl).1 48 4 = (sN S : Int) from g5]
            refine R_iaload (k := sN S) dX5_isPart_48 rfl (Nat.lt_of_lt_of_le (Nat.le_of_ble_eq_true rfl) hnx) (by omega) (by omega) (by decide) ?_
            refine R_iload_n dX5_isPart_49 rfl rfl ?_
            refine R_isub dX5_isPart_50 ?_
            rw [show (I, Rs sw, nx, tl).1 55 (sN S) = (fW S (sN S) : Int) from q1]
            refine R_cS dX5_isPart_51 kRX5_60 vX5_in ⟨(Nat.le_of_ble_eq_true rfl), (Nat.le_of_ble_eq_true rfl)⟩ (b_in l G _ _ _ _) rfl ⟨(Nat.le_of_ble_eq_true rfl), (Nat.le_of_ble_eq_true rfl)⟩ rfl (Nat.le_of_ble_eq_true rfl) (fun r σ' hq hn' => ?_)
            obtain ⟨⟨b51, rfl, hb51⟩, rfl⟩ := hq
            try simp (discharger := omega) only [wr_id] at hb51
            refine R_if_eq (tgt := 81) dX5_isPart_54 (by decide) (fun c_54 => ?_) (fun c_54 => ?_)
            · first
              | (simp (discharger := omega) only [wr_id] at c_54; done)
              | (try simp (discharger := omega) only [wr_id] at c_54
                 exfalso
                 first | omega | exact c_54 trivial)
              | (try simp (discharger := omega) only [wr_id] at c_54
                 refine R_iconst dX5_isPart_81 ?_
                 refine R_zret dX5_isPart_82 rfl rfl (by first | exact Or.inl rfl | exact Or.inr rfl | omega) rfl (Nat.le_refl _) ?_
                 exact ⟨⟨_, rfl, by first | exact Or.inl ⟨rfl, by omega⟩ | exact Or.inr ⟨rfl, by omega⟩⟩, rfl⟩)
            · first
              | (simp (discharger := omega) only [wr_id] at c_54; done)
              | (try simp (discharger := omega) only [wr_id] at c_54
                 exfalso
                 first | omega | exact c_54 trivial)
              | (try simp (discharger := omega) only [wr_id] at c_54
                 refine R_iload dX5_isPart_57 rfl ?_
                 refine R_iconst dX5_isPart_59 ?_
                 refine R_aload_n dX5_isPart_60 rfl rfl ?_
                 refine R_getA fRX5_39 dX5_isPart_61 rfl (Nat.lt_of_lt_of_le (Nat.le_of_ble_eq_true rfl) hnx) rfl ?_
                 refine R_aload_n dX5_isPart_64 rfl rfl ?_
                 refine R_getI fRX5_64 dX5_isPart_65 rfl (Nat.lt_of_lt_of_le (Nat.le_of_ble_eq_true rfl) hnx) ?_
                 rw [show (I, Rs sw, nx, tl).1 48 4 = (sN S : Int) from g5]
                 refine R_iaload (k := sN S) dX5_isPart_68 rfl (Nat.lt_of_lt_of_le (Nat.le_of_ble_eq_true rfl) hnx) (by omega) (by omega) (by decide) ?_
                 refine R_iload_n dX5_isPart_69 rfl rfl ?_
                 refine R_isub dX5_isPart_70 ?_
                 rw [show (I, Rs sw, nx, tl).1 56 (sN S) = (fH S (sN S) : Int) from q2]
                 refine R_cS dX5_isPart_71 kRX5_60 vX5_in ⟨(Nat.le_of_ble_eq_true rfl), (Nat.le_of_ble_eq_true rfl)⟩ (b_in l G _ _ _ _) rfl ⟨(Nat.le_of_ble_eq_true rfl), (Nat.le_of_ble_eq_true rfl)⟩ rfl (Nat.le_of_ble_eq_true rfl) (fun r σ' hq hn' => ?_)
                 obtain ⟨⟨b71, rfl, hb71⟩, rfl⟩ := hq
                 try simp (discharger := omega) only [wr_id] at hb71
                 refine R_if_eq (tgt := 81) dX5_isPart_74 (by decide) (fun c_74 => ?_) (fun c_74 => ?_)
                 · first
                   | (simp (discharger := omega) only [wr_id] at c_74; done)
                   | (try simp (discharger := omega) only [wr_id] at c_74
                      exfalso
                      first | omega | exact c_74 trivial)
                   | (try simp (discharger := omega) only [wr_id] at c_74
                      refine R_iconst dX5_isPart_81 ?_
                      refine R_zret dX5_isPart_82 rfl rfl (by first | exact Or.inl rfl | exact Or.inr rfl | omega) rfl (Nat.le_refl _) ?_
                      exact ⟨⟨_, rfl, by first | exact Or.inl ⟨rfl, by omega⟩ | exact Or.inr ⟨rfl, by omega⟩⟩, rfl⟩)
                 · first
                   | (simp (discharger := omega) only [wr_id] at c_74; done)
                   | (try simp (discharger := omega) only [wr_id] at c_74
                      exfalso
                      first | omega | exact c_74 trivial)
                   | (try simp (discharger := omega) only [wr_id] at c_74
                      refine R_iconst dX5_isPart_77 ?_
                      refine R_goto (tgt := 82) dX5_isPart_78 (by decide) ?_
                      refine R_zret dX5_isPart_82 rfl rfl (by first | exact Or.inl rfl | exact Or.inr rfl | omega) rfl (Nat.le_refl _) ?_
                      exact ⟨⟨_, rfl, by first | exact Or.inl ⟨rfl, by omega⟩ | exact Or.inr ⟨rfl, by omega⟩⟩, rfl⟩))))
end MODEL9
