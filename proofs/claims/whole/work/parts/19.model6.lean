/-! the reference: MIDDLE and COLOURS of one number -/
section MODEL6
variable (l : Launch) (G : GE)
/-- the five are in their row -/
def F5R (J : Nat → Nat → Int) (f : Nat → Int) : Prop := ∀ i, i < 5 → J 62 i = f i
theorem lp_mid1 (I : Nat → Nat → Int) (sw : Bool) (nx : Nat) (tl : Nat → Nat) (hnx : 63 ≤ nx) (Q : Option AV → Sg → Prop) (k x y : Nat) {S : Sp} (hO : OkS S) (hM : Ms I S (sN S)) (hP : PicK I S k) (hk : k < sN S) (hx : x < fW S k) (hy : y < fH S k) (hp : 1 ≤ fP S k)
    (hQ : ∀ (J : Nat → Nat → Int) (a b : AV), F5R J (f5 (fW S k) (fH S k) (pic S k) x y) → (∀ p, p ≠ 62 → J p = I p) → Rr l G (Km G miX5_middle 0 0 nx Q) 0 0 93 [ar 48, ai k, ai x, ai y, ai (pic S k x y 0), ai 4, a, b] [] (J, Rs sw, nx, tl)) :
    ∀ (n w : Nat) (J : Nat → Nat → Int) (a b : AV), 4 - w < n → w ≤ 4 → (∀ i, i < w ∨ i = 4 → J 62 i = f5 (fW S k) (fH S k) (pic S k) x y i) → (∀ p, p ≠ 62 → J p = I p) → Rr l G (Km G miX5_middle 0 0 nx Q) 0 0 25 [ar 48, ai k, ai x, ai y, ai (pic S k x y 0), ai w, a, b] [] (J, Rs sw, nx, tl) := by
  have o5 := hO.2.2.2.2.1
  have r1 := (f_rng hO k (by omega)).1
  have r2 := (f_rng hO k (by omega)).2.1
  intro n
  induction n with
  | zero => intro w J a b h; omega
  | succ n ih =>
    intro w J a b hn hw hJ hF
    have hMJ : Ms J S (sN S) := fun q hq => by
      rw [hF 55 (by decide), hF 56 (by decide), hF 57 (by decide), hF 58 (by decide), hF 59 (by decide)]
      exact hM q hq
    have hPJ : PicK J S k := fun a b c h1 h2 h3 => by rw [hF 60 (by decide)]; exact hP a b c h1 h2 h3
    dsimp only [Km, miX5_middle] at *
    have st : w < 4 → ∀ (z : Int) (a b : AV), z = f5 (fW S k) (fH S k) (pic S k) x y w → Rr l G (Km G miX5_middle 0 0 nx Q) 0 0 25 [ar 48, ai k, ai x, ai y, ai (pic S k x y 0), ai ((w : Int) + 1), a, b] [] (up2 J 62 w z, Rs sw, nx, tl) := fun hlt z a b hz => by
      refine ih (w + 1) _ a b (by omega) (by omega) (fun i hi => ?_) (fun p hp2 => by rw [up2_ne _ _ _ hp2]; exact hF p hp2)
      rw [up2_self]
      dsimp only
      split
      · rename_i e
        rw [e, hz]
      · exact hJ i (by omega)
    dsimp only [Km, miX5_middle] at st
    refine R_iload dX5_middle_25 rfl ?_
    refine R_iconst dX5_middle_27 ?_
    refine R_icmp_ge (tgt := 93) dX5_middle_28 (by decide) (fun c_28 => ?_) (fun c_28 => ?_)
    · first
      | (simp (discharger := omega) only [wr_id] at c_28; done)
      | (try simp (discharger := omega) only [wr_id] at c_28
         exfalso
         first | omega | exact c_28 trivial)
      | (try simp (discharger := omega) only [wr_id] at c_28
         have e : w = 4 := by omega
         subst e
         exact hQ J a b (fun i hi => hJ i (by omega)) hF)
    · first
      | (simp (discharger := omega) only [wr_id] at c_28; done)
      | (try simp (discharger := omega) only [wr_id] at c_28
         exfalso
         first | omega | exact c_28 trivial)
      | (try simp (discharger := omega) only [wr_id] at c_28
         have hv := ov_c (w := w) (by omega)
         refine R_iload_n dX5_middle_31 rfl rfl ?_
         refine R_iload dX5_middle_32 rfl ?_
         refine R_cS dX5_middle_34 kRX5_89 vX5_overX ⟨(Nat.le_of_ble_eq_true rfl), (Nat.le_of_ble_eq_true rfl)⟩ (m_overX l G _ w (by omega)) rfl ⟨(Nat.le_of_ble_eq_true rfl), (Nat.le_of_ble_eq_true rfl)⟩ rfl (Nat.le_of_ble_eq_true rfl) (fun r σ' hq hn' => ?_)
         obtain ⟨rfl, rfl⟩ := hq
         refine R_iadd dX5_middle_37 ?_
         refine R_istore dX5_middle_38 (Nat.le_of_ble_eq_true rfl) ?_
         refine R_iload_n dX5_middle_40 rfl rfl ?_
         refine R_iload dX5_middle_41 rfl ?_
         refine R_cS dX5_middle_43 kRX5_92 vX5_overY ⟨(Nat.le_of_ble_eq_true rfl), (Nat.le_of_ble_eq_true rfl)⟩ (m_overY l G _ w (by omega)) rfl ⟨(Nat.le_of_ble_eq_true rfl), (Nat.le_of_ble_eq_true rfl)⟩ rfl (Nat.le_of_ble_eq_true rfl) (fun r σ' hq hn' => ?_)
         obtain ⟨rfl, rfl⟩ := hq
         refine R_iadd dX5_middle_46 ?_
         refine R_istore dX5_middle_47 (Nat.le_of_ble_eq_true rfl) ?_
         refine R_aload_n dX5_middle_49 rfl rfl ?_
         refine R_getA fRX5_57 dX5_middle_50 rfl (Nat.lt_of_lt_of_le (Nat.le_of_ble_eq_true rfl) hnx) rfl ?_
         refine R_iload dX5_middle_53 rfl ?_
         refine R_aload_n dX5_middle_55 rfl rfl ?_
         refine R_iload_n dX5_middle_56 rfl rfl ?_
         refine R_iload dX5_middle_57 rfl ?_
         refine R_iload dX5_middle_59 rfl ?_
         refine R_cV dX5_middle_61 kRX5_95 vX5_isPlace ⟨(Nat.le_of_ble_eq_true rfl), (Nat.le_of_ble_eq_true rfl)⟩ (m_isPlace l G J sw nx tl hnx k _ _ ⟨by omega, by omega⟩ ⟨by omega, by omega⟩ (by omega) hO hMJ) rfl ⟨(Nat.le_of_ble_eq_true rfl), (Nat.le_of_ble_eq_true rfl)⟩ rfl (Nat.lt_of_lt_of_le (Nat.le_of_ble_eq_true rfl) hnx) rfl rfl (Nat.le_of_ble_eq_true rfl) (fun r σ' hq hn' => ?_)
         obtain ⟨⟨b8, rfl, hb8⟩, rfl⟩ := hq
         refine R_if_eq (tgt := 84) dX5_middle_64 (by decide) (fun c_64 => ?_) (fun c_64 => ?_)
         · first
           | (simp (discharger := omega) only [wr_id] at c_64; done)
           | (try simp (discharger := omega) only [wr_id] at c_64
              exfalso
              first | omega | exact c_64 trivial)
           | (try simp (discharger := omega) only [wr_id] at c_64
              have e : f5 (fW S k) (fH S k) (pic S k) x y w = pic S k x y 0 := by (unfold f5; rw [if_neg (by omega), nr_out (W := fW S k) (H := fH S k) (w := w) (by omega) hx hy (by omega)])
              refine R_iload dX5_middle_84 rfl ?_
              try rw [show (J, Rs sw, nx, tl).1 60 (768 * k + 3 * (16 * ((y : Int) + ovy w).toNat + ((x : Int) + ovx w).toNat) + 0) = pic S k ((x : Int) + ovx w).toNat ((y : Int) + ovy w).toNat 0 from hPJ _ _ _ (by omega) (by omega) (by omega)]
              refine R_iastore (k := w) dX5_middle_86 rfl (Nat.lt_of_lt_of_le (Nat.le_of_ble_eq_true rfl) hnx) (by omega) (by omega) (by decide) ?_
              refine R_iinc dX5_middle_87 rfl (Nat.le_of_ble_eq_true rfl) ?_
              refine R_goto (tgt := 25) dX5_middle_90 (by decide) ?_
              exact st (by omega) _ _ _ e.symm)
         · first
           | (simp (discharger := omega) only [wr_id] at c_64; done)
           | (try simp (discharger := omega) only [wr_id] at c_64
              exfalso
              first | omega | exact c_64 trivial)
           | (try simp (discharger := omega) only [wr_id] at c_64
              have hin : (0 ≤ (x : Int) + ovx w ∧ (x : Int) + ovx w < fW S k) ∧ (0 ≤ (y : Int) + ovy w ∧ (y : Int) + ovy w < fH S k) := by omega
              have e : f5 (fW S k) (fH S k) (pic S k) x y w = pic S k ((x : Int) + ovx w).toNat ((y : Int) + ovy w).toNat 0 := by (unfold f5; rw [if_neg (by omega), nr_in (W := fW S k) (H := fH S k) (w := w) (by omega) hx hy hin])
              refine R_aload_n dX5_middle_67 rfl rfl ?_
              refine R_getA fRX5_51 dX5_middle_68 rfl (Nat.lt_of_lt_of_le (Nat.le_of_ble_eq_true rfl) hnx) rfl ?_
              refine R_iload_n dX5_middle_71 rfl rfl ?_
              refine R_iload dX5_middle_72 rfl ?_
              refine R_iload dX5_middle_74 rfl ?_
              refine R_iconst dX5_middle_76 ?_
              refine R_cS dX5_middle_77 kRX5_85 vX5_place ⟨(Nat.le_of_ble_eq_true rfl), (Nat.le_of_ble_eq_true rfl)⟩ (m_place l G _ _ _ _ _) rfl ⟨(Nat.le_of_ble_eq_true rfl), (Nat.le_of_ble_eq_true rfl)⟩ rfl (Nat.le_of_ble_eq_true rfl) (fun r σ' hq hn' => ?_)
              obtain ⟨rfl, rfl⟩ := hq
              refine R_iaload (k := 768 * k + 3 * (16 * ((y : Int) + ovy w).toNat + ((x : Int) + ovx w).toNat) + 0) dX5_middle_80 rfl (Nat.lt_of_lt_of_le (Nat.le_of_ble_eq_true rfl) hnx) (by omega) (by omega) (by decide) ?_
              refine R_goto (tgt := 86) dX5_middle_81 (by decide) ?_
              try rw [show (J, Rs sw, nx, tl).1 60 (768 * k + 3 * (16 * ((y : Int) + ovy w).toNat + ((x : Int) + ovx w).toNat) + 0) = pic S k ((x : Int) + ovx w).toNat ((y : Int) + ovy w).toNat 0 from hPJ _ _ _ (by omega) (by omega) (by omega)]
              refine R_iastore (k := w) dX5_middle_86 rfl (Nat.lt_of_lt_of_le (Nat.le_of_ble_eq_true rfl) hnx) (by omega) (by omega) (by decide) ?_
              refine R_iinc dX5_middle_87 rfl (Nat.le_of_ble_eq_true rfl) ?_
              refine R_goto (tgt := 25) dX5_middle_90 (by decide) ?_
              exact st (by omega) _ _ _ e.symm))
/-- the inner road of the sorting -/
theorem lp_mid3 (I : Nat → Nat → Int) (sw : Bool) (nx : Nat) (tl : Nat → Nat) (hnx : 63 ≤ nx) (Q : Option AV → Sg → Prop) (K1 X1 Y1 O1 : Int) (i : Nat) (v : Int) (g : Nat → Int) (hi : i < 5) (hv : inR v)
    (hQ : ∀ (J : Nat → Nat → Int) (b : Int), F5R J g → (∀ p, p ≠ 62 → J p = I p) → Rr l G (Km G miX5_middle 0 0 nx Q) 0 0 96 [ar 48, ai K1, ai X1, ai Y1, ai O1, ai ((i : Int) + 1), ai v, ai b] [] (J, Rs sw, nx, tl)) :
    ∀ (a : Nat) (J : Nat → Nat → Int) (f : Nat → Int), a ≤ i → F5R J f → (∀ j, j < 5 → inR (f j)) → (∀ p, p ≠ 62 → J p = I p) → (∀ j, j < 5 → sh f v a j = g j) → Rr l G (Km G miX5_middle 0 0 nx Q) 0 0 115 [ar 48, ai K1, ai X1, ai Y1, ai O1, ai i, ai v, ai a] [] (J, Rs sw, nx, tl) := by
  intro a
  induction a with
  | zero =>
    intro J f ha hJ hr hF hg
    unfold inR at *
    have fin : ∀ b : Int, Rr l G (Km G miX5_middle 0 0 nx Q) 0 0 96 [ar 48, ai K1, ai X1, ai Y1, ai O1, ai ((i : Int) + 1), ai v, ai b] [] (up2 J 62 0 v, Rs sw, nx, tl) := fun b => by
      refine hQ _ b (fun j hj => ?_) (fun p hp2 => by rw [up2_ne _ _ _ hp2]; exact hF p hp2)
      rw [up2_self, ← hg j hj]
      show (if j = 0 then v else J 62 j) = if j = 0 then v else f j
      rw [hJ j hj]
    dsimp only [Km, miX5_middle] at *
    refine R_iload dX5_middle_115 rfl ?_
    refine R_if_le (tgt := 156) dX5_middle_117 (by decide) (fun c_117 => ?_) (fun c_117 => ?_)
    · first
      | (simp (discharger := omega) only [wr_id] at c_117; done)
      | (try simp (discharger := omega) only [wr_id] at c_117
         exfalso
         first | omega | exact c_117 trivial)
      | (try simp (discharger := omega) only [wr_id] at c_117
         refine R_aload_n dX5_middle_156 rfl rfl ?_
         refine R_getA fRX5_57 dX5_middle_157 rfl (Nat.lt_of_lt_of_le (Nat.le_of_ble_eq_true rfl) hnx) rfl ?_
         refine R_iload dX5_middle_160 rfl ?_
         refine R_iload dX5_middle_162 rfl ?_
         refine R_iastore (k := 0) dX5_middle_164 rfl (Nat.lt_of_lt_of_le (Nat.le_of_ble_eq_true rfl) hnx) (by omega) (by omega) (by decide) ?_
         refine R_iinc dX5_middle_165 rfl (Nat.le_of_ble_eq_true rfl) ?_
         refine R_goto (tgt := 96) dX5_middle_168 (by decide) ?_
         exact fin _)
    · first
      | (simp (discharger := omega) only [wr_id] at c_117; done)
      | (try simp (discharger := omega) only [wr_id] at c_117
         exfalso
         first | omega | exact c_117 trivial)
      | (try simp (discharger := omega) only [wr_id] at c_117
         refine R_aload_n dX5_middle_120 rfl rfl ?_
         refine R_getA fRX5_57 dX5_middle_121 rfl (Nat.lt_of_lt_of_le (Nat.le_of_ble_eq_true rfl) hnx) rfl ?_
         refine R_iload dX5_middle_124 rfl ?_
         refine R_iconst dX5_middle_126 ?_
         refine R_isub dX5_middle_127 ?_
         refine R_iaload (k := 0) dX5_middle_128 rfl (Nat.lt_of_lt_of_le (Nat.le_of_ble_eq_true rfl) hnx) (by omega) (by omega) (by decide) ?_
         refine R_iload dX5_middle_129 rfl ?_
         refine R_icmp_le (tgt := 156) dX5_middle_131 (by decide) (fun c_131 => ?_) (fun c_131 => ?_)
         · first
           | (simp (discharger := omega) only [wr_id] at c_131; done)
           | (try simp (discharger := omega) only [wr_id] at c_131
              exfalso
              first | omega | exact c_131 trivial)
           | (try simp (discharger := omega) only [wr_id] at c_131
              refine R_aload_n dX5_middle_156 rfl rfl ?_
              refine R_getA fRX5_57 dX5_middle_157 rfl (Nat.lt_of_lt_of_le (Nat.le_of_ble_eq_true rfl) hnx) rfl ?_
              refine R_iload dX5_middle_160 rfl ?_
              refine R_iload dX5_middle_162 rfl ?_
              refine R_iastore (k := 0) dX5_middle_164 rfl (Nat.lt_of_lt_of_le (Nat.le_of_ble_eq_true rfl) hnx) (by omega) (by omega) (by decide) ?_
              refine R_iinc dX5_middle_165 rfl (Nat.le_of_ble_eq_true rfl) ?_
              refine R_goto (tgt := 96) dX5_middle_168 (by decide) ?_
              exact fin _)
         · first
           | (simp (discharger := omega) only [wr_id] at c_131; done)
           | (try simp (discharger := omega) only [wr_id] at c_131
              exfalso
              first | omega | exact c_131 trivial)
           | (try simp (discharger := omega) only [wr_id] at c_131
              refine R_aload_n dX5_middle_134 rfl rfl ?_
              refine R_getA fRX5_57 dX5_middle_135 rfl (Nat.lt_of_lt_of_le (Nat.le_of_ble_eq_true rfl) hnx) rfl ?_
              refine R_iload dX5_middle_138 rfl ?_
              refine R_aload_n dX5_middle_140 rfl rfl ?_
              refine R_getA fRX5_57 dX5_middle_141 rfl (Nat.lt_of_lt_of_le (Nat.le_of_ble_eq_true rfl) hnx) rfl ?_
              refine R_iload dX5_middle_144 rfl ?_
              refine R_iconst dX5_middle_146 ?_
              refine R_isub dX5_middle_147 ?_
              refine R_iaload (k := 0) dX5_middle_148 rfl (Nat.lt_of_lt_of_le (Nat.le_of_ble_eq_true rfl) hnx) (by omega) (by omega) (by decide) ?_
              refine R_iastore (k := 0) dX5_middle_149 rfl (Nat.lt_of_lt_of_le (Nat.le_of_ble_eq_true rfl) hnx) (by omega) (by omega) (by decide) ?_
              refine R_iinc dX5_middle_150 rfl (Nat.le_of_ble_eq_true rfl) ?_
              refine R_goto (tgt := 115) dX5_middle_153 (by decide) ?_
              (exfalso; omega)))
  | succ a ih =>
    intro J f ha hJ hr hF hg
    have ra := hr a (by omega)
    have hr2 := hr
    unfold inR at ra hv
    have ea := hJ a (by omega)
    have fin : ¬ v < f a → ∀ b : Int, Rr l G (Km G miX5_middle 0 0 nx Q) 0 0 96 [ar 48, ai K1, ai X1, ai Y1, ai O1, ai ((i : Int) + 1), ai v, ai b] [] (up2 J 62 (a + 1) v, Rs sw, nx, tl) := fun hlt b => by
      refine hQ _ b (fun j hj => ?_) (fun p hp2 => by rw [up2_ne _ _ _ hp2]; exact hF p hp2)
      rw [up2_self, ← hg j hj, sh, if_neg hlt]
      show (if j = a + 1 then v else J 62 j) = if j = a + 1 then v else f j
      rw [hJ j hj]
    have nxt : v < f a → Rr l G (Km G miX5_middle 0 0 nx Q) 0 0 115 [ar 48, ai K1, ai X1, ai Y1, ai O1, ai i, ai v, ai a] [] (up2 J 62 (a + 1) (f a), Rs sw, nx, tl) := fun hlt => by
      refine ih _ (ups f (a + 1) (f a)) (by omega) (fun j hj => ?_) (fun j hj => ?_) (fun p hp2 => by rw [up2_ne _ _ _ hp2]; exact hF p hp2) (fun j hj => ?_)
      · rw [up2_self]
        show (if j = a + 1 then f a else J 62 j) = if j = a + 1 then f a else f j
        rw [hJ j hj]
      · unfold ups
        split
        · exact hr a (by omega)
        · exact hr j hj
      · rw [← hg j hj, sh, if_pos hlt]
    dsimp only [Km, miX5_middle] at *
    refine R_iload dX5_middle_115 rfl ?_
    rw [show ((a + 1 : Nat) : Int) = (a : Int) + 1 from rfl] at *
    refine R_if_le (tgt := 156) dX5_middle_117 (by decide) (fun c_117 => ?_) (fun c_117 => ?_)
    · first
      | (simp (discharger := omega) only [wr_id] at c_117; done)
      | (try simp (discharger := omega) only [wr_id] at c_117
         exfalso
         first | omega | exact c_117 trivial)
      | (try simp (discharger := omega) only [wr_id] at c_117
         refine R_aload_n dX5_middle_156 rfl rfl ?_
         refine R_getA fRX5_57 dX5_middle_157 rfl (Nat.lt_of_lt_of_le (Nat.le_of_ble_eq_true rfl) hnx) rfl ?_
         refine R_iload dX5_middle_160 rfl ?_
         refine R_iload dX5_middle_162 rfl ?_
         refine R_iastore (k := a + 1) dX5_middle_164 rfl (Nat.lt_of_lt_of_le (Nat.le_of_ble_eq_true rfl) hnx) (by omega) (by omega) (by decide) ?_
         refine R_iinc dX5_middle_165 rfl (Nat.le_of_ble_eq_true rfl) ?_
         refine R_goto (tgt := 96) dX5_middle_168 (by decide) ?_
         exact fin (by omega) _)
    · first
      | (simp (discharger := omega) only [wr_id] at c_117; done)
      | (try simp (discharger := omega) only [wr_id] at c_117
         exfalso
         first | omega | exact c_117 trivial)
      | (try simp (discharger := omega) only [wr_id] at c_117
         refine R_aload_n dX5_middle_120 rfl rfl ?_
         refine R_getA fRX5_57 dX5_middle_121 rfl (Nat.lt_of_lt_of_le (Nat.le_of_ble_eq_true rfl) hnx) rfl ?_
         refine R_iload dX5_middle_124 rfl ?_
         refine R_iconst dX5_middle_126 ?_
         refine R_isub dX5_middle_127 ?_
         refine R_iaload (k := a) dX5_middle_128 rfl (Nat.lt_of_lt_of_le (Nat.le_of_ble_eq_true rfl) hnx) (by omega) (by omega) (by decide) ?_
         refine R_iload dX5_middle_129 rfl ?_
         rw [show (J, Rs sw, nx, tl).1 62 a = f a from ea]
         refine R_icmp_le (tgt := 156) dX5_middle_131 (by decide) (fun c_131 => ?_) (fun c_131 => ?_)
         · first
           | (simp (discharger := omega) only [wr_id] at c_131; done)
           | (try simp (discharger := omega) only [wr_id] at c_131
              exfalso
              first | omega | exact c_131 trivial)
           | (try simp (discharger := omega) only [wr_id] at c_131
              refine R_aload_n dX5_middle_156 rfl rfl ?_
              refine R_getA fRX5_57 dX5_middle_157 rfl (Nat.lt_of_lt_of_le (Nat.le_of_ble_eq_true rfl) hnx) rfl ?_
              refine R_iload dX5_middle_160 rfl ?_
              refine R_iload dX5_middle_162 rfl ?_
              refine R_iastore (k := a + 1) dX5_middle_164 rfl (Nat.lt_of_lt_of_le (Nat.le_of_ble_eq_true rfl) hnx) (by omega) (by omega) (by decide) ?_
              refine R_iinc dX5_middle_165 rfl (Nat.le_of_ble_eq_true rfl) ?_
              refine R_goto (tgt := 96) dX5_middle_168 (by decide) ?_
              exact fin (by omega) _)
         · first
           | (simp (discharger := omega) only [wr_id] at c_131; done)
           | (try simp (discharger := omega) only [wr_id] at c_131
              exfalso
              first | omega | exact c_131 trivial)
           | (try simp (discharger := omega) only [wr_id] at c_131
              refine R_aload_n dX5_middle_134 rfl rfl ?_
              refine R_getA fRX5_57 dX5_middle_135 rfl (Nat.lt_of_lt_of_le (Nat.le_of_ble_eq_true rfl) hnx) rfl ?_
              refine R_iload dX5_middle_138 rfl ?_
              refine R_aload_n dX5_middle_140 rfl rfl ?_
              refine R_getA fRX5_57 dX5_middle_141 rfl (Nat.lt_of_lt_of_le (Nat.le_of_ble_eq_true rfl) hnx) rfl ?_
              refine R_iload dX5_middle_144 rfl ?_
              refine R_iconst dX5_middle_146 ?_
              refine R_isub dX5_middle_147 ?_
              refine R_iaload (k := a) dX5_middle_148 rfl (Nat.lt_of_lt_of_le (Nat.le_of_ble_eq_true rfl) hnx) (by omega) (by omega) (by decide) ?_
              rw [show (J, Rs sw, nx, tl).1 62 a = f a from ea]
              refine R_iastore (k := a + 1) dX5_middle_149 rfl (Nat.lt_of_lt_of_le (Nat.le_of_ble_eq_true rfl) hnx) (by omega) (by omega) (by decide) ?_
              refine R_iinc dX5_middle_150 rfl (Nat.le_of_ble_eq_true rfl) ?_
              refine R_goto (tgt := 115) dX5_middle_153 (by decide) ?_
              rw [show (a : Int) + 1 + -1 = a by omega]
              exact nxt (by omega)))
theorem sh_in {f : Nat → Int} {v : Int} (hv : inR v) : ∀ (a : Nat) (f : Nat → Int), a < 5 → (∀ j, j < 5 → inR (f j)) → ∀ j, j < 5 → inR (sh f v a j)
  | 0, f, _, hf, j, hj => by
    show inR (if j = 0 then v else f j)
    split
    · exact hv
    · exact hf j hj
  | a + 1, f, ha, hf, j, hj => by
    unfold sh
    split
    · exact sh_in (f := f) hv a (ups f (a + 1) (f a)) (by omega) (fun i hi => by
        unfold ups
        split
        · exact hf a (by omega)
        · exact hf i hi) j hj
    · unfold ups
      split
      · exact hv
      · exact hf j hj
theorem so_in {f : Nat → Int} (hf : ∀ j, j < 5 → inR (f j)) : ∀ i, i ≤ 4 → ∀ j, j < 5 → inR (so f i j)
  | 0, _ => hf
  | i + 1, h => fun j hj => sh_in (f := f) (so_in hf i (by omega) (i + 1) (by omega)) (i + 1) _ (by omega) (so_in hf i (by omega)) j hj
theorem lp_mid2 (I : Nat → Nat → Int) (sw : Bool) (nx : Nat) (tl : Nat → Nat) (hnx : 63 ≤ nx) (Q : Option AV → Sg → Prop) (K1 X1 Y1 O1 : Int) (f : Nat → Int) (hf : ∀ j, j < 5 → inR (f j))
    (hQ : ∀ J : Nat → Nat → Int, J 62 2 = so f 4 2 → (∀ p, p ≠ 62 → J p = I p) → Q (some (ai (so f 4 2))) (J, Rs sw, nx, tl)) :
    ∀ (n i : Nat) (J : Nat → Nat → Int) (a b : AV), 4 - i < n → i ≤ 4 → F5R J (so f i) → (∀ p, p ≠ 62 → J p = I p) → Rr l G (Km G miX5_middle 0 0 nx Q) 0 0 96 [ar 48, ai K1, ai X1, ai Y1, ai O1, ai ((i : Int) + 1), a, b] [] (J, Rs sw, nx, tl) := by
  intro n
  induction n with
  | zero => intro i J a b h; omega
  | succ n ih =>
    intro i J a b hn hi hJ hF
    have step : i < 4 → Rr l G (Km G miX5_middle 0 0 nx Q) 0 0 115 [ar 48, ai K1, ai X1, ai Y1, ai O1, ai ((i : Int) + 1), ai (so f i (i + 1)), ai ((i : Int) + 1)] [] (J, Rs sw, nx, tl) := fun hlt =>
      lp_mid3 l G I sw nx tl hnx Q K1 X1 Y1 O1 (i + 1) (so f i (i + 1)) (so f (i + 1)) (by omega) (so_in hf i hi (i + 1) (by omega)) (fun J2 b2 h1 h2 => ih (i + 1) J2 _ (ai b2) (by omega) (by omega) h1 h2) (i + 1) J (so f i) (Nat.le_refl _) hJ (so_in hf i hi) hF (fun j hj => rfl)
    dsimp only [Km, miX5_middle] at *
    refine R_iload dX5_middle_96 rfl ?_
    refine R_iconst dX5_middle_98 ?_
    refine R_icmp_ge (tgt := 171) dX5_middle_99 (by decide) (fun c_99 => ?_) (fun c_99 => ?_)
    · first
      | (simp (discharger := omega) only [wr_id] at c_99; done)
      | (try simp (discharger := omega) only [wr_id] at c_99
         exfalso
         first | omega | exact c_99 trivial)
      | (try simp (discharger := omega) only [wr_id] at c_99
         refine R_aload_n dX5_middle_171 rfl rfl ?_
         refine R_getA fRX5_57 dX5_middle_172 rfl (Nat.lt_of_lt_of_le (Nat.le_of_ble_eq_true rfl) hnx) rfl ?_
         refine R_iconst dX5_middle_175 ?_
         refine R_iaload (k := 2) dX5_middle_176 rfl (Nat.lt_of_lt_of_le (Nat.le_of_ble_eq_true rfl) hnx) rfl (by omega) (by decide) ?_
         refine R_iret dX5_middle_177 rfl rfl rfl (Nat.le_refl _) ?_
         have e : i = 4 := by omega
         subst e
         rw [show (J, Rs sw, nx, tl).1 62 2 = so f 4 2 from hJ 2 (by omega)]
         exact hQ J (hJ 2 (by omega)) hF)
    · first
      | (simp (discharger := omega) only [wr_id] at c_99; done)
      | (try simp (discharger := omega) only [wr_id] at c_99
         exfalso
         first | omega | exact c_99 trivial)
      | (try simp (discharger := omega) only [wr_id] at c_99
         refine R_aload_n dX5_middle_102 rfl rfl ?_
         refine R_getA fRX5_57 dX5_middle_103 rfl (Nat.lt_of_lt_of_le (Nat.le_of_ble_eq_true rfl) hnx) rfl ?_
         refine R_iload dX5_middle_106 rfl ?_
         refine R_iaload (k := i + 1) dX5_middle_108 rfl (Nat.lt_of_lt_of_le (Nat.le_of_ble_eq_true rfl) hnx) (by omega) (by omega) (by decide) ?_
         rw [show (J, Rs sw, nx, tl).1 62 (i + 1) = so f i (i + 1) from hJ (i + 1) (by omega)]
         refine R_istore dX5_middle_109 (Nat.le_of_ble_eq_true rfl) ?_
         refine R_iload dX5_middle_111 rfl ?_
         refine R_istore dX5_middle_113 (Nat.le_of_ble_eq_true rfl) ?_
         exact step (by omega))
theorem m_middle (I : Nat → Nat → Int) (sw : Bool) (nx : Nat) (tl : Nat → Nat) (hnx : 63 ≤ nx) (k x y : Nat) {S : Sp} (hO : OkS S) (hM : Ms I S (sN S)) (hP : PicK I S k) (hk : k < sN S) (hx : x < fW S k) (hy : y < fH S k) : Mt l G miX5_middle 0 0 [ar 48, ai k, ai x, ai y] (I, Rs sw, nx, tl) (QI sw nx tl (fun r I' => r = some (ai (so (f5 (fW S k) (fH S k) (pic S k) x y) 4 2)) ∧ ∀ p, p ≠ 62 → I' p = I p)) := by
  have o5 := hO.2.2.2.2.1
  have r1 := (f_rng hO k (by omega)).1
  have r2 := (f_rng hO k (by omega)).2.1
  have hp : 1 ≤ fP S k := by rcases fP_13 S k with h | h <;> omega
  have e0 : I 60 (768 * k + 3 * (16 * y + x) + 0) = pic S k x y 0 := hP x y 0 hx hy (by omega)
  have hr : ∀ j, j < 5 → inR (f5 (fW S k) (fH S k) (pic S k) x y j) := fun j hj => by
    unfold inR f5
    have q0 := pic_rng hO k 0 (x := x) (y := y) (by omega) (by omega)
    split
    · omega
    · by_cases hi : (0 ≤ (x : Int) + ovx j ∧ (x : Int) + ovx j < fW S k) ∧ (0 ≤ (y : Int) + ovy j ∧ (y : Int) + ovy j < fH S k)
      · rw [nr_in (by omega) hx hy hi]
        have := pic_rng hO k 0 (x := ((x : Int) + ovx j).toNat) (y := ((y : Int) + ovy j).toNat) (by omega) (by omega)
        dsimp only
        omega
      · rw [nr_out (by omega) hx hy hi]
        dsimp only
        omega
  refine Mt.ofL (ls := [ar 48, ai k, ai x, ai y, none, none, none, none]) (by decide) (Nat.le_of_ble_eq_true rfl) rfl ?_
  dsimp only [Km, miX5_middle]
  refine R_aload_n dX5_middle_0 rfl rfl ?_
  refine R_getA fRX5_51 dX5_middle_1 rfl (Nat.lt_of_lt_of_le (Nat.le_of_ble_eq_true rfl) hnx) rfl ?_
  refine R_iload_n dX5_middle_4 rfl rfl ?_
  refine R_iload_n dX5_middle_5 rfl rfl ?_
  refine R_iload_n dX5_middle_6 rfl rfl ?_
  refine R_iconst dX5_middle_7 ?_
  refine R_cS dX5_middle_8 kRX5_85 vX5_place ⟨(Nat.le_of_ble_eq_true rfl), (Nat.le_of_ble_eq_true rfl)⟩ (m_place l G _ _ _ _ _) rfl ⟨(Nat.le_of_ble_eq_true rfl), (Nat.le_of_ble_eq_true rfl)⟩ rfl (Nat.le_of_ble_eq_true rfl) (fun r σ' hq hn' => ?_)
  obtain ⟨rfl, rfl⟩ := hq
  refine R_iaload (k := 768 * k + 3 * (16 * y + x) + 0) dX5_middle_11 rfl (Nat.lt_of_lt_of_le (Nat.le_of_ble_eq_true rfl) hnx) (by omega) (by omega) (by decide) ?_
  rw [show (I, Rs sw, nx, tl).1 60 (768 * k + 3 * (16 * y + x) + 0) = pic S k x y 0 from e0]
  refine R_istore dX5_middle_12 (Nat.le_of_ble_eq_true rfl) ?_
  refine R_aload_n dX5_middle_14 rfl rfl ?_
  refine R_getA fRX5_57 dX5_middle_15 rfl (Nat.lt_of_lt_of_le (Nat.le_of_ble_eq_true rfl) hnx) rfl ?_
  refine R_iconst dX5_middle_18 ?_
  refine R_iload dX5_middle_19 rfl ?_
  refine R_iastore (k := 4) dX5_middle_21 rfl (Nat.lt_of_lt_of_le (Nat.le_of_ble_eq_true rfl) hnx) rfl (by omega) (by decide) ?_
  refine R_iconst dX5_middle_22 ?_
  refine R_istore dX5_middle_23 (Nat.le_of_ble_eq_true rfl) ?_
  refine lp_mid1 l G I sw nx tl hnx _ k x y hO hM hP hk hx hy hp (fun J a b h1 h2 => ?_) 5 0 (up2 I 62 4 (pic S k x y 0)) none none (by omega) (by omega) (fun i hi => ?_) (fun p hp2 => up2_ne _ _ _ hp2)
  · dsimp only [Km, miX5_middle]
    refine R_iconst dX5_middle_93 ?_
    refine R_istore dX5_middle_94 (Nat.le_of_ble_eq_true rfl) ?_
    exact lp_mid2 l G I sw nx tl hnx _ _ _ _ _ (f5 (fW S k) (fH S k) (pic S k) x y) hr (fun J2 h3 h4 => ⟨J2, rfl, rfl, h4⟩) 5 0 J a b (by omega) (by omega) h1 h2
  · have e : i = 4 := by omega
    subst e
    rw [up2_self]
    simp [f5]
theorem cC_iff (W H p : Nat) (a b : Int) : cC W H p a b = true ↔ (0 ≤ a ∧ a < W) ∧ (0 ≤ b ∧ b < H) ∧ cl a.toNat b.toNat = p := by unfold cC; exact decide_eq_true_iff
theorem rS_rng {W H p : Nat} {F : Nat → Nat → Nat → Int} {x : Nat} {b : Int} (hF : ∀ a b, a < W → b < H → 0 ≤ F a b 0 ∧ F a b 0 ≤ 4095) : ∀ n : Nat, (0 ≤ rS W H p F x b n ∧ rS W H p F x b n ≤ 4095 * n) ∧ rM W H p x b n ≤ n
  | 0 => ⟨⟨Int.le_refl 0, Int.le_refl 0⟩, Nat.le_refl 0⟩
  | n + 1 => by
    have ih := rS_rng (p := p) (x := x) (b := b) hF n
    simp only [rS, rM]
    by_cases h : cC W H p ((x : Int) - 1 + n) b = true
    · have h2 := (cC_iff W H p _ b).mp h
      have := hF ((x : Int) - 1 + n).toNat b.toNat (by omega) (by omega)
      rw [if_pos h, if_pos h]
      omega
    · rw [if_neg h, if_neg h]
      omega
theorem tS_rng {W H p : Nat} {F : Nat → Nat → Nat → Int} {x y : Nat} (hF : ∀ a b, a < W → b < H → 0 ≤ F a b 0 ∧ F a b 0 ≤ 4095) : ∀ n : Nat, (0 ≤ tS W H p F x y n ∧ tS W H p F x y n ≤ 12285 * n) ∧ tM W H p x y n ≤ 3 * n
  | 0 => ⟨⟨Int.le_refl 0, Int.le_refl 0⟩, Nat.le_refl 0⟩
  | n + 1 => by
    have ih := tS_rng (p := p) (x := x) (y := y) hF n
    have := rS_rng (p := p) (x := x) (b := (y : Int) - 1 + n) hF 3
    simp only [tS, tM]
    omega
theorem lp_col2 (I : Nat → Nat → Int) (sw : Bool) (nx : Nat) (tl : Nat → Nat) (hnx : 63 ≤ nx) (Q : Option AV → Sg → Prop) (k x y p : Nat) (b : Int) (s m : Int) {S : Sp} (hO : OkS S) (hM : Ms I S (sN S)) (hP : PicK I S k) (hk : k < sN S) (hx : x < fW S k) (hy : y < fH S k) (hp : 1 ≤ fP S k) (hc : cl x y ≠ p) (hp3 : p < 3) (hb : -1 ≤ b ∧ b ≤ 17)
    (hQ : ∀ a : AV, Rr l G (Km G miX5_coloured 0 0 nx Q) 0 0 119 [ar 48, ai k, ai x, ai y, ai p, ai (s + rS (fW S k) (fH S k) p (pic S k) x b 3), ai (m + rM (fW S k) (fH S k) p x b 3), ai b, a] [] (I, Rs sw, nx, tl)) :
    ∀ (n i : Nat), 3 - i < n → i ≤ 3 → Rr l G (Km G miX5_coloured 0 0 nx Q) 0 0 47 [ar 48, ai k, ai x, ai y, ai p, ai (s + rS (fW S k) (fH S k) p (pic S k) x b i), ai (m + rM (fW S k) (fH S k) p x b i), ai b, ai ((x : Int) - 1 + i)] [] (I, Rs sw, nx, tl) := by
  have o5 := hO.2.2.2.2.1
  have r1 := (f_rng hO k (by omega)).1
  have r2 := (f_rng hO k (by omega)).2.1
  have hcl := hc
  have hc3 : ∀ a b : Nat, cl a b < 3 := fun a b => by unfold cl; omega
  intro n
  induction n with
  | zero => intro i h; omega
  | succ n ih =>
    intro i hn hi
    have ih2 : i < 3 → ∀ (u v : Int), u = s + rS (fW S k) (fH S k) p (pic S k) x b (i + 1) → v = m + rM (fW S k) (fH S k) p x b (i + 1) → Rr l G (Km G miX5_coloured 0 0 nx Q) 0 0 47 [ar 48, ai k, ai x, ai y, ai p, ai u, ai v, ai b, ai ((x : Int) - 1 + i + 1)] [] (I, Rs sw, nx, tl) := fun hlt u v hu hv => by
      have := ih (i + 1) (by omega) (by omega)
      rw [← hu, ← hv, show (x : Int) - 1 + ((i + 1 : Nat) : Int) = (x : Int) - 1 + i + 1 by omega] at this
      exact this
    have yes : cC (fW S k) (fH S k) p ((x : Int) - 1 + i) b = true → rS (fW S k) (fH S k) p (pic S k) x b (i + 1) = rS (fW S k) (fH S k) p (pic S k) x b i + pic S k ((x : Int) - 1 + i).toNat b.toNat 0 ∧ rM (fW S k) (fH S k) p x b (i + 1) = rM (fW S k) (fH S k) p x b i + 1 := fun h => by simp only [rS, rM]; rw [if_pos h, if_pos h]; exact ⟨rfl, rfl⟩
    have no : ¬ cC (fW S k) (fH S k) p ((x : Int) - 1 + i) b = true → rS (fW S k) (fH S k) p (pic S k) x b (i + 1) = rS (fW S k) (fH S k) p (pic S k) x b i ∧ rM (fW S k) (fH S k) p x b (i + 1) = rM (fW S k) (fH S k) p x b i := fun h => by simp only [rS, rM]; rw [if_neg h, if_neg h]; exact ⟨rfl, rfl⟩
    rw [cC_iff] at yes no
    have hself : ¬ ((x : Int) - 1 + i = x ∧ b = (y : Int) ∧ cl ((x : Int) - 1 + i).toNat b.toNat = p) := fun ⟨h1, h2, h3⟩ => hc (by rw [h1, h2, Int.toNat_natCast, Int.toNat_natCast] at h3; exact h3)
    dsimp only [Km, miX5_coloured] at *
    refine R_iload dX5_coloured_47 rfl ?_
    refine R_iload_n dX5_coloured_49 rfl rfl ?_
    refine R_iconst dX5_coloured_50 ?_
    refine R_iadd dX5_coloured_51 ?_
    refine R_icmp_gt (tgt := 119) dX5_coloured_52 (by decide) (fun c_52 => ?_) (fun c_52 => ?_)
    · first
      | (simp (discharger := omega) only [wr_id] at c_52; done)
      | (try simp (discharger := omega) only [wr_id] at c_52
         exfalso
         first | omega | exact c_52 trivial)
      | (try simp (discharger := omega) only [wr_id] at c_52
         have e : i = 3 := by omega
         subst e
         exact hQ _)
    · first
      | (simp (discharger := omega) only [wr_id] at c_52; done)
      | (try simp (discharger := omega) only [wr_id] at c_52
         exfalso
         first | omega | exact c_52 trivial)
      | (try simp (discharger := omega) only [wr_id] at c_52
         refine R_aload_n dX5_coloured_55 rfl rfl ?_
         refine R_iload_n dX5_coloured_56 rfl rfl ?_
         refine R_iload dX5_coloured_57 rfl ?_
         refine R_iload dX5_coloured_59 rfl ?_
         refine R_cV dX5_coloured_61 kRX5_95 vX5_isPlace ⟨(Nat.le_of_ble_eq_true rfl), (Nat.le_of_ble_eq_true rfl)⟩ (m_isPlace l G I sw nx tl hnx k _ _ ⟨by omega, by omega⟩ ⟨by omega, by omega⟩ (by omega) hO hM) rfl ⟨(Nat.le_of_ble_eq_true rfl), (Nat.le_of_ble_eq_true rfl)⟩ rfl (Nat.lt_of_lt_of_le (Nat.le_of_ble_eq_true rfl) hnx) rfl rfl (Nat.le_of_ble_eq_true rfl) (fun r σ' hq hn' => ?_)
         obtain ⟨⟨b8, rfl, hb8⟩, rfl⟩ := hq
         refine R_if_eq (tgt := 113) dX5_coloured_64 (by decide) (fun c_64 => ?_) (fun c_64 => ?_)
         · first
           | (simp (discharger := omega) only [wr_id] at c_64; done)
           | (try simp (discharger := omega) only [wr_id] at c_64
              exfalso
              first | omega | exact c_64 trivial)
           | (try simp (discharger := omega) only [wr_id] at c_64
              refine R_iinc dX5_coloured_113 rfl (Nat.le_of_ble_eq_true rfl) ?_
              refine R_goto (tgt := 47) dX5_coloured_116 (by decide) ?_
              try rw [show ((b.toNat : Nat) : Int) = b by omega, show (((((x : Int) - 1 + i).toNat : Nat)) : Int) = (x : Int) - 1 + i by omega]
              first
              | (exact ih2 (by omega) _ _ (by rw [(no (by omega)).1]) (by rw [(no (by omega)).2]))
              | (exact ih2 (by omega) _ _ (by rw [(yes (by omega)).1]; omega) (by rw [(yes (by omega)).2]; omega)))
         · first
           | (simp (discharger := omega) only [wr_id] at c_64; done)
           | (try simp (discharger := omega) only [wr_id] at c_64
              exfalso
              first | omega | exact c_64 trivial)
           | (try simp (discharger := omega) only [wr_id] at c_64
              have hc4 := hc3 ((x : Int) - 1 + i).toNat b.toNat
              refine R_iload dX5_coloured_67 rfl ?_
              refine R_iload dX5_coloured_69 rfl ?_
              rw [show (x : Int) - 1 + (i : Int) = ((((x : Int) - 1 + i).toNat : Nat) : Int) by omega, show b = ((b.toNat : Nat) : Int) by omega]
              refine R_cS dX5_coloured_71 kRX5_98 vX5_colour ⟨(Nat.le_of_ble_eq_true rfl), (Nat.le_of_ble_eq_true rfl)⟩ (m_colour l G _ _ _ (by omega) (by omega)) rfl ⟨(Nat.le_of_ble_eq_true rfl), (Nat.le_of_ble_eq_true rfl)⟩ rfl (Nat.le_of_ble_eq_true rfl) (fun r σ' hq hn' => ?_)
              obtain ⟨rfl, rfl⟩ := hq
              refine R_iload dX5_coloured_74 rfl ?_
              refine R_icmp_ne (tgt := 113) dX5_coloured_76 (by decide) (fun c_76 => ?_) (fun c_76 => ?_)
              · first
                | (simp (discharger := omega) only [wr_id] at c_76; done)
                | (try simp (discharger := omega) only [wr_id] at c_76
                   exfalso
                   first | omega | exact c_76 trivial)
                | (try simp (discharger := omega) only [wr_id] at c_76
                   refine R_iinc dX5_coloured_113 rfl (Nat.le_of_ble_eq_true rfl) ?_
                   refine R_goto (tgt := 47) dX5_coloured_116 (by decide) ?_
                   try rw [show ((b.toNat : Nat) : Int) = b by omega, show (((((x : Int) - 1 + i).toNat : Nat)) : Int) = (x : Int) - 1 + i by omega]
                   first
                   | (exact ih2 (by omega) _ _ (by rw [(no (by omega)).1]) (by rw [(no (by omega)).2]))
                   | (exact ih2 (by omega) _ _ (by rw [(yes (by omega)).1]; omega) (by rw [(yes (by omega)).2]; omega)))
              · first
                | (simp (discharger := omega) only [wr_id] at c_76; done)
                | (try simp (discharger := omega) only [wr_id] at c_76
                   exfalso
                   first | omega | exact c_76 trivial)
                | (try simp (discharger := omega) only [wr_id] at c_76
                   refine R_iload dX5_coloured_79 rfl ?_
                   refine R_iload_n dX5_coloured_81 rfl rfl ?_
                   skip
                   refine R_icmp_ne (tgt := 91) dX5_coloured_82 (by decide) (fun c_82 => ?_) (fun c_82 => ?_)
                   · first
                     | (simp (discharger := omega) only [wr_id] at c_82; done)
                     | (try simp (discharger := omega) only [wr_id] at c_82
                        exfalso
                        first | omega | exact c_82 trivial)
                     | (try simp (discharger := omega) only [wr_id] at c_82
                        refine R_iload dX5_coloured_91 rfl ?_
                        refine R_aload_n dX5_coloured_93 rfl rfl ?_
                        refine R_getA fRX5_51 dX5_coloured_94 rfl (Nat.lt_of_lt_of_le (Nat.le_of_ble_eq_true rfl) hnx) rfl ?_
                        refine R_iload_n dX5_coloured_97 rfl rfl ?_
                        refine R_iload dX5_coloured_98 rfl ?_
                        refine R_iload dX5_coloured_100 rfl ?_
                        refine R_iconst dX5_coloured_102 ?_
                        refine R_cS dX5_coloured_103 kRX5_85 vX5_place ⟨(Nat.le_of_ble_eq_true rfl), (Nat.le_of_ble_eq_true rfl)⟩ (m_place l G _ _ _ _ _) rfl ⟨(Nat.le_of_ble_eq_true rfl), (Nat.le_of_ble_eq_true rfl)⟩ rfl (Nat.le_of_ble_eq_true rfl) (fun r σ' hq hn' => ?_)
                        obtain ⟨rfl, rfl⟩ := hq
                        refine R_iaload (k := 768 * k + 3 * (16 * b.toNat + ((x : Int) - 1 + i).toNat) + 0) dX5_coloured_106 rfl (Nat.lt_of_lt_of_le (Nat.le_of_ble_eq_true rfl) hnx) (by omega) (by omega) (by decide) ?_
                        rw [show (I, Rs sw, nx, tl).1 60 (768 * k + 3 * (16 * b.toNat + ((x : Int) - 1 + i).toNat) + 0) = pic S k ((x : Int) - 1 + i).toNat b.toNat 0 from hP _ _ _ (by omega) (by omega) (by omega)]
                        refine R_iadd dX5_coloured_107 ?_
                        refine R_istore dX5_coloured_108 (Nat.le_of_ble_eq_true rfl) ?_
                        refine R_iinc dX5_coloured_110 rfl (Nat.le_of_ble_eq_true rfl) ?_
                        refine R_iinc dX5_coloured_113 rfl (Nat.le_of_ble_eq_true rfl) ?_
                        refine R_goto (tgt := 47) dX5_coloured_116 (by decide) ?_
                        try rw [show ((b.toNat : Nat) : Int) = b by omega, show (((((x : Int) - 1 + i).toNat : Nat)) : Int) = (x : Int) - 1 + i by omega]
                        first
                        | (exact ih2 (by omega) _ _ (by rw [(no (by omega)).1]) (by rw [(no (by omega)).2]))
                        | (exact ih2 (by omega) _ _ (by rw [(yes (by omega)).1]; omega) (by rw [(yes (by omega)).2]; omega)))
                   · first
                     | (simp (discharger := omega) only [wr_id] at c_82; done)
                     | (try simp (discharger := omega) only [wr_id] at c_82
                        exfalso
                        first | omega | exact c_82 trivial)
                     | (try simp (discharger := omega) only [wr_id] at c_82
                        refine R_iload dX5_coloured_85 rfl ?_
                        refine R_iload_n dX5_coloured_87 rfl rfl ?_
                        refine R_icmp_eq (tgt := 113) dX5_coloured_88 (by decide) (fun c_88 => ?_) (fun c_88 => ?_)
                        · first
                          | (simp (discharger := omega) only [wr_id] at c_88; done)
                          | (try simp (discharger := omega) only [wr_id] at c_88
                             exfalso
                             first | omega | exact c_88 trivial)
                          | (try simp (discharger := omega) only [wr_id] at c_88
                             refine R_iinc dX5_coloured_113 rfl (Nat.le_of_ble_eq_true rfl) ?_
                             refine R_goto (tgt := 47) dX5_coloured_116 (by decide) ?_
                             try rw [show ((b.toNat : Nat) : Int) = b by omega, show (((((x : Int) - 1 + i).toNat : Nat)) : Int) = (x : Int) - 1 + i by omega]
                             first
                             | (exact ih2 (by omega) _ _ (by rw [(no (by omega)).1]) (by rw [(no (by omega)).2]))
                             | (exact ih2 (by omega) _ _ (by rw [(yes (by omega)).1]; omega) (by rw [(yes (by omega)).2]; omega)))
                        · first
                          | (simp (discharger := omega) only [wr_id] at c_88; done)
                          | (try simp (discharger := omega) only [wr_id] at c_88
                             exfalso
                             first | omega | exact c_88 trivial)
                          | (try simp (discharger := omega) only [wr_id] at c_88
                             refine R_iload dX5_coloured_91 rfl ?_
                             refine R_aload_n dX5_coloured_93 rfl rfl ?_
                             refine R_getA fRX5_51 dX5_coloured_94 rfl (Nat.lt_of_lt_of_le (Nat.le_of_ble_eq_true rfl) hnx) rfl ?_
                             refine R_iload_n dX5_coloured_97 rfl rfl ?_
                             refine R_iload dX5_coloured_98 rfl ?_
                             refine R_iload dX5_coloured_100 rfl ?_
                             refine R_iconst dX5_coloured_102 ?_
                             refine R_cS dX5_coloured_103 kRX5_85 vX5_place ⟨(Nat.le_of_ble_eq_true rfl), (Nat.le_of_ble_eq_true rfl)⟩ (m_place l G _ _ _ _ _) rfl ⟨(Nat.le_of_ble_eq_true rfl), (Nat.le_of_ble_eq_true rfl)⟩ rfl (Nat.le_of_ble_eq_true rfl) (fun r σ' hq hn' => ?_)
                             obtain ⟨rfl, rfl⟩ := hq
                             refine R_iaload (k := 768 * k + 3 * (16 * b.toNat + ((x : Int) - 1 + i).toNat) + 0) dX5_coloured_106 rfl (Nat.lt_of_lt_of_le (Nat.le_of_ble_eq_true rfl) hnx) (by omega) (by omega) (by decide) ?_
                             rw [show (I, Rs sw, nx, tl).1 60 (768 * k + 3 * (16 * b.toNat + ((x : Int) - 1 + i).toNat) + 0) = pic S k ((x : Int) - 1 + i).toNat b.toNat 0 from hP _ _ _ (by omega) (by omega) (by omega)]
                             refine R_iadd dX5_coloured_107 ?_
                             refine R_istore dX5_coloured_108 (Nat.le_of_ble_eq_true rfl) ?_
                             refine R_iinc dX5_coloured_110 rfl (Nat.le_of_ble_eq_true rfl) ?_
                             refine R_iinc dX5_coloured_113 rfl (Nat.le_of_ble_eq_true rfl) ?_
                             refine R_goto (tgt := 47) dX5_coloured_116 (by decide) ?_
                             try rw [show ((b.toNat : Nat) : Int) = b by omega, show (((((x : Int) - 1 + i).toNat : Nat)) : Int) = (x : Int) - 1 + i by omega]
                             first
                             | (exact ih2 (by omega) _ _ (by rw [(no (by omega)).1]) (by rw [(no (by omega)).2]))
                             | (exact ih2 (by omega) _ _ (by rw [(yes (by omega)).1]; omega) (by rw [(yes (by omega)).2]; omega)))))))
theorem lp_col1 (I : Nat → Nat → Int) (sw : Bool) (nx : Nat) (tl : Nat → Nat) (hnx : 63 ≤ nx) (Q : Option AV → Sg → Prop) (k x y p : Nat) {S : Sp} (hO : OkS S) (hM : Ms I S (sN S)) (hP : PicK I S k) (hk : k < sN S) (hx : x < fW S k) (hy : y < fH S k) (hp : 1 ≤ fP S k) (hc : cl x y ≠ p) (hp3 : p < 3)
    (hQ : ∀ a b : AV, Rr l G (Km G miX5_coloured 0 0 nx Q) 0 0 125 [ar 48, ai k, ai x, ai y, ai p, ai (tS (fW S k) (fH S k) p (pic S k) x y 3), ai (tM (fW S k) (fH S k) p x y 3), a, b] [] (I, Rs sw, nx, tl)) :
    ∀ (n i : Nat) (a : AV), 3 - i < n → i ≤ 3 → Rr l G (Km G miX5_coloured 0 0 nx Q) 0 0 34 [ar 48, ai k, ai x, ai y, ai p, ai (tS (fW S k) (fH S k) p (pic S k) x y i), ai (tM (fW S k) (fH S k) p x y i), ai ((y : Int) - 1 + i), a] [] (I, Rs sw, nx, tl) := by
  have r1 := (f_rng hO k (by omega)).1
  have r2 := (f_rng hO k (by omega)).2.1
  intro n
  induction n with
  | zero => intro i a h; omega
  | succ n ih =>
    intro i a hn hi
    have cont : i < 3 → ∀ a : AV, Rr l G (Km G miX5_coloured 0 0 nx Q) 0 0 119 [ar 48, ai k, ai x, ai y, ai p, ai (tS (fW S k) (fH S k) p (pic S k) x y i + rS (fW S k) (fH S k) p (pic S k) x ((y : Int) - 1 + i) 3), ai (tM (fW S k) (fH S k) p x y i + (rM (fW S k) (fH S k) p x ((y : Int) - 1 + i) 3 : Nat)), ai ((y : Int) - 1 + i), a] [] (I, Rs sw, nx, tl) := fun hlt a => by
      have h0 := ih (i + 1) a (by omega) (by omega)
      rw [show (y : Int) - 1 + ((i + 1 : Nat) : Int) = (y : Int) - 1 + i + 1 by omega] at h0
      dsimp only [Km, miX5_coloured] at *
      refine R_iinc dX5_coloured_119 rfl (Nat.le_of_ble_eq_true rfl) ?_
      refine R_goto (tgt := 34) dX5_coloured_122 (by decide) ?_
      exact h0
    dsimp only [Km, miX5_coloured] at *
    refine R_iload dX5_coloured_34 rfl ?_
    refine R_iload_n dX5_coloured_36 rfl rfl ?_
    refine R_iconst dX5_coloured_37 ?_
    refine R_iadd dX5_coloured_38 ?_
    refine R_icmp_gt (tgt := 125) dX5_coloured_39 (by decide) (fun c_39 => ?_) (fun c_39 => ?_)
    · first
      | (simp (discharger := omega) only [wr_id] at c_39; done)
      | (try simp (discharger := omega) only [wr_id] at c_39
         exfalso
         first | omega | exact c_39 trivial)
      | (try simp (discharger := omega) only [wr_id] at c_39
         have e : i = 3 := by omega
         subst e
         exact hQ _ _)
    · first
      | (simp (discharger := omega) only [wr_id] at c_39; done)
      | (try simp (discharger := omega) only [wr_id] at c_39
         exfalso
         first | omega | exact c_39 trivial)
      | (try simp (discharger := omega) only [wr_id] at c_39
         refine R_iload_n dX5_coloured_42 rfl rfl ?_
         refine R_iconst dX5_coloured_43 ?_
         refine R_isub dX5_coloured_44 ?_
         refine R_istore dX5_coloured_45 (Nat.le_of_ble_eq_true rfl) ?_
         have h0 := lp_col2 l G I sw nx tl hnx Q k x y p ((y : Int) - 1 + i) (tS (fW S k) (fH S k) p (pic S k) x y i) (tM (fW S k) (fH S k) p x y i) hO hM hP hk hx hy hp hc hp3 (by omega) (cont (by omega)) 4 0 (by omega) (by omega)
         rw [show tS (fW S k) (fH S k) p (pic S k) x y i + rS (fW S k) (fH S k) p (pic S k) x ((y : Int) - 1 + i) 0 = tS (fW S k) (fH S k) p (pic S k) x y i from Int.add_zero _, show (tM (fW S k) (fH S k) p x y i : Int) + (rM (fW S k) (fH S k) p x ((y : Int) - 1 + i) 0 : Nat) = tM (fW S k) (fH S k) p x y i from Int.add_zero _, show (x : Int) - 1 + ((0 : Nat) : Int) = (x : Int) - 1 from Int.add_zero _] at h0
         exact h0)
theorem m_coloured (I : Nat → Nat → Int) (sw : Bool) (nx : Nat) (tl : Nat → Nat) (hnx : 63 ≤ nx) (k x y p : Nat) {S : Sp} (hO : OkS S) (hM : Ms I S (sN S)) (hP : PicK I S k) (hk : k < sN S) (hx : x < fW S k) (hy : y < fH S k) (hp3 : p < 3) : Mt l G miX5_coloured 0 0 [ar 48, ai k, ai x, ai y, ai p] (I, Rs sw, nx, tl) (fun r σ' => r = some (ai (if cl x y = p then pic S k x y 0 else if tM (fW S k) (fH S k) p x y 3 = 0 then 0 else tS (fW S k) (fH S k) p (pic S k) x y 3 / tM (fW S k) (fH S k) p x y 3)) ∧ σ' = (I, Rs sw, nx, tl)) := by
  have o5 := hO.2.2.2.2.1
  have r1 := (f_rng hO k (by omega)).1
  have r2 := (f_rng hO k (by omega)).2.1
  have hp : 1 ≤ fP S k := by rcases fP_13 S k with h | h <;> omega
  have hF : ∀ a b, a < fW S k → b < fH S k → 0 ≤ pic S k a b 0 ∧ pic S k a b 0 ≤ 4095 := fun a b ha hb => pic_rng hO k 0 (by omega) (by omega)
  have rg := tS_rng (p := p) (x := x) (y := y) hF 3
  have hc3 : cl x y < 3 := by unfold cl; omega
  have e0 : I 60 (768 * k + 3 * (16 * y + x) + 0) = pic S k x y 0 := hP x y 0 hx hy (by omega)
  refine Mt.ofL (ls := [ar 48, ai k, ai x, ai y, ai p, none, none, none, none]) (by decide) (Nat.le_of_ble_eq_true rfl) rfl ?_
  dsimp only [Km, miX5_coloured]
  refine R_iload_n dX5_coloured_0 rfl rfl ?_
  refine R_iload_n dX5_coloured_1 rfl rfl ?_
  refine R_cS dX5_coloured_2 kRX5_98 vX5_colour ⟨(Nat.le_of_ble_eq_true rfl), (Nat.le_of_ble_eq_true rfl)⟩ (m_colour l G _ _ _ (by omega) (by omega)) rfl ⟨(Nat.le_of_ble_eq_true rfl), (Nat.le_of_ble_eq_true rfl)⟩ rfl (Nat.le_of_ble_eq_true rfl) (fun r σ' hq hn' => ?_)
  obtain ⟨rfl, rfl⟩ := hq
  refine R_iload dX5_coloured_5 rfl ?_
  refine R_icmp_ne (tgt := 23) dX5_coloured_7 (by decide) (fun c_7 => ?_) (fun c_7 => ?_)
  · first
    | (simp (discharger := omega) only [wr_id] at c_7; done)
    | (try simp (discharger := omega) only [wr_id] at c_7
       exfalso
       first | omega | exact c_7 trivial)
    | (try simp (discharger := omega) only [wr_id] at c_7
       refine R_iconst dX5_coloured_23 ?_
       refine R_istore dX5_coloured_24 (Nat.le_of_ble_eq_true rfl) ?_
       refine R_iconst dX5_coloured_26 ?_
       refine R_istore dX5_coloured_27 (Nat.le_of_ble_eq_true rfl) ?_
       refine R_iload_n dX5_coloured_29 rfl rfl ?_
       refine R_iconst dX5_coloured_30 ?_
       refine R_isub dX5_coloured_31 ?_
       refine R_istore dX5_coloured_32 (Nat.le_of_ble_eq_true rfl) ?_
       rw [show (y : Int) - 1 = (y : Int) - 1 + ((0 : Nat) : Int) from (Int.add_zero _).symm]
       refine lp_col1 l G I sw nx tl hnx _ k x y p hO hM hP hk hx hy hp (by omega) hp3 (fun a b => ?_) 4 0 none (by omega) (by omega)
       dsimp only [Km, miX5_coloured]
       refine R_iload dX5_coloured_125 rfl ?_
       refine R_if_ne (tgt := 134) dX5_coloured_127 (by decide) (fun c_127 => ?_) (fun c_127 => ?_)
       · first
         | (simp (discharger := omega) only [wr_id] at c_127; done)
         | (try simp (discharger := omega) only [wr_id] at c_127
            exfalso
            first | omega | exact c_127 trivial)
         | (try simp (discharger := omega) only [wr_id] at c_127
            refine R_iload dX5_coloured_134 rfl ?_
            refine R_iload dX5_coloured_136 rfl ?_
            refine R_idiv dX5_coloured_138 (by rw [wr_id (by omega) (by omega)]; omega) ?_
            refine R_iret dX5_coloured_139 rfl rfl rfl (Nat.le_refl _) ?_
            first
            | (exact ⟨sa (by rw [if_neg (by omega), if_pos (by omega)]), rfl⟩)
            | (exact ⟨sa (by rw [if_neg (by omega), if_neg (by omega), bDivI (by omega) (by omega)]), rfl⟩))
       · first
         | (simp (discharger := omega) only [wr_id] at c_127; done)
         | (try simp (discharger := omega) only [wr_id] at c_127
            exfalso
            first | omega | exact c_127 trivial)
         | (try simp (discharger := omega) only [wr_id] at c_127
            refine R_iconst dX5_coloured_130 ?_
            refine R_goto (tgt := 139) dX5_coloured_131 (by decide) ?_
            refine R_iret dX5_coloured_139 rfl rfl rfl (Nat.le_refl _) ?_
            first
            | (exact ⟨sa (by rw [if_neg (by omega), if_pos (by omega)]), rfl⟩)
            | (exact ⟨sa (by rw [if_neg (by omega), if_neg (by omega), bDivI (by omega) (by omega)]), rfl⟩)))
  · first
    | (simp (discharger := omega) only [wr_id] at c_7; done)
    | (try simp (discharger := omega) only [wr_id] at c_7
       exfalso
       first | omega | exact c_7 trivial)
    | (try simp (discharger := omega) only [wr_id] at c_7
       refine R_aload_n dX5_coloured_10 rfl rfl ?_
       refine R_getA fRX5_51 dX5_coloured_11 rfl (Nat.lt_of_lt_of_le (Nat.le_of_ble_eq_true rfl) hnx) rfl ?_
       refine R_iload_n dX5_coloured_14 rfl rfl ?_
       refine R_iload_n dX5_coloured_15 rfl rfl ?_
       refine R_iload_n dX5_coloured_16 rfl rfl ?_
       refine R_iconst dX5_coloured_17 ?_
       refine R_cS dX5_coloured_18 kRX5_85 vX5_place ⟨(Nat.le_of_ble_eq_true rfl), (Nat.le_of_ble_eq_true rfl)⟩ (m_place l G _ _ _ _ _) rfl ⟨(Nat.le_of_ble_eq_true rfl), (Nat.le_of_ble_eq_true rfl)⟩ rfl (Nat.le_of_ble_eq_true rfl) (fun r σ' hq hn' => ?_)
       obtain ⟨rfl, rfl⟩ := hq
       refine R_iaload (k := 768 * k + 3 * (16 * y + x) + 0) dX5_coloured_21 rfl (Nat.lt_of_lt_of_le (Nat.le_of_ble_eq_true rfl) hnx) (by omega) (by omega) (by decide) ?_
       refine R_iret dX5_coloured_22 rfl rfl rfl (Nat.le_refl _) ?_
       rw [show (I, Rs sw, nx, tl).1 60 (768 * k + 3 * (16 * y + x) + 0) = pic S k x y 0 from e0]
       exact ⟨sa (by rw [if_pos (by omega)]), rfl⟩)
end MODEL6
