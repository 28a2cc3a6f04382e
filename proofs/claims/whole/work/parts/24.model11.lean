/-! the reference: bound -/
section MODEL11
variable (l : Launch) (G : GE)
def sB (sd best v : Int) : Int := if sd = 0 then (if v < best then v else best) else (if best < v then v else best)
def fbX (S : Sp) (p : Nat) (sd : Int) (y : Nat) (b : Int) : Nat → Int
  | 0 => b
  | n + 1 => sB sd (fbX S p sd y b n) (pic S (sN S) n y p)
def fbY (S : Sp) (p : Nat) (sd b : Int) : Nat → Int
  | 0 => b
  | n + 1 => fbX S p sd n (fbY S p sd b n) (fW S (sN S))
def o_bound (S : Sp) (p sd : Int) : Int := if (0 ≤ p ∧ p < fP S (sN S)) ∧ (0 ≤ sd ∧ sd ≤ 1) then fbY S p.toNat sd (pic S (sN S) 0 0 p.toNat) (fH S (sN S)) else -102
theorem sB_rng {sd b v : Int} (hb : 0 ≤ b ∧ b ≤ 4095) (hv : 0 ≤ v ∧ v ≤ 4095) : 0 ≤ sB sd b v ∧ sB sd b v ≤ 4095 := by
  unfold sB
  repeat' split
  all_goals omega
theorem fbX_rng {S : Sp} (hO : OkS S) {p : Nat} {sd : Int} {y : Nat} {b : Int} (hb : 0 ≤ b ∧ b ≤ 4095) (hy : y < 16) : ∀ n : Nat, n ≤ 16 → 0 ≤ fbX S p sd y b n ∧ fbX S p sd y b n ≤ 4095
  | 0, _ => hb
  | n + 1, h => sB_rng (fbX_rng hO hb hy n (by omega)) (pic_rng hO (sN S) p (by omega) hy)
theorem fbY_rng {S : Sp} (hO : OkS S) {p : Nat} {sd b : Int} (hb : 0 ≤ b ∧ b ≤ 4095) : ∀ n : Nat, n ≤ 16 → 0 ≤ fbY S p sd b n ∧ fbY S p sd b n ≤ 4095
  | 0, _ => hb
  | n + 1, h => fbX_rng hO (fbY_rng hO hb n (by omega)) (by omega) _ (f_rng hO (sN S) (Nat.le_refl _)).1.2
theorem lp_bnd2 (I : Nat → Nat → Int) (sw : Bool) (nx : Nat) (tl : Nat → Nat) (hnx : 63 ≤ nx) (Q : Option AV → Sg → Prop) (p y : Nat) (sd b : Int) {S : Sp} (hR : RelM I S) (hO : OkS S) (hM : Ms I S (sN S)) (hP : PicK I S (sN S)) (hp : p < fP S (sN S)) (hy : y < fH S (sN S)) (hs : 0 ≤ sd ∧ sd ≤ 1) (hb : 0 ≤ b ∧ b ≤ 4095)
    (hQ : ∀ A B : AV, Rr l G (Km G miX5_bound 0 0 nx Q) 0 0 146 [ar 48, ai p, ai sd, ai (fbX S p sd y b (fW S (sN S))), ai y, A, B] [] (I, Rs sw, nx, tl)) :
    ∀ (n i : Nat) (B : AV), fW S (sN S) - i < n → i ≤ fW S (sN S) → Rr l G (Km G miX5_bound 0 0 nx Q) 0 0 75 [ar 48, ai p, ai sd, ai (fbX S p sd y b i), ai y, ai i, B] [] (I, Rs sw, nx, tl) := by
  have o5 := hO.2.2.2.2.1
  have g5 := hR.2.2.2.2.1
  obtain ⟨q1, q2, q3, -⟩ := hM (sN S) (Nat.le_refl _)
  have r1 := (f_rng hO (sN S) (Nat.le_refl _)).1
  have r2 := (f_rng hO (sN S) (Nat.le_refl _)).2.1
  have r3 := fP_13 S (sN S)
  intro n
  induction n with
  | zero => intro i B h; omega
  | succ n ih =>
    intro i B hn hi
    have rb := fbX_rng hO (p := p) (sd := sd) hb (show y < 16 by omega) i (by omega)
    have ih2 : i < fW S (sN S) → ∀ (u : Int) (B : AV), u = sB sd (fbX S p sd y b i) (pic S (sN S) i y p) → Rr l G (Km G miX5_bound 0 0 nx Q) 0 0 75 [ar 48, ai p, ai sd, ai u, ai y, ai ((i : Int) + 1), B] [] (I, Rs sw, nx, tl) := fun hlt u B hu => by
      have h0 := ih (i + 1) B (by omega) (by omega)
      rw [show fbX S p sd y b (i + 1) = u from hu.symm] at h0
      exact h0
    dsimp only [Km, miX5_bound] at *
    refine R_iload dX5_bound_75 rfl ?_
    refine R_aload_n dX5_bound_77 rfl rfl ?_
    refine R_getA fRX5_36 dX5_bound_78 rfl (Nat.lt_of_lt_of_le (Nat.le_of_ble_eq_true rfl) hnx) rfl ?_
    refine R_aload_n dX5_bound_81 rfl rfl ?_
    refine R_getI fRX5_64 dX5_bound_82 rfl (Nat.lt_of_lt_of_le (Nat.le_of_ble_eq_true rfl) hnx) ?_
    rw [show (I, Rs sw, nx, tl).1 48 4 = (sN S : Int) from g5]
    refine R_iaload (k := sN S) dX5_bound_85 rfl (Nat.lt_of_lt_of_le (Nat.le_of_ble_eq_true rfl) hnx) (by omega) (by omega) (by decide) ?_
    rw [show (I, Rs sw, nx, tl).1 55 (sN S) = (fW S (sN S) : Int) from q1]
    refine R_icmp_ge (tgt := 146) dX5_bound_86 (by decide) (fun c_86 => ?_) (fun c_86 => ?_)
    · first
      | (simp (discharger := omega) only [wr_id] at c_86; done)
      | (try simp (discharger := omega) only [wr_id] at c_86
         exfalso
         first | omega | exact c_86 trivial)
      | (try simp (discharger := omega) only [wr_id] at c_86
         have e : i = fW S (sN S) := by omega
         subst e
         exact hQ _ _)
    · first
      | (simp (discharger := omega) only [wr_id] at c_86; done)
      | (try simp (discharger := omega) only [wr_id] at c_86
         exfalso
         first | omega | exact c_86 trivial)
      | (try simp (discharger := omega) only [wr_id] at c_86
         refine R_aload_n dX5_bound_89 rfl rfl ?_
         refine R_getA fRX5_51 dX5_bound_90 rfl (Nat.lt_of_lt_of_le (Nat.le_of_ble_eq_true rfl) hnx) rfl ?_
         refine R_aload_n dX5_bound_93 rfl rfl ?_
         refine R_getI fRX5_64 dX5_bound_94 rfl (Nat.lt_of_lt_of_le (Nat.le_of_ble_eq_true rfl) hnx) ?_
         refine R_iload dX5_bound_97 rfl ?_
         refine R_iload dX5_bound_99 rfl ?_
         refine R_iload_n dX5_bound_101 rfl rfl ?_
         rw [show (I, Rs sw, nx, tl).1 48 4 = (sN S : Int) from g5]
         refine R_cS dX5_bound_102 kRX5_85 vX5_place ⟨(Nat.le_of_ble_eq_true rfl), (Nat.le_of_ble_eq_true rfl)⟩ (m_place l G _ _ _ _ _) rfl ⟨(Nat.le_of_ble_eq_true rfl), (Nat.le_of_ble_eq_true rfl)⟩ rfl (Nat.le_of_ble_eq_true rfl) (fun r σ' hq hn' => ?_)
         obtain ⟨rfl, rfl⟩ := hq
         refine R_iaload (k := 768 * sN S + 3 * (16 * y + i) + p) dX5_bound_105 rfl (Nat.lt_of_lt_of_le (Nat.le_of_ble_eq_true rfl) hnx) (by omega) (by omega) (by decide) ?_
         have rv := pic_rng hO (sN S) p (x := i) (y := y) (by omega) (by omega)
         rw [show (I, Rs sw, nx, tl).1 60 (768 * sN S + 3 * (16 * y + i) + p) = pic S (sN S) i y p from hP _ _ _ (by omega) hy hp]
         refine R_istore dX5_bound_106 (Nat.le_of_ble_eq_true rfl) ?_
         refine R_iload_n dX5_bound_108 rfl rfl ?_
         refine R_if_ne (tgt := 127) dX5_bound_109 (by decide) (fun c_109 => ?_) (fun c_109 => ?_)
         · first
           | (simp (discharger := omega) only [wr_id] at c_109; done)
           | (try simp (discharger := omega) only [wr_id] at c_109
              exfalso
              first | omega | exact c_109 trivial)
           | (try simp (discharger := omega) only [wr_id] at c_109
              refine R_iload dX5_bound_127 rfl ?_
              refine R_iload_n dX5_bound_129 rfl rfl ?_
              refine R_icmp_le (tgt := 138) dX5_bound_130 (by decide) (fun c_130 => ?_) (fun c_130 => ?_)
              · first
                | (simp (discharger := omega) only [wr_id] at c_130; done)
                | (try simp (discharger := omega) only [wr_id] at c_130
                   exfalso
                   first | omega | exact c_130 trivial)
                | (try simp (discharger := omega) only [wr_id] at c_130
                   refine R_iload_n dX5_bound_138 rfl rfl ?_
                   refine R_istore_n dX5_bound_139 rfl (Nat.le_of_ble_eq_true rfl) ?_
                   refine R_iinc dX5_bound_140 rfl (Nat.le_of_ble_eq_true rfl) ?_
                   refine R_goto (tgt := 75) dX5_bound_143 (by decide) ?_
                   first
                   | (exact ih2 (by omega) _ _ (by rw [sB, if_pos (by omega), if_pos (by omega)]))
                   | (exact ih2 (by omega) _ _ (by rw [sB, if_pos (by omega), if_neg (by omega)]))
                   | (exact ih2 (by omega) _ _ (by rw [sB, if_neg (by omega), if_pos (by omega)]))
                   | (exact ih2 (by omega) _ _ (by rw [sB, if_neg (by omega), if_neg (by omega)])))
              · first
                | (simp (discharger := omega) only [wr_id] at c_130; done)
                | (try simp (discharger := omega) only [wr_id] at c_130
                   exfalso
                   first | omega | exact c_130 trivial)
                | (try simp (discharger := omega) only [wr_id] at c_130
                   refine R_iload dX5_bound_133 rfl ?_
                   refine R_goto (tgt := 139) dX5_bound_135 (by decide) ?_
                   refine R_istore_n dX5_bound_139 rfl (Nat.le_of_ble_eq_true rfl) ?_
                   refine R_iinc dX5_bound_140 rfl (Nat.le_of_ble_eq_true rfl) ?_
                   refine R_goto (tgt := 75) dX5_bound_143 (by decide) ?_
                   first
                   | (exact ih2 (by omega) _ _ (by rw [sB, if_pos (by omega), if_pos (by omega)]))
                   | (exact ih2 (by omega) _ _ (by rw [sB, if_pos (by omega), if_neg (by omega)]))
                   | (exact ih2 (by omega) _ _ (by rw [sB, if_neg (by omega), if_pos (by omega)]))
                   | (exact ih2 (by omega) _ _ (by rw [sB, if_neg (by omega), if_neg (by omega)]))))
         · first
           | (simp (discharger := omega) only [wr_id] at c_109; done)
           | (try simp (discharger := omega) only [wr_id] at c_109
              exfalso
              first | omega | exact c_109 trivial)
           | (try simp (discharger := omega) only [wr_id] at c_109
              refine R_iload dX5_bound_112 rfl ?_
              refine R_iload_n dX5_bound_114 rfl rfl ?_
              refine R_icmp_ge (tgt := 123) dX5_bound_115 (by decide) (fun c_115 => ?_) (fun c_115 => ?_)
              · first
                | (simp (discharger := omega) only [wr_id] at c_115; done)
                | (try simp (discharger := omega) only [wr_id] at c_115
                   exfalso
                   first | omega | exact c_115 trivial)
                | (try simp (discharger := omega) only [wr_id] at c_115
                   refine R_iload_n dX5_bound_123 rfl rfl ?_
                   refine R_goto (tgt := 139) dX5_bound_124 (by decide) ?_
                   refine R_istore_n dX5_bound_139 rfl (Nat.le_of_ble_eq_true rfl) ?_
                   refine R_iinc dX5_bound_140 rfl (Nat.le_of_ble_eq_true rfl) ?_
                   refine R_goto (tgt := 75) dX5_bound_143 (by decide) ?_
                   first
                   | (exact ih2 (by omega) _ _ (by rw [sB, if_pos (by omega), if_pos (by omega)]))
                   | (exact ih2 (by omega) _ _ (by rw [sB, if_pos (by omega), if_neg (by omega)]))
                   | (exact ih2 (by omega) _ _ (by rw [sB, if_neg (by omega), if_pos (by omega)]))
                   | (exact ih2 (by omega) _ _ (by rw [sB, if_neg (by omega), if_neg (by omega)])))
              · first
                | (simp (discharger := omega) only [wr_id] at c_115; done)
                | (try simp (discharger := omega) only [wr_id] at c_115
                   exfalso
                   first | omega | exact c_115 trivial)
                | (try simp (discharger := omega) only [wr_id] at c_115
                   refine R_iload dX5_bound_118 rfl ?_
                   refine R_goto (tgt := 139) dX5_bound_120 (by decide) ?_
                   refine R_istore_n dX5_bound_139 rfl (Nat.le_of_ble_eq_true rfl) ?_
                   refine R_iinc dX5_bound_140 rfl (Nat.le_of_ble_eq_true rfl) ?_
                   refine R_goto (tgt := 75) dX5_bound_143 (by decide) ?_
                   first
                   | (exact ih2 (by omega) _ _ (by rw [sB, if_pos (by omega), if_pos (by omega)]))
                   | (exact ih2 (by omega) _ _ (by rw [sB, if_pos (by omega), if_neg (by omega)]))
                   | (exact ih2 (by omega) _ _ (by rw [sB, if_neg (by omega), if_pos (by omega)]))
                   | (exact ih2 (by omega) _ _ (by rw [sB, if_neg (by omega), if_neg (by omega)])))))
theorem lp_bnd1 (I : Nat → Nat → Int) (sw : Bool) (nx : Nat) (tl : Nat → Nat) (hnx : 63 ≤ nx) (Q : Option AV → Sg → Prop) (p : Nat) (sd b : Int) {S : Sp} (hR : RelM I S) (hO : OkS S) (hM : Ms I S (sN S)) (hP : PicK I S (sN S)) (hp : p < fP S (sN S)) (hs : 0 ≤ sd ∧ sd ≤ 1) (hb : 0 ≤ b ∧ b ≤ 4095) (hQ : Q (some (ai (fbY S p sd b (fH S (sN S))))) (I, Rs sw, nx, tl)) :
    ∀ (n i : Nat) (A B : AV), fH S (sN S) - i < n → i ≤ fH S (sN S) → Rr l G (Km G miX5_bound 0 0 nx Q) 0 0 58 [ar 48, ai p, ai sd, ai (fbY S p sd b i), ai i, A, B] [] (I, Rs sw, nx, tl) := by
  have o5 := hO.2.2.2.2.1
  have g5 := hR.2.2.2.2.1
  obtain ⟨q1, q2, q3, -⟩ := hM (sN S) (Nat.le_refl _)
  have r2 := (f_rng hO (sN S) (Nat.le_refl _)).2.1
  intro n
  induction n with
  | zero => intro i A B h; omega
  | succ n ih =>
    intro i A B hn hi
    have rb := fbY_rng hO (p := p) (sd := sd) hb i (by omega)
    have cont : i < fH S (sN S) → ∀ A B : AV, Rr l G (Km G miX5_bound 0 0 nx Q) 0 0 146 [ar 48, ai p, ai sd, ai (fbX S p sd i (fbY S p sd b i) (fW S (sN S))), ai i, A, B] [] (I, Rs sw, nx, tl) := fun hlt A B => by
      have h0 := ih (i + 1) A B (by omega) (by omega)
      dsimp only [Km, miX5_bound] at *
      refine R_iinc dX5_bound_146 rfl (Nat.le_of_ble_eq_true rfl) ?_
      refine R_goto (tgt := 58) dX5_bound_149 (by decide) ?_
      exact h0
    dsimp only [Km, miX5_bound] at *
    refine R_iload dX5_bound_58 rfl ?_
    refine R_aload_n dX5_bound_60 rfl rfl ?_
    refine R_getA fRX5_39 dX5_bound_61 rfl (Nat.lt_of_lt_of_le (Nat.le_of_ble_eq_true rfl) hnx) rfl ?_
    refine R_aload_n dX5_bound_64 rfl rfl ?_
    refine R_getI fRX5_64 dX5_bound_65 rfl (Nat.lt_of_lt_of_le (Nat.le_of_ble_eq_true rfl) hnx) ?_
    rw [show (I, Rs sw, nx, tl).1 48 4 = (sN S : Int) from g5]
    refine R_iaload (k := sN S) dX5_bound_68 rfl (Nat.lt_of_lt_of_le (Nat.le_of_ble_eq_true rfl) hnx) (by omega) (by omega) (by decide) ?_
    rw [show (I, Rs sw, nx, tl).1 56 (sN S) = (fH S (sN S) : Int) from q2]
    refine R_icmp_ge (tgt := 152) dX5_bound_69 (by decide) (fun c_69 => ?_) (fun c_69 => ?_)
    · first
      | (simp (discharger := omega) only [wr_id] at c_69; done)
      | (try simp (discharger := omega) only [wr_id] at c_69
         exfalso
         first | omega | exact c_69 trivial)
      | (try simp (discharger := omega) only [wr_id] at c_69
         refine R_iload_n dX5_bound_152 rfl rfl ?_
         refine R_iret dX5_bound_153 rfl rfl rfl (Nat.le_refl _) ?_
         have e : i = fH S (sN S) := by omega
         subst e
         exact hQ)
    · first
      | (simp (discharger := omega) only [wr_id] at c_69; done)
      | (try simp (discharger := omega) only [wr_id] at c_69
         exfalso
         first | omega | exact c_69 trivial)
      | (try simp (discharger := omega) only [wr_id] at c_69
         refine R_iconst dX5_bound_72 ?_
         refine R_istore dX5_bound_73 (Nat.le_of_ble_eq_true rfl) ?_
         exact lp_bnd2 l G I sw nx tl hnx Q p i sd (fbY S p sd b i) hR hO hM hP hp (by omega) hs rb (cont (by omega)) (fW S (sN S) + 1) 0 B (by omega) (by omega))
theorem m_bound (I : Nat → Nat → Int) (sw : Bool) (nx : Nat) (tl : Nat → Nat) (hnx : 63 ≤ nx) (p sd : Int) (rp : inR p) (rs : inR sd) {S : Sp} (hR : RelM I S) (hO : OkS S) : Mt l G miX5_bound 0 0 [ar 48, ai p, ai sd] (I, Rs sw, nx, tl) (QI sw nx tl (fun r I' => (∀ p, p < 48 → I' p = I p) ∧ r = some (ai (o_bound S p sd)) ∧ RelM I' S)) := by
  have o5 := hO.2.2.2.2.1
  have g5 := hR.2.2.2.2.1
  unfold inR at *
  have r1 := (f_rng hO (sN S) (Nat.le_refl _)).1
  have r2 := (f_rng hO (sN S) (Nat.le_refl _)).2.1
  have r3 := fP_13 S (sN S)
  refine Mt.ofL (ls := [ar 48, ai p, ai sd, none, none, none, none]) (by decide) (Nat.le_of_ble_eq_true rfl) rfl ?_
  dsimp only [Km, miX5_bound]
  refine R_aload_n dX5_bound_0 rfl rfl ?_
  refine R_aload_n dX5_bound_1 rfl rfl ?_
  refine R_getI fRX5_64 dX5_bound_2 rfl (Nat.lt_of_lt_of_le (Nat.le_of_ble_eq_true rfl) hnx) ?_
  rw [show (I, Rs sw, nx, tl).1 48 4 = (sN S : Int) from g5]
  refine R_cV dX5_bound_5 kRX5_124 vX5_make ⟨(Nat.le_of_ble_eq_true rfl), (Nat.le_of_ble_eq_true rfl)⟩ (m_make l G I sw nx tl hnx (sN S) hR hO (Nat.le_refl _)) rfl ⟨(Nat.le_of_ble_eq_true rfl), (Nat.le_of_ble_eq_true rfl)⟩ rfl (Nat.lt_of_lt_of_le (Nat.le_of_ble_eq_true rfl) hnx) rfl rfl (Nat.le_of_ble_eq_true rfl) (fun r σ' hq hn' => ?_)
  obtain ⟨J, rfl, rfl, hF, hM, hP⟩ := hq
  have hRJ : RelM J S := RelM_of hR (fun p h1 h2 => hF p (by omega))
  have e5 := hRJ.2.2.2.2.1
  obtain ⟨-, -, q3, -⟩ := hM (sN S) (Nat.le_refl _)
  have fin : ∀ z : Int, z = o_bound S p sd → QI sw nx tl (fun r I' => (∀ p, p < 48 → I' p = I p) ∧ r = some (ai (o_bound S p sd)) ∧ RelM I' S) (some (ai z)) (J, Rs sw, nx, tl) := fun z hz => ⟨J, rfl, fun p hp => hF p (by omega), by rw [hz], hRJ⟩
  refine R_iload_n dX5_bound_8 rfl rfl ?_
  refine R_iconst dX5_bound_9 ?_
  refine R_aload_n dX5_bound_10 rfl rfl ?_
  refine R_getA fRX5_42 dX5_bound_11 rfl (Nat.lt_of_lt_of_le (Nat.le_of_ble_eq_true rfl) hnx) rfl ?_
  refine R_aload_n dX5_bound_14 rfl rfl ?_
  refine R_getI fRX5_64 dX5_bound_15 rfl (Nat.lt_of_lt_of_le (Nat.le_of_ble_eq_true rfl) hnx) ?_
  rw [show (J, Rs sw, nx, tl).1 48 4 = (sN S : Int) from e5]
  refine R_iaload (k := sN S) dX5_bound_18 rfl (Nat.lt_of_lt_of_le (Nat.le_of_ble_eq_true rfl) hnx) (by omega) (by omega) (by decide) ?_
  refine R_iconst dX5_bound_19 ?_
  refine R_isub dX5_bound_20 ?_
  rw [show (J, Rs sw, nx, tl).1 57 (sN S) = (fP S (sN S) : Int) from q3]
  refine R_cS dX5_bound_21 kRX5_60 vX5_in ⟨(Nat.le_of_ble_eq_true rfl), (Nat.le_of_ble_eq_true rfl)⟩ (b_in l G _ _ _ _) rfl ⟨(Nat.le_of_ble_eq_true rfl), (Nat.le_of_ble_eq_true rfl)⟩ rfl (Nat.le_of_ble_eq_true rfl) (fun r σ' hq hn' => ?_)
  obtain ⟨⟨b21, rfl, hb21⟩, rfl⟩ := hq
  try simp (discharger := omega) only [wr_id] at hb21
  refine R_if_eq (tgt := 36) dX5_bound_24 (by decide) (fun c_24 => ?_) (fun c_24 => ?_)
  · first
    | (simp (discharger := omega) only [wr_id] at c_24; done)
    | (try simp (discharger := omega) only [wr_id] at c_24
       exfalso
       first | omega | exact c_24 trivial)
    | (try simp (discharger := omega) only [wr_id] at c_24
       refine R_bipush (z := (-102)) dX5_bound_36 rfl ?_
       refine R_iret dX5_bound_38 rfl rfl rfl (Nat.le_refl _) ?_
       refine fin _ ?_
       rw [o_bound, if_neg (by omega)])
  · first
    | (simp (discharger := omega) only [wr_id] at c_24; done)
    | (try simp (discharger := omega) only [wr_id] at c_24
       exfalso
       first | omega | exact c_24 trivial)
    | (try simp (discharger := omega) only [wr_id] at c_24
       refine R_iload_n dX5_bound_27 rfl rfl ?_
       refine R_iconst dX5_bound_28 ?_
       refine R_iconst dX5_bound_29 ?_
       refine R_cS dX5_bound_30 kRX5_60 vX5_in ⟨(Nat.le_of_ble_eq_true rfl), (Nat.le_of_ble_eq_true rfl)⟩ (b_in l G _ _ _ _) rfl ⟨(Nat.le_of_ble_eq_true rfl), (Nat.le_of_ble_eq_true rfl)⟩ rfl (Nat.le_of_ble_eq_true rfl) (fun r σ' hq hn' => ?_)
       obtain ⟨⟨b30, rfl, hb30⟩, rfl⟩ := hq
       try simp (discharger := omega) only [wr_id] at hb30
       refine R_if_ne (tgt := 39) dX5_bound_33 (by decide) (fun c_33 => ?_) (fun c_33 => ?_)
       · first
         | (simp (discharger := omega) only [wr_id] at c_33; done)
         | (try simp (discharger := omega) only [wr_id] at c_33
            exfalso
            first | omega | exact c_33 trivial)
         | (try simp (discharger := omega) only [wr_id] at c_33
            refine R_aload_n dX5_bound_39 rfl rfl ?_
            refine R_getA fRX5_51 dX5_bound_40 rfl (Nat.lt_of_lt_of_le (Nat.le_of_ble_eq_true rfl) hnx) rfl ?_
            refine R_aload_n dX5_bound_43 rfl rfl ?_
            refine R_getI fRX5_64 dX5_bound_44 rfl (Nat.lt_of_lt_of_le (Nat.le_of_ble_eq_true rfl) hnx) ?_
            refine R_iconst dX5_bound_47 ?_
            refine R_iconst dX5_bound_48 ?_
            refine R_iload_n dX5_bound_49 rfl rfl ?_
            rw [show (J, Rs sw, nx, tl).1 48 4 = (sN S : Int) from e5]
            refine R_cS dX5_bound_50 kRX5_85 vX5_place ⟨(Nat.le_of_ble_eq_true rfl), (Nat.le_of_ble_eq_true rfl)⟩ (m_place l G _ _ _ _ _) rfl ⟨(Nat.le_of_ble_eq_true rfl), (Nat.le_of_ble_eq_true rfl)⟩ rfl (Nat.le_of_ble_eq_true rfl) (fun r σ' hq hn' => ?_)
            obtain ⟨rfl, rfl⟩ := hq
            refine R_iaload (k := 768 * sN S + 3 * (16 * 0 + 0) + p.toNat) dX5_bound_53 rfl (Nat.lt_of_lt_of_le (Nat.le_of_ble_eq_true rfl) hnx) (by omega) (by omega) (by decide) ?_
            rw [show (J, Rs sw, nx, tl).1 60 (768 * sN S + 3 * (16 * 0 + 0) + p.toNat) = pic S (sN S) 0 0 p.toNat from hP (sN S) (Nat.le_refl _) 0 0 p.toNat (by omega) (by omega) (by omega)]
            refine R_istore_n dX5_bound_54 rfl (Nat.le_of_ble_eq_true rfl) ?_
            refine R_iconst dX5_bound_55 ?_
            refine R_istore dX5_bound_56 (Nat.le_of_ble_eq_true rfl) ?_
            obtain ⟨q, rfl⟩ : ∃ a : Nat, p = a := ⟨p.toNat, by omega⟩
            exact lp_bnd1 l G J sw nx tl hnx _ q sd _ hRJ hO hM (hP (sN S) (Nat.le_refl _)) (by omega) (by omega) (pic_rng hO (sN S) _ (by omega) (by omega)) (fin _ (by rw [o_bound, if_pos (by omega), Int.toNat_natCast])) (fH S (sN S) + 1) 0 none none (by omega) (by omega))
       · first
         | (simp (discharger := omega) only [wr_id] at c_33; done)
         | (try simp (discharger := omega) only [wr_id] at c_33
            exfalso
            first | omega | exact c_33 trivial)
         | (try simp (discharger := omega) only [wr_id] at c_33
            refine R_bipush (z := (-102)) dX5_bound_36 rfl ?_
            refine R_iret dX5_bound_38 rfl rfl rfl (Nat.le_refl _) ?_
            refine fin _ ?_
            rw [o_bound, if_neg (by omega)]))
end MODEL11
