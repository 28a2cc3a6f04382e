/-! the reference: the path -/
section MODEL2
variable (l : Launch) (G : GE)
theorem fP_succ (S : Sp) (k : Nat) : fP S (k + 1) = if sK S k = 4 then 3 else fP S k := rfl
theorem lp_hasColours (I : Nat → Nat → Int) (sw : Bool) (nx : Nat) (tl : Nat → Nat) (hnx : 63 ≤ nx) (Q : Option AV → Sg → Prop) {S : Sp} (hR : RelM I S) (hO : OkS S) (hQ : ∀ z : Int, ((z = 1 ∧ fP S (sN S) = 3) ∨ (z = 0 ∧ fP S (sN S) = 1)) → Q (some (ai z)) (I, Rs sw, nx, tl)) :
    ∀ (n i : Nat) (z : Int), sN S - i < n → i ≤ sN S → ((z = 1 ∧ fP S i = 3) ∨ (z = 0 ∧ fP S i = 1)) → Rr l G (Km G miX5_hasColours 0 0 nx Q) 0 0 4 [ar 48, ai z, ai i] [] (I, Rs sw, nx, tl) := by
  have o5 := hO.2.2.2.2.1
  obtain ⟨g1, g2, g3, g4, g5, g6, g7, g8, g9⟩ := hR
  intro n
  induction n with
  | zero => intro i z h; omega
  | succ n ih =>
    intro i z hn hi hz
    dsimp only [Km, miX5_hasColours] at *
    refine R_iload_n dX5_hasColours_4 rfl rfl ?_
    refine R_aload_n dX5_hasColours_5 rfl rfl ?_
    refine R_getI fRX5_64 dX5_hasColours_6 rfl (Nat.lt_of_lt_of_le (Nat.le_of_ble_eq_true rfl) hnx) ?_
    rw [show (I, Rs sw, nx, tl).1 48 4 = (sN S : Int) from g5]
    refine R_icmp_ge (tgt := 38) dX5_hasColours_9 (by decide) (fun c_9 => ?_) (fun c_9 => ?_)
    · first
      | (simp (discharger := omega) only [wr_id] at c_9; done)
      | (try simp (discharger := omega) only [wr_id] at c_9
         exfalso
         first | omega | exact c_9 trivial)
      | (try simp (discharger := omega) only [wr_id] at c_9
         have e : i = sN S := by omega
         subst e
         refine R_iload_n dX5_hasColours_38 rfl rfl ?_
         exact R_zret dX5_hasColours_39 rfl rfl (by omega) rfl (Nat.le_refl _) (hQ z hz))
    · first
      | (simp (discharger := omega) only [wr_id] at c_9; done)
      | (try simp (discharger := omega) only [wr_id] at c_9
         exfalso
         first | omega | exact c_9 trivial)
      | (try simp (discharger := omega) only [wr_id] at c_9
         refine R_iload_n dX5_hasColours_12 rfl rfl ?_
         refine R_if_ne (tgt := 26) dX5_hasColours_13 (by decide) (fun c_13 => ?_) (fun c_13 => ?_)
         · first
           | (simp (discharger := omega) only [wr_id] at c_13; done)
           | (try simp (discharger := omega) only [wr_id] at c_13
              exfalso
              first | omega | exact c_13 trivial)
           | (try simp (discharger := omega) only [wr_id] at c_13
              refine R_iconst dX5_hasColours_26 ?_
              refine R_goto (tgt := 31) dX5_hasColours_27 (by decide) ?_
              refine R_istore_n dX5_hasColours_31 rfl (Nat.le_of_ble_eq_true rfl) ?_
              refine R_iinc dX5_hasColours_32 rfl (Nat.le_of_ble_eq_true rfl) ?_
              refine R_goto (tgt := 4) dX5_hasColours_35 (by decide) ?_
              exact ih (i + 1) _ (by omega) (by omega) (by rw [fP_succ]; split <;> omega))
         · first
           | (simp (discharger := omega) only [wr_id] at c_13; done)
           | (try simp (discharger := omega) only [wr_id] at c_13
              exfalso
              first | omega | exact c_13 trivial)
           | (try simp (discharger := omega) only [wr_id] at c_13
              refine R_aload_n dX5_hasColours_16 rfl rfl ?_
              refine R_getA fRX5_24 dX5_hasColours_17 rfl (Nat.lt_of_lt_of_le (Nat.le_of_ble_eq_true rfl) hnx) rfl ?_
              refine R_iload_n dX5_hasColours_20 rfl rfl ?_
              refine R_iaload (k := i) dX5_hasColours_21 rfl (Nat.lt_of_lt_of_le (Nat.le_of_ble_eq_true rfl) hnx) (by omega) (by omega) (by decide) ?_
              refine R_iconst dX5_hasColours_22 ?_
              rw [show (I, Rs sw, nx, tl).1 51 i = (sK S i : Int) from g6 i (by omega)]
              have oj := (hO.2.2.2.2.2.1 i (by omega)).1
              refine R_icmp_ne (tgt := 30) dX5_hasColours_23 (by decide) (fun c_23 => ?_) (fun c_23 => ?_)
              · first
                | (simp (discharger := omega) only [wr_id] at c_23; done)
                | (try simp (discharger := omega) only [wr_id] at c_23
                   exfalso
                   first | omega | exact c_23 trivial)
                | (try simp (discharger := omega) only [wr_id] at c_23
                   refine R_iconst dX5_hasColours_30 ?_
                   refine R_istore_n dX5_hasColours_31 rfl (Nat.le_of_ble_eq_true rfl) ?_
                   refine R_iinc dX5_hasColours_32 rfl (Nat.le_of_ble_eq_true rfl) ?_
                   refine R_goto (tgt := 4) dX5_hasColours_35 (by decide) ?_
                   exact ih (i + 1) _ (by omega) (by omega) (by rw [fP_succ]; split <;> omega))
              · first
                | (simp (discharger := omega) only [wr_id] at c_23; done)
                | (try simp (discharger := omega) only [wr_id] at c_23
                   exfalso
                   first | omega | exact c_23 trivial)
                | (try simp (discharger := omega) only [wr_id] at c_23
                   refine R_iconst dX5_hasColours_26 ?_
                   refine R_goto (tgt := 31) dX5_hasColours_27 (by decide) ?_
                   refine R_istore_n dX5_hasColours_31 rfl (Nat.le_of_ble_eq_true rfl) ?_
                   refine R_iinc dX5_hasColours_32 rfl (Nat.le_of_ble_eq_true rfl) ?_
                   refine R_goto (tgt := 4) dX5_hasColours_35 (by decide) ?_
                   exact ih (i + 1) _ (by omega) (by omega) (by rw [fP_succ]; split <;> omega))))
theorem m_hasColours (I : Nat → Nat → Int) (sw : Bool) (nx : Nat) (tl : Nat → Nat) (hnx : 63 ≤ nx) {S : Sp} (hR : RelM I S) (hO : OkS S) : Mt l G miX5_hasColours 0 0 [ar 48] (I, Rs sw, nx, tl) (fun r σ' => (∃ z : Int, r = some (ai z) ∧ ((z = 1 ∧ fP S (sN S) = 3) ∨ (z = 0 ∧ fP S (sN S) = 1))) ∧ σ' = (I, Rs sw, nx, tl)) := by
  refine Mt.ofL (ls := [ar 48, none, none]) (by decide) (Nat.le_of_ble_eq_true rfl) rfl ?_
  dsimp only [Km, miX5_hasColours]
  refine R_iconst dX5_hasColours_0 ?_
  refine R_istore_n dX5_hasColours_1 rfl (Nat.le_of_ble_eq_true rfl) ?_
  refine R_iconst dX5_hasColours_2 ?_
  refine R_istore_n dX5_hasColours_3 rfl (Nat.le_of_ble_eq_true rfl) ?_
  exact lp_hasColours l G I sw nx tl hnx _ hR hO (fun z hz => ⟨⟨z, rfl, hz⟩, rfl⟩) (sN S + 1) 0 0 (by omega) (by omega) (Or.inr ⟨rfl, rfl⟩)
theorem fr_M {I J : Nat → Nat → Int} (h : ∀ p, (p < 55 ∨ 59 < p) → J p = I p) {S : Sp} (hR : RelM I S) : RelM J S := RelM_of hR (fun p h1 h2 => h p (by omega))
theorem lp_measure (I : Nat → Nat → Int) (sw : Bool) (nx : Nat) (tl : Nat → Nat) (hnx : 63 ≤ nx) (Q : Option AV → Sg → Prop) {S : Sp} (hR : RelM I S) (hO : OkS S) (hQ : ∀ I', Ms I' S (sN S) → (∀ p, (p < 55 ∨ 59 < p) → I' p = I p) → Q none (I', Rs sw, nx, tl)) :
    ∀ (n i : Nat) (J : Nat → Nat → Int) (a b : AV), sN S - i < n → i ≤ sN S → Ms J S i → (∀ p, (p < 55 ∨ 59 < p) → J p = I p) → Rr l G (Km G miX5_measure 0 0 nx Q) 0 0 43 [ar 48, ai i, a, b] [] (J, Rs sw, nx, tl) := by
  have o5 := hO.2.2.2.2.1
  intro n
  induction n with
  | zero => intro i J a b h; omega
  | succ n ih =>
    intro i J a b hn hi hM hF
    obtain ⟨g1, g2, g3, g4, g5, g6, g7, g8, g9⟩ := fr_M hF hR
    dsimp only [Km, miX5_measure] at *
    have step : i < sN S → ∀ J' : Nat → Nat → Int, (∀ p, (p < 55 ∨ 59 < p) → J' p = J p) → (∀ p, 55 ≤ p → p ≤ 59 → ∀ k, k ≤ i → J' p k = J p k) → J' 55 (i + 1) = fW S (i + 1) → J' 56 (i + 1) = fH S (i + 1) → J' 57 (i + 1) = fP S (i + 1) → J' 58 (i + 1) = fL S (i + 1) → J' 59 (i + 1) = fS S (i + 1) → ∀ a b : AV, Rr l G (Km G miX5_measure 0 0 nx Q) 0 0 43 [ar 48, ai ((i : Int) + 1), a, b] [] (J', Rs sw, nx, tl) := by
      intro hi2 J' f1 f2 e1 e2 e3 e4 e5 a b
      refine ih (i + 1) J' a b (by omega) (by omega) (fun k hk => ?_) (fun p hp => by rw [f1 p hp]; exact hF p hp)
      rcases Nat.lt_or_ge k (i + 1) with h | h
      · rw [f2 55 (by decide) (by decide) k (by omega), f2 56 (by decide) (by decide) k (by omega), f2 57 (by decide) (by decide) k (by omega), f2 58 (by decide) (by decide) k (by omega), f2 59 (by decide) (by decide) k (by omega)]
        exact hM k (by omega)
      · have e : k = i + 1 := by omega
        subst e
        exact ⟨e1, e2, e3, e4, e5⟩
    dsimp only [Km, miX5_measure] at step
    obtain ⟨q1, q2, q3, q4, q5⟩ := hM i (Nat.le_refl i)
    have r1 := (f_rng hO i hi).1
    have r2 := (f_rng hO i hi).2.1
    refine R_iload_n dX5_measure_43 rfl rfl ?_
    refine R_aload_n dX5_measure_44 rfl rfl ?_
    refine R_getI fRX5_64 dX5_measure_45 rfl (Nat.lt_of_lt_of_le (Nat.le_of_ble_eq_true rfl) hnx) ?_
    rw [show (J, Rs sw, nx, tl).1 48 4 = (sN S : Int) from g5]
    refine R_icmp_ge (tgt := 258) dX5_measure_48 (by decide) (fun c_48 => ?_) (fun c_48 => ?_)
    · first
      | (simp (discharger := omega) only [wr_id] at c_48; done)
      | (try simp (discharger := omega) only [wr_id] at c_48
         exfalso
         first | omega | exact c_48 trivial)
      | (try simp (discharger := omega) only [wr_id] at c_48
         have e : i = sN S := by omega
         subst e
         exact R_vret dX5_measure_258 rfl rfl rfl (Nat.le_refl _) (hQ J hM hF))
    · first
      | (simp (discharger := omega) only [wr_id] at c_48; done)
      | (try simp (discharger := omega) only [wr_id] at c_48
         exfalso
         first | omega | exact c_48 trivial)
      | (try simp (discharger := omega) only [wr_id] at c_48
         have hi2 : i < sN S := by omega
         have e6 := g6 i hi2
         have oj := (hO.2.2.2.2.2.1 i hi2).1
         refine R_aload_n dX5_measure_51 rfl rfl ?_
         refine R_getA fRX5_24 dX5_measure_52 rfl (Nat.lt_of_lt_of_le (Nat.le_of_ble_eq_true rfl) hnx) rfl ?_
         refine R_iload_n dX5_measure_55 rfl rfl ?_
         refine R_iaload (k := i) dX5_measure_56 rfl (Nat.lt_of_lt_of_le (Nat.le_of_ble_eq_true rfl) hnx) (by omega) (by omega) (by decide) ?_
         refine R_bipush (z := 7) dX5_measure_57 rfl ?_
         rw [show (J, Rs sw, nx, tl).1 51 i = (sK S i : Int) from e6]
         refine R_icmp_ne (tgt := 66) dX5_measure_59 (by decide) (fun c_59 => ?_) (fun c_59 => ?_)
         · first
           | (simp (discharger := omega) only [wr_id] at c_59; done)
           | (try simp (discharger := omega) only [wr_id] at c_59
              exfalso
              first | omega | exact c_59 trivial)
           | (try simp (discharger := omega) only [wr_id] at c_59
              refine R_iconst dX5_measure_66 ?_
              refine R_istore_n dX5_measure_67 rfl (Nat.le_of_ble_eq_true rfl) ?_
              refine R_aload_n dX5_measure_68 rfl rfl ?_
              refine R_getA fRX5_36 dX5_measure_69 rfl (Nat.lt_of_lt_of_le (Nat.le_of_ble_eq_true rfl) hnx) rfl ?_
              refine R_iload_n dX5_measure_72 rfl rfl ?_
              refine R_iconst dX5_measure_73 ?_
              refine R_iadd dX5_measure_74 ?_
              refine R_iload_n dX5_measure_75 rfl rfl ?_
              refine R_if_eq (tgt := 90) dX5_measure_76 (by decide) (fun c_76 => ?_) (fun c_76 => ?_)
              · first
                | (simp (discharger := omega) only [wr_id] at c_76; done)
                | (try simp (discharger := omega) only [wr_id] at c_76
                   exfalso
                   first | omega | exact c_76 trivial)
                | (try simp (discharger := omega) only [wr_id] at c_76
                   refine R_aload_n dX5_measure_90 rfl rfl ?_
                   refine R_getA fRX5_36 dX5_measure_91 rfl (Nat.lt_of_lt_of_le (Nat.le_of_ble_eq_true rfl) hnx) rfl ?_
                   refine R_iload_n dX5_measure_94 rfl rfl ?_
                   refine R_iaload (k := i) dX5_measure_95 rfl (Nat.lt_of_lt_of_le (Nat.le_of_ble_eq_true rfl) hnx) (by omega) (by omega) (by decide) ?_
                   refine R_iastore (k := i + 1) dX5_measure_96 rfl (Nat.lt_of_lt_of_le (Nat.le_of_ble_eq_true rfl) hnx) (by omega) (by omega) (by decide) ?_
                   refine R_aload_n dX5_measure_97 rfl rfl ?_
                   refine R_getA fRX5_39 dX5_measure_98 rfl (Nat.lt_of_lt_of_le (Nat.le_of_ble_eq_true rfl) hnx) rfl ?_
                   refine R_iload_n dX5_measure_101 rfl rfl ?_
                   refine R_iconst dX5_measure_102 ?_
                   refine R_iadd dX5_measure_103 ?_
                   refine R_iload_n dX5_measure_104 rfl rfl ?_
                   refine R_if_eq (tgt := 119) dX5_measure_105 (by decide) (fun c_105 => ?_) (fun c_105 => ?_)
                   · first
                     | (simp (discharger := omega) only [wr_id] at c_105; done)
                     | (try simp (discharger := omega) only [wr_id] at c_105
                        exfalso
                        first | omega | exact c_105 trivial)
                     | (try simp (discharger := omega) only [wr_id] at c_105
                        refine R_aload_n dX5_measure_119 rfl rfl ?_
                        refine R_getA fRX5_39 dX5_measure_120 rfl (Nat.lt_of_lt_of_le (Nat.le_of_ble_eq_true rfl) hnx) rfl ?_
                        refine R_iload_n dX5_measure_123 rfl rfl ?_
                        refine R_iaload (k := i) dX5_measure_124 rfl (Nat.lt_of_lt_of_le (Nat.le_of_ble_eq_true rfl) hnx) (by omega) (by omega) (by decide) ?_
                        refine R_iastore (k := i + 1) dX5_measure_125 rfl (Nat.lt_of_lt_of_le (Nat.le_of_ble_eq_true rfl) hnx) (by omega) (by omega) (by decide) ?_
                        refine R_aload_n dX5_measure_126 rfl rfl ?_
                        refine R_getA fRX5_42 dX5_measure_127 rfl (Nat.lt_of_lt_of_le (Nat.le_of_ble_eq_true rfl) hnx) rfl ?_
                        refine R_iload_n dX5_measure_130 rfl rfl ?_
                        refine R_iconst dX5_measure_131 ?_
                        refine R_iadd dX5_measure_132 ?_
                        refine R_aload_n dX5_measure_133 rfl rfl ?_
                        refine R_getA fRX5_24 dX5_measure_134 rfl (Nat.lt_of_lt_of_le (Nat.le_of_ble_eq_true rfl) hnx) rfl ?_
                        refine R_iload_n dX5_measure_137 rfl rfl ?_
                        refine R_iaload (k := i) dX5_measure_138 rfl (Nat.lt_of_lt_of_le (Nat.le_of_ble_eq_true rfl) hnx) (by omega) (by omega) (by decide) ?_
                        refine R_iconst dX5_measure_139 ?_
                        dsimp only
                        rw [up2_ne _ _ _ (by decide), up2_ne _ _ _ (by decide), e6]
                        refine R_icmp_ne (tgt := 147) dX5_measure_140 (by decide) (fun c_140 => ?_) (fun c_140 => ?_)
                        · first
                          | (simp (discharger := omega) only [wr_id] at c_140; done)
                          | (try simp (discharger := omega) only [wr_id] at c_140
                             exfalso
                             first | omega | exact c_140 trivial)
                          | (try simp (discharger := omega) only [wr_id] at c_140
                             refine R_aload_n dX5_measure_147 rfl rfl ?_
                             refine R_getA fRX5_42 dX5_measure_148 rfl (Nat.lt_of_lt_of_le (Nat.le_of_ble_eq_true rfl) hnx) rfl ?_
                             refine R_iload_n dX5_measure_151 rfl rfl ?_
                             refine R_iaload (k := i) dX5_measure_152 rfl (Nat.lt_of_lt_of_le (Nat.le_of_ble_eq_true rfl) hnx) (by omega) (by omega) (by decide) ?_
                             refine R_iastore (k := i + 1) dX5_measure_153 rfl (Nat.lt_of_lt_of_le (Nat.le_of_ble_eq_true rfl) hnx) (by omega) (by omega) (by decide) ?_
                             refine R_aload_n dX5_measure_154 rfl rfl ?_
                             refine R_getA fRX5_24 dX5_measure_155 rfl (Nat.lt_of_lt_of_le (Nat.le_of_ble_eq_true rfl) hnx) rfl ?_
                             refine R_iload_n dX5_measure_158 rfl rfl ?_
                             refine R_iaload (k := i) dX5_measure_159 rfl (Nat.lt_of_lt_of_le (Nat.le_of_ble_eq_true rfl) hnx) (by omega) (by omega) (by decide) ?_
                             refine R_iconst dX5_measure_160 ?_
                             dsimp only
                             rw [up2_ne _ _ _ (by decide), up2_ne _ _ _ (by decide), up2_ne _ _ _ (by decide), e6]
                             refine R_icmp_eq (tgt := 174) dX5_measure_161 (by decide) (fun c_161 => ?_) (fun c_161 => ?_)
                             · first
                               | (simp (discharger := omega) only [wr_id] at c_161; done)
                               | (try simp (discharger := omega) only [wr_id] at c_161
                                  exfalso
                                  first | omega | exact c_161 trivial)
                               | (try simp (discharger := omega) only [wr_id] at c_161
                                  refine R_iconst dX5_measure_174 ?_
                                  refine R_goto (tgt := 206) dX5_measure_175 (by decide) ?_
                                  refine R_istore_n dX5_measure_206 rfl (Nat.le_of_ble_eq_true rfl) ?_
                                  refine R_aload_n dX5_measure_207 rfl rfl ?_
                                  refine R_getA fRX5_45 dX5_measure_208 rfl (Nat.lt_of_lt_of_le (Nat.le_of_ble_eq_true rfl) hnx) rfl ?_
                                  refine R_iload_n dX5_measure_211 rfl rfl ?_
                                  refine R_iconst dX5_measure_212 ?_
                                  refine R_iadd dX5_measure_213 ?_
                                  refine R_aload_n dX5_measure_214 rfl rfl ?_
                                  refine R_getA fRX5_45 dX5_measure_215 rfl (Nat.lt_of_lt_of_le (Nat.le_of_ble_eq_true rfl) hnx) rfl ?_
                                  refine R_iload_n dX5_measure_218 rfl rfl ?_
                                  refine R_iaload (k := i) dX5_measure_219 rfl (Nat.lt_of_lt_of_le (Nat.le_of_ble_eq_true rfl) hnx) (by omega) (by omega) (by decide) ?_
                                  refine R_iload_n dX5_measure_220 rfl rfl ?_
                                  refine R_iadd dX5_measure_221 ?_
                                  refine R_iastore (k := i + 1) dX5_measure_222 rfl (Nat.lt_of_lt_of_le (Nat.le_of_ble_eq_true rfl) hnx) (by omega) (by omega) (by decide) ?_
                                  refine R_aload_n dX5_measure_223 rfl rfl ?_
                                  refine R_getA fRX5_48 dX5_measure_224 rfl (Nat.lt_of_lt_of_le (Nat.le_of_ble_eq_true rfl) hnx) rfl ?_
                                  refine R_iload_n dX5_measure_227 rfl rfl ?_
                                  refine R_iconst dX5_measure_228 ?_
                                  refine R_iadd dX5_measure_229 ?_
                                  refine R_iload_n dX5_measure_230 rfl rfl ?_
                                  refine R_if_eq (tgt := 245) dX5_measure_231 (by decide) (fun c_231 => ?_) (fun c_231 => ?_)
                                  · first
                                    | (simp (discharger := omega) only [wr_id] at c_231; done)
                                    | (try simp (discharger := omega) only [wr_id] at c_231
                                       exfalso
                                       first | omega | exact c_231 trivial)
                                    | (try simp (discharger := omega) only [wr_id] at c_231
                                       refine R_aload_n dX5_measure_245 rfl rfl ?_
                                       refine R_getA fRX5_48 dX5_measure_246 rfl (Nat.lt_of_lt_of_le (Nat.le_of_ble_eq_true rfl) hnx) rfl ?_
                                       refine R_iload_n dX5_measure_249 rfl rfl ?_
                                       refine R_iaload (k := i) dX5_measure_250 rfl (Nat.lt_of_lt_of_le (Nat.le_of_ble_eq_true rfl) hnx) (by omega) (by omega) (by decide) ?_
                                       refine R_iastore (k := i + 1) dX5_measure_251 rfl (Nat.lt_of_lt_of_le (Nat.le_of_ble_eq_true rfl) hnx) (by omega) (by omega) (by decide) ?_
                                       refine R_iinc dX5_measure_252 rfl (Nat.le_of_ble_eq_true rfl) ?_
                                       refine R_goto (tgt := 43) dX5_measure_255 (by decide) ?_
                                       refine step hi2 _ (fun p hp => ?_) (fun p h1 h2 k hk => ?_) ?_ ?_ ?_ ?_ ?_ _ _
                                       · rw [up2_ne _ _ _ (by omega), up2_ne _ _ _ (by omega), up2_ne _ _ _ (by omega), up2_ne _ _ _ (by omega), up2_ne _ _ _ (by omega)]
                                       · simp only [up2_at]
                                         rw [if_neg (by omega), if_neg (by omega), if_neg (by omega), if_neg (by omega), if_neg (by omega)]
                                       · simp [up2_at, fW]
                                         first | (rw [if_pos (by omega)]; rw [q1, show (2 : Int) = ((2 : Nat) : Int) from rfl, bDivN (by omega) (by omega) (by omega)]; done) | (rw [if_neg (by omega)]; exact q1)
                                       · simp [up2_at, fH]
                                         first | (rw [if_pos (by omega)]; rw [q2, show (2 : Int) = ((2 : Nat) : Int) from rfl, bDivN (by omega) (by omega) (by omega)]; done) | (rw [if_neg (by omega)]; exact q2)
                                       · simp [up2_at, fP]
                                         first | (rw [if_pos (by omega)]; (try rfl); done) | (rw [if_neg (by omega)]; exact q3)
                                       · simp [up2_at, fL]
                                         rw [q4]
                                         first | (rw [if_pos (by omega)]; rfl) | (rw [if_neg (by omega), if_pos (by omega)]; rfl) | (rw [if_neg (by omega), if_neg (by omega), if_pos (by omega), q5]) | (rw [if_neg (by omega), if_neg (by omega), if_neg (by omega)]; rfl)
                                       · simp [up2_at, fS]
                                         first | (rw [if_pos (by omega), q5]; rfl) | (rw [if_neg (by omega)]; exact q5))
                                  · first
                                    | (simp (discharger := omega) only [wr_id] at c_231; done)
                                    | (try simp (discharger := omega) only [wr_id] at c_231
                                       exfalso
                                       first | omega | exact c_231 trivial)
                                    | (try simp (discharger := omega) only [wr_id] at c_231
                                       refine R_iconst dX5_measure_234 ?_
                                       refine R_aload_n dX5_measure_235 rfl rfl ?_
                                       refine R_getA fRX5_48 dX5_measure_236 rfl (Nat.lt_of_lt_of_le (Nat.le_of_ble_eq_true rfl) hnx) rfl ?_
                                       refine R_iload_n dX5_measure_239 rfl rfl ?_
                                       refine R_iaload (k := i) dX5_measure_240 rfl (Nat.lt_of_lt_of_le (Nat.le_of_ble_eq_true rfl) hnx) (by omega) (by omega) (by decide) ?_
                                       refine R_imul dX5_measure_241 ?_
                                       refine R_goto (tgt := 251) dX5_measure_242 (by decide) ?_
                                       refine R_iastore (k := i + 1) dX5_measure_251 rfl (Nat.lt_of_lt_of_le (Nat.le_of_ble_eq_true rfl) hnx) (by omega) (by omega) (by decide) ?_
                                       refine R_iinc dX5_measure_252 rfl (Nat.le_of_ble_eq_true rfl) ?_
                                       refine R_goto (tgt := 43) dX5_measure_255 (by decide) ?_
                                       refine step hi2 _ (fun p hp => ?_) (fun p h1 h2 k hk => ?_) ?_ ?_ ?_ ?_ ?_ _ _
                                       · rw [up2_ne _ _ _ (by omega), up2_ne _ _ _ (by omega), up2_ne _ _ _ (by omega), up2_ne _ _ _ (by omega), up2_ne _ _ _ (by omega)]
                                       · simp only [up2_at]
                                         rw [if_neg (by omega), if_neg (by omega), if_neg (by omega), if_neg (by omega), if_neg (by omega)]
                                       · simp [up2_at, fW]
                                         first | (rw [if_pos (by omega)]; rw [q1, show (2 : Int) = ((2 : Nat) : Int) from rfl, bDivN (by omega) (by omega) (by omega)]; done) | (rw [if_neg (by omega)]; exact q1)
                                       · simp [up2_at, fH]
                                         first | (rw [if_pos (by omega)]; rw [q2, show (2 : Int) = ((2 : Nat) : Int) from rfl, bDivN (by omega) (by omega) (by omega)]; done) | (rw [if_neg (by omega)]; exact q2)
                                       · simp [up2_at, fP]
                                         first | (rw [if_pos (by omega)]; (try rfl); done) | (rw [if_neg (by omega)]; exact q3)
                                       · simp [up2_at, fL]
                                         rw [q4]
                                         first | (rw [if_pos (by omega)]; rfl) | (rw [if_neg (by omega), if_pos (by omega)]; rfl) | (rw [if_neg (by omega), if_neg (by omega), if_pos (by omega), q5]) | (rw [if_neg (by omega), if_neg (by omega), if_neg (by omega)]; rfl)
                                       · simp [up2_at, fS]
                                         first | (rw [if_pos (by omega), q5]; rfl) | (rw [if_neg (by omega)]; exact q5)))
                             · first
                               | (simp (discharger := omega) only [wr_id] at c_161; done)
                               | (try simp (discharger := omega) only [wr_id] at c_161
                                  exfalso
                                  first | omega | exact c_161 trivial)
                               | (try simp (discharger := omega) only [wr_id] at c_161
                                  refine R_aload_n dX5_measure_164 rfl rfl ?_
                                  refine R_getA fRX5_24 dX5_measure_165 rfl (Nat.lt_of_lt_of_le (Nat.le_of_ble_eq_true rfl) hnx) rfl ?_
                                  refine R_iload_n dX5_measure_168 rfl rfl ?_
                                  refine R_iaload (k := i) dX5_measure_169 rfl (Nat.lt_of_lt_of_le (Nat.le_of_ble_eq_true rfl) hnx) (by omega) (by omega) (by decide) ?_
                                  refine R_iconst dX5_measure_170 ?_
                                  dsimp only
                                  rw [up2_ne _ _ _ (by decide), up2_ne _ _ _ (by decide), up2_ne _ _ _ (by decide), e6]
                                  refine R_icmp_ne (tgt := 178) dX5_measure_171 (by decide) (fun c_171 => ?_) (fun c_171 => ?_)
                                  · first
                                    | (simp (discharger := omega) only [wr_id] at c_171; done)
                                    | (try simp (discharger := omega) only [wr_id] at c_171
                                       exfalso
                                       first | omega | exact c_171 trivial)
                                    | (try simp (discharger := omega) only [wr_id] at c_171
                                       refine R_aload_n dX5_measure_178 rfl rfl ?_
                                       refine R_getA fRX5_24 dX5_measure_179 rfl (Nat.lt_of_lt_of_le (Nat.le_of_ble_eq_true rfl) hnx) rfl ?_
                                       refine R_iload_n dX5_measure_182 rfl rfl ?_
                                       refine R_iaload (k := i) dX5_measure_183 rfl (Nat.lt_of_lt_of_le (Nat.le_of_ble_eq_true rfl) hnx) (by omega) (by omega) (by decide) ?_
                                       refine R_iconst dX5_measure_184 ?_
                                       dsimp only
                                       rw [up2_ne _ _ _ (by decide), up2_ne _ _ _ (by decide), up2_ne _ _ _ (by decide), e6]
                                       refine R_icmp_ne (tgt := 192) dX5_measure_185 (by decide) (fun c_185 => ?_) (fun c_185 => ?_)
                                       · first
                                         | (simp (discharger := omega) only [wr_id] at c_185; done)
                                         | (try simp (discharger := omega) only [wr_id] at c_185
                                            exfalso
                                            first | omega | exact c_185 trivial)
                                         | (try simp (discharger := omega) only [wr_id] at c_185
                                            refine R_iload_n dX5_measure_192 rfl rfl ?_
                                            refine R_if_eq (tgt := 205) dX5_measure_193 (by decide) (fun c_193 => ?_) (fun c_193 => ?_)
                                            · first
                                              | (simp (discharger := omega) only [wr_id] at c_193; done)
                                              | (try simp (discharger := omega) only [wr_id] at c_193
                                                 exfalso
                                                 first | omega | exact c_193 trivial)
                                              | (try simp (discharger := omega) only [wr_id] at c_193
                                                 refine R_iconst dX5_measure_205 ?_
                                                 refine R_istore_n dX5_measure_206 rfl (Nat.le_of_ble_eq_true rfl) ?_
                                                 refine R_aload_n dX5_measure_207 rfl rfl ?_
                                                 refine R_getA fRX5_45 dX5_measure_208 rfl (Nat.lt_of_lt_of_le (Nat.le_of_ble_eq_true rfl) hnx) rfl ?_
                                                 refine R_iload_n dX5_measure_211 rfl rfl ?_
                                                 refine R_iconst dX5_measure_212 ?_
                                                 refine R_iadd dX5_measure_213 ?_
                                                 refine R_aload_n dX5_measure_214 rfl rfl ?_
                                                 refine R_getA fRX5_45 dX5_measure_215 rfl (Nat.lt_of_lt_of_le (Nat.le_of_ble_eq_true rfl) hnx) rfl ?_
                                                 refine R_iload_n dX5_measure_218 rfl rfl ?_
                                                 refine R_iaload (k := i) dX5_measure_219 rfl (Nat.lt_of_lt_of_le (Nat.le_of_ble_eq_true rfl) hnx) (by omega) (by omega) (by decide) ?_
                                                 refine R_iload_n dX5_measure_220 rfl rfl ?_
                                                 refine R_iadd dX5_measure_221 ?_
                                                 refine R_iastore (k := i + 1) dX5_measure_222 rfl (Nat.lt_of_lt_of_le (Nat.le_of_ble_eq_true rfl) hnx) (by omega) (by omega) (by decide) ?_
                                                 refine R_aload_n dX5_measure_223 rfl rfl ?_
                                                 refine R_getA fRX5_48 dX5_measure_224 rfl (Nat.lt_of_lt_of_le (Nat.le_of_ble_eq_true rfl) hnx) rfl ?_
                                                 refine R_iload_n dX5_measure_227 rfl rfl ?_
                                                 refine R_iconst dX5_measure_228 ?_
                                                 refine R_iadd dX5_measure_229 ?_
                                                 refine R_iload_n dX5_measure_230 rfl rfl ?_
                                                 refine R_if_eq (tgt := 245) dX5_measure_231 (by decide) (fun c_231 => ?_) (fun c_231 => ?_)
                                                 · first
                                                   | (simp (discharger := omega) only [wr_id] at c_231; done)
                                                   | (try simp (discharger := omega) only [wr_id] at c_231
                                                      exfalso
                                                      first | omega | exact c_231 trivial)
                                                   | (try simp (discharger := omega) only [wr_id] at c_231
                                                      refine R_aload_n dX5_measure_245 rfl rfl ?_
                                                      refine R_getA fRX5_48 dX5_measure_246 rfl (Nat.lt_of_lt_of_le (Nat.le_of_ble_eq_true rfl) hnx) rfl ?_
                                                      refine R_iload_n dX5_measure_249 rfl rfl ?_
                                                      refine R_iaload (k := i) dX5_measure_250 rfl (Nat.lt_of_lt_of_le (Nat.le_of_ble_eq_true rfl) hnx) (by omega) (by omega) (by decide) ?_
                                                      refine R_iastore (k := i + 1) dX5_measure_251 rfl (Nat.lt_of_lt_of_le (Nat.le_of_ble_eq_true rfl) hnx) (by omega) (by omega) (by decide) ?_
                                                      refine R_iinc dX5_measure_252 rfl (Nat.le_of_ble_eq_true rfl) ?_
                                                      refine R_goto (tgt := 43) dX5_measure_255 (by decide) ?_
                                                      refine step hi2 _ (fun p hp => ?_) (fun p h1 h2 k hk => ?_) ?_ ?_ ?_ ?_ ?_ _ _
                                                      · rw [up2_ne _ _ _ (by omega), up2_ne _ _ _ (by omega), up2_ne _ _ _ (by omega), up2_ne _ _ _ (by omega), up2_ne _ _ _ (by omega)]
                                                      · simp only [up2_at]
                                                        rw [if_neg (by omega), if_neg (by omega), if_neg (by omega), if_neg (by omega), if_neg (by omega)]
                                                      · simp [up2_at, fW]
                                                        first | (rw [if_pos (by omega)]; rw [q1, show (2 : Int) = ((2 : Nat) : Int) from rfl, bDivN (by omega) (by omega) (by omega)]; done) | (rw [if_neg (by omega)]; exact q1)
                                                      · simp [up2_at, fH]
                                                        first | (rw [if_pos (by omega)]; rw [q2, show (2 : Int) = ((2 : Nat) : Int) from rfl, bDivN (by omega) (by omega) (by omega)]; done) | (rw [if_neg (by omega)]; exact q2)
                                                      · simp [up2_at, fP]
                                                        first | (rw [if_pos (by omega)]; (try rfl); done) | (rw [if_neg (by omega)]; exact q3)
                                                      · simp [up2_at, fL]
                                                        rw [q4]
                                                        first | (rw [if_pos (by omega)]; rfl) | (rw [if_neg (by omega), if_pos (by omega)]; rfl) | (rw [if_neg (by omega), if_neg (by omega), if_pos (by omega), q5]) | (rw [if_neg (by omega), if_neg (by omega), if_neg (by omega)]; rfl)
                                                      · simp [up2_at, fS]
                                                        first | (rw [if_pos (by omega), q5]; rfl) | (rw [if_neg (by omega)]; exact q5))
                                                 · first
                                                   | (simp (discharger := omega) only [wr_id] at c_231; done)
                                                   | (try simp (discharger := omega) only [wr_id] at c_231
                                                      exfalso
                                                      first | omega | exact c_231 trivial)
                                                   | (try simp (discharger := omega) only [wr_id] at c_231
                                                      refine R_iconst dX5_measure_234 ?_
                                                      refine R_aload_n dX5_measure_235 rfl rfl ?_
                                                      refine R_getA fRX5_48 dX5_measure_236 rfl (Nat.lt_of_lt_of_le (Nat.le_of_ble_eq_true rfl) hnx) rfl ?_
                                                      refine R_iload_n dX5_measure_239 rfl rfl ?_
                                                      refine R_iaload (k := i) dX5_measure_240 rfl (Nat.lt_of_lt_of_le (Nat.le_of_ble_eq_true rfl) hnx) (by omega) (by omega) (by decide) ?_
                                                      refine R_imul dX5_measure_241 ?_
                                                      refine R_goto (tgt := 251) dX5_measure_242 (by decide) ?_
                                                      refine R_iastore (k := i + 1) dX5_measure_251 rfl (Nat.lt_of_lt_of_le (Nat.le_of_ble_eq_true rfl) hnx) (by omega) (by omega) (by decide) ?_
                                                      refine R_iinc dX5_measure_252 rfl (Nat.le_of_ble_eq_true rfl) ?_
                                                      refine R_goto (tgt := 43) dX5_measure_255 (by decide) ?_
                                                      refine step hi2 _ (fun p hp => ?_) (fun p h1 h2 k hk => ?_) ?_ ?_ ?_ ?_ ?_ _ _
                                                      · rw [up2_ne _ _ _ (by omega), up2_ne _ _ _ (by omega), up2_ne _ _ _ (by omega), up2_ne _ _ _ (by omega), up2_ne _ _ _ (by omega)]
                                                      · simp only [up2_at]
                                                        rw [if_neg (by omega), if_neg (by omega), if_neg (by omega), if_neg (by omega), if_neg (by omega)]
                                                      · simp [up2_at, fW]
                                                        first | (rw [if_pos (by omega)]; rw [q1, show (2 : Int) = ((2 : Nat) : Int) from rfl, bDivN (by omega) (by omega) (by omega)]; done) | (rw [if_neg (by omega)]; exact q1)
                                                      · simp [up2_at, fH]
                                                        first | (rw [if_pos (by omega)]; rw [q2, show (2 : Int) = ((2 : Nat) : Int) from rfl, bDivN (by omega) (by omega) (by omega)]; done) | (rw [if_neg (by omega)]; exact q2)
                                                      · simp [up2_at, fP]
                                                        first | (rw [if_pos (by omega)]; (try rfl); done) | (rw [if_neg (by omega)]; exact q3)
                                                      · simp [up2_at, fL]
                                                        rw [q4]
                                                        first | (rw [if_pos (by omega)]; rfl) | (rw [if_neg (by omega), if_pos (by omega)]; rfl) | (rw [if_neg (by omega), if_neg (by omega), if_pos (by omega), q5]) | (rw [if_neg (by omega), if_neg (by omega), if_neg (by omega)]; rfl)
                                                      · simp [up2_at, fS]
                                                        first | (rw [if_pos (by omega), q5]; rfl) | (rw [if_neg (by omega)]; exact q5)))
                                            · first
                                              | (simp (discharger := omega) only [wr_id] at c_193; done)
                                              | (try simp (discharger := omega) only [wr_id] at c_193
                                                 exfalso
                                                 first | omega | exact c_193 trivial)
                                              | (try simp (discharger := omega) only [wr_id] at c_193
                                                 refine R_aload_n dX5_measure_196 rfl rfl ?_
                                                 refine R_getA fRX5_48 dX5_measure_197 rfl (Nat.lt_of_lt_of_le (Nat.le_of_ble_eq_true rfl) hnx) rfl ?_
                                                 refine R_iload_n dX5_measure_200 rfl rfl ?_
                                                 refine R_iaload (k := i) dX5_measure_201 rfl (Nat.lt_of_lt_of_le (Nat.le_of_ble_eq_true rfl) hnx) (by omega) (by omega) (by decide) ?_
                                                 refine R_goto (tgt := 206) dX5_measure_202 (by decide) ?_
                                                 refine R_istore_n dX5_measure_206 rfl (Nat.le_of_ble_eq_true rfl) ?_
                                                 refine R_aload_n dX5_measure_207 rfl rfl ?_
                                                 refine R_getA fRX5_45 dX5_measure_208 rfl (Nat.lt_of_lt_of_le (Nat.le_of_ble_eq_true rfl) hnx) rfl ?_
                                                 refine R_iload_n dX5_measure_211 rfl rfl ?_
                                                 refine R_iconst dX5_measure_212 ?_
                                                 refine R_iadd dX5_measure_213 ?_
                                                 refine R_aload_n dX5_measure_214 rfl rfl ?_
                                                 refine R_getA fRX5_45 dX5_measure_215 rfl (Nat.lt_of_lt_of_le (Nat.le_of_ble_eq_true rfl) hnx) rfl ?_
                                                 refine R_iload_n dX5_measure_218 rfl rfl ?_
                                                 refine R_iaload (k := i) dX5_measure_219 rfl (Nat.lt_of_lt_of_le (Nat.le_of_ble_eq_true rfl) hnx) (by omega) (by omega) (by decide) ?_
                                                 refine R_iload_n dX5_measure_220 rfl rfl ?_
                                                 refine R_iadd dX5_measure_221 ?_
                                                 refine R_iastore (k := i + 1) dX5_measure_222 rfl (Nat.lt_of_lt_of_le (Nat.le_of_ble_eq_true rfl) hnx) (by omega) (by omega) (by decide) ?_
                                                 refine R_aload_n dX5_measure_223 rfl rfl ?_
                                                 refine R_getA fRX5_48 dX5_measure_224 rfl (Nat.lt_of_lt_of_le (Nat.le_of_ble_eq_true rfl) hnx) rfl ?_
                                                 refine R_iload_n dX5_measure_227 rfl rfl ?_
                                                 refine R_iconst dX5_measure_228 ?_
                                                 refine R_iadd dX5_measure_229 ?_
                                                 refine R_iload_n dX5_measure_230 rfl rfl ?_
                                                 refine R_if_eq (tgt := 245) dX5_measure_231 (by decide) (fun c_231 => ?_) (fun c_231 => ?_)
                                                 · first
                                                   | (simp (discharger := omega) only [wr_id] at c_231; done)
                                                   | (try simp (discharger := omega) only [wr_id] at c_231
                                                      exfalso
                                                      first | omega | exact c_231 trivial)
                                                   | (try simp (discharger := omega) only [wr_id] at c_231
                                                      refine R_aload_n dX5_measure_245 rfl rfl ?_
                                                      refine R_getA fRX5_48 dX5_measure_246 rfl (Nat.lt_of_lt_of_le (Nat.le_of_ble_eq_true rfl) hnx) rfl ?_
                                                      refine R_iload_n dX5_measure_249 rfl rfl ?_
                                                      refine R_iaload (k := i) dX5_measure_250 rfl (Nat.lt_of_lt_of_le (Nat.le_of_ble_eq_true rfl) hnx) (by omega) (by omega) (by decide) ?_
                                                      refine R_iastore (k := i + 1) dX5_measure_251 rfl (Nat.lt_of_lt_of_le (Nat.le_of_ble_eq_true rfl) hnx) (by omega) (by omega) (by decide) ?_
                                                      refine R_iinc dX5_measure_252 rfl (Nat.le_of_ble_eq_true rfl) ?_
                                                      refine R_goto (tgt := 43) dX5_measure_255 (by decide) ?_
                                                      refine step hi2 _ (fun p hp => ?_) (fun p h1 h2 k hk => ?_) ?_ ?_ ?_ ?_ ?_ _ _
                                                      · rw [up2_ne _ _ _ (by omega), up2_ne _ _ _ (by omega), up2_ne _ _ _ (by omega), up2_ne _ _ _ (by omega), up2_ne _ _ _ (by omega)]
                                                      · simp only [up2_at]
                                                        rw [if_neg (by omega), if_neg (by omega), if_neg (by omega), if_neg (by omega), if_neg (by omega)]
                                                      · simp [up2_at, fW]
                                                        first | (rw [if_pos (by omega)]; rw [q1, show (2 : Int) = ((2 : Nat) : Int) from rfl, bDivN (by omega) (by omega) (by omega)]; done) | (rw [if_neg (by omega)]; exact q1)
                                                      · simp [up2_at, fH]
                                                        first | (rw [if_pos (by omega)]; rw [q2, show (2 : Int) = ((2 : Nat) : Int) from rfl, bDivN (by omega) (by omega) (by omega)]; done) | (rw [if_neg (by omega)]; exact q2)
                                                      · simp [up2_at, fP]
                                                        first | (rw [if_pos (by omega)]; (try rfl); done) | (rw [if_neg (by omega)]; exact q3)
                                                      · simp [up2_at, fL]
                                                        rw [q4]
                                                        first | (rw [if_pos (by omega)]; rfl) | (rw [if_neg (by omega), if_pos (by omega)]; rfl) | (rw [if_neg (by omega), if_neg (by omega), if_pos (by omega), q5]) | (rw [if_neg (by omega), if_neg (by omega), if_neg (by omega)]; rfl)
                                                      · simp [up2_at, fS]
                                                        first | (rw [if_pos (by omega), q5]; rfl) | (rw [if_neg (by omega)]; exact q5))
                                                 · first
                                                   | (simp (discharger := omega) only [wr_id] at c_231; done)
                                                   | (try simp (discharger := omega) only [wr_id] at c_231
                                                      exfalso
                                                      first | omega | exact c_231 trivial)
                                                   | (try simp (discharger := omega) only [wr_id] at c_231
                                                      refine R_iconst dX5_measure_234 ?_
                                                      refine R_aload_n dX5_measure_235 rfl rfl ?_
                                                      refine R_getA fRX5_48 dX5_measure_236 rfl (Nat.lt_of_lt_of_le (Nat.le_of_ble_eq_true rfl) hnx) rfl ?_
                                                      refine R_iload_n dX5_measure_239 rfl rfl ?_
                                                      refine R_iaload (k := i) dX5_measure_240 rfl (Nat.lt_of_lt_of_le (Nat.le_of_ble_eq_true rfl) hnx) (by omega) (by omega) (by decide) ?_
                                                      refine R_imul dX5_measure_241 ?_
                                                      refine R_goto (tgt := 251) dX5_measure_242 (by decide) ?_
                                                      refine R_iastore (k := i + 1) dX5_measure_251 rfl (Nat.lt_of_lt_of_le (Nat.le_of_ble_eq_true rfl) hnx) (by omega) (by omega) (by decide) ?_
                                                      refine R_iinc dX5_measure_252 rfl (Nat.le_of_ble_eq_true rfl) ?_
                                                      refine R_goto (tgt := 43) dX5_measure_255 (by decide) ?_
                                                      refine step hi2 _ (fun p hp => ?_) (fun p h1 h2 k hk => ?_) ?_ ?_ ?_ ?_ ?_ _ _
                                                      · rw [up2_ne _ _ _ (by omega), up2_ne _ _ _ (by omega), up2_ne _ _ _ (by omega), up2_ne _ _ _ (by omega), up2_ne _ _ _ (by omega)]
                                                      · simp only [up2_at]
                                                        rw [if_neg (by omega), if_neg (by omega), if_neg (by omega), if_neg (by omega), if_neg (by omega)]
                                                      · simp [up2_at, fW]
                                                        first | (rw [if_pos (by omega)]; rw [q1, show (2 : Int) = ((2 : Nat) : Int) from rfl, bDivN (by omega) (by omega) (by omega)]; done) | (rw [if_neg (by omega)]; exact q1)
                                                      · simp [up2_at, fH]
                                                        first | (rw [if_pos (by omega)]; rw [q2, show (2 : Int) = ((2 : Nat) : Int) from rfl, bDivN (by omega) (by omega) (by omega)]; done) | (rw [if_neg (by omega)]; exact q2)
                                                      · simp [up2_at, fP]
                                                        first | (rw [if_pos (by omega)]; (try rfl); done) | (rw [if_neg (by omega)]; exact q3)
                                                      · simp [up2_at, fL]
                                                        rw [q4]
                                                        first | (rw [if_pos (by omega)]; rfl) | (rw [if_neg (by omega), if_pos (by omega)]; rfl) | (rw [if_neg (by omega), if_neg (by omega), if_pos (by omega), q5]) | (rw [if_neg (by omega), if_neg (by omega), if_neg (by omega)]; rfl)
                                                      · simp [up2_at, fS]
                                                        first | (rw [if_pos (by omega), q5]; rfl) | (rw [if_neg (by omega)]; exact q5))))
                                       · first
                                         | (simp (discharger := omega) only [wr_id] at c_185; done)
                                         | (try simp (discharger := omega) only [wr_id] at c_185
                                            exfalso
                                            first | omega | exact c_185 trivial)
                                         | (try simp (discharger := omega) only [wr_id] at c_185
                                            refine R_iconst dX5_measure_188 ?_
                                            refine R_goto (tgt := 206) dX5_measure_189 (by decide) ?_
                                            refine R_istore_n dX5_measure_206 rfl (Nat.le_of_ble_eq_true rfl) ?_
                                            refine R_aload_n dX5_measure_207 rfl rfl ?_
                                            refine R_getA fRX5_45 dX5_measure_208 rfl (Nat.lt_of_lt_of_le (Nat.le_of_ble_eq_true rfl) hnx) rfl ?_
                                            refine R_iload_n dX5_measure_211 rfl rfl ?_
                                            refine R_iconst dX5_measure_212 ?_
                                            refine R_iadd dX5_measure_213 ?_
                                            refine R_aload_n dX5_measure_214 rfl rfl ?_
                                            refine R_getA fRX5_45 dX5_measure_215 rfl (Nat.lt_of_lt_of_le (Nat.le_of_ble_eq_true rfl) hnx) rfl ?_
                                            refine R_iload_n dX5_measure_218 rfl rfl ?_
                                            refine R_iaload (k := i) dX5_measure_219 rfl (Nat.lt_of_lt_of_le (Nat.le_of_ble_eq_true rfl) hnx) (by omega) (by omega) (by decide) ?_
                                            refine R_iload_n dX5_measure_220 rfl rfl ?_
                                            refine R_iadd dX5_measure_221 ?_
                                            refine R_iastore (k := i + 1) dX5_measure_222 rfl (Nat.lt_of_lt_of_le (Nat.le_of_ble_eq_true rfl) hnx) (by omega) (by omega) (by decide) ?_
                                            refine R_aload_n dX5_measure_223 rfl rfl ?_
                                            refine R_getA fRX5_48 dX5_measure_224 rfl (Nat.lt_of_lt_of_le (Nat.le_of_ble_eq_true rfl) hnx) rfl ?_
                                            refine R_iload_n dX5_measure_227 rfl rfl ?_
                                            refine R_iconst dX5_measure_228 ?_
                                            refine R_iadd dX5_measure_229 ?_
                                            refine R_iload_n dX5_measure_230 rfl rfl ?_
                                            refine R_if_eq (tgt := 245) dX5_measure_231 (by decide) (fun c_231 => ?_) (fun c_231 => ?_)
                                            · first
                                              | (simp (discharger := omega) only [wr_id] at c_231; done)
                                              | (try simp (discharger := omega) only [wr_id] at c_231
                                                 exfalso
                                                 first | omega | exact c_231 trivial)
                                              | (try simp (discharger := omega) only [wr_id] at c_231
                                                 refine R_aload_n dX5_measure_245 rfl rfl ?_
                                                 refine R_getA fRX5_48 dX5_measure_246 rfl (Nat.lt_of_lt_of_le (Nat.le_of_ble_eq_true rfl) hnx) rfl ?_
                                                 refine R_iload_n dX5_measure_249 rfl rfl ?_
                                                 refine R_iaload (k := i) dX5_measure_250 rfl (Nat.lt_of_lt_of_le (Nat.le_of_ble_eq_true rfl) hnx) (by omega) (by omega) (by decide) ?_
                                                 refine R_iastore (k := i + 1) dX5_measure_251 rfl (Nat.lt_of_lt_of_le (Nat.le_of_ble_eq_true rfl) hnx) (by omega) (by omega) (by decide) ?_
                                                 refine R_iinc dX5_measure_252 rfl (Nat.le_of_ble_eq_true rfl) ?_
                                                 refine R_goto (tgt := 43) dX5_measure_255 (by decide) ?_
                                                 refine step hi2 _ (fun p hp => ?_) (fun p h1 h2 k hk => ?_) ?_ ?_ ?_ ?_ ?_ _ _
                                                 · rw [up2_ne _ _ _ (by omega), up2_ne _ _ _ (by omega), up2_ne _ _ _ (by omega), up2_ne _ _ _ (by omega), up2_ne _ _ _ (by omega)]
                                                 · simp only [up2_at]
                                                   rw [if_neg (by omega), if_neg (by omega), if_neg (by omega), if_neg (by omega), if_neg (by omega)]
                                                 · simp [up2_at, fW]
                                                   first | (rw [if_pos (by omega)]; rw [q1, show (2 : Int) = ((2 : Nat) : Int) from rfl, bDivN (by omega) (by omega) (by omega)]; done) | (rw [if_neg (by omega)]; exact q1)
                                                 · simp [up2_at, fH]
                                                   first | (rw [if_pos (by omega)]; rw [q2, show (2 : Int) = ((2 : Nat) : Int) from rfl, bDivN (by omega) (by omega) (by omega)]; done) | (rw [if_neg (by omega)]; exact q2)
                                                 · simp [up2_at, fP]
                                                   first | (rw [if_pos (by omega)]; (try rfl); done) | (rw [if_neg (by omega)]; exact q3)
                                                 · simp [up2_at, fL]
                                                   rw [q4]
                                                   first | (rw [if_pos (by omega)]; rfl) | (rw [if_neg (by omega), if_pos (by omega)]; rfl) | (rw [if_neg (by omega), if_neg (by omega), if_pos (by omega), q5]) | (rw [if_neg (by omega), if_neg (by omega), if_neg (by omega)]; rfl)
                                                 · simp [up2_at, fS]
                                                   first | (rw [if_pos (by omega), q5]; rfl) | (rw [if_neg (by omega)]; exact q5))
                                            · first
                                              | (simp (discharger := omega) only [wr_id] at c_231; done)
                                              | (try simp (discharger := omega) only [wr_id] at c_231
                                                 exfalso
                                                 first | omega | exact c_231 trivial)
                                              | (try simp (discharger := omega) only [wr_id] at c_231
                                                 refine R_iconst dX5_measure_234 ?_
                                                 refine R_aload_n dX5_measure_235 rfl rfl ?_
                                                 refine R_getA fRX5_48 dX5_measure_236 rfl (Nat.lt_of_lt_of_le (Nat.le_of_ble_eq_true rfl) hnx) rfl ?_
                                                 refine R_iload_n dX5_measure_239 rfl rfl ?_
                                                 refine R_iaload (k := i) dX5_measure_240 rfl (Nat.lt_of_lt_of_le (Nat.le_of_ble_eq_true rfl) hnx) (by omega) (by omega) (by decide) ?_
                                                 refine R_imul dX5_measure_241 ?_
                                                 refine R_goto (tgt := 251) dX5_measure_242 (by decide) ?_
                                                 refine R_iastore (k := i + 1) dX5_measure_251 rfl (Nat.lt_of_lt_of_le (Nat.le_of_ble_eq_true rfl) hnx) (by omega) (by omega) (by decide) ?_
                                                 refine R_iinc dX5_measure_252 rfl (Nat.le_of_ble_eq_true rfl) ?_
                                                 refine R_goto (tgt := 43) dX5_measure_255 (by decide) ?_
                                                 refine step hi2 _ (fun p hp => ?_) (fun p h1 h2 k hk => ?_) ?_ ?_ ?_ ?_ ?_ _ _
                                                 · rw [up2_ne _ _ _ (by omega), up2_ne _ _ _ (by omega), up2_ne _ _ _ (by omega), up2_ne _ _ _ (by omega), up2_ne _ _ _ (by omega)]
                                                 · simp only [up2_at]
                                                   rw [if_neg (by omega), if_neg (by omega), if_neg (by omega), if_neg (by omega), if_neg (by omega)]
                                                 · simp [up2_at, fW]
                                                   first | (rw [if_pos (by omega)]; rw [q1, show (2 : Int) = ((2 : Nat) : Int) from rfl, bDivN (by omega) (by omega) (by omega)]; done) | (rw [if_neg (by omega)]; exact q1)
                                                 · simp [up2_at, fH]
                                                   first | (rw [if_pos (by omega)]; rw [q2, show (2 : Int) = ((2 : Nat) : Int) from rfl, bDivN (by omega) (by omega) (by omega)]; done) | (rw [if_neg (by omega)]; exact q2)
                                                 · simp [up2_at, fP]
                                                   first | (rw [if_pos (by omega)]; (try rfl); done) | (rw [if_neg (by omega)]; exact q3)
                                                 · simp [up2_at, fL]
                                                   rw [q4]
                                                   first | (rw [if_pos (by omega)]; rfl) | (rw [if_neg (by omega), if_pos (by omega)]; rfl) | (rw [if_neg (by omega), if_neg (by omega), if_pos (by omega), q5]) | (rw [if_neg (by omega), if_neg (by omega), if_neg (by omega)]; rfl)
                                                 · simp [up2_at, fS]
                                                   first | (rw [if_pos (by omega), q5]; rfl) | (rw [if_neg (by omega)]; exact q5))))
                                  · first
                                    | (simp (discharger := omega) only [wr_id] at c_171; done)
                                    | (try simp (discharger := omega) only [wr_id] at c_171
                                       exfalso
                                       first | omega | exact c_171 trivial)
                                    | (try simp (discharger := omega) only [wr_id] at c_171
                                       refine R_iconst dX5_measure_174 ?_
                                       refine R_goto (tgt := 206) dX5_measure_175 (by decide) ?_
                                       refine R_istore_n dX5_measure_206 rfl (Nat.le_of_ble_eq_true rfl) ?_
                                       refine R_aload_n dX5_measure_207 rfl rfl ?_
                                       refine R_getA fRX5_45 dX5_measure_208 rfl (Nat.lt_of_lt_of_le (Nat.le_of_ble_eq_true rfl) hnx) rfl ?_
                                       refine R_iload_n dX5_measure_211 rfl rfl ?_
                                       refine R_iconst dX5_measure_212 ?_
                                       refine R_iadd dX5_measure_213 ?_
                                       refine R_aload_n dX5_measure_214 rfl rfl ?_
                                       refine R_getA fRX5_45 dX5_measure_215 rfl (Nat.lt_of_lt_of_le (Nat.le_of_ble_eq_true rfl) hnx) rfl ?_
                                       refine R_iload_n dX5_measure_218 rfl rfl ?_
                                       refine R_iaload (k := i) dX5_measure_219 rfl (Nat.lt_of_lt_of_le (Nat.le_of_ble_eq_true rfl) hnx) (by omega) (by omega) (by decide) ?_
                                       refine R_iload_n dX5_measure_220 rfl rfl ?_
                                       refine R_iadd dX5_measure_221 ?_
                                       refine R_iastore (k := i + 1) dX5_measure_222 rfl (Nat.lt_of_lt_of_le (Nat.le_of_ble_eq_true rfl) hnx) (by omega) (by omega) (by decide) ?_
                                       refine R_aload_n dX5_measure_223 rfl rfl ?_
                                       refine R_getA fRX5_48 dX5_measure_224 rfl (Nat.lt_of_lt_of_le (Nat.le_of_ble_eq_true rfl) hnx) rfl ?_
                                       refine R_iload_n dX5_measure_227 rfl rfl ?_
                                       refine R_iconst dX5_measure_228 ?_
                                       refine R_iadd dX5_measure_229 ?_
                                       refine R_iload_n dX5_measure_230 rfl rfl ?_
                                       refine R_if_eq (tgt := 245) dX5_measure_231 (by decide) (fun c_231 => ?_) (fun c_231 => ?_)
                                       · first
                                         | (simp (discharger := omega) only [wr_id] at c_231; done)
                                         | (try simp (discharger := omega) only [wr_id] at c_231
                                            exfalso
                                            first | omega | exact c_231 trivial)
                                         | (try simp (discharger := omega) only [wr_id] at c_231
                                            refine R_aload_n dX5_measure_245 rfl rfl ?_
                                            refine R_getA fRX5_48 dX5_measure_246 rfl (Nat.lt_of_lt_of_le (Nat.le_of_ble_eq_true rfl) hnx) rfl ?_
                                            refine R_iload_n dX5_measure_249 rfl rfl ?_
                                            refine R_iaload (k := i) dX5_measure_250 rfl (Nat.lt_of_lt_of_le (Nat.le_of_ble_eq_true rfl) hnx) (by omega) (by omega) (by decide) ?_
                                            refine R_iastore (k := i + 1) dX5_measure_251 rfl (Nat.lt_of_lt_of_le (Nat.le_of_ble_eq_true rfl) hnx) (by omega) (by omega) (by decide) ?_
                                            refine R_iinc dX5_measure_252 rfl (Nat.le_of_ble_eq_true rfl) ?_
                                            refine R_goto (tgt := 43) dX5_measure_255 (by decide) ?_
                                            refine step hi2 _ (fun p hp => ?_) (fun p h1 h2 k hk => ?_) ?_ ?_ ?_ ?_ ?_ _ _
                                            · rw [up2_ne _ _ _ (by omega), up2_ne _ _ _ (by omega), up2_ne _ _ _ (by omega), up2_ne _ _ _ (by omega), up2_ne _ _ _ (by omega)]
                                            · simp only [up2_at]
                                              rw [if_neg (by omega), if_neg (by omega), if_neg (by omega), if_neg (by omega), if_neg (by omega)]
                                            · simp [up2_at, fW]
                                              first | (rw [if_pos (by omega)]; rw [q1, show (2 : Int) = ((2 : Nat) : Int) from rfl, bDivN (by omega) (by omega) (by omega)]; done) | (rw [if_neg (by omega)]; exact q1)
                                            · simp [up2_at, fH]
                                              first | (rw [if_pos (by omega)]; rw [q2, show (2 : Int) = ((2 : Nat) : Int) from rfl, bDivN (by omega) (by omega) (by omega)]; done) | (rw [if_neg (by omega)]; exact q2)
                                            · simp [up2_at, fP]
                                              first | (rw [if_pos (by omega)]; (try rfl); done) | (rw [if_neg (by omega)]; exact q3)
                                            · simp [up2_at, fL]
                                              rw [q4]
                                              first | (rw [if_pos (by omega)]; rfl) | (rw [if_neg (by omega), if_pos (by omega)]; rfl) | (rw [if_neg (by omega), if_neg (by omega), if_pos (by omega), q5]) | (rw [if_neg (by omega), if_neg (by omega), if_neg (by omega)]; rfl)
                                            · simp [up2_at, fS]
                                              first | (rw [if_pos (by omega), q5]; rfl) | (rw [if_neg (by omega)]; exact q5))
                                       · first
                                         | (simp (discharger := omega) only [wr_id] at c_231; done)
                                         | (try simp (discharger := omega) only [wr_id] at c_231
                                            exfalso
                                            first | omega | exact c_231 trivial)
                                         | (try simp (discharger := omega) only [wr_id] at c_231
                                            refine R_iconst dX5_measure_234 ?_
                                            refine R_aload_n dX5_measure_235 rfl rfl ?_
                                            refine R_getA fRX5_48 dX5_measure_236 rfl (Nat.lt_of_lt_of_le (Nat.le_of_ble_eq_true rfl) hnx) rfl ?_
                                            refine R_iload_n dX5_measure_239 rfl rfl ?_
                                            refine R_iaload (k := i) dX5_measure_240 rfl (Nat.lt_of_lt_of_le (Nat.le_of_ble_eq_true rfl) hnx) (by omega) (by omega) (by decide) ?_
                                            refine R_imul dX5_measure_241 ?_
                                            refine R_goto (tgt := 251) dX5_measure_242 (by decide) ?_
                                            refine R_iastore (k := i + 1) dX5_measure_251 rfl (Nat.lt_of_lt_of_le (Nat.le_of_ble_eq_true rfl) hnx) (by omega) (by omega) (by decide) ?_
                                            refine R_iinc dX5_measure_252 rfl (Nat.le_of_ble_eq_true rfl) ?_
                                            refine R_goto (tgt := 43) dX5_measure_255 (by decide) ?_
                                            refine step hi2 _ (fun p hp => ?_) (fun p h1 h2 k hk => ?_) ?_ ?_ ?_ ?_ ?_ _ _
                                            · rw [up2_ne _ _ _ (by omega), up2_ne _ _ _ (by omega), up2_ne _ _ _ (by omega), up2_ne _ _ _ (by omega), up2_ne _ _ _ (by omega)]
                                            · simp only [up2_at]
                                              rw [if_neg (by omega), if_neg (by omega), if_neg (by omega), if_neg (by omega), if_neg (by omega)]
                                            · simp [up2_at, fW]
                                              first | (rw [if_pos (by omega)]; rw [q1, show (2 : Int) = ((2 : Nat) : Int) from rfl, bDivN (by omega) (by omega) (by omega)]; done) | (rw [if_neg (by omega)]; exact q1)
                                            · simp [up2_at, fH]
                                              first | (rw [if_pos (by omega)]; rw [q2, show (2 : Int) = ((2 : Nat) : Int) from rfl, bDivN (by omega) (by omega) (by omega)]; done) | (rw [if_neg (by omega)]; exact q2)
                                            · simp [up2_at, fP]
                                              first | (rw [if_pos (by omega)]; (try rfl); done) | (rw [if_neg (by omega)]; exact q3)
                                            · simp [up2_at, fL]
                                              rw [q4]
                                              first | (rw [if_pos (by omega)]; rfl) | (rw [if_neg (by omega), if_pos (by omega)]; rfl) | (rw [if_neg (by omega), if_neg (by omega), if_pos (by omega), q5]) | (rw [if_neg (by omega), if_neg (by omega), if_neg (by omega)]; rfl)
                                            · simp [up2_at, fS]
                                              first | (rw [if_pos (by omega), q5]; rfl) | (rw [if_neg (by omega)]; exact q5)))))
                        · first
                          | (simp (discharger := omega) only [wr_id] at c_140; done)
                          | (try simp (discharger := omega) only [wr_id] at c_140
                             exfalso
                             first | omega | exact c_140 trivial)
                          | (try simp (discharger := omega) only [wr_id] at c_140
                             refine R_iconst dX5_measure_143 ?_
                             refine R_goto (tgt := 153) dX5_measure_144 (by decide) ?_
                             refine R_iastore (k := i + 1) dX5_measure_153 rfl (Nat.lt_of_lt_of_le (Nat.le_of_ble_eq_true rfl) hnx) (by omega) (by omega) (by decide) ?_
                             refine R_aload_n dX5_measure_154 rfl rfl ?_
                             refine R_getA fRX5_24 dX5_measure_155 rfl (Nat.lt_of_lt_of_le (Nat.le_of_ble_eq_true rfl) hnx) rfl ?_
                             refine R_iload_n dX5_measure_158 rfl rfl ?_
                             refine R_iaload (k := i) dX5_measure_159 rfl (Nat.lt_of_lt_of_le (Nat.le_of_ble_eq_true rfl) hnx) (by omega) (by omega) (by decide) ?_
                             refine R_iconst dX5_measure_160 ?_
                             dsimp only
                             rw [up2_ne _ _ _ (by decide), up2_ne _ _ _ (by decide), up2_ne _ _ _ (by decide), e6]
                             refine R_icmp_eq (tgt := 174) dX5_measure_161 (by decide) (fun c_161 => ?_) (fun c_161 => ?_)
                             · first
                               | (simp (discharger := omega) only [wr_id] at c_161; done)
                               | (try simp (discharger := omega) only [wr_id] at c_161
                                  exfalso
                                  first | omega | exact c_161 trivial)
                               | (try simp (discharger := omega) only [wr_id] at c_161
                                  refine R_iconst dX5_measure_174 ?_
                                  refine R_goto (tgt := 206) dX5_measure_175 (by decide) ?_
                                  refine R_istore_n dX5_measure_206 rfl (Nat.le_of_ble_eq_true rfl) ?_
                                  refine R_aload_n dX5_measure_207 rfl rfl ?_
                                  refine R_getA fRX5_45 dX5_measure_208 rfl (Nat.lt_of_lt_of_le (Nat.le_of_ble_eq_true rfl) hnx) rfl ?_
                                  refine R_iload_n dX5_measure_211 rfl rfl ?_
                                  refine R_iconst dX5_measure_212 ?_
                                  refine R_iadd dX5_measure_213 ?_
                                  refine R_aload_n dX5_measure_214 rfl rfl ?_
                                  refine R_getA fRX5_45 dX5_measure_215 rfl (Nat.lt_of_lt_of_le (Nat.le_of_ble_eq_true rfl) hnx) rfl ?_
                                  refine R_iload_n dX5_measure_218 rfl rfl ?_
                                  refine R_iaload (k := i) dX5_measure_219 rfl (Nat.lt_of_lt_of_le (Nat.le_of_ble_eq_true rfl) hnx) (by omega) (by omega) (by decide) ?_
                                  refine R_iload_n dX5_measure_220 rfl rfl ?_
                                  refine R_iadd dX5_measure_221 ?_
                                  refine R_iastore (k := i + 1) dX5_measure_222 rfl (Nat.lt_of_lt_of_le (Nat.le_of_ble_eq_true rfl) hnx) (by omega) (by omega) (by decide) ?_
                                  refine R_aload_n dX5_measure_223 rfl rfl ?_
                                  refine R_getA fRX5_48 dX5_measure_224 rfl (Nat.lt_of_lt_of_le (Nat.le_of_ble_eq_true rfl) hnx) rfl ?_
                                  refine R_iload_n dX5_measure_227 rfl rfl ?_
                                  refine R_iconst dX5_measure_228 ?_
                                  refine R_iadd dX5_measure_229 ?_
                                  refine R_iload_n dX5_measure_230 rfl rfl ?_
                                  refine R_if_eq (tgt := 245) dX5_measure_231 (by decide) (fun c_231 => ?_) (fun c_231 => ?_)
                                  · first
                                    | (simp (discharger := omega) only [wr_id] at c_231; done)
                                    | (try simp (discharger := omega) only [wr_id] at c_231
                                       exfalso
                                       first | omega | exact c_231 trivial)
                                    | (try simp (discharger := omega) only [wr_id] at c_231
                                       refine R_aload_n dX5_measure_245 rfl rfl ?_
                                       refine R_getA fRX5_48 dX5_measure_246 rfl (Nat.lt_of_lt_of_le (Nat.le_of_ble_eq_true rfl) hnx) rfl ?_
                                       refine R_iload_n dX5_measure_249 rfl rfl ?_
                                       refine R_iaload (k := i) dX5_measure_250 rfl (Nat.lt_of_lt_of_le (Nat.le_of_ble_eq_true rfl) hnx) (by omega) (by omega) (by decide) ?_
                                       refine R_iastore (k := i + 1) dX5_measure_251 rfl (Nat.lt_of_lt_of_le (Nat.le_of_ble_eq_true rfl) hnx) (by omega) (by omega) (by decide) ?_
                                       refine R_iinc dX5_measure_252 rfl (Nat.le_of_ble_eq_true rfl) ?_
                                       refine R_goto (tgt := 43) dX5_measure_255 (by decide) ?_
                                       refine step hi2 _ (fun p hp => ?_) (fun p h1 h2 k hk => ?_) ?_ ?_ ?_ ?_ ?_ _ _
                                       · rw [up2_ne _ _ _ (by omega), up2_ne _ _ _ (by omega), up2_ne _ _ _ (by omega), up2_ne _ _ _ (by omega), up2_ne _ _ _ (by omega)]
                                       · simp only [up2_at]
                                         rw [if_neg (by omega), if_neg (by omega), if_neg (by omega), if_neg (by omega), if_neg (by omega)]
                                       · simp [up2_at, fW]
                                         first | (rw [if_pos (by omega)]; rw [q1, show (2 : Int) = ((2 : Nat) : Int) from rfl, bDivN (by omega) (by omega) (by omega)]; done) | (rw [if_neg (by omega)]; exact q1)
                                       · simp [up2_at, fH]
                                         first | (rw [if_pos (by omega)]; rw [q2, show (2 : Int) = ((2 : Nat) : Int) from rfl, bDivN (by omega) (by omega) (by omega)]; done) | (rw [if_neg (by omega)]; exact q2)
                                       · simp [up2_at, fP]
                                         first | (rw [if_pos (by omega)]; (try rfl); done) | (rw [if_neg (by omega)]; exact q3)
                                       · simp [up2_at, fL]
                                         rw [q4]
                                         first | (rw [if_pos (by omega)]; rfl) | (rw [if_neg (by omega), if_pos (by omega)]; rfl) | (rw [if_neg (by omega), if_neg (by omega), if_pos (by omega), q5]) | (rw [if_neg (by omega), if_neg (by omega), if_neg (by omega)]; rfl)
                                       · simp [up2_at, fS]
                                         first | (rw [if_pos (by omega), q5]; rfl) | (rw [if_neg (by omega)]; exact q5))
                                  · first
                                    | (simp (discharger := omega) only [wr_id] at c_231; done)
                                    | (try simp (discharger := omega) only [wr_id] at c_231
                                       exfalso
                                       first | omega | exact c_231 trivial)
                                    | (try simp (discharger := omega) only [wr_id] at c_231
                                       refine R_iconst dX5_measure_234 ?_
                                       refine R_aload_n dX5_measure_235 rfl rfl ?_
                                       refine R_getA fRX5_48 dX5_measure_236 rfl (Nat.lt_of_lt_of_le (Nat.le_of_ble_eq_true rfl) hnx) rfl ?_
                                       refine R_iload_n dX5_measure_239 rfl rfl ?_
                                       refine R_iaload (k := i) dX5_measure_240 rfl (Nat.lt_of_lt_of_le (Nat.le_of_ble_eq_true rfl) hnx) (by omega) (by omega) (by decide) ?_
                                       refine R_imul dX5_measure_241 ?_
                                       refine R_goto (tgt := 251) dX5_measure_242 (by decide) ?_
                                       refine R_iastore (k := i + 1) dX5_measure_251 rfl (Nat.lt_of_lt_of_le (Nat.le_of_ble_eq_true rfl) hnx) (by omega) (by omega) (by decide) ?_
                                       refine R_iinc dX5_measure_252 rfl (Nat.le_of_ble_eq_true rfl) ?_
                                       refine R_goto (tgt := 43) dX5_measure_255 (by decide) ?_
                                       refine step hi2 _ (fun p hp => ?_) (fun p h1 h2 k hk => ?_) ?_ ?_ ?_ ?_ ?_ _ _
                                       · rw [up2_ne _ _ _ (by omega), up2_ne _ _ _ (by omega), up2_ne _ _ _ (by omega), up2_ne _ _ _ (by omega), up2_ne _ _ _ (by omega)]
                                       · simp only [up2_at]
                                         rw [if_neg (by omega), if_neg (by omega), if_neg (by omega), if_neg (by omega), if_neg (by omega)]
                                       · simp [up2_at, fW]
                                         first | (rw [if_pos (by omega)]; rw [q1, show (2 : Int) = ((2 : Nat) : Int) from rfl, bDivN (by omega) (by omega) (by omega)]; done) | (rw [if_neg (by omega)]; exact q1)
                                       · simp [up2_at, fH]
                                         first | (rw [if_pos (by omega)]; rw [q2, show (2 : Int) = ((2 : Nat) : Int) from rfl, bDivN (by omega) (by omega) (by omega)]; done) | (rw [if_neg (by omega)]; exact q2)
                                       · simp [up2_at, fP]
                                         first | (rw [if_pos (by omega)]; (try rfl); done) | (rw [if_neg (by omega)]; exact q3)
                                       · simp [up2_at, fL]
                                         rw [q4]
                                         first | (rw [if_pos (by omega)]; rfl) | (rw [if_neg (by omega), if_pos (by omega)]; rfl) | (rw [if_neg (by omega), if_neg (by omega), if_pos (by omega), q5]) | (rw [if_neg (by omega), if_neg (by omega), if_neg (by omega)]; rfl)
                                       · simp [up2_at, fS]
                                         first | (rw [if_pos (by omega), q5]; rfl) | (rw [if_neg (by omega)]; exact q5)))
                             · first
                               | (simp (discharger := omega) only [wr_id] at c_161; done)
                               | (try simp (discharger := omega) only [wr_id] at c_161
                                  exfalso
                                  first | omega | exact c_161 trivial)
                               | (try simp (discharger := omega) only [wr_id] at c_161
                                  refine R_aload_n dX5_measure_164 rfl rfl ?_
                                  refine R_getA fRX5_24 dX5_measure_165 rfl (Nat.lt_of_lt_of_le (Nat.le_of_ble_eq_true rfl) hnx) rfl ?_
                                  refine R_iload_n dX5_measure_168 rfl rfl ?_
                                  refine R_iaload (k := i) dX5_measure_169 rfl (Nat.lt_of_lt_of_le (Nat.le_of_ble_eq_true rfl) hnx) (by omega) (by omega) (by decide) ?_
                                  refine R_iconst dX5_measure_170 ?_
                                  dsimp only
                                  rw [up2_ne _ _ _ (by decide), up2_ne _ _ _ (by decide), up2_ne _ _ _ (by decide), e6]
                                  refine R_icmp_ne (tgt := 178) dX5_measure_171 (by decide) (fun c_171 => ?_) (fun c_171 => ?_)
                                  · first
                                    | (simp (discharger := omega) only [wr_id] at c_171; done)
                                    | (try simp (discharger := omega) only [wr_id] at c_171
                                       exfalso
                                       first | omega | exact c_171 trivial)
                                    | (try simp (discharger := omega) only [wr_id] at c_171
                                       refine R_aload_n dX5_measure_178 rfl rfl ?_
                                       refine R_getA fRX5_24 dX5_measure_179 rfl (Nat.lt_of_lt_of_le (Nat.le_of_ble_eq_true rfl) hnx) rfl ?_
                                       refine R_iload_n dX5_measure_182 rfl rfl ?_
                                       refine R_iaload (k := i) dX5_measure_183 rfl (Nat.lt_of_lt_of_le (Nat.le_of_ble_eq_true rfl) hnx) (by omega) (by omega) (by decide) ?_
                                       refine R_iconst dX5_measure_184 ?_
                                       dsimp only
                                       rw [up2_ne _ _ _ (by decide), up2_ne _ _ _ (by decide), up2_ne _ _ _ (by decide), e6]
                                       refine R_icmp_ne (tgt := 192) dX5_measure_185 (by decide) (fun c_185 => ?_) (fun c_185 => ?_)
                                       · first
                                         | (simp (discharger := omega) only [wr_id] at c_185; done)
                                         | (try simp (discharger := omega) only [wr_id] at c_185
                                            exfalso
                                            first | omega | exact c_185 trivial)
                                         | (try simp (discharger := omega) only [wr_id] at c_185
                                            refine R_iload_n dX5_measure_192 rfl rfl ?_
                                            refine R_if_eq (tgt := 205) dX5_measure_193 (by decide) (fun c_193 => ?_) (fun c_193 => ?_)
                                            · first
                                              | (simp (discharger := omega) only [wr_id] at c_193; done)
                                              | (try simp (discharger := omega) only [wr_id] at c_193
                                                 exfalso
                                                 first | omega | exact c_193 trivial)
                                              | (try simp (discharger := omega) only [wr_id] at c_193
                                                 refine R_iconst dX5_measure_205 ?_
                                                 refine R_istore_n dX5_measure_206 rfl (Nat.le_of_ble_eq_true rfl) ?_
                                                 refine R_aload_n dX5_measure_207 rfl rfl ?_
                                                 refine R_getA fRX5_45 dX5_measure_208 rfl (Nat.lt_of_lt_of_le (Nat.le_of_ble_eq_true rfl) hnx) rfl ?_
                                                 refine R_iload_n dX5_measure_211 rfl rfl ?_
                                                 refine R_iconst dX5_measure_212 ?_
                                                 refine R_iadd dX5_measure_213 ?_
                                                 refine R_aload_n dX5_measure_214 rfl rfl ?_
                                                 refine R_getA fRX5_45 dX5_measure_215 rfl (Nat.lt_of_lt_of_le (Nat.le_of_ble_eq_true rfl) hnx) rfl ?_
                                                 refine R_iload_n dX5_measure_218 rfl rfl ?_
                                                 refine R_iaload (k := i) dX5_measure_219 rfl (Nat.lt_of_lt_of_le (Nat.le_of_ble_eq_true rfl) hnx) (by omega) (by omega) (by decide) ?_
                                                 refine R_iload_n dX5_measure_220 rfl rfl ?_
                                                 refine R_iadd dX5_measure_221 ?_
                                                 refine R_iastore (k := i + 1) dX5_measure_222 rfl (Nat.lt_of_lt_of_le (Nat.le_of_ble_eq_true rfl) hnx) (by omega) (by omega) (by decide) ?_
                                                 refine R_aload_n dX5_measure_223 rfl rfl ?_
                                                 refine R_getA fRX5_48 dX5_measure_224 rfl (Nat.lt_of_lt_of_le (Nat.le_of_ble_eq_true rfl) hnx) rfl ?_
                                                 refine R_iload_n dX5_measure_227 rfl rfl ?_
                                                 refine R_iconst dX5_measure_228 ?_
                                                 refine R_iadd dX5_measure_229 ?_
                                                 refine R_iload_n dX5_measure_230 rfl rfl ?_
                                                 refine R_if_eq (tgt := 245) dX5_measure_231 (by decide) (fun c_231 => ?_) (fun c_231 => ?_)
                                                 · first
                                                   | (simp (discharger := omega) only [wr_id] at c_231; done)
                                                   | (try simp (discharger := omega) only [wr_id] at c_231
                                                      exfalso
                                                      first | omega | exact c_231 trivial)
                                                   | (try simp (discharger := omega) only [wr_id] at c_231
                                                      refine R_aload_n dX5_measure_245 rfl rfl ?_
                                                      refine R_getA fRX5_48 dX5_measure_246 rfl (Nat.lt_of_lt_of_le (Nat.le_of_ble_eq_true rfl) hnx) rfl ?_
                                                      refine R_iload_n dX5_measure_249 rfl rfl ?_
                                                      refine R_iaload (k := i) dX5_measure_250 rfl (Nat.lt_of_lt_of_le (Nat.le_of_ble_eq_true rfl) hnx) (by omega) (by omega) (by decide) ?_
                                                      refine R_iastore (k := i + 1) dX5_measure_251 rfl (Nat.lt_of_lt_of_le (Nat.le_of_ble_eq_true rfl) hnx) (by omega) (by omega) (by decide) ?_
                                                      refine R_iinc dX5_measure_252 rfl (Nat.le_of_ble_eq_true rfl) ?_
                                                      refine R_goto (tgt := 43) dX5_measure_255 (by decide) ?_
                                                      refine step hi2 _ (fun p hp => ?_) (fun p h1 h2 k hk => ?_) ?_ ?_ ?_ ?_ ?_ _ _
                                                      · rw [up2_ne _ _ _ (by omega), up2_ne _ _ _ (by omega), up2_ne _ _ _ (by omega), up2_ne _ _ _ (by omega), up2_ne _ _ _ (by omega)]
                                                      · simp only [up2_at]
                                                        rw [if_neg (by omega), if_neg (by omega), if_neg (by omega), if_neg (by omega), if_neg (by omega)]
                                                      · simp [up2_at, fW]
                                                        first | (rw [if_pos (by omega)]; rw [q1, show (2 : Int) = ((2 : Nat) : Int) from rfl, bDivN (by omega) (by omega) (by omega)]; done) | (rw [if_neg (by omega)]; exact q1)
                                                      · simp [up2_at, fH]
                                                        first | (rw [if_pos (by omega)]; rw [q2, show (2 : Int) = ((2 : Nat) : Int) from rfl, bDivN (by omega) (by omega) (by omega)]; done) | (rw [if_neg (by omega)]; exact q2)
                                                      · simp [up2_at, fP]
                                                        first | (rw [if_pos (by omega)]; (try rfl); done) | (rw [if_neg (by omega)]; exact q3)
                                                      · simp [up2_at, fL]
                                                        rw [q4]
                                                        first | (rw [if_pos (by omega)]; rfl) | (rw [if_neg (by omega), if_pos (by omega)]; rfl) | (rw [if_neg (by omega), if_neg (by omega), if_pos (by omega), q5]) | (rw [if_neg (by omega), if_neg (by omega), if_neg (by omega)]; rfl)
                                                      · simp [up2_at, fS]
                                                        first | (rw [if_pos (by omega), q5]; rfl) | (rw [if_neg (by omega)]; exact q5))
                                                 · first
                                                   | (simp (discharger := omega) only [wr_id] at c_231; done)
                                                   | (try simp (discharger := omega) only [wr_id] at c_231
                                                      exfalso
                                                      first | omega | exact c_231 trivial)
                                                   | (try simp (discharger := omega) only [wr_id] at c_231
                                                      refine R_iconst dX5_measure_234 ?_
                                                      refine R_aload_n dX5_measure_235 rfl rfl ?_
                                                      refine R_getA fRX5_48 dX5_measure_236 rfl (Nat.lt_of_lt_of_le (Nat.le_of_ble_eq_true rfl) hnx) rfl ?_
                                                      refine R_iload_n dX5_measure_239 rfl rfl ?_
                                                      refine R_iaload (k := i) dX5_measure_240 rfl (Nat.lt_of_lt_of_le (Nat.le_of_ble_eq_true rfl) hnx) (by omega) (by omega) (by decide) ?_
                                                      refine R_imul dX5_measure_241 ?_
                                                      refine R_goto (tgt := 251) dX5_measure_242 (by decide) ?_
                                                      refine R_iastore (k := i + 1) dX5_measure_251 rfl (Nat.lt_of_lt_of_le (Nat.le_of_ble_eq_true rfl) hnx) (by omega) (by omega) (by decide) ?_
                                                      refine R_iinc dX5_measure_252 rfl (Nat.le_of_ble_eq_true rfl) ?_
                                                      refine R_goto (tgt := 43) dX5_measure_255 (by decide) ?_
                                                      refine step hi2 _ (fun p hp => ?_) (fun p h1 h2 k hk => ?_) ?_ ?_ ?_ ?_ ?_ _ _
                                                      · rw [up2_ne _ _ _ (by omega), up2_ne _ _ _ (by omega), up2_ne _ _ _ (by omega), up2_ne _ _ _ (by omega), up2_ne _ _ _ (by omega)]
                                                      · simp only [up2_at]
                                                        rw [if_neg (by omega), if_neg (by omega), if_neg (by omega), if_neg (by omega), if_neg (by omega)]
                                                      · simp [up2_at, fW]
                                                        first | (rw [if_pos (by omega)]; rw [q1, show (2 : Int) = ((2 : Nat) : Int) from rfl, bDivN (by omega) (by omega) (by omega)]; done) | (rw [if_neg (by omega)]; exact q1)
                                                      · simp [up2_at, fH]
                                                        first | (rw [if_pos (by omega)]; rw [q2, show (2 : Int) = ((2 : Nat) : Int) from rfl, bDivN (by omega) (by omega) (by omega)]; done) | (rw [if_neg (by omega)]; exact q2)
                                                      · simp [up2_at, fP]
                                                        first | (rw [if_pos (by omega)]; (try rfl); done) | (rw [if_neg (by omega)]; exact q3)
                                                      · simp [up2_at, fL]
                                                        rw [q4]
                                                        first | (rw [if_pos (by omega)]; rfl) | (rw [if_neg (by omega), if_pos (by omega)]; rfl) | (rw [if_neg (by omega), if_neg (by omega), if_pos (by omega), q5]) | (rw [if_neg (by omega), if_neg (by omega), if_neg (by omega)]; rfl)
                                                      · simp [up2_at, fS]
                                                        first | (rw [if_pos (by omega), q5]; rfl) | (rw [if_neg (by omega)]; exact q5)))
                                            · first
                                              | (simp (discharger := omega) only [wr_id] at c_193; done)
                                              | (try simp (discharger := omega) only [wr_id] at c_193
                                                 exfalso
                                                 first | omega | exact c_193 trivial)
                                              | (try simp (discharger := omega) only [wr_id] at c_193
                                                 refine R_aload_n dX5_measure_196 rfl rfl ?_
                                                 refine R_getA fRX5_48 dX5_measure_197 rfl (Nat.lt_of_lt_of_le (Nat.le_of_ble_eq_true rfl) hnx) rfl ?_
                                                 refine R_iload_n dX5_measure_200 rfl rfl ?_
                                                 refine R_iaload (k := i) dX5_measure_201 rfl (Nat.lt_of_lt_of_le (Nat.le_of_ble_eq_true rfl) hnx) (by omega) (by omega) (by decide) ?_
                                                 refine R_goto (tgt := 206) dX5_measure_202 (by decide) ?_
                                                 refine R_istore_n dX5_measure_206 rfl (Nat.le_of_ble_eq_true rfl) ?_
                                                 refine R_aload_n dX5_measure_207 rfl rfl ?_
                                                 refine R_getA fRX5_45 dX5_measure_208 rfl (Nat.lt_of_lt_of_le (Nat.le_of_ble_eq_true rfl) hnx) rfl ?_
                                                 refine R_iload_n dX5_measure_211 rfl rfl ?_
                                                 refine R_iconst dX5_measure_212 ?_
                                                 refine R_iadd dX5_measure_213 ?_
                                                 refine R_aload_n dX5_measure_214 rfl rfl ?_
                                                 refine R_getA fRX5_45 dX5_measure_215 rfl (Nat.lt_of_lt_of_le (Nat.le_of_ble_eq_true rfl) hnx) rfl ?_
                                                 refine R_iload_n dX5_measure_218 rfl rfl ?_
                                                 refine R_iaload (k := i) dX5_measure_219 rfl (Nat.lt_of_lt_of_le (Nat.le_of_ble_eq_true rfl) hnx) (by omega) (by omega) (by decide) ?_
                                                 refine R_iload_n dX5_measure_220 rfl rfl ?_
                                                 refine R_iadd dX5_measure_221 ?_
                                                 refine R_iastore (k := i + 1) dX5_measure_222 rfl (Nat.lt_of_lt_of_le (Nat.le_of_ble_eq_true rfl) hnx) (by omega) (by omega) (by decide) ?_
                                                 refine R_aload_n dX5_measure_223 rfl rfl ?_
                                                 refine R_getA fRX5_48 dX5_measure_224 rfl (Nat.lt_of_lt_of_le (Nat.le_of_ble_eq_true rfl) hnx) rfl ?_
                                                 refine R_iload_n dX5_measure_227 rfl rfl ?_
                                                 refine R_iconst dX5_measure_228 ?_
                                                 refine R_iadd dX5_measure_229 ?_
                                                 refine R_iload_n dX5_measure_230 rfl rfl ?_
                                                 refine R_if_eq (tgt := 245) dX5_measure_231 (by decide) (fun c_231 => ?_) (fun c_231 => ?_)
                                                 · first
                                                   | (simp (discharger := omega) only [wr_id] at c_231; done)
                                                   | (try simp (discharger := omega) only [wr_id] at c_231
                                                      exfalso
                                                      first | omega | exact c_231 trivial)
                                                   | (try simp (discharger := omega) only [wr_id] at c_231
                                                      refine R_aload_n dX5_measure_245 rfl rfl ?_
                                                      refine R_getA fRX5_48 dX5_measure_246 rfl (Nat.lt_of_lt_of_le (Nat.le_of_ble_eq_true rfl) hnx) rfl ?_
                                                      refine R_iload_n dX5_measure_249 rfl rfl ?_
                                                      refine R_iaload (k := i) dX5_measure_250 rfl (Nat.lt_of_lt_of_le (Nat.le_of_ble_eq_true rfl) hnx) (by omega) (by omega) (by decide) ?_
                                                      refine R_iastore (k := i + 1) dX5_measure_251 rfl (Nat.lt_of_lt_of_le (Nat.le_of_ble_eq_true rfl) hnx) (by omega) (by omega) (by decide) ?_
                                                      refine R_iinc dX5_measure_252 rfl (Nat.le_of_ble_eq_true rfl) ?_
                                                      refine R_goto (tgt := 43) dX5_measure_255 (by decide) ?_
                                                      refine step hi2 _ (fun p hp => ?_) (fun p h1 h2 k hk => ?_) ?_ ?_ ?_ ?_ ?_ _ _
                                                      · rw [up2_ne _ _ _ (by omega), up2_ne _ _ _ (by omega), up2_ne _ _ _ (by omega), up2_ne _ _ _ (by omega), up2_ne _ _ _ (by omega)]
                                                      · simp only [up2_at]
                                                        rw [if_neg (by omega), if_neg (by omega), if_neg (by omega), if_neg (by omega), if_neg (by omega)]
                                                      · simp [up2_at, fW]
                                                        first | (rw [if_pos (by omega)]; rw [q1, show (2 : Int) = ((2 : Nat) : Int) from rfl, bDivN (by omega) (by omega) (by omega)]; done) | (rw [if_neg (by omega)]; exact q1)
                                                      · simp [up2_at, fH]
                                                        first | (rw [if_pos (by omega)]; rw [q2, show (2 : Int) = ((2 : Nat) : Int) from rfl, bDivN (by omega) (by omega) (by omega)]; done) | (rw [if_neg (by omega)]; exact q2)
                                                      · simp [up2_at, fP]
                                                        first | (rw [if_pos (by omega)]; (try rfl); done) | (rw [if_neg (by omega)]; exact q3)
                                                      · simp [up2_at, fL]
                                                        rw [q4]
                                                        first | (rw [if_pos (by omega)]; rfl) | (rw [if_neg (by omega), if_pos (by omega)]; rfl) | (rw [if_neg (by omega), if_neg (by omega), if_pos (by omega), q5]) | (rw [if_neg (by omega), if_neg (by omega), if_neg (by omega)]; rfl)
                                                      · simp [up2_at, fS]
                                                        first | (rw [if_pos (by omega), q5]; rfl) | (rw [if_neg (by omega)]; exact q5))
                                                 · first
                                                   | (simp (discharger := omega) only [wr_id] at c_231; done)
                                                   | (try simp (discharger := omega) only [wr_id] at c_231
                                                      exfalso
                                                      first | omega | exact c_231 trivial)
                                                   | (try simp (discharger := omega) only [wr_id] at c_231
                                                      refine R_iconst dX5_measure_234 ?_
                                                      refine R_aload_n dX5_measure_235 rfl rfl ?_
                                                      refine R_getA fRX5_48 dX5_measure_236 rfl (Nat.lt_of_lt_of_le (Nat.le_of_ble_eq_true rfl) hnx) rfl ?_
                                                      refine R_iload_n dX5_measure_239 rfl rfl ?_
                                                      refine R_iaload (k := i) dX5_measure_240 rfl (Nat.lt_of_lt_of_le (Nat.le_of_ble_eq_true rfl) hnx) (by omega) (by omega) (by decide) ?_
                                                      refine R_imul dX5_measure_241 ?_
                                                      refine R_goto (tgt := 251) dX5_measure_242 (by decide) ?_
                                                      refine R_iastore (k := i + 1) dX5_measure_251 rfl (Nat.lt_of_lt_of_le (Nat.le_of_ble_eq_true rfl) hnx) (by omega) (by omega) (by decide) ?_
                                                      refine R_iinc dX5_measure_252 rfl (Nat.le_of_ble_eq_true rfl) ?_
                                                      refine R_goto (tgt := 43) dX5_measure_255 (by decide) ?_
                                                      refine step hi2 _ (fun p hp => ?_) (fun p h1 h2 k hk => ?_) ?_ ?_ ?_ ?_ ?_ _ _
                                                      · rw [up2_ne _ _ _ (by omega), up2_ne _ _ _ (by omega), up2_ne _ _ _ (by omega), up2_ne _ _ _ (by omega), up2_ne _ _ _ (by omega)]
                                                      · simp only [up2_at]
                                                        rw [if_neg (by omega), if_neg (by omega), if_neg (by omega), if_neg (by omega), if_neg (by omega)]
                                                      · simp [up2_at, fW]
                                                        first | (rw [if_pos (by omega)]; rw [q1, show (2 : Int) = ((2 : Nat) : Int) from rfl, bDivN (by omega) (by omega) (by omega)]; done) | (rw [if_neg (by omega)]; exact q1)
                                                      · simp [up2_at, fH]
                                                        first | (rw [if_pos (by omega)]; rw [q2, show (2 : Int) = ((2 : Nat) : Int) from rfl, bDivN (by omega) (by omega) (by omega)]; done) | (rw [if_neg (by omega)]; exact q2)
                                                      · simp [up2_at, fP]
                                                        first | (rw [if_pos (by omega)]; (try rfl); done) | (rw [if_neg (by omega)]; exact q3)
                                                      · simp [up2_at, fL]
                                                        rw [q4]
                                                        first | (rw [if_pos (by omega)]; rfl) | (rw [if_neg (by omega), if_pos (by omega)]; rfl) | (rw [if_neg (by omega), if_neg (by omega), if_pos (by omega), q5]) | (rw [if_neg (by omega), if_neg (by omega), if_neg (by omega)]; rfl)
                                                      · simp [up2_at, fS]
                                                        first | (rw [if_pos (by omega), q5]; rfl) | (rw [if_neg (by omega)]; exact q5))))
                                       · first
                                         | (simp (discharger := omega) only [wr_id] at c_185; done)
                                         | (try simp (discharger := omega) only [wr_id] at c_185
                                            exfalso
                                            first | omega | exact c_185 trivial)
                                         | (try simp (discharger := omega) only [wr_id] at c_185
                                            refine R_iconst dX5_measure_188 ?_
                                            refine R_goto (tgt := 206) dX5_measure_189 (by decide) ?_
                                            refine R_istore_n dX5_measure_206 rfl (Nat.le_of_ble_eq_true rfl) ?_
                                            refine R_aload_n dX5_measure_207 rfl rfl ?_
                                            refine R_getA fRX5_45 dX5_measure_208 rfl (Nat.lt_of_lt_of_le (Nat.le_of_ble_eq_true rfl) hnx) rfl ?_
                                            refine R_iload_n dX5_measure_211 rfl rfl ?_
                                            refine R_iconst dX5_measure_212 ?_
                                            refine R_iadd dX5_measure_213 ?_
                                            refine R_aload_n dX5_measure_214 rfl rfl ?_
                                            refine R_getA fRX5_45 dX5_measure_215 rfl (Nat.lt_of_lt_of_le (Nat.le_of_ble_eq_true rfl) hnx) rfl ?_
                                            refine R_iload_n dX5_measure_218 rfl rfl ?_
                                            refine R_iaload (k := i) dX5_measure_219 rfl (Nat.lt_of_lt_of_le (Nat.le_of_ble_eq_true rfl) hnx) (by omega) (by omega) (by decide) ?_
                                            refine R_iload_n dX5_measure_220 rfl rfl ?_
                                            refine R_iadd dX5_measure_221 ?_
                                            refine R_iastore (k := i + 1) dX5_measure_222 rfl (Nat.lt_of_lt_of_le (Nat.le_of_ble_eq_true rfl) hnx) (by omega) (by omega) (by decide) ?_
                                            refine R_aload_n dX5_measure_223 rfl rfl ?_
                                            refine R_getA fRX5_48 dX5_measure_224 rfl (Nat.lt_of_lt_of_le (Nat.le_of_ble_eq_true rfl) hnx) rfl ?_
                                            refine R_iload_n dX5_measure_227 rfl rfl ?_
                                            refine R_iconst dX5_measure_228 ?_
                                            refine R_iadd dX5_measure_229 ?_
                                            refine R_iload_n dX5_measure_230 rfl rfl ?_
                                            refine R_if_eq (tgt := 245) dX5_measure_231 (by decide) (fun c_231 => ?_) (fun c_231 => ?_)
                                            · first
                                              | (simp (discharger := omega) only [wr_id] at c_231; done)
                                              | (try simp (discharger := omega) only [wr_id] at c_231
                                                 exfalso
                                                 first | omega | exact c_231 trivial)
                                              | (try simp (discharger := omega) only [wr_id] at c_231
                                                 refine R_aload_n dX5_measure_245 rfl rfl ?_
                                                 refine R_getA fRX5_48 dX5_measure_246 rfl (Nat.lt_of_lt_of_le (Nat.le_of_ble_eq_true rfl) hnx) rfl ?_
                                                 refine R_iload_n dX5_measure_249 rfl rfl ?_
                                                 refine R_iaload (k := i) dX5_measure_250 rfl (Nat.lt_of_lt_of_le (Nat.le_of_ble_eq_true rfl) hnx) (by omega) (by omega) (by decide) ?_
                                                 refine R_iastore (k := i + 1) dX5_measure_251 rfl (Nat.lt_of_lt_of_le (Nat.le_of_ble_eq_true rfl) hnx) (by omega) (by omega) (by decide) ?_
                                                 refine R_iinc dX5_measure_252 rfl (Nat.le_of_ble_eq_true rfl) ?_
                                                 refine R_goto (tgt := 43) dX5_measure_255 (by decide) ?_
                                                 refine step hi2 _ (fun p hp => ?_) (fun p h1 h2 k hk => ?_) ?_ ?_ ?_ ?_ ?_ _ _
                                                 · rw [up2_ne _ _ _ (by omega), up2_ne _ _ _ (by omega), up2_ne _ _ _ (by omega), up2_ne _ _ _ (by omega), up2_ne _ _ _ (by omega)]
                                                 · simp only [up2_at]
                                                   rw [if_neg (by omega), if_neg (by omega), if_neg (by omega), if_neg (by omega), if_neg (by omega)]
                                                 · simp [up2_at, fW]
                                                   first | (rw [if_pos (by omega)]; rw [q1, show (2 : Int) = ((2 : Nat) : Int) from rfl, bDivN (by omega) (by omega) (by omega)]; done) | (rw [if_neg (by omega)]; exact q1)
                                                 · simp [up2_at, fH]
                                                   first | (rw [if_pos (by omega)]; rw [q2, show (2 : Int) = ((2 : Nat) : Int) from rfl, bDivN (by omega) (by omega) (by omega)]; done) | (rw [if_neg (by omega)]; exact q2)
                                                 · simp [up2_at, fP]
                                                   first | (rw [if_pos (by omega)]; (try rfl); done) | (rw [if_neg (by omega)]; exact q3)
                                                 · simp [up2_at, fL]
                                                   rw [q4]
                                                   first | (rw [if_pos (by omega)]; rfl) | (rw [if_neg (by omega), if_pos (by omega)]; rfl) | (rw [if_neg (by omega), if_neg (by omega), if_pos (by omega), q5]) | (rw [if_neg (by omega), if_neg (by omega), if_neg (by omega)]; rfl)
                                                 · simp [up2_at, fS]
                                                   first | (rw [if_pos (by omega), q5]; rfl) | (rw [if_neg (by omega)]; exact q5))
                                            · first
                                              | (simp (discharger := omega) only [wr_id] at c_231; done)
                                              | (try simp (discharger := omega) only [wr_id] at c_231
                                                 exfalso
                                                 first | omega | exact c_231 trivial)
                                              | (try simp (discharger := omega) only [wr_id] at c_231
                                                 refine R_iconst dX5_measure_234 ?_
                                                 refine R_aload_n dX5_measure_235 rfl rfl ?_
                                                 refine R_getA fRX5_48 dX5_measure_236 rfl (Nat.lt_of_lt_of_le (Nat.le_of_ble_eq_true rfl) hnx) rfl ?_
                                                 refine R_iload_n dX5_measure_239 rfl rfl ?_
                                                 refine R_iaload (k := i) dX5_measure_240 rfl (Nat.lt_of_lt_of_le (Nat.le_of_ble_eq_true rfl) hnx) (by omega) (by omega) (by decide) ?_
                                                 refine R_imul dX5_measure_241 ?_
                                                 refine R_goto (tgt := 251) dX5_measure_242 (by decide) ?_
                                                 refine R_iastore (k := i + 1) dX5_measure_251 rfl (Nat.lt_of_lt_of_le (Nat.le_of_ble_eq_true rfl) hnx) (by omega) (by omega) (by decide) ?_
                                                 refine R_iinc dX5_measure_252 rfl (Nat.le_of_ble_eq_true rfl) ?_
                                                 refine R_goto (tgt := 43) dX5_measure_255 (by decide) ?_
                                                 refine step hi2 _ (fun p hp => ?_) (fun p h1 h2 k hk => ?_) ?_ ?_ ?_ ?_ ?_ _ _
                                                 · rw [up2_ne _ _ _ (by omega), up2_ne _ _ _ (by omega), up2_ne _ _ _ (by omega), up2_ne _ _ _ (by omega), up2_ne _ _ _ (by omega)]
                                                 · simp only [up2_at]
                                                   rw [if_neg (by omega), if_neg (by omega), if_neg (by omega), if_neg (by omega), if_neg (by omega)]
                                                 · simp [up2_at, fW]
                                                   first | (rw [if_pos (by omega)]; rw [q1, show (2 : Int) = ((2 : Nat) : Int) from rfl, bDivN (by omega) (by omega) (by omega)]; done) | (rw [if_neg (by omega)]; exact q1)
                                                 · simp [up2_at, fH]
                                                   first | (rw [if_pos (by omega)]; rw [q2, show (2 : Int) = ((2 : Nat) : Int) from rfl, bDivN (by omega) (by omega) (by omega)]; done) | (rw [if_neg (by omega)]; exact q2)
                                                 · simp [up2_at, fP]
                                                   first | (rw [if_pos (by omega)]; (try rfl); done) | (rw [if_neg (by omega)]; exact q3)
                                                 · simp [up2_at, fL]
                                                   rw [q4]
                                                   first | (rw [if_pos (by omega)]; rfl) | (rw [if_neg (by omega), if_pos (by omega)]; rfl) | (rw [if_neg (by omega), if_neg (by omega), if_pos (by omega), q5]) | (rw [if_neg (by omega), if_neg (by omega), if_neg (by omega)]; rfl)
                                                 · simp [up2_at, fS]
                                                   first | (rw [if_pos (by omega), q5]; rfl) | (rw [if_neg (by omega)]; exact q5))))
                                  · first
                                    | (simp (discharger := omega) only [wr_id] at c_171; done)
                                    | (try simp (discharger := omega) only [wr_id] at c_171
                                       exfalso
                                       first | omega | exact c_171 trivial)
                                    | (try simp (discharger := omega) only [wr_id] at c_171
                                       refine R_iconst dX5_measure_174 ?_
                                       refine R_goto (tgt := 206) dX5_measure_175 (by decide) ?_
                                       refine R_istore_n dX5_measure_206 rfl (Nat.le_of_ble_eq_true rfl) ?_
                                       refine R_aload_n dX5_measure_207 rfl rfl ?_
                                       refine R_getA fRX5_45 dX5_measure_208 rfl (Nat.lt_of_lt_of_le (Nat.le_of_ble_eq_true rfl) hnx) rfl ?_
                                       refine R_iload_n dX5_measure_211 rfl rfl ?_
                                       refine R_iconst dX5_measure_212 ?_
                                       refine R_iadd dX5_measure_213 ?_
                                       refine R_aload_n dX5_measure_214 rfl rfl ?_
                                       refine R_getA fRX5_45 dX5_measure_215 rfl (Nat.lt_of_lt_of_le (Nat.le_of_ble_eq_true rfl) hnx) rfl ?_
                                       refine R_iload_n dX5_measure_218 rfl rfl ?_
                                       refine R_iaload (k := i) dX5_measure_219 rfl (Nat.lt_of_lt_of_le (Nat.le_of_ble_eq_true rfl) hnx) (by omega) (by omega) (by decide) ?_
                                       refine R_iload_n dX5_measure_220 rfl rfl ?_
                                       refine R_iadd dX5_measure_221 ?_
                                       refine R_iastore (k := i + 1) dX5_measure_222 rfl (Nat.lt_of_lt_of_le (Nat.le_of_ble_eq_true rfl) hnx) (by omega) (by omega) (by decide) ?_
                                       refine R_aload_n dX5_measure_223 rfl rfl ?_
                                       refine R_getA fRX5_48 dX5_measure_224 rfl (Nat.lt_of_lt_of_le (Nat.le_of_ble_eq_true rfl) hnx) rfl ?_
                                       refine R_iload_n dX5_measure_227 rfl rfl ?_
                                       refine R_iconst dX5_measure_228 ?_
                                       refine R_iadd dX5_measure_229 ?_
                                       refine R_iload_n dX5_measure_230 rfl rfl ?_
                                       refine R_if_eq (tgt := 245) dX5_measure_231 (by decide) (fun c_231 => ?_) (fun c_231 => ?_)
                                       · first
                                         | (simp (discharger := omega) only [wr_id] at c_231; done)
                                         | (try simp (discharger := omega) only [wr_id] at c_231
                                            exfalso
                                            first | omega | exact c_231 trivial)
                                         | (try simp (discharger := omega) only [wr_id] at c_231
                                            refine R_aload_n dX5_measure_245 rfl rfl ?_
                                            refine R_getA fRX5_48 dX5_measure_246 rfl (Nat.lt_of_lt_of_le (Nat.le_of_ble_eq_true rfl) hnx) rfl ?_
                                            refine R_iload_n dX5_measure_249 rfl rfl ?_
                                            refine R_iaload (k := i) dX5_measure_250 rfl (Nat.lt_of_lt_of_le (Nat.le_of_ble_eq_true rfl) hnx) (by omega) (by omega) (by decide) ?_
                                            refine R_iastore (k := i + 1) dX5_measure_251 rfl (Nat.lt_of_lt_of_le (Nat.le_of_ble_eq_true rfl) hnx) (by omega) (by omega) (by decide) ?_
                                            refine R_iinc dX5_measure_252 rfl (Nat.le_of_ble_eq_true rfl) ?_
                                            refine R_goto (tgt := 43) dX5_measure_255 (by decide) ?_
                                            refine step hi2 _ (fun p hp => ?_) (fun p h1 h2 k hk => ?_) ?_ ?_ ?_ ?_ ?_ _ _
                                            · rw [up2_ne _ _ _ (by omega), up2_ne _ _ _ (by omega), up2_ne _ _ _ (by omega), up2_ne _ _ _ (by omega), up2_ne _ _ _ (by omega)]
                                            · simp only [up2_at]
                                              rw [if_neg (by omega), if_neg (by omega), if_neg (by omega), if_neg (by omega), if_neg (by omega)]
                                            · simp [up2_at, fW]
                                              first | (rw [if_pos (by omega)]; rw [q1, show (2 : Int) = ((2 : Nat) : Int) from rfl, bDivN (by omega) (by omega) (by omega)]; done) | (rw [if_neg (by omega)]; exact q1)
                                            · simp [up2_at, fH]
                                              first | (rw [if_pos (by omega)]; rw [q2, show (2 : Int) = ((2 : Nat) : Int) from rfl, bDivN (by omega) (by omega) (by omega)]; done) | (rw [if_neg (by omega)]; exact q2)
                                            · simp [up2_at, fP]
                                              first | (rw [if_pos (by omega)]; (try rfl); done) | (rw [if_neg (by omega)]; exact q3)
                                            · simp [up2_at, fL]
                                              rw [q4]
                                              first | (rw [if_pos (by omega)]; rfl) | (rw [if_neg (by omega), if_pos (by omega)]; rfl) | (rw [if_neg (by omega), if_neg (by omega), if_pos (by omega), q5]) | (rw [if_neg (by omega), if_neg (by omega), if_neg (by omega)]; rfl)
                                            · simp [up2_at, fS]
                                              first | (rw [if_pos (by omega), q5]; rfl) | (rw [if_neg (by omega)]; exact q5))
                                       · first
                                         | (simp (discharger := omega) only [wr_id] at c_231; done)
                                         | (try simp (discharger := omega) only [wr_id] at c_231
                                            exfalso
                                            first | omega | exact c_231 trivial)
                                         | (try simp (discharger := omega) only [wr_id] at c_231
                                            refine R_iconst dX5_measure_234 ?_
                                            refine R_aload_n dX5_measure_235 rfl rfl ?_
                                            refine R_getA fRX5_48 dX5_measure_236 rfl (Nat.lt_of_lt_of_le (Nat.le_of_ble_eq_true rfl) hnx) rfl ?_
                                            refine R_iload_n dX5_measure_239 rfl rfl ?_
                                            refine R_iaload (k := i) dX5_measure_240 rfl (Nat.lt_of_lt_of_le (Nat.le_of_ble_eq_true rfl) hnx) (by omega) (by omega) (by decide) ?_
                                            refine R_imul dX5_measure_241 ?_
                                            refine R_goto (tgt := 251) dX5_measure_242 (by decide) ?_
                                            refine R_iastore (k := i + 1) dX5_measure_251 rfl (Nat.lt_of_lt_of_le (Nat.le_of_ble_eq_true rfl) hnx) (by omega) (by omega) (by decide) ?_
                                            refine R_iinc dX5_measure_252 rfl (Nat.le_of_ble_eq_true rfl) ?_
                                            refine R_goto (tgt := 43) dX5_measure_255 (by decide) ?_
                                            refine step hi2 _ (fun p hp => ?_) (fun p h1 h2 k hk => ?_) ?_ ?_ ?_ ?_ ?_ _ _
                                            · rw [up2_ne _ _ _ (by omega), up2_ne _ _ _ (by omega), up2_ne _ _ _ (by omega), up2_ne _ _ _ (by omega), up2_ne _ _ _ (by omega)]
                                            · simp only [up2_at]
                                              rw [if_neg (by omega), if_neg (by omega), if_neg (by omega), if_neg (by omega), if_neg (by omega)]
                                            · simp [up2_at, fW]
                                              first | (rw [if_pos (by omega)]; rw [q1, show (2 : Int) = ((2 : Nat) : Int) from rfl, bDivN (by omega) (by omega) (by omega)]; done) | (rw [if_neg (by omega)]; exact q1)
                                            · simp [up2_at, fH]
                                              first | (rw [if_pos (by omega)]; rw [q2, show (2 : Int) = ((2 : Nat) : Int) from rfl, bDivN (by omega) (by omega) (by omega)]; done) | (rw [if_neg (by omega)]; exact q2)
                                            · simp [up2_at, fP]
                                              first | (rw [if_pos (by omega)]; (try rfl); done) | (rw [if_neg (by omega)]; exact q3)
                                            · simp [up2_at, fL]
                                              rw [q4]
                                              first | (rw [if_pos (by omega)]; rfl) | (rw [if_neg (by omega), if_pos (by omega)]; rfl) | (rw [if_neg (by omega), if_neg (by omega), if_pos (by omega), q5]) | (rw [if_neg (by omega), if_neg (by omega), if_neg (by omega)]; rfl)
                                            · simp [up2_at, fS]
                                              first | (rw [if_pos (by omega), q5]; rfl) | (rw [if_neg (by omega)]; exact q5))))))
                   · first
                     | (simp (discharger := omega) only [wr_id] at c_105; done)
                     | (try simp (discharger := omega) only [wr_id] at c_105
                        exfalso
                        first | omega | exact c_105 trivial)
                     | (try simp (discharger := omega) only [wr_id] at c_105
                        refine R_aload_n dX5_measure_108 rfl rfl ?_
                        refine R_getA fRX5_39 dX5_measure_109 rfl (Nat.lt_of_lt_of_le (Nat.le_of_ble_eq_true rfl) hnx) rfl ?_
                        refine R_iload_n dX5_measure_112 rfl rfl ?_
                        refine R_iaload (k := i) dX5_measure_113 rfl (Nat.lt_of_lt_of_le (Nat.le_of_ble_eq_true rfl) hnx) (by omega) (by omega) (by decide) ?_
                        refine R_iconst dX5_measure_114 ?_
                        refine R_idiv dX5_measure_115 (by decide) ?_
                        refine R_goto (tgt := 125) dX5_measure_116 (by decide) ?_
                        refine R_iastore (k := i + 1) dX5_measure_125 rfl (Nat.lt_of_lt_of_le (Nat.le_of_ble_eq_true rfl) hnx) (by omega) (by omega) (by decide) ?_
                        refine R_aload_n dX5_measure_126 rfl rfl ?_
                        refine R_getA fRX5_42 dX5_measure_127 rfl (Nat.lt_of_lt_of_le (Nat.le_of_ble_eq_true rfl) hnx) rfl ?_
                        refine R_iload_n dX5_measure_130 rfl rfl ?_
                        refine R_iconst dX5_measure_131 ?_
                        refine R_iadd dX5_measure_132 ?_
                        refine R_aload_n dX5_measure_133 rfl rfl ?_
                        refine R_getA fRX5_24 dX5_measure_134 rfl (Nat.lt_of_lt_of_le (Nat.le_of_ble_eq_true rfl) hnx) rfl ?_
                        refine R_iload_n dX5_measure_137 rfl rfl ?_
                        refine R_iaload (k := i) dX5_measure_138 rfl (Nat.lt_of_lt_of_le (Nat.le_of_ble_eq_true rfl) hnx) (by omega) (by omega) (by decide) ?_
                        refine R_iconst dX5_measure_139 ?_
                        dsimp only
                        rw [up2_ne _ _ _ (by decide), up2_ne _ _ _ (by decide), e6]
                        refine R_icmp_ne (tgt := 147) dX5_measure_140 (by decide) (fun c_140 => ?_) (fun c_140 => ?_)
                        · first
                          | (simp (discharger := omega) only [wr_id] at c_140; done)
                          | (try simp (discharger := omega) only [wr_id] at c_140
                             exfalso
                             first | omega | exact c_140 trivial)
                          | (try simp (discharger := omega) only [wr_id] at c_140
                             refine R_aload_n dX5_measure_147 rfl rfl ?_
                             refine R_getA fRX5_42 dX5_measure_148 rfl (Nat.lt_of_lt_of_le (Nat.le_of_ble_eq_true rfl) hnx) rfl ?_
                             refine R_iload_n dX5_measure_151 rfl rfl ?_
                             refine R_iaload (k := i) dX5_measure_152 rfl (Nat.lt_of_lt_of_le (Nat.le_of_ble_eq_true rfl) hnx) (by omega) (by omega) (by decide) ?_
                             refine R_iastore (k := i + 1) dX5_measure_153 rfl (Nat.lt_of_lt_of_le (Nat.le_of_ble_eq_true rfl) hnx) (by omega) (by omega) (by decide) ?_
                             refine R_aload_n dX5_measure_154 rfl rfl ?_
                             refine R_getA fRX5_24 dX5_measure_155 rfl (Nat.lt_of_lt_of_le (Nat.le_of_ble_eq_true rfl) hnx) rfl ?_
                             refine R_iload_n dX5_measure_158 rfl rfl ?_
                             refine R_iaload (k := i) dX5_measure_159 rfl (Nat.lt_of_lt_of_le (Nat.le_of_ble_eq_true rfl) hnx) (by omega) (by omega) (by decide) ?_
                             refine R_iconst dX5_measure_160 ?_
                             dsimp only
                             rw [up2_ne _ _ _ (by decide), up2_ne _ _ _ (by decide), up2_ne _ _ _ (by decide), e6]
                             refine R_icmp_eq (tgt := 174) dX5_measure_161 (by decide) (fun c_161 => ?_) (fun c_161 => ?_)
                             · first
                               | (simp (discharger := omega) only [wr_id] at c_161; done)
                               | (try simp (discharger := omega) only [wr_id] at c_161
                                  exfalso
                                  first | omega | exact c_161 trivial)
                               | (try simp (discharger := omega) only [wr_id] at c_161
                                  refine R_iconst dX5_measure_174 ?_
                                  refine R_goto (tgt := 206) dX5_measure_175 (by decide) ?_
                                  refine R_istore_n dX5_measure_206 rfl (Nat.le_of_ble_eq_true rfl) ?_
                                  refine R_aload_n dX5_measure_207 rfl rfl ?_
                                  refine R_getA fRX5_45 dX5_measure_208 rfl (Nat.lt_of_lt_of_le (Nat.le_of_ble_eq_true rfl) hnx) rfl ?_
                                  refine R_iload_n dX5_measure_211 rfl rfl ?_
                                  refine R_iconst dX5_measure_212 ?_
                                  refine R_iadd dX5_measure_213 ?_
                                  refine R_aload_n dX5_measure_214 rfl rfl ?_
                                  refine R_getA fRX5_45 dX5_measure_215 rfl (Nat.lt_of_lt_of_le (Nat.le_of_ble_eq_true rfl) hnx) rfl ?_
                                  refine R_iload_n dX5_measure_218 rfl rfl ?_
                                  refine R_iaload (k := i) dX5_measure_219 rfl (Nat.lt_of_lt_of_le (Nat.le_of_ble_eq_true rfl) hnx) (by omega) (by omega) (by decide) ?_
                                  refine R_iload_n dX5_measure_220 rfl rfl ?_
                                  refine R_iadd dX5_measure_221 ?_
                                  refine R_iastore (k := i + 1) dX5_measure_222 rfl (Nat.lt_of_lt_of_le (Nat.le_of_ble_eq_true rfl) hnx) (by omega) (by omega) (by decide) ?_
                                  refine R_aload_n dX5_measure_223 rfl rfl ?_
                                  refine R_getA fRX5_48 dX5_measure_224 rfl (Nat.lt_of_lt_of_le (Nat.le_of_ble_eq_true rfl) hnx) rfl ?_
                                  refine R_iload_n dX5_measure_227 rfl rfl ?_
                                  refine R_iconst dX5_measure_228 ?_
                                  refine R_iadd dX5_measure_229 ?_
                                  refine R_iload_n dX5_measure_230 rfl rfl ?_
                                  refine R_if_eq (tgt := 245) dX5_measure_231 (by decide) (fun c_231 => ?_) (fun c_231 => ?_)
                                  · first
                                    | (simp (discharger := omega) only [wr_id] at c_231; done)
                                    | (try simp (discharger := omega) only [wr_id] at c_231
                                       exfalso
                                       first | omega | exact c_231 trivial)
                                    | (try simp (discharger := omega) only [wr_id] at c_231
                                       refine R_aload_n dX5_measure_245 rfl rfl ?_
                                       refine R_getA fRX5_48 dX5_measure_246 rfl (Nat.lt_of_lt_of_le (Nat.le_of_ble_eq_true rfl) hnx) rfl ?_
                                       refine R_iload_n dX5_measure_249 rfl rfl ?_
                                       refine R_iaload (k := i) dX5_measure_250 rfl (Nat.lt_of_lt_of_le (Nat.le_of_ble_eq_true rfl) hnx) (by omega) (by omega) (by decide) ?_
                                       refine R_iastore (k := i + 1) dX5_measure_251 rfl (Nat.lt_of_lt_of_le (Nat.le_of_ble_eq_true rfl) hnx) (by omega) (by omega) (by decide) ?_
                                       refine R_iinc dX5_measure_252 rfl (Nat.le_of_ble_eq_true rfl) ?_
                                       refine R_goto (tgt := 43) dX5_measure_255 (by decide) ?_
                                       refine step hi2 _ (fun p hp => ?_) (fun p h1 h2 k hk => ?_) ?_ ?_ ?_ ?_ ?_ _ _
                                       · rw [up2_ne _ _ _ (by omega), up2_ne _ _ _ (by omega), up2_ne _ _ _ (by omega), up2_ne _ _ _ (by omega), up2_ne _ _ _ (by omega)]
                                       · simp only [up2_at]
                                         rw [if_neg (by omega), if_neg (by omega), if_neg (by omega), if_neg (by omega), if_neg (by omega)]
                                       · simp [up2_at, fW]
                                         first | (rw [if_pos (by omega)]; rw [q1, show (2 : Int) = ((2 : Nat) : Int) from rfl, bDivN (by omega) (by omega) (by omega)]; done) | (rw [if_neg (by omega)]; exact q1)
                                       · simp [up2_at, fH]
                                         first | (rw [if_pos (by omega)]; rw [q2, show (2 : Int) = ((2 : Nat) : Int) from rfl, bDivN (by omega) (by omega) (by omega)]; done) | (rw [if_neg (by omega)]; exact q2)
                                       · simp [up2_at, fP]
                                         first | (rw [if_pos (by omega)]; (try rfl); done) | (rw [if_neg (by omega)]; exact q3)
                                       · simp [up2_at, fL]
                                         rw [q4]
                                         first | (rw [if_pos (by omega)]; rfl) | (rw [if_neg (by omega), if_pos (by omega)]; rfl) | (rw [if_neg (by omega), if_neg (by omega), if_pos (by omega), q5]) | (rw [if_neg (by omega), if_neg (by omega), if_neg (by omega)]; rfl)
                                       · simp [up2_at, fS]
                                         first | (rw [if_pos (by omega), q5]; rfl) | (rw [if_neg (by omega)]; exact q5))
                                  · first
                                    | (simp (discharger := omega) only [wr_id] at c_231; done)
                                    | (try simp (discharger := omega) only [wr_id] at c_231
                                       exfalso
                                       first | omega | exact c_231 trivial)
                                    | (try simp (discharger := omega) only [wr_id] at c_231
                                       refine R_iconst dX5_measure_234 ?_
                                       refine R_aload_n dX5_measure_235 rfl rfl ?_
                                       refine R_getA fRX5_48 dX5_measure_236 rfl (Nat.lt_of_lt_of_le (Nat.le_of_ble_eq_true rfl) hnx) rfl ?_
                                       refine R_iload_n dX5_measure_239 rfl rfl ?_
                                       refine R_iaload (k := i) dX5_measure_240 rfl (Nat.lt_of_lt_of_le (Nat.le_of_ble_eq_true rfl) hnx) (by omega) (by omega) (by decide) ?_
                                       refine R_imul dX5_measure_241 ?_
                                       refine R_goto (tgt := 251) dX5_measure_242 (by decide) ?_
                                       refine R_iastore (k := i + 1) dX5_measure_251 rfl (Nat.lt_of_lt_of_le (Nat.le_of_ble_eq_true rfl) hnx) (by omega) (by omega) (by decide) ?_
                                       refine R_iinc dX5_measure_252 rfl (Nat.le_of_ble_eq_true rfl) ?_
                                       refine R_goto (tgt := 43) dX5_measure_255 (by decide) ?_
                                       refine step hi2 _ (fun p hp => ?_) (fun p h1 h2 k hk => ?_) ?_ ?_ ?_ ?_ ?_ _ _
                                       · rw [up2_ne _ _ _ (by omega), up2_ne _ _ _ (by omega), up2_ne _ _ _ (by omega), up2_ne _ _ _ (by omega), up2_ne _ _ _ (by omega)]
                                       · simp only [up2_at]
                                         rw [if_neg (by omega), if_neg (by omega), if_neg (by omega), if_neg (by omega), if_neg (by omega)]
                                       · simp [up2_at, fW]
                                         first | (rw [if_pos (by omega)]; rw [q1, show (2 : Int) = ((2 : Nat) : Int) from rfl, bDivN (by omega) (by omega) (by omega)]; done) | (rw [if_neg (by omega)]; exact q1)
                                       · simp [up2_at, fH]
                                         first | (rw [if_pos (by omega)]; rw [q2, show (2 : Int) = ((2 : Nat) : Int) from rfl, bDivN (by omega) (by omega) (by omega)]; done) | (rw [if_neg (by omega)]; exact q2)
                                       · simp [up2_at, fP]
                                         first | (rw [if_pos (by omega)]; (try rfl); done) | (rw [if_neg (by omega)]; exact q3)
                                       · simp [up2_at, fL]
                                         rw [q4]
                                         first | (rw [if_pos (by omega)]; rfl) | (rw [if_neg (by omega), if_pos (by omega)]; rfl) | (rw [if_neg (by omega), if_neg (by omega), if_pos (by omega), q5]) | (rw [if_neg (by omega), if_neg (by omega), if_neg (by omega)]; rfl)
                                       · simp [up2_at, fS]
                                         first | (rw [if_pos (by omega), q5]; rfl) | (rw [if_neg (by omega)]; exact q5)))
                             · first
                               | (simp (discharger := omega) only [wr_id] at c_161; done)
                               | (try simp (discharger := omega) only [wr_id] at c_161
                                  exfalso
                                  first | omega | exact c_161 trivial)
                               | (try simp (discharger := omega) only [wr_id] at c_161
                                  refine R_aload_n dX5_measure_164 rfl rfl ?_
                                  refine R_getA fRX5_24 dX5_measure_165 rfl (Nat.lt_of_lt_of_le (Nat.le_of_ble_eq_true rfl) hnx) rfl ?_
                                  refine R_iload_n dX5_measure_168 rfl rfl ?_
                                  refine R_iaload (k := i) dX5_measure_169 rfl (Nat.lt_of_lt_of_le (Nat.le_of_ble_eq_true rfl) hnx) (by omega) (by omega) (by decide) ?_
                                  refine R_iconst dX5_measure_170 ?_
                                  dsimp only
                                  rw [up2_ne _ _ _ (by decide), up2_ne _ _ _ (by decide), up2_ne _ _ _ (by decide), e6]
                                  refine R_icmp_ne (tgt := 178) dX5_measure_171 (by decide) (fun c_171 => ?_) (fun c_171 => ?_)
                                  · first
                                    | (simp (discharger := omega) only [wr_id] at c_171; done)
                                    | (try simp (discharger := omega) only [wr_id] at c_171
                                       exfalso
                                       first | omega | exact c_171 trivial)
                                    | (try simp (discharger := omega) only [wr_id] at c_171
                                       refine R_aload_n dX5_measure_178 rfl rfl ?_
                                       refine R_getA fRX5_24 dX5_measure_179 rfl (Nat.lt_of_lt_of_le (Nat.le_of_ble_eq_true rfl) hnx) rfl ?_
                                       refine R_iload_n dX5_measure_182 rfl rfl ?_
                                       refine R_iaload (k := i) dX5_measure_183 rfl (Nat.lt_of_lt_of_le (Nat.le_of_ble_eq_true rfl) hnx) (by omega) (by omega) (by decide) ?_
                                       refine R_iconst dX5_measure_184 ?_
                                       dsimp only
                                       rw [up2_ne _ _ _ (by decide), up2_ne _ _ _ (by decide), up2_ne _ _ _ (by decide), e6]
                                       refine R_icmp_ne (tgt := 192) dX5_measure_185 (by decide) (fun c_185 => ?_) (fun c_185 => ?_)
                                       · first
                                         | (simp (discharger := omega) only [wr_id] at c_185; done)
                                         | (try simp (discharger := omega) only [wr_id] at c_185
                                            exfalso
                                            first | omega | exact c_185 trivial)
                                         | (try simp (discharger := omega) only [wr_id] at c_185
                                            refine R_iload_n dX5_measure_192 rfl rfl ?_
                                            refine R_if_eq (tgt := 205) dX5_measure_193 (by decide) (fun c_193 => ?_) (fun c_193 => ?_)
                                            · first
                                              | (simp (discharger := omega) only [wr_id] at c_193; done)
                                              | (try simp (discharger := omega) only [wr_id] at c_193
                                                 exfalso
                                                 first | omega | exact c_193 trivial)
                                              | (try simp (discharger := omega) only [wr_id] at c_193
                                                 refine R_iconst dX5_measure_205 ?_
                                                 refine R_istore_n dX5_measure_206 rfl (Nat.le_of_ble_eq_true rfl) ?_
                                                 refine R_aload_n dX5_measure_207 rfl rfl ?_
                                                 refine R_getA fRX5_45 dX5_measure_208 rfl (Nat.lt_of_lt_of_le (Nat.le_of_ble_eq_true rfl) hnx) rfl ?_
                                                 refine R_iload_n dX5_measure_211 rfl rfl ?_
                                                 refine R_iconst dX5_measure_212 ?_
                                                 refine R_iadd dX5_measure_213 ?_
                                                 refine R_aload_n dX5_measure_214 rfl rfl ?_
                                                 refine R_getA fRX5_45 dX5_measure_215 rfl (Nat.lt_of_lt_of_le (Nat.le_of_ble_eq_true rfl) hnx) rfl ?_
                                                 refine R_iload_n dX5_measure_218 rfl rfl ?_
                                                 refine R_iaload (k := i) dX5_measure_219 rfl (Nat.lt_of_lt_of_le (Nat.le_of_ble_eq_true rfl) hnx) (by omega) (by omega) (by decide) ?_
                                                 refine R_iload_n dX5_measure_220 rfl rfl ?_
                                                 refine R_iadd dX5_measure_221 ?_
                                                 refine R_iastore (k := i + 1) dX5_measure_222 rfl (Nat.lt_of_lt_of_le (Nat.le_of_ble_eq_true rfl) hnx) (by omega) (by omega) (by decide) ?_
                                                 refine R_aload_n dX5_measure_223 rfl rfl ?_
                                                 refine R_getA fRX5_48 dX5_measure_224 rfl (Nat.lt_of_lt_of_le (Nat.le_of_ble_eq_true rfl) hnx) rfl ?_
                                                 refine R_iload_n dX5_measure_227 rfl rfl ?_
                                                 refine R_iconst dX5_measure_228 ?_
                                                 refine R_iadd dX5_measure_229 ?_
                                                 refine R_iload_n dX5_measure_230 rfl rfl ?_
                                                 refine R_if_eq (tgt := 245) dX5_measure_231 (by decide) (fun c_231 => ?_) (fun c_231 => ?_)
                                                 · first
                                                   | (simp (discharger := omega) only [wr_id] at c_231; done)
                                                   | (try simp (discharger := omega) only [wr_id] at c_231
                                                      exfalso
                                                      first | omega | exact c_231 trivial)
                                                   | (try simp (discharger := omega) only [wr_id] at c_231
                                                      refine R_aload_n dX5_measure_245 rfl rfl ?_
                                                      refine R_getA fRX5_48 dX5_measure_246 rfl (Nat.lt_of_lt_of_le (Nat.le_of_ble_eq_true rfl) hnx) rfl ?_
                                                      refine R_iload_n dX5_measure_249 rfl rfl ?_
                                                      refine R_iaload (k := i) dX5_measure_250 rfl (Nat.lt_of_lt_of_le (Nat.le_of_ble_eq_true rfl) hnx) (by omega) (by omega) (by decide) ?_
                                                      refine R_iastore (k := i + 1) dX5_measure_251 rfl (Nat.lt_of_lt_of_le (Nat.le_of_ble_eq_true rfl) hnx) (by omega) (by omega) (by decide) ?_
                                                      refine R_iinc dX5_measure_252 rfl (Nat.le_of_ble_eq_true rfl) ?_
                                                      refine R_goto (tgt := 43) dX5_measure_255 (by decide) ?_
                                                      refine step hi2 _ (fun p hp => ?_) (fun p h1 h2 k hk => ?_) ?_ ?_ ?_ ?_ ?_ _ _
                                                      · rw [up2_ne _ _ _ (by omega), up2_ne _ _ _ (by omega), up2_ne _ _ _ (by omega), up2_ne _ _ _ (by omega), up2_ne _ _ _ (by omega)]
                                                      · simp only [up2_at]
                                                        rw [if_neg (by omega), if_neg (by omega), if_neg (by omega), if_neg (by omega), if_neg (by omega)]
                                                      · simp [up2_at, fW]
                                                        first | (rw [if_pos (by omega)]; rw [q1, show (2 : Int) = ((2 : Nat) : Int) from rfl, bDivN (by omega) (by omega) (by omega)]; done) | (rw [if_neg (by omega)]; exact q1)
                                                      · simp [up2_at, fH]
                                                        first | (rw [if_pos (by omega)]; rw [q2, show (2 : Int) = ((2 : Nat) : Int) from rfl, bDivN (by omega) (by omega) (by omega)]; done) | (rw [if_neg (by omega)]; exact q2)
                                                      · simp [up2_at, fP]
                                                        first | (rw [if_pos (by omega)]; (try rfl); done) | (rw [if_neg (by omega)]; exact q3)
                                                      · simp [up2_at, fL]
                                                        rw [q4]
                                                        first | (rw [if_pos (by omega)]; rfl) | (rw [if_neg (by omega), if_pos (by omega)]; rfl) | (rw [if_neg (by omega), if_neg (by omega), if_pos (by omega), q5]) | (rw [if_neg (by omega), if_neg (by omega), if_neg (by omega)]; rfl)
                                                      · simp [up2_at, fS]
                                                        first | (rw [if_pos (by omega), q5]; rfl) | (rw [if_neg (by omega)]; exact q5))
                                                 · first
                                                   | (simp (discharger := omega) only [wr_id] at c_231; done)
                                                   | (try simp (discharger := omega) only [wr_id] at c_231
                                                      exfalso
                                                      first | omega | exact c_231 trivial)
                                                   | (try simp (discharger := omega) only [wr_id] at c_231
                                                      refine R_iconst dX5_measure_234 ?_
                                                      refine R_aload_n dX5_measure_235 rfl rfl ?_
                                                      refine R_getA fRX5_48 dX5_measure_236 rfl (Nat.lt_of_lt_of_le (Nat.le_of_ble_eq_true rfl) hnx) rfl ?_
                                                      refine R_iload_n dX5_measure_239 rfl rfl ?_
                                                      refine R_iaload (k := i) dX5_measure_240 rfl (Nat.lt_of_lt_of_le (Nat.le_of_ble_eq_true rfl) hnx) (by omega) (by omega) (by decide) ?_
                                                      refine R_imul dX5_measure_241 ?_
                                                      refine R_goto (tgt := 251) dX5_measure_242 (by decide) ?_
                                                      refine R_iastore (k := i + 1) dX5_measure_251 rfl (Nat.lt_of_lt_of_le (Nat.le_of_ble_eq_true rfl) hnx) (by omega) (by omega) (by decide) ?_
                                                      refine R_iinc dX5_measure_252 rfl (Nat.le_of_ble_eq_true rfl) ?_
                                                      refine R_goto (tgt := 43) dX5_measure_255 (by decide) ?_
                                                      refine step hi2 _ (fun p hp => ?_) (fun p h1 h2 k hk => ?_) ?_ ?_ ?_ ?_ ?_ _ _
                                                      · rw [up2_ne _ _ _ (by omega), up2_ne _ _ _ (by omega), up2_ne _ _ _ (by omega), up2_ne _ _ _ (by omega), up2_ne _ _ _ (by omega)]
                                                      · simp only [up2_at]
                                                        rw [if_neg (by omega), if_neg (by omega), if_neg (by omega), if_neg (by omega), if_neg (by omega)]
                                                      · simp [up2_at, fW]
                                                        first | (rw [if_pos (by omega)]; rw [q1, show (2 : Int) = ((2 : Nat) : Int) from rfl, bDivN (by omega) (by omega) (by omega)]; done) | (rw [if_neg (by omega)]; exact q1)
                                                      · simp [up2_at, fH]
                                                        first | (rw [if_pos (by omega)]; rw [q2, show (2 : Int) = ((2 : Nat) : Int) from rfl, bDivN (by omega) (by omega) (by omega)]; done) | (rw [if_neg (by omega)]; exact q2)
                                                      · simp [up2_at, fP]
                                                        first | (rw [if_pos (by omega)]; (try rfl); done) | (rw [if_neg (by omega)]; exact q3)
                                                      · simp [up2_at, fL]
                                                        rw [q4]
                                                        first | (rw [if_pos (by omega)]; rfl) | (rw [if_neg (by omega), if_pos (by omega)]; rfl) | (rw [if_neg (by omega), if_neg (by omega), if_pos (by omega), q5]) | (rw [if_neg (by omega), if_neg (by omega), if_neg (by omega)]; rfl)
                                                      · simp [up2_at, fS]
                                                        first | (rw [if_pos (by omega), q5]; rfl) | (rw [if_neg (by omega)]; exact q5)))
                                            · first
                                              | (simp (discharger := omega) only [wr_id] at c_193; done)
                                              | (try simp (discharger := omega) only [wr_id] at c_193
                                                 exfalso
                                                 first | omega | exact c_193 trivial)
                                              | (try simp (discharger := omega) only [wr_id] at c_193
                                                 refine R_aload_n dX5_measure_196 rfl rfl ?_
                                                 refine R_getA fRX5_48 dX5_measure_197 rfl (Nat.lt_of_lt_of_le (Nat.le_of_ble_eq_true rfl) hnx) rfl ?_
                                                 refine R_iload_n dX5_measure_200 rfl rfl ?_
                                                 refine R_iaload (k := i) dX5_measure_201 rfl (Nat.lt_of_lt_of_le (Nat.le_of_ble_eq_true rfl) hnx) (by omega) (by omega) (by decide) ?_
                                                 refine R_goto (tgt := 206) dX5_measure_202 (by decide) ?_
                                                 refine R_istore_n dX5_measure_206 rfl (Nat.le_of_ble_eq_true rfl) ?_
                                                 refine R_aload_n dX5_measure_207 rfl rfl ?_
                                                 refine R_getA fRX5_45 dX5_measure_208 rfl (Nat.lt_of_lt_of_le (Nat.le_of_ble_eq_true rfl) hnx) rfl ?_
                                                 refine R_iload_n dX5_measure_211 rfl rfl ?_
                                                 refine R_iconst dX5_measure_212 ?_
                                                 refine R_iadd dX5_measure_213 ?_
                                                 refine R_aload_n dX5_measure_214 rfl rfl ?_
                                                 refine R_getA fRX5_45 dX5_measure_215 rfl (Nat.lt_of_lt_of_le (Nat.le_of_ble_eq_true rfl) hnx) rfl ?_
                                                 refine R_iload_n dX5_measure_218 rfl rfl ?_
                                                 refine R_iaload (k := i) dX5_measure_219 rfl (Nat.lt_of_lt_of_le (Nat.le_of_ble_eq_true rfl) hnx) (by omega) (by omega) (by decide) ?_
                                                 refine R_iload_n dX5_measure_220 rfl rfl ?_
                                                 refine R_iadd dX5_measure_221 ?_
                                                 refine R_iastore (k := i + 1) dX5_measure_222 rfl (Nat.lt_of_lt_of_le (Nat.le_of_ble_eq_true rfl) hnx) (by omega) (by omega) (by decide) ?_
                                                 refine R_aload_n dX5_measure_223 rfl rfl ?_
                                                 refine R_getA fRX5_48 dX5_measure_224 rfl (Nat.lt_of_lt_of_le (Nat.le_of_ble_eq_true rfl) hnx) rfl ?_
                                                 refine R_iload_n dX5_measure_227 rfl rfl ?_
                                                 refine R_iconst dX5_measure_228 ?_
                                                 refine R_iadd dX5_measure_229 ?_
                                                 refine R_iload_n dX5_measure_230 rfl rfl ?_
                                                 refine R_if_eq (tgt := 245) dX5_measure_231 (by decide) (fun c_231 => ?_) (fun c_231 => ?_)
                                                 · first
                                                   | (simp (discharger := omega) only [wr_id] at c_231; done)
                                                   | (try simp (discharger := omega) only [wr_id] at c_231
                                                      exfalso
                                                      first | omega | exact c_231 trivial)
                                                   | (try simp (discharger := omega) only [wr_id] at c_231
                                                      refine R_aload_n dX5_measure_245 rfl rfl ?_
                                                      refine R_getA fRX5_48 dX5_measure_246 rfl (Nat.lt_of_lt_of_le (Nat.le_of_ble_eq_true rfl) hnx) rfl ?_
                                                      refine R_iload_n dX5_measure_249 rfl rfl ?_
                                                      refine R_iaload (k := i) dX5_measure_250 rfl (Nat.lt_of_lt_of_le (Nat.le_of_ble_eq_true rfl) hnx) (by omega) (by omega) (by decide) ?_
                                                      refine R_iastore (k := i + 1) dX5_measure_251 rfl (Nat.lt_of_lt_of_le (Nat.le_of_ble_eq_true rfl) hnx) (by omega) (by omega) (by decide) ?_
                                                      refine R_iinc dX5_measure_252 rfl (Nat.le_of_ble_eq_true rfl) ?_
                                                      refine R_goto (tgt := 43) dX5_measure_255 (by decide) ?_
                                                      refine step hi2 _ (fun p hp => ?_) (fun p h1 h2 k hk => ?_) ?_ ?_ ?_ ?_ ?_ _ _
                                                      · rw [up2_ne _ _ _ (by omega), up2_ne _ _ _ (by omega), up2_ne _ _ _ (by omega), up2_ne _ _ _ (by omega), up2_ne _ _ _ (by omega)]
                                                      · simp only [up2_at]
                                                        rw [if_neg (by omega), if_neg (by omega), if_neg (by omega), if_neg (by omega), if_neg (by omega)]
                                                      · simp [up2_at, fW]
                                                        first | (rw [if_pos (by omega)]; rw [q1, show (2 : Int) = ((2 : Nat) : Int) from rfl, bDivN (by omega) (by omega) (by omega)]; done) | (rw [if_neg (by omega)]; exact q1)
                                                      · simp [up2_at, fH]
                                                        first | (rw [if_pos (by omega)]; rw [q2, show (2 : Int) = ((2 : Nat) : Int) from rfl, bDivN (by omega) (by omega) (by omega)]; done) | (rw [if_neg (by omega)]; exact q2)
                                                      · simp [up2_at, fP]
                                                        first | (rw [if_pos (by omega)]; (try rfl); done) | (rw [if_neg (by omega)]; exact q3)
                                                      · simp [up2_at, fL]
                                                        rw [q4]
                                                        first | (rw [if_pos (by omega)]; rfl) | (rw [if_neg (by omega), if_pos (by omega)]; rfl) | (rw [if_neg (by omega), if_neg (by omega), if_pos (by omega), q5]) | (rw [if_neg (by omega), if_neg (by omega), if_neg (by omega)]; rfl)
                                                      · simp [up2_at, fS]
                                                        first | (rw [if_pos (by omega), q5]; rfl) | (rw [if_neg (by omega)]; exact q5))
                                                 · first
                                                   | (simp (discharger := omega) only [wr_id] at c_231; done)
                                                   | (try simp (discharger := omega) only [wr_id] at c_231
                                                      exfalso
                                                      first | omega | exact c_231 trivial)
                                                   | (try simp (discharger := omega) only [wr_id] at c_231
                                                      refine R_iconst dX5_measure_234 ?_
                                                      refine R_aload_n dX5_measure_235 rfl rfl ?_
                                                      refine R_getA fRX5_48 dX5_measure_236 rfl (Nat.lt_of_lt_of_le (Nat.le_of_ble_eq_true rfl) hnx) rfl ?_
                                                      refine R_iload_n dX5_measure_239 rfl rfl ?_
                                                      refine R_iaload (k := i) dX5_measure_240 rfl (Nat.lt_of_lt_of_le (Nat.le_of_ble_eq_true rfl) hnx) (by omega) (by omega) (by decide) ?_
                                                      refine R_imul dX5_measure_241 ?_
                                                      refine R_goto (tgt := 251) dX5_measure_242 (by decide) ?_
                                                      refine R_iastore (k := i + 1) dX5_measure_251 rfl (Nat.lt_of_lt_of_le (Nat.le_of_ble_eq_true rfl) hnx) (by omega) (by omega) (by decide) ?_
                                                      refine R_iinc dX5_measure_252 rfl (Nat.le_of_ble_eq_true rfl) ?_
                                                      refine R_goto (tgt := 43) dX5_measure_255 (by decide) ?_
                                                      refine step hi2 _ (fun p hp => ?_) (fun p h1 h2 k hk => ?_) ?_ ?_ ?_ ?_ ?_ _ _
                                                      · rw [up2_ne _ _ _ (by omega), up2_ne _ _ _ (by omega), up2_ne _ _ _ (by omega), up2_ne _ _ _ (by omega), up2_ne _ _ _ (by omega)]
                                                      · simp only [up2_at]
                                                        rw [if_neg (by omega), if_neg (by omega), if_neg (by omega), if_neg (by omega), if_neg (by omega)]
                                                      · simp [up2_at, fW]
                                                        first | (rw [if_pos (by omega)]; rw [q1, show (2 : Int) = ((2 : Nat) : Int) from rfl, bDivN (by omega) (by omega) (by omega)]; done) | (rw [if_neg (by omega)]; exact q1)
                                                      · simp [up2_at, fH]
                                                        first | (rw [if_pos (by omega)]; rw [q2, show (2 : Int) = ((2 : Nat) : Int) from rfl, bDivN (by omega) (by omega) (by omega)]; done) | (rw [if_neg (by omega)]; exact q2)
                                                      · simp [up2_at, fP]
                                                        first | (rw [if_pos (by omega)]; (try rfl); done) | (rw [if_neg (by omega)]; exact q3)
                                                      · simp [up2_at, fL]
                                                        rw [q4]
                                                        first | (rw [if_pos (by omega)]; rfl) | (rw [if_neg (by omega), if_pos (by omega)]; rfl) | (rw [if_neg (by omega), if_neg (by omega), if_pos (by omega), q5]) | (rw [if_neg (by omega), if_neg (by omega), if_neg (by omega)]; rfl)
                                                      · simp [up2_at, fS]
                                                        first | (rw [if_pos (by omega), q5]; rfl) | (rw [if_neg (by omega)]; exact q5))))
                                       · first
                                         | (simp (discharger := omega) only [wr_id] at c_185; done)
                                         | (try simp (discharger := omega) only [wr_id] at c_185
                                            exfalso
                                            first | omega | exact c_185 trivial)
                                         | (try simp (discharger := omega) only [wr_id] at c_185
                                            refine R_iconst dX5_measure_188 ?_
                                            refine R_goto (tgt := 206) dX5_measure_189 (by decide) ?_
                                            refine R_istore_n dX5_measure_206 rfl (Nat.le_of_ble_eq_true rfl) ?_
                                            refine R_aload_n dX5_measure_207 rfl rfl ?_
                                            refine R_getA fRX5_45 dX5_measure_208 rfl (Nat.lt_of_lt_of_le (Nat.le_of_ble_eq_true rfl) hnx) rfl ?_
                                            refine R_iload_n dX5_measure_211 rfl rfl ?_
                                            refine R_iconst dX5_measure_212 ?_
                                            refine R_iadd dX5_measure_213 ?_
                                            refine R_aload_n dX5_measure_214 rfl rfl ?_
                                            refine R_getA fRX5_45 dX5_measure_215 rfl (Nat.lt_of_lt_of_le (Nat.le_of_ble_eq_true rfl) hnx) rfl ?_
                                            refine R_iload_n dX5_measure_218 rfl rfl ?_
                                            refine R_iaload (k := i) dX5_measure_219 rfl (Nat.lt_of_lt_of_le (Nat.le_of_ble_eq_true rfl) hnx) (by omega) (by omega) (by decide) ?_
                                            refine R_iload_n dX5_measure_220 rfl rfl ?_
                                            refine R_iadd dX5_measure_221 ?_
                                            refine R_iastore (k := i + 1) dX5_measure_222 rfl (Nat.lt_of_lt_of_le (Nat.le_of_ble_eq_true rfl) hnx) (by omega) (by omega) (by decide) ?_
                                            refine R_aload_n dX5_measure_223 rfl rfl ?_
                                            refine R_getA fRX5_48 dX5_measure_224 rfl (Nat.lt_of_lt_of_le (Nat.le_of_ble_eq_true rfl) hnx) rfl ?_
                                            refine R_iload_n dX5_measure_227 rfl rfl ?_
                                            refine R_iconst dX5_measure_228 ?_
                                            refine R_iadd dX5_measure_229 ?_
                                            refine R_iload_n dX5_measure_230 rfl rfl ?_
                                            refine R_if_eq (tgt := 245) dX5_measure_231 (by decide) (fun c_231 => ?_) (fun c_231 => ?_)
                                            · first
                                              | (simp (discharger := omega) only [wr_id] at c_231; done)
                                              | (try simp (discharger := omega) only [wr_id] at c_231
                                                 exfalso
                                                 first | omega | exact c_231 trivial)
                                              | (try simp (discharger := omega) only [wr_id] at c_231
                                                 refine R_aload_n dX5_measure_245 rfl rfl ?_
                                                 refine R_getA fRX5_48 dX5_measure_246 rfl (Nat.lt_of_lt_of_le (Nat.le_of_ble_eq_true rfl) hnx) rfl ?_
                                                 refine R_iload_n dX5_measure_249 rfl rfl ?_
                                                 refine R_iaload (k := i) dX5_measure_250 rfl (Nat.lt_of_lt_of_le (Nat.le_of_ble_eq_true rfl) hnx) (by omega) (by omega) (by decide) ?_
                                                 refine R_iastore (k := i + 1) dX5_measure_251 rfl (Nat.lt_of_lt_of_le (Nat.le_of_ble_eq_true rfl) hnx) (by omega) (by omega) (by decide) ?_
                                                 refine R_iinc dX5_measure_252 rfl (Nat.le_of_ble_eq_true rfl) ?_
                                                 refine R_goto (tgt := 43) dX5_measure_255 (by decide) ?_
                                                 refine step hi2 _ (fun p hp => ?_) (fun p h1 h2 k hk => ?_) ?_ ?_ ?_ ?_ ?_ _ _
                                                 · rw [up2_ne _ _ _ (by omega), up2_ne _ _ _ (by omega), up2_ne _ _ _ (by omega), up2_ne _ _ _ (by omega), up2_ne _ _ _ (by omega)]
                                                 · simp only [up2_at]
                                                   rw [if_neg (by omega), if_neg (by omega), if_neg (by omega), if_neg (by omega), if_neg (by omega)]
                                                 · simp [up2_at, fW]
                                                   first | (rw [if_pos (by omega)]; rw [q1, show (2 : Int) = ((2 : Nat) : Int) from rfl, bDivN (by omega) (by omega) (by omega)]; done) | (rw [if_neg (by omega)]; exact q1)
                                                 · simp [up2_at, fH]
                                                   first | (rw [if_pos (by omega)]; rw [q2, show (2 : Int) = ((2 : Nat) : Int) from rfl, bDivN (by omega) (by omega) (by omega)]; done) | (rw [if_neg (by omega)]; exact q2)
                                                 · simp [up2_at, fP]
                                                   first | (rw [if_pos (by omega)]; (try rfl); done) | (rw [if_neg (by omega)]; exact q3)
                                                 · simp [up2_at, fL]
                                                   rw [q4]
                                                   first | (rw [if_pos (by omega)]; rfl) | (rw [if_neg (by omega), if_pos (by omega)]; rfl) | (rw [if_neg (by omega), if_neg (by omega), if_pos (by omega), q5]) | (rw [if_neg (by omega), if_neg (by omega), if_neg (by omega)]; rfl)
                                                 · simp [up2_at, fS]
                                                   first | (rw [if_pos (by omega), q5]; rfl) | (rw [if_neg (by omega)]; exact q5))
                                            · first
                                              | (simp (discharger := omega) only [wr_id] at c_231; done)
                                              | (try simp (discharger := omega) only [wr_id] at c_231
                                                 exfalso
                                                 first | omega | exact c_231 trivial)
                                              | (try simp (discharger := omega) only [wr_id] at c_231
                                                 refine R_iconst dX5_measure_234 ?_
                                                 refine R_aload_n dX5_measure_235 rfl rfl ?_
                                                 refine R_getA fRX5_48 dX5_measure_236 rfl (Nat.lt_of_lt_of_le (Nat.le_of_ble_eq_true rfl) hnx) rfl ?_
                                                 refine R_iload_n dX5_measure_239 rfl rfl ?_
                                                 refine R_iaload (k := i) dX5_measure_240 rfl (Nat.lt_of_lt_of_le (Nat.le_of_ble_eq_true rfl) hnx) (by omega) (by omega) (by decide) ?_
                                                 refine R_imul dX5_measure_241 ?_
                                                 refine R_goto (tgt := 251) dX5_measure_242 (by decide) ?_
                                                 refine R_iastore (k := i + 1) dX5_measure_251 rfl (Nat.lt_of_lt_of_le (Nat.le_of_ble_eq_true rfl) hnx) (by omega) (by omega) (by decide) ?_
                                                 refine R_iinc dX5_measure_252 rfl (Nat.le_of_ble_eq_true rfl) ?_
                                                 refine R_goto (tgt := 43) dX5_measure_255 (by decide) ?_
                                                 refine step hi2 _ (fun p hp => ?_) (fun p h1 h2 k hk => ?_) ?_ ?_ ?_ ?_ ?_ _ _
                                                 · rw [up2_ne _ _ _ (by omega), up2_ne _ _ _ (by omega), up2_ne _ _ _ (by omega), up2_ne _ _ _ (by omega), up2_ne _ _ _ (by omega)]
                                                 · simp only [up2_at]
                                                   rw [if_neg (by omega), if_neg (by omega), if_neg (by omega), if_neg (by omega), if_neg (by omega)]
                                                 · simp [up2_at, fW]
                                                   first | (rw [if_pos (by omega)]; rw [q1, show (2 : Int) = ((2 : Nat) : Int) from rfl, bDivN (by omega) (by omega) (by omega)]; done) | (rw [if_neg (by omega)]; exact q1)
                                                 · simp [up2_at, fH]
                                                   first | (rw [if_pos (by omega)]; rw [q2, show (2 : Int) = ((2 : Nat) : Int) from rfl, bDivN (by omega) (by omega) (by omega)]; done) | (rw [if_neg (by omega)]; exact q2)
                                                 · simp [up2_at, fP]
                                                   first | (rw [if_pos (by omega)]; (try rfl); done) | (rw [if_neg (by omega)]; exact q3)
                                                 · simp [up2_at, fL]
                                                   rw [q4]
                                                   first | (rw [if_pos (by omega)]; rfl) | (rw [if_neg (by omega), if_pos (by omega)]; rfl) | (rw [if_neg (by omega), if_neg (by omega), if_pos (by omega), q5]) | (rw [if_neg (by omega), if_neg (by omega), if_neg (by omega)]; rfl)
                                                 · simp [up2_at, fS]
                                                   first | (rw [if_pos (by omega), q5]; rfl) | (rw [if_neg (by omega)]; exact q5))))
                                  · first
                                    | (simp (discharger := omega) only [wr_id] at c_171; done)
                                    | (try simp (discharger := omega) only [wr_id] at c_171
                                       exfalso
                                       first | omega | exact c_171 trivial)
                                    | (try simp (discharger := omega) only [wr_id] at c_171
                                       refine R_iconst dX5_measure_174 ?_
                                       refine R_goto (tgt := 206) dX5_measure_175 (by decide) ?_
                                       refine R_istore_n dX5_measure_206 rfl (Nat.le_of_ble_eq_true rfl) ?_
                                       refine R_aload_n dX5_measure_207 rfl rfl ?_
                                       refine R_getA fRX5_45 dX5_measure_208 rfl (Nat.lt_of_lt_of_le (Nat.le_of_ble_eq_true rfl) hnx) rfl ?_
                                       refine R_iload_n dX5_measure_211 rfl rfl ?_
                                       refine R_iconst dX5_measure_212 ?_
                                       refine R_iadd dX5_measure_213 ?_
                                       refine R_aload_n dX5_measure_214 rfl rfl ?_
                                       refine R_getA fRX5_45 dX5_measure_215 rfl (Nat.lt_of_lt_of_le (Nat.le_of_ble_eq_true rfl) hnx) rfl ?_
                                       refine R_iload_n dX5_measure_218 rfl rfl ?_
                                       refine R_iaload (k := i) dX5_measure_219 rfl (Nat.lt_of_lt_of_le (Nat.le_of_ble_eq_true rfl) hnx) (by omega) (by omega) (by decide) ?_
                                       refine R_iload_n dX5_measure_220 rfl rfl ?_
                                       refine R_iadd dX5_measure_221 ?_
                                       refine R_iastore (k := i + 1) dX5_measure_222 rfl (Nat.lt_of_lt_of_le (Nat.le_of_ble_eq_true rfl) hnx) (by omega) (by omega) (by decide) ?_
                                       refine R_aload_n dX5_measure_223 rfl rfl ?_
                                       refine R_getA fRX5_48 dX5_measure_224 rfl (Nat.lt_of_lt_of_le (Nat.le_of_ble_eq_true rfl) hnx) rfl ?_
                                       refine R_iload_n dX5_measure_227 rfl rfl ?_
                                       refine R_iconst dX5_measure_228 ?_
                                       refine R_iadd dX5_measure_229 ?_
                                       refine R_iload_n dX5_measure_230 rfl rfl ?_
                                       refine R_if_eq (tgt := 245) dX5_measure_231 (by decide) (fun c_231 => ?_) (fun c_231 => ?_)
                                       · first
                                         | (simp (discharger := omega) only [wr_id] at c_231; done)
                                         | (try simp (discharger := omega) only [wr_id] at c_231
                                            exfalso
                                            first | omega | exact c_231 trivial)
                                         | (try simp (discharger := omega) only [wr_id] at c_231
                                            refine R_aload_n dX5_measure_245 rfl rfl ?_
                                            refine R_getA fRX5_48 dX5_measure_246 rfl (Nat.lt_of_lt_of_le (Nat.le_of_ble_eq_true rfl) hnx) rfl ?_
                                            refine R_iload_n dX5_measure_249 rfl rfl ?_
                                            refine R_iaload (k := i) dX5_measure_250 rfl (Nat.lt_of_lt_of_le (Nat.le_of_ble_eq_true rfl) hnx) (by omega) (by omega) (by decide) ?_
                                            refine R_iastore (k := i + 1) dX5_measure_251 rfl (Nat.lt_of_lt_of_le (Nat.le_of_ble_eq_true rfl) hnx) (by omega) (by omega) (by decide) ?_
                                            refine R_iinc dX5_measure_252 rfl (Nat.le_of_ble_eq_true rfl) ?_
                                            refine R_goto (tgt := 43) dX5_measure_255 (by decide) ?_
                                            refine step hi2 _ (fun p hp => ?_) (fun p h1 h2 k hk => ?_) ?_ ?_ ?_ ?_ ?_ _ _
                                            · rw [up2_ne _ _ _ (by omega), up2_ne _ _ _ (by omega), up2_ne _ _ _ (by omega), up2_ne _ _ _ (by omega), up2_ne _ _ _ (by omega)]
                                            · simp only [up2_at]
                                              rw [if_neg (by omega), if_neg (by omega), if_neg (by omega), if_neg (by omega), if_neg (by omega)]
                                            · simp [up2_at, fW]
                                              first | (rw [if_pos (by omega)]; rw [q1, show (2 : Int) = ((2 : Nat) : Int) from rfl, bDivN (by omega) (by omega) (by omega)]; done) | (rw [if_neg (by omega)]; exact q1)
                                            · simp [up2_at, fH]
                                              first | (rw [if_pos (by omega)]; rw [q2, show (2 : Int) = ((2 : Nat) : Int) from rfl, bDivN (by omega) (by omega) (by omega)]; done) | (rw [if_neg (by omega)]; exact q2)
                                            · simp [up2_at, fP]
                                              first | (rw [if_pos (by omega)]; (try rfl); done) | (rw [if_neg (by omega)]; exact q3)
                                            · simp [up2_at, fL]
                                              rw [q4]
                                              first | (rw [if_pos (by omega)]; rfl) | (rw [if_neg (by omega), if_pos (by omega)]; rfl) | (rw [if_neg (by omega), if_neg (by omega), if_pos (by omega), q5]) | (rw [if_neg (by omega), if_neg (by omega), if_neg (by omega)]; rfl)
                                            · simp [up2_at, fS]
                                              first | (rw [if_pos (by omega), q5]; rfl) | (rw [if_neg (by omega)]; exact q5))
                                       · first
                                         | (simp (discharger := omega) only [wr_id] at c_231; done)
                                         | (try simp (discharger := omega) only [wr_id] at c_231
                                            exfalso
                                            first | omega | exact c_231 trivial)
                                         | (try simp (discharger := omega) only [wr_id] at c_231
                                            refine R_iconst dX5_measure_234 ?_
                                            refine R_aload_n dX5_measure_235 rfl rfl ?_
                                            refine R_getA fRX5_48 dX5_measure_236 rfl (Nat.lt_of_lt_of_le (Nat.le_of_ble_eq_true rfl) hnx) rfl ?_
                                            refine R_iload_n dX5_measure_239 rfl rfl ?_
                                            refine R_iaload (k := i) dX5_measure_240 rfl (Nat.lt_of_lt_of_le (Nat.le_of_ble_eq_true rfl) hnx) (by omega) (by omega) (by decide) ?_
                                            refine R_imul dX5_measure_241 ?_
                                            refine R_goto (tgt := 251) dX5_measure_242 (by decide) ?_
                                            refine R_iastore (k := i + 1) dX5_measure_251 rfl (Nat.lt_of_lt_of_le (Nat.le_of_ble_eq_true rfl) hnx) (by omega) (by omega) (by decide) ?_
                                            refine R_iinc dX5_measure_252 rfl (Nat.le_of_ble_eq_true rfl) ?_
                                            refine R_goto (tgt := 43) dX5_measure_255 (by decide) ?_
                                            refine step hi2 _ (fun p hp => ?_) (fun p h1 h2 k hk => ?_) ?_ ?_ ?_ ?_ ?_ _ _
                                            · rw [up2_ne _ _ _ (by omega), up2_ne _ _ _ (by omega), up2_ne _ _ _ (by omega), up2_ne _ _ _ (by omega), up2_ne _ _ _ (by omega)]
                                            · simp only [up2_at]
                                              rw [if_neg (by omega), if_neg (by omega), if_neg (by omega), if_neg (by omega), if_neg (by omega)]
                                            · simp [up2_at, fW]
                                              first | (rw [if_pos (by omega)]; rw [q1, show (2 : Int) = ((2 : Nat) : Int) from rfl, bDivN (by omega) (by omega) (by omega)]; done) | (rw [if_neg (by omega)]; exact q1)
                                            · simp [up2_at, fH]
                                              first | (rw [if_pos (by omega)]; rw [q2, show (2 : Int) = ((2 : Nat) : Int) from rfl, bDivN (by omega) (by omega) (by omega)]; done) | (rw [if_neg (by omega)]; exact q2)
                                            · simp [up2_at, fP]
                                              first | (rw [if_pos (by omega)]; (try rfl); done) | (rw [if_neg (by omega)]; exact q3)
                                            · simp [up2_at, fL]
                                              rw [q4]
                                              first | (rw [if_pos (by omega)]; rfl) | (rw [if_neg (by omega), if_pos (by omega)]; rfl) | (rw [if_neg (by omega), if_neg (by omega), if_pos (by omega), q5]) | (rw [if_neg (by omega), if_neg (by omega), if_neg (by omega)]; rfl)
                                            · simp [up2_at, fS]
                                              first | (rw [if_pos (by omega), q5]; rfl) | (rw [if_neg (by omega)]; exact q5)))))
                        · first
                          | (simp (discharger := omega) only [wr_id] at c_140; done)
                          | (try simp (discharger := omega) only [wr_id] at c_140
                             exfalso
                             first | omega | exact c_140 trivial)
                          | (try simp (discharger := omega) only [wr_id] at c_140
                             refine R_iconst dX5_measure_143 ?_
                             refine R_goto (tgt := 153) dX5_measure_144 (by decide) ?_
                             refine R_iastore (k := i + 1) dX5_measure_153 rfl (Nat.lt_of_lt_of_le (Nat.le_of_ble_eq_true rfl) hnx) (by omega) (by omega) (by decide) ?_
                             refine R_aload_n dX5_measure_154 rfl rfl ?_
                             refine R_getA fRX5_24 dX5_measure_155 rfl (Nat.lt_of_lt_of_le (Nat.le_of_ble_eq_true rfl) hnx) rfl ?_
                             refine R_iload_n dX5_measure_158 rfl rfl ?_
                             refine R_iaload (k := i) dX5_measure_159 rfl (Nat.lt_of_lt_of_le (Nat.le_of_ble_eq_true rfl) hnx) (by omega) (by omega) (by decide) ?_
                             refine R_iconst dX5_measure_160 ?_
                             dsimp only
                             rw [up2_ne _ _ _ (by decide), up2_ne _ _ _ (by decide), up2_ne _ _ _ (by decide), e6]
                             refine R_icmp_eq (tgt := 174) dX5_measure_161 (by decide) (fun c_161 => ?_) (fun c_161 => ?_)
                             · first
                               | (simp (discharger := omega) only [wr_id] at c_161; done)
                               | (try simp (discharger := omega) only [wr_id] at c_161
                                  exfalso
                                  first | omega | exact c_161 trivial)
                               | (try simp (discharger := omega) only [wr_id] at c_161
                                  refine R_iconst dX5_measure_174 ?_
                                  refine R_goto (tgt := 206) dX5_measure_175 (by decide) ?_
                                  refine R_istore_n dX5_measure_206 rfl (Nat.le_of_ble_eq_true rfl) ?_
                                  refine R_aload_n dX5_measure_207 rfl rfl ?_
                                  refine R_getA fRX5_45 dX5_measure_208 rfl (Nat.lt_of_lt_of_le (Nat.le_of_ble_eq_true rfl) hnx) rfl ?_
                                  refine R_iload_n dX5_measure_211 rfl rfl ?_
                                  refine R_iconst dX5_measure_212 ?_
                                  refine R_iadd dX5_measure_213 ?_
                                  refine R_aload_n dX5_measure_214 rfl rfl ?_
                                  refine R_getA fRX5_45 dX5_measure_215 rfl (Nat.lt_of_lt_of_le (Nat.le_of_ble_eq_true rfl) hnx) rfl ?_
                                  refine R_iload_n dX5_measure_218 rfl rfl ?_
                                  refine R_iaload (k := i) dX5_measure_219 rfl (Nat.lt_of_lt_of_le (Nat.le_of_ble_eq_true rfl) hnx) (by omega) (by omega) (by decide) ?_
                                  refine R_iload_n dX5_measure_220 rfl rfl ?_
                                  refine R_iadd dX5_measure_221 ?_
                                  refine R_iastore (k := i + 1) dX5_measure_222 rfl (Nat.lt_of_lt_of_le (Nat.le_of_ble_eq_true rfl) hnx) (by omega) (by omega) (by decide) ?_
                                  refine R_aload_n dX5_measure_223 rfl rfl ?_
                                  refine R_getA fRX5_48 dX5_measure_224 rfl (Nat.lt_of_lt_of_le (Nat.le_of_ble_eq_true rfl) hnx) rfl ?_
                                  refine R_iload_n dX5_measure_227 rfl rfl ?_
                                  refine R_iconst dX5_measure_228 ?_
                                  refine R_iadd dX5_measure_229 ?_
                                  refine R_iload_n dX5_measure_230 rfl rfl ?_
                                  refine R_if_eq (tgt := 245) dX5_measure_231 (by decide) (fun c_231 => ?_) (fun c_231 => ?_)
                                  · first
                                    | (simp (discharger := omega) only [wr_id] at c_231; done)
                                    | (try simp (discharger := omega) only [wr_id] at c_231
                                       exfalso
                                       first | omega | exact c_231 trivial)
                                    | (try simp (discharger := omega) only [wr_id] at c_231
                                       refine R_aload_n dX5_measure_245 rfl rfl ?_
                                       refine R_getA fRX5_48 dX5_measure_246 rfl (Nat.lt_of_lt_of_le (Nat.le_of_ble_eq_true rfl) hnx) rfl ?_
                                       refine R_iload_n dX5_measure_249 rfl rfl ?_
                                       refine R_iaload (k := i) dX5_measure_250 rfl (Nat.lt_of_lt_of_le (Nat.le_of_ble_eq_true rfl) hnx) (by omega) (by omega) (by decide) ?_
                                       refine R_iastore (k := i + 1) dX5_measure_251 rfl (Nat.lt_of_lt_of_le (Nat.le_of_ble_eq_true rfl) hnx) (by omega) (by omega) (by decide) ?_
                                       refine R_iinc dX5_measure_252 rfl (Nat.le_of_ble_eq_true rfl) ?_
                                       refine R_goto (tgt := 43) dX5_measure_255 (by decide) ?_
                                       refine step hi2 _ (fun p hp => ?_) (fun p h1 h2 k hk => ?_) ?_ ?_ ?_ ?_ ?_ _ _
                                       · rw [up2_ne _ _ _ (by omega), up2_ne _ _ _ (by omega), up2_ne _ _ _ (by omega), up2_ne _ _ _ (by omega), up2_ne _ _ _ (by omega)]
                                       · simp only [up2_at]
                                         rw [if_neg (by omega), if_neg (by omega), if_neg (by omega), if_neg (by omega), if_neg (by omega)]
                                       · simp [up2_at, fW]
                                         first | (rw [if_pos (by omega)]; rw [q1, show (2 : Int) = ((2 : Nat) : Int) from rfl, bDivN (by omega) (by omega) (by omega)]; done) | (rw [if_neg (by omega)]; exact q1)
                                       · simp [up2_at, fH]
                                         first | (rw [if_pos (by omega)]; rw [q2, show (2 : Int) = ((2 : Nat) : Int) from rfl, bDivN (by omega) (by omega) (by omega)]; done) | (rw [if_neg (by omega)]; exact q2)
                                       · simp [up2_at, fP]
                                         first | (rw [if_pos (by omega)]; (try rfl); done) | (rw [if_neg (by omega)]; exact q3)
                                       · simp [up2_at, fL]
                                         rw [q4]
                                         first | (rw [if_pos (by omega)]; rfl) | (rw [if_neg (by omega), if_pos (by omega)]; rfl) | (rw [if_neg (by omega), if_neg (by omega), if_pos (by omega), q5]) | (rw [if_neg (by omega), if_neg (by omega), if_neg (by omega)]; rfl)
                                       · simp [up2_at, fS]
                                         first | (rw [if_pos (by omega), q5]; rfl) | (rw [if_neg (by omega)]; exact q5))
                                  · first
                                    | (simp (discharger := omega) only [wr_id] at c_231; done)
                                    | (try simp (discharger := omega) only [wr_id] at c_231
                                       exfalso
                                       first | omega | exact c_231 trivial)
                                    | (try simp (discharger := omega) only [wr_id] at c_231
                                       refine R_iconst dX5_measure_234 ?_
                                       refine R_aload_n dX5_measure_235 rfl rfl ?_
                                       refine R_getA fRX5_48 dX5_measure_236 rfl (Nat.lt_of_lt_of_le (Nat.le_of_ble_eq_true rfl) hnx) rfl ?_
                                       refine R_iload_n dX5_measure_239 rfl rfl ?_
                                       refine R_iaload (k := i) dX5_measure_240 rfl (Nat.lt_of_lt_of_le (Nat.le_of_ble_eq_true rfl) hnx) (by omega) (by omega) (by decide) ?_
                                       refine R_imul dX5_measure_241 ?_
                                       refine R_goto (tgt := 251) dX5_measure_242 (by decide) ?_
                                       refine R_iastore (k := i + 1) dX5_measure_251 rfl (Nat.lt_of_lt_of_le (Nat.le_of_ble_eq_true rfl) hnx) (by omega) (by omega) (by decide) ?_
                                       refine R_iinc dX5_measure_252 rfl (Nat.le_of_ble_eq_true rfl) ?_
                                       refine R_goto (tgt := 43) dX5_measure_255 (by decide) ?_
                                       refine step hi2 _ (fun p hp => ?_) (fun p h1 h2 k hk => ?_) ?_ ?_ ?_ ?_ ?_ _ _
                                       · rw [up2_ne _ _ _ (by omega), up2_ne _ _ _ (by omega), up2_ne _ _ _ (by omega), up2_ne _ _ _ (by omega), up2_ne _ _ _ (by omega)]
                                       · simp only [up2_at]
                                         rw [if_neg (by omega), if_neg (by omega), if_neg (by omega), if_neg (by omega), if_neg (by omega)]
                                       · simp [up2_at, fW]
                                         first | (rw [if_pos (by omega)]; rw [q1, show (2 : Int) = ((2 : Nat) : Int) from rfl, bDivN (by omega) (by omega) (by omega)]; done) | (rw [if_neg (by omega)]; exact q1)
                                       · simp [up2_at, fH]
                                         first | (rw [if_pos (by omega)]; rw [q2, show (2 : Int) = ((2 : Nat) : Int) from rfl, bDivN (by omega) (by omega) (by omega)]; done) | (rw [if_neg (by omega)]; exact q2)
                                       · simp [up2_at, fP]
                                         first | (rw [if_pos (by omega)]; (try rfl); done) | (rw [if_neg (by omega)]; exact q3)
                                       · simp [up2_at, fL]
                                         rw [q4]
                                         first | (rw [if_pos (by omega)]; rfl) | (rw [if_neg (by omega), if_pos (by omega)]; rfl) | (rw [if_neg (by omega), if_neg (by omega), if_pos (by omega), q5]) | (rw [if_neg (by omega), if_neg (by omega), if_neg (by omega)]; rfl)
                                       · simp [up2_at, fS]
                                         first | (rw [if_pos (by omega), q5]; rfl) | (rw [if_neg (by omega)]; exact q5)))
                             · first
                               | (simp (discharger := omega) only [wr_id] at c_161; done)
                               | (try simp (discharger := omega) only [wr_id] at c_161
                                  exfalso
                                  first | omega | exact c_161 trivial)
                               | (try simp (discharger := omega) only [wr_id] at c_161
                                  refine R_aload_n dX5_measure_164 rfl rfl ?_
                                  refine R_getA fRX5_24 dX5_measure_165 rfl (Nat.lt_of_lt_of_le (Nat.le_of_ble_eq_true rfl) hnx) rfl ?_
                                  refine R_iload_n dX5_measure_168 rfl rfl ?_
                                  refine R_iaload (k := i) dX5_measure_169 rfl (Nat.lt_of_lt_of_le (Nat.le_of_ble_eq_true rfl) hnx) (by omega) (by omega) (by decide) ?_
                                  refine R_iconst dX5_measure_170 ?_
                                  dsimp only
                                  rw [up2_ne _ _ _ (by decide), up2_ne _ _ _ (by decide), up2_ne _ _ _ (by decide), e6]
                                  refine R_icmp_ne (tgt := 178) dX5_measure_171 (by decide) (fun c_171 => ?_) (fun c_171 => ?_)
                                  · first
                                    | (simp (discharger := omega) only [wr_id] at c_171; done)
                                    | (try simp (discharger := omega) only [wr_id] at c_171
                                       exfalso
                                       first | omega | exact c_171 trivial)
                                    | (try simp (discharger := omega) only [wr_id] at c_171
                                       refine R_aload_n dX5_measure_178 rfl rfl ?_
                                       refine R_getA fRX5_24 dX5_measure_179 rfl (Nat.lt_of_lt_of_le (Nat.le_of_ble_eq_true rfl) hnx) rfl ?_
                                       refine R_iload_n dX5_measure_182 rfl rfl ?_
                                       refine R_iaload (k := i) dX5_measure_183 rfl (Nat.lt_of_lt_of_le (Nat.le_of_ble_eq_true rfl) hnx) (by omega) (by omega) (by decide) ?_
                                       refine R_iconst dX5_measure_184 ?_
                                       dsimp only
                                       rw [up2_ne _ _ _ (by decide), up2_ne _ _ _ (by decide), up2_ne _ _ _ (by decide), e6]
                                       refine R_icmp_ne (tgt := 192) dX5_measure_185 (by decide) (fun c_185 => ?_) (fun c_185 => ?_)
                                       · first
                                         | (simp (discharger := omega) only [wr_id] at c_185; done)
                                         | (try simp (discharger := omega) only [wr_id] at c_185
                                            exfalso
                                            first | omega | exact c_185 trivial)
                                         | (try simp (discharger := omega) only [wr_id] at c_185
                                            refine R_iload_n dX5_measure_192 rfl rfl ?_
                                            refine R_if_eq (tgt := 205) dX5_measure_193 (by decide) (fun c_193 => ?_) (fun c_193 => ?_)
                                            · first
                                              | (simp (discharger := omega) only [wr_id] at c_193; done)
                                              | (try simp (discharger := omega) only [wr_id] at c_193
                                                 exfalso
                                                 first | omega | exact c_193 trivial)
                                              | (try simp (discharger := omega) only [wr_id] at c_193
                                                 refine R_iconst dX5_measure_205 ?_
                                                 refine R_istore_n dX5_measure_206 rfl (Nat.le_of_ble_eq_true rfl) ?_
                                                 refine R_aload_n dX5_measure_207 rfl rfl ?_
                                                 refine R_getA fRX5_45 dX5_measure_208 rfl (Nat.lt_of_lt_of_le (Nat.le_of_ble_eq_true rfl) hnx) rfl ?_
                                                 refine R_iload_n dX5_measure_211 rfl rfl ?_
                                                 refine R_iconst dX5_measure_212 ?_
                                                 refine R_iadd dX5_measure_213 ?_
                                                 refine R_aload_n dX5_measure_214 rfl rfl ?_
                                                 refine R_getA fRX5_45 dX5_measure_215 rfl (Nat.lt_of_lt_of_le (Nat.le_of_ble_eq_true rfl) hnx) rfl ?_
                                                 refine R_iload_n dX5_measure_218 rfl rfl ?_
                                                 refine R_iaload (k := i) dX5_measure_219 rfl (Nat.lt_of_lt_of_le (Nat.le_of_ble_eq_true rfl) hnx) (by omega) (by omega) (by decide) ?_
                                                 refine R_iload_n dX5_measure_220 rfl rfl ?_
                                                 refine R_iadd dX5_measure_221 ?_
                                                 refine R_iastore (k := i + 1) dX5_measure_222 rfl (Nat.lt_of_lt_of_le (Nat.le_of_ble_eq_true rfl) hnx) (by omega) (by omega) (by decide) ?_
                                                 refine R_aload_n dX5_measure_223 rfl rfl ?_
                                                 refine R_getA fRX5_48 dX5_measure_224 rfl (Nat.lt_of_lt_of_le (Nat.le_of_ble_eq_true rfl) hnx) rfl ?_
                                                 refine R_iload_n dX5_measure_227 rfl rfl ?_
                                                 refine R_iconst dX5_measure_228 ?_
                                                 refine R_iadd dX5_measure_229 ?_
                                                 refine R_iload_n dX5_measure_230 rfl rfl ?_
                                                 refine R_if_eq (tgt := 245) dX5_measure_231 (by decide) (fun c_231 => ?_) (fun c_231 => ?_)
                                                 · first
                                                   | (simp (discharger := omega) only [wr_id] at c_231; done)
                                                   | (try simp (discharger := omega) only [wr_id] at c_231
                                                      exfalso
                                                      first | omega | exact c_231 trivial)
                                                   | (try simp (discharger := omega) only [wr_id] at c_231
                                                      refine R_aload_n dX5_measure_245 rfl rfl ?_
                                                      refine R_getA fRX5_48 dX5_measure_246 rfl (Nat.lt_of_lt_of_le (Nat.le_of_ble_eq_true rfl) hnx) rfl ?_
                                                      refine R_iload_n dX5_measure_249 rfl rfl ?_
                                                      refine R_iaload (k := i) dX5_measure_250 rfl (Nat.lt_of_lt_of_le (Nat.le_of_ble_eq_true rfl) hnx) (by omega) (by omega) (by decide) ?_
                                                      refine R_iastore (k := i + 1) dX5_measure_251 rfl (Nat.lt_of_lt_of_le (Nat.le_of_ble_eq_true rfl) hnx) (by omega) (by omega) (by decide) ?_
                                                      refine R_iinc dX5_measure_252 rfl (Nat.le_of_ble_eq_true rfl) ?_
                                                      refine R_goto (tgt := 43) dX5_measure_255 (by decide) ?_
                                                      refine step hi2 _ (fun p hp => ?_) (fun p h1 h2 k hk => ?_) ?_ ?_ ?_ ?_ ?_ _ _
                                                      · rw [up2_ne _ _ _ (by omega), up2_ne _ _ _ (by omega), up2_ne _ _ _ (by omega), up2_ne _ _ _ (by omega), up2_ne _ _ _ (by omega)]
                                                      · simp only [up2_at]
                                                        rw [if_neg (by omega), if_neg (by omega), if_neg (by omega), if_neg (by omega), if_neg (by omega)]
                                                      · simp [up2_at, fW]
                                                        first | (rw [if_pos (by omega)]; rw [q1, show (2 : Int) = ((2 : Nat) : Int) from rfl, bDivN (by omega) (by omega) (by omega)]; done) | (rw [if_neg (by omega)]; exact q1)
                                                      · simp [up2_at, fH]
                                                        first | (rw [if_pos (by omega)]; rw [q2, show (2 : Int) = ((2 : Nat) : Int) from rfl, bDivN (by omega) (by omega) (by omega)]; done) | (rw [if_neg (by omega)]; exact q2)
                                                      · simp [up2_at, fP]
                                                        first | (rw [if_pos (by omega)]; (try rfl); done) | (rw [if_neg (by omega)]; exact q3)
                                                      · simp [up2_at, fL]
                                                        rw [q4]
                                                        first | (rw [if_pos (by omega)]; rfl) | (rw [if_neg (by omega), if_pos (by omega)]; rfl) | (rw [if_neg (by omega), if_neg (by omega), if_pos (by omega), q5]) | (rw [if_neg (by omega), if_neg (by omega), if_neg (by omega)]; rfl)
                                                      · simp [up2_at, fS]
                                                        first | (rw [if_pos (by omega), q5]; rfl) | (rw [if_neg (by omega)]; exact q5))
                                                 · first
                                                   | (simp (discharger := omega) only [wr_id] at c_231; done)
                                                   | (try simp (discharger := omega) only [wr_id] at c_231
                                                      exfalso
                                                      first | omega | exact c_231 trivial)
                                                   | (try simp (discharger := omega) only [wr_id] at c_231
                                                      refine R_iconst dX5_measure_234 ?_
                                                      refine R_aload_n dX5_measure_235 rfl rfl ?_
                                                      refine R_getA fRX5_48 dX5_measure_236 rfl (Nat.lt_of_lt_of_le (Nat.le_of_ble_eq_true rfl) hnx) rfl ?_
                                                      refine R_iload_n dX5_measure_239 rfl rfl ?_
                                                      refine R_iaload (k := i) dX5_measure_240 rfl (Nat.lt_of_lt_of_le (Nat.le_of_ble_eq_true rfl) hnx) (by omega) (by omega) (by decide) ?_
                                                      refine R_imul dX5_measure_241 ?_
                                                      refine R_goto (tgt := 251) dX5_measure_242 (by decide) ?_
                                                      refine R_iastore (k := i + 1) dX5_measure_251 rfl (Nat.lt_of_lt_of_le (Nat.le_of_ble_eq_true rfl) hnx) (by omega) (by omega) (by decide) ?_
                                                      refine R_iinc dX5_measure_252 rfl (Nat.le_of_ble_eq_true rfl) ?_
                                                      refine R_goto (tgt := 43) dX5_measure_255 (by decide) ?_
                                                      refine step hi2 _ (fun p hp => ?_) (fun p h1 h2 k hk => ?_) ?_ ?_ ?_ ?_ ?_ _ _
                                                      · rw [up2_ne _ _ _ (by omega), up2_ne _ _ _ (by omega), up2_ne _ _ _ (by omega), up2_ne _ _ _ (by omega), up2_ne _ _ _ (by omega)]
                                                      · simp only [up2_at]
                                                        rw [if_neg (by omega), if_neg (by omega), if_neg (by omega), if_neg (by omega), if_neg (by omega)]
                                                      · simp [up2_at, fW]
                                                        first | (rw [if_pos (by omega)]; rw [q1, show (2 : Int) = ((2 : Nat) : Int) from rfl, bDivN (by omega) (by omega) (by omega)]; done) | (rw [if_neg (by omega)]; exact q1)
                                                      · simp [up2_at, fH]
                                                        first | (rw [if_pos (by omega)]; rw [q2, show (2 : Int) = ((2 : Nat) : Int) from rfl, bDivN (by omega) (by omega) (by omega)]; done) | (rw [if_neg (by omega)]; exact q2)
                                                      · simp [up2_at, fP]
                                                        first | (rw [if_pos (by omega)]; (try rfl); done) | (rw [if_neg (by omega)]; exact q3)
                                                      · simp [up2_at, fL]
                                                        rw [q4]
                                                        first | (rw [if_pos (by omega)]; rfl) | (rw [if_neg (by omega), if_pos (by omega)]; rfl) | (rw [if_neg (by omega), if_neg (by omega), if_pos (by omega), q5]) | (rw [if_neg (by omega), if_neg (by omega), if_neg (by omega)]; rfl)
                                                      · simp [up2_at, fS]
                                                        first | (rw [if_pos (by omega), q5]; rfl) | (rw [if_neg (by omega)]; exact q5)))
                                            · first
                                              | (simp (discharger := omega) only [wr_id] at c_193; done)
                                              | (try simp (discharger := omega) only [wr_id] at c_193
                                                 exfalso
                                                 first | omega | exact c_193 trivial)
                                              | (try simp (discharger := omega) only [wr_id] at c_193
                                                 refine R_aload_n dX5_measure_196 rfl rfl ?_
                                                 refine R_getA fRX5_48 dX5_measure_197 rfl (Nat.lt_of_lt_of_le (Nat.le_of_ble_eq_true rfl) hnx) rfl ?_
                                                 refine R_iload_n dX5_measure_200 rfl rfl ?_
                                                 refine R_iaload (k := i) dX5_measure_201 rfl (Nat.lt_of_lt_of_le (Nat.le_of_ble_eq_true rfl) hnx) (by omega) (by omega) (by decide) ?_
                                                 refine R_goto (tgt := 206) dX5_measure_202 (by decide) ?_
                                                 refine R_istore_n dX5_measure_206 rfl (Nat.le_of_ble_eq_true rfl) ?_
                                                 refine R_aload_n dX5_measure_207 rfl rfl ?_
                                                 refine R_getA fRX5_45 dX5_measure_208 rfl (Nat.lt_of_lt_of_le (Nat.le_of_ble_eq_true rfl) hnx) rfl ?_
                                                 refine R_iload_n dX5_measure_211 rfl rfl ?_
                                                 refine R_iconst dX5_measure_212 ?_
                                                 refine R_iadd dX5_measure_213 ?_
                                                 refine R_aload_n dX5_measure_214 rfl rfl ?_
                                                 refine R_getA fRX5_45 dX5_measure_215 rfl (Nat.lt_of_lt_of_le (Nat.le_of_ble_eq_true rfl) hnx) rfl ?_
                                                 refine R_iload_n dX5_measure_218 rfl rfl ?_
                                                 refine R_iaload (k := i) dX5_measure_219 rfl (Nat.lt_of_lt_of_le (Nat.le_of_ble_eq_true rfl) hnx) (by omega) (by omega) (by decide) ?_
                                                 refine R_iload_n dX5_measure_220 rfl rfl ?_
                                                 refine R_iadd dX5_measure_221 ?_
                                                 refine R_iastore (k := i + 1) dX5_measure_222 rfl (Nat.lt_of_lt_of_le (Nat.le_of_ble_eq_true rfl) hnx) (by omega) (by omega) (by decide) ?_
                                                 refine R_aload_n dX5_measure_223 rfl rfl ?_
                                                 refine R_getA fRX5_48 dX5_measure_224 rfl (Nat.lt_of_lt_of_le (Nat.le_of_ble_eq_true rfl) hnx) rfl ?_
                                                 refine R_iload_n dX5_measure_227 rfl rfl ?_
                                                 refine R_iconst dX5_measure_228 ?_
                                                 refine R_iadd dX5_measure_229 ?_
                                                 refine R_iload_n dX5_measure_230 rfl rfl ?_
                                                 refine R_if_eq (tgt := 245) dX5_measure_231 (by decide) (fun c_231 => ?_) (fun c_231 => ?_)
                                                 · first
                                                   | (simp (discharger := omega) only [wr_id] at c_231; done)
                                                   | (try simp (discharger := omega) only [wr_id] at c_231
                                                      exfalso
                                                      first | omega | exact c_231 trivial)
                                                   | (try simp (discharger := omega) only [wr_id] at c_231
                                                      refine R_aload_n dX5_measure_245 rfl rfl ?_
                                                      refine R_getA fRX5_48 dX5_measure_246 rfl (Nat.lt_of_lt_of_le (Nat.le_of_ble_eq_true rfl) hnx) rfl ?_
                                                      refine R_iload_n dX5_measure_249 rfl rfl ?_
                                                      refine R_iaload (k := i) dX5_measure_250 rfl (Nat.lt_of_lt_of_le (Nat.le_of_ble_eq_true rfl) hnx) (by omega) (by omega) (by decide) ?_
                                                      refine R_iastore (k := i + 1) dX5_measure_251 rfl (Nat.lt_of_lt_of_le (Nat.le_of_ble_eq_true rfl) hnx) (by omega) (by omega) (by decide) ?_
                                                      refine R_iinc dX5_measure_252 rfl (Nat.le_of_ble_eq_true rfl) ?_
                                                      refine R_goto (tgt := 43) dX5_measure_255 (by decide) ?_
                                                      refine step hi2 _ (fun p hp => ?_) (fun p h1 h2 k hk => ?_) ?_ ?_ ?_ ?_ ?_ _ _
                                                      · rw [up2_ne _ _ _ (by omega), up2_ne _ _ _ (by omega), up2_ne _ _ _ (by omega), up2_ne _ _ _ (by omega), up2_ne _ _ _ (by omega)]
                                                      · simp only [up2_at]
                                                        rw [if_neg (by omega), if_neg (by omega), if_neg (by omega), if_neg (by omega), if_neg (by omega)]
                                                      · simp [up2_at, fW]
                                                        first | (rw [if_pos (by omega)]; rw [q1, show (2 : Int) = ((2 : Nat) : Int) from rfl, bDivN (by omega) (by omega) (by omega)]; done) | (rw [if_neg (by omega)]; exact q1)
                                                      · simp [up2_at, fH]
                                                        first | (rw [if_pos (by omega)]; rw [q2, show (2 : Int) = ((2 : Nat) : Int) from rfl, bDivN (by omega) (by omega) (by omega)]; done) | (rw [if_neg (by omega)]; exact q2)
                                                      · simp [up2_at, fP]
                                                        first | (rw [if_pos (by omega)]; (try rfl); done) | (rw [if_neg (by omega)]; exact q3)
                                                      · simp [up2_at, fL]
                                                        rw [q4]
                                                        first | (rw [if_pos (by omega)]; rfl) | (rw [if_neg (by omega), if_pos (by omega)]; rfl) | (rw [if_neg (by omega), if_neg (by omega), if_pos (by omega), q5]) | (rw [if_neg (by omega), if_neg (by omega), if_neg (by omega)]; rfl)
                                                      · simp [up2_at, fS]
                                                        first | (rw [if_pos (by omega), q5]; rfl) | (rw [if_neg (by omega)]; exact q5))
                                                 · first
                                                   | (simp (discharger := omega) only [wr_id] at c_231; done)
                                                   | (try simp (discharger := omega) only [wr_id] at c_231
                                                      exfalso
                                                      first | omega | exact c_231 trivial)
                                                   | (try simp (discharger := omega) only [wr_id] at c_231
                                                      refine R_iconst dX5_measure_234 ?_
                                                      refine R_aload_n dX5_measure_235 rfl rfl ?_
                                                      refine R_getA fRX5_48 dX5_measure_236 rfl (Nat.lt_of_lt_of_le (Nat.le_of_ble_eq_true rfl) hnx) rfl ?_
                                                      refine R_iload_n dX5_measure_239 rfl rfl ?_
                                                      refine R_iaload (k := i) dX5_measure_240 rfl (Nat.lt_of_lt_of_le (Nat.le_of_ble_eq_true rfl) hnx) (by omega) (by omega) (by decide) ?_
                                                      refine R_imul dX5_measure_241 ?_
                                                      refine R_goto (tgt := 251) dX5_measure_242 (by decide) ?_
                                                      refine R_iastore (k := i + 1) dX5_measure_251 rfl (Nat.lt_of_lt_of_le (Nat.le_of_ble_eq_true rfl) hnx) (by omega) (by omega) (by decide) ?_
                                                      refine R_iinc dX5_measure_252 rfl (Nat.le_of_ble_eq_true rfl) ?_
                                                      refine R_goto (tgt := 43) dX5_measure_255 (by decide) ?_
                                                      refine step hi2 _ (fun p hp => ?_) (fun p h1 h2 k hk => ?_) ?_ ?_ ?_ ?_ ?_ _ _
                                                      · rw [up2_ne _ _ _ (by omega), up2_ne _ _ _ (by omega), up2_ne _ _ _ (by omega), up2_ne _ _ _ (by omega), up2_ne _ _ _ (by omega)]
                                                      · simp only [up2_at]
                                                        rw [if_neg (by omega), if_neg (by omega), if_neg (by omega), if_neg (by omega), if_neg (by omega)]
                                                      · simp [up2_at, fW]
                                                        first | (rw [if_pos (by omega)]; rw [q1, show (2 : Int) = ((2 : Nat) : Int) from rfl, bDivN (by omega) (by omega) (by omega)]; done) | (rw [if_neg (by omega)]; exact q1)
                                                      · simp [up2_at, fH]
                                                        first | (rw [if_pos (by omega)]; rw [q2, show (2 : Int) = ((2 : Nat) : Int) from rfl, bDivN (by omega) (by omega) (by omega)]; done) | (rw [if_neg (by omega)]; exact q2)
                                                      · simp [up2_at, fP]
                                                        first | (rw [if_pos (by omega)]; (try rfl); done) | (rw [if_neg (by omega)]; exact q3)
                                                      · simp [up2_at, fL]
                                                        rw [q4]
                                                        first | (rw [if_pos (by omega)]; rfl) | (rw [if_neg (by omega), if_pos (by omega)]; rfl) | (rw [if_neg (by omega), if_neg (by omega), if_pos (by omega), q5]) | (rw [if_neg (by omega), if_neg (by omega), if_neg (by omega)]; rfl)
                                                      · simp [up2_at, fS]
                                                        first | (rw [if_pos (by omega), q5]; rfl) | (rw [if_neg (by omega)]; exact q5))))
                                       · first
                                         | (simp (discharger := omega) only [wr_id] at c_185; done)
                                         | (try simp (discharger := omega) only [wr_id] at c_185
                                            exfalso
                                            first | omega | exact c_185 trivial)
                                         | (try simp (discharger := omega) only [wr_id] at c_185
                                            refine R_iconst dX5_measure_188 ?_
                                            refine R_goto (tgt := 206) dX5_measure_189 (by decide) ?_
                                            refine R_istore_n dX5_measure_206 rfl (Nat.le_of_ble_eq_true rfl) ?_
                                            refine R_aload_n dX5_measure_207 rfl rfl ?_
                                            refine R_getA fRX5_45 dX5_measure_208 rfl (Nat.lt_of_lt_of_le (Nat.le_of_ble_eq_true rfl) hnx) rfl ?_
                                            refine R_iload_n dX5_measure_211 rfl rfl ?_
                                            refine R_iconst dX5_measure_212 ?_
                                            refine R_iadd dX5_measure_213 ?_
                                            refine R_aload_n dX5_measure_214 rfl rfl ?_
                                            refine R_getA fRX5_45 dX5_measure_215 rfl (Nat.lt_of_lt_of_le (Nat.le_of_ble_eq_true rfl) hnx) rfl ?_
                                            refine R_iload_n dX5_measure_218 rfl rfl ?_
                                            refine R_iaload (k := i) dX5_measure_219 rfl (Nat.lt_of_lt_of_le (Nat.le_of_ble_eq_true rfl) hnx) (by omega) (by omega) (by decide) ?_
                                            refine R_iload_n dX5_measure_220 rfl rfl ?_
                                            refine R_iadd dX5_measure_221 ?_
                                            refine R_iastore (k := i + 1) dX5_measure_222 rfl (Nat.lt_of_lt_of_le (Nat.le_of_ble_eq_true rfl) hnx) (by omega) (by omega) (by decide) ?_
                                            refine R_aload_n dX5_measure_223 rfl rfl ?_
                                            refine R_getA fRX5_48 dX5_measure_224 rfl (Nat.lt_of_lt_of_le (Nat.le_of_ble_eq_true rfl) hnx) rfl ?_
                                            refine R_iload_n dX5_measure_227 rfl rfl ?_
                                            refine R_iconst dX5_measure_228 ?_
                                            refine R_iadd dX5_measure_229 ?_
                                            refine R_iload_n dX5_measure_230 rfl rfl ?_
                                            refine R_if_eq (tgt := 245) dX5_measure_231 (by decide) (fun c_231 => ?_) (fun c_231 => ?_)
                                            · first
                                              | (simp (discharger := omega) only [wr_id] at c_231; done)
                                              | (try simp (discharger := omega) only [wr_id] at c_231
                                                 exfalso
                                                 first | omega | exact c_231 trivial)
                                              | (try simp (discharger := omega) only [wr_id] at c_231
                                                 refine R_aload_n dX5_measure_245 rfl rfl ?_
                                                 refine R_getA fRX5_48 dX5_measure_246 rfl (Nat.lt_of_lt_of_le (Nat.le_of_ble_eq_true rfl) hnx) rfl ?_
                                                 refine R_iload_n dX5_measure_249 rfl rfl ?_
                                                 refine R_iaload (k := i) dX5_measure_250 rfl (Nat.lt_of_lt_of_le (Nat.le_of_ble_eq_true rfl) hnx) (by omega) (by omega) (by decide) ?_
                                                 refine R_iastore (k := i + 1) dX5_measure_251 rfl (Nat.lt_of_lt_of_le (Nat.le_of_ble_eq_true rfl) hnx) (by omega) (by omega) (by decide) ?_
                                                 refine R_iinc dX5_measure_252 rfl (Nat.le_of_ble_eq_true rfl) ?_
                                                 refine R_goto (tgt := 43) dX5_measure_255 (by decide) ?_
                                                 refine step hi2 _ (fun p hp => ?_) (fun p h1 h2 k hk => ?_) ?_ ?_ ?_ ?_ ?_ _ _
                                                 · rw [up2_ne _ _ _ (by omega), up2_ne _ _ _ (by omega), up2_ne _ _ _ (by omega), up2_ne _ _ _ (by omega), up2_ne _ _ _ (by omega)]
                                                 · simp only [up2_at]
                                                   rw [if_neg (by omega), if_neg (by omega), if_neg (by omega), if_neg (by omega), if_neg (by omega)]
                                                 · simp [up2_at, fW]
                                                   first | (rw [if_pos (by omega)]; rw [q1, show (2 : Int) = ((2 : Nat) : Int) from rfl, bDivN (by omega) (by omega) (by omega)]; done) | (rw [if_neg (by omega)]; exact q1)
                                                 · simp [up2_at, fH]
                                                   first | (rw [if_pos (by omega)]; rw [q2, show (2 : Int) = ((2 : Nat) : Int) from rfl, bDivN (by omega) (by omega) (by omega)]; done) | (rw [if_neg (by omega)]; exact q2)
                                                 · simp [up2_at, fP]
                                                   first | (rw [if_pos (by omega)]; (try rfl); done) | (rw [if_neg (by omega)]; exact q3)
                                                 · simp [up2_at, fL]
                                                   rw [q4]
                                                   first | (rw [if_pos (by omega)]; rfl) | (rw [if_neg (by omega), if_pos (by omega)]; rfl) | (rw [if_neg (by omega), if_neg (by omega), if_pos (by omega), q5]) | (rw [if_neg (by omega), if_neg (by omega), if_neg (by omega)]; rfl)
                                                 · simp [up2_at, fS]
                                                   first | (rw [if_pos (by omega), q5]; rfl) | (rw [if_neg (by omega)]; exact q5))
                                            · first
                                              | (simp (discharger := omega) only [wr_id] at c_231; done)
                                              | (try simp (discharger := omega) only [wr_id] at c_231
                                                 exfalso
                                                 first | omega | exact c_231 trivial)
                                              | (try simp (discharger := omega) only [wr_id] at c_231
                                                 refine R_iconst dX5_measure_234 ?_
                                                 refine R_aload_n dX5_measure_235 rfl rfl ?_
                                                 refine R_getA fRX5_48 dX5_measure_236 rfl (Nat.lt_of_lt_of_le (Nat.le_of_ble_eq_true rfl) hnx) rfl ?_
                                                 refine R_iload_n dX5_measure_239 rfl rfl ?_
                                                 refine R_iaload (k := i) dX5_measure_240 rfl (Nat.lt_of_lt_of_le (Nat.le_of_ble_eq_true rfl) hnx) (by omega) (by omega) (by decide) ?_
                                                 refine R_imul dX5_measure_241 ?_
                                                 refine R_goto (tgt := 251) dX5_measure_242 (by decide) ?_
                                                 refine R_iastore (k := i + 1) dX5_measure_251 rfl (Nat.lt_of_lt_of_le (Nat.le_of_ble_eq_true rfl) hnx) (by omega) (by omega) (by decide) ?_
                                                 refine R_iinc dX5_measure_252 rfl (Nat.le_of_ble_eq_true rfl) ?_
                                                 refine R_goto (tgt := 43) dX5_measure_255 (by decide) ?_
                                                 refine step hi2 _ (fun p hp => ?_) (fun p h1 h2 k hk => ?_) ?_ ?_ ?_ ?_ ?_ _ _
                                                 · rw [up2_ne _ _ _ (by omega), up2_ne _ _ _ (by omega), up2_ne _ _ _ (by omega), up2_ne _ _ _ (by omega), up2_ne _ _ _ (by omega)]
                                                 · simp only [up2_at]
                                                   rw [if_neg (by omega), if_neg (by omega), if_neg (by omega), if_neg (by omega), if_neg (by omega)]
                                                 · simp [up2_at, fW]
                                                   first | (rw [if_pos (by omega)]; rw [q1, show (2 : Int) = ((2 : Nat) : Int) from rfl, bDivN (by omega) (by omega) (by omega)]; done) | (rw [if_neg (by omega)]; exact q1)
                                                 · simp [up2_at, fH]
                                                   first | (rw [if_pos (by omega)]; rw [q2, show (2 : Int) = ((2 : Nat) : Int) from rfl, bDivN (by omega) (by omega) (by omega)]; done) | (rw [if_neg (by omega)]; exact q2)
                                                 · simp [up2_at, fP]
                                                   first | (rw [if_pos (by omega)]; (try rfl); done) | (rw [if_neg (by omega)]; exact q3)
                                                 · simp [up2_at, fL]
                                                   rw [q4]
                                                   first | (rw [if_pos (by omega)]; rfl) | (rw [if_neg (by omega), if_pos (by omega)]; rfl) | (rw [if_neg (by omega), if_neg (by omega), if_pos (by omega), q5]) | (rw [if_neg (by omega), if_neg (by omega), if_neg (by omega)]; rfl)
                                                 · simp [up2_at, fS]
                                                   first | (rw [if_pos (by omega), q5]; rfl) | (rw [if_neg (by omega)]; exact q5))))
                                  · first
                                    | (simp (discharger := omega) only [wr_id] at c_171; done)
                                    | (try simp (discharger := omega) only [wr_id] at c_171
                                       exfalso
                                       first | omega | exact c_171 trivial)
                                    | (try simp (discharger := omega) only [wr_id] at c_171
                                       refine R_iconst dX5_measure_174 ?_
                                       refine R_goto (tgt := 206) dX5_measure_175 (by decide) ?_
                                       refine R_istore_n dX5_measure_206 rfl (Nat.le_of_ble_eq_true rfl) ?_
                                       refine R_aload_n dX5_measure_207 rfl rfl ?_
                                       refine R_getA fRX5_45 dX5_measure_208 rfl (Nat.lt_of_lt_of_le (Nat.le_of_ble_eq_true rfl) hnx) rfl ?_
                                       refine R_iload_n dX5_measure_211 rfl rfl ?_
                                       refine R_iconst dX5_measure_212 ?_
                                       refine R_iadd dX5_measure_213 ?_
                                       refine R_aload_n dX5_measure_214 rfl rfl ?_
                                       refine R_getA fRX5_45 dX5_measure_215 rfl (Nat.lt_of_lt_of_le (Nat.le_of_ble_eq_true rfl) hnx) rfl ?_
                                       refine R_iload_n dX5_measure_218 rfl rfl ?_
                                       refine R_iaload (k := i) dX5_measure_219 rfl (Nat.lt_of_lt_of_le (Nat.le_of_ble_eq_true rfl) hnx) (by omega) (by omega) (by decide) ?_
                                       refine R_iload_n dX5_measure_220 rfl rfl ?_
                                       refine R_iadd dX5_measure_221 ?_
                                       refine R_iastore (k := i + 1) dX5_measure_222 rfl (Nat.lt_of_lt_of_le (Nat.le_of_ble_eq_true rfl) hnx) (by omega) (by omega) (by decide) ?_
                                       refine R_aload_n dX5_measure_223 rfl rfl ?_
                                       refine R_getA fRX5_48 dX5_measure_224 rfl (Nat.lt_of_lt_of_le (Nat.le_of_ble_eq_true rfl) hnx) rfl ?_
                                       refine R_iload_n dX5_measure_227 rfl rfl ?_
                                       refine R_iconst dX5_measure_228 ?_
                                       refine R_iadd dX5_measure_229 ?_
                                       refine R_iload_n dX5_measure_230 rfl rfl ?_
                                       refine R_if_eq (tgt := 245) dX5_measure_231 (by decide) (fun c_231 => ?_) (fun c_231 => ?_)
                                       · first
                                         | (simp (discharger := omega) only [wr_id] at c_231; done)
                                         | (try simp (discharger := omega) only [wr_id] at c_231
                                            exfalso
                                            first | omega | exact c_231 trivial)
                                         | (try simp (discharger := omega) only [wr_id] at c_231
                                            refine R_aload_n dX5_measure_245 rfl rfl ?_
                                            refine R_getA fRX5_48 dX5_measure_246 rfl (Nat.lt_of_lt_of_le (Nat.le_of_ble_eq_true rfl) hnx) rfl ?_
                                            refine R_iload_n dX5_measure_249 rfl rfl ?_
                                            refine R_iaload (k := i) dX5_measure_250 rfl (Nat.lt_of_lt_of_le (Nat.le_of_ble_eq_true rfl) hnx) (by omega) (by omega) (by decide) ?_
                                            refine R_iastore (k := i + 1) dX5_measure_251 rfl (Nat.lt_of_lt_of_le (Nat.le_of_ble_eq_true rfl) hnx) (by omega) (by omega) (by decide) ?_
                                            refine R_iinc dX5_measure_252 rfl (Nat.le_of_ble_eq_true rfl) ?_
                                            refine R_goto (tgt := 43) dX5_measure_255 (by decide) ?_
                                            refine step hi2 _ (fun p hp => ?_) (fun p h1 h2 k hk => ?_) ?_ ?_ ?_ ?_ ?_ _ _
                                            · rw [up2_ne _ _ _ (by omega), up2_ne _ _ _ (by omega), up2_ne _ _ _ (by omega), up2_ne _ _ _ (by omega), up2_ne _ _ _ (by omega)]
                                            · simp only [up2_at]
                                              rw [if_neg (by omega), if_neg (by omega), if_neg (by omega), if_neg (by omega), if_neg (by omega)]
                                            · simp [up2_at, fW]
                                              first | (rw [if_pos (by omega)]; rw [q1, show (2 : Int) = ((2 : Nat) : Int) from rfl, bDivN (by omega) (by omega) (by omega)]; done) | (rw [if_neg (by omega)]; exact q1)
                                            · simp [up2_at, fH]
                                              first | (rw [if_pos (by omega)]; rw [q2, show (2 : Int) = ((2 : Nat) : Int) from rfl, bDivN (by omega) (by omega) (by omega)]; done) | (rw [if_neg (by omega)]; exact q2)
                                            · simp [up2_at, fP]
                                              first | (rw [if_pos (by omega)]; (try rfl); done) | (rw [if_neg (by omega)]; exact q3)
                                            · simp [up2_at, fL]
                                              rw [q4]
                                              first | (rw [if_pos (by omega)]; rfl) | (rw [if_neg (by omega), if_pos (by omega)]; rfl) | (rw [if_neg (by omega), if_neg (by omega), if_pos (by omega), q5]) | (rw [if_neg (by omega), if_neg (by omega), if_neg (by omega)]; rfl)
                                            · simp [up2_at, fS]
                                              first | (rw [if_pos (by omega), q5]; rfl) | (rw [if_neg (by omega)]; exact q5))
                                       · first
                                         | (simp (discharger := omega) only [wr_id] at c_231; done)
                                         | (try simp (discharger := omega) only [wr_id] at c_231
                                            exfalso
                                            first | omega | exact c_231 trivial)
                                         | (try simp (discharger := omega) only [wr_id] at c_231
                                            refine R_iconst dX5_measure_234 ?_
                                            refine R_aload_n dX5_measure_235 rfl rfl ?_
                                            refine R_getA fRX5_48 dX5_measure_236 rfl (Nat.lt_of_lt_of_le (Nat.le_of_ble_eq_true rfl) hnx) rfl ?_
                                            refine R_iload_n dX5_measure_239 rfl rfl ?_
                                            refine R_iaload (k := i) dX5_measure_240 rfl (Nat.lt_of_lt_of_le (Nat.le_of_ble_eq_true rfl) hnx) (by omega) (by omega) (by decide) ?_
                                            refine R_imul dX5_measure_241 ?_
                                            refine R_goto (tgt := 251) dX5_measure_242 (by decide) ?_
                                            refine R_iastore (k := i + 1) dX5_measure_251 rfl (Nat.lt_of_lt_of_le (Nat.le_of_ble_eq_true rfl) hnx) (by omega) (by omega) (by decide) ?_
                                            refine R_iinc dX5_measure_252 rfl (Nat.le_of_ble_eq_true rfl) ?_
                                            refine R_goto (tgt := 43) dX5_measure_255 (by decide) ?_
                                            refine step hi2 _ (fun p hp => ?_) (fun p h1 h2 k hk => ?_) ?_ ?_ ?_ ?_ ?_ _ _
                                            · rw [up2_ne _ _ _ (by omega), up2_ne _ _ _ (by omega), up2_ne _ _ _ (by omega), up2_ne _ _ _ (by omega), up2_ne _ _ _ (by omega)]
                                            · simp only [up2_at]
                                              rw [if_neg (by omega), if_neg (by omega), if_neg (by omega), if_neg (by omega), if_neg (by omega)]
                                            · simp [up2_at, fW]
                                              first | (rw [if_pos (by omega)]; rw [q1, show (2 : Int) = ((2 : Nat) : Int) from rfl, bDivN (by omega) (by omega) (by omega)]; done) | (rw [if_neg (by omega)]; exact q1)
                                            · simp [up2_at, fH]
                                              first | (rw [if_pos (by omega)]; rw [q2, show (2 : Int) = ((2 : Nat) : Int) from rfl, bDivN (by omega) (by omega) (by omega)]; done) | (rw [if_neg (by omega)]; exact q2)
                                            · simp [up2_at, fP]
                                              first | (rw [if_pos (by omega)]; (try rfl); done) | (rw [if_neg (by omega)]; exact q3)
                                            · simp [up2_at, fL]
                                              rw [q4]
                                              first | (rw [if_pos (by omega)]; rfl) | (rw [if_neg (by omega), if_pos (by omega)]; rfl) | (rw [if_neg (by omega), if_neg (by omega), if_pos (by omega), q5]) | (rw [if_neg (by omega), if_neg (by omega), if_neg (by omega)]; rfl)
                                            · simp [up2_at, fS]
                                              first | (rw [if_pos (by omega), q5]; rfl) | (rw [if_neg (by omega)]; exact q5)))))))
              · first
                | (simp (discharger := omega) only [wr_id] at c_76; done)
                | (try simp (discharger := omega) only [wr_id] at c_76
                   exfalso
                   first | omega | exact c_76 trivial)
                | (try simp (discharger := omega) only [wr_id] at c_76
                   refine R_aload_n dX5_measure_79 rfl rfl ?_
                   refine R_getA fRX5_36 dX5_measure_80 rfl (Nat.lt_of_lt_of_le (Nat.le_of_ble_eq_true rfl) hnx) rfl ?_
                   refine R_iload_n dX5_measure_83 rfl rfl ?_
                   refine R_iaload (k := i) dX5_measure_84 rfl (Nat.lt_of_lt_of_le (Nat.le_of_ble_eq_true rfl) hnx) (by omega) (by omega) (by decide) ?_
                   refine R_iconst dX5_measure_85 ?_
                   refine R_idiv dX5_measure_86 (by decide) ?_
                   refine R_goto (tgt := 96) dX5_measure_87 (by decide) ?_
                   refine R_iastore (k := i + 1) dX5_measure_96 rfl (Nat.lt_of_lt_of_le (Nat.le_of_ble_eq_true rfl) hnx) (by omega) (by omega) (by decide) ?_
                   refine R_aload_n dX5_measure_97 rfl rfl ?_
                   refine R_getA fRX5_39 dX5_measure_98 rfl (Nat.lt_of_lt_of_le (Nat.le_of_ble_eq_true rfl) hnx) rfl ?_
                   refine R_iload_n dX5_measure_101 rfl rfl ?_
                   refine R_iconst dX5_measure_102 ?_
                   refine R_iadd dX5_measure_103 ?_
                   refine R_iload_n dX5_measure_104 rfl rfl ?_
                   refine R_if_eq (tgt := 119) dX5_measure_105 (by decide) (fun c_105 => ?_) (fun c_105 => ?_)
                   · first
                     | (simp (discharger := omega) only [wr_id] at c_105; done)
                     | (try simp (discharger := omega) only [wr_id] at c_105
                        exfalso
                        first | omega | exact c_105 trivial)
                     | (try simp (discharger := omega) only [wr_id] at c_105
                        refine R_aload_n dX5_measure_119 rfl rfl ?_
                        refine R_getA fRX5_39 dX5_measure_120 rfl (Nat.lt_of_lt_of_le (Nat.le_of_ble_eq_true rfl) hnx) rfl ?_
                        refine R_iload_n dX5_measure_123 rfl rfl ?_
                        refine R_iaload (k := i) dX5_measure_124 rfl (Nat.lt_of_lt_of_le (Nat.le_of_ble_eq_true rfl) hnx) (by omega) (by omega) (by decide) ?_
                        refine R_iastore (k := i + 1) dX5_measure_125 rfl (Nat.lt_of_lt_of_le (Nat.le_of_ble_eq_true rfl) hnx) (by omega) (by omega) (by decide) ?_
                        refine R_aload_n dX5_measure_126 rfl rfl ?_
                        refine R_getA fRX5_42 dX5_measure_127 rfl (Nat.lt_of_lt_of_le (Nat.le_of_ble_eq_true rfl) hnx) rfl ?_
                        refine R_iload_n dX5_measure_130 rfl rfl ?_
                        refine R_iconst dX5_measure_131 ?_
                        refine R_iadd dX5_measure_132 ?_
                        refine R_aload_n dX5_measure_133 rfl rfl ?_
                        refine R_getA fRX5_24 dX5_measure_134 rfl (Nat.lt_of_lt_of_le (Nat.le_of_ble_eq_true rfl) hnx) rfl ?_
                        refine R_iload_n dX5_measure_137 rfl rfl ?_
                        refine R_iaload (k := i) dX5_measure_138 rfl (Nat.lt_of_lt_of_le (Nat.le_of_ble_eq_true rfl) hnx) (by omega) (by omega) (by decide) ?_
                        refine R_iconst dX5_measure_139 ?_
                        dsimp only
                        rw [up2_ne _ _ _ (by decide), up2_ne _ _ _ (by decide), e6]
                        refine R_icmp_ne (tgt := 147) dX5_measure_140 (by decide) (fun c_140 => ?_) (fun c_140 => ?_)
                        · first
                          | (simp (discharger := omega) only [wr_id] at c_140; done)
                          | (try simp (discharger := omega) only [wr_id] at c_140
                             exfalso
                             first | omega | exact c_140 trivial)
                          | (try simp (discharger := omega) only [wr_id] at c_140
                             refine R_aload_n dX5_measure_147 rfl rfl ?_
                             refine R_getA fRX5_42 dX5_measure_148 rfl (Nat.lt_of_lt_of_le (Nat.le_of_ble_eq_true rfl) hnx) rfl ?_
                             refine R_iload_n dX5_measure_151 rfl rfl ?_
                             refine R_iaload (k := i) dX5_measure_152 rfl (Nat.lt_of_lt_of_le (Nat.le_of_ble_eq_true rfl) hnx) (by omega) (by omega) (by decide) ?_
                             refine R_iastore (k := i + 1) dX5_measure_153 rfl (Nat.lt_of_lt_of_le (Nat.le_of_ble_eq_true rfl) hnx) (by omega) (by omega) (by decide) ?_
                             refine R_aload_n dX5_measure_154 rfl rfl ?_
                             refine R_getA fRX5_24 dX5_measure_155 rfl (Nat.lt_of_lt_of_le (Nat.le_of_ble_eq_true rfl) hnx) rfl ?_
                             refine R_iload_n dX5_measure_158 rfl rfl ?_
                             refine R_iaload (k := i) dX5_measure_159 rfl (Nat.lt_of_lt_of_le (Nat.le_of_ble_eq_true rfl) hnx) (by omega) (by omega) (by decide) ?_
                             refine R_iconst dX5_measure_160 ?_
                             dsimp only
                             rw [up2_ne _ _ _ (by decide), up2_ne _ _ _ (by decide), up2_ne _ _ _ (by decide), e6]
                             refine R_icmp_eq (tgt := 174) dX5_measure_161 (by decide) (fun c_161 => ?_) (fun c_161 => ?_)
                             · first
                               | (simp (discharger := omega) only [wr_id] at c_161; done)
                               | (try simp (discharger := omega) only [wr_id] at c_161
                                  exfalso
                                  first | omega | exact c_161 trivial)
                               | (try simp (discharger := omega) only [wr_id] at c_161
                                  refine R_iconst dX5_measure_174 ?_
                                  refine R_goto (tgt := 206) dX5_measure_175 (by decide) ?_
                                  refine R_istore_n dX5_measure_206 rfl (Nat.le_of_ble_eq_true rfl) ?_
                                  refine R_aload_n dX5_measure_207 rfl rfl ?_
                                  refine R_getA fRX5_45 dX5_measure_208 rfl (Nat.lt_of_lt_of_le (Nat.le_of_ble_eq_true rfl) hnx) rfl ?_
                                  refine R_iload_n dX5_measure_211 rfl rfl ?_
                                  refine R_iconst dX5_measure_212 ?_
                                  refine R_iadd dX5_measure_213 ?_
                                  refine R_aload_n dX5_measure_214 rfl rfl ?_
                                  refine R_getA fRX5_45 dX5_measure_215 rfl (Nat.lt_of_lt_of_le (Nat.le_of_ble_eq_true rfl) hnx) rfl ?_
                                  refine R_iload_n dX5_measure_218 rfl rfl ?_
                                  refine R_iaload (k := i) dX5_measure_219 rfl (Nat.lt_of_lt_of_le (Nat.le_of_ble_eq_true rfl) hnx) (by omega) (by omega) (by decide) ?_
                                  refine R_iload_n dX5_measure_220 rfl rfl ?_
                                  refine R_iadd dX5_measure_221 ?_
                                  refine R_iastore (k := i + 1) dX5_measure_222 rfl (Nat.lt_of_lt_of_le (Nat.le_of_ble_eq_true rfl) hnx) (by omega) (by omega) (by decide) ?_
                                  refine R_aload_n dX5_measure_223 rfl rfl ?_
                                  refine R_getA fRX5_48 dX5_measure_224 rfl (Nat.lt_of_lt_of_le (Nat.le_of_ble_eq_true rfl) hnx) rfl ?_
                                  refine R_iload_n dX5_measure_227 rfl rfl ?_
                                  refine R_iconst dX5_measure_228 ?_
                                  refine R_iadd dX5_measure_229 ?_
                                  refine R_iload_n dX5_measure_230 rfl rfl ?_
                                  refine R_if_eq (tgt := 245) dX5_measure_231 (by decide) (fun c_231 => ?_) (fun c_231 => ?_)
                                  · first
                                    | (simp (discharger := omega) only [wr_id] at c_231; done)
                                    | (try simp (discharger := omega) only [wr_id] at c_231
                                       exfalso
                                       first | omega | exact c_231 trivial)
                                    | (try simp (discharger := omega) only [wr_id] at c_231
                                       refine R_aload_n dX5_measure_245 rfl rfl ?_
                                       refine R_getA fRX5_48 dX5_measure_246 rfl (Nat.lt_of_lt_of_le (Nat.le_of_ble_eq_true rfl) hnx) rfl ?_
                                       refine R_iload_n dX5_measure_249 rfl rfl ?_
                                       refine R_iaload (k := i) dX5_measure_250 rfl (Nat.lt_of_lt_of_le (Nat.le_of_ble_eq_true rfl) hnx) (by omega) (by omega) (by decide) ?_
                                       refine R_iastore (k := i + 1) dX5_measure_251 rfl (Nat.lt_of_lt_of_le (Nat.le_of_ble_eq_true rfl) hnx) (by omega) (by omega) (by decide) ?_
                                       refine R_iinc dX5_measure_252 rfl (Nat.le_of_ble_eq_true rfl) ?_
                                       refine R_goto (tgt := 43) dX5_measure_255 (by decide) ?_
                                       refine step hi2 _ (fun p hp => ?_) (fun p h1 h2 k hk => ?_) ?_ ?_ ?_ ?_ ?_ _ _
                                       · rw [up2_ne _ _ _ (by omega), up2_ne _ _ _ (by omega), up2_ne _ _ _ (by omega), up2_ne _ _ _ (by omega), up2_ne _ _ _ (by omega)]
                                       · simp only [up2_at]
                                         rw [if_neg (by omega), if_neg (by omega), if_neg (by omega), if_neg (by omega), if_neg (by omega)]
                                       · simp [up2_at, fW]
                                         first | (rw [if_pos (by omega)]; rw [q1, show (2 : Int) = ((2 : Nat) : Int) from rfl, bDivN (by omega) (by omega) (by omega)]; done) | (rw [if_neg (by omega)]; exact q1)
                                       · simp [up2_at, fH]
                                         first | (rw [if_pos (by omega)]; rw [q2, show (2 : Int) = ((2 : Nat) : Int) from rfl, bDivN (by omega) (by omega) (by omega)]; done) | (rw [if_neg (by omega)]; exact q2)
                                       · simp [up2_at, fP]
                                         first | (rw [if_pos (by omega)]; (try rfl); done) | (rw [if_neg (by omega)]; exact q3)
                                       · simp [up2_at, fL]
                                         rw [q4]
                                         first | (rw [if_pos (by omega)]; rfl) | (rw [if_neg (by omega), if_pos (by omega)]; rfl) | (rw [if_neg (by omega), if_neg (by omega), if_pos (by omega), q5]) | (rw [if_neg (by omega), if_neg (by omega), if_neg (by omega)]; rfl)
                                       · simp [up2_at, fS]
                                         first | (rw [if_pos (by omega), q5]; rfl) | (rw [if_neg (by omega)]; exact q5))
                                  · first
                                    | (simp (discharger := omega) only [wr_id] at c_231; done)
                                    | (try simp (discharger := omega) only [wr_id] at c_231
                                       exfalso
                                       first | omega | exact c_231 trivial)
                                    | (try simp (discharger := omega) only [wr_id] at c_231
                                       refine R_iconst dX5_measure_234 ?_
                                       refine R_aload_n dX5_measure_235 rfl rfl ?_
                                       refine R_getA fRX5_48 dX5_measure_236 rfl (Nat.lt_of_lt_of_le (Nat.le_of_ble_eq_true rfl) hnx) rfl ?_
                                       refine R_iload_n dX5_measure_239 rfl rfl ?_
                                       refine R_iaload (k := i) dX5_measure_240 rfl (Nat.lt_of_lt_of_le (Nat.le_of_ble_eq_true rfl) hnx) (by omega) (by omega) (by decide) ?_
                                       refine R_imul dX5_measure_241 ?_
                                       refine R_goto (tgt := 251) dX5_measure_242 (by decide) ?_
                                       refine R_iastore (k := i + 1) dX5_measure_251 rfl (Nat.lt_of_lt_of_le (Nat.le_of_ble_eq_true rfl) hnx) (by omega) (by omega) (by decide) ?_
                                       refine R_iinc dX5_measure_252 rfl (Nat.le_of_ble_eq_true rfl) ?_
                                       refine R_goto (tgt := 43) dX5_measure_255 (by decide) ?_
                                       refine step hi2 _ (fun p hp => ?_) (fun p h1 h2 k hk => ?_) ?_ ?_ ?_ ?_ ?_ _ _
                                       · rw [up2_ne _ _ _ (by omega), up2_ne _ _ _ (by omega), up2_ne _ _ _ (by omega), up2_ne _ _ _ (by omega), up2_ne _ _ _ (by omega)]
                                       · simp only [up2_at]
                                         rw [if_neg (by omega), if_neg (by omega), if_neg (by omega), if_neg (by omega), if_neg (by omega)]
                                       · simp [up2_at, fW]
                                         first | (rw [if_pos (by omega)]; rw [q1, show (2 : Int) = ((2 : Nat) : Int) from rfl, bDivN (by omega) (by omega) (by omega)]; done) | (rw [if_neg (by omega)]; exact q1)
                                       · simp [up2_at, fH]
                                         first | (rw [if_pos (by omega)]; rw [q2, show (2 : Int) = ((2 : Nat) : Int) from rfl, bDivN (by omega) (by omega) (by omega)]; done) | (rw [if_neg (by omega)]; exact q2)
                                       · simp [up2_at, fP]
                                         first | (rw [if_pos (by omega)]; (try rfl); done) | (rw [if_neg (by omega)]; exact q3)
                                       · simp [up2_at, fL]
                                         rw [q4]
                                         first | (rw [if_pos (by omega)]; rfl) | (rw [if_neg (by omega), if_pos (by omega)]; rfl) | (rw [if_neg (by omega), if_neg (by omega), if_pos (by omega), q5]) | (rw [if_neg (by omega), if_neg (by omega), if_neg (by omega)]; rfl)
                                       · simp [up2_at, fS]
                                         first | (rw [if_pos (by omega), q5]; rfl) | (rw [if_neg (by omega)]; exact q5)))
                             · first
                               | (simp (discharger := omega) only [wr_id] at c_161; done)
                               | (try simp (discharger := omega) only [wr_id] at c_161
                                  exfalso
                                  first | omega | exact c_161 trivial)
                               | (try simp (discharger := omega) only [wr_id] at c_161
                                  refine R_aload_n dX5_measure_164 rfl rfl ?_
                                  refine R_getA fRX5_24 dX5_measure_165 rfl (Nat.lt_of_lt_of_le (Nat.le_of_ble_eq_true rfl) hnx) rfl ?_
                                  refine R_iload_n dX5_measure_168 rfl rfl ?_
                                  refine R_iaload (k := i) dX5_measure_169 rfl (Nat.lt_of_lt_of_le (Nat.le_of_ble_eq_true rfl) hnx) (by omega) (by omega) (by decide) ?_
                                  refine R_iconst dX5_measure_170 ?_
                                  dsimp only
                                  rw [up2_ne _ _ _ (by decide), up2_ne _ _ _ (by decide), up2_ne _ _ _ (by decide), e6]
                                  refine R_icmp_ne (tgt := 178) dX5_measure_171 (by decide) (fun c_171 => ?_) (fun c_171 => ?_)
                                  · first
                                    | (simp (discharger := omega) only [wr_id] at c_171; done)
                                    | (try simp (discharger := omega) only [wr_id] at c_171
                                       exfalso
                                       first | omega | exact c_171 trivial)
                                    | (try simp (discharger := omega) only [wr_id] at c_171
                                       refine R_aload_n dX5_measure_178 rfl rfl ?_
                                       refine R_getA fRX5_24 dX5_measure_179 rfl (Nat.lt_of_lt_of_le (Nat.le_of_ble_eq_true rfl) hnx) rfl ?_
                                       refine R_iload_n dX5_measure_182 rfl rfl ?_
                                       refine R_iaload (k := i) dX5_measure_183 rfl (Nat.lt_of_lt_of_le (Nat.le_of_ble_eq_true rfl) hnx) (by omega) (by omega) (by decide) ?_
                                       refine R_iconst dX5_measure_184 ?_
                                       dsimp only
                                       rw [up2_ne _ _ _ (by decide), up2_ne _ _ _ (by decide), up2_ne _ _ _ (by decide), e6]
                                       refine R_icmp_ne (tgt := 192) dX5_measure_185 (by decide) (fun c_185 => ?_) (fun c_185 => ?_)
                                       · first
                                         | (simp (discharger := omega) only [wr_id] at c_185; done)
                                         | (try simp (discharger := omega) only [wr_id] at c_185
                                            exfalso
                                            first | omega | exact c_185 trivial)
                                         | (try simp (discharger := omega) only [wr_id] at c_185
                                            refine R_iload_n dX5_measure_192 rfl rfl ?_
                                            refine R_if_eq (tgt := 205) dX5_measure_193 (by decide) (fun c_193 => ?_) (fun c_193 => ?_)
                                            · first
                                              | (simp (discharger := omega) only [wr_id] at c_193; done)
                                              | (try simp (discharger := omega) only [wr_id] at c_193
                                                 exfalso
                                                 first | omega | exact c_193 trivial)
                                              | (try simp (discharger := omega) only [wr_id] at c_193
                                                 refine R_iconst dX5_measure_205 ?_
                                                 refine R_istore_n dX5_measure_206 rfl (Nat.le_of_ble_eq_true rfl) ?_
                                                 refine R_aload_n dX5_measure_207 rfl rfl ?_
                                                 refine R_getA fRX5_45 dX5_measure_208 rfl (Nat.lt_of_lt_of_le (Nat.le_of_ble_eq_true rfl) hnx) rfl ?_
                                                 refine R_iload_n dX5_measure_211 rfl rfl ?_
                                                 refine R_iconst dX5_measure_212 ?_
                                                 refine R_iadd dX5_measure_213 ?_
                                                 refine R_aload_n dX5_measure_214 rfl rfl ?_
                                                 refine R_getA fRX5_45 dX5_measure_215 rfl (Nat.lt_of_lt_of_le (Nat.le_of_ble_eq_true rfl) hnx) rfl ?_
                                                 refine R_iload_n dX5_measure_218 rfl rfl ?_
                                                 refine R_iaload (k := i) dX5_measure_219 rfl (Nat.lt_of_lt_of_le (Nat.le_of_ble_eq_true rfl) hnx) (by omega) (by omega) (by decide) ?_
                                                 refine R_iload_n dX5_measure_220 rfl rfl ?_
                                                 refine R_iadd dX5_measure_221 ?_
                                                 refine R_iastore (k := i + 1) dX5_measure_222 rfl (Nat.lt_of_lt_of_le (Nat.le_of_ble_eq_true rfl) hnx) (by omega) (by omega) (by decide) ?_
                                                 refine R_aload_n dX5_measure_223 rfl rfl ?_
                                                 refine R_getA fRX5_48 dX5_measure_224 rfl (Nat.lt_of_lt_of_le (Nat.le_of_ble_eq_true rfl) hnx) rfl ?_
                                                 refine R_iload_n dX5_measure_227 rfl rfl ?_
                                                 refine R_iconst dX5_measure_228 ?_
                                                 refine R_iadd dX5_measure_229 ?_
                                                 refine R_iload_n dX5_measure_230 rfl rfl ?_
                                                 refine R_if_eq (tgt := 245) dX5_measure_231 (by decide) (fun c_231 => ?_) (fun c_231 => ?_)
                                                 · first
                                                   | (simp (discharger := omega) only [wr_id] at c_231; done)
                                                   | (try simp (discharger := omega) only [wr_id] at c_231
                                                      exfalso
                                                      first | omega | exact c_231 trivial)
                                                   | (try simp (discharger := omega) only [wr_id] at c_231
                                                      refine R_aload_n dX5_measure_245 rfl rfl ?_
                                                      refine R_getA fRX5_48 dX5_measure_246 rfl (Nat.lt_of_lt_of_le (Nat.le_of_ble_eq_true rfl) hnx) rfl ?_
                                                      refine R_iload_n dX5_measure_249 rfl rfl ?_
                                                      refine R_iaload (k := i) dX5_measure_250 rfl (Nat.lt_of_lt_of_le (Nat.le_of_ble_eq_true rfl) hnx) (by omega) (by omega) (by decide) ?_
                                                      refine R_iastore (k := i + 1) dX5_measure_251 rfl (Nat.lt_of_lt_of_le (Nat.le_of_ble_eq_true rfl) hnx) (by omega) (by omega) (by decide) ?_
                                                      refine R_iinc dX5_measure_252 rfl (Nat.le_of_ble_eq_true rfl) ?_
                                                      refine R_goto (tgt := 43) dX5_measure_255 (by decide) ?_
                                                      refine step hi2 _ (fun p hp => ?_) (fun p h1 h2 k hk => ?_) ?_ ?_ ?_ ?_ ?_ _ _
                                                      · rw [up2_ne _ _ _ (by omega), up2_ne _ _ _ (by omega), up2_ne _ _ _ (by omega), up2_ne _ _ _ (by omega), up2_ne _ _ _ (by omega)]
                                                      · simp only [up2_at]
                                                        rw [if_neg (by omega), if_neg (by omega), if_neg (by omega), if_neg (by omega), if_neg (by omega)]
                                                      · simp [up2_at, fW]
                                                        first | (rw [if_pos (by omega)]; rw [q1, show (2 : Int) = ((2 : Nat) : Int) from rfl, bDivN (by omega) (by omega) (by omega)]; done) | (rw [if_neg (by omega)]; exact q1)
                                                      · simp [up2_at, fH]
                                                        first | (rw [if_pos (by omega)]; rw [q2, show (2 : Int) = ((2 : Nat) : Int) from rfl, bDivN (by omega) (by omega) (by omega)]; done) | (rw [if_neg (by omega)]; exact q2)
                                                      · simp [up2_at, fP]
                                                        first | (rw [if_pos (by omega)]; (try rfl); done) | (rw [if_neg (by omega)]; exact q3)
                                                      · simp [up2_at, fL]
                                                        rw [q4]
                                                        first | (rw [if_pos (by omega)]; rfl) | (rw [if_neg (by omega), if_pos (by omega)]; rfl) | (rw [if_neg (by omega), if_neg (by omega), if_pos (by omega), q5]) | (rw [if_neg (by omega), if_neg (by omega), if_neg (by omega)]; rfl)
                                                      · simp [up2_at, fS]
                                                        first | (rw [if_pos (by omega), q5]; rfl) | (rw [if_neg (by omega)]; exact q5))
                                                 · first
                                                   | (simp (discharger := omega) only [wr_id] at c_231; done)
                                                   | (try simp (discharger := omega) only [wr_id] at c_231
                                                      exfalso
                                                      first | omega | exact c_231 trivial)
                                                   | (try simp (discharger := omega) only [wr_id] at c_231
                                                      refine R_iconst dX5_measure_234 ?_
                                                      refine R_aload_n dX5_measure_235 rfl rfl ?_
                                                      refine R_getA fRX5_48 dX5_measure_236 rfl (Nat.lt_of_lt_of_le (Nat.le_of_ble_eq_true rfl) hnx) rfl ?_
                                                      refine R_iload_n dX5_measure_239 rfl rfl ?_
                                                      refine R_iaload (k := i) dX5_measure_240 rfl (Nat.lt_of_lt_of_le (Nat.le_of_ble_eq_true rfl) hnx) (by omega) (by omega) (by decide) ?_
                                                      refine R_imul dX5_measure_241 ?_
                                                      refine R_goto (tgt := 251) dX5_measure_242 (by decide) ?_
                                                      refine R_iastore (k := i + 1) dX5_measure_251 rfl (Nat.lt_of_lt_of_le (Nat.le_of_ble_eq_true rfl) hnx) (by omega) (by omega) (by decide) ?_
                                                      refine R_iinc dX5_measure_252 rfl (Nat.le_of_ble_eq_true rfl) ?_
                                                      refine R_goto (tgt := 43) dX5_measure_255 (by decide) ?_
                                                      refine step hi2 _ (fun p hp => ?_) (fun p h1 h2 k hk => ?_) ?_ ?_ ?_ ?_ ?_ _ _
                                                      · rw [up2_ne _ _ _ (by omega), up2_ne _ _ _ (by omega), up2_ne _ _ _ (by omega), up2_ne _ _ _ (by omega), up2_ne _ _ _ (by omega)]
                                                      · simp only [up2_at]
                                                        rw [if_neg (by omega), if_neg (by omega), if_neg (by omega), if_neg (by omega), if_neg (by omega)]
                                                      · simp [up2_at, fW]
                                                        first | (rw [if_pos (by omega)]; rw [q1, show (2 : Int) = ((2 : Nat) : Int) from rfl, bDivN (by omega) (by omega) (by omega)]; done) | (rw [if_neg (by omega)]; exact q1)
                                                      · simp [up2_at, fH]
                                                        first | (rw [if_pos (by omega)]; rw [q2, show (2 : Int) = ((2 : Nat) : Int) from rfl, bDivN (by omega) (by omega) (by omega)]; done) | (rw [if_neg (by omega)]; exact q2)
                                                      · simp [up2_at, fP]
                                                        first | (rw [if_pos (by omega)]; (try rfl); done) | (rw [if_neg (by omega)]; exact q3)
                                                      · simp [up2_at, fL]
                                                        rw [q4]
                                                        first | (rw [if_pos (by omega)]; rfl) | (rw [if_neg (by omega), if_pos (by omega)]; rfl) | (rw [if_neg (by omega), if_neg (by omega), if_pos (by omega), q5]) | (rw [if_neg (by omega), if_neg (by omega), if_neg (by omega)]; rfl)
                                                      · simp [up2_at, fS]
                                                        first | (rw [if_pos (by omega), q5]; rfl) | (rw [if_neg (by omega)]; exact q5)))
                                            · first
                                              | (simp (discharger := omega) only [wr_id] at c_193; done)
                                              | (try simp (discharger := omega) only [wr_id] at c_193
                                                 exfalso
                                                 first | omega | exact c_193 trivial)
                                              | (try simp (discharger := omega) only [wr_id] at c_193
                                                 refine R_aload_n dX5_measure_196 rfl rfl ?_
                                                 refine R_getA fRX5_48 dX5_measure_197 rfl (Nat.lt_of_lt_of_le (Nat.le_of_ble_eq_true rfl) hnx) rfl ?_
                                                 refine R_iload_n dX5_measure_200 rfl rfl ?_
                                                 refine R_iaload (k := i) dX5_measure_201 rfl (Nat.lt_of_lt_of_le (Nat.le_of_ble_eq_true rfl) hnx) (by omega) (by omega) (by decide) ?_
                                                 refine R_goto (tgt := 206) dX5_measure_202 (by decide) ?_
                                                 refine R_istore_n dX5_measure_206 rfl (Nat.le_of_ble_eq_true rfl) ?_
                                                 refine R_aload_n dX5_measure_207 rfl rfl ?_
                                                 refine R_getA fRX5_45 dX5_measure_208 rfl (Nat.lt_of_lt_of_le (Nat.le_of_ble_eq_true rfl) hnx) rfl ?_
                                                 refine R_iload_n dX5_measure_211 rfl rfl ?_
                                                 refine R_iconst dX5_measure_212 ?_
                                                 refine R_iadd dX5_measure_213 ?_
                                                 refine R_aload_n dX5_measure_214 rfl rfl ?_
                                                 refine R_getA fRX5_45 dX5_measure_215 rfl (Nat.lt_of_lt_of_le (Nat.le_of_ble_eq_true rfl) hnx) rfl ?_
                                                 refine R_iload_n dX5_measure_218 rfl rfl ?_
                                                 refine R_iaload (k := i) dX5_measure_219 rfl (Nat.lt_of_lt_of_le (Nat.le_of_ble_eq_true rfl) hnx) (by omega) (by omega) (by decide) ?_
                                                 refine R_iload_n dX5_measure_220 rfl rfl ?_
                                                 refine R_iadd dX5_measure_221 ?_
                                                 refine R_iastore (k := i + 1) dX5_measure_222 rfl (Nat.lt_of_lt_of_le (Nat.le_of_ble_eq_true rfl) hnx) (by omega) (by omega) (by decide) ?_
                                                 refine R_aload_n dX5_measure_223 rfl rfl ?_
                                                 refine R_getA fRX5_48 dX5_measure_224 rfl (Nat.lt_of_lt_of_le (Nat.le_of_ble_eq_true rfl) hnx) rfl ?_
                                                 refine R_iload_n dX5_measure_227 rfl rfl ?_
                                                 refine R_iconst dX5_measure_228 ?_
                                                 refine R_iadd dX5_measure_229 ?_
                                                 refine R_iload_n dX5_measure_230 rfl rfl ?_
                                                 refine R_if_eq (tgt := 245) dX5_measure_231 (by decide) (fun c_231 => ?_) (fun c_231 => ?_)
                                                 · first
                                                   | (simp (discharger := omega) only [wr_id] at c_231; done)
                                                   | (try simp (discharger := omega) only [wr_id] at c_231
                                                      exfalso
                                                      first | omega | exact c_231 trivial)
                                                   | (try simp (discharger := omega) only [wr_id] at c_231
                                                      refine R_aload_n dX5_measure_245 rfl rfl ?_
                                                      refine R_getA fRX5_48 dX5_measure_246 rfl (Nat.lt_of_lt_of_le (Nat.le_of_ble_eq_true rfl) hnx) rfl ?_
                                                      refine R_iload_n dX5_measure_249 rfl rfl ?_
                                                      refine R_iaload (k := i) dX5_measure_250 rfl (Nat.lt_of_lt_of_le (Nat.le_of_ble_eq_true rfl) hnx) (by omega) (by omega) (by decide) ?_
                                                      refine R_iastore (k := i + 1) dX5_measure_251 rfl (Nat.lt_of_lt_of_le (Nat.le_of_ble_eq_true rfl) hnx) (by omega) (by omega) (by decide) ?_
                                                      refine R_iinc dX5_measure_252 rfl (Nat.le_of_ble_eq_true rfl) ?_
                                                      refine R_goto (tgt := 43) dX5_measure_255 (by decide) ?_
                                                      refine step hi2 _ (fun p hp => ?_) (fun p h1 h2 k hk => ?_) ?_ ?_ ?_ ?_ ?_ _ _
                                                      · rw [up2_ne _ _ _ (by omega), up2_ne _ _ _ (by omega), up2_ne _ _ _ (by omega), up2_ne _ _ _ (by omega), up2_ne _ _ _ (by omega)]
                                                      · simp only [up2_at]
                                                        rw [if_neg (by omega), if_neg (by omega), if_neg (by omega), if_neg (by omega), if_neg (by omega)]
                                                      · simp [up2_at, fW]
                                                        first | (rw [if_pos (by omega)]; rw [q1, show (2 : Int) = ((2 : Nat) : Int) from rfl, bDivN (by omega) (by omega) (by omega)]; done) | (rw [if_neg (by omega)]; exact q1)
                                                      · simp [up2_at, fH]
                                                        first | (rw [if_pos (by omega)]; rw [q2, show (2 : Int) = ((2 : Nat) : Int) from rfl, bDivN (by omega) (by omega) (by omega)]; done) | (rw [if_neg (by omega)]; exact q2)
                                                      · simp [up2_at, fP]
                                                        first | (rw [if_pos (by omega)]; (try rfl); done) | (rw [if_neg (by omega)]; exact q3)
                                                      · simp [up2_at, fL]
                                                        rw [q4]
                                                        first | (rw [if_pos (by omega)]; rfl) | (rw [if_neg (by omega), if_pos (by omega)]; rfl) | (rw [if_neg (by omega), if_neg (by omega), if_pos (by omega), q5]) | (rw [if_neg (by omega), if_neg (by omega), if_neg (by omega)]; rfl)
                                                      · simp [up2_at, fS]
                                                        first | (rw [if_pos (by omega), q5]; rfl) | (rw [if_neg (by omega)]; exact q5))
                                                 · first
                                                   | (simp (discharger := omega) only [wr_id] at c_231; done)
                                                   | (try simp (discharger := omega) only [wr_id] at c_231
                                                      exfalso
                                                      first | omega | exact c_231 trivial)
                                                   | (try simp (discharger := omega) only [wr_id] at c_231
                                                      refine R_iconst dX5_measure_234 ?_
                                                      refine R_aload_n dX5_measure_235 rfl rfl ?_
                                                      refine R_getA fRX5_48 dX5_measure_236 rfl (Nat.lt_of_lt_of_le (Nat.le_of_ble_eq_true rfl) hnx) rfl ?_
                                                      refine R_iload_n dX5_measure_239 rfl rfl ?_
                                                      refine R_iaload (k := i) dX5_measure_240 rfl (Nat.lt_of_lt_of_le (Nat.le_of_ble_eq_true rfl) hnx) (by omega) (by omega) (by decide) ?_
                                                      refine R_imul dX5_measure_241 ?_
                                                      refine R_goto (tgt := 251) dX5_measure_242 (by decide) ?_
                                                      refine R_iastore (k := i + 1) dX5_measure_251 rfl (Nat.lt_of_lt_of_le (Nat.le_of_ble_eq_true rfl) hnx) (by omega) (by omega) (by decide) ?_
                                                      refine R_iinc dX5_measure_252 rfl (Nat.le_of_ble_eq_true rfl) ?_
                                                      refine R_goto (tgt := 43) dX5_measure_255 (by decide) ?_
                                                      refine step hi2 _ (fun p hp => ?_) (fun p h1 h2 k hk => ?_) ?_ ?_ ?_ ?_ ?_ _ _
                                                      · rw [up2_ne _ _ _ (by omega), up2_ne _ _ _ (by omega), up2_ne _ _ _ (by omega), up2_ne _ _ _ (by omega), up2_ne _ _ _ (by omega)]
                                                      · simp only [up2_at]
                                                        rw [if_neg (by omega), if_neg (by omega), if_neg (by omega), if_neg (by omega), if_neg (by omega)]
                                                      · simp [up2_at, fW]
                                                        first | (rw [if_pos (by omega)]; rw [q1, show (2 : Int) = ((2 : Nat) : Int) from rfl, bDivN (by omega) (by omega) (by omega)]; done) | (rw [if_neg (by omega)]; exact q1)
                                                      · simp [up2_at, fH]
                                                        first | (rw [if_pos (by omega)]; rw [q2, show (2 : Int) = ((2 : Nat) : Int) from rfl, bDivN (by omega) (by omega) (by omega)]; done) | (rw [if_neg (by omega)]; exact q2)
                                                      · simp [up2_at, fP]
                                                        first | (rw [if_pos (by omega)]; (try rfl); done) | (rw [if_neg (by omega)]; exact q3)
                                                      · simp [up2_at, fL]
                                                        rw [q4]
                                                        first | (rw [if_pos (by omega)]; rfl) | (rw [if_neg (by omega), if_pos (by omega)]; rfl) | (rw [if_neg (by omega), if_neg (by omega), if_pos (by omega), q5]) | (rw [if_neg (by omega), if_neg (by omega), if_neg (by omega)]; rfl)
                                                      · simp [up2_at, fS]
                                                        first | (rw [if_pos (by omega), q5]; rfl) | (rw [if_neg (by omega)]; exact q5))))
                                       · first
                                         | (simp (discharger := omega) only [wr_id] at c_185; done)
                                         | (try simp (discharger := omega) only [wr_id] at c_185
                                            exfalso
                                            first | omega | exact c_185 trivial)
                                         | (try simp (discharger := omega) only [wr_id] at c_185
                                            refine R_iconst dX5_measure_188 ?_
                                            refine R_goto (tgt := 206) dX5_measure_189 (by decide) ?_
                                            refine R_istore_n dX5_measure_206 rfl (Nat.le_of_ble_eq_true rfl) ?_
                                            refine R_aload_n dX5_measure_207 rfl rfl ?_
                                            refine R_getA fRX5_45 dX5_measure_208 rfl (Nat.lt_of_lt_of_le (Nat.le_of_ble_eq_true rfl) hnx) rfl ?_
                                            refine R_iload_n dX5_measure_211 rfl rfl ?_
                                            refine R_iconst dX5_measure_212 ?_
                                            refine R_iadd dX5_measure_213 ?_
                                            refine R_aload_n dX5_measure_214 rfl rfl ?_
                                            refine R_getA fRX5_45 dX5_measure_215 rfl (Nat.lt_of_lt_of_le (Nat.le_of_ble_eq_true rfl) hnx) rfl ?_
                                            refine R_iload_n dX5_measure_218 rfl rfl ?_
                                            refine R_iaload (k := i) dX5_measure_219 rfl (Nat.lt_of_lt_of_le (Nat.le_of_ble_eq_true rfl) hnx) (by omega) (by omega) (by decide) ?_
                                            refine R_iload_n dX5_measure_220 rfl rfl ?_
                                            refine R_iadd dX5_measure_221 ?_
                                            refine R_iastore (k := i + 1) dX5_measure_222 rfl (Nat.lt_of_lt_of_le (Nat.le_of_ble_eq_true rfl) hnx) (by omega) (by omega) (by decide) ?_
                                            refine R_aload_n dX5_measure_223 rfl rfl ?_
                                            refine R_getA fRX5_48 dX5_measure_224 rfl (Nat.lt_of_lt_of_le (Nat.le_of_ble_eq_true rfl) hnx) rfl ?_
                                            refine R_iload_n dX5_measure_227 rfl rfl ?_
                                            refine R_iconst dX5_measure_228 ?_
                                            refine R_iadd dX5_measure_229 ?_
                                            refine R_iload_n dX5_measure_230 rfl rfl ?_
                                            refine R_if_eq (tgt := 245) dX5_measure_231 (by decide) (fun c_231 => ?_) (fun c_231 => ?_)
                                            · first
                                              | (simp (discharger := omega) only [wr_id] at c_231; done)
                                              | (try simp (discharger := omega) only [wr_id] at c_231
                                                 exfalso
                                                 first | omega | exact c_231 trivial)
                                              | (try simp (discharger := omega) only [wr_id] at c_231
                                                 refine R_aload_n dX5_measure_245 rfl rfl ?_
                                                 refine R_getA fRX5_48 dX5_measure_246 rfl (Nat.lt_of_lt_of_le (Nat.le_of_ble_eq_true rfl) hnx) rfl ?_
                                                 refine R_iload_n dX5_measure_249 rfl rfl ?_
                                                 refine R_iaload (k := i) dX5_measure_250 rfl (Nat.lt_of_lt_of_le (Nat.le_of_ble_eq_true rfl) hnx) (by omega) (by omega) (by decide) ?_
                                                 refine R_iastore (k := i + 1) dX5_measure_251 rfl (Nat.lt_of_lt_of_le (Nat.le_of_ble_eq_true rfl) hnx) (by omega) (by omega) (by decide) ?_
                                                 refine R_iinc dX5_measure_252 rfl (Nat.le_of_ble_eq_true rfl) ?_
                                                 refine R_goto (tgt := 43) dX5_measure_255 (by decide) ?_
                                                 refine step hi2 _ (fun p hp => ?_) (fun p h1 h2 k hk => ?_) ?_ ?_ ?_ ?_ ?_ _ _
                                                 · rw [up2_ne _ _ _ (by omega), up2_ne _ _ _ (by omega), up2_ne _ _ _ (by omega), up2_ne _ _ _ (by omega), up2_ne _ _ _ (by omega)]
                                                 · simp only [up2_at]
                                                   rw [if_neg (by omega), if_neg (by omega), if_neg (by omega), if_neg (by omega), if_neg (by omega)]
                                                 · simp [up2_at, fW]
                                                   first | (rw [if_pos (by omega)]; rw [q1, show (2 : Int) = ((2 : Nat) : Int) from rfl, bDivN (by omega) (by omega) (by omega)]; done) | (rw [if_neg (by omega)]; exact q1)
                                                 · simp [up2_at, fH]
                                                   first | (rw [if_pos (by omega)]; rw [q2, show (2 : Int) = ((2 : Nat) : Int) from rfl, bDivN (by omega) (by omega) (by omega)]; done) | (rw [if_neg (by omega)]; exact q2)
                                                 · simp [up2_at, fP]
                                                   first | (rw [if_pos (by omega)]; (try rfl); done) | (rw [if_neg (by omega)]; exact q3)
                                                 · simp [up2_at, fL]
                                                   rw [q4]
                                                   first | (rw [if_pos (by omega)]; rfl) | (rw [if_neg (by omega), if_pos (by omega)]; rfl) | (rw [if_neg (by omega), if_neg (by omega), if_pos (by omega), q5]) | (rw [if_neg (by omega), if_neg (by omega), if_neg (by omega)]; rfl)
                                                 · simp [up2_at, fS]
                                                   first | (rw [if_pos (by omega), q5]; rfl) | (rw [if_neg (by omega)]; exact q5))
                                            · first
                                              | (simp (discharger := omega) only [wr_id] at c_231; done)
                                              | (try simp (discharger := omega) only [wr_id] at c_231
                                                 exfalso
                                                 first | omega | exact c_231 trivial)
                                              | (try simp (discharger := omega) only [wr_id] at c_231
                                                 refine R_iconst dX5_measure_234 ?_
                                                 refine R_aload_n dX5_measure_235 rfl rfl ?_
                                                 refine R_getA fRX5_48 dX5_measure_236 rfl (Nat.lt_of_lt_of_le (Nat.le_of_ble_eq_true rfl) hnx) rfl ?_
                                                 refine R_iload_n dX5_measure_239 rfl rfl ?_
                                                 refine R_iaload (k := i) dX5_measure_240 rfl (Nat.lt_of_lt_of_le (Nat.le_of_ble_eq_true rfl) hnx) (by omega) (by omega) (by decide) ?_
                                                 refine R_imul dX5_measure_241 ?_
                                                 refine R_goto (tgt := 251) dX5_measure_242 (by decide) ?_
                                                 refine R_iastore (k := i + 1) dX5_measure_251 rfl (Nat.lt_of_lt_of_le (Nat.le_of_ble_eq_true rfl) hnx) (by omega) (by omega) (by decide) ?_
                                                 refine R_iinc dX5_measure_252 rfl (Nat.le_of_ble_eq_true rfl) ?_
                                                 refine R_goto (tgt := 43) dX5_measure_255 (by decide) ?_
                                                 refine step hi2 _ (fun p hp => ?_) (fun p h1 h2 k hk => ?_) ?_ ?_ ?_ ?_ ?_ _ _
                                                 · rw [up2_ne _ _ _ (by omega), up2_ne _ _ _ (by omega), up2_ne _ _ _ (by omega), up2_ne _ _ _ (by omega), up2_ne _ _ _ (by omega)]
                                                 · simp only [up2_at]
                                                   rw [if_neg (by omega), if_neg (by omega), if_neg (by omega), if_neg (by omega), if_neg (by omega)]
                                                 · simp [up2_at, fW]
                                                   first | (rw [if_pos (by omega)]; rw [q1, show (2 : Int) = ((2 : Nat) : Int) from rfl, bDivN (by omega) (by omega) (by omega)]; done) | (rw [if_neg (by omega)]; exact q1)
                                                 · simp [up2_at, fH]
                                                   first | (rw [if_pos (by omega)]; rw [q2, show (2 : Int) = ((2 : Nat) : Int) from rfl, bDivN (by omega) (by omega) (by omega)]; done) | (rw [if_neg (by omega)]; exact q2)
                                                 · simp [up2_at, fP]
                                                   first | (rw [if_pos (by omega)]; (try rfl); done) | (rw [if_neg (by omega)]; exact q3)
                                                 · simp [up2_at, fL]
                                                   rw [q4]
                                                   first | (rw [if_pos (by omega)]; rfl) | (rw [if_neg (by omega), if_pos (by omega)]; rfl) | (rw [if_neg (by omega), if_neg (by omega), if_pos (by omega), q5]) | (rw [if_neg (by omega), if_neg (by omega), if_neg (by omega)]; rfl)
                                                 · simp [up2_at, fS]
                                                   first | (rw [if_pos (by omega), q5]; rfl) | (rw [if_neg (by omega)]; exact q5))))
                                  · first
                                    | (simp (discharger := omega) only [wr_id] at c_171; done)
                                    | (try simp (discharger := omega) only [wr_id] at c_171
                                       exfalso
                                       first | omega | exact c_171 trivial)
                                    | (try simp (discharger := omega) only [wr_id] at c_171
                                       refine R_iconst dX5_measure_174 ?_
                                       refine R_goto (tgt := 206) dX5_measure_175 (by decide) ?_
                                       refine R_istore_n dX5_measure_206 rfl (Nat.le_of_ble_eq_true rfl) ?_
                                       refine R_aload_n dX5_measure_207 rfl rfl ?_
                                       refine R_getA fRX5_45 dX5_measure_208 rfl (Nat.lt_of_lt_of_le (Nat.le_of_ble_eq_true rfl) hnx) rfl ?_
                                       refine R_iload_n dX5_measure_211 rfl rfl ?_
                                       refine R_iconst dX5_measure_212 ?_
                                       refine R_iadd dX5_measure_213 ?_
                                       refine R_aload_n dX5_measure_214 rfl rfl ?_
                                       refine R_getA fRX5_45 dX5_measure_215 rfl (Nat.lt_of_lt_of_le (Nat.le_of_ble_eq_true rfl) hnx) rfl ?_
                                       refine R_iload_n dX5_measure_218 rfl rfl ?_
                                       refine R_iaload (k := i) dX5_measure_219 rfl (Nat.lt_of_lt_of_le (Nat.le_of_ble_eq_true rfl) hnx) (by omega) (by omega) (by decide) ?_
                                       refine R_iload_n dX5_measure_220 rfl rfl ?_
                                       refine R_iadd dX5_measure_221 ?_
                                       refine R_iastore (k := i + 1) dX5_measure_222 rfl (Nat.lt_of_lt_of_le (Nat.le_of_ble_eq_true rfl) hnx) (by omega) (by omega) (by decide) ?_
                                       refine R_aload_n dX5_measure_223 rfl rfl ?_
                                       refine R_getA fRX5_48 dX5_measure_224 rfl (Nat.lt_of_lt_of_le (Nat.le_of_ble_eq_true rfl) hnx) rfl ?_
                                       refine R_iload_n dX5_measure_227 rfl rfl ?_
                                       refine R_iconst dX5_measure_228 ?_
                                       refine R_iadd dX5_measure_229 ?_
                                       refine R_iload_n dX5_measure_230 rfl rfl ?_
                                       refine R_if_eq (tgt := 245) dX5_measure_231 (by decide) (fun c_231 => ?_) (fun c_231 => ?_)
                                       · first
                                         | (simp (discharger := omega) only [wr_id] at c_231; done)
                                         | (try simp (discharger := omega) only [wr_id] at c_231
                                            exfalso
                                            first | omega | exact c_231 trivial)
                                         | (try simp (discharger := omega) only [wr_id] at c_231
                                            refine R_aload_n dX5_measure_245 rfl rfl ?_
                                            refine R_getA fRX5_48 dX5_measure_246 rfl (Nat.lt_of_lt_of_le (Nat.le_of_ble_eq_true rfl) hnx) rfl ?_
                                            refine R_iload_n dX5_measure_249 rfl rfl ?_
                                            refine R_iaload (k := i) dX5_measure_250 rfl (Nat.lt_of_lt_of_le (Nat.le_of_ble_eq_true rfl) hnx) (by omega) (by omega) (by decide) ?_
                                            refine R_iastore (k := i + 1) dX5_measure_251 rfl (Nat.lt_of_lt_of_le (Nat.le_of_ble_eq_true rfl) hnx) (by omega) (by omega) (by decide) ?_
                                            refine R_iinc dX5_measure_252 rfl (Nat.le_of_ble_eq_true rfl) ?_
                                            refine R_goto (tgt := 43) dX5_measure_255 (by decide) ?_
                                            refine step hi2 _ (fun p hp => ?_) (fun p h1 h2 k hk => ?_) ?_ ?_ ?_ ?_ ?_ _ _
                                            · rw [up2_ne _ _ _ (by omega), up2_ne _ _ _ (by omega), up2_ne _ _ _ (by omega), up2_ne _ _ _ (by omega), up2_ne _ _ _ (by omega)]
                                            · simp only [up2_at]
                                              rw [if_neg (by omega), if_neg (by omega), if_neg (by omega), if_neg (by omega), if_neg (by omega)]
                                            · simp [up2_at, fW]
                                              first | (rw [if_pos (by omega)]; rw [q1, show (2 : Int) = ((2 : Nat) : Int) from rfl, bDivN (by omega) (by omega) (by omega)]; done) | (rw [if_neg (by omega)]; exact q1)
                                            · simp [up2_at, fH]
                                              first | (rw [if_pos (by omega)]; rw [q2, show (2 : Int) = ((2 : Nat) : Int) from rfl, bDivN (by omega) (by omega) (by omega)]; done) | (rw [if_neg (by omega)]; exact q2)
                                            · simp [up2_at, fP]
                                              first | (rw [if_pos (by omega)]; (try rfl); done) | (rw [if_neg (by omega)]; exact q3)
                                            · simp [up2_at, fL]
                                              rw [q4]
                                              first | (rw [if_pos (by omega)]; rfl) | (rw [if_neg (by omega), if_pos (by omega)]; rfl) | (rw [if_neg (by omega), if_neg (by omega), if_pos (by omega), q5]) | (rw [if_neg (by omega), if_neg (by omega), if_neg (by omega)]; rfl)
                                            · simp [up2_at, fS]
                                              first | (rw [if_pos (by omega), q5]; rfl) | (rw [if_neg (by omega)]; exact q5))
                                       · first
                                         | (simp (discharger := omega) only [wr_id] at c_231; done)
                                         | (try simp (discharger := omega) only [wr_id] at c_231
                                            exfalso
                                            first | omega | exact c_231 trivial)
                                         | (try simp (discharger := omega) only [wr_id] at c_231
                                            refine R_iconst dX5_measure_234 ?_
                                            refine R_aload_n dX5_measure_235 rfl rfl ?_
                                            refine R_getA fRX5_48 dX5_measure_236 rfl (Nat.lt_of_lt_of_le (Nat.le_of_ble_eq_true rfl) hnx) rfl ?_
                                            refine R_iload_n dX5_measure_239 rfl rfl ?_
                                            refine R_iaload (k := i) dX5_measure_240 rfl (Nat.lt_of_lt_of_le (Nat.le_of_ble_eq_true rfl) hnx) (by omega) (by omega) (by decide) ?_
                                            refine R_imul dX5_measure_241 ?_
                                            refine R_goto (tgt := 251) dX5_measure_242 (by decide) ?_
                                            refine R_iastore (k := i + 1) dX5_measure_251 rfl (Nat.lt_of_lt_of_le (Nat.le_of_ble_eq_true rfl) hnx) (by omega) (by omega) (by decide) ?_
                                            refine R_iinc dX5_measure_252 rfl (Nat.le_of_ble_eq_true rfl) ?_
                                            refine R_goto (tgt := 43) dX5_measure_255 (by decide) ?_
                                            refine step hi2 _ (fun p hp => ?_) (fun p h1 h2 k hk => ?_) ?_ ?_ ?_ ?_ ?_ _ _
                                            · rw [up2_ne _ _ _ (by omega), up2_ne _ _ _ (by omega), up2_ne _ _ _ (by omega), up2_ne _ _ _ (by omega), up2_ne _ _ _ (by omega)]
                                            · simp only [up2_at]
                                              rw [if_neg (by omega), if_neg (by omega), if_neg (by omega), if_neg (by omega), if_neg (by omega)]
                                            · simp [up2_at, fW]
                                              first | (rw [if_pos (by omega)]; rw [q1, show (2 : Int) = ((2 : Nat) : Int) from rfl, bDivN (by omega) (by omega) (by omega)]; done) | (rw [if_neg (by omega)]; exact q1)
                                            · simp [up2_at, fH]
                                              first | (rw [if_pos (by omega)]; rw [q2, show (2 : Int) = ((2 : Nat) : Int) from rfl, bDivN (by omega) (by omega) (by omega)]; done) | (rw [if_neg (by omega)]; exact q2)
                                            · simp [up2_at, fP]
                                              first | (rw [if_pos (by omega)]; (try rfl); done) | (rw [if_neg (by omega)]; exact q3)
                                            · simp [up2_at, fL]
                                              rw [q4]
                                              first | (rw [if_pos (by omega)]; rfl) | (rw [if_neg (by omega), if_pos (by omega)]; rfl) | (rw [if_neg (by omega), if_neg (by omega), if_pos (by omega), q5]) | (rw [if_neg (by omega), if_neg (by omega), if_neg (by omega)]; rfl)
                                            · simp [up2_at, fS]
                                              first | (rw [if_pos (by omega), q5]; rfl) | (rw [if_neg (by omega)]; exact q5)))))
                        · first
                          | (simp (discharger := omega) only [wr_id] at c_140; done)
                          | (try simp (discharger := omega) only [wr_id] at c_140
                             exfalso
                             first | omega | exact c_140 trivial)
                          | (try simp (discharger := omega) only [wr_id] at c_140
                             refine R_iconst dX5_measure_143 ?_
                             refine R_goto (tgt := 153) dX5_measure_144 (by decide) ?_
                             refine R_iastore (k := i + 1) dX5_measure_153 rfl (Nat.lt_of_lt_of_le (Nat.le_of_ble_eq_true rfl) hnx) (by omega) (by omega) (by decide) ?_
                             refine R_aload_n dX5_measure_154 rfl rfl ?_
                             refine R_getA fRX5_24 dX5_measure_155 rfl (Nat.lt_of_lt_of_le (Nat.le_of_ble_eq_true rfl) hnx) rfl ?_
                             refine R_iload_n dX5_measure_158 rfl rfl ?_
                             refine R_iaload (k := i) dX5_measure_159 rfl (Nat.lt_of_lt_of_le (Nat.le_of_ble_eq_true rfl) hnx) (by omega) (by omega) (by decide) ?_
                             refine R_iconst dX5_measure_160 ?_
                             dsimp only
                             rw [up2_ne _ _ _ (by decide), up2_ne _ _ _ (by decide), up2_ne _ _ _ (by decide), e6]
                             refine R_icmp_eq (tgt := 174) dX5_measure_161 (by decide) (fun c_161 => ?_) (fun c_161 => ?_)
                             · first
                               | (simp (discharger := omega) only [wr_id] at c_161; done)
                               | (try simp (discharger := omega) only [wr_id] at c_161
                                  exfalso
                                  first | omega | exact c_161 trivial)
                               | (try simp (discharger := omega) only [wr_id] at c_161
                                  refine R_iconst dX5_measure_174 ?_
                                  refine R_goto (tgt := 206) dX5_measure_175 (by decide) ?_
                                  refine R_istore_n dX5_measure_206 rfl (Nat.le_of_ble_eq_true rfl) ?_
                                  refine R_aload_n dX5_measure_207 rfl rfl ?_
                                  refine R_getA fRX5_45 dX5_measure_208 rfl (Nat.lt_of_lt_of_le (Nat.le_of_ble_eq_true rfl) hnx) rfl ?_
                                  refine R_iload_n dX5_measure_211 rfl rfl ?_
                                  refine R_iconst dX5_measure_212 ?_
                                  refine R_iadd dX5_measure_213 ?_
                                  refine R_aload_n dX5_measure_214 rfl rfl ?_
                                  refine R_getA fRX5_45 dX5_measure_215 rfl (Nat.lt_of_lt_of_le (Nat.le_of_ble_eq_true rfl) hnx) rfl ?_
                                  refine R_iload_n dX5_measure_218 rfl rfl ?_
                                  refine R_iaload (k := i) dX5_measure_219 rfl (Nat.lt_of_lt_of_le (Nat.le_of_ble_eq_true rfl) hnx) (by omega) (by omega) (by decide) ?_
                                  refine R_iload_n dX5_measure_220 rfl rfl ?_
                                  refine R_iadd dX5_measure_221 ?_
                                  refine R_iastore (k := i + 1) dX5_measure_222 rfl (Nat.lt_of_lt_of_le (Nat.le_of_ble_eq_true rfl) hnx) (by omega) (by omega) (by decide) ?_
                                  refine R_aload_n dX5_measure_223 rfl rfl ?_
                                  refine R_getA fRX5_48 dX5_measure_224 rfl (Nat.lt_of_lt_of_le (Nat.le_of_ble_eq_true rfl) hnx) rfl ?_
                                  refine R_iload_n dX5_measure_227 rfl rfl ?_
                                  refine R_iconst dX5_measure_228 ?_
                                  refine R_iadd dX5_measure_229 ?_
                                  refine R_iload_n dX5_measure_230 rfl rfl ?_
                                  refine R_if_eq (tgt := 245) dX5_measure_231 (by decide) (fun c_231 => ?_) (fun c_231 => ?_)
                                  · first
                                    | (simp (discharger := omega) only [wr_id] at c_231; done)
                                    | (try simp (discharger := omega) only [wr_id] at c_231
                                       exfalso
                                       first | omega | exact c_231 trivial)
                                    | (try simp (discharger := omega) only [wr_id] at c_231
                                       refine R_aload_n dX5_measure_245 rfl rfl ?_
                                       refine R_getA fRX5_48 dX5_measure_246 rfl (Nat.lt_of_lt_of_le (Nat.le_of_ble_eq_true rfl) hnx) rfl ?_
                                       refine R_iload_n dX5_measure_249 rfl rfl ?_
                                       refine R_iaload (k := i) dX5_measure_250 rfl (Nat.lt_of_lt_of_le (Nat.le_of_ble_eq_true rfl) hnx) (by omega) (by omega) (by decide) ?_
                                       refine R_iastore (k := i + 1) dX5_measure_251 rfl (Nat.lt_of_lt_of_le (Nat.le_of_ble_eq_true rfl) hnx) (by omega) (by omega) (by decide) ?_
                                       refine R_iinc dX5_measure_252 rfl (Nat.le_of_ble_eq_true rfl) ?_
                                       refine R_goto (tgt := 43) dX5_measure_255 (by decide) ?_
                                       refine step hi2 _ (fun p hp => ?_) (fun p h1 h2 k hk => ?_) ?_ ?_ ?_ ?_ ?_ _ _
                                       · rw [up2_ne _ _ _ (by omega), up2_ne _ _ _ (by omega), up2_ne _ _ _ (by omega), up2_ne _ _ _ (by omega), up2_ne _ _ _ (by omega)]
                                       · simp only [up2_at]
                                         rw [if_neg (by omega), if_neg (by omega), if_neg (by omega), if_neg (by omega), if_neg (by omega)]
                                       · simp [up2_at, fW]
                                         first | (rw [if_pos (by omega)]; rw [q1, show (2 : Int) = ((2 : Nat) : Int) from rfl, bDivN (by omega) (by omega) (by omega)]; done) | (rw [if_neg (by omega)]; exact q1)
                                       · simp [up2_at, fH]
                                         first | (rw [if_pos (by omega)]; rw [q2, show (2 : Int) = ((2 : Nat) : Int) from rfl, bDivN (by omega) (by omega) (by omega)]; done) | (rw [if_neg (by omega)]; exact q2)
                                       · simp [up2_at, fP]
                                         first | (rw [if_pos (by omega)]; (try rfl); done) | (rw [if_neg (by omega)]; exact q3)
                                       · simp [up2_at, fL]
                                         rw [q4]
                                         first | (rw [if_pos (by omega)]; rfl) | (rw [if_neg (by omega), if_pos (by omega)]; rfl) | (rw [if_neg (by omega), if_neg (by omega), if_pos (by omega), q5]) | (rw [if_neg (by omega), if_neg (by omega), if_neg (by omega)]; rfl)
                                       · simp [up2_at, fS]
                                         first | (rw [if_pos (by omega), q5]; rfl) | (rw [if_neg (by omega)]; exact q5))
                                  · first
                                    | (simp (discharger := omega) only [wr_id] at c_231; done)
                                    | (try simp (discharger := omega) only [wr_id] at c_231
                                       exfalso
                                       first | omega | exact c_231 trivial)
                                    | (try simp (discharger := omega) only [wr_id] at c_231
                                       refine R_iconst dX5_measure_234 ?_
                                       refine R_aload_n dX5_measure_235 rfl rfl ?_
                                       refine R_getA fRX5_48 dX5_measure_236 rfl (Nat.lt_of_lt_of_le (Nat.le_of_ble_eq_true rfl) hnx) rfl ?_
                                       refine R_iload_n dX5_measure_239 rfl rfl ?_
                                       refine R_iaload (k := i) dX5_measure_240 rfl (Nat.lt_of_lt_of_le (Nat.le_of_ble_eq_true rfl) hnx) (by omega) (by omega) (by decide) ?_
                                       refine R_imul dX5_measure_241 ?_
                                       refine R_goto (tgt := 251) dX5_measure_242 (by decide) ?_
                                       refine R_iastore (k := i + 1) dX5_measure_251 rfl (Nat.lt_of_lt_of_le (Nat.le_of_ble_eq_true rfl) hnx) (by omega) (by omega) (by decide) ?_
                                       refine R_iinc dX5_measure_252 rfl (Nat.le_of_ble_eq_true rfl) ?_
                                       refine R_goto (tgt := 43) dX5_measure_255 (by decide) ?_
                                       refine step hi2 _ (fun p hp => ?_) (fun p h1 h2 k hk => ?_) ?_ ?_ ?_ ?_ ?_ _ _
                                       · rw [up2_ne _ _ _ (by omega), up2_ne _ _ _ (by omega), up2_ne _ _ _ (by omega), up2_ne _ _ _ (by omega), up2_ne _ _ _ (by omega)]
                                       · simp only [up2_at]
                                         rw [if_neg (by omega), if_neg (by omega), if_neg (by omega), if_neg (by omega), if_neg (by omega)]
                                       · simp [up2_at, fW]
                                         first | (rw [if_pos (by omega)]; rw [q1, show (2 : Int) = ((2 : Nat) : Int) from rfl, bDivN (by omega) (by omega) (by omega)]; done) | (rw [if_neg (by omega)]; exact q1)
                                       · simp [up2_at, fH]
                                         first | (rw [if_pos (by omega)]; rw [q2, show (2 : Int) = ((2 : Nat) : Int) from rfl, bDivN (by omega) (by omega) (by omega)]; done) | (rw [if_neg (by omega)]; exact q2)
                                       · simp [up2_at, fP]
                                         first | (rw [if_pos (by omega)]; (try rfl); done) | (rw [if_neg (by omega)]; exact q3)
                                       · simp [up2_at, fL]
                                         rw [q4]
                                         first | (rw [if_pos (by omega)]; rfl) | (rw [if_neg (by omega), if_pos (by omega)]; rfl) | (rw [if_neg (by omega), if_neg (by omega), if_pos (by omega), q5]) | (rw [if_neg (by omega), if_neg (by omega), if_neg (by omega)]; rfl)
                                       · simp [up2_at, fS]
                                         first | (rw [if_pos (by omega), q5]; rfl) | (rw [if_neg (by omega)]; exact q5)))
                             · first
                               | (simp (discharger := omega) only [wr_id] at c_161; done)
                               | (try simp (discharger := omega) only [wr_id] at c_161
                                  exfalso
                                  first | omega | exact c_161 trivial)
                               | (try simp (discharger := omega) only [wr_id] at c_161
                                  refine R_aload_n dX5_measure_164 rfl rfl ?_
                                  refine R_getA fRX5_24 dX5_measure_165 rfl (Nat.lt_of_lt_of_le (Nat.le_of_ble_eq_true rfl) hnx) rfl ?_
                                  refine R_iload_n dX5_measure_168 rfl rfl ?_
                                  refine R_iaload (k := i) dX5_measure_169 rfl (Nat.lt_of_lt_of_le (Nat.le_of_ble_eq_true rfl) hnx) (by omega) (by omega) (by decide) ?_
                                  refine R_iconst dX5_measure_170 ?_
                                  dsimp only
                                  rw [up2_ne _ _ _ (by decide), up2_ne _ _ _ (by decide), up2_ne _ _ _ (by decide), e6]
                                  refine R_icmp_ne (tgt := 178) dX5_measure_171 (by decide) (fun c_171 => ?_) (fun c_171 => ?_)
                                  · first
                                    | (simp (discharger := omega) only [wr_id] at c_171; done)
                                    | (try simp (discharger := omega) only [wr_id] at c_171
                                       exfalso
                                       first | omega | exact c_171 trivial)
                                    | (try simp (discharger := omega) only [wr_id] at c_171
                                       refine R_aload_n dX5_measure_178 rfl rfl ?_
                                       refine R_getA fRX5_24 dX5_measure_179 rfl (Nat.lt_of_lt_of_le (Nat.le_of_ble_eq_true rfl) hnx) rfl ?_
                                       refine R_iload_n dX5_measure_182 rfl rfl ?_
                                       refine R_iaload (k := i) dX5_measure_183 rfl (Nat.lt_of_lt_of_le (Nat.le_of_ble_eq_true rfl) hnx) (by omega) (by omega) (by decide) ?_
                                       refine R_iconst dX5_measure_184 ?_
                                       dsimp only
                                       rw [up2_ne _ _ _ (by decide), up2_ne _ _ _ (by decide), up2_ne _ _ _ (by decide), e6]
                                       refine R_icmp_ne (tgt := 192) dX5_measure_185 (by decide) (fun c_185 => ?_) (fun c_185 => ?_)
                                       · first
                                         | (simp (discharger := omega) only [wr_id] at c_185; done)
                                         | (try simp (discharger := omega) only [wr_id] at c_185
                                            exfalso
                                            first | omega | exact c_185 trivial)
                                         | (try simp (discharger := omega) only [wr_id] at c_185
                                            refine R_iload_n dX5_measure_192 rfl rfl ?_
                                            refine R_if_eq (tgt := 205) dX5_measure_193 (by decide) (fun c_193 => ?_) (fun c_193 => ?_)
                                            · first
                                              | (simp (discharger := omega) only [wr_id] at c_193; done)
                                              | (try simp (discharger := omega) only [wr_id] at c_193
                                                 exfalso
                                                 first | omega | exact c_193 trivial)
                                              | (try simp (discharger := omega) only [wr_id] at c_193
                                                 refine R_iconst dX5_measure_205 ?_
                                                 refine R_istore_n dX5_measure_206 rfl (Nat.le_of_ble_eq_true rfl) ?_
                                                 refine R_aload_n dX5_measure_207 rfl rfl ?_
                                                 refine R_getA fRX5_45 dX5_measure_208 rfl (Nat.lt_of_lt_of_le (Nat.le_of_ble_eq_true rfl) hnx) rfl ?_
                                                 refine R_iload_n dX5_measure_211 rfl rfl ?_
                                                 refine R_iconst dX5_measure_212 ?_
                                                 refine R_iadd dX5_measure_213 ?_
                                                 refine R_aload_n dX5_measure_214 rfl rfl ?_
                                                 refine R_getA fRX5_45 dX5_measure_215 rfl (Nat.lt_of_lt_of_le (Nat.le_of_ble_eq_true rfl) hnx) rfl ?_
                                                 refine R_iload_n dX5_measure_218 rfl rfl ?_
                                                 refine R_iaload (k := i) dX5_measure_219 rfl (Nat.lt_of_lt_of_le (Nat.le_of_ble_eq_true rfl) hnx) (by omega) (by omega) (by decide) ?_
                                                 refine R_iload_n dX5_measure_220 rfl rfl ?_
                                                 refine R_iadd dX5_measure_221 ?_
                                                 refine R_iastore (k := i + 1) dX5_measure_222 rfl (Nat.lt_of_lt_of_le (Nat.le_of_ble_eq_true rfl) hnx) (by omega) (by omega) (by decide) ?_
                                                 refine R_aload_n dX5_measure_223 rfl rfl ?_
                                                 refine R_getA fRX5_48 dX5_measure_224 rfl (Nat.lt_of_lt_of_le (Nat.le_of_ble_eq_true rfl) hnx) rfl ?_
                                                 refine R_iload_n dX5_measure_227 rfl rfl ?_
                                                 refine R_iconst dX5_measure_228 ?_
                                                 refine R_iadd dX5_measure_229 ?_
                                                 refine R_iload_n dX5_measure_230 rfl rfl ?_
                                                 refine R_if_eq (tgt := 245) dX5_measure_231 (by decide) (fun c_231 => ?_) (fun c_231 => ?_)
                                                 · first
                                                   | (simp (discharger := omega) only [wr_id] at c_231; done)
                                                   | (try simp (discharger := omega) only [wr_id] at c_231
                                                      exfalso
                                                      first | omega | exact c_231 trivial)
                                                   | (try simp (discharger := omega) only [wr_id] at c_231
                                                      refine R_aload_n dX5_measure_245 rfl rfl ?_
                                                      refine R_getA fRX5_48 dX5_measure_246 rfl (Nat.lt_of_lt_of_le (Nat.le_of_ble_eq_true rfl) hnx) rfl ?_
                                                      refine R_iload_n dX5_measure_249 rfl rfl ?_
                                                      refine R_iaload (k := i) dX5_measure_250 rfl (Nat.lt_of_lt_of_le (Nat.le_of_ble_eq_true rfl) hnx) (by omega) (by omega) (by decide) ?_
                                                      refine R_iastore (k := i + 1) dX5_measure_251 rfl (Nat.lt_of_lt_of_le (Nat.le_of_ble_eq_true rfl) hnx) (by omega) (by omega) (by decide) ?_
                                                      refine R_iinc dX5_measure_252 rfl (Nat.le_of_ble_eq_true rfl) ?_
                                                      refine R_goto (tgt := 43) dX5_measure_255 (by decide) ?_
                                                      refine step hi2 _ (fun p hp => ?_) (fun p h1 h2 k hk => ?_) ?_ ?_ ?_ ?_ ?_ _ _
                                                      · rw [up2_ne _ _ _ (by omega), up2_ne _ _ _ (by omega), up2_ne _ _ _ (by omega), up2_ne _ _ _ (by omega), up2_ne _ _ _ (by omega)]
                                                      · simp only [up2_at]
                                                        rw [if_neg (by omega), if_neg (by omega), if_neg (by omega), if_neg (by omega), if_neg (by omega)]
                                                      · simp [up2_at, fW]
                                                        first | (rw [if_pos (by omega)]; rw [q1, show (2 : Int) = ((2 : Nat) : Int) from rfl, bDivN (by omega) (by omega) (by omega)]; done) | (rw [if_neg (by omega)]; exact q1)
                                                      · simp [up2_at, fH]
                                                        first | (rw [if_pos (by omega)]; rw [q2, show (2 : Int) = ((2 : Nat) : Int) from rfl, bDivN (by omega) (by omega) (by omega)]; done) | (rw [if_neg (by omega)]; exact q2)
                                                      · simp [up2_at, fP]
                                                        first | (rw [if_pos (by omega)]; (try rfl); done) | (rw [if_neg (by omega)]; exact q3)
                                                      · simp [up2_at, fL]
                                                        rw [q4]
                                                        first | (rw [if_pos (by omega)]; rfl) | (rw [if_neg (by omega), if_pos (by omega)]; rfl) | (rw [if_neg (by omega), if_neg (by omega), if_pos (by omega), q5]) | (rw [if_neg (by omega), if_neg (by omega), if_neg (by omega)]; rfl)
                                                      · simp [up2_at, fS]
                                                        first | (rw [if_pos (by omega), q5]; rfl) | (rw [if_neg (by omega)]; exact q5))
                                                 · first
                                                   | (simp (discharger := omega) only [wr_id] at c_231; done)
                                                   | (try simp (discharger := omega) only [wr_id] at c_231
                                                      exfalso
                                                      first | omega | exact c_231 trivial)
                                                   | (try simp (discharger := omega) only [wr_id] at c_231
                                                      refine R_iconst dX5_measure_234 ?_
                                                      refine R_aload_n dX5_measure_235 rfl rfl ?_
                                                      refine R_getA fRX5_48 dX5_measure_236 rfl (Nat.lt_of_lt_of_le (Nat.le_of_ble_eq_true rfl) hnx) rfl ?_
                                                      refine R_iload_n dX5_measure_239 rfl rfl ?_
                                                      refine R_iaload (k := i) dX5_measure_240 rfl (Nat.lt_of_lt_of_le (Nat.le_of_ble_eq_true rfl) hnx) (by omega) (by omega) (by decide) ?_
                                                      refine R_imul dX5_measure_241 ?_
                                                      refine R_goto (tgt := 251) dX5_measure_242 (by decide) ?_
                                                      refine R_iastore (k := i + 1) dX5_measure_251 rfl (Nat.lt_of_lt_of_le (Nat.le_of_ble_eq_true rfl) hnx) (by omega) (by omega) (by decide) ?_
                                                      refine R_iinc dX5_measure_252 rfl (Nat.le_of_ble_eq_true rfl) ?_
                                                      refine R_goto (tgt := 43) dX5_measure_255 (by decide) ?_
                                                      refine step hi2 _ (fun p hp => ?_) (fun p h1 h2 k hk => ?_) ?_ ?_ ?_ ?_ ?_ _ _
                                                      · rw [up2_ne _ _ _ (by omega), up2_ne _ _ _ (by omega), up2_ne _ _ _ (by omega), up2_ne _ _ _ (by omega), up2_ne _ _ _ (by omega)]
                                                      · simp only [up2_at]
                                                        rw [if_neg (by omega), if_neg (by omega), if_neg (by omega), if_neg (by omega), if_neg (by omega)]
                                                      · simp [up2_at, fW]
                                                        first | (rw [if_pos (by omega)]; rw [q1, show (2 : Int) = ((2 : Nat) : Int) from rfl, bDivN (by omega) (by omega) (by omega)]; done) | (rw [if_neg (by omega)]; exact q1)
                                                      · simp [up2_at, fH]
                                                        first | (rw [if_pos (by omega)]; rw [q2, show (2 : Int) = ((2 : Nat) : Int) from rfl, bDivN (by omega) (by omega) (by omega)]; done) | (rw [if_neg (by omega)]; exact q2)
                                                      · simp [up2_at, fP]
                                                        first | (rw [if_pos (by omega)]; (try rfl); done) | (rw [if_neg (by omega)]; exact q3)
                                                      · simp [up2_at, fL]
                                                        rw [q4]
                                                        first | (rw [if_pos (by omega)]; rfl) | (rw [if_neg (by omega), if_pos (by omega)]; rfl) | (rw [if_neg (by omega), if_neg (by omega), if_pos (by omega), q5]) | (rw [if_neg (by omega), if_neg (by omega), if_neg (by omega)]; rfl)
                                                      · simp [up2_at, fS]
                                                        first | (rw [if_pos (by omega), q5]; rfl) | (rw [if_neg (by omega)]; exact q5)))
                                            · first
                                              | (simp (discharger := omega) only [wr_id] at c_193; done)
                                              | (try simp (discharger := omega) only [wr_id] at c_193
                                                 exfalso
                                                 first | omega | exact c_193 trivial)
                                              | (try simp (discharger := omega) only [wr_id] at c_193
                                                 refine R_aload_n dX5_measure_196 rfl rfl ?_
                                                 refine R_getA fRX5_48 dX5_measure_197 rfl (Nat.lt_of_lt_of_le (Nat.le_of_ble_eq_true rfl) hnx) rfl ?_
                                                 refine R_iload_n dX5_measure_200 rfl rfl ?_
                                                 refine R_iaload (k := i) dX5_measure_201 rfl (Nat.lt_of_lt_of_le (Nat.le_of_ble_eq_true rfl) hnx) (by omega) (by omega) (by decide) ?_
                                                 refine R_goto (tgt := 206) dX5_measure_202 (by decide) ?_
                                                 refine R_istore_n dX5_measure_206 rfl (Nat.le_of_ble_eq_true rfl) ?_
                                                 refine R_aload_n dX5_measure_207 rfl rfl ?_
                                                 refine R_getA fRX5_45 dX5_measure_208 rfl (Nat.lt_of_lt_of_le (Nat.le_of_ble_eq_true rfl) hnx) rfl ?_
                                                 refine R_iload_n dX5_measure_211 rfl rfl ?_
                                                 refine R_iconst dX5_measure_212 ?_
                                                 refine R_iadd dX5_measure_213 ?_
                                                 refine R_aload_n dX5_measure_214 rfl rfl ?_
                                                 refine R_getA fRX5_45 dX5_measure_215 rfl (Nat.lt_of_lt_of_le (Nat.le_of_ble_eq_true rfl) hnx) rfl ?_
                                                 refine R_iload_n dX5_measure_218 rfl rfl ?_
                                                 refine R_iaload (k := i) dX5_measure_219 rfl (Nat.lt_of_lt_of_le (Nat.le_of_ble_eq_true rfl) hnx) (by omega) (by omega) (by decide) ?_
                                                 refine R_iload_n dX5_measure_220 rfl rfl ?_
                                                 refine R_iadd dX5_measure_221 ?_
                                                 refine R_iastore (k := i + 1) dX5_measure_222 rfl (Nat.lt_of_lt_of_le (Nat.le_of_ble_eq_true rfl) hnx) (by omega) (by omega) (by decide) ?_
                                                 refine R_aload_n dX5_measure_223 rfl rfl ?_
                                                 refine R_getA fRX5_48 dX5_measure_224 rfl (Nat.lt_of_lt_of_le (Nat.le_of_ble_eq_true rfl) hnx) rfl ?_
                                                 refine R_iload_n dX5_measure_227 rfl rfl ?_
                                                 refine R_iconst dX5_measure_228 ?_
                                                 refine R_iadd dX5_measure_229 ?_
                                                 refine R_iload_n dX5_measure_230 rfl rfl ?_
                                                 refine R_if_eq (tgt := 245) dX5_measure_231 (by decide) (fun c_231 => ?_) (fun c_231 => ?_)
                                                 · first
                                                   | (simp (discharger := omega) only [wr_id] at c_231; done)
                                                   | (try simp (discharger := omega) only [wr_id] at c_231
                                                      exfalso
                                                      first | omega | exact c_231 trivial)
                                                   | (try simp (discharger := omega) only [wr_id] at c_231
                                                      refine R_aload_n dX5_measure_245 rfl rfl ?_
                                                      refine R_getA fRX5_48 dX5_measure_246 rfl (Nat.lt_of_lt_of_le (Nat.le_of_ble_eq_true rfl) hnx) rfl ?_
                                                      refine R_iload_n dX5_measure_249 rfl rfl ?_
                                                      refine R_iaload (k := i) dX5_measure_250 rfl (Nat.lt_of_lt_of_le (Nat.le_of_ble_eq_true rfl) hnx) (by omega) (by omega) (by decide) ?_
                                                      refine R_iastore (k := i + 1) dX5_measure_251 rfl (Nat.lt_of_lt_of_le (Nat.le_of_ble_eq_true rfl) hnx) (by omega) (by omega) (by decide) ?_
                                                      refine R_iinc dX5_measure_252 rfl (Nat.le_of_ble_eq_true rfl) ?_
                                                      refine R_goto (tgt := 43) dX5_measure_255 (by decide) ?_
                                                      refine step hi2 _ (fun p hp => ?_) (fun p h1 h2 k hk => ?_) ?_ ?_ ?_ ?_ ?_ _ _
                                                      · rw [up2_ne _ _ _ (by omega), up2_ne _ _ _ (by omega), up2_ne _ _ _ (by omega), up2_ne _ _ _ (by omega), up2_ne _ _ _ (by omega)]
                                                      · simp only [up2_at]
                                                        rw [if_neg (by omega), if_neg (by omega), if_neg (by omega), if_neg (by omega), if_neg (by omega)]
                                                      · simp [up2_at, fW]
                                                        first | (rw [if_pos (by omega)]; rw [q1, show (2 : Int) = ((2 : Nat) : Int) from rfl, bDivN (by omega) (by omega) (by omega)]; done) | (rw [if_neg (by omega)]; exact q1)
                                                      · simp [up2_at, fH]
                                                        first | (rw [if_pos (by omega)]; rw [q2, show (2 : Int) = ((2 : Nat) : Int) from rfl, bDivN (by omega) (by omega) (by omega)]; done) | (rw [if_neg (by omega)]; exact q2)
                                                      · simp [up2_at, fP]
                                                        first | (rw [if_pos (by omega)]; (try rfl); done) | (rw [if_neg (by omega)]; exact q3)
                                                      · simp [up2_at, fL]
                                                        rw [q4]
                                                        first | (rw [if_pos (by omega)]; rfl) | (rw [if_neg (by omega), if_pos (by omega)]; rfl) | (rw [if_neg (by omega), if_neg (by omega), if_pos (by omega), q5]) | (rw [if_neg (by omega), if_neg (by omega), if_neg (by omega)]; rfl)
                                                      · simp [up2_at, fS]
                                                        first | (rw [if_pos (by omega), q5]; rfl) | (rw [if_neg (by omega)]; exact q5))
                                                 · first
                                                   | (simp (discharger := omega) only [wr_id] at c_231; done)
                                                   | (try simp (discharger := omega) only [wr_id] at c_231
                                                      exfalso
                                                      first | omega | exact c_231 trivial)
                                                   | (try simp (discharger := omega) only [wr_id] at c_231
                                                      refine R_iconst dX5_measure_234 ?_
                                                      refine R_aload_n dX5_measure_235 rfl rfl ?_
                                                      refine R_getA fRX5_48 dX5_measure_236 rfl (Nat.lt_of_lt_of_le (Nat.le_of_ble_eq_true rfl) hnx) rfl ?_
                                                      refine R_iload_n dX5_measure_239 rfl rfl ?_
                                                      refine R_iaload (k := i) dX5_measure_240 rfl (Nat.lt_of_lt_of_le (Nat.le_of_ble_eq_true rfl) hnx) (by omega) (by omega) (by decide) ?_
                                                      refine R_imul dX5_measure_241 ?_
                                                      refine R_goto (tgt := 251) dX5_measure_242 (by decide) ?_
                                                      refine R_iastore (k := i + 1) dX5_measure_251 rfl (Nat.lt_of_lt_of_le (Nat.le_of_ble_eq_true rfl) hnx) (by omega) (by omega) (by decide) ?_
                                                      refine R_iinc dX5_measure_252 rfl (Nat.le_of_ble_eq_true rfl) ?_
                                                      refine R_goto (tgt := 43) dX5_measure_255 (by decide) ?_
                                                      refine step hi2 _ (fun p hp => ?_) (fun p h1 h2 k hk => ?_) ?_ ?_ ?_ ?_ ?_ _ _
                                                      · rw [up2_ne _ _ _ (by omega), up2_ne _ _ _ (by omega), up2_ne _ _ _ (by omega), up2_ne _ _ _ (by omega), up2_ne _ _ _ (by omega)]
                                                      · simp only [up2_at]
                                                        rw [if_neg (by omega), if_neg (by omega), if_neg (by omega), if_neg (by omega), if_neg (by omega)]
                                                      · simp [up2_at, fW]
                                                        first | (rw [if_pos (by omega)]; rw [q1, show (2 : Int) = ((2 : Nat) : Int) from rfl, bDivN (by omega) (by omega) (by omega)]; done) | (rw [if_neg (by omega)]; exact q1)
                                                      · simp [up2_at, fH]
                                                        first | (rw [if_pos (by omega)]; rw [q2, show (2 : Int) = ((2 : Nat) : Int) from rfl, bDivN (by omega) (by omega) (by omega)]; done) | (rw [if_neg (by omega)]; exact q2)
                                                      · simp [up2_at, fP]
                                                        first | (rw [if_pos (by omega)]; (try rfl); done) | (rw [if_neg (by omega)]; exact q3)
                                                      · simp [up2_at, fL]
                                                        rw [q4]
                                                        first | (rw [if_pos (by omega)]; rfl) | (rw [if_neg (by omega), if_pos (by omega)]; rfl) | (rw [if_neg (by omega), if_neg (by omega), if_pos (by omega), q5]) | (rw [if_neg (by omega), if_neg (by omega), if_neg (by omega)]; rfl)
                                                      · simp [up2_at, fS]
                                                        first | (rw [if_pos (by omega), q5]; rfl) | (rw [if_neg (by omega)]; exact q5))))
                                       · first
                                         | (simp (discharger := omega) only [wr_id] at c_185; done)
                                         | (try simp (discharger := omega) only [wr_id] at c_185
                                            exfalso
                                            first | omega | exact c_185 trivial)
                                         | (try simp (discharger := omega) only [wr_id] at c_185
                                            refine R_iconst dX5_measure_188 ?_
                                            refine R_goto (tgt := 206) dX5_measure_189 (by decide) ?_
                                            refine R_istore_n dX5_measure_206 rfl (Nat.le_of_ble_eq_true rfl) ?_
                                            refine R_aload_n dX5_measure_207 rfl rfl ?_
                                            refine R_getA fRX5_45 dX5_measure_208 rfl (Nat.lt_of_lt_of_le (Nat.le_of_ble_eq_true rfl) hnx) rfl ?_
                                            refine R_iload_n dX5_measure_211 rfl rfl ?_
                                            refine R_iconst dX5_measure_212 ?_
                                            refine R_iadd dX5_measure_213 ?_
                                            refine R_aload_n dX5_measure_214 rfl rfl ?_
                                            refine R_getA fRX5_45 dX5_measure_215 rfl (Nat.lt_of_lt_of_le (Nat.le_of_ble_eq_true rfl) hnx) rfl ?_
                                            refine R_iload_n dX5_measure_218 rfl rfl ?_
                                            refine R_iaload (k := i) dX5_measure_219 rfl (Nat.lt_of_lt_of_le (Nat.le_of_ble_eq_true rfl) hnx) (by omega) (by omega) (by decide) ?_
                                            refine R_iload_n dX5_measure_220 rfl rfl ?_
                                            refine R_iadd dX5_measure_221 ?_
                                            refine R_iastore (k := i + 1) dX5_measure_222 rfl (Nat.lt_of_lt_of_le (Nat.le_of_ble_eq_true rfl) hnx) (by omega) (by omega) (by decide) ?_
                                            refine R_aload_n dX5_measure_223 rfl rfl ?_
                                            refine R_getA fRX5_48 dX5_measure_224 rfl (Nat.lt_of_lt_of_le (Nat.le_of_ble_eq_true rfl) hnx) rfl ?_
                                            refine R_iload_n dX5_measure_227 rfl rfl ?_
                                            refine R_iconst dX5_measure_228 ?_
                                            refine R_iadd dX5_measure_229 ?_
                                            refine R_iload_n dX5_measure_230 rfl rfl ?_
                                            refine R_if_eq (tgt := 245) dX5_measure_231 (by decide) (fun c_231 => ?_) (fun c_231 => ?_)
                                            · first
                                              | (simp (discharger := omega) only [wr_id] at c_231; done)
                                              | (try simp (discharger := omega) only [wr_id] at c_231
                                                 exfalso
                                                 first | omega | exact c_231 trivial)
                                              | (try simp (discharger := omega) only [wr_id] at c_231
                                                 refine R_aload_n dX5_measure_245 rfl rfl ?_
                                                 refine R_getA fRX5_48 dX5_measure_246 rfl (Nat.lt_of_lt_of_le (Nat.le_of_ble_eq_true rfl) hnx) rfl ?_
                                                 refine R_iload_n dX5_measure_249 rfl rfl ?_
                                                 refine R_iaload (k := i) dX5_measure_250 rfl (Nat.lt_of_lt_of_le (Nat.le_of_ble_eq_true rfl) hnx) (by omega) (by omega) (by decide) ?_
                                                 refine R_iastore (k := i + 1) dX5_measure_251 rfl (Nat.lt_of_lt_of_le (Nat.le_of_ble_eq_true rfl) hnx) (by omega) (by omega) (by decide) ?_
                                                 refine R_iinc dX5_measure_252 rfl (Nat.le_of_ble_eq_true rfl) ?_
                                                 refine R_goto (tgt := 43) dX5_measure_255 (by decide) ?_
                                                 refine step hi2 _ (fun p hp => ?_) (fun p h1 h2 k hk => ?_) ?_ ?_ ?_ ?_ ?_ _ _
                                                 · rw [up2_ne _ _ _ (by omega), up2_ne _ _ _ (by omega), up2_ne _ _ _ (by omega), up2_ne _ _ _ (by omega), up2_ne _ _ _ (by omega)]
                                                 · simp only [up2_at]
                                                   rw [if_neg (by omega), if_neg (by omega), if_neg (by omega), if_neg (by omega), if_neg (by omega)]
                                                 · simp [up2_at, fW]
                                                   first | (rw [if_pos (by omega)]; rw [q1, show (2 : Int) = ((2 : Nat) : Int) from rfl, bDivN (by omega) (by omega) (by omega)]; done) | (rw [if_neg (by omega)]; exact q1)
                                                 · simp [up2_at, fH]
                                                   first | (rw [if_pos (by omega)]; rw [q2, show (2 : Int) = ((2 : Nat) : Int) from rfl, bDivN (by omega) (by omega) (by omega)]; done) | (rw [if_neg (by omega)]; exact q2)
                                                 · simp [up2_at, fP]
                                                   first | (rw [if_pos (by omega)]; (try rfl); done) | (rw [if_neg (by omega)]; exact q3)
                                                 · simp [up2_at, fL]
                                                   rw [q4]
                                                   first | (rw [if_pos (by omega)]; rfl) | (rw [if_neg (by omega), if_pos (by omega)]; rfl) | (rw [if_neg (by omega), if_neg (by omega), if_pos (by omega), q5]) | (rw [if_neg (by omega), if_neg (by omega), if_neg (by omega)]; rfl)
                                                 · simp [up2_at, fS]
                                                   first | (rw [if_pos (by omega), q5]; rfl) | (rw [if_neg (by omega)]; exact q5))
                                            · first
                                              | (simp (discharger := omega) only [wr_id] at c_231; done)
                                              | (try simp (discharger := omega) only [wr_id] at c_231
                                                 exfalso
                                                 first | omega | exact c_231 trivial)
                                              | (try simp (discharger := omega) only [wr_id] at c_231
                                                 refine R_iconst dX5_measure_234 ?_
                                                 refine R_aload_n dX5_measure_235 rfl rfl ?_
                                                 refine R_getA fRX5_48 dX5_measure_236 rfl (Nat.lt_of_lt_of_le (Nat.le_of_ble_eq_true rfl) hnx) rfl ?_
                                                 refine R_iload_n dX5_measure_239 rfl rfl ?_
                                                 refine R_iaload (k := i) dX5_measure_240 rfl (Nat.lt_of_lt_of_le (Nat.le_of_ble_eq_true rfl) hnx) (by omega) (by omega) (by decide) ?_
                                                 refine R_imul dX5_measure_241 ?_
                                                 refine R_goto (tgt := 251) dX5_measure_242 (by decide) ?_
                                                 refine R_iastore (k := i + 1) dX5_measure_251 rfl (Nat.lt_of_lt_of_le (Nat.le_of_ble_eq_true rfl) hnx) (by omega) (by omega) (by decide) ?_
                                                 refine R_iinc dX5_measure_252 rfl (Nat.le_of_ble_eq_true rfl) ?_
                                                 refine R_goto (tgt := 43) dX5_measure_255 (by decide) ?_
                                                 refine step hi2 _ (fun p hp => ?_) (fun p h1 h2 k hk => ?_) ?_ ?_ ?_ ?_ ?_ _ _
                                                 · rw [up2_ne _ _ _ (by omega), up2_ne _ _ _ (by omega), up2_ne _ _ _ (by omega), up2_ne _ _ _ (by omega), up2_ne _ _ _ (by omega)]
                                                 · simp only [up2_at]
                                                   rw [if_neg (by omega), if_neg (by omega), if_neg (by omega), if_neg (by omega), if_neg (by omega)]
                                                 · simp [up2_at, fW]
                                                   first | (rw [if_pos (by omega)]; rw [q1, show (2 : Int) = ((2 : Nat) : Int) from rfl, bDivN (by omega) (by omega) (by omega)]; done) | (rw [if_neg (by omega)]; exact q1)
                                                 · simp [up2_at, fH]
                                                   first | (rw [if_pos (by omega)]; rw [q2, show (2 : Int) = ((2 : Nat) : Int) from rfl, bDivN (by omega) (by omega) (by omega)]; done) | (rw [if_neg (by omega)]; exact q2)
                                                 · simp [up2_at, fP]
                                                   first | (rw [if_pos (by omega)]; (try rfl); done) | (rw [if_neg (by omega)]; exact q3)
                                                 · simp [up2_at, fL]
                                                   rw [q4]
                                                   first | (rw [if_pos (by omega)]; rfl) | (rw [if_neg (by omega), if_pos (by omega)]; rfl) | (rw [if_neg (by omega), if_neg (by omega), if_pos (by omega), q5]) | (rw [if_neg (by omega), if_neg (by omega), if_neg (by omega)]; rfl)
                                                 · simp [up2_at, fS]
                                                   first | (rw [if_pos (by omega), q5]; rfl) | (rw [if_neg (by omega)]; exact q5))))
                                  · first
                                    | (simp (discharger := omega) only [wr_id] at c_171; done)
                                    | (try simp (discharger := omega) only [wr_id] at c_171
                                       exfalso
                                       first | omega | exact c_171 trivial)
                                    | (try simp (discharger := omega) only [wr_id] at c_171
                                       refine R_iconst dX5_measure_174 ?_
                                       refine R_goto (tgt := 206) dX5_measure_175 (by decide) ?_
                                       refine R_istore_n dX5_measure_206 rfl (Nat.le_of_ble_eq_true rfl) ?_
                                       refine R_aload_n dX5_measure_207 rfl rfl ?_
                                       refine R_getA fRX5_45 dX5_measure_208 rfl (Nat.lt_of_lt_of_le (Nat.le_of_ble_eq_true rfl) hnx) rfl ?_
                                       refine R_iload_n dX5_measure_211 rfl rfl ?_
                                       refine R_iconst dX5_measure_212 ?_
                                       refine R_iadd dX5_measure_213 ?_
                                       refine R_aload_n dX5_measure_214 rfl rfl ?_
                                       refine R_getA fRX5_45 dX5_measure_215 rfl (Nat.lt_of_lt_of_le (Nat.le_of_ble_eq_true rfl) hnx) rfl ?_
                                       refine R_iload_n dX5_measure_218 rfl rfl ?_
                                       refine R_iaload (k := i) dX5_measure_219 rfl (Nat.lt_of_lt_of_le (Nat.le_of_ble_eq_true rfl) hnx) (by omega) (by omega) (by decide) ?_
                                       refine R_iload_n dX5_measure_220 rfl rfl ?_
                                       refine R_iadd dX5_measure_221 ?_
                                       refine R_iastore (k := i + 1) dX5_measure_222 rfl (Nat.lt_of_lt_of_le (Nat.le_of_ble_eq_true rfl) hnx) (by omega) (by omega) (by decide) ?_
                                       refine R_aload_n dX5_measure_223 rfl rfl ?_
                                       refine R_getA fRX5_48 dX5_measure_224 rfl (Nat.lt_of_lt_of_le (Nat.le_of_ble_eq_true rfl) hnx) rfl ?_
                                       refine R_iload_n dX5_measure_227 rfl rfl ?_
                                       refine R_iconst dX5_measure_228 ?_
                                       refine R_iadd dX5_measure_229 ?_
                                       refine R_iload_n dX5_measure_230 rfl rfl ?_
                                       refine R_if_eq (tgt := 245) dX5_measure_231 (by decide) (fun c_231 => ?_) (fun c_231 => ?_)
                                       · first
                                         | (simp (discharger := omega) only [wr_id] at c_231; done)
                                         | (try simp (discharger := omega) only [wr_id] at c_231
                                            exfalso
                                            first | omega | exact c_231 trivial)
                                         | (try simp (discharger := omega) only [wr_id] at c_231
                                            refine R_aload_n dX5_measure_245 rfl rfl ?_
                                            refine R_getA fRX5_48 dX5_measure_246 rfl (Nat.lt_of_lt_of_le (Nat.le_of_ble_eq_true rfl) hnx) rfl ?_
                                            refine R_iload_n dX5_measure_249 rfl rfl ?_
                                            refine R_iaload (k := i) dX5_measure_250 rfl (Nat.lt_of_lt_of_le (Nat.le_of_ble_eq_true rfl) hnx) (by omega) (by omega) (by decide) ?_
                                            refine R_iastore (k := i + 1) dX5_measure_251 rfl (Nat.lt_of_lt_of_le (Nat.le_of_ble_eq_true rfl) hnx) (by omega) (by omega) (by decide) ?_
                                            refine R_iinc dX5_measure_252 rfl (Nat.le_of_ble_eq_true rfl) ?_
                                            refine R_goto (tgt := 43) dX5_measure_255 (by decide) ?_
                                            refine step hi2 _ (fun p hp => ?_) (fun p h1 h2 k hk => ?_) ?_ ?_ ?_ ?_ ?_ _ _
                                            · rw [up2_ne _ _ _ (by omega), up2_ne _ _ _ (by omega), up2_ne _ _ _ (by omega), up2_ne _ _ _ (by omega), up2_ne _ _ _ (by omega)]
                                            · simp only [up2_at]
                                              rw [if_neg (by omega), if_neg (by omega), if_neg (by omega), if_neg (by omega), if_neg (by omega)]
                                            · simp [up2_at, fW]
                                              first | (rw [if_pos (by omega)]; rw [q1, show (2 : Int) = ((2 : Nat) : Int) from rfl, bDivN (by omega) (by omega) (by omega)]; done) | (rw [if_neg (by omega)]; exact q1)
                                            · simp [up2_at, fH]
                                              first | (rw [if_pos (by omega)]; rw [q2, show (2 : Int) = ((2 : Nat) : Int) from rfl, bDivN (by omega) (by omega) (by omega)]; done) | (rw [if_neg (by omega)]; exact q2)
                                            · simp [up2_at, fP]
                                              first | (rw [if_pos (by omega)]; (try rfl); done) | (rw [if_neg (by omega)]; exact q3)
                                            · simp [up2_at, fL]
                                              rw [q4]
                                              first | (rw [if_pos (by omega)]; rfl) | (rw [if_neg (by omega), if_pos (by omega)]; rfl) | (rw [if_neg (by omega), if_neg (by omega), if_pos (by omega), q5]) | (rw [if_neg (by omega), if_neg (by omega), if_neg (by omega)]; rfl)
                                            · simp [up2_at, fS]
                                              first | (rw [if_pos (by omega), q5]; rfl) | (rw [if_neg (by omega)]; exact q5))
                                       · first
                                         | (simp (discharger := omega) only [wr_id] at c_231; done)
                                         | (try simp (discharger := omega) only [wr_id] at c_231
                                            exfalso
                                            first | omega | exact c_231 trivial)
                                         | (try simp (discharger := omega) only [wr_id] at c_231
                                            refine R_iconst dX5_measure_234 ?_
                                            refine R_aload_n dX5_measure_235 rfl rfl ?_
                                            refine R_getA fRX5_48 dX5_measure_236 rfl (Nat.lt_of_lt_of_le (Nat.le_of_ble_eq_true rfl) hnx) rfl ?_
                                            refine R_iload_n dX5_measure_239 rfl rfl ?_
                                            refine R_iaload (k := i) dX5_measure_240 rfl (Nat.lt_of_lt_of_le (Nat.le_of_ble_eq_true rfl) hnx) (by omega) (by omega) (by decide) ?_
                                            refine R_imul dX5_measure_241 ?_
                                            refine R_goto (tgt := 251) dX5_measure_242 (by decide) ?_
                                            refine R_iastore (k := i + 1) dX5_measure_251 rfl (Nat.lt_of_lt_of_le (Nat.le_of_ble_eq_true rfl) hnx) (by omega) (by omega) (by decide) ?_
                                            refine R_iinc dX5_measure_252 rfl (Nat.le_of_ble_eq_true rfl) ?_
                                            refine R_goto (tgt := 43) dX5_measure_255 (by decide) ?_
                                            refine step hi2 _ (fun p hp => ?_) (fun p h1 h2 k hk => ?_) ?_ ?_ ?_ ?_ ?_ _ _
                                            · rw [up2_ne _ _ _ (by omega), up2_ne _ _ _ (by omega), up2_ne _ _ _ (by omega), up2_ne _ _ _ (by omega), up2_ne _ _ _ (by omega)]
                                            · simp only [up2_at]
                                              rw [if_neg (by omega), if_neg (by omega), if_neg (by omega), if_neg (by omega), if_neg (by omega)]
                                            · simp [up2_at, fW]
                                              first | (rw [if_pos (by omega)]; rw [q1, show (2 : Int) = ((2 : Nat) : Int) from rfl, bDivN (by omega) (by omega) (by omega)]; done) | (rw [if_neg (by omega)]; exact q1)
                                            · simp [up2_at, fH]
                                              first | (rw [if_pos (by omega)]; rw [q2, show (2 : Int) = ((2 : Nat) : Int) from rfl, bDivN (by omega) (by omega) (by omega)]; done) | (rw [if_neg (by omega)]; exact q2)
                                            · simp [up2_at, fP]
                                              first | (rw [if_pos (by omega)]; (try rfl); done) | (rw [if_neg (by omega)]; exact q3)
                                            · simp [up2_at, fL]
                                              rw [q4]
                                              first | (rw [if_pos (by omega)]; rfl) | (rw [if_neg (by omega), if_pos (by omega)]; rfl) | (rw [if_neg (by omega), if_neg (by omega), if_pos (by omega), q5]) | (rw [if_neg (by omega), if_neg (by omega), if_neg (by omega)]; rfl)
                                            · simp [up2_at, fS]
                                              first | (rw [if_pos (by omega), q5]; rfl) | (rw [if_neg (by omega)]; exact q5))))))
                   · first
                     | (simp (discharger := omega) only [wr_id] at c_105; done)
                     | (try simp (discharger := omega) only [wr_id] at c_105
                        exfalso
                        first | omega | exact c_105 trivial)
                     | (try simp (discharger := omega) only [wr_id] at c_105
                        refine R_aload_n dX5_measure_108 rfl rfl ?_
                        refine R_getA fRX5_39 dX5_measure_109 rfl (Nat.lt_of_lt_of_le (Nat.le_of_ble_eq_true rfl) hnx) rfl ?_
                        refine R_iload_n dX5_measure_112 rfl rfl ?_
                        refine R_iaload (k := i) dX5_measure_113 rfl (Nat.lt_of_lt_of_le (Nat.le_of_ble_eq_true rfl) hnx) (by omega) (by omega) (by decide) ?_
                        refine R_iconst dX5_measure_114 ?_
                        refine R_idiv dX5_measure_115 (by decide) ?_
                        refine R_goto (tgt := 125) dX5_measure_116 (by decide) ?_
                        refine R_iastore (k := i + 1) dX5_measure_125 rfl (Nat.lt_of_lt_of_le (Nat.le_of_ble_eq_true rfl) hnx) (by omega) (by omega) (by decide) ?_
                        refine R_aload_n dX5_measure_126 rfl rfl ?_
                        refine R_getA fRX5_42 dX5_measure_127 rfl (Nat.lt_of_lt_of_le (Nat.le_of_ble_eq_true rfl) hnx) rfl ?_
                        refine R_iload_n dX5_measure_130 rfl rfl ?_
                        refine R_iconst dX5_measure_131 ?_
                        refine R_iadd dX5_measure_132 ?_
                        refine R_aload_n dX5_measure_133 rfl rfl ?_
                        refine R_getA fRX5_24 dX5_measure_134 rfl (Nat.lt_of_lt_of_le (Nat.le_of_ble_eq_true rfl) hnx) rfl ?_
                        refine R_iload_n dX5_measure_137 rfl rfl ?_
                        refine R_iaload (k := i) dX5_measure_138 rfl (Nat.lt_of_lt_of_le (Nat.le_of_ble_eq_true rfl) hnx) (by omega) (by omega) (by decide) ?_
                        refine R_iconst dX5_measure_139 ?_
                        dsimp only
                        rw [up2_ne _ _ _ (by decide), up2_ne _ _ _ (by decide), e6]
                        refine R_icmp_ne (tgt := 147) dX5_measure_140 (by decide) (fun c_140 => ?_) (fun c_140 => ?_)
                        · first
                          | (simp (discharger := omega) only [wr_id] at c_140; done)
                          | (try simp (discharger := omega) only [wr_id] at c_140
                             exfalso
                             first | omega | exact c_140 trivial)
                          | (try simp (discharger := omega) only [wr_id] at c_140
                             refine R_aload_n dX5_measure_147 rfl rfl ?_
                             refine R_getA fRX5_42 dX5_measure_148 rfl (Nat.lt_of_lt_of_le (Nat.le_of_ble_eq_true rfl) hnx) rfl ?_
                             refine R_iload_n dX5_measure_151 rfl rfl ?_
                             refine R_iaload (k := i) dX5_measure_152 rfl (Nat.lt_of_lt_of_le (Nat.le_of_ble_eq_true rfl) hnx) (by omega) (by omega) (by decide) ?_
                             refine R_iastore (k := i + 1) dX5_measure_153 rfl (Nat.lt_of_lt_of_le (Nat.le_of_ble_eq_true rfl) hnx) (by omega) (by omega) (by decide) ?_
                             refine R_aload_n dX5_measure_154 rfl rfl ?_
                             refine R_getA fRX5_24 dX5_measure_155 rfl (Nat.lt_of_lt_of_le (Nat.le_of_ble_eq_true rfl) hnx) rfl ?_
                             refine R_iload_n dX5_measure_158 rfl rfl ?_
                             refine R_iaload (k := i) dX5_measure_159 rfl (Nat.lt_of_lt_of_le (Nat.le_of_ble_eq_true rfl) hnx) (by omega) (by omega) (by decide) ?_
                             refine R_iconst dX5_measure_160 ?_
                             dsimp only
                             rw [up2_ne _ _ _ (by decide), up2_ne _ _ _ (by decide), up2_ne _ _ _ (by decide), e6]
                             refine R_icmp_eq (tgt := 174) dX5_measure_161 (by decide) (fun c_161 => ?_) (fun c_161 => ?_)
                             · first
                               | (simp (discharger := omega) only [wr_id] at c_161; done)
                               | (try simp (discharger := omega) only [wr_id] at c_161
                                  exfalso
                                  first | omega | exact c_161 trivial)
                               | (try simp (discharger := omega) only [wr_id] at c_161
                                  refine R_iconst dX5_measure_174 ?_
                                  refine R_goto (tgt := 206) dX5_measure_175 (by decide) ?_
                                  refine R_istore_n dX5_measure_206 rfl (Nat.le_of_ble_eq_true rfl) ?_
                                  refine R_aload_n dX5_measure_207 rfl rfl ?_
                                  refine R_getA fRX5_45 dX5_measure_208 rfl (Nat.lt_of_lt_of_le (Nat.le_of_ble_eq_true rfl) hnx) rfl ?_
                                  refine R_iload_n dX5_measure_211 rfl rfl ?_
                                  refine R_iconst dX5_measure_212 ?_
                                  refine R_iadd dX5_measure_213 ?_
                                  refine R_aload_n dX5_measure_214 rfl rfl ?_
                                  refine R_getA fRX5_45 dX5_measure_215 rfl (Nat.lt_of_lt_of_le (Nat.le_of_ble_eq_true rfl) hnx) rfl ?_
                                  refine R_iload_n dX5_measure_218 rfl rfl ?_
                                  refine R_iaload (k := i) dX5_measure_219 rfl (Nat.lt_of_lt_of_le (Nat.le_of_ble_eq_true rfl) hnx) (by omega) (by omega) (by decide) ?_
                                  refine R_iload_n dX5_measure_220 rfl rfl ?_
                                  refine R_iadd dX5_measure_221 ?_
                                  refine R_iastore (k := i + 1) dX5_measure_222 rfl (Nat.lt_of_lt_of_le (Nat.le_of_ble_eq_true rfl) hnx) (by omega) (by omega) (by decide) ?_
                                  refine R_aload_n dX5_measure_223 rfl rfl ?_
                                  refine R_getA fRX5_48 dX5_measure_224 rfl (Nat.lt_of_lt_of_le (Nat.le_of_ble_eq_true rfl) hnx) rfl ?_
                                  refine R_iload_n dX5_measure_227 rfl rfl ?_
                                  refine R_iconst dX5_measure_228 ?_
                                  refine R_iadd dX5_measure_229 ?_
                                  refine R_iload_n dX5_measure_230 rfl rfl ?_
                                  refine R_if_eq (tgt := 245) dX5_measure_231 (by decide) (fun c_231 => ?_) (fun c_231 => ?_)
                                  · first
                                    | (simp (discharger := omega) only [wr_id] at c_231; done)
                                    | (try simp (discharger := omega) only [wr_id] at c_231
                                       exfalso
                                       first | omega | exact c_231 trivial)
                                    | (try simp (discharger := omega) only [wr_id] at c_231
                                       refine R_aload_n dX5_measure_245 rfl rfl ?_
                                       refine R_getA fRX5_48 dX5_measure_246 rfl (Nat.lt_of_lt_of_le (Nat.le_of_ble_eq_true rfl) hnx) rfl ?_
                                       refine R_iload_n dX5_measure_249 rfl rfl ?_
                                       refine R_iaload (k := i) dX5_measure_250 rfl (Nat.lt_of_lt_of_le (Nat.le_of_ble_eq_true rfl) hnx) (by omega) (by omega) (by decide) ?_
                                       refine R_iastore (k := i + 1) dX5_measure_251 rfl (Nat.lt_of_lt_of_le (Nat.le_of_ble_eq_true rfl) hnx) (by omega) (by omega) (by decide) ?_
                                       refine R_iinc dX5_measure_252 rfl (Nat.le_of_ble_eq_true rfl) ?_
                                       refine R_goto (tgt := 43) dX5_measure_255 (by decide) ?_
                                       refine step hi2 _ (fun p hp => ?_) (fun p h1 h2 k hk => ?_) ?_ ?_ ?_ ?_ ?_ _ _
                                       · rw [up2_ne _ _ _ (by omega), up2_ne _ _ _ (by omega), up2_ne _ _ _ (by omega), up2_ne _ _ _ (by omega), up2_ne _ _ _ (by omega)]
                                       · simp only [up2_at]
                                         rw [if_neg (by omega), if_neg (by omega), if_neg (by omega), if_neg (by omega), if_neg (by omega)]
                                       · simp [up2_at, fW]
                                         first | (rw [if_pos (by omega)]; rw [q1, show (2 : Int) = ((2 : Nat) : Int) from rfl, bDivN (by omega) (by omega) (by omega)]; done) | (rw [if_neg (by omega)]; exact q1)
                                       · simp [up2_at, fH]
                                         first | (rw [if_pos (by omega)]; rw [q2, show (2 : Int) = ((2 : Nat) : Int) from rfl, bDivN (by omega) (by omega) (by omega)]; done) | (rw [if_neg (by omega)]; exact q2)
                                       · simp [up2_at, fP]
                                         first | (rw [if_pos (by omega)]; (try rfl); done) | (rw [if_neg (by omega)]; exact q3)
                                       · simp [up2_at, fL]
                                         rw [q4]
                                         first | (rw [if_pos (by omega)]; rfl) | (rw [if_neg (by omega), if_pos (by omega)]; rfl) | (rw [if_neg (by omega), if_neg (by omega), if_pos (by omega), q5]) | (rw [if_neg (by omega), if_neg (by omega), if_neg (by omega)]; rfl)
                                       · simp [up2_at, fS]
                                         first | (rw [if_pos (by omega), q5]; rfl) | (rw [if_neg (by omega)]; exact q5))
                                  · first
                                    | (simp (discharger := omega) only [wr_id] at c_231; done)
                                    | (try simp (discharger := omega) only [wr_id] at c_231
                                       exfalso
                                       first | omega | exact c_231 trivial)
                                    | (try simp (discharger := omega) only [wr_id] at c_231
                                       refine R_iconst dX5_measure_234 ?_
                                       refine R_aload_n dX5_measure_235 rfl rfl ?_
                                       refine R_getA fRX5_48 dX5_measure_236 rfl (Nat.lt_of_lt_of_le (Nat.le_of_ble_eq_true rfl) hnx) rfl ?_
                                       refine R_iload_n dX5_measure_239 rfl rfl ?_
                                       refine R_iaload (k := i) dX5_measure_240 rfl (Nat.lt_of_lt_of_le (Nat.le_of_ble_eq_true rfl) hnx) (by omega) (by omega) (by decide) ?_
                                       refine R_imul dX5_measure_241 ?_
                                       refine R_goto (tgt := 251) dX5_measure_242 (by decide) ?_
                                       refine R_iastore (k := i + 1) dX5_measure_251 rfl (Nat.lt_of_lt_of_le (Nat.le_of_ble_eq_true rfl) hnx) (by omega) (by omega) (by decide) ?_
                                       refine R_iinc dX5_measure_252 rfl (Nat.le_of_ble_eq_true rfl) ?_
                                       refine R_goto (tgt := 43) dX5_measure_255 (by decide) ?_
                                       refine step hi2 _ (fun p hp => ?_) (fun p h1 h2 k hk => ?_) ?_ ?_ ?_ ?_ ?_ _ _
                                       · rw [up2_ne _ _ _ (by omega), up2_ne _ _ _ (by omega), up2_ne _ _ _ (by omega), up2_ne _ _ _ (by omega), up2_ne _ _ _ (by omega)]
                                       · simp only [up2_at]
                                         rw [if_neg (by omega), if_neg (by omega), if_neg (by omega), if_neg (by omega), if_neg (by omega)]
                                       · simp [up2_at, fW]
                                         first | (rw [if_pos (by omega)]; rw [q1, show (2 : Int) = ((2 : Nat) : Int) from rfl, bDivN (by omega) (by omega) (by omega)]; done) | (rw [if_neg (by omega)]; exact q1)
                                       · simp [up2_at, fH]
                                         first | (rw [if_pos (by omega)]; rw [q2, show (2 : Int) = ((2 : Nat) : Int) from rfl, bDivN (by omega) (by omega) (by omega)]; done) | (rw [if_neg (by omega)]; exact q2)
                                       · simp [up2_at, fP]
                                         first | (rw [if_pos (by omega)]; (try rfl); done) | (rw [if_neg (by omega)]; exact q3)
                                       · simp [up2_at, fL]
                                         rw [q4]
                                         first | (rw [if_pos (by omega)]; rfl) | (rw [if_neg (by omega), if_pos (by omega)]; rfl) | (rw [if_neg (by omega), if_neg (by omega), if_pos (by omega), q5]) | (rw [if_neg (by omega), if_neg (by omega), if_neg (by omega)]; rfl)
                                       · simp [up2_at, fS]
                                         first | (rw [if_pos (by omega), q5]; rfl) | (rw [if_neg (by omega)]; exact q5)))
                             · first
                               | (simp (discharger := omega) only [wr_id] at c_161; done)
                               | (try simp (discharger := omega) only [wr_id] at c_161
                                  exfalso
                                  first | omega | exact c_161 trivial)
                               | (try simp (discharger := omega) only [wr_id] at c_161
                                  refine R_aload_n dX5_measure_164 rfl rfl ?_
                                  refine R_getA fRX5_24 dX5_measure_165 rfl (Nat.lt_of_lt_of_le (Nat.le_of_ble_eq_true rfl) hnx) rfl ?_
                                  refine R_iload_n dX5_measure_168 rfl rfl ?_
                                  refine R_iaload (k := i) dX5_measure_169 rfl (Nat.lt_of_lt_of_le (Nat.le_of_ble_eq_true rfl) hnx) (by omega) (by omega) (by decide) ?_
                                  refine R_iconst dX5_measure_170 ?_
                                  dsimp only
                                  rw [up2_ne _ _ _ (by decide), up2_ne _ _ _ (by decide), up2_ne _ _ _ (by decide), e6]
                                  refine R_icmp_ne (tgt := 178) dX5_measure_171 (by decide) (fun c_171 => ?_) (fun c_171 => ?_)
                                  · first
                                    | (simp (discharger := omega) only [wr_id] at c_171; done)
                                    | (try simp (discharger := omega) only [wr_id] at c_171
                                       exfalso
                                       first | omega | exact c_171 trivial)
                                    | (try simp (discharger := omega) only [wr_id] at c_171
                                       refine R_aload_n dX5_measure_178 rfl rfl ?_
                                       refine R_getA fRX5_24 dX5_measure_179 rfl (Nat.lt_of_lt_of_le (Nat.le_of_ble_eq_true rfl) hnx) rfl ?_
                                       refine R_iload_n dX5_measure_182 rfl rfl ?_
                                       refine R_iaload (k := i) dX5_measure_183 rfl (Nat.lt_of_lt_of_le (Nat.le_of_ble_eq_true rfl) hnx) (by omega) (by omega) (by decide) ?_
                                       refine R_iconst dX5_measure_184 ?_
                                       dsimp only
                                       rw [up2_ne _ _ _ (by decide), up2_ne _ _ _ (by decide), up2_ne _ _ _ (by decide), e6]
                                       refine R_icmp_ne (tgt := 192) dX5_measure_185 (by decide) (fun c_185 => ?_) (fun c_185 => ?_)
                                       · first
                                         | (simp (discharger := omega) only [wr_id] at c_185; done)
                                         | (try simp (discharger := omega) only [wr_id] at c_185
                                            exfalso
                                            first | omega | exact c_185 trivial)
                                         | (try simp (discharger := omega) only [wr_id] at c_185
                                            refine R_iload_n dX5_measure_192 rfl rfl ?_
                                            refine R_if_eq (tgt := 205) dX5_measure_193 (by decide) (fun c_193 => ?_) (fun c_193 => ?_)
                                            · first
                                              | (simp (discharger := omega) only [wr_id] at c_193; done)
                                              | (try simp (discharger := omega) only [wr_id] at c_193
                                                 exfalso
                                                 first | omega | exact c_193 trivial)
                                              | (try simp (discharger := omega) only [wr_id] at c_193
                                                 refine R_iconst dX5_measure_205 ?_
                                                 refine R_istore_n dX5_measure_206 rfl (Nat.le_of_ble_eq_true rfl) ?_
                                                 refine R_aload_n dX5_measure_207 rfl rfl ?_
                                                 refine R_getA fRX5_45 dX5_measure_208 rfl (Nat.lt_of_lt_of_le (Nat.le_of_ble_eq_true rfl) hnx) rfl ?_
                                                 refine R_iload_n dX5_measure_211 rfl rfl ?_
                                                 refine R_iconst dX5_measure_212 ?_
                                                 refine R_iadd dX5_measure_213 ?_
                                                 refine R_aload_n dX5_measure_214 rfl rfl ?_
                                                 refine R_getA fRX5_45 dX5_measure_215 rfl (Nat.lt_of_lt_of_le (Nat.le_of_ble_eq_true rfl) hnx) rfl ?_
                                                 refine R_iload_n dX5_measure_218 rfl rfl ?_
                                                 refine R_iaload (k := i) dX5_measure_219 rfl (Nat.lt_of_lt_of_le (Nat.le_of_ble_eq_true rfl) hnx) (by omega) (by omega) (by decide) ?_
                                                 refine R_iload_n dX5_measure_220 rfl rfl ?_
                                                 refine R_iadd dX5_measure_221 ?_
                                                 refine R_iastore (k := i + 1) dX5_measure_222 rfl (Nat.lt_of_lt_of_le (Nat.le_of_ble_eq_true rfl) hnx) (by omega) (by omega) (by decide) ?_
                                                 refine R_aload_n dX5_measure_223 rfl rfl ?_
                                                 refine R_getA fRX5_48 dX5_measure_224 rfl (Nat.lt_of_lt_of_le (Nat.le_of_ble_eq_true rfl) hnx) rfl ?_
                                                 refine R_iload_n dX5_measure_227 rfl rfl ?_
                                                 refine R_iconst dX5_measure_228 ?_
                                                 refine R_iadd dX5_measure_229 ?_
                                                 refine R_iload_n dX5_measure_230 rfl rfl ?_
                                                 refine R_if_eq (tgt := 245) dX5_measure_231 (by decide) (fun c_231 => ?_) (fun c_231 => ?_)
                                                 · first
                                                   | (simp (discharger := omega) only [wr_id] at c_231; done)
                                                   | (try simp (discharger := omega) only [wr_id] at c_231
                                                      exfalso
                                                      first | omega | exact c_231 trivial)
                                                   | (try simp (discharger := omega) only [wr_id] at c_231
                                                      refine R_aload_n dX5_measure_245 rfl rfl ?_
                                                      refine R_getA fRX5_48 dX5_measure_246 rfl (Nat.lt_of_lt_of_le (Nat.le_of_ble_eq_true rfl) hnx) rfl ?_
                                                      refine R_iload_n dX5_measure_249 rfl rfl ?_
                                                      refine R_iaload (k := i) dX5_measure_250 rfl (Nat.lt_of_lt_of_le (Nat.le_of_ble_eq_true rfl) hnx) (by omega) (by omega) (by decide) ?_
                                                      refine R_iastore (k := i + 1) dX5_measure_251 rfl (Nat.lt_of_lt_of_le (Nat.le_of_ble_eq_true rfl) hnx) (by omega) (by omega) (by decide) ?_
                                                      refine R_iinc dX5_measure_252 rfl (Nat.le_of_ble_eq_true rfl) ?_
                                                      refine R_goto (tgt := 43) dX5_measure_255 (by decide) ?_
                                                      refine step hi2 _ (fun p hp => ?_) (fun p h1 h2 k hk => ?_) ?_ ?_ ?_ ?_ ?_ _ _
                                                      · rw [up2_ne _ _ _ (by omega), up2_ne _ _ _ (by omega), up2_ne _ _ _ (by omega), up2_ne _ _ _ (by omega), up2_ne _ _ _ (by omega)]
                                                      · simp only [up2_at]
                                                        rw [if_neg (by omega), if_neg (by omega), if_neg (by omega), if_neg (by omega), if_neg (by omega)]
                                                      · simp [up2_at, fW]
                                                        first | (rw [if_pos (by omega)]; rw [q1, show (2 : Int) = ((2 : Nat) : Int) from rfl, bDivN (by omega) (by omega) (by omega)]; done) | (rw [if_neg (by omega)]; exact q1)
                                                      · simp [up2_at, fH]
                                                        first | (rw [if_pos (by omega)]; rw [q2, show (2 : Int) = ((2 : Nat) : Int) from rfl, bDivN (by omega) (by omega) (by omega)]; done) | (rw [if_neg (by omega)]; exact q2)
                                                      · simp [up2_at, fP]
                                                        first | (rw [if_pos (by omega)]; (try rfl); done) | (rw [if_neg (by omega)]; exact q3)
                                                      · simp [up2_at, fL]
                                                        rw [q4]
                                                        first | (rw [if_pos (by omega)]; rfl) | (rw [if_neg (by omega), if_pos (by omega)]; rfl) | (rw [if_neg (by omega), if_neg (by omega), if_pos (by omega), q5]) | (rw [if_neg (by omega), if_neg (by omega), if_neg (by omega)]; rfl)
                                                      · simp [up2_at, fS]
                                                        first | (rw [if_pos (by omega), q5]; rfl) | (rw [if_neg (by omega)]; exact q5))
                                                 · first
                                                   | (simp (discharger := omega) only [wr_id] at c_231; done)
                                                   | (try simp (discharger := omega) only [wr_id] at c_231
                                                      exfalso
                                                      first | omega | exact c_231 trivial)
                                                   | (try simp (discharger := omega) only [wr_id] at c_231
                                                      refine R_iconst dX5_measure_234 ?_
                                                      refine R_aload_n dX5_measure_235 rfl rfl ?_
                                                      refine R_getA fRX5_48 dX5_measure_236 rfl (Nat.lt_of_lt_of_le (Nat.le_of_ble_eq_true rfl) hnx) rfl ?_
                                                      refine R_iload_n dX5_measure_239 rfl rfl ?_
                                                      refine R_iaload (k := i) dX5_measure_240 rfl (Nat.lt_of_lt_of_le (Nat.le_of_ble_eq_true rfl) hnx) (by omega) (by omega) (by decide) ?_
                                                      refine R_imul dX5_measure_241 ?_
                                                      refine R_goto (tgt := 251) dX5_measure_242 (by decide) ?_
                                                      refine R_iastore (k := i + 1) dX5_measure_251 rfl (Nat.lt_of_lt_of_le (Nat.le_of_ble_eq_true rfl) hnx) (by omega) (by omega) (by decide) ?_
                                                      refine R_iinc dX5_measure_252 rfl (Nat.le_of_ble_eq_true rfl) ?_
                                                      refine R_goto (tgt := 43) dX5_measure_255 (by decide) ?_
                                                      refine step hi2 _ (fun p hp => ?_) (fun p h1 h2 k hk => ?_) ?_ ?_ ?_ ?_ ?_ _ _
                                                      · rw [up2_ne _ _ _ (by omega), up2_ne _ _ _ (by omega), up2_ne _ _ _ (by omega), up2_ne _ _ _ (by omega), up2_ne _ _ _ (by omega)]
                                                      · simp only [up2_at]
                                                        rw [if_neg (by omega), if_neg (by omega), if_neg (by omega), if_neg (by omega), if_neg (by omega)]
                                                      · simp [up2_at, fW]
                                                        first | (rw [if_pos (by omega)]; rw [q1, show (2 : Int) = ((2 : Nat) : Int) from rfl, bDivN (by omega) (by omega) (by omega)]; done) | (rw [if_neg (by omega)]; exact q1)
                                                      · simp [up2_at, fH]
                                                        first | (rw [if_pos (by omega)]; rw [q2, show (2 : Int) = ((2 : Nat) : Int) from rfl, bDivN (by omega) (by omega) (by omega)]; done) | (rw [if_neg (by omega)]; exact q2)
                                                      · simp [up2_at, fP]
                                                        first | (rw [if_pos (by omega)]; (try rfl); done) | (rw [if_neg (by omega)]; exact q3)
                                                      · simp [up2_at, fL]
                                                        rw [q4]
                                                        first | (rw [if_pos (by omega)]; rfl) | (rw [if_neg (by omega), if_pos (by omega)]; rfl) | (rw [if_neg (by omega), if_neg (by omega), if_pos (by omega), q5]) | (rw [if_neg (by omega), if_neg (by omega), if_neg (by omega)]; rfl)
                                                      · simp [up2_at, fS]
                                                        first | (rw [if_pos (by omega), q5]; rfl) | (rw [if_neg (by omega)]; exact q5)))
                                            · first
                                              | (simp (discharger := omega) only [wr_id] at c_193; done)
                                              | (try simp (discharger := omega) only [wr_id] at c_193
                                                 exfalso
                                                 first | omega | exact c_193 trivial)
                                              | (try simp (discharger := omega) only [wr_id] at c_193
                                                 refine R_aload_n dX5_measure_196 rfl rfl ?_
                                                 refine R_getA fRX5_48 dX5_measure_197 rfl (Nat.lt_of_lt_of_le (Nat.le_of_ble_eq_true rfl) hnx) rfl ?_
                                                 refine R_iload_n dX5_measure_200 rfl rfl ?_
                                                 refine R_iaload (k := i) dX5_measure_201 rfl (Nat.lt_of_lt_of_le (Nat.le_of_ble_eq_true rfl) hnx) (by omega) (by omega) (by decide) ?_
                                                 refine R_goto (tgt := 206) dX5_measure_202 (by decide) ?_
                                                 refine R_istore_n dX5_measure_206 rfl (Nat.le_of_ble_eq_true rfl) ?_
                                                 refine R_aload_n dX5_measure_207 rfl rfl ?_
                                                 refine R_getA fRX5_45 dX5_measure_208 rfl (Nat.lt_of_lt_of_le (Nat.le_of_ble_eq_true rfl) hnx) rfl ?_
                                                 refine R_iload_n dX5_measure_211 rfl rfl ?_
                                                 refine R_iconst dX5_measure_212 ?_
                                                 refine R_iadd dX5_measure_213 ?_
                                                 refine R_aload_n dX5_measure_214 rfl rfl ?_
                                                 refine R_getA fRX5_45 dX5_measure_215 rfl (Nat.lt_of_lt_of_le (Nat.le_of_ble_eq_true rfl) hnx) rfl ?_
                                                 refine R_iload_n dX5_measure_218 rfl rfl ?_
                                                 refine R_iaload (k := i) dX5_measure_219 rfl (Nat.lt_of_lt_of_le (Nat.le_of_ble_eq_true rfl) hnx) (by omega) (by omega) (by decide) ?_
                                                 refine R_iload_n dX5_measure_220 rfl rfl ?_
                                                 refine R_iadd dX5_measure_221 ?_
                                                 refine R_iastore (k := i + 1) dX5_measure_222 rfl (Nat.lt_of_lt_of_le (Nat.le_of_ble_eq_true rfl) hnx) (by omega) (by omega) (by decide) ?_
                                                 refine R_aload_n dX5_measure_223 rfl rfl ?_
                                                 refine R_getA fRX5_48 dX5_measure_224 rfl (Nat.lt_of_lt_of_le (Nat.le_of_ble_eq_true rfl) hnx) rfl ?_
                                                 refine R_iload_n dX5_measure_227 rfl rfl ?_
                                                 refine R_iconst dX5_measure_228 ?_
                                                 refine R_iadd dX5_measure_229 ?_
                                                 refine R_iload_n dX5_measure_230 rfl rfl ?_
                                                 refine R_if_eq (tgt := 245) dX5_measure_231 (by decide) (fun c_231 => ?_) (fun c_231 => ?_)
                                                 · first
                                                   | (simp (discharger := omega) only [wr_id] at c_231; done)
                                                   | (try simp (discharger := omega) only [wr_id] at c_231
                                                      exfalso
                                                      first | omega | exact c_231 trivial)
                                                   | (try simp (discharger := omega) only [wr_id] at c_231
                                                      refine R_aload_n dX5_measure_245 rfl rfl ?_
                                                      refine R_getA fRX5_48 dX5_measure_246 rfl (Nat.lt_of_lt_of_le (Nat.le_of_ble_eq_true rfl) hnx) rfl ?_
                                                      refine R_iload_n dX5_measure_249 rfl rfl ?_
                                                      refine R_iaload (k := i) dX5_measure_250 rfl (Nat.lt_of_lt_of_le (Nat.le_of_ble_eq_true rfl) hnx) (by omega) (by omega) (by decide) ?_
                                                      refine R_iastore (k := i + 1) dX5_measure_251 rfl (Nat.lt_of_lt_of_le (Nat.le_of_ble_eq_true rfl) hnx) (by omega) (by omega) (by decide) ?_
                                                      refine R_iinc dX5_measure_252 rfl (Nat.le_of_ble_eq_true rfl) ?_
                                                      refine R_goto (tgt := 43) dX5_measure_255 (by decide) ?_
                                                      refine step hi2 _ (fun p hp => ?_) (fun p h1 h2 k hk => ?_) ?_ ?_ ?_ ?_ ?_ _ _
                                                      · rw [up2_ne _ _ _ (by omega), up2_ne _ _ _ (by omega), up2_ne _ _ _ (by omega), up2_ne _ _ _ (by omega), up2_ne _ _ _ (by omega)]
                                                      · simp only [up2_at]
                                                        rw [if_neg (by omega), if_neg (by omega), if_neg (by omega), if_neg (by omega), if_neg (by omega)]
                                                      · simp [up2_at, fW]
                                                        first | (rw [if_pos (by omega)]; rw [q1, show (2 : Int) = ((2 : Nat) : Int) from rfl, bDivN (by omega) (by omega) (by omega)]; done) | (rw [if_neg (by omega)]; exact q1)
                                                      · simp [up2_at, fH]
                                                        first | (rw [if_pos (by omega)]; rw [q2, show (2 : Int) = ((2 : Nat) : Int) from rfl, bDivN (by omega) (by omega) (by omega)]; done) | (rw [if_neg (by omega)]; exact q2)
                                                      · simp [up2_at, fP]
                                                        first | (rw [if_pos (by omega)]; (try rfl); done) | (rw [if_neg (by omega)]; exact q3)
                                                      · simp [up2_at, fL]
                                                        rw [q4]
                                                        first | (rw [if_pos (by omega)]; rfl) | (rw [if_neg (by omega), if_pos (by omega)]; rfl) | (rw [if_neg (by omega), if_neg (by omega), if_pos (by omega), q5]) | (rw [if_neg (by omega), if_neg (by omega), if_neg (by omega)]; rfl)
                                                      · simp [up2_at, fS]
                                                        first | (rw [if_pos (by omega), q5]; rfl) | (rw [if_neg (by omega)]; exact q5))
                                                 · first
                                                   | (simp (discharger := omega) only [wr_id] at c_231; done)
                                                   | (try simp (discharger := omega) only [wr_id] at c_231
                                                      exfalso
                                                      first | omega | exact c_231 trivial)
                                                   | (try simp (discharger := omega) only [wr_id] at c_231
                                                      refine R_iconst dX5_measure_234 ?_
                                                      refine R_aload_n dX5_measure_235 rfl rfl ?_
                                                      refine R_getA fRX5_48 dX5_measure_236 rfl (Nat.lt_of_lt_of_le (Nat.le_of_ble_eq_true rfl) hnx) rfl ?_
                                                      refine R_iload_n dX5_measure_239 rfl rfl ?_
                                                      refine R_iaload (k := i) dX5_measure_240 rfl (Nat.lt_of_lt_of_le (Nat.le_of_ble_eq_true rfl) hnx) (by omega) (by omega) (by decide) ?_
                                                      refine R_imul dX5_measure_241 ?_
                                                      refine R_goto (tgt := 251) dX5_measure_242 (by decide) ?_
                                                      refine R_iastore (k := i + 1) dX5_measure_251 rfl (Nat.lt_of_lt_of_le (Nat.le_of_ble_eq_true rfl) hnx) (by omega) (by omega) (by decide) ?_
                                                      refine R_iinc dX5_measure_252 rfl (Nat.le_of_ble_eq_true rfl) ?_
                                                      refine R_goto (tgt := 43) dX5_measure_255 (by decide) ?_
                                                      refine step hi2 _ (fun p hp => ?_) (fun p h1 h2 k hk => ?_) ?_ ?_ ?_ ?_ ?_ _ _
                                                      · rw [up2_ne _ _ _ (by omega), up2_ne _ _ _ (by omega), up2_ne _ _ _ (by omega), up2_ne _ _ _ (by omega), up2_ne _ _ _ (by omega)]
                                                      · simp only [up2_at]
                                                        rw [if_neg (by omega), if_neg (by omega), if_neg (by omega), if_neg (by omega), if_neg (by omega)]
                                                      · simp [up2_at, fW]
                                                        first | (rw [if_pos (by omega)]; rw [q1, show (2 : Int) = ((2 : Nat) : Int) from rfl, bDivN (by omega) (by omega) (by omega)]; done) | (rw [if_neg (by omega)]; exact q1)
                                                      · simp [up2_at, fH]
                                                        first | (rw [if_pos (by omega)]; rw [q2, show (2 : Int) = ((2 : Nat) : Int) from rfl, bDivN (by omega) (by omega) (by omega)]; done) | (rw [if_neg (by omega)]; exact q2)
                                                      · simp [up2_at, fP]
                                                        first | (rw [if_pos (by omega)]; (try rfl); done) | (rw [if_neg (by omega)]; exact q3)
                                                      · simp [up2_at, fL]
                                                        rw [q4]
                                                        first | (rw [if_pos (by omega)]; rfl) | (rw [if_neg (by omega), if_pos (by omega)]; rfl) | (rw [if_neg (by omega), if_neg (by omega), if_pos (by omega), q5]) | (rw [if_neg (by omega), if_neg (by omega), if_neg (by omega)]; rfl)
                                                      · simp [up2_at, fS]
                                                        first | (rw [if_pos (by omega), q5]; rfl) | (rw [if_neg (by omega)]; exact q5))))
                                       · first
                                         | (simp (discharger := omega) only [wr_id] at c_185; done)
                                         | (try simp (discharger := omega) only [wr_id] at c_185
                                            exfalso
                                            first | omega | exact c_185 trivial)
                                         | (try simp (discharger := omega) only [wr_id] at c_185
                                            refine R_iconst dX5_measure_188 ?_
                                            refine R_goto (tgt := 206) dX5_measure_189 (by decide) ?_
                                            refine R_istore_n dX5_measure_206 rfl (Nat.le_of_ble_eq_true rfl) ?_
                                            refine R_aload_n dX5_measure_207 rfl rfl ?_
                                            refine R_getA fRX5_45 dX5_measure_208 rfl (Nat.lt_of_lt_of_le (Nat.le_of_ble_eq_true rfl) hnx) rfl ?_
                                            refine R_iload_n dX5_measure_211 rfl rfl ?_
                                            refine R_iconst dX5_measure_212 ?_
                                            refine R_iadd dX5_measure_213 ?_
                                            refine R_aload_n dX5_measure_214 rfl rfl ?_
                                            refine R_getA fRX5_45 dX5_measure_215 rfl (Nat.lt_of_lt_of_le (Nat.le_of_ble_eq_true rfl) hnx) rfl ?_
                                            refine R_iload_n dX5_measure_218 rfl rfl ?_
                                            refine R_iaload (k := i) dX5_measure_219 rfl (Nat.lt_of_lt_of_le (Nat.le_of_ble_eq_true rfl) hnx) (by omega) (by omega) (by decide) ?_
                                            refine R_iload_n dX5_measure_220 rfl rfl ?_
                                            refine R_iadd dX5_measure_221 ?_
                                            refine R_iastore (k := i + 1) dX5_measure_222 rfl (Nat.lt_of_lt_of_le (Nat.le_of_ble_eq_true rfl) hnx) (by omega) (by omega) (by decide) ?_
                                            refine R_aload_n dX5_measure_223 rfl rfl ?_
                                            refine R_getA fRX5_48 dX5_measure_224 rfl (Nat.lt_of_lt_of_le (Nat.le_of_ble_eq_true rfl) hnx) rfl ?_
                                            refine R_iload_n dX5_measure_227 rfl rfl ?_
                                            refine R_iconst dX5_measure_228 ?_
                                            refine R_iadd dX5_measure_229 ?_
                                            refine R_iload_n dX5_measure_230 rfl rfl ?_
                                            refine R_if_eq (tgt := 245) dX5_measure_231 (by decide) (fun c_231 => ?_) (fun c_231 => ?_)
                                            · first
                                              | (simp (discharger := omega) only [wr_id] at c_231; done)
                                              | (try simp (discharger := omega) only [wr_id] at c_231
                                                 exfalso
                                                 first | omega | exact c_231 trivial)
                                              | (try simp (discharger := omega) only [wr_id] at c_231
                                                 refine R_aload_n dX5_measure_245 rfl rfl ?_
                                                 refine R_getA fRX5_48 dX5_measure_246 rfl (Nat.lt_of_lt_of_le (Nat.le_of_ble_eq_true rfl) hnx) rfl ?_
                                                 refine R_iload_n dX5_measure_249 rfl rfl ?_
                                                 refine R_iaload (k := i) dX5_measure_250 rfl (Nat.lt_of_lt_of_le (Nat.le_of_ble_eq_true rfl) hnx) (by omega) (by omega) (by decide) ?_
                                                 refine R_iastore (k := i + 1) dX5_measure_251 rfl (Nat.lt_of_lt_of_le (Nat.le_of_ble_eq_true rfl) hnx) (by omega) (by omega) (by decide) ?_
                                                 refine R_iinc dX5_measure_252 rfl (Nat.le_of_ble_eq_true rfl) ?_
                                                 refine R_goto (tgt := 43) dX5_measure_255 (by decide) ?_
                                                 refine step hi2 _ (fun p hp => ?_) (fun p h1 h2 k hk => ?_) ?_ ?_ ?_ ?_ ?_ _ _
                                                 · rw [up2_ne _ _ _ (by omega), up2_ne _ _ _ (by omega), up2_ne _ _ _ (by omega), up2_ne _ _ _ (by omega), up2_ne _ _ _ (by omega)]
                                                 · simp only [up2_at]
                                                   rw [if_neg (by omega), if_neg (by omega), if_neg (by omega), if_neg (by omega), if_neg (by omega)]
                                                 · simp [up2_at, fW]
                                                   first | (rw [if_pos (by omega)]; rw [q1, show (2 : Int) = ((2 : Nat) : Int) from rfl, bDivN (by omega) (by omega) (by omega)]; done) | (rw [if_neg (by omega)]; exact q1)
                                                 · simp [up2_at, fH]
                                                   first | (rw [if_pos (by omega)]; rw [q2, show (2 : Int) = ((2 : Nat) : Int) from rfl, bDivN (by omega) (by omega) (by omega)]; done) | (rw [if_neg (by omega)]; exact q2)
                                                 · simp [up2_at, fP]
                                                   first | (rw [if_pos (by omega)]; (try rfl); done) | (rw [if_neg (by omega)]; exact q3)
                                                 · simp [up2_at, fL]
                                                   rw [q4]
                                                   first | (rw [if_pos (by omega)]; rfl) | (rw [if_neg (by omega), if_pos (by omega)]; rfl) | (rw [if_neg (by omega), if_neg (by omega), if_pos (by omega), q5]) | (rw [if_neg (by omega), if_neg (by omega), if_neg (by omega)]; rfl)
                                                 · simp [up2_at, fS]
                                                   first | (rw [if_pos (by omega), q5]; rfl) | (rw [if_neg (by omega)]; exact q5))
                                            · first
                                              | (simp (discharger := omega) only [wr_id] at c_231; done)
                                              | (try simp (discharger := omega) only [wr_id] at c_231
                                                 exfalso
                                                 first | omega | exact c_231 trivial)
                                              | (try simp (discharger := omega) only [wr_id] at c_231
                                                 refine R_iconst dX5_measure_234 ?_
                                                 refine R_aload_n dX5_measure_235 rfl rfl ?_
                                                 refine R_getA fRX5_48 dX5_measure_236 rfl (Nat.lt_of_lt_of_le (Nat.le_of_ble_eq_true rfl) hnx) rfl ?_
                                                 refine R_iload_n dX5_measure_239 rfl rfl ?_
                                                 refine R_iaload (k := i) dX5_measure_240 rfl (Nat.lt_of_lt_of_le (Nat.le_of_ble_eq_true rfl) hnx) (by omega) (by omega) (by decide) ?_
                                                 refine R_imul dX5_measure_241 ?_
                                                 refine R_goto (tgt := 251) dX5_measure_242 (by decide) ?_
                                                 refine R_iastore (k := i + 1) dX5_measure_251 rfl (Nat.lt_of_lt_of_le (Nat.le_of_ble_eq_true rfl) hnx) (by omega) (by omega) (by decide) ?_
                                                 refine R_iinc dX5_measure_252 rfl (Nat.le_of_ble_eq_true rfl) ?_
                                                 refine R_goto (tgt := 43) dX5_measure_255 (by decide) ?_
                                                 refine step hi2 _ (fun p hp => ?_) (fun p h1 h2 k hk => ?_) ?_ ?_ ?_ ?_ ?_ _ _
                                                 · rw [up2_ne _ _ _ (by omega), up2_ne _ _ _ (by omega), up2_ne _ _ _ (by omega), up2_ne _ _ _ (by omega), up2_ne _ _ _ (by omega)]
                                                 · simp only [up2_at]
                                                   rw [if_neg (by omega), if_neg (by omega), if_neg (by omega), if_neg (by omega), if_neg (by omega)]
                                                 · simp [up2_at, fW]
                                                   first | (rw [if_pos (by omega)]; rw [q1, show (2 : Int) = ((2 : Nat) : Int) from rfl, bDivN (by omega) (by omega) (by omega)]; done) | (rw [if_neg (by omega)]; exact q1)
                                                 · simp [up2_at, fH]
                                                   first | (rw [if_pos (by omega)]; rw [q2, show (2 : Int) = ((2 : Nat) : Int) from rfl, bDivN (by omega) (by omega) (by omega)]; done) | (rw [if_neg (by omega)]; exact q2)
                                                 · simp [up2_at, fP]
                                                   first | (rw [if_pos (by omega)]; (try rfl); done) | (rw [if_neg (by omega)]; exact q3)
                                                 · simp [up2_at, fL]
                                                   rw [q4]
                                                   first | (rw [if_pos (by omega)]; rfl) | (rw [if_neg (by omega), if_pos (by omega)]; rfl) | (rw [if_neg (by omega), if_neg (by omega), if_pos (by omega), q5]) | (rw [if_neg (by omega), if_neg (by omega), if_neg (by omega)]; rfl)
                                                 · simp [up2_at, fS]
                                                   first | (rw [if_pos (by omega), q5]; rfl) | (rw [if_neg (by omega)]; exact q5))))
                                  · first
                                    | (simp (discharger := omega) only [wr_id] at c_171; done)
                                    | (try simp (discharger := omega) only [wr_id] at c_171
                                       exfalso
                                       first | omega | exact c_171 trivial)
                                    | (try simp (discharger := omega) only [wr_id] at c_171
                                       refine R_iconst dX5_measure_174 ?_
                                       refine R_goto (tgt := 206) dX5_measure_175 (by decide) ?_
                                       refine R_istore_n dX5_measure_206 rfl (Nat.le_of_ble_eq_true rfl) ?_
                                       refine R_aload_n dX5_measure_207 rfl rfl ?_
                                       refine R_getA fRX5_45 dX5_measure_208 rfl (Nat.lt_of_lt_of_le (Nat.le_of_ble_eq_true rfl) hnx) rfl ?_
                                       refine R_iload_n dX5_measure_211 rfl rfl ?_
                                       refine R_iconst dX5_measure_212 ?_
                                       refine R_iadd dX5_measure_213 ?_
                                       refine R_aload_n dX5_measure_214 rfl rfl ?_
                                       refine R_getA fRX5_45 dX5_measure_215 rfl (Nat.lt_of_lt_of_le (Nat.le_of_ble_eq_true rfl) hnx) rfl ?_
                                       refine R_iload_n dX5_measure_218 rfl rfl ?_
                                       refine R_iaload (k := i) dX5_measure_219 rfl (Nat.lt_of_lt_of_le (Nat.le_of_ble_eq_true rfl) hnx) (by omega) (by omega) (by decide) ?_
                                       refine R_iload_n dX5_measure_220 rfl rfl ?_
                                       refine R_iadd dX5_measure_221 ?_
                                       refine R_iastore (k := i + 1) dX5_measure_222 rfl (Nat.lt_of_lt_of_le (Nat.le_of_ble_eq_true rfl) hnx) (by omega) (by omega) (by decide) ?_
                                       refine R_aload_n dX5_measure_223 rfl rfl ?_
                                       refine R_getA fRX5_48 dX5_measure_224 rfl (Nat.lt_of_lt_of_le (Nat.le_of_ble_eq_true rfl) hnx) rfl ?_
                                       refine R_iload_n dX5_measure_227 rfl rfl ?_
                                       refine R_iconst dX5_measure_228 ?_
                                       refine R_iadd dX5_measure_229 ?_
                                       refine R_iload_n dX5_measure_230 rfl rfl ?_
                                       refine R_if_eq (tgt := 245) dX5_measure_231 (by decide) (fun c_231 => ?_) (fun c_231 => ?_)
                                       · first
                                         | (simp (discharger := omega) only [wr_id] at c_231; done)
                                         | (try simp (discharger := omega) only [wr_id] at c_231
                                            exfalso
                                            first | omega | exact c_231 trivial)
                                         | (try simp (discharger := omega) only [wr_id] at c_231
                                            refine R_aload_n dX5_measure_245 rfl rfl ?_
                                            refine R_getA fRX5_48 dX5_measure_246 rfl (Nat.lt_of_lt_of_le (Nat.le_of_ble_eq_true rfl) hnx) rfl ?_
                                            refine R_iload_n dX5_measure_249 rfl rfl ?_
                                            refine R_iaload (k := i) dX5_measure_250 rfl (Nat.lt_of_lt_of_le (Nat.le_of_ble_eq_true rfl) hnx) (by omega) (by omega) (by decide) ?_
                                            refine R_iastore (k := i + 1) dX5_measure_251 rfl (Nat.lt_of_lt_of_le (Nat.le_of_ble_eq_true rfl) hnx) (by omega) (by omega) (by decide) ?_
                                            refine R_iinc dX5_measure_252 rfl (Nat.le_of_ble_eq_true rfl) ?_
                                            refine R_goto (tgt := 43) dX5_measure_255 (by decide) ?_
                                            refine step hi2 _ (fun p hp => ?_) (fun p h1 h2 k hk => ?_) ?_ ?_ ?_ ?_ ?_ _ _
                                            · rw [up2_ne _ _ _ (by omega), up2_ne _ _ _ (by omega), up2_ne _ _ _ (by omega), up2_ne _ _ _ (by omega), up2_ne _ _ _ (by omega)]
                                            · simp only [up2_at]
                                              rw [if_neg (by omega), if_neg (by omega), if_neg (by omega), if_neg (by omega), if_neg (by omega)]
                                            · simp [up2_at, fW]
                                              first | (rw [if_pos (by omega)]; rw [q1, show (2 : Int) = ((2 : Nat) : Int) from rfl, bDivN (by omega) (by omega) (by omega)]; done) | (rw [if_neg (by omega)]; exact q1)
                                            · simp [up2_at, fH]
                                              first | (rw [if_pos (by omega)]; rw [q2, show (2 : Int) = ((2 : Nat) : Int) from rfl, bDivN (by omega) (by omega) (by omega)]; done) | (rw [if_neg (by omega)]; exact q2)
                                            · simp [up2_at, fP]
                                              first | (rw [if_pos (by omega)]; (try rfl); done) | (rw [if_neg (by omega)]; exact q3)
                                            · simp [up2_at, fL]
                                              rw [q4]
                                              first | (rw [if_pos (by omega)]; rfl) | (rw [if_neg (by omega), if_pos (by omega)]; rfl) | (rw [if_neg (by omega), if_neg (by omega), if_pos (by omega), q5]) | (rw [if_neg (by omega), if_neg (by omega), if_neg (by omega)]; rfl)
                                            · simp [up2_at, fS]
                                              first | (rw [if_pos (by omega), q5]; rfl) | (rw [if_neg (by omega)]; exact q5))
                                       · first
                                         | (simp (discharger := omega) only [wr_id] at c_231; done)
                                         | (try simp (discharger := omega) only [wr_id] at c_231
                                            exfalso
                                            first | omega | exact c_231 trivial)
                                         | (try simp (discharger := omega) only [wr_id] at c_231
                                            refine R_iconst dX5_measure_234 ?_
                                            refine R_aload_n dX5_measure_235 rfl rfl ?_
                                            refine R_getA fRX5_48 dX5_measure_236 rfl (Nat.lt_of_lt_of_le (Nat.le_of_ble_eq_true rfl) hnx) rfl ?_
                                            refine R_iload_n dX5_measure_239 rfl rfl ?_
                                            refine R_iaload (k := i) dX5_measure_240 rfl (Nat.lt_of_lt_of_le (Nat.le_of_ble_eq_true rfl) hnx) (by omega) (by omega) (by decide) ?_
                                            refine R_imul dX5_measure_241 ?_
                                            refine R_goto (tgt := 251) dX5_measure_242 (by decide) ?_
                                            refine R_iastore (k := i + 1) dX5_measure_251 rfl (Nat.lt_of_lt_of_le (Nat.le_of_ble_eq_true rfl) hnx) (by omega) (by omega) (by decide) ?_
                                            refine R_iinc dX5_measure_252 rfl (Nat.le_of_ble_eq_true rfl) ?_
                                            refine R_goto (tgt := 43) dX5_measure_255 (by decide) ?_
                                            refine step hi2 _ (fun p hp => ?_) (fun p h1 h2 k hk => ?_) ?_ ?_ ?_ ?_ ?_ _ _
                                            · rw [up2_ne _ _ _ (by omega), up2_ne _ _ _ (by omega), up2_ne _ _ _ (by omega), up2_ne _ _ _ (by omega), up2_ne _ _ _ (by omega)]
                                            · simp only [up2_at]
                                              rw [if_neg (by omega), if_neg (by omega), if_neg (by omega), if_neg (by omega), if_neg (by omega)]
                                            · simp [up2_at, fW]
                                              first | (rw [if_pos (by omega)]; rw [q1, show (2 : Int) = ((2 : Nat) : Int) from rfl, bDivN (by omega) (by omega) (by omega)]; done) | (rw [if_neg (by omega)]; exact q1)
                                            · simp [up2_at, fH]
                                              first | (rw [if_pos (by omega)]; rw [q2, show (2 : Int) = ((2 : Nat) : Int) from rfl, bDivN (by omega) (by omega) (by omega)]; done) | (rw [if_neg (by omega)]; exact q2)
                                            · simp [up2_at, fP]
                                              first | (rw [if_pos (by omega)]; (try rfl); done) | (rw [if_neg (by omega)]; exact q3)
                                            · simp [up2_at, fL]
                                              rw [q4]
                                              first | (rw [if_pos (by omega)]; rfl) | (rw [if_neg (by omega), if_pos (by omega)]; rfl) | (rw [if_neg (by omega), if_neg (by omega), if_pos (by omega), q5]) | (rw [if_neg (by omega), if_neg (by omega), if_neg (by omega)]; rfl)
                                            · simp [up2_at, fS]
                                              first | (rw [if_pos (by omega), q5]; rfl) | (rw [if_neg (by omega)]; exact q5)))))
                        · first
                          | (simp (discharger := omega) only [wr_id] at c_140; done)
                          | (try simp (discharger := omega) only [wr_id] at c_140
                             exfalso
                             first | omega | exact c_140 trivial)
                          | (try simp (discharger := omega) only [wr_id] at c_140
                             refine R_iconst dX5_measure_143 ?_
                             refine R_goto (tgt := 153) dX5_measure_144 (by decide) ?_
                             refine R_iastore (k := i + 1) dX5_measure_153 rfl (Nat.lt_of_lt_of_le (Nat.le_of_ble_eq_true rfl) hnx) (by omega) (by omega) (by decide) ?_
                             refine R_aload_n dX5_measure_154 rfl rfl ?_
                             refine R_getA fRX5_24 dX5_measure_155 rfl (Nat.lt_of_lt_of_le (Nat.le_of_ble_eq_true rfl) hnx) rfl ?_
                             refine R_iload_n dX5_measure_158 rfl rfl ?_
                             refine R_iaload (k := i) dX5_measure_159 rfl (Nat.lt_of_lt_of_le (Nat.le_of_ble_eq_true rfl) hnx) (by omega) (by omega) (by decide) ?_
                             refine R_iconst dX5_measure_160 ?_
                             dsimp only
                             rw [up2_ne _ _ _ (by decide), up2_ne _ _ _ (by decide), up2_ne _ _ _ (by decide), e6]
                             refine R_icmp_eq (tgt := 174) dX5_measure_161 (by decide) (fun c_161 => ?_) (fun c_161 => ?_)
                             · first
                               | (simp (discharger := omega) only [wr_id] at c_161; done)
                               | (try simp (discharger := omega) only [wr_id] at c_161
                                  exfalso
                                  first | omega | exact c_161 trivial)
                               | (try simp (discharger := omega) only [wr_id] at c_161
                                  refine R_iconst dX5_measure_174 ?_
                                  refine R_goto (tgt := 206) dX5_measure_175 (by decide) ?_
                                  refine R_istore_n dX5_measure_206 rfl (Nat.le_of_ble_eq_true rfl) ?_
                                  refine R_aload_n dX5_measure_207 rfl rfl ?_
                                  refine R_getA fRX5_45 dX5_measure_208 rfl (Nat.lt_of_lt_of_le (Nat.le_of_ble_eq_true rfl) hnx) rfl ?_
                                  refine R_iload_n dX5_measure_211 rfl rfl ?_
                                  refine R_iconst dX5_measure_212 ?_
                                  refine R_iadd dX5_measure_213 ?_
                                  refine R_aload_n dX5_measure_214 rfl rfl ?_
                                  refine R_getA fRX5_45 dX5_measure_215 rfl (Nat.lt_of_lt_of_le (Nat.le_of_ble_eq_true rfl) hnx) rfl ?_
                                  refine R_iload_n dX5_measure_218 rfl rfl ?_
                                  refine R_iaload (k := i) dX5_measure_219 rfl (Nat.lt_of_lt_of_le (Nat.le_of_ble_eq_true rfl) hnx) (by omega) (by omega) (by decide) ?_
                                  refine R_iload_n dX5_measure_220 rfl rfl ?_
                                  refine R_iadd dX5_measure_221 ?_
                                  refine R_iastore (k := i + 1) dX5_measure_222 rfl (Nat.lt_of_lt_of_le (Nat.le_of_ble_eq_true rfl) hnx) (by omega) (by omega) (by decide) ?_
                                  refine R_aload_n dX5_measure_223 rfl rfl ?_
                                  refine R_getA fRX5_48 dX5_measure_224 rfl (Nat.lt_of_lt_of_le (Nat.le_of_ble_eq_true rfl) hnx) rfl ?_
                                  refine R_iload_n dX5_measure_227 rfl rfl ?_
                                  refine R_iconst dX5_measure_228 ?_
                                  refine R_iadd dX5_measure_229 ?_
                                  refine R_iload_n dX5_measure_230 rfl rfl ?_
                                  refine R_if_eq (tgt := 245) dX5_measure_231 (by decide) (fun c_231 => ?_) (fun c_231 => ?_)
                                  · first
                                    | (simp (discharger := omega) only [wr_id] at c_231; done)
                                    | (try simp (discharger := omega) only [wr_id] at c_231
                                       exfalso
                                       first | omega | exact c_231 trivial)
                                    | (try simp (discharger := omega) only [wr_id] at c_231
                                       refine R_aload_n dX5_measure_245 rfl rfl ?_
                                       refine R_getA fRX5_48 dX5_measure_246 rfl (Nat.lt_of_lt_of_le (Nat.le_of_ble_eq_true rfl) hnx) rfl ?_
                                       refine R_iload_n dX5_measure_249 rfl rfl ?_
                                       refine R_iaload (k := i) dX5_measure_250 rfl (Nat.lt_of_lt_of_le (Nat.le_of_ble_eq_true rfl) hnx) (by omega) (by omega) (by decide) ?_
                                       refine R_iastore (k := i + 1) dX5_measure_251 rfl (Nat.lt_of_lt_of_le (Nat.le_of_ble_eq_true rfl) hnx) (by omega) (by omega) (by decide) ?_
                                       refine R_iinc dX5_measure_252 rfl (Nat.le_of_ble_eq_true rfl) ?_
                                       refine R_goto (tgt := 43) dX5_measure_255 (by decide) ?_
                                       refine step hi2 _ (fun p hp => ?_) (fun p h1 h2 k hk => ?_) ?_ ?_ ?_ ?_ ?_ _ _
                                       · rw [up2_ne _ _ _ (by omega), up2_ne _ _ _ (by omega), up2_ne _ _ _ (by omega), up2_ne _ _ _ (by omega), up2_ne _ _ _ (by omega)]
                                       · simp only [up2_at]
                                         rw [if_neg (by omega), if_neg (by omega), if_neg (by omega), if_neg (by omega), if_neg (by omega)]
                                       · simp [up2_at, fW]
                                         first | (rw [if_pos (by omega)]; rw [q1, show (2 : Int) = ((2 : Nat) : Int) from rfl, bDivN (by omega) (by omega) (by omega)]; done) | (rw [if_neg (by omega)]; exact q1)
                                       · simp [up2_at, fH]
                                         first | (rw [if_pos (by omega)]; rw [q2, show (2 : Int) = ((2 : Nat) : Int) from rfl, bDivN (by omega) (by omega) (by omega)]; done) | (rw [if_neg (by omega)]; exact q2)
                                       · simp [up2_at, fP]
                                         first | (rw [if_pos (by omega)]; (try rfl); done) | (rw [if_neg (by omega)]; exact q3)
                                       · simp [up2_at, fL]
                                         rw [q4]
                                         first | (rw [if_pos (by omega)]; rfl) | (rw [if_neg (by omega), if_pos (by omega)]; rfl) | (rw [if_neg (by omega), if_neg (by omega), if_pos (by omega), q5]) | (rw [if_neg (by omega), if_neg (by omega), if_neg (by omega)]; rfl)
                                       · simp [up2_at, fS]
                                         first | (rw [if_pos (by omega), q5]; rfl) | (rw [if_neg (by omega)]; exact q5))
                                  · first
                                    | (simp (discharger := omega) only [wr_id] at c_231; done)
                                    | (try simp (discharger := omega) only [wr_id] at c_231
                                       exfalso
                                       first | omega | exact c_231 trivial)
                                    | (try simp (discharger := omega) only [wr_id] at c_231
                                       refine R_iconst dX5_measure_234 ?_
                                       refine R_aload_n dX5_measure_235 rfl rfl ?_
                                       refine R_getA fRX5_48 dX5_measure_236 rfl (Nat.lt_of_lt_of_le (Nat.le_of_ble_eq_true rfl) hnx) rfl ?_
                                       refine R_iload_n dX5_measure_239 rfl rfl ?_
                                       refine R_iaload (k := i) dX5_measure_240 rfl (Nat.lt_of_lt_of_le (Nat.le_of_ble_eq_true rfl) hnx) (by omega) (by omega) (by decide) ?_
                                       refine R_imul dX5_measure_241 ?_
                                       refine R_goto (tgt := 251) dX5_measure_242 (by decide) ?_
                                       refine R_iastore (k := i + 1) dX5_measure_251 rfl (Nat.lt_of_lt_of_le (Nat.le_of_ble_eq_true rfl) hnx) (by omega) (by omega) (by decide) ?_
                                       refine R_iinc dX5_measure_252 rfl (Nat.le_of_ble_eq_true rfl) ?_
                                       refine R_goto (tgt := 43) dX5_measure_255 (by decide) ?_
                                       refine step hi2 _ (fun p hp => ?_) (fun p h1 h2 k hk => ?_) ?_ ?_ ?_ ?_ ?_ _ _
                                       · rw [up2_ne _ _ _ (by omega), up2_ne _ _ _ (by omega), up2_ne _ _ _ (by omega), up2_ne _ _ _ (by omega), up2_ne _ _ _ (by omega)]
                                       · simp only [up2_at]
                                         rw [if_neg (by omega), if_neg (by omega), if_neg (by omega), if_neg (by omega), if_neg (by omega)]
                                       · simp [up2_at, fW]
                                         first | (rw [if_pos (by omega)]; rw [q1, show (2 : Int) = ((2 : Nat) : Int) from rfl, bDivN (by omega) (by omega) (by omega)]; done) | (rw [if_neg (by omega)]; exact q1)
                                       · simp [up2_at, fH]
                                         first | (rw [if_pos (by omega)]; rw [q2, show (2 : Int) = ((2 : Nat) : Int) from rfl, bDivN (by omega) (by omega) (by omega)]; done) | (rw [if_neg (by omega)]; exact q2)
                                       · simp [up2_at, fP]
                                         first | (rw [if_pos (by omega)]; (try rfl); done) | (rw [if_neg (by omega)]; exact q3)
                                       · simp [up2_at, fL]
                                         rw [q4]
                                         first | (rw [if_pos (by omega)]; rfl) | (rw [if_neg (by omega), if_pos (by omega)]; rfl) | (rw [if_neg (by omega), if_neg (by omega), if_pos (by omega), q5]) | (rw [if_neg (by omega), if_neg (by omega), if_neg (by omega)]; rfl)
                                       · simp [up2_at, fS]
                                         first | (rw [if_pos (by omega), q5]; rfl) | (rw [if_neg (by omega)]; exact q5)))
                             · first
                               | (simp (discharger := omega) only [wr_id] at c_161; done)
                               | (try simp (discharger := omega) only [wr_id] at c_161
                                  exfalso
                                  first | omega | exact c_161 trivial)
                               | (try simp (discharger := omega) only [wr_id] at c_161
                                  refine R_aload_n dX5_measure_164 rfl rfl ?_
                                  refine R_getA fRX5_24 dX5_measure_165 rfl (Nat.lt_of_lt_of_le (Nat.le_of_ble_eq_true rfl) hnx) rfl ?_
                                  refine R_iload_n dX5_measure_168 rfl rfl ?_
                                  refine R_iaload (k := i) dX5_measure_169 rfl (Nat.lt_of_lt_of_le (Nat.le_of_ble_eq_true rfl) hnx) (by omega) (by omega) (by decide) ?_
                                  refine R_iconst dX5_measure_170 ?_
                                  dsimp only
                                  rw [up2_ne _ _ _ (by decide), up2_ne _ _ _ (by decide), up2_ne _ _ _ (by decide), e6]
                                  refine R_icmp_ne (tgt := 178) dX5_measure_171 (by decide) (fun c_171 => ?_) (fun c_171 => ?_)
                                  · first
                                    | (simp (discharger := omega) only [wr_id] at c_171; done)
                                    | (try simp (discharger := omega) only [wr_id] at c_171
                                       exfalso
                                       first | omega | exact c_171 trivial)
                                    | (try simp (discharger := omega) only [wr_id] at c_171
                                       refine R_aload_n dX5_measure_178 rfl rfl ?_
                                       refine R_getA fRX5_24 dX5_measure_179 rfl (Nat.lt_of_lt_of_le (Nat.le_of_ble_eq_true rfl) hnx) rfl ?_
                                       refine R_iload_n dX5_measure_182 rfl rfl ?_
                                       refine R_iaload (k := i) dX5_measure_183 rfl (Nat.lt_of_lt_of_le (Nat.le_of_ble_eq_true rfl) hnx) (by omega) (by omega) (by decide) ?_
                                       refine R_iconst dX5_measure_184 ?_
                                       dsimp only
                                       rw [up2_ne _ _ _ (by decide), up2_ne _ _ _ (by decide), up2_ne _ _ _ (by decide), e6]
                                       refine R_icmp_ne (tgt := 192) dX5_measure_185 (by decide) (fun c_185 => ?_) (fun c_185 => ?_)
                                       · first
                                         | (simp (discharger := omega) only [wr_id] at c_185; done)
                                         | (try simp (discharger := omega) only [wr_id] at c_185
                                            exfalso
                                            first | omega | exact c_185 trivial)
                                         | (try simp (discharger := omega) only [wr_id] at c_185
                                            refine R_iload_n dX5_measure_192 rfl rfl ?_
                                            refine R_if_eq (tgt := 205) dX5_measure_193 (by decide) (fun c_193 => ?_) (fun c_193 => ?_)
                                            · first
                                              | (simp (discharger := omega) only [wr_id] at c_193; done)
                                              | (try simp (discharger := omega) only [wr_id] at c_193
                                                 exfalso
                                                 first | omega | exact c_193 trivial)
                                              | (try simp (discharger := omega) only [wr_id] at c_193
                                                 refine R_iconst dX5_measure_205 ?_
                                                 refine R_istore_n dX5_measure_206 rfl (Nat.le_of_ble_eq_true rfl) ?_
                                                 refine R_aload_n dX5_measure_207 rfl rfl ?_
                                                 refine R_getA fRX5_45 dX5_measure_208 rfl (Nat.lt_of_lt_of_le (Nat.le_of_ble_eq_true rfl) hnx) rfl ?_
                                                 refine R_iload_n dX5_measure_211 rfl rfl ?_
                                                 refine R_iconst dX5_measure_212 ?_
                                                 refine R_iadd dX5_measure_213 ?_
                                                 refine R_aload_n dX5_measure_214 rfl rfl ?_
                                                 refine R_getA fRX5_45 dX5_measure_215 rfl (Nat.lt_of_lt_of_le (Nat.le_of_ble_eq_true rfl) hnx) rfl ?_
                                                 refine R_iload_n dX5_measure_218 rfl rfl ?_
                                                 refine R_iaload (k := i) dX5_measure_219 rfl (Nat.lt_of_lt_of_le (Nat.le_of_ble_eq_true rfl) hnx) (by omega) (by omega) (by decide) ?_
                                                 refine R_iload_n dX5_measure_220 rfl rfl ?_
                                                 refine R_iadd dX5_measure_221 ?_
                                                 refine R_iastore (k := i + 1) dX5_measure_222 rfl (Nat.lt_of_lt_of_le (Nat.le_of_ble_eq_true rfl) hnx) (by omega) (by omega) (by decide) ?_
                                                 refine R_aload_n dX5_measure_223 rfl rfl ?_
                                                 refine R_getA fRX5_48 dX5_measure_224 rfl (Nat.lt_of_lt_of_le (Nat.le_of_ble_eq_true rfl) hnx) rfl ?_
                                                 refine R_iload_n dX5_measure_227 rfl rfl ?_
                                                 refine R_iconst dX5_measure_228 ?_
                                                 refine R_iadd dX5_measure_229 ?_
                                                 refine R_iload_n dX5_measure_230 rfl rfl ?_
                                                 refine R_if_eq (tgt := 245) dX5_measure_231 (by decide) (fun c_231 => ?_) (fun c_231 => ?_)
                                                 · first
                                                   | (simp (discharger := omega) only [wr_id] at c_231; done)
                                                   | (try simp (discharger := omega) only [wr_id] at c_231
                                                      exfalso
                                                      first | omega | exact c_231 trivial)
                                                   | (try simp (discharger := omega) only [wr_id] at c_231
                                                      refine R_aload_n dX5_measure_245 rfl rfl ?_
                                                      refine R_getA fRX5_48 dX5_measure_246 rfl (Nat.lt_of_lt_of_le (Nat.le_of_ble_eq_true rfl) hnx) rfl ?_
                                                      refine R_iload_n dX5_measure_249 rfl rfl ?_
                                                      refine R_iaload (k := i) dX5_measure_250 rfl (Nat.lt_of_lt_of_le (Nat.le_of_ble_eq_true rfl) hnx) (by omega) (by omega) (by decide) ?_
                                                      refine R_iastore (k := i + 1) dX5_measure_251 rfl (Nat.lt_of_lt_of_le (Nat.le_of_ble_eq_true rfl) hnx) (by omega) (by omega) (by decide) ?_
                                                      refine R_iinc dX5_measure_252 rfl (Nat.le_of_ble_eq_true rfl) ?_
                                                      refine R_goto (tgt := 43) dX5_measure_255 (by decide) ?_
                                                      refine step hi2 _ (fun p hp => ?_) (fun p h1 h2 k hk => ?_) ?_ ?_ ?_ ?_ ?_ _ _
                                                      · rw [up2_ne _ _ _ (by omega), up2_ne _ _ _ (by omega), up2_ne _ _ _ (by omega), up2_ne _ _ _ (by omega), up2_ne _ _ _ (by omega)]
                                                      · simp only [up2_at]
                                                        rw [if_neg (by omega), if_neg (by omega), if_neg (by omega), if_neg (by omega), if_neg (by omega)]
                                                      · simp [up2_at, fW]
                                                        first | (rw [if_pos (by omega)]; rw [q1, show (2 : Int) = ((2 : Nat) : Int) from rfl, bDivN (by omega) (by omega) (by omega)]; done) | (rw [if_neg (by omega)]; exact q1)
                                                      · simp [up2_at, fH]
                                                        first | (rw [if_pos (by omega)]; rw [q2, show (2 : Int) = ((2 : Nat) : Int) from rfl, bDivN (by omega) (by omega) (by omega)]; done) | (rw [if_neg (by omega)]; exact q2)
                                                      · simp [up2_at, fP]
                                                        first | (rw [if_pos (by omega)]; (try rfl); done) | (rw [if_neg (by omega)]; exact q3)
                                                      · simp [up2_at, fL]
                                                        rw [q4]
                                                        first | (rw [if_pos (by omega)]; rfl) | (rw [if_neg (by omega), if_pos (by omega)]; rfl) | (rw [if_neg (by omega), if_neg (by omega), if_pos (by omega), q5]) | (rw [if_neg (by omega), if_neg (by omega), if_neg (by omega)]; rfl)
                                                      · simp [up2_at, fS]
                                                        first | (rw [if_pos (by omega), q5]; rfl) | (rw [if_neg (by omega)]; exact q5))
                                                 · first
                                                   | (simp (discharger := omega) only [wr_id] at c_231; done)
                                                   | (try simp (discharger := omega) only [wr_id] at c_231
                                                      exfalso
                                                      first | omega | exact c_231 trivial)
                                                   | (try simp (discharger := omega) only [wr_id] at c_231
                                                      refine R_iconst dX5_measure_234 ?_
                                                      refine R_aload_n dX5_measure_235 rfl rfl ?_
                                                      refine R_getA fRX5_48 dX5_measure_236 rfl (Nat.lt_of_lt_of_le (Nat.le_of_ble_eq_true rfl) hnx) rfl ?_
                                                      refine R_iload_n dX5_measure_239 rfl rfl ?_
                                                      refine R_iaload (k := i) dX5_measure_240 rfl (Nat.lt_of_lt_of_le (Nat.le_of_ble_eq_true rfl) hnx) (by omega) (by omega) (by decide) ?_
                                                      refine R_imul dX5_measure_241 ?_
                                                      refine R_goto (tgt := 251) dX5_measure_242 (by decide) ?_
                                                      refine R_iastore (k := i + 1) dX5_measure_251 rfl (Nat.lt_of_lt_of_le (Nat.le_of_ble_eq_true rfl) hnx) (by omega) (by omega) (by decide) ?_
                                                      refine R_iinc dX5_measure_252 rfl (Nat.le_of_ble_eq_true rfl) ?_
                                                      refine R_goto (tgt := 43) dX5_measure_255 (by decide) ?_
                                                      refine step hi2 _ (fun p hp => ?_) (fun p h1 h2 k hk => ?_) ?_ ?_ ?_ ?_ ?_ _ _
                                                      · rw [up2_ne _ _ _ (by omega), up2_ne _ _ _ (by omega), up2_ne _ _ _ (by omega), up2_ne _ _ _ (by omega), up2_ne _ _ _ (by omega)]
                                                      · simp only [up2_at]
                                                        rw [if_neg (by omega), if_neg (by omega), if_neg (by omega), if_neg (by omega), if_neg (by omega)]
                                                      · simp [up2_at, fW]
                                                        first | (rw [if_pos (by omega)]; rw [q1, show (2 : Int) = ((2 : Nat) : Int) from rfl, bDivN (by omega) (by omega) (by omega)]; done) | (rw [if_neg (by omega)]; exact q1)
                                                      · simp [up2_at, fH]
                                                        first | (rw [if_pos (by omega)]; rw [q2, show (2 : Int) = ((2 : Nat) : Int) from rfl, bDivN (by omega) (by omega) (by omega)]; done) | (rw [if_neg (by omega)]; exact q2)
                                                      · simp [up2_at, fP]
                                                        first | (rw [if_pos (by omega)]; (try rfl); done) | (rw [if_neg (by omega)]; exact q3)
                                                      · simp [up2_at, fL]
                                                        rw [q4]
                                                        first | (rw [if_pos (by omega)]; rfl) | (rw [if_neg (by omega), if_pos (by omega)]; rfl) | (rw [if_neg (by omega), if_neg (by omega), if_pos (by omega), q5]) | (rw [if_neg (by omega), if_neg (by omega), if_neg (by omega)]; rfl)
                                                      · simp [up2_at, fS]
                                                        first | (rw [if_pos (by omega), q5]; rfl) | (rw [if_neg (by omega)]; exact q5)))
                                            · first
                                              | (simp (discharger := omega) only [wr_id] at c_193; done)
                                              | (try simp (discharger := omega) only [wr_id] at c_193
                                                 exfalso
                                                 first | omega | exact c_193 trivial)
                                              | (try simp (discharger := omega) only [wr_id] at c_193
                                                 refine R_aload_n dX5_measure_196 rfl rfl ?_
                                                 refine R_getA fRX5_48 dX5_measure_197 rfl (Nat.lt_of_lt_of_le (Nat.le_of_ble_eq_true rfl) hnx) rfl ?_
                                                 refine R_iload_n dX5_measure_200 rfl rfl ?_
                                                 refine R_iaload (k := i) dX5_measure_201 rfl (Nat.lt_of_lt_of_le (Nat.le_of_ble_eq_true rfl) hnx) (by omega) (by omega) (by decide) ?_
                                                 refine R_goto (tgt := 206) dX5_measure_202 (by decide) ?_
                                                 refine R_istore_n dX5_measure_206 rfl (Nat.le_of_ble_eq_true rfl) ?_
                                                 refine R_aload_n dX5_measure_207 rfl rfl ?_
                                                 refine R_getA fRX5_45 dX5_measure_208 rfl (Nat.lt_of_lt_of_le (Nat.le_of_ble_eq_true rfl) hnx) rfl ?_
                                                 refine R_iload_n dX5_measure_211 rfl rfl ?_
                                                 refine R_iconst dX5_measure_212 ?_
                                                 refine R_iadd dX5_measure_213 ?_
                                                 refine R_aload_n dX5_measure_214 rfl rfl ?_
                                                 refine R_getA fRX5_45 dX5_measure_215 rfl (Nat.lt_of_lt_of_le (Nat.le_of_ble_eq_true rfl) hnx) rfl ?_
                                                 refine R_iload_n dX5_measure_218 rfl rfl ?_
                                                 refine R_iaload (k := i) dX5_measure_219 rfl (Nat.lt_of_lt_of_le (Nat.le_of_ble_eq_true rfl) hnx) (by omega) (by omega) (by decide) ?_
                                                 refine R_iload_n dX5_measure_220 rfl rfl ?_
                                                 refine R_iadd dX5_measure_221 ?_
                                                 refine R_iastore (k := i + 1) dX5_measure_222 rfl (Nat.lt_of_lt_of_le (Nat.le_of_ble_eq_true rfl) hnx) (by omega) (by omega) (by decide) ?_
                                                 refine R_aload_n dX5_measure_223 rfl rfl ?_
                                                 refine R_getA fRX5_48 dX5_measure_224 rfl (Nat.lt_of_lt_of_le (Nat.le_of_ble_eq_true rfl) hnx) rfl ?_
                                                 refine R_iload_n dX5_measure_227 rfl rfl ?_
                                                 refine R_iconst dX5_measure_228 ?_
                                                 refine R_iadd dX5_measure_229 ?_
                                                 refine R_iload_n dX5_measure_230 rfl rfl ?_
                                                 refine R_if_eq (tgt := 245) dX5_measure_231 (by decide) (fun c_231 => ?_) (fun c_231 => ?_)
                                                 · first
                                                   | (simp (discharger := omega) only [wr_id] at c_231; done)
                                                   | (try simp (discharger := omega) only [wr_id] at c_231
                                                      exfalso
                                                      first | omega | exact c_231 trivial)
                                                   | (try simp (discharger := omega) only [wr_id] at c_231
                                                      refine R_aload_n dX5_measure_245 rfl rfl ?_
                                                      refine R_getA fRX5_48 dX5_measure_246 rfl (Nat.lt_of_lt_of_le (Nat.le_of_ble_eq_true rfl) hnx) rfl ?_
                                                      refine R_iload_n dX5_measure_249 rfl rfl ?_
                                                      refine R_iaload (k := i) dX5_measure_250 rfl (Nat.lt_of_lt_of_le (Nat.le_of_ble_eq_true rfl) hnx) (by omega) (by omega) (by decide) ?_
                                                      refine R_iastore (k := i + 1) dX5_measure_251 rfl (Nat.lt_of_lt_of_le (Nat.le_of_ble_eq_true rfl) hnx) (by omega) (by omega) (by decide) ?_
                                                      refine R_iinc dX5_measure_252 rfl (Nat.le_of_ble_eq_true rfl) ?_
                                                      refine R_goto (tgt := 43) dX5_measure_255 (by decide) ?_
                                                      refine step hi2 _ (fun p hp => ?_) (fun p h1 h2 k hk => ?_) ?_ ?_ ?_ ?_ ?_ _ _
                                                      · rw [up2_ne _ _ _ (by omega), up2_ne _ _ _ (by omega), up2_ne _ _ _ (by omega), up2_ne _ _ _ (by omega), up2_ne _ _ _ (by omega)]
                                                      · simp only [up2_at]
                                                        rw [if_neg (by omega), if_neg (by omega), if_neg (by omega), if_neg (by omega), if_neg (by omega)]
                                                      · simp [up2_at, fW]
                                                        first | (rw [if_pos (by omega)]; rw [q1, show (2 : Int) = ((2 : Nat) : Int) from rfl, bDivN (by omega) (by omega) (by omega)]; done) | (rw [if_neg (by omega)]; exact q1)
                                                      · simp [up2_at, fH]
                                                        first | (rw [if_pos (by omega)]; rw [q2, show (2 : Int) = ((2 : Nat) : Int) from rfl, bDivN (by omega) (by omega) (by omega)]; done) | (rw [if_neg (by omega)]; exact q2)
                                                      · simp [up2_at, fP]
                                                        first | (rw [if_pos (by omega)]; (try rfl); done) | (rw [if_neg (by omega)]; exact q3)
                                                      · simp [up2_at, fL]
                                                        rw [q4]
                                                        first | (rw [if_pos (by omega)]; rfl) | (rw [if_neg (by omega), if_pos (by omega)]; rfl) | (rw [if_neg (by omega), if_neg (by omega), if_pos (by omega), q5]) | (rw [if_neg (by omega), if_neg (by omega), if_neg (by omega)]; rfl)
                                                      · simp [up2_at, fS]
                                                        first | (rw [if_pos (by omega), q5]; rfl) | (rw [if_neg (by omega)]; exact q5))
                                                 · first
                                                   | (simp (discharger := omega) only [wr_id] at c_231; done)
                                                   | (try simp (discharger := omega) only [wr_id] at c_231
                                                      exfalso
                                                      first | omega | exact c_231 trivial)
                                                   | (try simp (discharger := omega) only [wr_id] at c_231
                                                      refine R_iconst dX5_measure_234 ?_
                                                      refine R_aload_n dX5_measure_235 rfl rfl ?_
                                                      refine R_getA fRX5_48 dX5_measure_236 rfl (Nat.lt_of_lt_of_le (Nat.le_of_ble_eq_true rfl) hnx) rfl ?_
                                                      refine R_iload_n dX5_measure_239 rfl rfl ?_
                                                      refine R_iaload (k := i) dX5_measure_240 rfl (Nat.lt_of_lt_of_le (Nat.le_of_ble_eq_true rfl) hnx) (by omega) (by omega) (by decide) ?_
                                                      refine R_imul dX5_measure_241 ?_
                                                      refine R_goto (tgt := 251) dX5_measure_242 (by decide) ?_
                                                      refine R_iastore (k := i + 1) dX5_measure_251 rfl (Nat.lt_of_lt_of_le (Nat.le_of_ble_eq_true rfl) hnx) (by omega) (by omega) (by decide) ?_
                                                      refine R_iinc dX5_measure_252 rfl (Nat.le_of_ble_eq_true rfl) ?_
                                                      refine R_goto (tgt := 43) dX5_measure_255 (by decide) ?_
                                                      refine step hi2 _ (fun p hp => ?_) (fun p h1 h2 k hk => ?_) ?_ ?_ ?_ ?_ ?_ _ _
                                                      · rw [up2_ne _ _ _ (by omega), up2_ne _ _ _ (by omega), up2_ne _ _ _ (by omega), up2_ne _ _ _ (by omega), up2_ne _ _ _ (by omega)]
                                                      · simp only [up2_at]
                                                        rw [if_neg (by omega), if_neg (by omega), if_neg (by omega), if_neg (by omega), if_neg (by omega)]
                                                      · simp [up2_at, fW]
                                                        first | (rw [if_pos (by omega)]; rw [q1, show (2 : Int) = ((2 : Nat) : Int) from rfl, bDivN (by omega) (by omega) (by omega)]; done) | (rw [if_neg (by omega)]; exact q1)
                                                      · simp [up2_at, fH]
                                                        first | (rw [if_pos (by omega)]; rw [q2, show (2 : Int) = ((2 : Nat) : Int) from rfl, bDivN (by omega) (by omega) (by omega)]; done) | (rw [if_neg (by omega)]; exact q2)
                                                      · simp [up2_at, fP]
                                                        first | (rw [if_pos (by omega)]; (try rfl); done) | (rw [if_neg (by omega)]; exact q3)
                                                      · simp [up2_at, fL]
                                                        rw [q4]
                                                        first | (rw [if_pos (by omega)]; rfl) | (rw [if_neg (by omega), if_pos (by omega)]; rfl) | (rw [if_neg (by omega), if_neg (by omega), if_pos (by omega), q5]) | (rw [if_neg (by omega), if_neg (by omega), if_neg (by omega)]; rfl)
                                                      · simp [up2_at, fS]
                                                        first | (rw [if_pos (by omega), q5]; rfl) | (rw [if_neg (by omega)]; exact q5))))
                                       · first
                                         | (simp (discharger := omega) only [wr_id] at c_185; done)
                                         | (try simp (discharger := omega) only [wr_id] at c_185
                                            exfalso
                                            first | omega | exact c_185 trivial)
                                         | (try simp (discharger := omega) only [wr_id] at c_185
                                            refine R_iconst dX5_measure_188 ?_
                                            refine R_goto (tgt := 206) dX5_measure_189 (by decide) ?_
                                            refine R_istore_n dX5_measure_206 rfl (Nat.le_of_ble_eq_true rfl) ?_
                                            refine R_aload_n dX5_measure_207 rfl rfl ?_
                                            refine R_getA fRX5_45 dX5_measure_208 rfl (Nat.lt_of_lt_of_le (Nat.le_of_ble_eq_true rfl) hnx) rfl ?_
                                            refine R_iload_n dX5_measure_211 rfl rfl ?_
                                            refine R_iconst dX5_measure_212 ?_
                                            refine R_iadd dX5_measure_213 ?_
                                            refine R_aload_n dX5_measure_214 rfl rfl ?_
                                            refine R_getA fRX5_45 dX5_measure_215 rfl (Nat.lt_of_lt_of_le (Nat.le_of_ble_eq_true rfl) hnx) rfl ?_
                                            refine R_iload_n dX5_measure_218 rfl rfl ?_
                                            refine R_iaload (k := i) dX5_measure_219 rfl (Nat.lt_of_lt_of_le (Nat.le_of_ble_eq_true rfl) hnx) (by omega) (by omega) (by decide) ?_
                                            refine R_iload_n dX5_measure_220 rfl rfl ?_
                                            refine R_iadd dX5_measure_221 ?_
                                            refine R_iastore (k := i + 1) dX5_measure_222 rfl (Nat.lt_of_lt_of_le (Nat.le_of_ble_eq_true rfl) hnx) (by omega) (by omega) (by decide) ?_
                                            refine R_aload_n dX5_measure_223 rfl rfl ?_
                                            refine R_getA fRX5_48 dX5_measure_224 rfl (Nat.lt_of_lt_of_le (Nat.le_of_ble_eq_true rfl) hnx) rfl ?_
                                            refine R_iload_n dX5_measure_227 rfl rfl ?_
                                            refine R_iconst dX5_measure_228 ?_
                                            refine R_iadd dX5_measure_229 ?_
                                            refine R_iload_n dX5_measure_230 rfl rfl ?_
                                            refine R_if_eq (tgt := 245) dX5_measure_231 (by decide) (fun c_231 => ?_) (fun c_231 => ?_)
                                            · first
                                              | (simp (discharger := omega) only [wr_id] at c_231; done)
                                              | (try simp (discharger := omega) only [wr_id] at c_231
                                                 exfalso
                                                 first | omega | exact c_231 trivial)
                                              | (try simp (discharger := omega) only [wr_id] at c_231
                                                 refine R_aload_n dX5_measure_245 rfl rfl ?_
                                                 refine R_getA fRX5_48 dX5_measure_246 rfl (Nat.lt_of_lt_of_le (Nat.le_of_ble_eq_true rfl) hnx) rfl ?_
                                                 refine R_iload_n dX5_measure_249 rfl rfl ?_
                                                 refine R_iaload (k := i) dX5_measure_250 rfl (Nat.lt_of_lt_of_le (Nat.le_of_ble_eq_true rfl) hnx) (by omega) (by omega) (by decide) ?_
                                                 refine R_iastore (k := i + 1) dX5_measure_251 rfl (Nat.lt_of_lt_of_le (Nat.le_of_ble_eq_true rfl) hnx) (by omega) (by omega) (by decide) ?_
                                                 refine R_iinc dX5_measure_252 rfl (Nat.le_of_ble_eq_true rfl) ?_
                                                 refine R_goto (tgt := 43) dX5_measure_255 (by decide) ?_
                                                 refine step hi2 _ (fun p hp => ?_) (fun p h1 h2 k hk => ?_) ?_ ?_ ?_ ?_ ?_ _ _
                                                 · rw [up2_ne _ _ _ (by omega), up2_ne _ _ _ (by omega), up2_ne _ _ _ (by omega), up2_ne _ _ _ (by omega), up2_ne _ _ _ (by omega)]
                                                 · simp only [up2_at]
                                                   rw [if_neg (by omega), if_neg (by omega), if_neg (by omega), if_neg (by omega), if_neg (by omega)]
                                                 · simp [up2_at, fW]
                                                   first | (rw [if_pos (by omega)]; rw [q1, show (2 : Int) = ((2 : Nat) : Int) from rfl, bDivN (by omega) (by omega) (by omega)]; done) | (rw [if_neg (by omega)]; exact q1)
                                                 · simp [up2_at, fH]
                                                   first | (rw [if_pos (by omega)]; rw [q2, show (2 : Int) = ((2 : Nat) : Int) from rfl, bDivN (by omega) (by omega) (by omega)]; done) | (rw [if_neg (by omega)]; exact q2)
                                                 · simp [up2_at, fP]
                                                   first | (rw [if_pos (by omega)]; (try rfl); done) | (rw [if_neg (by omega)]; exact q3)
                                                 · simp [up2_at, fL]
                                                   rw [q4]
                                                   first | (rw [if_pos (by omega)]; rfl) | (rw [if_neg (by omega), if_pos (by omega)]; rfl) | (rw [if_neg (by omega), if_neg (by omega), if_pos (by omega), q5]) | (rw [if_neg (by omega), if_neg (by omega), if_neg (by omega)]; rfl)
                                                 · simp [up2_at, fS]
                                                   first | (rw [if_pos (by omega), q5]; rfl) | (rw [if_neg (by omega)]; exact q5))
                                            · first
                                              | (simp (discharger := omega) only [wr_id] at c_231; done)
                                              | (try simp (discharger := omega) only [wr_id] at c_231
                                                 exfalso
                                                 first | omega | exact c_231 trivial)
                                              | (try simp (discharger := omega) only [wr_id] at c_231
                                                 refine R_iconst dX5_measure_234 ?_
                                                 refine R_aload_n dX5_measure_235 rfl rfl ?_
                                                 refine R_getA fRX5_48 dX5_measure_236 rfl (Nat.lt_of_lt_of_le (Nat.le_of_ble_eq_true rfl) hnx) rfl ?_
                                                 refine R_iload_n dX5_measure_239 rfl rfl ?_
                                                 refine R_iaload (k := i) dX5_measure_240 rfl (Nat.lt_of_lt_of_le (Nat.le_of_ble_eq_true rfl) hnx) (by omega) (by omega) (by decide) ?_
                                                 refine R_imul dX5_measure_241 ?_
                                                 refine R_goto (tgt := 251) dX5_measure_242 (by decide) ?_
                                                 refine R_iastore (k := i + 1) dX5_measure_251 rfl (Nat.lt_of_lt_of_le (Nat.le_of_ble_eq_true rfl) hnx) (by omega) (by omega) (by decide) ?_
                                                 refine R_iinc dX5_measure_252 rfl (Nat.le_of_ble_eq_true rfl) ?_
                                                 refine R_goto (tgt := 43) dX5_measure_255 (by decide) ?_
                                                 refine step hi2 _ (fun p hp => ?_) (fun p h1 h2 k hk => ?_) ?_ ?_ ?_ ?_ ?_ _ _
                                                 · rw [up2_ne _ _ _ (by omega), up2_ne _ _ _ (by omega), up2_ne _ _ _ (by omega), up2_ne _ _ _ (by omega), up2_ne _ _ _ (by omega)]
                                                 · simp only [up2_at]
                                                   rw [if_neg (by omega), if_neg (by omega), if_neg (by omega), if_neg (by omega), if_neg (by omega)]
                                                 · simp [up2_at, fW]
                                                   first | (rw [if_pos (by omega)]; rw [q1, show (2 : Int) = ((2 : Nat) : Int) from rfl, bDivN (by omega) (by omega) (by omega)]; done) | (rw [if_neg (by omega)]; exact q1)
                                                 · simp [up2_at, fH]
                                                   first | (rw [if_pos (by omega)]; rw [q2, show (2 : Int) = ((2 : Nat) : Int) from rfl, bDivN (by omega) (by omega) (by omega)]; done) | (rw [if_neg (by omega)]; exact q2)
                                                 · simp [up2_at, fP]
                                                   first | (rw [if_pos (by omega)]; (try rfl); done) | (rw [if_neg (by omega)]; exact q3)
                                                 · simp [up2_at, fL]
                                                   rw [q4]
                                                   first | (rw [if_pos (by omega)]; rfl) | (rw [if_neg (by omega), if_pos (by omega)]; rfl) | (rw [if_neg (by omega), if_neg (by omega), if_pos (by omega), q5]) | (rw [if_neg (by omega), if_neg (by omega), if_neg (by omega)]; rfl)
                                                 · simp [up2_at, fS]
                                                   first | (rw [if_pos (by omega), q5]; rfl) | (rw [if_neg (by omega)]; exact q5))))
                                  · first
                                    | (simp (discharger := omega) only [wr_id] at c_171; done)
                                    | (try simp (discharger := omega) only [wr_id] at c_171
                                       exfalso
                                       first | omega | exact c_171 trivial)
                                    | (try simp (discharger := omega) only [wr_id] at c_171
                                       refine R_iconst dX5_measure_174 ?_
                                       refine R_goto (tgt := 206) dX5_measure_175 (by decide) ?_
                                       refine R_istore_n dX5_measure_206 rfl (Nat.le_of_ble_eq_true rfl) ?_
                                       refine R_aload_n dX5_measure_207 rfl rfl ?_
                                       refine R_getA fRX5_45 dX5_measure_208 rfl (Nat.lt_of_lt_of_le (Nat.le_of_ble_eq_true rfl) hnx) rfl ?_
                                       refine R_iload_n dX5_measure_211 rfl rfl ?_
                                       refine R_iconst dX5_measure_212 ?_
                                       refine R_iadd dX5_measure_213 ?_
                                       refine R_aload_n dX5_measure_214 rfl rfl ?_
                                       refine R_getA fRX5_45 dX5_measure_215 rfl (Nat.lt_of_lt_of_le (Nat.le_of_ble_eq_true rfl) hnx) rfl ?_
                                       refine R_iload_n dX5_measure_218 rfl rfl ?_
                                       refine R_iaload (k := i) dX5_measure_219 rfl (Nat.lt_of_lt_of_le (Nat.le_of_ble_eq_true rfl) hnx) (by omega) (by omega) (by decide) ?_
                                       refine R_iload_n dX5_measure_220 rfl rfl ?_
                                       refine R_iadd dX5_measure_221 ?_
                                       refine R_iastore (k := i + 1) dX5_measure_222 rfl (Nat.lt_of_lt_of_le (Nat.le_of_ble_eq_true rfl) hnx) (by omega) (by omega) (by decide) ?_
                                       refine R_aload_n dX5_measure_223 rfl rfl ?_
                                       refine R_getA fRX5_48 dX5_measure_224 rfl (Nat.lt_of_lt_of_le (Nat.le_of_ble_eq_true rfl) hnx) rfl ?_
                                       refine R_iload_n dX5_measure_227 rfl rfl ?_
                                       refine R_iconst dX5_measure_228 ?_
                                       refine R_iadd dX5_measure_229 ?_
                                       refine R_iload_n dX5_measure_230 rfl rfl ?_
                                       refine R_if_eq (tgt := 245) dX5_measure_231 (by decide) (fun c_231 => ?_) (fun c_231 => ?_)
                                       · first
                                         | (simp (discharger := omega) only [wr_id] at c_231; done)
                                         | (try simp (discharger := omega) only [wr_id] at c_231
                                            exfalso
                                            first | omega | exact c_231 trivial)
                                         | (try simp (discharger := omega) only [wr_id] at c_231
                                            refine R_aload_n dX5_measure_245 rfl rfl ?_
                                            refine R_getA fRX5_48 dX5_measure_246 rfl (Nat.lt_of_lt_of_le (Nat.le_of_ble_eq_true rfl) hnx) rfl ?_
                                            refine R_iload_n dX5_measure_249 rfl rfl ?_
                                            refine R_iaload (k := i) dX5_measure_250 rfl (Nat.lt_of_lt_of_le (Nat.le_of_ble_eq_true rfl) hnx) (by omega) (by omega) (by decide) ?_
                                            refine R_iastore (k := i + 1) dX5_measure_251 rfl (Nat.lt_of_lt_of_le (Nat.le_of_ble_eq_true rfl) hnx) (by omega) (by omega) (by decide) ?_
                                            refine R_iinc dX5_measure_252 rfl (Nat.le_of_ble_eq_true rfl) ?_
                                            refine R_goto (tgt := 43) dX5_measure_255 (by decide) ?_
                                            refine step hi2 _ (fun p hp => ?_) (fun p h1 h2 k hk => ?_) ?_ ?_ ?_ ?_ ?_ _ _
                                            · rw [up2_ne _ _ _ (by omega), up2_ne _ _ _ (by omega), up2_ne _ _ _ (by omega), up2_ne _ _ _ (by omega), up2_ne _ _ _ (by omega)]
                                            · simp only [up2_at]
                                              rw [if_neg (by omega), if_neg (by omega), if_neg (by omega), if_neg (by omega), if_neg (by omega)]
                                            · simp [up2_at, fW]
                                              first | (rw [if_pos (by omega)]; rw [q1, show (2 : Int) = ((2 : Nat) : Int) from rfl, bDivN (by omega) (by omega) (by omega)]; done) | (rw [if_neg (by omega)]; exact q1)
                                            · simp [up2_at, fH]
                                              first | (rw [if_pos (by omega)]; rw [q2, show (2 : Int) = ((2 : Nat) : Int) from rfl, bDivN (by omega) (by omega) (by omega)]; done) | (rw [if_neg (by omega)]; exact q2)
                                            · simp [up2_at, fP]
                                              first | (rw [if_pos (by omega)]; (try rfl); done) | (rw [if_neg (by omega)]; exact q3)
                                            · simp [up2_at, fL]
                                              rw [q4]
                                              first | (rw [if_pos (by omega)]; rfl) | (rw [if_neg (by omega), if_pos (by omega)]; rfl) | (rw [if_neg (by omega), if_neg (by omega), if_pos (by omega), q5]) | (rw [if_neg (by omega), if_neg (by omega), if_neg (by omega)]; rfl)
                                            · simp [up2_at, fS]
                                              first | (rw [if_pos (by omega), q5]; rfl) | (rw [if_neg (by omega)]; exact q5))
                                       · first
                                         | (simp (discharger := omega) only [wr_id] at c_231; done)
                                         | (try simp (discharger := omega) only [wr_id] at c_231
                                            exfalso
                                            first | omega | exact c_231 trivial)
                                         | (try simp (discharger := omega) only [wr_id] at c_231
                                            refine R_iconst dX5_measure_234 ?_
                                            refine R_aload_n dX5_measure_235 rfl rfl ?_
                                            refine R_getA fRX5_48 dX5_measure_236 rfl (Nat.lt_of_lt_of_le (Nat.le_of_ble_eq_true rfl) hnx) rfl ?_
                                            refine R_iload_n dX5_measure_239 rfl rfl ?_
                                            refine R_iaload (k := i) dX5_measure_240 rfl (Nat.lt_of_lt_of_le (Nat.le_of_ble_eq_true rfl) hnx) (by omega) (by omega) (by decide) ?_
                                            refine R_imul dX5_measure_241 ?_
                                            refine R_goto (tgt := 251) dX5_measure_242 (by decide) ?_
                                            refine R_iastore (k := i + 1) dX5_measure_251 rfl (Nat.lt_of_lt_of_le (Nat.le_of_ble_eq_true rfl) hnx) (by omega) (by omega) (by decide) ?_
                                            refine R_iinc dX5_measure_252 rfl (Nat.le_of_ble_eq_true rfl) ?_
                                            refine R_goto (tgt := 43) dX5_measure_255 (by decide) ?_
                                            refine step hi2 _ (fun p hp => ?_) (fun p h1 h2 k hk => ?_) ?_ ?_ ?_ ?_ ?_ _ _
                                            · rw [up2_ne _ _ _ (by omega), up2_ne _ _ _ (by omega), up2_ne _ _ _ (by omega), up2_ne _ _ _ (by omega), up2_ne _ _ _ (by omega)]
                                            · simp only [up2_at]
                                              rw [if_neg (by omega), if_neg (by omega), if_neg (by omega), if_neg (by omega), if_neg (by omega)]
                                            · simp [up2_at, fW]
                                              first | (rw [if_pos (by omega)]; rw [q1, show (2 : Int) = ((2 : Nat) : Int) from rfl, bDivN (by omega) (by omega) (by omega)]; done) | (rw [if_neg (by omega)]; exact q1)
                                            · simp [up2_at, fH]
                                              first | (rw [if_pos (by omega)]; rw [q2, show (2 : Int) = ((2 : Nat) : Int) from rfl, bDivN (by omega) (by omega) (by omega)]; done) | (rw [if_neg (by omega)]; exact q2)
                                            · simp [up2_at, fP]
                                              first | (rw [if_pos (by omega)]; (try rfl); done) | (rw [if_neg (by omega)]; exact q3)
                                            · simp [up2_at, fL]
                                              rw [q4]
                                              first | (rw [if_pos (by omega)]; rfl) | (rw [if_neg (by omega), if_pos (by omega)]; rfl) | (rw [if_neg (by omega), if_neg (by omega), if_pos (by omega), q5]) | (rw [if_neg (by omega), if_neg (by omega), if_neg (by omega)]; rfl)
                                            · simp [up2_at, fS]
                                              first | (rw [if_pos (by omega), q5]; rfl) | (rw [if_neg (by omega)]; exact q5))))))))
         · first
           | (simp (discharger := omega) only [wr_id] at c_59; done)
           | (try simp (discharger := omega) only [wr_id] at c_59
              exfalso
              first | omega | exact c_59 trivial)
           | (try simp (discharger := omega) only [wr_id] at c_59
              refine R_iconst dX5_measure_62 ?_
              refine R_goto (tgt := 67) dX5_measure_63 (by decide) ?_
              refine R_istore_n dX5_measure_67 rfl (Nat.le_of_ble_eq_true rfl) ?_
              refine R_aload_n dX5_measure_68 rfl rfl ?_
              refine R_getA fRX5_36 dX5_measure_69 rfl (Nat.lt_of_lt_of_le (Nat.le_of_ble_eq_true rfl) hnx) rfl ?_
              refine R_iload_n dX5_measure_72 rfl rfl ?_
              refine R_iconst dX5_measure_73 ?_
              refine R_iadd dX5_measure_74 ?_
              refine R_iload_n dX5_measure_75 rfl rfl ?_
              refine R_if_eq (tgt := 90) dX5_measure_76 (by decide) (fun c_76 => ?_) (fun c_76 => ?_)
              · first
                | (simp (discharger := omega) only [wr_id] at c_76; done)
                | (try simp (discharger := omega) only [wr_id] at c_76
                   exfalso
                   first | omega | exact c_76 trivial)
                | (try simp (discharger := omega) only [wr_id] at c_76
                   refine R_aload_n dX5_measure_90 rfl rfl ?_
                   refine R_getA fRX5_36 dX5_measure_91 rfl (Nat.lt_of_lt_of_le (Nat.le_of_ble_eq_true rfl) hnx) rfl ?_
                   refine R_iload_n dX5_measure_94 rfl rfl ?_
                   refine R_iaload (k := i) dX5_measure_95 rfl (Nat.lt_of_lt_of_le (Nat.le_of_ble_eq_true rfl) hnx) (by omega) (by omega) (by decide) ?_
                   refine R_iastore (k := i + 1) dX5_measure_96 rfl (Nat.lt_of_lt_of_le (Nat.le_of_ble_eq_true rfl) hnx) (by omega) (by omega) (by decide) ?_
                   refine R_aload_n dX5_measure_97 rfl rfl ?_
                   refine R_getA fRX5_39 dX5_measure_98 rfl (Nat.lt_of_lt_of_le (Nat.le_of_ble_eq_true rfl) hnx) rfl ?_
                   refine R_iload_n dX5_measure_101 rfl rfl ?_
                   refine R_iconst dX5_measure_102 ?_
                   refine R_iadd dX5_measure_103 ?_
                   refine R_iload_n dX5_measure_104 rfl rfl ?_
                   refine R_if_eq (tgt := 119) dX5_measure_105 (by decide) (fun c_105 => ?_) (fun c_105 => ?_)
                   · first
                     | (simp (discharger := omega) only [wr_id] at c_105; done)
                     | (try simp (discharger := omega) only [wr_id] at c_105
                        exfalso
                        first | omega | exact c_105 trivial)
                     | (try simp (discharger := omega) only [wr_id] at c_105
                        refine R_aload_n dX5_measure_119 rfl rfl ?_
                        refine R_getA fRX5_39 dX5_measure_120 rfl (Nat.lt_of_lt_of_le (Nat.le_of_ble_eq_true rfl) hnx) rfl ?_
                        refine R_iload_n dX5_measure_123 rfl rfl ?_
                        refine R_iaload (k := i) dX5_measure_124 rfl (Nat.lt_of_lt_of_le (Nat.le_of_ble_eq_true rfl) hnx) (by omega) (by omega) (by decide) ?_
                        refine R_iastore (k := i + 1) dX5_measure_125 rfl (Nat.lt_of_lt_of_le (Nat.le_of_ble_eq_true rfl) hnx) (by omega) (by omega) (by decide) ?_
                        refine R_aload_n dX5_measure_126 rfl rfl ?_
                        refine R_getA fRX5_42 dX5_measure_127 rfl (Nat.lt_of_lt_of_le (Nat.le_of_ble_eq_true rfl) hnx) rfl ?_
                        refine R_iload_n dX5_measure_130 rfl rfl ?_
                        refine R_iconst dX5_measure_131 ?_
                        refine R_iadd dX5_measure_132 ?_
                        refine R_aload_n dX5_measure_133 rfl rfl ?_
                        refine R_getA fRX5_24 dX5_measure_134 rfl (Nat.lt_of_lt_of_le (Nat.le_of_ble_eq_true rfl) hnx) rfl ?_
                        refine R_iload_n dX5_measure_137 rfl rfl ?_
                        refine R_iaload (k := i) dX5_measure_138 rfl (Nat.lt_of_lt_of_le (Nat.le_of_ble_eq_true rfl) hnx) (by omega) (by omega) (by decide) ?_
                        refine R_iconst dX5_measure_139 ?_
                        dsimp only
                        rw [up2_ne _ _ _ (by decide), up2_ne _ _ _ (by decide), e6]
                        refine R_icmp_ne (tgt := 147) dX5_measure_140 (by decide) (fun c_140 => ?_) (fun c_140 => ?_)
                        · first
                          | (simp (discharger := omega) only [wr_id] at c_140; done)
                          | (try simp (discharger := omega) only [wr_id] at c_140
                             exfalso
                             first | omega | exact c_140 trivial)
                          | (try simp (discharger := omega) only [wr_id] at c_140
                             refine R_aload_n dX5_measure_147 rfl rfl ?_
                             refine R_getA fRX5_42 dX5_measure_148 rfl (Nat.lt_of_lt_of_le (Nat.le_of_ble_eq_true rfl) hnx) rfl ?_
                             refine R_iload_n dX5_measure_151 rfl rfl ?_
                             refine R_iaload (k := i) dX5_measure_152 rfl (Nat.lt_of_lt_of_le (Nat.le_of_ble_eq_true rfl) hnx) (by omega) (by omega) (by decide) ?_
                             refine R_iastore (k := i + 1) dX5_measure_153 rfl (Nat.lt_of_lt_of_le (Nat.le_of_ble_eq_true rfl) hnx) (by omega) (by omega) (by decide) ?_
                             refine R_aload_n dX5_measure_154 rfl rfl ?_
                             refine R_getA fRX5_24 dX5_measure_155 rfl (Nat.lt_of_lt_of_le (Nat.le_of_ble_eq_true rfl) hnx) rfl ?_
                             refine R_iload_n dX5_measure_158 rfl rfl ?_
                             refine R_iaload (k := i) dX5_measure_159 rfl (Nat.lt_of_lt_of_le (Nat.le_of_ble_eq_true rfl) hnx) (by omega) (by omega) (by decide) ?_
                             refine R_iconst dX5_measure_160 ?_
                             dsimp only
                             rw [up2_ne _ _ _ (by decide), up2_ne _ _ _ (by decide), up2_ne _ _ _ (by decide), e6]
                             refine R_icmp_eq (tgt := 174) dX5_measure_161 (by decide) (fun c_161 => ?_) (fun c_161 => ?_)
                             · first
                               | (simp (discharger := omega) only [wr_id] at c_161; done)
                               | (try simp (discharger := omega) only [wr_id] at c_161
                                  exfalso
                                  first | omega | exact c_161 trivial)
                               | (try simp (discharger := omega) only [wr_id] at c_161
                                  refine R_iconst dX5_measure_174 ?_
                                  refine R_goto (tgt := 206) dX5_measure_175 (by decide) ?_
                                  refine R_istore_n dX5_measure_206 rfl (Nat.le_of_ble_eq_true rfl) ?_
                                  refine R_aload_n dX5_measure_207 rfl rfl ?_
                                  refine R_getA fRX5_45 dX5_measure_208 rfl (Nat.lt_of_lt_of_le (Nat.le_of_ble_eq_true rfl) hnx) rfl ?_
                                  refine R_iload_n dX5_measure_211 rfl rfl ?_
                                  refine R_iconst dX5_measure_212 ?_
                                  refine R_iadd dX5_measure_213 ?_
                                  refine R_aload_n dX5_measure_214 rfl rfl ?_
                                  refine R_getA fRX5_45 dX5_measure_215 rfl (Nat.lt_of_lt_of_le (Nat.le_of_ble_eq_true rfl) hnx) rfl ?_
                                  refine R_iload_n dX5_measure_218 rfl rfl ?_
                                  refine R_iaload (k := i) dX5_measure_219 rfl (Nat.lt_of_lt_of_le (Nat.le_of_ble_eq_true rfl) hnx) (by omega) (by omega) (by decide) ?_
                                  refine R_iload_n dX5_measure_220 rfl rfl ?_
                                  refine R_iadd dX5_measure_221 ?_
                                  refine R_iastore (k := i + 1) dX5_measure_222 rfl (Nat.lt_of_lt_of_le (Nat.le_of_ble_eq_true rfl) hnx) (by omega) (by omega) (by decide) ?_
                                  refine R_aload_n dX5_measure_223 rfl rfl ?_
                                  refine R_getA fRX5_48 dX5_measure_224 rfl (Nat.lt_of_lt_of_le (Nat.le_of_ble_eq_true rfl) hnx) rfl ?_
                                  refine R_iload_n dX5_measure_227 rfl rfl ?_
                                  refine R_iconst dX5_measure_228 ?_
                                  refine R_iadd dX5_measure_229 ?_
                                  refine R_iload_n dX5_measure_230 rfl rfl ?_
                                  refine R_if_eq (tgt := 245) dX5_measure_231 (by decide) (fun c_231 => ?_) (fun c_231 => ?_)
                                  · first
                                    | (simp (discharger := omega) only [wr_id] at c_231; done)
                                    | (try simp (discharger := omega) only [wr_id] at c_231
                                       exfalso
                                       first | omega | exact c_231 trivial)
                                    | (try simp (discharger := omega) only [wr_id] at c_231
                                       refine R_aload_n dX5_measure_245 rfl rfl ?_
                                       refine R_getA fRX5_48 dX5_measure_246 rfl (Nat.lt_of_lt_of_le (Nat.le_of_ble_eq_true rfl) hnx) rfl ?_
                                       refine R_iload_n dX5_measure_249 rfl rfl ?_
                                       refine R_iaload (k := i) dX5_measure_250 rfl (Nat.lt_of_lt_of_le (Nat.le_of_ble_eq_true rfl) hnx) (by omega) (by omega) (by decide) ?_
                                       refine R_iastore (k := i + 1) dX5_measure_251 rfl (Nat.lt_of_lt_of_le (Nat.le_of_ble_eq_true rfl) hnx) (by omega) (by omega) (by decide) ?_
                                       refine R_iinc dX5_measure_252 rfl (Nat.le_of_ble_eq_true rfl) ?_
                                       refine R_goto (tgt := 43) dX5_measure_255 (by decide) ?_
                                       refine step hi2 _ (fun p hp => ?_) (fun p h1 h2 k hk => ?_) ?_ ?_ ?_ ?_ ?_ _ _
                                       · rw [up2_ne _ _ _ (by omega), up2_ne _ _ _ (by omega), up2_ne _ _ _ (by omega), up2_ne _ _ _ (by omega), up2_ne _ _ _ (by omega)]
                                       · simp only [up2_at]
                                         rw [if_neg (by omega), if_neg (by omega), if_neg (by omega), if_neg (by omega), if_neg (by omega)]
                                       · simp [up2_at, fW]
                                         first | (rw [if_pos (by omega)]; rw [q1, show (2 : Int) = ((2 : Nat) : Int) from rfl, bDivN (by omega) (by omega) (by omega)]; done) | (rw [if_neg (by omega)]; exact q1)
                                       · simp [up2_at, fH]
                                         first | (rw [if_pos (by omega)]; rw [q2, show (2 : Int) = ((2 : Nat) : Int) from rfl, bDivN (by omega) (by omega) (by omega)]; done) | (rw [if_neg (by omega)]; exact q2)
                                       · simp [up2_at, fP]
                                         first | (rw [if_pos (by omega)]; (try rfl); done) | (rw [if_neg (by omega)]; exact q3)
                                       · simp [up2_at, fL]
                                         rw [q4]
                                         first | (rw [if_pos (by omega)]; rfl) | (rw [if_neg (by omega), if_pos (by omega)]; rfl) | (rw [if_neg (by omega), if_neg (by omega), if_pos (by omega), q5]) | (rw [if_neg (by omega), if_neg (by omega), if_neg (by omega)]; rfl)
                                       · simp [up2_at, fS]
                                         first | (rw [if_pos (by omega), q5]; rfl) | (rw [if_neg (by omega)]; exact q5))
                                  · first
                                    | (simp (discharger := omega) only [wr_id] at c_231; done)
                                    | (try simp (discharger := omega) only [wr_id] at c_231
                                       exfalso
                                       first | omega | exact c_231 trivial)
                                    | (try simp (discharger := omega) only [wr_id] at c_231
                                       refine R_iconst dX5_measure_234 ?_
                                       refine R_aload_n dX5_measure_235 rfl rfl ?_
                                       refine R_getA fRX5_48 dX5_measure_236 rfl (Nat.lt_of_lt_of_le (Nat.le_of_ble_eq_true rfl) hnx) rfl ?_
                                       refine R_iload_n dX5_measure_239 rfl rfl ?_
                                       refine R_iaload (k := i) dX5_measure_240 rfl (Nat.lt_of_lt_of_le (Nat.le_of_ble_eq_true rfl) hnx) (by omega) (by omega) (by decide) ?_
                                       refine R_imul dX5_measure_241 ?_
                                       refine R_goto (tgt := 251) dX5_measure_242 (by decide) ?_
                                       refine R_iastore (k := i + 1) dX5_measure_251 rfl (Nat.lt_of_lt_of_le (Nat.le_of_ble_eq_true rfl) hnx) (by omega) (by omega) (by decide) ?_
                                       refine R_iinc dX5_measure_252 rfl (Nat.le_of_ble_eq_true rfl) ?_
                                       refine R_goto (tgt := 43) dX5_measure_255 (by decide) ?_
                                       refine step hi2 _ (fun p hp => ?_) (fun p h1 h2 k hk => ?_) ?_ ?_ ?_ ?_ ?_ _ _
                                       · rw [up2_ne _ _ _ (by omega), up2_ne _ _ _ (by omega), up2_ne _ _ _ (by omega), up2_ne _ _ _ (by omega), up2_ne _ _ _ (by omega)]
                                       · simp only [up2_at]
                                         rw [if_neg (by omega), if_neg (by omega), if_neg (by omega), if_neg (by omega), if_neg (by omega)]
                                       · simp [up2_at, fW]
                                         first | (rw [if_pos (by omega)]; rw [q1, show (2 : Int) = ((2 : Nat) : Int) from rfl, bDivN (by omega) (by omega) (by omega)]; done) | (rw [if_neg (by omega)]; exact q1)
                                       · simp [up2_at, fH]
                                         first | (rw [if_pos (by omega)]; rw [q2, show (2 : Int) = ((2 : Nat) : Int) from rfl, bDivN (by omega) (by omega) (by omega)]; done) | (rw [if_neg (by omega)]; exact q2)
                                       · simp [up2_at, fP]
                                         first | (rw [if_pos (by omega)]; (try rfl); done) | (rw [if_neg (by omega)]; exact q3)
                                       · simp [up2_at, fL]
                                         rw [q4]
                                         first | (rw [if_pos (by omega)]; rfl) | (rw [if_neg (by omega), if_pos (by omega)]; rfl) | (rw [if_neg (by omega), if_neg (by omega), if_pos (by omega), q5]) | (rw [if_neg (by omega), if_neg (by omega), if_neg (by omega)]; rfl)
                                       · simp [up2_at, fS]
                                         first | (rw [if_pos (by omega), q5]; rfl) | (rw [if_neg (by omega)]; exact q5)))
                             · first
                               | (simp (discharger := omega) only [wr_id] at c_161; done)
                               | (try simp (discharger := omega) only [wr_id] at c_161
                                  exfalso
                                  first | omega | exact c_161 trivial)
                               | (try simp (discharger := omega) only [wr_id] at c_161
                                  refine R_aload_n dX5_measure_164 rfl rfl ?_
                                  refine R_getA fRX5_24 dX5_measure_165 rfl (Nat.lt_of_lt_of_le (Nat.le_of_ble_eq_true rfl) hnx) rfl ?_
                                  refine R_iload_n dX5_measure_168 rfl rfl ?_
                                  refine R_iaload (k := i) dX5_measure_169 rfl (Nat.lt_of_lt_of_le (Nat.le_of_ble_eq_true rfl) hnx) (by omega) (by omega) (by decide) ?_
                                  refine R_iconst dX5_measure_170 ?_
                                  dsimp only
                                  rw [up2_ne _ _ _ (by decide), up2_ne _ _ _ (by decide), up2_ne _ _ _ (by decide), e6]
                                  refine R_icmp_ne (tgt := 178) dX5_measure_171 (by decide) (fun c_171 => ?_) (fun c_171 => ?_)
                                  · first
                                    | (simp (discharger := omega) only [wr_id] at c_171; done)
                                    | (try simp (discharger := omega) only [wr_id] at c_171
                                       exfalso
                                       first | omega | exact c_171 trivial)
                                    | (try simp (discharger := omega) only [wr_id] at c_171
                                       refine R_aload_n dX5_measure_178 rfl rfl ?_
                                       refine R_getA fRX5_24 dX5_measure_179 rfl (Nat.lt_of_lt_of_le (Nat.le_of_ble_eq_true rfl) hnx) rfl ?_
                                       refine R_iload_n dX5_measure_182 rfl rfl ?_
                                       refine R_iaload (k := i) dX5_measure_183 rfl (Nat.lt_of_lt_of_le (Nat.le_of_ble_eq_true rfl) hnx) (by omega) (by omega) (by decide) ?_
                                       refine R_iconst dX5_measure_184 ?_
                                       dsimp only
                                       rw [up2_ne _ _ _ (by decide), up2_ne _ _ _ (by decide), up2_ne _ _ _ (by decide), e6]
                                       refine R_icmp_ne (tgt := 192) dX5_measure_185 (by decide) (fun c_185 => ?_) (fun c_185 => ?_)
                                       · first
                                         | (simp (discharger := omega) only [wr_id] at c_185; done)
                                         | (try simp (discharger := omega) only [wr_id] at c_185
                                            exfalso
                                            first | omega | exact c_185 trivial)
                                         | (try simp (discharger := omega) only [wr_id] at c_185
                                            refine R_iload_n dX5_measure_192 rfl rfl ?_
                                            refine R_if_eq (tgt := 205) dX5_measure_193 (by decide) (fun c_193 => ?_) (fun c_193 => ?_)
                                            · first
                                              | (simp (discharger := omega) only [wr_id] at c_193; done)
                                              | (try simp (discharger := omega) only [wr_id] at c_193
                                                 exfalso
                                                 first | omega | exact c_193 trivial)
                                              | (try simp (discharger := omega) only [wr_id] at c_193
                                                 refine R_iconst dX5_measure_205 ?_
                                                 refine R_istore_n dX5_measure_206 rfl (Nat.le_of_ble_eq_true rfl) ?_
                                                 refine R_aload_n dX5_measure_207 rfl rfl ?_
                                                 refine R_getA fRX5_45 dX5_measure_208 rfl (Nat.lt_of_lt_of_le (Nat.le_of_ble_eq_true rfl) hnx) rfl ?_
                                                 refine R_iload_n dX5_measure_211 rfl rfl ?_
                                                 refine R_iconst dX5_measure_212 ?_
                                                 refine R_iadd dX5_measure_213 ?_
                                                 refine R_aload_n dX5_measure_214 rfl rfl ?_
                                                 refine R_getA fRX5_45 dX5_measure_215 rfl (Nat.lt_of_lt_of_le (Nat.le_of_ble_eq_true rfl) hnx) rfl ?_
                                                 refine R_iload_n dX5_measure_218 rfl rfl ?_
                                                 refine R_iaload (k := i) dX5_measure_219 rfl (Nat.lt_of_lt_of_le (Nat.le_of_ble_eq_true rfl) hnx) (by omega) (by omega) (by decide) ?_
                                                 refine R_iload_n dX5_measure_220 rfl rfl ?_
                                                 refine R_iadd dX5_measure_221 ?_
                                                 refine R_iastore (k := i + 1) dX5_measure_222 rfl (Nat.lt_of_lt_of_le (Nat.le_of_ble_eq_true rfl) hnx) (by omega) (by omega) (by decide) ?_
                                                 refine R_aload_n dX5_measure_223 rfl rfl ?_
                                                 refine R_getA fRX5_48 dX5_measure_224 rfl (Nat.lt_of_lt_of_le (Nat.le_of_ble_eq_true rfl) hnx) rfl ?_
                                                 refine R_iload_n dX5_measure_227 rfl rfl ?_
                                                 refine R_iconst dX5_measure_228 ?_
                                                 refine R_iadd dX5_measure_229 ?_
                                                 refine R_iload_n dX5_measure_230 rfl rfl ?_
                                                 refine R_if_eq (tgt := 245) dX5_measure_231 (by decide) (fun c_231 => ?_) (fun c_231 => ?_)
                                                 · first
                                                   | (simp (discharger := omega) only [wr_id] at c_231; done)
                                                   | (try simp (discharger := omega) only [wr_id] at c_231
                                                      exfalso
                                                      first | omega | exact c_231 trivial)
                                                   | (try simp (discharger := omega) only [wr_id] at c_231
                                                      refine R_aload_n dX5_measure_245 rfl rfl ?_
                                                      refine R_getA fRX5_48 dX5_measure_246 rfl (Nat.lt_of_lt_of_le (Nat.le_of_ble_eq_true rfl) hnx) rfl ?_
                                                      refine R_iload_n dX5_measure_249 rfl rfl ?_
                                                      refine R_iaload (k := i) dX5_measure_250 rfl (Nat.lt_of_lt_of_le (Nat.le_of_ble_eq_true rfl) hnx) (by omega) (by omega) (by decide) ?_
                                                      refine R_iastore (k := i + 1) dX5_measure_251 rfl (Nat.lt_of_lt_of_le (Nat.le_of_ble_eq_true rfl) hnx) (by omega) (by omega) (by decide) ?_
                                                      refine R_iinc dX5_measure_252 rfl (Nat.le_of_ble_eq_true rfl) ?_
                                                      refine R_goto (tgt := 43) dX5_measure_255 (by decide) ?_
                                                      refine step hi2 _ (fun p hp => ?_) (fun p h1 h2 k hk => ?_) ?_ ?_ ?_ ?_ ?_ _ _
                                                      · rw [up2_ne _ _ _ (by omega), up2_ne _ _ _ (by omega), up2_ne _ _ _ (by omega), up2_ne _ _ _ (by omega), up2_ne _ _ _ (by omega)]
                                                      · simp only [up2_at]
                                                        rw [if_neg (by omega), if_neg (by omega), if_neg (by omega), if_neg (by omega), if_neg (by omega)]
                                                      · simp [up2_at, fW]
                                                        first | (rw [if_pos (by omega)]; rw [q1, show (2 : Int) = ((2 : Nat) : Int) from rfl, bDivN (by omega) (by omega) (by omega)]; done) | (rw [if_neg (by omega)]; exact q1)
                                                      · simp [up2_at, fH]
                                                        first | (rw [if_pos (by omega)]; rw [q2, show (2 : Int) = ((2 : Nat) : Int) from rfl, bDivN (by omega) (by omega) (by omega)]; done) | (rw [if_neg (by omega)]; exact q2)
                                                      · simp [up2_at, fP]
                                                        first | (rw [if_pos (by omega)]; (try rfl); done) | (rw [if_neg (by omega)]; exact q3)
                                                      · simp [up2_at, fL]
                                                        rw [q4]
                                                        first | (rw [if_pos (by omega)]; rfl) | (rw [if_neg (by omega), if_pos (by omega)]; rfl) | (rw [if_neg (by omega), if_neg (by omega), if_pos (by omega), q5]) | (rw [if_neg (by omega), if_neg (by omega), if_neg (by omega)]; rfl)
                                                      · simp [up2_at, fS]
                                                        first | (rw [if_pos (by omega), q5]; rfl) | (rw [if_neg (by omega)]; exact q5))
                                                 · first
                                                   | (simp (discharger := omega) only [wr_id] at c_231; done)
                                                   | (try simp (discharger := omega) only [wr_id] at c_231
                                                      exfalso
                                                      first | omega | exact c_231 trivial)
                                                   | (try simp (discharger := omega) only [wr_id] at c_231
                                                      refine R_iconst dX5_measure_234 ?_
                                                      refine R_aload_n dX5_measure_235 rfl rfl ?_
                                                      refine R_getA fRX5_48 dX5_measure_236 rfl (Nat.lt_of_lt_of_le (Nat.le_of_ble_eq_true rfl) hnx) rfl ?_
                                                      refine R_iload_n dX5_measure_239 rfl rfl ?_
                                                      refine R_iaload (k := i) dX5_measure_240 rfl (Nat.lt_of_lt_of_le (Nat.le_of_ble_eq_true rfl) hnx) (by omega) (by omega) (by decide) ?_
                                                      refine R_imul dX5_measure_241 ?_
                                                      refine R_goto (tgt := 251) dX5_measure_242 (by decide) ?_
                                                      refine R_iastore (k := i + 1) dX5_measure_251 rfl (Nat.lt_of_lt_of_le (Nat.le_of_ble_eq_true rfl) hnx) (by omega) (by omega) (by decide) ?_
                                                      refine R_iinc dX5_measure_252 rfl (Nat.le_of_ble_eq_true rfl) ?_
                                                      refine R_goto (tgt := 43) dX5_measure_255 (by decide) ?_
                                                      refine step hi2 _ (fun p hp => ?_) (fun p h1 h2 k hk => ?_) ?_ ?_ ?_ ?_ ?_ _ _
                                                      · rw [up2_ne _ _ _ (by omega), up2_ne _ _ _ (by omega), up2_ne _ _ _ (by omega), up2_ne _ _ _ (by omega), up2_ne _ _ _ (by omega)]
                                                      · simp only [up2_at]
                                                        rw [if_neg (by omega), if_neg (by omega), if_neg (by omega), if_neg (by omega), if_neg (by omega)]
                                                      · simp [up2_at, fW]
                                                        first | (rw [if_pos (by omega)]; rw [q1, show (2 : Int) = ((2 : Nat) : Int) from rfl, bDivN (by omega) (by omega) (by omega)]; done) | (rw [if_neg (by omega)]; exact q1)
                                                      · simp [up2_at, fH]
                                                        first | (rw [if_pos (by omega)]; rw [q2, show (2 : Int) = ((2 : Nat) : Int) from rfl, bDivN (by omega) (by omega) (by omega)]; done) | (rw [if_neg (by omega)]; exact q2)
                                                      · simp [up2_at, fP]
                                                        first | (rw [if_pos (by omega)]; (try rfl); done) | (rw [if_neg (by omega)]; exact q3)
                                                      · simp [up2_at, fL]
                                                        rw [q4]
                                                        first | (rw [if_pos (by omega)]; rfl) | (rw [if_neg (by omega), if_pos (by omega)]; rfl) | (rw [if_neg (by omega), if_neg (by omega), if_pos (by omega), q5]) | (rw [if_neg (by omega), if_neg (by omega), if_neg (by omega)]; rfl)
                                                      · simp [up2_at, fS]
                                                        first | (rw [if_pos (by omega), q5]; rfl) | (rw [if_neg (by omega)]; exact q5)))
                                            · first
                                              | (simp (discharger := omega) only [wr_id] at c_193; done)
                                              | (try simp (discharger := omega) only [wr_id] at c_193
                                                 exfalso
                                                 first | omega | exact c_193 trivial)
                                              | (try simp (discharger := omega) only [wr_id] at c_193
                                                 refine R_aload_n dX5_measure_196 rfl rfl ?_
                                                 refine R_getA fRX5_48 dX5_measure_197 rfl (Nat.lt_of_lt_of_le (Nat.le_of_ble_eq_true rfl) hnx) rfl ?_
                                                 refine R_iload_n dX5_measure_200 rfl rfl ?_
                                                 refine R_iaload (k := i) dX5_measure_201 rfl (Nat.lt_of_lt_of_le (Nat.le_of_ble_eq_true rfl) hnx) (by omega) (by omega) (by decide) ?_
                                                 refine R_goto (tgt := 206) dX5_measure_202 (by decide) ?_
                                                 refine R_istore_n dX5_measure_206 rfl (Nat.le_of_ble_eq_true rfl) ?_
                                                 refine R_aload_n dX5_measure_207 rfl rfl ?_
                                                 refine R_getA fRX5_45 dX5_measure_208 rfl (Nat.lt_of_lt_of_le (Nat.le_of_ble_eq_true rfl) hnx) rfl ?_
                                                 refine R_iload_n dX5_measure_211 rfl rfl ?_
                                                 refine R_iconst dX5_measure_212 ?_
                                                 refine R_iadd dX5_measure_213 ?_
                                                 refine R_aload_n dX5_measure_214 rfl rfl ?_
                                                 refine R_getA fRX5_45 dX5_measure_215 rfl (Nat.lt_of_lt_of_le (Nat.le_of_ble_eq_true rfl) hnx) rfl ?_
                                                 refine R_iload_n dX5_measure_218 rfl rfl ?_
                                                 refine R_iaload (k := i) dX5_measure_219 rfl (Nat.lt_of_lt_of_le (Nat.le_of_ble_eq_true rfl) hnx) (by omega) (by omega) (by decide) ?_
                                                 refine R_iload_n dX5_measure_220 rfl rfl ?_
                                                 refine R_iadd dX5_measure_221 ?_
                                                 refine R_iastore (k := i + 1) dX5_measure_222 rfl (Nat.lt_of_lt_of_le (Nat.le_of_ble_eq_true rfl) hnx) (by omega) (by omega) (by decide) ?_
                                                 refine R_aload_n dX5_measure_223 rfl rfl ?_
                                                 refine R_getA fRX5_48 dX5_measure_224 rfl (Nat.lt_of_lt_of_le (Nat.le_of_ble_eq_true rfl) hnx) rfl ?_
                                                 refine R_iload_n dX5_measure_227 rfl rfl ?_
                                                 refine R_iconst dX5_measure_228 ?_
                                                 refine R_iadd dX5_measure_229 ?_
                                                 refine R_iload_n dX5_measure_230 rfl rfl ?_
                                                 refine R_if_eq (tgt := 245) dX5_measure_231 (by decide) (fun c_231 => ?_) (fun c_231 => ?_)
                                                 · first
                                                   | (simp (discharger := omega) only [wr_id] at c_231; done)
                                                   | (try simp (discharger := omega) only [wr_id] at c_231
                                                      exfalso
                                                      first | omega | exact c_231 trivial)
                                                   | (try simp (discharger := omega) only [wr_id] at c_231
                                                      refine R_aload_n dX5_measure_245 rfl rfl ?_
                                                      refine R_getA fRX5_48 dX5_measure_246 rfl (Nat.lt_of_lt_of_le (Nat.le_of_ble_eq_true rfl) hnx) rfl ?_
                                                      refine R_iload_n dX5_measure_249 rfl rfl ?_
                                                      refine R_iaload (k := i) dX5_measure_250 rfl (Nat.lt_of_lt_of_le (Nat.le_of_ble_eq_true rfl) hnx) (by omega) (by omega) (by decide) ?_
                                                      refine R_iastore (k := i + 1) dX5_measure_251 rfl (Nat.lt_of_lt_of_le (Nat.le_of_ble_eq_true rfl) hnx) (by omega) (by omega) (by decide) ?_
                                                      refine R_iinc dX5_measure_252 rfl (Nat.le_of_ble_eq_true rfl) ?_
                                                      refine R_goto (tgt := 43) dX5_measure_255 (by decide) ?_
                                                      refine step hi2 _ (fun p hp => ?_) (fun p h1 h2 k hk => ?_) ?_ ?_ ?_ ?_ ?_ _ _
                                                      · rw [up2_ne _ _ _ (by omega), up2_ne _ _ _ (by omega), up2_ne _ _ _ (by omega), up2_ne _ _ _ (by omega), up2_ne _ _ _ (by omega)]
                                                      · simp only [up2_at]
                                                        rw [if_neg (by omega), if_neg (by omega), if_neg (by omega), if_neg (by omega), if_neg (by omega)]
                                                      · simp [up2_at, fW]
                                                        first | (rw [if_pos (by omega)]; rw [q1, show (2 : Int) = ((2 : Nat) : Int) from rfl, bDivN (by omega) (by omega) (by omega)]; done) | (rw [if_neg (by omega)]; exact q1)
                                                      · simp [up2_at, fH]
                                                        first | (rw [if_pos (by omega)]; rw [q2, show (2 : Int) = ((2 : Nat) : Int) from rfl, bDivN (by omega) (by omega) (by omega)]; done) | (rw [if_neg (by omega)]; exact q2)
                                                      · simp [up2_at, fP]
                                                        first | (rw [if_pos (by omega)]; (try rfl); done) | (rw [if_neg (by omega)]; exact q3)
                                                      · simp [up2_at, fL]
                                                        rw [q4]
                                                        first | (rw [if_pos (by omega)]; rfl) | (rw [if_neg (by omega), if_pos (by omega)]; rfl) | (rw [if_neg (by omega), if_neg (by omega), if_pos (by omega), q5]) | (rw [if_neg (by omega), if_neg (by omega), if_neg (by omega)]; rfl)
                                                      · simp [up2_at, fS]
                                                        first | (rw [if_pos (by omega), q5]; rfl) | (rw [if_neg (by omega)]; exact q5))
                                                 · first
                                                   | (simp (discharger := omega) only [wr_id] at c_231; done)
                                                   | (try simp (discharger := omega) only [wr_id] at c_231
                                                      exfalso
                                                      first | omega | exact c_231 trivial)
                                                   | (try simp (discharger := omega) only [wr_id] at c_231
                                                      refine R_iconst dX5_measure_234 ?_
                                                      refine R_aload_n dX5_measure_235 rfl rfl ?_
                                                      refine R_getA fRX5_48 dX5_measure_236 rfl (Nat.lt_of_lt_of_le (Nat.le_of_ble_eq_true rfl) hnx) rfl ?_
                                                      refine R_iload_n dX5_measure_239 rfl rfl ?_
                                                      refine R_iaload (k := i) dX5_measure_240 rfl (Nat.lt_of_lt_of_le (Nat.le_of_ble_eq_true rfl) hnx) (by omega) (by omega) (by decide) ?_
                                                      refine R_imul dX5_measure_241 ?_
                                                      refine R_goto (tgt := 251) dX5_measure_242 (by decide) ?_
                                                      refine R_iastore (k := i + 1) dX5_measure_251 rfl (Nat.lt_of_lt_of_le (Nat.le_of_ble_eq_true rfl) hnx) (by omega) (by omega) (by decide) ?_
                                                      refine R_iinc dX5_measure_252 rfl (Nat.le_of_ble_eq_true rfl) ?_
                                                      refine R_goto (tgt := 43) dX5_measure_255 (by decide) ?_
                                                      refine step hi2 _ (fun p hp => ?_) (fun p h1 h2 k hk => ?_) ?_ ?_ ?_ ?_ ?_ _ _
                                                      · rw [up2_ne _ _ _ (by omega), up2_ne _ _ _ (by omega), up2_ne _ _ _ (by omega), up2_ne _ _ _ (by omega), up2_ne _ _ _ (by omega)]
                                                      · simp only [up2_at]
                                                        rw [if_neg (by omega), if_neg (by omega), if_neg (by omega), if_neg (by omega), if_neg (by omega)]
                                                      · simp [up2_at, fW]
                                                        first | (rw [if_pos (by omega)]; rw [q1, show (2 : Int) = ((2 : Nat) : Int) from rfl, bDivN (by omega) (by omega) (by omega)]; done) | (rw [if_neg (by omega)]; exact q1)
                                                      · simp [up2_at, fH]
                                                        first | (rw [if_pos (by omega)]; rw [q2, show (2 : Int) = ((2 : Nat) : Int) from rfl, bDivN (by omega) (by omega) (by omega)]; done) | (rw [if_neg (by omega)]; exact q2)
                                                      · simp [up2_at, fP]
                                                        first | (rw [if_pos (by omega)]; (try rfl); done) | (rw [if_neg (by omega)]; exact q3)
                                                      · simp [up2_at, fL]
                                                        rw [q4]
                                                        first | (rw [if_pos (by omega)]; rfl) | (rw [if_neg (by omega), if_pos (by omega)]; rfl) | (rw [if_neg (by omega), if_neg (by omega), if_pos (by omega), q5]) | (rw [if_neg (by omega), if_neg (by omega), if_neg (by omega)]; rfl)
                                                      · simp [up2_at, fS]
                                                        first | (rw [if_pos (by omega), q5]; rfl) | (rw [if_neg (by omega)]; exact q5))))
                                       · first
                                         | (simp (discharger := omega) only [wr_id] at c_185; done)
                                         | (try simp (discharger := omega) only [wr_id] at c_185
                                            exfalso
                                            first | omega | exact c_185 trivial)
                                         | (try simp (discharger := omega) only [wr_id] at c_185
                                            refine R_iconst dX5_measure_188 ?_
                                            refine R_goto (tgt := 206) dX5_measure_189 (by decide) ?_
                                            refine R_istore_n dX5_measure_206 rfl (Nat.le_of_ble_eq_true rfl) ?_
                                            refine R_aload_n dX5_measure_207 rfl rfl ?_
                                            refine R_getA fRX5_45 dX5_measure_208 rfl (Nat.lt_of_lt_of_le (Nat.le_of_ble_eq_true rfl) hnx) rfl ?_
                                            refine R_iload_n dX5_measure_211 rfl rfl ?_
                                            refine R_iconst dX5_measure_212 ?_
                                            refine R_iadd dX5_measure_213 ?_
                                            refine R_aload_n dX5_measure_214 rfl rfl ?_
                                            refine R_getA fRX5_45 dX5_measure_215 rfl (Nat.lt_of_lt_of_le (Nat.le_of_ble_eq_true rfl) hnx) rfl ?_
                                            refine R_iload_n dX5_measure_218 rfl rfl ?_
                                            refine R_iaload (k := i) dX5_measure_219 rfl (Nat.lt_of_lt_of_le (Nat.le_of_ble_eq_true rfl) hnx) (by omega) (by omega) (by decide) ?_
                                            refine R_iload_n dX5_measure_220 rfl rfl ?_
                                            refine R_iadd dX5_measure_221 ?_
                                            refine R_iastore (k := i + 1) dX5_measure_222 rfl (Nat.lt_of_lt_of_le (Nat.le_of_ble_eq_true rfl) hnx) (by omega) (by omega) (by decide) ?_
                                            refine R_aload_n dX5_measure_223 rfl rfl ?_
                                            refine R_getA fRX5_48 dX5_measure_224 rfl (Nat.lt_of_lt_of_le (Nat.le_of_ble_eq_true rfl) hnx) rfl ?_
                                            refine R_iload_n dX5_measure_227 rfl rfl ?_
                                            refine R_iconst dX5_measure_228 ?_
                                            refine R_iadd dX5_measure_229 ?_
                                            refine R_iload_n dX5_measure_230 rfl rfl ?_
                                            refine R_if_eq (tgt := 245) dX5_measure_231 (by decide) (fun c_231 => ?_) (fun c_231 => ?_)
                                            · first
                                              | (simp (discharger := omega) only [wr_id] at c_231; done)
                                              | (try simp (discharger := omega) only [wr_id] at c_231
                                                 exfalso
                                                 first | omega | exact c_231 trivial)
                                              | (try simp (discharger := omega) only [wr_id] at c_231
                                                 refine R_aload_n dX5_measure_245 rfl rfl ?_
                                                 refine R_getA fRX5_48 dX5_measure_246 rfl (Nat.lt_of_lt_of_le (Nat.le_of_ble_eq_true rfl) hnx) rfl ?_
                                                 refine R_iload_n dX5_measure_249 rfl rfl ?_
                                                 refine R_iaload (k := i) dX5_measure_250 rfl (Nat.lt_of_lt_of_le (Nat.le_of_ble_eq_true rfl) hnx) (by omega) (by omega) (by decide) ?_
                                                 refine R_iastore (k := i + 1) dX5_measure_251 rfl (Nat.lt_of_lt_of_le (Nat.le_of_ble_eq_true rfl) hnx) (by omega) (by omega) (by decide) ?_
                                                 refine R_iinc dX5_measure_252 rfl (Nat.le_of_ble_eq_true rfl) ?_
                                                 refine R_goto (tgt := 43) dX5_measure_255 (by decide) ?_
                                                 refine step hi2 _ (fun p hp => ?_) (fun p h1 h2 k hk => ?_) ?_ ?_ ?_ ?_ ?_ _ _
                                                 · rw [up2_ne _ _ _ (by omega), up2_ne _ _ _ (by omega), up2_ne _ _ _ (by omega), up2_ne _ _ _ (by omega), up2_ne _ _ _ (by omega)]
                                                 · simp only [up2_at]
                                                   rw [if_neg (by omega), if_neg (by omega), if_neg (by omega), if_neg (by omega), if_neg (by omega)]
                                                 · simp [up2_at, fW]
                                                   first | (rw [if_pos (by omega)]; rw [q1, show (2 : Int) = ((2 : Nat) : Int) from rfl, bDivN (by omega) (by omega) (by omega)]; done) | (rw [if_neg (by omega)]; exact q1)
                                                 · simp [up2_at, fH]
                                                   first | (rw [if_pos (by omega)]; rw [q2, show (2 : Int) = ((2 : Nat) : Int) from rfl, bDivN (by omega) (by omega) (by omega)]; done) | (rw [if_neg (by omega)]; exact q2)
                                                 · simp [up2_at, fP]
                                                   first | (rw [if_pos (by omega)]; (try rfl); done) | (rw [if_neg (by omega)]; exact q3)
                                                 · simp [up2_at, fL]
                                                   rw [q4]
                                                   first | (rw [if_pos (by omega)]; rfl) | (rw [if_neg (by omega), if_pos (by omega)]; rfl) | (rw [if_neg (by omega), if_neg (by omega), if_pos (by omega), q5]) | (rw [if_neg (by omega), if_neg (by omega), if_neg (by omega)]; rfl)
                                                 · simp [up2_at, fS]
                                                   first | (rw [if_pos (by omega), q5]; rfl) | (rw [if_neg (by omega)]; exact q5))
                                            · first
                                              | (simp (discharger := omega) only [wr_id] at c_231; done)
                                              | (try simp (discharger := omega) only [wr_id] at c_231
                                                 exfalso
                                                 first | omega | exact c_231 trivial)
                                              | (try simp (discharger := omega) only [wr_id] at c_231
                                                 refine R_iconst dX5_measure_234 ?_
                                                 refine R_aload_n dX5_measure_235 rfl rfl ?_
                                                 refine R_getA fRX5_48 dX5_measure_236 rfl (Nat.lt_of_lt_of_le (Nat.le_of_ble_eq_true rfl) hnx) rfl ?_
                                                 refine R_iload_n dX5_measure_239 rfl rfl ?_
                                                 refine R_iaload (k := i) dX5_measure_240 rfl (Nat.lt_of_lt_of_le (Nat.le_of_ble_eq_true rfl) hnx) (by omega) (by omega) (by decide) ?_
                                                 refine R_imul dX5_measure_241 ?_
                                                 refine R_goto (tgt := 251) dX5_measure_242 (by decide) ?_
                                                 refine R_iastore (k := i + 1) dX5_measure_251 rfl (Nat.lt_of_lt_of_le (Nat.le_of_ble_eq_true rfl) hnx) (by omega) (by omega) (by decide) ?_
                                                 refine R_iinc dX5_measure_252 rfl (Nat.le_of_ble_eq_true rfl) ?_
                                                 refine R_goto (tgt := 43) dX5_measure_255 (by decide) ?_
                                                 refine step hi2 _ (fun p hp => ?_) (fun p h1 h2 k hk => ?_) ?_ ?_ ?_ ?_ ?_ _ _
                                                 · rw [up2_ne _ _ _ (by omega), up2_ne _ _ _ (by omega), up2_ne _ _ _ (by omega), up2_ne _ _ _ (by omega), up2_ne _ _ _ (by omega)]
                                                 · simp only [up2_at]
                                                   rw [if_neg (by omega), if_neg (by omega), if_neg (by omega), if_neg (by omega), if_neg (by omega)]
                                                 · simp [up2_at, fW]
                                                   first | (rw [if_pos (by omega)]; rw [q1, show (2 : Int) = ((2 : Nat) : Int) from rfl, bDivN (by omega) (by omega) (by omega)]; done) | (rw [if_neg (by omega)]; exact q1)
                                                 · simp [up2_at, fH]
                                                   first | (rw [if_pos (by omega)]; rw [q2, show (2 : Int) = ((2 : Nat) : Int) from rfl, bDivN (by omega) (by omega) (by omega)]; done) | (rw [if_neg (by omega)]; exact q2)
                                                 · simp [up2_at, fP]
                                                   first | (rw [if_pos (by omega)]; (try rfl); done) | (rw [if_neg (by omega)]; exact q3)
                                                 · simp [up2_at, fL]
                                                   rw [q4]
                                                   first | (rw [if_pos (by omega)]; rfl) | (rw [if_neg (by omega), if_pos (by omega)]; rfl) | (rw [if_neg (by omega), if_neg (by omega), if_pos (by omega), q5]) | (rw [if_neg (by omega), if_neg (by omega), if_neg (by omega)]; rfl)
                                                 · simp [up2_at, fS]
                                                   first | (rw [if_pos (by omega), q5]; rfl) | (rw [if_neg (by omega)]; exact q5))))
                                  · first
                                    | (simp (discharger := omega) only [wr_id] at c_171; done)
                                    | (try simp (discharger := omega) only [wr_id] at c_171
                                       exfalso
                                       first | omega | exact c_171 trivial)
                                    | (try simp (discharger := omega) only [wr_id] at c_171
                                       refine R_iconst dX5_measure_174 ?_
                                       refine R_goto (tgt := 206) dX5_measure_175 (by decide) ?_
                                       refine R_istore_n dX5_measure_206 rfl (Nat.le_of_ble_eq_true rfl) ?_
                                       refine R_aload_n dX5_measure_207 rfl rfl ?_
                                       refine R_getA fRX5_45 dX5_measure_208 rfl (Nat.lt_of_lt_of_le (Nat.le_of_ble_eq_true rfl) hnx) rfl ?_
                                       refine R_iload_n dX5_measure_211 rfl rfl ?_
                                       refine R_iconst dX5_measure_212 ?_
                                       refine R_iadd dX5_measure_213 ?_
                                       refine R_aload_n dX5_measure_214 rfl rfl ?_
                                       refine R_getA fRX5_45 dX5_measure_215 rfl (Nat.lt_of_lt_of_le (Nat.le_of_ble_eq_true rfl) hnx) rfl ?_
                                       refine R_iload_n dX5_measure_218 rfl rfl ?_
                                       refine R_iaload (k := i) dX5_measure_219 rfl (Nat.lt_of_lt_of_le (Nat.le_of_ble_eq_true rfl) hnx) (by omega) (by omega) (by decide) ?_
                                       refine R_iload_n dX5_measure_220 rfl rfl ?_
                                       refine R_iadd dX5_measure_221 ?_
                                       refine R_iastore (k := i + 1) dX5_measure_222 rfl (Nat.lt_of_lt_of_le (Nat.le_of_ble_eq_true rfl) hnx) (by omega) (by omega) (by decide) ?_
                                       refine R_aload_n dX5_measure_223 rfl rfl ?_
                                       refine R_getA fRX5_48 dX5_measure_224 rfl (Nat.lt_of_lt_of_le (Nat.le_of_ble_eq_true rfl) hnx) rfl ?_
                                       refine R_iload_n dX5_measure_227 rfl rfl ?_
                                       refine R_iconst dX5_measure_228 ?_
                                       refine R_iadd dX5_measure_229 ?_
                                       refine R_iload_n dX5_measure_230 rfl rfl ?_
                                       refine R_if_eq (tgt := 245) dX5_measure_231 (by decide) (fun c_231 => ?_) (fun c_231 => ?_)
                                       · first
                                         | (simp (discharger := omega) only [wr_id] at c_231; done)
                                         | (try simp (discharger := omega) only [wr_id] at c_231
                                            exfalso
                                            first | omega | exact c_231 trivial)
                                         | (try simp (discharger := omega) only [wr_id] at c_231
                                            refine R_aload_n dX5_measure_245 rfl rfl ?_
                                            refine R_getA fRX5_48 dX5_measure_246 rfl (Nat.lt_of_lt_of_le (Nat.le_of_ble_eq_true rfl) hnx) rfl ?_
                                            refine R_iload_n dX5_measure_249 rfl rfl ?_
                                            refine R_iaload (k := i) dX5_measure_250 rfl (Nat.lt_of_lt_of_le (Nat.le_of_ble_eq_true rfl) hnx) (by omega) (by omega) (by decide) ?_
                                            refine R_iastore (k := i + 1) dX5_measure_251 rfl (Nat.lt_of_lt_of_le (Nat.le_of_ble_eq_true rfl) hnx) (by omega) (by omega) (by decide) ?_
                                            refine R_iinc dX5_measure_252 rfl (Nat.le_of_ble_eq_true rfl) ?_
                                            refine R_goto (tgt := 43) dX5_measure_255 (by decide) ?_
                                            refine step hi2 _ (fun p hp => ?_) (fun p h1 h2 k hk => ?_) ?_ ?_ ?_ ?_ ?_ _ _
                                            · rw [up2_ne _ _ _ (by omega), up2_ne _ _ _ (by omega), up2_ne _ _ _ (by omega), up2_ne _ _ _ (by omega), up2_ne _ _ _ (by omega)]
                                            · simp only [up2_at]
                                              rw [if_neg (by omega), if_neg (by omega), if_neg (by omega), if_neg (by omega), if_neg (by omega)]
                                            · simp [up2_at, fW]
                                              first | (rw [if_pos (by omega)]; rw [q1, show (2 : Int) = ((2 : Nat) : Int) from rfl, bDivN (by omega) (by omega) (by omega)]; done) | (rw [if_neg (by omega)]; exact q1)
                                            · simp [up2_at, fH]
                                              first | (rw [if_pos (by omega)]; rw [q2, show (2 : Int) = ((2 : Nat) : Int) from rfl, bDivN (by omega) (by omega) (by omega)]; done) | (rw [if_neg (by omega)]; exact q2)
                                            · simp [up2_at, fP]
                                              first | (rw [if_pos (by omega)]; (try rfl); done) | (rw [if_neg (by omega)]; exact q3)
                                            · simp [up2_at, fL]
                                              rw [q4]
                                              first | (rw [if_pos (by omega)]; rfl) | (rw [if_neg (by omega), if_pos (by omega)]; rfl) | (rw [if_neg (by omega), if_neg (by omega), if_pos (by omega), q5]) | (rw [if_neg (by omega), if_neg (by omega), if_neg (by omega)]; rfl)
                                            · simp [up2_at, fS]
                                              first | (rw [if_pos (by omega), q5]; rfl) | (rw [if_neg (by omega)]; exact q5))
                                       · first
                                         | (simp (discharger := omega) only [wr_id] at c_231; done)
                                         | (try simp (discharger := omega) only [wr_id] at c_231
                                            exfalso
                                            first | omega | exact c_231 trivial)
                                         | (try simp (discharger := omega) only [wr_id] at c_231
                                            refine R_iconst dX5_measure_234 ?_
                                            refine R_aload_n dX5_measure_235 rfl rfl ?_
                                            refine R_getA fRX5_48 dX5_measure_236 rfl (Nat.lt_of_lt_of_le (Nat.le_of_ble_eq_true rfl) hnx) rfl ?_
                                            refine R_iload_n dX5_measure_239 rfl rfl ?_
                                            refine R_iaload (k := i) dX5_measure_240 rfl (Nat.lt_of_lt_of_le (Nat.le_of_ble_eq_true rfl) hnx) (by omega) (by omega) (by decide) ?_
                                            refine R_imul dX5_measure_241 ?_
                                            refine R_goto (tgt := 251) dX5_measure_242 (by decide) ?_
                                            refine R_iastore (k := i + 1) dX5_measure_251 rfl (Nat.lt_of_lt_of_le (Nat.le_of_ble_eq_true rfl) hnx) (by omega) (by omega) (by decide) ?_
                                            refine R_iinc dX5_measure_252 rfl (Nat.le_of_ble_eq_true rfl) ?_
                                            refine R_goto (tgt := 43) dX5_measure_255 (by decide) ?_
                                            refine step hi2 _ (fun p hp => ?_) (fun p h1 h2 k hk => ?_) ?_ ?_ ?_ ?_ ?_ _ _
                                            · rw [up2_ne _ _ _ (by omega), up2_ne _ _ _ (by omega), up2_ne _ _ _ (by omega), up2_ne _ _ _ (by omega), up2_ne _ _ _ (by omega)]
                                            · simp only [up2_at]
                                              rw [if_neg (by omega), if_neg (by omega), if_neg (by omega), if_neg (by omega), if_neg (by omega)]
                                            · simp [up2_at, fW]
                                              first | (rw [if_pos (by omega)]; rw [q1, show (2 : Int) = ((2 : Nat) : Int) from rfl, bDivN (by omega) (by omega) (by omega)]; done) | (rw [if_neg (by omega)]; exact q1)
                                            · simp [up2_at, fH]
                                              first | (rw [if_pos (by omega)]; rw [q2, show (2 : Int) = ((2 : Nat) : Int) from rfl, bDivN (by omega) (by omega) (by omega)]; done) | (rw [if_neg (by omega)]; exact q2)
                                            · simp [up2_at, fP]
                                              first | (rw [if_pos (by omega)]; (try rfl); done) | (rw [if_neg (by omega)]; exact q3)
                                            · simp [up2_at, fL]
                                              rw [q4]
                                              first | (rw [if_pos (by omega)]; rfl) | (rw [if_neg (by omega), if_pos (by omega)]; rfl) | (rw [if_neg (by omega), if_neg (by omega), if_pos (by omega), q5]) | (rw [if_neg (by omega), if_neg (by omega), if_neg (by omega)]; rfl)
                                            · simp [up2_at, fS]
                                              first | (rw [if_pos (by omega), q5]; rfl) | (rw [if_neg (by omega)]; exact q5)))))
                        · first
                          | (simp (discharger := omega) only [wr_id] at c_140; done)
                          | (try simp (discharger := omega) only [wr_id] at c_140
                             exfalso
                             first | omega | exact c_140 trivial)
                          | (try simp (discharger := omega) only [wr_id] at c_140
                             refine R_iconst dX5_measure_143 ?_
                             refine R_goto (tgt := 153) dX5_measure_144 (by decide) ?_
                             refine R_iastore (k := i + 1) dX5_measure_153 rfl (Nat.lt_of_lt_of_le (Nat.le_of_ble_eq_true rfl) hnx) (by omega) (by omega) (by decide) ?_
                             refine R_aload_n dX5_measure_154 rfl rfl ?_
                             refine R_getA fRX5_24 dX5_measure_155 rfl (Nat.lt_of_lt_of_le (Nat.le_of_ble_eq_true rfl) hnx) rfl ?_
                             refine R_iload_n dX5_measure_158 rfl rfl ?_
                             refine R_iaload (k := i) dX5_measure_159 rfl (Nat.lt_of_lt_of_le (Nat.le_of_ble_eq_true rfl) hnx) (by omega) (by omega) (by decide) ?_
                             refine R_iconst dX5_measure_160 ?_
                             dsimp only
                             rw [up2_ne _ _ _ (by decide), up2_ne _ _ _ (by decide), up2_ne _ _ _ (by decide), e6]
                             refine R_icmp_eq (tgt := 174) dX5_measure_161 (by decide) (fun c_161 => ?_) (fun c_161 => ?_)
                             · first
                               | (simp (discharger := omega) only [wr_id] at c_161; done)
                               | (try simp (discharger := omega) only [wr_id] at c_161
                                  exfalso
                                  first | omega | exact c_161 trivial)
                               | (try simp (discharger := omega) only [wr_id] at c_161
                                  refine R_iconst dX5_measure_174 ?_
                                  refine R_goto (tgt := 206) dX5_measure_175 (by decide) ?_
                                  refine R_istore_n dX5_measure_206 rfl (Nat.le_of_ble_eq_true rfl) ?_
                                  refine R_aload_n dX5_measure_207 rfl rfl ?_
                                  refine R_getA fRX5_45 dX5_measure_208 rfl (Nat.lt_of_lt_of_le (Nat.le_of_ble_eq_true rfl) hnx) rfl ?_
                                  refine R_iload_n dX5_measure_211 rfl rfl ?_
                                  refine R_iconst dX5_measure_212 ?_
                                  refine R_iadd dX5_measure_213 ?_
                                  refine R_aload_n dX5_measure_214 rfl rfl ?_
                                  refine R_getA fRX5_45 dX5_measure_215 rfl (Nat.lt_of_lt_of_le (Nat.le_of_ble_eq_true rfl) hnx) rfl ?_
                                  refine R_iload_n dX5_measure_218 rfl rfl ?_
                                  refine R_iaload (k := i) dX5_measure_219 rfl (Nat.lt_of_lt_of_le (Nat.le_of_ble_eq_true rfl) hnx) (by omega) (by omega) (by decide) ?_
                                  refine R_iload_n dX5_measure_220 rfl rfl ?_
                                  refine R_iadd dX5_measure_221 ?_
                                  refine R_iastore (k := i + 1) dX5_measure_222 rfl (Nat.lt_of_lt_of_le (Nat.le_of_ble_eq_true rfl) hnx) (by omega) (by omega) (by decide) ?_
                                  refine R_aload_n dX5_measure_223 rfl rfl ?_
                                  refine R_getA fRX5_48 dX5_measure_224 rfl (Nat.lt_of_lt_of_le (Nat.le_of_ble_eq_true rfl) hnx) rfl ?_
                                  refine R_iload_n dX5_measure_227 rfl rfl ?_
                                  refine R_iconst dX5_measure_228 ?_
                                  refine R_iadd dX5_measure_229 ?_
                                  refine R_iload_n dX5_measure_230 rfl rfl ?_
                                  refine R_if_eq (tgt := 245) dX5_measure_231 (by decide) (fun c_231 => ?_) (fun c_231 => ?_)
                                  · first
                                    | (simp (discharger := omega) only [wr_id] at c_231; done)
                                    | (try simp (discharger := omega) only [wr_id] at c_231
                                       exfalso
                                       first | omega | exact c_231 trivial)
                                    | (try simp (discharger := omega) only [wr_id] at c_231
                                       refine R_aload_n dX5_measure_245 rfl rfl ?_
                                       refine R_getA fRX5_48 dX5_measure_246 rfl (Nat.lt_of_lt_of_le (Nat.le_of_ble_eq_true rfl) hnx) rfl ?_
                                       refine R_iload_n dX5_measure_249 rfl rfl ?_
                                       refine R_iaload (k := i) dX5_measure_250 rfl (Nat.lt_of_lt_of_le (Nat.le_of_ble_eq_true rfl) hnx) (by omega) (by omega) (by decide) ?_
                                       refine R_iastore (k := i + 1) dX5_measure_251 rfl (Nat.lt_of_lt_of_le (Nat.le_of_ble_eq_true rfl) hnx) (by omega) (by omega) (by decide) ?_
                                       refine R_iinc dX5_measure_252 rfl (Nat.le_of_ble_eq_true rfl) ?_
                                       refine R_goto (tgt := 43) dX5_measure_255 (by decide) ?_
                                       refine step hi2 _ (fun p hp => ?_) (fun p h1 h2 k hk => ?_) ?_ ?_ ?_ ?_ ?_ _ _
                                       · rw [up2_ne _ _ _ (by omega), up2_ne _ _ _ (by omega), up2_ne _ _ _ (by omega), up2_ne _ _ _ (by omega), up2_ne _ _ _ (by omega)]
                                       · simp only [up2_at]
                                         rw [if_neg (by omega), if_neg (by omega), if_neg (by omega), if_neg (by omega), if_neg (by omega)]
                                       · simp [up2_at, fW]
                                         first | (rw [if_pos (by omega)]; rw [q1, show (2 : Int) = ((2 : Nat) : Int) from rfl, bDivN (by omega) (by omega) (by omega)]; done) | (rw [if_neg (by omega)]; exact q1)
                                       · simp [up2_at, fH]
                                         first | (rw [if_pos (by omega)]; rw [q2, show (2 : Int) = ((2 : Nat) : Int) from rfl, bDivN (by omega) (by omega) (by omega)]; done) | (rw [if_neg (by omega)]; exact q2)
                                       · simp [up2_at, fP]
                                         first | (rw [if_pos (by omega)]; (try rfl); done) | (rw [if_neg (by omega)]; exact q3)
                                       · simp [up2_at, fL]
                                         rw [q4]
                                         first | (rw [if_pos (by omega)]; rfl) | (rw [if_neg (by omega), if_pos (by omega)]; rfl) | (rw [if_neg (by omega), if_neg (by omega), if_pos (by omega), q5]) | (rw [if_neg (by omega), if_neg (by omega), if_neg (by omega)]; rfl)
                                       · simp [up2_at, fS]
                                         first | (rw [if_pos (by omega), q5]; rfl) | (rw [if_neg (by omega)]; exact q5))
                                  · first
                                    | (simp (discharger := omega) only [wr_id] at c_231; done)
                                    | (try simp (discharger := omega) only [wr_id] at c_231
                                       exfalso
                                       first | omega | exact c_231 trivial)
                                    | (try simp (discharger := omega) only [wr_id] at c_231
                                       refine R_iconst dX5_measure_234 ?_
                                       refine R_aload_n dX5_measure_235 rfl rfl ?_
                                       refine R_getA fRX5_48 dX5_measure_236 rfl (Nat.lt_of_lt_of_le (Nat.le_of_ble_eq_true rfl) hnx) rfl ?_
                                       refine R_iload_n dX5_measure_239 rfl rfl ?_
                                       refine R_iaload (k := i) dX5_measure_240 rfl (Nat.lt_of_lt_of_le (Nat.le_of_ble_eq_true rfl) hnx) (by omega) (by omega) (by decide) ?_
                                       refine R_imul dX5_measure_241 ?_
                                       refine R_goto (tgt := 251) dX5_measure_242 (by decide) ?_
                                       refine R_iastore (k := i + 1) dX5_measure_251 rfl (Nat.lt_of_lt_of_le (Nat.le_of_ble_eq_true rfl) hnx) (by omega) (by omega) (by decide) ?_
                                       refine R_iinc dX5_measure_252 rfl (Nat.le_of_ble_eq_true rfl) ?_
                                       refine R_goto (tgt := 43) dX5_measure_255 (by decide) ?_
                                       refine step hi2 _ (fun p hp => ?_) (fun p h1 h2 k hk => ?_) ?_ ?_ ?_ ?_ ?_ _ _
                                       · rw [up2_ne _ _ _ (by omega), up2_ne _ _ _ (by omega), up2_ne _ _ _ (by omega), up2_ne _ _ _ (by omega), up2_ne _ _ _ (by omega)]
                                       · simp only [up2_at]
                                         rw [if_neg (by omega), if_neg (by omega), if_neg (by omega), if_neg (by omega), if_neg (by omega)]
                                       · simp [up2_at, fW]
                                         first | (rw [if_pos (by omega)]; rw [q1, show (2 : Int) = ((2 : Nat) : Int) from rfl, bDivN (by omega) (by omega) (by omega)]; done) | (rw [if_neg (by omega)]; exact q1)
                                       · simp [up2_at, fH]
                                         first | (rw [if_pos (by omega)]; rw [q2, show (2 : Int) = ((2 : Nat) : Int) from rfl, bDivN (by omega) (by omega) (by omega)]; done) | (rw [if_neg (by omega)]; exact q2)
                                       · simp [up2_at, fP]
                                         first | (rw [if_pos (by omega)]; (try rfl); done) | (rw [if_neg (by omega)]; exact q3)
                                       · simp [up2_at, fL]
                                         rw [q4]
                                         first | (rw [if_pos (by omega)]; rfl) | (rw [if_neg (by omega), if_pos (by omega)]; rfl) | (rw [if_neg (by omega), if_neg (by omega), if_pos (by omega), q5]) | (rw [if_neg (by omega), if_neg (by omega), if_neg (by omega)]; rfl)
                                       · simp [up2_at, fS]
                                         first | (rw [if_pos (by omega), q5]; rfl) | (rw [if_neg (by omega)]; exact q5)))
                             · first
                               | (simp (discharger := omega) only [wr_id] at c_161; done)
                               | (try simp (discharger := omega) only [wr_id] at c_161
                                  exfalso
                                  first | omega | exact c_161 trivial)
                               | (try simp (discharger := omega) only [wr_id] at c_161
                                  refine R_aload_n dX5_measure_164 rfl rfl ?_
                                  refine R_getA fRX5_24 dX5_measure_165 rfl (Nat.lt_of_lt_of_le (Nat.le_of_ble_eq_true rfl) hnx) rfl ?_
                                  refine R_iload_n dX5_measure_168 rfl rfl ?_
                                  refine R_iaload (k := i) dX5_measure_169 rfl (Nat.lt_of_lt_of_le (Nat.le_of_ble_eq_true rfl) hnx) (by omega) (by omega) (by decide) ?_
                                  refine R_iconst dX5_measure_170 ?_
                                  dsimp only
                                  rw [up2_ne _ _ _ (by decide), up2_ne _ _ _ (by decide), up2_ne _ _ _ (by decide), e6]
                                  refine R_icmp_ne (tgt := 178) dX5_measure_171 (by decide) (fun c_171 => ?_) (fun c_171 => ?_)
                                  · first
                                    | (simp (discharger := omega) only [wr_id] at c_171; done)
                                    | (try simp (discharger := omega) only [wr_id] at c_171
                                       exfalso
                                       first | omega | exact c_171 trivial)
                                    | (try simp (discharger := omega) only [wr_id] at c_171
                                       refine R_aload_n dX5_measure_178 rfl rfl ?_
                                       refine R_getA fRX5_24 dX5_measure_179 rfl (Nat.lt_of_lt_of_le (Nat.le_of_ble_eq_true rfl) hnx) rfl ?_
                                       refine R_iload_n dX5_measure_182 rfl rfl ?_
                                       refine R_iaload (k := i) dX5_measure_183 rfl (Nat.lt_of_lt_of_le (Nat.le_of_ble_eq_true rfl) hnx) (by omega) (by omega) (by decide) ?_
                                       refine R_iconst dX5_measure_184 ?_
                                       dsimp only
                                       rw [up2_ne _ _ _ (by decide), up2_ne _ _ _ (by decide), up2_ne _ _ _ (by decide), e6]
                                       refine R_icmp_ne (tgt := 192) dX5_measure_185 (by decide) (fun c_185 => ?_) (fun c_185 => ?_)
                                       · first
                                         | (simp (discharger := omega) only [wr_id] at c_185; done)
                                         | (try simp (discharger := omega) only [wr_id] at c_185
                                            exfalso
                                            first | omega | exact c_185 trivial)
                                         | (try simp (discharger := omega) only [wr_id] at c_185
                                            refine R_iload_n dX5_measure_192 rfl rfl ?_
                                            refine R_if_eq (tgt := 205) dX5_measure_193 (by decide) (fun c_193 => ?_) (fun c_193 => ?_)
                                            · first
                                              | (simp (discharger := omega) only [wr_id] at c_193; done)
                                              | (try simp (discharger := omega) only [wr_id] at c_193
                                                 exfalso
                                                 first | omega | exact c_193 trivial)
                                              | (try simp (discharger := omega) only [wr_id] at c_193
                                                 refine R_iconst dX5_measure_205 ?_
                                                 refine R_istore_n dX5_measure_206 rfl (Nat.le_of_ble_eq_true rfl) ?_
                                                 refine R_aload_n dX5_measure_207 rfl rfl ?_
                                                 refine R_getA fRX5_45 dX5_measure_208 rfl (Nat.lt_of_lt_of_le (Nat.le_of_ble_eq_true rfl) hnx) rfl ?_
                                                 refine R_iload_n dX5_measure_211 rfl rfl ?_
                                                 refine R_iconst dX5_measure_212 ?_
                                                 refine R_iadd dX5_measure_213 ?_
                                                 refine R_aload_n dX5_measure_214 rfl rfl ?_
                                                 refine R_getA fRX5_45 dX5_measure_215 rfl (Nat.lt_of_lt_of_le (Nat.le_of_ble_eq_true rfl) hnx) rfl ?_
                                                 refine R_iload_n dX5_measure_218 rfl rfl ?_
                                                 refine R_iaload (k := i) dX5_measure_219 rfl (Nat.lt_of_lt_of_le (Nat.le_of_ble_eq_true rfl) hnx) (by omega) (by omega) (by decide) ?_
                                                 refine R_iload_n dX5_measure_220 rfl rfl ?_
                                                 refine R_iadd dX5_measure_221 ?_
                                                 refine R_iastore (k := i + 1) dX5_measure_222 rfl (Nat.lt_of_lt_of_le (Nat.le_of_ble_eq_true rfl) hnx) (by omega) (by omega) (by decide) ?_
                                                 refine R_aload_n dX5_measure_223 rfl rfl ?_
                                                 refine R_getA fRX5_48 dX5_measure_224 rfl (Nat.lt_of_lt_of_le (Nat.le_of_ble_eq_true rfl) hnx) rfl ?_
                                                 refine R_iload_n dX5_measure_227 rfl rfl ?_
                                                 refine R_iconst dX5_measure_228 ?_
                                                 refine R_iadd dX5_measure_229 ?_
                                                 refine R_iload_n dX5_measure_230 rfl rfl ?_
                                                 refine R_if_eq (tgt := 245) dX5_measure_231 (by decide) (fun c_231 => ?_) (fun c_231 => ?_)
                                                 · first
                                                   | (simp (discharger := omega) only [wr_id] at c_231; done)
                                                   | (try simp (discharger := omega) only [wr_id] at c_231
                                                      exfalso
                                                      first | omega | exact c_231 trivial)
                                                   | (try simp (discharger := omega) only [wr_id] at c_231
                                                      refine R_aload_n dX5_measure_245 rfl rfl ?_
                                                      refine R_getA fRX5_48 dX5_measure_246 rfl (Nat.lt_of_lt_of_le (Nat.le_of_ble_eq_true rfl) hnx) rfl ?_
                                                      refine R_iload_n dX5_measure_249 rfl rfl ?_
                                                      refine R_iaload (k := i) dX5_measure_250 rfl (Nat.lt_of_lt_of_le (Nat.le_of_ble_eq_true rfl) hnx) (by omega) (by omega) (by decide) ?_
                                                      refine R_iastore (k := i + 1) dX5_measure_251 rfl (Nat.lt_of_lt_of_le (Nat.le_of_ble_eq_true rfl) hnx) (by omega) (by omega) (by decide) ?_
                                                      refine R_iinc dX5_measure_252 rfl (Nat.le_of_ble_eq_true rfl) ?_
                                                      refine R_goto (tgt := 43) dX5_measure_255 (by decide) ?_
                                                      refine step hi2 _ (fun p hp => ?_) (fun p h1 h2 k hk => ?_) ?_ ?_ ?_ ?_ ?_ _ _
                                                      · rw [up2_ne _ _ _ (by omega), up2_ne _ _ _ (by omega), up2_ne _ _ _ (by omega), up2_ne _ _ _ (by omega), up2_ne _ _ _ (by omega)]
                                                      · simp only [up2_at]
                                                        rw [if_neg (by omega), if_neg (by omega), if_neg (by omega), if_neg (by omega), if_neg (by omega)]
                                                      · simp [up2_at, fW]
                                                        first | (rw [if_pos (by omega)]; rw [q1, show (2 : Int) = ((2 : Nat) : Int) from rfl, bDivN (by omega) (by omega) (by omega)]; done) | (rw [if_neg (by omega)]; exact q1)
                                                      · simp [up2_at, fH]
                                                        first | (rw [if_pos (by omega)]; rw [q2, show (2 : Int) = ((2 : Nat) : Int) from rfl, bDivN (by omega) (by omega) (by omega)]; done) | (rw [if_neg (by omega)]; exact q2)
                                                      · simp [up2_at, fP]
                                                        first | (rw [if_pos (by omega)]; (try rfl); done) | (rw [if_neg (by omega)]; exact q3)
                                                      · simp [up2_at, fL]
                                                        rw [q4]
                                                        first | (rw [if_pos (by omega)]; rfl) | (rw [if_neg (by omega), if_pos (by omega)]; rfl) | (rw [if_neg (by omega), if_neg (by omega), if_pos (by omega), q5]) | (rw [if_neg (by omega), if_neg (by omega), if_neg (by omega)]; rfl)
                                                      · simp [up2_at, fS]
                                                        first | (rw [if_pos (by omega), q5]; rfl) | (rw [if_neg (by omega)]; exact q5))
                                                 · first
                                                   | (simp (discharger := omega) only [wr_id] at c_231; done)
                                                   | (try simp (discharger := omega) only [wr_id] at c_231
                                                      exfalso
                                                      first | omega | exact c_231 trivial)
                                                   | (try simp (discharger := omega) only [wr_id] at c_231
                                                      refine R_iconst dX5_measure_234 ?_
                                                      refine R_aload_n dX5_measure_235 rfl rfl ?_
                                                      refine R_getA fRX5_48 dX5_measure_236 rfl (Nat.lt_of_lt_of_le (Nat.le_of_ble_eq_true rfl) hnx) rfl ?_
                                                      refine R_iload_n dX5_measure_239 rfl rfl ?_
                                                      refine R_iaload (k := i) dX5_measure_240 rfl (Nat.lt_of_lt_of_le (Nat.le_of_ble_eq_true rfl) hnx) (by omega) (by omega) (by decide) ?_
                                                      refine R_imul dX5_measure_241 ?_
                                                      refine R_goto (tgt := 251) dX5_measure_242 (by decide) ?_
                                                      refine R_iastore (k := i + 1) dX5_measure_251 rfl (Nat.lt_of_lt_of_le (Nat.le_of_ble_eq_true rfl) hnx) (by omega) (by omega) (by decide) ?_
                                                      refine R_iinc dX5_measure_252 rfl (Nat.le_of_ble_eq_true rfl) ?_
                                                      refine R_goto (tgt := 43) dX5_measure_255 (by decide) ?_
                                                      refine step hi2 _ (fun p hp => ?_) (fun p h1 h2 k hk => ?_) ?_ ?_ ?_ ?_ ?_ _ _
                                                      · rw [up2_ne _ _ _ (by omega), up2_ne _ _ _ (by omega), up2_ne _ _ _ (by omega), up2_ne _ _ _ (by omega), up2_ne _ _ _ (by omega)]
                                                      · simp only [up2_at]
                                                        rw [if_neg (by omega), if_neg (by omega), if_neg (by omega), if_neg (by omega), if_neg (by omega)]
                                                      · simp [up2_at, fW]
                                                        first | (rw [if_pos (by omega)]; rw [q1, show (2 : Int) = ((2 : Nat) : Int) from rfl, bDivN (by omega) (by omega) (by omega)]; done) | (rw [if_neg (by omega)]; exact q1)
                                                      · simp [up2_at, fH]
                                                        first | (rw [if_pos (by omega)]; rw [q2, show (2 : Int) = ((2 : Nat) : Int) from rfl, bDivN (by omega) (by omega) (by omega)]; done) | (rw [if_neg (by omega)]; exact q2)
                                                      · simp [up2_at, fP]
                                                        first | (rw [if_pos (by omega)]; (try rfl); done) | (rw [if_neg (by omega)]; exact q3)
                                                      · simp [up2_at, fL]
                                                        rw [q4]
                                                        first | (rw [if_pos (by omega)]; rfl) | (rw [if_neg (by omega), if_pos (by omega)]; rfl) | (rw [if_neg (by omega), if_neg (by omega), if_pos (by omega), q5]) | (rw [if_neg (by omega), if_neg (by omega), if_neg (by omega)]; rfl)
                                                      · simp [up2_at, fS]
                                                        first | (rw [if_pos (by omega), q5]; rfl) | (rw [if_neg (by omega)]; exact q5)))
                                            · first
                                              | (simp (discharger := omega) only [wr_id] at c_193; done)
                                              | (try simp (discharger := omega) only [wr_id] at c_193
                                                 exfalso
                                                 first | omega | exact c_193 trivial)
                                              | (try simp (discharger := omega) only [wr_id] at c_193
                                                 refine R_aload_n dX5_measure_196 rfl rfl ?_
                                                 refine R_getA fRX5_48 dX5_measure_197 rfl (Nat.lt_of_lt_of_le (Nat.le_of_ble_eq_true rfl) hnx) rfl ?_
                                                 refine R_iload_n dX5_measure_200 rfl rfl ?_
                                                 refine R_iaload (k := i) dX5_measure_201 rfl (Nat.lt_of_lt_of_le (Nat.le_of_ble_eq_true rfl) hnx) (by omega) (by omega) (by decide) ?_
                                                 refine R_goto (tgt := 206) dX5_measure_202 (by decide) ?_
                                                 refine R_istore_n dX5_measure_206 rfl (Nat.le_of_ble_eq_true rfl) ?_
                                                 refine R_aload_n dX5_measure_207 rfl rfl ?_
                                                 refine R_getA fRX5_45 dX5_measure_208 rfl (Nat.lt_of_lt_of_le (Nat.le_of_ble_eq_true rfl) hnx) rfl ?_
                                                 refine R_iload_n dX5_measure_211 rfl rfl ?_
                                                 refine R_iconst dX5_measure_212 ?_
                                                 refine R_iadd dX5_measure_213 ?_
                                                 refine R_aload_n dX5_measure_214 rfl rfl ?_
                                                 refine R_getA fRX5_45 dX5_measure_215 rfl (Nat.lt_of_lt_of_le (Nat.le_of_ble_eq_true rfl) hnx) rfl ?_
                                                 refine R_iload_n dX5_measure_218 rfl rfl ?_
                                                 refine R_iaload (k := i) dX5_measure_219 rfl (Nat.lt_of_lt_of_le (Nat.le_of_ble_eq_true rfl) hnx) (by omega) (by omega) (by decide) ?_
                                                 refine R_iload_n dX5_measure_220 rfl rfl ?_
                                                 refine R_iadd dX5_measure_221 ?_
                                                 refine R_iastore (k := i + 1) dX5_measure_222 rfl (Nat.lt_of_lt_of_le (Nat.le_of_ble_eq_true rfl) hnx) (by omega) (by omega) (by decide) ?_
                                                 refine R_aload_n dX5_measure_223 rfl rfl ?_
                                                 refine R_getA fRX5_48 dX5_measure_224 rfl (Nat.lt_of_lt_of_le (Nat.le_of_ble_eq_true rfl) hnx) rfl ?_
                                                 refine R_iload_n dX5_measure_227 rfl rfl ?_
                                                 refine R_iconst dX5_measure_228 ?_
                                                 refine R_iadd dX5_measure_229 ?_
                                                 refine R_iload_n dX5_measure_230 rfl rfl ?_
                                                 refine R_if_eq (tgt := 245) dX5_measure_231 (by decide) (fun c_231 => ?_) (fun c_231 => ?_)
                                                 · first
                                                   | (simp (discharger := omega) only [wr_id] at c_231; done)
                                                   | (try simp (discharger := omega) only [wr_id] at c_231
                                                      exfalso
                                                      first | omega | exact c_231 trivial)
                                                   | (try simp (discharger := omega) only [wr_id] at c_231
                                                      refine R_aload_n dX5_measure_245 rfl rfl ?_
                                                      refine R_getA fRX5_48 dX5_measure_246 rfl (Nat.lt_of_lt_of_le (Nat.le_of_ble_eq_true rfl) hnx) rfl ?_
                                                      refine R_iload_n dX5_measure_249 rfl rfl ?_
                                                      refine R_iaload (k := i) dX5_measure_250 rfl (Nat.lt_of_lt_of_le (Nat.le_of_ble_eq_true rfl) hnx) (by omega) (by omega) (by decide) ?_
                                                      refine R_iastore (k := i + 1) dX5_measure_251 rfl (Nat.lt_of_lt_of_le (Nat.le_of_ble_eq_true rfl) hnx) (by omega) (by omega) (by decide) ?_
                                                      refine R_iinc dX5_measure_252 rfl (Nat.le_of_ble_eq_true rfl) ?_
                                                      refine R_goto (tgt := 43) dX5_measure_255 (by decide) ?_
                                                      refine step hi2 _ (fun p hp => ?_) (fun p h1 h2 k hk => ?_) ?_ ?_ ?_ ?_ ?_ _ _
                                                      · rw [up2_ne _ _ _ (by omega), up2_ne _ _ _ (by omega), up2_ne _ _ _ (by omega), up2_ne _ _ _ (by omega), up2_ne _ _ _ (by omega)]
                                                      · simp only [up2_at]
                                                        rw [if_neg (by omega), if_neg (by omega), if_neg (by omega), if_neg (by omega), if_neg (by omega)]
                                                      · simp [up2_at, fW]
                                                        first | (rw [if_pos (by omega)]; rw [q1, show (2 : Int) = ((2 : Nat) : Int) from rfl, bDivN (by omega) (by omega) (by omega)]; done) | (rw [if_neg (by omega)]; exact q1)
                                                      · simp [up2_at, fH]
                                                        first | (rw [if_pos (by omega)]; rw [q2, show (2 : Int) = ((2 : Nat) : Int) from rfl, bDivN (by omega) (by omega) (by omega)]; done) | (rw [if_neg (by omega)]; exact q2)
                                                      · simp [up2_at, fP]
                                                        first | (rw [if_pos (by omega)]; (try rfl); done) | (rw [if_neg (by omega)]; exact q3)
                                                      · simp [up2_at, fL]
                                                        rw [q4]
                                                        first | (rw [if_pos (by omega)]; rfl) | (rw [if_neg (by omega), if_pos (by omega)]; rfl) | (rw [if_neg (by omega), if_neg (by omega), if_pos (by omega), q5]) | (rw [if_neg (by omega), if_neg (by omega), if_neg (by omega)]; rfl)
                                                      · simp [up2_at, fS]
                                                        first | (rw [if_pos (by omega), q5]; rfl) | (rw [if_neg (by omega)]; exact q5))
                                                 · first
                                                   | (simp (discharger := omega) only [wr_id] at c_231; done)
                                                   | (try simp (discharger := omega) only [wr_id] at c_231
                                                      exfalso
                                                      first | omega | exact c_231 trivial)
                                                   | (try simp (discharger := omega) only [wr_id] at c_231
                                                      refine R_iconst dX5_measure_234 ?_
                                                      refine R_aload_n dX5_measure_235 rfl rfl ?_
                                                      refine R_getA fRX5_48 dX5_measure_236 rfl (Nat.lt_of_lt_of_le (Nat.le_of_ble_eq_true rfl) hnx) rfl ?_
                                                      refine R_iload_n dX5_measure_239 rfl rfl ?_
                                                      refine R_iaload (k := i) dX5_measure_240 rfl (Nat.lt_of_lt_of_le (Nat.le_of_ble_eq_true rfl) hnx) (by omega) (by omega) (by decide) ?_
                                                      refine R_imul dX5_measure_241 ?_
                                                      refine R_goto (tgt := 251) dX5_measure_242 (by decide) ?_
                                                      refine R_iastore (k := i + 1) dX5_measure_251 rfl (Nat.lt_of_lt_of_le (Nat.le_of_ble_eq_true rfl) hnx) (by omega) (by omega) (by decide) ?_
                                                      refine R_iinc dX5_measure_252 rfl (Nat.le_of_ble_eq_true rfl) ?_
                                                      refine R_goto (tgt := 43) dX5_measure_255 (by decide) ?_
                                                      refine step hi2 _ (fun p hp => ?_) (fun p h1 h2 k hk => ?_) ?_ ?_ ?_ ?_ ?_ _ _
                                                      · rw [up2_ne _ _ _ (by omega), up2_ne _ _ _ (by omega), up2_ne _ _ _ (by omega), up2_ne _ _ _ (by omega), up2_ne _ _ _ (by omega)]
                                                      · simp only [up2_at]
                                                        rw [if_neg (by omega), if_neg (by omega), if_neg (by omega), if_neg (by omega), if_neg (by omega)]
                                                      · simp [up2_at, fW]
                                                        first | (rw [if_pos (by omega)]; rw [q1, show (2 : Int) = ((2 : Nat) : Int) from rfl, bDivN (by omega) (by omega) (by omega)]; done) | (rw [if_neg (by omega)]; exact q1)
                                                      · simp [up2_at, fH]
                                                        first | (rw [if_pos (by omega)]; rw [q2, show (2 : Int) = ((2 : Nat) : Int) from rfl, bDivN (by omega) (by omega) (by omega)]; done) | (rw [if_neg (by omega)]; exact q2)
                                                      · simp [up2_at, fP]
                                                        first | (rw [if_pos (by omega)]; (try rfl); done) | (rw [if_neg (by omega)]; exact q3)
                                                      · simp [up2_at, fL]
                                                        rw [q4]
                                                        first | (rw [if_pos (by omega)]; rfl) | (rw [if_neg (by omega), if_pos (by omega)]; rfl) | (rw [if_neg (by omega), if_neg (by omega), if_pos (by omega), q5]) | (rw [if_neg (by omega), if_neg (by omega), if_neg (by omega)]; rfl)
                                                      · simp [up2_at, fS]
                                                        first | (rw [if_pos (by omega), q5]; rfl) | (rw [if_neg (by omega)]; exact q5))))
                                       · first
                                         | (simp (discharger := omega) only [wr_id] at c_185; done)
                                         | (try simp (discharger := omega) only [wr_id] at c_185
                                            exfalso
                                            first | omega | exact c_185 trivial)
                                         | (try simp (discharger := omega) only [wr_id] at c_185
                                            refine R_iconst dX5_measure_188 ?_
                                            refine R_goto (tgt := 206) dX5_measure_189 (by decide) ?_
                                            refine R_istore_n dX5_measure_206 rfl (Nat.le_of_ble_eq_true rfl) ?_
                                            refine R_aload_n dX5_measure_207 rfl rfl ?_
                                            refine R_getA fRX5_45 dX5_measure_208 rfl (Nat.lt_of_lt_of_le (Nat.le_of_ble_eq_true rfl) hnx) rfl ?_
                                            refine R_iload_n dX5_measure_211 rfl rfl ?_
                                            refine R_iconst dX5_measure_212 ?_
                                            refine R_iadd dX5_measure_213 ?_
                                            refine R_aload_n dX5_measure_214 rfl rfl ?_
                                            refine R_getA fRX5_45 dX5_measure_215 rfl (Nat.lt_of_lt_of_le (Nat.le_of_ble_eq_true rfl) hnx) rfl ?_
                                            refine R_iload_n dX5_measure_218 rfl rfl ?_
                                            refine R_iaload (k := i) dX5_measure_219 rfl (Nat.lt_of_lt_of_le (Nat.le_of_ble_eq_true rfl) hnx) (by omega) (by omega) (by decide) ?_
                                            refine R_iload_n dX5_measure_220 rfl rfl ?_
                                            refine R_iadd dX5_measure_221 ?_
                                            refine R_iastore (k := i + 1) dX5_measure_222 rfl (Nat.lt_of_lt_of_le (Nat.le_of_ble_eq_true rfl) hnx) (by omega) (by omega) (by decide) ?_
                                            refine R_aload_n dX5_measure_223 rfl rfl ?_
                                            refine R_getA fRX5_48 dX5_measure_224 rfl (Nat.lt_of_lt_of_le (Nat.le_of_ble_eq_true rfl) hnx) rfl ?_
                                            refine R_iload_n dX5_measure_227 rfl rfl ?_
                                            refine R_iconst dX5_measure_228 ?_
                                            refine R_iadd dX5_measure_229 ?_
                                            refine R_iload_n dX5_measure_230 rfl rfl ?_
                                            refine R_if_eq (tgt := 245) dX5_measure_231 (by decide) (fun c_231 => ?_) (fun c_231 => ?_)
                                            · first
                                              | (simp (discharger := omega) only [wr_id] at c_231; done)
                                              | (try simp (discharger := omega) only [wr_id] at c_231
                                                 exfalso
                                                 first | omega | exact c_231 trivial)
                                              | (try simp (discharger := omega) only [wr_id] at c_231
                                                 refine R_aload_n dX5_measure_245 rfl rfl ?_
                                                 refine R_getA fRX5_48 dX5_measure_246 rfl (Nat.lt_of_lt_of_le (Nat.le_of_ble_eq_true rfl) hnx) rfl ?_
                                                 refine R_iload_n dX5_measure_249 rfl rfl ?_
                                                 refine R_iaload (k := i) dX5_measure_250 rfl (Nat.lt_of_lt_of_le (Nat.le_of_ble_eq_true rfl) hnx) (by omega) (by omega) (by decide) ?_
                                                 refine R_iastore (k := i + 1) dX5_measure_251 rfl (Nat.lt_of_lt_of_le (Nat.le_of_ble_eq_true rfl) hnx) (by omega) (by omega) (by decide) ?_
                                                 refine R_iinc dX5_measure_252 rfl (Nat.le_of_ble_eq_true rfl) ?_
                                                 refine R_goto (tgt := 43) dX5_measure_255 (by decide) ?_
                                                 refine step hi2 _ (fun p hp => ?_) (fun p h1 h2 k hk => ?_) ?_ ?_ ?_ ?_ ?_ _ _
                                                 · rw [up2_ne _ _ _ (by omega), up2_ne _ _ _ (by omega), up2_ne _ _ _ (by omega), up2_ne _ _ _ (by omega), up2_ne _ _ _ (by omega)]
                                                 · simp only [up2_at]
                                                   rw [if_neg (by omega), if_neg (by omega), if_neg (by omega), if_neg (by omega), if_neg (by omega)]
                                                 · simp [up2_at, fW]
                                                   first | (rw [if_pos (by omega)]; rw [q1, show (2 : Int) = ((2 : Nat) : Int) from rfl, bDivN (by omega) (by omega) (by omega)]; done) | (rw [if_neg (by omega)]; exact q1)
                                                 · simp [up2_at, fH]
                                                   first | (rw [if_pos (by omega)]; rw [q2, show (2 : Int) = ((2 : Nat) : Int) from rfl, bDivN (by omega) (by omega) (by omega)]; done) | (rw [if_neg (by omega)]; exact q2)
                                                 · simp [up2_at, fP]
                                                   first | (rw [if_pos (by omega)]; (try rfl); done) | (rw [if_neg (by omega)]; exact q3)
                                                 · simp [up2_at, fL]
                                                   rw [q4]
                                                   first | (rw [if_pos (by omega)]; rfl) | (rw [if_neg (by omega), if_pos (by omega)]; rfl) | (rw [if_neg (by omega), if_neg (by omega), if_pos (by omega), q5]) | (rw [if_neg (by omega), if_neg (by omega), if_neg (by omega)]; rfl)
                                                 · simp [up2_at, fS]
                                                   first | (rw [if_pos (by omega), q5]; rfl) | (rw [if_neg (by omega)]; exact q5))
                                            · first
                                              | (simp (discharger := omega) only [wr_id] at c_231; done)
                                              | (try simp (discharger := omega) only [wr_id] at c_231
                                                 exfalso
                                                 first | omega | exact c_231 trivial)
                                              | (try simp (discharger := omega) only [wr_id] at c_231
                                                 refine R_iconst dX5_measure_234 ?_
                                                 refine R_aload_n dX5_measure_235 rfl rfl ?_
                                                 refine R_getA fRX5_48 dX5_measure_236 rfl (Nat.lt_of_lt_of_le (Nat.le_of_ble_eq_true rfl) hnx) rfl ?_
                                                 refine R_iload_n dX5_measure_239 rfl rfl ?_
                                                 refine R_iaload (k := i) dX5_measure_240 rfl (Nat.lt_of_lt_of_le (Nat.le_of_ble_eq_true rfl) hnx) (by omega) (by omega) (by decide) ?_
                                                 refine R_imul dX5_measure_241 ?_
                                                 refine R_goto (tgt := 251) dX5_measure_242 (by decide) ?_
                                                 refine R_iastore (k := i + 1) dX5_measure_251 rfl (Nat.lt_of_lt_of_le (Nat.le_of_ble_eq_true rfl) hnx) (by omega) (by omega) (by decide) ?_
                                                 refine R_iinc dX5_measure_252 rfl (Nat.le_of_ble_eq_true rfl) ?_
                                                 refine R_goto (tgt := 43) dX5_measure_255 (by decide) ?_
                                                 refine step hi2 _ (fun p hp => ?_) (fun p h1 h2 k hk => ?_) ?_ ?_ ?_ ?_ ?_ _ _
                                                 · rw [up2_ne _ _ _ (by omega), up2_ne _ _ _ (by omega), up2_ne _ _ _ (by omega), up2_ne _ _ _ (by omega), up2_ne _ _ _ (by omega)]
                                                 · simp only [up2_at]
                                                   rw [if_neg (by omega), if_neg (by omega), if_neg (by omega), if_neg (by omega), if_neg (by omega)]
                                                 · simp [up2_at, fW]
                                                   first | (rw [if_pos (by omega)]; rw [q1, show (2 : Int) = ((2 : Nat) : Int) from rfl, bDivN (by omega) (by omega) (by omega)]; done) | (rw [if_neg (by omega)]; exact q1)
                                                 · simp [up2_at, fH]
                                                   first | (rw [if_pos (by omega)]; rw [q2, show (2 : Int) = ((2 : Nat) : Int) from rfl, bDivN (by omega) (by omega) (by omega)]; done) | (rw [if_neg (by omega)]; exact q2)
                                                 · simp [up2_at, fP]
                                                   first | (rw [if_pos (by omega)]; (try rfl); done) | (rw [if_neg (by omega)]; exact q3)
                                                 · simp [up2_at, fL]
                                                   rw [q4]
                                                   first | (rw [if_pos (by omega)]; rfl) | (rw [if_neg (by omega), if_pos (by omega)]; rfl) | (rw [if_neg (by omega), if_neg (by omega), if_pos (by omega), q5]) | (rw [if_neg (by omega), if_neg (by omega), if_neg (by omega)]; rfl)
                                                 · simp [up2_at, fS]
                                                   first | (rw [if_pos (by omega), q5]; rfl) | (rw [if_neg (by omega)]; exact q5))))
                                  · first
                                    | (simp (discharger := omega) only [wr_id] at c_171; done)
                                    | (try simp (discharger := omega) only [wr_id] at c_171
                                       exfalso
                                       first | omega | exact c_171 trivial)
                                    | (try simp (discharger := omega) only [wr_id] at c_171
                                       refine R_iconst dX5_measure_174 ?_
                                       refine R_goto (tgt := 206) dX5_measure_175 (by decide) ?_
                                       refine R_istore_n dX5_measure_206 rfl (Nat.le_of_ble_eq_true rfl) ?_
                                       refine R_aload_n dX5_measure_207 rfl rfl ?_
                                       refine R_getA fRX5_45 dX5_measure_208 rfl (Nat.lt_of_lt_of_le (Nat.le_of_ble_eq_true rfl) hnx) rfl ?_
                                       refine R_iload_n dX5_measure_211 rfl rfl ?_
                                       refine R_iconst dX5_measure_212 ?_
                                       refine R_iadd dX5_measure_213 ?_
                                       refine R_aload_n dX5_measure_214 rfl rfl ?_
                                       refine R_getA fRX5_45 dX5_measure_215 rfl (Nat.lt_of_lt_of_le (Nat.le_of_ble_eq_true rfl) hnx) rfl ?_
                                       refine R_iload_n dX5_measure_218 rfl rfl ?_
                                       refine R_iaload (k := i) dX5_measure_219 rfl (Nat.lt_of_lt_of_le (Nat.le_of_ble_eq_true rfl) hnx) (by omega) (by omega) (by decide) ?_
                                       refine R_iload_n dX5_measure_220 rfl rfl ?_
                                       refine R_iadd dX5_measure_221 ?_
                                       refine R_iastore (k := i + 1) dX5_measure_222 rfl (Nat.lt_of_lt_of_le (Nat.le_of_ble_eq_true rfl) hnx) (by omega) (by omega) (by decide) ?_
                                       refine R_aload_n dX5_measure_223 rfl rfl ?_
                                       refine R_getA fRX5_48 dX5_measure_224 rfl (Nat.lt_of_lt_of_le (Nat.le_of_ble_eq_true rfl) hnx) rfl ?_
                                       refine R_iload_n dX5_measure_227 rfl rfl ?_
                                       refine R_iconst dX5_measure_228 ?_
                                       refine R_iadd dX5_measure_229 ?_
                                       refine R_iload_n dX5_measure_230 rfl rfl ?_
                                       refine R_if_eq (tgt := 245) dX5_measure_231 (by decide) (fun c_231 => ?_) (fun c_231 => ?_)
                                       · first
                                         | (simp (discharger := omega) only [wr_id] at c_231; done)
                                         | (try simp (discharger := omega) only [wr_id] at c_231
                                            exfalso
                                            first | omega | exact c_231 trivial)
                                         | (try simp (discharger := omega) only [wr_id] at c_231
                                            refine R_aload_n dX5_measure_245 rfl rfl ?_
                                            refine R_getA fRX5_48 dX5_measure_246 rfl (Nat.lt_of_lt_of_le (Nat.le_of_ble_eq_true rfl) hnx) rfl ?_
                                            refine R_iload_n dX5_measure_249 rfl rfl ?_
                                            refine R_iaload (k := i) dX5_measure_250 rfl (Nat.lt_of_lt_of_le (Nat.le_of_ble_eq_true rfl) hnx) (by omega) (by omega) (by decide) ?_
                                            refine R_iastore (k := i + 1) dX5_measure_251 rfl (Nat.lt_of_lt_of_le (Nat.le_of_ble_eq_true rfl) hnx) (by omega) (by omega) (by decide) ?_
                                            refine R_iinc dX5_measure_252 rfl (Nat.le_of_ble_eq_true rfl) ?_
                                            refine R_goto (tgt := 43) dX5_measure_255 (by decide) ?_
                                            refine step hi2 _ (fun p hp => ?_) (fun p h1 h2 k hk => ?_) ?_ ?_ ?_ ?_ ?_ _ _
                                            · rw [up2_ne _ _ _ (by omega), up2_ne _ _ _ (by omega), up2_ne _ _ _ (by omega), up2_ne _ _ _ (by omega), up2_ne _ _ _ (by omega)]
                                            · simp only [up2_at]
                                              rw [if_neg (by omega), if_neg (by omega), if_neg (by omega), if_neg (by omega), if_neg (by omega)]
                                            · simp [up2_at, fW]
                                              first | (rw [if_pos (by omega)]; rw [q1, show (2 : Int) = ((2 : Nat) : Int) from rfl, bDivN (by omega) (by omega) (by omega)]; done) | (rw [if_neg (by omega)]; exact q1)
                                            · simp [up2_at, fH]
                                              first | (rw [if_pos (by omega)]; rw [q2, show (2 : Int) = ((2 : Nat) : Int) from rfl, bDivN (by omega) (by omega) (by omega)]; done) | (rw [if_neg (by omega)]; exact q2)
                                            · simp [up2_at, fP]
                                              first | (rw [if_pos (by omega)]; (try rfl); done) | (rw [if_neg (by omega)]; exact q3)
                                            · simp [up2_at, fL]
                                              rw [q4]
                                              first | (rw [if_pos (by omega)]; rfl) | (rw [if_neg (by omega), if_pos (by omega)]; rfl) | (rw [if_neg (by omega), if_neg (by omega), if_pos (by omega), q5]) | (rw [if_neg (by omega), if_neg (by omega), if_neg (by omega)]; rfl)
                                            · simp [up2_at, fS]
                                              first | (rw [if_pos (by omega), q5]; rfl) | (rw [if_neg (by omega)]; exact q5))
                                       · first
                                         | (simp (discharger := omega) only [wr_id] at c_231; done)
                                         | (try simp (discharger := omega) only [wr_id] at c_231
                                            exfalso
                                            first | omega | exact c_231 trivial)
                                         | (try simp (discharger := omega) only [wr_id] at c_231
                                            refine R_iconst dX5_measure_234 ?_
                                            refine R_aload_n dX5_measure_235 rfl rfl ?_
                                            refine R_getA fRX5_48 dX5_measure_236 rfl (Nat.lt_of_lt_of_le (Nat.le_of_ble_eq_true rfl) hnx) rfl ?_
                                            refine R_iload_n dX5_measure_239 rfl rfl ?_
                                            refine R_iaload (k := i) dX5_measure_240 rfl (Nat.lt_of_lt_of_le (Nat.le_of_ble_eq_true rfl) hnx) (by omega) (by omega) (by decide) ?_
                                            refine R_imul dX5_measure_241 ?_
                                            refine R_goto (tgt := 251) dX5_measure_242 (by decide) ?_
                                            refine R_iastore (k := i + 1) dX5_measure_251 rfl (Nat.lt_of_lt_of_le (Nat.le_of_ble_eq_true rfl) hnx) (by omega) (by omega) (by decide) ?_
                                            refine R_iinc dX5_measure_252 rfl (Nat.le_of_ble_eq_true rfl) ?_
                                            refine R_goto (tgt := 43) dX5_measure_255 (by decide) ?_
                                            refine step hi2 _ (fun p hp => ?_) (fun p h1 h2 k hk => ?_) ?_ ?_ ?_ ?_ ?_ _ _
                                            · rw [up2_ne _ _ _ (by omega), up2_ne _ _ _ (by omega), up2_ne _ _ _ (by omega), up2_ne _ _ _ (by omega), up2_ne _ _ _ (by omega)]
                                            · simp only [up2_at]
                                              rw [if_neg (by omega), if_neg (by omega), if_neg (by omega), if_neg (by omega), if_neg (by omega)]
                                            · simp [up2_at, fW]
                                              first | (rw [if_pos (by omega)]; rw [q1, show (2 : Int) = ((2 : Nat) : Int) from rfl, bDivN (by omega) (by omega) (by omega)]; done) | (rw [if_neg (by omega)]; exact q1)
                                            · simp [up2_at, fH]
                                              first | (rw [if_pos (by omega)]; rw [q2, show (2 : Int) = ((2 : Nat) : Int) from rfl, bDivN (by omega) (by omega) (by omega)]; done) | (rw [if_neg (by omega)]; exact q2)
                                            · simp [up2_at, fP]
                                              first | (rw [if_pos (by omega)]; (try rfl); done) | (rw [if_neg (by omega)]; exact q3)
                                            · simp [up2_at, fL]
                                              rw [q4]
                                              first | (rw [if_pos (by omega)]; rfl) | (rw [if_neg (by omega), if_pos (by omega)]; rfl) | (rw [if_neg (by omega), if_neg (by omega), if_pos (by omega), q5]) | (rw [if_neg (by omega), if_neg (by omega), if_neg (by omega)]; rfl)
                                            · simp [up2_at, fS]
                                              first | (rw [if_pos (by omega), q5]; rfl) | (rw [if_neg (by omega)]; exact q5))))))
                   · first
                     | (simp (discharger := omega) only [wr_id] at c_105; done)
                     | (try simp (discharger := omega) only [wr_id] at c_105
                        exfalso
                        first | omega | exact c_105 trivial)
                     | (try simp (discharger := omega) only [wr_id] at c_105
                        refine R_aload_n dX5_measure_108 rfl rfl ?_
                        refine R_getA fRX5_39 dX5_measure_109 rfl (Nat.lt_of_lt_of_le (Nat.le_of_ble_eq_true rfl) hnx) rfl ?_
                        refine R_iload_n dX5_measure_112 rfl rfl ?_
                        refine R_iaload (k := i) dX5_measure_113 rfl (Nat.lt_of_lt_of_le (Nat.le_of_ble_eq_true rfl) hnx) (by omega) (by omega) (by decide) ?_
                        refine R_iconst dX5_measure_114 ?_
                        refine R_idiv dX5_measure_115 (by decide) ?_
                        refine R_goto (tgt := 125) dX5_measure_116 (by decide) ?_
                        refine R_iastore (k := i + 1) dX5_measure_125 rfl (Nat.lt_of_lt_of_le (Nat.le_of_ble_eq_true rfl) hnx) (by omega) (by omega) (by decide) ?_
                        refine R_aload_n dX5_measure_126 rfl rfl ?_
                        refine R_getA fRX5_42 dX5_measure_127 rfl (Nat.lt_of_lt_of_le (Nat.le_of_ble_eq_true rfl) hnx) rfl ?_
                        refine R_iload_n dX5_measure_130 rfl rfl ?_
                        refine R_iconst dX5_measure_131 ?_
                        refine R_iadd dX5_measure_132 ?_
                        refine R_aload_n dX5_measure_133 rfl rfl ?_
                        refine R_getA fRX5_24 dX5_measure_134 rfl (Nat.lt_of_lt_of_le (Nat.le_of_ble_eq_true rfl) hnx) rfl ?_
                        refine R_iload_n dX5_measure_137 rfl rfl ?_
                        refine R_iaload (k := i) dX5_measure_138 rfl (Nat.lt_of_lt_of_le (Nat.le_of_ble_eq_true rfl) hnx) (by omega) (by omega) (by decide) ?_
                        refine R_iconst dX5_measure_139 ?_
                        dsimp only
                        rw [up2_ne _ _ _ (by decide), up2_ne _ _ _ (by decide), e6]
                        refine R_icmp_ne (tgt := 147) dX5_measure_140 (by decide) (fun c_140 => ?_) (fun c_140 => ?_)
                        · first
                          | (simp (discharger := omega) only [wr_id] at c_140; done)
                          | (try simp (discharger := omega) only [wr_id] at c_140
                             exfalso
                             first | omega | exact c_140 trivial)
                          | (try simp (discharger := omega) only [wr_id] at c_140
                             refine R_aload_n dX5_measure_147 rfl rfl ?_
                             refine R_getA fRX5_42 dX5_measure_148 rfl (Nat.lt_of_lt_of_le (Nat.le_of_ble_eq_true rfl) hnx) rfl ?_
                             refine R_iload_n dX5_measure_151 rfl rfl ?_
                             refine R_iaload (k := i) dX5_measure_152 rfl (Nat.lt_of_lt_of_le (Nat.le_of_ble_eq_true rfl) hnx) (by omega) (by omega) (by decide) ?_
                             refine R_iastore (k := i + 1) dX5_measure_153 rfl (Nat.lt_of_lt_of_le (Nat.le_of_ble_eq_true rfl) hnx) (by omega) (by omega) (by decide) ?_
                             refine R_aload_n dX5_measure_154 rfl rfl ?_
                             refine R_getA fRX5_24 dX5_measure_155 rfl (Nat.lt_of_lt_of_le (Nat.le_of_ble_eq_true rfl) hnx) rfl ?_
                             refine R_iload_n dX5_measure_158 rfl rfl ?_
                             refine R_iaload (k := i) dX5_measure_159 rfl (Nat.lt_of_lt_of_le (Nat.le_of_ble_eq_true rfl) hnx) (by omega) (by omega) (by decide) ?_
                             refine R_iconst dX5_measure_160 ?_
                             dsimp only
                             rw [up2_ne _ _ _ (by decide), up2_ne _ _ _ (by decide), up2_ne _ _ _ (by decide), e6]
                             refine R_icmp_eq (tgt := 174) dX5_measure_161 (by decide) (fun c_161 => ?_) (fun c_161 => ?_)
                             · first
                               | (simp (discharger := omega) only [wr_id] at c_161; done)
                               | (try simp (discharger := omega) only [wr_id] at c_161
                                  exfalso
                                  first | omega | exact c_161 trivial)
                               | (try simp (discharger := omega) only [wr_id] at c_161
                                  refine R_iconst dX5_measure_174 ?_
                                  refine R_goto (tgt := 206) dX5_measure_175 (by decide) ?_
                                  refine R_istore_n dX5_measure_206 rfl (Nat.le_of_ble_eq_true rfl) ?_
                                  refine R_aload_n dX5_measure_207 rfl rfl ?_
                                  refine R_getA fRX5_45 dX5_measure_208 rfl (Nat.lt_of_lt_of_le (Nat.le_of_ble_eq_true rfl) hnx) rfl ?_
                                  refine R_iload_n dX5_measure_211 rfl rfl ?_
                                  refine R_iconst dX5_measure_212 ?_
                                  refine R_iadd dX5_measure_213 ?_
                                  refine R_aload_n dX5_measure_214 rfl rfl ?_
                                  refine R_getA fRX5_45 dX5_measure_215 rfl (Nat.lt_of_lt_of_le (Nat.le_of_ble_eq_true rfl) hnx) rfl ?_
                                  refine R_iload_n dX5_measure_218 rfl rfl ?_
                                  refine R_iaload (k := i) dX5_measure_219 rfl (Nat.lt_of_lt_of_le (Nat.le_of_ble_eq_true rfl) hnx) (by omega) (by omega) (by decide) ?_
                                  refine R_iload_n dX5_measure_220 rfl rfl ?_
                                  refine R_iadd dX5_measure_221 ?_
                                  refine R_iastore (k := i + 1) dX5_measure_222 rfl (Nat.lt_of_lt_of_le (Nat.le_of_ble_eq_true rfl) hnx) (by omega) (by omega) (by decide) ?_
                                  refine R_aload_n dX5_measure_223 rfl rfl ?_
                                  refine R_getA fRX5_48 dX5_measure_224 rfl (Nat.lt_of_lt_of_le (Nat.le_of_ble_eq_true rfl) hnx) rfl ?_
                                  refine R_iload_n dX5_measure_227 rfl rfl ?_
                                  refine R_iconst dX5_measure_228 ?_
                                  refine R_iadd dX5_measure_229 ?_
                                  refine R_iload_n dX5_measure_230 rfl rfl ?_
                                  refine R_if_eq (tgt := 245) dX5_measure_231 (by decide) (fun c_231 => ?_) (fun c_231 => ?_)
                                  · first
                                    | (simp (discharger := omega) only [wr_id] at c_231; done)
                                    | (try simp (discharger := omega) only [wr_id] at c_231
                                       exfalso
                                       first | omega | exact c_231 trivial)
                                    | (try simp (discharger := omega) only [wr_id] at c_231
                                       refine R_aload_n dX5_measure_245 rfl rfl ?_
                                       refine R_getA fRX5_48 dX5_measure_246 rfl (Nat.lt_of_lt_of_le (Nat.le_of_ble_eq_true rfl) hnx) rfl ?_
                                       refine R_iload_n dX5_measure_249 rfl rfl ?_
                                       refine R_iaload (k := i) dX5_measure_250 rfl (Nat.lt_of_lt_of_le (Nat.le_of_ble_eq_true rfl) hnx) (by omega) (by omega) (by decide) ?_
                                       refine R_iastore (k := i + 1) dX5_measure_251 rfl (Nat.lt_of_lt_of_le (Nat.le_of_ble_eq_true rfl) hnx) (by omega) (by omega) (by decide) ?_
                                       refine R_iinc dX5_measure_252 rfl (Nat.le_of_ble_eq_true rfl) ?_
                                       refine R_goto (tgt := 43) dX5_measure_255 (by decide) ?_
                                       refine step hi2 _ (fun p hp => ?_) (fun p h1 h2 k hk => ?_) ?_ ?_ ?_ ?_ ?_ _ _
                                       · rw [up2_ne _ _ _ (by omega), up2_ne _ _ _ (by omega), up2_ne _ _ _ (by omega), up2_ne _ _ _ (by omega), up2_ne _ _ _ (by omega)]
                                       · simp only [up2_at]
                                         rw [if_neg (by omega), if_neg (by omega), if_neg (by omega), if_neg (by omega), if_neg (by omega)]
                                       · simp [up2_at, fW]
                                         first | (rw [if_pos (by omega)]; rw [q1, show (2 : Int) = ((2 : Nat) : Int) from rfl, bDivN (by omega) (by omega) (by omega)]; done) | (rw [if_neg (by omega)]; exact q1)
                                       · simp [up2_at, fH]
                                         first | (rw [if_pos (by omega)]; rw [q2, show (2 : Int) = ((2 : Nat) : Int) from rfl, bDivN (by omega) (by omega) (by omega)]; done) | (rw [if_neg (by omega)]; exact q2)
                                       · simp [up2_at, fP]
                                         first | (rw [if_pos (by omega)]; (try rfl); done) | (rw [if_neg (by omega)]; exact q3)
                                       · simp [up2_at, fL]
                                         rw [q4]
                                         first | (rw [if_pos (by omega)]; rfl) | (rw [if_neg (by omega), if_pos (by omega)]; rfl) | (rw [if_neg (by omega), if_neg (by omega), if_pos (by omega), q5]) | (rw [if_neg (by omega), if_neg (by omega), if_neg (by omega)]; rfl)
                                       · simp [up2_at, fS]
                                         first | (rw [if_pos (by omega), q5]; rfl) | (rw [if_neg (by omega)]; exact q5))
                                  · first
                                    | (simp (discharger := omega) only [wr_id] at c_231; done)
                                    | (try simp (discharger := omega) only [wr_id] at c_231
                                       exfalso
                                       first | omega | exact c_231 trivial)
                                    | (try simp (discharger := omega) only [wr_id] at c_231
                                       refine R_iconst dX5_measure_234 ?_
                                       refine R_aload_n dX5_measure_235 rfl rfl ?_
                                       refine R_getA fRX5_48 dX5_measure_236 rfl (Nat.lt_of_lt_of_le (Nat.le_of_ble_eq_true rfl) hnx) rfl ?_
                                       refine R_iload_n dX5_measure_239 rfl rfl ?_
                                       refine R_iaload (k := i) dX5_measure_240 rfl (Nat.lt_of_lt_of_le (Nat.le_of_ble_eq_true rfl) hnx) (by omega) (by omega) (by decide) ?_
                                       refine R_imul dX5_measure_241 ?_
                                       refine R_goto (tgt := 251) dX5_measure_242 (by decide) ?_
                                       refine R_iastore (k := i + 1) dX5_measure_251 rfl (Nat.lt_of_lt_of_le (Nat.le_of_ble_eq_true rfl) hnx) (by omega) (by omega) (by decide) ?_
                                       refine R_iinc dX5_measure_252 rfl (Nat.le_of_ble_eq_true rfl) ?_
                                       refine R_goto (tgt := 43) dX5_measure_255 (by decide) ?_
                                       refine step hi2 _ (fun p hp => ?_) (fun p h1 h2 k hk => ?_) ?_ ?_ ?_ ?_ ?_ _ _
                                       · rw [up2_ne _ _ _ (by omega), up2_ne _ _ _ (by omega), up2_ne _ _ _ (by omega), up2_ne _ _ _ (by omega), up2_ne _ _ _ (by omega)]
                                       · simp only [up2_at]
                                         rw [if_neg (by omega), if_neg (by omega), if_neg (by omega), if_neg (by omega), if_neg (by omega)]
                                       · simp [up2_at, fW]
                                         first | (rw [if_pos (by omega)]; rw [q1, show (2 : Int) = ((2 : Nat) : Int) from rfl, bDivN (by omega) (by omega) (by omega)]; done) | (rw [if_neg (by omega)]; exact q1)
                                       · simp [up2_at, fH]
                                         first | (rw [if_pos (by omega)]; rw [q2, show (2 : Int) = ((2 : Nat) : Int) from rfl, bDivN (by omega) (by omega) (by omega)]; done) | (rw [if_neg (by omega)]; exact q2)
                                       · simp [up2_at, fP]
                                         first | (rw [if_pos (by omega)]; (try rfl); done) | (rw [if_neg (by omega)]; exact q3)
                                       · simp [up2_at, fL]
                                         rw [q4]
                                         first | (rw [if_pos (by omega)]; rfl) | (rw [if_neg (by omega), if_pos (by omega)]; rfl) | (rw [if_neg (by omega), if_neg (by omega), if_pos (by omega), q5]) | (rw [if_neg (by omega), if_neg (by omega), if_neg (by omega)]; rfl)
                                       · simp [up2_at, fS]
                                         first | (rw [if_pos (by omega), q5]; rfl) | (rw [if_neg (by omega)]; exact q5)))
                             · first
                               | (simp (discharger := omega) only [wr_id] at c_161; done)
                               | (try simp (discharger := omega) only [wr_id] at c_161
                                  exfalso
                                  first | omega | exact c_161 trivial)
                               | (try simp (discharger := omega) only [wr_id] at c_161
                                  refine R_aload_n dX5_measure_164 rfl rfl ?_
                                  refine R_getA fRX5_24 dX5_measure_165 rfl (Nat.lt_of_lt_of_le (Nat.le_of_ble_eq_true rfl) hnx) rfl ?_
                                  refine R_iload_n dX5_measure_168 rfl rfl ?_
                                  refine R_iaload (k := i) dX5_measure_169 rfl (Nat.lt_of_lt_of_le (Nat.le_of_ble_eq_true rfl) hnx) (by omega) (by omega) (by decide) ?_
                                  refine R_iconst dX5_measure_170 ?_
                                  dsimp only
                                  rw [up2_ne _ _ _ (by decide), up2_ne _ _ _ (by decide), up2_ne _ _ _ (by decide), e6]
                                  refine R_icmp_ne (tgt := 178) dX5_measure_171 (by decide) (fun c_171 => ?_) (fun c_171 => ?_)
                                  · first
                                    | (simp (discharger := omega) only [wr_id] at c_171; done)
                                    | (try simp (discharger := omega) only [wr_id] at c_171
                                       exfalso
                                       first | omega | exact c_171 trivial)
                                    | (try simp (discharger := omega) only [wr_id] at c_171
                                       refine R_aload_n dX5_measure_178 rfl rfl ?_
                                       refine R_getA fRX5_24 dX5_measure_179 rfl (Nat.lt_of_lt_of_le (Nat.le_of_ble_eq_true rfl) hnx) rfl ?_
                                       refine R_iload_n dX5_measure_182 rfl rfl ?_
                                       refine R_iaload (k := i) dX5_measure_183 rfl (Nat.lt_of_lt_of_le (Nat.le_of_ble_eq_true rfl) hnx) (by omega) (by omega) (by decide) ?_
                                       refine R_iconst dX5_measure_184 ?_
                                       dsimp only
                                       rw [up2_ne _ _ _ (by decide), up2_ne _ _ _ (by decide), up2_ne _ _ _ (by decide), e6]
                                       refine R_icmp_ne (tgt := 192) dX5_measure_185 (by decide) (fun c_185 => ?_) (fun c_185 => ?_)
                                       · first
                                         | (simp (discharger := omega) only [wr_id] at c_185; done)
                                         | (try simp (discharger := omega) only [wr_id] at c_185
                                            exfalso
                                            first | omega | exact c_185 trivial)
                                         | (try simp (discharger := omega) only [wr_id] at c_185
                                            refine R_iload_n dX5_measure_192 rfl rfl ?_
                                            refine R_if_eq (tgt := 205) dX5_measure_193 (by decide) (fun c_193 => ?_) (fun c_193 => ?_)
                                            · first
                                              | (simp (discharger := omega) only [wr_id] at c_193; done)
                                              | (try simp (discharger := omega) only [wr_id] at c_193
                                                 exfalso
                                                 first | omega | exact c_193 trivial)
                                              | (try simp (discharger := omega) only [wr_id] at c_193
                                                 refine R_iconst dX5_measure_205 ?_
                                                 refine R_istore_n dX5_measure_206 rfl (Nat.le_of_ble_eq_true rfl) ?_
                                                 refine R_aload_n dX5_measure_207 rfl rfl ?_
                                                 refine R_getA fRX5_45 dX5_measure_208 rfl (Nat.lt_of_lt_of_le (Nat.le_of_ble_eq_true rfl) hnx) rfl ?_
                                                 refine R_iload_n dX5_measure_211 rfl rfl ?_
                                                 refine R_iconst dX5_measure_212 ?_
                                                 refine R_iadd dX5_measure_213 ?_
                                                 refine R_aload_n dX5_measure_214 rfl rfl ?_
                                                 refine R_getA fRX5_45 dX5_measure_215 rfl (Nat.lt_of_lt_of_le (Nat.le_of_ble_eq_true rfl) hnx) rfl ?_
                                                 refine R_iload_n dX5_measure_218 rfl rfl ?_
                                                 refine R_iaload (k := i) dX5_measure_219 rfl (Nat.lt_of_lt_of_le (Nat.le_of_ble_eq_true rfl) hnx) (by omega) (by omega) (by decide) ?_
                                                 refine R_iload_n dX5_measure_220 rfl rfl ?_
                                                 refine R_iadd dX5_measure_221 ?_
                                                 refine R_iastore (k := i + 1) dX5_measure_222 rfl (Nat.lt_of_lt_of_le (Nat.le_of_ble_eq_true rfl) hnx) (by omega) (by omega) (by decide) ?_
                                                 refine R_aload_n dX5_measure_223 rfl rfl ?_
                                                 refine R_getA fRX5_48 dX5_measure_224 rfl (Nat.lt_of_lt_of_le (Nat.le_of_ble_eq_true rfl) hnx) rfl ?_
                                                 refine R_iload_n dX5_measure_227 rfl rfl ?_
                                                 refine R_iconst dX5_measure_228 ?_
                                                 refine R_iadd dX5_measure_229 ?_
                                                 refine R_iload_n dX5_measure_230 rfl rfl ?_
                                                 refine R_if_eq (tgt := 245) dX5_measure_231 (by decide) (fun c_231 => ?_) (fun c_231 => ?_)
                                                 · first
                                                   | (simp (discharger := omega) only [wr_id] at c_231; done)
                                                   | (try simp (discharger := omega) only [wr_id] at c_231
                                                      exfalso
                                                      first | omega | exact c_231 trivial)
                                                   | (try simp (discharger := omega) only [wr_id] at c_231
                                                      refine R_aload_n dX5_measure_245 rfl rfl ?_
                                                      refine R_getA fRX5_48 dX5_measure_246 rfl (Nat.lt_of_lt_of_le (Nat.le_of_ble_eq_true rfl) hnx) rfl ?_
                                                      refine R_iload_n dX5_measure_249 rfl rfl ?_
                                                      refine R_iaload (k := i) dX5_measure_250 rfl (Nat.lt_of_lt_of_le (Nat.le_of_ble_eq_true rfl) hnx) (by omega) (by omega) (by decide) ?_
                                                      refine R_iastore (k := i + 1) dX5_measure_251 rfl (Nat.lt_of_lt_of_le (Nat.le_of_ble_eq_true rfl) hnx) (by omega) (by omega) (by decide) ?_
                                                      refine R_iinc dX5_measure_252 rfl (Nat.le_of_ble_eq_true rfl) ?_
                                                      refine R_goto (tgt := 43) dX5_measure_255 (by decide) ?_
                                                      refine step hi2 _ (fun p hp => ?_) (fun p h1 h2 k hk => ?_) ?_ ?_ ?_ ?_ ?_ _ _
                                                      · rw [up2_ne _ _ _ (by omega), up2_ne _ _ _ (by omega), up2_ne _ _ _ (by omega), up2_ne _ _ _ (by omega), up2_ne _ _ _ (by omega)]
                                                      · simp only [up2_at]
                                                        rw [if_neg (by omega), if_neg (by omega), if_neg (by omega), if_neg (by omega), if_neg (by omega)]
                                                      · simp [up2_at, fW]
                                                        first | (rw [if_pos (by omega)]; rw [q1, show (2 : Int) = ((2 : Nat) : Int) from rfl, bDivN (by omega) (by omega) (by omega)]; done) | (rw [if_neg (by omega)]; exact q1)
                                                      · simp [up2_at, fH]
                                                        first | (rw [if_pos (by omega)]; rw [q2, show (2 : Int) = ((2 : Nat) : Int) from rfl, bDivN (by omega) (by omega) (by omega)]; done) | (rw [if_neg (by omega)]; exact q2)
                                                      · simp [up2_at, fP]
                                                        first | (rw [if_pos (by omega)]; (try rfl); done) | (rw [if_neg (by omega)]; exact q3)
                                                      · simp [up2_at, fL]
                                                        rw [q4]
                                                        first | (rw [if_pos (by omega)]; rfl) | (rw [if_neg (by omega), if_pos (by omega)]; rfl) | (rw [if_neg (by omega), if_neg (by omega), if_pos (by omega), q5]) | (rw [if_neg (by omega), if_neg (by omega), if_neg (by omega)]; rfl)
                                                      · simp [up2_at, fS]
                                                        first | (rw [if_pos (by omega), q5]; rfl) | (rw [if_neg (by omega)]; exact q5))
                                                 · first
                                                   | (simp (discharger := omega) only [wr_id] at c_231; done)
                                                   | (try simp (discharger := omega) only [wr_id] at c_231
                                                      exfalso
                                                      first | omega | exact c_231 trivial)
                                                   | (try simp (discharger := omega) only [wr_id] at c_231
                                                      refine R_iconst dX5_measure_234 ?_
                                                      refine R_aload_n dX5_measure_235 rfl rfl ?_
                                                      refine R_getA fRX5_48 dX5_measure_236 rfl (Nat.lt_of_lt_of_le (Nat.le_of_ble_eq_true rfl) hnx) rfl ?_
                                                      refine R_iload_n dX5_measure_239 rfl rfl ?_
                                                      refine R_iaload (k := i) dX5_measure_240 rfl (Nat.lt_of_lt_of_le (Nat.le_of_ble_eq_true rfl) hnx) (by omega) (by omega) (by decide) ?_
                                                      refine R_imul dX5_measure_241 ?_
                                                      refine R_goto (tgt := 251) dX5_measure_242 (by decide) ?_
                                                      refine R_iastore (k := i + 1) dX5_measure_251 rfl (Nat.lt_of_lt_of_le (Nat.le_of_ble_eq_true rfl) hnx) (by omega) (by omega) (by decide) ?_
                                                      refine R_iinc dX5_measure_252 rfl (Nat.le_of_ble_eq_true rfl) ?_
                                                      refine R_goto (tgt := 43) dX5_measure_255 (by decide) ?_
                                                      refine step hi2 _ (fun p hp => ?_) (fun p h1 h2 k hk => ?_) ?_ ?_ ?_ ?_ ?_ _ _
                                                      · rw [up2_ne _ _ _ (by omega), up2_ne _ _ _ (by omega), up2_ne _ _ _ (by omega), up2_ne _ _ _ (by omega), up2_ne _ _ _ (by omega)]
                                                      · simp only [up2_at]
                                                        rw [if_neg (by omega), if_neg (by omega), if_neg (by omega), if_neg (by omega), if_neg (by omega)]
                                                      · simp [up2_at, fW]
                                                        first | (rw [if_pos (by omega)]; rw [q1, show (2 : Int) = ((2 : Nat) : Int) from rfl, bDivN (by omega) (by omega) (by omega)]; done) | (rw [if_neg (by omega)]; exact q1)
                                                      · simp [up2_at, fH]
                                                        first | (rw [if_pos (by omega)]; rw [q2, show (2 : Int) = ((2 : Nat) : Int) from rfl, bDivN (by omega) (by omega) (by omega)]; done) | (rw [if_neg (by omega)]; exact q2)
                                                      · simp [up2_at, fP]
                                                        first | (rw [if_pos (by omega)]; (try rfl); done) | (rw [if_neg (by omega)]; exact q3)
                                                      · simp [up2_at, fL]
                                                        rw [q4]
                                                        first | (rw [if_pos (by omega)]; rfl) | (rw [if_neg (by omega), if_pos (by omega)]; rfl) | (rw [if_neg (by omega), if_neg (by omega), if_pos (by omega), q5]) | (rw [if_neg (by omega), if_neg (by omega), if_neg (by omega)]; rfl)
                                                      · simp [up2_at, fS]
                                                        first | (rw [if_pos (by omega), q5]; rfl) | (rw [if_neg (by omega)]; exact q5)))
                                            · first
                                              | (simp (discharger := omega) only [wr_id] at c_193; done)
                                              | (try simp (discharger := omega) only [wr_id] at c_193
                                                 exfalso
                                                 first | omega | exact c_193 trivial)
                                              | (try simp (discharger := omega) only [wr_id] at c_193
                                                 refine R_aload_n dX5_measure_196 rfl rfl ?_
                                                 refine R_getA fRX5_48 dX5_measure_197 rfl (Nat.lt_of_lt_of_le (Nat.le_of_ble_eq_true rfl) hnx) rfl ?_
                                                 refine R_iload_n dX5_measure_200 rfl rfl ?_
                                                 refine R_iaload (k := i) dX5_measure_201 rfl (Nat.lt_of_lt_of_le (Nat.le_of_ble_eq_true rfl) hnx) (by omega) (by omega) (by decide) ?_
                                                 refine R_goto (tgt := 206) dX5_measure_202 (by decide) ?_
                                                 refine R_istore_n dX5_measure_206 rfl (Nat.le_of_ble_eq_true rfl) ?_
                                                 refine R_aload_n dX5_measure_207 rfl rfl ?_
                                                 refine R_getA fRX5_45 dX5_measure_208 rfl (Nat.lt_of_lt_of_le (Nat.le_of_ble_eq_true rfl) hnx) rfl ?_
                                                 refine R_iload_n dX5_measure_211 rfl rfl ?_
                                                 refine R_iconst dX5_measure_212 ?_
                                                 refine R_iadd dX5_measure_213 ?_
                                                 refine R_aload_n dX5_measure_214 rfl rfl ?_
                                                 refine R_getA fRX5_45 dX5_measure_215 rfl (Nat.lt_of_lt_of_le (Nat.le_of_ble_eq_true rfl) hnx) rfl ?_
                                                 refine R_iload_n dX5_measure_218 rfl rfl ?_
                                                 refine R_iaload (k := i) dX5_measure_219 rfl (Nat.lt_of_lt_of_le (Nat.le_of_ble_eq_true rfl) hnx) (by omega) (by omega) (by decide) ?_
                                                 refine R_iload_n dX5_measure_220 rfl rfl ?_
                                                 refine R_iadd dX5_measure_221 ?_
                                                 refine R_iastore (k := i + 1) dX5_measure_222 rfl (Nat.lt_of_lt_of_le (Nat.le_of_ble_eq_true rfl) hnx) (by omega) (by omega) (by decide) ?_
                                                 refine R_aload_n dX5_measure_223 rfl rfl ?_
                                                 refine R_getA fRX5_48 dX5_measure_224 rfl (Nat.lt_of_lt_of_le (Nat.le_of_ble_eq_true rfl) hnx) rfl ?_
                                                 refine R_iload_n dX5_measure_227 rfl rfl ?_
                                                 refine R_iconst dX5_measure_228 ?_
                                                 refine R_iadd dX5_measure_229 ?_
                                                 refine R_iload_n dX5_measure_230 rfl rfl ?_
                                                 refine R_if_eq (tgt := 245) dX5_measure_231 (by decide) (fun c_231 => ?_) (fun c_231 => ?_)
                                                 · first
                                                   | (simp (discharger := omega) only [wr_id] at c_231; done)
                                                   | (try simp (discharger := omega) only [wr_id] at c_231
                                                      exfalso
                                                      first | omega | exact c_231 trivial)
                                                   | (try simp (discharger := omega) only [wr_id] at c_231
                                                      refine R_aload_n dX5_measure_245 rfl rfl ?_
                                                      refine R_getA fRX5_48 dX5_measure_246 rfl (Nat.lt_of_lt_of_le (Nat.le_of_ble_eq_true rfl) hnx) rfl ?_
                                                      refine R_iload_n dX5_measure_249 rfl rfl ?_
                                                      refine R_iaload (k := i) dX5_measure_250 rfl (Nat.lt_of_lt_of_le (Nat.le_of_ble_eq_true rfl) hnx) (by omega) (by omega) (by decide) ?_
                                                      refine R_iastore (k := i + 1) dX5_measure_251 rfl (Nat.lt_of_lt_of_le (Nat.le_of_ble_eq_true rfl) hnx) (by omega) (by omega) (by decide) ?_
                                                      refine R_iinc dX5_measure_252 rfl (Nat.le_of_ble_eq_true rfl) ?_
                                                      refine R_goto (tgt := 43) dX5_measure_255 (by decide) ?_
                                                      refine step hi2 _ (fun p hp => ?_) (fun p h1 h2 k hk => ?_) ?_ ?_ ?_ ?_ ?_ _ _
                                                      · rw [up2_ne _ _ _ (by omega), up2_ne _ _ _ (by omega), up2_ne _ _ _ (by omega), up2_ne _ _ _ (by omega), up2_ne _ _ _ (by omega)]
                                                      · simp only [up2_at]
                                                        rw [if_neg (by omega), if_neg (by omega), if_neg (by omega), if_neg (by omega), if_neg (by omega)]
                                                      · simp [up2_at, fW]
                                                        first | (rw [if_pos (by omega)]; rw [q1, show (2 : Int) = ((2 : Nat) : Int) from rfl, bDivN (by omega) (by omega) (by omega)]; done) | (rw [if_neg (by omega)]; exact q1)
                                                      · simp [up2_at, fH]
                                                        first | (rw [if_pos (by omega)]; rw [q2, show (2 : Int) = ((2 : Nat) : Int) from rfl, bDivN (by omega) (by omega) (by omega)]; done) | (rw [if_neg (by omega)]; exact q2)
                                                      · simp [up2_at, fP]
                                                        first | (rw [if_pos (by omega)]; (try rfl); done) | (rw [if_neg (by omega)]; exact q3)
                                                      · simp [up2_at, fL]
                                                        rw [q4]
                                                        first | (rw [if_pos (by omega)]; rfl) | (rw [if_neg (by omega), if_pos (by omega)]; rfl) | (rw [if_neg (by omega), if_neg (by omega), if_pos (by omega), q5]) | (rw [if_neg (by omega), if_neg (by omega), if_neg (by omega)]; rfl)
                                                      · simp [up2_at, fS]
                                                        first | (rw [if_pos (by omega), q5]; rfl) | (rw [if_neg (by omega)]; exact q5))
                                                 · first
                                                   | (simp (discharger := omega) only [wr_id] at c_231; done)
                                                   | (try simp (discharger := omega) only [wr_id] at c_231
                                                      exfalso
                                                      first | omega | exact c_231 trivial)
                                                   | (try simp (discharger := omega) only [wr_id] at c_231
                                                      refine R_iconst dX5_measure_234 ?_
                                                      refine R_aload_n dX5_measure_235 rfl rfl ?_
                                                      refine R_getA fRX5_48 dX5_measure_236 rfl (Nat.lt_of_lt_of_le (Nat.le_of_ble_eq_true rfl) hnx) rfl ?_
                                                      refine R_iload_n dX5_measure_239 rfl rfl ?_
                                                      refine R_iaload (k := i) dX5_measure_240 rfl (Nat.lt_of_lt_of_le (Nat.le_of_ble_eq_true rfl) hnx) (by omega) (by omega) (by decide) ?_
                                                      refine R_imul dX5_measure_241 ?_
                                                      refine R_goto (tgt := 251) dX5_measure_242 (by decide) ?_
                                                      refine R_iastore (k := i + 1) dX5_measure_251 rfl (Nat.lt_of_lt_of_le (Nat.le_of_ble_eq_true rfl) hnx) (by omega) (by omega) (by decide) ?_
                                                      refine R_iinc dX5_measure_252 rfl (Nat.le_of_ble_eq_true rfl) ?_
                                                      refine R_goto (tgt := 43) dX5_measure_255 (by decide) ?_
                                                      refine step hi2 _ (fun p hp => ?_) (fun p h1 h2 k hk => ?_) ?_ ?_ ?_ ?_ ?_ _ _
                                                      · rw [up2_ne _ _ _ (by omega), up2_ne _ _ _ (by omega), up2_ne _ _ _ (by omega), up2_ne _ _ _ (by omega), up2_ne _ _ _ (by omega)]
                                                      · simp only [up2_at]
                                                        rw [if_neg (by omega), if_neg (by omega), if_neg (by omega), if_neg (by omega), if_neg (by omega)]
                                                      · simp [up2_at, fW]
                                                        first | (rw [if_pos (by omega)]; rw [q1, show (2 : Int) = ((2 : Nat) : Int) from rfl, bDivN (by omega) (by omega) (by omega)]; done) | (rw [if_neg (by omega)]; exact q1)
                                                      · simp [up2_at, fH]
                                                        first | (rw [if_pos (by omega)]; rw [q2, show (2 : Int) = ((2 : Nat) : Int) from rfl, bDivN (by omega) (by omega) (by omega)]; done) | (rw [if_neg (by omega)]; exact q2)
                                                      · simp [up2_at, fP]
                                                        first | (rw [if_pos (by omega)]; (try rfl); done) | (rw [if_neg (by omega)]; exact q3)
                                                      · simp [up2_at, fL]
                                                        rw [q4]
                                                        first | (rw [if_pos (by omega)]; rfl) | (rw [if_neg (by omega), if_pos (by omega)]; rfl) | (rw [if_neg (by omega), if_neg (by omega), if_pos (by omega), q5]) | (rw [if_neg (by omega), if_neg (by omega), if_neg (by omega)]; rfl)
                                                      · simp [up2_at, fS]
                                                        first | (rw [if_pos (by omega), q5]; rfl) | (rw [if_neg (by omega)]; exact q5))))
                                       · first
                                         | (simp (discharger := omega) only [wr_id] at c_185; done)
                                         | (try simp (discharger := omega) only [wr_id] at c_185
                                            exfalso
                                            first | omega | exact c_185 trivial)
                                         | (try simp (discharger := omega) only [wr_id] at c_185
                                            refine R_iconst dX5_measure_188 ?_
                                            refine R_goto (tgt := 206) dX5_measure_189 (by decide) ?_
                                            refine R_istore_n dX5_measure_206 rfl (Nat.le_of_ble_eq_true rfl) ?_
                                            refine R_aload_n dX5_measure_207 rfl rfl ?_
                                            refine R_getA fRX5_45 dX5_measure_208 rfl (Nat.lt_of_lt_of_le (Nat.le_of_ble_eq_true rfl) hnx) rfl ?_
                                            refine R_iload_n dX5_measure_211 rfl rfl ?_
                                            refine R_iconst dX5_measure_212 ?_
                                            refine R_iadd dX5_measure_213 ?_
                                            refine R_aload_n dX5_measure_214 rfl rfl ?_
                                            refine R_getA fRX5_45 dX5_measure_215 rfl (Nat.lt_of_lt_of_le (Nat.le_of_ble_eq_true rfl) hnx) rfl ?_
                                            refine R_iload_n dX5_measure_218 rfl rfl ?_
                                            refine R_iaload (k := i) dX5_measure_219 rfl (Nat.lt_of_lt_of_le (Nat.le_of_ble_eq_true rfl) hnx) (by omega) (by omega) (by decide) ?_
                                            refine R_iload_n dX5_measure_220 rfl rfl ?_
                                            refine R_iadd dX5_measure_221 ?_
                                            refine R_iastore (k := i + 1) dX5_measure_222 rfl (Nat.lt_of_lt_of_le (Nat.le_of_ble_eq_true rfl) hnx) (by omega) (by omega) (by decide) ?_
                                            refine R_aload_n dX5_measure_223 rfl rfl ?_
                                            refine R_getA fRX5_48 dX5_measure_224 rfl (Nat.lt_of_lt_of_le (Nat.le_of_ble_eq_true rfl) hnx) rfl ?_
                                            refine R_iload_n dX5_measure_227 rfl rfl ?_
                                            refine R_iconst dX5_measure_228 ?_
                                            refine R_iadd dX5_measure_229 ?_
                                            refine R_iload_n dX5_measure_230 rfl rfl ?_
                                            refine R_if_eq (tgt := 245) dX5_measure_231 (by decide) (fun c_231 => ?_) (fun c_231 => ?_)
                                            · first
                                              | (simp (discharger := omega) only [wr_id] at c_231; done)
                                              | (try simp (discharger := omega) only [wr_id] at c_231
                                                 exfalso
                                                 first | omega | exact c_231 trivial)
                                              | (try simp (discharger := omega) only [wr_id] at c_231
                                                 refine R_aload_n dX5_measure_245 rfl rfl ?_
                                                 refine R_getA fRX5_48 dX5_measure_246 rfl (Nat.lt_of_lt_of_le (Nat.le_of_ble_eq_true rfl) hnx) rfl ?_
                                                 refine R_iload_n dX5_measure_249 rfl rfl ?_
                                                 refine R_iaload (k := i) dX5_measure_250 rfl (Nat.lt_of_lt_of_le (Nat.le_of_ble_eq_true rfl) hnx) (by omega) (by omega) (by decide) ?_
                                                 refine R_iastore (k := i + 1) dX5_measure_251 rfl (Nat.lt_of_lt_of_le (Nat.le_of_ble_eq_true rfl) hnx) (by omega) (by omega) (by decide) ?_
                                                 refine R_iinc dX5_measure_252 rfl (Nat.le_of_ble_eq_true rfl) ?_
                                                 refine R_goto (tgt := 43) dX5_measure_255 (by decide) ?_
                                                 refine step hi2 _ (fun p hp => ?_) (fun p h1 h2 k hk => ?_) ?_ ?_ ?_ ?_ ?_ _ _
                                                 · rw [up2_ne _ _ _ (by omega), up2_ne _ _ _ (by omega), up2_ne _ _ _ (by omega), up2_ne _ _ _ (by omega), up2_ne _ _ _ (by omega)]
                                                 · simp only [up2_at]
                                                   rw [if_neg (by omega), if_neg (by omega), if_neg (by omega), if_neg (by omega), if_neg (by omega)]
                                                 · simp [up2_at, fW]
                                                   first | (rw [if_pos (by omega)]; rw [q1, show (2 : Int) = ((2 : Nat) : Int) from rfl, bDivN (by omega) (by omega) (by omega)]; done) | (rw [if_neg (by omega)]; exact q1)
                                                 · simp [up2_at, fH]
                                                   first | (rw [if_pos (by omega)]; rw [q2, show (2 : Int) = ((2 : Nat) : Int) from rfl, bDivN (by omega) (by omega) (by omega)]; done) | (rw [if_neg (by omega)]; exact q2)
                                                 · simp [up2_at, fP]
                                                   first | (rw [if_pos (by omega)]; (try rfl); done) | (rw [if_neg (by omega)]; exact q3)
                                                 · simp [up2_at, fL]
                                                   rw [q4]
                                                   first | (rw [if_pos (by omega)]; rfl) | (rw [if_neg (by omega), if_pos (by omega)]; rfl) | (rw [if_neg (by omega), if_neg (by omega), if_pos (by omega), q5]) | (rw [if_neg (by omega), if_neg (by omega), if_neg (by omega)]; rfl)
                                                 · simp [up2_at, fS]
                                                   first | (rw [if_pos (by omega), q5]; rfl) | (rw [if_neg (by omega)]; exact q5))
                                            · first
                                              | (simp (discharger := omega) only [wr_id] at c_231; done)
                                              | (try simp (discharger := omega) only [wr_id] at c_231
                                                 exfalso
                                                 first | omega | exact c_231 trivial)
                                              | (try simp (discharger := omega) only [wr_id] at c_231
                                                 refine R_iconst dX5_measure_234 ?_
                                                 refine R_aload_n dX5_measure_235 rfl rfl ?_
                                                 refine R_getA fRX5_48 dX5_measure_236 rfl (Nat.lt_of_lt_of_le (Nat.le_of_ble_eq_true rfl) hnx) rfl ?_
                                                 refine R_iload_n dX5_measure_239 rfl rfl ?_
                                                 refine R_iaload (k := i) dX5_measure_240 rfl (Nat.lt_of_lt_of_le (Nat.le_of_ble_eq_true rfl) hnx) (by omega) (by omega) (by decide) ?_
                                                 refine R_imul dX5_measure_241 ?_
                                                 refine R_goto (tgt := 251) dX5_measure_242 (by decide) ?_
                                                 refine R_iastore (k := i + 1) dX5_measure_251 rfl (Nat.lt_of_lt_of_le (Nat.le_of_ble_eq_true rfl) hnx) (by omega) (by omega) (by decide) ?_
                                                 refine R_iinc dX5_measure_252 rfl (Nat.le_of_ble_eq_true rfl) ?_
                                                 refine R_goto (tgt := 43) dX5_measure_255 (by decide) ?_
                                                 refine step hi2 _ (fun p hp => ?_) (fun p h1 h2 k hk => ?_) ?_ ?_ ?_ ?_ ?_ _ _
                                                 · rw [up2_ne _ _ _ (by omega), up2_ne _ _ _ (by omega), up2_ne _ _ _ (by omega), up2_ne _ _ _ (by omega), up2_ne _ _ _ (by omega)]
                                                 · simp only [up2_at]
                                                   rw [if_neg (by omega), if_neg (by omega), if_neg (by omega), if_neg (by omega), if_neg (by omega)]
                                                 · simp [up2_at, fW]
                                                   first | (rw [if_pos (by omega)]; rw [q1, show (2 : Int) = ((2 : Nat) : Int) from rfl, bDivN (by omega) (by omega) (by omega)]; done) | (rw [if_neg (by omega)]; exact q1)
                                                 · simp [up2_at, fH]
                                                   first | (rw [if_pos (by omega)]; rw [q2, show (2 : Int) = ((2 : Nat) : Int) from rfl, bDivN (by omega) (by omega) (by omega)]; done) | (rw [if_neg (by omega)]; exact q2)
                                                 · simp [up2_at, fP]
                                                   first | (rw [if_pos (by omega)]; (try rfl); done) | (rw [if_neg (by omega)]; exact q3)
                                                 · simp [up2_at, fL]
                                                   rw [q4]
                                                   first | (rw [if_pos (by omega)]; rfl) | (rw [if_neg (by omega), if_pos (by omega)]; rfl) | (rw [if_neg (by omega), if_neg (by omega), if_pos (by omega), q5]) | (rw [if_neg (by omega), if_neg (by omega), if_neg (by omega)]; rfl)
                                                 · simp [up2_at, fS]
                                                   first | (rw [if_pos (by omega), q5]; rfl) | (rw [if_neg (by omega)]; exact q5))))
                                  · first
                                    | (simp (discharger := omega) only [wr_id] at c_171; done)
                                    | (try simp (discharger := omega) only [wr_id] at c_171
                                       exfalso
                                       first | omega | exact c_171 trivial)
                                    | (try simp (discharger := omega) only [wr_id] at c_171
                                       refine R_iconst dX5_measure_174 ?_
                                       refine R_goto (tgt := 206) dX5_measure_175 (by decide) ?_
                                       refine R_istore_n dX5_measure_206 rfl (Nat.le_of_ble_eq_true rfl) ?_
                                       refine R_aload_n dX5_measure_207 rfl rfl ?_
                                       refine R_getA fRX5_45 dX5_measure_208 rfl (Nat.lt_of_lt_of_le (Nat.le_of_ble_eq_true rfl) hnx) rfl ?_
                                       refine R_iload_n dX5_measure_211 rfl rfl ?_
                                       refine R_iconst dX5_measure_212 ?_
                                       refine R_iadd dX5_measure_213 ?_
                                       refine R_aload_n dX5_measure_214 rfl rfl ?_
                                       refine R_getA fRX5_45 dX5_measure_215 rfl (Nat.lt_of_lt_of_le (Nat.le_of_ble_eq_true rfl) hnx) rfl ?_
                                       refine R_iload_n dX5_measure_218 rfl rfl ?_
                                       refine R_iaload (k := i) dX5_measure_219 rfl (Nat.lt_of_lt_of_le (Nat.le_of_ble_eq_true rfl) hnx) (by omega) (by omega) (by decide) ?_
                                       refine R_iload_n dX5_measure_220 rfl rfl ?_
                                       refine R_iadd dX5_measure_221 ?_
                                       refine R_iastore (k := i + 1) dX5_measure_222 rfl (Nat.lt_of_lt_of_le (Nat.le_of_ble_eq_true rfl) hnx) (by omega) (by omega) (by decide) ?_
                                       refine R_aload_n dX5_measure_223 rfl rfl ?_
                                       refine R_getA fRX5_48 dX5_measure_224 rfl (Nat.lt_of_lt_of_le (Nat.le_of_ble_eq_true rfl) hnx) rfl ?_
                                       refine R_iload_n dX5_measure_227 rfl rfl ?_
                                       refine R_iconst dX5_measure_228 ?_
                                       refine R_iadd dX5_measure_229 ?_
                                       refine R_iload_n dX5_measure_230 rfl rfl ?_
                                       refine R_if_eq (tgt := 245) dX5_measure_231 (by decide) (fun c_231 => ?_) (fun c_231 => ?_)
                                       · first
                                         | (simp (discharger := omega) only [wr_id] at c_231; done)
                                         | (try simp (discharger := omega) only [wr_id] at c_231
                                            exfalso
                                            first | omega | exact c_231 trivial)
                                         | (try simp (discharger := omega) only [wr_id] at c_231
                                            refine R_aload_n dX5_measure_245 rfl rfl ?_
                                            refine R_getA fRX5_48 dX5_measure_246 rfl (Nat.lt_of_lt_of_le (Nat.le_of_ble_eq_true rfl) hnx) rfl ?_
                                            refine R_iload_n dX5_measure_249 rfl rfl ?_
                                            refine R_iaload (k := i) dX5_measure_250 rfl (Nat.lt_of_lt_of_le (Nat.le_of_ble_eq_true rfl) hnx) (by omega) (by omega) (by decide) ?_
                                            refine R_iastore (k := i + 1) dX5_measure_251 rfl (Nat.lt_of_lt_of_le (Nat.le_of_ble_eq_true rfl) hnx) (by omega) (by omega) (by decide) ?_
                                            refine R_iinc dX5_measure_252 rfl (Nat.le_of_ble_eq_true rfl) ?_
                                            refine R_goto (tgt := 43) dX5_measure_255 (by decide) ?_
                                            refine step hi2 _ (fun p hp => ?_) (fun p h1 h2 k hk => ?_) ?_ ?_ ?_ ?_ ?_ _ _
                                            · rw [up2_ne _ _ _ (by omega), up2_ne _ _ _ (by omega), up2_ne _ _ _ (by omega), up2_ne _ _ _ (by omega), up2_ne _ _ _ (by omega)]
                                            · simp only [up2_at]
                                              rw [if_neg (by omega), if_neg (by omega), if_neg (by omega), if_neg (by omega), if_neg (by omega)]
                                            · simp [up2_at, fW]
                                              first | (rw [if_pos (by omega)]; rw [q1, show (2 : Int) = ((2 : Nat) : Int) from rfl, bDivN (by omega) (by omega) (by omega)]; done) | (rw [if_neg (by omega)]; exact q1)
                                            · simp [up2_at, fH]
                                              first | (rw [if_pos (by omega)]; rw [q2, show (2 : Int) = ((2 : Nat) : Int) from rfl, bDivN (by omega) (by omega) (by omega)]; done) | (rw [if_neg (by omega)]; exact q2)
                                            · simp [up2_at, fP]
                                              first | (rw [if_pos (by omega)]; (try rfl); done) | (rw [if_neg (by omega)]; exact q3)
                                            · simp [up2_at, fL]
                                              rw [q4]
                                              first | (rw [if_pos (by omega)]; rfl) | (rw [if_neg (by omega), if_pos (by omega)]; rfl) | (rw [if_neg (by omega), if_neg (by omega), if_pos (by omega), q5]) | (rw [if_neg (by omega), if_neg (by omega), if_neg (by omega)]; rfl)
                                            · simp [up2_at, fS]
                                              first | (rw [if_pos (by omega), q5]; rfl) | (rw [if_neg (by omega)]; exact q5))
                                       · first
                                         | (simp (discharger := omega) only [wr_id] at c_231; done)
                                         | (try simp (discharger := omega) only [wr_id] at c_231
                                            exfalso
                                            first | omega | exact c_231 trivial)
                                         | (try simp (discharger := omega) only [wr_id] at c_231
                                            refine R_iconst dX5_measure_234 ?_
                                            refine R_aload_n dX5_measure_235 rfl rfl ?_
                                            refine R_getA fRX5_48 dX5_measure_236 rfl (Nat.lt_of_lt_of_le (Nat.le_of_ble_eq_true rfl) hnx) rfl ?_
                                            refine R_iload_n dX5_measure_239 rfl rfl ?_
                                            refine R_iaload (k := i) dX5_measure_240 rfl (Nat.lt_of_lt_of_le (Nat.le_of_ble_eq_true rfl) hnx) (by omega) (by omega) (by decide) ?_
                                            refine R_imul dX5_measure_241 ?_
                                            refine R_goto (tgt := 251) dX5_measure_242 (by decide) ?_
                                            refine R_iastore (k := i + 1) dX5_measure_251 rfl (Nat.lt_of_lt_of_le (Nat.le_of_ble_eq_true rfl) hnx) (by omega) (by omega) (by decide) ?_
                                            refine R_iinc dX5_measure_252 rfl (Nat.le_of_ble_eq_true rfl) ?_
                                            refine R_goto (tgt := 43) dX5_measure_255 (by decide) ?_
                                            refine step hi2 _ (fun p hp => ?_) (fun p h1 h2 k hk => ?_) ?_ ?_ ?_ ?_ ?_ _ _
                                            · rw [up2_ne _ _ _ (by omega), up2_ne _ _ _ (by omega), up2_ne _ _ _ (by omega), up2_ne _ _ _ (by omega), up2_ne _ _ _ (by omega)]
                                            · simp only [up2_at]
                                              rw [if_neg (by omega), if_neg (by omega), if_neg (by omega), if_neg (by omega), if_neg (by omega)]
                                            · simp [up2_at, fW]
                                              first | (rw [if_pos (by omega)]; rw [q1, show (2 : Int) = ((2 : Nat) : Int) from rfl, bDivN (by omega) (by omega) (by omega)]; done) | (rw [if_neg (by omega)]; exact q1)
                                            · simp [up2_at, fH]
                                              first | (rw [if_pos (by omega)]; rw [q2, show (2 : Int) = ((2 : Nat) : Int) from rfl, bDivN (by omega) (by omega) (by omega)]; done) | (rw [if_neg (by omega)]; exact q2)
                                            · simp [up2_at, fP]
                                              first | (rw [if_pos (by omega)]; (try rfl); done) | (rw [if_neg (by omega)]; exact q3)
                                            · simp [up2_at, fL]
                                              rw [q4]
                                              first | (rw [if_pos (by omega)]; rfl) | (rw [if_neg (by omega), if_pos (by omega)]; rfl) | (rw [if_neg (by omega), if_neg (by omega), if_pos (by omega), q5]) | (rw [if_neg (by omega), if_neg (by omega), if_neg (by omega)]; rfl)
                                            · simp [up2_at, fS]
                                              first | (rw [if_pos (by omega), q5]; rfl) | (rw [if_neg (by omega)]; exact q5)))))
                        · first
                          | (simp (discharger := omega) only [wr_id] at c_140; done)
                          | (try simp (discharger := omega) only [wr_id] at c_140
                             exfalso
                             first | omega | exact c_140 trivial)
                          | (try simp (discharger := omega) only [wr_id] at c_140
                             refine R_iconst dX5_measure_143 ?_
                             refine R_goto (tgt := 153) dX5_measure_144 (by decide) ?_
                             refine R_iastore (k := i + 1) dX5_measure_153 rfl (Nat.lt_of_lt_of_le (Nat.le_of_ble_eq_true rfl) hnx) (by omega) (by omega) (by decide) ?_
                             refine R_aload_n dX5_measure_154 rfl rfl ?_
                             refine R_getA fRX5_24 dX5_measure_155 rfl (Nat.lt_of_lt_of_le (Nat.le_of_ble_eq_true rfl) hnx) rfl ?_
                             refine R_iload_n dX5_measure_158 rfl rfl ?_
                             refine R_iaload (k := i) dX5_measure_159 rfl (Nat.lt_of_lt_of_le (Nat.le_of_ble_eq_true rfl) hnx) (by omega) (by omega) (by decide) ?_
                             refine R_iconst dX5_measure_160 ?_
                             dsimp only
                             rw [up2_ne _ _ _ (by decide), up2_ne _ _ _ (by decide), up2_ne _ _ _ (by decide), e6]
                             refine R_icmp_eq (tgt := 174) dX5_measure_161 (by decide) (fun c_161 => ?_) (fun c_161 => ?_)
                             · first
                               | (simp (discharger := omega) only [wr_id] at c_161; done)
                               | (try simp (discharger := omega) only [wr_id] at c_161
                                  exfalso
                                  first | omega | exact c_161 trivial)
                               | (try simp (discharger := omega) only [wr_id] at c_161
                                  refine R_iconst dX5_measure_174 ?_
                                  refine R_goto (tgt := 206) dX5_measure_175 (by decide) ?_
                                  refine R_istore_n dX5_measure_206 rfl (Nat.le_of_ble_eq_true rfl) ?_
                                  refine R_aload_n dX5_measure_207 rfl rfl ?_
                                  refine R_getA fRX5_45 dX5_measure_208 rfl (Nat.lt_of_lt_of_le (Nat.le_of_ble_eq_true rfl) hnx) rfl ?_
                                  refine R_iload_n dX5_measure_211 rfl rfl ?_
                                  refine R_iconst dX5_measure_212 ?_
                                  refine R_iadd dX5_measure_213 ?_
                                  refine R_aload_n dX5_measure_214 rfl rfl ?_
                                  refine R_getA fRX5_45 dX5_measure_215 rfl (Nat.lt_of_lt_of_le (Nat.le_of_ble_eq_true rfl) hnx) rfl ?_
                                  refine R_iload_n dX5_measure_218 rfl rfl ?_
                                  refine R_iaload (k := i) dX5_measure_219 rfl (Nat.lt_of_lt_of_le (Nat.le_of_ble_eq_true rfl) hnx) (by omega) (by omega) (by decide) ?_
                                  refine R_iload_n dX5_measure_220 rfl rfl ?_
                                  refine R_iadd dX5_measure_221 ?_
                                  refine R_iastore (k := i + 1) dX5_measure_222 rfl (Nat.lt_of_lt_of_le (Nat.le_of_ble_eq_true rfl) hnx) (by omega) (by omega) (by decide) ?_
                                  refine R_aload_n dX5_measure_223 rfl rfl ?_
                                  refine R_getA fRX5_48 dX5_measure_224 rfl (Nat.lt_of_lt_of_le (Nat.le_of_ble_eq_true rfl) hnx) rfl ?_
                                  refine R_iload_n dX5_measure_227 rfl rfl ?_
                                  refine R_iconst dX5_measure_228 ?_
                                  refine R_iadd dX5_measure_229 ?_
                                  refine R_iload_n dX5_measure_230 rfl rfl ?_
                                  refine R_if_eq (tgt := 245) dX5_measure_231 (by decide) (fun c_231 => ?_) (fun c_231 => ?_)
                                  · first
                                    | (simp (discharger := omega) only [wr_id] at c_231; done)
                                    | (try simp (discharger := omega) only [wr_id] at c_231
                                       exfalso
                                       first | omega | exact c_231 trivial)
                                    | (try simp (discharger := omega) only [wr_id] at c_231
                                       refine R_aload_n dX5_measure_245 rfl rfl ?_
                                       refine R_getA fRX5_48 dX5_measure_246 rfl (Nat.lt_of_lt_of_le (Nat.le_of_ble_eq_true rfl) hnx) rfl ?_
                                       refine R_iload_n dX5_measure_249 rfl rfl ?_
                                       refine R_iaload (k := i) dX5_measure_250 rfl (Nat.lt_of_lt_of_le (Nat.le_of_ble_eq_true rfl) hnx) (by omega) (by omega) (by decide) ?_
                                       refine R_iastore (k := i + 1) dX5_measure_251 rfl (Nat.lt_of_lt_of_le (Nat.le_of_ble_eq_true rfl) hnx) (by omega) (by omega) (by decide) ?_
                                       refine R_iinc dX5_measure_252 rfl (Nat.le_of_ble_eq_true rfl) ?_
                                       refine R_goto (tgt := 43) dX5_measure_255 (by decide) ?_
                                       refine step hi2 _ (fun p hp => ?_) (fun p h1 h2 k hk => ?_) ?_ ?_ ?_ ?_ ?_ _ _
                                       · rw [up2_ne _ _ _ (by omega), up2_ne _ _ _ (by omega), up2_ne _ _ _ (by omega), up2_ne _ _ _ (by omega), up2_ne _ _ _ (by omega)]
                                       · simp only [up2_at]
                                         rw [if_neg (by omega), if_neg (by omega), if_neg (by omega), if_neg (by omega), if_neg (by omega)]
                                       · simp [up2_at, fW]
                                         first | (rw [if_pos (by omega)]; rw [q1, show (2 : Int) = ((2 : Nat) : Int) from rfl, bDivN (by omega) (by omega) (by omega)]; done) | (rw [if_neg (by omega)]; exact q1)
                                       · simp [up2_at, fH]
                                         first | (rw [if_pos (by omega)]; rw [q2, show (2 : Int) = ((2 : Nat) : Int) from rfl, bDivN (by omega) (by omega) (by omega)]; done) | (rw [if_neg (by omega)]; exact q2)
                                       · simp [up2_at, fP]
                                         first | (rw [if_pos (by omega)]; (try rfl); done) | (rw [if_neg (by omega)]; exact q3)
                                       · simp [up2_at, fL]
                                         rw [q4]
                                         first | (rw [if_pos (by omega)]; rfl) | (rw [if_neg (by omega), if_pos (by omega)]; rfl) | (rw [if_neg (by omega), if_neg (by omega), if_pos (by omega), q5]) | (rw [if_neg (by omega), if_neg (by omega), if_neg (by omega)]; rfl)
                                       · simp [up2_at, fS]
                                         first | (rw [if_pos (by omega), q5]; rfl) | (rw [if_neg (by omega)]; exact q5))
                                  · first
                                    | (simp (discharger := omega) only [wr_id] at c_231; done)
                                    | (try simp (discharger := omega) only [wr_id] at c_231
                                       exfalso
                                       first | omega | exact c_231 trivial)
                                    | (try simp (discharger := omega) only [wr_id] at c_231
                                       refine R_iconst dX5_measure_234 ?_
                                       refine R_aload_n dX5_measure_235 rfl rfl ?_
                                       refine R_getA fRX5_48 dX5_measure_236 rfl (Nat.lt_of_lt_of_le (Nat.le_of_ble_eq_true rfl) hnx) rfl ?_
                                       refine R_iload_n dX5_measure_239 rfl rfl ?_
                                       refine R_iaload (k := i) dX5_measure_240 rfl (Nat.lt_of_lt_of_le (Nat.le_of_ble_eq_true rfl) hnx) (by omega) (by omega) (by decide) ?_
                                       refine R_imul dX5_measure_241 ?_
                                       refine R_goto (tgt := 251) dX5_measure_242 (by decide) ?_
                                       refine R_iastore (k := i + 1) dX5_measure_251 rfl (Nat.lt_of_lt_of_le (Nat.le_of_ble_eq_true rfl) hnx) (by omega) (by omega) (by decide) ?_
                                       refine R_iinc dX5_measure_252 rfl (Nat.le_of_ble_eq_true rfl) ?_
                                       refine R_goto (tgt := 43) dX5_measure_255 (by decide) ?_
                                       refine step hi2 _ (fun p hp => ?_) (fun p h1 h2 k hk => ?_) ?_ ?_ ?_ ?_ ?_ _ _
                                       · rw [up2_ne _ _ _ (by omega), up2_ne _ _ _ (by omega), up2_ne _ _ _ (by omega), up2_ne _ _ _ (by omega), up2_ne _ _ _ (by omega)]
                                       · simp only [up2_at]
                                         rw [if_neg (by omega), if_neg (by omega), if_neg (by omega), if_neg (by omega), if_neg (by omega)]
                                       · simp [up2_at, fW]
                                         first | (rw [if_pos (by omega)]; rw [q1, show (2 : Int) = ((2 : Nat) : Int) from rfl, bDivN (by omega) (by omega) (by omega)]; done) | (rw [if_neg (by omega)]; exact q1)
                                       · simp [up2_at, fH]
                                         first | (rw [if_pos (by omega)]; rw [q2, show (2 : Int) = ((2 : Nat) : Int) from rfl, bDivN (by omega) (by omega) (by omega)]; done) | (rw [if_neg (by omega)]; exact q2)
                                       · simp [up2_at, fP]
                                         first | (rw [if_pos (by omega)]; (try rfl); done) | (rw [if_neg (by omega)]; exact q3)
                                       · simp [up2_at, fL]
                                         rw [q4]
                                         first | (rw [if_pos (by omega)]; rfl) | (rw [if_neg (by omega), if_pos (by omega)]; rfl) | (rw [if_neg (by omega), if_neg (by omega), if_pos (by omega), q5]) | (rw [if_neg (by omega), if_neg (by omega), if_neg (by omega)]; rfl)
                                       · simp [up2_at, fS]
                                         first | (rw [if_pos (by omega), q5]; rfl) | (rw [if_neg (by omega)]; exact q5)))
                             · first
                               | (simp (discharger := omega) only [wr_id] at c_161; done)
                               | (try simp (discharger := omega) only [wr_id] at c_161
                                  exfalso
                                  first | omega | exact c_161 trivial)
                               | (try simp (discharger := omega) only [wr_id] at c_161
                                  refine R_aload_n dX5_measure_164 rfl rfl ?_
                                  refine R_getA fRX5_24 dX5_measure_165 rfl (Nat.lt_of_lt_of_le (Nat.le_of_ble_eq_true rfl) hnx) rfl ?_
                                  refine R_iload_n dX5_measure_168 rfl rfl ?_
                                  refine R_iaload (k := i) dX5_measure_169 rfl (Nat.lt_of_lt_of_le (Nat.le_of_ble_eq_true rfl) hnx) (by omega) (by omega) (by decide) ?_
                                  refine R_iconst dX5_measure_170 ?_
                                  dsimp only
                                  rw [up2_ne _ _ _ (by decide), up2_ne _ _ _ (by decide), up2_ne _ _ _ (by decide), e6]
                                  refine R_icmp_ne (tgt := 178) dX5_measure_171 (by decide) (fun c_171 => ?_) (fun c_171 => ?_)
                                  · first
                                    | (simp (discharger := omega) only [wr_id] at c_171; done)
                                    | (try simp (discharger := omega) only [wr_id] at c_171
                                       exfalso
                                       first | omega | exact c_171 trivial)
                                    | (try simp (discharger := omega) only [wr_id] at c_171
                                       refine R_aload_n dX5_measure_178 rfl rfl ?_
                                       refine R_getA fRX5_24 dX5_measure_179 rfl (Nat.lt_of_lt_of_le (Nat.le_of_ble_eq_true rfl) hnx) rfl ?_
                                       refine R_iload_n dX5_measure_182 rfl rfl ?_
                                       refine R_iaload (k := i) dX5_measure_183 rfl (Nat.lt_of_lt_of_le (Nat.le_of_ble_eq_true rfl) hnx) (by omega) (by omega) (by decide) ?_
                                       refine R_iconst dX5_measure_184 ?_
                                       dsimp only
                                       rw [up2_ne _ _ _ (by decide), up2_ne _ _ _ (by decide), up2_ne _ _ _ (by decide), e6]
                                       refine R_icmp_ne (tgt := 192) dX5_measure_185 (by decide) (fun c_185 => ?_) (fun c_185 => ?_)
                                       · first
                                         | (simp (discharger := omega) only [wr_id] at c_185; done)
                                         | (try simp (discharger := omega) only [wr_id] at c_185
                                            exfalso
                                            first | omega | exact c_185 trivial)
                                         | (try simp (discharger := omega) only [wr_id] at c_185
                                            refine R_iload_n dX5_measure_192 rfl rfl ?_
                                            refine R_if_eq (tgt := 205) dX5_measure_193 (by decide) (fun c_193 => ?_) (fun c_193 => ?_)
                                            · first
                                              | (simp (discharger := omega) only [wr_id] at c_193; done)
                                              | (try simp (discharger := omega) only [wr_id] at c_193
                                                 exfalso
                                                 first | omega | exact c_193 trivial)
                                              | (try simp (discharger := omega) only [wr_id] at c_193
                                                 refine R_iconst dX5_measure_205 ?_
                                                 refine R_istore_n dX5_measure_206 rfl (Nat.le_of_ble_eq_true rfl) ?_
                                                 refine R_aload_n dX5_measure_207 rfl rfl ?_
                                                 refine R_getA fRX5_45 dX5_measure_208 rfl (Nat.lt_of_lt_of_le (Nat.le_of_ble_eq_true rfl) hnx) rfl ?_
                                                 refine R_iload_n dX5_measure_211 rfl rfl ?_
                                                 refine R_iconst dX5_measure_212 ?_
                                                 refine R_iadd dX5_measure_213 ?_
                                                 refine R_aload_n dX5_measure_214 rfl rfl ?_
                                                 refine R_getA fRX5_45 dX5_measure_215 rfl (Nat.lt_of_lt_of_le (Nat.le_of_ble_eq_true rfl) hnx) rfl ?_
                                                 refine R_iload_n dX5_measure_218 rfl rfl ?_
                                                 refine R_iaload (k := i) dX5_measure_219 rfl (Nat.lt_of_lt_of_le (Nat.le_of_ble_eq_true rfl) hnx) (by omega) (by omega) (by decide) ?_
                                                 refine R_iload_n dX5_measure_220 rfl rfl ?_
                                                 refine R_iadd dX5_measure_221 ?_
                                                 refine R_iastore (k := i + 1) dX5_measure_222 rfl (Nat.lt_of_lt_of_le (Nat.le_of_ble_eq_true rfl) hnx) (by omega) (by omega) (by decide) ?_
                                                 refine R_aload_n dX5_measure_223 rfl rfl ?_
                                                 refine R_getA fRX5_48 dX5_measure_224 rfl (Nat.lt_of_lt_of_le (Nat.le_of_ble_eq_true rfl) hnx) rfl ?_
                                                 refine R_iload_n dX5_measure_227 rfl rfl ?_
                                                 refine R_iconst dX5_measure_228 ?_
                                                 refine R_iadd dX5_measure_229 ?_
                                                 refine R_iload_n dX5_measure_230 rfl rfl ?_
                                                 refine R_if_eq (tgt := 245) dX5_measure_231 (by decide) (fun c_231 => ?_) (fun c_231 => ?_)
                                                 · first
                                                   | (simp (discharger := omega) only [wr_id] at c_231; done)
                                                   | (try simp (discharger := omega) only [wr_id] at c_231
                                                      exfalso
                                                      first | omega | exact c_231 trivial)
                                                   | (try simp (discharger := omega) only [wr_id] at c_231
                                                      refine R_aload_n dX5_measure_245 rfl rfl ?_
                                                      refine R_getA fRX5_48 dX5_measure_246 rfl (Nat.lt_of_lt_of_le (Nat.le_of_ble_eq_true rfl) hnx) rfl ?_
                                                      refine R_iload_n dX5_measure_249 rfl rfl ?_
                                                      refine R_iaload (k := i) dX5_measure_250 rfl (Nat.lt_of_lt_of_le (Nat.le_of_ble_eq_true rfl) hnx) (by omega) (by omega) (by decide) ?_
                                                      refine R_iastore (k := i + 1) dX5_measure_251 rfl (Nat.lt_of_lt_of_le (Nat.le_of_ble_eq_true rfl) hnx) (by omega) (by omega) (by decide) ?_
                                                      refine R_iinc dX5_measure_252 rfl (Nat.le_of_ble_eq_true rfl) ?_
                                                      refine R_goto (tgt := 43) dX5_measure_255 (by decide) ?_
                                                      refine step hi2 _ (fun p hp => ?_) (fun p h1 h2 k hk => ?_) ?_ ?_ ?_ ?_ ?_ _ _
                                                      · rw [up2_ne _ _ _ (by omega), up2_ne _ _ _ (by omega), up2_ne _ _ _ (by omega), up2_ne _ _ _ (by omega), up2_ne _ _ _ (by omega)]
                                                      · simp only [up2_at]
                                                        rw [if_neg (by omega), if_neg (by omega), if_neg (by omega), if_neg (by omega), if_neg (by omega)]
                                                      · simp [up2_at, fW]
                                                        first | (rw [if_pos (by omega)]; rw [q1, show (2 : Int) = ((2 : Nat) : Int) from rfl, bDivN (by omega) (by omega) (by omega)]; done) | (rw [if_neg (by omega)]; exact q1)
                                                      · simp [up2_at, fH]
                                                        first | (rw [if_pos (by omega)]; rw [q2, show (2 : Int) = ((2 : Nat) : Int) from rfl, bDivN (by omega) (by omega) (by omega)]; done) | (rw [if_neg (by omega)]; exact q2)
                                                      · simp [up2_at, fP]
                                                        first | (rw [if_pos (by omega)]; (try rfl); done) | (rw [if_neg (by omega)]; exact q3)
                                                      · simp [up2_at, fL]
                                                        rw [q4]
                                                        first | (rw [if_pos (by omega)]; rfl) | (rw [if_neg (by omega), if_pos (by omega)]; rfl) | (rw [if_neg (by omega), if_neg (by omega), if_pos (by omega), q5]) | (rw [if_neg (by omega), if_neg (by omega), if_neg (by omega)]; rfl)
                                                      · simp [up2_at, fS]
                                                        first | (rw [if_pos (by omega), q5]; rfl) | (rw [if_neg (by omega)]; exact q5))
                                                 · first
                                                   | (simp (discharger := omega) only [wr_id] at c_231; done)
                                                   | (try simp (discharger := omega) only [wr_id] at c_231
                                                      exfalso
                                                      first | omega | exact c_231 trivial)
                                                   | (try simp (discharger := omega) only [wr_id] at c_231
                                                      refine R_iconst dX5_measure_234 ?_
                                                      refine R_aload_n dX5_measure_235 rfl rfl ?_
                                                      refine R_getA fRX5_48 dX5_measure_236 rfl (Nat.lt_of_lt_of_le (Nat.le_of_ble_eq_true rfl) hnx) rfl ?_
                                                      refine R_iload_n dX5_measure_239 rfl rfl ?_
                                                      refine R_iaload (k := i) dX5_measure_240 rfl (Nat.lt_of_lt_of_le (Nat.le_of_ble_eq_true rfl) hnx) (by omega) (by omega) (by decide) ?_
                                                      refine R_imul dX5_measure_241 ?_
                                                      refine R_goto (tgt := 251) dX5_measure_242 (by decide) ?_
                                                      refine R_iastore (k := i + 1) dX5_measure_251 rfl (Nat.lt_of_lt_of_le (Nat.le_of_ble_eq_true rfl) hnx) (by omega) (by omega) (by decide) ?_
                                                      refine R_iinc dX5_measure_252 rfl (Nat.le_of_ble_eq_true rfl) ?_
                                                      refine R_goto (tgt := 43) dX5_measure_255 (by decide) ?_
                                                      refine step hi2 _ (fun p hp => ?_) (fun p h1 h2 k hk => ?_) ?_ ?_ ?_ ?_ ?_ _ _
                                                      · rw [up2_ne _ _ _ (by omega), up2_ne _ _ _ (by omega), up2_ne _ _ _ (by omega), up2_ne _ _ _ (by omega), up2_ne _ _ _ (by omega)]
                                                      · simp only [up2_at]
                                                        rw [if_neg (by omega), if_neg (by omega), if_neg (by omega), if_neg (by omega), if_neg (by omega)]
                                                      · simp [up2_at, fW]
                                                        first | (rw [if_pos (by omega)]; rw [q1, show (2 : Int) = ((2 : Nat) : Int) from rfl, bDivN (by omega) (by omega) (by omega)]; done) | (rw [if_neg (by omega)]; exact q1)
                                                      · simp [up2_at, fH]
                                                        first | (rw [if_pos (by omega)]; rw [q2, show (2 : Int) = ((2 : Nat) : Int) from rfl, bDivN (by omega) (by omega) (by omega)]; done) | (rw [if_neg (by omega)]; exact q2)
                                                      · simp [up2_at, fP]
                                                        first | (rw [if_pos (by omega)]; (try rfl); done) | (rw [if_neg (by omega)]; exact q3)
                                                      · simp [up2_at, fL]
                                                        rw [q4]
                                                        first | (rw [if_pos (by omega)]; rfl) | (rw [if_neg (by omega), if_pos (by omega)]; rfl) | (rw [if_neg (by omega), if_neg (by omega), if_pos (by omega), q5]) | (rw [if_neg (by omega), if_neg (by omega), if_neg (by omega)]; rfl)
                                                      · simp [up2_at, fS]
                                                        first | (rw [if_pos (by omega), q5]; rfl) | (rw [if_neg (by omega)]; exact q5)))
                                            · first
                                              | (simp (discharger := omega) only [wr_id] at c_193; done)
                                              | (try simp (discharger := omega) only [wr_id] at c_193
                                                 exfalso
                                                 first | omega | exact c_193 trivial)
                                              | (try simp (discharger := omega) only [wr_id] at c_193
                                                 refine R_aload_n dX5_measure_196 rfl rfl ?_
                                                 refine R_getA fRX5_48 dX5_measure_197 rfl (Nat.lt_of_lt_of_le (Nat.le_of_ble_eq_true rfl) hnx) rfl ?_
                                                 refine R_iload_n dX5_measure_200 rfl rfl ?_
                                                 refine R_iaload (k := i) dX5_measure_201 rfl (Nat.lt_of_lt_of_le (Nat.le_of_ble_eq_true rfl) hnx) (by omega) (by omega) (by decide) ?_
                                                 refine R_goto (tgt := 206) dX5_measure_202 (by decide) ?_
                                                 refine R_istore_n dX5_measure_206 rfl (Nat.le_of_ble_eq_true rfl) ?_
                                                 refine R_aload_n dX5_measure_207 rfl rfl ?_
                                                 refine R_getA fRX5_45 dX5_measure_208 rfl (Nat.lt_of_lt_of_le (Nat.le_of_ble_eq_true rfl) hnx) rfl ?_
                                                 refine R_iload_n dX5_measure_211 rfl rfl ?_
                                                 refine R_iconst dX5_measure_212 ?_
                                                 refine R_iadd dX5_measure_213 ?_
                                                 refine R_aload_n dX5_measure_214 rfl rfl ?_
                                                 refine R_getA fRX5_45 dX5_measure_215 rfl (Nat.lt_of_lt_of_le (Nat.le_of_ble_eq_true rfl) hnx) rfl ?_
                                                 refine R_iload_n dX5_measure_218 rfl rfl ?_
                                                 refine R_iaload (k := i) dX5_measure_219 rfl (Nat.lt_of_lt_of_le (Nat.le_of_ble_eq_true rfl) hnx) (by omega) (by omega) (by decide) ?_
                                                 refine R_iload_n dX5_measure_220 rfl rfl ?_
                                                 refine R_iadd dX5_measure_221 ?_
                                                 refine R_iastore (k := i + 1) dX5_measure_222 rfl (Nat.lt_of_lt_of_le (Nat.le_of_ble_eq_true rfl) hnx) (by omega) (by omega) (by decide) ?_
                                                 refine R_aload_n dX5_measure_223 rfl rfl ?_
                                                 refine R_getA fRX5_48 dX5_measure_224 rfl (Nat.lt_of_lt_of_le (Nat.le_of_ble_eq_true rfl) hnx) rfl ?_
                                                 refine R_iload_n dX5_measure_227 rfl rfl ?_
                                                 refine R_iconst dX5_measure_228 ?_
                                                 refine R_iadd dX5_measure_229 ?_
                                                 refine R_iload_n dX5_measure_230 rfl rfl ?_
                                                 refine R_if_eq (tgt := 245) dX5_measure_231 (by decide) (fun c_231 => ?_) (fun c_231 => ?_)
                                                 · first
                                                   | (simp (discharger := omega) only [wr_id] at c_231; done)
                                                   | (try simp (discharger := omega) only [wr_id] at c_231
                                                      exfalso
                                                      first | omega | exact c_231 trivial)
                                                   | (try simp (discharger := omega) only [wr_id] at c_231
                                                      refine R_aload_n dX5_measure_245 rfl rfl ?_
                                                      refine R_getA fRX5_48 dX5_measure_246 rfl (Nat.lt_of_lt_of_le (Nat.le_of_ble_eq_true rfl) hnx) rfl ?_
                                                      refine R_iload_n dX5_measure_249 rfl rfl ?_
                                                      refine R_iaload (k := i) dX5_measure_250 rfl (Nat.lt_of_lt_of_le (Nat.le_of_ble_eq_true rfl) hnx) (by omega) (by omega) (by decide) ?_
                                                      refine R_iastore (k := i + 1) dX5_measure_251 rfl (Nat.lt_of_lt_of_le (Nat.le_of_ble_eq_true rfl) hnx) (by omega) (by omega) (by decide) ?_
                                                      refine R_iinc dX5_measure_252 rfl (Nat.le_of_ble_eq_true rfl) ?_
                                                      refine R_goto (tgt := 43) dX5_measure_255 (by decide) ?_
                                                      refine step hi2 _ (fun p hp => ?_) (fun p h1 h2 k hk => ?_) ?_ ?_ ?_ ?_ ?_ _ _
                                                      · rw [up2_ne _ _ _ (by omega), up2_ne _ _ _ (by omega), up2_ne _ _ _ (by omega), up2_ne _ _ _ (by omega), up2_ne _ _ _ (by omega)]
                                                      · simp only [up2_at]
                                                        rw [if_neg (by omega), if_neg (by omega), if_neg (by omega), if_neg (by omega), if_neg (by omega)]
                                                      · simp [up2_at, fW]
                                                        first | (rw [if_pos (by omega)]; rw [q1, show (2 : Int) = ((2 : Nat) : Int) from rfl, bDivN (by omega) (by omega) (by omega)]; done) | (rw [if_neg (by omega)]; exact q1)
                                                      · simp [up2_at, fH]
                                                        first | (rw [if_pos (by omega)]; rw [q2, show (2 : Int) = ((2 : Nat) : Int) from rfl, bDivN (by omega) (by omega) (by omega)]; done) | (rw [if_neg (by omega)]; exact q2)
                                                      · simp [up2_at, fP]
                                                        first | (rw [if_pos (by omega)]; (try rfl); done) | (rw [if_neg (by omega)]; exact q3)
                                                      · simp [up2_at, fL]
                                                        rw [q4]
                                                        first | (rw [if_pos (by omega)]; rfl) | (rw [if_neg (by omega), if_pos (by omega)]; rfl) | (rw [if_neg (by omega), if_neg (by omega), if_pos (by omega), q5]) | (rw [if_neg (by omega), if_neg (by omega), if_neg (by omega)]; rfl)
                                                      · simp [up2_at, fS]
                                                        first | (rw [if_pos (by omega), q5]; rfl) | (rw [if_neg (by omega)]; exact q5))
                                                 · first
                                                   | (simp (discharger := omega) only [wr_id] at c_231; done)
                                                   | (try simp (discharger := omega) only [wr_id] at c_231
                                                      exfalso
                                                      first | omega | exact c_231 trivial)
                                                   | (try simp (discharger := omega) only [wr_id] at c_231
                                                      refine R_iconst dX5_measure_234 ?_
                                                      refine R_aload_n dX5_measure_235 rfl rfl ?_
                                                      refine R_getA fRX5_48 dX5_measure_236 rfl (Nat.lt_of_lt_of_le (Nat.le_of_ble_eq_true rfl) hnx) rfl ?_
                                                      refine R_iload_n dX5_measure_239 rfl rfl ?_
                                                      refine R_iaload (k := i) dX5_measure_240 rfl (Nat.lt_of_lt_of_le (Nat.le_of_ble_eq_true rfl) hnx) (by omega) (by omega) (by decide) ?_
                                                      refine R_imul dX5_measure_241 ?_
                                                      refine R_goto (tgt := 251) dX5_measure_242 (by decide) ?_
                                                      refine R_iastore (k := i + 1) dX5_measure_251 rfl (Nat.lt_of_lt_of_le (Nat.le_of_ble_eq_true rfl) hnx) (by omega) (by omega) (by decide) ?_
                                                      refine R_iinc dX5_measure_252 rfl (Nat.le_of_ble_eq_true rfl) ?_
                                                      refine R_goto (tgt := 43) dX5_measure_255 (by decide) ?_
                                                      refine step hi2 _ (fun p hp => ?_) (fun p h1 h2 k hk => ?_) ?_ ?_ ?_ ?_ ?_ _ _
                                                      · rw [up2_ne _ _ _ (by omega), up2_ne _ _ _ (by omega), up2_ne _ _ _ (by omega), up2_ne _ _ _ (by omega), up2_ne _ _ _ (by omega)]
                                                      · simp only [up2_at]
                                                        rw [if_neg (by omega), if_neg (by omega), if_neg (by omega), if_neg (by omega), if_neg (by omega)]
                                                      · simp [up2_at, fW]
                                                        first | (rw [if_pos (by omega)]; rw [q1, show (2 : Int) = ((2 : Nat) : Int) from rfl, bDivN (by omega) (by omega) (by omega)]; done) | (rw [if_neg (by omega)]; exact q1)
                                                      · simp [up2_at, fH]
                                                        first | (rw [if_pos (by omega)]; rw [q2, show (2 : Int) = ((2 : Nat) : Int) from rfl, bDivN (by omega) (by omega) (by omega)]; done) | (rw [if_neg (by omega)]; exact q2)
                                                      · simp [up2_at, fP]
                                                        first | (rw [if_pos (by omega)]; (try rfl); done) | (rw [if_neg (by omega)]; exact q3)
                                                      · simp [up2_at, fL]
                                                        rw [q4]
                                                        first | (rw [if_pos (by omega)]; rfl) | (rw [if_neg (by omega), if_pos (by omega)]; rfl) | (rw [if_neg (by omega), if_neg (by omega), if_pos (by omega), q5]) | (rw [if_neg (by omega), if_neg (by omega), if_neg (by omega)]; rfl)
                                                      · simp [up2_at, fS]
                                                        first | (rw [if_pos (by omega), q5]; rfl) | (rw [if_neg (by omega)]; exact q5))))
                                       · first
                                         | (simp (discharger := omega) only [wr_id] at c_185; done)
                                         | (try simp (discharger := omega) only [wr_id] at c_185
                                            exfalso
                                            first | omega | exact c_185 trivial)
                                         | (try simp (discharger := omega) only [wr_id] at c_185
                                            refine R_iconst dX5_measure_188 ?_
                                            refine R_goto (tgt := 206) dX5_measure_189 (by decide) ?_
                                            refine R_istore_n dX5_measure_206 rfl (Nat.le_of_ble_eq_true rfl) ?_
                                            refine R_aload_n dX5_measure_207 rfl rfl ?_
                                            refine R_getA fRX5_45 dX5_measure_208 rfl (Nat.lt_of_lt_of_le (Nat.le_of_ble_eq_true rfl) hnx) rfl ?_
                                            refine R_iload_n dX5_measure_211 rfl rfl ?_
                                            refine R_iconst dX5_measure_212 ?_
                                            refine R_iadd dX5_measure_213 ?_
                                            refine R_aload_n dX5_measure_214 rfl rfl ?_
                                            refine R_getA fRX5_45 dX5_measure_215 rfl (Nat.lt_of_lt_of_le (Nat.le_of_ble_eq_true rfl) hnx) rfl ?_
                                            refine R_iload_n dX5_measure_218 rfl rfl ?_
                                            refine R_iaload (k := i) dX5_measure_219 rfl (Nat.lt_of_lt_of_le (Nat.le_of_ble_eq_true rfl) hnx) (by omega) (by omega) (by decide) ?_
                                            refine R_iload_n dX5_measure_220 rfl rfl ?_
                                            refine R_iadd dX5_measure_221 ?_
                                            refine R_iastore (k := i + 1) dX5_measure_222 rfl (Nat.lt_of_lt_of_le (Nat.le_of_ble_eq_true rfl) hnx) (by omega) (by omega) (by decide) ?_
                                            refine R_aload_n dX5_measure_223 rfl rfl ?_
                                            refine R_getA fRX5_48 dX5_measure_224 rfl (Nat.lt_of_lt_of_le (Nat.le_of_ble_eq_true rfl) hnx) rfl ?_
                                            refine R_iload_n dX5_measure_227 rfl rfl ?_
                                            refine R_iconst dX5_measure_228 ?_
                                            refine R_iadd dX5_measure_229 ?_
                                            refine R_iload_n dX5_measure_230 rfl rfl ?_
                                            refine R_if_eq (tgt := 245) dX5_measure_231 (by decide) (fun c_231 => ?_) (fun c_231 => ?_)
                                            · first
                                              | (simp (discharger := omega) only [wr_id] at c_231; done)
                                              | (try simp (discharger := omega) only [wr_id] at c_231
                                                 exfalso
                                                 first | omega | exact c_231 trivial)
                                              | (try simp (discharger := omega) only [wr_id] at c_231
                                                 refine R_aload_n dX5_measure_245 rfl rfl ?_
                                                 refine R_getA fRX5_48 dX5_measure_246 rfl (Nat.lt_of_lt_of_le (Nat.le_of_ble_eq_true rfl) hnx) rfl ?_
                                                 refine R_iload_n dX5_measure_249 rfl rfl ?_
                                                 refine R_iaload (k := i) dX5_measure_250 rfl (Nat.lt_of_lt_of_le (Nat.le_of_ble_eq_true rfl) hnx) (by omega) (by omega) (by decide) ?_
                                                 refine R_iastore (k := i + 1) dX5_measure_251 rfl (Nat.lt_of_lt_of_le (Nat.le_of_ble_eq_true rfl) hnx) (by omega) (by omega) (by decide) ?_
                                                 refine R_iinc dX5_measure_252 rfl (Nat.le_of_ble_eq_true rfl) ?_
                                                 refine R_goto (tgt := 43) dX5_measure_255 (by decide) ?_
                                                 refine step hi2 _ (fun p hp => ?_) (fun p h1 h2 k hk => ?_) ?_ ?_ ?_ ?_ ?_ _ _
                                                 · rw [up2_ne _ _ _ (by omega), up2_ne _ _ _ (by omega), up2_ne _ _ _ (by omega), up2_ne _ _ _ (by omega), up2_ne _ _ _ (by omega)]
                                                 · simp only [up2_at]
                                                   rw [if_neg (by omega), if_neg (by omega), if_neg (by omega), if_neg (by omega), if_neg (by omega)]
                                                 · simp [up2_at, fW]
                                                   first | (rw [if_pos (by omega)]; rw [q1, show (2 : Int) = ((2 : Nat) : Int) from rfl, bDivN (by omega) (by omega) (by omega)]; done) | (rw [if_neg (by omega)]; exact q1)
                                                 · simp [up2_at, fH]
                                                   first | (rw [if_pos (by omega)]; rw [q2, show (2 : Int) = ((2 : Nat) : Int) from rfl, bDivN (by omega) (by omega) (by omega)]; done) | (rw [if_neg (by omega)]; exact q2)
                                                 · simp [up2_at, fP]
                                                   first | (rw [if_pos (by omega)]; (try rfl); done) | (rw [if_neg (by omega)]; exact q3)
                                                 · simp [up2_at, fL]
                                                   rw [q4]
                                                   first | (rw [if_pos (by omega)]; rfl) | (rw [if_neg (by omega), if_pos (by omega)]; rfl) | (rw [if_neg (by omega), if_neg (by omega), if_pos (by omega), q5]) | (rw [if_neg (by omega), if_neg (by omega), if_neg (by omega)]; rfl)
                                                 · simp [up2_at, fS]
                                                   first | (rw [if_pos (by omega), q5]; rfl) | (rw [if_neg (by omega)]; exact q5))
                                            · first
                                              | (simp (discharger := omega) only [wr_id] at c_231; done)
                                              | (try simp (discharger := omega) only [wr_id] at c_231
                                                 exfalso
                                                 first | omega | exact c_231 trivial)
                                              | (try simp (discharger := omega) only [wr_id] at c_231
                                                 refine R_iconst dX5_measure_234 ?_
                                                 refine R_aload_n dX5_measure_235 rfl rfl ?_
                                                 refine R_getA fRX5_48 dX5_measure_236 rfl (Nat.lt_of_lt_of_le (Nat.le_of_ble_eq_true rfl) hnx) rfl ?_
                                                 refine R_iload_n dX5_measure_239 rfl rfl ?_
                                                 refine R_iaload (k := i) dX5_measure_240 rfl (Nat.lt_of_lt_of_le (Nat.le_of_ble_eq_true rfl) hnx) (by omega) (by omega) (by decide) ?_
                                                 refine R_imul dX5_measure_241 ?_
                                                 refine R_goto (tgt := 251) dX5_measure_242 (by decide) ?_
                                                 refine R_iastore (k := i + 1) dX5_measure_251 rfl (Nat.lt_of_lt_of_le (Nat.le_of_ble_eq_true rfl) hnx) (by omega) (by omega) (by decide) ?_
                                                 refine R_iinc dX5_measure_252 rfl (Nat.le_of_ble_eq_true rfl) ?_
                                                 refine R_goto (tgt := 43) dX5_measure_255 (by decide) ?_
                                                 refine step hi2 _ (fun p hp => ?_) (fun p h1 h2 k hk => ?_) ?_ ?_ ?_ ?_ ?_ _ _
                                                 · rw [up2_ne _ _ _ (by omega), up2_ne _ _ _ (by omega), up2_ne _ _ _ (by omega), up2_ne _ _ _ (by omega), up2_ne _ _ _ (by omega)]
                                                 · simp only [up2_at]
                                                   rw [if_neg (by omega), if_neg (by omega), if_neg (by omega), if_neg (by omega), if_neg (by omega)]
                                                 · simp [up2_at, fW]
                                                   first | (rw [if_pos (by omega)]; rw [q1, show (2 : Int) = ((2 : Nat) : Int) from rfl, bDivN (by omega) (by omega) (by omega)]; done) | (rw [if_neg (by omega)]; exact q1)
                                                 · simp [up2_at, fH]
                                                   first | (rw [if_pos (by omega)]; rw [q2, show (2 : Int) = ((2 : Nat) : Int) from rfl, bDivN (by omega) (by omega) (by omega)]; done) | (rw [if_neg (by omega)]; exact q2)
                                                 · simp [up2_at, fP]
                                                   first | (rw [if_pos (by omega)]; (try rfl); done) | (rw [if_neg (by omega)]; exact q3)
                                                 · simp [up2_at, fL]
                                                   rw [q4]
                                                   first | (rw [if_pos (by omega)]; rfl) | (rw [if_neg (by omega), if_pos (by omega)]; rfl) | (rw [if_neg (by omega), if_neg (by omega), if_pos (by omega), q5]) | (rw [if_neg (by omega), if_neg (by omega), if_neg (by omega)]; rfl)
                                                 · simp [up2_at, fS]
                                                   first | (rw [if_pos (by omega), q5]; rfl) | (rw [if_neg (by omega)]; exact q5))))
                                  · first
                                    | (simp (discharger := omega) only [wr_id] at c_171; done)
                                    | (try simp (discharger := omega) only [wr_id] at c_171
                                       exfalso
                                       first | omega | exact c_171 trivial)
                                    | (try simp (discharger := omega) only [wr_id] at c_171
                                       refine R_iconst dX5_measure_174 ?_
                                       refine R_goto (tgt := 206) dX5_measure_175 (by decide) ?_
                                       refine R_istore_n dX5_measure_206 rfl (Nat.le_of_ble_eq_true rfl) ?_
                                       refine R_aload_n dX5_measure_207 rfl rfl ?_
                                       refine R_getA fRX5_45 dX5_measure_208 rfl (Nat.lt_of_lt_of_le (Nat.le_of_ble_eq_true rfl) hnx) rfl ?_
                                       refine R_iload_n dX5_measure_211 rfl rfl ?_
                                       refine R_iconst dX5_measure_212 ?_
                                       refine R_iadd dX5_measure_213 ?_
                                       refine R_aload_n dX5_measure_214 rfl rfl ?_
                                       refine R_getA fRX5_45 dX5_measure_215 rfl (Nat.lt_of_lt_of_le (Nat.le_of_ble_eq_true rfl) hnx) rfl ?_
                                       refine R_iload_n dX5_measure_218 rfl rfl ?_
                                       refine R_iaload (k := i) dX5_measure_219 rfl (Nat.lt_of_lt_of_le (Nat.le_of_ble_eq_true rfl) hnx) (by omega) (by omega) (by decide) ?_
                                       refine R_iload_n dX5_measure_220 rfl rfl ?_
                                       refine R_iadd dX5_measure_221 ?_
                                       refine R_iastore (k := i + 1) dX5_measure_222 rfl (Nat.lt_of_lt_of_le (Nat.le_of_ble_eq_true rfl) hnx) (by omega) (by omega) (by decide) ?_
                                       refine R_aload_n dX5_measure_223 rfl rfl ?_
                                       refine R_getA fRX5_48 dX5_measure_224 rfl (Nat.lt_of_lt_of_le (Nat.le_of_ble_eq_true rfl) hnx) rfl ?_
                                       refine R_iload_n dX5_measure_227 rfl rfl ?_
                                       refine R_iconst dX5_measure_228 ?_
                                       refine R_iadd dX5_measure_229 ?_
                                       refine R_iload_n dX5_measure_230 rfl rfl ?_
                                       refine R_if_eq (tgt := 245) dX5_measure_231 (by decide) (fun c_231 => ?_) (fun c_231 => ?_)
                                       · first
                                         | (simp (discharger := omega) only [wr_id] at c_231; done)
                                         | (try simp (discharger := omega) only [wr_id] at c_231
                                            exfalso
                                            first | omega | exact c_231 trivial)
                                         | (try simp (discharger := omega) only [wr_id] at c_231
                                            refine R_aload_n dX5_measure_245 rfl rfl ?_
                                            refine R_getA fRX5_48 dX5_measure_246 rfl (Nat.lt_of_lt_of_le (Nat.le_of_ble_eq_true rfl) hnx) rfl ?_
                                            refine R_iload_n dX5_measure_249 rfl rfl ?_
                                            refine R_iaload (k := i) dX5_measure_250 rfl (Nat.lt_of_lt_of_le (Nat.le_of_ble_eq_true rfl) hnx) (by omega) (by omega) (by decide) ?_
                                            refine R_iastore (k := i + 1) dX5_measure_251 rfl (Nat.lt_of_lt_of_le (Nat.le_of_ble_eq_true rfl) hnx) (by omega) (by omega) (by decide) ?_
                                            refine R_iinc dX5_measure_252 rfl (Nat.le_of_ble_eq_true rfl) ?_
                                            refine R_goto (tgt := 43) dX5_measure_255 (by decide) ?_
                                            refine step hi2 _ (fun p hp => ?_) (fun p h1 h2 k hk => ?_) ?_ ?_ ?_ ?_ ?_ _ _
                                            · rw [up2_ne _ _ _ (by omega), up2_ne _ _ _ (by omega), up2_ne _ _ _ (by omega), up2_ne _ _ _ (by omega), up2_ne _ _ _ (by omega)]
                                            · simp only [up2_at]
                                              rw [if_neg (by omega), if_neg (by omega), if_neg (by omega), if_neg (by omega), if_neg (by omega)]
                                            · simp [up2_at, fW]
                                              first | (rw [if_pos (by omega)]; rw [q1, show (2 : Int) = ((2 : Nat) : Int) from rfl, bDivN (by omega) (by omega) (by omega)]; done) | (rw [if_neg (by omega)]; exact q1)
                                            · simp [up2_at, fH]
                                              first | (rw [if_pos (by omega)]; rw [q2, show (2 : Int) = ((2 : Nat) : Int) from rfl, bDivN (by omega) (by omega) (by omega)]; done) | (rw [if_neg (by omega)]; exact q2)
                                            · simp [up2_at, fP]
                                              first | (rw [if_pos (by omega)]; (try rfl); done) | (rw [if_neg (by omega)]; exact q3)
                                            · simp [up2_at, fL]
                                              rw [q4]
                                              first | (rw [if_pos (by omega)]; rfl) | (rw [if_neg (by omega), if_pos (by omega)]; rfl) | (rw [if_neg (by omega), if_neg (by omega), if_pos (by omega), q5]) | (rw [if_neg (by omega), if_neg (by omega), if_neg (by omega)]; rfl)
                                            · simp [up2_at, fS]
                                              first | (rw [if_pos (by omega), q5]; rfl) | (rw [if_neg (by omega)]; exact q5))
                                       · first
                                         | (simp (discharger := omega) only [wr_id] at c_231; done)
                                         | (try simp (discharger := omega) only [wr_id] at c_231
                                            exfalso
                                            first | omega | exact c_231 trivial)
                                         | (try simp (discharger := omega) only [wr_id] at c_231
                                            refine R_iconst dX5_measure_234 ?_
                                            refine R_aload_n dX5_measure_235 rfl rfl ?_
                                            refine R_getA fRX5_48 dX5_measure_236 rfl (Nat.lt_of_lt_of_le (Nat.le_of_ble_eq_true rfl) hnx) rfl ?_
                                            refine R_iload_n dX5_measure_239 rfl rfl ?_
                                            refine R_iaload (k := i) dX5_measure_240 rfl (Nat.lt_of_lt_of_le (Nat.le_of_ble_eq_true rfl) hnx) (by omega) (by omega) (by decide) ?_
                                            refine R_imul dX5_measure_241 ?_
                                            refine R_goto (tgt := 251) dX5_measure_242 (by decide) ?_
                                            refine R_iastore (k := i + 1) dX5_measure_251 rfl (Nat.lt_of_lt_of_le (Nat.le_of_ble_eq_true rfl) hnx) (by omega) (by omega) (by decide) ?_
                                            refine R_iinc dX5_measure_252 rfl (Nat.le_of_ble_eq_true rfl) ?_
                                            refine R_goto (tgt := 43) dX5_measure_255 (by decide) ?_
                                            refine step hi2 _ (fun p hp => ?_) (fun p h1 h2 k hk => ?_) ?_ ?_ ?_ ?_ ?_ _ _
                                            · rw [up2_ne _ _ _ (by omega), up2_ne _ _ _ (by omega), up2_ne _ _ _ (by omega), up2_ne _ _ _ (by omega), up2_ne _ _ _ (by omega)]
                                            · simp only [up2_at]
                                              rw [if_neg (by omega), if_neg (by omega), if_neg (by omega), if_neg (by omega), if_neg (by omega)]
                                            · simp [up2_at, fW]
                                              first | (rw [if_pos (by omega)]; rw [q1, show (2 : Int) = ((2 : Nat) : Int) from rfl, bDivN (by omega) (by omega) (by omega)]; done) | (rw [if_neg (by omega)]; exact q1)
                                            · simp [up2_at, fH]
                                              first | (rw [if_pos (by omega)]; rw [q2, show (2 : Int) = ((2 : Nat) : Int) from rfl, bDivN (by omega) (by omega) (by omega)]; done) | (rw [if_neg (by omega)]; exact q2)
                                            · simp [up2_at, fP]
                                              first | (rw [if_pos (by omega)]; (try rfl); done) | (rw [if_neg (by omega)]; exact q3)
                                            · simp [up2_at, fL]
                                              rw [q4]
                                              first | (rw [if_pos (by omega)]; rfl) | (rw [if_neg (by omega), if_pos (by omega)]; rfl) | (rw [if_neg (by omega), if_neg (by omega), if_pos (by omega), q5]) | (rw [if_neg (by omega), if_neg (by omega), if_neg (by omega)]; rfl)
                                            · simp [up2_at, fS]
                                              first | (rw [if_pos (by omega), q5]; rfl) | (rw [if_neg (by omega)]; exact q5)))))))
              · first
                | (simp (discharger := omega) only [wr_id] at c_76; done)
                | (try simp (discharger := omega) only [wr_id] at c_76
                   exfalso
                   first | omega | exact c_76 trivial)
                | (try simp (discharger := omega) only [wr_id] at c_76
                   refine R_aload_n dX5_measure_79 rfl rfl ?_
                   refine R_getA fRX5_36 dX5_measure_80 rfl (Nat.lt_of_lt_of_le (Nat.le_of_ble_eq_true rfl) hnx) rfl ?_
                   refine R_iload_n dX5_measure_83 rfl rfl ?_
                   refine R_iaload (k := i) dX5_measure_84 rfl (Nat.lt_of_lt_of_le (Nat.le_of_ble_eq_true rfl) hnx) (by omega) (by omega) (by decide) ?_
                   refine R_iconst dX5_measure_85 ?_
                   refine R_idiv dX5_measure_86 (by decide) ?_
                   refine R_goto (tgt := 96) dX5_measure_87 (by decide) ?_
                   refine R_iastore (k := i + 1) dX5_measure_96 rfl (Nat.lt_of_lt_of_le (Nat.le_of_ble_eq_true rfl) hnx) (by omega) (by omega) (by decide) ?_
                   refine R_aload_n dX5_measure_97 rfl rfl ?_
                   refine R_getA fRX5_39 dX5_measure_98 rfl (Nat.lt_of_lt_of_le (Nat.le_of_ble_eq_true rfl) hnx) rfl ?_
                   refine R_iload_n dX5_measure_101 rfl rfl ?_
                   refine R_iconst dX5_measure_102 ?_
                   refine R_iadd dX5_measure_103 ?_
                   refine R_iload_n dX5_measure_104 rfl rfl ?_
                   refine R_if_eq (tgt := 119) dX5_measure_105 (by decide) (fun c_105 => ?_) (fun c_105 => ?_)
                   · first
                     | (simp (discharger := omega) only [wr_id] at c_105; done)
                     | (try simp (discharger := omega) only [wr_id] at c_105
                        exfalso
                        first | omega | exact c_105 trivial)
                     | (try simp (discharger := omega) only [wr_id] at c_105
                        refine R_aload_n dX5_measure_119 rfl rfl ?_
                        refine R_getA fRX5_39 dX5_measure_120 rfl (Nat.lt_of_lt_of_le (Nat.le_of_ble_eq_true rfl) hnx) rfl ?_
                        refine R_iload_n dX5_measure_123 rfl rfl ?_
                        refine R_iaload (k := i) dX5_measure_124 rfl (Nat.lt_of_lt_of_le (Nat.le_of_ble_eq_true rfl) hnx) (by omega) (by omega) (by decide) ?_
                        refine R_iastore (k := i + 1) dX5_measure_125 rfl (Nat.lt_of_lt_of_le (Nat.le_of_ble_eq_true rfl) hnx) (by omega) (by omega) (by decide) ?_
                        refine R_aload_n dX5_measure_126 rfl rfl ?_
                        refine R_getA fRX5_42 dX5_measure_127 rfl (Nat.lt_of_lt_of_le (Nat.le_of_ble_eq_true rfl) hnx) rfl ?_
                        refine R_iload_n dX5_measure_130 rfl rfl ?_
                        refine R_iconst dX5_measure_131 ?_
                        refine R_iadd dX5_measure_132 ?_
                        refine R_aload_n dX5_measure_133 rfl rfl ?_
                        refine R_getA fRX5_24 dX5_measure_134 rfl (Nat.lt_of_lt_of_le (Nat.le_of_ble_eq_true rfl) hnx) rfl ?_
                        refine R_iload_n dX5_measure_137 rfl rfl ?_
                        refine R_iaload (k := i) dX5_measure_138 rfl (Nat.lt_of_lt_of_le (Nat.le_of_ble_eq_true rfl) hnx) (by omega) (by omega) (by decide) ?_
                        refine R_iconst dX5_measure_139 ?_
                        dsimp only
                        rw [up2_ne _ _ _ (by decide), up2_ne _ _ _ (by decide), e6]
                        refine R_icmp_ne (tgt := 147) dX5_measure_140 (by decide) (fun c_140 => ?_) (fun c_140 => ?_)
                        · first
                          | (simp (discharger := omega) only [wr_id] at c_140; done)
                          | (try simp (discharger := omega) only [wr_id] at c_140
                             exfalso
                             first | omega | exact c_140 trivial)
                          | (try simp (discharger := omega) only [wr_id] at c_140
                             refine R_aload_n dX5_measure_147 rfl rfl ?_
                             refine R_getA fRX5_42 dX5_measure_148 rfl (Nat.lt_of_lt_of_le (Nat.le_of_ble_eq_true rfl) hnx) rfl ?_
                             refine R_iload_n dX5_measure_151 rfl rfl ?_
                             refine R_iaload (k := i) dX5_measure_152 rfl (Nat.lt_of_lt_of_le (Nat.le_of_ble_eq_true rfl) hnx) (by omega) (by omega) (by decide) ?_
                             refine R_iastore (k := i + 1) dX5_measure_153 rfl (Nat.lt_of_lt_of_le (Nat.le_of_ble_eq_true rfl) hnx) (by omega) (by omega) (by decide) ?_
                             refine R_aload_n dX5_measure_154 rfl rfl ?_
                             refine R_getA fRX5_24 dX5_measure_155 rfl (Nat.lt_of_lt_of_le (Nat.le_of_ble_eq_true rfl) hnx) rfl ?_
                             refine R_iload_n dX5_measure_158 rfl rfl ?_
                             refine R_iaload (k := i) dX5_measure_159 rfl (Nat.lt_of_lt_of_le (Nat.le_of_ble_eq_true rfl) hnx) (by omega) (by omega) (by decide) ?_
                             refine R_iconst dX5_measure_160 ?_
                             dsimp only
                             rw [up2_ne _ _ _ (by decide), up2_ne _ _ _ (by decide), up2_ne _ _ _ (by decide), e6]
                             refine R_icmp_eq (tgt := 174) dX5_measure_161 (by decide) (fun c_161 => ?_) (fun c_161 => ?_)
                             · first
                               | (simp (discharger := omega) only [wr_id] at c_161; done)
                               | (try simp (discharger := omega) only [wr_id] at c_161
                                  exfalso
                                  first | omega | exact c_161 trivial)
                               | (try simp (discharger := omega) only [wr_id] at c_161
                                  refine R_iconst dX5_measure_174 ?_
                                  refine R_goto (tgt := 206) dX5_measure_175 (by decide) ?_
                                  refine R_istore_n dX5_measure_206 rfl (Nat.le_of_ble_eq_true rfl) ?_
                                  refine R_aload_n dX5_measure_207 rfl rfl ?_
                                  refine R_getA fRX5_45 dX5_measure_208 rfl (Nat.lt_of_lt_of_le (Nat.le_of_ble_eq_true rfl) hnx) rfl ?_
                                  refine R_iload_n dX5_measure_211 rfl rfl ?_
                                  refine R_iconst dX5_measure_212 ?_
                                  refine R_iadd dX5_measure_213 ?_
                                  refine R_aload_n dX5_measure_214 rfl rfl ?_
                                  refine R_getA fRX5_45 dX5_measure_215 rfl (Nat.lt_of_lt_of_le (Nat.le_of_ble_eq_true rfl) hnx) rfl ?_
                                  refine R_iload_n dX5_measure_218 rfl rfl ?_
                                  refine R_iaload (k := i) dX5_measure_219 rfl (Nat.lt_of_lt_of_le (Nat.le_of_ble_eq_true rfl) hnx) (by omega) (by omega) (by decide) ?_
                                  refine R_iload_n dX5_measure_220 rfl rfl ?_
                                  refine R_iadd dX5_measure_221 ?_
                                  refine R_iastore (k := i + 1) dX5_measure_222 rfl (Nat.lt_of_lt_of_le (Nat.le_of_ble_eq_true rfl) hnx) (by omega) (by omega) (by decide) ?_
                                  refine R_aload_n dX5_measure_223 rfl rfl ?_
                                  refine R_getA fRX5_48 dX5_measure_224 rfl (Nat.lt_of_lt_of_le (Nat.le_of_ble_eq_true rfl) hnx) rfl ?_
                                  refine R_iload_n dX5_measure_227 rfl rfl ?_
                                  refine R_iconst dX5_measure_228 ?_
                                  refine R_iadd dX5_measure_229 ?_
                                  refine R_iload_n dX5_measure_230 rfl rfl ?_
                                  refine R_if_eq (tgt := 245) dX5_measure_231 (by decide) (fun c_231 => ?_) (fun c_231 => ?_)
                                  · first
                                    | (simp (discharger := omega) only [wr_id] at c_231; done)
                                    | (try simp (discharger := omega) only [wr_id] at c_231
                                       exfalso
                                       first | omega | exact c_231 trivial)
                                    | (try simp (discharger := omega) only [wr_id] at c_231
                                       refine R_aload_n dX5_measure_245 rfl rfl ?_
                                       refine R_getA fRX5_48 dX5_measure_246 rfl (Nat.lt_of_lt_of_le (Nat.le_of_ble_eq_true rfl) hnx) rfl ?_
                                       refine R_iload_n dX5_measure_249 rfl rfl ?_
                                       refine R_iaload (k := i) dX5_measure_250 rfl (Nat.lt_of_lt_of_le (Nat.le_of_ble_eq_true rfl) hnx) (by omega) (by omega) (by decide) ?_
                                       refine R_iastore (k := i + 1) dX5_measure_251 rfl (Nat.lt_of_lt_of_le (Nat.le_of_ble_eq_true rfl) hnx) (by omega) (by omega) (by decide) ?_
                                       refine R_iinc dX5_measure_252 rfl (Nat.le_of_ble_eq_true rfl) ?_
                                       refine R_goto (tgt := 43) dX5_measure_255 (by decide) ?_
                                       refine step hi2 _ (fun p hp => ?_) (fun p h1 h2 k hk => ?_) ?_ ?_ ?_ ?_ ?_ _ _
                                       · rw [up2_ne _ _ _ (by omega), up2_ne _ _ _ (by omega), up2_ne _ _ _ (by omega), up2_ne _ _ _ (by omega), up2_ne _ _ _ (by omega)]
                                       · simp only [up2_at]
                                         rw [if_neg (by omega), if_neg (by omega), if_neg (by omega), if_neg (by omega), if_neg (by omega)]
                                       · simp [up2_at, fW]
                                         first | (rw [if_pos (by omega)]; rw [q1, show (2 : Int) = ((2 : Nat) : Int) from rfl, bDivN (by omega) (by omega) (by omega)]; done) | (rw [if_neg (by omega)]; exact q1)
                                       · simp [up2_at, fH]
                                         first | (rw [if_pos (by omega)]; rw [q2, show (2 : Int) = ((2 : Nat) : Int) from rfl, bDivN (by omega) (by omega) (by omega)]; done) | (rw [if_neg (by omega)]; exact q2)
                                       · simp [up2_at, fP]
                                         first | (rw [if_pos (by omega)]; (try rfl); done) | (rw [if_neg (by omega)]; exact q3)
                                       · simp [up2_at, fL]
                                         rw [q4]
                                         first | (rw [if_pos (by omega)]; rfl) | (rw [if_neg (by omega), if_pos (by omega)]; rfl) | (rw [if_neg (by omega), if_neg (by omega), if_pos (by omega), q5]) | (rw [if_neg (by omega), if_neg (by omega), if_neg (by omega)]; rfl)
                                       · simp [up2_at, fS]
                                         first | (rw [if_pos (by omega), q5]; rfl) | (rw [if_neg (by omega)]; exact q5))
                                  · first
                                    | (simp (discharger := omega) only [wr_id] at c_231; done)
                                    | (try simp (discharger := omega) only [wr_id] at c_231
                                       exfalso
                                       first | omega | exact c_231 trivial)
                                    | (try simp (discharger := omega) only [wr_id] at c_231
                                       refine R_iconst dX5_measure_234 ?_
                                       refine R_aload_n dX5_measure_235 rfl rfl ?_
                                       refine R_getA fRX5_48 dX5_measure_236 rfl (Nat.lt_of_lt_of_le (Nat.le_of_ble_eq_true rfl) hnx) rfl ?_
                                       refine R_iload_n dX5_measure_239 rfl rfl ?_
                                       refine R_iaload (k := i) dX5_measure_240 rfl (Nat.lt_of_lt_of_le (Nat.le_of_ble_eq_true rfl) hnx) (by omega) (by omega) (by decide) ?_
                                       refine R_imul dX5_measure_241 ?_
                                       refine R_goto (tgt := 251) dX5_measure_242 (by decide) ?_
                                       refine R_iastore (k := i + 1) dX5_measure_251 rfl (Nat.lt_of_lt_of_le (Nat.le_of_ble_eq_true rfl) hnx) (by omega) (by omega) (by decide) ?_
                                       refine R_iinc dX5_measure_252 rfl (Nat.le_of_ble_eq_true rfl) ?_
                                       refine R_goto (tgt := 43) dX5_measure_255 (by decide) ?_
                                       refine step hi2 _ (fun p hp => ?_) (fun p h1 h2 k hk => ?_) ?_ ?_ ?_ ?_ ?_ _ _
                                       · rw [up2_ne _ _ _ (by omega), up2_ne _ _ _ (by omega), up2_ne _ _ _ (by omega), up2_ne _ _ _ (by omega), up2_ne _ _ _ (by omega)]
                                       · simp only [up2_at]
                                         rw [if_neg (by omega), if_neg (by omega), if_neg (by omega), if_neg (by omega), if_neg (by omega)]
                                       · simp [up2_at, fW]
                                         first | (rw [if_pos (by omega)]; rw [q1, show (2 : Int) = ((2 : Nat) : Int) from rfl, bDivN (by omega) (by omega) (by omega)]; done) | (rw [if_neg (by omega)]; exact q1)
                                       · simp [up2_at, fH]
                                         first | (rw [if_pos (by omega)]; rw [q2, show (2 : Int) = ((2 : Nat) : Int) from rfl, bDivN (by omega) (by omega) (by omega)]; done) | (rw [if_neg (by omega)]; exact q2)
                                       · simp [up2_at, fP]
                                         first | (rw [if_pos (by omega)]; (try rfl); done) | (rw [if_neg (by omega)]; exact q3)
                                       · simp [up2_at, fL]
                                         rw [q4]
                                         first | (rw [if_pos (by omega)]; rfl) | (rw [if_neg (by omega), if_pos (by omega)]; rfl) | (rw [if_neg (by omega), if_neg (by omega), if_pos (by omega), q5]) | (rw [if_neg (by omega), if_neg (by omega), if_neg (by omega)]; rfl)
                                       · simp [up2_at, fS]
                                         first | (rw [if_pos (by omega), q5]; rfl) | (rw [if_neg (by omega)]; exact q5)))
                             · first
                               | (simp (discharger := omega) only [wr_id] at c_161; done)
                               | (try simp (discharger := omega) only [wr_id] at c_161
                                  exfalso
                                  first | omega | exact c_161 trivial)
                               | (try simp (discharger := omega) only [wr_id] at c_161
                                  refine R_aload_n dX5_measure_164 rfl rfl ?_
                                  refine R_getA fRX5_24 dX5_measure_165 rfl (Nat.lt_of_lt_of_le (Nat.le_of_ble_eq_true rfl) hnx) rfl ?_
                                  refine R_iload_n dX5_measure_168 rfl rfl ?_
                                  refine R_iaload (k := i) dX5_measure_169 rfl (Nat.lt_of_lt_of_le (Nat.le_of_ble_eq_true rfl) hnx) (by omega) (by omega) (by decide) ?_
                                  refine R_iconst dX5_measure_170 ?_
                                  dsimp only
                                  rw [up2_ne _ _ _ (by decide), up2_ne _ _ _ (by decide), up2_ne _ _ _ (by decide), e6]
                                  refine R_icmp_ne (tgt := 178) dX5_measure_171 (by decide) (fun c_171 => ?_) (fun c_171 => ?_)
                                  · first
                                    | (simp (discharger := omega) only [wr_id] at c_171; done)
                                    | (try simp (discharger := omega) only [wr_id] at c_171
                                       exfalso
                                       first | omega | exact c_171 trivial)
                                    | (try simp (discharger := omega) only [wr_id] at c_171
                                       refine R_aload_n dX5_measure_178 rfl rfl ?_
                                       refine R_getA fRX5_24 dX5_measure_179 rfl (Nat.lt_of_lt_of_le (Nat.le_of_ble_eq_true rfl) hnx) rfl ?_
                                       refine R_iload_n dX5_measure_182 rfl rfl ?_
                                       refine R_iaload (k := i) dX5_measure_183 rfl (Nat.lt_of_lt_of_le (Nat.le_of_ble_eq_true rfl) hnx) (by omega) (by omega) (by decide) ?_
                                       refine R_iconst dX5_measure_184 ?_
                                       dsimp only
                                       rw [up2_ne _ _ _ (by decide), up2_ne _ _ _ (by decide), up2_ne _ _ _ (by decide), e6]
                                       refine R_icmp_ne (tgt := 192) dX5_measure_185 (by decide) (fun c_185 => ?_) (fun c_185 => ?_)
                                       · first
                                         | (simp (discharger := omega) only [wr_id] at c_185; done)
                                         | (try simp (discharger := omega) only [wr_id] at c_185
                                            exfalso
                                            first | omega | exact c_185 trivial)
                                         | (try simp (discharger := omega) only [wr_id] at c_185
                                            refine R_iload_n dX5_measure_192 rfl rfl ?_
                                            refine R_if_eq (tgt := 205) dX5_measure_193 (by decide) (fun c_193 => ?_) (fun c_193 => ?_)
                                            · first
                                              | (simp (discharger := omega) only [wr_id] at c_193; done)
                                              | (try simp (discharger := omega) only [wr_id] at c_193
                                                 exfalso
                                                 first | omega | exact c_193 trivial)
                                              | (try simp (discharger := omega) only [wr_id] at c_193
                                                 refine R_iconst dX5_measure_205 ?_
                                                 refine R_istore_n dX5_measure_206 rfl (Nat.le_of_ble_eq_true rfl) ?_
                                                 refine R_aload_n dX5_measure_207 rfl rfl ?_
                                                 refine R_getA fRX5_45 dX5_measure_208 rfl (Nat.lt_of_lt_of_le (Nat.le_of_ble_eq_true rfl) hnx) rfl ?_
                                                 refine R_iload_n dX5_measure_211 rfl rfl ?_
                                                 refine R_iconst dX5_measure_212 ?_
                                                 refine R_iadd dX5_measure_213 ?_
                                                 refine R_aload_n dX5_measure_214 rfl rfl ?_
                                                 refine R_getA fRX5_45 dX5_measure_215 rfl (Nat.lt_of_lt_of_le (Nat.le_of_ble_eq_true rfl) hnx) rfl ?_
                                                 refine R_iload_n dX5_measure_218 rfl rfl ?_
                                                 refine R_iaload (k := i) dX5_measure_219 rfl (Nat.lt_of_lt_of_le (Nat.le_of_ble_eq_true rfl) hnx) (by omega) (by omega) (by decide) ?_
                                                 refine R_iload_n dX5_measure_220 rfl rfl ?_
                                                 refine R_iadd dX5_measure_221 ?_
                                                 refine R_iastore (k := i + 1) dX5_measure_222 rfl (Nat.lt_of_lt_of_le (Nat.le_of_ble_eq_true rfl) hnx) (by omega) (by omega) (by decide) ?_
                                                 refine R_aload_n dX5_measure_223 rfl rfl ?_
                                                 refine R_getA fRX5_48 dX5_measure_224 rfl (Nat.lt_of_lt_of_le (Nat.le_of_ble_eq_true rfl) hnx) rfl ?_
                                                 refine R_iload_n dX5_measure_227 rfl rfl ?_
                                                 refine R_iconst dX5_measure_228 ?_
                                                 refine R_iadd dX5_measure_229 ?_
                                                 refine R_iload_n dX5_measure_230 rfl rfl ?_
                                                 refine R_if_eq (tgt := 245) dX5_measure_231 (by decide) (fun c_231 => ?_) (fun c_231 => ?_)
                                                 · first
                                                   | (simp (discharger := omega) only [wr_id] at c_231; done)
                                                   | (try simp (discharger := omega) only [wr_id] at c_231
                                                      exfalso
                                                      first | omega | exact c_231 trivial)
                                                   | (try simp (discharger := omega) only [wr_id] at c_231
                                                      refine R_aload_n dX5_measure_245 rfl rfl ?_
                                                      refine R_getA fRX5_48 dX5_measure_246 rfl (Nat.lt_of_lt_of_le (Nat.le_of_ble_eq_true rfl) hnx) rfl ?_
                                                      refine R_iload_n dX5_measure_249 rfl rfl ?_
                                                      refine R_iaload (k := i) dX5_measure_250 rfl (Nat.lt_of_lt_of_le (Nat.le_of_ble_eq_true rfl) hnx) (by omega) (by omega) (by decide) ?_
                                                      refine R_iastore (k := i + 1) dX5_measure_251 rfl (Nat.lt_of_lt_of_le (Nat.le_of_ble_eq_true rfl) hnx) (by omega) (by omega) (by decide) ?_
                                                      refine R_iinc dX5_measure_252 rfl (Nat.le_of_ble_eq_true rfl) ?_
                                                      refine R_goto (tgt := 43) dX5_measure_255 (by decide) ?_
                                                      refine step hi2 _ (fun p hp => ?_) (fun p h1 h2 k hk => ?_) ?_ ?_ ?_ ?_ ?_ _ _
                                                      · rw [up2_ne _ _ _ (by omega), up2_ne _ _ _ (by omega), up2_ne _ _ _ (by omega), up2_ne _ _ _ (by omega), up2_ne _ _ _ (by omega)]
                                                      · simp only [up2_at]
                                                        rw [if_neg (by omega), if_neg (by omega), if_neg (by omega), if_neg (by omega), if_neg (by omega)]
                                                      · simp [up2_at, fW]
                                                        first | (rw [if_pos (by omega)]; rw [q1, show (2 : Int) = ((2 : Nat) : Int) from rfl, bDivN (by omega) (by omega) (by omega)]; done) | (rw [if_neg (by omega)]; exact q1)
                                                      · simp [up2_at, fH]
                                                        first | (rw [if_pos (by omega)]; rw [q2, show (2 : Int) = ((2 : Nat) : Int) from rfl, bDivN (by omega) (by omega) (by omega)]; done) | (rw [if_neg (by omega)]; exact q2)
                                                      · simp [up2_at, fP]
                                                        first | (rw [if_pos (by omega)]; (try rfl); done) | (rw [if_neg (by omega)]; exact q3)
                                                      · simp [up2_at, fL]
                                                        rw [q4]
                                                        first | (rw [if_pos (by omega)]; rfl) | (rw [if_neg (by omega), if_pos (by omega)]; rfl) | (rw [if_neg (by omega), if_neg (by omega), if_pos (by omega), q5]) | (rw [if_neg (by omega), if_neg (by omega), if_neg (by omega)]; rfl)
                                                      · simp [up2_at, fS]
                                                        first | (rw [if_pos (by omega), q5]; rfl) | (rw [if_neg (by omega)]; exact q5))
                                                 · first
                                                   | (simp (discharger := omega) only [wr_id] at c_231; done)
                                                   | (try simp (discharger := omega) only [wr_id] at c_231
                                                      exfalso
                                                      first | omega | exact c_231 trivial)
                                                   | (try simp (discharger := omega) only [wr_id] at c_231
                                                      refine R_iconst dX5_measure_234 ?_
                                                      refine R_aload_n dX5_measure_235 rfl rfl ?_
                                                      refine R_getA fRX5_48 dX5_measure_236 rfl (Nat.lt_of_lt_of_le (Nat.le_of_ble_eq_true rfl) hnx) rfl ?_
                                                      refine R_iload_n dX5_measure_239 rfl rfl ?_
                                                      refine R_iaload (k := i) dX5_measure_240 rfl (Nat.lt_of_lt_of_le (Nat.le_of_ble_eq_true rfl) hnx) (by omega) (by omega) (by decide) ?_
                                                      refine R_imul dX5_measure_241 ?_
                                                      refine R_goto (tgt := 251) dX5_measure_242 (by decide) ?_
                                                      refine R_iastore (k := i + 1) dX5_measure_251 rfl (Nat.lt_of_lt_of_le (Nat.le_of_ble_eq_true rfl) hnx) (by omega) (by omega) (by decide) ?_
                                                      refine R_iinc dX5_measure_252 rfl (Nat.le_of_ble_eq_true rfl) ?_
                                                      refine R_goto (tgt := 43) dX5_measure_255 (by decide) ?_
                                                      refine step hi2 _ (fun p hp => ?_) (fun p h1 h2 k hk => ?_) ?_ ?_ ?_ ?_ ?_ _ _
                                                      · rw [up2_ne _ _ _ (by omega), up2_ne _ _ _ (by omega), up2_ne _ _ _ (by omega), up2_ne _ _ _ (by omega), up2_ne _ _ _ (by omega)]
                                                      · simp only [up2_at]
                                                        rw [if_neg (by omega), if_neg (by omega), if_neg (by omega), if_neg (by omega), if_neg (by omega)]
                                                      · simp [up2_at, fW]
                                                        first | (rw [if_pos (by omega)]; rw [q1, show (2 : Int) = ((2 : Nat) : Int) from rfl, bDivN (by omega) (by omega) (by omega)]; done) | (rw [if_neg (by omega)]; exact q1)
                                                      · simp [up2_at, fH]
                                                        first | (rw [if_pos (by omega)]; rw [q2, show (2 : Int) = ((2 : Nat) : Int) from rfl, bDivN (by omega) (by omega) (by omega)]; done) | (rw [if_neg (by omega)]; exact q2)
                                                      · simp [up2_at, fP]
                                                        first | (rw [if_pos (by omega)]; (try rfl); done) | (rw [if_neg (by omega)]; exact q3)
                                                      · simp [up2_at, fL]
                                                        rw [q4]
                                                        first | (rw [if_pos (by omega)]; rfl) | (rw [if_neg (by omega), if_pos (by omega)]; rfl) | (rw [if_neg (by omega), if_neg (by omega), if_pos (by omega), q5]) | (rw [if_neg (by omega), if_neg (by omega), if_neg (by omega)]; rfl)
                                                      · simp [up2_at, fS]
                                                        first | (rw [if_pos (by omega), q5]; rfl) | (rw [if_neg (by omega)]; exact q5)))
                                            · first
                                              | (simp (discharger := omega) only [wr_id] at c_193; done)
                                              | (try simp (discharger := omega) only [wr_id] at c_193
                                                 exfalso
                                                 first | omega | exact c_193 trivial)
                                              | (try simp (discharger := omega) only [wr_id] at c_193
                                                 refine R_aload_n dX5_measure_196 rfl rfl ?_
                                                 refine R_getA fRX5_48 dX5_measure_197 rfl (Nat.lt_of_lt_of_le (Nat.le_of_ble_eq_true rfl) hnx) rfl ?_
                                                 refine R_iload_n dX5_measure_200 rfl rfl ?_
                                                 refine R_iaload (k := i) dX5_measure_201 rfl (Nat.lt_of_lt_of_le (Nat.le_of_ble_eq_true rfl) hnx) (by omega) (by omega) (by decide) ?_
                                                 refine R_goto (tgt := 206) dX5_measure_202 (by decide) ?_
                                                 refine R_istore_n dX5_measure_206 rfl (Nat.le_of_ble_eq_true rfl) ?_
                                                 refine R_aload_n dX5_measure_207 rfl rfl ?_
                                                 refine R_getA fRX5_45 dX5_measure_208 rfl (Nat.lt_of_lt_of_le (Nat.le_of_ble_eq_true rfl) hnx) rfl ?_
                                                 refine R_iload_n dX5_measure_211 rfl rfl ?_
                                                 refine R_iconst dX5_measure_212 ?_
                                                 refine R_iadd dX5_measure_213 ?_
                                                 refine R_aload_n dX5_measure_214 rfl rfl ?_
                                                 refine R_getA fRX5_45 dX5_measure_215 rfl (Nat.lt_of_lt_of_le (Nat.le_of_ble_eq_true rfl) hnx) rfl ?_
                                                 refine R_iload_n dX5_measure_218 rfl rfl ?_
                                                 refine R_iaload (k := i) dX5_measure_219 rfl (Nat.lt_of_lt_of_le (Nat.le_of_ble_eq_true rfl) hnx) (by omega) (by omega) (by decide) ?_
                                                 refine R_iload_n dX5_measure_220 rfl rfl ?_
                                                 refine R_iadd dX5_measure_221 ?_
                                                 refine R_iastore (k := i + 1) dX5_measure_222 rfl (Nat.lt_of_lt_of_le (Nat.le_of_ble_eq_true rfl) hnx) (by omega) (by omega) (by decide) ?_
                                                 refine R_aload_n dX5_measure_223 rfl rfl ?_
                                                 refine R_getA fRX5_48 dX5_measure_224 rfl (Nat.lt_of_lt_of_le (Nat.le_of_ble_eq_true rfl) hnx) rfl ?_
                                                 refine R_iload_n dX5_measure_227 rfl rfl ?_
                                                 refine R_iconst dX5_measure_228 ?_
                                                 refine R_iadd dX5_measure_229 ?_
                                                 refine R_iload_n dX5_measure_230 rfl rfl ?_
                                                 refine R_if_eq (tgt := 245) dX5_measure_231 (by decide) (fun c_231 => ?_) (fun c_231 => ?_)
                                                 · first
                                                   | (simp (discharger := omega) only [wr_id] at c_231; done)
                                                   | (try simp (discharger := omega) only [wr_id] at c_231
                                                      exfalso
                                                      first | omega | exact c_231 trivial)
                                                   | (try simp (discharger := omega) only [wr_id] at c_231
                                                      refine R_aload_n dX5_measure_245 rfl rfl ?_
                                                      refine R_getA fRX5_48 dX5_measure_246 rfl (Nat.lt_of_lt_of_le (Nat.le_of_ble_eq_true rfl) hnx) rfl ?_
                                                      refine R_iload_n dX5_measure_249 rfl rfl ?_
                                                      refine R_iaload (k := i) dX5_measure_250 rfl (Nat.lt_of_lt_of_le (Nat.le_of_ble_eq_true rfl) hnx) (by omega) (by omega) (by decide) ?_
                                                      refine R_iastore (k := i + 1) dX5_measure_251 rfl (Nat.lt_of_lt_of_le (Nat.le_of_ble_eq_true rfl) hnx) (by omega) (by omega) (by decide) ?_
                                                      refine R_iinc dX5_measure_252 rfl (Nat.le_of_ble_eq_true rfl) ?_
                                                      refine R_goto (tgt := 43) dX5_measure_255 (by decide) ?_
                                                      refine step hi2 _ (fun p hp => ?_) (fun p h1 h2 k hk => ?_) ?_ ?_ ?_ ?_ ?_ _ _
                                                      · rw [up2_ne _ _ _ (by omega), up2_ne _ _ _ (by omega), up2_ne _ _ _ (by omega), up2_ne _ _ _ (by omega), up2_ne _ _ _ (by omega)]
                                                      · simp only [up2_at]
                                                        rw [if_neg (by omega), if_neg (by omega), if_neg (by omega), if_neg (by omega), if_neg (by omega)]
                                                      · simp [up2_at, fW]
                                                        first | (rw [if_pos (by omega)]; rw [q1, show (2 : Int) = ((2 : Nat) : Int) from rfl, bDivN (by omega) (by omega) (by omega)]; done) | (rw [if_neg (by omega)]; exact q1)
                                                      · simp [up2_at, fH]
                                                        first | (rw [if_pos (by omega)]; rw [q2, show (2 : Int) = ((2 : Nat) : Int) from rfl, bDivN (by omega) (by omega) (by omega)]; done) | (rw [if_neg (by omega)]; exact q2)
                                                      · simp [up2_at, fP]
                                                        first | (rw [if_pos (by omega)]; (try rfl); done) | (rw [if_neg (by omega)]; exact q3)
                                                      · simp [up2_at, fL]
                                                        rw [q4]
                                                        first | (rw [if_pos (by omega)]; rfl) | (rw [if_neg (by omega), if_pos (by omega)]; rfl) | (rw [if_neg (by omega), if_neg (by omega), if_pos (by omega), q5]) | (rw [if_neg (by omega), if_neg (by omega), if_neg (by omega)]; rfl)
                                                      · simp [up2_at, fS]
                                                        first | (rw [if_pos (by omega), q5]; rfl) | (rw [if_neg (by omega)]; exact q5))
                                                 · first
                                                   | (simp (discharger := omega) only [wr_id] at c_231; done)
                                                   | (try simp (discharger := omega) only [wr_id] at c_231
                                                      exfalso
                                                      first | omega | exact c_231 trivial)
                                                   | (try simp (discharger := omega) only [wr_id] at c_231
                                                      refine R_iconst dX5_measure_234 ?_
                                                      refine R_aload_n dX5_measure_235 rfl rfl ?_
                                                      refine R_getA fRX5_48 dX5_measure_236 rfl (Nat.lt_of_lt_of_le (Nat.le_of_ble_eq_true rfl) hnx) rfl ?_
                                                      refine R_iload_n dX5_measure_239 rfl rfl ?_
                                                      refine R_iaload (k := i) dX5_measure_240 rfl (Nat.lt_of_lt_of_le (Nat.le_of_ble_eq_true rfl) hnx) (by omega) (by omega) (by decide) ?_
                                                      refine R_imul dX5_measure_241 ?_
                                                      refine R_goto (tgt := 251) dX5_measure_242 (by decide) ?_
                                                      refine R_iastore (k := i + 1) dX5_measure_251 rfl (Nat.lt_of_lt_of_le (Nat.le_of_ble_eq_true rfl) hnx) (by omega) (by omega) (by decide) ?_
                                                      refine R_iinc dX5_measure_252 rfl (Nat.le_of_ble_eq_true rfl) ?_
                                                      refine R_goto (tgt := 43) dX5_measure_255 (by decide) ?_
                                                      refine step hi2 _ (fun p hp => ?_) (fun p h1 h2 k hk => ?_) ?_ ?_ ?_ ?_ ?_ _ _
                                                      · rw [up2_ne _ _ _ (by omega), up2_ne _ _ _ (by omega), up2_ne _ _ _ (by omega), up2_ne _ _ _ (by omega), up2_ne _ _ _ (by omega)]
                                                      · simp only [up2_at]
                                                        rw [if_neg (by omega), if_neg (by omega), if_neg (by omega), if_neg (by omega), if_neg (by omega)]
                                                      · simp [up2_at, fW]
                                                        first | (rw [if_pos (by omega)]; rw [q1, show (2 : Int) = ((2 : Nat) : Int) from rfl, bDivN (by omega) (by omega) (by omega)]; done) | (rw [if_neg (by omega)]; exact q1)
                                                      · simp [up2_at, fH]
                                                        first | (rw [if_pos (by omega)]; rw [q2, show (2 : Int) = ((2 : Nat) : Int) from rfl, bDivN (by omega) (by omega) (by omega)]; done) | (rw [if_neg (by omega)]; exact q2)
                                                      · simp [up2_at, fP]
                                                        first | (rw [if_pos (by omega)]; (try rfl); done) | (rw [if_neg (by omega)]; exact q3)
                                                      · simp [up2_at, fL]
                                                        rw [q4]
                                                        first | (rw [if_pos (by omega)]; rfl) | (rw [if_neg (by omega), if_pos (by omega)]; rfl) | (rw [if_neg (by omega), if_neg (by omega), if_pos (by omega), q5]) | (rw [if_neg (by omega), if_neg (by omega), if_neg (by omega)]; rfl)
                                                      · simp [up2_at, fS]
                                                        first | (rw [if_pos (by omega), q5]; rfl) | (rw [if_neg (by omega)]; exact q5))))
                                       · first
                                         | (simp (discharger := omega) only [wr_id] at c_185; done)
                                         | (try simp (discharger := omega) only [wr_id] at c_185
                                            exfalso
                                            first | omega | exact c_185 trivial)
                                         | (try simp (discharger := omega) only [wr_id] at c_185
                                            refine R_iconst dX5_measure_188 ?_
                                            refine R_goto (tgt := 206) dX5_measure_189 (by decide) ?_
                                            refine R_istore_n dX5_measure_206 rfl (Nat.le_of_ble_eq_true rfl) ?_
                                            refine R_aload_n dX5_measure_207 rfl rfl ?_
                                            refine R_getA fRX5_45 dX5_measure_208 rfl (Nat.lt_of_lt_of_le (Nat.le_of_ble_eq_true rfl) hnx) rfl ?_
                                            refine R_iload_n dX5_measure_211 rfl rfl ?_
                                            refine R_iconst dX5_measure_212 ?_
                                            refine R_iadd dX5_measure_213 ?_
                                            refine R_aload_n dX5_measure_214 rfl rfl ?_
                                            refine R_getA fRX5_45 dX5_measure_215 rfl (Nat.lt_of_lt_of_le (Nat.le_of_ble_eq_true rfl) hnx) rfl ?_
                                            refine R_iload_n dX5_measure_218 rfl rfl ?_
                                            refine R_iaload (k := i) dX5_measure_219 rfl (Nat.lt_of_lt_of_le (Nat.le_of_ble_eq_true rfl) hnx) (by omega) (by omega) (by decide) ?_
                                            refine R_iload_n dX5_measure_220 rfl rfl ?_
                                            refine R_iadd dX5_measure_221 ?_
                                            refine R_iastore (k := i + 1) dX5_measure_222 rfl (Nat.lt_of_lt_of_le (Nat.le_of_ble_eq_true rfl) hnx) (by omega) (by omega) (by decide) ?_
                                            refine R_aload_n dX5_measure_223 rfl rfl ?_
                                            refine R_getA fRX5_48 dX5_measure_224 rfl (Nat.lt_of_lt_of_le (Nat.le_of_ble_eq_true rfl) hnx) rfl ?_
                                            refine R_iload_n dX5_measure_227 rfl rfl ?_
                                            refine R_iconst dX5_measure_228 ?_
                                            refine R_iadd dX5_measure_229 ?_
                                            refine R_iload_n dX5_measure_230 rfl rfl ?_
                                            refine R_if_eq (tgt := 245) dX5_measure_231 (by decide) (fun c_231 => ?_) (fun c_231 => ?_)
                                            · first
                                              | (simp (discharger := omega) only [wr_id] at c_231; done)
                                              | (try simp (discharger := omega) only [wr_id] at c_231
                                                 exfalso
                                                 first | omega | exact c_231 trivial)
                                              | (try simp (discharger := omega) only [wr_id] at c_231
                                                 refine R_aload_n dX5_measure_245 rfl rfl ?_
                                                 refine R_getA fRX5_48 dX5_measure_246 rfl (Nat.lt_of_lt_of_le (Nat.le_of_ble_eq_true rfl) hnx) rfl ?_
                                                 refine R_iload_n dX5_measure_249 rfl rfl ?_
                                                 refine R_iaload (k := i) dX5_measure_250 rfl (Nat.lt_of_lt_of_le (Nat.le_of_ble_eq_true rfl) hnx) (by omega) (by omega) (by decide) ?_
                                                 refine R_iastore (k := i + 1) dX5_measure_251 rfl (Nat.lt_of_lt_of_le (Nat.le_of_ble_eq_true rfl) hnx) (by omega) (by omega) (by decide) ?_
                                                 refine R_iinc dX5_measure_252 rfl (Nat.le_of_ble_eq_true rfl) ?_
                                                 refine R_goto (tgt := 43) dX5_measure_255 (by decide) ?_
                                                 refine step hi2 _ (fun p hp => ?_) (fun p h1 h2 k hk => ?_) ?_ ?_ ?_ ?_ ?_ _ _
                                                 · rw [up2_ne _ _ _ (by omega), up2_ne _ _ _ (by omega), up2_ne _ _ _ (by omega), up2_ne _ _ _ (by omega), up2_ne _ _ _ (by omega)]
                                                 · simp only [up2_at]
                                                   rw [if_neg (by omega), if_neg (by omega), if_neg (by omega), if_neg (by omega), if_neg (by omega)]
                                                 · simp [up2_at, fW]
                                                   first | (rw [if_pos (by omega)]; rw [q1, show (2 : Int) = ((2 : Nat) : Int) from rfl, bDivN (by omega) (by omega) (by omega)]; done) | (rw [if_neg (by omega)]; exact q1)
                                                 · simp [up2_at, fH]
                                                   first | (rw [if_pos (by omega)]; rw [q2, show (2 : Int) = ((2 : Nat) : Int) from rfl, bDivN (by omega) (by omega) (by omega)]; done) | (rw [if_neg (by omega)]; exact q2)
                                                 · simp [up2_at, fP]
                                                   first | (rw [if_pos (by omega)]; (try rfl); done) | (rw [if_neg (by omega)]; exact q3)
                                                 · simp [up2_at, fL]
                                                   rw [q4]
                                                   first | (rw [if_pos (by omega)]; rfl) | (rw [if_neg (by omega), if_pos (by omega)]; rfl) | (rw [if_neg (by omega), if_neg (by omega), if_pos (by omega), q5]) | (rw [if_neg (by omega), if_neg (by omega), if_neg (by omega)]; rfl)
                                                 · simp [up2_at, fS]
                                                   first | (rw [if_pos (by omega), q5]; rfl) | (rw [if_neg (by omega)]; exact q5))
                                            · first
                                              | (simp (discharger := omega) only [wr_id] at c_231; done)
                                              | (try simp (discharger := omega) only [wr_id] at c_231
                                                 exfalso
                                                 first | omega | exact c_231 trivial)
                                              | (try simp (discharger := omega) only [wr_id] at c_231
                                                 refine R_iconst dX5_measure_234 ?_
                                                 refine R_aload_n dX5_measure_235 rfl rfl ?_
                                                 refine R_getA fRX5_48 dX5_measure_236 rfl (Nat.lt_of_lt_of_le (Nat.le_of_ble_eq_true rfl) hnx) rfl ?_
                                                 refine R_iload_n dX5_measure_239 rfl rfl ?_
                                                 refine R_iaload (k := i) dX5_measure_240 rfl (Nat.lt_of_lt_of_le (Nat.le_of_ble_eq_true rfl) hnx) (by omega) (by omega) (by decide) ?_
                                                 refine R_imul dX5_measure_241 ?_
                                                 refine R_goto (tgt := 251) dX5_measure_242 (by decide) ?_
                                                 refine R_iastore (k := i + 1) dX5_measure_251 rfl (Nat.lt_of_lt_of_le (Nat.le_of_ble_eq_true rfl) hnx) (by omega) (by omega) (by decide) ?_
                                                 refine R_iinc dX5_measure_252 rfl (Nat.le_of_ble_eq_true rfl) ?_
                                                 refine R_goto (tgt := 43) dX5_measure_255 (by decide) ?_
                                                 refine step hi2 _ (fun p hp => ?_) (fun p h1 h2 k hk => ?_) ?_ ?_ ?_ ?_ ?_ _ _
                                                 · rw [up2_ne _ _ _ (by omega), up2_ne _ _ _ (by omega), up2_ne _ _ _ (by omega), up2_ne _ _ _ (by omega), up2_ne _ _ _ (by omega)]
                                                 · simp only [up2_at]
                                                   rw [if_neg (by omega), if_neg (by omega), if_neg (by omega), if_neg (by omega), if_neg (by omega)]
                                                 · simp [up2_at, fW]
                                                   first | (rw [if_pos (by omega)]; rw [q1, show (2 : Int) = ((2 : Nat) : Int) from rfl, bDivN (by omega) (by omega) (by omega)]; done) | (rw [if_neg (by omega)]; exact q1)
                                                 · simp [up2_at, fH]
                                                   first | (rw [if_pos (by omega)]; rw [q2, show (2 : Int) = ((2 : Nat) : Int) from rfl, bDivN (by omega) (by omega) (by omega)]; done) | (rw [if_neg (by omega)]; exact q2)
                                                 · simp [up2_at, fP]
                                                   first | (rw [if_pos (by omega)]; (try rfl); done) | (rw [if_neg (by omega)]; exact q3)
                                                 · simp [up2_at, fL]
                                                   rw [q4]
                                                   first | (rw [if_pos (by omega)]; rfl) | (rw [if_neg (by omega), if_pos (by omega)]; rfl) | (rw [if_neg (by omega), if_neg (by omega), if_pos (by omega), q5]) | (rw [if_neg (by omega), if_neg (by omega), if_neg (by omega)]; rfl)
                                                 · simp [up2_at, fS]
                                                   first | (rw [if_pos (by omega), q5]; rfl) | (rw [if_neg (by omega)]; exact q5))))
                                  · first
                                    | (simp (discharger := omega) only [wr_id] at c_171; done)
                                    | (try simp (discharger := omega) only [wr_id] at c_171
                                       exfalso
                                       first | omega | exact c_171 trivial)
                                    | (try simp (discharger := omega) only [wr_id] at c_171
                                       refine R_iconst dX5_measure_174 ?_
                                       refine R_goto (tgt := 206) dX5_measure_175 (by decide) ?_
                                       refine R_istore_n dX5_measure_206 rfl (Nat.le_of_ble_eq_true rfl) ?_
                                       refine R_aload_n dX5_measure_207 rfl rfl ?_
                                       refine R_getA fRX5_45 dX5_measure_208 rfl (Nat.lt_of_lt_of_le (Nat.le_of_ble_eq_true rfl) hnx) rfl ?_
                                       refine R_iload_n dX5_measure_211 rfl rfl ?_
                                       refine R_iconst dX5_measure_212 ?_
                                       refine R_iadd dX5_measure_213 ?_
                                       refine R_aload_n dX5_measure_214 rfl rfl ?_
                                       refine R_getA fRX5_45 dX5_measure_215 rfl (Nat.lt_of_lt_of_le (Nat.le_of_ble_eq_true rfl) hnx) rfl ?_
                                       refine R_iload_n dX5_measure_218 rfl rfl ?_
                                       refine R_iaload (k := i) dX5_measure_219 rfl (Nat.lt_of_lt_of_le (Nat.le_of_ble_eq_true rfl) hnx) (by omega) (by omega) (by decide) ?_
                                       refine R_iload_n dX5_measure_220 rfl rfl ?_
                                       refine R_iadd dX5_measure_221 ?_
                                       refine R_iastore (k := i + 1) dX5_measure_222 rfl (Nat.lt_of_lt_of_le (Nat.le_of_ble_eq_true rfl) hnx) (by omega) (by omega) (by decide) ?_
                                       refine R_aload_n dX5_measure_223 rfl rfl ?_
                                       refine R_getA fRX5_48 dX5_measure_224 rfl (Nat.lt_of_lt_of_le (Nat.le_of_ble_eq_true rfl) hnx) rfl ?_
                                       refine R_iload_n dX5_measure_227 rfl rfl ?_
                                       refine R_iconst dX5_measure_228 ?_
                                       refine R_iadd dX5_measure_229 ?_
                                       refine R_iload_n dX5_measure_230 rfl rfl ?_
                                       refine R_if_eq (tgt := 245) dX5_measure_231 (by decide) (fun c_231 => ?_) (fun c_231 => ?_)
                                       · first
                                         | (simp (discharger := omega) only [wr_id] at c_231; done)
                                         | (try simp (discharger := omega) only [wr_id] at c_231
                                            exfalso
                                            first | omega | exact c_231 trivial)
                                         | (try simp (discharger := omega) only [wr_id] at c_231
                                            refine R_aload_n dX5_measure_245 rfl rfl ?_
                                            refine R_getA fRX5_48 dX5_measure_246 rfl (Nat.lt_of_lt_of_le (Nat.le_of_ble_eq_true rfl) hnx) rfl ?_
                                            refine R_iload_n dX5_measure_249 rfl rfl ?_
                                            refine R_iaload (k := i) dX5_measure_250 rfl (Nat.lt_of_lt_of_le (Nat.le_of_ble_eq_true rfl) hnx) (by omega) (by omega) (by decide) ?_
                                            refine R_iastore (k := i + 1) dX5_measure_251 rfl (Nat.lt_of_lt_of_le (Nat.le_of_ble_eq_true rfl) hnx) (by omega) (by omega) (by decide) ?_
                                            refine R_iinc dX5_measure_252 rfl (Nat.le_of_ble_eq_true rfl) ?_
                                            refine R_goto (tgt := 43) dX5_measure_255 (by decide) ?_
                                            refine step hi2 _ (fun p hp => ?_) (fun p h1 h2 k hk => ?_) ?_ ?_ ?_ ?_ ?_ _ _
                                            · rw [up2_ne _ _ _ (by omega), up2_ne _ _ _ (by omega), up2_ne _ _ _ (by omega), up2_ne _ _ _ (by omega), up2_ne _ _ _ (by omega)]
                                            · simp only [up2_at]
                                              rw [if_neg (by omega), if_neg (by omega), if_neg (by omega), if_neg (by omega), if_neg (by omega)]
                                            · simp [up2_at, fW]
                                              first | (rw [if_pos (by omega)]; rw [q1, show (2 : Int) = ((2 : Nat) : Int) from rfl, bDivN (by omega) (by omega) (by omega)]; done) | (rw [if_neg (by omega)]; exact q1)
                                            · simp [up2_at, fH]
                                              first | (rw [if_pos (by omega)]; rw [q2, show (2 : Int) = ((2 : Nat) : Int) from rfl, bDivN (by omega) (by omega) (by omega)]; done) | (rw [if_neg (by omega)]; exact q2)
                                            · simp [up2_at, fP]
                                              first | (rw [if_pos (by omega)]; (try rfl); done) | (rw [if_neg (by omega)]; exact q3)
                                            · simp [up2_at, fL]
                                              rw [q4]
                                              first | (rw [if_pos (by omega)]; rfl) | (rw [if_neg (by omega), if_pos (by omega)]; rfl) | (rw [if_neg (by omega), if_neg (by omega), if_pos (by omega), q5]) | (rw [if_neg (by omega), if_neg (by omega), if_neg (by omega)]; rfl)
                                            · simp [up2_at, fS]
                                              first | (rw [if_pos (by omega), q5]; rfl) | (rw [if_neg (by omega)]; exact q5))
                                       · first
                                         | (simp (discharger := omega) only [wr_id] at c_231; done)
                                         | (try simp (discharger := omega) only [wr_id] at c_231
                                            exfalso
                                            first | omega | exact c_231 trivial)
                                         | (try simp (discharger := omega) only [wr_id] at c_231
                                            refine R_iconst dX5_measure_234 ?_
                                            refine R_aload_n dX5_measure_235 rfl rfl ?_
                                            refine R_getA fRX5_48 dX5_measure_236 rfl (Nat.lt_of_lt_of_le (Nat.le_of_ble_eq_true rfl) hnx) rfl ?_
                                            refine R_iload_n dX5_measure_239 rfl rfl ?_
                                            refine R_iaload (k := i) dX5_measure_240 rfl (Nat.lt_of_lt_of_le (Nat.le_of_ble_eq_true rfl) hnx) (by omega) (by omega) (by decide) ?_
                                            refine R_imul dX5_measure_241 ?_
                                            refine R_goto (tgt := 251) dX5_measure_242 (by decide) ?_
                                            refine R_iastore (k := i + 1) dX5_measure_251 rfl (Nat.lt_of_lt_of_le (Nat.le_of_ble_eq_true rfl) hnx) (by omega) (by omega) (by decide) ?_
                                            refine R_iinc dX5_measure_252 rfl (Nat.le_of_ble_eq_true rfl) ?_
                                            refine R_goto (tgt := 43) dX5_measure_255 (by decide) ?_
                                            refine step hi2 _ (fun p hp => ?_) (fun p h1 h2 k hk => ?_) ?_ ?_ ?_ ?_ ?_ _ _
                                            · rw [up2_ne _ _ _ (by omega), up2_ne _ _ _ (by omega), up2_ne _ _ _ (by omega), up2_ne _ _ _ (by omega), up2_ne _ _ _ (by omega)]
                                            · simp only [up2_at]
                                              rw [if_neg (by omega), if_neg (by omega), if_neg (by omega), if_neg (by omega), if_neg (by omega)]
                                            · simp [up2_at, fW]
                                              first | (rw [if_pos (by omega)]; rw [q1, show (2 : Int) = ((2 : Nat) : Int) from rfl, bDivN (by omega) (by omega) (by omega)]; done) | (rw [if_neg (by omega)]; exact q1)
                                            · simp [up2_at, fH]
                                              first | (rw [if_pos (by omega)]; rw [q2, show (2 : Int) = ((2 : Nat) : Int) from rfl, bDivN (by omega) (by omega) (by omega)]; done) | (rw [if_neg (by omega)]; exact q2)
                                            · simp [up2_at, fP]
                                              first | (rw [if_pos (by omega)]; (try rfl); done) | (rw [if_neg (by omega)]; exact q3)
                                            · simp [up2_at, fL]
                                              rw [q4]
                                              first | (rw [if_pos (by omega)]; rfl) | (rw [if_neg (by omega), if_pos (by omega)]; rfl) | (rw [if_neg (by omega), if_neg (by omega), if_pos (by omega), q5]) | (rw [if_neg (by omega), if_neg (by omega), if_neg (by omega)]; rfl)
                                            · simp [up2_at, fS]
                                              first | (rw [if_pos (by omega), q5]; rfl) | (rw [if_neg (by omega)]; exact q5)))))
                        · first
                          | (simp (discharger := omega) only [wr_id] at c_140; done)
                          | (try simp (discharger := omega) only [wr_id] at c_140
                             exfalso
                             first | omega | exact c_140 trivial)
                          | (try simp (discharger := omega) only [wr_id] at c_140
                             refine R_iconst dX5_measure_143 ?_
                             refine R_goto (tgt := 153) dX5_measure_144 (by decide) ?_
                             refine R_iastore (k := i + 1) dX5_measure_153 rfl (Nat.lt_of_lt_of_le (Nat.le_of_ble_eq_true rfl) hnx) (by omega) (by omega) (by decide) ?_
                             refine R_aload_n dX5_measure_154 rfl rfl ?_
                             refine R_getA fRX5_24 dX5_measure_155 rfl (Nat.lt_of_lt_of_le (Nat.le_of_ble_eq_true rfl) hnx) rfl ?_
                             refine R_iload_n dX5_measure_158 rfl rfl ?_
                             refine R_iaload (k := i) dX5_measure_159 rfl (Nat.lt_of_lt_of_le (Nat.le_of_ble_eq_true rfl) hnx) (by omega) (by omega) (by decide) ?_
                             refine R_iconst dX5_measure_160 ?_
                             dsimp only
                             rw [up2_ne _ _ _ (by decide), up2_ne _ _ _ (by decide), up2_ne _ _ _ (by decide), e6]
                             refine R_icmp_eq (tgt := 174) dX5_measure_161 (by decide) (fun c_161 => ?_) (fun c_161 => ?_)
                             · first
                               | (simp (discharger := omega) only [wr_id] at c_161; done)
                               | (try simp (discharger := omega) only [wr_id] at c_161
                                  exfalso
                                  first | omega | exact c_161 trivial)
                               | (try simp (discharger := omega) only [wr_id] at c_161
                                  refine R_iconst dX5_measure_174 ?_
                                  refine R_goto (tgt := 206) dX5_measure_175 (by decide) ?_
                                  refine R_istore_n dX5_measure_206 rfl (Nat.le_of_ble_eq_true rfl) ?_
                                  refine R_aload_n dX5_measure_207 rfl rfl ?_
                                  refine R_getA fRX5_45 dX5_measure_208 rfl (Nat.lt_of_lt_of_le (Nat.le_of_ble_eq_true rfl) hnx) rfl ?_
                                  refine R_iload_n dX5_measure_211 rfl rfl ?_
                                  refine R_iconst dX5_measure_212 ?_
                                  refine R_iadd dX5_measure_213 ?_
                                  refine R_aload_n dX5_measure_214 rfl rfl ?_
                                  refine R_getA fRX5_45 dX5_measure_215 rfl (Nat.lt_of_lt_of_le (Nat.le_of_ble_eq_true rfl) hnx) rfl ?_
                                  refine R_iload_n dX5_measure_218 rfl rfl ?_
                                  refine R_iaload (k := i) dX5_measure_219 rfl (Nat.lt_of_lt_of_le (Nat.le_of_ble_eq_true rfl) hnx) (by omega) (by omega) (by decide) ?_
                                  refine R_iload_n dX5_measure_220 rfl rfl ?_
                                  refine R_iadd dX5_measure_221 ?_
                                  refine R_iastore (k := i + 1) dX5_measure_222 rfl (Nat.lt_of_lt_of_le (Nat.le_of_ble_eq_true rfl) hnx) (by omega) (by omega) (by decide) ?_
                                  refine R_aload_n dX5_measure_223 rfl rfl ?_
                                  refine R_getA fRX5_48 dX5_measure_224 rfl (Nat.lt_of_lt_of_le (Nat.le_of_ble_eq_true rfl) hnx) rfl ?_
                                  refine R_iload_n dX5_measure_227 rfl rfl ?_
                                  refine R_iconst dX5_measure_228 ?_
                                  refine R_iadd dX5_measure_229 ?_
                                  refine R_iload_n dX5_measure_230 rfl rfl ?_
                                  refine R_if_eq (tgt := 245) dX5_measure_231 (by decide) (fun c_231 => ?_) (fun c_231 => ?_)
                                  · first
                                    | (simp (discharger := omega) only [wr_id] at c_231; done)
                                    | (try simp (discharger := omega) only [wr_id] at c_231
                                       exfalso
                                       first | omega | exact c_231 trivial)
                                    | (try simp (discharger := omega) only [wr_id] at c_231
                                       refine R_aload_n dX5_measure_245 rfl rfl ?_
                                       refine R_getA fRX5_48 dX5_measure_246 rfl (Nat.lt_of_lt_of_le (Nat.le_of_ble_eq_true rfl) hnx) rfl ?_
                                       refine R_iload_n dX5_measure_249 rfl rfl ?_
                                       refine R_iaload (k := i) dX5_measure_250 rfl (Nat.lt_of_lt_of_le (Nat.le_of_ble_eq_true rfl) hnx) (by omega) (by omega) (by decide) ?_
                                       refine R_iastore (k := i + 1) dX5_measure_251 rfl (Nat.lt_of_lt_of_le (Nat.le_of_ble_eq_true rfl) hnx) (by omega) (by omega) (by decide) ?_
                                       refine R_iinc dX5_measure_252 rfl (Nat.le_of_ble_eq_true rfl) ?_
                                       refine R_goto (tgt := 43) dX5_measure_255 (by decide) ?_
                                       refine step hi2 _ (fun p hp => ?_) (fun p h1 h2 k hk => ?_) ?_ ?_ ?_ ?_ ?_ _ _
                                       · rw [up2_ne _ _ _ (by omega), up2_ne _ _ _ (by omega), up2_ne _ _ _ (by omega), up2_ne _ _ _ (by omega), up2_ne _ _ _ (by omega)]
                                       · simp only [up2_at]
                                         rw [if_neg (by omega), if_neg (by omega), if_neg (by omega), if_neg (by omega), if_neg (by omega)]
                                       · simp [up2_at, fW]
                                         first | (rw [if_pos (by omega)]; rw [q1, show (2 : Int) = ((2 : Nat) : Int) from rfl, bDivN (by omega) (by omega) (by omega)]; done) | (rw [if_neg (by omega)]; exact q1)
                                       · simp [up2_at, fH]
                                         first | (rw [if_pos (by omega)]; rw [q2, show (2 : Int) = ((2 : Nat) : Int) from rfl, bDivN (by omega) (by omega) (by omega)]; done) | (rw [if_neg (by omega)]; exact q2)
                                       · simp [up2_at, fP]
                                         first | (rw [if_pos (by omega)]; (try rfl); done) | (rw [if_neg (by omega)]; exact q3)
                                       · simp [up2_at, fL]
                                         rw [q4]
                                         first | (rw [if_pos (by omega)]; rfl) | (rw [if_neg (by omega), if_pos (by omega)]; rfl) | (rw [if_neg (by omega), if_neg (by omega), if_pos (by omega), q5]) | (rw [if_neg (by omega), if_neg (by omega), if_neg (by omega)]; rfl)
                                       · simp [up2_at, fS]
                                         first | (rw [if_pos (by omega), q5]; rfl) | (rw [if_neg (by omega)]; exact q5))
                                  · first
                                    | (simp (discharger := omega) only [wr_id] at c_231; done)
                                    | (try simp (discharger := omega) only [wr_id] at c_231
                                       exfalso
                                       first | omega | exact c_231 trivial)
                                    | (try simp (discharger := omega) only [wr_id] at c_231
                                       refine R_iconst dX5_measure_234 ?_
                                       refine R_aload_n dX5_measure_235 rfl rfl ?_
                                       refine R_getA fRX5_48 dX5_measure_236 rfl (Nat.lt_of_lt_of_le (Nat.le_of_ble_eq_true rfl) hnx) rfl ?_
                                       refine R_iload_n dX5_measure_239 rfl rfl ?_
                                       refine R_iaload (k := i) dX5_measure_240 rfl (Nat.lt_of_lt_of_le (Nat.le_of_ble_eq_true rfl) hnx) (by omega) (by omega) (by decide) ?_
                                       refine R_imul dX5_measure_241 ?_
                                       refine R_goto (tgt := 251) dX5_measure_242 (by decide) ?_
                                       refine R_iastore (k := i + 1) dX5_measure_251 rfl (Nat.lt_of_lt_of_le (Nat.le_of_ble_eq_true rfl) hnx) (by omega) (by omega) (by decide) ?_
                                       refine R_iinc dX5_measure_252 rfl (Nat.le_of_ble_eq_true rfl) ?_
                                       refine R_goto (tgt := 43) dX5_measure_255 (by decide) ?_
                                       refine step hi2 _ (fun p hp => ?_) (fun p h1 h2 k hk => ?_) ?_ ?_ ?_ ?_ ?_ _ _
                                       · rw [up2_ne _ _ _ (by omega), up2_ne _ _ _ (by omega), up2_ne _ _ _ (by omega), up2_ne _ _ _ (by omega), up2_ne _ _ _ (by omega)]
                                       · simp only [up2_at]
                                         rw [if_neg (by omega), if_neg (by omega), if_neg (by omega), if_neg (by omega), if_neg (by omega)]
                                       · simp [up2_at, fW]
                                         first | (rw [if_pos (by omega)]; rw [q1, show (2 : Int) = ((2 : Nat) : Int) from rfl, bDivN (by omega) (by omega) (by omega)]; done) | (rw [if_neg (by omega)]; exact q1)
                                       · simp [up2_at, fH]
                                         first | (rw [if_pos (by omega)]; rw [q2, show (2 : Int) = ((2 : Nat) : Int) from rfl, bDivN (by omega) (by omega) (by omega)]; done) | (rw [if_neg (by omega)]; exact q2)
                                       · simp [up2_at, fP]
                                         first | (rw [if_pos (by omega)]; (try rfl); done) | (rw [if_neg (by omega)]; exact q3)
                                       · simp [up2_at, fL]
                                         rw [q4]
                                         first | (rw [if_pos (by omega)]; rfl) | (rw [if_neg (by omega), if_pos (by omega)]; rfl) | (rw [if_neg (by omega), if_neg (by omega), if_pos (by omega), q5]) | (rw [if_neg (by omega), if_neg (by omega), if_neg (by omega)]; rfl)
                                       · simp [up2_at, fS]
                                         first | (rw [if_pos (by omega), q5]; rfl) | (rw [if_neg (by omega)]; exact q5)))
                             · first
                               | (simp (discharger := omega) only [wr_id] at c_161; done)
                               | (try simp (discharger := omega) only [wr_id] at c_161
                                  exfalso
                                  first | omega | exact c_161 trivial)
                               | (try simp (discharger := omega) only [wr_id] at c_161
                                  refine R_aload_n dX5_measure_164 rfl rfl ?_
                                  refine R_getA fRX5_24 dX5_measure_165 rfl (Nat.lt_of_lt_of_le (Nat.le_of_ble_eq_true rfl) hnx) rfl ?_
                                  refine R_iload_n dX5_measure_168 rfl rfl ?_
                                  refine R_iaload (k := i) dX5_measure_169 rfl (Nat.lt_of_lt_of_le (Nat.le_of_ble_eq_true rfl) hnx) (by omega) (by omega) (by decide) ?_
                                  refine R_iconst dX5_measure_170 ?_
                                  dsimp only
                                  rw [up2_ne _ _ _ (by decide), up2_ne _ _ _ (by decide), up2_ne _ _ _ (by decide), e6]
                                  refine R_icmp_ne (tgt := 178) dX5_measure_171 (by decide) (fun c_171 => ?_) (fun c_171 => ?_)
                                  · first
                                    | (simp (discharger := omega) only [wr_id] at c_171; done)
                                    | (try simp (discharger := omega) only [wr_id] at c_171
                                       exfalso
                                       first | omega | exact c_171 trivial)
                                    | (try simp (discharger := omega) only [wr_id] at c_171
                                       refine R_aload_n dX5_measure_178 rfl rfl ?_
                                       refine R_getA fRX5_24 dX5_measure_179 rfl (Nat.lt_of_lt_of_le (Nat.le_of_ble_eq_true rfl) hnx) rfl ?_
                                       refine R_iload_n dX5_measure_182 rfl rfl ?_
                                       refine R_iaload (k := i) dX5_measure_183 rfl (Nat.lt_of_lt_of_le (Nat.le_of_ble_eq_true rfl) hnx) (by omega) (by omega) (by decide) ?_
                                       refine R_iconst dX5_measure_184 ?_
                                       dsimp only
                                       rw [up2_ne _ _ _ (by decide), up2_ne _ _ _ (by decide), up2_ne _ _ _ (by decide), e6]
                                       refine R_icmp_ne (tgt := 192) dX5_measure_185 (by decide) (fun c_185 => ?_) (fun c_185 => ?_)
                                       · first
                                         | (simp (discharger := omega) only [wr_id] at c_185; done)
                                         | (try simp (discharger := omega) only [wr_id] at c_185
                                            exfalso
                                            first | omega | exact c_185 trivial)
                                         | (try simp (discharger := omega) only [wr_id] at c_185
                                            refine R_iload_n dX5_measure_192 rfl rfl ?_
                                            refine R_if_eq (tgt := 205) dX5_measure_193 (by decide) (fun c_193 => ?_) (fun c_193 => ?_)
                                            · first
                                              | (simp (discharger := omega) only [wr_id] at c_193; done)
                                              | (try simp (discharger := omega) only [wr_id] at c_193
                                                 exfalso
                                                 first | omega | exact c_193 trivial)
                                              | (try simp (discharger := omega) only [wr_id] at c_193
                                                 refine R_iconst dX5_measure_205 ?_
                                                 refine R_istore_n dX5_measure_206 rfl (Nat.le_of_ble_eq_true rfl) ?_
                                                 refine R_aload_n dX5_measure_207 rfl rfl ?_
                                                 refine R_getA fRX5_45 dX5_measure_208 rfl (Nat.lt_of_lt_of_le (Nat.le_of_ble_eq_true rfl) hnx) rfl ?_
                                                 refine R_iload_n dX5_measure_211 rfl rfl ?_
                                                 refine R_iconst dX5_measure_212 ?_
                                                 refine R_iadd dX5_measure_213 ?_
                                                 refine R_aload_n dX5_measure_214 rfl rfl ?_
                                                 refine R_getA fRX5_45 dX5_measure_215 rfl (Nat.lt_of_lt_of_le (Nat.le_of_ble_eq_true rfl) hnx) rfl ?_
                                                 refine R_iload_n dX5_measure_218 rfl rfl ?_
                                                 refine R_iaload (k := i) dX5_measure_219 rfl (Nat.lt_of_lt_of_le (Nat.le_of_ble_eq_true rfl) hnx) (by omega) (by omega) (by decide) ?_
                                                 refine R_iload_n dX5_measure_220 rfl rfl ?_
                                                 refine R_iadd dX5_measure_221 ?_
                                                 refine R_iastore (k := i + 1) dX5_measure_222 rfl (Nat.lt_of_lt_of_le (Nat.le_of_ble_eq_true rfl) hnx) (by omega) (by omega) (by decide) ?_
                                                 refine R_aload_n dX5_measure_223 rfl rfl ?_
                                                 refine R_getA fRX5_48 dX5_measure_224 rfl (Nat.lt_of_lt_of_le (Nat.le_of_ble_eq_true rfl) hnx) rfl ?_
                                                 refine R_iload_n dX5_measure_227 rfl rfl ?_
                                                 refine R_iconst dX5_measure_228 ?_
                                                 refine R_iadd dX5_measure_229 ?_
                                                 refine R_iload_n dX5_measure_230 rfl rfl ?_
                                                 refine R_if_eq (tgt := 245) dX5_measure_231 (by decide) (fun c_231 => ?_) (fun c_231 => ?_)
                                                 · first
                                                   | (simp (discharger := omega) only [wr_id] at c_231; done)
                                                   | (try simp (discharger := omega) only [wr_id] at c_231
                                                      exfalso
                                                      first | omega | exact c_231 trivial)
                                                   | (try simp (discharger := omega) only [wr_id] at c_231
                                                      refine R_aload_n dX5_measure_245 rfl rfl ?_
                                                      refine R_getA fRX5_48 dX5_measure_246 rfl (Nat.lt_of_lt_of_le (Nat.le_of_ble_eq_true rfl) hnx) rfl ?_
                                                      refine R_iload_n dX5_measure_249 rfl rfl ?_
                                                      refine R_iaload (k := i) dX5_measure_250 rfl (Nat.lt_of_lt_of_le (Nat.le_of_ble_eq_true rfl) hnx) (by omega) (by omega) (by decide) ?_
                                                      refine R_iastore (k := i + 1) dX5_measure_251 rfl (Nat.lt_of_lt_of_le (Nat.le_of_ble_eq_true rfl) hnx) (by omega) (by omega) (by decide) ?_
                                                      refine R_iinc dX5_measure_252 rfl (Nat.le_of_ble_eq_true rfl) ?_
                                                      refine R_goto (tgt := 43) dX5_measure_255 (by decide) ?_
                                                      refine step hi2 _ (fun p hp => ?_) (fun p h1 h2 k hk => ?_) ?_ ?_ ?_ ?_ ?_ _ _
                                                      · rw [up2_ne _ _ _ (by omega), up2_ne _ _ _ (by omega), up2_ne _ _ _ (by omega), up2_ne _ _ _ (by omega), up2_ne _ _ _ (by omega)]
                                                      · simp only [up2_at]
                                                        rw [if_neg (by omega), if_neg (by omega), if_neg (by omega), if_neg (by omega), if_neg (by omega)]
                                                      · simp [up2_at, fW]
                                                        first | (rw [if_pos (by omega)]; rw [q1, show (2 : Int) = ((2 : Nat) : Int) from rfl, bDivN (by omega) (by omega) (by omega)]; done) | (rw [if_neg (by omega)]; exact q1)
                                                      · simp [up2_at, fH]
                                                        first | (rw [if_pos (by omega)]; rw [q2, show (2 : Int) = ((2 : Nat) : Int) from rfl, bDivN (by omega) (by omega) (by omega)]; done) | (rw [if_neg (by omega)]; exact q2)
                                                      · simp [up2_at, fP]
                                                        first | (rw [if_pos (by omega)]; (try rfl); done) | (rw [if_neg (by omega)]; exact q3)
                                                      · simp [up2_at, fL]
                                                        rw [q4]
                                                        first | (rw [if_pos (by omega)]; rfl) | (rw [if_neg (by omega), if_pos (by omega)]; rfl) | (rw [if_neg (by omega), if_neg (by omega), if_pos (by omega), q5]) | (rw [if_neg (by omega), if_neg (by omega), if_neg (by omega)]; rfl)
                                                      · simp [up2_at, fS]
                                                        first | (rw [if_pos (by omega), q5]; rfl) | (rw [if_neg (by omega)]; exact q5))
                                                 · first
                                                   | (simp (discharger := omega) only [wr_id] at c_231; done)
                                                   | (try simp (discharger := omega) only [wr_id] at c_231
                                                      exfalso
                                                      first | omega | exact c_231 trivial)
                                                   | (try simp (discharger := omega) only [wr_id] at c_231
                                                      refine R_iconst dX5_measure_234 ?_
                                                      refine R_aload_n dX5_measure_235 rfl rfl ?_
                                                      refine R_getA fRX5_48 dX5_measure_236 rfl (Nat.lt_of_lt_of_le (Nat.le_of_ble_eq_true rfl) hnx) rfl ?_
                                                      refine R_iload_n dX5_measure_239 rfl rfl ?_
                                                      refine R_iaload (k := i) dX5_measure_240 rfl (Nat.lt_of_lt_of_le (Nat.le_of_ble_eq_true rfl) hnx) (by omega) (by omega) (by decide) ?_
                                                      refine R_imul dX5_measure_241 ?_
                                                      refine R_goto (tgt := 251) dX5_measure_242 (by decide) ?_
                                                      refine R_iastore (k := i + 1) dX5_measure_251 rfl (Nat.lt_of_lt_of_le (Nat.le_of_ble_eq_true rfl) hnx) (by omega) (by omega) (by decide) ?_
                                                      refine R_iinc dX5_measure_252 rfl (Nat.le_of_ble_eq_true rfl) ?_
                                                      refine R_goto (tgt := 43) dX5_measure_255 (by decide) ?_
                                                      refine step hi2 _ (fun p hp => ?_) (fun p h1 h2 k hk => ?_) ?_ ?_ ?_ ?_ ?_ _ _
                                                      · rw [up2_ne _ _ _ (by omega), up2_ne _ _ _ (by omega), up2_ne _ _ _ (by omega), up2_ne _ _ _ (by omega), up2_ne _ _ _ (by omega)]
                                                      · simp only [up2_at]
                                                        rw [if_neg (by omega), if_neg (by omega), if_neg (by omega), if_neg (by omega), if_neg (by omega)]
                                                      · simp [up2_at, fW]
                                                        first | (rw [if_pos (by omega)]; rw [q1, show (2 : Int) = ((2 : Nat) : Int) from rfl, bDivN (by omega) (by omega) (by omega)]; done) | (rw [if_neg (by omega)]; exact q1)
                                                      · simp [up2_at, fH]
                                                        first | (rw [if_pos (by omega)]; rw [q2, show (2 : Int) = ((2 : Nat) : Int) from rfl, bDivN (by omega) (by omega) (by omega)]; done) | (rw [if_neg (by omega)]; exact q2)
                                                      · simp [up2_at, fP]
                                                        first | (rw [if_pos (by omega)]; (try rfl); done) | (rw [if_neg (by omega)]; exact q3)
                                                      · simp [up2_at, fL]
                                                        rw [q4]
                                                        first | (rw [if_pos (by omega)]; rfl) | (rw [if_neg (by omega), if_pos (by omega)]; rfl) | (rw [if_neg (by omega), if_neg (by omega), if_pos (by omega), q5]) | (rw [if_neg (by omega), if_neg (by omega), if_neg (by omega)]; rfl)
                                                      · simp [up2_at, fS]
                                                        first | (rw [if_pos (by omega), q5]; rfl) | (rw [if_neg (by omega)]; exact q5)))
                                            · first
                                              | (simp (discharger := omega) only [wr_id] at c_193; done)
                                              | (try simp (discharger := omega) only [wr_id] at c_193
                                                 exfalso
                                                 first | omega | exact c_193 trivial)
                                              | (try simp (discharger := omega) only [wr_id] at c_193
                                                 refine R_aload_n dX5_measure_196 rfl rfl ?_
                                                 refine R_getA fRX5_48 dX5_measure_197 rfl (Nat.lt_of_lt_of_le (Nat.le_of_ble_eq_true rfl) hnx) rfl ?_
                                                 refine R_iload_n dX5_measure_200 rfl rfl ?_
                                                 refine R_iaload (k := i) dX5_measure_201 rfl (Nat.lt_of_lt_of_le (Nat.le_of_ble_eq_true rfl) hnx) (by omega) (by omega) (by decide) ?_
                                                 refine R_goto (tgt := 206) dX5_measure_202 (by decide) ?_
                                                 refine R_istore_n dX5_measure_206 rfl (Nat.le_of_ble_eq_true rfl) ?_
                                                 refine R_aload_n dX5_measure_207 rfl rfl ?_
                                                 refine R_getA fRX5_45 dX5_measure_208 rfl (Nat.lt_of_lt_of_le (Nat.le_of_ble_eq_true rfl) hnx) rfl ?_
                                                 refine R_iload_n dX5_measure_211 rfl rfl ?_
                                                 refine R_iconst dX5_measure_212 ?_
                                                 refine R_iadd dX5_measure_213 ?_
                                                 refine R_aload_n dX5_measure_214 rfl rfl ?_
                                                 refine R_getA fRX5_45 dX5_measure_215 rfl (Nat.lt_of_lt_of_le (Nat.le_of_ble_eq_true rfl) hnx) rfl ?_
                                                 refine R_iload_n dX5_measure_218 rfl rfl ?_
                                                 refine R_iaload (k := i) dX5_measure_219 rfl (Nat.lt_of_lt_of_le (Nat.le_of_ble_eq_true rfl) hnx) (by omega) (by omega) (by decide) ?_
                                                 refine R_iload_n dX5_measure_220 rfl rfl ?_
                                                 refine R_iadd dX5_measure_221 ?_
                                                 refine R_iastore (k := i + 1) dX5_measure_222 rfl (Nat.lt_of_lt_of_le (Nat.le_of_ble_eq_true rfl) hnx) (by omega) (by omega) (by decide) ?_
                                                 refine R_aload_n dX5_measure_223 rfl rfl ?_
                                                 refine R_getA fRX5_48 dX5_measure_224 rfl (Nat.lt_of_lt_of_le (Nat.le_of_ble_eq_true rfl) hnx) rfl ?_
                                                 refine R_iload_n dX5_measure_227 rfl rfl ?_
                                                 refine R_iconst dX5_measure_228 ?_
                                                 refine R_iadd dX5_measure_229 ?_
                                                 refine R_iload_n dX5_measure_230 rfl rfl ?_
                                                 refine R_if_eq (tgt := 245) dX5_measure_231 (by decide) (fun c_231 => ?_) (fun c_231 => ?_)
                                                 · first
                                                   | (simp (discharger := omega) only [wr_id] at c_231; done)
                                                   | (try simp (discharger := omega) only [wr_id] at c_231
                                                      exfalso
                                                      first | omega | exact c_231 trivial)
                                                   | (try simp (discharger := omega) only [wr_id] at c_231
                                                      refine R_aload_n dX5_measure_245 rfl rfl ?_
                                                      refine R_getA fRX5_48 dX5_measure_246 rfl (Nat.lt_of_lt_of_le (Nat.le_of_ble_eq_true rfl) hnx) rfl ?_
                                                      refine R_iload_n dX5_measure_249 rfl rfl ?_
                                                      refine R_iaload (k := i) dX5_measure_250 rfl (Nat.lt_of_lt_of_le (Nat.le_of_ble_eq_true rfl) hnx) (by omega) (by omega) (by decide) ?_
                                                      refine R_iastore (k := i + 1) dX5_measure_251 rfl (Nat.lt_of_lt_of_le (Nat.le_of_ble_eq_true rfl) hnx) (by omega) (by omega) (by decide) ?_
                                                      refine R_iinc dX5_measure_252 rfl (Nat.le_of_ble_eq_true rfl) ?_
                                                      refine R_goto (tgt := 43) dX5_measure_255 (by decide) ?_
                                                      refine step hi2 _ (fun p hp => ?_) (fun p h1 h2 k hk => ?_) ?_ ?_ ?_ ?_ ?_ _ _
                                                      · rw [up2_ne _ _ _ (by omega), up2_ne _ _ _ (by omega), up2_ne _ _ _ (by omega), up2_ne _ _ _ (by omega), up2_ne _ _ _ (by omega)]
                                                      · simp only [up2_at]
                                                        rw [if_neg (by omega), if_neg (by omega), if_neg (by omega), if_neg (by omega), if_neg (by omega)]
                                                      · simp [up2_at, fW]
                                                        first | (rw [if_pos (by omega)]; rw [q1, show (2 : Int) = ((2 : Nat) : Int) from rfl, bDivN (by omega) (by omega) (by omega)]; done) | (rw [if_neg (by omega)]; exact q1)
                                                      · simp [up2_at, fH]
                                                        first | (rw [if_pos (by omega)]; rw [q2, show (2 : Int) = ((2 : Nat) : Int) from rfl, bDivN (by omega) (by omega) (by omega)]; done) | (rw [if_neg (by omega)]; exact q2)
                                                      · simp [up2_at, fP]
                                                        first | (rw [if_pos (by omega)]; (try rfl); done) | (rw [if_neg (by omega)]; exact q3)
                                                      · simp [up2_at, fL]
                                                        rw [q4]
                                                        first | (rw [if_pos (by omega)]; rfl) | (rw [if_neg (by omega), if_pos (by omega)]; rfl) | (rw [if_neg (by omega), if_neg (by omega), if_pos (by omega), q5]) | (rw [if_neg (by omega), if_neg (by omega), if_neg (by omega)]; rfl)
                                                      · simp [up2_at, fS]
                                                        first | (rw [if_pos (by omega), q5]; rfl) | (rw [if_neg (by omega)]; exact q5))
                                                 · first
                                                   | (simp (discharger := omega) only [wr_id] at c_231; done)
                                                   | (try simp (discharger := omega) only [wr_id] at c_231
                                                      exfalso
                                                      first | omega | exact c_231 trivial)
                                                   | (try simp (discharger := omega) only [wr_id] at c_231
                                                      refine R_iconst dX5_measure_234 ?_
                                                      refine R_aload_n dX5_measure_235 rfl rfl ?_
                                                      refine R_getA fRX5_48 dX5_measure_236 rfl (Nat.lt_of_lt_of_le (Nat.le_of_ble_eq_true rfl) hnx) rfl ?_
                                                      refine R_iload_n dX5_measure_239 rfl rfl ?_
                                                      refine R_iaload (k := i) dX5_measure_240 rfl (Nat.lt_of_lt_of_le (Nat.le_of_ble_eq_true rfl) hnx) (by omega) (by omega) (by decide) ?_
                                                      refine R_imul dX5_measure_241 ?_
                                                      refine R_goto (tgt := 251) dX5_measure_242 (by decide) ?_
                                                      refine R_iastore (k := i + 1) dX5_measure_251 rfl (Nat.lt_of_lt_of_le (Nat.le_of_ble_eq_true rfl) hnx) (by omega) (by omega) (by decide) ?_
                                                      refine R_iinc dX5_measure_252 rfl (Nat.le_of_ble_eq_true rfl) ?_
                                                      refine R_goto (tgt := 43) dX5_measure_255 (by decide) ?_
                                                      refine step hi2 _ (fun p hp => ?_) (fun p h1 h2 k hk => ?_) ?_ ?_ ?_ ?_ ?_ _ _
                                                      · rw [up2_ne _ _ _ (by omega), up2_ne _ _ _ (by omega), up2_ne _ _ _ (by omega), up2_ne _ _ _ (by omega), up2_ne _ _ _ (by omega)]
                                                      · simp only [up2_at]
                                                        rw [if_neg (by omega), if_neg (by omega), if_neg (by omega), if_neg (by omega), if_neg (by omega)]
                                                      · simp [up2_at, fW]
                                                        first | (rw [if_pos (by omega)]; rw [q1, show (2 : Int) = ((2 : Nat) : Int) from rfl, bDivN (by omega) (by omega) (by omega)]; done) | (rw [if_neg (by omega)]; exact q1)
                                                      · simp [up2_at, fH]
                                                        first | (rw [if_pos (by omega)]; rw [q2, show (2 : Int) = ((2 : Nat) : Int) from rfl, bDivN (by omega) (by omega) (by omega)]; done) | (rw [if_neg (by omega)]; exact q2)
                                                      · simp [up2_at, fP]
                                                        first | (rw [if_pos (by omega)]; (try rfl); done) | (rw [if_neg (by omega)]; exact q3)
                                                      · simp [up2_at, fL]
                                                        rw [q4]
                                                        first | (rw [if_pos (by omega)]; rfl) | (rw [if_neg (by omega), if_pos (by omega)]; rfl) | (rw [if_neg (by omega), if_neg (by omega), if_pos (by omega), q5]) | (rw [if_neg (by omega), if_neg (by omega), if_neg (by omega)]; rfl)
                                                      · simp [up2_at, fS]
                                                        first | (rw [if_pos (by omega), q5]; rfl) | (rw [if_neg (by omega)]; exact q5))))
                                       · first
                                         | (simp (discharger := omega) only [wr_id] at c_185; done)
                                         | (try simp (discharger := omega) only [wr_id] at c_185
                                            exfalso
                                            first | omega | exact c_185 trivial)
                                         | (try simp (discharger := omega) only [wr_id] at c_185
                                            refine R_iconst dX5_measure_188 ?_
                                            refine R_goto (tgt := 206) dX5_measure_189 (by decide) ?_
                                            refine R_istore_n dX5_measure_206 rfl (Nat.le_of_ble_eq_true rfl) ?_
                                            refine R_aload_n dX5_measure_207 rfl rfl ?_
                                            refine R_getA fRX5_45 dX5_measure_208 rfl (Nat.lt_of_lt_of_le (Nat.le_of_ble_eq_true rfl) hnx) rfl ?_
                                            refine R_iload_n dX5_measure_211 rfl rfl ?_
                                            refine R_iconst dX5_measure_212 ?_
                                            refine R_iadd dX5_measure_213 ?_
                                            refine R_aload_n dX5_measure_214 rfl rfl ?_
                                            refine R_getA fRX5_45 dX5_measure_215 rfl (Nat.lt_of_lt_of_le (Nat.le_of_ble_eq_true rfl) hnx) rfl ?_
                                            refine R_iload_n dX5_measure_218 rfl rfl ?_
                                            refine R_iaload (k := i) dX5_measure_219 rfl (Nat.lt_of_lt_of_le (Nat.le_of_ble_eq_true rfl) hnx) (by omega) (by omega) (by decide) ?_
                                            refine R_iload_n dX5_measure_220 rfl rfl ?_
                                            refine R_iadd dX5_measure_221 ?_
                                            refine R_iastore (k := i + 1) dX5_measure_222 rfl (Nat.lt_of_lt_of_le (Nat.le_of_ble_eq_true rfl) hnx) (by omega) (by omega) (by decide) ?_
                                            refine R_aload_n dX5_measure_223 rfl rfl ?_
                                            refine R_getA fRX5_48 dX5_measure_224 rfl (Nat.lt_of_lt_of_le (Nat.le_of_ble_eq_true rfl) hnx) rfl ?_
                                            refine R_iload_n dX5_measure_227 rfl rfl ?_
                                            refine R_iconst dX5_measure_228 ?_
                                            refine R_iadd dX5_measure_229 ?_
                                            refine R_iload_n dX5_measure_230 rfl rfl ?_
                                            refine R_if_eq (tgt := 245) dX5_measure_231 (by decide) (fun c_231 => ?_) (fun c_231 => ?_)
                                            · first
                                              | (simp (discharger := omega) only [wr_id] at c_231; done)
                                              | (try simp (discharger := omega) only [wr_id] at c_231
                                                 exfalso
                                                 first | omega | exact c_231 trivial)
                                              | (try simp (discharger := omega) only [wr_id] at c_231
                                                 refine R_aload_n dX5_measure_245 rfl rfl ?_
                                                 refine R_getA fRX5_48 dX5_measure_246 rfl (Nat.lt_of_lt_of_le (Nat.le_of_ble_eq_true rfl) hnx) rfl ?_
                                                 refine R_iload_n dX5_measure_249 rfl rfl ?_
                                                 refine R_iaload (k := i) dX5_measure_250 rfl (Nat.lt_of_lt_of_le (Nat.le_of_ble_eq_true rfl) hnx) (by omega) (by omega) (by decide) ?_
                                                 refine R_iastore (k := i + 1) dX5_measure_251 rfl (Nat.lt_of_lt_of_le (Nat.le_of_ble_eq_true rfl) hnx) (by omega) (by omega) (by decide) ?_
                                                 refine R_iinc dX5_measure_252 rfl (Nat.le_of_ble_eq_true rfl) ?_
                                                 refine R_goto (tgt := 43) dX5_measure_255 (by decide) ?_
                                                 refine step hi2 _ (fun p hp => ?_) (fun p h1 h2 k hk => ?_) ?_ ?_ ?_ ?_ ?_ _ _
                                                 · rw [up2_ne _ _ _ (by omega), up2_ne _ _ _ (by omega), up2_ne _ _ _ (by omega), up2_ne _ _ _ (by omega), up2_ne _ _ _ (by omega)]
                                                 · simp only [up2_at]
                                                   rw [if_neg (by omega), if_neg (by omega), if_neg (by omega), if_neg (by omega), if_neg (by omega)]
                                                 · simp [up2_at, fW]
                                                   first | (rw [if_pos (by omega)]; rw [q1, show (2 : Int) = ((2 : Nat) : Int) from rfl, bDivN (by omega) (by omega) (by omega)]; done) | (rw [if_neg (by omega)]; exact q1)
                                                 · simp [up2_at, fH]
                                                   first | (rw [if_pos (by omega)]; rw [q2, show (2 : Int) = ((2 : Nat) : Int) from rfl, bDivN (by omega) (by omega) (by omega)]; done) | (rw [if_neg (by omega)]; exact q2)
                                                 · simp [up2_at, fP]
                                                   first | (rw [if_pos (by omega)]; (try rfl); done) | (rw [if_neg (by omega)]; exact q3)
                                                 · simp [up2_at, fL]
                                                   rw [q4]
                                                   first | (rw [if_pos (by omega)]; rfl) | (rw [if_neg (by omega), if_pos (by omega)]; rfl) | (rw [if_neg (by omega), if_neg (by omega), if_pos (by omega), q5]) | (rw [if_neg (by omega), if_neg (by omega), if_neg (by omega)]; rfl)
                                                 · simp [up2_at, fS]
                                                   first | (rw [if_pos (by omega), q5]; rfl) | (rw [if_neg (by omega)]; exact q5))
                                            · first
                                              | (simp (discharger := omega) only [wr_id] at c_231; done)
                                              | (try simp (discharger := omega) only [wr_id] at c_231
                                                 exfalso
                                                 first | omega | exact c_231 trivial)
                                              | (try simp (discharger := omega) only [wr_id] at c_231
                                                 refine R_iconst dX5_measure_234 ?_
                                                 refine R_aload_n dX5_measure_235 rfl rfl ?_
                                                 refine R_getA fRX5_48 dX5_measure_236 rfl (Nat.lt_of_lt_of_le (Nat.le_of_ble_eq_true rfl) hnx) rfl ?_
                                                 refine R_iload_n dX5_measure_239 rfl rfl ?_
                                                 refine R_iaload (k := i) dX5_measure_240 rfl (Nat.lt_of_lt_of_le (Nat.le_of_ble_eq_true rfl) hnx) (by omega) (by omega) (by decide) ?_
                                                 refine R_imul dX5_measure_241 ?_
                                                 refine R_goto (tgt := 251) dX5_measure_242 (by decide) ?_
                                                 refine R_iastore (k := i + 1) dX5_measure_251 rfl (Nat.lt_of_lt_of_le (Nat.le_of_ble_eq_true rfl) hnx) (by omega) (by omega) (by decide) ?_
                                                 refine R_iinc dX5_measure_252 rfl (Nat.le_of_ble_eq_true rfl) ?_
                                                 refine R_goto (tgt := 43) dX5_measure_255 (by decide) ?_
                                                 refine step hi2 _ (fun p hp => ?_) (fun p h1 h2 k hk => ?_) ?_ ?_ ?_ ?_ ?_ _ _
                                                 · rw [up2_ne _ _ _ (by omega), up2_ne _ _ _ (by omega), up2_ne _ _ _ (by omega), up2_ne _ _ _ (by omega), up2_ne _ _ _ (by omega)]
                                                 · simp only [up2_at]
                                                   rw [if_neg (by omega), if_neg (by omega), if_neg (by omega), if_neg (by omega), if_neg (by omega)]
                                                 · simp [up2_at, fW]
                                                   first | (rw [if_pos (by omega)]; rw [q1, show (2 : Int) = ((2 : Nat) : Int) from rfl, bDivN (by omega) (by omega) (by omega)]; done) | (rw [if_neg (by omega)]; exact q1)
                                                 · simp [up2_at, fH]
                                                   first | (rw [if_pos (by omega)]; rw [q2, show (2 : Int) = ((2 : Nat) : Int) from rfl, bDivN (by omega) (by omega) (by omega)]; done) | (rw [if_neg (by omega)]; exact q2)
                                                 · simp [up2_at, fP]
                                                   first | (rw [if_pos (by omega)]; (try rfl); done) | (rw [if_neg (by omega)]; exact q3)
                                                 · simp [up2_at, fL]
                                                   rw [q4]
                                                   first | (rw [if_pos (by omega)]; rfl) | (rw [if_neg (by omega), if_pos (by omega)]; rfl) | (rw [if_neg (by omega), if_neg (by omega), if_pos (by omega), q5]) | (rw [if_neg (by omega), if_neg (by omega), if_neg (by omega)]; rfl)
                                                 · simp [up2_at, fS]
                                                   first | (rw [if_pos (by omega), q5]; rfl) | (rw [if_neg (by omega)]; exact q5))))
                                  · first
                                    | (simp (discharger := omega) only [wr_id] at c_171; done)
                                    | (try simp (discharger := omega) only [wr_id] at c_171
                                       exfalso
                                       first | omega | exact c_171 trivial)
                                    | (try simp (discharger := omega) only [wr_id] at c_171
                                       refine R_iconst dX5_measure_174 ?_
                                       refine R_goto (tgt := 206) dX5_measure_175 (by decide) ?_
                                       refine R_istore_n dX5_measure_206 rfl (Nat.le_of_ble_eq_true rfl) ?_
                                       refine R_aload_n dX5_measure_207 rfl rfl ?_
                                       refine R_getA fRX5_45 dX5_measure_208 rfl (Nat.lt_of_lt_of_le (Nat.le_of_ble_eq_true rfl) hnx) rfl ?_
                                       refine R_iload_n dX5_measure_211 rfl rfl ?_
                                       refine R_iconst dX5_measure_212 ?_
                                       refine R_iadd dX5_measure_213 ?_
                                       refine R_aload_n dX5_measure_214 rfl rfl ?_
                                       refine R_getA fRX5_45 dX5_measure_215 rfl (Nat.lt_of_lt_of_le (Nat.le_of_ble_eq_true rfl) hnx) rfl ?_
                                       refine R_iload_n dX5_measure_218 rfl rfl ?_
                                       refine R_iaload (k := i) dX5_measure_219 rfl (Nat.lt_of_lt_of_le (Nat.le_of_ble_eq_true rfl) hnx) (by omega) (by omega) (by decide) ?_
                                       refine R_iload_n dX5_measure_220 rfl rfl ?_
                                       refine R_iadd dX5_measure_221 ?_
                                       refine R_iastore (k := i + 1) dX5_measure_222 rfl (Nat.lt_of_lt_of_le (Nat.le_of_ble_eq_true rfl) hnx) (by omega) (by omega) (by decide) ?_
                                       refine R_aload_n dX5_measure_223 rfl rfl ?_
                                       refine R_getA fRX5_48 dX5_measure_224 rfl (Nat.lt_of_lt_of_le (Nat.le_of_ble_eq_true rfl) hnx) rfl ?_
                                       refine R_iload_n dX5_measure_227 rfl rfl ?_
                                       refine R_iconst dX5_measure_228 ?_
                                       refine R_iadd dX5_measure_229 ?_
                                       refine R_iload_n dX5_measure_230 rfl rfl ?_
                                       refine R_if_eq (tgt := 245) dX5_measure_231 (by decide) (fun c_231 => ?_) (fun c_231 => ?_)
                                       · first
                                         | (simp (discharger := omega) only [wr_id] at c_231; done)
                                         | (try simp (discharger := omega) only [wr_id] at c_231
                                            exfalso
                                            first | omega | exact c_231 trivial)
                                         | (try simp (discharger := omega) only [wr_id] at c_231
                                            refine R_aload_n dX5_measure_245 rfl rfl ?_
                                            refine R_getA fRX5_48 dX5_measure_246 rfl (Nat.lt_of_lt_of_le (Nat.le_of_ble_eq_true rfl) hnx) rfl ?_
                                            refine R_iload_n dX5_measure_249 rfl rfl ?_
                                            refine R_iaload (k := i) dX5_measure_250 rfl (Nat.lt_of_lt_of_le (Nat.le_of_ble_eq_true rfl) hnx) (by omega) (by omega) (by decide) ?_
                                            refine R_iastore (k := i + 1) dX5_measure_251 rfl (Nat.lt_of_lt_of_le (Nat.le_of_ble_eq_true rfl) hnx) (by omega) (by omega) (by decide) ?_
                                            refine R_iinc dX5_measure_252 rfl (Nat.le_of_ble_eq_true rfl) ?_
                                            refine R_goto (tgt := 43) dX5_measure_255 (by decide) ?_
                                            refine step hi2 _ (fun p hp => ?_) (fun p h1 h2 k hk => ?_) ?_ ?_ ?_ ?_ ?_ _ _
                                            · rw [up2_ne _ _ _ (by omega), up2_ne _ _ _ (by omega), up2_ne _ _ _ (by omega), up2_ne _ _ _ (by omega), up2_ne _ _ _ (by omega)]
                                            · simp only [up2_at]
                                              rw [if_neg (by omega), if_neg (by omega), if_neg (by omega), if_neg (by omega), if_neg (by omega)]
                                            · simp [up2_at, fW]
                                              first | (rw [if_pos (by omega)]; rw [q1, show (2 : Int) = ((2 : Nat) : Int) from rfl, bDivN (by omega) (by omega) (by omega)]; done) | (rw [if_neg (by omega)]; exact q1)
                                            · simp [up2_at, fH]
                                              first | (rw [if_pos (by omega)]; rw [q2, show (2 : Int) = ((2 : Nat) : Int) from rfl, bDivN (by omega) (by omega) (by omega)]; done) | (rw [if_neg (by omega)]; exact q2)
                                            · simp [up2_at, fP]
                                              first | (rw [if_pos (by omega)]; (try rfl); done) | (rw [if_neg (by omega)]; exact q3)
                                            · simp [up2_at, fL]
                                              rw [q4]
                                              first | (rw [if_pos (by omega)]; rfl) | (rw [if_neg (by omega), if_pos (by omega)]; rfl) | (rw [if_neg (by omega), if_neg (by omega), if_pos (by omega), q5]) | (rw [if_neg (by omega), if_neg (by omega), if_neg (by omega)]; rfl)
                                            · simp [up2_at, fS]
                                              first | (rw [if_pos (by omega), q5]; rfl) | (rw [if_neg (by omega)]; exact q5))
                                       · first
                                         | (simp (discharger := omega) only [wr_id] at c_231; done)
                                         | (try simp (discharger := omega) only [wr_id] at c_231
                                            exfalso
                                            first | omega | exact c_231 trivial)
                                         | (try simp (discharger := omega) only [wr_id] at c_231
                                            refine R_iconst dX5_measure_234 ?_
                                            refine R_aload_n dX5_measure_235 rfl rfl ?_
                                            refine R_getA fRX5_48 dX5_measure_236 rfl (Nat.lt_of_lt_of_le (Nat.le_of_ble_eq_true rfl) hnx) rfl ?_
                                            refine R_iload_n dX5_measure_239 rfl rfl ?_
                                            refine R_iaload (k := i) dX5_measure_240 rfl (Nat.lt_of_lt_of_le (Nat.le_of_ble_eq_true rfl) hnx) (by omega) (by omega) (by decide) ?_
                                            refine R_imul dX5_measure_241 ?_
                                            refine R_goto (tgt := 251) dX5_measure_242 (by decide) ?_
                                            refine R_iastore (k := i + 1) dX5_measure_251 rfl (Nat.lt_of_lt_of_le (Nat.le_of_ble_eq_true rfl) hnx) (by omega) (by omega) (by decide) ?_
                                            refine R_iinc dX5_measure_252 rfl (Nat.le_of_ble_eq_true rfl) ?_
                                            refine R_goto (tgt := 43) dX5_measure_255 (by decide) ?_
                                            refine step hi2 _ (fun p hp => ?_) (fun p h1 h2 k hk => ?_) ?_ ?_ ?_ ?_ ?_ _ _
                                            · rw [up2_ne _ _ _ (by omega), up2_ne _ _ _ (by omega), up2_ne _ _ _ (by omega), up2_ne _ _ _ (by omega), up2_ne _ _ _ (by omega)]
                                            · simp only [up2_at]
                                              rw [if_neg (by omega), if_neg (by omega), if_neg (by omega), if_neg (by omega), if_neg (by omega)]
                                            · simp [up2_at, fW]
                                              first | (rw [if_pos (by omega)]; rw [q1, show (2 : Int) = ((2 : Nat) : Int) from rfl, bDivN (by omega) (by omega) (by omega)]; done) | (rw [if_neg (by omega)]; exact q1)
                                            · simp [up2_at, fH]
                                              first | (rw [if_pos (by omega)]; rw [q2, show (2 : Int) = ((2 : Nat) : Int) from rfl, bDivN (by omega) (by omega) (by omega)]; done) | (rw [if_neg (by omega)]; exact q2)
                                            · simp [up2_at, fP]
                                              first | (rw [if_pos (by omega)]; (try rfl); done) | (rw [if_neg (by omega)]; exact q3)
                                            · simp [up2_at, fL]
                                              rw [q4]
                                              first | (rw [if_pos (by omega)]; rfl) | (rw [if_neg (by omega), if_pos (by omega)]; rfl) | (rw [if_neg (by omega), if_neg (by omega), if_pos (by omega), q5]) | (rw [if_neg (by omega), if_neg (by omega), if_neg (by omega)]; rfl)
                                            · simp [up2_at, fS]
                                              first | (rw [if_pos (by omega), q5]; rfl) | (rw [if_neg (by omega)]; exact q5))))))
                   · first
                     | (simp (discharger := omega) only [wr_id] at c_105; done)
                     | (try simp (discharger := omega) only [wr_id] at c_105
                        exfalso
                        first | omega | exact c_105 trivial)
                     | (try simp (discharger := omega) only [wr_id] at c_105
                        refine R_aload_n dX5_measure_108 rfl rfl ?_
                        refine R_getA fRX5_39 dX5_measure_109 rfl (Nat.lt_of_lt_of_le (Nat.le_of_ble_eq_true rfl) hnx) rfl ?_
                        refine R_iload_n dX5_measure_112 rfl rfl ?_
                        refine R_iaload (k := i) dX5_measure_113 rfl (Nat.lt_of_lt_of_le (Nat.le_of_ble_eq_true rfl) hnx) (by omega) (by omega) (by decide) ?_
                        refine R_iconst dX5_measure_114 ?_
                        refine R_idiv dX5_measure_115 (by decide) ?_
                        refine R_goto (tgt := 125) dX5_measure_116 (by decide) ?_
                        refine R_iastore (k := i + 1) dX5_measure_125 rfl (Nat.lt_of_lt_of_le (Nat.le_of_ble_eq_true rfl) hnx) (by omega) (by omega) (by decide) ?_
                        refine R_aload_n dX5_measure_126 rfl rfl ?_
                        refine R_getA fRX5_42 dX5_measure_127 rfl (Nat.lt_of_lt_of_le (Nat.le_of_ble_eq_true rfl) hnx) rfl ?_
                        refine R_iload_n dX5_measure_130 rfl rfl ?_
                        refine R_iconst dX5_measure_131 ?_
                        refine R_iadd dX5_measure_132 ?_
                        refine R_aload_n dX5_measure_133 rfl rfl ?_
                        refine R_getA fRX5_24 dX5_measure_134 rfl (Nat.lt_of_lt_of_le (Nat.le_of_ble_eq_true rfl) hnx) rfl ?_
                        refine R_iload_n dX5_measure_137 rfl rfl ?_
                        refine R_iaload (k := i) dX5_measure_138 rfl (Nat.lt_of_lt_of_le (Nat.le_of_ble_eq_true rfl) hnx) (by omega) (by omega) (by decide) ?_
                        refine R_iconst dX5_measure_139 ?_
                        dsimp only
                        rw [up2_ne _ _ _ (by decide), up2_ne _ _ _ (by decide), e6]
                        refine R_icmp_ne (tgt := 147) dX5_measure_140 (by decide) (fun c_140 => ?_) (fun c_140 => ?_)
                        · first
                          | (simp (discharger := omega) only [wr_id] at c_140; done)
                          | (try simp (discharger := omega) only [wr_id] at c_140
                             exfalso
                             first | omega | exact c_140 trivial)
                          | (try simp (discharger := omega) only [wr_id] at c_140
                             refine R_aload_n dX5_measure_147 rfl rfl ?_
                             refine R_getA fRX5_42 dX5_measure_148 rfl (Nat.lt_of_lt_of_le (Nat.le_of_ble_eq_true rfl) hnx) rfl ?_
                             refine R_iload_n dX5_measure_151 rfl rfl ?_
                             refine R_iaload (k := i) dX5_measure_152 rfl (Nat.lt_of_lt_of_le (Nat.le_of_ble_eq_true rfl) hnx) (by omega) (by omega) (by decide) ?_
                             refine R_iastore (k := i + 1) dX5_measure_153 rfl (Nat.lt_of_lt_of_le (Nat.le_of_ble_eq_true rfl) hnx) (by omega) (by omega) (by decide) ?_
                             refine R_aload_n dX5_measure_154 rfl rfl ?_
                             refine R_getA fRX5_24 dX5_measure_155 rfl (Nat.lt_of_lt_of_le (Nat.le_of_ble_eq_true rfl) hnx) rfl ?_
                             refine R_iload_n dX5_measure_158 rfl rfl ?_
                             refine R_iaload (k := i) dX5_measure_159 rfl (Nat.lt_of_lt_of_le (Nat.le_of_ble_eq_true rfl) hnx) (by omega) (by omega) (by decide) ?_
                             refine R_iconst dX5_measure_160 ?_
                             dsimp only
                             rw [up2_ne _ _ _ (by decide), up2_ne _ _ _ (by decide), up2_ne _ _ _ (by decide), e6]
                             refine R_icmp_eq (tgt := 174) dX5_measure_161 (by decide) (fun c_161 => ?_) (fun c_161 => ?_)
                             · first
                               | (simp (discharger := omega) only [wr_id] at c_161; done)
                               | (try simp (discharger := omega) only [wr_id] at c_161
                                  exfalso
                                  first | omega | exact c_161 trivial)
                               | (try simp (discharger := omega) only [wr_id] at c_161
                                  refine R_iconst dX5_measure_174 ?_
                                  refine R_goto (tgt := 206) dX5_measure_175 (by decide) ?_
                                  refine R_istore_n dX5_measure_206 rfl (Nat.le_of_ble_eq_true rfl) ?_
                                  refine R_aload_n dX5_measure_207 rfl rfl ?_
                                  refine R_getA fRX5_45 dX5_measure_208 rfl (Nat.lt_of_lt_of_le (Nat.le_of_ble_eq_true rfl) hnx) rfl ?_
                                  refine R_iload_n dX5_measure_211 rfl rfl ?_
                                  refine R_iconst dX5_measure_212 ?_
                                  refine R_iadd dX5_measure_213 ?_
                                  refine R_aload_n dX5_measure_214 rfl rfl ?_
                                  refine R_getA fRX5_45 dX5_measure_215 rfl (Nat.lt_of_lt_of_le (Nat.le_of_ble_eq_true rfl) hnx) rfl ?_
                                  refine R_iload_n dX5_measure_218 rfl rfl ?_
                                  refine R_iaload (k := i) dX5_measure_219 rfl (Nat.lt_of_lt_of_le (Nat.le_of_ble_eq_true rfl) hnx) (by omega) (by omega) (by decide) ?_
                                  refine R_iload_n dX5_measure_220 rfl rfl ?_
                                  refine R_iadd dX5_measure_221 ?_
                                  refine R_iastore (k := i + 1) dX5_measure_222 rfl (Nat.lt_of_lt_of_le (Nat.le_of_ble_eq_true rfl) hnx) (by omega) (by omega) (by decide) ?_
                                  refine R_aload_n dX5_measure_223 rfl rfl ?_
                                  refine R_getA fRX5_48 dX5_measure_224 rfl (Nat.lt_of_lt_of_le (Nat.le_of_ble_eq_true rfl) hnx) rfl ?_
                                  refine R_iload_n dX5_measure_227 rfl rfl ?_
                                  refine R_iconst dX5_measure_228 ?_
                                  refine R_iadd dX5_measure_229 ?_
                                  refine R_iload_n dX5_measure_230 rfl rfl ?_
                                  refine R_if_eq (tgt := 245) dX5_measure_231 (by decide) (fun c_231 => ?_) (fun c_231 => ?_)
                                  · first
                                    | (simp (discharger := omega) only [wr_id] at c_231; done)
                                    | (try simp (discharger := omega) only [wr_id] at c_231
                                       exfalso
                                       first | omega | exact c_231 trivial)
                                    | (try simp (discharger := omega) only [wr_id] at c_231
                                       refine R_aload_n dX5_measure_245 rfl rfl ?_
                                       refine R_getA fRX5_48 dX5_measure_246 rfl (Nat.lt_of_lt_of_le (Nat.le_of_ble_eq_true rfl) hnx) rfl ?_
                                       refine R_iload_n dX5_measure_249 rfl rfl ?_
                                       refine R_iaload (k := i) dX5_measure_250 rfl (Nat.lt_of_lt_of_le (Nat.le_of_ble_eq_true rfl) hnx) (by omega) (by omega) (by decide) ?_
                                       refine R_iastore (k := i + 1) dX5_measure_251 rfl (Nat.lt_of_lt_of_le (Nat.le_of_ble_eq_true rfl) hnx) (by omega) (by omega) (by decide) ?_
                                       refine R_iinc dX5_measure_252 rfl (Nat.le_of_ble_eq_true rfl) ?_
                                       refine R_goto (tgt := 43) dX5_measure_255 (by decide) ?_
                                       refine step hi2 _ (fun p hp => ?_) (fun p h1 h2 k hk => ?_) ?_ ?_ ?_ ?_ ?_ _ _
                                       · rw [up2_ne _ _ _ (by omega), up2_ne _ _ _ (by omega), up2_ne _ _ _ (by omega), up2_ne _ _ _ (by omega), up2_ne _ _ _ (by omega)]
                                       · simp only [up2_at]
                                         rw [if_neg (by omega), if_neg (by omega), if_neg (by omega), if_neg (by omega), if_neg (by omega)]
                                       · simp [up2_at, fW]
                                         first | (rw [if_pos (by omega)]; rw [q1, show (2 : Int) = ((2 : Nat) : Int) from rfl, bDivN (by omega) (by omega) (by omega)]; done) | (rw [if_neg (by omega)]; exact q1)
                                       · simp [up2_at, fH]
                                         first | (rw [if_pos (by omega)]; rw [q2, show (2 : Int) = ((2 : Nat) : Int) from rfl, bDivN (by omega) (by omega) (by omega)]; done) | (rw [if_neg (by omega)]; exact q2)
                                       · simp [up2_at, fP]
                                         first | (rw [if_pos (by omega)]; (try rfl); done) | (rw [if_neg (by omega)]; exact q3)
                                       · simp [up2_at, fL]
                                         rw [q4]
                                         first | (rw [if_pos (by omega)]; rfl) | (rw [if_neg (by omega), if_pos (by omega)]; rfl) | (rw [if_neg (by omega), if_neg (by omega), if_pos (by omega), q5]) | (rw [if_neg (by omega), if_neg (by omega), if_neg (by omega)]; rfl)
                                       · simp [up2_at, fS]
                                         first | (rw [if_pos (by omega), q5]; rfl) | (rw [if_neg (by omega)]; exact q5))
                                  · first
                                    | (simp (discharger := omega) only [wr_id] at c_231; done)
                                    | (try simp (discharger := omega) only [wr_id] at c_231
                                       exfalso
                                       first | omega | exact c_231 trivial)
                                    | (try simp (discharger := omega) only [wr_id] at c_231
                                       refine R_iconst dX5_measure_234 ?_
                                       refine R_aload_n dX5_measure_235 rfl rfl ?_
                                       refine R_getA fRX5_48 dX5_measure_236 rfl (Nat.lt_of_lt_of_le (Nat.le_of_ble_eq_true rfl) hnx) rfl ?_
                                       refine R_iload_n dX5_measure_239 rfl rfl ?_
                                       refine R_iaload (k := i) dX5_measure_240 rfl (Nat.lt_of_lt_of_le (Nat.le_of_ble_eq_true rfl) hnx) (by omega) (by omega) (by decide) ?_
                                       refine R_imul dX5_measure_241 ?_
                                       refine R_goto (tgt := 251) dX5_measure_242 (by decide) ?_
                                       refine R_iastore (k := i + 1) dX5_measure_251 rfl (Nat.lt_of_lt_of_le (Nat.le_of_ble_eq_true rfl) hnx) (by omega) (by omega) (by decide) ?_
                                       refine R_iinc dX5_measure_252 rfl (Nat.le_of_ble_eq_true rfl) ?_
                                       refine R_goto (tgt := 43) dX5_measure_255 (by decide) ?_
                                       refine step hi2 _ (fun p hp => ?_) (fun p h1 h2 k hk => ?_) ?_ ?_ ?_ ?_ ?_ _ _
                                       · rw [up2_ne _ _ _ (by omega), up2_ne _ _ _ (by omega), up2_ne _ _ _ (by omega), up2_ne _ _ _ (by omega), up2_ne _ _ _ (by omega)]
                                       · simp only [up2_at]
                                         rw [if_neg (by omega), if_neg (by omega), if_neg (by omega), if_neg (by omega), if_neg (by omega)]
                                       · simp [up2_at, fW]
                                         first | (rw [if_pos (by omega)]; rw [q1, show (2 : Int) = ((2 : Nat) : Int) from rfl, bDivN (by omega) (by omega) (by omega)]; done) | (rw [if_neg (by omega)]; exact q1)
                                       · simp [up2_at, fH]
                                         first | (rw [if_pos (by omega)]; rw [q2, show (2 : Int) = ((2 : Nat) : Int) from rfl, bDivN (by omega) (by omega) (by omega)]; done) | (rw [if_neg (by omega)]; exact q2)
                                       · simp [up2_at, fP]
                                         first | (rw [if_pos (by omega)]; (try rfl); done) | (rw [if_neg (by omega)]; exact q3)
                                       · simp [up2_at, fL]
                                         rw [q4]
                                         first | (rw [if_pos (by omega)]; rfl) | (rw [if_neg (by omega), if_pos (by omega)]; rfl) | (rw [if_neg (by omega), if_neg (by omega), if_pos (by omega), q5]) | (rw [if_neg (by omega), if_neg (by omega), if_neg (by omega)]; rfl)
                                       · simp [up2_at, fS]
                                         first | (rw [if_pos (by omega), q5]; rfl) | (rw [if_neg (by omega)]; exact q5)))
                             · first
                               | (simp (discharger := omega) only [wr_id] at c_161; done)
                               | (try simp (discharger := omega) only [wr_id] at c_161
                                  exfalso
                                  first | omega | exact c_161 trivial)
                               | (try simp (discharger := omega) only [wr_id] at c_161
                                  refine R_aload_n dX5_measure_164 rfl rfl ?_
                                  refine R_getA fRX5_24 dX5_measure_165 rfl (Nat.lt_of_lt_of_le (Nat.le_of_ble_eq_true rfl) hnx) rfl ?_
                                  refine R_iload_n dX5_measure_168 rfl rfl ?_
                                  refine R_iaload (k := i) dX5_measure_169 rfl (Nat.lt_of_lt_of_le (Nat.le_of_ble_eq_true rfl) hnx) (by omega) (by omega) (by decide) ?_
                                  refine R_iconst dX5_measure_170 ?_
                                  dsimp only
                                  rw [up2_ne _ _ _ (by decide), up2_ne _ _ _ (by decide), up2_ne _ _ _ (by decide), e6]
                                  refine R_icmp_ne (tgt := 178) dX5_measure_171 (by decide) (fun c_171 => ?_) (fun c_171 => ?_)
                                  · first
                                    | (simp (discharger := omega) only [wr_id] at c_171; done)
                                    | (try simp (discharger := omega) only [wr_id] at c_171
                                       exfalso
                                       first | omega | exact c_171 trivial)
                                    | (try simp (discharger := omega) only [wr_id] at c_171
                                       refine R_aload_n dX5_measure_178 rfl rfl ?_
                                       refine R_getA fRX5_24 dX5_measure_179 rfl (Nat.lt_of_lt_of_le (Nat.le_of_ble_eq_true rfl) hnx) rfl ?_
                                       refine R_iload_n dX5_measure_182 rfl rfl ?_
                                       refine R_iaload (k := i) dX5_measure_183 rfl (Nat.lt_of_lt_of_le (Nat.le_of_ble_eq_true rfl) hnx) (by omega) (by omega) (by decide) ?_
                                       refine R_iconst dX5_measure_184 ?_
                                       dsimp only
                                       rw [up2_ne _ _ _ (by decide), up2_ne _ _ _ (by decide), up2_ne _ _ _ (by decide), e6]
                                       refine R_icmp_ne (tgt := 192) dX5_measure_185 (by decide) (fun c_185 => ?_) (fun c_185 => ?_)
                                       · first
                                         | (simp (discharger := omega) only [wr_id] at c_185; done)
                                         | (try simp (discharger := omega) only [wr_id] at c_185
                                            exfalso
                                            first | omega | exact c_185 trivial)
                                         | (try simp (discharger := omega) only [wr_id] at c_185
                                            refine R_iload_n dX5_measure_192 rfl rfl ?_
                                            refine R_if_eq (tgt := 205) dX5_measure_193 (by decide) (fun c_193 => ?_) (fun c_193 => ?_)
                                            · first
                                              | (simp (discharger := omega) only [wr_id] at c_193; done)
                                              | (try simp (discharger := omega) only [wr_id] at c_193
                                                 exfalso
                                                 first | omega | exact c_193 trivial)
                                              | (try simp (discharger := omega) only [wr_id] at c_193
                                                 refine R_iconst dX5_measure_205 ?_
                                                 refine R_istore_n dX5_measure_206 rfl (Nat.le_of_ble_eq_true rfl) ?_
                                                 refine R_aload_n dX5_measure_207 rfl rfl ?_
                                                 refine R_getA fRX5_45 dX5_measure_208 rfl (Nat.lt_of_lt_of_le (Nat.le_of_ble_eq_true rfl) hnx) rfl ?_
                                                 refine R_iload_n dX5_measure_211 rfl rfl ?_
                                                 refine R_iconst dX5_measure_212 ?_
                                                 refine R_iadd dX5_measure_213 ?_
                                                 refine R_aload_n dX5_measure_214 rfl rfl ?_
                                                 refine R_getA fRX5_45 dX5_measure_215 rfl (Nat.lt_of_lt_of_le (Nat.le_of_ble_eq_true rfl) hnx) rfl ?_
                                                 refine R_iload_n dX5_measure_218 rfl rfl ?_
                                                 refine R_iaload (k := i) dX5_measure_219 rfl (Nat.lt_of_lt_of_le (Nat.le_of_ble_eq_true rfl) hnx) (by omega) (by omega) (by decide) ?_
                                                 refine R_iload_n dX5_measure_220 rfl rfl ?_
                                                 refine R_iadd dX5_measure_221 ?_
                                                 refine R_iastore (k := i + 1) dX5_measure_222 rfl (Nat.lt_of_lt_of_le (Nat.le_of_ble_eq_true rfl) hnx) (by omega) (by omega) (by decide) ?_
                                                 refine R_aload_n dX5_measure_223 rfl rfl ?_
                                                 refine R_getA fRX5_48 dX5_measure_224 rfl (Nat.lt_of_lt_of_le (Nat.le_of_ble_eq_true rfl) hnx) rfl ?_
                                                 refine R_iload_n dX5_measure_227 rfl rfl ?_
                                                 refine R_iconst dX5_measure_228 ?_
                                                 refine R_iadd dX5_measure_229 ?_
                                                 refine R_iload_n dX5_measure_230 rfl rfl ?_
                                                 refine R_if_eq (tgt := 245) dX5_measure_231 (by decide) (fun c_231 => ?_) (fun c_231 => ?_)
                                                 · first
                                                   | (simp (discharger := omega) only [wr_id] at c_231; done)
                                                   | (try simp (discharger := omega) only [wr_id] at c_231
                                                      exfalso
                                                      first | omega | exact c_231 trivial)
                                                   | (try simp (discharger := omega) only [wr_id] at c_231
                                                      refine R_aload_n dX5_measure_245 rfl rfl ?_
                                                      refine R_getA fRX5_48 dX5_measure_246 rfl (Nat.lt_of_lt_of_le (Nat.le_of_ble_eq_true rfl) hnx) rfl ?_
                                                      refine R_iload_n dX5_measure_249 rfl rfl ?_
                                                      refine R_iaload (k := i) dX5_measure_250 rfl (Nat.lt_of_lt_of_le (Nat.le_of_ble_eq_true rfl) hnx) (by omega) (by omega) (by decide) ?_
                                                      refine R_iastore (k := i + 1) dX5_measure_251 rfl (Nat.lt_of_lt_of_le (Nat.le_of_ble_eq_true rfl) hnx) (by omega) (by omega) (by decide) ?_
                                                      refine R_iinc dX5_measure_252 rfl (Nat.le_of_ble_eq_true rfl) ?_
                                                      refine R_goto (tgt := 43) dX5_measure_255 (by decide) ?_
                                                      refine step hi2 _ (fun p hp => ?_) (fun p h1 h2 k hk => ?_) ?_ ?_ ?_ ?_ ?_ _ _
                                                      · rw [up2_ne _ _ _ (by omega), up2_ne _ _ _ (by omega), up2_ne _ _ _ (by omega), up2_ne _ _ _ (by omega), up2_ne _ _ _ (by omega)]
                                                      · simp only [up2_at]
                                                        rw [if_neg (by omega), if_neg (by omega), if_neg (by omega), if_neg (by omega), if_neg (by omega)]
                                                      · simp [up2_at, fW]
                                                        first | (rw [if_pos (by omega)]; rw [q1, show (2 : Int) = ((2 : Nat) : Int) from rfl, bDivN (by omega) (by omega) (by omega)]; done) | (rw [if_neg (by omega)]; exact q1)
                                                      · simp [up2_at, fH]
                                                        first | (rw [if_pos (by omega)]; rw [q2, show (2 : Int) = ((2 : Nat) : Int) from rfl, bDivN (by omega) (by omega) (by omega)]; done) | (rw [if_neg (by omega)]; exact q2)
                                                      · simp [up2_at, fP]
                                                        first | (rw [if_pos (by omega)]; (try rfl); done) | (rw [if_neg (by omega)]; exact q3)
                                                      · simp [up2_at, fL]
                                                        rw [q4]
                                                        first | (rw [if_pos (by omega)]; rfl) | (rw [if_neg (by omega), if_pos (by omega)]; rfl) | (rw [if_neg (by omega), if_neg (by omega), if_pos (by omega), q5]) | (rw [if_neg (by omega), if_neg (by omega), if_neg (by omega)]; rfl)
                                                      · simp [up2_at, fS]
                                                        first | (rw [if_pos (by omega), q5]; rfl) | (rw [if_neg (by omega)]; exact q5))
                                                 · first
                                                   | (simp (discharger := omega) only [wr_id] at c_231; done)
                                                   | (try simp (discharger := omega) only [wr_id] at c_231
                                                      exfalso
                                                      first | omega | exact c_231 trivial)
                                                   | (try simp (discharger := omega) only [wr_id] at c_231
                                                      refine R_iconst dX5_measure_234 ?_
                                                      refine R_aload_n dX5_measure_235 rfl rfl ?_
                                                      refine R_getA fRX5_48 dX5_measure_236 rfl (Nat.lt_of_lt_of_le (Nat.le_of_ble_eq_true rfl) hnx) rfl ?_
                                                      refine R_iload_n dX5_measure_239 rfl rfl ?_
                                                      refine R_iaload (k := i) dX5_measure_240 rfl (Nat.lt_of_lt_of_le (Nat.le_of_ble_eq_true rfl) hnx) (by omega) (by omega) (by decide) ?_
                                                      refine R_imul dX5_measure_241 ?_
                                                      refine R_goto (tgt := 251) dX5_measure_242 (by decide) ?_
                                                      refine R_iastore (k := i + 1) dX5_measure_251 rfl (Nat.lt_of_lt_of_le (Nat.le_of_ble_eq_true rfl) hnx) (by omega) (by omega) (by decide) ?_
                                                      refine R_iinc dX5_measure_252 rfl (Nat.le_of_ble_eq_true rfl) ?_
                                                      refine R_goto (tgt := 43) dX5_measure_255 (by decide) ?_
                                                      refine step hi2 _ (fun p hp => ?_) (fun p h1 h2 k hk => ?_) ?_ ?_ ?_ ?_ ?_ _ _
                                                      · rw [up2_ne _ _ _ (by omega), up2_ne _ _ _ (by omega), up2_ne _ _ _ (by omega), up2_ne _ _ _ (by omega), up2_ne _ _ _ (by omega)]
                                                      · simp only [up2_at]
                                                        rw [if_neg (by omega), if_neg (by omega), if_neg (by omega), if_neg (by omega), if_neg (by omega)]
                                                      · simp [up2_at, fW]
                                                        first | (rw [if_pos (by omega)]; rw [q1, show (2 : Int) = ((2 : Nat) : Int) from rfl, bDivN (by omega) (by omega) (by omega)]; done) | (rw [if_neg (by omega)]; exact q1)
                                                      · simp [up2_at, fH]
                                                        first | (rw [if_pos (by omega)]; rw [q2, show (2 : Int) = ((2 : Nat) : Int) from rfl, bDivN (by omega) (by omega) (by omega)]; done) | (rw [if_neg (by omega)]; exact q2)
                                                      · simp [up2_at, fP]
                                                        first | (rw [if_pos (by omega)]; (try rfl); done) | (rw [if_neg (by omega)]; exact q3)
                                                      · simp [up2_at, fL]
                                                        rw [q4]
                                                        first | (rw [if_pos (by omega)]; rfl) | (rw [if_neg (by omega), if_pos (by omega)]; rfl) | (rw [if_neg (by omega), if_neg (by omega), if_pos (by omega), q5]) | (rw [if_neg (by omega), if_neg (by omega), if_neg (by omega)]; rfl)
                                                      · simp [up2_at, fS]
                                                        first | (rw [if_pos (by omega), q5]; rfl) | (rw [if_neg (by omega)]; exact q5)))
                                            · first
                                              | (simp (discharger := omega) only [wr_id] at c_193; done)
                                              | (try simp (discharger := omega) only [wr_id] at c_193
                                                 exfalso
                                                 first | omega | exact c_193 trivial)
                                              | (try simp (discharger := omega) only [wr_id] at c_193
                                                 refine R_aload_n dX5_measure_196 rfl rfl ?_
                                                 refine R_getA fRX5_48 dX5_measure_197 rfl (Nat.lt_of_lt_of_le (Nat.le_of_ble_eq_true rfl) hnx) rfl ?_
                                                 refine R_iload_n dX5_measure_200 rfl rfl ?_
                                                 refine R_iaload (k := i) dX5_measure_201 rfl (Nat.lt_of_lt_of_le (Nat.le_of_ble_eq_true rfl) hnx) (by omega) (by omega) (by decide) ?_
                                                 refine R_goto (tgt := 206) dX5_measure_202 (by decide) ?_
                                                 refine R_istore_n dX5_measure_206 rfl (Nat.le_of_ble_eq_true rfl) ?_
                                                 refine R_aload_n dX5_measure_207 rfl rfl ?_
                                                 refine R_getA fRX5_45 dX5_measure_208 rfl (Nat.lt_of_lt_of_le (Nat.le_of_ble_eq_true rfl) hnx) rfl ?_
                                                 refine R_iload_n dX5_measure_211 rfl rfl ?_
                                                 refine R_iconst dX5_measure_212 ?_
                                                 refine R_iadd dX5_measure_213 ?_
                                                 refine R_aload_n dX5_measure_214 rfl rfl ?_
                                                 refine R_getA fRX5_45 dX5_measure_215 rfl (Nat.lt_of_lt_of_le (Nat.le_of_ble_eq_true rfl) hnx) rfl ?_
                                                 refine R_iload_n dX5_measure_218 rfl rfl ?_
                                                 refine R_iaload (k := i) dX5_measure_219 rfl (Nat.lt_of_lt_of_le (Nat.le_of_ble_eq_true rfl) hnx) (by omega) (by omega) (by decide) ?_
                                                 refine R_iload_n dX5_measure_220 rfl rfl ?_
                                                 refine R_iadd dX5_measure_221 ?_
                                                 refine R_iastore (k := i + 1) dX5_measure_222 rfl (Nat.lt_of_lt_of_le (Nat.le_of_ble_eq_true rfl) hnx) (by omega) (by omega) (by decide) ?_
                                                 refine R_aload_n dX5_measure_223 rfl rfl ?_
                                                 refine R_getA fRX5_48 dX5_measure_224 rfl (Nat.lt_of_lt_of_le (Nat.le_of_ble_eq_true rfl) hnx) rfl ?_
                                                 refine R_iload_n dX5_measure_227 rfl rfl ?_
                                                 refine R_iconst dX5_measure_228 ?_
                                                 refine R_iadd dX5_measure_229 ?_
                                                 refine R_iload_n dX5_measure_230 rfl rfl ?_
                                                 refine R_if_eq (tgt := 245) dX5_measure_231 (by decide) (fun c_231 => ?_) (fun c_231 => ?_)
                                                 · first
                                                   | (simp (discharger := omega) only [wr_id] at c_231; done)
                                                   | (try simp (discharger := omega) only [wr_id] at c_231
                                                      exfalso
                                                      first | omega | exact c_231 trivial)
                                                   | (try simp (discharger := omega) only [wr_id] at c_231
                                                      refine R_aload_n dX5_measure_245 rfl rfl ?_
                                                      refine R_getA fRX5_48 dX5_measure_246 rfl (Nat.lt_of_lt_of_le (Nat.le_of_ble_eq_true rfl) hnx) rfl ?_
                                                      refine R_iload_n dX5_measure_249 rfl rfl ?_
                                                      refine R_iaload (k := i) dX5_measure_250 rfl (Nat.lt_of_lt_of_le (Nat.le_of_ble_eq_true rfl) hnx) (by omega) (by omega) (by decide) ?_
                                                      refine R_iastore (k := i + 1) dX5_measure_251 rfl (Nat.lt_of_lt_of_le (Nat.le_of_ble_eq_true rfl) hnx) (by omega) (by omega) (by decide) ?_
                                                      refine R_iinc dX5_measure_252 rfl (Nat.le_of_ble_eq_true rfl) ?_
                                                      refine R_goto (tgt := 43) dX5_measure_255 (by decide) ?_
                                                      refine step hi2 _ (fun p hp => ?_) (fun p h1 h2 k hk => ?_) ?_ ?_ ?_ ?_ ?_ _ _
                                                      · rw [up2_ne _ _ _ (by omega), up2_ne _ _ _ (by omega), up2_ne _ _ _ (by omega), up2_ne _ _ _ (by omega), up2_ne _ _ _ (by omega)]
                                                      · simp only [up2_at]
                                                        rw [if_neg (by omega), if_neg (by omega), if_neg (by omega), if_neg (by omega), if_neg (by omega)]
                                                      · simp [up2_at, fW]
                                                        first | (rw [if_pos (by omega)]; rw [q1, show (2 : Int) = ((2 : Nat) : Int) from rfl, bDivN (by omega) (by omega) (by omega)]; done) | (rw [if_neg (by omega)]; exact q1)
                                                      · simp [up2_at, fH]
                                                        first | (rw [if_pos (by omega)]; rw [q2, show (2 : Int) = ((2 : Nat) : Int) from rfl, bDivN (by omega) (by omega) (by omega)]; done) | (rw [if_neg (by omega)]; exact q2)
                                                      · simp [up2_at, fP]
                                                        first | (rw [if_pos (by omega)]; (try rfl); done) | (rw [if_neg (by omega)]; exact q3)
                                                      · simp [up2_at, fL]
                                                        rw [q4]
                                                        first | (rw [if_pos (by omega)]; rfl) | (rw [if_neg (by omega), if_pos (by omega)]; rfl) | (rw [if_neg (by omega), if_neg (by omega), if_pos (by omega), q5]) | (rw [if_neg (by omega), if_neg (by omega), if_neg (by omega)]; rfl)
                                                      · simp [up2_at, fS]
                                                        first | (rw [if_pos (by omega), q5]; rfl) | (rw [if_neg (by omega)]; exact q5))
                                                 · first
                                                   | (simp (discharger := omega) only [wr_id] at c_231; done)
                                                   | (try simp (discharger := omega) only [wr_id] at c_231
                                                      exfalso
                                                      first | omega | exact c_231 trivial)
                                                   | (try simp (discharger := omega) only [wr_id] at c_231
                                                      refine R_iconst dX5_measure_234 ?_
                                                      refine R_aload_n dX5_measure_235 rfl rfl ?_
                                                      refine R_getA fRX5_48 dX5_measure_236 rfl (Nat.lt_of_lt_of_le (Nat.le_of_ble_eq_true rfl) hnx) rfl ?_
                                                      refine R_iload_n dX5_measure_239 rfl rfl ?_
                                                      refine R_iaload (k := i) dX5_measure_240 rfl (Nat.lt_of_lt_of_le (Nat.le_of_ble_eq_true rfl) hnx) (by omega) (by omega) (by decide) ?_
                                                      refine R_imul dX5_measure_241 ?_
                                                      refine R_goto (tgt := 251) dX5_measure_242 (by decide) ?_
                                                      refine R_iastore (k := i + 1) dX5_measure_251 rfl (Nat.lt_of_lt_of_le (Nat.le_of_ble_eq_true rfl) hnx) (by omega) (by omega) (by decide) ?_
                                                      refine R_iinc dX5_measure_252 rfl (Nat.le_of_ble_eq_true rfl) ?_
                                                      refine R_goto (tgt := 43) dX5_measure_255 (by decide) ?_
                                                      refine step hi2 _ (fun p hp => ?_) (fun p h1 h2 k hk => ?_) ?_ ?_ ?_ ?_ ?_ _ _
                                                      · rw [up2_ne _ _ _ (by omega), up2_ne _ _ _ (by omega), up2_ne _ _ _ (by omega), up2_ne _ _ _ (by omega), up2_ne _ _ _ (by omega)]
                                                      · simp only [up2_at]
                                                        rw [if_neg (by omega), if_neg (by omega), if_neg (by omega), if_neg (by omega), if_neg (by omega)]
                                                      · simp [up2_at, fW]
                                                        first | (rw [if_pos (by omega)]; rw [q1, show (2 : Int) = ((2 : Nat) : Int) from rfl, bDivN (by omega) (by omega) (by omega)]; done) | (rw [if_neg (by omega)]; exact q1)
                                                      · simp [up2_at, fH]
                                                        first | (rw [if_pos (by omega)]; rw [q2, show (2 : Int) = ((2 : Nat) : Int) from rfl, bDivN (by omega) (by omega) (by omega)]; done) | (rw [if_neg (by omega)]; exact q2)
                                                      · simp [up2_at, fP]
                                                        first | (rw [if_pos (by omega)]; (try rfl); done) | (rw [if_neg (by omega)]; exact q3)
                                                      · simp [up2_at, fL]
                                                        rw [q4]
                                                        first | (rw [if_pos (by omega)]; rfl) | (rw [if_neg (by omega), if_pos (by omega)]; rfl) | (rw [if_neg (by omega), if_neg (by omega), if_pos (by omega), q5]) | (rw [if_neg (by omega), if_neg (by omega), if_neg (by omega)]; rfl)
                                                      · simp [up2_at, fS]
                                                        first | (rw [if_pos (by omega), q5]; rfl) | (rw [if_neg (by omega)]; exact q5))))
                                       · first
                                         | (simp (discharger := omega) only [wr_id] at c_185; done)
                                         | (try simp (discharger := omega) only [wr_id] at c_185
                                            exfalso
                                            first | omega | exact c_185 trivial)
                                         | (try simp (discharger := omega) only [wr_id] at c_185
                                            refine R_iconst dX5_measure_188 ?_
                                            refine R_goto (tgt := 206) dX5_measure_189 (by decide) ?_
                                            refine R_istore_n dX5_measure_206 rfl (Nat.le_of_ble_eq_true rfl) ?_
                                            refine R_aload_n dX5_measure_207 rfl rfl ?_
                                            refine R_getA fRX5_45 dX5_measure_208 rfl (Nat.lt_of_lt_of_le (Nat.le_of_ble_eq_true rfl) hnx) rfl ?_
                                            refine R_iload_n dX5_measure_211 rfl rfl ?_
                                            refine R_iconst dX5_measure_212 ?_
                                            refine R_iadd dX5_measure_213 ?_
                                            refine R_aload_n dX5_measure_214 rfl rfl ?_
                                            refine R_getA fRX5_45 dX5_measure_215 rfl (Nat.lt_of_lt_of_le (Nat.le_of_ble_eq_true rfl) hnx) rfl ?_
                                            refine R_iload_n dX5_measure_218 rfl rfl ?_
                                            refine R_iaload (k := i) dX5_measure_219 rfl (Nat.lt_of_lt_of_le (Nat.le_of_ble_eq_true rfl) hnx) (by omega) (by omega) (by decide) ?_
                                            refine R_iload_n dX5_measure_220 rfl rfl ?_
                                            refine R_iadd dX5_measure_221 ?_
                                            refine R_iastore (k := i + 1) dX5_measure_222 rfl (Nat.lt_of_lt_of_le (Nat.le_of_ble_eq_true rfl) hnx) (by omega) (by omega) (by decide) ?_
                                            refine R_aload_n dX5_measure_223 rfl rfl ?_
                                            refine R_getA fRX5_48 dX5_measure_224 rfl (Nat.lt_of_lt_of_le (Nat.le_of_ble_eq_true rfl) hnx) rfl ?_
                                            refine R_iload_n dX5_measure_227 rfl rfl ?_
                                            refine R_iconst dX5_measure_228 ?_
                                            refine R_iadd dX5_measure_229 ?_
                                            refine R_iload_n dX5_measure_230 rfl rfl ?_
                                            refine R_if_eq (tgt := 245) dX5_measure_231 (by decide) (fun c_231 => ?_) (fun c_231 => ?_)
                                            · first
                                              | (simp (discharger := omega) only [wr_id] at c_231; done)
                                              | (try simp (discharger := omega) only [wr_id] at c_231
                                                 exfalso
                                                 first | omega | exact c_231 trivial)
                                              | (try simp (discharger := omega) only [wr_id] at c_231
                                                 refine R_aload_n dX5_measure_245 rfl rfl ?_
                                                 refine R_getA fRX5_48 dX5_measure_246 rfl (Nat.lt_of_lt_of_le (Nat.le_of_ble_eq_true rfl) hnx) rfl ?_
                                                 refine R_iload_n dX5_measure_249 rfl rfl ?_
                                                 refine R_iaload (k := i) dX5_measure_250 rfl (Nat.lt_of_lt_of_le (Nat.le_of_ble_eq_true rfl) hnx) (by omega) (by omega) (by decide) ?_
                                                 refine R_iastore (k := i + 1) dX5_measure_251 rfl (Nat.lt_of_lt_of_le (Nat.le_of_ble_eq_true rfl) hnx) (by omega) (by omega) (by decide) ?_
                                                 refine R_iinc dX5_measure_252 rfl (Nat.le_of_ble_eq_true rfl) ?_
                                                 refine R_goto (tgt := 43) dX5_measure_255 (by decide) ?_
                                                 refine step hi2 _ (fun p hp => ?_) (fun p h1 h2 k hk => ?_) ?_ ?_ ?_ ?_ ?_ _ _
                                                 · rw [up2_ne _ _ _ (by omega), up2_ne _ _ _ (by omega), up2_ne _ _ _ (by omega), up2_ne _ _ _ (by omega), up2_ne _ _ _ (by omega)]
                                                 · simp only [up2_at]
                                                   rw [if_neg (by omega), if_neg (by omega), if_neg (by omega), if_neg (by omega), if_neg (by omega)]
                                                 · simp [up2_at, fW]
                                                   first | (rw [if_pos (by omega)]; rw [q1, show (2 : Int) = ((2 : Nat) : Int) from rfl, bDivN (by omega) (by omega) (by omega)]; done) | (rw [if_neg (by omega)]; exact q1)
                                                 · simp [up2_at, fH]
                                                   first | (rw [if_pos (by omega)]; rw [q2, show (2 : Int) = ((2 : Nat) : Int) from rfl, bDivN (by omega) (by omega) (by omega)]; done) | (rw [if_neg (by omega)]; exact q2)
                                                 · simp [up2_at, fP]
                                                   first | (rw [if_pos (by omega)]; (try rfl); done) | (rw [if_neg (by omega)]; exact q3)
                                                 · simp [up2_at, fL]
                                                   rw [q4]
                                                   first | (rw [if_pos (by omega)]; rfl) | (rw [if_neg (by omega), if_pos (by omega)]; rfl) | (rw [if_neg (by omega), if_neg (by omega), if_pos (by omega), q5]) | (rw [if_neg (by omega), if_neg (by omega), if_neg (by omega)]; rfl)
                                                 · simp [up2_at, fS]
                                                   first | (rw [if_pos (by omega), q5]; rfl) | (rw [if_neg (by omega)]; exact q5))
                                            · first
                                              | (simp (discharger := omega) only [wr_id] at c_231; done)
                                              | (try simp (discharger := omega) only [wr_id] at c_231
                                                 exfalso
                                                 first | omega | exact c_231 trivial)
                                              | (try simp (discharger := omega) only [wr_id] at c_231
                                                 refine R_iconst dX5_measure_234 ?_
                                                 refine R_aload_n dX5_measure_235 rfl rfl ?_
                                                 refine R_getA fRX5_48 dX5_measure_236 rfl (Nat.lt_of_lt_of_le (Nat.le_of_ble_eq_true rfl) hnx) rfl ?_
                                                 refine R_iload_n dX5_measure_239 rfl rfl ?_
                                                 refine R_iaload (k := i) dX5_measure_240 rfl (Nat.lt_of_lt_of_le (Nat.le_of_ble_eq_true rfl) hnx) (by omega) (by omega) (by decide) ?_
                                                 refine R_imul dX5_measure_241 ?_
                                                 refine R_goto (tgt := 251) dX5_measure_242 (by decide) ?_
                                                 refine R_iastore (k := i + 1) dX5_measure_251 rfl (Nat.lt_of_lt_of_le (Nat.le_of_ble_eq_true rfl) hnx) (by omega) (by omega) (by decide) ?_
                                                 refine R_iinc dX5_measure_252 rfl (Nat.le_of_ble_eq_true rfl) ?_
                                                 refine R_goto (tgt := 43) dX5_measure_255 (by decide) ?_
                                                 refine step hi2 _ (fun p hp => ?_) (fun p h1 h2 k hk => ?_) ?_ ?_ ?_ ?_ ?_ _ _
                                                 · rw [up2_ne _ _ _ (by omega), up2_ne _ _ _ (by omega), up2_ne _ _ _ (by omega), up2_ne _ _ _ (by omega), up2_ne _ _ _ (by omega)]
                                                 · simp only [up2_at]
                                                   rw [if_neg (by omega), if_neg (by omega), if_neg (by omega), if_neg (by omega), if_neg (by omega)]
                                                 · simp [up2_at, fW]
                                                   first | (rw [if_pos (by omega)]; rw [q1, show (2 : Int) = ((2 : Nat) : Int) from rfl, bDivN (by omega) (by omega) (by omega)]; done) | (rw [if_neg (by omega)]; exact q1)
                                                 · simp [up2_at, fH]
                                                   first | (rw [if_pos (by omega)]; rw [q2, show (2 : Int) = ((2 : Nat) : Int) from rfl, bDivN (by omega) (by omega) (by omega)]; done) | (rw [if_neg (by omega)]; exact q2)
                                                 · simp [up2_at, fP]
                                                   first | (rw [if_pos (by omega)]; (try rfl); done) | (rw [if_neg (by omega)]; exact q3)
                                                 · simp [up2_at, fL]
                                                   rw [q4]
                                                   first | (rw [if_pos (by omega)]; rfl) | (rw [if_neg (by omega), if_pos (by omega)]; rfl) | (rw [if_neg (by omega), if_neg (by omega), if_pos (by omega), q5]) | (rw [if_neg (by omega), if_neg (by omega), if_neg (by omega)]; rfl)
                                                 · simp [up2_at, fS]
                                                   first | (rw [if_pos (by omega), q5]; rfl) | (rw [if_neg (by omega)]; exact q5))))
                                  · first
                                    | (simp (discharger := omega) only [wr_id] at c_171; done)
                                    | (try simp (discharger := omega) only [wr_id] at c_171
                                       exfalso
                                       first | omega | exact c_171 trivial)
                                    | (try simp (discharger := omega) only [wr_id] at c_171
                                       refine R_iconst dX5_measure_174 ?_
                                       refine R_goto (tgt := 206) dX5_measure_175 (by decide) ?_
                                       refine R_istore_n dX5_measure_206 rfl (Nat.le_of_ble_eq_true rfl) ?_
                                       refine R_aload_n dX5_measure_207 rfl rfl ?_
                                       refine R_getA fRX5_45 dX5_measure_208 rfl (Nat.lt_of_lt_of_le (Nat.le_of_ble_eq_true rfl) hnx) rfl ?_
                                       refine R_iload_n dX5_measure_211 rfl rfl ?_
                                       refine R_iconst dX5_measure_212 ?_
                                       refine R_iadd dX5_measure_213 ?_
                                       refine R_aload_n dX5_measure_214 rfl rfl ?_
                                       refine R_getA fRX5_45 dX5_measure_215 rfl (Nat.lt_of_lt_of_le (Nat.le_of_ble_eq_true rfl) hnx) rfl ?_
                                       refine R_iload_n dX5_measure_218 rfl rfl ?_
                                       refine R_iaload (k := i) dX5_measure_219 rfl (Nat.lt_of_lt_of_le (Nat.le_of_ble_eq_true rfl) hnx) (by omega) (by omega) (by decide) ?_
                                       refine R_iload_n dX5_measure_220 rfl rfl ?_
                                       refine R_iadd dX5_measure_221 ?_
                                       refine R_iastore (k := i + 1) dX5_measure_222 rfl (Nat.lt_of_lt_of_le (Nat.le_of_ble_eq_true rfl) hnx) (by omega) (by omega) (by decide) ?_
                                       refine R_aload_n dX5_measure_223 rfl rfl ?_
                                       refine R_getA fRX5_48 dX5_measure_224 rfl (Nat.lt_of_lt_of_le (Nat.le_of_ble_eq_true rfl) hnx) rfl ?_
                                       refine R_iload_n dX5_measure_227 rfl rfl ?_
                                       refine R_iconst dX5_measure_228 ?_
                                       refine R_iadd dX5_measure_229 ?_
                                       refine R_iload_n dX5_measure_230 rfl rfl ?_
                                       refine R_if_eq (tgt := 245) dX5_measure_231 (by decide) (fun c_231 => ?_) (fun c_231 => ?_)
                                       · first
                                         | (simp (discharger := omega) only [wr_id] at c_231; done)
                                         | (try simp (discharger := omega) only [wr_id] at c_231
                                            exfalso
                                            first | omega | exact c_231 trivial)
                                         | (try simp (discharger := omega) only [wr_id] at c_231
                                            refine R_aload_n dX5_measure_245 rfl rfl ?_
                                            refine R_getA fRX5_48 dX5_measure_246 rfl (Nat.lt_of_lt_of_le (Nat.le_of_ble_eq_true rfl) hnx) rfl ?_
                                            refine R_iload_n dX5_measure_249 rfl rfl ?_
                                            refine R_iaload (k := i) dX5_measure_250 rfl (Nat.lt_of_lt_of_le (Nat.le_of_ble_eq_true rfl) hnx) (by omega) (by omega) (by decide) ?_
                                            refine R_iastore (k := i + 1) dX5_measure_251 rfl (Nat.lt_of_lt_of_le (Nat.le_of_ble_eq_true rfl) hnx) (by omega) (by omega) (by decide) ?_
                                            refine R_iinc dX5_measure_252 rfl (Nat.le_of_ble_eq_true rfl) ?_
                                            refine R_goto (tgt := 43) dX5_measure_255 (by decide) ?_
                                            refine step hi2 _ (fun p hp => ?_) (fun p h1 h2 k hk => ?_) ?_ ?_ ?_ ?_ ?_ _ _
                                            · rw [up2_ne _ _ _ (by omega), up2_ne _ _ _ (by omega), up2_ne _ _ _ (by omega), up2_ne _ _ _ (by omega), up2_ne _ _ _ (by omega)]
                                            · simp only [up2_at]
                                              rw [if_neg (by omega), if_neg (by omega), if_neg (by omega), if_neg (by omega), if_neg (by omega)]
                                            · simp [up2_at, fW]
                                              first | (rw [if_pos (by omega)]; rw [q1, show (2 : Int) = ((2 : Nat) : Int) from rfl, bDivN (by omega) (by omega) (by omega)]; done) | (rw [if_neg (by omega)]; exact q1)
                                            · simp [up2_at, fH]
                                              first | (rw [if_pos (by omega)]; rw [q2, show (2 : Int) = ((2 : Nat) : Int) from rfl, bDivN (by omega) (by omega) (by omega)]; done) | (rw [if_neg (by omega)]; exact q2)
                                            · simp [up2_at, fP]
                                              first | (rw [if_pos (by omega)]; (try rfl); done) | (rw [if_neg (by omega)]; exact q3)
                                            · simp [up2_at, fL]
                                              rw [q4]
                                              first | (rw [if_pos (by omega)]; rfl) | (rw [if_neg (by omega), if_pos (by omega)]; rfl) | (rw [if_neg (by omega), if_neg (by omega), if_pos (by omega), q5]) | (rw [if_neg (by omega), if_neg (by omega), if_neg (by omega)]; rfl)
                                            · simp [up2_at, fS]
                                              first | (rw [if_pos (by omega), q5]; rfl) | (rw [if_neg (by omega)]; exact q5))
                                       · first
                                         | (simp (discharger := omega) only [wr_id] at c_231; done)
                                         | (try simp (discharger := omega) only [wr_id] at c_231
                                            exfalso
                                            first | omega | exact c_231 trivial)
                                         | (try simp (discharger := omega) only [wr_id] at c_231
                                            refine R_iconst dX5_measure_234 ?_
                                            refine R_aload_n dX5_measure_235 rfl rfl ?_
                                            refine R_getA fRX5_48 dX5_measure_236 rfl (Nat.lt_of_lt_of_le (Nat.le_of_ble_eq_true rfl) hnx) rfl ?_
                                            refine R_iload_n dX5_measure_239 rfl rfl ?_
                                            refine R_iaload (k := i) dX5_measure_240 rfl (Nat.lt_of_lt_of_le (Nat.le_of_ble_eq_true rfl) hnx) (by omega) (by omega) (by decide) ?_
                                            refine R_imul dX5_measure_241 ?_
                                            refine R_goto (tgt := 251) dX5_measure_242 (by decide) ?_
                                            refine R_iastore (k := i + 1) dX5_measure_251 rfl (Nat.lt_of_lt_of_le (Nat.le_of_ble_eq_true rfl) hnx) (by omega) (by omega) (by decide) ?_
                                            refine R_iinc dX5_measure_252 rfl (Nat.le_of_ble_eq_true rfl) ?_
                                            refine R_goto (tgt := 43) dX5_measure_255 (by decide) ?_
                                            refine step hi2 _ (fun p hp => ?_) (fun p h1 h2 k hk => ?_) ?_ ?_ ?_ ?_ ?_ _ _
                                            · rw [up2_ne _ _ _ (by omega), up2_ne _ _ _ (by omega), up2_ne _ _ _ (by omega), up2_ne _ _ _ (by omega), up2_ne _ _ _ (by omega)]
                                            · simp only [up2_at]
                                              rw [if_neg (by omega), if_neg (by omega), if_neg (by omega), if_neg (by omega), if_neg (by omega)]
                                            · simp [up2_at, fW]
                                              first | (rw [if_pos (by omega)]; rw [q1, show (2 : Int) = ((2 : Nat) : Int) from rfl, bDivN (by omega) (by omega) (by omega)]; done) | (rw [if_neg (by omega)]; exact q1)
                                            · simp [up2_at, fH]
                                              first | (rw [if_pos (by omega)]; rw [q2, show (2 : Int) = ((2 : Nat) : Int) from rfl, bDivN (by omega) (by omega) (by omega)]; done) | (rw [if_neg (by omega)]; exact q2)
                                            · simp [up2_at, fP]
                                              first | (rw [if_pos (by omega)]; (try rfl); done) | (rw [if_neg (by omega)]; exact q3)
                                            · simp [up2_at, fL]
                                              rw [q4]
                                              first | (rw [if_pos (by omega)]; rfl) | (rw [if_neg (by omega), if_pos (by omega)]; rfl) | (rw [if_neg (by omega), if_neg (by omega), if_pos (by omega), q5]) | (rw [if_neg (by omega), if_neg (by omega), if_neg (by omega)]; rfl)
                                            · simp [up2_at, fS]
                                              first | (rw [if_pos (by omega), q5]; rfl) | (rw [if_neg (by omega)]; exact q5)))))
                        · first
                          | (simp (discharger := omega) only [wr_id] at c_140; done)
                          | (try simp (discharger := omega) only [wr_id] at c_140
                             exfalso
                             first | omega | exact c_140 trivial)
                          | (try simp (discharger := omega) only [wr_id] at c_140
                             refine R_iconst dX5_measure_143 ?_
                             refine R_goto (tgt := 153) dX5_measure_144 (by decide) ?_
                             refine R_iastore (k := i + 1) dX5_measure_153 rfl (Nat.lt_of_lt_of_le (Nat.le_of_ble_eq_true rfl) hnx) (by omega) (by omega) (by decide) ?_
                             refine R_aload_n dX5_measure_154 rfl rfl ?_
                             refine R_getA fRX5_24 dX5_measure_155 rfl (Nat.lt_of_lt_of_le (Nat.le_of_ble_eq_true rfl) hnx) rfl ?_
                             refine R_iload_n dX5_measure_158 rfl rfl ?_
                             refine R_iaload (k := i) dX5_measure_159 rfl (Nat.lt_of_lt_of_le (Nat.le_of_ble_eq_true rfl) hnx) (by omega) (by omega) (by decide) ?_
                             refine R_iconst dX5_measure_160 ?_
                             dsimp only
                             rw [up2_ne _ _ _ (by decide), up2_ne _ _ _ (by decide), up2_ne _ _ _ (by decide), e6]
                             refine R_icmp_eq (tgt := 174) dX5_measure_161 (by decide) (fun c_161 => ?_) (fun c_161 => ?_)
                             · first
                               | (simp (discharger := omega) only [wr_id] at c_161; done)
                               | (try simp (discharger := omega) only [wr_id] at c_161
                                  exfalso
                                  first | omega | exact c_161 trivial)
                               | (try simp (discharger := omega) only [wr_id] at c_161
                                  refine R_iconst dX5_measure_174 ?_
                                  refine R_goto (tgt := 206) dX5_measure_175 (by decide) ?_
                                  refine R_istore_n dX5_measure_206 rfl (Nat.le_of_ble_eq_true rfl) ?_
                                  refine R_aload_n dX5_measure_207 rfl rfl ?_
                                  refine R_getA fRX5_45 dX5_measure_208 rfl (Nat.lt_of_lt_of_le (Nat.le_of_ble_eq_true rfl) hnx) rfl ?_
                                  refine R_iload_n dX5_measure_211 rfl rfl ?_
                                  refine R_iconst dX5_measure_212 ?_
                                  refine R_iadd dX5_measure_213 ?_
                                  refine R_aload_n dX5_measure_214 rfl rfl ?_
                                  refine R_getA fRX5_45 dX5_measure_215 rfl (Nat.lt_of_lt_of_le (Nat.le_of_ble_eq_true rfl) hnx) rfl ?_
                                  refine R_iload_n dX5_measure_218 rfl rfl ?_
                                  refine R_iaload (k := i) dX5_measure_219 rfl (Nat.lt_of_lt_of_le (Nat.le_of_ble_eq_true rfl) hnx) (by omega) (by omega) (by decide) ?_
                                  refine R_iload_n dX5_measure_220 rfl rfl ?_
                                  refine R_iadd dX5_measure_221 ?_
                                  refine R_iastore (k := i + 1) dX5_measure_222 rfl (Nat.lt_of_lt_of_le (Nat.le_of_ble_eq_true rfl) hnx) (by omega) (by omega) (by decide) ?_
                                  refine R_aload_n dX5_measure_223 rfl rfl ?_
                                  refine R_getA fRX5_48 dX5_measure_224 rfl (Nat.lt_of_lt_of_le (Nat.le_of_ble_eq_true rfl) hnx) rfl ?_
                                  refine R_iload_n dX5_measure_227 rfl rfl ?_
                                  refine R_iconst dX5_measure_228 ?_
                                  refine R_iadd dX5_measure_229 ?_
                                  refine R_iload_n dX5_measure_230 rfl rfl ?_
                                  refine R_if_eq (tgt := 245) dX5_measure_231 (by decide) (fun c_231 => ?_) (fun c_231 => ?_)
                                  · first
                                    | (simp (discharger := omega) only [wr_id] at c_231; done)
                                    | (try simp (discharger := omega) only [wr_id] at c_231
                                       exfalso
                                       first | omega | exact c_231 trivial)
                                    | (try simp (discharger := omega) only [wr_id] at c_231
                                       refine R_aload_n dX5_measure_245 rfl rfl ?_
                                       refine R_getA fRX5_48 dX5_measure_246 rfl (Nat.lt_of_lt_of_le (Nat.le_of_ble_eq_true rfl) hnx) rfl ?_
                                       refine R_iload_n dX5_measure_249 rfl rfl ?_
                                       refine R_iaload (k := i) dX5_measure_250 rfl (Nat.lt_of_lt_of_le (Nat.le_of_ble_eq_true rfl) hnx) (by omega) (by omega) (by decide) ?_
                                       refine R_iastore (k := i + 1) dX5_measure_251 rfl (Nat.lt_of_lt_of_le (Nat.le_of_ble_eq_true rfl) hnx) (by omega) (by omega) (by decide) ?_
                                       refine R_iinc dX5_measure_252 rfl (Nat.le_of_ble_eq_true rfl) ?_
                                       refine R_goto (tgt := 43) dX5_measure_255 (by decide) ?_
                                       refine step hi2 _ (fun p hp => ?_) (fun p h1 h2 k hk => ?_) ?_ ?_ ?_ ?_ ?_ _ _
                                       · rw [up2_ne _ _ _ (by omega), up2_ne _ _ _ (by omega), up2_ne _ _ _ (by omega), up2_ne _ _ _ (by omega), up2_ne _ _ _ (by omega)]
                                       · simp only [up2_at]
                                         rw [if_neg (by omega), if_neg (by omega), if_neg (by omega), if_neg (by omega), if_neg (by omega)]
                                       · simp [up2_at, fW]
                                         first | (rw [if_pos (by omega)]; rw [q1, show (2 : Int) = ((2 : Nat) : Int) from rfl, bDivN (by omega) (by omega) (by omega)]; done) | (rw [if_neg (by omega)]; exact q1)
                                       · simp [up2_at, fH]
                                         first | (rw [if_pos (by omega)]; rw [q2, show (2 : Int) = ((2 : Nat) : Int) from rfl, bDivN (by omega) (by omega) (by omega)]; done) | (rw [if_neg (by omega)]; exact q2)
                                       · simp [up2_at, fP]
                                         first | (rw [if_pos (by omega)]; (try rfl); done) | (rw [if_neg (by omega)]; exact q3)
                                       · simp [up2_at, fL]
                                         rw [q4]
                                         first | (rw [if_pos (by omega)]; rfl) | (rw [if_neg (by omega), if_pos (by omega)]; rfl) | (rw [if_neg (by omega), if_neg (by omega), if_pos (by omega), q5]) | (rw [if_neg (by omega), if_neg (by omega), if_neg (by omega)]; rfl)
                                       · simp [up2_at, fS]
                                         first | (rw [if_pos (by omega), q5]; rfl) | (rw [if_neg (by omega)]; exact q5))
                                  · first
                                    | (simp (discharger := omega) only [wr_id] at c_231; done)
                                    | (try simp (discharger := omega) only [wr_id] at c_231
                                       exfalso
                                       first | omega | exact c_231 trivial)
                                    | (try simp (discharger := omega) only [wr_id] at c_231
                                       refine R_iconst dX5_measure_234 ?_
                                       refine R_aload_n dX5_measure_235 rfl rfl ?_
                                       refine R_getA fRX5_48 dX5_measure_236 rfl (Nat.lt_of_lt_of_le (Nat.le_of_ble_eq_true rfl) hnx) rfl ?_
                                       refine R_iload_n dX5_measure_239 rfl rfl ?_
                                       refine R_iaload (k := i) dX5_measure_240 rfl (Nat.lt_of_lt_of_le (Nat.le_of_ble_eq_true rfl) hnx) (by omega) (by omega) (by decide) ?_
                                       refine R_imul dX5_measure_241 ?_
                                       refine R_goto (tgt := 251) dX5_measure_242 (by decide) ?_
                                       refine R_iastore (k := i + 1) dX5_measure_251 rfl (Nat.lt_of_lt_of_le (Nat.le_of_ble_eq_true rfl) hnx) (by omega) (by omega) (by decide) ?_
                                       refine R_iinc dX5_measure_252 rfl (Nat.le_of_ble_eq_true rfl) ?_
                                       refine R_goto (tgt := 43) dX5_measure_255 (by decide) ?_
                                       refine step hi2 _ (fun p hp => ?_) (fun p h1 h2 k hk => ?_) ?_ ?_ ?_ ?_ ?_ _ _
                                       · rw [up2_ne _ _ _ (by omega), up2_ne _ _ _ (by omega), up2_ne _ _ _ (by omega), up2_ne _ _ _ (by omega), up2_ne _ _ _ (by omega)]
                                       · simp only [up2_at]
                                         rw [if_neg (by omega), if_neg (by omega), if_neg (by omega), if_neg (by omega), if_neg (by omega)]
                                       · simp [up2_at, fW]
                                         first | (rw [if_pos (by omega)]; rw [q1, show (2 : Int) = ((2 : Nat) : Int) from rfl, bDivN (by omega) (by omega) (by omega)]; done) | (rw [if_neg (by omega)]; exact q1)
                                       · simp [up2_at, fH]
                                         first | (rw [if_pos (by omega)]; rw [q2, show (2 : Int) = ((2 : Nat) : Int) from rfl, bDivN (by omega) (by omega) (by omega)]; done) | (rw [if_neg (by omega)]; exact q2)
                                       · simp [up2_at, fP]
                                         first | (rw [if_pos (by omega)]; (try rfl); done) | (rw [if_neg (by omega)]; exact q3)
                                       · simp [up2_at, fL]
                                         rw [q4]
                                         first | (rw [if_pos (by omega)]; rfl) | (rw [if_neg (by omega), if_pos (by omega)]; rfl) | (rw [if_neg (by omega), if_neg (by omega), if_pos (by omega), q5]) | (rw [if_neg (by omega), if_neg (by omega), if_neg (by omega)]; rfl)
                                       · simp [up2_at, fS]
                                         first | (rw [if_pos (by omega), q5]; rfl) | (rw [if_neg (by omega)]; exact q5)))
                             · first
                               | (simp (discharger := omega) only [wr_id] at c_161; done)
                               | (try simp (discharger := omega) only [wr_id] at c_161
                                  exfalso
                                  first | omega | exact c_161 trivial)
                               | (try simp (discharger := omega) only [wr_id] at c_161
                                  refine R_aload_n dX5_measure_164 rfl rfl ?_
                                  refine R_getA fRX5_24 dX5_measure_165 rfl (Nat.lt_of_lt_of_le (Nat.le_of_ble_eq_true rfl) hnx) rfl ?_
                                  refine R_iload_n dX5_measure_168 rfl rfl ?_
                                  refine R_iaload (k := i) dX5_measure_169 rfl (Nat.lt_of_lt_of_le (Nat.le_of_ble_eq_true rfl) hnx) (by omega) (by omega) (by decide) ?_
                                  refine R_iconst dX5_measure_170 ?_
                                  dsimp only
                                  rw [up2_ne _ _ _ (by decide), up2_ne _ _ _ (by decide), up2_ne _ _ _ (by decide), e6]
                                  refine R_icmp_ne (tgt := 178) dX5_measure_171 (by decide) (fun c_171 => ?_) (fun c_171 => ?_)
                                  · first
                                    | (simp (discharger := omega) only [wr_id] at c_171; done)
                                    | (try simp (discharger := omega) only [wr_id] at c_171
                                       exfalso
                                       first | omega | exact c_171 trivial)
                                    | (try simp (discharger := omega) only [wr_id] at c_171
                                       refine R_aload_n dX5_measure_178 rfl rfl ?_
                                       refine R_getA fRX5_24 dX5_measure_179 rfl (Nat.lt_of_lt_of_le (Nat.le_of_ble_eq_true rfl) hnx) rfl ?_
                                       refine R_iload_n dX5_measure_182 rfl rfl ?_
                                       refine R_iaload (k := i) dX5_measure_183 rfl (Nat.lt_of_lt_of_le (Nat.le_of_ble_eq_true rfl) hnx) (by omega) (by omega) (by decide) ?_
                                       refine R_iconst dX5_measure_184 ?_
                                       dsimp only
                                       rw [up2_ne _ _ _ (by decide), up2_ne _ _ _ (by decide), up2_ne _ _ _ (by decide), e6]
                                       refine R_icmp_ne (tgt := 192) dX5_measure_185 (by decide) (fun c_185 => ?_) (fun c_185 => ?_)
                                       · first
                                         | (simp (discharger := omega) only [wr_id] at c_185; done)
                                         | (try simp (discharger := omega) only [wr_id] at c_185
                                            exfalso
                                            first | omega | exact c_185 trivial)
                                         | (try simp (discharger := omega) only [wr_id] at c_185
                                            refine R_iload_n dX5_measure_192 rfl rfl ?_
                                            refine R_if_eq (tgt := 205) dX5_measure_193 (by decide) (fun c_193 => ?_) (fun c_193 => ?_)
                                            · first
                                              | (simp (discharger := omega) only [wr_id] at c_193; done)
                                              | (try simp (discharger := omega) only [wr_id] at c_193
                                                 exfalso
                                                 first | omega | exact c_193 trivial)
                                              | (try simp (discharger := omega) only [wr_id] at c_193
                                                 refine R_iconst dX5_measure_205 ?_
                                                 refine R_istore_n dX5_measure_206 rfl (Nat.le_of_ble_eq_true rfl) ?_
                                                 refine R_aload_n dX5_measure_207 rfl rfl ?_
                                                 refine R_getA fRX5_45 dX5_measure_208 rfl (Nat.lt_of_lt_of_le (Nat.le_of_ble_eq_true rfl) hnx) rfl ?_
                                                 refine R_iload_n dX5_measure_211 rfl rfl ?_
                                                 refine R_iconst dX5_measure_212 ?_
                                                 refine R_iadd dX5_measure_213 ?_
                                                 refine R_aload_n dX5_measure_214 rfl rfl ?_
                                                 refine R_getA fRX5_45 dX5_measure_215 rfl (Nat.lt_of_lt_of_le (Nat.le_of_ble_eq_true rfl) hnx) rfl ?_
                                                 refine R_iload_n dX5_measure_218 rfl rfl ?_
                                                 refine R_iaload (k := i) dX5_measure_219 rfl (Nat.lt_of_lt_of_le (Nat.le_of_ble_eq_true rfl) hnx) (by omega) (by omega) (by decide) ?_
                                                 refine R_iload_n dX5_measure_220 rfl rfl ?_
                                                 refine R_iadd dX5_measure_221 ?_
                                                 refine R_iastore (k := i + 1) dX5_measure_222 rfl (Nat.lt_of_lt_of_le (Nat.le_of_ble_eq_true rfl) hnx) (by omega) (by omega) (by decide) ?_
                                                 refine R_aload_n dX5_measure_223 rfl rfl ?_
                                                 refine R_getA fRX5_48 dX5_measure_224 rfl (Nat.lt_of_lt_of_le (Nat.le_of_ble_eq_true rfl) hnx) rfl ?_
                                                 refine R_iload_n dX5_measure_227 rfl rfl ?_
                                                 refine R_iconst dX5_measure_228 ?_
                                                 refine R_iadd dX5_measure_229 ?_
                                                 refine R_iload_n dX5_measure_230 rfl rfl ?_
                                                 refine R_if_eq (tgt := 245) dX5_measure_231 (by decide) (fun c_231 => ?_) (fun c_231 => ?_)
                                                 · first
                                                   | (simp (discharger := omega) only [wr_id] at c_231; done)
                                                   | (try simp (discharger := omega) only [wr_id] at c_231
                                                      exfalso
                                                      first | omega | exact c_231 trivial)
                                                   | (try simp (discharger := omega) only [wr_id] at c_231
                                                      refine R_aload_n dX5_measure_245 rfl rfl ?_
                                                      refine R_getA fRX5_48 dX5_measure_246 rfl (Nat.lt_of_lt_of_le (Nat.le_of_ble_eq_true rfl) hnx) rfl ?_
                                                      refine R_iload_n dX5_measure_249 rfl rfl ?_
                                                      refine R_iaload (k := i) dX5_measure_250 rfl (Nat.lt_of_lt_of_le (Nat.le_of_ble_eq_true rfl) hnx) (by omega) (by omega) (by decide) ?_
                                                      refine R_iastore (k := i + 1) dX5_measure_251 rfl (Nat.lt_of_lt_of_le (Nat.le_of_ble_eq_true rfl) hnx) (by omega) (by omega) (by decide) ?_
                                                      refine R_iinc dX5_measure_252 rfl (Nat.le_of_ble_eq_true rfl) ?_
                                                      refine R_goto (tgt := 43) dX5_measure_255 (by decide) ?_
                                                      refine step hi2 _ (fun p hp => ?_) (fun p h1 h2 k hk => ?_) ?_ ?_ ?_ ?_ ?_ _ _
                                                      · rw [up2_ne _ _ _ (by omega), up2_ne _ _ _ (by omega), up2_ne _ _ _ (by omega), up2_ne _ _ _ (by omega), up2_ne _ _ _ (by omega)]
                                                      · simp only [up2_at]
                                                        rw [if_neg (by omega), if_neg (by omega), if_neg (by omega), if_neg (by omega), if_neg (by omega)]
                                                      · simp [up2_at, fW]
                                                        first | (rw [if_pos (by omega)]; rw [q1, show (2 : Int) = ((2 : Nat) : Int) from rfl, bDivN (by omega) (by omega) (by omega)]; done) | (rw [if_neg (by omega)]; exact q1)
                                                      · simp [up2_at, fH]
                                                        first | (rw [if_pos (by omega)]; rw [q2, show (2 : Int) = ((2 : Nat) : Int) from rfl, bDivN (by omega) (by omega) (by omega)]; done) | (rw [if_neg (by omega)]; exact q2)
                                                      · simp [up2_at, fP]
                                                        first | (rw [if_pos (by omega)]; (try rfl); done) | (rw [if_neg (by omega)]; exact q3)
                                                      · simp [up2_at, fL]
                                                        rw [q4]
                                                        first | (rw [if_pos (by omega)]; rfl) | (rw [if_neg (by omega), if_pos (by omega)]; rfl) | (rw [if_neg (by omega), if_neg (by omega), if_pos (by omega), q5]) | (rw [if_neg (by omega), if_neg (by omega), if_neg (by omega)]; rfl)
                                                      · simp [up2_at, fS]
                                                        first | (rw [if_pos (by omega), q5]; rfl) | (rw [if_neg (by omega)]; exact q5))
                                                 · first
                                                   | (simp (discharger := omega) only [wr_id] at c_231; done)
                                                   | (try simp (discharger := omega) only [wr_id] at c_231
                                                      exfalso
                                                      first | omega | exact c_231 trivial)
                                                   | (try simp (discharger := omega) only [wr_id] at c_231
                                                      refine R_iconst dX5_measure_234 ?_
                                                      refine R_aload_n dX5_measure_235 rfl rfl ?_
                                                      refine R_getA fRX5_48 dX5_measure_236 rfl (Nat.lt_of_lt_of_le (Nat.le_of_ble_eq_true rfl) hnx) rfl ?_
                                                      refine R_iload_n dX5_measure_239 rfl rfl ?_
                                                      refine R_iaload (k := i) dX5_measure_240 rfl (Nat.lt_of_lt_of_le (Nat.le_of_ble_eq_true rfl) hnx) (by omega) (by omega) (by decide) ?_
                                                      refine R_imul dX5_measure_241 ?_
                                                      refine R_goto (tgt := 251) dX5_measure_242 (by decide) ?_
                                                      refine R_iastore (k := i + 1) dX5_measure_251 rfl (Nat.lt_of_lt_of_le (Nat.le_of_ble_eq_true rfl) hnx) (by omega) (by omega) (by decide) ?_
                                                      refine R_iinc dX5_measure_252 rfl (Nat.le_of_ble_eq_true rfl) ?_
                                                      refine R_goto (tgt := 43) dX5_measure_255 (by decide) ?_
                                                      refine step hi2 _ (fun p hp => ?_) (fun p h1 h2 k hk => ?_) ?_ ?_ ?_ ?_ ?_ _ _
                                                      · rw [up2_ne _ _ _ (by omega), up2_ne _ _ _ (by omega), up2_ne _ _ _ (by omega), up2_ne _ _ _ (by omega), up2_ne _ _ _ (by omega)]
                                                      · simp only [up2_at]
                                                        rw [if_neg (by omega), if_neg (by omega), if_neg (by omega), if_neg (by omega), if_neg (by omega)]
                                                      · simp [up2_at, fW]
                                                        first | (rw [if_pos (by omega)]; rw [q1, show (2 : Int) = ((2 : Nat) : Int) from rfl, bDivN (by omega) (by omega) (by omega)]; done) | (rw [if_neg (by omega)]; exact q1)
                                                      · simp [up2_at, fH]
                                                        first | (rw [if_pos (by omega)]; rw [q2, show (2 : Int) = ((2 : Nat) : Int) from rfl, bDivN (by omega) (by omega) (by omega)]; done) | (rw [if_neg (by omega)]; exact q2)
                                                      · simp [up2_at, fP]
                                                        first | (rw [if_pos (by omega)]; (try rfl); done) | (rw [if_neg (by omega)]; exact q3)
                                                      · simp [up2_at, fL]
                                                        rw [q4]
                                                        first | (rw [if_pos (by omega)]; rfl) | (rw [if_neg (by omega), if_pos (by omega)]; rfl) | (rw [if_neg (by omega), if_neg (by omega), if_pos (by omega), q5]) | (rw [if_neg (by omega), if_neg (by omega), if_neg (by omega)]; rfl)
                                                      · simp [up2_at, fS]
                                                        first | (rw [if_pos (by omega), q5]; rfl) | (rw [if_neg (by omega)]; exact q5)))
                                            · first
                                              | (simp (discharger := omega) only [wr_id] at c_193; done)
                                              | (try simp (discharger := omega) only [wr_id] at c_193
                                                 exfalso
                                                 first | omega | exact c_193 trivial)
                                              | (try simp (discharger := omega) only [wr_id] at c_193
                                                 refine R_aload_n dX5_measure_196 rfl rfl ?_
                                                 refine R_getA fRX5_48 dX5_measure_197 rfl (Nat.lt_of_lt_of_le (Nat.le_of_ble_eq_true rfl) hnx) rfl ?_
                                                 refine R_iload_n dX5_measure_200 rfl rfl ?_
                                                 refine R_iaload (k := i) dX5_measure_201 rfl (Nat.lt_of_lt_of_le (Nat.le_of_ble_eq_true rfl) hnx) (by omega) (by omega) (by decide) ?_
                                                 refine R_goto (tgt := 206) dX5_measure_202 (by decide) ?_
                                                 refine R_istore_n dX5_measure_206 rfl (Nat.le_of_ble_eq_true rfl) ?_
                                                 refine R_aload_n dX5_measure_207 rfl rfl ?_
                                                 refine R_getA fRX5_45 dX5_measure_208 rfl (Nat.lt_of_lt_of_le (Nat.le_of_ble_eq_true rfl) hnx) rfl ?_
                                                 refine R_iload_n dX5_measure_211 rfl rfl ?_
                                                 refine R_iconst dX5_measure_212 ?_
                                                 refine R_iadd dX5_measure_213 ?_
                                                 refine R_aload_n dX5_measure_214 rfl rfl ?_
                                                 refine R_getA fRX5_45 dX5_measure_215 rfl (Nat.lt_of_lt_of_le (Nat.le_of_ble_eq_true rfl) hnx) rfl ?_
                                                 refine R_iload_n dX5_measure_218 rfl rfl ?_
                                                 refine R_iaload (k := i) dX5_measure_219 rfl (Nat.lt_of_lt_of_le (Nat.le_of_ble_eq_true rfl) hnx) (by omega) (by omega) (by decide) ?_
                                                 refine R_iload_n dX5_measure_220 rfl rfl ?_
                                                 refine R_iadd dX5_measure_221 ?_
                                                 refine R_iastore (k := i + 1) dX5_measure_222 rfl (Nat.lt_of_lt_of_le (Nat.le_of_ble_eq_true rfl) hnx) (by omega) (by omega) (by decide) ?_
                                                 refine R_aload_n dX5_measure_223 rfl rfl ?_
                                                 refine R_getA fRX5_48 dX5_measure_224 rfl (Nat.lt_of_lt_of_le (Nat.le_of_ble_eq_true rfl) hnx) rfl ?_
                                                 refine R_iload_n dX5_measure_227 rfl rfl ?_
                                                 refine R_iconst dX5_measure_228 ?_
                                                 refine R_iadd dX5_measure_229 ?_
                                                 refine R_iload_n dX5_measure_230 rfl rfl ?_
                                                 refine R_if_eq (tgt := 245) dX5_measure_231 (by decide) (fun c_231 => ?_) (fun c_231 => ?_)
                                                 · first
                                                   | (simp (discharger := omega) only [wr_id] at c_231; done)
                                                   | (try simp (discharger := omega) only [wr_id] at c_231
                                                      exfalso
                                                      first | omega | exact c_231 trivial)
                                                   | (try simp (discharger := omega) only [wr_id] at c_231
                                                      refine R_aload_n dX5_measure_245 rfl rfl ?_
                                                      refine R_getA fRX5_48 dX5_measure_246 rfl (Nat.lt_of_lt_of_le (Nat.le_of_ble_eq_true rfl) hnx) rfl ?_
                                                      refine R_iload_n dX5_measure_249 rfl rfl ?_
                                                      refine R_iaload (k := i) dX5_measure_250 rfl (Nat.lt_of_lt_of_le (Nat.le_of_ble_eq_true rfl) hnx) (by omega) (by omega) (by decide) ?_
                                                      refine R_iastore (k := i + 1) dX5_measure_251 rfl (Nat.lt_of_lt_of_le (Nat.le_of_ble_eq_true rfl) hnx) (by omega) (by omega) (by decide) ?_
                                                      refine R_iinc dX5_measure_252 rfl (Nat.le_of_ble_eq_true rfl) ?_
                                                      refine R_goto (tgt := 43) dX5_measure_255 (by decide) ?_
                                                      refine step hi2 _ (fun p hp => ?_) (fun p h1 h2 k hk => ?_) ?_ ?_ ?_ ?_ ?_ _ _
                                                      · rw [up2_ne _ _ _ (by omega), up2_ne _ _ _ (by omega), up2_ne _ _ _ (by omega), up2_ne _ _ _ (by omega), up2_ne _ _ _ (by omega)]
                                                      · simp only [up2_at]
                                                        rw [if_neg (by omega), if_neg (by omega), if_neg (by omega), if_neg (by omega), if_neg (by omega)]
                                                      · simp [up2_at, fW]
                                                        first | (rw [if_pos (by omega)]; rw [q1, show (2 : Int) = ((2 : Nat) : Int) from rfl, bDivN (by omega) (by omega) (by omega)]; done) | (rw [if_neg (by omega)]; exact q1)
                                                      · simp [up2_at, fH]
                                                        first | (rw [if_pos (by omega)]; rw [q2, show (2 : Int) = ((2 : Nat) : Int) from rfl, bDivN (by omega) (by omega) (by omega)]; done) | (rw [if_neg (by omega)]; exact q2)
                                                      · simp [up2_at, fP]
                                                        first | (rw [if_pos (by omega)]; (try rfl); done) | (rw [if_neg (by omega)]; exact q3)
                                                      · simp [up2_at, fL]
                                                        rw [q4]
                                                        first | (rw [if_pos (by omega)]; rfl) | (rw [if_neg (by omega), if_pos (by omega)]; rfl) | (rw [if_neg (by omega), if_neg (by omega), if_pos (by omega), q5]) | (rw [if_neg (by omega), if_neg (by omega), if_neg (by omega)]; rfl)
                                                      · simp [up2_at, fS]
                                                        first | (rw [if_pos (by omega), q5]; rfl) | (rw [if_neg (by omega)]; exact q5))
                                                 · first
                                                   | (simp (discharger := omega) only [wr_id] at c_231; done)
                                                   | (try simp (discharger := omega) only [wr_id] at c_231
                                                      exfalso
                                                      first | omega | exact c_231 trivial)
                                                   | (try simp (discharger := omega) only [wr_id] at c_231
                                                      refine R_iconst dX5_measure_234 ?_
                                                      refine R_aload_n dX5_measure_235 rfl rfl ?_
                                                      refine R_getA fRX5_48 dX5_measure_236 rfl (Nat.lt_of_lt_of_le (Nat.le_of_ble_eq_true rfl) hnx) rfl ?_
                                                      refine R_iload_n dX5_measure_239 rfl rfl ?_
                                                      refine R_iaload (k := i) dX5_measure_240 rfl (Nat.lt_of_lt_of_le (Nat.le_of_ble_eq_true rfl) hnx) (by omega) (by omega) (by decide) ?_
                                                      refine R_imul dX5_measure_241 ?_
                                                      refine R_goto (tgt := 251) dX5_measure_242 (by decide) ?_
                                                      refine R_iastore (k := i + 1) dX5_measure_251 rfl (Nat.lt_of_lt_of_le (Nat.le_of_ble_eq_true rfl) hnx) (by omega) (by omega) (by decide) ?_
                                                      refine R_iinc dX5_measure_252 rfl (Nat.le_of_ble_eq_true rfl) ?_
                                                      refine R_goto (tgt := 43) dX5_measure_255 (by decide) ?_
                                                      refine step hi2 _ (fun p hp => ?_) (fun p h1 h2 k hk => ?_) ?_ ?_ ?_ ?_ ?_ _ _
                                                      · rw [up2_ne _ _ _ (by omega), up2_ne _ _ _ (by omega), up2_ne _ _ _ (by omega), up2_ne _ _ _ (by omega), up2_ne _ _ _ (by omega)]
                                                      · simp only [up2_at]
                                                        rw [if_neg (by omega), if_neg (by omega), if_neg (by omega), if_neg (by omega), if_neg (by omega)]
                                                      · simp [up2_at, fW]
                                                        first | (rw [if_pos (by omega)]; rw [q1, show (2 : Int) = ((2 : Nat) : Int) from rfl, bDivN (by omega) (by omega) (by omega)]; done) | (rw [if_neg (by omega)]; exact q1)
                                                      · simp [up2_at, fH]
                                                        first | (rw [if_pos (by omega)]; rw [q2, show (2 : Int) = ((2 : Nat) : Int) from rfl, bDivN (by omega) (by omega) (by omega)]; done) | (rw [if_neg (by omega)]; exact q2)
                                                      · simp [up2_at, fP]
                                                        first | (rw [if_pos (by omega)]; (try rfl); done) | (rw [if_neg (by omega)]; exact q3)
                                                      · simp [up2_at, fL]
                                                        rw [q4]
                                                        first | (rw [if_pos (by omega)]; rfl) | (rw [if_neg (by omega), if_pos (by omega)]; rfl) | (rw [if_neg (by omega), if_neg (by omega), if_pos (by omega), q5]) | (rw [if_neg (by omega), if_neg (by omega), if_neg (by omega)]; rfl)
                                                      · simp [up2_at, fS]
                                                        first | (rw [if_pos (by omega), q5]; rfl) | (rw [if_neg (by omega)]; exact q5))))
                                       · first
                                         | (simp (discharger := omega) only [wr_id] at c_185; done)
                                         | (try simp (discharger := omega) only [wr_id] at c_185
                                            exfalso
                                            first | omega | exact c_185 trivial)
                                         | (try simp (discharger := omega) only [wr_id] at c_185
                                            refine R_iconst dX5_measure_188 ?_
                                            refine R_goto (tgt := 206) dX5_measure_189 (by decide) ?_
                                            refine R_istore_n dX5_measure_206 rfl (Nat.le_of_ble_eq_true rfl) ?_
                                            refine R_aload_n dX5_measure_207 rfl rfl ?_
                                            refine R_getA fRX5_45 dX5_measure_208 rfl (Nat.lt_of_lt_of_le (Nat.le_of_ble_eq_true rfl) hnx) rfl ?_
                                            refine R_iload_n dX5_measure_211 rfl rfl ?_
                                            refine R_iconst dX5_measure_212 ?_
                                            refine R_iadd dX5_measure_213 ?_
                                            refine R_aload_n dX5_measure_214 rfl rfl ?_
                                            refine R_getA fRX5_45 dX5_measure_215 rfl (Nat.lt_of_lt_of_le (Nat.le_of_ble_eq_true rfl) hnx) rfl ?_
                                            refine R_iload_n dX5_measure_218 rfl rfl ?_
                                            refine R_iaload (k := i) dX5_measure_219 rfl (Nat.lt_of_lt_of_le (Nat.le_of_ble_eq_true rfl) hnx) (by omega) (by omega) (by decide) ?_
                                            refine R_iload_n dX5_measure_220 rfl rfl ?_
                                            refine R_iadd dX5_measure_221 ?_
                                            refine R_iastore (k := i + 1) dX5_measure_222 rfl (Nat.lt_of_lt_of_le (Nat.le_of_ble_eq_true rfl) hnx) (by omega) (by omega) (by decide) ?_
                                            refine R_aload_n dX5_measure_223 rfl rfl ?_
                                            refine R_getA fRX5_48 dX5_measure_224 rfl (Nat.lt_of_lt_of_le (Nat.le_of_ble_eq_true rfl) hnx) rfl ?_
                                            refine R_iload_n dX5_measure_227 rfl rfl ?_
                                            refine R_iconst dX5_measure_228 ?_
                                            refine R_iadd dX5_measure_229 ?_
                                            refine R_iload_n dX5_measure_230 rfl rfl ?_
                                            refine R_if_eq (tgt := 245) dX5_measure_231 (by decide) (fun c_231 => ?_) (fun c_231 => ?_)
                                            · first
                                              | (simp (discharger := omega) only [wr_id] at c_231; done)
                                              | (try simp (discharger := omega) only [wr_id] at c_231
                                                 exfalso
                                                 first | omega | exact c_231 trivial)
                                              | (try simp (discharger := omega) only [wr_id] at c_231
                                                 refine R_aload_n dX5_measure_245 rfl rfl ?_
                                                 refine R_getA fRX5_48 dX5_measure_246 rfl (Nat.lt_of_lt_of_le (Nat.le_of_ble_eq_true rfl) hnx) rfl ?_
                                                 refine R_iload_n dX5_measure_249 rfl rfl ?_
                                                 refine R_iaload (k := i) dX5_measure_250 rfl (Nat.lt_of_lt_of_le (Nat.le_of_ble_eq_true rfl) hnx) (by omega) (by omega) (by decide) ?_
                                                 refine R_iastore (k := i + 1) dX5_measure_251 rfl (Nat.lt_of_lt_of_le (Nat.le_of_ble_eq_true rfl) hnx) (by omega) (by omega) (by decide) ?_
                                                 refine R_iinc dX5_measure_252 rfl (Nat.le_of_ble_eq_true rfl) ?_
                                                 refine R_goto (tgt := 43) dX5_measure_255 (by decide) ?_
                                                 refine step hi2 _ (fun p hp => ?_) (fun p h1 h2 k hk => ?_) ?_ ?_ ?_ ?_ ?_ _ _
                                                 · rw [up2_ne _ _ _ (by omega), up2_ne _ _ _ (by omega), up2_ne _ _ _ (by omega), up2_ne _ _ _ (by omega), up2_ne _ _ _ (by omega)]
                                                 · simp only [up2_at]
                                                   rw [if_neg (by omega), if_neg (by omega), if_neg (by omega), if_neg (by omega), if_neg (by omega)]
                                                 · simp [up2_at, fW]
                                                   first | (rw [if_pos (by omega)]; rw [q1, show (2 : Int) = ((2 : Nat) : Int) from rfl, bDivN (by omega) (by omega) (by omega)]; done) | (rw [if_neg (by omega)]; exact q1)
                                                 · simp [up2_at, fH]
                                                   first | (rw [if_pos (by omega)]; rw [q2, show (2 : Int) = ((2 : Nat) : Int) from rfl, bDivN (by omega) (by omega) (by omega)]; done) | (rw [if_neg (by omega)]; exact q2)
                                                 · simp [up2_at, fP]
                                                   first | (rw [if_pos (by omega)]; (try rfl); done) | (rw [if_neg (by omega)]; exact q3)
                                                 · simp [up2_at, fL]
                                                   rw [q4]
                                                   first | (rw [if_pos (by omega)]; rfl) | (rw [if_neg (by omega), if_pos (by omega)]; rfl) | (rw [if_neg (by omega), if_neg (by omega), if_pos (by omega), q5]) | (rw [if_neg (by omega), if_neg (by omega), if_neg (by omega)]; rfl)
                                                 · simp [up2_at, fS]
                                                   first | (rw [if_pos (by omega), q5]; rfl) | (rw [if_neg (by omega)]; exact q5))
                                            · first
                                              | (simp (discharger := omega) only [wr_id] at c_231; done)
                                              | (try simp (discharger := omega) only [wr_id] at c_231
                                                 exfalso
                                                 first | omega | exact c_231 trivial)
                                              | (try simp (discharger := omega) only [wr_id] at c_231
                                                 refine R_iconst dX5_measure_234 ?_
                                                 refine R_aload_n dX5_measure_235 rfl rfl ?_
                                                 refine R_getA fRX5_48 dX5_measure_236 rfl (Nat.lt_of_lt_of_le (Nat.le_of_ble_eq_true rfl) hnx) rfl ?_
                                                 refine R_iload_n dX5_measure_239 rfl rfl ?_
                                                 refine R_iaload (k := i) dX5_measure_240 rfl (Nat.lt_of_lt_of_le (Nat.le_of_ble_eq_true rfl) hnx) (by omega) (by omega) (by decide) ?_
                                                 refine R_imul dX5_measure_241 ?_
                                                 refine R_goto (tgt := 251) dX5_measure_242 (by decide) ?_
                                                 refine R_iastore (k := i + 1) dX5_measure_251 rfl (Nat.lt_of_lt_of_le (Nat.le_of_ble_eq_true rfl) hnx) (by omega) (by omega) (by decide) ?_
                                                 refine R_iinc dX5_measure_252 rfl (Nat.le_of_ble_eq_true rfl) ?_
                                                 refine R_goto (tgt := 43) dX5_measure_255 (by decide) ?_
                                                 refine step hi2 _ (fun p hp => ?_) (fun p h1 h2 k hk => ?_) ?_ ?_ ?_ ?_ ?_ _ _
                                                 · rw [up2_ne _ _ _ (by omega), up2_ne _ _ _ (by omega), up2_ne _ _ _ (by omega), up2_ne _ _ _ (by omega), up2_ne _ _ _ (by omega)]
                                                 · simp only [up2_at]
                                                   rw [if_neg (by omega), if_neg (by omega), if_neg (by omega), if_neg (by omega), if_neg (by omega)]
                                                 · simp [up2_at, fW]
                                                   first | (rw [if_pos (by omega)]; rw [q1, show (2 : Int) = ((2 : Nat) : Int) from rfl, bDivN (by omega) (by omega) (by omega)]; done) | (rw [if_neg (by omega)]; exact q1)
                                                 · simp [up2_at, fH]
                                                   first | (rw [if_pos (by omega)]; rw [q2, show (2 : Int) = ((2 : Nat) : Int) from rfl, bDivN (by omega) (by omega) (by omega)]; done) | (rw [if_neg (by omega)]; exact q2)
                                                 · simp [up2_at, fP]
                                                   first | (rw [if_pos (by omega)]; (try rfl); done) | (rw [if_neg (by omega)]; exact q3)
                                                 · simp [up2_at, fL]
                                                   rw [q4]
                                                   first | (rw [if_pos (by omega)]; rfl) | (rw [if_neg (by omega), if_pos (by omega)]; rfl) | (rw [if_neg (by omega), if_neg (by omega), if_pos (by omega), q5]) | (rw [if_neg (by omega), if_neg (by omega), if_neg (by omega)]; rfl)
                                                 · simp [up2_at, fS]
                                                   first | (rw [if_pos (by omega), q5]; rfl) | (rw [if_neg (by omega)]; exact q5))))
                                  · first
                                    | (simp (discharger := omega) only [wr_id] at c_171; done)
                                    | (try simp (discharger := omega) only [wr_id] at c_171
                                       exfalso
                                       first | omega | exact c_171 trivial)
                                    | (try simp (discharger := omega) only [wr_id] at c_171
                                       refine R_iconst dX5_measure_174 ?_
                                       refine R_goto (tgt := 206) dX5_measure_175 (by decide) ?_
                                       refine R_istore_n dX5_measure_206 rfl (Nat.le_of_ble_eq_true rfl) ?_
                                       refine R_aload_n dX5_measure_207 rfl rfl ?_
                                       refine R_getA fRX5_45 dX5_measure_208 rfl (Nat.lt_of_lt_of_le (Nat.le_of_ble_eq_true rfl) hnx) rfl ?_
                                       refine R_iload_n dX5_measure_211 rfl rfl ?_
                                       refine R_iconst dX5_measure_212 ?_
                                       refine R_iadd dX5_measure_213 ?_
                                       refine R_aload_n dX5_measure_214 rfl rfl ?_
                                       refine R_getA fRX5_45 dX5_measure_215 rfl (Nat.lt_of_lt_of_le (Nat.le_of_ble_eq_true rfl) hnx) rfl ?_
                                       refine R_iload_n dX5_measure_218 rfl rfl ?_
                                       refine R_iaload (k := i) dX5_measure_219 rfl (Nat.lt_of_lt_of_le (Nat.le_of_ble_eq_true rfl) hnx) (by omega) (by omega) (by decide) ?_
                                       refine R_iload_n dX5_measure_220 rfl rfl ?_
                                       refine R_iadd dX5_measure_221 ?_
                                       refine R_iastore (k := i + 1) dX5_measure_222 rfl (Nat.lt_of_lt_of_le (Nat.le_of_ble_eq_true rfl) hnx) (by omega) (by omega) (by decide) ?_
                                       refine R_aload_n dX5_measure_223 rfl rfl ?_
                                       refine R_getA fRX5_48 dX5_measure_224 rfl (Nat.lt_of_lt_of_le (Nat.le_of_ble_eq_true rfl) hnx) rfl ?_
                                       refine R_iload_n dX5_measure_227 rfl rfl ?_
                                       refine R_iconst dX5_measure_228 ?_
                                       refine R_iadd dX5_measure_229 ?_
                                       refine R_iload_n dX5_measure_230 rfl rfl ?_
                                       refine R_if_eq (tgt := 245) dX5_measure_231 (by decide) (fun c_231 => ?_) (fun c_231 => ?_)
                                       · first
                                         | (simp (discharger := omega) only [wr_id] at c_231; done)
                                         | (try simp (discharger := omega) only [wr_id] at c_231
                                            exfalso
                                            first | omega | exact c_231 trivial)
                                         | (try simp (discharger := omega) only [wr_id] at c_231
                                            refine R_aload_n dX5_measure_245 rfl rfl ?_
                                            refine R_getA fRX5_48 dX5_measure_246 rfl (Nat.lt_of_lt_of_le (Nat.le_of_ble_eq_true rfl) hnx) rfl ?_
                                            refine R_iload_n dX5_measure_249 rfl rfl ?_
                                            refine R_iaload (k := i) dX5_measure_250 rfl (Nat.lt_of_lt_of_le (Nat.le_of_ble_eq_true rfl) hnx) (by omega) (by omega) (by decide) ?_
                                            refine R_iastore (k := i + 1) dX5_measure_251 rfl (Nat.lt_of_lt_of_le (Nat.le_of_ble_eq_true rfl) hnx) (by omega) (by omega) (by decide) ?_
                                            refine R_iinc dX5_measure_252 rfl (Nat.le_of_ble_eq_true rfl) ?_
                                            refine R_goto (tgt := 43) dX5_measure_255 (by decide) ?_
                                            refine step hi2 _ (fun p hp => ?_) (fun p h1 h2 k hk => ?_) ?_ ?_ ?_ ?_ ?_ _ _
                                            · rw [up2_ne _ _ _ (by omega), up2_ne _ _ _ (by omega), up2_ne _ _ _ (by omega), up2_ne _ _ _ (by omega), up2_ne _ _ _ (by omega)]
                                            · simp only [up2_at]
                                              rw [if_neg (by omega), if_neg (by omega), if_neg (by omega), if_neg (by omega), if_neg (by omega)]
                                            · simp [up2_at, fW]
                                              first | (rw [if_pos (by omega)]; rw [q1, show (2 : Int) = ((2 : Nat) : Int) from rfl, bDivN (by omega) (by omega) (by omega)]; done) | (rw [if_neg (by omega)]; exact q1)
                                            · simp [up2_at, fH]
                                              first | (rw [if_pos (by omega)]; rw [q2, show (2 : Int) = ((2 : Nat) : Int) from rfl, bDivN (by omega) (by omega) (by omega)]; done) | (rw [if_neg (by omega)]; exact q2)
                                            · simp [up2_at, fP]
                                              first | (rw [if_pos (by omega)]; (try rfl); done) | (rw [if_neg (by omega)]; exact q3)
                                            · simp [up2_at, fL]
                                              rw [q4]
                                              first | (rw [if_pos (by omega)]; rfl) | (rw [if_neg (by omega), if_pos (by omega)]; rfl) | (rw [if_neg (by omega), if_neg (by omega), if_pos (by omega), q5]) | (rw [if_neg (by omega), if_neg (by omega), if_neg (by omega)]; rfl)
                                            · simp [up2_at, fS]
                                              first | (rw [if_pos (by omega), q5]; rfl) | (rw [if_neg (by omega)]; exact q5))
                                       · first
                                         | (simp (discharger := omega) only [wr_id] at c_231; done)
                                         | (try simp (discharger := omega) only [wr_id] at c_231
                                            exfalso
                                            first | omega | exact c_231 trivial)
                                         | (try simp (discharger := omega) only [wr_id] at c_231
                                            refine R_iconst dX5_measure_234 ?_
                                            refine R_aload_n dX5_measure_235 rfl rfl ?_
                                            refine R_getA fRX5_48 dX5_measure_236 rfl (Nat.lt_of_lt_of_le (Nat.le_of_ble_eq_true rfl) hnx) rfl ?_
                                            refine R_iload_n dX5_measure_239 rfl rfl ?_
                                            refine R_iaload (k := i) dX5_measure_240 rfl (Nat.lt_of_lt_of_le (Nat.le_of_ble_eq_true rfl) hnx) (by omega) (by omega) (by decide) ?_
                                            refine R_imul dX5_measure_241 ?_
                                            refine R_goto (tgt := 251) dX5_measure_242 (by decide) ?_
                                            refine R_iastore (k := i + 1) dX5_measure_251 rfl (Nat.lt_of_lt_of_le (Nat.le_of_ble_eq_true rfl) hnx) (by omega) (by omega) (by decide) ?_
                                            refine R_iinc dX5_measure_252 rfl (Nat.le_of_ble_eq_true rfl) ?_
                                            refine R_goto (tgt := 43) dX5_measure_255 (by decide) ?_
                                            refine step hi2 _ (fun p hp => ?_) (fun p h1 h2 k hk => ?_) ?_ ?_ ?_ ?_ ?_ _ _
                                            · rw [up2_ne _ _ _ (by omega), up2_ne _ _ _ (by omega), up2_ne _ _ _ (by omega), up2_ne _ _ _ (by omega), up2_ne _ _ _ (by omega)]
                                            · simp only [up2_at]
                                              rw [if_neg (by omega), if_neg (by omega), if_neg (by omega), if_neg (by omega), if_neg (by omega)]
                                            · simp [up2_at, fW]
                                              first | (rw [if_pos (by omega)]; rw [q1, show (2 : Int) = ((2 : Nat) : Int) from rfl, bDivN (by omega) (by omega) (by omega)]; done) | (rw [if_neg (by omega)]; exact q1)
                                            · simp [up2_at, fH]
                                              first | (rw [if_pos (by omega)]; rw [q2, show (2 : Int) = ((2 : Nat) : Int) from rfl, bDivN (by omega) (by omega) (by omega)]; done) | (rw [if_neg (by omega)]; exact q2)
                                            · simp [up2_at, fP]
                                              first | (rw [if_pos (by omega)]; (try rfl); done) | (rw [if_neg (by omega)]; exact q3)
                                            · simp [up2_at, fL]
                                              rw [q4]
                                              first | (rw [if_pos (by omega)]; rfl) | (rw [if_neg (by omega), if_pos (by omega)]; rfl) | (rw [if_neg (by omega), if_neg (by omega), if_pos (by omega), q5]) | (rw [if_neg (by omega), if_neg (by omega), if_neg (by omega)]; rfl)
                                            · simp [up2_at, fS]
                                              first | (rw [if_pos (by omega), q5]; rfl) | (rw [if_neg (by omega)]; exact q5)))))))))
theorem m_measure (I : Nat → Nat → Int) (sw : Bool) (nx : Nat) (tl : Nat → Nat) (hnx : 63 ≤ nx) {S : Sp} (hR : RelM I S) (hO : OkS S) : Mt l G miX5_measure 0 0 [ar 48] (I, Rs sw, nx, tl) (QI sw nx tl (fun r I' => r = none ∧ Ms I' S (sN S) ∧ ∀ p, (p < 55 ∨ 59 < p) → I' p = I p)) := by
  have hR2 := hR
  obtain ⟨g1, g2, -⟩ := hR2
  refine Mt.ofL (ls := [ar 48, none, none, none]) (by decide) (Nat.le_of_ble_eq_true rfl) rfl ?_
  dsimp only [Km, miX5_measure]
  refine R_aload_n dX5_measure_0 rfl rfl ?_
  refine R_getA fRX5_36 dX5_measure_1 rfl (Nat.lt_of_lt_of_le (Nat.le_of_ble_eq_true rfl) hnx) rfl ?_
  refine R_iconst dX5_measure_4 ?_
  refine R_aload_n dX5_measure_5 rfl rfl ?_
  refine R_getI fRX5_7 dX5_measure_6 rfl (Nat.lt_of_lt_of_le (Nat.le_of_ble_eq_true rfl) hnx) ?_
  refine R_iastore (k := 0) dX5_measure_9 rfl (Nat.lt_of_lt_of_le (Nat.le_of_ble_eq_true rfl) hnx) rfl (by omega) (by decide) ?_
  refine R_aload_n dX5_measure_10 rfl rfl ?_
  refine R_getA fRX5_39 dX5_measure_11 rfl (Nat.lt_of_lt_of_le (Nat.le_of_ble_eq_true rfl) hnx) rfl ?_
  refine R_iconst dX5_measure_14 ?_
  refine R_aload_n dX5_measure_15 rfl rfl ?_
  refine R_getI fRX5_13 dX5_measure_16 rfl (Nat.lt_of_lt_of_le (Nat.le_of_ble_eq_true rfl) hnx) ?_
  refine R_iastore (k := 0) dX5_measure_19 rfl (Nat.lt_of_lt_of_le (Nat.le_of_ble_eq_true rfl) hnx) rfl (by omega) (by decide) ?_
  refine R_aload_n dX5_measure_20 rfl rfl ?_
  refine R_getA fRX5_42 dX5_measure_21 rfl (Nat.lt_of_lt_of_le (Nat.le_of_ble_eq_true rfl) hnx) rfl ?_
  refine R_iconst dX5_measure_24 ?_
  refine R_iconst dX5_measure_25 ?_
  refine R_iastore (k := 0) dX5_measure_26 rfl (Nat.lt_of_lt_of_le (Nat.le_of_ble_eq_true rfl) hnx) rfl (by omega) (by decide) ?_
  refine R_aload_n dX5_measure_27 rfl rfl ?_
  refine R_getA fRX5_45 dX5_measure_28 rfl (Nat.lt_of_lt_of_le (Nat.le_of_ble_eq_true rfl) hnx) rfl ?_
  refine R_iconst dX5_measure_31 ?_
  refine R_iconst dX5_measure_32 ?_
  refine R_iastore (k := 0) dX5_measure_33 rfl (Nat.lt_of_lt_of_le (Nat.le_of_ble_eq_true rfl) hnx) rfl (by omega) (by decide) ?_
  refine R_aload_n dX5_measure_34 rfl rfl ?_
  refine R_getA fRX5_48 dX5_measure_35 rfl (Nat.lt_of_lt_of_le (Nat.le_of_ble_eq_true rfl) hnx) rfl ?_
  refine R_iconst dX5_measure_38 ?_
  refine R_iconst dX5_measure_39 ?_
  refine R_iastore (k := 0) dX5_measure_40 rfl (Nat.lt_of_lt_of_le (Nat.le_of_ble_eq_true rfl) hnx) rfl (by omega) (by decide) ?_
  refine R_iconst dX5_measure_41 ?_
  refine R_istore_n dX5_measure_42 rfl (Nat.le_of_ble_eq_true rfl) ?_
  refine lp_measure l G I sw nx tl hnx _ hR hO (fun I' h1 h2 => ⟨I', rfl, rfl, h1, h2⟩) (sN S + 1) 0 _ none none (by omega) (by omega) (fun k hk => ?_) (fun p hp => ?_)
  · have e : k = 0 := by omega
    subst e
    simp [up2_at, fW, fH, fP, fL, fS, g1, g2]
  · rw [up2_ne _ _ _ (by omega), up2_ne _ _ _ (by omega), up2_ne _ _ _ (by omega), up2_ne _ _ _ (by omega), up2_ne _ _ _ (by omega)]
theorem m_barred (I : Nat → Nat → Int) (sw : Bool) (nx : Nat) (tl : Nat → Nat) (hnx : 63 ≤ nx) (k : Nat) (hk : k ≤ 7) {S : Sp} (hR : RelM I S) (hO : OkS S) : Mt l G miX5_barred 0 0 [ar 48, ai k] (I, Rs sw, nx, tl) (QI sw nx tl (fun r I' => r = some (ai (bar S k)) ∧ RelM I' S ∧ ∀ p, (p < 55 ∨ 59 < p) → I' p = I p)) := by
  have o5 := hO.2.2.2.2.1
  refine Mt.ofL (ls := [ar 48, ai k, none]) (by decide) (Nat.le_of_ble_eq_true rfl) rfl ?_
  dsimp only [Km, miX5_barred]
  refine R_aload_n dX5_barred_0 rfl rfl ?_
  refine R_cV dX5_barred_1 kRX5_71 vX5_measure ⟨(Nat.le_of_ble_eq_true rfl), (Nat.le_of_ble_eq_true rfl)⟩ (m_measure l G I sw nx tl hnx hR hO) rfl ⟨(Nat.le_of_ble_eq_true rfl), (Nat.le_of_ble_eq_true rfl)⟩ rfl (Nat.lt_of_lt_of_le (Nat.le_of_ble_eq_true rfl) hnx) rfl rfl (Nat.le_of_ble_eq_true rfl) (fun r σ' hq hn' => ?_)
  obtain ⟨J, rfl, rfl, hM, hF⟩ := hq
  have hRJ := fr_M hF hR
  obtain ⟨g1, g2, g3, g4, g5, g6, g7, g8, g9⟩ := id hRJ
  obtain ⟨q1, q2, q3, -⟩ := hM (sN S) (Nat.le_refl _)
  have r1 := (f_rng hO (sN S) (Nat.le_refl _)).1
  have r2 := (f_rng hO (sN S) (Nat.le_refl _)).2.1
  have hfin : ∀ z : Int, z = bar S k → QI sw nx tl (fun r I' => r = some (ai (bar S k)) ∧ RelM I' S ∧ ∀ p, (p < 55 ∨ 59 < p) → I' p = I p) (some (ai z)) (J, Rs sw, nx, tl) := fun z hz => ⟨J, rfl, by rw [hz], hRJ, hF⟩
  refine R_iload_n dX5_barred_4 rfl rfl ?_
  refine R_iconst dX5_barred_5 ?_
  refine R_icmp_gt (tgt := 24) dX5_barred_6 (by decide) (fun c_6 => ?_) (fun c_6 => ?_)
  · first
    | (simp (discharger := omega) only [wr_id] at c_6; done)
    | (try simp (discharger := omega) only [wr_id] at c_6
       exfalso
       first | omega | exact c_6 trivial)
    | (try simp (discharger := omega) only [wr_id] at c_6
       refine R_aload_n dX5_barred_24 rfl rfl ?_
       refine R_cV dX5_barred_25 kRX5_74 vX5_hasColours ⟨(Nat.le_of_ble_eq_true rfl), (Nat.le_of_ble_eq_true rfl)⟩ (m_hasColours l G J sw nx tl hnx hRJ hO) rfl ⟨(Nat.le_of_ble_eq_true rfl), (Nat.le_of_ble_eq_true rfl)⟩ rfl (Nat.lt_of_lt_of_le (Nat.le_of_ble_eq_true rfl) hnx) rfl rfl (Nat.le_of_ble_eq_true rfl) (fun r σ' hq hn' => ?_)
       obtain ⟨⟨b10, rfl, hb10⟩, rfl⟩ := hq
       refine R_istore_n dX5_barred_28 rfl (Nat.le_of_ble_eq_true rfl) ?_
       refine R_iload_n dX5_barred_29 rfl rfl ?_
       refine R_if_eq (tgt := 65) dX5_barred_30 (by decide) (fun c_30 => ?_) (fun c_30 => ?_)
       · first
         | (simp (discharger := omega) only [wr_id] at c_30; done)
         | (try simp (discharger := omega) only [wr_id] at c_30
            exfalso
            first | omega | exact c_30 trivial)
         | (try simp (discharger := omega) only [wr_id] at c_30
            refine R_bipush (z := (-103)) dX5_barred_65 rfl ?_
            refine R_iret dX5_barred_67 rfl rfl rfl (Nat.le_refl _) ?_
            refine hfin _ ?_
            rw [bar]
            by_cases h4 : k ≤ 4
            · simp only [h4, if_true]
              first | (exfalso; omega) | (rw [if_neg (by omega)]; done) | (rw [if_pos (by omega), if_pos (by omega)]; done) | (rw [if_pos (by omega), if_neg (by omega)]; done)
            · simp only [h4, if_false]
              first | (exfalso; omega) | (rw [if_neg (by omega)]; done) | (rw [if_pos (by omega), if_pos (by omega)]; done) | (rw [if_pos (by omega), if_neg (by omega)]; done))
       · first
         | (simp (discharger := omega) only [wr_id] at c_30; done)
         | (try simp (discharger := omega) only [wr_id] at c_30
            exfalso
            first | omega | exact c_30 trivial)
         | (try simp (discharger := omega) only [wr_id] at c_30
            refine R_iload_n dX5_barred_33 rfl rfl ?_
            refine R_bipush (z := 7) dX5_barred_34 rfl ?_
            refine R_icmp_ne (tgt := 68) dX5_barred_36 (by decide) (fun c_36 => ?_) (fun c_36 => ?_)
            · first
              | (simp (discharger := omega) only [wr_id] at c_36; done)
              | (try simp (discharger := omega) only [wr_id] at c_36
                 exfalso
                 first | omega | exact c_36 trivial)
              | (try simp (discharger := omega) only [wr_id] at c_36
                 refine R_aload_n dX5_barred_68 rfl rfl ?_
                 refine R_getI fRX5_64 dX5_barred_69 rfl (Nat.lt_of_lt_of_le (Nat.le_of_ble_eq_true rfl) hnx) ?_
                 refine R_bipush (z := 10) dX5_barred_72 rfl ?_
                 rw [show (J, Rs sw, nx, tl).1 48 4 = (sN S : Int) from g5]
                 refine R_icmp_ne (tgt := 82) dX5_barred_74 (by decide) (fun c_74 => ?_) (fun c_74 => ?_)
                 · first
                   | (simp (discharger := omega) only [wr_id] at c_74; done)
                   | (try simp (discharger := omega) only [wr_id] at c_74
                      exfalso
                      first | omega | exact c_74 trivial)
                   | (try simp (discharger := omega) only [wr_id] at c_74
                      refine R_iconst dX5_barred_82 ?_
                      refine R_iret dX5_barred_83 rfl rfl rfl (Nat.le_refl _) ?_
                      refine hfin _ ?_
                      rw [bar]
                      by_cases h4 : k ≤ 4
                      · simp only [h4, if_true]
                        first | (exfalso; omega) | (rw [if_neg (by omega)]; done) | (rw [if_pos (by omega), if_pos (by omega)]; done) | (rw [if_pos (by omega), if_neg (by omega)]; done)
                      · simp only [h4, if_false]
                        first | (exfalso; omega) | (rw [if_neg (by omega)]; done) | (rw [if_pos (by omega), if_pos (by omega)]; done) | (rw [if_pos (by omega), if_neg (by omega)]; done))
                 · first
                   | (simp (discharger := omega) only [wr_id] at c_74; done)
                   | (try simp (discharger := omega) only [wr_id] at c_74
                      exfalso
                      first | omega | exact c_74 trivial)
                   | (try simp (discharger := omega) only [wr_id] at c_74
                      refine R_bipush (z := (-104)) dX5_barred_77 rfl ?_
                      refine R_goto (tgt := 83) dX5_barred_79 (by decide) ?_
                      refine R_iret dX5_barred_83 rfl rfl rfl (Nat.le_refl _) ?_
                      refine hfin _ ?_
                      rw [bar]
                      by_cases h4 : k ≤ 4
                      · simp only [h4, if_true]
                        first | (exfalso; omega) | (rw [if_neg (by omega)]; done) | (rw [if_pos (by omega), if_pos (by omega)]; done) | (rw [if_pos (by omega), if_neg (by omega)]; done)
                      · simp only [h4, if_false]
                        first | (exfalso; omega) | (rw [if_neg (by omega)]; done) | (rw [if_pos (by omega), if_pos (by omega)]; done) | (rw [if_pos (by omega), if_neg (by omega)]; done)))
            · first
              | (simp (discharger := omega) only [wr_id] at c_36; done)
              | (try simp (discharger := omega) only [wr_id] at c_36
                 exfalso
                 first | omega | exact c_36 trivial)
              | (try simp (discharger := omega) only [wr_id] at c_36
                 refine R_aload_n dX5_barred_39 rfl rfl ?_
                 refine R_getA fRX5_36 dX5_barred_40 rfl (Nat.lt_of_lt_of_le (Nat.le_of_ble_eq_true rfl) hnx) rfl ?_
                 refine R_aload_n dX5_barred_43 rfl rfl ?_
                 refine R_getI fRX5_64 dX5_barred_44 rfl (Nat.lt_of_lt_of_le (Nat.le_of_ble_eq_true rfl) hnx) ?_
                 rw [show (J, Rs sw, nx, tl).1 48 4 = (sN S : Int) from g5]
                 refine R_iaload (k := sN S) dX5_barred_47 rfl (Nat.lt_of_lt_of_le (Nat.le_of_ble_eq_true rfl) hnx) (by omega) (by omega) (by decide) ?_
                 refine R_iconst dX5_barred_48 ?_
                 rw [show (J, Rs sw, nx, tl).1 55 (sN S) = (fW S (sN S) : Int) from q1]
                 refine R_icmp_lt (tgt := 65) dX5_barred_49 (by decide) (fun c_49 => ?_) (fun c_49 => ?_)
                 · first
                   | (simp (discharger := omega) only [wr_id] at c_49; done)
                   | (try simp (discharger := omega) only [wr_id] at c_49
                      exfalso
                      first | omega | exact c_49 trivial)
                   | (try simp (discharger := omega) only [wr_id] at c_49
                      refine R_bipush (z := (-103)) dX5_barred_65 rfl ?_
                      refine R_iret dX5_barred_67 rfl rfl rfl (Nat.le_refl _) ?_
                      refine hfin _ ?_
                      rw [bar]
                      by_cases h4 : k ≤ 4
                      · simp only [h4, if_true]
                        first | (exfalso; omega) | (rw [if_neg (by omega)]; done) | (rw [if_pos (by omega), if_pos (by omega)]; done) | (rw [if_pos (by omega), if_neg (by omega)]; done)
                      · simp only [h4, if_false]
                        first | (exfalso; omega) | (rw [if_neg (by omega)]; done) | (rw [if_pos (by omega), if_pos (by omega)]; done) | (rw [if_pos (by omega), if_neg (by omega)]; done))
                 · first
                   | (simp (discharger := omega) only [wr_id] at c_49; done)
                   | (try simp (discharger := omega) only [wr_id] at c_49
                      exfalso
                      first | omega | exact c_49 trivial)
                   | (try simp (discharger := omega) only [wr_id] at c_49
                      refine R_aload_n dX5_barred_52 rfl rfl ?_
                      refine R_getA fRX5_39 dX5_barred_53 rfl (Nat.lt_of_lt_of_le (Nat.le_of_ble_eq_true rfl) hnx) rfl ?_
                      refine R_aload_n dX5_barred_56 rfl rfl ?_
                      refine R_getI fRX5_64 dX5_barred_57 rfl (Nat.lt_of_lt_of_le (Nat.le_of_ble_eq_true rfl) hnx) ?_
                      rw [show (J, Rs sw, nx, tl).1 48 4 = (sN S : Int) from g5]
                      refine R_iaload (k := sN S) dX5_barred_60 rfl (Nat.lt_of_lt_of_le (Nat.le_of_ble_eq_true rfl) hnx) (by omega) (by omega) (by decide) ?_
                      refine R_iconst dX5_barred_61 ?_
                      rw [show (J, Rs sw, nx, tl).1 56 (sN S) = (fH S (sN S) : Int) from q2]
                      refine R_icmp_ge (tgt := 68) dX5_barred_62 (by decide) (fun c_62 => ?_) (fun c_62 => ?_)
                      · first
                        | (simp (discharger := omega) only [wr_id] at c_62; done)
                        | (try simp (discharger := omega) only [wr_id] at c_62
                           exfalso
                           first | omega | exact c_62 trivial)
                        | (try simp (discharger := omega) only [wr_id] at c_62
                           refine R_aload_n dX5_barred_68 rfl rfl ?_
                           refine R_getI fRX5_64 dX5_barred_69 rfl (Nat.lt_of_lt_of_le (Nat.le_of_ble_eq_true rfl) hnx) ?_
                           refine R_bipush (z := 10) dX5_barred_72 rfl ?_
                           rw [show (J, Rs sw, nx, tl).1 48 4 = (sN S : Int) from g5]
                           refine R_icmp_ne (tgt := 82) dX5_barred_74 (by decide) (fun c_74 => ?_) (fun c_74 => ?_)
                           · first
                             | (simp (discharger := omega) only [wr_id] at c_74; done)
                             | (try simp (discharger := omega) only [wr_id] at c_74
                                exfalso
                                first | omega | exact c_74 trivial)
                             | (try simp (discharger := omega) only [wr_id] at c_74
                                refine R_iconst dX5_barred_82 ?_
                                refine R_iret dX5_barred_83 rfl rfl rfl (Nat.le_refl _) ?_
                                refine hfin _ ?_
                                rw [bar]
                                by_cases h4 : k ≤ 4
                                · simp only [h4, if_true]
                                  first | (exfalso; omega) | (rw [if_neg (by omega)]; done) | (rw [if_pos (by omega), if_pos (by omega)]; done) | (rw [if_pos (by omega), if_neg (by omega)]; done)
                                · simp only [h4, if_false]
                                  first | (exfalso; omega) | (rw [if_neg (by omega)]; done) | (rw [if_pos (by omega), if_pos (by omega)]; done) | (rw [if_pos (by omega), if_neg (by omega)]; done))
                           · first
                             | (simp (discharger := omega) only [wr_id] at c_74; done)
                             | (try simp (discharger := omega) only [wr_id] at c_74
                                exfalso
                                first | omega | exact c_74 trivial)
                             | (try simp (discharger := omega) only [wr_id] at c_74
                                refine R_bipush (z := (-104)) dX5_barred_77 rfl ?_
                                refine R_goto (tgt := 83) dX5_barred_79 (by decide) ?_
                                refine R_iret dX5_barred_83 rfl rfl rfl (Nat.le_refl _) ?_
                                refine hfin _ ?_
                                rw [bar]
                                by_cases h4 : k ≤ 4
                                · simp only [h4, if_true]
                                  first | (exfalso; omega) | (rw [if_neg (by omega)]; done) | (rw [if_pos (by omega), if_pos (by omega)]; done) | (rw [if_pos (by omega), if_neg (by omega)]; done)
                                · simp only [h4, if_false]
                                  first | (exfalso; omega) | (rw [if_neg (by omega)]; done) | (rw [if_pos (by omega), if_pos (by omega)]; done) | (rw [if_pos (by omega), if_neg (by omega)]; done)))
                      · first
                        | (simp (discharger := omega) only [wr_id] at c_62; done)
                        | (try simp (discharger := omega) only [wr_id] at c_62
                           exfalso
                           first | omega | exact c_62 trivial)
                        | (try simp (discharger := omega) only [wr_id] at c_62
                           refine R_bipush (z := (-103)) dX5_barred_65 rfl ?_
                           refine R_iret dX5_barred_67 rfl rfl rfl (Nat.le_refl _) ?_
                           refine hfin _ ?_
                           rw [bar]
                           by_cases h4 : k ≤ 4
                           · simp only [h4, if_true]
                             first | (exfalso; omega) | (rw [if_neg (by omega)]; done) | (rw [if_pos (by omega), if_pos (by omega)]; done) | (rw [if_pos (by omega), if_neg (by omega)]; done)
                           · simp only [h4, if_false]
                             first | (exfalso; omega) | (rw [if_neg (by omega)]; done) | (rw [if_pos (by omega), if_pos (by omega)]; done) | (rw [if_pos (by omega), if_neg (by omega)]; done))))))
  · first
    | (simp (discharger := omega) only [wr_id] at c_6; done)
    | (try simp (discharger := omega) only [wr_id] at c_6
       exfalso
       first | omega | exact c_6 trivial)
    | (try simp (discharger := omega) only [wr_id] at c_6
       refine R_aload_n dX5_barred_9 rfl rfl ?_
       refine R_cV dX5_barred_10 kRX5_74 vX5_hasColours ⟨(Nat.le_of_ble_eq_true rfl), (Nat.le_of_ble_eq_true rfl)⟩ (m_hasColours l G J sw nx tl hnx hRJ hO) rfl ⟨(Nat.le_of_ble_eq_true rfl), (Nat.le_of_ble_eq_true rfl)⟩ rfl (Nat.lt_of_lt_of_le (Nat.le_of_ble_eq_true rfl) hnx) rfl rfl (Nat.le_of_ble_eq_true rfl) (fun r σ' hq hn' => ?_)
       obtain ⟨⟨b10, rfl, hb10⟩, rfl⟩ := hq
       refine R_if_ne (tgt := 20) dX5_barred_13 (by decide) (fun c_13 => ?_) (fun c_13 => ?_)
       · first
         | (simp (discharger := omega) only [wr_id] at c_13; done)
         | (try simp (discharger := omega) only [wr_id] at c_13
            exfalso
            first | omega | exact c_13 trivial)
         | (try simp (discharger := omega) only [wr_id] at c_13
            refine R_iconst dX5_barred_20 ?_
            refine R_goto (tgt := 28) dX5_barred_21 (by decide) ?_
            refine R_istore_n dX5_barred_28 rfl (Nat.le_of_ble_eq_true rfl) ?_
            refine R_iload_n dX5_barred_29 rfl rfl ?_
            refine R_if_eq (tgt := 65) dX5_barred_30 (by decide) (fun c_30 => ?_) (fun c_30 => ?_)
            · first
              | (simp (discharger := omega) only [wr_id] at c_30; done)
              | (try simp (discharger := omega) only [wr_id] at c_30
                 exfalso
                 first | omega | exact c_30 trivial)
              | (try simp (discharger := omega) only [wr_id] at c_30
                 refine R_bipush (z := (-103)) dX5_barred_65 rfl ?_
                 refine R_iret dX5_barred_67 rfl rfl rfl (Nat.le_refl _) ?_
                 refine hfin _ ?_
                 rw [bar]
                 by_cases h4 : k ≤ 4
                 · simp only [h4, if_true]
                   first | (exfalso; omega) | (rw [if_neg (by omega)]; done) | (rw [if_pos (by omega), if_pos (by omega)]; done) | (rw [if_pos (by omega), if_neg (by omega)]; done)
                 · simp only [h4, if_false]
                   first | (exfalso; omega) | (rw [if_neg (by omega)]; done) | (rw [if_pos (by omega), if_pos (by omega)]; done) | (rw [if_pos (by omega), if_neg (by omega)]; done))
            · first
              | (simp (discharger := omega) only [wr_id] at c_30; done)
              | (try simp (discharger := omega) only [wr_id] at c_30
                 exfalso
                 first | omega | exact c_30 trivial)
              | (try simp (discharger := omega) only [wr_id] at c_30
                 refine R_iload_n dX5_barred_33 rfl rfl ?_
                 refine R_bipush (z := 7) dX5_barred_34 rfl ?_
                 refine R_icmp_ne (tgt := 68) dX5_barred_36 (by decide) (fun c_36 => ?_) (fun c_36 => ?_)
                 · first
                   | (simp (discharger := omega) only [wr_id] at c_36; done)
                   | (try simp (discharger := omega) only [wr_id] at c_36
                      exfalso
                      first | omega | exact c_36 trivial)
                   | (try simp (discharger := omega) only [wr_id] at c_36
                      refine R_aload_n dX5_barred_68 rfl rfl ?_
                      refine R_getI fRX5_64 dX5_barred_69 rfl (Nat.lt_of_lt_of_le (Nat.le_of_ble_eq_true rfl) hnx) ?_
                      refine R_bipush (z := 10) dX5_barred_72 rfl ?_
                      rw [show (J, Rs sw, nx, tl).1 48 4 = (sN S : Int) from g5]
                      refine R_icmp_ne (tgt := 82) dX5_barred_74 (by decide) (fun c_74 => ?_) (fun c_74 => ?_)
                      · first
                        | (simp (discharger := omega) only [wr_id] at c_74; done)
                        | (try simp (discharger := omega) only [wr_id] at c_74
                           exfalso
                           first | omega | exact c_74 trivial)
                        | (try simp (discharger := omega) only [wr_id] at c_74
                           refine R_iconst dX5_barred_82 ?_
                           refine R_iret dX5_barred_83 rfl rfl rfl (Nat.le_refl _) ?_
                           refine hfin _ ?_
                           rw [bar]
                           by_cases h4 : k ≤ 4
                           · simp only [h4, if_true]
                             first | (exfalso; omega) | (rw [if_neg (by omega)]; done) | (rw [if_pos (by omega), if_pos (by omega)]; done) | (rw [if_pos (by omega), if_neg (by omega)]; done)
                           · simp only [h4, if_false]
                             first | (exfalso; omega) | (rw [if_neg (by omega)]; done) | (rw [if_pos (by omega), if_pos (by omega)]; done) | (rw [if_pos (by omega), if_neg (by omega)]; done))
                      · first
                        | (simp (discharger := omega) only [wr_id] at c_74; done)
                        | (try simp (discharger := omega) only [wr_id] at c_74
                           exfalso
                           first | omega | exact c_74 trivial)
                        | (try simp (discharger := omega) only [wr_id] at c_74
                           refine R_bipush (z := (-104)) dX5_barred_77 rfl ?_
                           refine R_goto (tgt := 83) dX5_barred_79 (by decide) ?_
                           refine R_iret dX5_barred_83 rfl rfl rfl (Nat.le_refl _) ?_
                           refine hfin _ ?_
                           rw [bar]
                           by_cases h4 : k ≤ 4
                           · simp only [h4, if_true]
                             first | (exfalso; omega) | (rw [if_neg (by omega)]; done) | (rw [if_pos (by omega), if_pos (by omega)]; done) | (rw [if_pos (by omega), if_neg (by omega)]; done)
                           · simp only [h4, if_false]
                             first | (exfalso; omega) | (rw [if_neg (by omega)]; done) | (rw [if_pos (by omega), if_pos (by omega)]; done) | (rw [if_pos (by omega), if_neg (by omega)]; done)))
                 · first
                   | (simp (discharger := omega) only [wr_id] at c_36; done)
                   | (try simp (discharger := omega) only [wr_id] at c_36
                      exfalso
                      first | omega | exact c_36 trivial)
                   | (try simp (discharger := omega) only [wr_id] at c_36
                      refine R_aload_n dX5_barred_39 rfl rfl ?_
                      refine R_getA fRX5_36 dX5_barred_40 rfl (Nat.lt_of_lt_of_le (Nat.le_of_ble_eq_true rfl) hnx) rfl ?_
                      refine R_aload_n dX5_barred_43 rfl rfl ?_
                      refine R_getI fRX5_64 dX5_barred_44 rfl (Nat.lt_of_lt_of_le (Nat.le_of_ble_eq_true rfl) hnx) ?_
                      rw [show (J, Rs sw, nx, tl).1 48 4 = (sN S : Int) from g5]
                      refine R_iaload (k := sN S) dX5_barred_47 rfl (Nat.lt_of_lt_of_le (Nat.le_of_ble_eq_true rfl) hnx) (by omega) (by omega) (by decide) ?_
                      refine R_iconst dX5_barred_48 ?_
                      rw [show (J, Rs sw, nx, tl).1 55 (sN S) = (fW S (sN S) : Int) from q1]
                      refine R_icmp_lt (tgt := 65) dX5_barred_49 (by decide) (fun c_49 => ?_) (fun c_49 => ?_)
                      · first
                        | (simp (discharger := omega) only [wr_id] at c_49; done)
                        | (try simp (discharger := omega) only [wr_id] at c_49
                           exfalso
                           first | omega | exact c_49 trivial)
                        | (try simp (discharger := omega) only [wr_id] at c_49
                           refine R_bipush (z := (-103)) dX5_barred_65 rfl ?_
                           refine R_iret dX5_barred_67 rfl rfl rfl (Nat.le_refl _) ?_
                           refine hfin _ ?_
                           rw [bar]
                           by_cases h4 : k ≤ 4
                           · simp only [h4, if_true]
                             first | (exfalso; omega) | (rw [if_neg (by omega)]; done) | (rw [if_pos (by omega), if_pos (by omega)]; done) | (rw [if_pos (by omega), if_neg (by omega)]; done)
                           · simp only [h4, if_false]
                             first | (exfalso; omega) | (rw [if_neg (by omega)]; done) | (rw [if_pos (by omega), if_pos (by omega)]; done) | (rw [if_pos (by omega), if_neg (by omega)]; done))
                      · first
                        | (simp (discharger := omega) only [wr_id] at c_49; done)
                        | (try simp (discharger := omega) only [wr_id] at c_49
                           exfalso
                           first | omega | exact c_49 trivial)
                        | (try simp (discharger := omega) only [wr_id] at c_49
                           refine R_aload_n dX5_barred_52 rfl rfl ?_
                           refine R_getA fRX5_39 dX5_barred_53 rfl (Nat.lt_of_lt_of_le (Nat.le_of_ble_eq_true rfl) hnx) rfl ?_
                           refine R_aload_n dX5_barred_56 rfl rfl ?_
                           refine R_getI fRX5_64 dX5_barred_57 rfl (Nat.lt_of_lt_of_le (Nat.le_of_ble_eq_true rfl) hnx) ?_
                           rw [show (J, Rs sw, nx, tl).1 48 4 = (sN S : Int) from g5]
                           refine R_iaload (k := sN S) dX5_barred_60 rfl (Nat.lt_of_lt_of_le (Nat.le_of_ble_eq_true rfl) hnx) (by omega) (by omega) (by decide) ?_
                           refine R_iconst dX5_barred_61 ?_
                           rw [show (J, Rs sw, nx, tl).1 56 (sN S) = (fH S (sN S) : Int) from q2]
                           refine R_icmp_ge (tgt := 68) dX5_barred_62 (by decide) (fun c_62 => ?_) (fun c_62 => ?_)
                           · first
                             | (simp (discharger := omega) only [wr_id] at c_62; done)
                             | (try simp (discharger := omega) only [wr_id] at c_62
                                exfalso
                                first | omega | exact c_62 trivial)
                             | (try simp (discharger := omega) only [wr_id] at c_62
                                refine R_aload_n dX5_barred_68 rfl rfl ?_
                                refine R_getI fRX5_64 dX5_barred_69 rfl (Nat.lt_of_lt_of_le (Nat.le_of_ble_eq_true rfl) hnx) ?_
                                refine R_bipush (z := 10) dX5_barred_72 rfl ?_
                                rw [show (J, Rs sw, nx, tl).1 48 4 = (sN S : Int) from g5]
                                refine R_icmp_ne (tgt := 82) dX5_barred_74 (by decide) (fun c_74 => ?_) (fun c_74 => ?_)
                                · first
                                  | (simp (discharger := omega) only [wr_id] at c_74; done)
                                  | (try simp (discharger := omega) only [wr_id] at c_74
                                     exfalso
                                     first | omega | exact c_74 trivial)
                                  | (try simp (discharger := omega) only [wr_id] at c_74
                                     refine R_iconst dX5_barred_82 ?_
                                     refine R_iret dX5_barred_83 rfl rfl rfl (Nat.le_refl _) ?_
                                     refine hfin _ ?_
                                     rw [bar]
                                     by_cases h4 : k ≤ 4
                                     · simp only [h4, if_true]
                                       first | (exfalso; omega) | (rw [if_neg (by omega)]; done) | (rw [if_pos (by omega), if_pos (by omega)]; done) | (rw [if_pos (by omega), if_neg (by omega)]; done)
                                     · simp only [h4, if_false]
                                       first | (exfalso; omega) | (rw [if_neg (by omega)]; done) | (rw [if_pos (by omega), if_pos (by omega)]; done) | (rw [if_pos (by omega), if_neg (by omega)]; done))
                                · first
                                  | (simp (discharger := omega) only [wr_id] at c_74; done)
                                  | (try simp (discharger := omega) only [wr_id] at c_74
                                     exfalso
                                     first | omega | exact c_74 trivial)
                                  | (try simp (discharger := omega) only [wr_id] at c_74
                                     refine R_bipush (z := (-104)) dX5_barred_77 rfl ?_
                                     refine R_goto (tgt := 83) dX5_barred_79 (by decide) ?_
                                     refine R_iret dX5_barred_83 rfl rfl rfl (Nat.le_refl _) ?_
                                     refine hfin _ ?_
                                     rw [bar]
                                     by_cases h4 : k ≤ 4
                                     · simp only [h4, if_true]
                                       first | (exfalso; omega) | (rw [if_neg (by omega)]; done) | (rw [if_pos (by omega), if_pos (by omega)]; done) | (rw [if_pos (by omega), if_neg (by omega)]; done)
                                     · simp only [h4, if_false]
                                       first | (exfalso; omega) | (rw [if_neg (by omega)]; done) | (rw [if_pos (by omega), if_pos (by omega)]; done) | (rw [if_pos (by omega), if_neg (by omega)]; done)))
                           · first
                             | (simp (discharger := omega) only [wr_id] at c_62; done)
                             | (try simp (discharger := omega) only [wr_id] at c_62
                                exfalso
                                first | omega | exact c_62 trivial)
                             | (try simp (discharger := omega) only [wr_id] at c_62
                                refine R_bipush (z := (-103)) dX5_barred_65 rfl ?_
                                refine R_iret dX5_barred_67 rfl rfl rfl (Nat.le_refl _) ?_
                                refine hfin _ ?_
                                rw [bar]
                                by_cases h4 : k ≤ 4
                                · simp only [h4, if_true]
                                  first | (exfalso; omega) | (rw [if_neg (by omega)]; done) | (rw [if_pos (by omega), if_pos (by omega)]; done) | (rw [if_pos (by omega), if_neg (by omega)]; done)
                                · simp only [h4, if_false]
                                  first | (exfalso; omega) | (rw [if_neg (by omega)]; done) | (rw [if_pos (by omega), if_pos (by omega)]; done) | (rw [if_pos (by omega), if_neg (by omega)]; done))))))
       · first
         | (simp (discharger := omega) only [wr_id] at c_13; done)
         | (try simp (discharger := omega) only [wr_id] at c_13
            exfalso
            first | omega | exact c_13 trivial)
         | (try simp (discharger := omega) only [wr_id] at c_13
            refine R_iconst dX5_barred_16 ?_
            refine R_goto (tgt := 28) dX5_barred_17 (by decide) ?_
            refine R_istore_n dX5_barred_28 rfl (Nat.le_of_ble_eq_true rfl) ?_
            refine R_iload_n dX5_barred_29 rfl rfl ?_
            refine R_if_eq (tgt := 65) dX5_barred_30 (by decide) (fun c_30 => ?_) (fun c_30 => ?_)
            · first
              | (simp (discharger := omega) only [wr_id] at c_30; done)
              | (try simp (discharger := omega) only [wr_id] at c_30
                 exfalso
                 first | omega | exact c_30 trivial)
              | (try simp (discharger := omega) only [wr_id] at c_30
                 refine R_bipush (z := (-103)) dX5_barred_65 rfl ?_
                 refine R_iret dX5_barred_67 rfl rfl rfl (Nat.le_refl _) ?_
                 refine hfin _ ?_
                 rw [bar]
                 by_cases h4 : k ≤ 4
                 · simp only [h4, if_true]
                   first | (exfalso; omega) | (rw [if_neg (by omega)]; done) | (rw [if_pos (by omega), if_pos (by omega)]; done) | (rw [if_pos (by omega), if_neg (by omega)]; done)
                 · simp only [h4, if_false]
                   first | (exfalso; omega) | (rw [if_neg (by omega)]; done) | (rw [if_pos (by omega), if_pos (by omega)]; done) | (rw [if_pos (by omega), if_neg (by omega)]; done))
            · first
              | (simp (discharger := omega) only [wr_id] at c_30; done)
              | (try simp (discharger := omega) only [wr_id] at c_30
                 exfalso
                 first | omega | exact c_30 trivial)
              | (try simp (discharger := omega) only [wr_id] at c_30
                 refine R_iload_n dX5_barred_33 rfl rfl ?_
                 refine R_bipush (z := 7) dX5_barred_34 rfl ?_
                 refine R_icmp_ne (tgt := 68) dX5_barred_36 (by decide) (fun c_36 => ?_) (fun c_36 => ?_)
                 · first
                   | (simp (discharger := omega) only [wr_id] at c_36; done)
                   | (try simp (discharger := omega) only [wr_id] at c_36
                      exfalso
                      first | omega | exact c_36 trivial)
                   | (try simp (discharger := omega) only [wr_id] at c_36
                      refine R_aload_n dX5_barred_68 rfl rfl ?_
                      refine R_getI fRX5_64 dX5_barred_69 rfl (Nat.lt_of_lt_of_le (Nat.le_of_ble_eq_true rfl) hnx) ?_
                      refine R_bipush (z := 10) dX5_barred_72 rfl ?_
                      rw [show (J, Rs sw, nx, tl).1 48 4 = (sN S : Int) from g5]
                      refine R_icmp_ne (tgt := 82) dX5_barred_74 (by decide) (fun c_74 => ?_) (fun c_74 => ?_)
                      · first
                        | (simp (discharger := omega) only [wr_id] at c_74; done)
                        | (try simp (discharger := omega) only [wr_id] at c_74
                           exfalso
                           first | omega | exact c_74 trivial)
                        | (try simp (discharger := omega) only [wr_id] at c_74
                           refine R_iconst dX5_barred_82 ?_
                           refine R_iret dX5_barred_83 rfl rfl rfl (Nat.le_refl _) ?_
                           refine hfin _ ?_
                           rw [bar]
                           by_cases h4 : k ≤ 4
                           · simp only [h4, if_true]
                             first | (exfalso; omega) | (rw [if_neg (by omega)]; done) | (rw [if_pos (by omega), if_pos (by omega)]; done) | (rw [if_pos (by omega), if_neg (by omega)]; done)
                           · simp only [h4, if_false]
                             first | (exfalso; omega) | (rw [if_neg (by omega)]; done) | (rw [if_pos (by omega), if_pos (by omega)]; done) | (rw [if_pos (by omega), if_neg (by omega)]; done))
                      · first
                        | (simp (discharger := omega) only [wr_id] at c_74; done)
                        | (try simp (discharger := omega) only [wr_id] at c_74
                           exfalso
                           first | omega | exact c_74 trivial)
                        | (try simp (discharger := omega) only [wr_id] at c_74
                           refine R_bipush (z := (-104)) dX5_barred_77 rfl ?_
                           refine R_goto (tgt := 83) dX5_barred_79 (by decide) ?_
                           refine R_iret dX5_barred_83 rfl rfl rfl (Nat.le_refl _) ?_
                           refine hfin _ ?_
                           rw [bar]
                           by_cases h4 : k ≤ 4
                           · simp only [h4, if_true]
                             first | (exfalso; omega) | (rw [if_neg (by omega)]; done) | (rw [if_pos (by omega), if_pos (by omega)]; done) | (rw [if_pos (by omega), if_neg (by omega)]; done)
                           · simp only [h4, if_false]
                             first | (exfalso; omega) | (rw [if_neg (by omega)]; done) | (rw [if_pos (by omega), if_pos (by omega)]; done) | (rw [if_pos (by omega), if_neg (by omega)]; done)))
                 · first
                   | (simp (discharger := omega) only [wr_id] at c_36; done)
                   | (try simp (discharger := omega) only [wr_id] at c_36
                      exfalso
                      first | omega | exact c_36 trivial)
                   | (try simp (discharger := omega) only [wr_id] at c_36
                      refine R_aload_n dX5_barred_39 rfl rfl ?_
                      refine R_getA fRX5_36 dX5_barred_40 rfl (Nat.lt_of_lt_of_le (Nat.le_of_ble_eq_true rfl) hnx) rfl ?_
                      refine R_aload_n dX5_barred_43 rfl rfl ?_
                      refine R_getI fRX5_64 dX5_barred_44 rfl (Nat.lt_of_lt_of_le (Nat.le_of_ble_eq_true rfl) hnx) ?_
                      rw [show (J, Rs sw, nx, tl).1 48 4 = (sN S : Int) from g5]
                      refine R_iaload (k := sN S) dX5_barred_47 rfl (Nat.lt_of_lt_of_le (Nat.le_of_ble_eq_true rfl) hnx) (by omega) (by omega) (by decide) ?_
                      refine R_iconst dX5_barred_48 ?_
                      rw [show (J, Rs sw, nx, tl).1 55 (sN S) = (fW S (sN S) : Int) from q1]
                      refine R_icmp_lt (tgt := 65) dX5_barred_49 (by decide) (fun c_49 => ?_) (fun c_49 => ?_)
                      · first
                        | (simp (discharger := omega) only [wr_id] at c_49; done)
                        | (try simp (discharger := omega) only [wr_id] at c_49
                           exfalso
                           first | omega | exact c_49 trivial)
                        | (try simp (discharger := omega) only [wr_id] at c_49
                           refine R_bipush (z := (-103)) dX5_barred_65 rfl ?_
                           refine R_iret dX5_barred_67 rfl rfl rfl (Nat.le_refl _) ?_
                           refine hfin _ ?_
                           rw [bar]
                           by_cases h4 : k ≤ 4
                           · simp only [h4, if_true]
                             first | (exfalso; omega) | (rw [if_neg (by omega)]; done) | (rw [if_pos (by omega), if_pos (by omega)]; done) | (rw [if_pos (by omega), if_neg (by omega)]; done)
                           · simp only [h4, if_false]
                             first | (exfalso; omega) | (rw [if_neg (by omega)]; done) | (rw [if_pos (by omega), if_pos (by omega)]; done) | (rw [if_pos (by omega), if_neg (by omega)]; done))
                      · first
                        | (simp (discharger := omega) only [wr_id] at c_49; done)
                        | (try simp (discharger := omega) only [wr_id] at c_49
                           exfalso
                           first | omega | exact c_49 trivial)
                        | (try simp (discharger := omega) only [wr_id] at c_49
                           refine R_aload_n dX5_barred_52 rfl rfl ?_
                           refine R_getA fRX5_39 dX5_barred_53 rfl (Nat.lt_of_lt_of_le (Nat.le_of_ble_eq_true rfl) hnx) rfl ?_
                           refine R_aload_n dX5_barred_56 rfl rfl ?_
                           refine R_getI fRX5_64 dX5_barred_57 rfl (Nat.lt_of_lt_of_le (Nat.le_of_ble_eq_true rfl) hnx) ?_
                           rw [show (J, Rs sw, nx, tl).1 48 4 = (sN S : Int) from g5]
                           refine R_iaload (k := sN S) dX5_barred_60 rfl (Nat.lt_of_lt_of_le (Nat.le_of_ble_eq_true rfl) hnx) (by omega) (by omega) (by decide) ?_
                           refine R_iconst dX5_barred_61 ?_
                           rw [show (J, Rs sw, nx, tl).1 56 (sN S) = (fH S (sN S) : Int) from q2]
                           refine R_icmp_ge (tgt := 68) dX5_barred_62 (by decide) (fun c_62 => ?_) (fun c_62 => ?_)
                           · first
                             | (simp (discharger := omega) only [wr_id] at c_62; done)
                             | (try simp (discharger := omega) only [wr_id] at c_62
                                exfalso
                                first | omega | exact c_62 trivial)
                             | (try simp (discharger := omega) only [wr_id] at c_62
                                refine R_aload_n dX5_barred_68 rfl rfl ?_
                                refine R_getI fRX5_64 dX5_barred_69 rfl (Nat.lt_of_lt_of_le (Nat.le_of_ble_eq_true rfl) hnx) ?_
                                refine R_bipush (z := 10) dX5_barred_72 rfl ?_
                                rw [show (J, Rs sw, nx, tl).1 48 4 = (sN S : Int) from g5]
                                refine R_icmp_ne (tgt := 82) dX5_barred_74 (by decide) (fun c_74 => ?_) (fun c_74 => ?_)
                                · first
                                  | (simp (discharger := omega) only [wr_id] at c_74; done)
                                  | (try simp (discharger := omega) only [wr_id] at c_74
                                     exfalso
                                     first | omega | exact c_74 trivial)
                                  | (try simp (discharger := omega) only [wr_id] at c_74
                                     refine R_iconst dX5_barred_82 ?_
                                     refine R_iret dX5_barred_83 rfl rfl rfl (Nat.le_refl _) ?_
                                     refine hfin _ ?_
                                     rw [bar]
                                     by_cases h4 : k ≤ 4
                                     · simp only [h4, if_true]
                                       first | (exfalso; omega) | (rw [if_neg (by omega)]; done) | (rw [if_pos (by omega), if_pos (by omega)]; done) | (rw [if_pos (by omega), if_neg (by omega)]; done)
                                     · simp only [h4, if_false]
                                       first | (exfalso; omega) | (rw [if_neg (by omega)]; done) | (rw [if_pos (by omega), if_pos (by omega)]; done) | (rw [if_pos (by omega), if_neg (by omega)]; done))
                                · first
                                  | (simp (discharger := omega) only [wr_id] at c_74; done)
                                  | (try simp (discharger := omega) only [wr_id] at c_74
                                     exfalso
                                     first | omega | exact c_74 trivial)
                                  | (try simp (discharger := omega) only [wr_id] at c_74
                                     refine R_bipush (z := (-104)) dX5_barred_77 rfl ?_
                                     refine R_goto (tgt := 83) dX5_barred_79 (by decide) ?_
                                     refine R_iret dX5_barred_83 rfl rfl rfl (Nat.le_refl _) ?_
                                     refine hfin _ ?_
                                     rw [bar]
                                     by_cases h4 : k ≤ 4
                                     · simp only [h4, if_true]
                                       first | (exfalso; omega) | (rw [if_neg (by omega)]; done) | (rw [if_pos (by omega), if_pos (by omega)]; done) | (rw [if_pos (by omega), if_neg (by omega)]; done)
                                     · simp only [h4, if_false]
                                       first | (exfalso; omega) | (rw [if_neg (by omega)]; done) | (rw [if_pos (by omega), if_pos (by omega)]; done) | (rw [if_pos (by omega), if_neg (by omega)]; done)))
                           · first
                             | (simp (discharger := omega) only [wr_id] at c_62; done)
                             | (try simp (discharger := omega) only [wr_id] at c_62
                                exfalso
                                first | omega | exact c_62 trivial)
                             | (try simp (discharger := omega) only [wr_id] at c_62
                                refine R_bipush (z := (-103)) dX5_barred_65 rfl ?_
                                refine R_iret dX5_barred_67 rfl rfl rfl (Nat.le_refl _) ?_
                                refine hfin _ ?_
                                rw [bar]
                                by_cases h4 : k ≤ 4
                                · simp only [h4, if_true]
                                  first | (exfalso; omega) | (rw [if_neg (by omega)]; done) | (rw [if_pos (by omega), if_pos (by omega)]; done) | (rw [if_pos (by omega), if_neg (by omega)]; done)
                                · simp only [h4, if_false]
                                  first | (exfalso; omega) | (rw [if_neg (by omega)]; done) | (rw [if_pos (by omega), if_pos (by omega)]; done) | (rw [if_pos (by omega), if_neg (by omega)]; done)))))))
end MODEL2
