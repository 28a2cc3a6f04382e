/-! the reference: steps come -/
theorem sa {a b : Int} (h : a = b) : some (ai a) = some (ai b) := by rw [h]
section MODEL3
variable (l : Launch) (G : GE)
/-- a new STEP's row is told already -/
def Told (I : Nat → Nat → Int) (n k : Nat) (f : Nat → Int) : Prop := ∀ i, i < many k → I 52 (17 * n + i) = f i
theorem m_come (I : Nat → Nat → Int) (sw : Bool) (nx : Nat) (tl : Nat → Nat) (hnx : 63 ≤ nx) (k : Nat) (f : Nat → Int) {S : Sp} (hR : RelM I S) (hN : sN S < 10) (hT : Told I (sN S) k f) : Mt l G miX5_come 0 0 [ar 48, ai k] (I, Rs sw, nx, tl) (QI sw nx tl (fun r I' => (∀ p, p < 48 → I' p = I p) ∧ r = some (ai ((sN S + 1 : Nat) : Int)) ∧ RelM I' (S_add S k f))) := by
  obtain ⟨g1, g2, g3, g4, g5, g6, g7, g8, g9⟩ := hR
  refine Mt.ofL (ls := [ar 48, ai k]) (by decide) (Nat.le_of_ble_eq_true rfl) rfl ?_
  dsimp only [Km, miX5_come]
  refine R_aload_n dX5_come_0 rfl rfl ?_
  refine R_getA fRX5_24 dX5_come_1 rfl (Nat.lt_of_lt_of_le (Nat.le_of_ble_eq_true rfl) hnx) rfl ?_
  refine R_aload_n dX5_come_4 rfl rfl ?_
  refine R_getI fRX5_64 dX5_come_5 rfl (Nat.lt_of_lt_of_le (Nat.le_of_ble_eq_true rfl) hnx) ?_
  refine R_iload_n dX5_come_8 rfl rfl ?_
  rw [show (I, Rs sw, nx, tl).1 48 4 = (sN S : Int) from g5]
  refine R_iastore (k := sN S) dX5_come_9 rfl (Nat.lt_of_lt_of_le (Nat.le_of_ble_eq_true rfl) hnx) (by omega) (by omega) (by decide) ?_
  refine R_aload_n dX5_come_10 rfl rfl ?_
  first | refine R_dupA dX5_come_11 ?_ | refine R_dupI dX5_come_11 ?_
  refine R_getI fRX5_64 dX5_come_12 rfl (Nat.lt_of_lt_of_le (Nat.le_of_ble_eq_true rfl) hnx) ?_
  refine R_iconst dX5_come_15 ?_
  refine R_iadd dX5_come_16 ?_
  refine R_putI fRX5_64 dX5_come_17 fp_5_4 (fv_5_4 _ _) rfl (Nat.lt_of_lt_of_le (Nat.le_of_ble_eq_true rfl) hnx) ?_
  refine R_aload_n dX5_come_20 rfl rfl ?_
  refine R_getI fRX5_64 dX5_come_21 rfl (Nat.lt_of_lt_of_le (Nat.le_of_ble_eq_true rfl) hnx) ?_
  refine R_iret dX5_come_24 rfl rfl rfl (Nat.le_refl _) ?_
  refine ⟨_, rfl, fun p hp => by rw [up2_ne _ _ _ (by omega), up2_ne _ _ _ (by omega)], ?_, ?_⟩
  · congr 2
    dsimp only
    rw [up2_self, up2_ne _ _ _ (by decide), g5]
    rfl
  · refine ⟨by rw [up2_self, up2_ne _ _ _ (by decide)]; exact g1, by rw [up2_self, up2_ne _ _ _ (by decide)]; exact g2, fun k hk => by rw [up2_ne _ _ _ (by decide), up2_ne _ _ _ (by decide)]; exact g3 k hk, fun k hk => by rw [up2_ne _ _ _ (by decide), up2_ne _ _ _ (by decide)]; exact g4 k hk, ?_, fun j hj => ?_, fun j hj i hi => ?_, fun k hk => by rw [up2_ne _ _ _ (by decide), up2_ne _ _ _ (by decide)]; exact g8 k hk, fun k hk => by rw [up2_ne _ _ _ (by decide), up2_ne _ _ _ (by decide)]; exact g9 k hk⟩
    · rw [up2_self, up2_ne _ _ _ (by decide)]
      show I 48 4 + 1 = ((sN S + 1 : Nat) : Int)
      rw [g5]
      rfl
    · rw [up2_ne _ _ _ (by decide), up2_self]
      show (if j = sN S then (k : Int) else I 51 j) = ((if j = sN S then k else sK S j : Nat) : Int)
      have hj2 : j < sN S + 1 := hj
      split
      · rfl
      · exact g6 j (by omega)
    · rw [up2_ne _ _ _ (by decide), up2_ne _ _ _ (by decide)]
      have hj2 : j < sN S + 1 := hj
      have hi2 : i < many (if j = sN S then k else sK S j) := hi
      show I 52 (17 * j + i) = (if j = sN S then f else sT S j) i
      by_cases e : j = sN S
      · subst e
        rw [if_pos rfl] at hi2 ⊢
        exact hT i hi2
      · rw [if_neg e] at hi2 ⊢
        exact g7 j (by omega) i hi2
theorem bar_rng (S : Sp) (k : Nat) : bar S k = 0 ∨ bar S k = -103 ∨ bar S k = -104 := by
  by_cases hc : (if k ≤ 4 then fP S (sN S) = 1 else fP S (sN S) = 3) ∧ (k = 7 → 2 ≤ fW S (sN S) ∧ 2 ≤ fH S (sN S))
  · by_cases hn : sN S = 10
    · exact Or.inr (Or.inr (by rw [bar, if_pos hc, if_pos hn]))
    · exact Or.inl (by rw [bar, if_pos hc, if_neg hn])
  · exact Or.inr (Or.inl (by rw [bar, if_neg hc]))
theorem bar_N {S : Sp} {k : Nat} (hO : OkS S) (h : bar S k = 0) : sN S < 10 := by
  have o5 := hO.2.2.2.2.1
  by_cases hc : (if k ≤ 4 then fP S (sN S) = 1 else fP S (sN S) = 3) ∧ (k = 7 → 2 ≤ fW S (sN S) ∧ 2 ≤ fH S (sN S))
  · by_cases hn : sN S = 10
    · rw [bar, if_pos hc, if_pos hn] at h
      omega
    · omega
  · rw [bar, if_neg hc] at h
    omega
theorem many_le (k : Nat) : many k ≤ 17 := by
  unfold many
  repeat' split
  all_goals omega
/-- numbers written behind those of the PATH don't count yet -/
theorem RelM_num {I I' : Nat → Nat → Int} {S : Sp} (h : RelM I S) (hk : ∀ p, 48 ≤ p → p ≤ 54 → p ≠ 52 → I' p = I p) (hn : ∀ j, j < 17 * sN S → I' 52 j = I 52 j) : RelM I' S := by
  obtain ⟨h1, h2, h3, h4, h5, h6, h7, h8, h9⟩ := h
  refine ⟨by rw [hk _ (by decide) (by decide) (by decide)]; exact h1, by rw [hk _ (by decide) (by decide) (by decide)]; exact h2, fun k q => by rw [hk _ (by decide) (by decide) (by decide)]; exact h3 k q, fun k q => by rw [hk _ (by decide) (by decide) (by decide)]; exact h4 k q, by rw [hk _ (by decide) (by decide) (by decide)]; exact h5, fun k q => by rw [hk _ (by decide) (by decide) (by decide)]; exact h6 k q, fun k q i qi => ?_, fun k q => by rw [hk _ (by decide) (by decide) (by decide)]; exact h8 k q, fun k q => by rw [hk _ (by decide) (by decide) (by decide)]; exact h9 k q⟩
  rw [hn _ (by have := many_le (sK S k); omega)]
  exact h7 k q i qi
theorem m_black (I : Nat → Nat → Int) (sw : Bool) (nx : Nat) (tl : Nat → Nat) (hnx : 63 ≤ nx) (k : Int) (rk : inR k) {S : Sp} (hR : RelM I S) (hO : OkS S) : Mt l G miX5_black 0 0 [ar 48, ai k] (I, Rs sw, nx, tl) (QI sw nx tl (fun r I' => (∀ p, p < 48 → I' p = I p) ∧ r = some (ai (o_black S k).1) ∧ RelM I' (o_black S k).2)) := by
  unfold inR at *
  have hb := bar_rng S 0
  have o5 := hO.2.2.2.2.1
  refine Mt.ofL (ls := [ar 48, ai k, none]) (by decide) (Nat.le_of_ble_eq_true rfl) rfl ?_
  dsimp only [Km, miX5_black]
  refine R_iload_n dX5_black_0 rfl rfl ?_
  refine R_iconst dX5_black_1 ?_
  refine R_sipush (z := 1023) dX5_black_2 rfl ?_
  refine R_cS dX5_black_5 kRX5_60 vX5_in ⟨(Nat.le_of_ble_eq_true rfl), (Nat.le_of_ble_eq_true rfl)⟩ (b_in l G _ _ _ _) rfl ⟨(Nat.le_of_ble_eq_true rfl), (Nat.le_of_ble_eq_true rfl)⟩ rfl (Nat.le_of_ble_eq_true rfl) (fun r σ' hq hn' => ?_)
  obtain ⟨⟨b4, rfl, hb4⟩, rfl⟩ := hq
  try simp (discharger := omega) only [wr_id] at hb4
  refine R_if_ne (tgt := 14) dX5_black_8 (by decide) (fun c_8 => ?_) (fun c_8 => ?_)
  · first
    | (simp (discharger := omega) only [wr_id] at c_8; done)
    | (try simp (discharger := omega) only [wr_id] at c_8
       exfalso
       first | omega | exact c_8 trivial)
    | (try simp (discharger := omega) only [wr_id] at c_8
       refine R_aload_n dX5_black_14 rfl rfl ?_
       refine R_iconst dX5_black_15 ?_
       refine R_cV dX5_black_16 kRX5_78 vX5_barred ⟨(Nat.le_of_ble_eq_true rfl), (Nat.le_of_ble_eq_true rfl)⟩ (m_barred l G I sw nx tl hnx 0 (by decide) hR hO) rfl ⟨(Nat.le_of_ble_eq_true rfl), (Nat.le_of_ble_eq_true rfl)⟩ rfl (Nat.lt_of_lt_of_le (Nat.le_of_ble_eq_true rfl) hnx) rfl rfl (Nat.le_of_ble_eq_true rfl) (fun r σ' hq hn' => ?_)
       obtain ⟨J, rfl, rfl, hJ, hF⟩ := hq
       refine R_istore_n dX5_black_19 rfl (Nat.le_of_ble_eq_true rfl) ?_
       refine R_iload_n dX5_black_20 rfl rfl ?_
       refine R_if_eq (tgt := 26) dX5_black_21 (by decide) (fun c_21 => ?_) (fun c_21 => ?_)
       · first
         | (simp (discharger := omega) only [wr_id] at c_21; done)
         | (try simp (discharger := omega) only [wr_id] at c_21
            exfalso
            first | omega | exact c_21 trivial)
         | (try simp (discharger := omega) only [wr_id] at c_21
            refine R_aload_n dX5_black_26 rfl rfl ?_
            refine R_getA fRX5_27 dX5_black_27 rfl (Nat.lt_of_lt_of_le (Nat.le_of_ble_eq_true rfl) hnx) rfl ?_
            refine R_bipush (z := 17) dX5_black_30 rfl ?_
            refine R_aload_n dX5_black_32 rfl rfl ?_
            refine R_getI fRX5_64 dX5_black_33 rfl (Nat.lt_of_lt_of_le (Nat.le_of_ble_eq_true rfl) hnx) ?_
            refine R_imul dX5_black_36 ?_
            refine R_iload_n dX5_black_37 rfl rfl ?_
            have hN := bar_N hO (k := 0) (by omega)
            rw [show (J, Rs sw, nx, tl).1 48 4 = (sN S : Int) from hJ.2.2.2.2.1]
            have hR2 : RelM (up2 J 52 (17 * sN S) k) S := RelM_num hJ (fun p h1 h2 h3 => up2_ne _ _ _ h3) (fun j hj => by rw [up2_self]; exact if_neg (by omega))
            have hT : Told (up2 J 52 (17 * sN S) k) (sN S) 0 (fun _ => k) := fun i hi => by
              have e : i = 0 := by have : i < 1 := hi; omega
              subst e
              rw [up2_self]
              simp
            refine R_iastore (k := 17 * sN S) dX5_black_38 rfl (Nat.lt_of_lt_of_le (Nat.le_of_ble_eq_true rfl) hnx) (by omega) (by omega) (by decide) ?_
            refine R_aload_n dX5_black_39 rfl rfl ?_
            refine R_iconst dX5_black_40 ?_
            refine R_cV dX5_black_41 kRX5_82 vX5_come ⟨(Nat.le_of_ble_eq_true rfl), (Nat.le_of_ble_eq_true rfl)⟩ (m_come l G (up2 J 52 (17 * sN S) k) sw nx tl hnx 0 (fun _ => k) hR2 hN hT) rfl ⟨(Nat.le_of_ble_eq_true rfl), (Nat.le_of_ble_eq_true rfl)⟩ rfl (Nat.lt_of_lt_of_le (Nat.le_of_ble_eq_true rfl) hnx) rfl rfl (Nat.le_of_ble_eq_true rfl) (fun r σ' hq hn' => ?_)
            obtain ⟨J2, rfl, h1, rfl, h2⟩ := hq
            refine R_iret dX5_black_44 rfl rfl rfl (Nat.le_refl _) ?_
            rw [o_black, if_pos (by omega), o_add, if_pos (by omega)]
            exact ⟨J2, rfl, fun p hp => by rw [h1 p hp, up2_ne _ _ _ (by omega)]; exact hF p (by omega), rfl, h2⟩)
       · first
         | (simp (discharger := omega) only [wr_id] at c_21; done)
         | (try simp (discharger := omega) only [wr_id] at c_21
            exfalso
            first | omega | exact c_21 trivial)
         | (try simp (discharger := omega) only [wr_id] at c_21
            refine R_iload_n dX5_black_24 rfl rfl ?_
            refine R_iret dX5_black_25 rfl rfl rfl (Nat.le_refl _) ?_
            rw [o_black, if_pos (by omega), o_add, if_neg (by omega)]
            exact ⟨J, rfl, fun p hp => hF p (by omega), rfl, hJ⟩))
  · first
    | (simp (discharger := omega) only [wr_id] at c_8; done)
    | (try simp (discharger := omega) only [wr_id] at c_8
       exfalso
       first | omega | exact c_8 trivial)
    | (try simp (discharger := omega) only [wr_id] at c_8
       refine R_bipush (z := (-102)) dX5_black_11 rfl ?_
       refine R_iret dX5_black_13 rfl rfl rfl (Nat.le_refl _) ?_
       rw [o_black, if_neg (by omega)]
       exact ⟨I, rfl, fun _ _ => rfl, rfl, hR⟩)
theorem m_gain (I : Nat → Nat → Int) (sw : Bool) (nx : Nat) (tl : Nat → Nat) (hnx : 63 ≤ nx) (a b c : Int) (ra : inR a) (rb : inR b) (rc : inR c) {S : Sp} (hR : RelM I S) (hO : OkS S) : Mt l G miX5_gain 0 0 [ar 48, ai a, ai b, ai c] (I, Rs sw, nx, tl) (QI sw nx tl (fun r I' => (∀ p, p < 48 → I' p = I p) ∧ r = some (ai (o_gain S a b c).1) ∧ RelM I' (o_gain S a b c).2)) := by
  unfold inR at *
  have hb := bar_rng S 1
  have o5 := hO.2.2.2.2.1
  refine Mt.ofL (ls := [ar 48, ai a, ai b, ai c, none]) (by decide) (Nat.le_of_ble_eq_true rfl) rfl ?_
  dsimp only [Km, miX5_gain]
  refine R_iload_n dX5_gain_0 rfl rfl ?_
  refine R_iconst dX5_gain_1 ?_
  refine R_sipush (z := 8000) dX5_gain_2 rfl ?_
  refine R_cS dX5_gain_5 kRX5_60 vX5_in ⟨(Nat.le_of_ble_eq_true rfl), (Nat.le_of_ble_eq_true rfl)⟩ (b_in l G _ _ _ _) rfl ⟨(Nat.le_of_ble_eq_true rfl), (Nat.le_of_ble_eq_true rfl)⟩ rfl (Nat.le_of_ble_eq_true rfl) (fun r σ' hq hn' => ?_)
  obtain ⟨⟨b4, rfl, hb4⟩, rfl⟩ := hq
  try simp (discharger := omega) only [wr_id] at hb4
  refine R_if_eq (tgt := 33) dX5_gain_8 (by decide) (fun c_8 => ?_) (fun c_8 => ?_)
  · first
    | (simp (discharger := omega) only [wr_id] at c_8; done)
    | (try simp (discharger := omega) only [wr_id] at c_8
       exfalso
       first | omega | exact c_8 trivial)
    | (try simp (discharger := omega) only [wr_id] at c_8
       refine R_bipush (z := (-102)) dX5_gain_33 rfl ?_
       refine R_iret dX5_gain_35 rfl rfl rfl (Nat.le_refl _) ?_
       rw [o_gain, if_neg (by omega)]
       exact ⟨I, rfl, fun _ _ => rfl, rfl, hR⟩)
  · first
    | (simp (discharger := omega) only [wr_id] at c_8; done)
    | (try simp (discharger := omega) only [wr_id] at c_8
       exfalso
       first | omega | exact c_8 trivial)
    | (try simp (discharger := omega) only [wr_id] at c_8
       refine R_iload_n dX5_gain_11 rfl rfl ?_
       refine R_iconst dX5_gain_12 ?_
       refine R_sipush (z := 8000) dX5_gain_13 rfl ?_
       refine R_cS dX5_gain_16 kRX5_60 vX5_in ⟨(Nat.le_of_ble_eq_true rfl), (Nat.le_of_ble_eq_true rfl)⟩ (b_in l G _ _ _ _) rfl ⟨(Nat.le_of_ble_eq_true rfl), (Nat.le_of_ble_eq_true rfl)⟩ rfl (Nat.le_of_ble_eq_true rfl) (fun r σ' hq hn' => ?_)
       obtain ⟨⟨b5, rfl, hb5⟩, rfl⟩ := hq
       try simp (discharger := omega) only [wr_id] at hb5
       refine R_if_eq (tgt := 33) dX5_gain_19 (by decide) (fun c_19 => ?_) (fun c_19 => ?_)
       · first
         | (simp (discharger := omega) only [wr_id] at c_19; done)
         | (try simp (discharger := omega) only [wr_id] at c_19
            exfalso
            first | omega | exact c_19 trivial)
         | (try simp (discharger := omega) only [wr_id] at c_19
            refine R_bipush (z := (-102)) dX5_gain_33 rfl ?_
            refine R_iret dX5_gain_35 rfl rfl rfl (Nat.le_refl _) ?_
            rw [o_gain, if_neg (by omega)]
            exact ⟨I, rfl, fun _ _ => rfl, rfl, hR⟩)
       · first
         | (simp (discharger := omega) only [wr_id] at c_19; done)
         | (try simp (discharger := omega) only [wr_id] at c_19
            exfalso
            first | omega | exact c_19 trivial)
         | (try simp (discharger := omega) only [wr_id] at c_19
            refine R_iload_n dX5_gain_22 rfl rfl ?_
            refine R_iconst dX5_gain_23 ?_
            refine R_sipush (z := 8000) dX5_gain_24 rfl ?_
            refine R_cS dX5_gain_27 kRX5_60 vX5_in ⟨(Nat.le_of_ble_eq_true rfl), (Nat.le_of_ble_eq_true rfl)⟩ (b_in l G _ _ _ _) rfl ⟨(Nat.le_of_ble_eq_true rfl), (Nat.le_of_ble_eq_true rfl)⟩ rfl (Nat.le_of_ble_eq_true rfl) (fun r σ' hq hn' => ?_)
            obtain ⟨⟨b6, rfl, hb6⟩, rfl⟩ := hq
            try simp (discharger := omega) only [wr_id] at hb6
            refine R_if_ne (tgt := 36) dX5_gain_30 (by decide) (fun c_30 => ?_) (fun c_30 => ?_)
            · first
              | (simp (discharger := omega) only [wr_id] at c_30; done)
              | (try simp (discharger := omega) only [wr_id] at c_30
                 exfalso
                 first | omega | exact c_30 trivial)
              | (try simp (discharger := omega) only [wr_id] at c_30
                 refine R_aload_n dX5_gain_36 rfl rfl ?_
                 refine R_iconst dX5_gain_37 ?_
                 refine R_cV dX5_gain_38 kRX5_78 vX5_barred ⟨(Nat.le_of_ble_eq_true rfl), (Nat.le_of_ble_eq_true rfl)⟩ (m_barred l G I sw nx tl hnx 1 (by decide) hR hO) rfl ⟨(Nat.le_of_ble_eq_true rfl), (Nat.le_of_ble_eq_true rfl)⟩ rfl (Nat.lt_of_lt_of_le (Nat.le_of_ble_eq_true rfl) hnx) rfl rfl (Nat.le_of_ble_eq_true rfl) (fun r σ' hq hn' => ?_)
                 obtain ⟨J, rfl, rfl, hJ, hF⟩ := hq
                 have e5 := hJ.2.2.2.2.1
                 refine R_istore dX5_gain_41 (Nat.le_of_ble_eq_true rfl) ?_
                 refine R_iload dX5_gain_43 rfl ?_
                 refine R_if_eq (tgt := 51) dX5_gain_45 (by decide) (fun c_45 => ?_) (fun c_45 => ?_)
                 · first
                   | (simp (discharger := omega) only [wr_id] at c_45; done)
                   | (try simp (discharger := omega) only [wr_id] at c_45
                      exfalso
                      first | omega | exact c_45 trivial)
                   | (try simp (discharger := omega) only [wr_id] at c_45
                      refine R_aload_n dX5_gain_51 rfl rfl ?_
                      refine R_getA fRX5_27 dX5_gain_52 rfl (Nat.lt_of_lt_of_le (Nat.le_of_ble_eq_true rfl) hnx) rfl ?_
                      refine R_bipush (z := 17) dX5_gain_55 rfl ?_
                      refine R_aload_n dX5_gain_57 rfl rfl ?_
                      refine R_getI fRX5_64 dX5_gain_58 rfl (Nat.lt_of_lt_of_le (Nat.le_of_ble_eq_true rfl) hnx) ?_
                      refine R_imul dX5_gain_61 ?_
                      refine R_iload_n dX5_gain_62 rfl rfl ?_
                      have hN := bar_N hO (k := 1) (by omega)
                      rw [show (J, Rs sw, nx, tl).1 48 4 = (sN S : Int) from e5]
                      have hR2 : RelM (up2 (up2 (up2 J 52 (17 * sN S) a) 52 (17 * sN S + 1) b) 52 (17 * sN S + 2) c) S := RelM_num hJ (fun p h1 h2 h3 => by rw [up2_ne _ _ _ h3, up2_ne _ _ _ h3, up2_ne _ _ _ h3]) (fun j hj => by simp only [up2_at]; rw [if_neg (by omega), if_neg (by omega), if_neg (by omega)])
                      have hT : Told (up2 (up2 (up2 J 52 (17 * sN S) a) 52 (17 * sN S + 1) b) 52 (17 * sN S + 2) c) (sN S) 1 (fun i => if i = 0 then a else if i = 1 then b else c) := fun i hi => by
                        have hi3 : i < 3 := hi
                        rcases (show i = 0 ∨ i = 1 ∨ i = 2 by omega) with rfl | rfl | rfl <;> simp [up2_at]
                      refine R_iastore (k := 17 * sN S) dX5_gain_63 rfl (Nat.lt_of_lt_of_le (Nat.le_of_ble_eq_true rfl) hnx) (by omega) (by omega) (by decide) ?_
                      refine R_aload_n dX5_gain_64 rfl rfl ?_
                      refine R_getA fRX5_27 dX5_gain_65 rfl (Nat.lt_of_lt_of_le (Nat.le_of_ble_eq_true rfl) hnx) rfl ?_
                      refine R_bipush (z := 17) dX5_gain_68 rfl ?_
                      refine R_aload_n dX5_gain_70 rfl rfl ?_
                      refine R_getI fRX5_64 dX5_gain_71 rfl (Nat.lt_of_lt_of_le (Nat.le_of_ble_eq_true rfl) hnx) ?_
                      refine R_imul dX5_gain_74 ?_
                      refine R_iconst dX5_gain_75 ?_
                      refine R_iadd dX5_gain_76 ?_
                      refine R_iload_n dX5_gain_77 rfl rfl ?_
                      dsimp only
                      rw [up2_ne _ _ _ (by decide), e5]
                      refine R_iastore (k := 17 * sN S + 1) dX5_gain_78 rfl (Nat.lt_of_lt_of_le (Nat.le_of_ble_eq_true rfl) hnx) (by omega) (by omega) (by decide) ?_
                      refine R_aload_n dX5_gain_79 rfl rfl ?_
                      refine R_getA fRX5_27 dX5_gain_80 rfl (Nat.lt_of_lt_of_le (Nat.le_of_ble_eq_true rfl) hnx) rfl ?_
                      refine R_bipush (z := 17) dX5_gain_83 rfl ?_
                      refine R_aload_n dX5_gain_85 rfl rfl ?_
                      refine R_getI fRX5_64 dX5_gain_86 rfl (Nat.lt_of_lt_of_le (Nat.le_of_ble_eq_true rfl) hnx) ?_
                      refine R_imul dX5_gain_89 ?_
                      refine R_iconst dX5_gain_90 ?_
                      refine R_iadd dX5_gain_91 ?_
                      refine R_iload_n dX5_gain_92 rfl rfl ?_
                      dsimp only
                      rw [up2_ne _ _ _ (by decide), up2_ne _ _ _ (by decide), e5]
                      refine R_iastore (k := 17 * sN S + 2) dX5_gain_93 rfl (Nat.lt_of_lt_of_le (Nat.le_of_ble_eq_true rfl) hnx) (by omega) (by omega) (by decide) ?_
                      refine R_aload_n dX5_gain_94 rfl rfl ?_
                      refine R_iconst dX5_gain_95 ?_
                      refine R_cV dX5_gain_96 kRX5_82 vX5_come ⟨(Nat.le_of_ble_eq_true rfl), (Nat.le_of_ble_eq_true rfl)⟩ (m_come l G (up2 (up2 (up2 J 52 (17 * sN S) a) 52 (17 * sN S + 1) b) 52 (17 * sN S + 2) c) sw nx tl hnx 1 (fun i => if i = 0 then a else if i = 1 then b else c) hR2 hN hT) rfl ⟨(Nat.le_of_ble_eq_true rfl), (Nat.le_of_ble_eq_true rfl)⟩ rfl (Nat.lt_of_lt_of_le (Nat.le_of_ble_eq_true rfl) hnx) rfl rfl (Nat.le_of_ble_eq_true rfl) (fun r σ' hq hn' => ?_)
                      obtain ⟨J2, rfl, h1, rfl, h2⟩ := hq
                      refine R_iret dX5_gain_99 rfl rfl rfl (Nat.le_refl _) ?_
                      rw [o_gain, if_pos (by omega), o_add, if_pos (by omega)]
                      exact ⟨J2, rfl, fun p hp => by rw [h1 p hp, up2_ne _ _ _ (by omega), up2_ne _ _ _ (by omega), up2_ne _ _ _ (by omega)]; exact hF p (by omega), rfl, h2⟩)
                 · first
                   | (simp (discharger := omega) only [wr_id] at c_45; done)
                   | (try simp (discharger := omega) only [wr_id] at c_45
                      exfalso
                      first | omega | exact c_45 trivial)
                   | (try simp (discharger := omega) only [wr_id] at c_45
                      refine R_iload dX5_gain_48 rfl ?_
                      refine R_iret dX5_gain_50 rfl rfl rfl (Nat.le_refl _) ?_
                      rw [o_gain, if_pos (by omega), o_add, if_neg (by omega)]
                      exact ⟨J, rfl, fun p hp => hF p (by omega), rfl, hJ⟩))
            · first
              | (simp (discharger := omega) only [wr_id] at c_30; done)
              | (try simp (discharger := omega) only [wr_id] at c_30
                 exfalso
                 first | omega | exact c_30 trivial)
              | (try simp (discharger := omega) only [wr_id] at c_30
                 refine R_bipush (z := (-102)) dX5_gain_33 rfl ?_
                 refine R_iret dX5_gain_35 rfl rfl rfl (Nat.le_refl _) ?_
                 rw [o_gain, if_neg (by omega)]
                 exact ⟨I, rfl, fun _ _ => rfl, rfl, hR⟩)))
theorem m_step (I : Nat → Nat → Int) (sw : Bool) (nx : Nat) (tl : Nat → Nat) (hnx : 63 ≤ nx) (k : Int) (rk : inR k) {S : Sp} (hR : RelM I S) (hO : OkS S) : Mt l G miX5_step 0 0 [ar 48, ai k] (I, Rs sw, nx, tl) (QI sw nx tl (fun r I' => (∀ p, p < 48 → I' p = I p) ∧ r = some (ai (o_step S k).1) ∧ RelM I' (o_step S k).2)) := by
  unfold inR at *
  have o5 := hO.2.2.2.2.1
  by_cases hk : k = 2 ∨ k = 3 ∨ k = 4 ∨ k = 7
  · obtain ⟨q, rfl⟩ : ∃ q : Nat, k = q := ⟨k.toNat, by omega⟩
    have hb := bar_rng S q
    have hm : many q = 0 := by unfold many; repeat' split
                               all_goals omega
    refine Mt.ofL (ls := [ar 48, ai q, none]) (by decide) (Nat.le_of_ble_eq_true rfl) rfl ?_
    dsimp only [Km, miX5_step]
    refine R_iload_n dX5_step_0 rfl rfl ?_
    refine R_iconst dX5_step_1 ?_
    refine R_icmp_eq (tgt := 24) dX5_step_2 (by decide) (fun c_2 => ?_) (fun c_2 => ?_)
    · first
      | (simp (discharger := omega) only [wr_id] at c_2; done)
      | (try simp (discharger := omega) only [wr_id] at c_2
         exfalso
         first | omega | exact c_2 trivial)
      | (try simp (discharger := omega) only [wr_id] at c_2
         refine R_aload_n dX5_step_24 rfl rfl ?_
         refine R_iload_n dX5_step_25 rfl rfl ?_
         refine R_cV dX5_step_26 kRX5_78 vX5_barred ⟨(Nat.le_of_ble_eq_true rfl), (Nat.le_of_ble_eq_true rfl)⟩ (m_barred l G I sw nx tl hnx q (by omega) hR hO) rfl ⟨(Nat.le_of_ble_eq_true rfl), (Nat.le_of_ble_eq_true rfl)⟩ rfl (Nat.lt_of_lt_of_le (Nat.le_of_ble_eq_true rfl) hnx) rfl rfl (Nat.le_of_ble_eq_true rfl) (fun r σ' hq hn' => ?_)
         obtain ⟨J, rfl, rfl, hJ, hF⟩ := hq
         refine R_istore_n dX5_step_29 rfl (Nat.le_of_ble_eq_true rfl) ?_
         refine R_iload_n dX5_step_30 rfl rfl ?_
         refine R_if_eq (tgt := 38) dX5_step_31 (by decide) (fun c_31 => ?_) (fun c_31 => ?_)
         · first
           | (simp (discharger := omega) only [wr_id] at c_31; done)
           | (try simp (discharger := omega) only [wr_id] at c_31
              exfalso
              first | omega | exact c_31 trivial)
           | (try simp (discharger := omega) only [wr_id] at c_31
              refine R_aload_n dX5_step_38 rfl rfl ?_
              refine R_iload_n dX5_step_39 rfl rfl ?_
              refine R_cV dX5_step_40 kRX5_82 vX5_come ⟨(Nat.le_of_ble_eq_true rfl), (Nat.le_of_ble_eq_true rfl)⟩ (m_come l G J sw nx tl hnx q (fun _ => 0) hJ (bar_N hO (k := q) (by omega)) (fun i hi => by rw [hm] at hi; omega)) rfl ⟨(Nat.le_of_ble_eq_true rfl), (Nat.le_of_ble_eq_true rfl)⟩ rfl (Nat.lt_of_lt_of_le (Nat.le_of_ble_eq_true rfl) hnx) rfl rfl (Nat.le_of_ble_eq_true rfl) (fun r σ' hq hn' => ?_)
              obtain ⟨J2, rfl, h1, rfl, h2⟩ := hq
              refine R_iret dX5_step_43 rfl rfl rfl (Nat.le_refl _) ?_
              first
              | (rw [o_step, if_pos hk, Int.toNat_natCast, o_add, if_neg (by omega)]; exact ⟨J, rfl, fun p hp => hF p (by omega), rfl, hJ⟩)
              | (rw [o_step, if_pos hk, Int.toNat_natCast, o_add, if_pos (by omega)]; exact ⟨J2, rfl, fun p hp => by rw [h1 p hp]; exact hF p (by omega), rfl, h2⟩))
         · first
           | (simp (discharger := omega) only [wr_id] at c_31; done)
           | (try simp (discharger := omega) only [wr_id] at c_31
              exfalso
              first | omega | exact c_31 trivial)
           | (try simp (discharger := omega) only [wr_id] at c_31
              refine R_iload_n dX5_step_34 rfl rfl ?_
              refine R_goto (tgt := 43) dX5_step_35 (by decide) ?_
              refine R_iret dX5_step_43 rfl rfl rfl (Nat.le_refl _) ?_
              first
              | (rw [o_step, if_pos hk, Int.toNat_natCast, o_add, if_neg (by omega)]; exact ⟨J, rfl, fun p hp => hF p (by omega), rfl, hJ⟩)
              | (rw [o_step, if_pos hk, Int.toNat_natCast, o_add, if_pos (by omega)]; exact ⟨J2, rfl, fun p hp => by rw [h1 p hp]; exact hF p (by omega), rfl, h2⟩)))
    · first
      | (simp (discharger := omega) only [wr_id] at c_2; done)
      | (try simp (discharger := omega) only [wr_id] at c_2
         exfalso
         first | omega | exact c_2 trivial)
      | (try simp (discharger := omega) only [wr_id] at c_2
         refine R_iload_n dX5_step_5 rfl rfl ?_
         refine R_iconst dX5_step_6 ?_
         refine R_icmp_eq (tgt := 24) dX5_step_7 (by decide) (fun c_7 => ?_) (fun c_7 => ?_)
         · first
           | (simp (discharger := omega) only [wr_id] at c_7; done)
           | (try simp (discharger := omega) only [wr_id] at c_7
              exfalso
              first | omega | exact c_7 trivial)
           | (try simp (discharger := omega) only [wr_id] at c_7
              refine R_aload_n dX5_step_24 rfl rfl ?_
              refine R_iload_n dX5_step_25 rfl rfl ?_
              refine R_cV dX5_step_26 kRX5_78 vX5_barred ⟨(Nat.le_of_ble_eq_true rfl), (Nat.le_of_ble_eq_true rfl)⟩ (m_barred l G I sw nx tl hnx q (by omega) hR hO) rfl ⟨(Nat.le_of_ble_eq_true rfl), (Nat.le_of_ble_eq_true rfl)⟩ rfl (Nat.lt_of_lt_of_le (Nat.le_of_ble_eq_true rfl) hnx) rfl rfl (Nat.le_of_ble_eq_true rfl) (fun r σ' hq hn' => ?_)
              obtain ⟨J, rfl, rfl, hJ, hF⟩ := hq
              refine R_istore_n dX5_step_29 rfl (Nat.le_of_ble_eq_true rfl) ?_
              refine R_iload_n dX5_step_30 rfl rfl ?_
              refine R_if_eq (tgt := 38) dX5_step_31 (by decide) (fun c_31 => ?_) (fun c_31 => ?_)
              · first
                | (simp (discharger := omega) only [wr_id] at c_31; done)
                | (try simp (discharger := omega) only [wr_id] at c_31
                   exfalso
                   first | omega | exact c_31 trivial)
                | (try simp (discharger := omega) only [wr_id] at c_31
                   refine R_aload_n dX5_step_38 rfl rfl ?_
                   refine R_iload_n dX5_step_39 rfl rfl ?_
                   refine R_cV dX5_step_40 kRX5_82 vX5_come ⟨(Nat.le_of_ble_eq_true rfl), (Nat.le_of_ble_eq_true rfl)⟩ (m_come l G J sw nx tl hnx q (fun _ => 0) hJ (bar_N hO (k := q) (by omega)) (fun i hi => by rw [hm] at hi; omega)) rfl ⟨(Nat.le_of_ble_eq_true rfl), (Nat.le_of_ble_eq_true rfl)⟩ rfl (Nat.lt_of_lt_of_le (Nat.le_of_ble_eq_true rfl) hnx) rfl rfl (Nat.le_of_ble_eq_true rfl) (fun r σ' hq hn' => ?_)
                   obtain ⟨J2, rfl, h1, rfl, h2⟩ := hq
                   refine R_iret dX5_step_43 rfl rfl rfl (Nat.le_refl _) ?_
                   first
                   | (rw [o_step, if_pos hk, Int.toNat_natCast, o_add, if_neg (by omega)]; exact ⟨J, rfl, fun p hp => hF p (by omega), rfl, hJ⟩)
                   | (rw [o_step, if_pos hk, Int.toNat_natCast, o_add, if_pos (by omega)]; exact ⟨J2, rfl, fun p hp => by rw [h1 p hp]; exact hF p (by omega), rfl, h2⟩))
              · first
                | (simp (discharger := omega) only [wr_id] at c_31; done)
                | (try simp (discharger := omega) only [wr_id] at c_31
                   exfalso
                   first | omega | exact c_31 trivial)
                | (try simp (discharger := omega) only [wr_id] at c_31
                   refine R_iload_n dX5_step_34 rfl rfl ?_
                   refine R_goto (tgt := 43) dX5_step_35 (by decide) ?_
                   refine R_iret dX5_step_43 rfl rfl rfl (Nat.le_refl _) ?_
                   first
                   | (rw [o_step, if_pos hk, Int.toNat_natCast, o_add, if_neg (by omega)]; exact ⟨J, rfl, fun p hp => hF p (by omega), rfl, hJ⟩)
                   | (rw [o_step, if_pos hk, Int.toNat_natCast, o_add, if_pos (by omega)]; exact ⟨J2, rfl, fun p hp => by rw [h1 p hp]; exact hF p (by omega), rfl, h2⟩)))
         · first
           | (simp (discharger := omega) only [wr_id] at c_7; done)
           | (try simp (discharger := omega) only [wr_id] at c_7
              exfalso
              first | omega | exact c_7 trivial)
           | (try simp (discharger := omega) only [wr_id] at c_7
              refine R_iload_n dX5_step_10 rfl rfl ?_
              refine R_iconst dX5_step_11 ?_
              refine R_icmp_eq (tgt := 24) dX5_step_12 (by decide) (fun c_12 => ?_) (fun c_12 => ?_)
              · first
                | (simp (discharger := omega) only [wr_id] at c_12; done)
                | (try simp (discharger := omega) only [wr_id] at c_12
                   exfalso
                   first | omega | exact c_12 trivial)
                | (try simp (discharger := omega) only [wr_id] at c_12
                   refine R_aload_n dX5_step_24 rfl rfl ?_
                   refine R_iload_n dX5_step_25 rfl rfl ?_
                   refine R_cV dX5_step_26 kRX5_78 vX5_barred ⟨(Nat.le_of_ble_eq_true rfl), (Nat.le_of_ble_eq_true rfl)⟩ (m_barred l G I sw nx tl hnx q (by omega) hR hO) rfl ⟨(Nat.le_of_ble_eq_true rfl), (Nat.le_of_ble_eq_true rfl)⟩ rfl (Nat.lt_of_lt_of_le (Nat.le_of_ble_eq_true rfl) hnx) rfl rfl (Nat.le_of_ble_eq_true rfl) (fun r σ' hq hn' => ?_)
                   obtain ⟨J, rfl, rfl, hJ, hF⟩ := hq
                   refine R_istore_n dX5_step_29 rfl (Nat.le_of_ble_eq_true rfl) ?_
                   refine R_iload_n dX5_step_30 rfl rfl ?_
                   refine R_if_eq (tgt := 38) dX5_step_31 (by decide) (fun c_31 => ?_) (fun c_31 => ?_)
                   · first
                     | (simp (discharger := omega) only [wr_id] at c_31; done)
                     | (try simp (discharger := omega) only [wr_id] at c_31
                        exfalso
                        first | omega | exact c_31 trivial)
                     | (try simp (discharger := omega) only [wr_id] at c_31
                        refine R_aload_n dX5_step_38 rfl rfl ?_
                        refine R_iload_n dX5_step_39 rfl rfl ?_
                        refine R_cV dX5_step_40 kRX5_82 vX5_come ⟨(Nat.le_of_ble_eq_true rfl), (Nat.le_of_ble_eq_true rfl)⟩ (m_come l G J sw nx tl hnx q (fun _ => 0) hJ (bar_N hO (k := q) (by omega)) (fun i hi => by rw [hm] at hi; omega)) rfl ⟨(Nat.le_of_ble_eq_true rfl), (Nat.le_of_ble_eq_true rfl)⟩ rfl (Nat.lt_of_lt_of_le (Nat.le_of_ble_eq_true rfl) hnx) rfl rfl (Nat.le_of_ble_eq_true rfl) (fun r σ' hq hn' => ?_)
                        obtain ⟨J2, rfl, h1, rfl, h2⟩ := hq
                        refine R_iret dX5_step_43 rfl rfl rfl (Nat.le_refl _) ?_
                        first
                        | (rw [o_step, if_pos hk, Int.toNat_natCast, o_add, if_neg (by omega)]; exact ⟨J, rfl, fun p hp => hF p (by omega), rfl, hJ⟩)
                        | (rw [o_step, if_pos hk, Int.toNat_natCast, o_add, if_pos (by omega)]; exact ⟨J2, rfl, fun p hp => by rw [h1 p hp]; exact hF p (by omega), rfl, h2⟩))
                   · first
                     | (simp (discharger := omega) only [wr_id] at c_31; done)
                     | (try simp (discharger := omega) only [wr_id] at c_31
                        exfalso
                        first | omega | exact c_31 trivial)
                     | (try simp (discharger := omega) only [wr_id] at c_31
                        refine R_iload_n dX5_step_34 rfl rfl ?_
                        refine R_goto (tgt := 43) dX5_step_35 (by decide) ?_
                        refine R_iret dX5_step_43 rfl rfl rfl (Nat.le_refl _) ?_
                        first
                        | (rw [o_step, if_pos hk, Int.toNat_natCast, o_add, if_neg (by omega)]; exact ⟨J, rfl, fun p hp => hF p (by omega), rfl, hJ⟩)
                        | (rw [o_step, if_pos hk, Int.toNat_natCast, o_add, if_pos (by omega)]; exact ⟨J2, rfl, fun p hp => by rw [h1 p hp]; exact hF p (by omega), rfl, h2⟩)))
              · first
                | (simp (discharger := omega) only [wr_id] at c_12; done)
                | (try simp (discharger := omega) only [wr_id] at c_12
                   exfalso
                   first | omega | exact c_12 trivial)
                | (try simp (discharger := omega) only [wr_id] at c_12
                   refine R_iload_n dX5_step_15 rfl rfl ?_
                   refine R_bipush (z := 7) dX5_step_16 rfl ?_
                   refine R_icmp_eq (tgt := 24) dX5_step_18 (by decide) (fun c_18 => ?_) (fun c_18 => ?_)
                   · first
                     | (simp (discharger := omega) only [wr_id] at c_18; done)
                     | (try simp (discharger := omega) only [wr_id] at c_18
                        exfalso
                        first | omega | exact c_18 trivial)
                     | (try simp (discharger := omega) only [wr_id] at c_18
                        refine R_aload_n dX5_step_24 rfl rfl ?_
                        refine R_iload_n dX5_step_25 rfl rfl ?_
                        refine R_cV dX5_step_26 kRX5_78 vX5_barred ⟨(Nat.le_of_ble_eq_true rfl), (Nat.le_of_ble_eq_true rfl)⟩ (m_barred l G I sw nx tl hnx q (by omega) hR hO) rfl ⟨(Nat.le_of_ble_eq_true rfl), (Nat.le_of_ble_eq_true rfl)⟩ rfl (Nat.lt_of_lt_of_le (Nat.le_of_ble_eq_true rfl) hnx) rfl rfl (Nat.le_of_ble_eq_true rfl) (fun r σ' hq hn' => ?_)
                        obtain ⟨J, rfl, rfl, hJ, hF⟩ := hq
                        refine R_istore_n dX5_step_29 rfl (Nat.le_of_ble_eq_true rfl) ?_
                        refine R_iload_n dX5_step_30 rfl rfl ?_
                        refine R_if_eq (tgt := 38) dX5_step_31 (by decide) (fun c_31 => ?_) (fun c_31 => ?_)
                        · first
                          | (simp (discharger := omega) only [wr_id] at c_31; done)
                          | (try simp (discharger := omega) only [wr_id] at c_31
                             exfalso
                             first | omega | exact c_31 trivial)
                          | (try simp (discharger := omega) only [wr_id] at c_31
                             refine R_aload_n dX5_step_38 rfl rfl ?_
                             refine R_iload_n dX5_step_39 rfl rfl ?_
                             refine R_cV dX5_step_40 kRX5_82 vX5_come ⟨(Nat.le_of_ble_eq_true rfl), (Nat.le_of_ble_eq_true rfl)⟩ (m_come l G J sw nx tl hnx q (fun _ => 0) hJ (bar_N hO (k := q) (by omega)) (fun i hi => by rw [hm] at hi; omega)) rfl ⟨(Nat.le_of_ble_eq_true rfl), (Nat.le_of_ble_eq_true rfl)⟩ rfl (Nat.lt_of_lt_of_le (Nat.le_of_ble_eq_true rfl) hnx) rfl rfl (Nat.le_of_ble_eq_true rfl) (fun r σ' hq hn' => ?_)
                             obtain ⟨J2, rfl, h1, rfl, h2⟩ := hq
                             refine R_iret dX5_step_43 rfl rfl rfl (Nat.le_refl _) ?_
                             first
                             | (rw [o_step, if_pos hk, Int.toNat_natCast, o_add, if_neg (by omega)]; exact ⟨J, rfl, fun p hp => hF p (by omega), rfl, hJ⟩)
                             | (rw [o_step, if_pos hk, Int.toNat_natCast, o_add, if_pos (by omega)]; exact ⟨J2, rfl, fun p hp => by rw [h1 p hp]; exact hF p (by omega), rfl, h2⟩))
                        · first
                          | (simp (discharger := omega) only [wr_id] at c_31; done)
                          | (try simp (discharger := omega) only [wr_id] at c_31
                             exfalso
                             first | omega | exact c_31 trivial)
                          | (try simp (discharger := omega) only [wr_id] at c_31
                             refine R_iload_n dX5_step_34 rfl rfl ?_
                             refine R_goto (tgt := 43) dX5_step_35 (by decide) ?_
                             refine R_iret dX5_step_43 rfl rfl rfl (Nat.le_refl _) ?_
                             first
                             | (rw [o_step, if_pos hk, Int.toNat_natCast, o_add, if_neg (by omega)]; exact ⟨J, rfl, fun p hp => hF p (by omega), rfl, hJ⟩)
                             | (rw [o_step, if_pos hk, Int.toNat_natCast, o_add, if_pos (by omega)]; exact ⟨J2, rfl, fun p hp => by rw [h1 p hp]; exact hF p (by omega), rfl, h2⟩)))
                   · first
                     | (simp (discharger := omega) only [wr_id] at c_18; done)
                     | (try simp (discharger := omega) only [wr_id] at c_18
                        exfalso
                        first | omega | exact c_18 trivial)
                     | (try simp (discharger := omega) only [wr_id] at c_18
                        refine R_bipush (z := (-102)) dX5_step_21 rfl ?_
                        refine R_iret dX5_step_23 rfl rfl rfl (Nat.le_refl _) ?_
                        (exfalso; omega)))))
  · refine Mt.ofL (ls := [ar 48, ai k, none]) (by decide) (Nat.le_of_ble_eq_true rfl) rfl ?_
    dsimp only [Km, miX5_step]
    refine R_iload_n dX5_step_0 rfl rfl ?_
    refine R_iconst dX5_step_1 ?_
    refine R_icmp_eq (tgt := 24) dX5_step_2 (by decide) (fun c_2 => ?_) (fun c_2 => ?_)
    · first
      | (simp (discharger := omega) only [wr_id] at c_2; done)
      | (try simp (discharger := omega) only [wr_id] at c_2
         exfalso
         first | omega | exact c_2 trivial)
      | (try simp (discharger := omega) only [wr_id] at c_2
         refine R_aload_n dX5_step_24 rfl rfl ?_
         refine R_iload_n dX5_step_25 rfl rfl ?_
         (exfalso; omega))
    · first
      | (simp (discharger := omega) only [wr_id] at c_2; done)
      | (try simp (discharger := omega) only [wr_id] at c_2
         exfalso
         first | omega | exact c_2 trivial)
      | (try simp (discharger := omega) only [wr_id] at c_2
         refine R_iload_n dX5_step_5 rfl rfl ?_
         refine R_iconst dX5_step_6 ?_
         refine R_icmp_eq (tgt := 24) dX5_step_7 (by decide) (fun c_7 => ?_) (fun c_7 => ?_)
         · first
           | (simp (discharger := omega) only [wr_id] at c_7; done)
           | (try simp (discharger := omega) only [wr_id] at c_7
              exfalso
              first | omega | exact c_7 trivial)
           | (try simp (discharger := omega) only [wr_id] at c_7
              refine R_aload_n dX5_step_24 rfl rfl ?_
              refine R_iload_n dX5_step_25 rfl rfl ?_
              (exfalso; omega))
         · first
           | (simp (discharger := omega) only [wr_id] at c_7; done)
           | (try simp (discharger := omega) only [wr_id] at c_7
              exfalso
              first | omega | exact c_7 trivial)
           | (try simp (discharger := omega) only [wr_id] at c_7
              refine R_iload_n dX5_step_10 rfl rfl ?_
              refine R_iconst dX5_step_11 ?_
              refine R_icmp_eq (tgt := 24) dX5_step_12 (by decide) (fun c_12 => ?_) (fun c_12 => ?_)
              · first
                | (simp (discharger := omega) only [wr_id] at c_12; done)
                | (try simp (discharger := omega) only [wr_id] at c_12
                   exfalso
                   first | omega | exact c_12 trivial)
                | (try simp (discharger := omega) only [wr_id] at c_12
                   refine R_aload_n dX5_step_24 rfl rfl ?_
                   refine R_iload_n dX5_step_25 rfl rfl ?_
                   (exfalso; omega))
              · first
                | (simp (discharger := omega) only [wr_id] at c_12; done)
                | (try simp (discharger := omega) only [wr_id] at c_12
                   exfalso
                   first | omega | exact c_12 trivial)
                | (try simp (discharger := omega) only [wr_id] at c_12
                   refine R_iload_n dX5_step_15 rfl rfl ?_
                   refine R_bipush (z := 7) dX5_step_16 rfl ?_
                   refine R_icmp_eq (tgt := 24) dX5_step_18 (by decide) (fun c_18 => ?_) (fun c_18 => ?_)
                   · first
                     | (simp (discharger := omega) only [wr_id] at c_18; done)
                     | (try simp (discharger := omega) only [wr_id] at c_18
                        exfalso
                        first | omega | exact c_18 trivial)
                     | (try simp (discharger := omega) only [wr_id] at c_18
                        refine R_aload_n dX5_step_24 rfl rfl ?_
                        refine R_iload_n dX5_step_25 rfl rfl ?_
                        (exfalso; omega))
                   · first
                     | (simp (discharger := omega) only [wr_id] at c_18; done)
                     | (try simp (discharger := omega) only [wr_id] at c_18
                        exfalso
                        first | omega | exact c_18 trivial)
                     | (try simp (discharger := omega) only [wr_id] at c_18
                        refine R_bipush (z := (-102)) dX5_step_21 rfl ?_
                        refine R_iret dX5_step_23 rfl rfl rfl (Nat.le_refl _) ?_
                        rw [o_step, if_neg hk]
                        exact ⟨I, rfl, fun _ _ => rfl, rfl, hR⟩))))
theorem lp_matrix (I : Nat → Nat → Int) (sw : Bool) (nx : Nat) (tl : Nat → Nat) (hnx : 63 ≤ nx) (Q : Option AV → Sg → Prop) {S : Sp} (hR : RelM I S) (hN : sN S < 10) (b : Int)
    (hQ : ∀ I', (∀ i, i < 9 → I' 52 (17 * sN S + i) = sE S i) → RelM I' S → (∀ p, p ≠ 52 → I' p = I p) → Rr l G (Km G miX5_matrix 0 0 nx Q) 0 0 46 [ar 48, ai b, ai 9] [] (I', Rs sw, nx, tl)) :
    ∀ (n i : Nat) (J : Nat → Nat → Int), 9 - i < n → i ≤ 9 → (∀ k, k < i → J 52 (17 * sN S + k) = sE S k) → RelM J S → (∀ p, p ≠ 52 → J p = I p) → Rr l G (Km G miX5_matrix 0 0 nx Q) 0 0 14 [ar 48, ai b, ai i] [] (J, Rs sw, nx, tl) := by
  intro n
  induction n with
  | zero => intro i J h; omega
  | succ n ih =>
    intro i J hn hi hJ hRJ hF
    obtain ⟨g1, g2, g3, g4, g5, g6, g7, g8, g9⟩ := id hRJ
    dsimp only [Km, miX5_matrix] at *
    refine R_iload_n dX5_matrix_14 rfl rfl ?_
    refine R_bipush (z := 9) dX5_matrix_15 rfl ?_
    refine R_icmp_ge (tgt := 46) dX5_matrix_17 (by decide) (fun c_17 => ?_) (fun c_17 => ?_)
    · first
      | (simp (discharger := omega) only [wr_id] at c_17; done)
      | (try simp (discharger := omega) only [wr_id] at c_17
         exfalso
         first | omega | exact c_17 trivial)
      | (try simp (discharger := omega) only [wr_id] at c_17
         have e : i = 9 := by omega
         subst e
         exact hQ J hJ hRJ hF)
    · first
      | (simp (discharger := omega) only [wr_id] at c_17; done)
      | (try simp (discharger := omega) only [wr_id] at c_17
         exfalso
         first | omega | exact c_17 trivial)
      | (try simp (discharger := omega) only [wr_id] at c_17
         refine R_aload_n dX5_matrix_20 rfl rfl ?_
         refine R_getA fRX5_27 dX5_matrix_21 rfl (Nat.lt_of_lt_of_le (Nat.le_of_ble_eq_true rfl) hnx) rfl ?_
         refine R_bipush (z := 17) dX5_matrix_24 rfl ?_
         refine R_aload_n dX5_matrix_26 rfl rfl ?_
         refine R_getI fRX5_64 dX5_matrix_27 rfl (Nat.lt_of_lt_of_le (Nat.le_of_ble_eq_true rfl) hnx) ?_
         refine R_imul dX5_matrix_30 ?_
         refine R_iload_n dX5_matrix_31 rfl rfl ?_
         refine R_iadd dX5_matrix_32 ?_
         refine R_aload_n dX5_matrix_33 rfl rfl ?_
         refine R_getA fRX5_30 dX5_matrix_34 rfl (Nat.lt_of_lt_of_le (Nat.le_of_ble_eq_true rfl) hnx) rfl ?_
         refine R_iload_n dX5_matrix_37 rfl rfl ?_
         refine R_iaload (k := i) dX5_matrix_38 rfl (Nat.lt_of_lt_of_le (Nat.le_of_ble_eq_true rfl) hnx) (by omega) (by omega) (by decide) ?_
         rw [show (J, Rs sw, nx, tl).1 48 4 = (sN S : Int) from g5, show (J, Rs sw, nx, tl).1 53 i = sE S i from g8 i (by omega)]
         refine R_iastore (k := 17 * sN S + i) dX5_matrix_39 rfl (Nat.lt_of_lt_of_le (Nat.le_of_ble_eq_true rfl) hnx) (by omega) (by omega) (by decide) ?_
         refine R_iinc dX5_matrix_40 rfl (Nat.le_of_ble_eq_true rfl) ?_
         refine R_goto (tgt := 14) dX5_matrix_43 (by decide) ?_
         refine ih (i + 1) (up2 J 52 (17 * sN S + i) (sE S i)) (by omega) (by omega) (fun k hk => ?_) (RelM_num hRJ (fun p h1 h2 h3 => up2_ne _ _ _ h3) (fun j hj => by rw [up2_self]; exact if_neg (by omega))) (fun p hp => by rw [up2_ne _ _ _ hp]; exact hF p hp)
         rw [up2_self]
         dsimp only
         split
         · have e : k = i := by omega
           rw [e]
         · exact hJ k (by omega))
theorem m_matrix (I : Nat → Nat → Int) (sw : Bool) (nx : Nat) (tl : Nat → Nat) (hnx : 63 ≤ nx) {S : Sp} (hR : RelM I S) (hO : OkS S) : Mt l G miX5_matrix 0 0 [ar 48] (I, Rs sw, nx, tl) (QI sw nx tl (fun r I' => (∀ p, p < 48 → I' p = I p) ∧ r = some (ai (o_matrix S).1) ∧ RelM I' (o_matrix S).2)) := by
  have hb := bar_rng S 5
  have o5 := hO.2.2.2.2.1
  refine Mt.ofL (ls := [ar 48, none, none]) (by decide) (Nat.le_of_ble_eq_true rfl) rfl ?_
  dsimp only [Km, miX5_matrix]
  refine R_aload_n dX5_matrix_0 rfl rfl ?_
  refine R_iconst dX5_matrix_1 ?_
  refine R_cV dX5_matrix_2 kRX5_78 vX5_barred ⟨(Nat.le_of_ble_eq_true rfl), (Nat.le_of_ble_eq_true rfl)⟩ (m_barred l G I sw nx tl hnx 5 (by decide) hR hO) rfl ⟨(Nat.le_of_ble_eq_true rfl), (Nat.le_of_ble_eq_true rfl)⟩ rfl (Nat.lt_of_lt_of_le (Nat.le_of_ble_eq_true rfl) hnx) rfl rfl (Nat.le_of_ble_eq_true rfl) (fun r σ' hq hn' => ?_)
  obtain ⟨J, rfl, rfl, hJ, hF⟩ := hq
  refine R_istore_n dX5_matrix_5 rfl (Nat.le_of_ble_eq_true rfl) ?_
  refine R_iload_n dX5_matrix_6 rfl rfl ?_
  refine R_if_eq (tgt := 12) dX5_matrix_7 (by decide) (fun c_7 => ?_) (fun c_7 => ?_)
  · first
    | (simp (discharger := omega) only [wr_id] at c_7; done)
    | (try simp (discharger := omega) only [wr_id] at c_7
       exfalso
       first | omega | exact c_7 trivial)
    | (try simp (discharger := omega) only [wr_id] at c_7
       refine R_iconst dX5_matrix_12 ?_
       refine R_istore_n dX5_matrix_13 rfl (Nat.le_of_ble_eq_true rfl) ?_
       have hN := bar_N hO (k := 5) (by omega)
       refine lp_matrix l G J sw nx tl hnx _ hJ hN _ (fun J2 h1 h2 h3 => ?_) 10 0 J (by omega) (by omega) (fun k hk => by omega) hJ (fun p _ => rfl)
       dsimp only [Km, miX5_matrix]
       refine R_aload_n dX5_matrix_46 rfl rfl ?_
       refine R_iconst dX5_matrix_47 ?_
       refine R_cV dX5_matrix_48 kRX5_82 vX5_come ⟨(Nat.le_of_ble_eq_true rfl), (Nat.le_of_ble_eq_true rfl)⟩ (m_come l G J2 sw nx tl hnx 5 (sE S) h2 hN (fun i hi => h1 i hi)) rfl ⟨(Nat.le_of_ble_eq_true rfl), (Nat.le_of_ble_eq_true rfl)⟩ rfl (Nat.lt_of_lt_of_le (Nat.le_of_ble_eq_true rfl) hnx) rfl rfl (Nat.le_of_ble_eq_true rfl) (fun r σ' hq hn' => ?_)
       obtain ⟨J3, rfl, h4, rfl, h5⟩ := hq
       refine R_iret dX5_matrix_51 rfl rfl rfl (Nat.le_refl _) ?_
       rw [o_matrix, o_add, if_pos (by omega)]
       exact ⟨J3, rfl, fun p hp => by rw [h4 p hp, h3 p (by omega)]; exact hF p (by omega), rfl, h5⟩)
  · first
    | (simp (discharger := omega) only [wr_id] at c_7; done)
    | (try simp (discharger := omega) only [wr_id] at c_7
       exfalso
       first | omega | exact c_7 trivial)
    | (try simp (discharger := omega) only [wr_id] at c_7
       refine R_iload_n dX5_matrix_10 rfl rfl ?_
       refine R_iret dX5_matrix_11 rfl rfl rfl (Nat.le_refl _) ?_
       rw [o_matrix, o_add, if_neg (by omega)]
       exact ⟨J, rfl, fun p hp => hF p (by omega), rfl, hJ⟩)
theorem lp_curve2 (I : Nat → Nat → Int) (sw : Bool) (nx : Nat) (tl : Nat → Nat) (hnx : 63 ≤ nx) (Q : Option AV → Sg → Prop) {S : Sp} (hR : RelM I S) (hN : sN S < 10) (b : Int)
    (hQ : ∀ I', (∀ i, i < 17 → I' 52 (17 * sN S + i) = sP S i) → RelM I' S → (∀ p, p ≠ 52 → I' p = I p) → Rr l G (Km G miX5_curve 0 0 nx Q) 0 0 81 [ar 48, ai b, ai 17] [] (I', Rs sw, nx, tl)) :
    ∀ (n i : Nat) (J : Nat → Nat → Int), 17 - i < n → i ≤ 17 → (∀ k, k < i → J 52 (17 * sN S + k) = sP S k) → RelM J S → (∀ p, p ≠ 52 → J p = I p) → Rr l G (Km G miX5_curve 0 0 nx Q) 0 0 49 [ar 48, ai b, ai i] [] (J, Rs sw, nx, tl) := by
  intro n
  induction n with
  | zero => intro i J h; omega
  | succ n ih =>
    intro i J hn hi hJ hRJ hF
    obtain ⟨g1, g2, g3, g4, g5, g6, g7, g8, g9⟩ := id hRJ
    dsimp only [Km, miX5_curve] at *
    refine R_iload_n dX5_curve_49 rfl rfl ?_
    refine R_bipush (z := 17) dX5_curve_50 rfl ?_
    refine R_icmp_ge (tgt := 81) dX5_curve_52 (by decide) (fun c_52 => ?_) (fun c_52 => ?_)
    · first
      | (simp (discharger := omega) only [wr_id] at c_52; done)
      | (try simp (discharger := omega) only [wr_id] at c_52
         exfalso
         first | omega | exact c_52 trivial)
      | (try simp (discharger := omega) only [wr_id] at c_52
         have e : i = 17 := by omega
         subst e
         exact hQ J hJ hRJ hF)
    · first
      | (simp (discharger := omega) only [wr_id] at c_52; done)
      | (try simp (discharger := omega) only [wr_id] at c_52
         exfalso
         first | omega | exact c_52 trivial)
      | (try simp (discharger := omega) only [wr_id] at c_52
         refine R_aload_n dX5_curve_55 rfl rfl ?_
         refine R_getA fRX5_27 dX5_curve_56 rfl (Nat.lt_of_lt_of_le (Nat.le_of_ble_eq_true rfl) hnx) rfl ?_
         refine R_bipush (z := 17) dX5_curve_59 rfl ?_
         refine R_aload_n dX5_curve_61 rfl rfl ?_
         refine R_getI fRX5_64 dX5_curve_62 rfl (Nat.lt_of_lt_of_le (Nat.le_of_ble_eq_true rfl) hnx) ?_
         refine R_imul dX5_curve_65 ?_
         refine R_iload_n dX5_curve_66 rfl rfl ?_
         refine R_iadd dX5_curve_67 ?_
         refine R_aload_n dX5_curve_68 rfl rfl ?_
         refine R_getA fRX5_33 dX5_curve_69 rfl (Nat.lt_of_lt_of_le (Nat.le_of_ble_eq_true rfl) hnx) rfl ?_
         refine R_iload_n dX5_curve_72 rfl rfl ?_
         refine R_iaload (k := i) dX5_curve_73 rfl (Nat.lt_of_lt_of_le (Nat.le_of_ble_eq_true rfl) hnx) (by omega) (by omega) (by decide) ?_
         rw [show (J, Rs sw, nx, tl).1 48 4 = (sN S : Int) from g5, show (J, Rs sw, nx, tl).1 54 i = sP S i from g9 i (by omega)]
         refine R_iastore (k := 17 * sN S + i) dX5_curve_74 rfl (Nat.lt_of_lt_of_le (Nat.le_of_ble_eq_true rfl) hnx) (by omega) (by omega) (by decide) ?_
         refine R_iinc dX5_curve_75 rfl (Nat.le_of_ble_eq_true rfl) ?_
         refine R_goto (tgt := 49) dX5_curve_78 (by decide) ?_
         refine ih (i + 1) (up2 J 52 (17 * sN S + i) (sP S i)) (by omega) (by omega) (fun k hk => ?_) (RelM_num hRJ (fun p h1 h2 h3 => up2_ne _ _ _ h3) (fun j hj => by rw [up2_self]; exact if_neg (by omega))) (fun p hp => by rw [up2_ne _ _ _ hp]; exact hF p hp)
         rw [up2_self]
         dsimp only
         split
         · have e : k = i := by omega
           rw [e]
         · exact hJ k (by omega))
theorem lp_curve1 (I : Nat → Nat → Int) (sw : Bool) (nx : Nat) (tl : Nat → Nat) (hnx : 63 ≤ nx) (Q : Option AV → Sg → Prop) {S : Sp} (hR : RelM I S) (hO : OkS S)
    (hQ : (∀ j, j < 16 → sP S j ≤ sP S (j + 1)) → Rr l G (Km G miX5_curve 0 0 nx Q) 0 0 34 [ar 48, ai 17, none] [] (I, Rs sw, nx, tl)) (hQ2 : (¬ ∀ j, j < 16 → sP S j ≤ sP S (j + 1)) → Q (some (ai (-102))) (I, Rs sw, nx, tl)) :
    ∀ (n i : Nat), 17 - i < n → 1 ≤ i → i ≤ 17 → (∀ j, j + 1 < i → sP S j ≤ sP S (j + 1)) → Rr l G (Km G miX5_curve 0 0 nx Q) 0 0 2 [ar 48, ai i, none] [] (I, Rs sw, nx, tl) := by
  obtain ⟨g1, g2, g3, g4, g5, g6, g7, g8, g9⟩ := hR
  have o8 := hO.2.2.2.2.2.2.2
  intro n
  induction n with
  | zero => intro i h; omega
  | succ n ih =>
    intro i hn h1 hi hJ
    dsimp only [Km, miX5_curve] at *
    refine R_iload_n dX5_curve_2 rfl rfl ?_
    refine R_bipush (z := 17) dX5_curve_3 rfl ?_
    refine R_icmp_ge (tgt := 34) dX5_curve_5 (by decide) (fun c_5 => ?_) (fun c_5 => ?_)
    · first
      | (simp (discharger := omega) only [wr_id] at c_5; done)
      | (try simp (discharger := omega) only [wr_id] at c_5
         exfalso
         first | omega | exact c_5 trivial)
      | (try simp (discharger := omega) only [wr_id] at c_5
         have e : i = 17 := by omega
         subst e
         exact hQ (fun j hj => hJ j (by omega)))
    · first
      | (simp (discharger := omega) only [wr_id] at c_5; done)
      | (try simp (discharger := omega) only [wr_id] at c_5
         exfalso
         first | omega | exact c_5 trivial)
      | (try simp (discharger := omega) only [wr_id] at c_5
         refine R_aload_n dX5_curve_8 rfl rfl ?_
         refine R_getA fRX5_33 dX5_curve_9 rfl (Nat.lt_of_lt_of_le (Nat.le_of_ble_eq_true rfl) hnx) rfl ?_
         refine R_iload_n dX5_curve_12 rfl rfl ?_
         refine R_iaload (k := i) dX5_curve_13 rfl (Nat.lt_of_lt_of_le (Nat.le_of_ble_eq_true rfl) hnx) (by omega) (by omega) (by decide) ?_
         refine R_aload_n dX5_curve_14 rfl rfl ?_
         refine R_getA fRX5_33 dX5_curve_15 rfl (Nat.lt_of_lt_of_le (Nat.le_of_ble_eq_true rfl) hnx) rfl ?_
         refine R_iload_n dX5_curve_18 rfl rfl ?_
         refine R_iconst dX5_curve_19 ?_
         refine R_isub dX5_curve_20 ?_
         refine R_iaload (k := i - 1) dX5_curve_21 rfl (Nat.lt_of_lt_of_le (Nat.le_of_ble_eq_true rfl) hnx) (by omega) (by omega) (by decide) ?_
         have e1 := g9 i (by omega)
         have e2 := g9 (i - 1) (by omega)
         have q1 := o8 i (by omega)
         have q2 := o8 (i - 1) (by omega)
         rw [show (I, Rs sw, nx, tl).1 54 i = sP S i from e1, show (I, Rs sw, nx, tl).1 54 (i - 1) = sP S (i - 1) from e2]
         refine R_icmp_ge (tgt := 28) dX5_curve_22 (by decide) (fun c_22 => ?_) (fun c_22 => ?_)
         · first
           | (simp (discharger := omega) only [wr_id] at c_22; done)
           | (try simp (discharger := omega) only [wr_id] at c_22
              exfalso
              first | omega | exact c_22 trivial)
           | (try simp (discharger := omega) only [wr_id] at c_22
              refine R_iinc dX5_curve_28 rfl (Nat.le_of_ble_eq_true rfl) ?_
              refine R_goto (tgt := 2) dX5_curve_31 (by decide) ?_
              refine ih (i + 1) (by omega) (by omega) (by omega) (fun j hj => ?_)
              rcases Nat.lt_or_ge (j + 1) i with h | h
              · exact hJ j h
              · have e : j = i - 1 := by omega
                subst e
                rw [show i - 1 + 1 = i by omega]
                omega)
         · first
           | (simp (discharger := omega) only [wr_id] at c_22; done)
           | (try simp (discharger := omega) only [wr_id] at c_22
              exfalso
              first | omega | exact c_22 trivial)
           | (try simp (discharger := omega) only [wr_id] at c_22
              refine R_bipush (z := (-102)) dX5_curve_25 rfl ?_
              refine R_iret dX5_curve_27 rfl rfl rfl (Nat.le_refl _) ?_
              refine hQ2 (fun q => ?_)
              have := q (i - 1) (by omega)
              rw [show i - 1 + 1 = i by omega] at this
              omega))
theorem m_curve (I : Nat → Nat → Int) (sw : Bool) (nx : Nat) (tl : Nat → Nat) (hnx : 63 ≤ nx) {S : Sp} (hR : RelM I S) (hO : OkS S) : Mt l G miX5_curve 0 0 [ar 48] (I, Rs sw, nx, tl) (QI sw nx tl (fun r I' => (∀ p, p < 48 → I' p = I p) ∧ r = some (ai (o_curve S).1) ∧ RelM I' (o_curve S).2)) := by
  have hb := bar_rng S 6
  have o5 := hO.2.2.2.2.1
  refine Mt.ofL (ls := [ar 48, none, none]) (by decide) (Nat.le_of_ble_eq_true rfl) rfl ?_
  dsimp only [Km, miX5_curve]
  refine R_iconst dX5_curve_0 ?_
  refine R_istore_n dX5_curve_1 rfl (Nat.le_of_ble_eq_true rfl) ?_
  refine lp_curve1 l G I sw nx tl hnx _ hR hO (fun hc => ?_) (fun hc => ?_) 17 1 (by omega) (by omega) (by omega) (fun j hj => by omega)
  · dsimp only [Km, miX5_curve]
    refine R_aload_n dX5_curve_34 rfl rfl ?_
    refine R_bipush (z := 6) dX5_curve_35 rfl ?_
    refine R_cV dX5_curve_37 kRX5_78 vX5_barred ⟨(Nat.le_of_ble_eq_true rfl), (Nat.le_of_ble_eq_true rfl)⟩ (m_barred l G I sw nx tl hnx 6 (by decide) hR hO) rfl ⟨(Nat.le_of_ble_eq_true rfl), (Nat.le_of_ble_eq_true rfl)⟩ rfl (Nat.lt_of_lt_of_le (Nat.le_of_ble_eq_true rfl) hnx) rfl rfl (Nat.le_of_ble_eq_true rfl) (fun r σ' hq hn' => ?_)
    obtain ⟨J, rfl, rfl, hJ, hF⟩ := hq
    refine R_istore_n dX5_curve_40 rfl (Nat.le_of_ble_eq_true rfl) ?_
    refine R_iload_n dX5_curve_41 rfl rfl ?_
    refine R_if_eq (tgt := 47) dX5_curve_42 (by decide) (fun c_42 => ?_) (fun c_42 => ?_)
    · try simp (discharger := omega) only [wr_id] at c_42
      have hN := bar_N hO (k := 6) (by omega)
      refine R_iconst dX5_curve_47 ?_
      refine R_istore_n dX5_curve_48 rfl (Nat.le_of_ble_eq_true rfl) ?_
      refine lp_curve2 l G J sw nx tl hnx _ hJ hN _ (fun J2 h1 h2 h3 => ?_) 18 0 J (by omega) (by omega) (fun k hk => by omega) hJ (fun p _ => rfl)
      dsimp only [Km, miX5_curve]
      refine R_aload_n dX5_curve_81 rfl rfl ?_
      refine R_bipush (z := 6) dX5_curve_82 rfl ?_
      refine R_cV dX5_curve_84 kRX5_82 vX5_come ⟨(Nat.le_of_ble_eq_true rfl), (Nat.le_of_ble_eq_true rfl)⟩ (m_come l G J2 sw nx tl hnx 6 (sP S) h2 hN (fun i hi => h1 i hi)) rfl ⟨(Nat.le_of_ble_eq_true rfl), (Nat.le_of_ble_eq_true rfl)⟩ rfl (Nat.lt_of_lt_of_le (Nat.le_of_ble_eq_true rfl) hnx) rfl rfl (Nat.le_of_ble_eq_true rfl) (fun r σ' hq hn' => ?_)
      obtain ⟨J3, rfl, h4, rfl, h5⟩ := hq
      refine R_iret dX5_curve_87 rfl rfl rfl (Nat.le_refl _) ?_
      rw [o_curve, if_pos hc, o_add, if_pos (by omega)]
      exact ⟨J3, rfl, fun p hp => by rw [h4 p hp, h3 p (by omega)]; exact hF p (by omega), rfl, h5⟩
    · try simp (discharger := omega) only [wr_id] at c_42
      refine R_iload_n dX5_curve_45 rfl rfl ?_
      refine R_iret dX5_curve_46 rfl rfl rfl (Nat.le_refl _) ?_
      rw [o_curve, if_pos hc, o_add, if_neg (by omega)]
      exact ⟨J, rfl, fun p hp => hF p (by omega), rfl, hJ⟩
  · rw [o_curve, if_neg hc]
    exact ⟨I, rfl, fun _ _ => rfl, rfl, hR⟩
theorem m_stage (I : Nat → Nat → Int) (sw : Bool) (nx : Nat) (tl : Nat → Nat) (hnx : 63 ≤ nx) (k w : Int) (rk : inR k) (rw1 : inR w) {S : Sp} (hR : RelM I S) (hO : OkS S) : Mt l G miX5_stage 0 0 [ar 48, ai k, ai w] (I, Rs sw, nx, tl) (QI sw nx tl (fun r I' => (∀ p, p < 48 → I' p = I p) ∧ r = some (ai (o_stage S k w)) ∧ RelM I' S)) := by
  unfold inR at *
  have o5 := hO.2.2.2.2.1
  have g5 := hR.2.2.2.2.1
  refine Mt.ofL (ls := [ar 48, ai k, ai w]) (by decide) (Nat.le_of_ble_eq_true rfl) rfl ?_
  dsimp only [Km, miX5_stage]
  refine R_iload_n dX5_stage_0 rfl rfl ?_
  refine R_iconst dX5_stage_1 ?_
  refine R_aload_n dX5_stage_2 rfl rfl ?_
  refine R_getI fRX5_64 dX5_stage_3 rfl (Nat.lt_of_lt_of_le (Nat.le_of_ble_eq_true rfl) hnx) ?_
  rw [show (I, Rs sw, nx, tl).1 48 4 = (sN S : Int) from g5]
  refine R_cS dX5_stage_6 kRX5_60 vX5_in ⟨(Nat.le_of_ble_eq_true rfl), (Nat.le_of_ble_eq_true rfl)⟩ (b_in l G _ _ _ _) rfl ⟨(Nat.le_of_ble_eq_true rfl), (Nat.le_of_ble_eq_true rfl)⟩ rfl (Nat.le_of_ble_eq_true rfl) (fun r σ' hq hn' => ?_)
  obtain ⟨⟨b6, rfl, hb6⟩, rfl⟩ := hq
  try simp (discharger := omega) only [wr_id] at hb6
  refine R_if_ne (tgt := 15) dX5_stage_9 (by decide) (fun c_9 => ?_) (fun c_9 => ?_)
  · first
    | (simp (discharger := omega) only [wr_id] at c_9; done)
    | (try simp (discharger := omega) only [wr_id] at c_9
       exfalso
       first | omega | exact c_9 trivial)
    | (try simp (discharger := omega) only [wr_id] at c_9
       refine R_aload_n dX5_stage_15 rfl rfl ?_
       refine R_cV dX5_stage_16 kRX5_71 vX5_measure ⟨(Nat.le_of_ble_eq_true rfl), (Nat.le_of_ble_eq_true rfl)⟩ (m_measure l G I sw nx tl hnx hR hO) rfl ⟨(Nat.le_of_ble_eq_true rfl), (Nat.le_of_ble_eq_true rfl)⟩ rfl (Nat.lt_of_lt_of_le (Nat.le_of_ble_eq_true rfl) hnx) rfl rfl (Nat.le_of_ble_eq_true rfl) (fun r σ' hq hn' => ?_)
       obtain ⟨J, rfl, rfl, hM, hF⟩ := hq
       obtain ⟨q1, q2, q3, q4, q5⟩ := hM k.toNat (by omega)
       have hfin : ∀ z : Int, z = o_stage S k w → QI sw nx tl (fun r I' => (∀ p, p < 48 → I' p = I p) ∧ r = some (ai (o_stage S k w)) ∧ RelM I' S) (some (ai z)) (J, Rs sw, nx, tl) := fun z hz => ⟨J, rfl, fun p hp => hF p (by omega), by rw [hz], fr_M hF hR⟩
       refine R_iload_n dX5_stage_19 rfl rfl ?_
       refine R_if_ne (tgt := 32) dX5_stage_20 (by decide) (fun c_20 => ?_) (fun c_20 => ?_)
       · first
         | (simp (discharger := omega) only [wr_id] at c_20; done)
         | (try simp (discharger := omega) only [wr_id] at c_20
            exfalso
            first | omega | exact c_20 trivial)
         | (try simp (discharger := omega) only [wr_id] at c_20
            refine R_iload_n dX5_stage_32 rfl rfl ?_
            refine R_iconst dX5_stage_33 ?_
            refine R_icmp_ne (tgt := 46) dX5_stage_34 (by decide) (fun c_34 => ?_) (fun c_34 => ?_)
            · first
              | (simp (discharger := omega) only [wr_id] at c_34; done)
              | (try simp (discharger := omega) only [wr_id] at c_34
                 exfalso
                 first | omega | exact c_34 trivial)
              | (try simp (discharger := omega) only [wr_id] at c_34
                 refine R_iload_n dX5_stage_46 rfl rfl ?_
                 refine R_iconst dX5_stage_47 ?_
                 refine R_icmp_ne (tgt := 60) dX5_stage_48 (by decide) (fun c_48 => ?_) (fun c_48 => ?_)
                 · first
                   | (simp (discharger := omega) only [wr_id] at c_48; done)
                   | (try simp (discharger := omega) only [wr_id] at c_48
                      exfalso
                      first | omega | exact c_48 trivial)
                   | (try simp (discharger := omega) only [wr_id] at c_48
                      refine R_iload_n dX5_stage_60 rfl rfl ?_
                      refine R_iconst dX5_stage_61 ?_
                      refine R_icmp_ne (tgt := 74) dX5_stage_62 (by decide) (fun c_62 => ?_) (fun c_62 => ?_)
                      · first
                        | (simp (discharger := omega) only [wr_id] at c_62; done)
                        | (try simp (discharger := omega) only [wr_id] at c_62
                           exfalso
                           first | omega | exact c_62 trivial)
                        | (try simp (discharger := omega) only [wr_id] at c_62
                           refine R_iload_n dX5_stage_74 rfl rfl ?_
                           refine R_iconst dX5_stage_75 ?_
                           refine R_icmp_ne (tgt := 88) dX5_stage_76 (by decide) (fun c_76 => ?_) (fun c_76 => ?_)
                           · first
                             | (simp (discharger := omega) only [wr_id] at c_76; done)
                             | (try simp (discharger := omega) only [wr_id] at c_76
                                exfalso
                                first | omega | exact c_76 trivial)
                             | (try simp (discharger := omega) only [wr_id] at c_76
                                refine R_bipush (z := (-102)) dX5_stage_88 rfl ?_
                                refine R_iret dX5_stage_90 rfl rfl rfl (Nat.le_refl _) ?_
                                refine hfin _ ?_
                                rw [o_stage, if_pos (by omega)]
                                first | (rw [if_pos (by omega)]; exact q1) | (rw [if_neg (by omega), if_pos (by omega)]; exact q2) | (rw [if_neg (by omega), if_neg (by omega), if_pos (by omega)]; exact q3) | (rw [if_neg (by omega), if_neg (by omega), if_neg (by omega), if_pos (by omega)]; exact q4) | (rw [if_neg (by omega), if_neg (by omega), if_neg (by omega), if_neg (by omega), if_pos (by omega)]; exact q5) | (rw [if_neg (by omega), if_neg (by omega), if_neg (by omega), if_neg (by omega), if_neg (by omega)]))
                           · first
                             | (simp (discharger := omega) only [wr_id] at c_76; done)
                             | (try simp (discharger := omega) only [wr_id] at c_76
                                exfalso
                                first | omega | exact c_76 trivial)
                             | (try simp (discharger := omega) only [wr_id] at c_76
                                refine R_aload_n dX5_stage_79 rfl rfl ?_
                                refine R_getA fRX5_48 dX5_stage_80 rfl (Nat.lt_of_lt_of_le (Nat.le_of_ble_eq_true rfl) hnx) rfl ?_
                                refine R_iload_n dX5_stage_83 rfl rfl ?_
                                refine R_iaload (k := k.toNat) dX5_stage_84 rfl (Nat.lt_of_lt_of_le (Nat.le_of_ble_eq_true rfl) hnx) (by omega) (by omega) (by decide) ?_
                                refine R_goto (tgt := 90) dX5_stage_85 (by decide) ?_
                                refine R_iret dX5_stage_90 rfl rfl rfl (Nat.le_refl _) ?_
                                refine hfin _ ?_
                                rw [o_stage, if_pos (by omega)]
                                first | (rw [if_pos (by omega)]; exact q1) | (rw [if_neg (by omega), if_pos (by omega)]; exact q2) | (rw [if_neg (by omega), if_neg (by omega), if_pos (by omega)]; exact q3) | (rw [if_neg (by omega), if_neg (by omega), if_neg (by omega), if_pos (by omega)]; exact q4) | (rw [if_neg (by omega), if_neg (by omega), if_neg (by omega), if_neg (by omega), if_pos (by omega)]; exact q5) | (rw [if_neg (by omega), if_neg (by omega), if_neg (by omega), if_neg (by omega), if_neg (by omega)])))
                      · first
                        | (simp (discharger := omega) only [wr_id] at c_62; done)
                        | (try simp (discharger := omega) only [wr_id] at c_62
                           exfalso
                           first | omega | exact c_62 trivial)
                        | (try simp (discharger := omega) only [wr_id] at c_62
                           refine R_aload_n dX5_stage_65 rfl rfl ?_
                           refine R_getA fRX5_45 dX5_stage_66 rfl (Nat.lt_of_lt_of_le (Nat.le_of_ble_eq_true rfl) hnx) rfl ?_
                           refine R_iload_n dX5_stage_69 rfl rfl ?_
                           refine R_iaload (k := k.toNat) dX5_stage_70 rfl (Nat.lt_of_lt_of_le (Nat.le_of_ble_eq_true rfl) hnx) (by omega) (by omega) (by decide) ?_
                           refine R_goto (tgt := 90) dX5_stage_71 (by decide) ?_
                           refine R_iret dX5_stage_90 rfl rfl rfl (Nat.le_refl _) ?_
                           refine hfin _ ?_
                           rw [o_stage, if_pos (by omega)]
                           first | (rw [if_pos (by omega)]; exact q1) | (rw [if_neg (by omega), if_pos (by omega)]; exact q2) | (rw [if_neg (by omega), if_neg (by omega), if_pos (by omega)]; exact q3) | (rw [if_neg (by omega), if_neg (by omega), if_neg (by omega), if_pos (by omega)]; exact q4) | (rw [if_neg (by omega), if_neg (by omega), if_neg (by omega), if_neg (by omega), if_pos (by omega)]; exact q5) | (rw [if_neg (by omega), if_neg (by omega), if_neg (by omega), if_neg (by omega), if_neg (by omega)])))
                 · first
                   | (simp (discharger := omega) only [wr_id] at c_48; done)
                   | (try simp (discharger := omega) only [wr_id] at c_48
                      exfalso
                      first | omega | exact c_48 trivial)
                   | (try simp (discharger := omega) only [wr_id] at c_48
                      refine R_aload_n dX5_stage_51 rfl rfl ?_
                      refine R_getA fRX5_42 dX5_stage_52 rfl (Nat.lt_of_lt_of_le (Nat.le_of_ble_eq_true rfl) hnx) rfl ?_
                      refine R_iload_n dX5_stage_55 rfl rfl ?_
                      refine R_iaload (k := k.toNat) dX5_stage_56 rfl (Nat.lt_of_lt_of_le (Nat.le_of_ble_eq_true rfl) hnx) (by omega) (by omega) (by decide) ?_
                      refine R_goto (tgt := 90) dX5_stage_57 (by decide) ?_
                      refine R_iret dX5_stage_90 rfl rfl rfl (Nat.le_refl _) ?_
                      refine hfin _ ?_
                      rw [o_stage, if_pos (by omega)]
                      first | (rw [if_pos (by omega)]; exact q1) | (rw [if_neg (by omega), if_pos (by omega)]; exact q2) | (rw [if_neg (by omega), if_neg (by omega), if_pos (by omega)]; exact q3) | (rw [if_neg (by omega), if_neg (by omega), if_neg (by omega), if_pos (by omega)]; exact q4) | (rw [if_neg (by omega), if_neg (by omega), if_neg (by omega), if_neg (by omega), if_pos (by omega)]; exact q5) | (rw [if_neg (by omega), if_neg (by omega), if_neg (by omega), if_neg (by omega), if_neg (by omega)])))
            · first
              | (simp (discharger := omega) only [wr_id] at c_34; done)
              | (try simp (discharger := omega) only [wr_id] at c_34
                 exfalso
                 first | omega | exact c_34 trivial)
              | (try simp (discharger := omega) only [wr_id] at c_34
                 refine R_aload_n dX5_stage_37 rfl rfl ?_
                 refine R_getA fRX5_39 dX5_stage_38 rfl (Nat.lt_of_lt_of_le (Nat.le_of_ble_eq_true rfl) hnx) rfl ?_
                 refine R_iload_n dX5_stage_41 rfl rfl ?_
                 refine R_iaload (k := k.toNat) dX5_stage_42 rfl (Nat.lt_of_lt_of_le (Nat.le_of_ble_eq_true rfl) hnx) (by omega) (by omega) (by decide) ?_
                 refine R_goto (tgt := 90) dX5_stage_43 (by decide) ?_
                 refine R_iret dX5_stage_90 rfl rfl rfl (Nat.le_refl _) ?_
                 refine hfin _ ?_
                 rw [o_stage, if_pos (by omega)]
                 first | (rw [if_pos (by omega)]; exact q1) | (rw [if_neg (by omega), if_pos (by omega)]; exact q2) | (rw [if_neg (by omega), if_neg (by omega), if_pos (by omega)]; exact q3) | (rw [if_neg (by omega), if_neg (by omega), if_neg (by omega), if_pos (by omega)]; exact q4) | (rw [if_neg (by omega), if_neg (by omega), if_neg (by omega), if_neg (by omega), if_pos (by omega)]; exact q5) | (rw [if_neg (by omega), if_neg (by omega), if_neg (by omega), if_neg (by omega), if_neg (by omega)])))
       · first
         | (simp (discharger := omega) only [wr_id] at c_20; done)
         | (try simp (discharger := omega) only [wr_id] at c_20
            exfalso
            first | omega | exact c_20 trivial)
         | (try simp (discharger := omega) only [wr_id] at c_20
            refine R_aload_n dX5_stage_23 rfl rfl ?_
            refine R_getA fRX5_36 dX5_stage_24 rfl (Nat.lt_of_lt_of_le (Nat.le_of_ble_eq_true rfl) hnx) rfl ?_
            refine R_iload_n dX5_stage_27 rfl rfl ?_
            refine R_iaload (k := k.toNat) dX5_stage_28 rfl (Nat.lt_of_lt_of_le (Nat.le_of_ble_eq_true rfl) hnx) (by omega) (by omega) (by decide) ?_
            refine R_goto (tgt := 90) dX5_stage_29 (by decide) ?_
            refine R_iret dX5_stage_90 rfl rfl rfl (Nat.le_refl _) ?_
            refine hfin _ ?_
            rw [o_stage, if_pos (by omega)]
            first | (rw [if_pos (by omega)]; exact q1) | (rw [if_neg (by omega), if_pos (by omega)]; exact q2) | (rw [if_neg (by omega), if_neg (by omega), if_pos (by omega)]; exact q3) | (rw [if_neg (by omega), if_neg (by omega), if_neg (by omega), if_pos (by omega)]; exact q4) | (rw [if_neg (by omega), if_neg (by omega), if_neg (by omega), if_neg (by omega), if_pos (by omega)]; exact q5) | (rw [if_neg (by omega), if_neg (by omega), if_neg (by omega), if_neg (by omega), if_neg (by omega)])))
  · first
    | (simp (discharger := omega) only [wr_id] at c_9; done)
    | (try simp (discharger := omega) only [wr_id] at c_9
       exfalso
       first | omega | exact c_9 trivial)
    | (try simp (discharger := omega) only [wr_id] at c_9
       refine R_bipush (z := (-101)) dX5_stage_12 rfl ?_
       refine R_iret dX5_stage_14 rfl rfl rfl (Nat.le_refl _) ?_
       rw [o_stage, if_neg (by omega)]
       exact ⟨I, rfl, fun _ _ => rfl, rfl, hR⟩)
theorem lp_count (I : Nat → Nat → Int) (sw : Bool) (nx : Nat) (tl : Nat → Nat) (hnx : 63 ≤ nx) (Q : Option AV → Sg → Prop) {S : Sp} (hR : RelM I S) (hO : OkS S) (w : Int) (hQ : Rr l G (Km G miX5_count 0 0 nx Q) 0 0 34 [ar 48, ai w, ai (nD S 256), ai 256] [] (I, Rs sw, nx, tl)) :
    ∀ (n i : Nat), 256 - i < n → i ≤ 256 → Rr l G (Km G miX5_count 0 0 nx Q) 0 0 4 [ar 48, ai w, ai (nD S i), ai i] [] (I, Rs sw, nx, tl) := by
  obtain ⟨g1, g2, g3, g4, g5, g6, g7, g8, g9⟩ := hR
  have o4 := hO.2.2.2.1
  intro n
  induction n with
  | zero => intro i h; omega
  | succ n ih =>
    intro i hn hi
    dsimp only [Km, miX5_count] at *
    have ih2 : ∀ z : Int, z = nD S (i + 1) → i < 256 → _ := fun z hz hlt => hz ▸ ih (i + 1) (by omega) (by omega)
    refine R_iload_n dX5_count_4 rfl rfl ?_
    refine R_sipush (z := 256) dX5_count_5 rfl ?_
    refine R_icmp_ge (tgt := 34) dX5_count_8 (by decide) (fun c_8 => ?_) (fun c_8 => ?_)
    · first
      | (simp (discharger := omega) only [wr_id] at c_8; done)
      | (try simp (discharger := omega) only [wr_id] at c_8
         exfalso
         first | omega | exact c_8 trivial)
      | (try simp (discharger := omega) only [wr_id] at c_8
         have e : i = 256 := by omega
         subst e
         exact hQ)
    · first
      | (simp (discharger := omega) only [wr_id] at c_8; done)
      | (try simp (discharger := omega) only [wr_id] at c_8
         exfalso
         first | omega | exact c_8 trivial)
      | (try simp (discharger := omega) only [wr_id] at c_8
         refine R_iload_n dX5_count_11 rfl rfl ?_
         refine R_aload_n dX5_count_12 rfl rfl ?_
         refine R_getA fRX5_20 dX5_count_13 rfl (Nat.lt_of_lt_of_le (Nat.le_of_ble_eq_true rfl) hnx) rfl ?_
         refine R_iload_n dX5_count_16 rfl rfl ?_
         refine R_baload (k := i) dX5_count_17 rfl (Nat.lt_of_lt_of_le (Nat.le_of_ble_eq_true rfl) hnx) (by omega) (by omega) (by decide) ?_
         have q := o4 i (by omega)
         rw [show (I, Rs sw, nx, tl).1 50 i = sD S i from g4 i (by omega)]
         refine R_if_eq (tgt := 25) dX5_count_18 (by decide) (fun c_18 => ?_) (fun c_18 => ?_)
         · first
           | (simp (discharger := omega) only [wr_id] at c_18; done)
           | (try simp (discharger := omega) only [wr_id] at c_18
              exfalso
              first | omega | exact c_18 trivial)
           | (try simp (discharger := omega) only [wr_id] at c_18
              refine R_iconst dX5_count_25 ?_
              refine R_iadd dX5_count_26 ?_
              refine R_istore_n dX5_count_27 rfl (Nat.le_of_ble_eq_true rfl) ?_
              refine R_iinc dX5_count_28 rfl (Nat.le_of_ble_eq_true rfl) ?_
              refine R_goto (tgt := 4) dX5_count_31 (by decide) ?_
              exact ih2 _ (by show _ = nD S i + sD S i; omega) (by omega))
         · first
           | (simp (discharger := omega) only [wr_id] at c_18; done)
           | (try simp (discharger := omega) only [wr_id] at c_18
              exfalso
              first | omega | exact c_18 trivial)
           | (try simp (discharger := omega) only [wr_id] at c_18
              refine R_iconst dX5_count_21 ?_
              refine R_goto (tgt := 26) dX5_count_22 (by decide) ?_
              refine R_iadd dX5_count_26 ?_
              refine R_istore_n dX5_count_27 rfl (Nat.le_of_ble_eq_true rfl) ?_
              refine R_iinc dX5_count_28 rfl (Nat.le_of_ble_eq_true rfl) ?_
              refine R_goto (tgt := 4) dX5_count_31 (by decide) ?_
              exact ih2 _ (by show _ = nD S i + sD S i; omega) (by omega)))
theorem m_count (I : Nat → Nat → Int) (sw : Bool) (nx : Nat) (tl : Nat → Nat) (hnx : 63 ≤ nx) (w : Int) (rw1 : inR w) {S : Sp} (hR : RelM I S) (hO : OkS S) : Mt l G miX5_count 0 0 [ar 48, ai w] (I, Rs sw, nx, tl) (fun r σ' => r = some (ai (o_count S w)) ∧ σ' = (I, Rs sw, nx, tl)) := by
  unfold inR at *
  obtain ⟨g1, g2, g3, g4, g5, g6, g7, g8, g9⟩ := id hR
  refine Mt.ofL (ls := [ar 48, ai w, none, none]) (by decide) (Nat.le_of_ble_eq_true rfl) rfl ?_
  dsimp only [Km, miX5_count]
  refine R_iconst dX5_count_0 ?_
  refine R_istore_n dX5_count_1 rfl (Nat.le_of_ble_eq_true rfl) ?_
  refine R_iconst dX5_count_2 ?_
  refine R_istore_n dX5_count_3 rfl (Nat.le_of_ble_eq_true rfl) ?_
  refine lp_count l G I sw nx tl hnx _ hR hO w ?_ 257 0 (by omega) (by omega)
  dsimp only [Km, miX5_count]
  refine R_iload_n dX5_count_34 rfl rfl ?_
  refine R_if_ne (tgt := 45) dX5_count_35 (by decide) (fun c_35 => ?_) (fun c_35 => ?_)
  · first
    | (simp (discharger := omega) only [wr_id] at c_35; done)
    | (try simp (discharger := omega) only [wr_id] at c_35
       exfalso
       first | omega | exact c_35 trivial)
    | (try simp (discharger := omega) only [wr_id] at c_35
       refine R_iload_n dX5_count_45 rfl rfl ?_
       refine R_iconst dX5_count_46 ?_
       refine R_icmp_ne (tgt := 57) dX5_count_47 (by decide) (fun c_47 => ?_) (fun c_47 => ?_)
       · first
         | (simp (discharger := omega) only [wr_id] at c_47; done)
         | (try simp (discharger := omega) only [wr_id] at c_47
            exfalso
            first | omega | exact c_47 trivial)
         | (try simp (discharger := omega) only [wr_id] at c_47
            refine R_iload_n dX5_count_57 rfl rfl ?_
            refine R_iconst dX5_count_58 ?_
            refine R_icmp_ne (tgt := 66) dX5_count_59 (by decide) (fun c_59 => ?_) (fun c_59 => ?_)
            · first
              | (simp (discharger := omega) only [wr_id] at c_59; done)
              | (try simp (discharger := omega) only [wr_id] at c_59
                 exfalso
                 first | omega | exact c_59 trivial)
              | (try simp (discharger := omega) only [wr_id] at c_59
                 refine R_iload_n dX5_count_66 rfl rfl ?_
                 refine R_iconst dX5_count_67 ?_
                 refine R_icmp_ne (tgt := 78) dX5_count_68 (by decide) (fun c_68 => ?_) (fun c_68 => ?_)
                 · first
                   | (simp (discharger := omega) only [wr_id] at c_68; done)
                   | (try simp (discharger := omega) only [wr_id] at c_68
                      exfalso
                      first | omega | exact c_68 trivial)
                   | (try simp (discharger := omega) only [wr_id] at c_68
                      refine R_bipush (z := (-102)) dX5_count_78 rfl ?_
                      refine R_iret dX5_count_80 rfl rfl rfl (Nat.le_refl _) ?_
                      refine ⟨sa ?_, rfl⟩
                      rw [o_count]
                      first | (rw [if_pos (by omega)]; exact g1) | (rw [if_neg (by omega), if_pos (by omega)]; exact g2) | (rw [if_neg (by omega), if_neg (by omega), if_pos (by omega)]; done) | (rw [if_neg (by omega), if_neg (by omega), if_neg (by omega), if_pos (by omega)]; exact g5) | (rw [if_neg (by omega), if_neg (by omega), if_neg (by omega), if_neg (by omega)]; done))
                 · first
                   | (simp (discharger := omega) only [wr_id] at c_68; done)
                   | (try simp (discharger := omega) only [wr_id] at c_68
                      exfalso
                      first | omega | exact c_68 trivial)
                   | (try simp (discharger := omega) only [wr_id] at c_68
                      refine R_aload_n dX5_count_71 rfl rfl ?_
                      refine R_getI fRX5_64 dX5_count_72 rfl (Nat.lt_of_lt_of_le (Nat.le_of_ble_eq_true rfl) hnx) ?_
                      refine R_goto (tgt := 80) dX5_count_75 (by decide) ?_
                      refine R_iret dX5_count_80 rfl rfl rfl (Nat.le_refl _) ?_
                      refine ⟨sa ?_, rfl⟩
                      rw [o_count]
                      first | (rw [if_pos (by omega)]; exact g1) | (rw [if_neg (by omega), if_pos (by omega)]; exact g2) | (rw [if_neg (by omega), if_neg (by omega), if_pos (by omega)]; done) | (rw [if_neg (by omega), if_neg (by omega), if_neg (by omega), if_pos (by omega)]; exact g5) | (rw [if_neg (by omega), if_neg (by omega), if_neg (by omega), if_neg (by omega)]; done)))
            · first
              | (simp (discharger := omega) only [wr_id] at c_59; done)
              | (try simp (discharger := omega) only [wr_id] at c_59
                 exfalso
                 first | omega | exact c_59 trivial)
              | (try simp (discharger := omega) only [wr_id] at c_59
                 refine R_iload_n dX5_count_62 rfl rfl ?_
                 refine R_goto (tgt := 80) dX5_count_63 (by decide) ?_
                 refine R_iret dX5_count_80 rfl rfl rfl (Nat.le_refl _) ?_
                 refine ⟨sa ?_, rfl⟩
                 rw [o_count]
                 first | (rw [if_pos (by omega)]; exact g1) | (rw [if_neg (by omega), if_pos (by omega)]; exact g2) | (rw [if_neg (by omega), if_neg (by omega), if_pos (by omega)]; done) | (rw [if_neg (by omega), if_neg (by omega), if_neg (by omega), if_pos (by omega)]; exact g5) | (rw [if_neg (by omega), if_neg (by omega), if_neg (by omega), if_neg (by omega)]; done)))
       · first
         | (simp (discharger := omega) only [wr_id] at c_47; done)
         | (try simp (discharger := omega) only [wr_id] at c_47
            exfalso
            first | omega | exact c_47 trivial)
         | (try simp (discharger := omega) only [wr_id] at c_47
            refine R_aload_n dX5_count_50 rfl rfl ?_
            refine R_getI fRX5_13 dX5_count_51 rfl (Nat.lt_of_lt_of_le (Nat.le_of_ble_eq_true rfl) hnx) ?_
            refine R_goto (tgt := 80) dX5_count_54 (by decide) ?_
            refine R_iret dX5_count_80 rfl rfl rfl (Nat.le_refl _) ?_
            refine ⟨sa ?_, rfl⟩
            rw [o_count]
            first | (rw [if_pos (by omega)]; exact g1) | (rw [if_neg (by omega), if_pos (by omega)]; exact g2) | (rw [if_neg (by omega), if_neg (by omega), if_pos (by omega)]; done) | (rw [if_neg (by omega), if_neg (by omega), if_neg (by omega), if_pos (by omega)]; exact g5) | (rw [if_neg (by omega), if_neg (by omega), if_neg (by omega), if_neg (by omega)]; done)))
  · first
    | (simp (discharger := omega) only [wr_id] at c_35; done)
    | (try simp (discharger := omega) only [wr_id] at c_35
       exfalso
       first | omega | exact c_35 trivial)
    | (try simp (discharger := omega) only [wr_id] at c_35
       refine R_aload_n dX5_count_38 rfl rfl ?_
       refine R_getI fRX5_7 dX5_count_39 rfl (Nat.lt_of_lt_of_le (Nat.le_of_ble_eq_true rfl) hnx) ?_
       refine R_goto (tgt := 80) dX5_count_42 (by decide) ?_
       refine R_iret dX5_count_80 rfl rfl rfl (Nat.le_refl _) ?_
       refine ⟨sa ?_, rfl⟩
       rw [o_count]
       first | (rw [if_pos (by omega)]; exact g1) | (rw [if_neg (by omega), if_pos (by omega)]; exact g2) | (rw [if_neg (by omega), if_neg (by omega), if_pos (by omega)]; done) | (rw [if_neg (by omega), if_neg (by omega), if_neg (by omega), if_pos (by omega)]; exact g5) | (rw [if_neg (by omega), if_neg (by omega), if_neg (by omega), if_neg (by omega)]; done))
end MODEL3
