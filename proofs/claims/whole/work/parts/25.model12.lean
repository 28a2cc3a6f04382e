/-! the reference: mix, many, touch, forget -/
section MODEL12
variable (l : Launch) (G : GE)
theorem m_mix (I : Nat → Nat → Int) (sw : Bool) (nx : Nat) (tl : Nat → Nat) (hnx : 63 ≤ nx) (v : Int) : Mt l G miX5_mix 0 0 [ar 48, al v] (I, Rs sw, nx, tl) (fun r σ' => r = none ∧ σ' = (up2 I 48 17 (31 * I 48 17 + v), Rs sw, nx, tl)) := by
  refine Mt.ofL (ls := [ar 48, al v, none]) (by decide) (Nat.le_of_ble_eq_true rfl) rfl ?_
  dsimp only [Km, miX5_mix]
  refine R_aload_n dX5_mix_0 rfl rfl ?_
  refine R_ldc2 (z := 31) dX5_mix_1 wLRX5_145 ?_
  refine R_aload_n dX5_mix_4 rfl rfl ?_
  refine R_getL fRX5_147 dX5_mix_5 rfl (Nat.lt_of_lt_of_le (Nat.le_of_ble_eq_true rfl) hnx) ?_
  refine R_lmul dX5_mix_8 ?_
  refine R_lload_n dX5_mix_9 rfl rfl ?_
  refine R_ladd dX5_mix_10 ?_
  refine R_putL fRX5_147 dX5_mix_11 fp_5_17 (fv_5_17 _ _) rfl (Nat.lt_of_lt_of_le (Nat.le_of_ble_eq_true rfl) hnx) ?_
  refine R_vret dX5_mix_14 rfl rfl rfl (Nat.le_refl _) ?_
  exact ⟨rfl, rfl⟩
theorem m_many (σ : Sg) (k : Nat) (hk : k ≤ 7) : Mt l G miX5_many 0 0 [ai k] σ (fun r σ' => r = some (ai (many k)) ∧ σ' = σ) := by
  refine Mt.ofL (ls := [ai k]) (by decide) (Nat.le_of_ble_eq_true rfl) rfl ?_
  dsimp only [Km, miX5_many]
  refine R_iload_n dX5_many_0 rfl rfl ?_
  refine R_if_ne (tgt := 8) dX5_many_1 (by decide) (fun c_1 => ?_) (fun c_1 => ?_)
  · first
    | (simp (discharger := omega) only [wr_id] at c_1; done)
    | (try simp (discharger := omega) only [wr_id] at c_1
       exfalso
       first | omega | exact c_1 trivial)
    | (try simp (discharger := omega) only [wr_id] at c_1
       refine R_iload_n dX5_many_8 rfl rfl ?_
       refine R_iconst dX5_many_9 ?_
       refine R_icmp_ne (tgt := 17) dX5_many_10 (by decide) (fun c_10 => ?_) (fun c_10 => ?_)
       · first
         | (simp (discharger := omega) only [wr_id] at c_10; done)
         | (try simp (discharger := omega) only [wr_id] at c_10
            exfalso
            first | omega | exact c_10 trivial)
         | (try simp (discharger := omega) only [wr_id] at c_10
            refine R_iload_n dX5_many_17 rfl rfl ?_
            refine R_iconst dX5_many_18 ?_
            refine R_icmp_ne (tgt := 27) dX5_many_19 (by decide) (fun c_19 => ?_) (fun c_19 => ?_)
            · first
              | (simp (discharger := omega) only [wr_id] at c_19; done)
              | (try simp (discharger := omega) only [wr_id] at c_19
                 exfalso
                 first | omega | exact c_19 trivial)
              | (try simp (discharger := omega) only [wr_id] at c_19
                 refine R_iload_n dX5_many_27 rfl rfl ?_
                 refine R_bipush (z := 6) dX5_many_28 rfl ?_
                 refine R_icmp_ne (tgt := 38) dX5_many_30 (by decide) (fun c_30 => ?_) (fun c_30 => ?_)
                 · first
                   | (simp (discharger := omega) only [wr_id] at c_30; done)
                   | (try simp (discharger := omega) only [wr_id] at c_30
                      exfalso
                      first | omega | exact c_30 trivial)
                   | (try simp (discharger := omega) only [wr_id] at c_30
                      refine R_iconst dX5_many_38 ?_
                      refine R_iret dX5_many_39 rfl rfl rfl (Nat.le_refl _) ?_
                      refine ⟨sa ?_, rfl⟩
                      unfold many
                      first | (rw [if_pos (by omega)]; rfl) | (rw [if_neg (by omega), if_pos (by omega)]; rfl) | (rw [if_neg (by omega), if_neg (by omega), if_pos (by omega)]; rfl) | (rw [if_neg (by omega), if_neg (by omega), if_neg (by omega), if_pos (by omega)]; rfl) | (rw [if_neg (by omega), if_neg (by omega), if_neg (by omega), if_neg (by omega)]; rfl))
                 · first
                   | (simp (discharger := omega) only [wr_id] at c_30; done)
                   | (try simp (discharger := omega) only [wr_id] at c_30
                      exfalso
                      first | omega | exact c_30 trivial)
                   | (try simp (discharger := omega) only [wr_id] at c_30
                      refine R_bipush (z := 17) dX5_many_33 rfl ?_
                      refine R_goto (tgt := 39) dX5_many_35 (by decide) ?_
                      refine R_iret dX5_many_39 rfl rfl rfl (Nat.le_refl _) ?_
                      refine ⟨sa ?_, rfl⟩
                      unfold many
                      first | (rw [if_pos (by omega)]; rfl) | (rw [if_neg (by omega), if_pos (by omega)]; rfl) | (rw [if_neg (by omega), if_neg (by omega), if_pos (by omega)]; rfl) | (rw [if_neg (by omega), if_neg (by omega), if_neg (by omega), if_pos (by omega)]; rfl) | (rw [if_neg (by omega), if_neg (by omega), if_neg (by omega), if_neg (by omega)]; rfl)))
            · first
              | (simp (discharger := omega) only [wr_id] at c_19; done)
              | (try simp (discharger := omega) only [wr_id] at c_19
                 exfalso
                 first | omega | exact c_19 trivial)
              | (try simp (discharger := omega) only [wr_id] at c_19
                 refine R_bipush (z := 9) dX5_many_22 rfl ?_
                 refine R_goto (tgt := 39) dX5_many_24 (by decide) ?_
                 refine R_iret dX5_many_39 rfl rfl rfl (Nat.le_refl _) ?_
                 refine ⟨sa ?_, rfl⟩
                 unfold many
                 first | (rw [if_pos (by omega)]; rfl) | (rw [if_neg (by omega), if_pos (by omega)]; rfl) | (rw [if_neg (by omega), if_neg (by omega), if_pos (by omega)]; rfl) | (rw [if_neg (by omega), if_neg (by omega), if_neg (by omega), if_pos (by omega)]; rfl) | (rw [if_neg (by omega), if_neg (by omega), if_neg (by omega), if_neg (by omega)]; rfl)))
       · first
         | (simp (discharger := omega) only [wr_id] at c_10; done)
         | (try simp (discharger := omega) only [wr_id] at c_10
            exfalso
            first | omega | exact c_10 trivial)
         | (try simp (discharger := omega) only [wr_id] at c_10
            refine R_iconst dX5_many_13 ?_
            refine R_goto (tgt := 39) dX5_many_14 (by decide) ?_
            refine R_iret dX5_many_39 rfl rfl rfl (Nat.le_refl _) ?_
            refine ⟨sa ?_, rfl⟩
            unfold many
            first | (rw [if_pos (by omega)]; rfl) | (rw [if_neg (by omega), if_pos (by omega)]; rfl) | (rw [if_neg (by omega), if_neg (by omega), if_pos (by omega)]; rfl) | (rw [if_neg (by omega), if_neg (by omega), if_neg (by omega), if_pos (by omega)]; rfl) | (rw [if_neg (by omega), if_neg (by omega), if_neg (by omega), if_neg (by omega)]; rfl)))
  · first
    | (simp (discharger := omega) only [wr_id] at c_1; done)
    | (try simp (discharger := omega) only [wr_id] at c_1
       exfalso
       first | omega | exact c_1 trivial)
    | (try simp (discharger := omega) only [wr_id] at c_1
       refine R_iconst dX5_many_4 ?_
       refine R_goto (tgt := 39) dX5_many_5 (by decide) ?_
       refine R_iret dX5_many_39 rfl rfl rfl (Nat.le_refl _) ?_
       refine ⟨sa ?_, rfl⟩
       unfold many
       first | (rw [if_pos (by omega)]; rfl) | (rw [if_neg (by omega), if_pos (by omega)]; rfl) | (rw [if_neg (by omega), if_neg (by omega), if_pos (by omega)]; rfl) | (rw [if_neg (by omega), if_neg (by omega), if_neg (by omega), if_pos (by omega)]; rfl) | (rw [if_neg (by omega), if_neg (by omega), if_neg (by omega), if_neg (by omega)]; rfl))
theorem m_touch (I : Nat → Nat → Int) (sw : Bool) (nx : Nat) (tl : Nat → Nat) (hnx : 63 ≤ nx) (k p : Nat) (a b : Int) (ra : inR a) (rb : inR b) {S : Sp} (hk : k ≤ sN S) (hp : p < 3) (hO : OkS S) (hM : Ms I S (sN S)) : Mt l G miX5_touch 0 0 [ar 48, ai k, ai a, ai b, ai p] (I, Rs sw, nx, tl) (fun r σ' => r = none ∧ σ' = ((if (0 ≤ a ∧ a < fW S k) ∧ (0 ≤ b ∧ b < fH S k) then up2 I 61 (768 * k + 3 * (16 * b.toNat + a.toNat) + p) 1 else I), Rs sw, nx, tl)) := by
  have o5 := hO.2.2.2.2.1
  have r1 := (f_rng hO k hk).1
  have r2 := (f_rng hO k hk).2.1
  refine Mt.ofL (ls := [ar 48, ai k, ai a, ai b, ai p]) (by decide) (Nat.le_of_ble_eq_true rfl) rfl ?_
  dsimp only [Km, miX5_touch]
  refine R_aload_n dX5_touch_0 rfl rfl ?_
  refine R_iload_n dX5_touch_1 rfl rfl ?_
  refine R_iload_n dX5_touch_2 rfl rfl ?_
  refine R_iload_n dX5_touch_3 rfl rfl ?_
  refine R_cV dX5_touch_4 kRX5_95 vX5_isPlace ⟨(Nat.le_of_ble_eq_true rfl), (Nat.le_of_ble_eq_true rfl)⟩ (m_isPlace l G I sw nx tl hnx k _ _ ra rb hk hO hM) rfl ⟨(Nat.le_of_ble_eq_true rfl), (Nat.le_of_ble_eq_true rfl)⟩ rfl (Nat.lt_of_lt_of_le (Nat.le_of_ble_eq_true rfl) hnx) rfl rfl (Nat.le_of_ble_eq_true rfl) (fun r σ' hq hn' => ?_)
  obtain ⟨⟨b4, rfl, hb4⟩, rfl⟩ := hq
  refine R_if_eq (tgt := 24) dX5_touch_7 (by decide) (fun c_7 => ?_) (fun c_7 => ?_)
  · first
    | (simp (discharger := omega) only [wr_id] at c_7; done)
    | (try simp (discharger := omega) only [wr_id] at c_7
       exfalso
       first | omega | exact c_7 trivial)
    | (try simp (discharger := omega) only [wr_id] at c_7
       refine R_vret dX5_touch_24 rfl rfl rfl (Nat.le_refl _) ?_
       first
       | (exact ⟨rfl, by rw [if_pos (by omega)]⟩)
       | (exact ⟨rfl, by rw [if_neg (by omega)]⟩))
  · first
    | (simp (discharger := omega) only [wr_id] at c_7; done)
    | (try simp (discharger := omega) only [wr_id] at c_7
       exfalso
       first | omega | exact c_7 trivial)
    | (try simp (discharger := omega) only [wr_id] at c_7
       refine R_aload_n dX5_touch_10 rfl rfl ?_
       refine R_getA fRX5_54 dX5_touch_11 rfl (Nat.lt_of_lt_of_le (Nat.le_of_ble_eq_true rfl) hnx) rfl ?_
       refine R_iload_n dX5_touch_14 rfl rfl ?_
       refine R_iload_n dX5_touch_15 rfl rfl ?_
       refine R_iload_n dX5_touch_16 rfl rfl ?_
       refine R_iload dX5_touch_17 rfl ?_
       refine R_cS dX5_touch_19 kRX5_85 vX5_place ⟨(Nat.le_of_ble_eq_true rfl), (Nat.le_of_ble_eq_true rfl)⟩ (m_place l G _ _ _ _ _) rfl ⟨(Nat.le_of_ble_eq_true rfl), (Nat.le_of_ble_eq_true rfl)⟩ rfl (Nat.le_of_ble_eq_true rfl) (fun r σ' hq hn' => ?_)
       obtain ⟨rfl, rfl⟩ := hq
       refine R_iconst dX5_touch_22 ?_
       refine R_bastore (k := 768 * k + 3 * (16 * b.toNat + a.toNat) + p) dX5_touch_23 rfl (Nat.lt_of_lt_of_le (Nat.le_of_ble_eq_true rfl) hnx) (by omega) (by omega) (by decide) (by omega) ?_
       refine R_vret dX5_touch_24 rfl rfl rfl (Nat.le_refl _) ?_
       first
       | (exact ⟨rfl, by rw [if_pos (by omega)]⟩)
       | (exact ⟨rfl, by rw [if_neg (by omega)]⟩))
theorem lp_forget (I : Nat → Nat → Int) (sw : Bool) (nx : Nat) (tl : Nat → Nat) (hnx : 63 ≤ nx) (Q : Option AV → Sg → Prop) (hQ : ∀ J : Nat → Nat → Int, (∀ k, k < 8448 → J 61 k = 0) → (∀ p, p ≠ 61 → J p = I p) → Q none (J, Rs sw, nx, tl)) :
    ∀ (n i : Nat) (J : Nat → Nat → Int), 8448 - i < n → i ≤ 8448 → (∀ k, k < i → J 61 k = 0) → (∀ p, p ≠ 61 → J p = I p) → Rr l G (Km G miX5_forget 0 0 nx Q) 0 0 6 [ar 48, ai i] [] (J, Rs sw, nx, tl) := by
  intro n
  induction n with
  | zero => intro i J h; omega
  | succ n ih =>
    intro i J hn hi hJ hF
    dsimp only [Km, miX5_forget] at *
    refine R_iload_n dX5_forget_6 rfl rfl ?_
    refine R_sipush (z := 8448) dX5_forget_7 rfl ?_
    refine R_icmp_ge (tgt := 26) dX5_forget_10 (by decide) (fun c_10 => ?_) (fun c_10 => ?_)
    · first
      | (simp (discharger := omega) only [wr_id] at c_10; done)
      | (try simp (discharger := omega) only [wr_id] at c_10
         exfalso
         first | omega | exact c_10 trivial)
      | (try simp (discharger := omega) only [wr_id] at c_10
         have e : i = 8448 := by omega
         subst e
         exact R_vret dX5_forget_26 rfl rfl rfl (Nat.le_refl _) (hQ J hJ hF))
    · first
      | (simp (discharger := omega) only [wr_id] at c_10; done)
      | (try simp (discharger := omega) only [wr_id] at c_10
         exfalso
         first | omega | exact c_10 trivial)
      | (try simp (discharger := omega) only [wr_id] at c_10
         refine R_aload_n dX5_forget_13 rfl rfl ?_
         refine R_getA fRX5_54 dX5_forget_14 rfl (Nat.lt_of_lt_of_le (Nat.le_of_ble_eq_true rfl) hnx) rfl ?_
         refine R_iload_n dX5_forget_17 rfl rfl ?_
         refine R_iconst dX5_forget_18 ?_
         refine R_bastore (k := i) dX5_forget_19 rfl (Nat.lt_of_lt_of_le (Nat.le_of_ble_eq_true rfl) hnx) (by omega) (by omega) (by decide) (by omega) ?_
         refine R_iinc dX5_forget_20 rfl (Nat.le_of_ble_eq_true rfl) ?_
         refine R_goto (tgt := 6) dX5_forget_23 (by decide) ?_
         refine ih (i + 1) _ (by omega) (by omega) (fun k hk => ?_) (fun p hp => by rw [up2_ne _ _ _ hp]; exact hF p hp)
         rw [up2_self]
         dsimp only
         split
         · rfl
         · exact hJ k (by omega))
theorem m_forget (I : Nat → Nat → Int) (sw : Bool) (nx : Nat) (tl : Nat → Nat) (hnx : 63 ≤ nx) {S : Sp} (hR : RelM I S) (hO : OkS S) : Mt l G miX5_forget 0 0 [ar 48] (I, Rs sw, nx, tl) (QI sw nx tl (fun r I' => r = none ∧ Ms I' S (sN S) ∧ RelM I' S ∧ (∀ k, k < 8448 → I' 61 k = 0) ∧ (∀ p, p < 48 → I' p = I p))) := by
  refine Mt.ofL (ls := [ar 48, none]) (by decide) (Nat.le_of_ble_eq_true rfl) rfl ?_
  dsimp only [Km, miX5_forget]
  refine R_aload_n dX5_forget_0 rfl rfl ?_
  refine R_cV dX5_forget_1 kRX5_71 vX5_measure ⟨(Nat.le_of_ble_eq_true rfl), (Nat.le_of_ble_eq_true rfl)⟩ (m_measure l G I sw nx tl hnx hR hO) rfl ⟨(Nat.le_of_ble_eq_true rfl), (Nat.le_of_ble_eq_true rfl)⟩ rfl (Nat.lt_of_lt_of_le (Nat.le_of_ble_eq_true rfl) hnx) rfl rfl (Nat.le_of_ble_eq_true rfl) (fun r σ' hq hn' => ?_)
  obtain ⟨J, rfl, rfl, hM, hF⟩ := hq
  refine R_iconst dX5_forget_4 ?_
  refine R_istore_n dX5_forget_5 rfl (Nat.le_of_ble_eq_true rfl) ?_
  refine lp_forget l G J sw nx tl hnx _ (fun J2 h1 h2 => ⟨J2, rfl, rfl, fun q hq => ?_, RelM_of (fr_M hF hR) (fun p h3 h4 => h2 p (by omega)), h1, fun p hp => by rw [h2 p (by omega)]; exact hF p (by omega)⟩) 8449 0 J (by omega) (by omega) (fun k hk => by omega) (fun _ _ => rfl)
  rw [h2 55 (by decide), h2 56 (by decide), h2 57 (by decide), h2 58 (by decide), h2 59 (by decide)]
  exact hM q hq
end MODEL12
