/-! leaves -/
def Rs (sw : Bool) : Nat → Nat → Option Nat := fun p k => match p with
  | 0 => [1, 4, 29, 42, 46, 47][k]?
  | 1 => [none, none, some 2, some 3].getD k none
  | 4 => [none, some 5, some 6, some 17].getD k none
  | 6 => if k < 10 then some (7 + k) else none
  | 17 => if k < 11 then some (18 + k) else none
  | 29 => [none, some 30].getD k none
  | 30 => if k < 11 then some (31 + k) else none
  | 42 => [some (if sw then 44 else 43), some (if sw then 43 else 44), some 45].getD k none
  | 48 => [none, none, some 49, some 50, none, some 51, some 52, some 53, some 54, some 55, some 56, some 57, some 58, some 59, some 60, some 61, some 62].getD k none
  | _ => none
theorem Mt.ofL {l : Launch} {G : GE} {mi : MI} {mc ms : Nat} {as : List AV} {σ : Sg} {Q : Option AV → Sg → Prop} {ls : List AV} (hy : plainName mi.1.cls = true) (hl : (entL as).length ≤ mi.2.2.1) (he : ent as mi.2.2.1 = ls) (k : Rr l G (Km G mi mc ms σ.2.2.1 Q) 0 0 0 ls [] σ) : Mt l G mi mc ms as σ Q := Mt.of hy hl (he ▸ k)
section LEAF
variable (l : Launch) (G : GE) (σ : Sg)
/-- isWithin -/
theorem t_isWithin (v a b : Int) : Mt l G miX4_isWithin 0 0 [ai v, ai a, ai b] σ (fun r σ' => r = some (ai (if wr a ≤ wr v ∧ wr v ≤ wr b then 1 else 0)) ∧ σ' = σ) := by
  refine Mt.ofL (ls := [ai v, ai a, ai b]) (by decide) (Nat.le_of_ble_eq_true rfl) rfl ?_
  dsimp only [Km, miX4_isWithin]
  refine R_iload_n dX4_isWithin_0 rfl rfl ?_
  refine R_iload_n dX4_isWithin_1 rfl rfl ?_
  refine R_icmp_lt (tgt := 14) dX4_isWithin_2 (by decide) (fun c_2 => ?_) (fun c_2 => ?_)
  · refine R_iconst dX4_isWithin_14 ?_
    refine R_zret dX4_isWithin_15 rfl rfl (by first | exact Or.inl rfl | exact Or.inr rfl | omega) rfl (Nat.le_refl _) ?_
    exact ⟨by congr 2; first | rw [if_pos (by omega)] | rw [if_neg (by omega)], rfl⟩
  · refine R_iload_n dX4_isWithin_5 rfl rfl ?_
    refine R_iload_n dX4_isWithin_6 rfl rfl ?_
    refine R_icmp_gt (tgt := 14) dX4_isWithin_7 (by decide) (fun c_7 => ?_) (fun c_7 => ?_)
    · refine R_iconst dX4_isWithin_14 ?_
      refine R_zret dX4_isWithin_15 rfl rfl (by first | exact Or.inl rfl | exact Or.inr rfl | omega) rfl (Nat.le_refl _) ?_
      exact ⟨by congr 2; first | rw [if_pos (by omega)] | rw [if_neg (by omega)], rfl⟩
    · refine R_iconst dX4_isWithin_10 ?_
      refine R_goto (tgt := 15) dX4_isWithin_11 (by decide) ?_
      refine R_zret dX4_isWithin_15 rfl rfl (by first | exact Or.inl rfl | exact Or.inr rfl | omega) rfl (Nat.le_refl _) ?_
      exact ⟨by congr 2; first | rw [if_pos (by omega)] | rw [if_neg (by omega)], rfl⟩
theorem t_in (v a b : Int) : Mt l G miX5_in 0 0 [ai v, ai a, ai b] σ (fun r σ' => r = some (ai (if wr a ≤ wr v ∧ wr v ≤ wr b then 1 else 0)) ∧ σ' = σ) := by
  refine Mt.ofL (ls := [ai v, ai a, ai b]) (by decide) (Nat.le_of_ble_eq_true rfl) rfl ?_
  dsimp only [Km, miX5_in]
  refine R_iload_n dX5_in_0 rfl rfl ?_
  refine R_iload_n dX5_in_1 rfl rfl ?_
  refine R_icmp_lt (tgt := 14) dX5_in_2 (by decide) (fun c_2 => ?_) (fun c_2 => ?_)
  · refine R_iconst dX5_in_14 ?_
    refine R_zret dX5_in_15 rfl rfl (by first | exact Or.inl rfl | exact Or.inr rfl | omega) rfl (Nat.le_refl _) ?_
    exact ⟨by congr 2; first | rw [if_pos (by omega)] | rw [if_neg (by omega)], rfl⟩
  · refine R_iload_n dX5_in_5 rfl rfl ?_
    refine R_iload_n dX5_in_6 rfl rfl ?_
    refine R_icmp_gt (tgt := 14) dX5_in_7 (by decide) (fun c_7 => ?_) (fun c_7 => ?_)
    · refine R_iconst dX5_in_14 ?_
      refine R_zret dX5_in_15 rfl rfl (by first | exact Or.inl rfl | exact Or.inr rfl | omega) rfl (Nat.le_refl _) ?_
      exact ⟨by congr 2; first | rw [if_pos (by omega)] | rw [if_neg (by omega)], rfl⟩
    · refine R_iconst dX5_in_10 ?_
      refine R_goto (tgt := 15) dX5_in_11 (by decide) ?_
      refine R_zret dX5_in_15 rfl rfl (by first | exact Or.inl rfl | exact Or.inr rfl | omega) rfl (Nat.le_refl _) ?_
      exact ⟨by congr 2; first | rw [if_pos (by omega)] | rw [if_neg (by omega)], rfl⟩
theorem t_placeOf (x y : Int) : Mt l G miX4_placeOf 0 0 [ai x, ai y] σ (fun r σ' => r = some (ai (y * 16 + x)) ∧ σ' = σ) := by
  refine Mt.ofL (ls := [ai x, ai y]) (by decide) (Nat.le_of_ble_eq_true rfl) rfl ?_
  dsimp only [Km, miX4_placeOf]
  refine R_iload_n dX4_placeOf_0 rfl rfl ?_
  refine R_bipush (z := 16) dX4_placeOf_1 rfl ?_
  refine R_imul dX4_placeOf_3 ?_
  refine R_iload_n dX4_placeOf_4 rfl rfl ?_
  refine R_iadd dX4_placeOf_5 ?_
  refine R_iret dX4_placeOf_6 rfl rfl rfl (Nat.le_refl _) ?_
  exact ⟨rfl, rfl⟩
theorem t_colourOf (x y : Int) : Mt l G miX4_colourOf 0 0 [ai x, ai y] σ (fun r σ' => r = some (ai (bAnd x 1 + bAnd y 1)) ∧ σ' = σ) := by
  refine Mt.ofL (ls := [ai x, ai y]) (by decide) (Nat.le_of_ble_eq_true rfl) rfl ?_
  dsimp only [Km, miX4_colourOf]
  refine R_iload_n dX4_colourOf_0 rfl rfl ?_
  refine R_iconst dX4_colourOf_1 ?_
  refine R_iand dX4_colourOf_2 ?_
  refine R_iload_n dX4_colourOf_3 rfl rfl ?_
  refine R_iconst dX4_colourOf_4 ?_
  refine R_iand dX4_colourOf_5 ?_
  refine R_iadd dX4_colourOf_6 ?_
  refine R_iret dX4_colourOf_7 rfl rfl rfl (Nat.le_refl _) ?_
  exact ⟨rfl, rfl⟩
theorem t_made (I : Nat → Nat → Int) (sw : Bool) (nx : Nat) (tl : Nat → Nat) (hnx : 63 ≤ nx) (x y p : Nat) (hx : x < 16) (hy : y < 16) (hp : p < 3) : Mt l G miX2_made 0 0 [ar 42, ai x, ai y, ai p] (I, Rs sw, nx, tl) (fun r σ' => r = some (ai (I (if sw then 44 else 43) (p * 256 + y * 16 + x))) ∧ σ' = (I, Rs sw, nx, tl)) := by
  refine Mt.ofL (ls := [ar 42, ai x, ai y, ai p]) (by decide) (Nat.le_of_ble_eq_true rfl) rfl ?_
  dsimp only [Km, miX2_made]
  refine R_aload_n dX2_made_0 rfl rfl ?_
  refine R_getA fRX2_9 dX2_made_1 rfl (Nat.lt_of_lt_of_le (Nat.le_of_ble_eq_true rfl) hnx) rfl ?_
  refine R_iload_n dX2_made_4 rfl rfl ?_
  refine R_sipush (z := 256) dX2_made_5 rfl ?_
  refine R_imul dX2_made_8 ?_
  refine R_iload_n dX2_made_9 rfl rfl ?_
  refine R_bipush (z := 16) dX2_made_10 rfl ?_
  refine R_imul dX2_made_12 ?_
  refine R_iadd dX2_made_13 ?_
  refine R_iload_n dX2_made_14 rfl rfl ?_
  refine R_iadd dX2_made_15 ?_
  refine R_iaload (k := p * 256 + y * 16 + x) dX2_made_16 (by cases sw <;> rfl) (by cases sw <;> exact Nat.lt_of_lt_of_le (Nat.le_of_ble_eq_true rfl) hnx) (by omega) (by omega) (by decide : (768 : Nat) < 2147483648) ?_
  refine R_iret dX2_made_17 rfl rfl rfl (Nat.le_refl _) ?_
  exact ⟨rfl, rfl⟩
end LEAF
