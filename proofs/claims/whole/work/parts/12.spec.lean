/-! what the calls mean: a state of cells, path, numbers at hand; the stages' facts -/
abbrev Sp : Type := Nat × Nat × (Nat → Int) × (Nat → Int) × Nat × (Nat → Nat) × (Nat → Nat → Int) × (Nat → Int) × (Nat → Int)
def sW (S : Sp) : Nat := S.1
def sH (S : Sp) : Nat := S.2.1
def sC (S : Sp) : Nat → Int := S.2.2.1
def sD (S : Sp) : Nat → Int := S.2.2.2.1
def sN (S : Sp) : Nat := S.2.2.2.2.1
def sK (S : Sp) : Nat → Nat := S.2.2.2.2.2.1
def sT (S : Sp) : Nat → Nat → Int := S.2.2.2.2.2.2.1
def sE (S : Sp) : Nat → Int := S.2.2.2.2.2.2.2.1
def sP (S : Sp) : Nat → Int := S.2.2.2.2.2.2.2.2
def many (k : Nat) : Nat := if k = 0 then 1 else if k = 1 then 3 else if k = 5 then 9 else if k = 6 then 17 else 0
def fW (S : Sp) : Nat → Nat
  | 0 => sW S
  | k + 1 => if sK S k = 7 then fW S k / 2 else fW S k
def fH (S : Sp) : Nat → Nat
  | 0 => sH S
  | k + 1 => if sK S k = 7 then fH S k / 2 else fH S k
def fP (S : Sp) : Nat → Nat
  | 0 => 1
  | k + 1 => if sK S k = 4 then 3 else fP S k
def fS (S : Sp) : Nat → Nat
  | 0 => 1
  | k + 1 => if sK S k = 7 then 2 * fS S k else fS S k
def fL (S : Sp) : Nat → Nat
  | 0 => 0
  | k + 1 => fL S k + (if sK S k = 2 ∨ sK S k = 3 then 2 else if sK S k = 4 then 1 else if sK S k = 7 then fS S k else 0)
/-- what holds of one STEP -/
def OkJ (S : Sp) (j : Nat) : Prop := sK S j ≤ 7 ∧ (sK S j ≤ 4 → fP S j = 1) ∧ (4 < sK S j → fP S j = 3) ∧ (sK S j = 7 → 2 ≤ fW S j ∧ 2 ≤ fH S j) ∧
  (sK S j = 0 → 0 ≤ sT S j 0 ∧ sT S j 0 ≤ 1023) ∧ (sK S j = 1 → ∀ i, i < 3 → 0 ≤ sT S j i ∧ sT S j i ≤ 8000) ∧ (sK S j = 5 → ∀ i, i < 9 → -4000 ≤ sT S j i ∧ sT S j i ≤ 4000) ∧
  (sK S j = 6 → ∀ i, i < 17 → 0 ≤ sT S j i ∧ sT S j i ≤ 4095 ∧ (i < 16 → sT S j i ≤ sT S j (i + 1)))
def OkS (S : Sp) : Prop := (1 ≤ sW S ∧ sW S ≤ 16) ∧ (1 ≤ sH S ∧ sH S ≤ 16) ∧ (∀ k, k < 256 → 0 ≤ sC S k ∧ sC S k ≤ 1023) ∧ (∀ k, k < 256 → sD S k = 0 ∨ sD S k = 1) ∧ sN S ≤ 10 ∧ (∀ j, j < sN S → OkJ S j) ∧
  (∀ i, i < 9 → -4000 ≤ sE S i ∧ sE S i ≤ 4000) ∧ (∀ i, i < 17 → 0 ≤ sP S i ∧ sP S i ≤ 4095)
theorem fP_13 (S : Sp) : ∀ k, fP S k = 1 ∨ fP S k = 3
  | 0 => Or.inl rfl
  | k + 1 => by
    show (if sK S k = 4 then 3 else fP S k) = 1 ∨ (if sK S k = 4 then 3 else fP S k) = 3
    split
    · exact Or.inr rfl
    · exact fP_13 S k
theorem f_rng {S : Sp} (h : OkS S) : ∀ k, k ≤ sN S → (1 ≤ fW S k ∧ fW S k ≤ 16) ∧ (1 ≤ fH S k ∧ fH S k ≤ 16) ∧ (fP S k = 1 → fW S k = sW S ∧ fH S k = sH S)
  | 0, _ => ⟨h.1, h.2.1, fun _ => ⟨rfl, rfl⟩⟩
  | k + 1, hk => by
    obtain ⟨h1, h2, h3⟩ := f_rng h k (by omega)
    obtain ⟨-, h4, h5, h6, -⟩ := h.2.2.2.2.2.1 k (by omega)
    show (1 ≤ (if sK S k = 7 then fW S k / 2 else fW S k) ∧ (if sK S k = 7 then fW S k / 2 else fW S k) ≤ 16) ∧ (1 ≤ (if sK S k = 7 then fH S k / 2 else fH S k) ∧ (if sK S k = 7 then fH S k / 2 else fH S k) ≤ 16) ∧ ((if sK S k = 4 then 3 else fP S k) = 1 → (if sK S k = 7 then fW S k / 2 else fW S k) = sW S ∧ (if sK S k = 7 then fH S k / 2 else fH S k) = sH S)
    by_cases h7 : sK S k = 7
    · have := h6 h7
      have := h5 (by omega)
      simp only [h7, if_true]
      refine ⟨by omega, by omega, fun q => ?_⟩
      simp at q
      omega
    · simp only [h7, if_false]
      refine ⟨h1, h2, fun q => ?_⟩
      by_cases h8 : sK S k = 4
      · simp [h8] at q
      · simp only [h8, if_false] at q
        exact h3 q
theorem fS_le (S : Sp) : ∀ k, 1 ≤ fS S k ∧ fS S k ≤ 2 ^ k
  | 0 => ⟨Nat.le_refl 1, Nat.le_refl 1⟩
  | k + 1 => by
    have := fS_le S k
    show 1 ≤ (if sK S k = 7 then 2 * fS S k else fS S k) ∧ (if sK S k = 7 then 2 * fS S k else fS S k) ≤ 2 ^ (k + 1)
    have e : 2 ^ (k + 1) = 2 * 2 ^ k := by rw [Nat.pow_succ]; omega
    rw [e]
    split <;> omega
theorem fS_rng {S : Sp} {k : Nat} (h : k ≤ 10) : 1 ≤ fS S k ∧ fS S k ≤ 1024 := ⟨(fS_le S k).1, Nat.le_trans (fS_le S k).2 (Nat.pow_le_pow_right (by decide) h)⟩
theorem fL_le (S : Sp) : ∀ k, k ≤ 10 → fL S k ≤ 1026 * k
  | 0, _ => Nat.le_refl 0
  | k + 1, h => by
    have h1 := fL_le S k (by omega)
    have h2 := fS_rng (S := S) (k := k) (by omega)
    show fL S k + (if sK S k = 2 ∨ sK S k = 3 then 2 else if sK S k = 4 then 1 else if sK S k = 7 then fS S k else 0) ≤ _
    repeat' split
    all_goals omega
/-- the reference's memory says S -/
def RelM (I : Nat → Nat → Int) (S : Sp) : Prop := I 48 0 = sW S ∧ I 48 1 = sH S ∧ (∀ k, k < 256 → I 49 k = sC S k) ∧ (∀ k, k < 256 → I 50 k = sD S k) ∧ I 48 4 = sN S ∧ (∀ j, j < sN S → I 51 j = sK S j) ∧ (∀ j, j < sN S → ∀ i, i < many (sK S j) → I 52 (17 * j + i) = sT S j i) ∧ (∀ i, i < 9 → I 53 i = sE S i) ∧ (∀ i, i < 17 → I 54 i = sP S i)
/-- its stages are measured -/
def Ms (I : Nat → Nat → Int) (S : Sp) (n : Nat) : Prop := ∀ k, k ≤ n → I 55 k = fW S k ∧ I 56 k = fH S k ∧ I 57 k = fP S k ∧ I 58 k = fL S k ∧ I 59 k = fS S k
/-- a state in which only numbers have moved -/
def QI (sw : Bool) (nx : Nat) (tl : Nat → Nat) (P : Option AV → (Nat → Nat → Int) → Prop) : Option AV → Sg → Prop := fun r σ' => ∃ I', σ' = (I', Rs sw, nx, tl) ∧ P r I'
theorem RelM_of {I I' : Nat → Nat → Int} {S : Sp} (h : RelM I S) (hk : ∀ p, 48 ≤ p → p ≤ 54 → I' p = I p) : RelM I' S := by
  obtain ⟨h1, h2, h3, h4, h5, h6, h7, h8, h9⟩ := h
  refine ⟨by rw [hk _ (by decide) (by decide)]; exact h1, by rw [hk _ (by decide) (by decide)]; exact h2, fun k q => by rw [hk _ (by decide) (by decide)]; exact h3 k q, fun k q => by rw [hk _ (by decide) (by decide)]; exact h4 k q, by rw [hk _ (by decide) (by decide)]; exact h5, fun k q => by rw [hk _ (by decide) (by decide)]; exact h6 k q, fun k q i qi => by rw [hk _ (by decide) (by decide)]; exact h7 k q i qi, fun k q => by rw [hk _ (by decide) (by decide)]; exact h8 k q, fun k q => by rw [hk _ (by decide) (by decide)]; exact h9 k q⟩
theorem bDivN {x y : Nat} (hx : x < 2147483648) (hy : 0 < y) (hy2 : y < 2147483648) : bDiv x y = ((x / y : Nat) : Int) := by
  unfold bDiv
  rw [Int32.toInt_div, iI_toInt, iI_toInt, wr_id (by omega) (by omega), wr_id (by omega) (by omega), wr_bmod]
  have : (x : Int).tdiv y = ((x / y : Nat) : Int) := by
    rw [Int.tdiv_eq_ediv_of_nonneg (by omega)]
    rfl
  rw [this]
  have hq := Nat.div_le_self x y
  generalize x / y = q at *
  exact wr_id (by omega) (by omega)
/-! what each call answers, and the state behind it -/
def S_size (S : Sp) (w h : Nat) : Sp := (w, h, fun _ => 0, fun _ => 0, 0, sK S, sT S, sE S, sP S)
def o_size (S : Sp) (w h : Int) : Int × Sp := if (1 ≤ w ∧ w ≤ 16) ∧ (1 ≤ h ∧ h ≤ 16) then (w * h, S_size S w.toNat h.toNat) else (-102, S)
def ups (f : Nat → Int) (k : Nat) (v : Int) : Nat → Int := fun j => if j = k then v else f j
def o_cell (S : Sp) (x y v : Int) : Int × Sp := if (0 ≤ x ∧ x < sW S) ∧ (0 ≤ y ∧ y < sH S) then (if 0 ≤ v ∧ v ≤ 1023 then (sC S (16 * y + x).toNat, (sW S, sH S, ups (sC S) (16 * y + x).toNat v, sD S, sN S, sK S, sT S, sE S, sP S)) else (-102, S)) else (-101, S)
def o_dead (S : Sp) (x y v : Int) : Int × Sp := if (0 ≤ x ∧ x < sW S) ∧ (0 ≤ y ∧ y < sH S) then (sD S (16 * y + x).toNat, (sW S, sH S, sC S, ups (sD S) (16 * y + x).toNat v, sN S, sK S, sT S, sE S, sP S)) else (-101, S)
def o_entry (S : Sp) (i v : Int) : Int × Sp := if 0 ≤ i ∧ i ≤ 8 then (if -4000 ≤ v ∧ v ≤ 4000 then (sE S i.toNat, (sW S, sH S, sC S, sD S, sN S, sK S, sT S, ups (sE S) i.toNat v, sP S)) else (-102, S)) else (-101, S)
def o_point (S : Sp) (i v : Int) : Int × Sp := if 0 ≤ i ∧ i ≤ 16 then (if 0 ≤ v ∧ v ≤ 4095 then (sP S i.toNat, (sW S, sH S, sC S, sD S, sN S, sK S, sT S, sE S, ups (sP S) i.toNat v)) else (-102, S)) else (-101, S)
def o_undo (S : Sp) : Int × Sp := if sN S = 0 then (-103, S) else ((sN S - 1 : Nat), (sW S, sH S, sC S, sD S, sN S - 1, sK S, sT S, sE S, sP S))
def o_kind (S : Sp) (k : Int) : Int := if 0 ≤ k ∧ k < sN S then sK S k.toNat else -1
def bar (S : Sp) (k : Nat) : Int := if (if k ≤ 4 then fP S (sN S) = 1 else fP S (sN S) = 3) ∧ (k = 7 → 2 ≤ fW S (sN S) ∧ 2 ≤ fH S (sN S)) then (if sN S = 10 then -104 else 0) else -103
def S_add (S : Sp) (k : Nat) (f : Nat → Int) : Sp := (sW S, sH S, sC S, sD S, sN S + 1, fun j => if j = sN S then k else sK S j, fun j => if j = sN S then f else sT S j, sE S, sP S)
def o_add (S : Sp) (k : Nat) (f : Nat → Int) : Int × Sp := if bar S k = 0 then ((sN S + 1 : Nat), S_add S k f) else (bar S k, S)
def o_black (S : Sp) (k : Int) : Int × Sp := if 0 ≤ k ∧ k ≤ 1023 then o_add S 0 (fun _ => k) else (-102, S)
def o_gain (S : Sp) (r g b : Int) : Int × Sp := if (0 ≤ r ∧ r ≤ 8000) ∧ (0 ≤ g ∧ g ≤ 8000) ∧ (0 ≤ b ∧ b ≤ 8000) then o_add S 1 (fun i => if i = 0 then r else if i = 1 then g else b) else (-102, S)
def o_step (S : Sp) (k : Int) : Int × Sp := if k = 2 ∨ k = 3 ∨ k = 4 ∨ k = 7 then o_add S k.toNat (fun _ => 0) else (-102, S)
def o_matrix (S : Sp) : Int × Sp := o_add S 5 (sE S)
def o_curve (S : Sp) : Int × Sp := if ∀ i, i < 16 → sP S i ≤ sP S (i + 1) then o_add S 6 (sP S) else (-102, S)
def o_stage (S : Sp) (k w : Int) : Int := if 0 ≤ k ∧ k ≤ sN S then (if w = 0 then fW S k.toNat else if w = 1 then fH S k.toNat else if w = 2 then fP S k.toNat else if w = 3 then fL S k.toNat else if w = 4 then fS S k.toNat else -102) else -101
def nD (S : Sp) : Nat → Int
  | 0 => 0
  | k + 1 => nD S k + sD S k
def o_count (S : Sp) (w : Int) : Int := if w = 0 then sW S else if w = 1 then sH S else if w = 2 then nD S 256 else if w = 3 then sN S else -102
def inR (z : Int) : Prop := -2147483648 ≤ z ∧ z < 2147483648
