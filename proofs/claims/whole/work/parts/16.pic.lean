/-! pictures: what each STEP makes of the stage ahead -/
def cl (x y : Nat) : Nat := x % 2 + y % 2
/-- the place that way w names, if there is one (in W by H) -/
def nr (W H w x y : Nat) : Option (Nat × Nat) := if w = 0 then (if 2 ≤ x then some (x - 2, y) else none) else if w = 1 then (if x + 2 < W then some (x + 2, y) else none) else if w = 2 then (if 2 ≤ y then some (x, y - 2) else none) else (if y + 2 < H then some (x, y + 2) else none)
/-- of the first n ways: the sum of the cells near that aren't DEAD, and how many there are -/
def nS (W H : Nat) (d : Nat → Int) (F : Nat → Nat → Nat → Int) (x y : Nat) : Nat → Int
  | 0 => 0
  | w + 1 => match nr W H w x y with
    | some q => if d (16 * q.2 + q.1) = 0 then nS W H d F x y w + F q.1 q.2 0 else nS W H d F x y w
    | none => nS W H d F x y w
def nM (W H : Nat) (d : Nat → Int) (x y : Nat) : Nat → Nat
  | 0 => 0
  | w + 1 => match nr W H w x y with
    | some q => if d (16 * q.2 + q.1) = 0 then nM W H d x y w + 1 else nM W H d x y w
    | none => nM W H d x y w
/-- the five that MIDDLE looks at -/
def f5 (W H : Nat) (F : Nat → Nat → Nat → Int) (x y w : Nat) : Int := if w = 4 then F x y 0 else match nr W H w x y with
  | some q => F q.1 q.2 0
  | none => F x y 0
/-- v is put to its place among those ahead of a -/
def sh (f : Nat → Int) (v : Int) : Nat → Nat → Int
  | 0 => ups f 0 v
  | a + 1 => if v < f a then sh (ups f (a + 1) (f a)) v a else ups f (a + 1) v
def so (f : Nat → Int) : Nat → Nat → Int
  | 0 => f
  | i + 1 => sh (so f i) (so f i (i + 1)) (i + 1)
/-- of the row b, of the first n places from x - 1 on: the sum of those of colour p, and how many -/
def inS (W H : Nat) (a b : Int) : Prop := (0 ≤ a ∧ a < W) ∧ (0 ≤ b ∧ b < H)
def cC (W H p : Nat) (a b : Int) : Bool := decide ((0 ≤ a ∧ a < W) ∧ (0 ≤ b ∧ b < H) ∧ cl a.toNat b.toNat = p)
def rS (W H p : Nat) (F : Nat → Nat → Nat → Int) (x : Nat) (b : Int) : Nat → Int
  | 0 => 0
  | n + 1 => if cC W H p ((x : Int) - 1 + n) b = true then rS W H p F x b n + F ((x : Int) - 1 + n).toNat b.toNat 0 else rS W H p F x b n
def rM (W H p : Nat) (x : Nat) (b : Int) : Nat → Nat
  | 0 => 0
  | n + 1 => if cC W H p ((x : Int) - 1 + n) b = true then rM W H p x b n + 1 else rM W H p x b n
def tS (W H p : Nat) (F : Nat → Nat → Nat → Int) (x y : Nat) : Nat → Int
  | 0 => 0
  | n + 1 => tS W H p F x y n + rS W H p F x ((y : Int) - 1 + n) 3
def tM (W H p : Nat) (x y : Nat) : Nat → Nat
  | 0 => 0
  | n + 1 => tM W H p x y n + rM W H p x ((y : Int) - 1 + n) 3
def mX (t : Nat → Int) (F : Nat → Nat → Nat → Int) (x y p : Nat) : Nat → Int
  | 0 => 0
  | n + 1 => mX t F x y p n + t (3 * p + n) * F x y n
def hX (F : Nat → Nat → Nat → Int) (x y p : Nat) : Nat → Int
  | 0 => 0
  | n + 1 => hX F x y p n + F (2 * x + n % 2) (2 * y + n / 2) p
/-- the number that STEP k makes, not yet brought to 0 to 4095 -/
def mkS (S : Sp) (k : Nat) (F : Nat → Nat → Nat → Int) (x y p : Nat) : Int :=
  if sK S k = 0 then F x y p - sT S k 0
  else if sK S k = 1 then F x y p * sT S k (cl x y) / 1000
  else if sK S k = 2 then (if sD S (16 * y + x) = 0 then F x y 0 else if nM (fW S k) (fH S k) (sD S) x y 4 = 0 then F x y 0 else nS (fW S k) (fH S k) (sD S) F x y 4 / nM (fW S k) (fH S k) (sD S) x y 4)
  else if sK S k = 3 then so (f5 (fW S k) (fH S k) F x y) 4 2
  else if sK S k = 4 then (if cl x y = p then F x y 0 else if tM (fW S k) (fH S k) p x y 3 = 0 then 0 else tS (fW S k) (fH S k) p F x y 3 / tM (fW S k) (fH S k) p x y 3)
  else if sK S k = 5 then (if mX (sT S k) F x y p 3 < 0 then 0 else mX (sT S k) F x y p 3 / 1000)
  else if sK S k = 6 then sT S k (F x y p / 256).toNat + (sT S k ((F x y p / 256).toNat + 1) - sT S k (F x y p / 256).toNat) * (F x y p % 256) / 256
  else hX F x y p 4 / 4
def clamp (v : Int) : Int := if v < 0 then 0 else if 4095 < v then 4095 else v
def pic (S : Sp) : Nat → Nat → Nat → Nat → Int
  | 0 => fun x y _ => sC S (16 * y + x)
  | k + 1 => fun x y p => clamp (mkS S k (pic S k) x y p)
theorem clamp_rng (v : Int) : 0 ≤ clamp v ∧ clamp v ≤ 4095 := by
  unfold clamp
  split
  · omega
  · split <;> omega
theorem pic_rng {S : Sp} (h : OkS S) (k : Nat) {x y : Nat} (p : Nat) (hx : x < 16) (hy : y < 16) : 0 ≤ pic S k x y p ∧ pic S k x y p ≤ 4095 := by
  cases k with
  | zero =>
    have := h.2.2.1 (16 * y + x) (by omega)
    show 0 ≤ sC S (16 * y + x) ∧ sC S (16 * y + x) ≤ 4095
    omega
  | succ k => exact clamp_rng _
theorem bRemN {x y : Nat} (hx : x < 2147483648) (hy : 0 < y) (hy2 : y < 2147483648) : bRem x y = ((x % y : Nat) : Int) := by
  have h := iI_bRem x y
  have h2 := iI_bDiv x y
  rw [← h2, bDivN hx hy hy2, iI_mul, iI_sub] at h
  have h3 := congrArg Int32.toInt h
  rw [iI_toInt, iI_toInt] at h3
  have e : ((x : Int) - ((x / y : Nat) : Int) * y) = ((x % y : Nat) : Int) := by
    have := Nat.div_add_mod x y
    have h5 : ((y * (x / y) + x % y : Nat) : Int) = (x : Int) := by rw [this]
    rw [Int.natCast_add, Int.natCast_mul] at h5
    rw [Int.mul_comm]
    omega
  rw [e] at h3
  have hm := Nat.mod_lt x hy
  generalize x % y = q at *
  rw [wr_id (z := (q : Int)) (by omega) (by omega)] at h3
  have hb : wr (bRem x y) = bRem x y := by
    unfold bRem
    rw [← iI_toInt, iI_of]
  rw [hb] at h3
  exact h3
theorem bDivI {x y : Int} (hx : 0 ≤ x ∧ x < 2147483648) (hy : 0 < y ∧ y < 2147483648) : bDiv x y = x / y := by
  obtain ⟨a, rfl⟩ : ∃ a : Nat, x = a := ⟨x.toNat, by omega⟩
  obtain ⟨b, rfl⟩ : ∃ b : Nat, y = b := ⟨y.toNat, by omega⟩
  rw [bDivN (by omega) (by omega) (by omega)]
  rfl
theorem bRemI {x y : Int} (hx : 0 ≤ x ∧ x < 2147483648) (hy : 0 < y ∧ y < 2147483648) : bRem x y = x % y := by
  obtain ⟨a, rfl⟩ : ∃ a : Nat, x = a := ⟨x.toNat, by omega⟩
  obtain ⟨b, rfl⟩ : ∃ b : Nat, y = b := ⟨y.toNat, by omega⟩
  rw [bRemN (by omega) (by omega) (by omega)]
  rfl
