def bt (x : Int32) (i : Nat) : Bool := x.toBitVec.getLsbD i
theorem b_ext {x y : Int32} (h : ∀ i, i < 32 → bt x i = bt y i) : x = y := Int32.toBitVec_inj.mp (BitVec.eq_of_getLsbD_eq (fun i hi => h i hi))
theorem b_or (x y : Int32) (i : Nat) : bt (x ||| y) i = (bt x i || bt y i) := by unfold bt; rw [Int32.toBitVec_or, BitVec.getLsbD_or]
theorem b_and (x y : Int32) (i : Nat) : bt (x &&& y) i = (bt x i && bt y i) := by unfold bt; rw [Int32.toBitVec_and, BitVec.getLsbD_and]
theorem b_xor (x y : Int32) (i : Nat) : bt (x ^^^ y) i = (bt x i ^^ bt y i) := by unfold bt; rw [Int32.toBitVec_xor, BitVec.getLsbD_xor]
theorem b_big {x : Int32} {i : Nat} (h : 32 ≤ i) : bt x i = false := BitVec.getLsbD_of_ge _ _ h
theorem b_255 (i : Nat) : bt 255 i = decide (i < 8) := by
  rcases Nat.lt_or_ge i 32 with h | h
  · exact (by decide +kernel : ∀ i, i < 32 → bt 255 i = decide (i < 8)) i h
  · rw [b_big h, decide_eq_false (by omega)]
theorem b_65535 (i : Nat) : bt 65535 i = decide (i < 16) := by
  rcases Nat.lt_or_ge i 32 with h | h
  · exact (by decide +kernel : ∀ i, i < 32 → bt 65535 i = decide (i < 16)) i h
  · rw [b_big h, decide_eq_false (by omega)]
theorem b_m1 : ∀ i, i < 32 → bt (-1) i = true := by decide +kernel
theorem b_0 (i : Nat) : bt 0 i = false := BitVec.getLsbD_zero
theorem s_l : ∀ n, n < 32 → ((nI n &&& 31).toBitVec.smod 32).toNat = n := by decide +kernel
theorem s_u : ∀ n, n < 32 → (((nI n).toUInt32 &&& Int32.toUInt32 31).toBitVec % 32).toNat = n := by decide +kernel
theorem b_shl (n : Nat) (hn : n < 32) (x : Int32) {i : Nat} (hi : i < 32) : bt (x <<< (nI n &&& 31)) i = (decide (n ≤ i) && bt x (i - n)) := by
  unfold bt
  rw [Int32.toBitVec_shiftLeft]
  show (x.toBitVec <<< ((nI n &&& 31).toBitVec.smod 32).toNat).getLsbD i = _
  rw [s_l n hn, BitVec.getLsbD_shiftLeft]
  rcases Nat.lt_or_ge i n with h | h
  · simp [h, Nat.not_le.mpr h]
  · simp [hi, h, Nat.not_lt.mpr h]
theorem b_ushr (n : Nat) (hn : n < 32) (x : Int32) (i : Nat) : bt ((x.toUInt32 >>> ((nI n).toUInt32 &&& Int32.toUInt32 31)).toInt32) i = bt x (n + i) := by
  show (x.toUInt32 >>> ((nI n).toUInt32 &&& Int32.toUInt32 31)).toBitVec.getLsbD i = x.toUInt32.toBitVec.getLsbD (n + i)
  rw [UInt32.toBitVec_shiftRight]
  show (x.toUInt32.toBitVec >>> (((nI n).toUInt32 &&& Int32.toUInt32 31).toBitVec % 32).toNat).getLsbD i = _
  rw [s_u n hn, BitVec.getLsbD_ushiftRight]
theorem b_sshr (n : Nat) (hn : n < 32) (x : Int32) {i : Nat} (hi : i < 32) : bt (x >>> (nI n &&& 31)) i = if n + i < 32 then bt x (n + i) else bt x 31 := by
  unfold bt
  rw [Int32.toBitVec_shiftRight]
  show (x.toBitVec.sshiftRight ((nI n &&& 31).toBitVec.smod 32).toNat).getLsbD i = _
  rw [s_l n hn, BitVec.getLsbD_sshiftRight, BitVec.msb_eq_getLsbD_last]
  simp [hi]
/-! own rows on bits -/
def bi (k : Nat) : Int32 := (1 : Int32) <<< (nI k &&& 31)
theorem bt_1 (i : Nat) : bt 1 i = decide (i = 0) := by
  rcases Nat.lt_or_ge i 32 with h | h
  · exact (by decide +kernel : ∀ i, i < 32 → bt 1 i = decide (i = 0)) i h
  · rw [b_big h, decide_eq_false (by omega)]
theorem bt_bi {k : Nat} (hk : k < 32) (i : Nat) : bt (bi k) i = decide (i = k) := by
  rcases Nat.lt_or_ge i 32 with h | h
  · unfold bi
    rw [b_shl k hk 1 h, bt_1]
    by_cases e : i = k
    · subst e; simp
    · by_cases e2 : k ≤ i
      · have : ¬ i - k = 0 := by omega
        simp [e, this]
      · simp [e, e2]
  · rw [b_big h, decide_eq_false (by omega)]
theorem bt_has {x : Int32} {k : Nat} (hk : k < 32) : (x >>> (nI k &&& 31)) &&& 1 = if bt x k = true then 1 else 0 := by
  apply b_ext
  intro i hi
  rw [b_and, bt_1]
  by_cases e : i = 0
  · subst e
    rw [b_sshr k hk x hi, if_pos (by omega), Nat.add_zero]
    cases bt x k
    · simp [b_0]
    · simp [bt_1]
  · cases bt x k
    · simp [e, b_0]
    · simp [e, bt_1]
theorem bt_m1 (i : Nat) : bt (-1) i = decide (i < 32) := by
  rcases Nat.lt_or_ge i 32 with h | h
  · rw [b_m1 i h]; simp [h]
  · rw [b_big h, decide_eq_false (by omega)]
theorem bt_set {x : Int32} {k : Nat} (hk : k < 32) (i : Nat) : bt (x ||| bi k) i = (bt x i || decide (i = k)) := by rw [b_or, bt_bi hk]
theorem bt_clr {x : Int32} {k : Nat} (hk : k < 32) (i : Nat) : bt (x &&& (bi k ^^^ (-1))) i = (bt x i && !decide (i = k)) := by
  rw [b_and, b_xor, bt_bi hk, bt_m1]
  rcases Nat.lt_or_ge i 32 with h | h
  · simp [h]
  · rw [b_big h]; simp
theorem bt_flp {x : Int32} {k : Nat} (hk : k < 32) (i : Nat) : bt (x ^^^ bi k) i = (bt x i ^^ decide (i = k)) := by rw [b_xor, bt_bi hk]
theorem bt_ext {x y : Int32} (h : ∀ i, i < 32 → (bt x i = true ↔ bt y i = true)) : x = y := b_ext fun i hi => by
  have := h i hi
  cases hx : bt x i <;> cases hy : bt y i <;> simp_all
theorem nI_div {a b : Nat} (ha : a < 2 ^ 31) (h0 : 0 < b) (hb : b < 2 ^ 31) : nI a / nI b = nI (a / b) := pk_div ha h0 hb
theorem nI_max {a b : Nat} (ha : a < 2 ^ 31) (hb : b < 2 ^ 31) : (if nI a < nI b then nI b else nI a) = nI (max a b) := by
  by_cases h : a < b
  · rw [if_pos ((nI_ltI ha hb).mpr h), Nat.max_eq_right (Nat.le_of_lt h)]
  · rw [if_neg (fun q => h ((nI_ltI ha hb).mp q)), Nat.max_eq_left (by omega)]
theorem nI_min {a b : Nat} (ha : a < 2 ^ 31) (hb : b < 2 ^ 31) : (if nI b < nI a then nI b else nI a) = nI (min a b) := by
  by_cases h : b < a
  · rw [if_pos ((nI_ltI hb ha).mpr h), Nat.min_eq_right (Nat.le_of_lt h)]
  · rw [if_neg (fun q => h ((nI_ltI hb ha).mp q)), Nat.min_eq_left (by omega)]
/-- ints that are small integers -/
def zI (z : Int) : Int32 := Int32.ofInt z
theorem zI_toInt {z : Int} (h0 : -2147483648 ≤ z) (h1 : z < 2147483648) : (zI z).toInt = z := Int32.toInt_ofInt_of_le (by omega) (by omega)
theorem zI_nI (n : Nat) : zI (n : Int) = nI n := by
  unfold zI nI
  rfl
theorem zI_lt {a b : Int} (ha : -2147483648 ≤ a ∧ a < 2147483648) (hb : -2147483648 ≤ b ∧ b < 2147483648) : zI a < zI b ↔ a < b := by rw [Int32.lt_iff_toInt_lt, zI_toInt ha.1 ha.2, zI_toInt hb.1 hb.2]
theorem zI_le {a b : Int} (ha : -2147483648 ≤ a ∧ a < 2147483648) (hb : -2147483648 ≤ b ∧ b < 2147483648) : zI a ≤ zI b ↔ a ≤ b := by rw [Int32.le_iff_toInt_le, zI_toInt ha.1 ha.2, zI_toInt hb.1 hb.2]
theorem zI_add (a b : Int) : zI a + zI b = zI (a + b) := (Int32.ofInt_add a b).symm
theorem zI_sub (a b : Int) : zI a - zI b = zI (a - b) := (Int32.ofInt_sub a b).symm
theorem zI_neg (a : Int) : -zI a = zI (-a) := (Int32.ofInt_neg a).symm
theorem zI_0 : (0 : Int32) = zI 0 := rfl
theorem zI_abs {z : Int} (h0 : -2147483648 < z) (h1 : z < 2147483648) : (if 0 ≤ zI z then zI z else 0 - zI z) = nI z.natAbs := by
  have hle : (0 : Int32) ≤ zI z ↔ 0 ≤ z := by rw [zI_0, zI_le ⟨by omega, by omega⟩ ⟨by omega, h1⟩]
  rw [← zI_nI]
  by_cases h : 0 ≤ z
  · rw [if_pos (hle.mpr h)]; congr 1; omega
  · rw [if_neg (fun q => h (hle.mp q)), zI_0, zI_sub]; congr 1; omega
/-- how many of the first n hold -/
def bc (p : Nat → Bool) : Nat → Nat
  | 0 => 0
  | n + 1 => bc p n + (if p n = true then 1 else 0)
theorem bc_le (p : Nat → Bool) : ∀ n, bc p n ≤ n
  | 0 => Nat.le_refl _
  | n + 1 => by
    have := bc_le p n
    rw [bc]
    split <;> omega
theorem bc_cong {p q : Nat → Bool} : ∀ (n : Nat), (∀ i, i < n → p i = q i) → bc p n = bc q n
  | 0, _ => rfl
  | n + 1, h => by rw [bc, bc, bc_cong n (fun i hi => h i (by omega)), h n (by omega)]
theorem bc_add (p : Nat → Bool) (m : Nat) : ∀ n, bc p (m + n) = bc p m + bc (fun i => p (m + i)) n
  | 0 => by simp [bc]
  | n + 1 => by
    rw [show m + (n + 1) = (m + n) + 1 by omega, bc, bc, bc_add p m n]
    omega
/-- prefix sums -/
def aS (f : Nat → Nat) : Nat → Nat
  | 0 => 0
  | n + 1 => aS f n + f n
theorem aS_cong {f g : Nat → Nat} : ∀ (n : Nat), (∀ i, i < n → f i = g i) → aS f n = aS g n
  | 0, _ => rfl
  | n + 1, h => by rw [aS, aS, aS_cong n (fun i hi => h i (by omega)), h n (by omega)]
theorem aS_le {f : Nat → Nat} {c : Nat} : ∀ (n : Nat), (∀ i, i < n → f i ≤ c) → aS f n ≤ n * c
  | 0, _ => by simp [aS]
  | n + 1, h => by
    have h1 := aS_le n (fun i hi => h i (by omega))
    have h2 := h n (by omega)
    rw [aS, Nat.succ_mul]; omega
theorem aS_mono {f : Nat → Nat} {m : Nat} : ∀ {n : Nat}, m ≤ n → aS f m ≤ aS f n
  | 0, h => by rw [show m = 0 by omega]; exact Nat.le_refl _
  | n + 1, h => by
    by_cases e : m = n + 1
    · rw [e]; exact Nat.le_refl _
    · have := aS_mono (f := f) (show m ≤ n by omega)
      rw [aS]; omega
