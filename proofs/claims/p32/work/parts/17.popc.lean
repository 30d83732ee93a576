/-! Integer.bitCount -/
theorem nx_and (a b : Nat) : nI a &&& nI b = nI (a &&& b) := by
  apply Int32.toBitVec_inj.1
  show BitVec.ofNat 32 a &&& BitVec.ofNat 32 b = BitVec.ofNat 32 (a &&& b)
  apply BitVec.eq_of_getLsbD_eq
  intro i hi
  simp [hi]
theorem pc_land {x u y v : Nat} (hy : y < 256) (hv : v < 256) : (256 * x + y) &&& (256 * u + v) = 256 * (x &&& u) + (y &&& v) := by
  have hyv : y &&& v < 2 ^ 8 := Nat.and_lt_two_pow y (by omega)
  apply Nat.eq_of_testBit_eq
  intro i
  rw [Nat.testBit_and, show 256 = 2 ^ 8 from rfl, Nat.testBit_two_pow_mul_add _ (show y < 2 ^ 8 by omega), Nat.testBit_two_pow_mul_add _ (show v < 2 ^ 8 by omega), Nat.testBit_two_pow_mul_add _ hyv]
  split <;> rw [Nat.testBit_and]
def pc8 (a : Nat) : Nat := bc (fun i => a.testBit i) 8
def pcT (a : Nat) : Nat := a / 2 &&& 85
def pc2 (a : Nat) : Nat := ((a - pcT a) &&& 51) + ((a - pcT a) / 4 &&& 51)
set_option maxRecDepth 100000 in
theorem pc_b1 : ∀ a, a < 256 → ∀ k, k < 2 → (a / 2 + 128 * k) &&& 85 = pcT a := by decide +kernel
theorem pc_b2 : ∀ a, a < 256 → pcT a ≤ a ∧ a / 2 &&& 85 = pcT a := by decide +kernel
set_option maxRecDepth 100000 in
theorem pc_b3 : ∀ a, a < 256 → ∀ k, k < 4 → (a / 4 + 64 * k) &&& 51 = a / 4 &&& 51 := by decide +kernel
set_option maxRecDepth 100000 in
theorem pc_b4 : ∀ a, a < 256 → ∀ r, r < 5 → (pc2 a + pc2 a / 16 + 16 * r) &&& 15 = pc8 a := by decide +kernel
theorem pc_b5 : ∀ a, a < 256 → pc2 a ≤ 68 ∧ pc2 a % 16 ≤ 4 ∧ pc8 a ≤ 8 ∧ pc2 a / 16 ≤ 4 := by decide +kernel
theorem pc_s1 {a b c e : Nat} (ha : a < 256) (hb : b < 256) (hc : c < 256) (he : e < 256) : (256 * (256 * (256 * e + c) + b) + a) / 2 &&& 1431655765 = 256 * (256 * (256 * pcT e + pcT c) + pcT b) + pcT a := by
  rw [show (256 * (256 * (256 * e + c) + b) + a) / 2 = 256 * (256 * (256 * (e / 2) + (c / 2 + 128 * (e % 2))) + (b / 2 + 128 * (c % 2))) + (a / 2 + 128 * (b % 2)) by omega,
    show 1431655765 = 256 * (256 * (256 * 85 + 85) + 85) + 85 from rfl, pc_land (by omega) (by omega), pc_land (by omega) (by omega), pc_land (by omega) (by omega),
    pc_b1 a ha _ (by omega), pc_b1 b hb _ (by omega), pc_b1 c hc _ (by omega), (pc_b2 e he).2]
theorem pc_s2 {a b c e : Nat} (ha : a < 256) (hb : b < 256) (hc : c < 256) (he : e < 256) : (256 * (256 * (256 * e + c) + b) + a) &&& 858993459 = 256 * (256 * (256 * (e &&& 51) + (c &&& 51)) + (b &&& 51)) + (a &&& 51) := by
  rw [show 858993459 = 256 * (256 * (256 * 51 + 51) + 51) + 51 from rfl, pc_land (by omega) (by omega), pc_land (by omega) (by omega), pc_land (by omega) (by omega)]
theorem pc_s3 {a b c e : Nat} (ha : a < 256) (hb : b < 256) (hc : c < 256) (he : e < 256) : (256 * (256 * (256 * e + c) + b) + a) / 4 &&& 858993459 = 256 * (256 * (256 * (e / 4 &&& 51) + (c / 4 &&& 51)) + (b / 4 &&& 51)) + (a / 4 &&& 51) := by
  rw [show (256 * (256 * (256 * e + c) + b) + a) / 4 = 256 * (256 * (256 * (e / 4) + (c / 4 + 64 * (e % 4))) + (b / 4 + 64 * (c % 4))) + (a / 4 + 64 * (b % 4)) by omega,
    show 858993459 = 256 * (256 * (256 * 51 + 51) + 51) + 51 from rfl, pc_land (by omega) (by omega), pc_land (by omega) (by omega), pc_land (by omega) (by omega),
    pc_b3 a ha _ (by omega), pc_b3 b hb _ (by omega), pc_b3 c hc _ (by omega)]
theorem pc_s4 {a b c e : Nat} (ha : a < 256) (hb : b < 256) (hc : c < 256) (he : e < 256) : ((256 * (256 * (256 * pc2 e + pc2 c) + pc2 b) + pc2 a) + (256 * (256 * (256 * pc2 e + pc2 c) + pc2 b) + pc2 a) / 16) &&& 252645135 = 256 * (256 * (256 * pc8 e + pc8 c) + pc8 b) + pc8 a := by
  have h1 := pc_b5 a ha
  have h2 := pc_b5 b hb
  have h3 := pc_b5 c hc
  have h4 := pc_b5 e he
  rw [show (256 * (256 * (256 * pc2 e + pc2 c) + pc2 b) + pc2 a) + (256 * (256 * (256 * pc2 e + pc2 c) + pc2 b) + pc2 a) / 16 = 256 * (256 * (256 * (pc2 e + pc2 e / 16 + 16 * 0) + (pc2 c + pc2 c / 16 + 16 * (pc2 e % 16))) + (pc2 b + pc2 b / 16 + 16 * (pc2 c % 16))) + (pc2 a + pc2 a / 16 + 16 * (pc2 b % 16)) by omega,
    show 252645135 = 256 * (256 * (256 * 15 + 15) + 15) + 15 from rfl, pc_land (by omega) (by omega), pc_land (by omega) (by omega), pc_land (by omega) (by omega),
    pc_b4 a ha _ (by omega), pc_b4 b hb _ (by omega), pc_b4 c hc _ (by omega), pc_b4 e he _ (by omega)]
/-- how many bits are set -/
def pcN (x : Int32) : Nat := bc (fun i => bt x i) 32
theorem pc_bits {m : Nat} (hm : m < 2 ^ 32) (i : Nat) (hi : i < 32) : bt (nI m) i = m.testBit i := by
  unfold bt
  show (BitVec.ofNat 32 m).getLsbD i = _
  rw [BitVec.getLsbD_ofNat]
  simp [hi]
theorem pc_split {a b c e : Nat} (ha : a < 256) (hb : b < 256) (hc : c < 256) (he : e < 256) : pcN (nI (256 * (256 * (256 * e + c) + b) + a)) = pc8 a + pc8 b + pc8 c + pc8 e := by
  unfold pcN
  rw [bc_cong 32 (fun i hi => pc_bits (by omega) i hi), show 32 = 8 + (8 + (8 + 8)) from rfl, bc_add, bc_add, bc_add]
  have k1 : bc (fun i => (256 * (256 * (256 * e + c) + b) + a).testBit i) 8 = pc8 a := bc_cong 8 fun i hi => by
    rw [show 256 = 2 ^ 8 from rfl, Nat.testBit_two_pow_mul_add _ (show a < 2 ^ 8 by omega), if_pos hi]
  have k2 : bc (fun i => (256 * (256 * (256 * e + c) + b) + a).testBit (8 + i)) 8 = pc8 b := bc_cong 8 fun i hi => by
    rw [show 256 = 2 ^ 8 from rfl, Nat.testBit_two_pow_mul_add _ (show a < 2 ^ 8 by omega), if_neg (by omega), Nat.testBit_two_pow_mul_add _ (show b < 2 ^ 8 by omega), if_pos (by omega), show 8 + i - 8 = i by omega]
  have k3 : bc (fun i => (256 * (256 * (256 * e + c) + b) + a).testBit (8 + (8 + i))) 8 = pc8 c := bc_cong 8 fun i hi => by
    rw [show 256 = 2 ^ 8 from rfl, Nat.testBit_two_pow_mul_add _ (show a < 2 ^ 8 by omega), if_neg (by omega), Nat.testBit_two_pow_mul_add _ (show b < 2 ^ 8 by omega), if_neg (by omega), Nat.testBit_two_pow_mul_add _ (show c < 2 ^ 8 by omega), if_pos (by omega), show 8 + (8 + i) - 8 - 8 = i by omega]
  have k4 : bc (fun i => (256 * (256 * (256 * e + c) + b) + a).testBit (8 + (8 + (8 + i)))) 8 = pc8 e := bc_cong 8 fun i hi => by
    rw [show 256 = 2 ^ 8 from rfl, Nat.testBit_two_pow_mul_add _ (show a < 2 ^ 8 by omega), if_neg (by omega), Nat.testBit_two_pow_mul_add _ (show b < 2 ^ 8 by omega), if_neg (by omega), Nat.testBit_two_pow_mul_add _ (show c < 2 ^ 8 by omega), if_neg (by omega), show 8 + (8 + (8 + i)) - 8 - 8 - 8 = i by omega]
  have z := Nat.add_assoc
  simp only [← Nat.add_assoc] at k1 k2 k3 k4 ⊢
  rw [k1, k2, k3, k4]
theorem pc_of (x : Int32) : ∃ a b c e, a < 256 ∧ b < 256 ∧ c < 256 ∧ e < 256 ∧ x = nI (256 * (256 * (256 * e + c) + b) + a) := by
  refine ⟨x.toBitVec.toNat % 256, x.toBitVec.toNat / 256 % 256, x.toBitVec.toNat / 65536 % 256, x.toBitVec.toNat / 16777216, by omega, by omega, by omega, by have := x.toBitVec.isLt; omega, ?_⟩
  have h := x.toBitVec.isLt
  rw [show 256 * (256 * (256 * (x.toBitVec.toNat / 16777216) + x.toBitVec.toNat / 65536 % 256) + x.toBitVec.toNat / 256 % 256) + x.toBitVec.toNat % 256 = x.toBitVec.toNat by omega]
  apply Int32.toBitVec_inj.mp
  show _ = BitVec.ofNat 32 x.toBitVec.toNat
  simp
theorem xJ_bitCount {ro : axRo} {d : Nat} {h : axH} (x : Int32) : axEv ro (d + 1) kJ_bitCount [.int x] h (some (.int (nI (pcN x)))) h := by
  obtain ⟨a, b, c, e, ha, hb, hc, he, rfl⟩ := pc_of x
  rw [pc_split ha hb hc he]
  have t1 := pc_b2 a ha
  have t2 := pc_b2 b hb
  have t3 := pc_b2 c hc
  have t4 := pc_b2 e he
  have u1 := pc_b5 a ha
  have u2 := pc_b5 b hb
  have u3 := pc_b5 c hc
  have u4 := pc_b5 e he
  refine ev_in rfl rfl (Nat.le_of_ble_eq_true rfl) rfl ?_
  -- the words step by step
  have s1 : nI (256 * (256 * (256 * e + c) + b) + a) - (((nI (256 * (256 * (256 * e + c) + b) + a)).toUInt32 >>> ((1 : Int32).toUInt32 &&& Int32.toUInt32 31)).toInt32 &&& 1431655765) = nI (256 * (256 * (256 * (e - pcT e) + (c - pcT c)) + (b - pcT b)) + (a - pcT a)) := by
    rw [pk_ushrN (by omega) 1 1 (by decide +kernel), show (1431655765 : Int32) = nI 1431655765 from rfl, nx_and, show (2 : Nat) ^ 1 = 2 from rfl, pc_s1 ha hb hc he, pk_sub (by omega)]
    congr 1
    omega
  have s2 : ∀ w, w = nI (256 * (256 * (256 * (e - pcT e) + (c - pcT c)) + (b - pcT b)) + (a - pcT a)) → (w &&& 858993459) + ((w.toUInt32 >>> ((2 : Int32).toUInt32 &&& Int32.toUInt32 31)).toInt32 &&& 858993459) = nI (256 * (256 * (256 * pc2 e + pc2 c) + pc2 b) + pc2 a) := by
    intro w hw
    rw [hw, pk_ushrN (by omega) 2 2 (by decide +kernel), show (858993459 : Int32) = nI 858993459 from rfl, nx_and, nx_and, show (2 : Nat) ^ 2 = 4 from rfl, pc_s2 (by omega) (by omega) (by omega) (by omega), pc_s3 (by omega) (by omega) (by omega) (by omega), nI_add]
    congr 1
    unfold pc2
    omega
  have s3 : ∀ w, w = nI (256 * (256 * (256 * pc2 e + pc2 c) + pc2 b) + pc2 a) → (w + (w.toUInt32 >>> ((4 : Int32).toUInt32 &&& Int32.toUInt32 31)).toInt32) &&& 252645135 = nI (256 * (256 * (256 * pc8 e + pc8 c) + pc8 b) + pc8 a) := by
    intro w hw
    rw [hw, pk_ushrN (by omega) 4 4 (by decide +kernel), show (252645135 : Int32) = nI 252645135 from rfl, nI_add, nx_and, show (2 : Nat) ^ 4 = 16 from rfl, pc_s4 ha hb hc he]
  have s4 : ∀ w, w = nI (256 * (256 * (256 * pc8 e + pc8 c) + pc8 b) + pc8 a) → w + (w.toUInt32 >>> ((8 : Int32).toUInt32 &&& Int32.toUInt32 31)).toInt32 = nI (256 * (256 * (256 * pc8 e + (pc8 c + pc8 e)) + (pc8 b + pc8 c)) + (pc8 a + pc8 b)) := by
    intro w hw
    rw [hw, pk_ushrN (by omega) 8 8 (by decide +kernel), nI_add]
    congr 1
    rw [show (2 : Nat) ^ 8 = 256 from rfl]
    omega
  have s5 : ∀ w, w = nI (256 * (256 * (256 * pc8 e + (pc8 c + pc8 e)) + (pc8 b + pc8 c)) + (pc8 a + pc8 b)) → (w + (w.toUInt32 >>> ((16 : Int32).toUInt32 &&& Int32.toUInt32 31)).toInt32) &&& 63 = nI (pc8 a + pc8 b + pc8 c + pc8 e) := by
    intro w hw
    rw [hw, pk_ushrN (by omega) 16 16 (by decide +kernel), nI_add, pk_andN (by omega) 6 (by decide +kernel)]
    congr 1
    have e1 : (256 * (256 * (256 * pc8 e + (pc8 c + pc8 e)) + (pc8 b + pc8 c)) + (pc8 a + pc8 b)) / 2 ^ 16 = 256 * pc8 e + (pc8 c + pc8 e) := by
      rw [show (2 : Nat) ^ 16 = 256 * 256 from rfl, ← Nat.div_div_eq_div_mul, show (256 * (256 * (256 * pc8 e + (pc8 c + pc8 e)) + (pc8 b + pc8 c)) + (pc8 a + pc8 b)) / 256 = 256 * (256 * pc8 e + (pc8 c + pc8 e)) + (pc8 b + pc8 c) by omega]
      omega
    rw [e1, show (2 : Nat) ^ 6 = 64 from rfl]
    generalize pc8 a = a' at *
    generalize pc8 b = b' at *
    generalize pc8 c = c' at *
    generalize pc8 e = e' at *
    omega
  refine wp_run rfl ?_
  refine wp_run rfl ?_
  exact wp_ret rfl rfl ⟨by rw [s5 _ (s4 _ (s3 _ (s2 _ s1)))], rfl⟩
