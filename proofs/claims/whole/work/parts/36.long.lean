/-! THE CLASS: characters out of a long number are put onto the pad. -/
def uN (x : Int64) : Nat := x.toUInt64.toNat
def cdA (x : Int64) (k : Nat) : Nat := uN x / 2 ^ (8 * k) % 256
theorem cdA_le (x : Int64) (k : Nat) : cdA x k < 256 := Nat.mod_lt _ (by decide)
theorem u64_s : ∀ k, k < 8 → ((((8 : Int32) * nI k).toInt64.toUInt64 &&& Int64.toUInt64 63).toBitVec % 64).toNat = 8 * k := by decide +kernel
theorem i64_s : ∀ k, k < 8 → ((((8 : Int32) * nI k).toInt64 &&& 63).toBitVec.smod 64).toNat = 8 * k := by decide +kernel
theorem bt_cd (x : Int64) {k : Nat} (i : Nat) : bt (nI (cdA x k)) i = (decide (i < 8) && x.toBitVec.getLsbD (8 * k + i)) := by
  show (BitVec.ofNat 32 (cdA x k)).getLsbD i = _
  rw [BitVec.getLsbD_ofNat]
  unfold cdA uN
  rw [show 256 = 2 ^ 8 from rfl, Nat.testBit_mod_two_pow, Nat.testBit_div_two_pow]
  show _ = (decide (i < 8) && x.toBitVec.toNat.testBit (8 * k + i))
  rw [show x.toUInt64.toNat = x.toBitVec.toNat from rfl, Nat.add_comm (8 * k) i]
  by_cases h : i < 8
  · rw [decide_eq_true h, decide_eq_true (show i < 32 by omega)]
    simp
  · rw [decide_eq_false h]
    simp
theorem bt_l32 (z : Int64) {i : Nat} (hi : i < 32) : bt z.toInt32 i = z.toBitVec.getLsbD i := by
  unfold bt
  rw [Int64.toBitVec_toInt32, BitVec.getLsbD_signExtend]
  simp [hi, show i < 64 by omega]
theorem cd_u (x : Int64) {k : Nat} (hk : k < 8) : (x.toUInt64 >>> (((8 : Int32) * nI k).toInt64.toUInt64 &&& Int64.toUInt64 63)).toInt64.toInt32 &&& 255 = nI (cdA x k) := by
  refine b_ext fun i hi => ?_
  rw [b_and, b_255, bt_cd, bt_l32 _ hi]
  show ((x.toUInt64 >>> (((8 : Int32) * nI k).toInt64.toUInt64 &&& Int64.toUInt64 63)).toBitVec.getLsbD i && decide (i < 8)) = _
  rw [UInt64.toBitVec_shiftRight]
  show ((x.toBitVec >>> ((((8 : Int32) * nI k).toInt64.toUInt64 &&& Int64.toUInt64 63).toBitVec % 64).toNat).getLsbD i && decide (i < 8)) = _
  rw [u64_s k hk, BitVec.getLsbD_ushiftRight, Bool.and_comm]
theorem b64_255 (i : Nat) (hi : i < 32) : (255 : Int64).toBitVec.getLsbD i = decide (i < 8) := (by decide +kernel : ∀ i, i < 32 → (255 : Int64).toBitVec.getLsbD i = decide (i < 8)) i hi
theorem cd_s (x : Int64) {k : Nat} (hk : k < 8) : ((x >>> (((8 : Int32) * nI k).toInt64 &&& 63)) &&& 255).toInt32 = nI (cdA x k) := by
  refine b_ext fun i hi => ?_
  rw [bt_cd, bt_l32 _ hi, Int64.toBitVec_and, BitVec.getLsbD_and, b64_255 i hi, Int64.toBitVec_shiftRight]
  show ((x.toBitVec.sshiftRight ((((8 : Int32) * nI k).toInt64 &&& 63).toBitVec.smod 64).toNat).getLsbD i && decide (i < 8)) = _
  rw [i64_s k hk, BitVec.getLsbD_sshiftRight]
  by_cases h : i < 8
  · simp [h, show 8 * k + i < 64 by omega, show ¬ 64 ≤ i by omega]
  · simp [h]
/-- how many characters there are: those that end ahead of the first 0 -/
def sgN (x : Int64) : Nat := aFst (fun k => decide (cdA x k = 0)) 8
/-- does the number hold characters, and nothing else -/
def sgOk (x : Int64) : Bool := decide (1 ≤ sgN x ∧ (bc (fun k => decide (33 ≤ cdA x k ∧ cdA x k ≤ 126)) (sgN x)) = sgN x ∧ uN x / 2 ^ (8 * sgN x) = 0)
theorem u64_0 (x : Int64) {k : Nat} (hk : k < 8) : lg_cmp (x.toUInt64 >>> (((8 : Int32) * nI k).toInt64.toUInt64 &&& Int64.toUInt64 63)).toInt64 0 = 0 ↔ uN x / 2 ^ (8 * k) = 0 := by
  rw [lg_cmp_eq]
  have e : (x.toUInt64 >>> (((8 : Int32) * nI k).toInt64.toUInt64 &&& Int64.toUInt64 63)).toNat = uN x / 2 ^ (8 * k) := by
    show (x.toUInt64 >>> (((8 : Int32) * nI k).toInt64.toUInt64 &&& Int64.toUInt64 63)).toBitVec.toNat = _
    rw [UInt64.toBitVec_shiftRight]
    show (x.toBitVec >>> ((((8 : Int32) * nI k).toInt64.toUInt64 &&& Int64.toUInt64 63).toBitVec % 64).toNat).toNat = _
    rw [u64_s k hk, BitVec.toNat_ushiftRight, Nat.shiftRight_eq_div_pow]
    rfl
  rw [← e]
  constructor
  · intro z
    have := congrArg Int64.toUInt64 z
    rw [UInt64.toUInt64_toInt64] at this
    rw [this]; rfl
  · intro z
    have : x.toUInt64 >>> (((8 : Int32) * nI k).toInt64.toUInt64 &&& Int64.toUInt64 63) = 0 := UInt64.toNat_inj.mp z
    rw [this]; rfl
theorem bc_all {p : Nat → Bool} : ∀ n, (bc p n = n ↔ ∀ i, i < n → p i = true)
  | 0 => ⟨fun _ i hi => absurd hi (by omega), fun _ => rfl⟩
  | n + 1 => by
    have h := bc_le p n
    rw [bc]
    cases e : p n with
    | true =>
      constructor
      · intro z i hi
        by_cases e2 : i = n
        · rw [e2]; exact e
        · exact (bc_all n).mp (by simp at z; omega) i (by omega)
      · intro z
        have := (bc_all n).mpr fun i hi => z i (by omega)
        simp; omega
    | false =>
      constructor
      · intro z
        simp at z; omega
      · intro z
        have := z n (by omega)
        rw [e] at this; cases this
section AX36
variable {ro : axRo} {d : Nat} {h h1 : axH} {B : axBD} {Y : axYD} {sl : Nat → Option Nat} {P : axPD} {G : axGD} {tl : axH} {A : axAD} {f : Nat → Int32} {t : Nat → Nat} {pl c : Nat} {cu la ki fi se : Int32} {x : Int64}
theorem x2_codeOf {k : Nat} (hk : k < 8) : axEv ro (d + 1) kX2_codeOf [.long x, .int (nI k)] h (some (.int (nI (cdA x k)))) h := by
  refine ev_in rfl rfl (Nat.le_of_ble_eq_true rfl) rfl ?_
  refine wp_run rfl ?_
  rw [cd_u x hk]
  exact wp_ret rfl rfl ⟨rfl, rfl⟩
theorem x2_signsOf : axEv ro (d + 2) kX2_signsOf [.long x] h (some (.int (if sgOk x = true then nI (sgN x) else if sgN x = 0 ∧ uN x = 0 then 0 else -2))) h := by
  have hN : sgN x ≤ 8 := aFst_le _ _
  have hno : ∀ k, k < sgN x → cdA x k ≠ 0 := fun k hk => of_decide_eq_false (aFst_no _ _ k hk)
  have hyes : sgN x < 8 → cdA x (sgN x) = 0 := fun hk => of_decide_eq_true (aFst_yes (fun k => decide (cdA x k = 0)) 8 hk)
  have h64 : uN x < 2 ^ 64 := x.toUInt64.toBitVec.isLt
  have fin : ∀ v w, (∀ i, i < sgN x → 33 ≤ cdA x i ∧ cdA x i ≤ 126) → axW ro (axEv ro (d + 1)) cdX2_signsOf 46 [some (.long x), none, some (.int (nI (sgN x))), w] [.int 8, .int (nI (sgN x))] h (fun r' h' => r' = some (.int (if sgOk x = true then nI (sgN x) else if sgN x = 0 ∧ uN x = 0 then 0 else -2)) ∧ h' = h) ∨ v = 1 := by
    intro v w hall
    refine Or.inl ?_
    have hb := (bc_all (p := fun k => decide (33 ≤ cdA x k ∧ cdA x k ≤ 126)) (sgN x)).mpr fun i hi => decide_eq_true (hall i hi)
    by_cases e : sgN x < 8
    · refine wp_icge rfl (fun hz_ => absurd hz_ (nI_ge (b := 8) e (by omega))) (fun _ => ?_)
      refine wp_run rfl ?_
      by_cases e2 : uN x / 2 ^ (8 * sgN x) = 0
      · refine wp_ifeq rfl (fun _ => ?_) (fun hz_ => absurd ((u64_0 x e).mpr e2) hz_)
        refine wp_run rfl ?_
        by_cases e3 : 1 ≤ sgN x
        · rw [if_pos (show sgOk x = true from decide_eq_true ⟨e3, hb, e2⟩)]
          exact wp_ret rfl rfl ⟨rfl, rfl⟩
        · have e4 : sgN x = 0 := by omega
          rw [e4, Nat.mul_zero, Nat.pow_zero, Nat.div_one] at e2
          rw [if_neg (fun z => e3 (of_decide_eq_true z).1), if_pos ⟨e4, e2⟩, e4]
          exact wp_ret rfl rfl ⟨rfl, rfl⟩
      · refine wp_ifeq rfl (fun hz_ => absurd hz_ (fun z => e2 ((u64_0 x e).mp z))) (fun _ => ?_)
        refine wp_run rfl ?_
        rw [if_neg (fun z => e2 (of_decide_eq_true z).2.2), if_neg (fun z => e2 (by rw [z.2]; exact Nat.zero_div _))]
        exact wp_ret rfl rfl ⟨rfl, rfl⟩
    · have e8 : sgN x = 8 := by omega
      refine wp_icge rfl (fun _ => ?_) (fun hz_ => absurd (nI_le (a := 8) (by omega) (by omega)) hz_)
      refine wp_run rfl ?_
      rw [if_pos (show sgOk x = true from decide_eq_true ⟨by omega, hb, by rw [e8]; exact Nat.div_eq_of_lt h64⟩)]
      exact wp_ret rfl rfl ⟨rfl, rfl⟩
  have loop : ∀ m k w, k + m = sgN x → (∀ i, i < k → 33 ≤ cdA x i ∧ cdA x i ≤ 126) → axW ro (axEv ro (d + 1)) cdX2_signsOf 5 [some (.long x), none, some (.int (nI k)), w] [.int 8, .int (nI k)] h (fun r' h' => r' = some (.int (if sgOk x = true then nI (sgN x) else if sgN x = 0 ∧ uN x = 0 then 0 else -2)) ∧ h' = h) := by
    intro m
    induction m with
    | zero =>
      intro k w e hall
      have e : k = sgN x := by omega
      subst e
      have fin := (fin 0 w hall).resolve_right (by decide)
      by_cases e8 : sgN x < 8
      · refine wp_icge rfl (fun hz_ => absurd hz_ (nI_ge (b := 8) e8 (by omega))) (fun _ => ?_)
        refine wp_run rfl ?_
        refine wp_s2 rfl (Nat.le_of_ble_eq_true rfl) (x2_codeOf e8) ?_
        refine wp_run rfl ?_
        rw [hyes e8]
        refine wp_ifeq rfl (fun _ => ?_) (fun hz_ => absurd (rfl) hz_)
        refine wp_run rfl ?_
        exact fin
      · refine wp_icge rfl (fun _ => ?_) (fun hz_ => absurd (nI_le (a := 8) (by omega) (by omega)) hz_)
        refine wp_run rfl ?_
        exact fin
    | succ m ih =>
      intro k w e hall
      have hk : k < sgN x := by omega
      have hc := cdA_le x k
      refine wp_icge rfl (fun hz_ => absurd hz_ (nI_ge (b := 8) (by omega) (by omega))) (fun _ => ?_)
      refine wp_run rfl ?_
      refine wp_s2 rfl (Nat.le_of_ble_eq_true rfl) (x2_codeOf (show k < 8 by omega)) ?_
      refine wp_run rfl ?_
      refine wp_ifeq rfl (fun hz_ => absurd hz_ (nI_ne0 (by have := hno k hk; omega) (by omega))) (fun _ => ?_)
      refine wp_run rfl ?_
      refine wp_s2 rfl (Nat.le_of_ble_eq_true rfl) (x2_codeOf (show k < 8 by omega)) ?_
      refine wp_run rfl ?_
      have bad : ¬ (33 ≤ cdA x k ∧ cdA x k ≤ 126) → (if sgOk x = true then nI (sgN x) else if sgN x = 0 ∧ uN x = 0 then 0 else -2) = (-2 : Int32) := fun z => by
        rw [if_neg (fun y => z (of_decide_eq_true ((bc_all (p := fun k => decide (33 ≤ cdA x k ∧ cdA x k ≤ 126)) (sgN x)).mp (of_decide_eq_true y).2.1 k hk))), if_neg (fun y => by omega)]
      by_cases e1 : cdA x k < 33
      · rw [bad (by omega)]
        refine wp_iclt rfl (fun _ => ?_) (fun hz_ => absurd (nI_lt (b := 33) e1 (by omega)) hz_)
        refine wp_run rfl ?_
        exact wp_ret rfl rfl ⟨rfl, rfl⟩
      · refine wp_iclt rfl (fun hz_ => absurd hz_ (nI_nlt (b := 33) (by omega) (by omega))) (fun _ => ?_)
        refine wp_run rfl ?_
        by_cases e2 : cdA x k ≤ 126
        · refine wp_icle rfl (fun _ => ?_) (fun hz_ => absurd (nI_le (b := 126) e2 (by omega)) hz_)
          refine wp_run rfl ?_
          rw [nI_1]
          refine ih (k + 1) _ (by omega) fun i hi => ?_
          by_cases e3 : i = k
          · rw [e3]; omega
          · exact hall i (by omega)
        · rw [bad (by omega)]
          refine wp_icle rfl (fun hz_ => absurd hz_ (nI_ge (a := 126) (by omega) (by omega))) (fun _ => ?_)
          refine wp_run rfl ?_
          exact wp_ret rfl rfl ⟨rfl, rfl⟩
  refine ev_in rfl rfl (Nat.le_of_ble_eq_true rfl) rfl ?_
  refine wp_run rfl ?_
  exact loop (sgN x) 0 none (by omega) (fun i hi => absurd hi (by omega))
end AX36
