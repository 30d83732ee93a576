/-! THE REFERENCE: characters are put to the pad. -/
/-- the reference's count and word over the last m of the 8 bytes -/
def mdl (x : Int64) : Nat → Nat × Bool
  | 0 => (0, decide (uN x ≠ 0))
  | m + 1 => ((mdl x m).1 + (if cdA x (7 - m) = 0 then 0 else 1), (mdl x m).2 && (if cdA x (7 - m) = 0 then decide ((mdl x m).1 = 0) else decide (33 ≤ cdA x (7 - m) ∧ cdA x (7 - m) ≤ 126)))
theorem mdl_le (x : Int64) : ∀ m, (mdl x m).1 ≤ m
  | 0 => Nat.le_refl 0
  | m + 1 => by
    have := mdl_le x m
    show (mdl x m).1 + (if cdA x (7 - m) = 0 then 0 else 1) ≤ m + 1
    split <;> omega
theorem uN_step (x : Int64) (j : Nat) : uN x / 2 ^ (8 * j) = 256 * (uN x / 2 ^ (8 * (j + 1))) + cdA x j := by
  unfold cdA
  rw [show 2 ^ (8 * (j + 1)) = 2 ^ (8 * j) * 256 by rw [show 8 * (j + 1) = 8 * j + 8 by omega, Nat.pow_add], ← Nat.div_div_eq_div_mul]
  omega
theorem uN_hi {x : Int64} {n : Nat} (h : ∀ j, n ≤ j → j < 8 → cdA x j = 0) : ∀ i, i + n ≤ 8 → uN x / 2 ^ (8 * (8 - i)) = 0
  | 0, _ => Nat.div_eq_of_lt (x.toUInt64.toBitVec.isLt)
  | i + 1, hi => by
    have ih := uN_hi h i (by omega)
    have := uN_step x (8 - (i + 1))
    rw [show 8 - (i + 1) + 1 = 8 - i by omega, ih, h (8 - (i + 1)) (by omega) (by omega)] at this
    omega
theorem mdl_yes {x : Int64} (h : sgOk x = true) : ∀ m, m ≤ 8 → mdl x m = (sgN x - (8 - m), true)
  | 0, _ => by
    obtain ⟨h1, h2, h3⟩ := sgOk_in h
    have h4 := h3 0 (by omega)
    have h5 := uN_step x 0
    rw [show 2 ^ (8 * 0) = 1 from rfl, Nat.div_one] at h5
    show (0, decide (uN x ≠ 0)) = _
    rw [decide_eq_true (show uN x ≠ 0 by omega), show sgN x - (8 - 0) = 0 by omega]
  | m + 1, hm => by
    obtain ⟨h1, h2, h3⟩ := sgOk_in h
    have hz := (of_decide_eq_true h).2.2
    rw [mdl, mdl_yes h m (by omega)]
    by_cases e : 7 - m < sgN x
    · have h4 := h3 (7 - m) e
      rw [if_neg (show ¬ cdA x (7 - m) = 0 by omega), if_neg (show ¬ cdA x (7 - m) = 0 by omega), decide_eq_true h4]
      show (sgN x - (8 - m) + 1, true) = _
      rw [show sgN x - (8 - m) + 1 = sgN x - (8 - (m + 1)) by omega]
    · have h4 : cdA x (7 - m) = 0 := by
        unfold cdA
        have hlt : uN x < 2 ^ (8 * sgN x) := by
          rcases Nat.lt_or_ge (uN x) (2 ^ (8 * sgN x)) with z | z
          · exact z
          · have := Nat.div_pos z (Nat.two_pow_pos _); omega
        have : uN x / 2 ^ (8 * (7 - m)) = 0 := Nat.div_eq_of_lt (Nat.lt_of_lt_of_le hlt (Nat.pow_le_pow_right (by decide) (by omega)))
        rw [this]
      rw [if_pos h4, if_pos h4]
      show (sgN x - (8 - m) + 0, true && decide (sgN x - (8 - m) = 0)) = _
      rw [decide_eq_true (show sgN x - (8 - m) = 0 by omega), show sgN x - (8 - m) + 0 = sgN x - (8 - (m + 1)) by omega]
      rfl
theorem mdl_inv {x : Int64} : ∀ m, m ≤ 8 → (mdl x m).2 = true → uN x ≠ 0 ∧ ∀ j, 8 - m ≤ j → j < 8 → (j < 8 - m + (mdl x m).1 → 33 ≤ cdA x j ∧ cdA x j ≤ 126) ∧ (8 - m + (mdl x m).1 ≤ j → cdA x j = 0)
  | 0, _, h => ⟨of_decide_eq_true h, fun j h1 h2 => absurd h2 (by omega)⟩
  | m + 1, hm, h => by
    have h : ((mdl x m).2 && (if cdA x (7 - m) = 0 then decide ((mdl x m).1 = 0) else decide (33 ≤ cdA x (7 - m) ∧ cdA x (7 - m) ≤ 126))) = true := h
    obtain ⟨g1, g2⟩ := Bool.and_eq_true_iff.mp h
    obtain ⟨ih1, ih2⟩ := mdl_inv m (by omega) g1
    refine ⟨ih1, fun j hj hj8 => ?_⟩
    show (j < 8 - (m + 1) + ((mdl x m).1 + (if cdA x (7 - m) = 0 then 0 else 1)) → _) ∧ (8 - (m + 1) + ((mdl x m).1 + (if cdA x (7 - m) = 0 then 0 else 1)) ≤ j → _)
    by_cases e : cdA x (7 - m) = 0
    · rw [if_pos e] at g2 ⊢
      have g2 : (mdl x m).1 = 0 := of_decide_eq_true g2
      by_cases e2 : j = 7 - m
      · rw [e2]; exact ⟨fun z => absurd z (by omega), fun _ => e⟩
      · have := ih2 j (by omega) hj8
        exact ⟨fun z => this.1 (by omega), fun z => this.2 (by omega)⟩
    · rw [if_neg e] at g2 ⊢
      have g2 := of_decide_eq_true g2
      by_cases e2 : j = 7 - m
      · rw [e2]; exact ⟨fun _ => g2, fun z => absurd z (by omega)⟩
      · have := ih2 j (by omega) hj8
        exact ⟨fun z => this.1 (by omega), fun z => this.2 (by omega)⟩
theorem mdl_no {x : Int64} (h : (mdl x 8).2 = true) : sgOk x = true := by
  obtain ⟨h1, h2⟩ := mdl_inv 8 (Nat.le_refl 8) h
  have hle := mdl_le x 8
  generalize (mdl x 8).1 = n at h2 hle
  have hv : ∀ j, j < n → 33 ≤ cdA x j ∧ cdA x j ≤ 126 := fun j hj => (h2 j (by omega) (by omega)).1 (by omega)
  have hz : ∀ j, n ≤ j → j < 8 → cdA x j = 0 := fun j h3 h4 => (h2 j (by omega) h4).2 (by omega)
  have hs : sgN x = n := aFst_eq hle (fun j hj => decide_eq_false (by have := hv j hj; omega)) (fun hn => decide_eq_true (hz n (Nat.le_refl _) hn))
  have hd := uN_hi hz (8 - n) (by omega)
  rw [show 8 - (8 - n) = n by omega] at hd
  unfold sgOk
  rw [hs]
  refine decide_eq_true ⟨?_, (bc_all (p := fun k => decide (33 ≤ cdA x k ∧ cdA x k ≤ 126)) n).mpr (fun i hi => decide_eq_true (hv i hi)), hd⟩
  rcases Nat.eq_zero_or_pos n with e | e
  · rw [e, Nat.mul_zero, Nat.pow_zero, Nat.div_one] at hd; exact absurd hd h1
  · exact e
theorem lg_uN (x : Int64) : lg_cmp x 0 = 0 ↔ uN x = 0 := by
  rw [lg_cmp_eq]
  constructor
  · intro z; rw [z]; rfl
  · intro z; exact Int64.toBitVec.inj (BitVec.eq_of_toNat_eq z)
section AX61
variable {ro : axRo} {d : Nat} {h : axH} {c : Nat → axC} {M : axMD} {tl : axH} {A A' : axAD} {V V' : axV} {r : Int32} {x : Int64} {pl : Nat}
theorem put_bytes {h : axH} {Q : Option Value → axH → Prop} (hQ : ∀ v6 : Option Value, axW ro (axEv ro (d + 1)) cdX5_put 95 ([some (.ref 15), some (.long x), none, some (.int (nI (mdl x (8)).1)), some (.int (if (mdl x (8)).2 = true then 1 else 0)), some (.int (nI 0 - 1)), v6]) [.int (if (mdl x 8).2 = true then 1 else 0)] h Q) : ∀ q, q ≤ 8 → ∀ v6 : Option Value,
    axW ro (axEv ro (d + 1)) cdX5_put 21 ([some (.ref 15), some (.long x), none, some (.int (nI (mdl x (8 - q)).1)), some (.int (if (mdl x (8 - q)).2 = true then 1 else 0)), some (.int (nI q - 1)), v6]) [.int (nI q - 1)] h Q := by
  intro q
  induction q with
  | zero =>
    intro _ v6
    refine wp_iflt rfl (fun _ => ?_) (fun hz_ => absurd ((by decide : nI 0 - 1 < 0)) hz_)
    refine wp_run rfl ?_
    exact hQ v6
  | succ q ih =>
    intro hq v6
    have hc := cdA_le x q
    have hle := mdl_le x (8 - (q + 1))
    have ih := ih (by omega) (some (.int (nI (cdA x q))))
    rw [show 8 - q = 8 - (q + 1) + 1 by omega, mdl, show 7 - (8 - (q + 1)) = q by omega] at ih
    generalize mdl x (8 - (q + 1)) = p at ih hle ⊢
    obtain ⟨n, b⟩ := p
    have tail : ∀ b' : Bool, b' = (b && (if cdA x q = 0 then decide (n = 0) else decide (33 ≤ cdA x q ∧ cdA x q ≤ 126))) → axW ro (axEv ro (d + 1)) cdX5_put 77 [some (.ref 15), some (.long x), none, some (.int (nI n)), some (.int (if b' = true then 1 else 0)), some (.int (nI q)), some (.int (nI (cdA x q)))] [.int (nI (cdA x q)), .int (nI n)] h Q := by
      intro b' hb
      subst hb
      by_cases e : cdA x q = 0
      · refine wp_ifne rfl (fun hz_ => absurd hz_ (fun z => z (by rw [e]; rfl))) (fun _ => ?_)
        refine wp_run rfl ?_
        rw [if_pos e, if_pos e] at ih
        rw [if_pos e, show nI q + (-1) = nI q - 1 by rw [Int32.sub_eq_add_neg], show nI n + 0 = nI (n + 0) from Int32.add_zero _]
        exact ih
      · refine wp_ifne rfl (fun _ => ?_) (fun hz_ => absurd (nI_ne0 (by omega) (by omega)) hz_)
        refine wp_run rfl ?_
        rw [if_neg e, if_neg e] at ih
        rw [if_neg e, show nI q + (-1) = nI q - 1 by rw [Int32.sub_eq_add_neg], nI_1]
        exact ih
    show axW ro (axEv ro (d + 1)) cdX5_put 21 [some (.ref 15), some (.long x), none, some (.int (nI n)), some (.int (if b = true then 1 else 0)), some (.int (nI (q + 1) - 1)), v6] [.int (nI (q + 1) - 1)] h Q
    rw [nI_pred]
    refine wp_iflt rfl (fun hz_ => absurd hz_ (nI_pos (by omega))) (fun _ => ?_)
    refine wp_run rfl ?_
    rw [cd_s x (show q < 8 by omega)]
    cases b with
    | false =>
      refine wp_ifeq rfl (fun _ => ?_) (fun hz_ => absurd (rfl) hz_)
      refine wp_run rfl ?_
      exact tail false rfl
    | true =>
      refine wp_ifeq rfl (fun hz_ => absurd hz_ ((by decide : ¬ (1 : Int32) = 0))) (fun _ => ?_)
      refine wp_run rfl ?_
      by_cases e : cdA x q = 0
      · refine wp_ifne rfl (fun hz_ => absurd hz_ (fun z => z (by rw [e]; rfl))) (fun _ => ?_)
        refine wp_run rfl ?_
        rw [if_pos e] at tail
        by_cases e2 : n = 0
        · refine wp_ifne rfl (fun hz_ => absurd hz_ (fun z => z (by rw [e2]; rfl))) (fun _ => ?_)
          refine wp_run rfl ?_
          exact tail true (by rw [decide_eq_true e2]; rfl)
        · refine wp_ifne rfl (fun _ => ?_) (fun hz_ => absurd (nI_ne0 (by omega) (by omega)) hz_)
          refine wp_run rfl ?_
          exact tail false (by rw [decide_eq_false e2]; rfl)
      · rw [if_neg e] at tail
        refine wp_ifne rfl (fun _ => ?_) (fun hz_ => absurd (nI_ne0 (by omega) (by omega)) hz_)
        refine wp_run rfl ?_
        by_cases e2 : 33 ≤ cdA x q ∧ cdA x q ≤ 126
        · refine wp_s3 rfl (Nat.le_of_ble_eq_true rfl) (x5_in_yes (nI_nlt (b := 33) e2.1 (by omega)) (nI_le (b := 126) e2.2 (by omega))) ?_
          refine wp_run rfl ?_
          refine wp_ifeq rfl (fun hz_ => absurd hz_ ((by decide : ¬ (1 : Int32) = 0))) (fun _ => ?_)
          refine wp_run rfl ?_
          exact tail true (by rw [decide_eq_true e2]; rfl)
        · have e3 : nI (cdA x q) < 33 ∨ ¬ nI (cdA x q) ≤ 126 := by
            rcases Nat.lt_or_ge (cdA x q) 33 with z | z
            · exact Or.inl (nI_lt (b := 33) z (by omega))
            · exact Or.inr (nI_ge (a := 126) (show 126 < cdA x q by omega) (by omega))
          refine wp_s3 rfl (Nat.le_of_ble_eq_true rfl) (x5_in_no e3) ?_
          refine wp_run rfl ?_
          refine wp_ifeq rfl (fun _ => ?_) (fun hz_ => absurd (rfl) hz_)
          refine wp_run rfl ?_
          exact tail false (by rw [decide_eq_false e2]; rfl)
theorem put_go (hx : sgOk x = true) (hl : pl + sgN x ≤ 80) {v3 v4 : Int32} {v6 : Option Value} : ∀ q, q ≤ sgN x →
    axW ro (axEv ro (d + 1)) cdX5_put 122 [some (.ref 15), some (.long x), none, some (.int v3), some (.int v4), some (.int (nI q - 1)), v6] [.int (nI q - 1)] (hM c (mS M, mHs M, mKp M, mSl M, mSv M, mBf M, fpt (mPd M) pl (sgN x) (sgN x - q) x, nI (pl + (sgN x - q)), M.2.2.2.2.2.2.2.2) tl) (fun r' h' => r' = some (.int (nI (pl + sgN x))) ∧ h' = (hM c (mS M, mHs M, mKp M, mSl M, mSv M, mBf M, fpt (mPd M) pl (sgN x) (sgN x) x, nI (pl + (sgN x)), M.2.2.2.2.2.2.2.2) tl)) := by
  obtain ⟨g1, g2, g3⟩ := sgOk_in hx
  intro q
  induction q with
  | zero =>
    intro _
    refine wp_iflt rfl (fun _ => ?_) (fun hz_ => absurd ((by decide : nI 0 - 1 < 0)) hz_)
    refine wp_run rfl ?_
    rw [Nat.sub_zero]
    exact wp_ret rfl rfl ⟨rfl, rfl⟩
  | succ q ih =>
    intro hq
    have ih := ih (by omega)
    rw [nI_pred]
    refine wp_iflt rfl (fun hz_ => absurd hz_ (nI_pos (by omega))) (fun _ => ?_)
    refine wp_run rfl ?_
    rw [cd_s x (show q < 8 by omega)]
    refine wp_ast (h1 := hM c (mS M, mHs M, mKp M, mSl M, mSv M, mBf M, fpt (mPd M) pl (sgN x) (sgN x - q) x, nI (pl + (sgN x - (q + 1))), M.2.2.2.2.2.2.2.2) tl) rfl rfl (vp_in_nI (show pl + (sgN x - (q + 1)) < 80 by omega) (by decide)) rfl (by
      rw [nI_clamp (by omega), show sgN x - q = sgN x - (q + 1) + 1 by omega, ← fpt_s, show sgN x - 1 - (sgN x - (q + 1)) = q by omega]; rfl) ?_
    refine wp_run rfl ?_
    rw [nI_1]
    refine wp_putf (h1 := (hM c (mS M, mHs M, mKp M, mSl M, mSv M, mBf M, fpt (mPd M) pl (sgN x) (sgN x - q) x, nI (pl + (sgN x - (q + 1)) + 1), M.2.2.2.2.2.2.2.2) tl)) rfl rfl (Nat.le_of_ble_eq_true rfl) ⟨rfl, rfl, fun _ hz_ => by cases hz_⟩ rfl ?_
    refine wp_run rfl ?_
    rw [show pl + (sgN x - (q + 1)) + 1 = pl + (sgN x - q) by omega, show nI q + (-1) = nI q - 1 by rw [Int32.sub_eq_add_neg]]
    exact ih
theorem x5_put (hV : MSt V M) (hS : spPut V x r V') : ∃ M', axEv ro (d + 2) kX5_put [.ref 15, .long x] (hM c M tl) (some (.int r)) (hM c M' tl) ∧ MSt V' M' := by
  obtain ⟨hR, hO, hk, hk6, hH, hSl, hl, hP⟩ := id hV
  have hp80 := hP.1
  have hb : ∀ Q : Option Value → axH → Prop, (∀ v6 : Option Value, axW ro (axEv ro (d + 1)) cdX5_put 95 ([some (.ref 15), some (.long x), none, some (.int (nI (mdl x (8)).1)), some (.int (if (mdl x (8)).2 = true then 1 else 0)), some (.int (nI 0 - 1)), v6]) [.int (if (mdl x 8).2 = true then 1 else 0)] (hM c M tl) Q) → axW ro (axEv ro (d + 1)) cdX5_put 0 [some (.ref 15), some (.long x), none, none, none, none, none] [] (hM c M tl) Q := by
    intro Q hQ
    have hb := put_bytes (d := d) (x := x) hQ 8 (Nat.le_refl 8) none
    rw [Nat.sub_self, show nI 8 - 1 = 7 by decide] at hb
    refine wp_run rfl ?_
    by_cases e : uN x = 0
    · have hb2 : (mdl x 0).2 = false := decide_eq_false (fun z => z e)
      rw [hb2] at hb
      refine wp_ifeq rfl (fun _ => ?_) (fun hz_ => absurd ((lg_uN x).mpr e) hz_)
      refine wp_run rfl ?_
      exact hb
    · have hb2 : (mdl x 0).2 = true := decide_eq_true e
      rw [hb2] at hb
      refine wp_ifeq rfl (fun hz_ => absurd hz_ (fun z => e ((lg_uN x).mp z))) (fun _ => ?_)
      refine wp_run rfl ?_
      exact hb
  rcases hS with ⟨h1, rfl, rfl⟩ | ⟨h1, ⟨h2, rfl, rfl⟩ | ⟨h2, rfl, rfl⟩⟩
  · have e : (mdl x 8).2 = false := by
      cases h : (mdl x 8).2
      · rfl
      · rw [mdl_no h] at h1; cases h1
    refine ⟨M, ?_, hV⟩
    rw [e] at hb
    refine ev_in rfl rfl (Nat.le_of_ble_eq_true rfl) rfl ?_
    refine hb _ (fun v6 => ?_)
    refine wp_ifne rfl (fun hz_ => absurd hz_ (fun z => z rfl)) (fun _ => ?_)
    refine wp_run rfl ?_
    exact wp_ret rfl rfl ⟨rfl, rfl⟩
  · obtain ⟨g1, g2, g3⟩ := sgOk_in h1
    have e := mdl_yes h1 8 (Nat.le_refl 8)
    rw [show sgN x - (8 - 8) = sgN x by omega] at e
    refine ⟨M, ?_, hV⟩
    rw [e] at hb
    refine ev_in rfl rfl (Nat.le_of_ble_eq_true rfl) rfl ?_
    refine hb _ (fun v6 => ?_)
    refine wp_ifne rfl (fun _ => ?_) (fun hz_ => absurd ((by decide : ¬ (1 : Int32) = 0)) hz_)
    refine wp_run rfl ?_
    rw [hl, nI_add]
    refine wp_icle rfl (fun hz_ => absurd hz_ (nI_ge (a := 80) h2 (by omega))) (fun _ => ?_)
    refine wp_run rfl ?_
    exact wp_ret rfl rfl ⟨rfl, rfl⟩
  · obtain ⟨g1, g2, g3⟩ := sgOk_in h1
    have e := mdl_yes h1 8 (Nat.le_refl 8)
    rw [show sgN x - (8 - 8) = sgN x by omega] at e
    refine ⟨(mS M, mHs M, mKp M, mSl M, mSv M, mBf M, fpt (mPd M) (vP V) (sgN x) (sgN x) x, nI (vP V + sgN x), M.2.2.2.2.2.2.2.2), ?_, hR, hO, hk, hk6, hH, hSl, rfl, PT_put hP h1 h2⟩
    rw [e] at hb
    dsimp only at hb
    refine ev_in rfl rfl (Nat.le_of_ble_eq_true rfl) rfl ?_
    refine hb _ (fun v6 => ?_)
    have hgo := put_go (ro := ro) (d := d) (c := c) (M := M) (tl := tl) (pl := vP V) h1 h2 (v3 := nI (sgN x)) (v4 := 1) (v6 := v6) (sgN x) (Nat.le_refl _)
    rw [Nat.sub_self, fpt_0, show nI (vP V + 0) = mLn M by rw [Nat.add_zero]; exact hl.symm] at hgo
    refine wp_ifne rfl (fun _ => ?_) (fun hz_ => absurd ((by decide : ¬ (1 : Int32) = 0)) hz_)
    refine wp_run rfl ?_
    have h4 : nI (vP V + sgN x) ≤ (80 : Int32) := nI_le (b := 80) h2 (by decide)
    rw [hl, show nI (vP V) + nI (sgN x) = nI (vP V + sgN x) from nI_add _ _]
    refine wp_icle rfl (fun _ => ?_) (fun z => absurd h4 z)
    refine wp_run rfl ?_
    exact hgo
end AX61
