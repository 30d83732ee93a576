/-! THE REFERENCE: an act is fitted. -/
/-- a board with other beats -/
def aBb (A : axAD) (b : Nat → Nat) : axAD := (aN A, aR A, aW A, b, aD A, aT A, aPg A, aSl A, aTr A, aTg A)
theorem va_same {α : Type} (f : Nat → α) (k : Nat) : va_up f k (f k) = f := by
  funext i
  by_cases e : i = k
  · rw [e, va_is]
  · rw [va_no e]
theorem aFt_0 (lo m : Nat) (A : axAD) : aFt lo m 0 A = A := by
  cases m with
  | zero => rfl
  | succ m => rw [aFt, if_pos rfl]
theorem bb_beg {A : axAD} {b : Nat → Nat} {j v : Nat} (hj : j < aN A) (inj : ∀ i, i < aN A → aR A i = aR A j → i = j) (hv : v ≤ b (aR A j)) : ∀ p, p ≤ aN A → aBeg (aBb A (va_up b (aR A j) v)) p + (if j < p then b (aR A j) - v else 0) = aBeg (aBb A b) p
  | 0, _ => rfl
  | p + 1, hp => by
    have ih := bb_beg hj inj hv p (by omega)
    show aBeg (aBb A (va_up b (aR A j) v)) p + va_up b (aR A j) v (aR A p) + _ = aBeg (aBb A b) p + b (aR A p)
    by_cases e : p = j
    · subst e
      rw [va_is, if_pos (by omega)]
      rw [if_neg (by omega)] at ih
      omega
    · rw [va_no (fun z => e (inj p (by omega) z))]
      by_cases e2 : j < p
      · rw [if_pos (by omega)]; rw [if_pos e2] at ih; omega
      · rw [if_neg (by omega)]; rw [if_neg e2] at ih; omega
theorem bb_rm {A : axAD} {b : Nat → Nat} {j v : Nat} (inj : ∀ i, i < j → aR A i ≠ aR A j) : ∀ p, p ≤ j → aRm (aBb A (va_up b (aR A j) v)) p = aRm (aBb A b) p
  | 0, _ => rfl
  | p + 1, hp => by
    show aRm (aBb A (va_up b (aR A j) v)) p + (va_up b (aR A j) v (aR A p) - _) = aRm (aBb A b) p + (b (aR A p) - _)
    rw [bb_rm inj p (by omega), va_no (inj p (by omega))]
    rfl
theorem bb_off {A : axAD} {b : Nat → Nat} {j v a : Nat} (hj : j < aN A) (inj : ∀ i, i < aN A → aR A i = aR A j → i = j) (hv : v ≤ b (aR A j)) (h1 : aSt A a ≤ j) (h2 : j < aSt A (a + 1)) : aOff (aBb A (va_up b (aR A j) v)) a = aOff (aBb A b) a - ((b (aR A j) - v : Nat) : Int) := by
  have e1 := bb_beg hj inj hv (aSt A a) (aSt_le A a)
  have e2 := bb_beg hj inj hv (aSt A (a + 1)) (aSt_le A (a + 1))
  rw [if_neg (by omega)] at e1
  rw [if_pos h2] at e2
  have e3 : aBeg (aBb A b) (aSt A a) + b (aR A j) ≤ aBeg (aBb A b) (aSt A (a + 1)) := by
    have m1 : aBeg (aBb A b) (aSt A a) ≤ aBeg (aBb A b) j := aS_mono h1
    have m2 : aBeg (aBb A b) (j + 1) ≤ aBeg (aBb A b) (aSt A (a + 1)) := aS_mono h2
    have m3 : aBeg (aBb A b) (j + 1) = aBeg (aBb A b) j + b (aR A j) := rfl
    omega
  show ((aBeg (aBb A (va_up b (aR A j) v)) (aSt A (a + 1)) - aBeg (aBb A (va_up b (aR A j) v)) (aSt A a) : Nat) : Int) - (aTgt A a : Int) = ((aBeg (aBb A b) (aSt A (a + 1)) - aBeg (aBb A b) (aSt A a) : Nat) : Int) - (aTgt A a : Int) - ((b (aR A j) - v : Nat) : Int)
  omega
section AX55
variable {ro : axRo} {d : Nat} {h : axH} {c : Nat → axC} {M : axMD} {tl : axH} {A A' : axAD} {x y w r : Int32}
theorem fit_skip (hO : aOw A) {s : Nat → Int32} (hR : MR s A) {a : Nat} (ha : a < 2 ^ 31) {X : Int32} {v5 : Option Value} : ∀ m q0, q0 + m ≤ aN A → (∀ j, q0 ≤ j → j < q0 + m → aAct A j ≠ a) → ∀ v4 : Option Value, ∃ v4' : Option Value, ∀ Q : Option Value → axH → Prop,
    axW ro (axEv ro (d + 5)) cdX5_doFit 28 [some (.ref 15), some (.int (nI a)), some (.int X), some (.int (nI q0 - 1)), v4', v5] [.int (nI q0 - 1)] (hM c (s, M.2) tl) Q →
    axW ro (axEv ro (d + 5)) cdX5_doFit 28 [some (.ref 15), some (.int (nI a)), some (.int X), some (.int (nI (q0 + m) - 1)), v4, v5] [.int (nI (q0 + m) - 1)] (hM c (s, M.2) tl) Q := by
  have hn := hO.n
  intro m
  induction m with
  | zero => intro q0 _ _ v4; exact ⟨v4, fun Q k => k⟩
  | succ m ih =>
    intro q0 hq hne v4
    obtain ⟨v4', hk⟩ := ih q0 (by omega) (fun j h1 h2 => hne j h1 (by omega)) (some (.int (nI (aR A (q0 + m)))))
    refine ⟨v4', fun Q k => ?_⟩
    have hk := hk Q k
    have hl := aAct_le (A := A) (q0 + m)
    rw [show nI (q0 + (m + 1)) - 1 = nI (q0 + m) from nI_pred (q0 + m)]
    refine wp_iflt rfl (fun hz_ => absurd hz_ (nI_pos (by omega))) (fun _ => ?_)
    refine wp_run rfl ?_
    rw [show (10 : Int32) + nI (q0 + m) = nI (10 + (q0 + m)) from nI_add 10 (q0 + m)]
    refine wp_ald rfl rfl (vp_in_nI ((show 10 + (q0 + m) < 154 by omega)) (by decide)) (by rw [nI_clamp (by omega)]) ?_
    refine wp_run rfl ?_
    rw [show mS (s, M.2) (10 + (q0 + m)) = nI (aR A (q0 + m)) from mr_rw hR (by omega)]
    refine wp_v1 rfl rfl (Nat.le_of_ble_eq_true rfl) (x5_actAt (M := (s, M.2)) (d := d + 3) hO hR (by omega)) ?_
    refine wp_run rfl ?_
    refine wp_icne rfl (fun _ => ?_) (fun hz_ => absurd (fun z => hne (q0 + m) (by omega) (by omega) ((nI_eq (by omega) ha).mp z)) hz_)
    refine wp_run rfl ?_
    rw [show nI (q0 + m) + (-1) = nI (q0 + m) - 1 by rw [Int32.sub_eq_add_neg]]
    exact hk
theorem fit_loop {a : Nat} (ha : a < 2 ^ 31) : ∀ m, aSt A a + m ≤ aSt A (a + 1) → ∀ (b : Nat → Nat) (X : Nat) (s : Nat → Int32) (v4 v5 : Option Value), aOk (aBb A b) → MR s (aBb A b) →
    ∃ (b2 : Nat → Nat) (s2 : Nat → Int32) (v4' v5' : Option Value), aBb A b2 = aFt (aSt A a) m (min (aOff (aBb A b) a).toNat (aRm (aBb A b) (aSt A a + m) - aRm (aBb A b) (aSt A a))) (aBb A b) ∧ aOk (aBb A b2) ∧ MR s2 (aBb A b2) ∧
      aOff (aBb A b2) a = aOff (aBb A b) a - (min (aOff (aBb A b) a).toNat (aRm (aBb A b) (aSt A a + m) - aRm (aBb A b) (aSt A a)) : Nat) ∧
      ∀ Q : Option Value → axH → Prop,
    axW ro (axEv ro (d + 5)) cdX5_doFit 28 [some (.ref 15), some (.int (nI a)), some (.int (nI (X + min (aOff (aBb A b) a).toNat (aRm (aBb A b) (aSt A a + m) - aRm (aBb A b) (aSt A a))))), some (.int (nI (aSt A a) - 1)), v4', v5'] [.int (nI (aSt A a) - 1)] (hM c (s2, M.2) tl) Q →
    axW ro (axEv ro (d + 5)) cdX5_doFit 28 [some (.ref 15), some (.int (nI a)), some (.int (nI X)), some (.int (nI (aSt A a + m) - 1)), v4, v5] [.int (nI (aSt A a + m) - 1)] (hM c (s, M.2) tl) Q := by
  intro m
  induction m with
  | zero =>
    intro _ b X s v4 v5 hO hR
    refine ⟨b, s, v4, v5, ?_, hO, hR, ?_, fun Q k => ?_⟩
    · rw [Nat.add_zero, Nat.sub_self, Nat.min_zero]; rfl
    · rw [Nat.add_zero, Nat.sub_self, Nat.min_zero]; simp
    · rw [show min (aOff (aBb A b) a).toNat (aRm (aBb A b) (aSt A a + 0) - aRm (aBb A b) (aSt A a)) = 0 by rw [Nat.add_zero, Nat.sub_self, Nat.min_zero]] at k; exact k
  | succ m ih =>
    intro hm b X s v4 v5 hO hR
    have hst := aSt_le A (a + 1)
    have hn : aN A ≤ 24 := hO.n
    have hjn : aSt A a + m < aN A := by omega
    have hact : aAct A (aSt A a + m) = a := by
      have h1 := ((aSt_lt A (a + 1) (aSt A a + m)).mp (by omega)).2
      rcases Nat.lt_or_ge (aAct A (aSt A a + m)) a with z | z
      · have := (aSt_lt A a (aSt A a + m)).mpr ⟨hjn, z⟩; omega
      · omega
    generalize hj : aSt A a + m = j at *
    have hrj : aR A j < 24 := hO.r hjn
    have hbj : 1 ≤ b (aR A j) ∧ b (aR A j) ≤ aW A (aR A j) ∧ aW A (aR A j) ≤ 99 := hO.b hjn
    have hcl : aCan (aBb A b) (aR A j) < b (aR A j) := aCan_lt hO hjn
    have inj : ∀ i, i < aN A → aR A i = aR A j → i = j := fun i hi e => hO.inj hi hjn e
    have hob := aOff_b hO a
    have hrm : aRm (aBb A b) (j + 1) = aRm (aBb A b) j + aCan (aBb A b) (aR A j) := rfl
    have hmono : aRm (aBb A b) (aSt A a) ≤ aRm (aBb A b) j := aS_mono (by omega)
    generalize hcan : aCan (aBb A b) (aR A j) = can at *
    generalize ho : aOff (aBb A b) a = o at *
    rw [show aSt A a + (m + 1) = j + 1 by omega, hrm]
    generalize hrest : aRm (aBb A b) j - aRm (aBb A b) (aSt A a) = rest at *
    rw [show aRm (aBb A b) j + can - aRm (aBb A b) (aSt A a) = rest + can by omega]
    have head : ∀ Q : Option Value → axH → Prop,
        axW ro (axEv ro (d + 5)) cdX5_doFit 56 [some (.ref 15), some (.int (nI a)), some (.int (nI X)), some (.int (nI j)), some (.int (nI (aR A j))), v5] [.int (zI o)] (hM c (s, M.2) tl) Q →
        axW ro (axEv ro (d + 5)) cdX5_doFit 28 [some (.ref 15), some (.int (nI a)), some (.int (nI X)), some (.int (nI (j + 1) - 1)), v4, v5] [.int (nI (j + 1) - 1)] (hM c (s, M.2) tl) Q := by
      intro Q k
      rw [nI_pred]
      refine wp_iflt rfl (fun hz_ => absurd hz_ (nI_pos (by omega))) (fun _ => ?_)
      refine wp_run rfl ?_
      rw [show (10 : Int32) + nI (j) = nI (10 + (j)) from nI_add 10 (j)]
      refine wp_ald rfl rfl (vp_in_nI ((show 10 + j < 154 by omega)) (by decide)) (by rw [nI_clamp (by omega)]) ?_
      refine wp_run rfl ?_
      rw [show mS (s, M.2) (10 + j) = nI (aR A j) from mr_rw hR hjn]
      refine wp_v1 rfl rfl (Nat.le_of_ble_eq_true rfl) (x5_actAt (M := (s, M.2)) (d := d + 3) hO.w hR (show j ≤ aN A by omega)) ?_
      refine wp_run rfl ?_
      refine wp_icne rfl (fun hz_ => absurd hz_ (fun z => z (by rw [show aAct (aBb A b) j = aAct A j from rfl, hact]))) (fun _ => ?_)
      refine wp_run rfl ?_
      refine wp_v1 rfl rfl (Nat.le_of_ble_eq_true rfl) (x5_off (M := (s, M.2)) (d := d) hO.w hR ha) ?_
      rw [ho]
      exact k
    by_cases h0 : o ≤ 0
    · obtain ⟨b2, s2, v4', v5', g1, g2, g3, g4, g5⟩ := ih (by omega) b X s (some (.int (nI (aR A j)))) v5 hO hR
      rw [ho, hrest, show min o.toNat rest = 0 by omega] at g1 g4 g5
      rw [show min o.toNat (rest + can) = 0 by omega]
      refine ⟨b2, s2, v4', v5', by rw [g1, aFt_0, aFt_0], g2, g3, g4, fun Q k => head Q ?_⟩
      refine wp_ifle rfl (fun _ => ?_) (fun hz_ => absurd (by rw [zI_0, zI_le ⟨by omega, by omega⟩ ⟨by omega, by omega⟩]; exact h0) hz_)
      refine wp_run rfl ?_
      rw [show nI j + (-1) = nI j - 1 by rw [Int32.sub_eq_add_neg]]
      exact g5 Q k
    · have hby : min o.toNat can ≤ b (aR A j) - 1 := by omega
      obtain ⟨b2, s2, v4', v5', g1, g2, g3, g4, g5⟩ := ih (by omega) (va_up b (aR A j) (b (aR A j) - min o.toNat can)) (X + min o.toNat can) (upd s (36 + 5 * aR A j) (nI (b (aR A j) - min o.toNat can))) (some (.int (nI (aR A j)))) (some (.int (nI (min o.toNat can)))) (aOk_bts hO hjn (show 1 ≤ b (aR A j) - min o.toNat can by omega) (show b (aR A j) - min o.toNat can ≤ aW A (aR A j) by omega)) (mr_bts hR hn _ _)
      have e1 := bb_off (A := A) (b := b) (v := b (aR A j) - min o.toNat can) (a := a) hjn inj (Nat.sub_le _ _) (by omega) (by omega)
      rw [ho, show b (aR A j) - (b (aR A j) - min o.toNat can) = min o.toNat can by omega] at e1
      have e2 := bb_rm (A := A) (b := b) (v := b (aR A j) - min o.toNat can) (fun i hi e => by have := inj i (by omega) e; omega) j (Nat.le_refl _)
      have e3 := bb_rm (A := A) (b := b) (v := b (aR A j) - min o.toNat can) (fun i hi e => by have := inj i (by omega) e; omega) (aSt A a) (by omega)
      rw [e1, e2, e3, hrest] at g1 g4 g5
      have e4 : (o - ((min o.toNat can : Nat) : Int)).toNat = o.toNat - min o.toNat can := by omega
      rw [e4] at g1 g4 g5
      have e5 : min (o.toNat - min o.toNat can) rest = min o.toNat (rest + can) - min o.toNat can := by omega
      rw [e5] at g1 g4 g5
      have hle : min o.toNat can ≤ min o.toNat (rest + can) := by omega
      refine ⟨b2, s2, v4', v5', ?_, g2, g3, by rw [g4]; omega, fun Q k => head Q ?_⟩
      · rw [aFt, hj]
        by_cases hz : min o.toNat (rest + can) = 0
        · rw [if_pos hz]
          have hz2 : min o.toNat can = 0 := by omega
          rw [hz, hz2, Nat.zero_sub, aFt_0, Nat.sub_zero, va_same] at g1
          exact g1
        · rw [if_neg hz, g1]
          show _ = aFt (aSt A a) m (min o.toNat (rest + can) - min (min o.toNat (rest + can)) (aCan (aBb A b) (aR A j))) (aBb A (va_up b (aR A j) (b (aR A j) - min (min o.toNat (rest + can)) (aCan (aBb A b) (aR A j)))))
          rw [hcan, show min (min o.toNat (rest + can)) can = min o.toNat can by omega]
      · have tail : axW ro (axEv ro (d + 5)) cdX5_doFit 97 [some (.ref 15), some (.int (nI a)), some (.int (nI X)), some (.int (nI j)), some (.int (nI (aR A j))), some (.int (nI (min o.toNat can)))] [.int 2, .int (nI (aR A j)), .ref 15, .int 2, .int (nI (aR A j)), .ref 15] (hM c (s, M.2) tl) Q := by
          refine wp_v2 rfl rfl (Nat.le_of_ble_eq_true rfl) (x5_gB (M := (s, M.2)) (d := d + 4) hO.w hR hjn) ?_
          refine wp_run rfl ?_
          rw [show nI (aB (aBb A b) (aR (aBb A b) j)) - nI (min o.toNat can) = nI (b (aR A j) - min o.toNat can) from pk_sub (by show _ ≤ b (aR A j); omega)]
          refine wp_v3v rfl rfl (Nat.le_of_ble_eq_true rfl) (x5_l (M := (s, M.2)) (d := d + 4) 2 hrj (by decide) (show 34 + 5 * aR A j + 2 = 36 + 5 * aR A j by omega)) ?_
          refine wp_run rfl ?_
          rw [nI_add, show nI j + (-1) = nI j - 1 by rw [Int32.sub_eq_add_neg]]
          refine g5 Q ?_
          rw [show X + min o.toNat can + (min o.toNat (rest + can) - min o.toNat can) = X + min o.toNat (rest + can) by omega]
          exact k
        have hzo : zI o = nI o.toNat := by rw [← zI_nI]; congr 1; omega
        refine wp_ifle rfl (fun hz_ => absurd hz_ (by rw [zI_0, zI_le ⟨by omega, by omega⟩ ⟨by omega, by omega⟩]; exact h0)) (fun _ => ?_)
        refine wp_run rfl ?_
        refine wp_v1 rfl rfl (Nat.le_of_ble_eq_true rfl) (x5_off (M := (s, M.2)) (d := d) hO.w hR ha) ?_
        refine wp_run rfl ?_
        refine wp_v1 rfl rfl (Nat.le_of_ble_eq_true rfl) (x5_canTrim (M := (s, M.2)) (d := d + 2) hO.w hR hjn) ?_
        rw [ho, show aCan (aBb A b) (aR (aBb A b) j) = can from hcan, hzo]
        refine wp_run rfl ?_
        by_cases hle2 : can ≤ o.toNat
        · refine wp_icge rfl (fun _ => ?_) (fun hz_ => absurd (nI_le hle2 (by omega)) hz_)
          refine wp_run rfl ?_
          refine wp_v1 rfl rfl (Nat.le_of_ble_eq_true rfl) (x5_canTrim (M := (s, M.2)) (d := d + 2) hO.w hR hjn) ?_
          rw [show aCan (aBb A b) (aR (aBb A b) j) = can from hcan]
          refine wp_run rfl ?_
          rw [show min o.toNat can = can by omega] at tail
          exact tail
        · refine wp_icge rfl (fun hz_ => absurd hz_ (nI_ge (show o.toNat < can by omega) (by omega))) (fun _ => ?_)
          refine wp_run rfl ?_
          refine wp_v1 rfl rfl (Nat.le_of_ble_eq_true rfl) (x5_off (M := (s, M.2)) (d := d) hO.w hR ha) ?_
          rw [ho, hzo]
          refine wp_run rfl ?_
          rw [show min o.toNat can = o.toNat by omega] at tail
          exact tail
theorem x5_doFit (hO : aOk A) (hR : MR (mS M) A) (hS : spFit A x r A') : ∃ s', axEv ro (d + 6) kX5_doFit [.ref 15, .int x] (hM c M tl) (some (.int r)) (hM c (s', M.2) tl) ∧ (¬ r < 0 → MR s' A') := by
  have hn := hO.n
  have hal := aActs_le A
  rcases hS with ⟨hx, rfl, -⟩ | ⟨a, ha, rfl, hf⟩
  · refine ⟨mS M, ?_, fun z => absurd (by decide : (-1 : Int32) < 0) z⟩
    refine ev_in rfl rfl (Nat.le_of_ble_eq_true rfl) rfl ?_
    refine wp_run rfl ?_
    refine wp_v0 rfl rfl (Nat.le_of_ble_eq_true rfl) (x5_acts (d := d + 2) hO.w hR) ?_
    refine wp_run rfl ?_
    by_cases h0 : aActs A = 0
    · rw [h0]
      have hx2 : x < 0 ∨ ¬ x ≤ nI 0 - 1 := by
        rw [h0] at hx
        rcases hx with h | h
        · exact Or.inl h
        · exact Or.inr (fun z => absurd (Int32.le_trans h z) (by decide))
      refine wp_s3 rfl (Nat.le_of_ble_eq_true rfl) (x5_in_no (d := d + 4) hx2) ?_
      refine wp_run rfl ?_
      refine wp_ifne rfl (fun hz_ => absurd hz_ (fun z => z rfl)) (fun _ => ?_)
      refine wp_run rfl ?_
      exact wp_ret rfl rfl ⟨rfl, rfl⟩
    · rw [nI_p1 (by omega)]
      have hx2 : x < 0 ∨ nI (aActs A - 1 + 1) ≤ x := by rw [show aActs A - 1 + 1 = aActs A by omega]; exact hx
      refine wp_s3 rfl (Nat.le_of_ble_eq_true rfl) (x5_in_no (d := d + 4) (in_out (by omega) hx2)) ?_
      refine wp_run rfl ?_
      refine wp_ifne rfl (fun hz_ => absurd hz_ (fun z => z rfl)) (fun _ => ?_)
      refine wp_run rfl ?_
      exact wp_ret rfl rfl ⟨rfl, rfl⟩
  · have hs1 := aSt_le A a
    have hs2 := aSt_le A (a + 1)
    have hs3 := aSt_mono A (show a ≤ a + 1 by omega)
    have hsl := hO.sl
    have hob := aOff_b hO a
    obtain ⟨v41, k1⟩ := fit_skip (ro := ro) (d := d) (c := c) (M := M) (tl := tl) hO.w hR (a := a) (X := nI 0) (v5 := none) (by omega) (aN A - aSt A (a + 1)) (aSt A (a + 1)) (by omega) (fun j h1 h2 z => by have := (aSt_lt A (a + 1) j).mpr ⟨by omega, by omega⟩; omega) none
    obtain ⟨b2, s2, v42, v52, g1, g2, g3, g4, g5⟩ := fit_loop (A := A) (ro := ro) (d := d) (c := c) (M := M) (tl := tl) (a := a) (by omega) (aSt A (a + 1) - aSt A a) (by omega) (aB A) 0 (mS M) v41 none hO hR
    rw [show aSt A a + (aSt A (a + 1) - aSt A a) = aSt A (a + 1) by omega] at g1 g4 g5
    have hcut : min (aOff (aBb A (aB A)) a).toNat (aRm (aBb A (aB A)) (aSt A (a + 1)) - aRm (aBb A (aB A)) (aSt A a)) = aCut A a := rfl
    rw [hcut] at g1 g4 g5
    have g1 : aBb A b2 = aFit A a := g1
    have g4 : aOff (aBb A b2) a = aOff A a - (aCut A a : Nat) := g4
    obtain ⟨v43, k3⟩ := fit_skip (ro := ro) (d := d) (c := c) (M := M) (tl := tl) (A := aBb A b2) (s := s2) g2.w g3 (a := a) (X := nI (0 + aCut A a)) (v5 := v52) (by omega) (aSt A a) 0 (by rw [Nat.zero_add]; exact hs1) (fun j _ h2 => by
      have h2 : j < aSt A a := by omega
      have := ((aSt_lt A a j).mp h2).2
      show aAct A j ≠ a
      omega) v42
    have hcl : aCut A a ≤ (aOff A a).toNat := Nat.min_le_left _ _
    have hle : zI (aOff A a - (aCut A a : Nat)) ≤ nI (aSl A) ↔ (aOff A a).toNat - aCut A a ≤ aSl A := by
      rw [← zI_nI, zI_le ⟨by omega, by omega⟩ ⟨by omega, by omega⟩]; omega
    have hev : axEv ro (d + 6) kX5_doFit [.ref 15, .int (nI a)] (hM c M tl) (some (.int (if (aOff A a).toNat - aCut A a ≤ aSl A then nI (aCut A a) else -5))) (hM c (s2, M.2) tl) := by
      refine ev_in rfl rfl (Nat.le_of_ble_eq_true rfl) rfl ?_
      refine wp_run rfl ?_
      refine wp_v0 rfl rfl (Nat.le_of_ble_eq_true rfl) (x5_acts (d := d + 2) hO.w hR) ?_
      refine wp_run rfl ?_
      rw [nI_p1 (by omega)]
      refine wp_s3 rfl (Nat.le_of_ble_eq_true rfl) (x5_in_yes (d := d + 4) (nI_pos (by omega)) (nI_le (show a ≤ aActs A - 1 by omega) (by omega))) ?_
      refine wp_run rfl ?_
      refine wp_ifne rfl (fun _ => ?_) (fun hz_ => absurd ((by decide : ¬ (1 : Int32) = 0)) hz_)
      refine wp_run rfl ?_
      refine wp_ald rfl rfl (vp_in_nI (n := 0) (by decide) (by decide)) (mr_sz hR) ?_
      refine wp_run rfl ?_
      rw [show aSt A (a + 1) + (aN A - aSt A (a + 1)) = aN A by omega] at k1
      refine k1 _ ?_
      refine g5 _ ?_
      rw [Nat.zero_add (aSt A a)] at k3
      refine k3 _ ?_
      refine wp_iflt rfl (fun _ => ?_) (fun hz_ => absurd ((by decide : nI 0 - 1 < 0)) hz_)
      refine wp_run rfl ?_
      refine wp_v1 rfl rfl (Nat.le_of_ble_eq_true rfl) (x5_off (A := aBb A b2) (M := (s2, M.2)) (d := d) g2.w g3 (by omega)) ?_
      rw [g4]
      refine wp_run rfl ?_
      refine wp_ald rfl rfl (vp_in_nI (n := 2) (by decide) (by decide)) (show s2 2 = nI (aSl A) from (mr_sl g3 :)) ?_
      refine wp_run rfl ?_
      by_cases e : (aOff A a).toNat - aCut A a ≤ aSl A
      · rw [if_pos e]
        refine wp_icle rfl (fun _ => ?_) (fun hz_ => absurd (hle.mpr e) hz_)
        refine wp_run rfl ?_
        rw [Nat.zero_add]
        exact wp_ret rfl rfl ⟨rfl, rfl⟩
      · rw [if_neg e]
        refine wp_icle rfl (fun hz_ => absurd hz_ (fun z => e (hle.mp z))) (fun _ => ?_)
        refine wp_run rfl ?_
        exact wp_ret rfl rfl ⟨rfl, rfl⟩
    rcases hf with ⟨hf, rfl, -⟩ | ⟨hf, rfl, rfl⟩
    · rw [if_neg hf] at hev
      exact ⟨_, hev, fun z => absurd (by decide : (-5 : Int32) < 0) z⟩
    · rw [if_pos hf] at hev
      exact ⟨_, hev, fun _ => by rw [← g1]; exact g3⟩
end AX55
