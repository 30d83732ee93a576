/-! THE LAW: what holds of every board. -/
def fitC (A : axAD) (a : Nat) : Nat := bc (fun a => decide (a < aAct A (aN A) ∧ (aOff A a).natAbs ≤ aSl A)) a
section AX54a
variable {A : axAD} {a : Nat}
theorem hz_off : actV A a 2 - 5000 = zI (aOff A a) := by
  show zI (aOff A a + 5000) - 5000 = zI (aOff A a)
  rw [show (5000 : Int32) = zI 5000 from rfl, zI_sub]
  congr 1; omega
theorem hz_last (ha : a < aActs A) : nI (aSt A a) + actV A a 5 - 1 = nI (aSt A (a + 1) - 1) := by
  obtain ⟨p1, p2, p3, p4, p5⟩ := pu_act ha
  show nI (aSt A a) + nI (aSt A (a + 1) - aSt A a) - 1 = _
  rw [nI_add, nI_p1 (by omega)]
  congr 1; omega
theorem hz_by : zI (aOff A a) = actV A a 0 - actV A a 1 := by
  show zI (aOff A a) = nI (aBeg A (aSt A (a + 1)) - aBeg A (aSt A a)) - nI (aTgt A a)
  rw [← zI_nI, ← zI_nI, zI_sub]; rfl
theorem hz_fit : nI (fitC A a) + actV A a 3 = nI (fitC A (a + 1)) := by
  show nI (fitC A a) + (if a < aAct A (aN A) ∧ (aOff A a).natAbs ≤ aSl A then 1 else 0) = nI (fitC A a + (if decide (a < aAct A (aN A) ∧ (aOff A a).natAbs ≤ aSl A) = true then 1 else 0))
  by_cases h : a < aAct A (aN A) ∧ (aOff A a).natAbs ≤ aSl A
  · rw [if_pos h, if_pos (decide_eq_true h), nI_1]
  · rw [if_neg h, if_neg (fun z => h (of_decide_eq_true z)), Nat.add_zero]
    exact Int32.add_zero _
theorem hz_own : nI (aBeg A (aSt A a)) + actV A a 0 = nI (aBeg A (aSt A (a + 1))) := by
  show nI (aBeg A (aSt A a)) + nI (aBeg A (aSt A (a + 1)) - aBeg A (aSt A a)) = _
  have := aBeg_mono (A := A) (aSt_mono A (show a ≤ a + 1 by omega))
  rw [nI_add]
  congr 1; omega
theorem hz_slugs : nI (aSt A a) + actV A a 5 = nI (aSt A (a + 1)) := by
  show nI (aSt A a) + nI (aSt A (a + 1) - aSt A a) = _
  have := aSt_mono A (show a ≤ a + 1 by omega)
  rw [nI_add]
  congr 1; omega
theorem hz_pos (hO : aOk A) (h : 0 ≤ zI (aOff A a)) : nI (ofs A a) + zI (aOff A a) = nI (ofs A (a + 1)) := by
  have hb := aOff_b hO a
  have h : 0 ≤ aOff A a := (zI_le (a := 0) (by omega) (by omega)).mp h
  rw [ofs_s, ← zI_nI, ← zI_nI, zI_add]
  congr 1; omega
theorem hz_neg (hO : aOk A) (h : ¬ 0 ≤ zI (aOff A a)) : nI (ofs A a) + -zI (aOff A a) = nI (ofs A (a + 1)) := by
  have hb := aOff_b hO a
  have h : ¬ 0 ≤ aOff A a := fun z => h ((zI_le (a := 0) (by omega) (by omega)).mpr z)
  rw [ofs_s, ← zI_nI, ← zI_nI, zI_neg, zI_add]
  congr 1; omega
theorem hz_pg (hO : aOk A) : aBeg A (aN A) ≤ (aBeg A (aN A) + aPg A - 1) / aPg A * aPg A ∧ (aBeg A (aN A) + aPg A - 1) / aPg A * aPg A ≤ aBeg A (aN A) + aPg A - 1 := by
  have h := Nat.div_add_mod (aBeg A (aN A) + aPg A - 1) (aPg A)
  have hp := hO.pg
  have h2 := Nat.mod_lt (aBeg A (aN A) + aPg A - 1) (show 0 < aPg A by omega)
  rw [Nat.mul_comm] at h
  omega
theorem hz_pg1 (hO : aOk A) : ¬ cntA A 3 * cntA A 7 < nI (aBeg A (aN A)) := by
  obtain ⟨h1, h2⟩ := hz_pg hO
  have hb := aBeg_le hO (Nat.le_refl (aN A))
  have hn := hO.n
  have hp := hO.pg
  show ¬ nI ((aBeg A (aN A) + aPg A - 1) / aPg A) * nI (aPg A) < nI (aBeg A (aN A))
  rw [pk_mul]
  exact nI_nlt h1 (by omega)
theorem hz_pg2 (hO : aOk A) : ¬ nI (aBeg A (aN A)) ≤ (cntA A 3 - 1) * cntA A 7 := by
  obtain ⟨h1, h2⟩ := hz_pg hO
  have hb := aBeg_le hO (Nat.le_refl (aN A))
  have hn := hO.n
  have hp := hO.pg
  show ¬ nI (aBeg A (aN A)) ≤ (nI ((aBeg A (aN A) + aPg A - 1) / aPg A) - 1) * nI (aPg A)
  generalize (aBeg A (aN A) + aPg A - 1) / aPg A = P at *
  have e : (nI P - 1) * nI (aPg A) = zI (((P : Int) - 1) * (aPg A : Int)) := by
    rw [← zI_nI, ← zI_nI, show (1 : Int32) = zI 1 from rfl, zI_sub]
    exact (Int32.ofInt_mul _ _).symm
  have e2 : ((P : Int) - 1) * (aPg A : Int) = ((P * aPg A : Nat) : Int) - (aPg A : Int) := by
    rw [Int.sub_mul, Int.one_mul, Int.natCast_mul]
  rw [e, e2, ← zI_nI]
  intro z
  have := (zI_le (by omega) (by omega)).mp z
  omega
end AX54a
section AX54
variable {ro : axRo} {d m : Nat} {h : axH} {V : axV}
set_option maxRecDepth 40000 in
theorem L_h3 (hx : XS V [] m h) (u1 u2 u3 u4 : Option Value) : axW ro (axEv ro (d + 8)) cdL_holds 540 [some (.ref 0), some (.int (nI (aN (vA V)))), some (.int (aSet (vA V) (aN (vA V)))), some (.int (nI (aBeg (vA V) (aN (vA V))))), some (.int (nI (aAct (vA V) (aN (vA V))))), some (.int (nI (ofs (vA V) (aActs (vA V))))), some (.int (nI (fitC (vA V) (aActs (vA V))))), some (.int (nI (aBeg (vA V) (aN (vA V))))), some (.int (nI (aN (vA V)))), some (.int (nI (aActs (vA V)))), some (.int (nI (aActs (vA V)))), u1, u2, u3, u4] [.int 0, .ref 0] h (fun r' h' => r' = some (.int 1) ∧ h' = h) := by
  obtain ⟨f0, e0⟩ := XS_o4 hx
  have hO := XS_ok hx
  have hn := hO.n
  have hac := aActs_le (vA V)
  obtain ⟨ht1, ht2⟩ := pu_turns (A := vA V)
  refine wp_v1 rfl e0 (Nat.le_of_ble_eq_true rfl) (L_cnt (d := d + 1) hx 0 (by decide)) ?_
  refine wp_run rfl ?_
  refine wp_icne rfl (fun hz_ => absurd hz_ ((fun z => z rfl))) (fun _ => ?_)
  refine wp_run rfl ?_
  refine wp_v1 rfl e0 (Nat.le_of_ble_eq_true rfl) (L_cnt (d := d + 1) hx 2 (by decide)) ?_
  refine wp_run rfl ?_
  refine wp_icne rfl (fun hz_ => absurd hz_ ((fun z => z rfl))) (fun _ => ?_)
  refine wp_run rfl ?_
  refine wp_icne rfl (fun hz_ => absurd hz_ ((fun z => z rfl))) (fun _ => ?_)
  refine wp_run rfl ?_
  refine wp_icne rfl (fun hz_ => absurd hz_ ((fun z => z rfl))) (fun _ => ?_)
  refine wp_run rfl ?_
  refine wp_v1 rfl e0 (Nat.le_of_ble_eq_true rfl) (L_cnt (d := d + 1) hx 4 (by decide)) ?_
  refine wp_run rfl ?_
  refine wp_icne rfl (fun hz_ => absurd hz_ (fun z => z (congrArg nI aAll_ofs))) (fun _ => ?_)
  refine wp_run rfl ?_
  refine wp_v1 rfl e0 (Nat.le_of_ble_eq_true rfl) (L_cnt (d := d + 1) hx 5 (by decide)) ?_
  refine wp_run rfl ?_
  refine wp_icne rfl (fun hz_ => absurd hz_ ((fun z => z rfl))) (fun _ => ?_)
  refine wp_run rfl ?_
  refine wp_iflt rfl (fun hz_ => absurd hz_ (by rw [pk_sub ht1]; exact nI_pos (by omega))) (fun _ => ?_)
  refine wp_run rfl ?_
  refine wp_icgt rfl (fun hz_ => absurd hz_ (by rw [pk_sub ht1]; exact nI_nlt (a := 1) (by omega) (by omega))) (fun _ => ?_)
  refine wp_run rfl ?_
  refine wp_v1 rfl e0 (Nat.le_of_ble_eq_true rfl) (L_cnt (d := d + 1) hx 3 (by decide)) ?_
  refine wp_run rfl ?_
  refine wp_v1 rfl e0 (Nat.le_of_ble_eq_true rfl) (L_cnt (d := d + 1) hx 7 (by decide)) ?_
  refine wp_run rfl ?_
  refine wp_iclt rfl (fun hz_ => absurd hz_ (hz_pg1 hO)) (fun _ => ?_)
  refine wp_run rfl ?_
  refine wp_v1 rfl e0 (Nat.le_of_ble_eq_true rfl) (L_cnt (d := d + 1) hx 3 (by decide)) ?_
  refine wp_run rfl ?_
  refine wp_v1 rfl e0 (Nat.le_of_ble_eq_true rfl) (L_cnt (d := d + 1) hx 7 (by decide)) ?_
  refine wp_run rfl ?_
  refine wp_icge rfl (fun hz_ => absurd hz_ (hz_pg2 hO)) (fun _ => ?_)
  refine wp_run rfl ?_
  by_cases h0 : (aN (vA V)) = 0
  · refine wp_ifne rfl (fun hz_ => absurd hz_ (fun z => z (by rw [h0]; rfl))) (fun _ => ?_)
    refine wp_run rfl ?_
    refine wp_v1 rfl e0 (Nat.le_of_ble_eq_true rfl) (L_cnt (d := d + 1) hx 6 (by decide)) ?_
    refine wp_run rfl ?_
    refine wp_icne rfl (fun hz_ => absurd hz_ (fun z => z (aLng_0 h0))) (fun _ => ?_)
    refine wp_run rfl ?_
    refine wp_icne rfl (fun hz_ => absurd hz_ ((fun z => z rfl))) (fun _ => ?_)
    refine wp_run rfl ?_
    refine wp_v1 rfl e0 (Nat.le_of_ble_eq_true rfl) (L_atBE (d := d + 2) hx) ?_
    refine wp_run rfl ?_
    refine wp_icne rfl (fun hz_ => absurd hz_ ((fun z => z rfl))) (fun _ => ?_)
    refine wp_run rfl ?_
    exact wp_ret rfl rfl ⟨rfl, rfl⟩
  · obtain ⟨k, hk, ek, -⟩ := aLng_n hO ((aN (vA V)) - 1) (by omega)
    rw [show (aN (vA V)) - 1 + 1 = (aN (vA V)) by omega] at ek
    refine wp_ifne rfl (fun _ => ?_) (fun hz_ => absurd (nI_ne0 (by omega) (by omega)) hz_)
    refine wp_run rfl ?_
    refine wp_v1 rfl e0 (Nat.le_of_ble_eq_true rfl) (L_cnt (d := d + 1) hx 6 (by decide)) ?_
    refine wp_run rfl ?_
    refine wp_icne rfl (fun _ => ?_) (fun hz_ => absurd (fun z => absurd (show nI k < 0 by rw [← ek, show (aLng (vA V) (aN (vA V))).1 = -6 from z]; decide) (nI_pos (by omega))) hz_)
    refine wp_run rfl ?_
    refine wp_icne rfl (fun hz_ => absurd hz_ ((fun z => z rfl))) (fun _ => ?_)
    refine wp_run rfl ?_
    refine wp_v1 rfl e0 (Nat.le_of_ble_eq_true rfl) (L_atBE (d := d + 2) hx) ?_
    refine wp_run rfl ?_
    refine wp_icne rfl (fun hz_ => absurd hz_ ((fun z => z rfl))) (fun _ => ?_)
    refine wp_run rfl ?_
    exact wp_ret rfl rfl ⟨rfl, rfl⟩
set_option maxRecDepth 40000 in
theorem L_h2 (hx : XS V [] m h) : ∀ (j a : Nat), a + j = (aActs (vA V)) → ∀ u1 u2 u3 u4 : Option Value, axW ro (axEv ro (d + 8)) cdL_holds 344 [some (.ref 0), some (.int (nI (aN (vA V)))), some (.int (aSet (vA V) (aN (vA V)))), some (.int (nI (aBeg (vA V) (aN (vA V))))), some (.int (nI (aAct (vA V) (aN (vA V))))), some (.int (nI (ofs (vA V) a))), some (.int (nI (fitC (vA V) a))), some (.int (nI (aBeg (vA V) (aSt (vA V) a)))), some (.int (nI (aSt (vA V) a))), some (.int (nI (aActs (vA V)))), some (.int (nI a)), u1, u2, u3, u4] [.int (nI (aActs (vA V))), .int (nI a)] h (fun r' h' => r' = some (.int 1) ∧ h' = h) := by
  obtain ⟨f0, e0⟩ := XS_o4 hx
  have hO := XS_ok hx
  have hn := hO.n
  have hac := aActs_le (vA V)
  intro j
  induction j with
  | zero =>
    intro a e u1 u2 u3 u4
    have e : a = (aActs (vA V)) := by omega
    subst e
    refine wp_icge rfl (fun _ => ?_) (fun hz_ => absurd (Int32.le_refl _) hz_)
    refine wp_run rfl ?_
    rw [aSt_all]
    exact L_h3 hx u1 u2 u3 u4
  | succ j ih =>
    intro a e u1 u2 u3 u4
    have ha : a < (aActs (vA V)) := by omega
    obtain ⟨p1, p2, p3, p4, p5⟩ := pu_act ha
    have hi : aSt (vA V) (a + 1) - 1 < (aN (vA V)) := by omega
    -- the sums, and on
    have t3 : ∀ v : Option Value, axW ro (axEv ro (d + 8)) cdL_holds 502 [some (.ref 0), some (.int (nI (aN (vA V)))), some (.int (aSet (vA V) (aN (vA V)))), some (.int (nI (aBeg (vA V) (aN (vA V))))), some (.int (nI (aAct (vA V) (aN (vA V))))), some (.int (nI (ofs (vA V) (a + 1)))), some (.int (nI (fitC (vA V) a))), some (.int (nI (aBeg (vA V) (aSt (vA V) a)))), some (.int (nI (aSt (vA V) a))), some (.int (nI (aActs (vA V)))), some (.int (nI a)), some (.int (zI (aOff (vA V) a))), some (.int (nI (aR (vA V) (aSt (vA V) (a + 1) - 1)))), v, u4] [.int 3, .int (nI a), .ref 0, .int (nI (fitC (vA V) a))] h (fun r' h' => r' = some (.int 1) ∧ h' = h) := by
      intro v
      refine wp_v2 rfl e0 (Nat.le_of_ble_eq_true rfl) (L_ofAct (d := d + 1) hx ha 3 (by decide)) ?_
      refine wp_run rfl ?_
      rw [hz_fit]
      refine wp_v2 rfl e0 (Nat.le_of_ble_eq_true rfl) (L_ofAct (d := d + 1) hx ha 0 (by decide)) ?_
      refine wp_run rfl ?_
      rw [hz_own]
      refine wp_v2 rfl e0 (Nat.le_of_ble_eq_true rfl) (L_ofAct (d := d + 1) hx ha 5 (by decide)) ?_
      refine wp_run rfl ?_
      rw [hz_slugs, nI_1]
      exact ih (a + 1) (by omega) _ _ _ _
    have t2 : ∀ v : Option Value, axW ro (axEv ro (d + 8)) cdL_holds 468 [some (.ref 0), some (.int (nI (aN (vA V)))), some (.int (aSet (vA V) (aN (vA V)))), some (.int (nI (aBeg (vA V) (aN (vA V))))), some (.int (nI (aAct (vA V) (aN (vA V))))), some (.int (nI (ofs (vA V) a))), some (.int (nI (fitC (vA V) a))), some (.int (nI (aBeg (vA V) (aSt (vA V) a)))), some (.int (nI (aSt (vA V) a))), some (.int (nI (aActs (vA V)))), some (.int (nI a)), some (.int (zI (aOff (vA V) a))), some (.int (nI (aR (vA V) (aSt (vA V) (a + 1) - 1)))), v, u4] [.int 8, .int (nI (aR (vA V) (aSt (vA V) (a + 1) - 1))), .ref 0] h (fun r' h' => r' = some (.int 1) ∧ h' = h) := by
      intro v
      refine wp_v2 rfl e0 (Nat.le_of_ble_eq_true rfl) (L_of (d := d + 2) hx hi 8 (by decide)) ?_
      refine wp_run rfl ?_
      refine wp_iceq rfl (fun _ => ?_) (fun hz_ => absurd (congrArg nI p3) hz_)
      refine wp_run rfl ?_
      by_cases hs : 0 ≤ zI (aOff (vA V) a)
      · refine wp_ifge rfl (fun _ => ?_) (fun hz_ => absurd (hs) hz_)
        refine wp_run rfl ?_
        rw [hz_pos hO hs]
        exact t3 v
      · refine wp_ifge rfl (fun hz_ => absurd hz_ (hs)) (fun _ => ?_)
        refine wp_run rfl ?_
        rw [hz_neg hO hs]
        exact t3 v
    have t1 : ∀ o : Int32, (o = 1 ∧ aAct (vA V) (aN (vA V)) ≤ a ∨ o = 0 ∧ ¬ aAct (vA V) (aN (vA V)) ≤ a) → axW ro (axEv ro (d + 8)) cdL_holds 402 [some (.ref 0), some (.int (nI (aN (vA V)))), some (.int (aSet (vA V) (aN (vA V)))), some (.int (nI (aBeg (vA V) (aN (vA V))))), some (.int (nI (aAct (vA V) (aN (vA V))))), some (.int (nI (ofs (vA V) a))), some (.int (nI (fitC (vA V) a))), some (.int (nI (aBeg (vA V) (aSt (vA V) a)))), some (.int (nI (aSt (vA V) a))), some (.int (nI (aActs (vA V)))), some (.int (nI a)), some (.int (zI (aOff (vA V) a))), some (.int (nI (aR (vA V) (aSt (vA V) (a + 1) - 1)))), some (.int o), u4] [.int 0, .int (nI a), .ref 0, .int (zI (aOff (vA V) a))] h (fun r' h' => r' = some (.int 1) ∧ h' = h) := by
      intro o ho
      refine wp_v2 rfl e0 (Nat.le_of_ble_eq_true rfl) (L_ofAct (d := d + 1) hx ha 0 (by decide)) ?_
      refine wp_run rfl ?_
      refine wp_v2 rfl e0 (Nat.le_of_ble_eq_true rfl) (L_ofAct (d := d + 1) hx ha 1 (by decide)) ?_
      refine wp_run rfl ?_
      refine wp_icne rfl (fun hz_ => absurd hz_ (fun z => z hz_by)) (fun _ => ?_)
      refine wp_run rfl ?_
      refine wp_v2 rfl e0 (Nat.le_of_ble_eq_true rfl) (L_ofAct (d := d + 1) hx ha 6 (by decide)) ?_
      refine wp_run rfl ?_
      refine wp_icne rfl (fun hz_ => absurd hz_ ((fun z => z rfl))) (fun _ => ?_)
      refine wp_run rfl ?_
      refine wp_v2 rfl e0 (Nat.le_of_ble_eq_true rfl) (L_of (d := d + 2) hx hi 3 (by decide)) ?_
      refine wp_run rfl ?_
      rcases ho with ⟨rfl, ho⟩ | ⟨rfl, ho⟩
      · refine wp_ifne rfl (fun hz_ => absurd hz_ (fun z => z (if_neg (fun q => absurd (p4.mp q) (by omega))))) (fun _ => ?_)
        refine wp_run rfl ?_
        refine wp_icne rfl (fun hz_ => absurd hz_ ((fun z => z rfl))) (fun _ => ?_)
        refine wp_run rfl ?_
        refine wp_ifeq rfl (fun hz_ => absurd hz_ ((by decide : ¬ (1 : Int32) = 0))) (fun _ => ?_)
        refine wp_run rfl ?_
        refine wp_iclt rfl (fun hz_ => absurd hz_ (by rw [nI_p1 (by omega)]; exact nI_nlt (by have := p5 ho; omega) (by omega))) (fun _ => ?_)
        refine wp_run rfl ?_
        exact t2 _
      · refine wp_ifne rfl (fun _ => ?_) (fun hz_ => absurd (by rw [show ofV (vA V) (aSt (vA V) (a + 1) - 1) 3 = 1 from if_pos (p4.mpr (by omega))]; decide) hz_)
        refine wp_run rfl ?_
        refine wp_icne rfl (fun hz_ => absurd hz_ ((fun z => z rfl))) (fun _ => ?_)
        refine wp_run rfl ?_
        refine wp_ifeq rfl (fun _ => ?_) (fun hz_ => absurd (rfl) hz_)
        refine wp_run rfl ?_
        exact t2 _
    refine wp_icge rfl (fun hz_ => absurd hz_ (nI_ge ha (by omega))) (fun _ => ?_)
    refine wp_run rfl ?_
    refine wp_v2 rfl e0 (Nat.le_of_ble_eq_true rfl) (L_ofAct (d := d + 1) hx ha 2 (by decide)) ?_
    refine wp_run rfl ?_
    rw [hz_off]
    refine wp_v2 rfl e0 (Nat.le_of_ble_eq_true rfl) (L_ofAct (d := d + 1) hx ha 5 (by decide)) ?_
    refine wp_run rfl ?_
    rw [hz_last ha]
    refine wp_v1 rfl e0 (Nat.le_of_ble_eq_true rfl) (L_at (d := d + 2) hx hi) ?_
    refine wp_run rfl ?_
    refine wp_v2 rfl e0 (Nat.le_of_ble_eq_true rfl) (L_ofAct (d := d + 1) hx ha 4 (by decide)) ?_
    refine wp_run rfl ?_
    by_cases ho : aAct (vA V) (aN (vA V)) ≤ a
    · refine wp_icne rfl (fun hz_ => absurd hz_ (fun z => z (if_pos ho))) (fun _ => ?_)
      refine wp_run rfl ?_
      exact t1 1 (Or.inl ⟨rfl, ho⟩)
    · refine wp_icne rfl (fun _ => ?_) (fun hz_ => absurd (by rw [show actV (vA V) a 4 = 0 from if_neg ho]; decide) hz_)
      refine wp_run rfl ?_
      exact t1 0 (Or.inr ⟨rfl, ho⟩)
end AX54
