/-! THE LAW: slugs that are moved there and back, acts that are fitted. -/
section AX57
variable {ro : axRo} {d m : Nat} {h : axH} {V : axV}
theorem L_moves (hx : XS V [] m h) {p q : Nat} (hp : p < aN (vA V)) (hq : q < aN (vA V)) : ∃ V' h', axEv ro (d + 9) kL_moves [.ref 0, .int (nI (aR (vA V) p)), .int (nI q)] h (some (.int 1)) h' ∧ XS V' [] (m + 1200) h' := by
  have hO := XS_ok hx
  have hn := hO.n
  obtain ⟨f0, e0⟩ := XS_o4 hx
  by_cases hm : aLo (vA V) p ≤ q ∧ q < aHi (vA V) p
  · have ep : (plS (vA V) p (aN (vA V)) >>> (nI q &&& 31)) &&& 1 = 1 := by rw [pu_place hO hq, if_pos hm]
    obtain ⟨h1, ev1, x1⟩ := x4_move (ro := ro) (d := d + 2) (mc := []) (x := nI (aR (vA V) p)) (y := nI q) (r := nI p) (A' := aMove (vA V) p q) rfl hx (Or.inr ⟨p, q, ⟨hp, rfl⟩, hq, rfl, Or.inr ⟨hm, rfl, rfl⟩⟩)
    rw [stp_n (by omega)] at x1
    obtain ⟨f1, e1⟩ := XS_o4 x1
    have o1 : axEv ro (d + 8) kX4_of [.ref 0, .int (nI (aR (vA V) p)), .int (nI 0)] h1 (some (.int (nI q))) h1 := by
      have := L_of (ro := ro) (d := d + 2) x1 (i := q) hq 0 (by decide)
      rw [show aR (vA (stpN V (aMove (vA V) p q))) q = aR (vA V) p from pu_mv_at _ _ _] at this
      exact this
    by_cases hev : q % 2 = 0
    · refine ⟨_, h1, ?_, XS_more (by omega) x1⟩
      refine ev_in rfl rfl (Nat.le_of_ble_eq_true rfl) rfl ?_
      refine wp_run rfl ?_
      refine wp_s1 rfl (Nat.le_of_ble_eq_true rfl) (L_tale (d := d) hx) ?_
      refine wp_run rfl ?_
      refine wp_v2 rfl e0 (Nat.le_of_ble_eq_true rfl) (L_of (d := d + 2) hx hp 0 (by decide)) ?_
      refine wp_run rfl ?_
      refine wp_v1 rfl e0 (Nat.le_of_ble_eq_true rfl) (L_places (d := d + 2) hx hp) ?_
      refine wp_run rfl ?_
      refine wp_v2 rfl e0 (Nat.le_of_ble_eq_true rfl) (ev1) ?_
      refine wp_run rfl ?_
      refine wp_ifne rfl (fun _ => ?_) (fun hz_ => absurd (by rw [ep]; decide) hz_)
      refine wp_run rfl ?_
      refine wp_icne rfl (fun hz_ => absurd hz_ ((fun z => z rfl))) (fun _ => ?_)
      refine wp_run rfl ?_
      refine wp_v2 rfl e1 (Nat.le_of_ble_eq_true rfl) (o1) ?_
      refine wp_run rfl ?_
      refine wp_icne rfl (fun hz_ => absurd hz_ ((fun z => z rfl))) (fun _ => ?_)
      refine wp_run rfl ?_
      refine wp_irem (v := nI (q % 2)) rfl (by decide) (nI_rem (b := 2) (by omega) (by omega) (by omega)) ?_
      refine wp_run rfl ?_
      refine wp_ifeq rfl (fun _ => ?_) (fun hz_ => absurd (by rw [hev]; rfl) hz_)
      refine wp_run rfl ?_
      exact wp_ret rfl rfl ⟨rfl, rfl⟩
    · obtain ⟨h2, ev2, x2⟩ := x4_move (ro := ro) (d := d + 2) (mc := []) (x := nI (aR (vA V) p)) (y := nI p) (r := nI q) (A' := vA V) rfl x1 (Or.inr ⟨q, p, ⟨hq, congrArg nI (pu_mv_at _ _ _).symm⟩, hp, rfl, Or.inr ⟨pu_mv_may hO hp hq hm, rfl, (pu_mv_back _ _ _).symm⟩⟩)
      rw [stp_n (by omega)] at x2
      refine ⟨_, h2, ?_, XS_more (by omega) x2⟩
      refine ev_in rfl rfl (Nat.le_of_ble_eq_true rfl) rfl ?_
      refine wp_run rfl ?_
      refine wp_s1 rfl (Nat.le_of_ble_eq_true rfl) (L_tale (d := d) hx) ?_
      refine wp_run rfl ?_
      refine wp_v2 rfl e0 (Nat.le_of_ble_eq_true rfl) (L_of (d := d + 2) hx hp 0 (by decide)) ?_
      refine wp_run rfl ?_
      refine wp_v1 rfl e0 (Nat.le_of_ble_eq_true rfl) (L_places (d := d + 2) hx hp) ?_
      refine wp_run rfl ?_
      refine wp_v2 rfl e0 (Nat.le_of_ble_eq_true rfl) (ev1) ?_
      refine wp_run rfl ?_
      refine wp_ifne rfl (fun _ => ?_) (fun hz_ => absurd (by rw [ep]; decide) hz_)
      refine wp_run rfl ?_
      refine wp_icne rfl (fun hz_ => absurd hz_ ((fun z => z rfl))) (fun _ => ?_)
      refine wp_run rfl ?_
      refine wp_v2 rfl e1 (Nat.le_of_ble_eq_true rfl) (o1) ?_
      refine wp_run rfl ?_
      refine wp_icne rfl (fun hz_ => absurd hz_ ((fun z => z rfl))) (fun _ => ?_)
      refine wp_run rfl ?_
      refine wp_irem (v := nI (q % 2)) rfl (by decide) (nI_rem (b := 2) (by omega) (by omega) (by omega)) ?_
      refine wp_run rfl ?_
      refine wp_ifeq rfl (fun hz_ => absurd hz_ (nI_ne0 (by omega) (by omega))) (fun _ => ?_)
      refine wp_run rfl ?_
      refine wp_v2 rfl e1 (Nat.le_of_ble_eq_true rfl) (ev2) ?_
      refine wp_run rfl ?_
      refine wp_icne rfl (fun hz_ => absurd hz_ ((fun z => z rfl))) (fun _ => ?_)
      refine wp_run rfl ?_
      refine wp_s1 rfl (Nat.le_of_ble_eq_true rfl) (L_tale (d := d) x2) ?_
      refine wp_run rfl ?_
      refine wp_ifne rfl (fun hz_ => absurd hz_ ((fun z => z ((lg_cmp_eq _ _).mpr rfl)))) (fun _ => ?_)
      refine wp_run rfl ?_
      exact wp_ret rfl rfl ⟨rfl, rfl⟩
  · have ep : (plS (vA V) p (aN (vA V)) >>> (nI q &&& 31)) &&& 1 = 0 := by rw [pu_place hO hq, if_neg hm]
    obtain ⟨h1, ev1, x1⟩ := x4_move (ro := ro) (d := d + 2) (mc := []) (x := nI (aR (vA V) p)) (y := nI q) (r := -5) (A' := vA V) rfl hx (Or.inr ⟨p, q, ⟨hp, rfl⟩, hq, rfl, Or.inl ⟨hm, rfl, rfl⟩⟩)
    rw [stp_e m5_neg] at x1
    refine ⟨_, h1, ?_, XS_more (by omega) x1⟩
    refine ev_in rfl rfl (Nat.le_of_ble_eq_true rfl) rfl ?_
    refine wp_run rfl ?_
    refine wp_s1 rfl (Nat.le_of_ble_eq_true rfl) (L_tale (d := d) hx) ?_
    refine wp_run rfl ?_
    refine wp_v2 rfl e0 (Nat.le_of_ble_eq_true rfl) (L_of (d := d + 2) hx hp 0 (by decide)) ?_
    refine wp_run rfl ?_
    refine wp_v1 rfl e0 (Nat.le_of_ble_eq_true rfl) (L_places (d := d + 2) hx hp) ?_
    refine wp_run rfl ?_
    refine wp_v2 rfl e0 (Nat.le_of_ble_eq_true rfl) (ev1) ?_
    refine wp_run rfl ?_
    refine wp_ifne rfl (fun hz_ => absurd hz_ (fun z => z ep)) (fun _ => ?_)
    refine wp_run rfl ?_
    refine wp_icne rfl (fun hz_ => absurd hz_ ((fun z => z rfl))) (fun _ => ?_)
    refine wp_run rfl ?_
    refine wp_s1 rfl (Nat.le_of_ble_eq_true rfl) (L_tale (d := d) x1) ?_
    refine wp_run rfl ?_
    refine wp_ifne rfl (fun hz_ => absurd hz_ ((fun z => z ((lg_cmp_eq _ _).mpr rfl)))) (fun _ => ?_)
    refine wp_run rfl ?_
    exact wp_ret rfl rfl ⟨rfl, rfl⟩
theorem L_fits (hx : XS V [] m h) {a : Nat} (ha4 : a < 4) : ∃ V' h', axEv ro (d + 9) kL_fits [.ref 0, .int (nI a)] h (some (.int 1)) h' ∧ XS V' [] (m + 1200) h' := by
  have hO := XS_ok hx
  have hn := hO.n
  have hac := aActs_le (vA V)
  obtain ⟨f0, e0⟩ := XS_o4 hx
  by_cases ha : a < aActs (vA V)
  · by_cases hf : (aOff (vA V) a).toNat - aCut (vA V) a ≤ aSl (vA V)
    · have hS : spFit (vA V) (nI a) (nI (aCut (vA V) a)) (aFit (vA V) a) := Or.inr ⟨a, ha, rfl, Or.inr ⟨hf, rfl, rfl⟩⟩
      have hcl : aCut (vA V) a ≤ (aOff (vA V) a).toNat := Nat.min_le_left _ _
      have hob := aOff_b hO a
      have htg := aTgt_le hO a
      have hsl := hO.sl
      have hbg := aBeg_le hO (Nat.le_refl (aN (vA V)))
      obtain ⟨f, ef, s1, s2, s3⟩ := pu_fit hO ha
      have hm := aBeg_mono (A := vA V) (aSt_mono (vA V) (show a ≤ a + 1 by omega))
      have hoff : aOff (vA V) a = ((aBeg (vA V) (aSt (vA V) (a + 1)) - aBeg (vA V) (aSt (vA V) a) : Nat) : Int) - (aTgt (vA V) a : Int) := rfl
      obtain ⟨h1, ev1, x1⟩ := x4_fit (ro := ro) (d := d + 2) (mc := []) rfl hx hS
      rw [stp_n (by omega), ef] at x1
      obtain ⟨f1, e1⟩ := XS_o4 x1
      have ha1 : a < aActs (vA (stpN V (aBf (vA V) f))) := ha
      have v0 : actV (vA (stpN V (aBf (vA V) f))) a 0 = nI (aBeg (vA V) (aSt (vA V) (a + 1)) - aCut (vA V) a - aBeg (vA V) (aSt (vA V) a)) := by
        show nI (aBeg (aBf (vA V) f) (aSt (vA V) (a + 1)) - aBeg (aBf (vA V) f) (aSt (vA V) a)) = _
        congr 1; omega
      have hoff2 : aOff (aBf (vA V) f) a = aOff (vA V) a - (aCut (vA V) a : Int) := by
        show ((aBeg (aBf (vA V) f) (aSt (vA V) (a + 1)) - aBeg (aBf (vA V) f) (aSt (vA V) a) : Nat) : Int) - (aTgt (vA V) a : Int) = _
        omega
      have hS2 : spFit (vA (stpN V (aBf (vA V) f))) (nI a) (nI (aCut (aBf (vA V) f) a)) (aFit (aBf (vA V) f) a) := Or.inr ⟨a, ha1, rfl, Or.inr ⟨by show (aOff (aBf (vA V) f) a).toNat - aCut (aBf (vA V) f) a ≤ aSl (vA V); rw [hoff2]; omega, rfl, rfl⟩⟩
      have hcl2 : aCut (aBf (vA V) f) a ≤ (aOff (aBf (vA V) f) a).toNat := Nat.min_le_left _ _
      have c1 : ¬ nI (aTgt (vA V) a) + nI (aSl (vA V)) < actV (vA (stpN V (aBf (vA V) f))) a 0 := by
        rw [v0, nI_add]; exact nI_nlt (by omega) (by omega)
      refine ⟨_, h1, ?_, XS_more (by omega) x1⟩
      refine ev_in rfl rfl (Nat.le_of_ble_eq_true rfl) rfl ?_
      refine wp_run rfl ?_
      refine wp_s1 rfl (Nat.le_of_ble_eq_true rfl) (L_tale (d := d) hx) ?_
      refine wp_run rfl ?_
      refine wp_v1 rfl e0 (Nat.le_of_ble_eq_true rfl) (L_fitted (d := d + 2) hx hS) ?_
      refine wp_run rfl ?_
      refine wp_v1 rfl e0 (Nat.le_of_ble_eq_true rfl) (L_cnt (d := d + 1) hx 2 (by decide)) ?_
      refine wp_run rfl ?_
      refine wp_v1 rfl e0 (Nat.le_of_ble_eq_true rfl) (ev1) ?_
      refine wp_run rfl ?_
      refine wp_ifge rfl (fun _ => ?_) (fun hz_ => absurd (nI_pos' (by omega)) hz_)
      refine wp_run rfl ?_
      refine wp_icne rfl (fun hz_ => absurd hz_ ((fun z => z rfl))) (fun _ => ?_)
      refine wp_run rfl ?_
      refine wp_v1 rfl e1 (Nat.le_of_ble_eq_true rfl) (L_cnt (d := d + 1) x1 2 (by decide)) ?_
      refine wp_run rfl ?_
      refine wp_icne rfl (fun hz_ => absurd hz_ (fun z => z (show nI (aBeg (aBf (vA V) f) (aN (vA V))) = nI (aBeg (vA V) (aN (vA V))) - nI (aCut (vA V) a) by rw [pk_sub (by omega)]; congr 1; omega))) (fun _ => ?_)
      refine wp_run rfl ?_
      refine wp_v2 rfl e1 (Nat.le_of_ble_eq_true rfl) (L_ofAct (d := d + 1) x1 ha1 0 (by decide)) ?_
      refine wp_run rfl ?_
      refine wp_v2 rfl e1 (Nat.le_of_ble_eq_true rfl) (L_ofAct (d := d + 1) x1 ha1 1 (by decide)) ?_
      refine wp_run rfl ?_
      refine wp_v1 rfl e1 (Nat.le_of_ble_eq_true rfl) (L_cnt (d := d + 1) x1 8 (by decide)) ?_
      refine wp_run rfl ?_
      refine wp_icgt rfl (fun hz_ => absurd hz_ (c1)) (fun _ => ?_)
      refine wp_run rfl ?_
      by_cases hc0 : aCut (vA V) a = 0
      · refine wp_ifeq rfl (fun _ => ?_) (fun hz_ => absurd (by rw [hc0]; rfl) hz_)
        refine wp_run rfl ?_
        refine wp_v1 rfl e1 (Nat.le_of_ble_eq_true rfl) (L_fitted (d := d + 2) x1 hS2) ?_
        refine wp_run rfl ?_
        refine wp_iflt rfl (fun hz_ => absurd hz_ (nI_pos (by omega))) (fun _ => ?_)
        refine wp_run rfl ?_
        exact wp_ret rfl rfl ⟨rfl, rfl⟩
      · refine wp_ifeq rfl (fun hz_ => absurd hz_ (nI_ne0 (by omega) (by omega))) (fun _ => ?_)
        refine wp_run rfl ?_
        refine wp_v2 rfl e1 (Nat.le_of_ble_eq_true rfl) (L_ofAct (d := d + 1) x1 ha1 0 (by decide)) ?_
        refine wp_run rfl ?_
        refine wp_v2 rfl e1 (Nat.le_of_ble_eq_true rfl) (L_ofAct (d := d + 1) x1 ha1 1 (by decide)) ?_
        refine wp_run rfl ?_
        refine wp_iclt rfl (fun hz_ => absurd hz_ (by rw [v0]; exact nI_nlt (b := aTgt (vA V) a) (by omega) (by omega))) (fun _ => ?_)
        refine wp_run rfl ?_
        refine wp_v1 rfl e1 (Nat.le_of_ble_eq_true rfl) (L_fitted (d := d + 2) x1 hS2) ?_
        refine wp_run rfl ?_
        refine wp_iflt rfl (fun hz_ => absurd hz_ (nI_pos (by omega))) (fun _ => ?_)
        refine wp_run rfl ?_
        exact wp_ret rfl rfl ⟨rfl, rfl⟩
    · have hS : spFit (vA V) (nI a) (-5) (vA V) := Or.inr ⟨a, ha, rfl, Or.inl ⟨hf, rfl, rfl⟩⟩
      obtain ⟨h1, ev1, x1⟩ := x4_fit (ro := ro) (d := d + 2) (mc := []) rfl hx hS
      rw [stp_e m5_neg] at x1
      obtain ⟨f1, e1⟩ := XS_o4 x1
      refine ⟨_, h1, ?_, XS_more (by omega) x1⟩
      refine ev_in rfl rfl (Nat.le_of_ble_eq_true rfl) rfl ?_
      refine wp_run rfl ?_
      refine wp_s1 rfl (Nat.le_of_ble_eq_true rfl) (L_tale (d := d) hx) ?_
      refine wp_run rfl ?_
      refine wp_v1 rfl e0 (Nat.le_of_ble_eq_true rfl) (L_fitted (d := d + 2) hx hS) ?_
      refine wp_run rfl ?_
      refine wp_v1 rfl e0 (Nat.le_of_ble_eq_true rfl) (L_cnt (d := d + 1) hx 2 (by decide)) ?_
      refine wp_run rfl ?_
      refine wp_v1 rfl e0 (Nat.le_of_ble_eq_true rfl) (ev1) ?_
      refine wp_run rfl ?_
      refine wp_ifge rfl (fun hz_ => absurd hz_ ((by decide : ¬ (0 : Int32) ≤ -5))) (fun _ => ?_)
      refine wp_run rfl ?_
      refine wp_icne rfl (fun hz_ => absurd hz_ ((fun z => z rfl))) (fun _ => ?_)
      refine wp_run rfl ?_
      refine wp_s1 rfl (Nat.le_of_ble_eq_true rfl) (L_tale (d := d) x1) ?_
      refine wp_run rfl ?_
      refine wp_ifne rfl (fun hz_ => absurd hz_ ((fun z => z ((lg_cmp_eq _ _).mpr rfl)))) (fun _ => ?_)
      refine wp_run rfl ?_
      refine wp_icne rfl (fun _ => ?_) (fun hz_ => absurd ((by decide : ¬ (-5 : Int32) = -1)) hz_)
      refine wp_run rfl ?_
      refine wp_v1 rfl e1 (Nat.le_of_ble_eq_true rfl) (L_cnt (d := d + 1) x1 1 (by decide)) ?_
      refine wp_run rfl ?_
      refine wp_iclt rfl (fun _ => ?_) (fun hz_ => absurd (nI_lt ha (by omega)) hz_)
      refine wp_run rfl ?_
      refine wp_icne rfl (fun hz_ => absurd hz_ ((fun z => z rfl))) (fun _ => ?_)
      refine wp_run rfl ?_
      exact wp_ret rfl rfl ⟨rfl, rfl⟩
  · have hS : spFit (vA V) (nI a) (-1) (vA V) := Or.inl ⟨Or.inr (nI_le (by omega) (by omega)), rfl, rfl⟩
    obtain ⟨h1, ev1, x1⟩ := x4_fit (ro := ro) (d := d + 2) (mc := []) rfl hx hS
    rw [stp_e m1_neg] at x1
    obtain ⟨f1, e1⟩ := XS_o4 x1
    refine ⟨_, h1, ?_, XS_more (by omega) x1⟩
    refine ev_in rfl rfl (Nat.le_of_ble_eq_true rfl) rfl ?_
    refine wp_run rfl ?_
    refine wp_s1 rfl (Nat.le_of_ble_eq_true rfl) (L_tale (d := d) hx) ?_
    refine wp_run rfl ?_
    refine wp_v1 rfl e0 (Nat.le_of_ble_eq_true rfl) (L_fitted (d := d + 2) hx hS) ?_
    refine wp_run rfl ?_
    refine wp_v1 rfl e0 (Nat.le_of_ble_eq_true rfl) (L_cnt (d := d + 1) hx 2 (by decide)) ?_
    refine wp_run rfl ?_
    refine wp_v1 rfl e0 (Nat.le_of_ble_eq_true rfl) (ev1) ?_
    refine wp_run rfl ?_
    refine wp_ifge rfl (fun hz_ => absurd hz_ ((by decide : ¬ (0 : Int32) ≤ -1))) (fun _ => ?_)
    refine wp_run rfl ?_
    refine wp_icne rfl (fun hz_ => absurd hz_ ((fun z => z rfl))) (fun _ => ?_)
    refine wp_run rfl ?_
    refine wp_s1 rfl (Nat.le_of_ble_eq_true rfl) (L_tale (d := d) x1) ?_
    refine wp_run rfl ?_
    refine wp_ifne rfl (fun hz_ => absurd hz_ ((fun z => z ((lg_cmp_eq _ _).mpr rfl)))) (fun _ => ?_)
    refine wp_run rfl ?_
    refine wp_icne rfl (fun hz_ => absurd hz_ ((fun z => z rfl))) (fun _ => ?_)
    refine wp_run rfl ?_
    refine wp_v1 rfl e1 (Nat.le_of_ble_eq_true rfl) (L_cnt (d := d + 1) x1 1 (by decide)) ?_
    refine wp_run rfl ?_
    refine wp_iclt rfl (fun hz_ => absurd hz_ (nI_nlt (show aActs (vA V) ≤ a by omega) (by omega))) (fun _ => ?_)
    refine wp_run rfl ?_
    refine wp_icne rfl (fun hz_ => absurd hz_ ((fun z => z rfl))) (fun _ => ?_)
    refine wp_run rfl ?_
    exact wp_ret rfl rfl ⟨rfl, rfl⟩
end AX57
