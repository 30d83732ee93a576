/-! THE CLASS: its public methods that change nothing (3). -/
section AX49a
variable {ro : axRo} {d : Nat} {B : axBD} {Y : axYD} {sl : Nat → Option Nat} {P : axPD} {G : axGD} {tl : axH}
theorem x3_lowerPlace : axEv ro (d + 1) kX3_lowerPlace [.ref 13] (hX B Y sl P G tl) (some (.int G.2.1)) (hX B Y sl P G tl) := by
  refine ev_in rfl rfl (Nat.le_of_ble_eq_true rfl) rfl ?_
  refine wp_run rfl ?_
  exact wp_ret rfl rfl ⟨rfl, rfl⟩
theorem x3_higherPlace : axEv ro (d + 1) kX3_higherPlace [.ref 13] (hX B Y sl P G tl) (some (.int G.2.2.1)) (hX B Y sl P G tl) := by
  refine ev_in rfl rfl (Nat.le_of_ble_eq_true rfl) rfl ?_
  refine wp_run rfl ?_
  exact wp_ret rfl rfl ⟨rfl, rfl⟩
theorem x3_leastOff : axEv ro (d + 1) kX3_leastOff [.ref 13] (hX B Y sl P G tl) (some (.int G.2.2.2)) (hX B Y sl P G tl) := by
  refine ev_in rfl rfl (Nat.le_of_ble_eq_true rfl) rfl ?_
  refine wp_run rfl ?_
  exact wp_ret rfl rfl ⟨rfl, rfl⟩
theorem x2_size : axEv ro (d + 1) kX2_size [.ref 11] (hX B Y sl P G tl) (some (.int P.2.1)) (hX B Y sl P G tl) := by
  refine ev_in rfl rfl (Nat.le_of_ble_eq_true rfl) rfl ?_
  refine wp_run rfl ?_
  exact wp_ret rfl rfl ⟨rfl, rfl⟩
end AX49a
section AX49
variable {ro : axRo} {d m : Nat} {mc h : axH} {V : axV} {x y r : Int32} {A' : axAD}
theorem x4_bestSwap (hx : XS V mc m h) (hS : spBest (vA V) x r) : ∃ h', axEv ro (d + 7) kX4_bestSwap [.ref 0, .int x] h (some (.int r)) h' ∧ XS V mc (m + 1) h' := by
  have hx' := XS_more (Nat.le_succ m) hx
  obtain ⟨B, nx, sf, lf, f, cu, la, ki, fi, se, G, bs, rfl, hC, hO, hK, hT, hb1, hb2⟩ := hx
  have hn := hO.n
  rcases hS with ⟨h, rfl⟩ | ⟨k, hk, rfl, rfl⟩
  · refine ⟨_, ?_, hx'⟩
    by_cases e : x < 0
    · refine ev_in rfl rfl (Nat.le_of_ble_eq_true rfl) rfl ?_
      refine wp_run rfl ?_
      refine wp_iflt rfl (fun _ => ?_) (fun hz_ => absurd (e) hz_)
      refine wp_run rfl ?_
      exact wp_ret rfl rfl ⟨rfl, rfl⟩
    · have h := h.resolve_left e
      refine ev_in rfl rfl (Nat.le_of_ble_eq_true rfl) rfl ?_
      refine wp_run rfl ?_
      refine wp_iflt rfl (fun hz_ => absurd hz_ (e)) (fun _ => ?_)
      refine wp_run rfl ?_
      refine wp_icle rfl (fun hz_ => absurd hz_ (fun z => absurd (Int32.le_trans h z) (by decide))) (fun _ => ?_)
      refine wp_run rfl ?_
      exact wp_ret rfl rfl ⟨rfl, rfl⟩
  · obtain ⟨g', hev⟩ := x3_run (ro := ro) (d := d) (Y := (sf, nI nx, nI (vK V))) (sl := lf) (P := (f, nI (vP V), cu, la, ki, fi, se)) (G := G) (tl := mc ++ bs) hO hC
    have hok := aBS_ok (vA V) (aN (vA V))
    have hle := aBS_le hO (aN (vA V))
    unfold bsV
    generalize aBS (vA V) (aN (vA V)) = s at *
    refine ⟨_, ?_, B, nx, sf, lf, f, cu, la, ki, fi, se, gOf g' s, bs, rfl, hC, hO, KP_go hK, hT, by omega, by omega⟩
    have pre : ∀ Q : Option Value → axH → Prop, axW ro (axEv ro (d + 6)) cdX4_bestSwap 27 [some (.ref 0), some (.int (nI k))] [.ref 13] (hX B (sf, nI nx, nI (vK V)) lf (f, nI (vP V), cu, la, ki, fi, se) (gOf g' s) (mc ++ bs)) Q → axW ro (axEv ro (d + 6)) cdX4_bestSwap 0 [some (.ref 0), some (.int (nI k))] [] (hX B (sf, nI nx, nI (vK V)) lf (f, nI (vP V), cu, la, ki, fi, se) G (mc ++ bs)) Q := fun Q K => by
      refine wp_run rfl ?_
      refine wp_iflt rfl (fun hz_ => absurd hz_ (nI_pos (by omega))) (fun _ => ?_)
      refine wp_run rfl ?_
      refine wp_icle rfl (fun _ => ?_) (fun hz_ => absurd (nI_le (b := 2) (by omega) (by omega)) hz_)
      refine wp_run rfl ?_
      refine wp_v1v rfl rfl (Nat.le_of_ble_eq_true rfl) (hev) ?_
      refine wp_run rfl ?_
      exact K
    refine ev_in rfl rfl (Nat.le_of_ble_eq_true rfl) rfl (pre _ ?_)
    have found : ∀ b : Int32, (s.1 < s.2.1 ∧ b = 1 ∨ ¬ s.1 < s.2.1 ∧ b = 0) → axEv ro (d + 6) kX3_isFound [.ref 13] (hX B (sf, nI nx, nI (vK V)) lf (f, nI (vP V), cu, la, ki, fi, se) (gOf g' s) (mc ++ bs)) (some (.int b)) (hX B (sf, nI nx, nI (vK V)) lf (f, nI (vP V), cu, la, ki, fi, se) (gOf g' s) (mc ++ bs)) := by
      intro b hb
      rcases hb with ⟨hb, rfl⟩ | ⟨hb, rfl⟩
      · have : s.2.1 < aN (vA V) := by
          rcases hok with z | z
          · omega
          · exact z.2
        refine ev_in rfl rfl (Nat.le_of_ble_eq_true rfl) rfl ?_
        refine wp_run rfl ?_
        refine wp_icge rfl (fun hz_ => absurd hz_ (nI_ge hb (by omega))) (fun _ => ?_)
        refine wp_run rfl ?_
        exact wp_ret rfl rfl ⟨rfl, rfl⟩
      · have : s.1 = 0 ∧ s.2.1 = 0 := by
          rcases hok with z | z
          · exact z
          · exact absurd z.1 hb
        refine ev_in rfl rfl (Nat.le_of_ble_eq_true rfl) rfl ?_
        refine wp_run rfl ?_
        refine wp_icge rfl (fun _ => ?_) (fun hz_ => absurd (nI_le (show s.2.1 ≤ s.1 by omega) (by omega)) hz_)
        refine wp_run rfl ?_
        exact wp_ret rfl rfl ⟨rfl, rfl⟩
    by_cases e : s.1 < s.2.1
    · have hs2 : s.2.1 < aN (vA V) := by
        rcases hok with z | z
        · omega
        · exact z.2
      rw [if_pos e]
      refine wp_v0 rfl rfl (Nat.le_of_ble_eq_true rfl) (found 1 (Or.inl ⟨e, rfl⟩)) ?_
      refine wp_run rfl ?_
      refine wp_ifne rfl (fun _ => ?_) (fun hz_ => absurd ((by decide : ¬ (1 : Int32) = 0)) hz_)
      refine wp_run rfl ?_
      match k, hk with
      | 0, _ =>
        refine wp_sw rfl ?_
        refine wp_run rfl ?_
        refine wp_v0 rfl rfl (Nat.le_of_ble_eq_true rfl) (x3_lowerPlace (d := d + 5)) ?_
        refine wp_run rfl ?_
        refine wp_v1 rfl rfl (Nat.le_of_ble_eq_true rfl) (x0_slugIn_in (d := d + 4) hO hC (show s.1 < aN (vA V) by omega)) ?_
        refine wp_run rfl ?_
        exact wp_ret rfl rfl ⟨rfl, rfl⟩
      | 1, _ =>
        refine wp_sw rfl ?_
        refine wp_run rfl ?_
        refine wp_v0 rfl rfl (Nat.le_of_ble_eq_true rfl) (x3_higherPlace (d := d + 5)) ?_
        refine wp_run rfl ?_
        refine wp_v1 rfl rfl (Nat.le_of_ble_eq_true rfl) (x0_slugIn_in (d := d + 4) hO hC hs2) ?_
        refine wp_run rfl ?_
        exact wp_ret rfl rfl ⟨rfl, rfl⟩
      | 2, _ =>
        refine wp_sw rfl ?_
        refine wp_run rfl ?_
        refine wp_v0 rfl rfl (Nat.le_of_ble_eq_true rfl) (x3_leastOff (d := d + 5)) ?_
        refine wp_run rfl ?_
        exact wp_ret rfl rfl ⟨rfl, rfl⟩
      | n + 3, hk => exact absurd hk (by omega)
    · rw [if_neg e]
      refine wp_v0 rfl rfl (Nat.le_of_ble_eq_true rfl) (found 0 (Or.inr ⟨e, rfl⟩)) ?_
      refine wp_run rfl ?_
      refine wp_ifne rfl (fun hz_ => absurd hz_ (fun z => z rfl)) (fun _ => ?_)
      refine wp_run rfl ?_
      exact wp_ret rfl rfl ⟨rfl, rfl⟩
theorem x4_count (hx : XS V mc m h) (hS : spCount V x r) : axEv ro (d + 7) kX4_count [.ref 0, .int x] h (some (.int r)) h := by
  obtain ⟨B, nx, sf, lf, f, cu, la, ki, fi, se, G, bs, rfl, hC, hO, hK, hT, hb1, hb2⟩ := hx
  have hn := hO.n
  rcases hS with ⟨h, rfl⟩ | ⟨k, hk, rfl, rfl⟩
  · have ne : ∀ k, k < 12 → x ≠ nI k := fun k hk => sw_out h (by decide) hk
    refine ev_in rfl rfl (Nat.le_of_ble_eq_true rfl) rfl ?_
    refine wp_run rfl ?_
    refine wp_sw rfl ?_
    refine axSw_go ⟨ne 0 (by decide), ne 1 (by decide), ne 2 (by decide), ne 3 (by decide), ne 4 (by decide), ne 5 (by decide), ne 6 (by decide), ne 7 (by decide), ne 8 (by decide), ne 9 (by decide), ne 10 (by decide), ne 11 (by decide), trivial⟩ ?_
    refine wp_run rfl ?_
    exact wp_ret rfl rfl ⟨rfl, rfl⟩
  · match k, hk with
    | 0, _ =>
      show axEv ro (d + 7) kX4_count [.ref 0, .int (nI 0)] _ (some (.int (aSet (vA V) (aN (vA V))))) _
      rw [← cr_set0 hO hC]
      refine ev_in rfl rfl (Nat.le_of_ble_eq_true rfl) rfl ?_
      refine wp_run rfl ?_
      refine wp_sw rfl ?_
      refine wp_run rfl ?_
      refine wp_v0 rfl rfl (Nat.le_of_ble_eq_true rfl) (x0_allSlugs (d := d + 5)) ?_
      refine wp_run rfl ?_
      exact wp_ret rfl rfl ⟨rfl, rfl⟩
    | 1, _ =>
      refine ev_in rfl rfl (Nat.le_of_ble_eq_true rfl) rfl ?_
      refine wp_run rfl ?_
      refine wp_sw rfl ?_
      refine wp_run rfl ?_
      refine wp_v0 rfl rfl (Nat.le_of_ble_eq_true rfl) (x0_actCount (d := d + 4) hO hC) ?_
      refine wp_run rfl ?_
      exact wp_ret rfl rfl ⟨rfl, rfl⟩
    | 2, _ =>
      refine ev_in rfl rfl (Nat.le_of_ble_eq_true rfl) rfl ?_
      refine wp_run rfl ?_
      refine wp_sw rfl ?_
      refine wp_run rfl ?_
      refine wp_v0 rfl rfl (Nat.le_of_ble_eq_true rfl) (x0_allBeats (d := d + 3) hO hC) ?_
      refine wp_run rfl ?_
      exact wp_ret rfl rfl ⟨rfl, rfl⟩
    | 3, _ =>
      have hbg := aBeg_le hO (Nat.le_refl (aN (vA V)))
      have hpg := hO.pg
      refine ev_in rfl rfl (Nat.le_of_ble_eq_true rfl) rfl ?_
      refine wp_run rfl ?_
      refine wp_sw rfl ?_
      refine wp_run rfl ?_
      refine wp_v0 rfl rfl (Nat.le_of_ble_eq_true rfl) (x0_allBeats (d := d + 3) hO hC) ?_
      refine wp_run rfl ?_
      refine wp_v0 rfl rfl (Nat.le_of_ble_eq_true rfl) (x0_pageBeats (d := d + 3) hO hC) ?_
      refine wp_run rfl ?_
      rw [nI_add, nI_p1 (by omega)]
      refine wp_v0 rfl rfl (Nat.le_of_ble_eq_true rfl) (x0_pageBeats (d := d + 3) hO hC) ?_
      refine wp_run rfl ?_
      refine wp_idiv rfl (nI_ne0 (by omega) (by omega)) (nI_div (by omega) (by omega) (by omega)) ?_
      refine wp_run rfl ?_
      exact wp_ret rfl rfl ⟨rfl, rfl⟩
    | 4, _ =>
      refine ev_in rfl rfl (Nat.le_of_ble_eq_true rfl) rfl ?_
      refine wp_run rfl ?_
      refine wp_sw rfl ?_
      refine wp_run rfl ?_
      refine wp_v0 rfl rfl (Nat.le_of_ble_eq_true rfl) (x0_offTogether (d := d + 2) hO hC) ?_
      refine wp_run rfl ?_
      exact wp_ret rfl rfl ⟨rfl, rfl⟩
    | 5, _ =>
      refine ev_in rfl rfl (Nat.le_of_ble_eq_true rfl) rfl ?_
      refine wp_run rfl ?_
      refine wp_sw rfl ?_
      refine wp_run rfl ?_
      refine wp_v0 rfl rfl (Nat.le_of_ble_eq_true rfl) (x0_fittingActs (d := d + 1) hO hC) ?_
      refine wp_run rfl ?_
      exact wp_ret rfl rfl ⟨rfl, rfl⟩
    | 6, _ =>
      refine ev_in rfl rfl (Nat.le_of_ble_eq_true rfl) rfl ?_
      refine wp_run rfl ?_
      refine wp_sw rfl ?_
      refine wp_run rfl ?_
      refine wp_v0 rfl rfl (Nat.le_of_ble_eq_true rfl) (x0_longestSlug (d := d + 3) hO hC) ?_
      refine wp_run rfl ?_
      exact wp_ret rfl rfl ⟨rfl, rfl⟩
    | 7, _ =>
      refine ev_in rfl rfl (Nat.le_of_ble_eq_true rfl) rfl ?_
      refine wp_run rfl ?_
      refine wp_sw rfl ?_
      refine wp_run rfl ?_
      refine wp_v1 rfl rfl (Nat.le_of_ble_eq_true rfl) (x0_settingOf (d := d + 4) (j := 0) (by decide)) ?_
      refine wp_run rfl ?_
      rw [cr_pg hC]
      exact wp_ret rfl rfl ⟨rfl, rfl⟩
    | 8, _ =>
      refine ev_in rfl rfl (Nat.le_of_ble_eq_true rfl) rfl ?_
      refine wp_run rfl ?_
      refine wp_sw rfl ?_
      refine wp_run rfl ?_
      refine wp_v1 rfl rfl (Nat.le_of_ble_eq_true rfl) (x0_settingOf (d := d + 4) (j := 1) (by decide)) ?_
      refine wp_run rfl ?_
      rw [cr_sl hC]
      exact wp_ret rfl rfl ⟨rfl, rfl⟩
    | 9, _ =>
      refine ev_in rfl rfl (Nat.le_of_ble_eq_true rfl) rfl ?_
      refine wp_run rfl ?_
      refine wp_sw rfl ?_
      refine wp_run rfl ?_
      refine wp_v1 rfl rfl (Nat.le_of_ble_eq_true rfl) (x0_settingOf (d := d + 4) (j := 2) (by decide)) ?_
      refine wp_run rfl ?_
      rw [cr_tr hC]
      exact wp_ret rfl rfl ⟨rfl, rfl⟩
    | 10, _ =>
      refine ev_in rfl rfl (Nat.le_of_ble_eq_true rfl) rfl ?_
      refine wp_run rfl ?_
      refine wp_sw rfl ?_
      refine wp_run rfl ?_
      refine wp_v0 rfl rfl (Nat.le_of_ble_eq_true rfl) (x2_size (d := d + 5)) ?_
      refine wp_run rfl ?_
      exact wp_ret rfl rfl ⟨rfl, rfl⟩
    | 11, _ =>
      refine ev_in rfl rfl (Nat.le_of_ble_eq_true rfl) rfl ?_
      refine wp_run rfl ?_
      refine wp_sw rfl ?_
      refine wp_run rfl ?_
      refine wp_v0 rfl rfl (Nat.le_of_ble_eq_true rfl) (x1_size (d := d + 5)) ?_
      refine wp_run rfl ?_
      exact wp_ret rfl rfl ⟨rfl, rfl⟩
    | n + 12, hk => exact absurd hk (by omega)
end AX49
