/-! THE LAW: an act, and its walk. -/
section AX60
variable {L : Nat} {xs : Nat → Int32} {d m : Nat} {h : axH} {V : axV}
set_option maxRecDepth 40000 in
theorem L_act (hx : XS V [] m h) (v w : Int32) : ∃ V' h', axEv (axRoL L xs) (d + 10) kL_act [.ref 0, .int v, .int w] h (some (.int 1)) h' ∧ XS V' [] (m + 1200) h' := by
  have hO := XS_ok hx
  have hn := hO.n
  obtain ⟨f0, e0⟩ := XS_o4 hx
  obtain ⟨s, hs, evs⟩ := L_low (ro := axRoL L xs) (d := d + 8) (h := h) v (n := 20) (by decide) (by decide)
  have pre1 : ∀ Q : Option Value → axH → Prop, axW (axRoL L xs) (axEv (axRoL L xs) (d + 9)) cdL_act 17 [some (.ref 0), some (.int v), some (.int w), some (.int (nI (aN (vA V)))), some (.int (nI s)), none, none, none, none, none, none, none, none, none, none, none] [.int 6, .int (nI s)] h Q → axW (axRoL L xs) (axEv (axRoL L xs) (d + 9)) cdL_act 0 [some (.ref 0), some (.int v), some (.int w), none, none, none, none, none, none, none, none, none, none, none, none, none] [] h Q := fun Q K => by
    refine wp_run rfl ?_
    refine wp_s1 rfl (Nat.le_of_ble_eq_true rfl) (L_many (d := d + 2) hx) ?_
    refine wp_run rfl ?_
    refine wp_s2 rfl (Nat.le_of_ble_eq_true rfl) (evs) ?_
    refine wp_run rfl ?_
    exact K
  by_cases h6 : s < 6
  · obtain ⟨V', h', K, x⟩ := A_add (ro := axRoL L xs) (d := d) (v := v) (w := w) (s := s) hx
    refine ⟨V', h', ?_, x⟩
    refine ev_in rfl rfl (Nat.le_of_ble_eq_true rfl) rfl ?_
    refine pre1 _ ?_
    refine wp_iclt rfl (fun _ => ?_) (fun hz_ => absurd (nI_lt (b := 6) h6 (by omega)) hz_)
    refine wp_run rfl ?_
    exact K
  by_cases hn0 : aN (vA V) = 0
  · obtain ⟨V', h', K, x⟩ := A_add (ro := axRoL L xs) (d := d) (v := v) (w := w) (s := s) hx
    refine ⟨V', h', ?_, x⟩
    refine ev_in rfl rfl (Nat.le_of_ble_eq_true rfl) rfl ?_
    refine pre1 _ ?_
    refine wp_iclt rfl (fun hz_ => absurd hz_ (nI_nlt (b := 6) (by omega) (by omega))) (fun _ => ?_)
    refine wp_run rfl ?_
    refine wp_ifne rfl (fun hz_ => absurd hz_ (fun z => z (by rw [hn0]; rfl))) (fun _ => ?_)
    refine wp_run rfl ?_
    exact K
  obtain ⟨i, hi, evi⟩ := L_low (ro := axRoL L xs) (d := d + 8) (h := h) w (n := aN (vA V)) (by omega) (by omega)
  obtain ⟨j, hj, evj⟩ := L_low (ro := axRoL L xs) (d := d + 8) (h := h) (w >>> ((5 : Int32) &&& 31)) (n := aN (vA V)) (by omega) (by omega)
  have p6 : ∀ Q : Option Value → axH → Prop, axW (axRoL L xs) (axEv (axRoL L xs) (d + 9)) cdL_act 211 [some (.ref 0), some (.int v), some (.int w), some (.int (nI (aN (vA V)))), some (.int (nI s)), some (.int (nI (aR (vA V) i))), some (.int (nI (aR (vA V) j))), some (.int (cntA (vA V) 2)), some (.int (cntA (vA V) 1)), none, none, none, none, none, none, none] [.int 6, .int (nI s)] h Q → axW (axRoL L xs) (axEv (axRoL L xs) (d + 9)) cdL_act 0 [some (.ref 0), some (.int v), some (.int w), none, none, none, none, none, none, none, none, none, none, none, none, none] [] h Q := fun Q K => by
    refine pre1 _ ?_
    refine wp_iclt rfl (fun hz_ => absurd hz_ (nI_nlt (b := 6) (by omega) (by omega))) (fun _ => ?_)
    refine wp_run rfl ?_
    refine wp_ifne rfl (fun _ => ?_) (fun hz_ => absurd (nI_ne0 (by omega) (by omega)) hz_)
    refine wp_run rfl ?_
    refine wp_s2 rfl (Nat.le_of_ble_eq_true rfl) (evi) ?_
    refine wp_run rfl ?_
    refine wp_v1 rfl e0 (Nat.le_of_ble_eq_true rfl) (L_at (d := d + 3) hx hi) ?_
    refine wp_run rfl ?_
    refine wp_s2 rfl (Nat.le_of_ble_eq_true rfl) (evj) ?_
    refine wp_run rfl ?_
    refine wp_v1 rfl e0 (Nat.le_of_ble_eq_true rfl) (L_at (d := d + 3) hx hj) ?_
    refine wp_run rfl ?_
    refine wp_v1 rfl e0 (Nat.le_of_ble_eq_true rfl) (L_cnt (d := d + 2) hx 2 (by decide)) ?_
    refine wp_run rfl ?_
    refine wp_v1 rfl e0 (Nat.le_of_ble_eq_true rfl) (L_cnt (d := d + 2) hx 1 (by decide)) ?_
    refine wp_run rfl ?_
    exact K
  have ne : ∀ k, k < 20 → s ≠ k → ¬ nI s = nI k := fun k hk hsk z => hsk ((nI_eq (by omega) (by omega)).mp z)

  by_cases h6 : s = 6
  · subst h6
    obtain ⟨V', h', K, x⟩ := A_drop (ro := axRoL L xs) (d := d) (v := v) (w := w) (s := 6) (i := i) (j := j) hx hi
    refine ⟨V', h', ?_, x⟩
    refine ev_in rfl rfl (Nat.le_of_ble_eq_true rfl) rfl ?_
    refine p6 _ ?_
    refine wp_icne rfl (fun hz_ => absurd hz_ ((fun z => z rfl))) (fun _ => ?_)
    refine wp_run rfl ?_
    exact K

  have p7 : ∀ Q : Option Value → axH → Prop, axW (axRoL L xs) (axEv (axRoL L xs) (d + 9)) cdL_act 269 [some (.ref 0), some (.int v), some (.int w), some (.int (nI (aN (vA V)))), some (.int (nI s)), some (.int (nI (aR (vA V) i))), some (.int (nI (aR (vA V) j))), some (.int (cntA (vA V) 2)), some (.int (cntA (vA V) 1)), none, none, none, none, none, none, none] [.int 7, .int (nI s)] h Q → axW (axRoL L xs) (axEv (axRoL L xs) (d + 9)) cdL_act 0 [some (.ref 0), some (.int v), some (.int w), none, none, none, none, none, none, none, none, none, none, none, none, none] [] h Q := fun Q K => by
    refine p6 _ ?_
    refine wp_icne rfl (fun _ => ?_) (fun hz_ => absurd (ne 6 (by decide) h6) hz_)
    refine wp_run rfl ?_
    exact K

  by_cases h7 : s = 7
  · subst h7
    obtain ⟨V', h', K, x⟩ := A_turn (ro := axRoL L xs) (d := d) (v := v) (w := w) (s := 7) (i := i) (j := j) hx hi
    refine ⟨V', h', ?_, x⟩
    refine ev_in rfl rfl (Nat.le_of_ble_eq_true rfl) rfl ?_
    refine p7 _ ?_
    refine wp_icne rfl (fun hz_ => absurd hz_ ((fun z => z rfl))) (fun _ => ?_)
    refine wp_run rfl ?_
    exact K

  have p8 : ∀ Q : Option Value → axH → Prop, axW (axRoL L xs) (axEv (axRoL L xs) (d + 9)) cdL_act 336 [some (.ref 0), some (.int v), some (.int w), some (.int (nI (aN (vA V)))), some (.int (nI s)), some (.int (nI (aR (vA V) i))), some (.int (nI (aR (vA V) j))), some (.int (cntA (vA V) 2)), some (.int (cntA (vA V) 1)), none, none, none, none, none, none, none] [.int 11, .int (nI s)] h Q → axW (axRoL L xs) (axEv (axRoL L xs) (d + 9)) cdL_act 0 [some (.ref 0), some (.int v), some (.int w), none, none, none, none, none, none, none, none, none, none, none, none, none] [] h Q := fun Q K => by
    refine p7 _ ?_
    refine wp_icne rfl (fun _ => ?_) (fun hz_ => absurd (ne 7 (by decide) h7) hz_)
    refine wp_run rfl ?_
    exact K

  by_cases h8 : s < 11
  · obtain ⟨V', h', K, x⟩ := A_need (ro := axRoL L xs) (d := d) (v := v) (w := w) (s := s) (i := i) (j := j) hx hi hj
    refine ⟨V', h', ?_, x⟩
    refine ev_in rfl rfl (Nat.le_of_ble_eq_true rfl) rfl ?_
    refine p8 _ ?_
    refine wp_icge rfl (fun hz_ => absurd hz_ (nI_ge (b := 11) (by omega) (by omega))) (fun _ => ?_)
    refine wp_run rfl ?_
    exact K

  have p11 : ∀ Q : Option Value → axH → Prop, axW (axRoL L xs) (axEv (axRoL L xs) (d + 9)) cdL_act 479 [some (.ref 0), some (.int v), some (.int w), some (.int (nI (aN (vA V)))), some (.int (nI s)), some (.int (nI (aR (vA V) i))), some (.int (nI (aR (vA V) j))), some (.int (cntA (vA V) 2)), some (.int (cntA (vA V) 1)), none, none, none, none, none, none, none] [.int 11, .int (nI s)] h Q → axW (axRoL L xs) (axEv (axRoL L xs) (d + 9)) cdL_act 0 [some (.ref 0), some (.int v), some (.int w), none, none, none, none, none, none, none, none, none, none, none, none, none] [] h Q := fun Q K => by
    refine p8 _ ?_
    refine wp_icge rfl (fun _ => ?_) (fun hz_ => absurd (nI_le (a := 11) (by omega) (by omega)) hz_)
    refine wp_run rfl ?_
    exact K

  by_cases h11 : s = 11
  · subst h11
    obtain ⟨V', h', K, x⟩ := A_trim (ro := axRoL L xs) (d := d) (v := v) (w := w) (s := 11) (i := i) (j := j) hx hi
    refine ⟨V', h', ?_, x⟩
    refine ev_in rfl rfl (Nat.le_of_ble_eq_true rfl) rfl ?_
    refine p11 _ ?_
    refine wp_icne rfl (fun hz_ => absurd hz_ ((fun z => z rfl))) (fun _ => ?_)
    refine wp_run rfl ?_
    exact K

  have p12 : ∀ Q : Option Value → axH → Prop, axW (axRoL L xs) (axEv (axRoL L xs) (d + 9)) cdL_act 649 [some (.ref 0), some (.int v), some (.int w), some (.int (nI (aN (vA V)))), some (.int (nI s)), some (.int (nI (aR (vA V) i))), some (.int (nI (aR (vA V) j))), some (.int (cntA (vA V) 2)), some (.int (cntA (vA V) 1)), none, none, none, none, none, none, none] [.int 12, .int (nI s)] h Q → axW (axRoL L xs) (axEv (axRoL L xs) (d + 9)) cdL_act 0 [some (.ref 0), some (.int v), some (.int w), none, none, none, none, none, none, none, none, none, none, none, none, none] [] h Q := fun Q K => by
    refine p11 _ ?_
    refine wp_icne rfl (fun _ => ?_) (fun hz_ => absurd (ne 11 (by decide) h11) hz_)
    refine wp_run rfl ?_
    exact K

  by_cases h12 : s = 12
  · subst h12
    obtain ⟨V', h', K, x⟩ := A_give (ro := axRoL L xs) (d := d) (v := v) (w := w) (s := 12) (i := i) (j := j) hx hi
    refine ⟨V', h', ?_, x⟩
    refine ev_in rfl rfl (Nat.le_of_ble_eq_true rfl) rfl ?_
    refine p12 _ ?_
    refine wp_icne rfl (fun hz_ => absurd hz_ ((fun z => z rfl))) (fun _ => ?_)
    refine wp_run rfl ?_
    exact K

  have p13 : ∀ Q : Option Value → axH → Prop, axW (axRoL L xs) (axEv (axRoL L xs) (d + 9)) cdL_act 720 [some (.ref 0), some (.int v), some (.int w), some (.int (nI (aN (vA V)))), some (.int (nI s)), some (.int (nI (aR (vA V) i))), some (.int (nI (aR (vA V) j))), some (.int (cntA (vA V) 2)), some (.int (cntA (vA V) 1)), none, none, none, none, none, none, none] [.int 15, .int (nI s)] h Q → axW (axRoL L xs) (axEv (axRoL L xs) (d + 9)) cdL_act 0 [some (.ref 0), some (.int v), some (.int w), none, none, none, none, none, none, none, none, none, none, none, none, none] [] h Q := fun Q K => by
    refine p12 _ ?_
    refine wp_icne rfl (fun _ => ?_) (fun hz_ => absurd (ne 12 (by decide) h12) hz_)
    refine wp_run rfl ?_
    exact K

  by_cases h13 : s < 15
  · obtain ⟨V', h', K, x⟩ := A_move (ro := axRoL L xs) (d := d) (v := v) (w := w) (s := s) (i := i) (j := j) hx hi
    refine ⟨V', h', ?_, x⟩
    refine ev_in rfl rfl (Nat.le_of_ble_eq_true rfl) rfl ?_
    refine p13 _ ?_
    refine wp_icge rfl (fun hz_ => absurd hz_ (nI_ge (b := 15) (by omega) (by omega))) (fun _ => ?_)
    refine wp_run rfl ?_
    exact K

  have p15 : ∀ Q : Option Value → axH → Prop, axW (axRoL L xs) (axEv (axRoL L xs) (d + 9)) cdL_act 742 [some (.ref 0), some (.int v), some (.int w), some (.int (nI (aN (vA V)))), some (.int (nI s)), some (.int (nI (aR (vA V) i))), some (.int (nI (aR (vA V) j))), some (.int (cntA (vA V) 2)), some (.int (cntA (vA V) 1)), none, none, none, none, none, none, none] [.int 15, .int (nI s)] h Q → axW (axRoL L xs) (axEv (axRoL L xs) (d + 9)) cdL_act 0 [some (.ref 0), some (.int v), some (.int w), none, none, none, none, none, none, none, none, none, none, none, none, none] [] h Q := fun Q K => by
    refine p13 _ ?_
    refine wp_icge rfl (fun _ => ?_) (fun hz_ => absurd (nI_le (a := 15) (by omega) (by omega)) hz_)
    refine wp_run rfl ?_
    exact K

  by_cases h15 : s = 15
  · subst h15
    obtain ⟨V', h', K, x⟩ := A_swap (ro := axRoL L xs) (d := d) (v := v) (w := w) (s := 15) (i := i) (j := j) hx hi hj
    refine ⟨V', h', ?_, x⟩
    refine ev_in rfl rfl (Nat.le_of_ble_eq_true rfl) rfl ?_
    refine p15 _ ?_
    refine wp_icne rfl (fun hz_ => absurd hz_ ((fun z => z rfl))) (fun _ => ?_)
    refine wp_run rfl ?_
    exact K

  have p16 : ∀ Q : Option Value → axH → Prop, axW (axRoL L xs) (axEv (axRoL L xs) (d + 9)) cdL_act 841 [some (.ref 0), some (.int v), some (.int w), some (.int (nI (aN (vA V)))), some (.int (nI s)), some (.int (nI (aR (vA V) i))), some (.int (nI (aR (vA V) j))), some (.int (cntA (vA V) 2)), some (.int (cntA (vA V) 1)), none, none, none, none, none, none, none] [.int 16, .int (nI s)] h Q → axW (axRoL L xs) (axEv (axRoL L xs) (d + 9)) cdL_act 0 [some (.ref 0), some (.int v), some (.int w), none, none, none, none, none, none, none, none, none, none, none, none, none] [] h Q := fun Q K => by
    refine p15 _ ?_
    refine wp_icne rfl (fun _ => ?_) (fun hz_ => absurd (ne 15 (by decide) h15) hz_)
    refine wp_run rfl ?_
    exact K

  by_cases h16 : s = 16
  · subst h16
    obtain ⟨V', h', K, x⟩ := A_split (ro := axRoL L xs) (d := d) (v := v) (w := w) (s := 16) (i := i) (j := j) hx hi
    refine ⟨V', h', ?_, x⟩
    refine ev_in rfl rfl (Nat.le_of_ble_eq_true rfl) rfl ?_
    refine p16 _ ?_
    refine wp_icne rfl (fun hz_ => absurd hz_ ((fun z => z rfl))) (fun _ => ?_)
    refine wp_run rfl ?_
    exact K

  have p17 : ∀ Q : Option Value → axH → Prop, axW (axRoL L xs) (axEv (axRoL L xs) (d + 9)) cdL_act 1074 [some (.ref 0), some (.int v), some (.int w), some (.int (nI (aN (vA V)))), some (.int (nI s)), some (.int (nI (aR (vA V) i))), some (.int (nI (aR (vA V) j))), some (.int (cntA (vA V) 2)), some (.int (cntA (vA V) 1)), none, none, none, none, none, none, none] [.int 17, .int (nI s)] h Q → axW (axRoL L xs) (axEv (axRoL L xs) (d + 9)) cdL_act 0 [some (.ref 0), some (.int v), some (.int w), none, none, none, none, none, none, none, none, none, none, none, none, none] [] h Q := fun Q K => by
    refine p16 _ ?_
    refine wp_icne rfl (fun _ => ?_) (fun hz_ => absurd (ne 16 (by decide) h16) hz_)
    refine wp_run rfl ?_
    exact K

  by_cases h17 : s = 17
  · subst h17
    obtain ⟨V', h', K, x⟩ := A_fits (ro := axRoL L xs) (d := d) (v := v) (w := w) (s := 17) (i := i) (j := j) hx
    refine ⟨V', h', ?_, x⟩
    refine ev_in rfl rfl (Nat.le_of_ble_eq_true rfl) rfl ?_
    refine p17 _ ?_
    refine wp_icne rfl (fun hz_ => absurd hz_ ((fun z => z rfl))) (fun _ => ?_)
    refine wp_run rfl ?_
    exact K

  have p18 : ∀ Q : Option Value → axH → Prop, axW (axRoL L xs) (axEv (axRoL L xs) (d + 9)) cdL_act 1091 [some (.ref 0), some (.int v), some (.int w), some (.int (nI (aN (vA V)))), some (.int (nI s)), some (.int (nI (aR (vA V) i))), some (.int (nI (aR (vA V) j))), some (.int (cntA (vA V) 2)), some (.int (cntA (vA V) 1)), none, none, none, none, none, none, none] [.int 18, .int (nI s)] h Q → axW (axRoL L xs) (axEv (axRoL L xs) (d + 9)) cdL_act 0 [some (.ref 0), some (.int v), some (.int w), none, none, none, none, none, none, none, none, none, none, none, none, none] [] h Q := fun Q K => by
    refine p17 _ ?_
    refine wp_icne rfl (fun _ => ?_) (fun hz_ => absurd (ne 17 (by decide) h17) hz_)
    refine wp_run rfl ?_
    exact K

  by_cases h18 : s = 18
  · subst h18
    obtain ⟨V', h', K, x⟩ := A_target (ro := axRoL L xs) (d := d) (v := v) (w := w) (s := 18) (i := i) (j := j) hx
    refine ⟨V', h', ?_, x⟩
    refine ev_in rfl rfl (Nat.le_of_ble_eq_true rfl) rfl ?_
    refine p18 _ ?_
    refine wp_icne rfl (fun hz_ => absurd hz_ ((fun z => z rfl))) (fun _ => ?_)
    refine wp_run rfl ?_
    exact K

  obtain ⟨V', h', K, x⟩ := A_set (L := L) (xs := xs) (d := d) (v := v) (w := w) (s := s) (i := i) (j := j) hx
  refine ⟨V', h', ?_, x⟩
  refine ev_in rfl rfl (Nat.le_of_ble_eq_true rfl) rfl ?_
  refine p18 _ ?_
  refine wp_icne rfl (fun _ => ?_) (fun hz_ => absurd (ne 18 (by decide) h18) hz_)
  refine wp_run rfl ?_
  exact K
set_option maxRecDepth 40000 in
theorem XS_room (hx : XS V [] m h) : h.length ≤ 15 + 7 * m ∧ axSl h ≤ 246 + 114 * m := by
  obtain ⟨B, nx, sf, lf, f, cu, la, ki, fi, se, G, bs, rfl, hC, hO, hK, hT, hb1, hb2⟩ := hx
  refine ⟨by rw [hX_len]; show 15 + bs.length ≤ _; omega, ?_⟩
  show axSl (hX B (sf, nI nx, nI (vK V)) lf (f, nI (vP V), cu, la, ki, fi, se) G [] ++ bs) ≤ _
  rw [axSl_apps, show axSl (hX B (sf, nI nx, nI (vK V)) lf (f, nI (vP V), cu, la, ki, fi, se) G []) = 246 from rfl]
  omega
/-! the start -/
def aIni : axAD := (0, fun _ => 0, fun _ => 0, fun _ => 0, fun _ => 0, fun _ => false, 16, 2, 50, fun _ => 60)
def vIni : axV := (aIni, 0, fun _ => aIni, fun _ => none, 0, fun _ => 0)

theorem aOk_ini : aOk aIni := ⟨by show 0 ≤ 24; omega, fun i hi => absurd hi (Nat.not_lt_zero i), fun i _ hi => absurd hi (Nat.not_lt_zero i), fun i hi => absurd hi (Nat.not_lt_zero i), fun i _ hi => absurd hi (Nat.not_lt_zero i), ⟨by show 4 ≤ 16; omega, by show 16 ≤ 60; omega⟩, by show 2 ≤ 20; omega, by show 50 ≤ 90; omega, fun a _ => ⟨by show 1 ≤ 60; omega, by show 60 ≤ 999; omega⟩⟩

theorem CR_ini : CR bIni aIni := by
  refine ⟨rfl, fun i hi => absurd hi (Nat.not_lt_zero i), fun i hi => absurd hi (Nat.not_lt_zero i), fun k => ?_, fun k => ?_, ⟨rfl, rfl, rfl⟩, fun a ha => ?_⟩
  · show bt 0 k = true ↔ _
    rw [b_0]
    exact ⟨fun h => Bool.noConfusion h, fun ⟨i, hi, _⟩ => absurd hi (Nat.not_lt_zero i)⟩
  · show bt 0 k = true ↔ _
    rw [b_0]
    exact ⟨fun h => Bool.noConfusion h, fun ⟨⟨i, hi, _⟩, _⟩ => absurd hi (Nat.not_lt_zero i)⟩
  · match a, ha with
    | 0, _ => rfl
    | 1, _ => rfl
    | 2, _ => rfl
    | 3, _ => rfl
    | 4, _ => rfl
    | 5, _ => rfl
    | n + 6, h => exact absurd h (by omega)

theorem XS_ini : XS vIni [] 0 (hX bIni (nO, 0, 0) nO pIni gIni []) := by
  refine ⟨bIni, 0, nO, nO, z0F, 0, 0, 0, 0, 0, gIni, [], rfl, CR_ini, aOk_ini, ⟨by omega, by show 0 ≤ 6; omega, ⟨fun i _ o ho => ?_, fun i j _ _ _ o q ho => ?_⟩, fun j hj => absurd hj (Nat.not_lt_zero j), fun i _ => ⟨fun _ => rfl, fun A hA => by cases hA⟩⟩, ⟨by show 0 ≤ 80; omega, fun i hi => absurd hi (Nat.not_lt_zero i)⟩, Nat.le_refl 0, Nat.le_refl 0⟩
  · unfold zO nO at ho; split at ho <;> cases ho
  · unfold zO nO at ho; split at ho <;> cases ho
set_option maxRecDepth 40000 in
theorem L_end (hx : XS V [] m h) (hm : m ≤ 1 + 1200 * 40) : axW (axRoL L xs) (axEv (axRoL L xs) 10) cdL_law 92 [some (.retAddr 0), some (.ref 0), some (.int (nI 40))] [.ref 0] h (fun r h => r = some (.int 1) ∧ h.length ≤ 600000 ∧ axSl h ≤ 7302249) := by
  obtain ⟨V', h', ev, x⟩ := L_swapsBest (ro := axRoL L xs) (d := 1) hx
  obtain ⟨r1, r2⟩ := XS_room x
  have q1 : h'.length ≤ 600000 := by omega
  have q0 : m + 1200 ≤ 49201 := by omega
  have q2 : axSl h' ≤ 7302249 := Nat.le_trans r2 (Nat.le_trans (Nat.add_le_add_left (Nat.mul_le_mul_left 114 q0) 246) (Nat.le_of_ble_eq_true rfl))
  refine wp_s1 rfl (Nat.le_of_ble_eq_true rfl) (ev) ?_
  refine wp_run rfl ?_
  refine wp_ifeq rfl (fun hz_ => absurd hz_ ((by decide : ¬ (1 : Int32) = 0))) (fun _ => ?_)
  refine wp_run rfl ?_
  refine wp_s1 rfl (Nat.le_of_ble_eq_true rfl) (L_holds (d := 1) x) ?_
  refine wp_run rfl ?_
  refine wp_ifeq rfl (fun hz_ => absurd hz_ ((by decide : ¬ (1 : Int32) = 0))) (fun _ => ?_)
  refine wp_run rfl ?_
  exact wp_ret rfl rfl ⟨rfl, q1, q2⟩
theorem L_loop (hL : L ≤ 260) : ∀ (j e : Nat), e + j = 40 → ∀ (V : axV) (m : Nat) (h : axH), XS V [] m h → m ≤ 1 + 1200 * e → axW (axRoL L xs) (axEv (axRoL L xs) 10) cdL_law 41 [some (.retAddr 0), some (.ref 0), some (.int (nI e))] [.int 40, .int (nI e)] h (fun r h => r = some (.int 1) ∧ h.length ≤ 600000 ∧ axSl h ≤ 7302249) := by
  intro j
  induction j with
  | zero =>
    intro e he V m h hx hm
    have he : e = 40 := by omega
    subst he
    refine wp_icge rfl (fun _ => ?_) (fun hz_ => absurd ((Int32.le_refl _ : (40 : Int32) ≤ nI 40)) hz_)
    refine wp_run rfl ?_
    exact L_end hx hm
  | succ j ih =>
    intro e he V m h hx hm
    obtain ⟨w, evw⟩ := L_cell (d := 9) (h := h) (xs := xs) hL (show 2 * e + 1 < 1000 by omega)
    have fin : ∀ v : Int32, axW (axRoL L xs) (axEv (axRoL L xs) 10) cdL_law 67 [some (.retAddr 0), some (.ref 0), some (.int (nI e))] [.int (nI (2 * e + 1)), .retAddr 0, .int v, .ref 0] h (fun r h => r = some (.int 1) ∧ h.length ≤ 600000 ∧ axSl h ≤ 7302249) := by
      intro v
      obtain ⟨V', h', ev, x⟩ := L_act (L := L) (xs := xs) (d := 0) hx v w
      refine wp_s2 rfl (Nat.le_of_ble_eq_true rfl) (evw) ?_
      refine wp_run rfl ?_
      refine wp_s3 rfl (Nat.le_of_ble_eq_true rfl) (ev) ?_
      refine wp_run rfl ?_
      refine wp_ifeq rfl (fun hz_ => absurd hz_ ((by decide : ¬ (1 : Int32) = 0))) (fun _ => ?_)
      refine wp_run rfl ?_
      refine wp_s1 rfl (Nat.le_of_ble_eq_true rfl) (L_holds (d := 1) x) ?_
      refine wp_run rfl ?_
      refine wp_ifne rfl (fun _ => ?_) (fun hz_ => absurd ((by decide : ¬ (1 : Int32) = 0)) hz_)
      refine wp_run rfl ?_
      rw [nI_1]
      exact ih (e + 1) (by omega) V' _ h' x (by omega)
    refine wp_icge rfl (fun hz_ => absurd hz_ (nI_ge (a := e) (b := 40) (by omega) (by omega))) (fun _ => ?_)
    refine wp_run rfl ?_
    by_cases h5 : e < 5
    · refine wp_icge rfl (fun hz_ => absurd hz_ (nI_ge (a := e) (b := 5) h5 (by omega))) (fun _ => ?_)
      refine wp_run rfl ?_
      rw [show (2 : Int32) * nI e = nI (2 * e) from pk_mul 2 e, nI_1]
      exact fin 0
    · obtain ⟨v, evv⟩ := L_cell (d := 9) (h := h) (xs := xs) hL (show 2 * e < 1000 by omega)
      refine wp_icge rfl (fun _ => ?_) (fun hz_ => absurd (nI_le (a := 5) (b := e) (by omega) (by omega)) hz_)
      refine wp_run rfl ?_
      rw [show (2 : Int32) * nI e = nI (2 * e) from pk_mul 2 e]
      refine wp_s2 rfl (Nat.le_of_ble_eq_true rfl) (evv) ?_
      refine wp_run rfl ?_
      rw [show (2 : Int32) * nI e = nI (2 * e) from pk_mul 2 e, nI_1]
      exact fin v
theorem ax_law_run (L : Nat) (xs : Nat → Int32) (hL : L ≤ 260) : axW (axRoL L xs) (axEv (axRoL L xs) 10) cdL_law 0 [some (.retAddr 0), none, none] [] [] (fun r h => r = some (.int 1) ∧ h.length ≤ 600000 ∧ axSl h ≤ 7302249) := by
  have hx := XS_ini
  obtain ⟨f0, e0⟩ := XS_o4 hx
  obtain ⟨h1, ev1, x1⟩ := L_best (ro := axRoL L xs) (d := 3) hx 2 (by decide)
  obtain ⟨f1, e1⟩ := XS_o4 x1
  have hb : bsV (vA vIni) 2 = -6 := rfl
  refine wp_run rfl ?_
  refine wp_new (q := 0) (h1 := [.inr (.inr (4, axDf 4))]) rfl rfl rfl ?_
  refine wp_run rfl ?_
  refine wp_i0 rfl (Nat.le_of_ble_eq_true rfl) (x4_init (d := 8)) ?_
  refine wp_run rfl ?_
  refine wp_s1 rfl (Nat.le_of_ble_eq_true rfl) (L_holds (d := 1) hx) ?_
  refine wp_run rfl ?_
  refine wp_ifeq rfl (fun hz_ => absurd hz_ ((by decide : ¬ (1 : Int32) = 0))) (fun _ => ?_)
  refine wp_run rfl ?_
  refine wp_v1 rfl e0 (Nat.le_of_ble_eq_true rfl) (ev1) ?_
  refine wp_run rfl ?_
  refine wp_icne rfl (fun hz_ => absurd hz_ (fun z => z hb)) (fun _ => ?_)
  refine wp_run rfl ?_
  refine wp_v1 rfl e1 (Nat.le_of_ble_eq_true rfl) (L_fitted (d := 4) (r := -1) (A' := vA vIni) x1 (Or.inl ⟨Or.inr (Int32.le_refl _), rfl, rfl⟩)) ?_
  refine wp_run rfl ?_
  refine wp_iceq rfl (fun _ => ?_) (fun hz_ => absurd (rfl) hz_)
  refine wp_run rfl ?_
  exact L_loop hL 40 0 rfl vIni 1 h1 x1 (by omega)
end AX60
