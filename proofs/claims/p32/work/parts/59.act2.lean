/-! THE LAW: its acts (2): split, target, set, slug. -/
section AX59
variable {ro : axRo} {d m : Nat} {h : axH} {V : axV} {v w : Int32} {s i j : Nat}
/-- what is read of a board after a split -/
theorem sp_facts {A S : axAD} (hO : aOk A) {i u z : Nat} (hi : i < aN A) (hz : z < 24) (hf : ¬ aIn A z) (h2 : u < aB A (aR A i)) (eS : S = aSplit A i u (aR A i) z) (hOS : aOk S) : aN S = aN A + 1 ∧ aR S i = aR A i ∧ aR S (i + 1) = z ∧ aBeg S (aN S) = aBeg A (aN A) ∧ aActs S = aActs A ∧ (aB S (aR A i) = u ∧ aW S (aR A i) = u) ∧ aB S z = aB A (aR A i) - u ∧ aT S z = aT A (aR A i) ∧ aT S (aR A i) = false ∧ aD S z = bi (aR A i) ∧ aNdr S (aR A i) (aN S) &&& ((aNdr S z (aN S) ||| bi z) ^^^ (-1)) = 0 := by
  have hne : ∀ a, a < aN A → aR A a ≠ z := fun a ha e => hf ⟨a, ha, e⟩
  have hzk : z ≠ aR A i := fun e => hne i hi e.symm
  have hk := hO.r hi
  obtain ⟨b1, b2⟩ := pu_split (z := z) hO hi hf h2
  obtain ⟨r1, r2, r3, -⟩ := spR_ A i u (aR A i) z
  have t1 := spT A (p := i) (v := u) (k := aR A i) (z := z) hzk
  have t2 := spB A (p := i) (v := u) (k := aR A i) (z := z) hzk
  rw [← eS] at b1 b2 r1 r2 r3
  have t1 : ∀ j, aT S j = if j = z then aT A (aR A i) else if j = aR A i then false else aT A j := by rw [eS]; exact t1
  have t2 : ∀ j, aB S j = (if j = aR A i then u else if j = z then aB A (aR A i) - u else aB A j) ∧ aW S j = (if j = aR A i then u else if j = z then aW A (aR A i) - u else aW A j) := by rw [eS]; exact t2
  have rz : aR S (i + 1) = z := by rw [r1, aIns_at]
  refine ⟨r2, ?_, rz, by rw [r2]; exact b1, b2, ⟨by rw [(t2 _).1, if_pos rfl], by rw [(t2 _).2, if_pos rfl]⟩, by rw [(t2 _).1, if_neg hzk, if_pos rfl], by rw [t1, if_pos rfl], by rw [t1, if_neg (Ne.symm hzk), if_pos rfl], by rw [r3]; exact if_pos rfl, b_sub fun b hb => ?_⟩
  · rw [r1]; unfold aIns; rw [if_pos (by omega)]
  · obtain ⟨p, hp, ep, hbit⟩ := (bt_aNdr hOS (aR A i) b _ (Nat.le_refl _)).mp hb
    rw [bt_set (show z < 32 by omega), Bool.or_eq_true]
    by_cases ez : aR S p = z
    · exact Or.inr (decide_eq_true (by rw [← ep, ez]))
    · refine Or.inl ((bt_aNdr hOS z b _ (Nat.le_refl _)).mpr ⟨p, hp, ep, ?_⟩)
      rw [r3] at hbit ⊢
      unfold aSplN at hbit ⊢
      rw [if_neg ez] at hbit ⊢
      by_cases e : bt (aD A (aR S p)) (aR A i) = true
      · rw [if_pos e, bt_set (show z < 32 by omega), decide_eq_true rfl, Bool.or_true]
      · rw [if_neg e] at hbit
        exact absurd hbit e
set_option maxRecDepth 40000 in
theorem A_split (hx : XS V [] m h) (hi : i < aN (vA V)) : ∃ V' h', axW ro (axEv ro (d + 9)) cdL_act 850 [some (.ref 0), some (.int v), some (.int w), some (.int (nI (aN (vA V)))), some (.int (nI s)), some (.int (nI (aR (vA V) i))), some (.int (nI (aR (vA V) j))), some (.int (cntA (vA V) 2)), some (.int (cntA (vA V) 1)), none, none, none, none, none, none, none] [.int 30, .int (w >>> ((5 : Int32) &&& 31)), .int 1] h (fun r' h'' => r' = some (.int 1) ∧ h'' = h') ∧ XS V' [] (m + 1200) h' := by
  have hO := XS_ok hx
  have hn := hO.n
  have hb := hO.b hi
  obtain ⟨f0, e0⟩ := XS_o4 hx
  obtain ⟨t, ht, evl⟩ := L_low (ro := ro) (d := d + 8) (h := h) (w >>> ((5 : Int32) &&& 31)) (n := 30) (by decide) (by decide)
  by_cases hm : aB (vA V) (aR (vA V) i) ≤ 1 + t
  · obtain ⟨h1, ev1, x1⟩ := x4_split (ro := ro) (d := d + 3) (mc := []) (x := nI (aR (vA V) i)) (y := nI (1 + t)) (r := -5) (A' := vA V) rfl hx (Or.inr ⟨i, ⟨hi, rfl⟩, Or.inr ⟨1 + t, by omega, by omega, rfl, Or.inl ⟨hm, rfl, rfl⟩⟩⟩)
    rw [stp_e m5_neg] at x1
    refine ⟨_, h1, ?_, XS_more (by omega) x1⟩
    refine wp_s2 rfl (Nat.le_of_ble_eq_true rfl) (evl) ?_
    refine wp_run rfl ?_
    rw [show (1 : Int32) + nI t = nI (1 + t) from nI_add 1 t]
    refine wp_v2 rfl e0 (Nat.le_of_ble_eq_true rfl) (L_of (d := d + 3) hx hi 2 (by decide)) ?_
    refine wp_run rfl ?_
    refine wp_v2 rfl e0 (Nat.le_of_ble_eq_true rfl) (L_of (d := d + 3) hx hi 3 (by decide)) ?_
    refine wp_run rfl ?_
    refine wp_v2 rfl e0 (Nat.le_of_ble_eq_true rfl) (L_of (d := d + 3) hx hi 0 (by decide)) ?_
    refine wp_run rfl ?_
    refine wp_v2 rfl e0 (Nat.le_of_ble_eq_true rfl) (ev1) ?_
    refine wp_run rfl ?_
    refine wp_icle rfl (fun _ => ?_) (fun hz_ => absurd (nI_le hm (by omega)) hz_)
    refine wp_run rfl ?_
    refine wp_icgt rfl (fun hz_ => absurd hz_ (nI_nlt hm (by omega))) (fun _ => ?_)
    refine wp_run rfl ?_
    refine wp_icne rfl (fun hz_ => absurd hz_ ((fun z => z rfl))) (fun _ => ?_)
    refine wp_run rfl ?_
    exact wp_ret rfl rfl ⟨rfl, rfl⟩
  · by_cases h24 : aN (vA V) = 24
    · obtain ⟨h1, ev1, x1⟩ := x4_split (ro := ro) (d := d + 3) (mc := []) (x := nI (aR (vA V) i)) (y := nI (1 + t)) (r := -4) (A' := vA V) rfl hx (Or.inr ⟨i, ⟨hi, rfl⟩, Or.inr ⟨1 + t, by omega, by omega, rfl, Or.inr (Or.inl ⟨by omega, h24, rfl, rfl⟩)⟩⟩)
      rw [stp_e m4_neg] at x1
      refine ⟨_, h1, ?_, XS_more (by omega) x1⟩
      refine wp_s2 rfl (Nat.le_of_ble_eq_true rfl) (evl) ?_
      refine wp_run rfl ?_
      rw [show (1 : Int32) + nI t = nI (1 + t) from nI_add 1 t]
      refine wp_v2 rfl e0 (Nat.le_of_ble_eq_true rfl) (L_of (d := d + 3) hx hi 2 (by decide)) ?_
      refine wp_run rfl ?_
      refine wp_v2 rfl e0 (Nat.le_of_ble_eq_true rfl) (L_of (d := d + 3) hx hi 3 (by decide)) ?_
      refine wp_run rfl ?_
      refine wp_v2 rfl e0 (Nat.le_of_ble_eq_true rfl) (L_of (d := d + 3) hx hi 0 (by decide)) ?_
      refine wp_run rfl ?_
      refine wp_v2 rfl e0 (Nat.le_of_ble_eq_true rfl) (ev1) ?_
      refine wp_run rfl ?_
      refine wp_icle rfl (fun hz_ => absurd hz_ (nI_ge (b := aB (vA V) (aR (vA V) i)) (by omega) (by omega))) (fun _ => ?_)
      refine wp_run rfl ?_
      refine wp_icne rfl (fun hz_ => absurd hz_ (fun z => z (by rw [h24]; rfl))) (fun _ => ?_)
      refine wp_run rfl ?_
      refine wp_icgt rfl (fun _ => ?_) (fun hz_ => absurd (nI_lt (b := aB (vA V) (aR (vA V) i)) (by omega) (by omega)) hz_)
      refine wp_run rfl ?_
      refine wp_icne rfl (fun hz_ => absurd hz_ ((fun z => z rfl))) (fun _ => ?_)
      refine wp_run rfl ?_
      exact wp_ret rfl rfl ⟨rfl, rfl⟩
    · have hn24 : aN (vA V) < 24 := by omega
      obtain ⟨z, hz⟩ : ∃ z, z = aFr (vA V) := ⟨_, rfl⟩
      have hzl : z < 24 := by rw [hz]; exact aFr_lt hO hn24
      have hzf : ¬ aIn (vA V) z := by rw [hz]; exact aFr_free hO hn24
      obtain ⟨S, eS⟩ : ∃ S, S = aSplit (vA V) i (1 + t) (aR (vA V) i) z := ⟨_, rfl⟩
      obtain ⟨h1, ev1, x1⟩ := x4_split (ro := ro) (d := d + 3) (mc := []) (x := nI (aR (vA V) i)) (y := nI (1 + t)) (r := nI z) (A' := S) rfl hx (Or.inr ⟨i, ⟨hi, rfl⟩, Or.inr ⟨1 + t, by omega, by omega, rfl, Or.inr (Or.inr ⟨by omega, hn24, z, hz, rfl, eS⟩)⟩⟩)
      rw [stp_n (by omega)] at x1
      obtain ⟨f1, e1⟩ := XS_o4 x1
      have hOS : aOk S := XS_ok x1
      obtain ⟨g1, g2, g3, g4, g5, ⟨g6, g7⟩, g8, g9, g10, g11, g12⟩ := sp_facts hO hi hzl hzf (by omega) eS hOS
      have oK : ∀ k, k < 10 → axEv ro (d + 9) kX4_of [.ref 0, .int (nI (aR (vA V) i)), .int (nI k)] h1 (some (.int (ofV S i k))) h1 := fun k hk => by
        have := L_of (ro := ro) (d := d + 3) x1 (i := i) (show i < aN S by omega) k hk
        rw [show aR (vA (stpN V S)) i = aR (vA V) i from g2] at this
        exact this
      have oZ : ∀ k, k < 10 → axEv ro (d + 9) kX4_of [.ref 0, .int (nI z), .int (nI k)] h1 (some (.int (ofV S (i + 1) k))) h1 := fun k hk => by
        have := L_of (ro := ro) (d := d + 3) x1 (i := i + 1) (show i + 1 < aN S by omega) k hk
        rw [show aR (vA (stpN V S)) (i + 1) = z from g3] at this
        exact this
      have oA : axEv ro (d + 9) kX4_at [.ref 0, .int (ofV (vA V) i 0 + 1)] h1 (some (.int (nI z))) h1 := by
        show axEv ro (d + 9) kX4_at [.ref 0, .int (nI i + 1)] h1 (some (.int (nI z))) h1
        rw [nI_1]
        have := L_at (ro := ro) (d := d + 3) x1 (i := i + 1) (show i + 1 < aN S by omega)
        rw [show aR (vA (stpN V S)) (i + 1) = z from g3] at this
        exact this
      have k2 : ofV S i 2 = nI (1 + t) := by show nI (aB S (aR S i)) = _; rw [g2, g6]
      have k1 : ofV S i 1 = nI (1 + t) := by show nI (aW S (aR S i)) = _; rw [g2, g7]
      have k3 : ofV S i 3 = 0 := by show (if aT S (aR S i) = true then (1 : Int32) else 0) = 0; rw [g2, g10]; rfl
      have k5 : ofV S i 5 = aNdr S (aR (vA V) i) (aN S) := by show aNdr S (aR S i) (aN S) = _; rw [g2]
      have z2 : ofV S (i + 1) 2 = ofV (vA V) i 2 - nI (1 + t) := by show nI (aB S (aR S (i + 1))) = nI (aB (vA V) (aR (vA V) i)) - nI (1 + t); rw [g3, g8, pk_sub (by omega)]
      have z3 : ofV S (i + 1) 3 = ofV (vA V) i 3 := by show (if aT S (aR S (i + 1)) = true then (1 : Int32) else 0) = if aT (vA V) (aR (vA V) i) = true then 1 else 0; rw [g3, g9]
      have z4 : ofV S (i + 1) 4 = bi (aR (vA V) i) := by show aD S (aR S (i + 1)) = _; rw [g3, g11]
      have z5 : ofV S (i + 1) 5 = aNdr S z (aN S) := by show aNdr S (aR S (i + 1)) (aN S) = _; rw [g3]
      have c2 : cntA S 2 = cntA (vA V) 2 := congrArg nI g4
      have c1 : cntA S 1 = cntA (vA V) 1 := congrArg nI g5
      refine ⟨_, h1, ?_, XS_more (by omega) x1⟩
      refine wp_s2 rfl (Nat.le_of_ble_eq_true rfl) (evl) ?_
      refine wp_run rfl ?_
      rw [show (1 : Int32) + nI t = nI (1 + t) from nI_add 1 t]
      refine wp_v2 rfl e0 (Nat.le_of_ble_eq_true rfl) (L_of (d := d + 3) hx hi 2 (by decide)) ?_
      refine wp_run rfl ?_
      refine wp_v2 rfl e0 (Nat.le_of_ble_eq_true rfl) (L_of (d := d + 3) hx hi 3 (by decide)) ?_
      refine wp_run rfl ?_
      refine wp_v2 rfl e0 (Nat.le_of_ble_eq_true rfl) (L_of (d := d + 3) hx hi 0 (by decide)) ?_
      refine wp_run rfl ?_
      refine wp_v2 rfl e0 (Nat.le_of_ble_eq_true rfl) (ev1) ?_
      refine wp_run rfl ?_
      refine wp_icle rfl (fun hz_ => absurd hz_ (nI_ge (b := aB (vA V) (aR (vA V) i)) (by omega) (by omega))) (fun _ => ?_)
      refine wp_run rfl ?_
      refine wp_icne rfl (fun _ => ?_) (fun hz_ => absurd (fun z => h24 ((nI_eq (a := aN (vA V)) (b := 24) (by omega) (by omega)).mp z)) hz_)
      refine wp_run rfl ?_
      refine wp_v1 rfl e1 (Nat.le_of_ble_eq_true rfl) (L_cnt (d := d + 2) x1 2 (by decide)) ?_
      refine wp_run rfl ?_
      refine wp_icne rfl (fun hz_ => absurd hz_ (fun z => z c2)) (fun _ => ?_)
      refine wp_run rfl ?_
      refine wp_v1 rfl e1 (Nat.le_of_ble_eq_true rfl) (L_cnt (d := d + 2) x1 1 (by decide)) ?_
      refine wp_run rfl ?_
      refine wp_icne rfl (fun hz_ => absurd hz_ (fun z => z c1)) (fun _ => ?_)
      refine wp_run rfl ?_
      refine wp_v1 rfl e1 (Nat.le_of_ble_eq_true rfl) (oA) ?_
      refine wp_run rfl ?_
      refine wp_icne rfl (fun hz_ => absurd hz_ ((fun z => z rfl))) (fun _ => ?_)
      refine wp_run rfl ?_
      refine wp_v2 rfl e1 (Nat.le_of_ble_eq_true rfl) (oK 2 (by decide)) ?_
      refine wp_run rfl ?_
      refine wp_icne rfl (fun hz_ => absurd hz_ (fun z => z k2)) (fun _ => ?_)
      refine wp_run rfl ?_
      refine wp_v2 rfl e1 (Nat.le_of_ble_eq_true rfl) (oK 1 (by decide)) ?_
      refine wp_run rfl ?_
      refine wp_icne rfl (fun hz_ => absurd hz_ (fun z => z k1)) (fun _ => ?_)
      refine wp_run rfl ?_
      refine wp_v2 rfl e1 (Nat.le_of_ble_eq_true rfl) (oZ 2 (by decide)) ?_
      refine wp_run rfl ?_
      refine wp_icne rfl (fun hz_ => absurd hz_ (fun z => z z2)) (fun _ => ?_)
      refine wp_run rfl ?_
      refine wp_v2 rfl e1 (Nat.le_of_ble_eq_true rfl) (oZ 3 (by decide)) ?_
      refine wp_run rfl ?_
      refine wp_icne rfl (fun hz_ => absurd hz_ (fun z => z z3)) (fun _ => ?_)
      refine wp_run rfl ?_
      refine wp_v2 rfl e1 (Nat.le_of_ble_eq_true rfl) (oK 3 (by decide)) ?_
      refine wp_run rfl ?_
      refine wp_ifne rfl (fun hz_ => absurd hz_ (fun z => z k3)) (fun _ => ?_)
      refine wp_run rfl ?_
      refine wp_v2 rfl e1 (Nat.le_of_ble_eq_true rfl) (oZ 4 (by decide)) ?_
      refine wp_run rfl ?_
      refine wp_icne rfl (fun hz_ => absurd hz_ (fun z => z z4)) (fun _ => ?_)
      refine wp_run rfl ?_
      refine wp_v2 rfl e1 (Nat.le_of_ble_eq_true rfl) (oK 5 (by decide)) ?_
      refine wp_run rfl ?_
      refine wp_v2 rfl e1 (Nat.le_of_ble_eq_true rfl) (oZ 5 (by decide)) ?_
      refine wp_run rfl ?_
      refine wp_ifne rfl (fun hz_ => absurd hz_ (fun z => z (by rw [k5, z5]; exact g12))) (fun _ => ?_)
      refine wp_run rfl ?_
      exact wp_ret rfl rfl ⟨rfl, rfl⟩
set_option maxRecDepth 40000 in
theorem A_target (hx : XS V [] m h) : ∃ V' h', axW ro (axEv ro (d + 9)) cdL_act 1103 [some (.ref 0), some (.int v), some (.int w), some (.int (nI (aN (vA V)))), some (.int (nI s)), some (.int (nI (aR (vA V) i))), some (.int (nI (aR (vA V) j))), some (.int (cntA (vA V) 2)), some (.int (cntA (vA V) 1)), none, none, none, none, none, none, none] [.int 3, .int (w >>> ((12 : Int32) &&& 31)), .int (w >>> ((3 : Int32) &&& 31)), .int 1] h (fun r' h'' => r' = some (.int 1) ∧ h'' = h') ∧ XS V' [] (m + 1200) h' := by
  have hO := XS_ok hx
  have hn := hO.n
  have hac := aActs_le (vA V)
  obtain ⟨f0, e0⟩ := XS_o4 hx
  obtain ⟨c, hc, evc⟩ := L_low (ro := ro) (d := d + 8) (h := h) (w >>> ((12 : Int32) &&& 31)) (n := 3) (by decide) (by decide)
  obtain ⟨a, ha, eva⟩ := L_low (ro := ro) (d := d + 8) (h := h) w (n := 6) (by decide) (by decide)
  have pre : ∃ t, t < 999 ∧ ∀ Q : Option Value → axH → Prop, axW ro (axEv ro (d + 9)) cdL_act 1136 [some (.ref 0), some (.int v), some (.int w), some (.int (nI (aN (vA V)))), some (.int (nI s)), some (.int (nI (aR (vA V) i))), some (.int (nI (aR (vA V) j))), some (.int (cntA (vA V) 2)), some (.int (cntA (vA V) 1)), some (.int (nI (1 + t))), some (.int (nI a)), none, none, none, none, none] [.int (nI (1 + t)), .int (nI a), .ref 0] h Q → axW ro (axEv ro (d + 9)) cdL_act 1103 [some (.ref 0), some (.int v), some (.int w), some (.int (nI (aN (vA V)))), some (.int (nI s)), some (.int (nI (aR (vA V) i))), some (.int (nI (aR (vA V) j))), some (.int (cntA (vA V) 2)), some (.int (cntA (vA V) 1)), none, none, none, none, none, none, none] [.int 3, .int (w >>> ((12 : Int32) &&& 31)), .int (w >>> ((3 : Int32) &&& 31)), .int 1] h Q := by
    by_cases h0 : c = 0
    · subst h0
      obtain ⟨t, ht, evl⟩ := L_low (ro := ro) (d := d + 8) (h := h) (w >>> ((3 : Int32) &&& 31)) (n := 999) (by decide) (by decide)
      refine ⟨t, ht, fun Q K => ?_⟩
      refine wp_s2 rfl (Nat.le_of_ble_eq_true rfl) (evc) ?_
      refine wp_run rfl ?_
      refine wp_ifne rfl (fun hz_ => absurd hz_ (fun z => z rfl)) (fun _ => ?_)
      refine wp_run rfl ?_
      refine wp_s2 rfl (Nat.le_of_ble_eq_true rfl) (evl) ?_
      refine wp_run rfl ?_
      rw [show (1 : Int32) + nI t = nI (1 + t) from nI_add 1 t]
      refine wp_s2 rfl (Nat.le_of_ble_eq_true rfl) (eva) ?_
      refine wp_run rfl ?_
      exact K
    · obtain ⟨t, ht, evl⟩ := L_low (ro := ro) (d := d + 8) (h := h) (w >>> ((3 : Int32) &&& 31)) (n := 120) (by decide) (by decide)
      refine ⟨t, by omega, fun Q K => ?_⟩
      refine wp_s2 rfl (Nat.le_of_ble_eq_true rfl) (evc) ?_
      refine wp_run rfl ?_
      refine wp_ifne rfl (fun _ => ?_) (fun hz_ => absurd (nI_ne0 (by omega) (by omega)) hz_)
      refine wp_run rfl ?_
      refine wp_s2 rfl (Nat.le_of_ble_eq_true rfl) (evl) ?_
      refine wp_run rfl ?_
      rw [show (1 : Int32) + nI t = nI (1 + t) from nI_add 1 t]
      refine wp_s2 rfl (Nat.le_of_ble_eq_true rfl) (eva) ?_
      refine wp_run rfl ?_
      exact K
  obtain ⟨t, ht, pre⟩ := pre
  have htg := hO.tg ha
  obtain ⟨h1, ev1, x1⟩ := x4_target (ro := ro) (d := d + 3) (mc := []) (x := nI a) (y := nI (1 + t)) (r := nI (aTg (vA V) a)) (A' := aSetT (vA V) a (1 + t)) rfl hx (Or.inl ⟨a, 1 + t, ha, rfl, by omega, by omega, rfl, rfl, rfl⟩)
  rw [stp_n (by omega)] at x1
  obtain ⟨f1, e1⟩ := XS_o4 x1
  refine ⟨_, h1, pre _ ?_, XS_more (by omega) x1⟩
  refine wp_v2 rfl e0 (Nat.le_of_ble_eq_true rfl) (ev1) ?_
  refine wp_run rfl ?_
  refine wp_iclt rfl (fun hz_ => absurd hz_ (nI_nlt (b := 1) htg.1 (by omega))) (fun _ => ?_)
  refine wp_run rfl ?_
  refine wp_v1 rfl e1 (Nat.le_of_ble_eq_true rfl) (L_cnt (d := d + 2) x1 1 (by decide)) ?_
  refine wp_run rfl ?_
  by_cases hia : a < aActs (vA V)
  · refine wp_icge rfl (fun hz_ => absurd hz_ (nI_ge (b := aActs (vA V)) hia (by omega))) (fun _ => ?_)
    refine wp_run rfl ?_
    refine wp_v2 rfl e1 (Nat.le_of_ble_eq_true rfl) (L_ofAct (d := d + 2) x1 (a := a) hia 1 (by decide)) ?_
    refine wp_run rfl ?_
    refine wp_icne rfl (fun hz_ => absurd hz_ (fun z => z (show nI (va_up (aTg (vA V)) a (1 + t) (min a 5)) = nI (1 + t) by rw [show min a 5 = a by omega, va_is]))) (fun _ => ?_)
    refine wp_run rfl ?_
    exact wp_ret rfl rfl ⟨rfl, rfl⟩
  · refine wp_icge rfl (fun _ => ?_) (fun hz_ => absurd (nI_le (a := aActs (vA V)) (by omega) (by omega)) hz_)
    refine wp_run rfl ?_
    exact wp_ret rfl rfl ⟨rfl, rfl⟩
theorem cnt_set (A : axAD) : ∀ k, k < 3 → cntA A (7 + k) = nI (aSetV A k)
  | 0, _ => rfl
  | 1, _ => rfl
  | 2, _ => rfl
  | n + 3, h => absurd h (by omega)
theorem set_is (A : axAD) (u : Nat) : ∀ k, k < 3 → aSetV (aSetS A k u) k = u
  | 0, _ => rfl
  | 1, _ => rfl
  | 2, _ => rfl
  | n + 3, h => absurd h (by omega)
set_option maxRecDepth 40000 in
theorem A_set {L : Nat} {xs : Nat → Int32} (hx : XS V [] m h) : ∃ V' h', axW (axRoL L xs) (axEv (axRoL L xs) (d + 9)) cdL_act 1173 [some (.ref 0), some (.int v), some (.int w), some (.int (nI (aN (vA V)))), some (.int (nI s)), some (.int (nI (aR (vA V) i))), some (.int (nI (aR (vA V) j))), some (.int (cntA (vA V) 2)), some (.int (cntA (vA V) 1)), none, none, none, none, none, none, none] [.int 3, .int w] h (fun r' h'' => r' = some (.int 1) ∧ h'' = h') ∧ XS V' [] (m + 1200) h' := by
  have hO := XS_ok hx
  obtain ⟨f0, e0⟩ := XS_o4 hx
  obtain ⟨c, hc, evc⟩ := L_low (ro := axRoL L xs) (d := d + 8) (h := h) w (n := 3) (by decide) (by decide)
  obtain ⟨q, hq, evq⟩ := L_low (ro := axRoL L xs) (d := d + 8) (h := h) (w >>> ((2 : Int32) &&& 31)) (n := 2) (by decide) (by decide)
  have pre : ∃ t, aLs c ≤ t ∧ t ≤ aMs c ∧ ∀ Q : Option Value → axH → Prop, axW (axRoL L xs) (axEv (axRoL L xs) (d + 9)) cdL_act 1229 [some (.ref 0), some (.int v), some (.int w), some (.int (nI (aN (vA V)))), some (.int (nI s)), some (.int (nI (aR (vA V) i))), some (.int (nI (aR (vA V) j))), some (.int (cntA (vA V) 2)), some (.int (cntA (vA V) 1)), some (.int (nI c)), some (.int (nI t)), none, none, none, none, none] [.int (7 + nI c), .ref 0] h Q → axW (axRoL L xs) (axEv (axRoL L xs) (d + 9)) cdL_act 1173 [some (.ref 0), some (.int v), some (.int w), some (.int (nI (aN (vA V)))), some (.int (nI s)), some (.int (nI (aR (vA V) i))), some (.int (nI (aR (vA V) j))), some (.int (cntA (vA V) 2)), some (.int (cntA (vA V) 1)), none, none, none, none, none, none, none] [.int 3, .int w] h Q := by
    match c, hc, evc with
    | 0, _, evc =>
      obtain ⟨t, ht, evl⟩ := L_low (ro := axRoL L xs) (d := d + 8) (h := h) (w >>> ((3 : Int32) &&& 31)) (n := 57) (by decide) (by decide)
      refine ⟨4 + t, by show 4 ≤ 4 + t; omega, by show 4 + t ≤ 60; omega, fun Q K => ?_⟩
      refine wp_s2 rfl (Nat.le_of_ble_eq_true rfl) (evc) ?_
      refine wp_run rfl ?_
      refine wp_ifne rfl (fun hz_ => absurd hz_ (fun z => z rfl)) (fun _ => ?_)
      refine wp_run rfl ?_
      refine wp_s2 rfl (Nat.le_of_ble_eq_true rfl) (evl) ?_
      refine wp_run rfl ?_
      rw [show (4 : Int32) + nI t = nI (4 + t) from nI_add 4 t]
      exact K
    | 1, _, evc =>
      obtain ⟨t, ht, evl⟩ := L_low (ro := axRoL L xs) (d := d + 8) (h := h) (w >>> ((3 : Int32) &&& 31)) (n := 21) (by decide) (by decide)
      refine ⟨t, Nat.zero_le _, by show t ≤ 20; omega, fun Q K => ?_⟩
      refine wp_s2 rfl (Nat.le_of_ble_eq_true rfl) (evc) ?_
      refine wp_run rfl ?_
      refine wp_ifne rfl (fun _ => ?_) (fun hz_ => absurd ((by decide : ¬ nI 1 = 0)) hz_)
      refine wp_run rfl ?_
      refine wp_icne rfl (fun hz_ => absurd hz_ (fun z => z rfl)) (fun _ => ?_)
      refine wp_run rfl ?_
      refine wp_s2 rfl (Nat.le_of_ble_eq_true rfl) (evl) ?_
      refine wp_run rfl ?_
      exact K
    | 2, _, evc =>
      obtain ⟨t, ht, evl⟩ := L_low (ro := axRoL L xs) (d := d + 8) (h := h) (w >>> ((3 : Int32) &&& 31)) (n := 91) (by decide) (by decide)
      refine ⟨t, Nat.zero_le _, by show t ≤ 90; omega, fun Q K => ?_⟩
      refine wp_s2 rfl (Nat.le_of_ble_eq_true rfl) (evc) ?_
      refine wp_run rfl ?_
      refine wp_ifne rfl (fun _ => ?_) (fun hz_ => absurd ((by decide : ¬ nI 2 = 0)) hz_)
      refine wp_run rfl ?_
      refine wp_icne rfl (fun _ => ?_) (fun hz_ => absurd ((by decide : ¬ nI 2 = 1)) hz_)
      refine wp_run rfl ?_
      refine wp_s2 rfl (Nat.le_of_ble_eq_true rfl) (evl) ?_
      refine wp_run rfl ?_
      exact K
    | n + 3, hc, _ => exact absurd hc (by omega)
  obtain ⟨t, ht1, ht2, pre⟩ := pre
  have hms := aMs_le c
  have oc : ∀ {V1 : axV} {m1 : Nat} {h1 : axH}, XS V1 [] m1 h1 → axEv (axRoL L xs) (d + 9) kX4_count [.ref 0, .int (7 + nI c)] h1 (some (.int (nI (aSetV (vA V1) c)))) h1 := fun x1 => by
    rw [show (7 : Int32) + nI c = nI (7 + c) from nI_add 7 c, ← cnt_set _ c hc]
    exact L_cnt (d := d + 2) x1 (7 + c) (by omega)
  by_cases h0 : q = 0
  · subst h0
    obtain ⟨V', h', ev, x⟩ := L_swapsBest (ro := axRoL L xs) (d := d) hx
    refine ⟨V', h', pre _ ?_, x⟩
    refine wp_v1 rfl e0 (Nat.le_of_ble_eq_true rfl) (oc hx) ?_
    refine wp_run rfl ?_
    refine wp_s2 rfl (Nat.le_of_ble_eq_true rfl) (evq) ?_
    refine wp_run rfl ?_
    refine wp_ifne rfl (fun hz_ => absurd hz_ (fun z => z rfl)) (fun _ => ?_)
    refine wp_run rfl ?_
    refine wp_s1 rfl (Nat.le_of_ble_eq_true rfl) (ev) ?_
    refine wp_run rfl ?_
    exact wp_ret rfl rfl ⟨rfl, rfl⟩
  · have hsv : aSetV (vA V) c < 2 ^ 31 := by
      have := hO.pg; have := hO.sl; have := hO.tr
      unfold aSetV; split <;> (try split) <;> omega
    obtain ⟨h1, ev1, x1⟩ := x4_set (LL := L) (xs := xs) (d := d + 3) (mc := []) (x := nI c) (y := nI t) (r := nI (aSetV (vA V) c)) (A' := aSetS (vA V) c t) rfl hx (Or.inl ⟨c, t, hc, rfl, rfl, ht1, ht2, rfl, rfl⟩)
    rw [stp_n hsv] at x1
    obtain ⟨f1, e1⟩ := XS_o4 x1
    refine ⟨_, h1, pre _ ?_, XS_more (by omega) x1⟩
    refine wp_v1 rfl e0 (Nat.le_of_ble_eq_true rfl) (oc hx) ?_
    refine wp_run rfl ?_
    refine wp_s2 rfl (Nat.le_of_ble_eq_true rfl) (evq) ?_
    refine wp_run rfl ?_
    refine wp_ifne rfl (fun _ => ?_) (fun hz_ => absurd (nI_ne0 (by omega) (by omega)) hz_)
    refine wp_run rfl ?_
    refine wp_v2 rfl e0 (Nat.le_of_ble_eq_true rfl) (ev1) ?_
    refine wp_run rfl ?_
    refine wp_icne rfl (fun hz_ => absurd hz_ ((fun z => z rfl))) (fun _ => ?_)
    refine wp_run rfl ?_
    refine wp_v1 rfl e1 (Nat.le_of_ble_eq_true rfl) (oc x1) ?_
    refine wp_run rfl ?_
    refine wp_icne rfl (fun hz_ => absurd hz_ (fun z => z (congrArg nI (set_is _ t c hc)))) (fun _ => ?_)
    refine wp_run rfl ?_
    exact wp_ret rfl rfl ⟨rfl, rfl⟩
set_option maxRecDepth 40000 in
theorem A_add (hx : XS V [] m h) : ∃ V' h', axW ro (axEv ro (d + 9)) cdL_act 28 [some (.ref 0), some (.int v), some (.int w), some (.int (nI (aN (vA V)))), some (.int (nI s)), none, none, none, none, none, none, none, none, none, none, none] [.int (nI (aN (vA V)) + 1), .int w] h (fun r' h'' => r' = some (.int 1) ∧ h'' = h') ∧ XS V' [] (m + 1200) h' := by
  have hO := XS_ok hx
  have hn := hO.n
  obtain ⟨f0, e0⟩ := XS_o4 hx
  obtain ⟨p, hp, evp⟩ := L_low (ro := ro) (d := d + 8) (h := h) w (n := aN (vA V) + 1) (by omega) (by omega)
  obtain ⟨c, hc, evc⟩ := L_low (ro := ro) (d := d + 8) (h := h) (w >>> ((13 : Int32) &&& 31)) (n := 3) (by decide) (by decide)
  obtain ⟨q, hq, evq⟩ := L_low (ro := ro) (d := d + 8) (h := h) (w >>> ((12 : Int32) &&& 31)) (n := 4) (by decide) (by decide)
  have pre1 : ∃ t, t < 99 ∧ ∀ Q : Option Value → axH → Prop, axW ro (axEv ro (d + 9)) cdL_act 71 [some (.ref 0), some (.int v), some (.int w), some (.int (nI (aN (vA V)))), some (.int (nI s)), some (.int (nI p)), some (.int (nI (1 + t))), none, none, none, none, none, none, none, none, none] [.int 4, .int (w >>> ((12 : Int32) &&& 31)), .int (nI (1 + t)), .int (nI p), .ref 0] h Q → axW ro (axEv ro (d + 9)) cdL_act 28 [some (.ref 0), some (.int v), some (.int w), some (.int (nI (aN (vA V)))), some (.int (nI s)), none, none, none, none, none, none, none, none, none, none, none] [.int (nI (aN (vA V)) + 1), .int w] h Q := by
    by_cases h0 : c = 0
    · subst h0
      obtain ⟨t, ht, evl⟩ := L_low (ro := ro) (d := d + 8) (h := h) (w >>> ((5 : Int32) &&& 31)) (n := 99) (by decide) (by decide)
      refine ⟨t, ht, fun Q K => ?_⟩
      rw [nI_1]
      refine wp_s2 rfl (Nat.le_of_ble_eq_true rfl) (evp) ?_
      refine wp_run rfl ?_
      refine wp_s2 rfl (Nat.le_of_ble_eq_true rfl) (evc) ?_
      refine wp_run rfl ?_
      refine wp_ifne rfl (fun hz_ => absurd hz_ (fun z => z rfl)) (fun _ => ?_)
      refine wp_run rfl ?_
      refine wp_s2 rfl (Nat.le_of_ble_eq_true rfl) (evl) ?_
      refine wp_run rfl ?_
      rw [show (1 : Int32) + nI t = nI (1 + t) from nI_add 1 t]
      exact K
    · obtain ⟨t, ht, evl⟩ := L_low (ro := ro) (d := d + 8) (h := h) (w >>> ((5 : Int32) &&& 31)) (n := 40) (by decide) (by decide)
      refine ⟨t, by omega, fun Q K => ?_⟩
      rw [nI_1]
      refine wp_s2 rfl (Nat.le_of_ble_eq_true rfl) (evp) ?_
      refine wp_run rfl ?_
      refine wp_s2 rfl (Nat.le_of_ble_eq_true rfl) (evc) ?_
      refine wp_run rfl ?_
      refine wp_ifne rfl (fun _ => ?_) (fun hz_ => absurd (nI_ne0 (by omega) (by omega)) hz_)
      refine wp_run rfl ?_
      refine wp_s2 rfl (Nat.le_of_ble_eq_true rfl) (evl) ?_
      refine wp_run rfl ?_
      rw [show (1 : Int32) + nI t = nI (1 + t) from nI_add 1 t]
      exact K
  obtain ⟨t, ht, pre1⟩ := pre1
  have pre : ∃ u, u ≤ 1 ∧ ∀ Q : Option Value → axH → Prop, axW ro (axEv ro (d + 9)) cdL_act 82 [some (.ref 0), some (.int v), some (.int w), some (.int (nI (aN (vA V)))), some (.int (nI s)), some (.int (nI p)), some (.int (nI (1 + t))), none, none, none, none, none, none, none, none, none] [.int (nI u), .int (nI (1 + t)), .int (nI p), .ref 0] h Q → axW ro (axEv ro (d + 9)) cdL_act 28 [some (.ref 0), some (.int v), some (.int w), some (.int (nI (aN (vA V)))), some (.int (nI s)), none, none, none, none, none, none, none, none, none, none, none] [.int (nI (aN (vA V)) + 1), .int w] h Q := by
    by_cases h0 : q = 0
    · subst h0
      refine ⟨1, Nat.le_refl _, fun Q K => pre1 Q ?_⟩
      refine wp_s2 rfl (Nat.le_of_ble_eq_true rfl) (evq) ?_
      refine wp_run rfl ?_
      refine wp_ifne rfl (fun hz_ => absurd hz_ (fun z => z rfl)) (fun _ => ?_)
      refine wp_run rfl ?_
      exact K
    · refine ⟨0, Nat.zero_le _, fun Q K => pre1 Q ?_⟩
      refine wp_s2 rfl (Nat.le_of_ble_eq_true rfl) (evq) ?_
      refine wp_run rfl ?_
      refine wp_ifne rfl (fun _ => ?_) (fun hz_ => absurd (nI_ne0 (by omega) (by omega)) hz_)
      refine wp_run rfl ?_
      exact K
  obtain ⟨u, hu, pre⟩ := pre
  by_cases h24 : aN (vA V) = 24
  · obtain ⟨h1, ev1, x1⟩ := x4_slug (ro := ro) (d := d + 3) (mc := []) (x := nI p) (y := nI (1 + t)) (w := nI u) (r := -4) (A' := vA V) rfl hx (Or.inr (Or.inr ⟨p, 1 + t, u, hp, rfl, by omega, by omega, rfl, hu, rfl, Or.inl ⟨h24, rfl, rfl⟩⟩))
    rw [stp_e m4_neg] at x1
    refine ⟨_, h1, pre _ ?_, XS_more (by omega) x1⟩
    refine wp_v3 rfl e0 (Nat.le_of_ble_eq_true rfl) (ev1) ?_
    refine wp_run rfl ?_
    refine wp_icne rfl (fun hz_ => absurd hz_ (fun z => z (by rw [h24]; rfl))) (fun _ => ?_)
    refine wp_run rfl ?_
    refine wp_icne rfl (fun hz_ => absurd hz_ ((fun z => z rfl))) (fun _ => ?_)
    refine wp_run rfl ?_
    exact wp_ret rfl rfl ⟨rfl, rfl⟩
  · have hn24 : aN (vA V) < 24 := by omega
    obtain ⟨z, hz⟩ : ∃ z, z = aFr (vA V) := ⟨_, rfl⟩
    have hzl : z < 24 := by rw [hz]; exact aFr_lt hO hn24
    have hzf : ¬ aIn (vA V) z := by rw [hz]; exact aFr_free hO hn24
    obtain ⟨S, eS⟩ : ∃ S, S = aAdd (vA V) p (1 + t) z (decide (u = 1)) := ⟨_, rfl⟩
    obtain ⟨h1, ev1, x1⟩ := x4_slug (ro := ro) (d := d + 3) (mc := []) (x := nI p) (y := nI (1 + t)) (w := nI u) (r := nI z) (A' := S) rfl hx (Or.inr (Or.inr ⟨p, 1 + t, u, hp, rfl, by omega, by omega, rfl, hu, rfl, Or.inr ⟨hn24, z, hz, rfl, eS⟩⟩))
    rw [stp_n (by omega)] at x1
    obtain ⟨f1, e1⟩ := XS_o4 x1
    have hOS : aOk S := XS_ok x1
    have g1 : aN S = aN (vA V) + 1 := by rw [eS]; rfl
    have g3 : aR S p = z := by rw [eS]; exact aIns_at _ _ _
    have g4 : aW S z = 1 + t ∧ aB S z = 1 + t ∧ aD S z = 0 := by rw [eS]; exact ⟨va_is, va_is, va_is⟩
    have g5 : aNdr S z (aN S) = 0 := aNdr_0 hOS fun a ha => by
      cases hbt : bt (aD S (aR S a)) z with
      | false => rfl
      | true =>
        exfalso
        by_cases ea : aR S a = z
        · rw [ea, g4.2.2, b_0] at hbt; cases hbt
        · rw [eS] at hbt ea
          have hbt : bt (va_up (aD (vA V)) z 0 (aIns (aR (vA V)) p z a)) z = true := hbt
          have ea : ¬ aIns (aR (vA V)) p z a = z := ea
          rw [va_no ea] at hbt
          rcases aIns_is (aR (vA V)) (p := p) (k := z) (i := a) (n := aN (vA V)) (by omega) (by omega) with ⟨-, e⟩ | ⟨b, hb, e⟩
          · exact ea e
          · rw [e] at hbt
            obtain ⟨c, hc, ec⟩ := hO.d hb hbt
            exact hzf ⟨c, by omega, ec⟩
    have oZ : ∀ k, k < 10 → axEv ro (d + 9) kX4_of [.ref 0, .int (nI z), .int (nI k)] h1 (some (.int (ofV S p k))) h1 := fun k hk => by
      have := L_of (ro := ro) (d := d + 3) x1 (i := p) (show p < aN S by omega) k hk
      rw [show aR (vA (stpN V S)) p = z from g3] at this
      exact this
    have oA : axEv ro (d + 9) kX4_at [.ref 0, .int (nI p)] h1 (some (.int (nI z))) h1 := by
      have := L_at (ro := ro) (d := d + 3) x1 (i := p) (show p < aN S by omega)
      rw [show aR (vA (stpN V S)) p = z from g3] at this
      exact this
    refine ⟨_, h1, pre _ ?_, XS_more (by omega) x1⟩
    refine wp_v3 rfl e0 (Nat.le_of_ble_eq_true rfl) (ev1) ?_
    refine wp_run rfl ?_
    refine wp_icne rfl (fun _ => ?_) (fun hz_ => absurd (fun z => h24 ((nI_eq (a := aN (vA V)) (b := 24) (by omega) (by omega)).mp z)) hz_)
    refine wp_run rfl ?_
    refine wp_v1 rfl e1 (Nat.le_of_ble_eq_true rfl) (oA) ?_
    refine wp_run rfl ?_
    refine wp_icne rfl (fun hz_ => absurd hz_ ((fun z => z rfl))) (fun _ => ?_)
    refine wp_run rfl ?_
    refine wp_v2 rfl e1 (Nat.le_of_ble_eq_true rfl) (oZ 1 (by decide)) ?_
    refine wp_run rfl ?_
    refine wp_icne rfl (fun hz_ => absurd hz_ (fun z => z (by show nI (aW S (aR S p)) = _; rw [g3, g4.1]))) (fun _ => ?_)
    refine wp_run rfl ?_
    refine wp_v2 rfl e1 (Nat.le_of_ble_eq_true rfl) (oZ 2 (by decide)) ?_
    refine wp_run rfl ?_
    refine wp_icne rfl (fun hz_ => absurd hz_ (fun z => z (by show nI (aB S (aR S p)) = _; rw [g3, g4.2.1]))) (fun _ => ?_)
    refine wp_run rfl ?_
    refine wp_v2 rfl e1 (Nat.le_of_ble_eq_true rfl) (oZ 4 (by decide)) ?_
    refine wp_run rfl ?_
    refine wp_ifne rfl (fun hz_ => absurd hz_ (fun z => z (by show aD S (aR S p) = _; rw [g3, g4.2.2]))) (fun _ => ?_)
    refine wp_run rfl ?_
    refine wp_v2 rfl e1 (Nat.le_of_ble_eq_true rfl) (oZ 5 (by decide)) ?_
    refine wp_run rfl ?_
    refine wp_ifne rfl (fun hz_ => absurd hz_ (fun z => z (by show aNdr S (aR S p) (aN S) = _; rw [g3, g5]))) (fun _ => ?_)
    refine wp_run rfl ?_
    exact wp_ret rfl rfl ⟨rfl, rfl⟩
end AX59
