/-! THE LAW: no swap helps more than the one that is told. -/
section AX56
variable {ro : axRo} {d m : Nat} {h : axH} {V : axV} {A : axAD}
theorem sb_min (hO : aOk A) {p q : Nat} (hpq : p < q) (hq : q < aN A) (hm : aMay A p q) : (0 ≤ bsV A 2 ∧ ¬ nI (aAll (aSwp A p q)) < bsV A 2) ∨ (¬ 0 ≤ bsV A 2 ∧ ¬ nI (aAll (aSwp A p q)) < nI (aAll A)) := by
  obtain ⟨i1, i2⟩ := aBS_I A (aN A) (Nat.le_refl _)
  have h1 := i2 p q (by omega) hpq hq hm
  have h2 := aSwp_all hO (show p < aN A by omega) hq
  have h3 := bsI_le i1
  have h4 := aAll_lt hO
  unfold bsV
  by_cases hf : (aBS A (aN A)).1 < (aBS A (aN A)).2.1
  · rw [if_pos hf]
    exact Or.inl ⟨nI_pos' (n := (aBS A (aN A)).2.2) (by omega), nI_nlt h1 (by omega)⟩
  · rw [if_neg hf]
    refine Or.inr ⟨by decide, nI_nlt ?_ (by omega)⟩
    rcases i1 with i1 | i1
    · omega
    · exact absurd i1.1 hf
theorem undo_ok {A' : axAD} (hx : XS (stpN V A') [] m h) : ∃ r V2 h2, axEv ro (d + 6) kX4_undo [.ref 0] h (some (.int r)) h2 ∧ ¬ r < 0 ∧ vA V2 = vA V ∧ XS V2 [] (m + 1) h2 := by
  have hK : vK (stpN V A') = min (vK V + 1) 6 := rfl
  obtain ⟨h2, ev2, x2⟩ := x4_undo (ro := ro) (d := d) (mc := []) rfl hx (Or.inr ⟨by omega, rfl, rfl⟩)
  refine ⟨_, _, h2, ev2, ?_, ?_, x2⟩
  · exact nI_pos (by omega)
  · exact (if_pos rfl : (if 0 = 0 then vA V else vH V (0 - 1)) = vA V)
set_option maxRecDepth 40000 in
theorem L_sbI (hO : aOk A) {k : Nat} (hk : k < aN A) : ∀ (j b : Nat), b + j = aN A → k < b → ∀ (V : axV) (m : Nat) (h : axH) (u9 : Option Value), vA V = A → XS V [] m h → ∃ V' h' v9, vA V' = A ∧ XS V' [] (m + 2 * j) h' ∧ ∀ Q : Option Value → axH → Prop, axW ro (axEv ro (d + 8)) cdL_swapsBest 41 [some (.ref 0), some (.int (nI (aAll A))), some (.int (bsV A 0)), some (.int (bsV A 1)), some (.int (bsV A 2)), some (.int (nI (aN A))), some (.int 1), some (.int (nI (k + 1))), some (.int (nI (aN A))), v9] [.int (nI (aN A)), .int (nI (k + 1))] h' Q → axW ro (axEv ro (d + 8)) cdL_swapsBest 59 [some (.ref 0), some (.int (nI (aAll A))), some (.int (bsV A 0)), some (.int (bsV A 1)), some (.int (bsV A 2)), some (.int (nI (aN A))), some (.int 1), some (.int (nI k)), some (.int (nI b)), u9] [.int (nI (aN A)), .int (nI b)] h Q := by
  have hn := hO.n
  intro j
  induction j with
  | zero =>
    intro b e hkb V m h u9 hA hx
    have e : b = aN A := by omega
    subst e
    refine ⟨V, h, u9, hA, XS_more (by omega) hx, fun Q K => ?_⟩
    refine wp_icge rfl (fun _ => ?_) (fun hz_ => absurd (Int32.le_refl _) hz_)
    refine wp_run rfl ?_
    rw [nI_1]
    exact K
  | succ j ih =>
    intro b e hkb V m h u9 hA hx
    subst hA
    have hb : b < aN (vA V) := by omega
    obtain ⟨f0, e0⟩ := XS_o4 hx
    by_cases hm : aMay (vA V) k b
    · obtain ⟨h1, ev1, x1⟩ := x4_swap (ro := ro) (d := d + 2) (mc := []) (x := nI (aR (vA V) k)) (y := nI (aR (vA V) b)) (r := nI (((k : Int) - b).natAbs - 1)) (A' := aSwp (vA V) k b) rfl hx (Or.inr ⟨k, b, ⟨hk, rfl⟩, ⟨hb, rfl⟩, Or.inr (Or.inr ⟨by omega, hm, rfl, rfl⟩)⟩)
      rw [stp_n (by omega)] at x1
      obtain ⟨f1, e1⟩ := XS_o4 x1
      obtain ⟨ru, V2, h2, ev2, hu, hv, x2⟩ := undo_ok (ro := ro) (d := d + 2) x1
      obtain ⟨V', h', v9, q1, q2, q3⟩ := ih (b + 1) (by omega) (by omega) V2 _ h2 (some (.int (nI (((k : Int) - b).natAbs - 1)))) hv x2
      refine ⟨V', h', v9, q1, XS_more (by omega) q2, fun Q K => ?_⟩
      refine wp_icge rfl (fun hz_ => absurd hz_ (nI_ge hb (by omega))) (fun _ => ?_)
      refine wp_run rfl ?_
      refine wp_ifeq rfl (fun hz_ => absurd hz_ ((by decide : ¬ (1 : Int32) = 0))) (fun _ => ?_)
      refine wp_run rfl ?_
      refine wp_v1 rfl e0 (Nat.le_of_ble_eq_true rfl) (L_at (d := d + 2) hx hk) ?_
      refine wp_run rfl ?_
      refine wp_v1 rfl e0 (Nat.le_of_ble_eq_true rfl) (L_at (d := d + 2) hx hb) ?_
      refine wp_run rfl ?_
      refine wp_v2 rfl e0 (Nat.le_of_ble_eq_true rfl) (ev1) ?_
      refine wp_run rfl ?_
      refine wp_iceq rfl (fun hz_ => absurd hz_ (fun z => absurd (show nI (((k : Int) - b).natAbs - 1) < 0 by rw [z]; decide) (nI_pos (by omega)))) (fun _ => ?_)
      refine wp_run rfl ?_
      refine wp_icne rfl (fun hz_ => absurd hz_ (fun z => z (by rw [pk_sub (by omega), nI_p1 (by omega)]; congr 1; omega))) (fun _ => ?_)
      refine wp_run rfl ?_
      refine wp_v1 rfl e1 (Nat.le_of_ble_eq_true rfl) (L_cnt (d := d + 1) x1 4 (by decide)) ?_
      refine wp_run rfl ?_
      rcases sb_min hO hkb hb hm with ⟨s1, s2⟩ | ⟨s1, s2⟩
      · refine wp_ifge rfl (fun _ => ?_) (fun hz_ => absurd (s1) hz_)
        refine wp_run rfl ?_
        refine wp_iclt rfl (fun hz_ => absurd hz_ (s2)) (fun _ => ?_)
        refine wp_run rfl ?_
        refine wp_v0 rfl e1 (Nat.le_of_ble_eq_true rfl) (ev2) ?_
        refine wp_run rfl ?_
        refine wp_iflt rfl (fun hz_ => absurd hz_ (hu)) (fun _ => ?_)
        refine wp_run rfl ?_
        rw [nI_1]
        exact q3 Q K
      · refine wp_ifge rfl (fun hz_ => absurd hz_ (s1)) (fun _ => ?_)
        refine wp_run rfl ?_
        refine wp_iclt rfl (fun hz_ => absurd hz_ (s2)) (fun _ => ?_)
        refine wp_run rfl ?_
        refine wp_v0 rfl e1 (Nat.le_of_ble_eq_true rfl) (ev2) ?_
        refine wp_run rfl ?_
        refine wp_iflt rfl (fun hz_ => absurd hz_ (hu)) (fun _ => ?_)
        refine wp_run rfl ?_
        rw [nI_1]
        exact q3 Q K
    · obtain ⟨h1, ev1, x1⟩ := x4_swap (ro := ro) (d := d + 2) (mc := []) (x := nI (aR (vA V) k)) (y := nI (aR (vA V) b)) (r := -5) (A' := vA V) rfl hx (Or.inr ⟨k, b, ⟨hk, rfl⟩, ⟨hb, rfl⟩, Or.inr (Or.inl ⟨by omega, hm, rfl, rfl⟩)⟩)
      rw [stp_e m5_neg] at x1
      obtain ⟨V', h', v9, q1, q2, q3⟩ := ih (b + 1) (by omega) (by omega) _ _ _ (some (.int (-5))) rfl x1
      refine ⟨V', h', v9, q1, XS_more (by omega) q2, fun Q K => ?_⟩
      refine wp_icge rfl (fun hz_ => absurd hz_ (nI_ge hb (by omega))) (fun _ => ?_)
      refine wp_run rfl ?_
      refine wp_ifeq rfl (fun hz_ => absurd hz_ ((by decide : ¬ (1 : Int32) = 0))) (fun _ => ?_)
      refine wp_run rfl ?_
      refine wp_v1 rfl e0 (Nat.le_of_ble_eq_true rfl) (L_at (d := d + 2) hx hk) ?_
      refine wp_run rfl ?_
      refine wp_v1 rfl e0 (Nat.le_of_ble_eq_true rfl) (L_at (d := d + 2) hx hb) ?_
      refine wp_run rfl ?_
      refine wp_v2 rfl e0 (Nat.le_of_ble_eq_true rfl) (ev1) ?_
      refine wp_run rfl ?_
      refine wp_iceq rfl (fun _ => ?_) (fun hz_ => absurd (rfl) hz_)
      refine wp_run rfl ?_
      rw [nI_1]
      exact q3 Q K
set_option maxRecDepth 40000 in
theorem L_sbO (hO : aOk A) : ∀ (j k : Nat), k + j = aN A → ∀ (V : axV) (m : Nat) (h : axH) (u8 u9 : Option Value), vA V = A → XS V [] m h → ∃ V' h' v8 v9, vA V' = A ∧ XS V' [] (m + 48 * j) h' ∧ ∀ Q : Option Value → axH → Prop, axW ro (axEv ro (d + 8)) cdL_swapsBest 151 [some (.ref 0), some (.int (nI (aAll A))), some (.int (bsV A 0)), some (.int (bsV A 1)), some (.int (bsV A 2)), some (.int (nI (aN A))), some (.int 1), some (.int (nI (aN A))), v8, v9] [.int 1] h' Q → axW ro (axEv ro (d + 8)) cdL_swapsBest 41 [some (.ref 0), some (.int (nI (aAll A))), some (.int (bsV A 0)), some (.int (bsV A 1)), some (.int (bsV A 2)), some (.int (nI (aN A))), some (.int 1), some (.int (nI k)), u8, u9] [.int (nI (aN A)), .int (nI k)] h Q := by
  have hn := hO.n
  intro j
  induction j with
  | zero =>
    intro k e V m h u8 u9 hA hx
    have e : k = aN A := by omega
    subst e
    refine ⟨V, h, u8, u9, hA, XS_more (by omega) hx, fun Q K => ?_⟩
    refine wp_icge rfl (fun _ => ?_) (fun hz_ => absurd (Int32.le_refl _) hz_)
    refine wp_run rfl ?_
    exact K
  | succ j ih =>
    intro k e V m h u8 u9 hA hx
    have hk : k < aN A := by omega
    obtain ⟨V1, h1, v9, q1, q2, q3⟩ := L_sbI (ro := ro) (d := d) hO hk (aN A - (k + 1)) (k + 1) (by omega) (by omega) V m h u9 hA hx
    obtain ⟨V', h', w8, w9, r1, r2, r3⟩ := ih (k + 1) (by omega) V1 _ h1 (some (.int (nI (aN A)))) v9 q1 q2
    refine ⟨V', h', w8, w9, r1, XS_more (by omega) r2, fun Q K => ?_⟩
    refine wp_icge rfl (fun hz_ => absurd hz_ (nI_ge hk (by omega))) (fun _ => ?_)
    refine wp_run rfl ?_
    refine wp_ifeq rfl (fun hz_ => absurd hz_ ((by decide : ¬ (1 : Int32) = 0))) (fun _ => ?_)
    refine wp_run rfl ?_
    rw [nI_1]
    exact q3 Q (r3 Q K)
set_option maxRecDepth 40000 in
theorem L_swapsBest (hx : XS V [] m h) : ∃ V' h', axEv ro (d + 9) kL_swapsBest [.ref 0] h (some (.int 1)) h' ∧ XS V' [] (m + 1200) h' := by
  have hO := XS_ok hx
  have hn := hO.n
  obtain ⟨f0, e0⟩ := XS_o4 hx
  obtain ⟨h1, ev1, x1⟩ := L_best (ro := ro) (d := d + 1) hx 0 (by decide)
  obtain ⟨f1, e1⟩ := XS_o4 x1
  obtain ⟨h2, ev2, x2⟩ := L_best (ro := ro) (d := d + 1) x1 1 (by decide)
  obtain ⟨f2, e2⟩ := XS_o4 x2
  obtain ⟨h3, ev3, x3⟩ := L_best (ro := ro) (d := d + 1) x2 2 (by decide)
  obtain ⟨f3, e3⟩ := XS_o4 x3
  obtain ⟨V4, h4, v8, v9, hA, x4, K4⟩ := L_sbO (ro := ro) (d := d) hO (aN (vA V)) 0 (by omega) V _ h3 none none rfl x3
  obtain ⟨f4, e4⟩ := XS_o4 x4
  have pre : ∀ Q : Option Value → axH → Prop, axW ro (axEv ro (d + 8)) cdL_swapsBest 151 [some (.ref 0), some (.int (nI (aAll (vA V)))), some (.int (bsV (vA V) 0)), some (.int (bsV (vA V) 1)), some (.int (bsV (vA V) 2)), some (.int (nI (aN (vA V)))), some (.int 1), some (.int (nI (aN (vA V)))), v8, v9] [.int 1] h4 Q → axW ro (axEv ro (d + 8)) cdL_swapsBest 0 [some (.ref 0), none, none, none, none, none, none, none, none, none] [] h Q := fun Q K => by
    refine wp_run rfl ?_
    refine wp_v1 rfl e0 (Nat.le_of_ble_eq_true rfl) (L_cnt (d := d + 1) hx 4 (by decide)) ?_
    refine wp_run rfl ?_
    refine wp_v1 rfl e0 (Nat.le_of_ble_eq_true rfl) (ev1) ?_
    refine wp_run rfl ?_
    refine wp_v1 rfl e1 (Nat.le_of_ble_eq_true rfl) (ev2) ?_
    refine wp_run rfl ?_
    refine wp_v1 rfl e2 (Nat.le_of_ble_eq_true rfl) (ev3) ?_
    refine wp_run rfl ?_
    refine wp_s1 rfl (Nat.le_of_ble_eq_true rfl) (L_many (d := d + 1) x3) ?_
    refine wp_run rfl ?_
    exact K4 Q K
  obtain ⟨i1, -⟩ := aBS_I (vA V) (aN (vA V)) (Nat.le_refl _)
  have hll := aAll_lt hO
  by_cases hf : (aBS (vA V) (aN (vA V))).1 < (aBS (vA V) (aN (vA V))).2.1
  · have b0 : bsV (vA V) 0 = nI (aR (vA V) (aBS (vA V) (aN (vA V))).1) := if_pos hf
    have b1 : bsV (vA V) 1 = nI (aR (vA V) (aBS (vA V) (aN (vA V))).2.1) := if_pos hf
    have b2 : bsV (vA V) 2 = nI (aBS (vA V) (aN (vA V))).2.2 := if_pos hf
    rw [b0, b1, b2] at pre
    generalize aBS (vA V) (aN (vA V)) = s at *
    rcases i1 with i1 | ⟨-, c2, c3, c4, c5⟩
    · exact absurd hf (by omega)
    have hp : s.1 < aN (vA V) := by omega
    have hr := hO.r hp
    have o1 : axEv ro (d + 8) kX4_of [.ref 0, .int (nI (aR (vA V) s.1)), .int (nI 0)] h4 (some (.int (nI s.1))) h4 := by
      rw [← hA] at hp ⊢; exact L_of (d := d + 2) x4 hp 0 (by decide)
    have o2 : axEv ro (d + 8) kX4_of [.ref 0, .int (nI (aR (vA V) s.2.1)), .int (nI 0)] h4 (some (.int (nI s.2.1))) h4 := by
      rw [← hA] at c2 ⊢; exact L_of (d := d + 2) x4 c2 0 (by decide)
    have o3 : spSwap (vA V4) (nI (aR (vA V) s.1)) (nI (aR (vA V) s.2.1)) (nI (((s.1 : Int) - s.2.1).natAbs - 1)) (aSwp (vA V) s.1 s.2.1) := by
      rw [hA]; exact Or.inr ⟨s.1, s.2.1, ⟨hp, rfl⟩, ⟨c2, rfl⟩, Or.inr (Or.inr ⟨by omega, c3, rfl, rfl⟩)⟩
    obtain ⟨h5, ev5, x5⟩ := x4_swap (ro := ro) (d := d + 2) (mc := []) rfl x4 o3
    rw [stp_n (by omega)] at x5
    obtain ⟨f5, e5⟩ := XS_o4 x5
    refine ⟨_, h5, ?_, XS_more (by omega) x5⟩
    refine ev_in rfl rfl (Nat.le_of_ble_eq_true rfl) rfl ?_
    refine pre _ ?_
    refine wp_ifeq rfl (fun hz_ => absurd hz_ ((by decide : ¬ (1 : Int32) = 0))) (fun _ => ?_)
    refine wp_run rfl ?_
    refine wp_ifge rfl (fun _ => ?_) (fun hz_ => absurd (nI_pos' (by omega)) hz_)
    refine wp_run rfl ?_
    refine wp_icge rfl (fun hz_ => absurd hz_ (nI_ge c5 (by omega))) (fun _ => ?_)
    refine wp_run rfl ?_
    refine wp_v2 rfl e4 (Nat.le_of_ble_eq_true rfl) (o1) ?_
    refine wp_run rfl ?_
    refine wp_v2 rfl e4 (Nat.le_of_ble_eq_true rfl) (o2) ?_
    refine wp_run rfl ?_
    refine wp_icge rfl (fun hz_ => absurd hz_ (nI_ge hf (by omega))) (fun _ => ?_)
    refine wp_run rfl ?_
    refine wp_v2 rfl e4 (Nat.le_of_ble_eq_true rfl) (ev5) ?_
    refine wp_run rfl ?_
    refine wp_iflt rfl (fun hz_ => absurd hz_ (nI_pos (by omega))) (fun _ => ?_)
    refine wp_run rfl ?_
    refine wp_v1 rfl e5 (Nat.le_of_ble_eq_true rfl) (L_cnt (d := d + 1) x5 4 (by decide)) ?_
    refine wp_run rfl ?_
    refine wp_icne rfl (fun hz_ => absurd hz_ (fun z => z (congrArg nI c4.symm))) (fun _ => ?_)
    refine wp_run rfl ?_
    exact wp_ret rfl rfl ⟨rfl, rfl⟩
  · have b0 : bsV (vA V) 0 = -6 := if_neg hf
    have b1 : bsV (vA V) 1 = -6 := if_neg hf
    have b2 : bsV (vA V) 2 = -6 := if_neg hf
    rw [b0, b1, b2] at pre
    refine ⟨V4, h4, ?_, XS_more (by omega) x4⟩
    refine ev_in rfl rfl (Nat.le_of_ble_eq_true rfl) rfl ?_
    refine pre _ ?_
    refine wp_ifeq rfl (fun hz_ => absurd hz_ ((by decide : ¬ (1 : Int32) = 0))) (fun _ => ?_)
    refine wp_run rfl ?_
    refine wp_ifge rfl (fun hz_ => absurd hz_ ((by decide : ¬ (0 : Int32) ≤ -6))) (fun _ => ?_)
    refine wp_run rfl ?_
    refine wp_ifeq rfl (fun hz_ => absurd hz_ ((by decide : ¬ (1 : Int32) = 0))) (fun _ => ?_)
    refine wp_run rfl ?_
    refine wp_icne rfl (fun hz_ => absurd hz_ (fun z => z rfl)) (fun _ => ?_)
    refine wp_run rfl ?_
    refine wp_icne rfl (fun hz_ => absurd hz_ (fun z => z rfl)) (fun _ => ?_)
    refine wp_run rfl ?_
    refine wp_icne rfl (fun hz_ => absurd hz_ (fun z => z rfl)) (fun _ => ?_)
    refine wp_run rfl ?_
    exact wp_ret rfl rfl ⟨rfl, rfl⟩
end AX56
