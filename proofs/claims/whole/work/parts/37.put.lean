/-! THE CLASS: characters are put onto the pad; what a new one holds. -/
theorem nar2_c : ∀ n, n < 256 → ((nI n).toUInt32 % 65536).toInt32 = nI n := by decide +kernel
def fpt (f : Nat → Int32) (pl n j : Nat) (x : Int64) : Nat → Int32 := fun i => if i < pl ∨ pl + j ≤ i then f i else nI (cdA x (n - 1 - (i - pl)))
theorem fpt_0 (f : Nat → Int32) (pl n : Nat) (x : Int64) : fpt f pl n 0 x = f := by
  funext i
  unfold fpt; rw [if_pos (by omega)]
theorem fpt_s (f : Nat → Int32) (pl n j : Nat) (x : Int64) : upd (fpt f pl n j x) (pl + j) (nI (cdA x (n - 1 - j))) = fpt f pl n (j + 1) x := by
  funext i
  rw [upd_up]
  by_cases e : i = pl + j
  · rw [if_pos e]; unfold fpt; rw [if_neg (by omega), show i - pl = j by omega]
  · rw [if_neg e]; unfold fpt
    by_cases e2 : i < pl ∨ pl + j ≤ i
    · rw [if_pos e2, if_pos (by omega)]
    · rw [if_neg e2, if_neg (by omega)]
/-- the text with the number's characters behind it -/
def putT (t : Nat → Nat) (pl : Nat) (x : Int64) : Nat → Nat := fun i => if i < pl then t i else cdA x (sgN x - 1 - (i - pl))
theorem sgOk_in {x : Int64} (h : sgOk x = true) : 1 ≤ sgN x ∧ sgN x ≤ 8 ∧ ∀ i, i < sgN x → 33 ≤ cdA x i ∧ cdA x i ≤ 126 := by
  have := of_decide_eq_true h
  exact ⟨this.1, aFst_le _ _, fun i hi => of_decide_eq_true ((bc_all (p := fun k => decide (33 ≤ cdA x k ∧ cdA x k ≤ 126)) (sgN x)).mp this.2.1 i hi)⟩
theorem PT_put {f : Nat → Int32} {t : Nat → Nat} {pl : Nat} {x : Int64} (hT : PT f t pl) (hx : sgOk x = true) (hl : pl + sgN x ≤ 80) : PT (fpt f pl (sgN x) (sgN x) x) (putT t pl x) (pl + sgN x) := by
  obtain ⟨h1, h2, h3⟩ := sgOk_in hx
  refine ⟨hl, fun i hi => ?_⟩
  unfold fpt putT
  by_cases e : i < pl
  · rw [if_pos (by omega), if_pos e]; exact hT.2 i e
  · rw [if_neg (by omega), if_neg e]; exact ⟨rfl, h3 _ (by omega)⟩
section AX37
variable {ro : axRo} {d : Nat} {h h1 : axH} {B : axBD} {Y : axYD} {sl : Nat → Option Nat} {P : axPD} {G : axGD} {tl : axH} {A : axAD} {f : Nat → Int32} {t : Nat → Nat} {pl c : Nat} {cu la ki fi se : Int32} {x : Int64}
theorem x2_addSign (hp : pl < 80) (hc : c < 128) : axEv ro (d + 1) kX2_addSign [.ref 11, .int (nI c)] ((hX B Y sl (f, nI pl, cu, la, ki, fi, se) G tl)) none ((hX B Y sl (upd f pl (nI c), nI (pl + 1), cu, la, ki, fi, se) G tl)) := by
  refine ev_in rfl rfl (Nat.le_of_ble_eq_true rfl) rfl ?_
  refine wp_run rfl ?_
  refine wp_iflt rfl (fun hz_ => absurd hz_ (nI_pos (by omega))) (fun _ => ?_)
  refine wp_run rfl ?_
  refine wp_icge rfl (fun hz_ => absurd hz_ (nI_ge (b := 80) hp (by omega))) (fun _ => ?_)
  refine wp_run rfl ?_
  refine wp_ast (h1 := (hX B Y sl (upd f pl (nI c), nI pl, cu, la, ki, fi, se) G tl)) rfl rfl (vp_in_nI hp (by decide)) (nar_c c hc) (by rw [nI_clamp (by omega)]; rfl) ?_
  refine wp_run rfl ?_
  rw [nI_1]
  refine wp_putf (h1 := (hX B Y sl (upd f pl (nI c), nI (pl + 1), cu, la, ki, fi, se) G tl)) rfl rfl (Nat.le_of_ble_eq_true rfl) ⟨rfl, rfl, fun _ hz_ => by cases hz_⟩ rfl ?_
  refine wp_run rfl ?_
  exact wp_retv rfl ⟨rfl, rfl⟩
theorem x2_append_bad (hx : sgOk x = false) : axEv ro (d + 3) kX2_append [.ref 11, .long x] ((hX B Y sl (f, nI pl, cu, la, ki, fi, se) G tl)) (some (.int (-2))) ((hX B Y sl (f, nI pl, cu, la, ki, fi, se) G tl)) := by
  refine ev_in rfl rfl (Nat.le_of_ble_eq_true rfl) rfl ?_
  refine wp_run rfl ?_
  refine wp_s1 rfl (Nat.le_of_ble_eq_true rfl) x2_signsOf ?_
  refine wp_run rfl ?_
  rw [if_neg (show ¬ sgOk x = true by rw [hx]; decide)]
  by_cases e : sgN x = 0 ∧ uN x = 0
  · rw [if_pos e]
    refine wp_icge rfl (fun hz_ => absurd hz_ ((by decide : ¬ (1 : Int32) ≤ 0))) (fun _ => ?_)
    refine wp_run rfl ?_
    exact wp_ret rfl rfl ⟨rfl, rfl⟩
  · rw [if_neg e]
    refine wp_icge rfl (fun hz_ => absurd hz_ ((by decide : ¬ (1 : Int32) ≤ -2))) (fun _ => ?_)
    refine wp_run rfl ?_
    exact wp_ret rfl rfl ⟨rfl, rfl⟩
theorem x2_append_tm (hx : sgOk x = true) (hp : pl ≤ 80) (hl : 80 < pl + sgN x) : axEv ro (d + 3) kX2_append [.ref 11, .long x] ((hX B Y sl (f, nI pl, cu, la, ki, fi, se) G tl)) (some (.int (-4))) ((hX B Y sl (f, nI pl, cu, la, ki, fi, se) G tl)) := by
  obtain ⟨h1, h2, h3⟩ := sgOk_in hx
  refine ev_in rfl rfl (Nat.le_of_ble_eq_true rfl) rfl ?_
  refine wp_run rfl ?_
  refine wp_s1 rfl (Nat.le_of_ble_eq_true rfl) x2_signsOf ?_
  refine wp_run rfl ?_
  rw [if_pos hx]
  refine wp_icge rfl (fun _ => ?_) (fun hz_ => absurd (nI_le (a := 1) h1 (by omega)) hz_)
  refine wp_run rfl ?_
  rw [nI_add]
  refine wp_icle rfl (fun hz_ => absurd hz_ (nI_ge (a := 80) hl (by omega))) (fun _ => ?_)
  refine wp_run rfl ?_
  exact wp_ret rfl rfl ⟨rfl, rfl⟩
theorem x2_append (hx : sgOk x = true) (hl : pl + sgN x ≤ 80) : axEv ro (d + 3) kX2_append [.ref 11, .long x] ((hX B Y sl (f, nI pl, cu, la, ki, fi, se) G tl)) (some (.int (nI (pl + sgN x)))) ((hX B Y sl (fpt f pl (sgN x) (sgN x) x, nI (pl + sgN x), cu, la, ki, fi, se) G tl)) := by
  obtain ⟨h1, h2, h3⟩ := sgOk_in hx
  have loop : ∀ m j, m + j = sgN x → axW ro (axEv ro (d + 2)) cdX2_append 34 [some (.ref 11), some (.long x), none, some (.int (nI (sgN x))), some (.int (nI m - 1))] [.int (nI m - 1)] ((hX B Y sl (fpt f pl (sgN x) j x, nI (pl + j), cu, la, ki, fi, se) G tl)) (fun r' h' => r' = some (.int (nI (pl + sgN x))) ∧ h' = ((hX B Y sl (fpt f pl (sgN x) (sgN x) x, nI (pl + sgN x), cu, la, ki, fi, se) G tl))) := by
    intro m
    induction m with
    | zero =>
      intro j e
      have e : j = sgN x := by omega
      refine wp_iflt rfl (fun _ => ?_) (fun hz_ => absurd ((by decide : nI 0 - 1 < 0)) hz_)
      refine wp_run rfl ?_
      rw [e]
      exact wp_ret rfl rfl ⟨rfl, rfl⟩
    | succ m ih =>
      intro j e
      have hc := h3 m (by omega)
      rw [nI_pred]
      refine wp_iflt rfl (fun hz_ => absurd hz_ (nI_pos (by omega))) (fun _ => ?_)
      refine wp_run rfl ?_
      refine wp_s2 rfl (Nat.le_of_ble_eq_true rfl) (x2_codeOf (show m < 8 by omega)) ?_
      refine wp_run rfl ?_
      rw [nar2_c _ (by omega)]
      refine wp_v1v rfl rfl (Nat.le_of_ble_eq_true rfl) (x2_addSign (show pl + j < 80 by omega) (show cdA x m < 128 by omega)) ?_
      refine wp_run rfl ?_
      rw [show cdA x m = cdA x (sgN x - 1 - j) by rw [show m = sgN x - 1 - j by omega], fpt_s, show nI m + (-1) = nI m - 1 by rw [Int32.sub_eq_add_neg]]
      exact ih (j + 1) (by omega)
  have h0 := loop (sgN x) 0 (by omega)
  rw [fpt_0] at h0
  refine ev_in rfl rfl (Nat.le_of_ble_eq_true rfl) rfl ?_
  refine wp_run rfl ?_
  refine wp_s1 rfl (Nat.le_of_ble_eq_true rfl) x2_signsOf ?_
  refine wp_run rfl ?_
  rw [if_pos hx]
  refine wp_icge rfl (fun _ => ?_) (fun hz_ => absurd (nI_le (a := 1) h1 (by omega)) hz_)
  refine wp_run rfl ?_
  rw [nI_add]
  refine wp_icle rfl (fun _ => ?_) (fun hz_ => absurd (nI_le (b := 80) hl (by omega)) hz_)
  refine wp_run rfl ?_
  exact h0
end AX37
