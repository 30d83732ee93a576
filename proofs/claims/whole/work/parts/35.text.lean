/-! THE CLASS: the text's orders one after another: where it is at fault. -/
theorem rdO_s {t : Nat → Nat} {pl c : Nat} (h : sgA t pl c = 115) : rdO t pl c = rdS t pl c := by unfold rdO; rw [if_pos h]
theorem rdO_n {t : Nat → Nat} {pl c : Nat} (h : sgA t pl c = 110) : rdO t pl c = rdP t pl 62 c := by unfold rdO; rw [if_neg (by omega), if_pos h]
theorem rdO_m {t : Nat → Nat} {pl c : Nat} (h : sgA t pl c = 109) : rdO t pl c = rdP t pl 64 c := by unfold rdO; rw [if_neg (by omega), if_neg (by omega), if_pos h]
theorem rdO_x {t : Nat → Nat} {pl c : Nat} (h : sgA t pl c = 120) : rdO t pl c = rdP t pl 126 c := by unfold rdO; rw [if_neg (by omega), if_neg (by omega), if_neg (by omega), if_pos h]
theorem rdO_t {t : Nat → Nat} {pl c : Nat} (h : sgA t pl c = 116) : rdO t pl c = rdP t pl 45 c := by unfold rdO; rw [if_neg (by omega), if_neg (by omega), if_neg (by omega), if_neg (by omega), if_pos h]
theorem rdO_f {t : Nat → Nat} {pl c : Nat} (h : sgA t pl c = 102) : rdO t pl c = rdF t pl c := by unfold rdO; rw [if_neg (by omega), if_neg (by omega), if_neg (by omega), if_neg (by omega), if_neg (by omega), if_pos h]
theorem rdO_no {t : Nat → Nat} {pl c : Nat} (h1 : sgA t pl c ≠ 115) (h2 : sgA t pl c ≠ 110) (h3 : sgA t pl c ≠ 109) (h4 : sgA t pl c ≠ 120) (h5 : sgA t pl c ≠ 116) (h6 : sgA t pl c ≠ 102) : rdO t pl c = (false, c, 0, 0) := by unfold rdO; rw [if_neg h1, if_neg h2, if_neg h3, if_neg h4, if_neg h5, if_neg h6]
theorem fit_c : ∀ n, n < 128 → fits .char (.int (nI n)) = true := by decide +kernel
/-- where the text is at fault, from c on -/
def aFa (t : Nat → Nat) (pl : Nat) : Nat → Nat → Option Nat
  | 0, _ => none
  | m + 1, c => if (rdE t pl c).1 = true then (if (rdE t pl c).2.2 = true then none else aFa t pl m (rdE t pl c).2.1) else some (rdE t pl c).2.1
theorem rdE_le {t : Nat → Nat} {pl c : Nat} (hc : c ≤ pl) : (rdE t pl c).2.1 ≤ pl ∧ ((rdE t pl c).1 = true → (rdO t pl c).1 = true) ∧ ((rdE t pl c).1 = true → (rdE t pl c).2.2 = false → c + 2 ≤ (rdE t pl c).2.1) := by
  obtain ⟨h1, h2, -⟩ := rdO_le (t := t) hc
  unfold rdE
  generalize rdO t pl c = R at *
  obtain ⟨r, c', v, w⟩ := R
  unfold rdT
  cases r with
  | false => exact ⟨h1, fun z => Bool.noConfusion z, fun z => Bool.noConfusion z⟩
  | true =>
    have h3 := h2 rfl
    show (if pl ≤ c' then ((true, c', true) : Bool × Nat × Bool) else if sgA t pl c' = 59 then (true, c' + 1, false) else (false, c', false)).2.1 ≤ pl ∧ _ ∧ ((if pl ≤ c' then ((true, c', true) : Bool × Nat × Bool) else if sgA t pl c' = 59 then (true, c' + 1, false) else (false, c', false)).1 = true → (if pl ≤ c' then ((true, c', true) : Bool × Nat × Bool) else if sgA t pl c' = 59 then (true, c' + 1, false) else (false, c', false)).2.2 = false → c + 2 ≤ (if pl ≤ c' then ((true, c', true) : Bool × Nat × Bool) else if sgA t pl c' = 59 then (true, c' + 1, false) else (false, c', false)).2.1)
    by_cases e : pl ≤ c'
    · rw [if_pos e]
      exact ⟨h1, fun _ => rfl, fun _ z => Bool.noConfusion z⟩
    · rw [if_neg e]
      by_cases e2 : sgA t pl c' = 59
      · rw [if_pos e2]
        refine ⟨?_, fun _ => rfl, fun _ _ => ?_⟩
        · show c' + 1 ≤ pl; omega
        · show c + 2 ≤ c' + 1
          have : c < c' := h3.1
          omega
      · rw [if_neg e2]
        exact ⟨h1, fun _ => rfl, fun z => Bool.noConfusion z⟩
section AX35
variable {ro : axRo} {E : axCall} {cd : List axE} {pc : Nat} {L : axL} {S : List Value} {Q : Option Value → axH → Prop} {d : Nat} {h h1 : axH} {B : axBD} {Y : axYD} {sl : Nat → Option Nat} {P : axPD} {G : axGD} {tl : axH} {A : axAD} {f : Nat → Int32} {t : Nat → Nat} {pl c : Nat} {cu la ki fi se : Int32}
theorem axSw_go {x : Int32} {tb : List (Int32 × Nat)} {z : Nat} (hs : axSwO z x tb) (k : axW ro E cd z L S h Q) : axW ro E cd (axSw tb z x) L S h Q := by rw [axSw_def tb hs]; exact k
theorem x2_readOrder (hT : PT f t pl) (hc : c ≤ pl) : ∃ fi' se', axEv ro (d + 5) kX2_readOrder [.ref 11] ((hX B Y sl (f, nI pl, nI c, la, ki, fi, se) G tl)) (some (.int (if (rdE t pl c).1 = true then 1 else 0))) ((hX B Y sl (f, nI pl, nI (rdE t pl c).2.1, (if (rdE t pl c).2.2 = true then 1 else 0), nI (sgA t pl c), fi', se') G tl)) ∧ ((rdO t pl c).1 = true → fi' = nI (rdO t pl c).2.2.1 ∧ (sgA t pl c ≠ 102 → se' = nI (rdO t pl c).2.2.2)) := by
  have hl := hT.1
  have hs := sgA_lt hT c
  have hro := (rdO_le (t := t) hc).1
  have hin : ∀ x, 0 < x → sgA t pl c = x → c < pl := fun x hx hh => sgA_in (show sgA t pl c ≠ 0 by omega)
  have pre : ∀ fi' se', axW ro (axEv ro (d + 4)) cdX2_readOrder 18 [some (.ref 11), some (.int 0)] [.int (nI (sgA t pl c))] ((hX B Y sl (f, nI pl, nI c, la, nI (sgA t pl c), fi, se) G tl)) (fun r' h' => r' = some (.int (if (rdE t pl c).1 = true then 1 else 0)) ∧ h' = ((hX B Y sl (f, nI pl, nI (rdE t pl c).2.1, (if (rdE t pl c).2.2 = true then 1 else 0), nI (sgA t pl c), fi', se') G tl))) → axEv ro (d + 5) kX2_readOrder [.ref 11] ((hX B Y sl (f, nI pl, nI c, la, ki, fi, se) G tl)) (some (.int (if (rdE t pl c).1 = true then 1 else 0))) ((hX B Y sl (f, nI pl, nI (rdE t pl c).2.1, (if (rdE t pl c).2.2 = true then 1 else 0), nI (sgA t pl c), fi', se') G tl)) := by
    intro fi' se' hw
    refine ev_in rfl rfl (Nat.le_of_ble_eq_true rfl) rfl ?_
    refine wp_run rfl ?_
    refine wp_v1 rfl rfl (Nat.le_of_ble_eq_true rfl) (x2_signAt hT (show c ≤ 100 by omega)) ?_
    refine wp_run rfl ?_
    refine wp_putf (h1 := (hX B Y sl (f, nI pl, nI c, la, nI (sgA t pl c), fi, se) G tl)) rfl rfl (Nat.le_of_ble_eq_true rfl) ⟨congrArg Value.int (nar_c _ (by omega)), fit_c _ (by omega), fun _ hz_ => by cases hz_⟩ rfl ?_
    refine wp_run rfl ?_
    exact hw
  have post : ∀ fi' se', axW ro (axEv ro (d + 4)) cdX2_readOrder 166 [some (.ref 11), some (.int (if (rdO t pl c).1 = true then 1 else 0))] [.int (if (rdO t pl c).1 = true then 1 else 0), .ref 11] ((hX B Y sl (f, nI pl, nI (rdO t pl c).2.1, la, nI (sgA t pl c), fi', se') G tl)) (fun r' h' => r' = some (.int (if (rdE t pl c).1 = true then 1 else 0)) ∧ h' = ((hX B Y sl (f, nI pl, nI (rdE t pl c).2.1, (if (rdE t pl c).2.2 = true then 1 else 0), nI (sgA t pl c), fi', se') G tl))) := fun fi' se' => rd_tail hT hro _
  by_cases e1 : sgA t pl c = 115
  · obtain ⟨fi', se', hev, hok⟩ := x2_readSlug (ro := ro) (d := d) (B := B) (Y := Y) (sl := sl) (G := G) (tl := tl) (la := la) (ki := nI (sgA t pl c)) (fi := fi) (se := se) hT (hin _ (by decide) e1)
    have post := post fi' se'
    rw [rdO_s e1] at post ⊢
    refine ⟨fi', se', pre _ _ ?_, fun z => ⟨(hok z).1, fun _ => (hok z).2⟩⟩
    rw [e1] at post hev ⊢
    refine wp_sw rfl ?_
    refine wp_run rfl ?_
    refine wp_v0 rfl rfl (Nat.le_of_ble_eq_true rfl) (hev) ?_
    refine wp_run rfl ?_
    exact post
  by_cases e2 : sgA t pl c = 110
  · obtain ⟨fi', se', hev, hok⟩ := x2_readPair (ro := ro) (d := d) (B := B) (Y := Y) (sl := sl) (G := G) (tl := tl) (la := la) (ki := nI (sgA t pl c)) (fi := fi) (se := se) (x := 62) hT (hin _ (by decide) e2) (by decide) (by decide)
    have post := post fi' se'
    rw [rdO_n e2] at post ⊢
    refine ⟨fi', se', pre _ _ ?_, fun z => ⟨(hok z).1, fun _ => (hok z).2⟩⟩
    rw [e2] at post hev ⊢
    refine wp_sw rfl ?_
    refine wp_run rfl ?_
    refine wp_v1 rfl rfl (Nat.le_of_ble_eq_true rfl) (hev) ?_
    refine wp_run rfl ?_
    exact post
  by_cases e3 : sgA t pl c = 109
  · obtain ⟨fi', se', hev, hok⟩ := x2_readPair (ro := ro) (d := d) (B := B) (Y := Y) (sl := sl) (G := G) (tl := tl) (la := la) (ki := nI (sgA t pl c)) (fi := fi) (se := se) (x := 64) hT (hin _ (by decide) e3) (by decide) (by decide)
    have post := post fi' se'
    rw [rdO_m e3] at post ⊢
    refine ⟨fi', se', pre _ _ ?_, fun z => ⟨(hok z).1, fun _ => (hok z).2⟩⟩
    rw [e3] at post hev ⊢
    refine wp_sw rfl ?_
    refine wp_run rfl ?_
    refine wp_v1 rfl rfl (Nat.le_of_ble_eq_true rfl) (hev) ?_
    refine wp_run rfl ?_
    exact post
  by_cases e4 : sgA t pl c = 120
  · obtain ⟨fi', se', hev, hok⟩ := x2_readPair (ro := ro) (d := d) (B := B) (Y := Y) (sl := sl) (G := G) (tl := tl) (la := la) (ki := nI (sgA t pl c)) (fi := fi) (se := se) (x := 126) hT (hin _ (by decide) e4) (by decide) (by decide)
    have post := post fi' se'
    rw [rdO_x e4] at post ⊢
    refine ⟨fi', se', pre _ _ ?_, fun z => ⟨(hok z).1, fun _ => (hok z).2⟩⟩
    rw [e4] at post hev ⊢
    refine wp_sw rfl ?_
    refine wp_run rfl ?_
    refine wp_v1 rfl rfl (Nat.le_of_ble_eq_true rfl) (hev) ?_
    refine wp_run rfl ?_
    exact post
  by_cases e5 : sgA t pl c = 116
  · obtain ⟨fi', se', hev, hok⟩ := x2_readPair (ro := ro) (d := d) (B := B) (Y := Y) (sl := sl) (G := G) (tl := tl) (la := la) (ki := nI (sgA t pl c)) (fi := fi) (se := se) (x := 45) hT (hin _ (by decide) e5) (by decide) (by decide)
    have post := post fi' se'
    rw [rdO_t e5] at post ⊢
    refine ⟨fi', se', pre _ _ ?_, fun z => ⟨(hok z).1, fun _ => (hok z).2⟩⟩
    rw [e5] at post hev ⊢
    refine wp_sw rfl ?_
    refine wp_run rfl ?_
    refine wp_v1 rfl rfl (Nat.le_of_ble_eq_true rfl) (hev) ?_
    refine wp_run rfl ?_
    exact post
  by_cases e6 : sgA t pl c = 102
  · obtain ⟨fi', hev, hok⟩ := x2_readAct (ro := ro) (d := d + 1) (B := B) (Y := Y) (sl := sl) (G := G) (tl := tl) (la := la) (ki := nI (sgA t pl c)) (fi := fi) (se := se) hT (hin _ (by decide) e6)
    have post := post fi' se
    rw [rdO_f e6] at post ⊢
    refine ⟨fi', se, pre _ _ ?_, fun z => ⟨hok z, fun y => absurd e6 y⟩⟩
    rw [e6] at post hev ⊢
    refine wp_sw rfl ?_
    refine wp_run rfl ?_
    refine wp_v0 rfl rfl (Nat.le_of_ble_eq_true rfl) (hev) ?_
    refine wp_run rfl ?_
    exact post
  · have post := post fi se
    rw [rdO_no e1 e2 e3 e4 e5 e6] at post ⊢
    refine ⟨fi, se, pre _ _ ?_, fun z => Bool.noConfusion z⟩
    have ne : ∀ k, k < 128 → sgA t pl c ≠ k → nI (sgA t pl c) ≠ nI k := fun k hk hne z => hne ((nI_eq (by omega) (by omega)).mp z)
    refine wp_sw rfl ?_
    refine axSw_go ⟨ne 102 (by decide) e6, ne 109 (by decide) e3, ne 110 (by decide) e2, ne 115 (by decide) e1, ne 116 (by decide) e5, ne 120 (by decide) e4, trivial⟩ ?_
    refine wp_run rfl ?_
    exact post
theorem x2_rewind : axEv ro (d + 1) kX2_rewind [.ref 11] ((hX B Y sl (f, nI pl, cu, la, ki, fi, se) G tl)) none ((hX B Y sl (f, nI pl, 0, la, ki, fi, se) G tl)) := by
  refine ev_in rfl rfl (Nat.le_of_ble_eq_true rfl) rfl ?_
  refine wp_run rfl ?_
  refine wp_putf (h1 := (hX B Y sl (f, nI pl, 0, la, ki, fi, se) G tl)) rfl rfl (Nat.le_of_ble_eq_true rfl) ⟨rfl, rfl, fun _ hz_ => by cases hz_⟩ rfl ?_
  refine wp_run rfl ?_
  exact wp_retv rfl ⟨rfl, rfl⟩
/-- what fault answers -/
def faR (r : Option Nat) : Int32 := match r with
  | none => -6
  | some c => nI c
theorem x2_firstFault (hT : PT f t pl) : ∃ cu' la' ki' fi' se', axEv ro (d + 6) kX2_firstFault [.ref 11] ((hX B Y sl (f, nI pl, cu, la, ki, fi, se) G tl)) (some (.int (faR (aFa t pl 81 0)))) ((hX B Y sl (f, nI pl, cu', la', ki', fi', se') G tl)) := by
  have hl := hT.1
  have loop : ∀ m c i la ki fi se, pl < c + m → c ≤ pl → 2 * i ≤ c → ∃ cu' la' ki' fi' se', axW ro (axEv ro (d + 5)) cdX2_firstFault 9 [some (.ref 11), some (.int (nI i))] [.int 80, .int (nI i)] ((hX B Y sl (f, nI pl, nI c, la, ki, fi, se) G tl)) (fun r' h' => r' = some (.int (faR (aFa t pl m c))) ∧ h' = ((hX B Y sl (f, nI pl, cu', la', ki', fi', se') G tl))) := by
    intro m
    induction m with
    | zero => intro c i la ki fi se h1 h2 _; omega
    | succ m ih =>
      intro c i la ki fi se h1 h2 h3
      obtain ⟨fi', se', hev, -⟩ := x2_readOrder (ro := ro) (d := d) (B := B) (Y := Y) (sl := sl) (G := G) (tl := tl) (la := la) (ki := ki) (fi := fi) (se := se) hT h2
      obtain ⟨r1, r2, r3⟩ := rdE_le (t := t) h2
      rw [aFa]
      generalize rdE t pl c = e at *
      obtain ⟨r, c', b⟩ := e
      cases r with
      | false =>
        refine ⟨nI c', (if b = true then 1 else 0), nI (sgA t pl c), fi', se', ?_⟩
        refine wp_icge rfl (fun hz_ => absurd hz_ (nI_ge (b := 80) (by omega) (by omega))) (fun _ => ?_)
        refine wp_run rfl ?_
        refine wp_v0 rfl rfl (Nat.le_of_ble_eq_true rfl) (hev) ?_
        refine wp_run rfl ?_
        refine wp_ifne rfl (fun hz_ => absurd hz_ (fun z => z rfl)) (fun _ => ?_)
        refine wp_run rfl ?_
        exact wp_ret rfl rfl ⟨rfl, rfl⟩
      | true =>
        cases b with
        | true =>
          refine ⟨nI c', 1, nI (sgA t pl c), fi', se', ?_⟩
          refine wp_icge rfl (fun hz_ => absurd hz_ (nI_ge (b := 80) (by omega) (by omega))) (fun _ => ?_)
          refine wp_run rfl ?_
          refine wp_v0 rfl rfl (Nat.le_of_ble_eq_true rfl) (hev) ?_
          refine wp_run rfl ?_
          refine wp_ifne rfl (fun _ => ?_) (fun hz_ => absurd ((by decide : ¬ (1 : Int32) = 0)) hz_)
          refine wp_run rfl ?_
          refine wp_ifeq rfl (fun hz_ => absurd hz_ ((by decide : ¬ (1 : Int32) = 0))) (fun _ => ?_)
          refine wp_run rfl ?_
          exact wp_ret rfl rfl ⟨rfl, rfl⟩
        | false =>
          have r4 : c + 2 ≤ c' := r3 rfl rfl
          obtain ⟨cu2, la2, ki2, fi2, se2, ih⟩ := ih c' (i + 1) 0 (nI (sgA t pl c)) fi' se' (by omega) r1 (by omega)
          refine ⟨cu2, la2, ki2, fi2, se2, ?_⟩
          refine wp_icge rfl (fun hz_ => absurd hz_ (nI_ge (b := 80) (by omega) (by omega))) (fun _ => ?_)
          refine wp_run rfl ?_
          refine wp_v0 rfl rfl (Nat.le_of_ble_eq_true rfl) (hev) ?_
          refine wp_run rfl ?_
          refine wp_ifne rfl (fun _ => ?_) (fun hz_ => absurd ((by decide : ¬ (1 : Int32) = 0)) hz_)
          refine wp_run rfl ?_
          refine wp_ifeq rfl (fun _ => ?_) (fun hz_ => absurd (rfl) hz_)
          refine wp_run rfl ?_
          rw [nI_1]
          exact ih
  obtain ⟨cu2, la2, ki2, fi2, se2, hw⟩ := loop 81 0 0 la ki fi se (by omega) (by omega) (by omega)
  refine ⟨cu2, la2, ki2, fi2, se2, ?_⟩
  refine ev_in rfl rfl (Nat.le_of_ble_eq_true rfl) rfl ?_
  refine wp_run rfl ?_
  refine wp_v0v rfl rfl (Nat.le_of_ble_eq_true rfl) (x2_rewind) ?_
  refine wp_run rfl ?_
  exact hw
theorem x2_clear : axEv ro (d + 1) kX2_clear [.ref 11] ((hX B Y sl (f, nI pl, cu, la, ki, fi, se) G tl)) (some (.int (nI pl))) (hX B Y sl (f, nI 0, cu, la, ki, fi, se) G tl) := by
  refine ev_in rfl rfl (Nat.le_of_ble_eq_true rfl) rfl ?_
  refine wp_run rfl ?_
  refine wp_putf (h1 := hX B Y sl (f, nI 0, cu, la, ki, fi, se) G tl) rfl rfl (Nat.le_of_ble_eq_true rfl) ⟨rfl, rfl, fun _ hz_ => by cases hz_⟩ rfl ?_
  refine wp_run rfl ?_
  exact wp_ret rfl rfl ⟨rfl, rfl⟩
end AX35
