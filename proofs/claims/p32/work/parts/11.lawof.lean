/-! THE CLAIM OUT OF ONE WALK OF THE LAW'S BODY. Your part is whole_start (and what it stands on); all else here is the same for every law, but numbers. -/
def R_law : String := "BeatSlugsLaw"
def lw_P (b : Addr) (xs : List Int32) (args : Array Value) (s : State) : Prop := args = #[.ref b] ∧ s.IntsAt b xs ∧ xs.length ≤ 260 ∧ (Jvm.Cond.and given_1 narrow_1).before args s = true
def lw_Q (_ : Array Value) (s : State) (o : Outcome) (t : State) : Prop := o = .returned (some (.int 1)) ∧ Framed s o t [] 600000 7302249
def lw_Z (below : List Frame) (a : Array Value) (s : State) : State → Prop := fun t => ∃ o, t.status = .running ∧ Ended t below o ∧ lw_Q a s o t
/-- the law's own end, with 1 on the stack, nothing written that was there before, its room as the claim has it -/
theorem lw_ret {p : Program} {l : Launch} {e : Env} {s : State} {m : MethodId} {below : List Frame} {meth : Method} {c : Code} {b : Nat} (hx : p.tables.exec = Jvm.exec) (hb : c.code = code) (hr : meth.sig.returnType = ret) (hlocks : meth.locks = false) {pc : Nat} {H : Heap} {ls : Array Slot} (hdg : decode code pc = .ok (.ireturn, 1)) : W p l e room_1 s m #[Value.ref b] below meth c H [] 600000 7302249 (lw_Z below #[Value.ref b] s) (F0 m pc ls [.int 1]) := by
  intro T hT X
  obtain ⟨fs, hret, hrun, hended, hW, hframe⟩ := X.leave (v := some (.int 1)) (hlocks := hlocks) (fun h => by rw [hr] at h; cases h)
  have hmeth' : T.vm.method? m = some meth := X.method'
  refine ⟨T.setFrames fs, ?_, .returned (some (.int 1)), hrun, hended, rfl, ⟨_, rfl⟩, hW, hframe⟩
  jvm_step X.here [X.here.top, hx, hb, hdg, hmeth', hr, ret, narrow_b1]
  (try refine ⟨rfl, ?_⟩); (try refine ⟨rfl, ?_⟩)
  first | (intro acts; rw [hret _ acts rfl rfl rfl]) | rw [hret _ _ rfl rfl rfl]
  exact Steps.refl _
/-- what holds at the law's entry: the machine, the code, the tables' words (any of lw_tbl by 'hts w (by decide +kernel)'), the script of L ints xs at the cell b, what the Statement gives of the start (any of its parts by flat_of_before) -/
def lw_At (p : Program) (s : State) (m : MethodId) (meth : Method) (c : Code) (b L : Nat) (xs : Nat → Int32) : Prop :=
  p.tables.exec = Jvm.exec ∧ c.code = code ∧ meth.sig.returnType = ret ∧ c.maxLocals = 3 ∧ s.vm.findClass R_law = some m.cls ∧ (∀ w ∈ lw_tbl, w.before #[Value.ref b] s = true) ∧ va_X b L xs s s.heap ∧ b < s.heap.size ∧ meth.locks = false ∧ (Jvm.Cond.and given_1 narrow_1).before #[Value.ref b] s = true
/-- the arrays that nobody writes: the script, LEAST_SETTING, MOST_SETTING -/
def axRoL (L : Nat) (xs : Nat → Int32) : axRo := fun i => match i with
  | 0 => (L, xs)
  | 1 => (3, fun j => if j = 0 then 4 else 0)
  | _ => (3, fun j => if j = 0 then 60 else if j = 1 then 20 else 90)
theorem axArr {s : State} {args : Array Value} {ty : FieldType} (hno : ∀ C, ty ≠ .object C) (h : (Cond.arrayClass ty).before args s = true) : ∃ cA, ArrOfT s cA ty ∧ va_RA s cA ty := by
  obtain ⟨cA, kA, comp, h1, h2, h3⟩ := Cond.arrayClass_spec h
  refine ⟨cA, fun n z => ⟨fun k h => (by cases h), kA, h2, comp, h3⟩, ?_⟩
  cases ty with
  | object C => exact absurd rfl (hno C)
  | _ => exact h1
theorem axStat3 {s : State} {args : Array Value} {n : String} {A : Nat → Prop} {f : Nat → Int32} (hl : (Cond.laysStatic "BeatSlugs" n "[I").before args s = true) (hi : (Cond.initialized "BeatSlugs").before args s = true) (ha : (Cond.arrayOf (.static "BeatSlugs" n "[I") .int).before args s = true) (hlen : (Cond.eq (.length (.static "BeatSlugs" n "[I")) (.int 3)).before args s = true)
    (h0 : (Cond.eq (.elem (.static "BeatSlugs" n "[I") (.int 0)) (.int (f 0))).before args s = true) (h1 : (Cond.eq (.elem (.static "BeatSlugs" n "[I") (.int 1)) (.int (f 1))).before args s = true) (h2 : (Cond.eq (.elem (.static "BeatSlugs" n "[I") (.int 2)) (.int (f 2))).before args s = true) (hA : ∀ a : Nat, a < s.heap.size → ¬ A a) :
    ∃ t : Nat, va_Z "BeatSlugs" n "[I" (.ref t) A s s.heap ∧ va_T .int t 3 (fun j => .int (f j)) A s s.heap := by
  obtain ⟨t, ht, hT⟩ := va_Tof (N := 3) (f := fun j => .int (f j)) (by omega) ha (va_eqt hlen) (fun j hj => by
    rcases (show j = 0 ∨ j = 1 ∨ j = 2 by omega) with rfl | rfl | rfl
    · exact va_eqt h0
    · exact va_eqt h1
    · exact va_eqt h2) hA
  exact ⟨t, va_Zref hl hi ht hA, hT⟩
set_option maxHeartbeats 4000000 in
/-- the law's walk, out of what the abstract machine computes of its body -/
theorem ax_law {p : Program} {e : Env} {s : State} {m : MethodId} {below : List Frame} {meth : Method} {c : Code} (l : Launch) {b L : Nat} {xs : Nat → Int32} (hL2 : L ≤ 260) (C0 : lw_At p s m meth c b L xs)
    (hlaw : axW (axRoL L xs) (axEv (axRoL L xs) 10) cdL_law 0 [some (.retAddr 0), none, none] [] [] (fun r h => r = some (.int 1) ∧ h.length ≤ 600000 ∧ axSl h ≤ 7302249)) : W p l e room_1 s m #[Value.ref b] below meth c s.heap [] 0 0 (lw_Z below #[Value.ref b] s) (entryFrame m ([Value.ref b] : List Value).toArray 3) := by
  obtain ⟨hx, hb, hr, hml, hown, hts, hX, hbl, hlocks, hgv⟩ := id C0
  have hA : ∀ a : Nat, a < s.heap.size → ¬ (fun q : Nat => s.heap.size ≤ q) a := fun a h => Nat.not_le.mpr h
  have hfl := flat_of_before _ hgv
  obtain ⟨t1, Z1, T1⟩ := axStat3 (n := "LEAST_SETTING") (f := fun j => if j = 0 then 4 else 0) (hts _ axW_lsLEAST) (hts _ axW_ini4) (hfl _ (by decide +kernel)) (hfl _ (by decide +kernel)) (hfl _ (by decide +kernel)) (hfl _ (by decide +kernel)) (hfl _ (by decide +kernel)) hA
  obtain ⟨t2, Z2, T2⟩ := axStat3 (n := "MOST_SETTING") (f := fun j => if j = 0 then 60 else if j = 1 then 20 else 90) (hts _ axW_lsMOST) (hts _ axW_ini4) (hfl _ (by decide +kernel)) (hfl _ (by decide +kernel)) (hfl _ (by decide +kernel)) (hfl _ (by decide +kernel)) (hfl _ (by decide +kernel)) hA
  obtain ⟨c0, A0, B0⟩ := axArr (ty := .int) (fun C h => by cases h) (hts _ axW_ari)
  obtain ⟨c1, A1, B1⟩ := axArr (ty := .char) (fun C h => by cases h) (hts _ axW_arc)
  obtain ⟨c2, A2, B2⟩ := axArr (ty := .int) (fun C h => by cases h) (hts _ axW_ari)
  obtain ⟨comp, c3, k3, f1, f2, f3, f4, f5⟩ := Cond.arrayOver_spec (hts _ axW_ao)
  have hcls : ∀ k : Nat, ∃ q : ClassId × (Nat → Nat), k < 5 → u_Kn s (axCn k) (axT k) (axNf k) q.1 q.2 := by
    intro k
    by_cases hk : k < 5
    · obtain ⟨cC, iS, h⟩ := u_known (C := axCn k) (T := axT k) (N := axNf k) (ws := lw_tbl) (args := #[Value.ref b]) hts (fun w hw => (List.mem_filter.mp (axLay k hk w hw)).1) (hts _ (List.mem_filter.mp (axInsOk k hk)).1)
      exact ⟨(cC, iS), fun _ => h⟩
    · exact ⟨(0, fun _ => 0), fun h => absurd h hk⟩
  obtain ⟨D, hD⟩ : ∃ D : va_G, ∀ k, k < 5 → u_Kn s (axCn k) (axT k) (axNf k) (D.1 k) (D.2 k) := ⟨(fun k => (Classical.choose (hcls k)).1, fun k => (Classical.choose (hcls k)).2), fun k hk => Classical.choose_spec (hcls k) hk⟩
  let ca : Nat → ClassId := fun k => match k with
    | 0 => c0
    | 1 => c1
    | 2 => c2
    | _ => c3
  let rb : Nat → Nat := fun k => match k with
    | 0 => b
    | 1 => t1
    | _ => t2
  have hK : va_K D axCl (axTys ca) s := by
    refine ⟨fun k q hq => ?_, fun k q hq => ?_⟩
    · have hk := axCl_lt hq
      have := axClOk k hk
      rw [this] at hq
      cases hq
      exact hD k hk
    · match k, hq with
      | 0, hq => cases hq; exact ⟨A0, B0⟩
      | 1, hq => cases hq; exact ⟨A1, B1⟩
      | 2, hq => cases hq; exact ⟨A2, B2⟩
      | 3, hq => cases hq; exact ⟨fun n z => ⟨fun k h => (by cases h), k3, f3, comp, f4⟩, k3, comp, f3, f4, f1, f5⟩
      | k + 4, hq => simp [axTys] at hq
  have hSt : axSt s.heap.size rb (axRoL L xs) s s.heap := by
    refine ⟨fun i hi => ?_, Z1, Z2, fun w hw hn => ?_, va_AO.of (hts _ axW_ao)⟩
    · rcases (show i = 0 ∨ i = 1 ∨ i = 2 by omega) with rfl | rfl | rfl
      · refine ⟨hbl, ?_⟩
        obtain ⟨scr, q1, q2, q3, q4, q5⟩ := hX
        exact ⟨scr, q1, q2, q3, by rw [q4]; exact Nat.le_refl _, by rw [q4]; rfl, q5, Nat.not_le.mpr hbl⟩
      · have hT := T1
        obtain ⟨cell, q1, q2⟩ := T1
        exact ⟨(Array.getElem?_eq_some_iff.mp q1).1, hT⟩
      · have hT := T2
        obtain ⟨cell, q1, q2⟩ := T2
        exact ⟨(Array.getElem?_eq_some_iff.mp q1).1, hT⟩
    · have hon : w.onTables = true := by cases w <;> first | rfl | cases hn
      exact va_Nw.of hon (hts w hw)
  have F : axFx p s m #[Value.ref b] meth c s.heap.size rb ca D (axRoL L xs) code 3 6 := ⟨hx, hb, hml, hown, fun w hw => hts w (List.mem_filter.mp hw).1, hK, hSt, Nat.le_refl _⟩
  have hl := lv_entry ([.ref b]) (n := 3) (Nat.le_of_ble_eq_true rfl)
  rw [lg_entry_eq]
  generalize (lg_sl ([.ref b]) ++ List.replicate (3 - (lg_sl ([.ref b])).length) Slot.unset).toArray = ls at hl ⊢
  have hLr : axLr s.heap.size rb [some (.retAddr 0), none, none] ls 3 := ⟨rfl, hl⟩
  obtain ⟨n, hn⟩ := hlaw
  have key := axWn_sound (QQ := lw_Z below #[Value.ref b] s) (l := l) (R := room_1) (e := e) (below := below) (n0 := 0) (s0 := 0) (ini := false) (rt := 2) (cd := cdL_law) (dd := 10) (Q := fun r h => r = some (.int 1) ∧ h.length ≤ 600000 ∧ axSl h ≤ 7302249) F (by omega) (fun h => by cases h) (axEv_HE l s.heap.size rb ca D (axRoL L xs) 10) ⟨by decide, by decide⟩ ?_ ?_ ?_ ?_ ?_ ckL_law n 0 [some (.retAddr 0), none, none] [] [] hn (Nat.le_refl _) (Nat.le_refl _) s.heap [] ls ⟨by simp, fun k q h => by simp [axWs] at h, va_S.rf⟩ hLr
  · exact key
  · intro pc H locs h0 ls x _ hd _ hq _ _ hI
    obtain ⟨e1, e2, e3⟩ := hq
    cases e1
    refine va_forget (fun q hq => hI.2.2.2.2 q hq) ?_
    refine W.widen (k := 600000) (n := 7302249) (by omega) (by omega) ?_
    exact lw_ret hx hb hr hlocks hd
  · intro pc H locs h0 ls _ hd hq _ _ hI
    cases hq.1
  · intro pc H locs h0 ls k _ hd hq _ _ hI
    cases hq.1
  · intro pc H locs h0 ls x _ hd hq _ _ hI
    cases hq.1
  · intro r h' hq
    exact ⟨Nat.le_trans (Nat.sub_le _ _) hq.2.1, Nat.le_trans (Nat.sub_le _ _) hq.2.2⟩
