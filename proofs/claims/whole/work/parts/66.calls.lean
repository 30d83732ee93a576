/-! THE LAW: each call, of the class and of the reference, answers alike, from one state to one state. -/
def StV (V : axV) (m : Nat) (h : axH) : Prop := ∃ M, XS V (mcO M) m h ∧ MSt V M
def callOk (L : Nat) (xs : Nat → Int32) (kx km : Nat) (args : List Value) (m : Nat) (h : axH) : Prop := ∃ (r : Int32) (h1 h2 : axH) (V' : axV) (f0 f15 : List Value), axEv (axRoL L xs) 10 kx (.ref 0 :: args) h (some (.int r)) h1 ∧ axEv (axRoL L xs) 10 km (.ref 15 :: args) h1 (some (.int r)) h2 ∧ StV V' (m + 1) h2 ∧ h[0]? = some (.inr (.inr (4, f0))) ∧ h1[15]? = some (.inr (.inr (5, f15)))
section AX66
variable {L : Nat} {xs : Nat → Int32} {V V' : axV} {m : Nat} {h : axH} {M : axMD}
theorem XS_o4 {mc : axH} (hx : XS V mc m h) : ∃ f0, h[0]? = some (.inr (.inr (4, f0))) := by
  obtain ⟨B, nx, sf, lf, f, cu, la, ki, fi, se, G, bs, rfl, -⟩ := hx
  exact ⟨_, rfl⟩
theorem call_mk {kx km : Nat} {args : List Value} {r : Int32} (hx : XS V (mcO M) m h) (h1 : ∃ h1, axEv (axRoL L xs) 10 kx (.ref 0 :: args) h (some (.int r)) h1 ∧ XS V' (mcO M) (m + 1) h1) (h2 : ∀ c tl, ∃ M', axEv (axRoL L xs) 10 km (.ref 15 :: args) (hM c M tl) (some (.int r)) (hM c M' tl) ∧ MSt V' M') : callOk L xs kx km args m h := by
  obtain ⟨f0, e0⟩ := XS_o4 hx
  obtain ⟨h1, ev1, x1⟩ := h1
  obtain ⟨c, tl, rfl, hall⟩ := XS_hM x1
  obtain ⟨M', ev2, hM'⟩ := h2 c tl
  exact ⟨r, _, _, V', f0, _, ev1, ev2, ⟨M', hall M', hM'⟩, e0, rfl⟩
theorem call_set (hs : StV V m h) (x y : Int32) : callOk L xs kX4_set kX5_set [.int x, .int y] m h := by
  obtain ⟨M, hx, hV⟩ := hs
  have hO := hV.2.1
  obtain ⟨r, A', hS⟩ := spSet_ex (vA V) x y
  exact call_mk hx (x4_set (d := 4) rfl hx hS) (fun c tl => x5_set (d := 7) hV hS)
theorem call_target (hs : StV V m h) (x y : Int32) : callOk L xs kX4_target kX5_target [.int x, .int y] m h := by
  obtain ⟨M, hx, hV⟩ := hs
  have hO := hV.2.1
  obtain ⟨r, A', hS⟩ := spTarget_ex (vA V) x y
  exact call_mk hx (x4_target (d := 4) rfl hx hS) (fun c tl => x5_target (d := 7) hV hS)
theorem call_slug (hs : StV V m h) (x y w : Int32) : callOk L xs kX4_slug kX5_slug [.int x, .int y, .int w] m h := by
  obtain ⟨M, hx, hV⟩ := hs
  have hO := hV.2.1
  obtain ⟨r, A', hS⟩ := spAdd_ex hO x y w
  exact call_mk hx (x4_slug (d := 4) rfl hx hS) (fun c tl => x5_slug (d := 5) hV hS)
theorem call_drop (hs : StV V m h) (x : Int32) : callOk L xs kX4_drop kX5_drop [.int x] m h := by
  obtain ⟨M, hx, hV⟩ := hs
  have hO := hV.2.1
  obtain ⟨r, A', hS⟩ := spDrop_ex (vA V) x
  exact call_mk hx (x4_drop (d := 4) rfl hx hS) (fun c tl => x5_drop (d := 7) hV hS)
theorem call_turn (hs : StV V m h) (x : Int32) : callOk L xs kX4_turn kX5_turn [.int x] m h := by
  obtain ⟨M, hx, hV⟩ := hs
  have hO := hV.2.1
  obtain ⟨r, A', hS⟩ := spTurn_ex (vA V) x
  exact call_mk hx (x4_turn (d := 4) rfl hx hS) (fun c tl => x5_turn (d := 7) hV hS)
theorem call_need (hs : StV V m h) (x y : Int32) : callOk L xs kX4_need kX5_need [.int x, .int y] m h := by
  obtain ⟨M, hx, hV⟩ := hs
  have hO := hV.2.1
  obtain ⟨r, A', hS⟩ := spNeed_ex (vA V) x y
  exact call_mk hx (x4_need (d := 4) rfl hx hS) (fun c tl => x5_need (d := 5) hV hS)
theorem call_trim (hs : StV V m h) (x y : Int32) : callOk L xs kX4_trim kX5_trim [.int x, .int y] m h := by
  obtain ⟨M, hx, hV⟩ := hs
  have hO := hV.2.1
  obtain ⟨r, A', hS⟩ := spTrim_ex (vA V) x y
  exact call_mk hx (x4_trim (d := 4) rfl hx hS) (fun c tl => x5_trim (d := 5) hV hS)
theorem call_restoreTail (hs : StV V m h) (x : Int32) : callOk L xs kX4_restoreTail kX5_restoreTail [.int x] m h := by
  obtain ⟨M, hx, hV⟩ := hs
  have hO := hV.2.1
  obtain ⟨r, A', hS⟩ := spGive_ex (vA V) x
  exact call_mk hx (x4_restoreTail (d := 4) rfl hx hS) (fun c tl => x5_restoreTail (d := 7) hV hS)
theorem call_move (hs : StV V m h) (x y : Int32) : callOk L xs kX4_move kX5_move [.int x, .int y] m h := by
  obtain ⟨M, hx, hV⟩ := hs
  have hO := hV.2.1
  obtain ⟨r, A', hS⟩ := spMove_ex hO x y
  exact call_mk hx (x4_move (d := 4) rfl hx hS) (fun c tl => x5_move (d := 5) hV hS)
theorem call_swap (hs : StV V m h) (x y : Int32) : callOk L xs kX4_swap kX5_swap [.int x, .int y] m h := by
  obtain ⟨M, hx, hV⟩ := hs
  have hO := hV.2.1
  obtain ⟨r, A', hS⟩ := spSwap_ex (vA V) x y
  exact call_mk hx (x4_swap (d := 4) rfl hx hS) (fun c tl => x5_swap (d := 5) hV hS)
theorem call_split (hs : StV V m h) (x y : Int32) : callOk L xs kX4_split kX5_split [.int x, .int y] m h := by
  obtain ⟨M, hx, hV⟩ := hs
  have hO := hV.2.1
  obtain ⟨r, A', hS⟩ := spSplit_ex hO x y
  exact call_mk hx (x4_split (d := 4) rfl hx hS) (fun c tl => x5_split (d := 4) hV hS)
theorem call_fit (hs : StV V m h) (x : Int32) : callOk L xs kX4_fit kX5_fit [.int x] m h := by
  obtain ⟨M, hx, hV⟩ := hs
  have hO := hV.2.1
  obtain ⟨r, A', hS⟩ := spFit_ex hO x
  exact call_mk hx (x4_fit (d := 4) rfl hx hS) (fun c tl => x5_fit (d := 3) hV hS)
theorem call_of (hs : StV V m h) (x y : Int32) : callOk L xs kX4_of kX5_of [.int x, .int y] m h := by
  obtain ⟨M, hx, hV⟩ := hs
  have hO := hV.2.1
  obtain ⟨r, hS⟩ := spOf_ex (vA V) x y
  refine call_mk hx (r := r) (V' := V) ?_ ?_
  · have hx' := XS_more (Nat.le_succ m) hx
    obtain ⟨B, nx, sf, lf, f, cu, la, ki, fi, se, G, bs, rfl, hC, hO2, -⟩ := hx
    exact ⟨_, x4_of_b (d := 4) hO hC hS, hx'⟩
  · exact fun c tl => ⟨M, x5_of (d := 6) hO.w hV.1 hS, hV⟩
theorem call_at (hs : StV V m h) (x : Int32) : callOk L xs kX4_at kX5_at [.int x] m h := by
  obtain ⟨M, hx, hV⟩ := hs
  have hO := hV.2.1
  obtain ⟨r, hS⟩ := spAt_ex hO x
  refine call_mk hx (r := r) (V' := V) ?_ ?_
  · have hx' := XS_more (Nat.le_succ m) hx
    obtain ⟨B, nx, sf, lf, f, cu, la, ki, fi, se, G, bs, rfl, hC, hO2, -⟩ := hx
    exact ⟨_, x4_at_b (d := 4) hO hC hS, hx'⟩
  · exact fun c tl => ⟨M, x5_at (d := 8) hO.w hV.1 hS, hV⟩
theorem call_atBeat (hs : StV V m h) (x : Int32) : callOk L xs kX4_atBeat kX5_atBeat [.int x] m h := by
  obtain ⟨M, hx, hV⟩ := hs
  have hO := hV.2.1
  obtain ⟨r, hS⟩ := spAtBeat_ex (vA V) x
  refine call_mk hx (r := r) (V' := V) ?_ ?_
  · have hx' := XS_more (Nat.le_succ m) hx
    obtain ⟨B, nx, sf, lf, f, cu, la, ki, fi, se, G, bs, rfl, hC, hO2, -⟩ := hx
    exact ⟨_, x4_atBeat_b (d := 4) hO hC hS, hx'⟩
  · exact fun c tl => ⟨M, x5_atBeat (d := 7) hO.w hV.1 hS, hV⟩
theorem call_ofAct (hs : StV V m h) (x y : Int32) : callOk L xs kX4_ofAct kX5_ofAct [.int x, .int y] m h := by
  obtain ⟨M, hx, hV⟩ := hs
  have hO := hV.2.1
  obtain ⟨r, hS⟩ := spOfAct_ex hO x y
  refine call_mk hx (r := r) (V' := V) ?_ ?_
  · have hx' := XS_more (Nat.le_succ m) hx
    obtain ⟨B, nx, sf, lf, f, cu, la, ki, fi, se, G, bs, rfl, hC, hO2, -⟩ := hx
    exact ⟨_, x4_ofAct_b (d := 3) hO hC hS, hx'⟩
  · exact fun c tl => ⟨M, x5_ofAct (d := 3) hO.w hV.1 hS, hV⟩
theorem call_count (hs : StV V m h) (x : Int32) : callOk L xs kX4_count kX5_count [.int x] m h := by
  obtain ⟨M, hx, hV⟩ := hs
  have hO := hV.2.1
  obtain ⟨r, hS⟩ := spCount_ex V x
  exact call_mk hx ⟨_, x4_count (d := 3) hx hS, XS_more (Nat.le_succ m) hx⟩ (fun c tl => ⟨M, x5_count (d := 2) hV hS, hV⟩)
theorem call_places (hs : StV V m h) (x : Int32) : callOk L xs kX4_places kX5_places [.int x] m h := by
  obtain ⟨M, hx, hV⟩ := hs
  have hO := hV.2.1
  obtain ⟨r, hS⟩ := spPlaces_ex (vA V) x
  refine call_mk hx (r := r) (V' := V) ?_ ?_
  · have hx' := XS_more (Nat.le_succ m) hx
    obtain ⟨B, nx, sf, lf, f, cu, la, ki, fi, se, G, bs, rfl, hC, hO2, -⟩ := hx
    exact ⟨_, x4_places_b (d := 4) hO hC hS, hx'⟩
  · exact fun c tl => x5_places (d := 6) hV hS
theorem call_bestSwap (hs : StV V m h) (x : Int32) : callOk L xs kX4_bestSwap kX5_bestSwap [.int x] m h := by
  obtain ⟨M, hx, hV⟩ := hs
  have hO := hV.2.1
  obtain ⟨r, hS⟩ := spBest_ex (vA V) x
  exact call_mk hx (x4_bestSwap (d := 3) hx hS) (fun c tl => x5_bestSwap (d := 3) hV hS)
theorem call_ifFitted (hs : StV V m h) (x : Int32) : callOk L xs kX4_ifFitted kX5_ifFitted [.int x] m h := by
  obtain ⟨M, hx, hV⟩ := hs
  have hO := hV.2.1
  obtain ⟨r, A', hS⟩ := spFit_ex hO x
  refine call_mk hx (r := r) (V' := V) ?_ (fun c tl => x5_ifFitted (d := 3) hV hS)
  have hx' := XS_more (Nat.le_succ m) hx
  obtain ⟨B, nx, sf, lf, f, cu, la, ki, fi, se, G, bs, rfl, hC, hO2, -⟩ := hx
  exact ⟨_, x4_ifFitted_b (d := 4) hO hC hS, hx'⟩
theorem call_ifTurned (hs : StV V m h) (x : Int32) : callOk L xs kX4_ifTurned kX5_ifTurned [.int x] m h := by
  obtain ⟨M, hx, hV⟩ := hs
  have hO := hV.2.1
  obtain ⟨r, hS⟩ := spTurned_ex (vA V) x
  refine call_mk hx (r := r) (V' := V) ?_ ?_
  · have hx' := XS_more (Nat.le_succ m) hx
    obtain ⟨B, nx, sf, lf, f, cu, la, ki, fi, se, G, bs, rfl, hC, hO2, -⟩ := hx
    exact ⟨_, x4_ifTurned_b (d := 4) hO hC hS, hx'⟩
  · exact fun c tl => x5_ifTurned (d := 3) hV hS
theorem call_needs (hs : StV V m h) (x : Int32) : callOk L xs kX4_needs kX5_needs [.int x] m h := by
  obtain ⟨M, hx, hV⟩ := hs
  have hO := hV.2.1
  obtain ⟨r, hS⟩ := spNeeds_ex (vA V) x
  refine call_mk hx (r := r) (V' := V) ?_ ?_
  · have hx' := XS_more (Nat.le_succ m) hx
    obtain ⟨B, nx, sf, lf, f, cu, la, ki, fi, se, G, bs, rfl, hC, hO2, -⟩ := hx
    exact ⟨_, x4_needs_b (d := 4) hO hC hS, hx'⟩
  · exact fun c tl => ⟨M, x5_needs_b (d := 7) hO.w hV.1 hS, hV⟩
theorem call_put (hs : StV V m h) (x : Int64) : callOk L xs kX4_put kX5_put [.long x] m h := by
  obtain ⟨M, hx, hV⟩ := hs
  have hO := hV.2.1
  obtain ⟨r, V', hS⟩ := spPut_ex V x
  exact call_mk hx (x4_put (d := 4) hx hS) (fun c tl => x5_put (d := 8) hV hS)
theorem call_wipe (hs : StV V m h)  : callOk L xs kX4_wipe kX5_wipe [] m h := by
  obtain ⟨M, hx, hV⟩ := hs
  have hO := hV.2.1
  exact call_mk hx (x4_wipe (d := 4) hx) (fun c tl => x5_wipe (d := 9) hV)
theorem call_fault (hs : StV V m h)  : callOk L xs kX4_fault kX5_fault [] m h := by
  obtain ⟨M, hx, hV⟩ := hs
  have hO := hV.2.1
  exact call_mk hx (x4_fault (d := 3) hx) (fun c tl => x5_fault (d := 4) hV)
theorem call_carryOut (hs : StV V m h)  : callOk L xs kX4_carryOut kX5_carryOut [] m h := by
  obtain ⟨M, hx, hV⟩ := hs
  have hO := hV.2.1
  obtain ⟨r, V', hS⟩ := spCarry_ex hO
  exact call_mk hx (x4_carryOut (d := 3) rfl hx hS) (fun c tl => x5_carryOut (d := 1) hV hS)
theorem call_undo (hs : StV V m h)  : callOk L xs kX4_undo kX5_undo [] m h := by
  obtain ⟨M, hx, hV⟩ := hs
  have hO := hV.2.1
  obtain ⟨r, V', hS⟩ := spUndo_ex V
  exact call_mk hx (x4_undo (d := 4) rfl hx hS) (fun c tl => x5_undo (d := 8) hV hS)
theorem call_save (hs : StV V m h) (x : Int32) : callOk L xs kX4_save kX5_save [.int x] m h := by
  obtain ⟨M, hx, hV⟩ := hs
  have hO := hV.2.1
  obtain ⟨r, V', hS⟩ := spSave_ex V x
  exact call_mk hx (x4_save (d := 4) rfl hx hS) (fun c tl => x5_save (d := 8) hV hS)
theorem call_restore (hs : StV V m h) (x : Int32) : callOk L xs kX4_restore kX5_restore [.int x] m h := by
  obtain ⟨M, hx, hV⟩ := hs
  have hO := hV.2.1
  obtain ⟨r, V', hS⟩ := spRestore_ex V x
  exact call_mk hx (x4_restore (d := 4) rfl hx hS) (fun c tl => x5_restore (d := 7) hV hS)
theorem StV_room (hs : StV V m h) (hm : m ≤ 512) : h.length ≤ 600000 ∧ axSl h ≤ 7302250 := by
  obtain ⟨M, ⟨B, nx, sf, lf, f, cu, la, ki, fi, se, G, bs, rfl, -, -, -, -, hb1, hb2⟩, -⟩ := hs
  have e1 : axSl (hX B (sf, nI nx, nI (vK V)) lf (f, nI (vP V), cu, la, ki, fi, se) G (mcO M ++ bs)) = axSl (hX B (sf, nI nx, nI (vK V)) lf (f, nI (vP V), cu, la, ki, fi, se) G []) + (axSl (mcO M) + axSl bs) := by
    rw [← axSl_apps, ← axSl_apps]; rfl
  have e2 : axSl (hX B (sf, nI nx, nI (vK V)) lf (f, nI (vP V), cu, la, ki, fi, se) G []) = 246 := by simp [axSl, hX, axCs, axAi]
  have e3 : axSl (mcO M) = 1636 := by simp [axSl, mcO, axMO, axCs, axAi]
  have e4 : (mcO M).length = 7 := rfl
  rw [hX_len, List.length_append, e1, e2, e3, e4]
  omega
end AX66
