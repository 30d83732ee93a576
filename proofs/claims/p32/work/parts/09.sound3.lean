/-! SOUNDNESS 3: switches, calls, the whole body, the contracts. Written by wip/whole/mk09.py. -/
theorem axToInt {n : Int} (h0 : -1000 ≤ n) (h1 : n ≤ 1001) : (Int32.ofInt n).toInt = n := Int32.toInt_ofInt_of_le (by omega) (by omega)
theorem axSwT_out {pc d : Nat} : ∀ (offs : List Int) (lo : Int) (x : Int32), 0 ≤ lo → lo + offs.length ≤ 1001 → (x.toInt < lo ∨ lo + offs.length ≤ x.toInt) → axSw (axSwT pc lo offs) d x = d
  | [], lo, x, _, _, _ => rfl
  | o :: r, lo, x, h0, h1, h2 => by
    rw [List.length_cons] at h1 h2
    have hne : ¬ x = Int32.ofInt lo := by
      intro e
      have : x.toInt = lo := by rw [e]; exact axToInt (by omega) (by omega)
      omega
    show (if x = Int32.ofInt lo then _ else axSw (axSwT pc (lo + 1) r) d x) = d
    rw [if_neg hne]
    exact axSwT_out r (lo + 1) x (by omega) (by omega) (by omega)
theorem axSwT_in {pc d : Nat} : ∀ (offs : List Int) (lo : Int) (x : Int32) (i : Nat) (o : Int), 0 ≤ lo → lo + offs.length ≤ 1001 → offs[i]? = some o → x.toInt = lo + i → axSw (axSwT pc lo offs) d x = ((pc : Int) + o).toNat
  | [], lo, x, i, o, _, _, h, _ => by simp at h
  | o' :: r, lo, x, 0, o, h0, h1, h2, h3 => by
    rw [List.length_cons] at h1
    have e : x = Int32.ofInt lo := Int32.toInt_inj.mp (by rw [h3, axToInt (by omega) (by omega)]; simp)
    show (if x = Int32.ofInt lo then ((pc : Int) + o').toNat else _) = _
    rw [if_pos e]
    simp only [List.getElem?_cons_zero, Option.some.injEq] at h2
    rw [h2]
  | o' :: r, lo, x, i + 1, o, h0, h1, h2, h3 => by
    rw [List.length_cons] at h1
    rw [List.getElem?_cons_succ] at h2
    have hne : ¬ x = Int32.ofInt lo := by
      intro e
      have : x.toInt = lo := by rw [e]; exact axToInt (by omega) (by omega)
      omega
    show (if x = Int32.ofInt lo then _ else axSw (axSwT pc (lo + 1) r) d x) = _
    rw [if_neg hne]
    exact axSwT_in r (lo + 1) x i o (by omega) (by omega) h2 (by omega)
theorem axSwL_ok {pc : Nat} {d : Int} (hd : 0 ≤ (pc : Int) + d) : ∀ (ps : List (Int × Int)) (x : Int32), (ps.all fun o => decide (0 ≤ (pc : Int) + o.2 ∧ -1000 < o.1 ∧ o.1 < 1000)) = true → 0 ≤ (pc : Int) + Op.lookupswitch.offset ps d x.toInt ∧ axSw (axSwL pc ps) ((pc : Int) + d).toNat x = ((pc : Int) + Op.lookupswitch.offset ps d x.toInt).toNat
  | [], x, _ => ⟨hd, rfl⟩
  | (a, o) :: r, x, h => by
    rw [List.all_cons, Bool.and_eq_true, decide_eq_true_eq] at h
    have ih := axSwL_ok hd r x h.2
    rw [Op.lookupswitch.offset_cons]
    have ht : (Int32.ofInt a).toInt = a := axToInt (by omega) (by omega)
    by_cases e : x = Int32.ofInt a
    · have e1 : a = x.toInt := by rw [e, ht]
      rw [if_pos e1]
      refine ⟨h.1.1, ?_⟩
      show (if x = Int32.ofInt a then _ else _) = _
      rw [if_pos e]
    · have e1 : ¬ a = x.toInt := fun q => e (Int32.toInt_inj.mp (by rw [ht, q]))
      rw [if_neg e1]
      refine ⟨ih.1, ?_⟩
      show (if x = Int32.ofInt a then _ else axSw (axSwL pc r) _ x) = _
      rw [if_neg e]
      exact ih.2
/-- what is known of the calls: the heap grows, and the contract of the method holds -/
def axHE (E : axCall) (l : Launch) (dd : Nat) (b : Nat) (rb : Nat → Nat) (ca : Nat → ClassId) (D : va_G) (ro : axRo) : Prop := ∀ z vs h r h1, E z vs h r h1 → (h.length ≤ h1.length ∧ axSl h ≤ axSl h1) ∧ ∀ M, axMs[z]? = some M → Met l M.1 (axWM M) (axRm dd (h1.length - h.length) (axSl h1 - axSl h)) (axPc b rb ca D ro vs h) (axQc b rb ca D ro r h1) (h1.length - h.length) (axSl h1 - axSl h) (fun q : Nat => b ≤ q)
theorem axGI {M : axM} (hM : axGood M) {ws : List Cond} (h : ∀ w ∈ ws, w ∈ lw_tbl ∧ goodWord w = true) : GoodIn axTW (ws ++ axWM M) := by
  intro w hw
  rcases List.mem_append.mp hw with q | q
  · exact goodIn_one (big := []) (h w q).1 (h w q).2
  · exact axWM_good hM w q
section AX9
variable {p : Program} {l : Launch} {e : Env} {R : Room} {s : State} {m : MethodId} {args : Array Value} {below : List Frame} {meth : Method} {c : Code} {b : Nat} {rb : Nat → Nat} {ca : Nat → ClassId} {D : va_G} {ro : axRo} {QQ : State → Prop} {cc : ByteArray} {nL n0 s0 o : Nat} {pc : Nat} {L : axL} {S : List Value} {h : axH} {K : Nat → axL → List Value → axH → Prop} {Q : Option Value → axH → Prop} {E : axCall} {ent : axE} {ini : Bool} {rt len dd : Nat}
theorem axW_call {h2 : axH} {r : Option Value} {rest st0 : List Value} {a : Array Value} {H : Heap} {locs : List Loc} {ls : Array Slot} (hs : b ≤ s.heap.size) (l1 : h.length ≤ h2.length) (l2 : axSl h ≤ axSl h2) (g1 : n0 ≤ h.length) (g2 : s0 ≤ axSl h) (hS : va_S (fun q : Nat => b ≤ q) s.heap H locs) (hL : axLr b rb L ls nL)
    (hr : va_Run p l e R s m args below meth c H locs (h.length - n0) (axSl h - s0) (h2.length - h.length) (axSl h2 - axSl h) (F0 m pc ls st0) (rest.map (axCv b rb)) (axQc b rb ca D ro r h2 a) (fun q : Nat => b ≤ q))
    (hW : axWW p l e R s m args below meth c b rb ca D QQ nL n0 s0 (pc + 3) L (r.toList ++ rest) h2) : W p l e R s m args below meth c H locs (h.length - n0) (axSl h - s0) QQ (F0 m pc ls st0) := by
  intro T hT X
  obtain ⟨v, st₀, t, T', Lc, h0, X', hLc, e1, e2, ⟨hv, hRep, hF⟩, st⟩ := hr T hT X
  cases hv
  obtain ⟨f1, f2⟩ := hF
  rw [h0] at f1 f2
  obtain ⟨r1, r2, -, -⟩ := hRep
  have hS' : va_S (fun q : Nat => b ≤ q) s.heap T'.heap (locs ++ Lc) := by
    refine ⟨by rw [e1]; exact Nat.le_trans hS.1 f1, fun q q1 q2 => ?_, fun q hq => ?_⟩
    · rw [e1, f2 q (Nat.lt_of_lt_of_le q1 hS.1) q2]
      exact hS.2.1 q q1 q2
    · rcases List.mem_append.mp hq with z | z
      · exact hS.2.2 q z
      · exact hLc q z
  have hw := hW (by omega) (by omega) T'.heap (locs ++ Lc) ls ⟨by rw [e1]; exact r1, by rw [e1]; exact r2, hS'⟩ hL
  have e3 : (r.toList ++ rest).map (axCv b rb) = (r.map (axCv b rb)).toList ++ rest.map (axCv b rb) := by cases r <;> rfl
  rw [e3, show h2.length - n0 = h.length - n0 + (h2.length - h.length) by omega, show axSl h2 - s0 = axSl h - s0 + (axSl h2 - axSl h) by omega] at hw
  obtain ⟨t2, a1, b1⟩ := hw T' rfl X'
  exact ⟨t2, st t2 a1, b1⟩
theorem axBlind {vs : List Value} : FrameBlind (axPc b rb ca D ro vs h) := fun a U g mk q => ⟨q.1, axRep_calling g mk a q.2⟩

theorem sx_tableswitch (d lo hi : Int) (offs : Array Int) (F : axFx p s m args meth c b rb ca D ro cc nL o) (hn : s.heap.size = b + n0) (hE : axHE E l dd b rb ca D ro) (hR : dd + 1 ≤ R.frames ∧ 36 * (dd + 1) ≤ R.locals) (hcap : ∀ pc' L' S' h', K pc' L' S' h' → h'.length - n0 ≤ R.cells ∧ axSl h' - s0 ≤ R.slots) (hd : decode cc pc = .ok (.tableswitch d lo hi offs, len)) (ht : axTr o ini rt pc (.tableswitch d lo hi offs) len = some ent) (h1 : axOne ro E ent L S h K Q) (hK : ∀ pc' L' S' h', K pc' L' S' h' → axWW p l e R s m args below meth c b rb ca D QQ nL n0 s0 pc' L' S' h') : axWW p l e R s m args below meth c b rb ca D QQ nL n0 s0 pc L S h := by
  simp only [axTr] at ht
  split at ht
  · rename_i hq
    obtain ⟨q1, q2, q3, q4, q5⟩ := hq
    have ht := (Option.some.inj ht).symm
    subst ht
    obtain ⟨x, S', rfl, hk⟩ := h1
    have hlen : offs.toList.length = offs.size := Array.length_toList
    intro g1 g2 H locs ls hI hL
    by_cases hx : x.toInt < lo ∨ hi < x.toInt
    · rw [axSwT_out offs.toList lo x q1 (by omega) (by omega)] at hk
      exact lv_tableOut F.1 F.2.1 hd hx (Int.toNat_of_nonneg q4).symm (hK _ _ _ _ hk g1 g2 H locs ls hI hL)
    · have hi' : (x.toInt - lo).toNat < offs.size := by omega
      have ho : offs[(x.toInt - lo).toNat]? = some offs[(x.toInt - lo).toNat] := Array.getElem?_eq_getElem hi'
      have ho' : offs.toList[(x.toInt - lo).toNat]? = some offs[(x.toInt - lo).toNat] := by rw [Array.getElem?_toList]; exact ho
      rw [axSwT_in offs.toList lo x _ _ q1 (by omega) ho' (by omega)] at hk
      have hz := List.all_eq_true.mp q5 _ (List.mem_of_getElem? ho')
      rw [decide_eq_true_eq] at hz
      exact lv_tableIn F.1 F.2.1 hd (by omega) (by omega) ho (Int.toNat_of_nonneg hz).symm (hK _ _ _ _ hk g1 g2 H locs ls hI hL)
  · cases ht
theorem sx_lookupswitch (d : Int) (ps : Array (Int × Int)) (F : axFx p s m args meth c b rb ca D ro cc nL o) (hn : s.heap.size = b + n0) (hE : axHE E l dd b rb ca D ro) (hR : dd + 1 ≤ R.frames ∧ 36 * (dd + 1) ≤ R.locals) (hcap : ∀ pc' L' S' h', K pc' L' S' h' → h'.length - n0 ≤ R.cells ∧ axSl h' - s0 ≤ R.slots) (hd : decode cc pc = .ok (.lookupswitch d ps, len)) (ht : axTr o ini rt pc (.lookupswitch d ps) len = some ent) (h1 : axOne ro E ent L S h K Q) (hK : ∀ pc' L' S' h', K pc' L' S' h' → axWW p l e R s m args below meth c b rb ca D QQ nL n0 s0 pc' L' S' h') : axWW p l e R s m args below meth c b rb ca D QQ nL n0 s0 pc L S h := by
  simp only [axTr] at ht
  split at ht
  · rename_i hq
    obtain ⟨q1, q2, q3⟩ := hq
    have ht := (Option.some.inj ht).symm
    subst ht
    obtain ⟨x, S', rfl, hk⟩ := h1
    obtain ⟨z1, z2⟩ := axSwL_ok q2 ps.toList x q3
    rw [z2] at hk
    intro g1 g2 H locs ls hI hL
    exact lv_lookup F.1 F.2.1 hd q1 rfl (Int.toNat_of_nonneg z1).symm (hK _ _ _ _ hk g1 g2 H locs ls hI hL)
  · cases ht
theorem sx_invokevirtual (i : Nat) (F : axFx p s m args meth c b rb ca D ro cc nL o) (hn : s.heap.size = b + n0) (hE : axHE E l dd b rb ca D ro) (hR : dd + 1 ≤ R.frames ∧ 36 * (dd + 1) ≤ R.locals) (hcap : ∀ pc' L' S' h', K pc' L' S' h' → h'.length - n0 ≤ R.cells ∧ axSl h' - s0 ≤ R.slots) (hd : decode cc pc = .ok (.invokevirtual i, len)) (ht : axTr o ini rt pc (.invokevirtual i) len = some ent) (h1 : axOne ro E ent L S h K Q) (hK : ∀ pc' L' S' h', K pc' L' S' h' → axWW p l e R s m args below meth c b rb ca D QQ nL n0 s0 pc' L' S' h') : axWW p l e R s m args below meth c b rb ca D QQ nL n0 s0 pc L S h := by
  rcases hq0 : axFnd o i axMlT with _ | ⟨kind, z, n, ci, w⟩
  · simp only [axTr, hq0] at ht
    cases ht
  · cases kind with
    | succ k => simp only [axTr, hq0] at ht; cases ht
    | zero =>
      simp only [axTr, hq0] at ht
      obtain ⟨rfl, rfl⟩ := axI_ok ht
      obtain ⟨ci', As, k0, rest, fs, r, h2, ea, rfl, hAs, hsum, hc, hEv, hk⟩ := h1
      cases ea
      obtain ⟨M, hM, w1, w2, w3, hcls, hpn, hci⟩ := axMlT_ok _ (axFnd_mem _ hq0)
      obtain ⟨⟨l1, l2⟩, hMet⟩ := hE _ _ _ _ _ hEv
      have hMM := hMet M hM
      have hG := axMs_ok M (List.mem_of_getElem? hM)
      have hG' := hG
      obtain ⟨-, G2, -, G4, -, G6, -, -⟩ := hG'
      have hcp := hcap _ _ _ _ hk
      
      intro g1 g2 H locs ls hI hL
      refine axW_call (r := r) (h2 := h2) (rest := rest) (ca := ca) (ro := ro) (D := D) F.2.2.2.2.2.2.2 l1 l2 g1 g2 hI.2.2 hL (va_runV (As := As.map (axCv b rb)) (C := M.1.cls) (b := b + k0) ⟨F.1, F.2.1, F.2.2.1, F.2.2.2.1, F.2.2.2.2.1⟩ hMM (cwV n F.2.2.2.2.1 (axGI hG ?_) rfl rfl rfl ⟨rfl, G6.1, G6.2, hpn⟩ ⟨by show dd + 1 ≤ R.frames; exact hR.1, by show 8 + (M.2.2.1 + 11) + 36 * dd ≤ R.locals; omega⟩) ⟨axBlind, ?_, fun U hU hW => ⟨rfl, axRep_at hW hU F.2.2.2.2.2.1 F.2.2.2.2.2.2.2 F.2.2.2.2.2.2.1 hI⟩⟩ rfl (by rw [List.length_map]; exact hAs) hL.2.1 (by simp [List.map_reverse, axCv]) (by show 2 * 0 + _ ≤ 8; rw [axCv_sum]; omega) hd ⟨by omega, by omega⟩) (hK _ _ _ _ hk)
      · intro w hw
        simp only [List.mem_cons, List.not_mem_nil, or_false] at hw
        rcases hw with rfl | rfl | rfl | rfl
        · exact ⟨w1, rfl⟩
        · exact ⟨w2, rfl⟩
        · exact ⟨w3, rfl⟩
        · exact ⟨G2, rfl⟩
      · have hz := va_recv F.2.2.2.2.2.1 hI.2.1 (axClOk ci hci) (axWs_at hc)
        rw [hcls]
        exact hz
theorem sx_invokestatic (i : Nat) (F : axFx p s m args meth c b rb ca D ro cc nL o) (hn : s.heap.size = b + n0) (hE : axHE E l dd b rb ca D ro) (hR : dd + 1 ≤ R.frames ∧ 36 * (dd + 1) ≤ R.locals) (hcap : ∀ pc' L' S' h', K pc' L' S' h' → h'.length - n0 ≤ R.cells ∧ axSl h' - s0 ≤ R.slots) (hd : decode cc pc = .ok (.invokestatic i, len)) (ht : axTr o ini rt pc (.invokestatic i) len = some ent) (h1 : axOne ro E ent L S h K Q) (hK : ∀ pc' L' S' h', K pc' L' S' h' → axWW p l e R s m args below meth c b rb ca D QQ nL n0 s0 pc' L' S' h') : axWW p l e R s m args below meth c b rb ca D QQ nL n0 s0 pc L S h := by
  rcases hq0 : axFnd o i axMlT with _ | ⟨kind, z, n, ci, w⟩
  · simp only [axTr, hq0] at ht
    cases ht
  · match kind, hq0 with
    | 1, hq0 =>
      simp only [axTr, hq0] at ht
      obtain ⟨rfl, rfl⟩ := axI_ok ht
      obtain ⟨As, rest, r, h2, rfl, hAs, hsum, hEv, hk⟩ := h1
      obtain ⟨M, hM, w1, w2, hcls, hpn⟩ := axMlT_ok _ (axFnd_mem _ hq0)
      obtain ⟨⟨l1, l2⟩, hMet⟩ := hE _ _ _ _ _ hEv
      have hMM := hMet M hM
      have hG := axMs_ok M (List.mem_of_getElem? hM)
      have hG' := hG
      obtain ⟨-, G2, -, G4, -, G6, -, -⟩ := hG'
      have hcp := hcap _ _ _ _ hk
      intro g1 g2 H locs ls hI hL
      refine axW_call (r := r) (h2 := h2) (rest := rest) (ca := ca) (ro := ro) (D := D) F.2.2.2.2.2.2.2 l1 l2 g1 g2 hI.2.2 hL (va_runS (As := As.map (axCv b rb)) ⟨F.1, F.2.1, F.2.2.1, F.2.2.2.1, F.2.2.2.2.1⟩ hMM (va_cwS n F.2.2.2.2.1 (axGI hG ?_) rfl rfl rfl ⟨G6.1, G6.2, hpn⟩ ⟨by show dd + 1 ≤ R.frames; exact hR.1, by show 8 + (M.2.2.1 + 11) + 36 * dd ≤ R.locals; omega⟩) ⟨axBlind, fun U hU hW => ⟨rfl, axRep_at hW hU F.2.2.2.2.2.1 F.2.2.2.2.2.2.2 F.2.2.2.2.2.2.1 hI⟩⟩ rfl (by rw [List.length_map]; exact hAs) hL.2.1 (by simp [List.map_reverse, axCv]) (by show 2 * 0 + _ ≤ 8; rw [axCv_sum]; omega) hd ⟨by omega, by omega⟩) (hK _ _ _ _ hk)
      intro w hw
      simp only [List.mem_cons, List.not_mem_nil, or_false] at hw
      rcases hw with rfl | rfl | rfl
      · exact ⟨w1, rfl⟩
      · exact ⟨w2, rfl⟩
      · exact ⟨G2, rfl⟩
    | 2, hq0 =>
      simp only [axTr, hq0] at ht
      obtain ⟨rfl, rfl⟩ := axI_ok ht
      obtain ⟨As, rest, r, h2, rfl, hAs, hsum, hEv, hk⟩ := h1
      obtain ⟨M, hM, w1, w2, hpn⟩ := axMlT_ok _ (axFnd_mem _ hq0)
      obtain ⟨⟨l1, l2⟩, hMet⟩ := hE _ _ _ _ _ hEv
      have hMM := hMet M hM
      have hG := axMs_ok M (List.mem_of_getElem? hM)
      have hG' := hG
      obtain ⟨-, G2, -, G4, -, G6, -, -⟩ := hG'
      have hcp := hcap _ _ _ _ hk
      have hnw := F.2.2.2.2.2.2.1.2.2.2.1 _ w1 rfl
      intro g1 g2 H locs ls hI hL
      exact axW_call (r := r) (h2 := h2) (rest := rest) (ca := ca) (ro := ro) (D := D) F.2.2.2.2.2.2.2 l1 l2 g1 g2 hI.2.2 hL (va_runSN (As := As.map (axCv b rb)) ⟨F.1, F.2.1, F.2.2.1, F.2.2.2.1, F.2.2.2.2.1⟩ hMM ⟨va_cnB n F.2.2.2.2.1 (axWM_good hG) rfl rfl rfl hnw (F.2.2.2.2.1 _ (axTW_mem G2 rfl)) ⟨G6.1, G6.2, hpn⟩ ⟨by show dd + 1 ≤ R.frames; exact hR.1, by show 8 + (M.2.2.1 + 11) + 36 * dd ≤ R.locals; omega⟩, F.2.2.2.2.1 _ (axTW_mem w2 rfl), trivial⟩ ⟨axBlind, fun U hU hW => ⟨rfl, axRep_at hW hU F.2.2.2.2.2.1 F.2.2.2.2.2.2.2 F.2.2.2.2.2.2.1 hI⟩⟩ rfl (by rw [List.length_map]; exact hAs) hL.2.1 (by simp [List.map_reverse, axCv]) (by show 2 * 0 + _ ≤ 8; rw [axCv_sum]; omega) hd ⟨by omega, by omega⟩) (hK _ _ _ _ hk)
    | 3, hq0 =>
      simp only [axTr, hq0] at ht
      obtain ⟨rfl, rfl⟩ := axI_ok ht
      obtain ⟨As, rest, r, h2, rfl, hAs, hsum, hEv, hk⟩ := h1
      obtain ⟨M, hM, w1, w2, hpn⟩ := axMlT_ok _ (axFnd_mem _ hq0)
      obtain ⟨⟨l1, l2⟩, hMet⟩ := hE _ _ _ _ _ hEv
      have hMM := hMet M hM
      have hG := axMs_ok M (List.mem_of_getElem? hM)
      have hG' := hG
      obtain ⟨-, G2, -, G4, -, G6, -, -⟩ := hG'
      have hcp := hcap _ _ _ _ hk
      intro g1 g2 H locs ls hI hL
      refine axW_call (r := r) (h2 := h2) (rest := rest) (ca := ca) (ro := ro) (D := D) F.2.2.2.2.2.2.2 l1 l2 g1 g2 hI.2.2 hL (va_runS (As := As.map (axCv b rb)) ⟨F.1, F.2.1, F.2.2.1, F.2.2.2.1, F.2.2.2.2.1⟩ hMM (va_cwS n F.2.2.2.2.1 (axGI hG ?_) rfl rfl rfl ⟨G6.1, G6.2, hpn⟩ ⟨by show dd + 1 ≤ R.frames; exact hR.1, by show 8 + (M.2.2.1 + 11) + 36 * dd ≤ R.locals; omega⟩) ⟨axBlind, fun U hU hW => ⟨rfl, axRep_at hW hU F.2.2.2.2.2.1 F.2.2.2.2.2.2.2 F.2.2.2.2.2.2.1 hI⟩⟩ rfl (by rw [List.length_map]; exact hAs) hL.2.1 (by simp [List.map_reverse, axCv]) (by show 2 * 0 + _ ≤ 8; rw [axCv_sum]; omega) hd ⟨by omega, by omega⟩) (hK _ _ _ _ hk)
      intro w hw
      simp only [List.mem_cons, List.not_mem_nil, or_false] at hw
      rcases hw with rfl | rfl | rfl
      · exact ⟨w1, rfl⟩
      · exact ⟨w2, rfl⟩
      · exact ⟨G2, rfl⟩
    | 4, hq0 =>
      simp only [axTr, hq0] at ht
      obtain ⟨rfl, rfl⟩ := axI_ok ht
      have w1 := axMlT_ok _ (axFnd_mem _ hq0)
      obtain ⟨n, dp, k1, sp, k0, rest, n0', n1, f, g, rfl, hc0, hc1, q1, q2, q3, q4, q5, hsum, hk⟩ := h1
      intro g1 g2 H locs ls hI hL
      refine va_copyi F.1 F.2.1 (F.2.2.1.trans hL.2.1.symm) F.2.2.2.1 (F.2.2.2.2.1 _ (axTW_mem w1 rfl)) (F.2.2.2.2.1 _ (axTW_mem axW_native rfl)) (F.2.2.2.2.1 _ (axTW_mem axW_statac rfl)) (F.2.2.2.2.1 _ (axTW_mem axW_sys rfl)) F.2.2.2.2.2.1 hI.2.1 (axWs_D h) hI.2.2 k0 k1 0 0 (axWs_at hc0) (axWs_at hc1) rfl rfl rfl q1 q2 q3 q4 q5 (fun _ _ => rfl) (by omega) (by rw [axCv_sum, show nativeFrameWords "java/lang/System" "arraycopy" 5 = 7 by decide +kernel]; omega) hd (fun H1 locs1 hP1 hD1 hS1 => ?_)
      refine axWW_set hn hc1 (x := .inl (0, n1, va_cpy f g sp.toNatClampNeg dp.toNatClampNeg n.toNatClampNeg)) rfl (hK _ _ _ _ hk) g1 g2 ?_ hS1 hL
      rw [axWs_set]
      exact hP1
    | 5, hq0 =>
      simp only [axTr, hq0] at ht
      obtain ⟨rfl, rfl⟩ := axI_ok ht
      have w1 := axMlT_ok _ (axFnd_mem _ hq0)
      obtain ⟨x, y, S', rfl, hsum, hk⟩ := h1
      have hcz := hcap _ _ _ _ hk
      intro g1 g2 H locs ls hI hL
      exact va_mmax F.1 F.2.1 (F.2.2.1.trans hL.2.1.symm) F.2.2.2.1 (F.2.2.2.2.1 _ (axTW_mem w1 rfl)) (F.2.2.2.2.1 _ (axTW_mem axW_stmax rfl)) (F.2.2.2.2.1 _ (axTW_mem axW_math rfl)) (F.2.2.2.2.1 _ (axTW_mem axW_cdmax rfl)) (by omega) (by rw [axCv_sum]; omega) hcz.1 hcz.2 hd (hK _ _ _ _ hk g1 g2 H locs ls hI hL)
    | 6, hq0 =>
      simp only [axTr, hq0] at ht
      obtain ⟨rfl, rfl⟩ := axI_ok ht
      have w1 := axMlT_ok _ (axFnd_mem _ hq0)
      obtain ⟨x, y, S', rfl, hsum, hk⟩ := h1
      have hcz := hcap _ _ _ _ hk
      intro g1 g2 H locs ls hI hL
      exact va_mmin F.1 F.2.1 (F.2.2.1.trans hL.2.1.symm) F.2.2.2.1 (F.2.2.2.2.1 _ (axTW_mem w1 rfl)) (F.2.2.2.2.1 _ (axTW_mem axW_stmin rfl)) (F.2.2.2.2.1 _ (axTW_mem axW_math rfl)) (F.2.2.2.2.1 _ (axTW_mem axW_cdmin rfl)) (by omega) (by rw [axCv_sum]; omega) hcz.1 hcz.2 hd (hK _ _ _ _ hk g1 g2 H locs ls hI hL)
    | 7, hq0 =>
      simp only [axTr, hq0] at ht
      obtain ⟨rfl, rfl⟩ := axI_ok ht
      have w1 := axMlT_ok _ (axFnd_mem _ hq0)
      obtain ⟨x, S', rfl, hsum, hk⟩ := h1
      have hcz := hcap _ _ _ _ hk
      intro g1 g2 H locs ls hI hL
      exact va_mabs F.1 F.2.1 (F.2.2.1.trans hL.2.1.symm) F.2.2.2.1 (F.2.2.2.2.1 _ (axTW_mem w1 rfl)) (F.2.2.2.2.1 _ (axTW_mem axW_stabs rfl)) (F.2.2.2.2.1 _ (axTW_mem axW_math rfl)) (F.2.2.2.2.1 _ (axTW_mem axW_cdabs rfl)) (by omega) (by rw [axCv_sum]; omega) hcz.1 hcz.2 hd (hK _ _ _ _ hk g1 g2 H locs ls hI hL)
    | 0, hq0 => simp only [axTr, hq0] at ht; cases ht
    | k + 8, hq0 => simp only [axTr, hq0] at ht; cases ht
theorem sx_invokespecial (i : Nat) (F : axFx p s m args meth c b rb ca D ro cc nL o) (hn : s.heap.size = b + n0) (hE : axHE E l dd b rb ca D ro) (hR : dd + 1 ≤ R.frames ∧ 36 * (dd + 1) ≤ R.locals) (hcap : ∀ pc' L' S' h', K pc' L' S' h' → h'.length - n0 ≤ R.cells ∧ axSl h' - s0 ≤ R.slots) (hd : decode cc pc = .ok (.invokespecial i, len)) (ht : axTr o ini rt pc (.invokespecial i) len = some ent) (h1 : axOne ro E ent L S h K Q) (hK : ∀ pc' L' S' h', K pc' L' S' h' → axWW p l e R s m args below meth c b rb ca D QQ nL n0 s0 pc' L' S' h') : axWW p l e R s m args below meth c b rb ca D QQ nL n0 s0 pc L S h := by
  rcases hq0 : axFnd o i axMlT with _ | ⟨kind, z, n, ci, w⟩
  · simp only [axTr, hq0] at ht
    cases ht
  · match kind, hq0 with
    | 8, hq0 =>
      simp only [axTr, hq0] at ht
      obtain ⟨rfl, rfl⟩ := axI_ok ht
      obtain ⟨As, k0, rest, r, h2, rfl, hAs, hsum, hEv, hk⟩ := h1
      obtain ⟨M, hM, w1, w2, hnm, hpn, hret⟩ := axMlT_ok _ (axFnd_mem _ hq0)
      obtain ⟨⟨l1, l2⟩, hMet⟩ := hE _ _ _ _ _ hEv
      have hMM := hMet M hM
      have hG := axMs_ok M (List.mem_of_getElem? hM)
      have hG' := hG
      obtain ⟨-, G2, -, G4, -, G6, -, -⟩ := hG'
      have hcp := hcap _ _ _ _ hk
      
      intro g1 g2 H locs ls hI hL
      exact axW_call (r := r) (h2 := h2) (rest := rest) (ca := ca) (ro := ro) (D := D) F.2.2.2.2.2.2.2 l1 l2 g1 g2 hI.2.2 hL (va_runI (As := As.map (axCv b rb)) (b := b + k0) ⟨F.1, F.2.1, F.2.2.1, F.2.2.2.1, F.2.2.2.2.1⟩ hMM (cwI n F.2.2.2.2.1 (axWM_good hG) (by unfold axWM; rw [hret]) rfl rfl (F.2.2.2.2.1 _ (axTW_mem G2 rfl)) (F.2.2.2.2.1 _ (axTW_mem w1 rfl)) (F.2.2.2.2.1 _ (axTW_mem w2 rfl)) hnm ⟨G6.1, G6.2, hpn⟩ ⟨by show dd + 1 ≤ R.frames; exact hR.1, by show 8 + (M.2.2.1 + 11) + 36 * dd ≤ R.locals; omega⟩) ⟨axBlind, fun U hU hW => ⟨rfl, axRep_at hW hU F.2.2.2.2.2.1 F.2.2.2.2.2.2.2 F.2.2.2.2.2.2.1 hI⟩⟩ rfl (by rw [List.length_map]; exact hAs) hL.2.1 (by simp [List.map_reverse, axCv]) (by show 2 * 0 + _ ≤ 8; rw [axCv_sum]; omega) hd ⟨by omega, by omega⟩) (hK _ _ _ _ hk)
    | 9, hq0 =>
      simp only [axTr, hq0] at ht
      obtain ⟨rfl, rfl⟩ := axI_ok ht
      obtain ⟨k0, rest, rfl, hsum, hk⟩ := h1
      have w1 := axMlT_ok _ (axFnd_mem _ hq0)
      intro g1 g2 H locs ls hI hL
      exact W.objInit F.1 F.2.1 F.2.2.2.1 (F.2.2.2.2.1 _ (axTW_mem w1 rfl)) (F.2.2.2.2.1 _ (axTW_mem axW_obj rfl)) (F.2.2.2.2.1 _ (axTW_mem axW_objc rfl)) rfl (hL.2.1.trans F.2.2.1.symm) rfl hd (by omega) (by show 2 * 0 + _ + 12 ≤ _; rw [axCv_sum]; omega) (hK _ _ _ _ hk g1 g2 H locs ls hI hL)
    | 0, hq0 => simp only [axTr, hq0] at ht; cases ht
    | 1, hq0 => simp only [axTr, hq0] at ht; cases ht
    | 2, hq0 => simp only [axTr, hq0] at ht; cases ht
    | 3, hq0 => simp only [axTr, hq0] at ht; cases ht
    | 4, hq0 => simp only [axTr, hq0] at ht; cases ht
    | 5, hq0 => simp only [axTr, hq0] at ht; cases ht
    | 6, hq0 => simp only [axTr, hq0] at ht; cases ht
    | 7, hq0 => simp only [axTr, hq0] at ht; cases ht
    | k + 10, hq0 => simp only [axTr, hq0] at ht; cases ht
end AX9
