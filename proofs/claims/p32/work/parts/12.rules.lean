/-! RULES of the abstract machine, for proofs: a run of simple steps at once (wp_run), then an instruction a rule. -/
def axS1 (cd : List axE) (pc : Nat) (L : axL) (S : List Value) (h : axH) : Option (Nat × axL × List Value) :=
  match axF cd pc with
  | some (_, op, a, b, c, _, nx) =>
    bif Nat.blt op 32 then
      match axStp op a b L S with
      | some (L', S') => some (nx, L', S')
      | none => none
    else match op with
      | 36 => match S with
        | .ref k :: S' => match h[k]? with
          | some (.inr (.inr (b', fs))) => bif Nat.beq b' b then
              match fs[c]? with
              | some v => some (nx, L, v :: S')
              | none => none
            else none
          | _ => none
        | _ => none
      | 38 => some (nx, L, .retAddr b :: S)
      | 39 => match S with
        | .ref k :: S' => match h[k]? with
          | some (.inl (ki, n, _)) => bif Nat.blt ki 3 then some (nx, L, .int (Int32.ofNat n) :: S') else none
          | some (.inr (.inl (n, _))) => some (nx, L, .int (Int32.ofNat n) :: S')
          | _ => none
        | _ => none
      | _ => none
  | none => none
/-- as many of these steps as there are, f at most -/
def axRn (cd : List axE) (h : axH) : Nat → Nat → axL → List Value → Nat × axL × List Value
  | 0, pc, L, S => (pc, L, S)
  | f + 1, pc, L, S => match axS1 cd pc L S h with
    | some (pc', L', S') => axRn cd h f pc' L' S'
    | none => (pc, L, S)
section AX12
variable {ro : axRo} {E : axCall} {cd : List axE} {pc : Nat} {L : axL} {S : List Value} {h h1 : axH} {Q : Option Value → axH → Prop} {p0 b c nx : Nat} {a : Value} {tb : List (Int32 × Nat)}
theorem wp_one {e : axE} (hf : axF cd pc = some e) (h1 : ∃ n, axOne ro E e L S h (fun pc' L' S' h' => axWn ro E cd n pc' L' S' h' Q) Q) : axW ro E cd pc L S h Q := by
  obtain ⟨n, h1⟩ := h1
  exact ⟨n + 1, e, hf, h1⟩
theorem axOne_simple {op : Nat} (h32 : op < 32) {K : Nat → axL → List Value → axH → Prop} {q : axL × List Value} (hq : axStp op a b L S = some q) (hk : K nx q.1 q.2 h) : axOne ro E (p0, op, a, b, c, tb, nx) L S h K Q := by
  dsimp only [axOne]
  split <;> first | (exfalso; omega) | exact ⟨q, hq, hk⟩
theorem axS1_ok {q : Nat × axL × List Value} (hs : axS1 cd pc L S h = some q) (k : axW ro E cd q.1 q.2.1 q.2.2 h Q) : axW ro E cd pc L S h Q := by
  obtain ⟨n, k⟩ := k
  unfold axS1 at hs
  cases hf : axF cd pc with
  | none => rw [hf] at hs; cases hs
  | some e =>
    obtain ⟨p0, op, a, b, c, tb, nx⟩ := e
    rw [hf] at hs
    dsimp only at hs
    refine wp_one hf ⟨n, ?_⟩
    cases h32 : Nat.blt op 32 with
    | true =>
      rw [h32, cond_true] at hs
      split at hs
      · rename_i L' S' hst
        cases hs
        exact axOne_simple (Nat.le_of_ble_eq_true h32) hst k
      · cases hs
    | false =>
      rw [h32, cond_false] at hs
      split at hs
      · split at hs
        · rename_i k0 S'
          split at hs
          · rename_i b' fs hh
            cases hb : Nat.beq b' b with
            | false => rw [hb] at hs; cases hs
            | true =>
              rw [hb, cond_true] at hs
              have e := Nat.eq_of_beq_eq_true hb
              subst e
              split at hs
              · rename_i v hv
                cases hs
                exact ⟨k0, S', fs, v, rfl, hh, hv, k⟩
              · cases hs
          · cases hs
        · cases hs
      · cases hs
        exact k
      · split at hs
        · rename_i k0 S'
          split at hs
          · rename_i ki n f hh
            cases hb : Nat.blt ki 3 with
            | false => rw [hb] at hs; cases hs
            | true =>
              rw [hb, cond_true] at hs
              cases hs
              exact Or.inl ⟨k0, S', ki, n, f, rfl, hh, Nat.le_of_ble_eq_true hb, k⟩
          · rename_i n f hh
            cases hs
            exact Or.inr (Or.inl ⟨k0, S', n, f, rfl, hh, k⟩)
          · cases hs
        · cases hs
      · cases hs
theorem axRn_ok : ∀ (f pc : Nat) (L : axL) (S : List Value), axW ro E cd (axRn cd h f pc L S).1 (axRn cd h f pc L S).2.1 (axRn cd h f pc L S).2.2 h Q → axW ro E cd pc L S h Q
  | 0, pc, L, S, k => k
  | f + 1, pc, L, S, k => by
    unfold axRn at k
    cases hs : axS1 cd pc L S h with
    | none => rw [hs] at k; exact k
    | some q =>
      obtain ⟨pc', L', S'⟩ := q
      rw [hs] at k
      exact axS1_ok hs (axRn_ok f pc' L' S' k)
theorem wp_run {pc' : Nat} {L' : axL} {S' : List Value} (hr : axRn cd h 40 pc L S = (pc', L', S')) (k : axW ro E cd pc' L' S' h Q) : axW ro E cd pc L S h Q := axRn_ok 40 pc L S (by rw [hr]; exact k)
theorem wp_iceq {x y : Int32} (hf : axF cd pc = some (p0, 32, a, 0, c, tb, nx)) (ht : x = y → axW ro E cd c L S h Q) (hn : ¬ (x = y) → axW ro E cd nx L S h Q) : axW ro E cd pc L (.int y :: .int x :: S) h Q := by
  by_cases q : x = y
  · obtain ⟨n, k⟩ := ht q
    exact wp_one hf ⟨n, ⟨x, y, S, rfl, fun _ => k, fun z => absurd q z⟩⟩
  · obtain ⟨n, k⟩ := hn q
    exact wp_one hf ⟨n, ⟨x, y, S, rfl, fun z => absurd z q, fun _ => k⟩⟩
theorem wp_ifeq {x : Int32} (hf : axF cd pc = some (p0, 33, a, 0, c, tb, nx)) (ht : x = 0 → axW ro E cd c L S h Q) (hn : ¬ (x = 0) → axW ro E cd nx L S h Q) : axW ro E cd pc L (.int x :: S) h Q := by
  by_cases q : x = 0
  · obtain ⟨n, k⟩ := ht q
    exact wp_one hf ⟨n, ⟨x, S, rfl, fun _ => k, fun z => absurd q z⟩⟩
  · obtain ⟨n, k⟩ := hn q
    exact wp_one hf ⟨n, ⟨x, S, rfl, fun z => absurd z q, fun _ => k⟩⟩
theorem wp_icne {x y : Int32} (hf : axF cd pc = some (p0, 32, a, 1, c, tb, nx)) (ht : ¬ x = y → axW ro E cd c L S h Q) (hn : ¬ (¬ x = y) → axW ro E cd nx L S h Q) : axW ro E cd pc L (.int y :: .int x :: S) h Q := by
  by_cases q : ¬ x = y
  · obtain ⟨n, k⟩ := ht q
    exact wp_one hf ⟨n, ⟨x, y, S, rfl, fun _ => k, fun z => absurd q z⟩⟩
  · obtain ⟨n, k⟩ := hn q
    exact wp_one hf ⟨n, ⟨x, y, S, rfl, fun z => absurd z q, fun _ => k⟩⟩
theorem wp_ifne {x : Int32} (hf : axF cd pc = some (p0, 33, a, 1, c, tb, nx)) (ht : ¬ x = 0 → axW ro E cd c L S h Q) (hn : ¬ (¬ x = 0) → axW ro E cd nx L S h Q) : axW ro E cd pc L (.int x :: S) h Q := by
  by_cases q : ¬ x = 0
  · obtain ⟨n, k⟩ := ht q
    exact wp_one hf ⟨n, ⟨x, S, rfl, fun _ => k, fun z => absurd q z⟩⟩
  · obtain ⟨n, k⟩ := hn q
    exact wp_one hf ⟨n, ⟨x, S, rfl, fun z => absurd z q, fun _ => k⟩⟩
theorem wp_iclt {x y : Int32} (hf : axF cd pc = some (p0, 32, a, 2, c, tb, nx)) (ht : x < y → axW ro E cd c L S h Q) (hn : ¬ (x < y) → axW ro E cd nx L S h Q) : axW ro E cd pc L (.int y :: .int x :: S) h Q := by
  by_cases q : x < y
  · obtain ⟨n, k⟩ := ht q
    exact wp_one hf ⟨n, ⟨x, y, S, rfl, fun _ => k, fun z => absurd q z⟩⟩
  · obtain ⟨n, k⟩ := hn q
    exact wp_one hf ⟨n, ⟨x, y, S, rfl, fun z => absurd z q, fun _ => k⟩⟩
theorem wp_iflt {x : Int32} (hf : axF cd pc = some (p0, 33, a, 2, c, tb, nx)) (ht : x < 0 → axW ro E cd c L S h Q) (hn : ¬ (x < 0) → axW ro E cd nx L S h Q) : axW ro E cd pc L (.int x :: S) h Q := by
  by_cases q : x < 0
  · obtain ⟨n, k⟩ := ht q
    exact wp_one hf ⟨n, ⟨x, S, rfl, fun _ => k, fun z => absurd q z⟩⟩
  · obtain ⟨n, k⟩ := hn q
    exact wp_one hf ⟨n, ⟨x, S, rfl, fun z => absurd z q, fun _ => k⟩⟩
theorem wp_icge {x y : Int32} (hf : axF cd pc = some (p0, 32, a, 3, c, tb, nx)) (ht : y ≤ x → axW ro E cd c L S h Q) (hn : ¬ (y ≤ x) → axW ro E cd nx L S h Q) : axW ro E cd pc L (.int y :: .int x :: S) h Q := by
  by_cases q : y ≤ x
  · obtain ⟨n, k⟩ := ht q
    exact wp_one hf ⟨n, ⟨x, y, S, rfl, fun _ => k, fun z => absurd q z⟩⟩
  · obtain ⟨n, k⟩ := hn q
    exact wp_one hf ⟨n, ⟨x, y, S, rfl, fun z => absurd z q, fun _ => k⟩⟩
theorem wp_ifge {x : Int32} (hf : axF cd pc = some (p0, 33, a, 3, c, tb, nx)) (ht : 0 ≤ x → axW ro E cd c L S h Q) (hn : ¬ (0 ≤ x) → axW ro E cd nx L S h Q) : axW ro E cd pc L (.int x :: S) h Q := by
  by_cases q : 0 ≤ x
  · obtain ⟨n, k⟩ := ht q
    exact wp_one hf ⟨n, ⟨x, S, rfl, fun _ => k, fun z => absurd q z⟩⟩
  · obtain ⟨n, k⟩ := hn q
    exact wp_one hf ⟨n, ⟨x, S, rfl, fun z => absurd z q, fun _ => k⟩⟩
theorem wp_icgt {x y : Int32} (hf : axF cd pc = some (p0, 32, a, 4, c, tb, nx)) (ht : y < x → axW ro E cd c L S h Q) (hn : ¬ (y < x) → axW ro E cd nx L S h Q) : axW ro E cd pc L (.int y :: .int x :: S) h Q := by
  by_cases q : y < x
  · obtain ⟨n, k⟩ := ht q
    exact wp_one hf ⟨n, ⟨x, y, S, rfl, fun _ => k, fun z => absurd q z⟩⟩
  · obtain ⟨n, k⟩ := hn q
    exact wp_one hf ⟨n, ⟨x, y, S, rfl, fun z => absurd z q, fun _ => k⟩⟩
theorem wp_ifgt {x : Int32} (hf : axF cd pc = some (p0, 33, a, 4, c, tb, nx)) (ht : 0 < x → axW ro E cd c L S h Q) (hn : ¬ (0 < x) → axW ro E cd nx L S h Q) : axW ro E cd pc L (.int x :: S) h Q := by
  by_cases q : 0 < x
  · obtain ⟨n, k⟩ := ht q
    exact wp_one hf ⟨n, ⟨x, S, rfl, fun _ => k, fun z => absurd q z⟩⟩
  · obtain ⟨n, k⟩ := hn q
    exact wp_one hf ⟨n, ⟨x, S, rfl, fun z => absurd z q, fun _ => k⟩⟩
theorem wp_icle {x y : Int32} (hf : axF cd pc = some (p0, 32, a, 5, c, tb, nx)) (ht : x ≤ y → axW ro E cd c L S h Q) (hn : ¬ (x ≤ y) → axW ro E cd nx L S h Q) : axW ro E cd pc L (.int y :: .int x :: S) h Q := by
  by_cases q : x ≤ y
  · obtain ⟨n, k⟩ := ht q
    exact wp_one hf ⟨n, ⟨x, y, S, rfl, fun _ => k, fun z => absurd q z⟩⟩
  · obtain ⟨n, k⟩ := hn q
    exact wp_one hf ⟨n, ⟨x, y, S, rfl, fun z => absurd z q, fun _ => k⟩⟩
theorem wp_ifle {x : Int32} (hf : axF cd pc = some (p0, 33, a, 5, c, tb, nx)) (ht : x ≤ 0 → axW ro E cd c L S h Q) (hn : ¬ (x ≤ 0) → axW ro E cd nx L S h Q) : axW ro E cd pc L (.int x :: S) h Q := by
  by_cases q : x ≤ 0
  · obtain ⟨n, k⟩ := ht q
    exact wp_one hf ⟨n, ⟨x, S, rfl, fun _ => k, fun z => absurd q z⟩⟩
  · obtain ⟨n, k⟩ := hn q
    exact wp_one hf ⟨n, ⟨x, S, rfl, fun z => absurd z q, fun _ => k⟩⟩
theorem wp_nn {k : Nat} (hf : axF cd pc = some (p0, 34, a, b, c, tb, nx)) (ht : axW ro E cd c L S h Q) : axW ro E cd pc L (.ref k :: S) h Q := by
  obtain ⟨n, ht⟩ := ht
  exact wp_one hf ⟨n, Or.inl ⟨k, S, rfl, ht⟩⟩
theorem wp_nnN (hf : axF cd pc = some (p0, 34, a, b, c, tb, nx)) (ht : axW ro E cd nx L S h Q) : axW ro E cd pc L (.null :: S) h Q := by
  obtain ⟨n, ht⟩ := ht
  exact wp_one hf ⟨n, Or.inr ⟨S, rfl, ht⟩⟩
theorem wp_sw {x : Int32} (hf : axF cd pc = some (p0, 35, a, b, c, tb, nx)) (k : axW ro E cd (axSw tb c x) L S h Q) : axW ro E cd pc L (.int x :: S) h Q := by
  obtain ⟨n, k⟩ := k
  exact wp_one hf ⟨n, ⟨x, S, rfl, k⟩⟩
theorem wp_putf {v : Value} {k : Nat} {fs : List Value} (hf : axF cd pc = some (p0, 37, a, b, c, tb, nx)) (hh : h[k]? = some (.inr (.inr (b, fs)))) (hl : c < fs.length) (hv : axFit b c v) (hs : h.set k (.inr (.inr (b, fs.set c v))) = h1) (kk : axW ro E cd nx L S h1 Q) : axW ro E cd pc L (v :: .ref k :: S) h Q := by
  obtain ⟨n, kk⟩ := kk
  subst hs
  exact wp_one hf ⟨n, ⟨v, k, S, fs, rfl, hh, hl, hv, kk⟩⟩
theorem wp_putF {v : Value} {k : Nat} {fs : List Value} (hf : axF cd pc = some (p0, 60, a, b, c, tb, nx)) (hh : h[k]? = some (.inr (.inr (b, fs)))) (hl : c < fs.length) (hv : axFit b c v) (hs : h.set k (.inr (.inr (b, fs.set c v))) = h1) (kk : axW ro E cd nx L S h1 Q) : axW ro E cd pc L (v :: .ref k :: S) h Q := by
  obtain ⟨n, kk⟩ := kk
  subst hs
  exact wp_one hf ⟨n, ⟨v, k, S, fs, rfl, hh, hl, hv, kk⟩⟩
theorem wp_ald {i v : Int32} {k n0 : Nat} {f : Nat → Int32} (hf : axF cd pc = some (p0, 40, a, b, c, tb, nx)) (hh : h[k]? = some (.inl (b, n0, f))) (hi : vp_in i n0) (hv : f i.toNatClampNeg = v) (kk : axW ro E cd nx L (.int v :: S) h Q) : axW ro E cd pc L (.int i :: .ref k :: S) h Q := by
  obtain ⟨n, kk⟩ := kk
  subst hv
  exact wp_one hf ⟨n, Or.inl ⟨k, i, S, n0, f, rfl, hh, hi, kk⟩⟩
theorem wp_aldR {i v : Int32} {j : Nat} (hf : axF cd pc = some (p0, 40, a, 0, c, tb, nx)) (hj : j < 3) (hi : vp_in i (ro j).1) (hv : (ro j).2 i.toNatClampNeg = v) (kk : axW ro E cd nx L (.int v :: S) h Q) : axW ro E cd pc L (.int i :: .retAddr j :: S) h Q := by
  obtain ⟨n, kk⟩ := kk
  subst hv
  exact wp_one hf ⟨n, Or.inr ⟨rfl, j, i, S, rfl, hj, hi, kk⟩⟩
theorem wp_lenR {j : Nat} (hf : axF cd pc = some (p0, 39, a, b, c, tb, nx)) (hj : j < 3) (kk : axW ro E cd nx L (.int (Int32.ofNat (ro j).1) :: S) h Q) : axW ro E cd pc L (.retAddr j :: S) h Q := by
  obtain ⟨n, kk⟩ := kk
  exact wp_one hf ⟨n, Or.inr (Or.inr ⟨j, S, rfl, hj, kk⟩)⟩
theorem wp_aald {i : Int32} {k n0 : Nat} {f : Nat → Option Nat} {v : Value} (hf : axF cd pc = some (p0, 41, a, b, c, tb, nx)) (hh : h[k]? = some (.inr (.inl (n0, f)))) (hi : vp_in i n0) (hv : va_rf (f i.toNatClampNeg) = v) (kk : axW ro E cd nx L (v :: S) h Q) : axW ro E cd pc L (.int i :: .ref k :: S) h Q := by
  obtain ⟨n, kk⟩ := kk
  subst hv
  exact wp_one hf ⟨n, ⟨k, i, S, n0, f, rfl, hh, hi, kk⟩⟩
theorem wp_ast {i x : Int32} {k n0 : Nat} {f : Nat → Int32} (hf : axF cd pc = some (p0, 42, a, b, c, tb, nx)) (hh : h[k]? = some (.inl (b, n0, f))) (hi : vp_in i n0) (hx : vp_nar (axEt b) x = x) (hs : h.set k (.inl (b, n0, upd f i.toNatClampNeg x)) = h1) (kk : axW ro E cd nx L S h1 Q) : axW ro E cd pc L (.int x :: .int i :: .ref k :: S) h Q := by
  obtain ⟨n, kk⟩ := kk
  subst hs
  exact wp_one hf ⟨n, ⟨x, i, k, S, n0, f, rfl, hh, hi, hx, kk⟩⟩
theorem wp_aast {i : Int32} {k n0 v : Nat} {f : Nat → Option Nat} {fs : List Value} (hf : axF cd pc = some (p0, 43, a, b, c, tb, nx)) (hh : h[k]? = some (.inr (.inl (n0, f)))) (hv : h[v]? = some (.inr (.inr (0, fs)))) (hi : vp_in i n0) (hs : h.set k (.inr (.inl (n0, va_up f i.toNatClampNeg (some v)))) = h1) (kk : axW ro E cd nx L S h1 Q) : axW ro E cd pc L (.ref v :: .int i :: .ref k :: S) h Q := by
  obtain ⟨n, kk⟩ := kk
  subst hs
  exact wp_one hf ⟨n, ⟨v, i, k, S, n0, f, fs, rfl, hh, hv, hi, kk⟩⟩
theorem wp_newa {x : Int32} {N q : Nat} (hf : axF cd pc = some (p0, 44, a, b, c, tb, nx)) (h0 : ¬ x < 0) (hx : x.toNatClampNeg = N) (hN : N ≤ 65536) (hq : h.length = q) (hs : h ++ [.inl (b, N, fun _ => 0)] = h1) (kk : axW ro E cd nx L (.ref q :: S) h1 Q) : axW ro E cd pc L (.int x :: S) h Q := by
  obtain ⟨n, kk⟩ := kk
  subst hs
  subst hx
  subst hq
  exact wp_one hf ⟨n, ⟨x, S, rfl, h0, hN, kk⟩⟩
theorem wp_newq {x : Int32} {N q : Nat} (hf : axF cd pc = some (p0, 45, a, b, c, tb, nx)) (h0 : ¬ x < 0) (hx : x.toNatClampNeg = N) (hN : N ≤ 65536) (hq : h.length = q) (hs : h ++ [.inr (.inl (N, fun _ => none))] = h1) (kk : axW ro E cd nx L (.ref q :: S) h1 Q) : axW ro E cd pc L (.int x :: S) h Q := by
  obtain ⟨n, kk⟩ := kk
  subst hs
  subst hx
  subst hq
  exact wp_one hf ⟨n, ⟨x, S, rfl, h0, hN, kk⟩⟩
theorem wp_new {q : Nat} (hf : axF cd pc = some (p0, 46, a, b, c, tb, nx)) (hq : h.length = q) (hs : h ++ [.inr (.inr (b, axDf b))] = h1) (kk : axW ro E cd nx L (.ref q :: S) h1 Q) : axW ro E cd pc L S h Q := by
  obtain ⟨n, kk⟩ := kk
  subst hs
  subst hq
  exact wp_one hf ⟨n, kk⟩
theorem wp_idiv {x y v : Int32} (hf : axF cd pc = some (p0, 47, a, b, c, tb, nx)) (hy : ¬ y = 0) (hv : x / y = v) (kk : axW ro E cd nx L (.int v :: S) h Q) : axW ro E cd pc L (.int y :: .int x :: S) h Q := by
  obtain ⟨n, kk⟩ := kk
  subst hv
  exact wp_one hf ⟨n, ⟨x, y, S, rfl, hy, kk⟩⟩
theorem wp_irem {x y v : Int32} (hf : axF cd pc = some (p0, 48, a, b, c, tb, nx)) (hy : ¬ y = 0) (hv : x - x / y * y = v) (kk : axW ro E cd nx L (.int v :: S) h Q) : axW ro E cd pc L (.int y :: .int x :: S) h Q := by
  obtain ⟨n, kk⟩ := kk
  subst hv
  exact wp_one hf ⟨n, ⟨x, y, S, rfl, hy, kk⟩⟩
theorem wp_ret {x : Int32} (hf : axF cd pc = some (p0, 49, a, b, c, tb, nx)) (hx : narrow (axEt b) (.int x) = .int x) (kk : Q (some (.int x)) h) : axW ro E cd pc L [.int x] h Q := by
  exact wp_one hf ⟨0, ⟨x, rfl, hx, kk⟩⟩
theorem wp_retv (hf : axF cd pc = some (p0, 50, a, b, c, tb, nx)) (kk : Q none h) : axW ro E cd pc L [] h Q := by
  exact wp_one hf ⟨0, ⟨rfl, kk⟩⟩
theorem wp_reta {k : Nat} (hf : axF cd pc = some (p0, 51, a, b, c, tb, nx)) (kk : Q (some (.ref k)) h) : axW ro E cd pc L [.ref k] h Q := by
  exact wp_one hf ⟨0, ⟨k, rfl, kk⟩⟩
theorem wp_retl {x : Int64} (hf : axF cd pc = some (p0, 62, a, b, c, tb, nx)) (kk : Q (some (.long x)) h) : axW ro E cd pc L [.long x] h Q := by
  exact wp_one hf ⟨0, ⟨x, rfl, kk⟩⟩
theorem wp_v0 {w : Value} {k z ci : Nat} {fs : List Value} (hf : axF cd pc = some (p0, 52, .ref ci, z, 0, tb, nx)) (hh : h[k]? = some (.inr (.inr (ci, fs)))) (hs : axSum S ≤ 8) (he : E z (.ref k :: []) h (some w) h1) (kk : axW ro E cd nx L (w :: S) h1 Q) : axW ro E cd pc L (.ref k :: S) h Q := by
  obtain ⟨n, kk⟩ := kk
  exact wp_one hf ⟨n, ⟨ci, [], k, S, fs, _, h1, rfl, rfl, rfl, hs, hh, he, kk⟩⟩
theorem wp_s0 {w : Value} {z : Nat} (hf : axF cd pc = some (p0, 53, a, z, 0, tb, nx)) (hs : axSum S ≤ 8) (he : E z [] h (some w) h1) (kk : axW ro E cd nx L (w :: S) h1 Q) : axW ro E cd pc L (S) h Q := by
  obtain ⟨n, kk⟩ := kk
  exact wp_one hf ⟨n, ⟨[], S, _, h1, rfl, rfl, hs, he, kk⟩⟩
theorem wp_v0v {k z ci : Nat} {fs : List Value} (hf : axF cd pc = some (p0, 52, .ref ci, z, 0, tb, nx)) (hh : h[k]? = some (.inr (.inr (ci, fs)))) (hs : axSum S ≤ 8) (he : E z (.ref k :: []) h (none) h1) (kk : axW ro E cd nx L S h1 Q) : axW ro E cd pc L (.ref k :: S) h Q := by
  obtain ⟨n, kk⟩ := kk
  exact wp_one hf ⟨n, ⟨ci, [], k, S, fs, _, h1, rfl, rfl, rfl, hs, hh, he, kk⟩⟩
theorem wp_s0v {z : Nat} (hf : axF cd pc = some (p0, 53, a, z, 0, tb, nx)) (hs : axSum S ≤ 8) (he : E z [] h (none) h1) (kk : axW ro E cd nx L S h1 Q) : axW ro E cd pc L (S) h Q := by
  obtain ⟨n, kk⟩ := kk
  exact wp_one hf ⟨n, ⟨[], S, _, h1, rfl, rfl, hs, he, kk⟩⟩
theorem wp_v1 {v0 : Value} {w : Value} {k z ci : Nat} {fs : List Value} (hf : axF cd pc = some (p0, 52, .ref ci, z, 1, tb, nx)) (hh : h[k]? = some (.inr (.inr (ci, fs)))) (hs : axSum S ≤ 8) (he : E z (.ref k :: [v0]) h (some w) h1) (kk : axW ro E cd nx L (w :: S) h1 Q) : axW ro E cd pc L (v0 :: .ref k :: S) h Q := by
  obtain ⟨n, kk⟩ := kk
  exact wp_one hf ⟨n, ⟨ci, [v0], k, S, fs, _, h1, rfl, rfl, rfl, hs, hh, he, kk⟩⟩
theorem wp_s1 {v0 : Value} {w : Value} {z : Nat} (hf : axF cd pc = some (p0, 53, a, z, 1, tb, nx)) (hs : axSum S ≤ 8) (he : E z [v0] h (some w) h1) (kk : axW ro E cd nx L (w :: S) h1 Q) : axW ro E cd pc L (v0 :: S) h Q := by
  obtain ⟨n, kk⟩ := kk
  exact wp_one hf ⟨n, ⟨[v0], S, _, h1, rfl, rfl, hs, he, kk⟩⟩
theorem wp_v1v {v0 : Value} {k z ci : Nat} {fs : List Value} (hf : axF cd pc = some (p0, 52, .ref ci, z, 1, tb, nx)) (hh : h[k]? = some (.inr (.inr (ci, fs)))) (hs : axSum S ≤ 8) (he : E z (.ref k :: [v0]) h (none) h1) (kk : axW ro E cd nx L S h1 Q) : axW ro E cd pc L (v0 :: .ref k :: S) h Q := by
  obtain ⟨n, kk⟩ := kk
  exact wp_one hf ⟨n, ⟨ci, [v0], k, S, fs, _, h1, rfl, rfl, rfl, hs, hh, he, kk⟩⟩
theorem wp_s1v {v0 : Value} {z : Nat} (hf : axF cd pc = some (p0, 53, a, z, 1, tb, nx)) (hs : axSum S ≤ 8) (he : E z [v0] h (none) h1) (kk : axW ro E cd nx L S h1 Q) : axW ro E cd pc L (v0 :: S) h Q := by
  obtain ⟨n, kk⟩ := kk
  exact wp_one hf ⟨n, ⟨[v0], S, _, h1, rfl, rfl, hs, he, kk⟩⟩
theorem wp_v2 {v0 v1 : Value} {w : Value} {k z ci : Nat} {fs : List Value} (hf : axF cd pc = some (p0, 52, .ref ci, z, 2, tb, nx)) (hh : h[k]? = some (.inr (.inr (ci, fs)))) (hs : axSum S ≤ 8) (he : E z (.ref k :: [v0, v1]) h (some w) h1) (kk : axW ro E cd nx L (w :: S) h1 Q) : axW ro E cd pc L (v1 :: v0 :: .ref k :: S) h Q := by
  obtain ⟨n, kk⟩ := kk
  exact wp_one hf ⟨n, ⟨ci, [v0, v1], k, S, fs, _, h1, rfl, rfl, rfl, hs, hh, he, kk⟩⟩
theorem wp_s2 {v0 v1 : Value} {w : Value} {z : Nat} (hf : axF cd pc = some (p0, 53, a, z, 2, tb, nx)) (hs : axSum S ≤ 8) (he : E z [v0, v1] h (some w) h1) (kk : axW ro E cd nx L (w :: S) h1 Q) : axW ro E cd pc L (v1 :: v0 :: S) h Q := by
  obtain ⟨n, kk⟩ := kk
  exact wp_one hf ⟨n, ⟨[v0, v1], S, _, h1, rfl, rfl, hs, he, kk⟩⟩
theorem wp_v2v {v0 v1 : Value} {k z ci : Nat} {fs : List Value} (hf : axF cd pc = some (p0, 52, .ref ci, z, 2, tb, nx)) (hh : h[k]? = some (.inr (.inr (ci, fs)))) (hs : axSum S ≤ 8) (he : E z (.ref k :: [v0, v1]) h (none) h1) (kk : axW ro E cd nx L S h1 Q) : axW ro E cd pc L (v1 :: v0 :: .ref k :: S) h Q := by
  obtain ⟨n, kk⟩ := kk
  exact wp_one hf ⟨n, ⟨ci, [v0, v1], k, S, fs, _, h1, rfl, rfl, rfl, hs, hh, he, kk⟩⟩
theorem wp_s2v {v0 v1 : Value} {z : Nat} (hf : axF cd pc = some (p0, 53, a, z, 2, tb, nx)) (hs : axSum S ≤ 8) (he : E z [v0, v1] h (none) h1) (kk : axW ro E cd nx L S h1 Q) : axW ro E cd pc L (v1 :: v0 :: S) h Q := by
  obtain ⟨n, kk⟩ := kk
  exact wp_one hf ⟨n, ⟨[v0, v1], S, _, h1, rfl, rfl, hs, he, kk⟩⟩
theorem wp_v3 {v0 v1 v2 : Value} {w : Value} {k z ci : Nat} {fs : List Value} (hf : axF cd pc = some (p0, 52, .ref ci, z, 3, tb, nx)) (hh : h[k]? = some (.inr (.inr (ci, fs)))) (hs : axSum S ≤ 8) (he : E z (.ref k :: [v0, v1, v2]) h (some w) h1) (kk : axW ro E cd nx L (w :: S) h1 Q) : axW ro E cd pc L (v2 :: v1 :: v0 :: .ref k :: S) h Q := by
  obtain ⟨n, kk⟩ := kk
  exact wp_one hf ⟨n, ⟨ci, [v0, v1, v2], k, S, fs, _, h1, rfl, rfl, rfl, hs, hh, he, kk⟩⟩
theorem wp_s3 {v0 v1 v2 : Value} {w : Value} {z : Nat} (hf : axF cd pc = some (p0, 53, a, z, 3, tb, nx)) (hs : axSum S ≤ 8) (he : E z [v0, v1, v2] h (some w) h1) (kk : axW ro E cd nx L (w :: S) h1 Q) : axW ro E cd pc L (v2 :: v1 :: v0 :: S) h Q := by
  obtain ⟨n, kk⟩ := kk
  exact wp_one hf ⟨n, ⟨[v0, v1, v2], S, _, h1, rfl, rfl, hs, he, kk⟩⟩
theorem wp_v3v {v0 v1 v2 : Value} {k z ci : Nat} {fs : List Value} (hf : axF cd pc = some (p0, 52, .ref ci, z, 3, tb, nx)) (hh : h[k]? = some (.inr (.inr (ci, fs)))) (hs : axSum S ≤ 8) (he : E z (.ref k :: [v0, v1, v2]) h (none) h1) (kk : axW ro E cd nx L S h1 Q) : axW ro E cd pc L (v2 :: v1 :: v0 :: .ref k :: S) h Q := by
  obtain ⟨n, kk⟩ := kk
  exact wp_one hf ⟨n, ⟨ci, [v0, v1, v2], k, S, fs, _, h1, rfl, rfl, rfl, hs, hh, he, kk⟩⟩
theorem wp_s3v {v0 v1 v2 : Value} {z : Nat} (hf : axF cd pc = some (p0, 53, a, z, 3, tb, nx)) (hs : axSum S ≤ 8) (he : E z [v0, v1, v2] h (none) h1) (kk : axW ro E cd nx L S h1 Q) : axW ro E cd pc L (v2 :: v1 :: v0 :: S) h Q := by
  obtain ⟨n, kk⟩ := kk
  exact wp_one hf ⟨n, ⟨[v0, v1, v2], S, _, h1, rfl, rfl, hs, he, kk⟩⟩
theorem wp_s4v {v0 v1 v2 v3 : Value} {z : Nat} (hf : axF cd pc = some (p0, 53, a, z, 4, tb, nx)) (hs : axSum S ≤ 8) (he : E z [v0, v1, v2, v3] h none h1) (kk : axW ro E cd nx L S h1 Q) : axW ro E cd pc L (v3 :: v2 :: v1 :: v0 :: S) h Q := by
  obtain ⟨n, kk⟩ := kk
  exact wp_one hf ⟨n, ⟨[v0, v1, v2, v3], S, _, h1, rfl, rfl, hs, he, kk⟩⟩
theorem wp_i0 {k z : Nat} (hf : axF cd pc = some (p0, 54, a, z, 0, tb, nx)) (hs : axSum S ≤ 8) (he : E z [.ref k] h none h1) (kk : axW ro E cd nx L S h1 Q) : axW ro E cd pc L (.ref k :: S) h Q := by
  obtain ⟨n, kk⟩ := kk
  exact wp_one hf ⟨n, ⟨[], k, S, _, h1, rfl, rfl, hs, he, kk⟩⟩
theorem wp_obj {k : Nat} (hf : axF cd pc = some (p0, 55, a, b, c, tb, nx)) (hs : axSum S ≤ 8) (kk : axW ro E cd nx L S h Q) : axW ro E cd pc L (.ref k :: S) h Q := by
  obtain ⟨n, kk⟩ := kk
  exact wp_one hf ⟨n, ⟨k, S, rfl, hs, kk⟩⟩
theorem wp_cpy {n1 sp dp : Int32} {k0 k1 m0 m1 : Nat} {f g : Nat → Int32} (hf : axF cd pc = some (p0, 56, a, b, c, tb, nx)) (hh0 : h[k0]? = some (.inl (0, m0, f))) (hh1 : h[k1]? = some (.inl (0, m1, g))) (q1 : ¬ sp < 0) (q2 : ¬ dp < 0) (q3 : ¬ n1 < 0) (q4 : sp.toNatClampNeg + n1.toNatClampNeg ≤ m0) (q5 : dp.toNatClampNeg + n1.toNatClampNeg ≤ m1) (hs : axSum S ≤ 8) (he : h.set k1 (.inl (0, m1, va_cpy f g sp.toNatClampNeg dp.toNatClampNeg n1.toNatClampNeg)) = h1) (kk : axW ro E cd nx L S h1 Q) : axW ro E cd pc L (.int n1 :: .int dp :: .ref k1 :: .int sp :: .ref k0 :: S) h Q := by
  obtain ⟨n, kk⟩ := kk
  subst he
  exact wp_one hf ⟨n, ⟨n1, dp, k1, sp, k0, S, m0, m1, f, g, rfl, hh0, hh1, q1, q2, q3, q4, q5, hs, kk⟩⟩
theorem wp_max {x y v : Int32} (hf : axF cd pc = some (p0, 57, a, b, c, tb, nx)) (hs : axSum S ≤ 8) (hv : (if x < y then y else x) = v) (kk : axW ro E cd nx L (.int v :: S) h Q) : axW ro E cd pc L (.int y :: .int x :: S) h Q := by
  obtain ⟨n, kk⟩ := kk
  subst hv
  exact wp_one hf ⟨n, ⟨x, y, S, rfl, hs, kk⟩⟩
theorem wp_min {x y v : Int32} (hf : axF cd pc = some (p0, 58, a, b, c, tb, nx)) (hs : axSum S ≤ 8) (hv : (if y < x then y else x) = v) (kk : axW ro E cd nx L (.int v :: S) h Q) : axW ro E cd pc L (.int y :: .int x :: S) h Q := by
  obtain ⟨n, kk⟩ := kk
  subst hv
  exact wp_one hf ⟨n, ⟨x, y, S, rfl, hs, kk⟩⟩
theorem wp_abs {x v : Int32} (hf : axF cd pc = some (p0, 59, a, b, c, tb, nx)) (hs : axSum S ≤ 8) (hv : (if 0 ≤ x then x else 0 - x) = v) (kk : axW ro E cd nx L (.int v :: S) h Q) : axW ro E cd pc L (.int x :: S) h Q := by
  obtain ⟨n, kk⟩ := kk
  subst hv
  exact wp_one hf ⟨n, ⟨x, S, rfl, hs, kk⟩⟩
end AX12
theorem ev_in {ro : axRo} {d z : Nat} {vs : List Value} {h h1 : axH} {r : Option Value} {M : axM} (hM : axMs[z]? = some M) (ho : axOkA vs = true) (hs : axSz vs ≤ M.2.2.1) {L : axL} (hL : axIn vs M.2.2.1 = L) (hw : axW ro (axEv ro d) M.2.2.2.2.2.2 0 L [] h (fun r' h' => r' = r ∧ h' = h1)) : axEv ro (d + 1) z vs h r h1 := by
  subst hL
  exact ⟨M, hM, ho, hs, hw⟩
/-- what is proved over a loop: W at its head, by a measure that falls -/
theorem ax_ind {σ : Type} (P : σ → Prop) (μ : σ → Nat) (step : ∀ s, (∀ s', μ s' < μ s → P s') → P s) : ∀ s, P s := fun s => by
  have : ∀ n s, μ s < n → P s := by
    intro n
    induction n with
    | zero => intro s h; omega
    | succ n ih => intro s h; exact step s (fun s' h' => ih s' (by omega))
  exact this (μ s + 1) s (Nat.lt_succ_self _)
