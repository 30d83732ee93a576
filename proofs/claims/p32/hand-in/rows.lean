section
-- ===== PART A: goes FIRST, ahead of the names: the tables' words, and 'selects' of the private methods out of them =====
/-- a private method of a class that the tables say can be made, by its rows of tables_1 -/
def lw_okq (q : MethodName × Nat) : Prop := (q.1.cls ≠ "java/lang/invoke/MethodHandle" ∧ q.1.cls ≠ "java/lang/invoke/VarHandle") ∧ Cond.instantiable q.1.cls q.2 ∈ tables_1 ∧ Cond.privateMethod q.1 ∈ tables_1 ∧ Cond.instanceMethod q.1 ∈ tables_1
theorem lw_p0 : lw_okq (⟨"BeatSlugs$SwapSearch", "tryAllBehind", "(LBeatSlugs$Board;I)V"⟩, 4) := ⟨⟨by decide +kernel, by decide +kernel⟩, List.mem_of_getElem? (i := 95) (by decide +kernel), List.mem_of_getElem? (i := 173) (by decide +kernel), List.mem_of_getElem? (i := 174) (by decide +kernel)⟩
theorem lw_p1 : lw_okq (⟨"BeatSlugs$SwapSearch", "tryOne", "(LBeatSlugs$Board;II)V"⟩, 4) := ⟨⟨by decide +kernel, by decide +kernel⟩, List.mem_of_getElem? (i := 95) (by decide +kernel), List.mem_of_getElem? (i := 189) (by decide +kernel), List.mem_of_getElem? (i := 190) (by decide +kernel)⟩
theorem lw_p2 : lw_okq (⟨"BeatSlugs$SwapSearch", "exchange", "(II)V"⟩, 4) := ⟨⟨by decide +kernel, by decide +kernel⟩, List.mem_of_getElem? (i := 95) (by decide +kernel), List.mem_of_getElem? (i := 193) (by decide +kernel), List.mem_of_getElem? (i := 194) (by decide +kernel)⟩
theorem lw_p3 : lw_okq (⟨"BeatSlugs$Board", "mayStandIn", "(II)Z"⟩, 9) := ⟨⟨by decide +kernel, by decide +kernel⟩, List.mem_of_getElem? (i := 18) (by decide +kernel), List.mem_of_getElem? (i := 427) (by decide +kernel), List.mem_of_getElem? (i := 428) (by decide +kernel)⟩
theorem lw_p4 : lw_okq (⟨"BeatSlugs$Board", "makeSlug", "(II)I"⟩, 9) := ⟨⟨by decide +kernel, by decide +kernel⟩, List.mem_of_getElem? (i := 18) (by decide +kernel), List.mem_of_getElem? (i := 463) (by decide +kernel), List.mem_of_getElem? (i := 464) (by decide +kernel)⟩
theorem lw_p5 : lw_okq (⟨"BeatSlugs$Board", "lowestFree", "()I"⟩, 9) := ⟨⟨by decide +kernel, by decide +kernel⟩, List.mem_of_getElem? (i := 18) (by decide +kernel), List.mem_of_getElem? (i := 467) (by decide +kernel), List.mem_of_getElem? (i := 468) (by decide +kernel)⟩
theorem lw_p6 : lw_okq (⟨"BeatSlugs$Board", "putIn", "(II)V"⟩, 9) := ⟨⟨by decide +kernel, by decide +kernel⟩, List.mem_of_getElem? (i := 18) (by decide +kernel), List.mem_of_getElem? (i := 471) (by decide +kernel), List.mem_of_getElem? (i := 472) (by decide +kernel)⟩
theorem lw_p7 : lw_okq (⟨"BeatSlugs$Board", "takeOut", "(I)V"⟩, 9) := ⟨⟨by decide +kernel, by decide +kernel⟩, List.mem_of_getElem? (i := 18) (by decide +kernel), List.mem_of_getElem? (i := 483) (by decide +kernel), List.mem_of_getElem? (i := 484) (by decide +kernel)⟩
theorem lw_p8 : lw_okq (⟨"BeatSlugs$Board", "handOverNeeds", "(II)V"⟩, 9) := ⟨⟨by decide +kernel, by decide +kernel⟩, List.mem_of_getElem? (i := 18) (by decide +kernel), List.mem_of_getElem? (i := 553) (by decide +kernel), List.mem_of_getElem? (i := 554) (by decide +kernel)⟩
theorem lw_p9 : lw_okq (⟨"BeatSlugs$Board", "handOverTurn", "(II)V"⟩, 9) := ⟨⟨by decide +kernel, by decide +kernel⟩, List.mem_of_getElem? (i := 18) (by decide +kernel), List.mem_of_getElem? (i := 557) (by decide +kernel), List.mem_of_getElem? (i := 558) (by decide +kernel)⟩
def lw_privs_1 : List (MethodName × Nat) := [(⟨"BeatSlugs$SwapSearch", "tryAllBehind", "(LBeatSlugs$Board;I)V"⟩, 4), (⟨"BeatSlugs$SwapSearch", "tryOne", "(LBeatSlugs$Board;II)V"⟩, 4), (⟨"BeatSlugs$SwapSearch", "exchange", "(II)V"⟩, 4), (⟨"BeatSlugs$Board", "mayStandIn", "(II)Z"⟩, 9), (⟨"BeatSlugs$Board", "makeSlug", "(II)I"⟩, 9), (⟨"BeatSlugs$Board", "lowestFree", "()I"⟩, 9), (⟨"BeatSlugs$Board", "putIn", "(II)V"⟩, 9), (⟨"BeatSlugs$Board", "takeOut", "(I)V"⟩, 9), (⟨"BeatSlugs$Board", "handOverNeeds", "(II)V"⟩, 9), (⟨"BeatSlugs$Board", "handOverTurn", "(II)V"⟩, 9)]
theorem lw_r1 : ∀ q ∈ lw_privs_1, lw_okq q := List.forall_mem_cons.mpr ⟨lw_p0, List.forall_mem_cons.mpr ⟨lw_p1, List.forall_mem_cons.mpr ⟨lw_p2, List.forall_mem_cons.mpr ⟨lw_p3, List.forall_mem_cons.mpr ⟨lw_p4, List.forall_mem_cons.mpr ⟨lw_p5, List.forall_mem_cons.mpr ⟨lw_p6, List.forall_mem_cons.mpr ⟨lw_p7, List.forall_mem_cons.mpr ⟨lw_p8, List.forall_mem_cons.mpr ⟨lw_p9, fun _ h => absurd h List.not_mem_nil⟩⟩⟩⟩⟩⟩⟩⟩⟩⟩
def lw_privs : List (MethodName × Nat) := lw_privs_1
def lw_tbl : List Cond := k2_sels lw_privs ++ tables_1
theorem lw_privs_ok : ∀ q ∈ lw_privs, lw_okq q := lw_r1
end
section
/-! THE ABSTRACT MACHINE. A heap is a list of cells (the place in the list is the reference); arrays are functions; the three arrays that are never written (the script, LEAST_SETTING, MOST_SETTING) stand outside it, as .retAddr 0, 1, 2.
Its one theorem (part 05) says that what it computes the Java machine computes, with the kit's contracts; all that is said of the program then is said of this machine. -/
abbrev axE : Type := Nat × Nat × Value × Nat × Nat × List (Int32 × Nat) × Nat
abbrev axC : Type := (Nat × Nat × (Nat → Int32)) ⊕ ((Nat × (Nat → Option Nat)) ⊕ (Nat × List Value))
abbrev axH : Type := List axC
abbrev axL : Type := List (Option Value)
abbrev axRo : Type := Nat → Nat × (Nat → Int32)
abbrev axCall : Type := Nat → List Value → axH → Option Value → axH → Prop
def axF : List axE → Nat → Option axE
  | [], _ => none
  | e :: l, pc => bif Nat.beq e.1 pc then some e else axF l pc
def axG : axL → Nat → Option Value
  | [], _ => none
  | v :: _, 0 => v
  | _ :: l, n + 1 => axG l n
def axP : axL → Nat → Value → Option axL
  | [], _, _ => none
  | _ :: l, 0, v => some (some v :: l)
  | w :: l, n + 1, v => match n, w with
    | 0, some (.long _) => none
    | 0, some (.double _) => none
    | _, _ => match axP l n v with
      | some l' => some (w :: l')
      | none => none
def axN : axL → Nat → Option axL
  | [], _ => none
  | _ :: l, 0 => some (none :: l)
  | w :: l, n + 1 => match axN l n with
    | some l' => some (w :: l')
    | none => none
def axStp (op : Nat) (a : Value) (b : Nat) (L : axL) (S : List Value) : Option (axL × List Value) :=
  match op with
  | 0 => some (L, a :: S)
  | 1 => match axG L b with
    | some (.int x) => some (L, .int x :: S)
    | _ => none
  | 2 => match axG L b with
    | some (.ref x) => some (L, .ref x :: S)
    | some .null => some (L, .null :: S)
    | some (.retAddr x) => some (L, .retAddr x :: S)
    | _ => none
  | 3 => match axG L b with
    | some (.long x) => some (L, .long x :: S)
    | _ => none
  | 4 => match S with
    | .int x :: S' => match axP L b (.int x) with
      | some L' => some (L', S')
      | none => none
    | _ => none
  | 5 => match S with
    | .ref x :: S' => match axP L b (.ref x) with
      | some L' => some (L', S')
      | none => none
    | .null :: S' => match axP L b .null with
      | some L' => some (L', S')
      | none => none
    | _ => none
  | 6 => match a with
    | .int k => match axG L b with
      | some (.int x) => match axP L b (.int (x + k)) with
        | some L' => some (L', S)
        | none => none
      | _ => none
    | _ => none
  | 7 => match S with
    | .int x :: S' => some (L, .int x :: .int x :: S')
    | .ref x :: S' => some (L, .ref x :: .ref x :: S')
    | _ => none
  | 8 => match S with
    | .int _ :: S' => some (L, S')
    | .ref _ :: S' => some (L, S')
    | _ => none
  | 9 => some (L, S)
  | 10 => match S with
    | .int y :: .ref x :: S' => some (L, .int y :: .ref x :: .int y :: .ref x :: S')
    | _ => none
  | 11 => match S with
    | .int y :: .int x :: S' => some (L, .int (x + y) :: S')
    | _ => none
  | 12 => match S with
    | .int y :: .int x :: S' => some (L, .int (x - y) :: S')
    | _ => none
  | 13 => match S with
    | .int y :: .int x :: S' => some (L, .int (x * y) :: S')
    | _ => none
  | 14 => match S with
    | .int y :: .int x :: S' => some (L, .int (x &&& y) :: S')
    | _ => none
  | 15 => match S with
    | .int y :: .int x :: S' => some (L, .int (x ||| y) :: S')
    | _ => none
  | 16 => match S with
    | .int y :: .int x :: S' => some (L, .int (x ^^^ y) :: S')
    | _ => none
  | 17 => match S with
    | .int y :: .int x :: S' => some (L, .int (x <<< (y &&& 31)) :: S')
    | _ => none
  | 18 => match S with
    | .int y :: .int x :: S' => some (L, .int (x >>> (y &&& 31)) :: S')
    | _ => none
  | 19 => match S with
    | .int y :: .int x :: S' => some (L, .int (x.toUInt32 >>> (y.toUInt32 &&& Int32.toUInt32 31)).toInt32 :: S')
    | _ => none
  | 20 => match S with
    | .int x :: S' => some (L, .int (-x) :: S')
    | _ => none
  | 21 => match S with
    | .int x :: S' => some (L, .int (x.toUInt32 % 65536).toInt32 :: S')
    | _ => none
  | 22 => match S with
    | .int x :: S' => some (L, .long x.toInt64 :: S')
    | _ => none
  | 23 => match S with
    | .long x :: S' => some (L, .int x.toInt32 :: S')
    | _ => none
  | 24 => match S with
    | .long y :: .long x :: S' => some (L, .long (x &&& y) :: S')
    | _ => none
  | 25 => match S with
    | .long y :: .long x :: S' => some (L, .long (x ||| y) :: S')
    | _ => none
  | 26 => match S with
    | .int y :: .long x :: S' => some (L, .long (x <<< (y.toInt64 &&& 63)) :: S')
    | _ => none
  | 27 => match S with
    | .int y :: .long x :: S' => some (L, .long (x >>> (y.toInt64 &&& 63)) :: S')
    | _ => none
  | 28 => match S with
    | .int y :: .long x :: S' => some (L, .long (x.toUInt64 >>> (y.toInt64.toUInt64 &&& Int64.toUInt64 63)).toInt64 :: S')
    | _ => none
  | 29 => match S with
    | .long y :: .long x :: S' => some (L, .int (lg_cmp x y) :: S')
    | _ => none
  | 30 => match S with
    | .long x :: S' => match axP L b (.long x) with
      | some L' => match axN L' (b + 1) with
        | some L'' => some (L'', S')
        | none => none
      | none => none
    | _ => none
  | 31 => match S with
    | .long y :: .long x :: S' => some (L, .long (match b with
      | 0 => x + y
      | _ => x * y) :: S')
    | _ => none
  | _ => none
/-- the six comparisons -/
def axCnd (k : Nat) (x y : Int32) : Prop := match k with
  | 0 => x = y
  | 1 => ¬ x = y
  | 2 => x < y
  | 3 => y ≤ x
  | 4 => y < x
  | _ => x ≤ y
def axSw : List (Int32 × Nat) → Nat → Int32 → Nat
  | [], d, _ => d
  | q :: r, d, x => if x = q.1 then q.2 else axSw r d x
def axSum (S : List Value) : Nat := (S.map fun v => v.category).sum
/-- an array's elements: 0 int, 1 char, 2 boolean -/
def axEt : Nat → FieldType := fun k => match k with
  | 0 => .int
  | 1 => .char
  | _ => .boolean
/-- classes and their fields' types -/
def axTy : Nat → Nat → FieldType := fun c k => match c with
  | 0 => if k < 6 then .array .int else .int
  | 1 => if k = 0 then .array (.object "BeatSlugs$Board") else .int
  | 2 => if k = 0 then .array .char else if k = 3 then .boolean else if k = 4 then .char else .int
  | 3 => if k = 0 then .array .int else .int
  | 4 => if k = 0 then .object "BeatSlugs$Board" else if k = 1 then .object "BeatSlugs$History" else if k = 2 then .array (.object "BeatSlugs$Board") else if k = 3 then .object "BeatSlugs$Pad" else .object "BeatSlugs$SwapSearch"
  | _ => if k = 0 then .array .int else if k = 1 then .array .int else if k = 2 then .int else if k = 3 then .array .int else if k = 4 then .array .boolean else if k = 5 then .array .int else if k = 6 then .array .int else if k = 12 then .boolean else .int
/-- a new object's fields -/
def axDf : Nat → List Value := fun c => match c with
  | 0 => [.null, .null, .null, .null, .null, .null, .int 0, .int 0, .int 0]
  | 1 => [.null, .int 0, .int 0]
  | 2 => [.null, .int 0, .int 0, .int 0, .int 0, .int 0, .int 0]
  | 3 => [.null, .int 0, .int 0, .int 0]
  | 4 => [.null, .null, .null, .null, .null]
  | _ => [.null, .null, .int 0, .null, .null, .null, .null, .int 0, .int 0, .int 0, .int 0, .int 0, .int 0, .int 0]
def axFit (c k : Nat) (v : Value) : Prop := narrow (axTy c k) v = v ∧ fits (axTy c k) v = true ∧ ∀ j, v ≠ .retAddr j
def axOne (ro : axRo) (E : axCall) (e : axE) (L : axL) (S : List Value) (h : axH) (K : Nat → axL → List Value → axH → Prop) (Q : Option Value → axH → Prop) : Prop :=
  match e with
  | (_, op, a, b, c, tb, nx) =>
  match op with
  | 32 => ∃ x y S', S = .int y :: .int x :: S' ∧ (axCnd b x y → K c L S' h) ∧ (¬ axCnd b x y → K nx L S' h)
  | 33 => ∃ x S', S = .int x :: S' ∧ (axCnd b x 0 → K c L S' h) ∧ (¬ axCnd b x 0 → K nx L S' h)
  | 34 => (∃ k S', S = .ref k :: S' ∧ K c L S' h) ∨ (∃ S', S = .null :: S' ∧ K nx L S' h)
  | 35 => ∃ x S', S = .int x :: S' ∧ K (axSw tb c x) L S' h
  | 36 => ∃ k S' fs v, S = .ref k :: S' ∧ h[k]? = some (.inr (.inr (b, fs))) ∧ fs[c]? = some v ∧ K nx L (v :: S') h
  | 37 => ∃ v k S' fs, S = v :: .ref k :: S' ∧ h[k]? = some (.inr (.inr (b, fs))) ∧ c < fs.length ∧ axFit b c v ∧ K nx L S' (h.set k (.inr (.inr (b, fs.set c v))))
  | 38 => K nx L (.retAddr b :: S) h
  | 39 => (∃ k S' ki n f, S = .ref k :: S' ∧ h[k]? = some (.inl (ki, n, f)) ∧ ki < 3 ∧ K nx L (.int (Int32.ofNat n) :: S') h) ∨ (∃ k S' n f, S = .ref k :: S' ∧ h[k]? = some (.inr (.inl (n, f))) ∧ K nx L (.int (Int32.ofNat n) :: S') h) ∨ (∃ i S', S = .retAddr i :: S' ∧ i < 3 ∧ K nx L (.int (Int32.ofNat (ro i).1) :: S') h)
  | 40 => (∃ k i S' n f, S = .int i :: .ref k :: S' ∧ h[k]? = some (.inl (b, n, f)) ∧ vp_in i n ∧ K nx L (.int (f i.toNatClampNeg) :: S') h) ∨ (b = 0 ∧ ∃ j i S', S = .int i :: .retAddr j :: S' ∧ j < 3 ∧ vp_in i (ro j).1 ∧ K nx L (.int ((ro j).2 i.toNatClampNeg) :: S') h)
  | 41 => ∃ k i S' n f, S = .int i :: .ref k :: S' ∧ h[k]? = some (.inr (.inl (n, f))) ∧ vp_in i n ∧ K nx L (va_rf (f i.toNatClampNeg) :: S') h
  | 42 => ∃ x i k S' n f, S = .int x :: .int i :: .ref k :: S' ∧ h[k]? = some (.inl (b, n, f)) ∧ vp_in i n ∧ vp_nar (axEt b) x = x ∧ K nx L S' (h.set k (.inl (b, n, upd f i.toNatClampNeg x)))
  | 43 => ∃ v i k S' n f fs, S = .ref v :: .int i :: .ref k :: S' ∧ h[k]? = some (.inr (.inl (n, f))) ∧ h[v]? = some (.inr (.inr (0, fs))) ∧ vp_in i n ∧ K nx L S' (h.set k (.inr (.inl (n, va_up f i.toNatClampNeg (some v)))))
  | 44 => ∃ x S', S = .int x :: S' ∧ ¬ x < 0 ∧ x.toNatClampNeg ≤ 65536 ∧ K nx L (.ref h.length :: S') (h ++ [.inl (b, x.toNatClampNeg, fun _ => 0)])
  | 45 => ∃ x S', S = .int x :: S' ∧ ¬ x < 0 ∧ x.toNatClampNeg ≤ 65536 ∧ K nx L (.ref h.length :: S') (h ++ [.inr (.inl (x.toNatClampNeg, fun _ => none))])
  | 46 => K nx L (.ref h.length :: S) (h ++ [.inr (.inr (b, axDf b))])
  | 47 => ∃ x y S', S = .int y :: .int x :: S' ∧ ¬ y = 0 ∧ K nx L (.int (x / y) :: S') h
  | 48 => ∃ x y S', S = .int y :: .int x :: S' ∧ ¬ y = 0 ∧ K nx L (.int (x - x / y * y) :: S') h
  | 49 => ∃ x, S = [.int x] ∧ narrow (axEt b) (.int x) = .int x ∧ Q (some (.int x)) h
  | 50 => S = [] ∧ Q none h
  | 51 => ∃ k, S = [.ref k] ∧ Q (some (.ref k)) h
  | 52 => ∃ ci As k rest fs r h1, a = .ref ci ∧ S = As.reverse ++ .ref k :: rest ∧ As.length = c ∧ axSum rest ≤ 8 ∧ h[k]? = some (.inr (.inr (ci, fs))) ∧ E b (.ref k :: As) h r h1 ∧ K nx L (r.toList ++ rest) h1
  | 53 => ∃ As rest r h1, S = As.reverse ++ rest ∧ As.length = c ∧ axSum rest ≤ 8 ∧ E b As h r h1 ∧ K nx L (r.toList ++ rest) h1
  | 54 => ∃ As k rest r h1, S = As.reverse ++ .ref k :: rest ∧ As.length = c ∧ axSum rest ≤ 8 ∧ E b (.ref k :: As) h r h1 ∧ K nx L (r.toList ++ rest) h1
  | 55 => ∃ k rest, S = .ref k :: rest ∧ axSum rest ≤ 8 ∧ K nx L rest h
  | 56 => ∃ n dp k1 sp k0 rest n0 n1 f g, S = .int n :: .int dp :: .ref k1 :: .int sp :: .ref k0 :: rest ∧ h[k0]? = some (.inl (0, n0, f)) ∧ h[k1]? = some (.inl (0, n1, g)) ∧ ¬ sp < 0 ∧ ¬ dp < 0 ∧ ¬ n < 0 ∧ sp.toNatClampNeg + n.toNatClampNeg ≤ n0 ∧ dp.toNatClampNeg + n.toNatClampNeg ≤ n1 ∧ axSum rest ≤ 8 ∧ K nx L rest (h.set k1 (.inl (0, n1, va_cpy f g sp.toNatClampNeg dp.toNatClampNeg n.toNatClampNeg)))
  | 57 => ∃ x y S', S = .int y :: .int x :: S' ∧ axSum S' ≤ 8 ∧ K nx L (.int (if x < y then y else x) :: S') h
  | 58 => ∃ x y S', S = .int y :: .int x :: S' ∧ axSum S' ≤ 8 ∧ K nx L (.int (if y < x then y else x) :: S') h
  | 59 => ∃ x S', S = .int x :: S' ∧ axSum S' ≤ 8 ∧ K nx L (.int (if 0 ≤ x then x else 0 - x) :: S') h
  | 60 => ∃ v k S' fs, S = v :: .ref k :: S' ∧ h[k]? = some (.inr (.inr (b, fs))) ∧ c < fs.length ∧ axFit b c v ∧ K nx L S' (h.set k (.inr (.inr (b, fs.set c v))))
  | 62 => ∃ x, S = [.long x] ∧ Q (some (.long x)) h
  | op => ∃ q, axStp op a b L S = some q ∧ K nx q.1 q.2 h
def axWn (ro : axRo) (E : axCall) (cd : List axE) : Nat → Nat → axL → List Value → axH → (Option Value → axH → Prop) → Prop
  | 0, _, _, _, _, _ => False
  | n + 1, pc, L, S, h, Q => ∃ e, axF cd pc = some e ∧ axOne ro E e L S h (fun pc' L' S' h' => axWn ro E cd n pc' L' S' h' Q) Q
def axW (ro : axRo) (E : axCall) (cd : List axE) (pc : Nat) (L : axL) (S : List Value) (h : axH) (Q : Option Value → axH → Prop) : Prop := ∃ n, axWn ro E cd n pc L S h Q
def axSz : List Value → Nat
  | [] => 0
  | v :: l => v.category + axSz l
def axIn : List Value → Nat → axL
  | [], n => List.replicate n none
  | v :: l, n => match v with
    | .long x => some (.long x) :: none :: axIn l (n - 2)
    | v => some v :: axIn l (n - 1)
abbrev axM : Type := MethodName × ByteArray × Nat × Option FieldType × Nat × Bool × List axE
/-- the instruction as the tables have it: o is the number of the class whose constant pool is meant -/
def axCc : ClassFile.Cond → Nat := fun k => match k with
  | .eq => 0
  | .ne => 1
  | .lt => 2
  | .ge => 3
  | .gt => 4
  | .le => 5
def axI (k len : Nat) (e : axE) : Option axE := if len = k then some e else none
def axTg (pc len : Nat) (off : Int) (k : Nat → axE) : Option axE := if 0 ≤ (pc : Int) + off ∧ len = 3 then some (k ((pc : Int) + off).toNat) else none
def axSwT (pc : Nat) (lo : Int) : List Int → List (Int32 × Nat)
  | [] => []
  | o :: r => (Int32.ofInt lo, ((pc : Int) + o).toNat) :: axSwT pc (lo + 1) r
def axSwL (pc : Nat) : List (Int × Int) → List (Int32 × Nat)
  | [] => []
  | q :: r => (Int32.ofInt q.1, ((pc : Int) + q.2).toNat) :: axSwL pc r
def axFnd {α : Type} (o i : Nat) : List (Nat × Nat × α) → Option α
  | [] => none
  | q :: r => bif Nat.beq q.1 o && Nat.beq q.2.1 i then some q.2.2 else axFnd o i r
end
section
/-! The tables: links of the constant pools, fields, methods. Written by wip/p32/gen2.py. -/
def axCn : Nat → String := fun k => match k with
  | 0 => "BeatSlugs$Board"
  | 1 => "BeatSlugs$History"
  | 2 => "BeatSlugs$Pad"
  | 3 => "BeatSlugs$SwapSearch"
  | 4 => "BeatSlugs"
  | 5 => "BeatSlugsModel"
  | 6 => "BeatSlugsLaw"
  | _ => "java/lang/Integer"
def axT0 : u_T := fun k => match k with
  | 0 => ("BeatSlugs$Board", "settings", "[I", true)
  | 1 => ("BeatSlugs$Board", "targets", "[I", true)
  | 2 => ("BeatSlugs$Board", "row", "[I", true)
  | 3 => ("BeatSlugs$Board", "written", "[I", true)
  | 4 => ("BeatSlugs$Board", "beats", "[I", true)
  | 5 => ("BeatSlugs$Board", "needs", "[I", true)
  | 6 => ("BeatSlugs$Board", "slugs", "I", false)
  | 7 => ("BeatSlugs$Board", "turns", "I", false)
  | _ => ("BeatSlugs$Board", "size", "I", false)
def axT1 : u_T := fun k => match k with
  | 0 => ("BeatSlugs$History", "states", "[LBeatSlugs$Board;", true)
  | 1 => ("BeatSlugs$History", "next", "I", false)
  | _ => ("BeatSlugs$History", "kept", "I", false)
def axT2 : u_T := fun k => match k with
  | 0 => ("BeatSlugs$Pad", "signs", "[C", true)
  | 1 => ("BeatSlugs$Pad", "length", "I", false)
  | 2 => ("BeatSlugs$Pad", "cursor", "I", false)
  | 3 => ("BeatSlugs$Pad", "last", "Z", false)
  | 4 => ("BeatSlugs$Pad", "kind", "C", false)
  | 5 => ("BeatSlugs$Pad", "first", "I", false)
  | _ => ("BeatSlugs$Pad", "second", "I", false)
def axT3 : u_T := fun k => match k with
  | 0 => ("BeatSlugs$SwapSearch", "trial", "[I", true)
  | 1 => ("BeatSlugs$SwapSearch", "lower", "I", false)
  | 2 => ("BeatSlugs$SwapSearch", "higher", "I", false)
  | _ => ("BeatSlugs$SwapSearch", "least", "I", false)
def axT4 : u_T := fun k => match k with
  | 0 => ("BeatSlugs", "board", "LBeatSlugs$Board;", true)
  | 1 => ("BeatSlugs", "history", "LBeatSlugs$History;", true)
  | 2 => ("BeatSlugs", "slots", "[LBeatSlugs$Board;", true)
  | 3 => ("BeatSlugs", "pad", "LBeatSlugs$Pad;", true)
  | _ => ("BeatSlugs", "search", "LBeatSlugs$SwapSearch;", true)
def axT : Nat → u_T := fun c => match c with
  | 0 => axT0
  | 1 => axT1
  | 2 => axT2
  | 3 => axT3
  | _ => axT4
def axNf : Nat → Nat := fun c => match c with
  | 0 => 9
  | 1 => 3
  | 2 => 7
  | 3 => 4
  | _ => 5
abbrev axCl : List vw_C := [("BeatSlugs$Board", axT0, 9), ("BeatSlugs$History", axT1, 3), ("BeatSlugs$Pad", axT2, 7), ("BeatSlugs$SwapSearch", axT3, 4), ("BeatSlugs", axT4, 5)]
/-- a field by the place in the constant pool: class, place, class of the field, its number, the word of the tables -/
def axFlT : List (Nat × Nat × Nat × Nat × Nat) := [(0, 9, 0, 0, 33), (0, 15, 0, 1, 34), (0, 18, 0, 2, 35), (0, 21, 0, 3, 36), (0, 24, 0, 4, 37), (0, 27, 0, 5, 38), (0, 36, 0, 6, 39), (0, 40, 0, 7, 40), (0, 43, 0, 8, 41), (1, 11, 1, 0, 70), (1, 21, 1, 1, 71), (1, 17, 1, 2, 72), (2, 9, 2, 0, 86), (2, 15, 2, 1, 87), (3, 9, 3, 0, 110), (3, 15, 3, 1, 111), (3, 19, 3, 2, 112), (3, 22, 3, 3, 113), (4, 10, 4, 0, 123), (4, 19, 4, 1, 124), (4, 23, 4, 2, 125), (4, 30, 4, 3, 126), (4, 37, 4, 4, 127)]
def axStT : List (Nat × Nat × Nat × Nat) := [(0, 46, 1, 598), (0, 53, 2, 600)]
def axClsT : List (Nat × Nat × Nat × Nat) := [(6, 11, 4, 19), (4, 7, 0, 27), (4, 16, 1, 62), (1, 9, 0, 68), (4, 27, 2, 80), (4, 34, 3, 104)]
def axCsT : List (Nat × Nat × Int32 × Nat) := [(7, 265, 1431655765, 248), (7, 266, 858993459, 249), (7, 267, 252645135, 250), (6, 7, 834001351, 281), (6, 8, 782758355, 282), (6, 9, 2147483647, 463)]
def axLcT : List (Nat × Nat × Int64 × Nat) := [(6, 41, 19, 524), (6, 43, 31, 525)]
/-- a method by the place in the constant pool: class, place, kind (0 virtual, 1 static, 2 static of a nest mate, 3 static of another class, 4 arraycopy, 5 max, 6 min, 7 abs, 8 constructor, 9 Object), number, parameters, class, the word -/
def axMlT0 : List (Nat × Nat × Nat × Nat × Nat × Nat × Nat) := [
  (6, 114, 8, 0, 0, 4, 21), (4, 1, 9, 0, 0, 0, 24), (4, 9, 8, 1, 0, 0, 29), (0, 3, 9, 0, 0, 0, 32), (4, 18, 8, 2, 0, 1, 64), (1, 3, 9, 0, 0, 0, 67), (4, 29, 8, 3, 0, 2, 82), (2, 3, 9, 0, 0, 0, 85),
  (4, 36, 8, 4, 0, 3, 106), (3, 3, 9, 0, 0, 0, 109), (6, 45, 0, 5, 1, 4, 139), (4, 183, 0, 6, 1, 3, 143), (3, 25, 0, 7, 0, 0, 147), (0, 170, 0, 8, 2, 0, 151), (0, 152, 0, 11, 1, 0, 161), (0, 127, 6, 0, 2, 0, 165),
  (0, 110, 7, 0, 1, 0, 168), (3, 31, 0, 12, 0, 0, 171), (3, 34, 0, 13, 1, 0, 175), (3, 42, 0, 15, 2, 3, 182), (3, 46, 0, 16, 1, 0, 186), (3, 49, 0, 17, 1, 0, 190), (0, 78, 0, 18, 1, 0, 194), (3, 52, 0, 19, 3, 3, 198),
  (3, 56, 0, 20, 2, 3, 202), (3, 60, 0, 21, 0, 0, 207), (3, 63, 0, 8, 2, 0, 211), (4, 186, 0, 22, 0, 3, 212), (4, 190, 0, 23, 0, 3, 216), (4, 122, 0, 13, 1, 0, 220), (4, 193, 0, 24, 0, 3, 221), (4, 196, 0, 25, 0, 3, 225)]
def axMlT1 : List (Nat × Nat × Nat × Nat × Nat × Nat × Nat) := [
  (6, 62, 0, 26, 1, 4, 229), (4, 199, 0, 27, 1, 0, 233), (0, 164, 0, 28, 1, 0, 237), (0, 149, 0, 29, 0, 0, 241), (0, 89, 3, 30, 1, 7, 245), (0, 158, 0, 31, 1, 0, 251), (0, 124, 0, 32, 1, 0, 255), (0, 146, 0, 33, 2, 0, 259),
  (0, 137, 5, 0, 2, 0, 263), (0, 167, 0, 34, 2, 0, 266), (0, 94, 0, 35, 1, 0, 270), (0, 134, 0, 36, 1, 0, 274), (6, 118, 1, 37, 2, 6, 278), (6, 115, 1, 38, 1, 6, 283), (6, 16, 1, 39, 1, 6, 286), (6, 10, 0, 40, 1, 4, 289),
  (6, 22, 0, 41, 2, 4, 293), (4, 87, 0, 42, 1, 0, 297), (4, 91, 0, 43, 1, 0, 301), (4, 94, 0, 44, 1, 0, 305), (4, 97, 0, 45, 1, 0, 309), (4, 100, 0, 46, 1, 0, 313), (4, 103, 0, 18, 1, 0, 317), (4, 106, 0, 47, 1, 0, 318),
  (4, 109, 0, 33, 2, 0, 325), (4, 112, 0, 49, 0, 0, 326), (4, 116, 0, 50, 1, 0, 330), (4, 119, 0, 35, 1, 0, 334), (6, 26, 0, 51, 1, 4, 335), (4, 205, 0, 52, 1, 0, 339), (6, 29, 0, 53, 1, 4, 343), (4, 125, 0, 54, 1, 0, 347)]
def axMlT2 : List (Nat × Nat × Nat × Nat × Nat × Nat × Nat) := [
  (0, 97, 0, 45, 1, 0, 351), (6, 32, 0, 55, 1, 4, 352), (4, 174, 0, 16, 1, 0, 356), (4, 177, 0, 17, 1, 0, 357), (4, 180, 1, 48, 1, 4, 358), (6, 35, 0, 56, 1, 4, 359), (4, 149, 0, 57, 0, 0, 363), (4, 152, 0, 29, 0, 0, 367),
  (4, 155, 0, 58, 0, 0, 368), (4, 158, 0, 7, 0, 0, 372), (4, 161, 0, 59, 0, 0, 373), (0, 161, 0, 60, 1, 0, 377), (0, 155, 0, 61, 1, 0, 381), (4, 164, 0, 62, 0, 0, 385), (4, 167, 0, 36, 1, 0, 389), (4, 170, 0, 63, 0, 2, 390),
  (4, 173, 0, 64, 0, 1, 394), (6, 38, 0, 65, 2, 4, 398), (4, 128, 0, 28, 1, 0, 402), (4, 131, 0, 32, 1, 0, 403), (4, 134, 0, 11, 1, 0, 404), (4, 137, 0, 31, 1, 0, 405), (4, 140, 0, 60, 1, 0, 406), (4, 143, 0, 61, 1, 0, 407),
  (4, 146, 0, 34, 2, 0, 408), (6, 107, 1, 66, 1, 6, 409), (6, 48, 0, 67, 2, 4, 412), (4, 41, 0, 68, 1, 1, 416), (4, 236, 0, 70, 1, 0, 423), (0, 30, 4, 0, 5, 0, 427), (4, 78, 0, 71, 2, 0, 430), (0, 64, 0, 42, 1, 0, 434)]
def axMlT3 : List (Nat × Nat × Nat × Nat × Nat × Nat × Nat) := [
  (0, 68, 0, 43, 1, 0, 435), (0, 103, 0, 72, 2, 0, 436), (0, 140, 0, 17, 1, 0, 440), (0, 143, 0, 16, 1, 0, 441), (4, 49, 0, 73, 1, 1, 443), (1, 28, 6, 0, 2, 0, 447), (6, 51, 0, 74, 0, 4, 448), (4, 227, 0, 75, 1, 1, 452),
  (1, 34, 0, 70, 1, 0, 456), (6, 122, 1, 76, 3, 6, 457), (6, 68, 1, 77, 2, 6, 460), (6, 71, 0, 78, 3, 4, 464), (4, 56, 0, 79, 3, 0, 468), (0, 56, 0, 80, 2, 0, 472), (0, 130, 0, 81, 0, 0, 476), (0, 106, 0, 82, 2, 0, 480),
  (6, 75, 0, 83, 1, 4, 484), (4, 60, 0, 84, 1, 0, 488), (0, 71, 0, 85, 1, 0, 492), (6, 78, 0, 86, 1, 4, 496), (4, 202, 0, 87, 1, 0, 500), (6, 81, 0, 88, 1, 4, 504), (4, 63, 0, 89, 1, 0, 508), (0, 75, 0, 46, 1, 0, 512),
  (6, 84, 0, 90, 2, 4, 513), (4, 66, 0, 91, 2, 0, 517), (6, 55, 1, 92, 1, 6, 521), (6, 87, 0, 93, 2, 4, 526), (4, 69, 0, 94, 2, 0, 530), (6, 90, 0, 95, 1, 4, 534), (4, 72, 0, 96, 1, 0, 538), (0, 100, 0, 44, 1, 0, 542)]
def axMlT4 : List (Nat × Nat × Nat × Nat × Nat × Nat × Nat) := [
  (6, 93, 1, 97, 3, 6, 543), (6, 59, 0, 98, 2, 4, 546), (4, 75, 0, 99, 2, 0, 550), (6, 97, 0, 100, 2, 4, 554), (4, 81, 0, 101, 2, 0, 558), (0, 115, 0, 102, 2, 0, 562), (0, 118, 0, 103, 2, 0, 566), (6, 100, 1, 104, 2, 6, 570),
  (6, 65, 0, 105, 1, 4, 573), (4, 84, 0, 106, 1, 0, 577), (0, 121, 0, 27, 1, 0, 581), (6, 104, 0, 107, 2, 4, 582), (4, 53, 0, 108, 2, 0, 586), (6, 111, 0, 109, 2, 4, 590), (4, 45, 0, 110, 2, 0, 594), (0, 49, 2, 9, 2, 4, 155),
  (0, 81, 2, 10, 2, 4, 158), (3, 38, 2, 14, 3, 4, 179), (3, 67, 2, 9, 2, 4, 206), (0, 60, 2, 48, 1, 4, 322), (1, 24, 2, 69, 2, 4, 420), (0, 85, 2, 14, 3, 4, 442)]
def axMlT : List (Nat × Nat × Nat × Nat × Nat × Nat × Nat) := axMlT0 ++ (axMlT1 ++ (axMlT2 ++ (axMlT3 ++ (axMlT4))))
def axFin (c k : Nat) : Bool := (axT c k).2.2.2
def axTr (o : Nat) (ini : Bool) (rt : Nat) (pc : Nat) (ins : Instr) (len : Nat) : Option axE := match ins with
  | .iconst n => axI 1 len (pc, 0, .int (Int32.ofInt n), 0, 0, [], pc + 1)
  | .bipush n => axI 2 len (pc, 0, .int (Int8.ofInt n).toInt32, 0, 0, [], pc + 2)
  | .sipush n => axI 3 len (pc, 0, .int (Int16.ofInt n).toInt32, 0, 0, [], pc + 3)
  | .ldc_w i => match axFnd o i axCsT with
    | some q => axI 3 len (pc, 0, .int q.1, 0, 0, [], pc + 3)
    | none => none
  | .ldc i => match axFnd o i axCsT with
    | some q => axI 2 len (pc, 0, .int q.1, 0, 0, [], pc + 2)
    | none => none
  | .lstore_n k => axI 1 len (pc, 30, .null, (k : Nat), 0, [], pc + 1)
  | .lstore k => axI 2 len (pc, 30, .null, k, 0, [], pc + 2)
  | .ladd => axI 1 len (pc, 31, .null, 0, 0, [], pc + 1)
  | .lmul => axI 1 len (pc, 31, .null, 1, 0, [], pc + 1)
  | .lreturn => axI 1 len (pc, 62, .null, 0, 0, [], pc)
  | .ldc2_w i => match axFnd o i axLcT with
    | some q => axI 3 len (pc, 0, .long q.1, 0, 0, [], pc + 3)
    | none => none
  | .lconst n => axI 1 len (pc, 0, .long (Int64.ofNat (n : Nat)), 0, 0, [], pc + 1)
  | .iload_n k => axI 1 len (pc, 1, .null, (k : Nat), 0, [], pc + 1)
  | .iload k => axI 2 len (pc, 1, .null, k, 0, [], pc + 2)
  | .aload_n k => axI 1 len (pc, 2, .null, (k : Nat), 0, [], pc + 1)
  | .aload k => axI 2 len (pc, 2, .null, k, 0, [], pc + 2)
  | .lload_n k => axI 1 len (pc, 3, .null, (k : Nat), 0, [], pc + 1)
  | .lload k => axI 2 len (pc, 3, .null, k, 0, [], pc + 2)
  | .istore_n k => axI 1 len (pc, 4, .null, (k : Nat), 0, [], pc + 1)
  | .istore k => axI 2 len (pc, 4, .null, k, 0, [], pc + 2)
  | .astore_n k => axI 1 len (pc, 5, .null, (k : Nat), 0, [], pc + 1)
  | .astore k => axI 2 len (pc, 5, .null, k, 0, [], pc + 2)
  | .iinc i n => axI 3 len (pc, 6, .int (Int32.ofInt n), i, 0, [], pc + 3)
  | .dup => axI 1 len (pc, 7, .null, 0, 0, [], pc + 1)
  | .pop => axI 1 len (pc, 8, .null, 0, 0, [], pc + 1)
  | .goto off => axTg pc len off fun t => (pc, 9, .null, 0, 0, [], t)
  | .dup2 => axI 1 len (pc, 10, .null, 0, 0, [], pc + 1)
  | .iadd => axI 1 len (pc, 11, .null, 0, 0, [], pc + 1)
  | .isub => axI 1 len (pc, 12, .null, 0, 0, [], pc + 1)
  | .imul => axI 1 len (pc, 13, .null, 0, 0, [], pc + 1)
  | .iand => axI 1 len (pc, 14, .null, 0, 0, [], pc + 1)
  | .ior => axI 1 len (pc, 15, .null, 0, 0, [], pc + 1)
  | .ixor => axI 1 len (pc, 16, .null, 0, 0, [], pc + 1)
  | .ishl => axI 1 len (pc, 17, .null, 0, 0, [], pc + 1)
  | .ishr => axI 1 len (pc, 18, .null, 0, 0, [], pc + 1)
  | .iushr => axI 1 len (pc, 19, .null, 0, 0, [], pc + 1)
  | .ineg => axI 1 len (pc, 20, .null, 0, 0, [], pc + 1)
  | .i2c => axI 1 len (pc, 21, .null, 0, 0, [], pc + 1)
  | .i2l => axI 1 len (pc, 22, .null, 0, 0, [], pc + 1)
  | .l2i => axI 1 len (pc, 23, .null, 0, 0, [], pc + 1)
  | .land => axI 1 len (pc, 24, .null, 0, 0, [], pc + 1)
  | .lor => axI 1 len (pc, 25, .null, 0, 0, [], pc + 1)
  | .lshl => axI 1 len (pc, 26, .null, 0, 0, [], pc + 1)
  | .lshr => axI 1 len (pc, 27, .null, 0, 0, [], pc + 1)
  | .lushr => axI 1 len (pc, 28, .null, 0, 0, [], pc + 1)
  | .lcmp => axI 1 len (pc, 29, .null, 0, 0, [], pc + 1)
  | .if_icmp cd off => axTg pc len off fun t => (pc, 32, .null, axCc cd, t, [], pc + 3)
  | .ifCond cd off => axTg pc len off fun t => (pc, 33, .null, axCc cd, t, [], pc + 3)
  | .ifnonnull off => axTg pc len off fun t => (pc, 34, .null, 0, t, [], pc + 3)
  | .tableswitch d lo hi offs => if 0 ≤ lo ∧ hi < 1000 ∧ (offs.size : Int) = hi - lo + 1 ∧ 0 ≤ (pc : Int) + d ∧ (offs.toList.all fun o => decide (0 ≤ (pc : Int) + o)) = true then some (pc, 35, .null, 0, ((pc : Int) + d).toNat, axSwT pc lo offs.toList, pc) else none
  | .lookupswitch d ps => if (ps.toList.zip (ps.toList.drop 1)).all (fun (a, next) => a.1 < next.1) = true ∧ 0 ≤ (pc : Int) + d ∧ (ps.toList.all fun o => decide (0 ≤ (pc : Int) + o.2 ∧ -1000 < o.1 ∧ o.1 < 1000)) = true then some (pc, 35, .null, 0, ((pc : Int) + d).toNat, axSwL pc ps.toList, pc) else none
  | .getfield i => match axFnd o i axFlT with
    | some (c, k, _) => axI 3 len (pc, 36, .null, c, k, [], pc + 3)
    | none => none
  | .putfield i => match axFnd o i axFlT with
    | some (c, k, _) => bif axFin c k then bif ini && Nat.beq c o then axI 3 len (pc, 60, .null, c, k, [], pc + 3) else none else axI 3 len (pc, 37, .null, c, k, [], pc + 3)
    | none => none
  | .getstatic i => match axFnd o i axStT with
    | some (j, _) => axI 3 len (pc, 38, .null, j, 0, [], pc + 3)
    | none => none
  | .arraylength => axI 1 len (pc, 39, .null, 0, 0, [], pc + 1)
  | .iaload => axI 1 len (pc, 40, .null, 0, 0, [], pc + 1)
  | .caload => axI 1 len (pc, 40, .null, 1, 0, [], pc + 1)
  | .aaload => axI 1 len (pc, 41, .null, 0, 0, [], pc + 1)
  | .iastore => axI 1 len (pc, 42, .null, 0, 0, [], pc + 1)
  | .castore => axI 1 len (pc, 42, .null, 1, 0, [], pc + 1)
  | .aastore => axI 1 len (pc, 43, .null, 0, 0, [], pc + 1)
  | .newarray t => match t with
    | .int => axI 2 len (pc, 44, .null, 0, 0, [], pc + 2)
    | .char => axI 2 len (pc, 44, .null, 1, 0, [], pc + 2)
    | _ => none
  | .anewarray i => match axFnd o i axClsT with
    | some (0, _) => axI 3 len (pc, 45, .null, 0, 0, [], pc + 3)
    | _ => none
  | .new i => match axFnd o i axClsT with
    | some (c, _) => bif Nat.blt c 5 then axI 3 len (pc, 46, .null, c, 0, [], pc + 3) else none
    | none => none
  | .idiv => axI 1 len (pc, 47, .null, 0, 0, [], pc + 1)
  | .irem => axI 1 len (pc, 48, .null, 0, 0, [], pc + 1)
  | .ireturn => axI 1 len (pc, 49, .null, rt, 0, [], pc)
  | .return_ => axI 1 len (pc, 50, .null, 0, 0, [], pc)
  | .areturn => axI 1 len (pc, 51, .null, 0, 0, [], pc)
  | .invokevirtual i => match axFnd o i axMlT with
    | some (0, z, n, ci, _) => axI 3 len (pc, 52, .ref ci, z, n, [], pc + 3)
    | _ => none
  | .invokestatic i => match axFnd o i axMlT with
    | some (1, z, n, _, _) => axI 3 len (pc, 53, .null, z, n, [], pc + 3)
    | some (2, z, n, _, _) => axI 3 len (pc, 53, .null, z, n, [], pc + 3)
    | some (3, z, n, _, _) => axI 3 len (pc, 53, .null, z, n, [], pc + 3)
    | some (4, _, _, _, _) => axI 3 len (pc, 56, .null, 0, 0, [], pc + 3)
    | some (5, _, _, _, _) => axI 3 len (pc, 57, .null, 0, 0, [], pc + 3)
    | some (6, _, _, _, _) => axI 3 len (pc, 58, .null, 0, 0, [], pc + 3)
    | some (7, _, _, _, _) => axI 3 len (pc, 59, .null, 0, 0, [], pc + 3)
    | _ => none
  | .invokespecial i => match axFnd o i axMlT with
    | some (8, z, n, _, _) => axI 3 len (pc, 54, .null, z, n, [], pc + 3)
    | some (9, _, _, _, _) => axI 3 len (pc, 55, .null, 0, 0, [], pc + 3)
    | _ => none
  | _ => none
def axRk : Option FieldType → Nat := fun r => match r with
  | some .char => 1
  | some .boolean => 2
  | _ => 0
def axEqL : List (Int32 × Nat) → List (Int32 × Nat) → Bool
  | [], [] => true
  | q :: l, r :: m => decide (q.1 = r.1) && decide (q.2 = r.2) && axEqL l m
  | _, _ => false
theorem axEqL_ok : ∀ (l m : List (Int32 × Nat)), axEqL l m = true → l = m
  | [], [], _ => rfl
  | q :: l, r :: m, h => by
    simp only [axEqL, Bool.and_eq_true, decide_eq_true_eq] at h
    rw [axEqL_ok l m h.2, Prod.ext h.1.1 h.1.2]
  | [], _ :: _, h => by simp [axEqL] at h
  | _ :: _, [], h => by simp [axEqL] at h
def axEqO : Option axE → axE → Bool
  | some (p1, p2, p3, p4, p5, p6, p7), (q1, q2, q3, q4, q5, q6, q7) => decide (p1 = q1) && decide (p2 = q2) && decide (p3 = q3) && decide (p4 = q4) && decide (p5 = q5) && axEqL p6 q6 && decide (p7 = q7)
  | none, _ => false
theorem axEqO_ok {o : Option axE} {e : axE} (h : axEqO o e = true) : o = some e := by
  obtain ⟨q1, q2, q3, q4, q5, q6, q7⟩ := e
  match o, h with
  | some (p1, p2, p3, p4, p5, p6, p7), h =>
    simp only [axEqO, Bool.and_eq_true, decide_eq_true_eq] at h
    obtain ⟨⟨⟨⟨⟨⟨h1, h2⟩, h3⟩, h4⟩, h5⟩, h6⟩, h7⟩ := h
    rw [h1, h2, h3, h4, h5, axEqL_ok _ _ h6, h7]
  | none, h => simp [axEqO] at h
def axCk (o : Nat) (ini : Bool) (rt : Nat) (b : ByteArray) (l : List axE) : Bool := l.all fun e => match decode b e.1 with
  | .ok (ins, len) => axEqO (axTr o ini rt e.1 ins len) e
  | _ => false
theorem axCk_app {o : Nat} {i : Bool} {r : Nat} {b : ByteArray} {l m : List axE} (h1 : axCk o i r b l = true) (h2 : axCk o i r b m = true) : axCk o i r b (l ++ m) = true := by unfold axCk at *; rw [List.all_append, h1, h2]; rfl
end
section
/-! The code of the methods as rows of the abstract machine. Written by wip/p32/gen2.py. -/
def cdX4_init : List axE := [
  (0, 2, .null, 0, 0, [], 1), (1, 55, .null, 0, 0, [], 4), (4, 2, .null, 0, 0, [], 5), (5, 46, .null, 0, 0, [], 8), (8, 7, .null, 0, 0, [], 9), (9, 54, .null, 1, 0, [], 12), (12, 60, .null, 4, 0, [], 15), (15, 2, .null, 0, 0, [], 16),
  (16, 46, .null, 1, 0, [], 19), (19, 7, .null, 0, 0, [], 20), (20, 54, .null, 2, 0, [], 23), (23, 60, .null, 4, 1, [], 26), (26, 2, .null, 0, 0, [], 27), (27, 0, .int 2, 0, 0, [], 28), (28, 45, .null, 0, 0, [], 31), (31, 60, .null, 4, 2, [], 34),
  (34, 2, .null, 0, 0, [], 35), (35, 46, .null, 2, 0, [], 38), (38, 7, .null, 0, 0, [], 39), (39, 54, .null, 3, 0, [], 42), (42, 60, .null, 4, 3, [], 45), (45, 2, .null, 0, 0, [], 46), (46, 46, .null, 3, 0, [], 49), (49, 7, .null, 0, 0, [], 50),
  (50, 54, .null, 4, 0, [], 53), (53, 60, .null, 4, 4, [], 56), (56, 50, .null, 0, 0, [], 56)]
def mtX4_init : axM := (⟨"BeatSlugs", "<init>", "()V"⟩, prog_1_method_1_code, 1, none, 4, true, cdX4_init)
abbrev kX4_init : Nat := 0
set_option maxRecDepth 100000 in
theorem ckX4_init : axCk 4 true 0 prog_1_method_1_code cdX4_init = true := by decide +kernel
def cdX0_init : List axE := [
  (0, 2, .null, 0, 0, [], 1), (1, 55, .null, 0, 0, [], 4), (4, 2, .null, 0, 0, [], 5), (5, 0, .int 3, 0, 0, [], 6), (6, 44, .null, 0, 0, [], 8), (8, 7, .null, 0, 0, [], 9), (9, 0, .int 0, 0, 0, [], 10), (10, 0, .int 16, 0, 0, [], 12),
  (12, 42, .null, 0, 0, [], 13), (13, 7, .null, 0, 0, [], 14), (14, 0, .int 1, 0, 0, [], 15), (15, 0, .int 2, 0, 0, [], 16), (16, 42, .null, 0, 0, [], 17), (17, 7, .null, 0, 0, [], 18), (18, 0, .int 2, 0, 0, [], 19), (19, 0, .int 50, 0, 0, [], 21),
  (21, 42, .null, 0, 0, [], 22), (22, 60, .null, 0, 0, [], 25), (25, 2, .null, 0, 0, [], 26), (26, 0, .int 6, 0, 0, [], 28), (28, 44, .null, 0, 0, [], 30), (30, 7, .null, 0, 0, [], 31), (31, 0, .int 0, 0, 0, [], 32), (32, 0, .int 60, 0, 0, [], 34),
  (34, 42, .null, 0, 0, [], 35), (35, 7, .null, 0, 0, [], 36), (36, 0, .int 1, 0, 0, [], 37), (37, 0, .int 60, 0, 0, [], 39), (39, 42, .null, 0, 0, [], 40), (40, 7, .null, 0, 0, [], 41), (41, 0, .int 2, 0, 0, [], 42), (42, 0, .int 60, 0, 0, [], 44),
  (44, 42, .null, 0, 0, [], 45), (45, 7, .null, 0, 0, [], 46), (46, 0, .int 3, 0, 0, [], 47), (47, 0, .int 60, 0, 0, [], 49), (49, 42, .null, 0, 0, [], 50), (50, 7, .null, 0, 0, [], 51), (51, 0, .int 4, 0, 0, [], 52), (52, 0, .int 60, 0, 0, [], 54),
  (54, 42, .null, 0, 0, [], 55), (55, 7, .null, 0, 0, [], 56), (56, 0, .int 5, 0, 0, [], 57), (57, 0, .int 60, 0, 0, [], 59), (59, 42, .null, 0, 0, [], 60), (60, 60, .null, 0, 1, [], 63), (63, 2, .null, 0, 0, [], 64), (64, 0, .int 24, 0, 0, [], 66),
  (66, 44, .null, 0, 0, [], 68), (68, 60, .null, 0, 2, [], 71), (71, 2, .null, 0, 0, [], 72), (72, 0, .int 24, 0, 0, [], 74), (74, 44, .null, 0, 0, [], 76), (76, 60, .null, 0, 3, [], 79), (79, 2, .null, 0, 0, [], 80), (80, 0, .int 24, 0, 0, [], 82),
  (82, 44, .null, 0, 0, [], 84), (84, 60, .null, 0, 4, [], 87), (87, 2, .null, 0, 0, [], 88), (88, 0, .int 24, 0, 0, [], 90), (90, 44, .null, 0, 0, [], 92), (92, 60, .null, 0, 5, [], 95), (95, 50, .null, 0, 0, [], 95)]
def mtX0_init : axM := (⟨"BeatSlugs$Board", "<init>", "()V"⟩, prog_2_method_1_code, 1, none, 0, true, cdX0_init)
abbrev kX0_init : Nat := 1
set_option maxRecDepth 100000 in
theorem ckX0_init : axCk 0 true 0 prog_2_method_1_code cdX0_init = true := by decide +kernel
def cdX1_init : List axE := [
  (0, 2, .null, 0, 0, [], 1), (1, 55, .null, 0, 0, [], 4), (4, 2, .null, 0, 0, [], 5), (5, 0, .int 7, 0, 0, [], 7), (7, 45, .null, 0, 0, [], 10), (10, 60, .null, 1, 0, [], 13), (13, 50, .null, 0, 0, [], 13)]
def mtX1_init : axM := (⟨"BeatSlugs$History", "<init>", "()V"⟩, prog_3_method_1_code, 1, none, 1, true, cdX1_init)
abbrev kX1_init : Nat := 2
set_option maxRecDepth 100000 in
theorem ckX1_init : axCk 1 true 0 prog_3_method_1_code cdX1_init = true := by decide +kernel
def cdX2_init : List axE := [
  (0, 2, .null, 0, 0, [], 1), (1, 55, .null, 0, 0, [], 4), (4, 2, .null, 0, 0, [], 5), (5, 0, .int 80, 0, 0, [], 7), (7, 44, .null, 1, 0, [], 9), (9, 60, .null, 2, 0, [], 12), (12, 50, .null, 0, 0, [], 12)]
def mtX2_init : axM := (⟨"BeatSlugs$Pad", "<init>", "()V"⟩, prog_4_method_1_code, 1, none, 2, true, cdX2_init)
abbrev kX2_init : Nat := 3
set_option maxRecDepth 100000 in
theorem ckX2_init : axCk 2 true 0 prog_4_method_1_code cdX2_init = true := by decide +kernel
def cdX3_init : List axE := [
  (0, 2, .null, 0, 0, [], 1), (1, 55, .null, 0, 0, [], 4), (4, 2, .null, 0, 0, [], 5), (5, 0, .int 24, 0, 0, [], 7), (7, 44, .null, 0, 0, [], 9), (9, 60, .null, 3, 0, [], 12), (12, 50, .null, 0, 0, [], 12)]
def mtX3_init : axM := (⟨"BeatSlugs$SwapSearch", "<init>", "()V"⟩, prog_5_method_1_code, 1, none, 3, true, cdX3_init)
abbrev kX3_init : Nat := 4
set_option maxRecDepth 100000 in
theorem ckX3_init : axCk 3 true 0 prog_5_method_1_code cdX3_init = true := by decide +kernel
def cdX4_bestSwap : List axE := [
  (0, 1, .null, 1, 0, [], 1), (1, 33, .null, 2, 9, [], 4), (4, 1, .null, 1, 0, [], 5), (5, 0, .int 2, 0, 0, [], 6), (6, 32, .null, 5, 12, [], 9), (9, 0, .int (-2), 0, 0, [], 11), (11, 49, .null, 0, 0, [], 11), (12, 2, .null, 0, 0, [], 13),
  (13, 36, .null, 4, 4, [], 16), (16, 2, .null, 0, 0, [], 17), (17, 36, .null, 4, 0, [], 20), (20, 52, .ref 3, 6, 1, [], 23), (23, 2, .null, 0, 0, [], 24), (24, 36, .null, 4, 4, [], 27), (27, 52, .ref 3, 22, 0, [], 30), (30, 33, .null, 1, 36, [], 33),
  (33, 0, .int (-6), 0, 0, [], 35), (35, 49, .null, 0, 0, [], 35), (36, 1, .null, 1, 0, [], 37), (37, 35, .null, 0, 94, [(0, 64), (1, 79)], 37), (64, 2, .null, 0, 0, [], 65), (65, 36, .null, 4, 0, [], 68), (68, 2, .null, 0, 0, [], 69), (69, 36, .null, 4, 4, [], 72),
  (72, 52, .ref 3, 23, 0, [], 75), (75, 52, .ref 0, 13, 1, [], 78), (78, 49, .null, 0, 0, [], 78), (79, 2, .null, 0, 0, [], 80), (80, 36, .null, 4, 0, [], 83), (83, 2, .null, 0, 0, [], 84), (84, 36, .null, 4, 4, [], 87), (87, 52, .ref 3, 24, 0, [], 90),
  (90, 52, .ref 0, 13, 1, [], 93), (93, 49, .null, 0, 0, [], 93), (94, 2, .null, 0, 0, [], 95), (95, 36, .null, 4, 4, [], 98), (98, 52, .ref 3, 25, 0, [], 101), (101, 49, .null, 0, 0, [], 101)]
def mtX4_bestSwap : axM := (⟨"BeatSlugs", "bestSwap", "(I)I"⟩, prog_1_method_20_code, 2, (some .int), 4, false, cdX4_bestSwap)
abbrev kX4_bestSwap : Nat := 5
set_option maxRecDepth 100000 in
theorem ckX4_bestSwap : axCk 4 false 0 prog_1_method_20_code cdX4_bestSwap = true := by decide +kernel
def cdX3_run : List axE := [
  (0, 2, .null, 0, 0, [], 1), (1, 0, .int 0, 0, 0, [], 2), (2, 37, .null, 3, 1, [], 5), (5, 2, .null, 0, 0, [], 6), (6, 0, .int 0, 0, 0, [], 7), (7, 37, .null, 3, 2, [], 10), (10, 2, .null, 0, 0, [], 11), (11, 2, .null, 1, 0, [], 12),
  (12, 52, .ref 0, 7, 0, [], 15), (15, 37, .null, 3, 3, [], 18), (18, 2, .null, 1, 0, [], 19), (19, 52, .ref 0, 12, 0, [], 22), (22, 4, .null, 2, 0, [], 23), (23, 0, .int 0, 0, 0, [], 24), (24, 4, .null, 3, 0, [], 25), (25, 1, .null, 3, 0, [], 26),
  (26, 1, .null, 2, 0, [], 27), (27, 32, .null, 3, 49, [], 30), (30, 2, .null, 0, 0, [], 31), (31, 36, .null, 3, 0, [], 34), (34, 1, .null, 3, 0, [], 35), (35, 2, .null, 1, 0, [], 36), (36, 1, .null, 3, 0, [], 37), (37, 52, .ref 0, 13, 1, [], 40),
  (40, 53, .null, 14, 3, [], 43), (43, 6, .int 1, 3, 0, [], 46), (46, 9, .null, 0, 0, [], 25), (49, 0, .int 0, 0, 0, [], 50), (50, 4, .null, 3, 0, [], 51), (51, 1, .null, 3, 0, [], 52), (52, 1, .null, 2, 0, [], 53), (53, 32, .null, 3, 68, [], 56),
  (56, 2, .null, 0, 0, [], 57), (57, 2, .null, 1, 0, [], 58), (58, 1, .null, 3, 0, [], 59), (59, 52, .ref 3, 15, 2, [], 62), (62, 6, .int 1, 3, 0, [], 65), (65, 9, .null, 0, 0, [], 51), (68, 50, .null, 0, 0, [], 68)]
def mtX3_run : axM := (⟨"BeatSlugs$SwapSearch", "run", "(LBeatSlugs$Board;)V"⟩, prog_5_method_6_code, 4, none, 3, false, cdX3_run)
abbrev kX3_run : Nat := 6
set_option maxRecDepth 100000 in
theorem ckX3_run : axCk 3 false 0 prog_5_method_6_code cdX3_run = true := by decide +kernel
def cdX0_offTogether : List axE := [
  (0, 2, .null, 0, 0, [], 1), (1, 2, .null, 0, 0, [], 2), (2, 36, .null, 0, 2, [], 5), (5, 2, .null, 0, 0, [], 6), (6, 36, .null, 0, 7, [], 9), (9, 52, .ref 0, 8, 2, [], 12), (12, 49, .null, 0, 0, [], 12)]
def mtX0_offTogether : axM := (⟨"BeatSlugs$Board", "offTogether", "()I"⟩, prog_2_method_54_code, 1, (some .int), 0, false, cdX0_offTogether)
abbrev kX0_offTogether : Nat := 7
set_option maxRecDepth 100000 in
theorem ckX0_offTogether : axCk 0 false 0 prog_2_method_54_code cdX0_offTogether = true := by decide +kernel
def cdX0_offOfRow : List axE := [
  (0, 0, .int 0, 0, 0, [], 1), (1, 4, .null, 3, 0, [], 2), (2, 0, .int 0, 0, 0, [], 3), (3, 4, .null, 4, 0, [], 5), (5, 0, .int 0, 0, 0, [], 6), (6, 4, .null, 5, 0, [], 8), (8, 0, .int 0, 0, 0, [], 9), (9, 4, .null, 6, 0, [], 11),
  (11, 0, .int 0, 0, 0, [], 12), (12, 4, .null, 7, 0, [], 14), (14, 1, .null, 7, 0, [], 16), (16, 2, .null, 0, 0, [], 17), (17, 36, .null, 0, 8, [], 20), (20, 32, .null, 3, 93, [], 23), (23, 2, .null, 1, 0, [], 24), (24, 1, .null, 7, 0, [], 26),
  (26, 53, .null, 9, 2, [], 29), (29, 4, .null, 8, 0, [], 31), (31, 1, .null, 5, 0, [], 33), (33, 2, .null, 0, 0, [], 34), (34, 36, .null, 0, 4, [], 37), (37, 1, .null, 8, 0, [], 39), (39, 53, .null, 9, 2, [], 42), (42, 11, .null, 0, 0, [], 43),
  (43, 4, .null, 5, 0, [], 45), (45, 1, .null, 2, 0, [], 46), (46, 1, .null, 8, 0, [], 48), (48, 53, .null, 10, 2, [], 51), (51, 33, .null, 1, 58, [], 54), (54, 0, .int 1, 0, 0, [], 55), (55, 9, .null, 0, 0, [], 59), (58, 0, .int 0, 0, 0, [], 59),
  (59, 4, .null, 6, 0, [], 61), (61, 1, .null, 6, 0, [], 63), (63, 33, .null, 1, 87, [], 66), (66, 1, .null, 3, 0, [], 67), (67, 1, .null, 5, 0, [], 69), (69, 2, .null, 0, 0, [], 70), (70, 1, .null, 4, 0, [], 72), (72, 52, .ref 0, 11, 1, [], 75),
  (75, 12, .null, 0, 0, [], 76), (76, 59, .null, 0, 0, [], 79), (79, 11, .null, 0, 0, [], 80), (80, 4, .null, 3, 0, [], 81), (81, 6, .int 1, 4, 0, [], 84), (84, 0, .int 0, 0, 0, [], 85), (85, 4, .null, 5, 0, [], 87), (87, 6, .int 1, 7, 0, [], 90),
  (90, 9, .null, 0, 0, [], 14), (93, 1, .null, 6, 0, [], 95), (95, 33, .null, 0, 115, [], 98), (98, 1, .null, 3, 0, [], 99), (99, 1, .null, 5, 0, [], 101), (101, 2, .null, 0, 0, [], 102), (102, 1, .null, 4, 0, [], 104), (104, 52, .ref 0, 11, 1, [], 107),
  (107, 12, .null, 0, 0, [], 108), (108, 59, .null, 0, 0, [], 111), (111, 11, .null, 0, 0, [], 112), (112, 9, .null, 0, 0, [], 116), (115, 1, .null, 3, 0, [], 116), (116, 49, .null, 0, 0, [], 116)]
def mtX0_offOfRow : axM := (⟨"BeatSlugs$Board", "offOfRow", "([II)I"⟩, prog_2_method_56_code, 9, (some .int), 0, false, cdX0_offOfRow)
abbrev kX0_offOfRow : Nat := 8
set_option maxRecDepth 100000 in
theorem ckX0_offOfRow : axCk 0 false 0 prog_2_method_56_code cdX0_offOfRow = true := by decide +kernel
def cdX4_cell : List axE := [
  (0, 1, .null, 1, 0, [], 1), (1, 33, .null, 2, 16, [], 4), (4, 1, .null, 1, 0, [], 5), (5, 2, .null, 0, 0, [], 6), (6, 39, .null, 0, 0, [], 7), (7, 32, .null, 3, 16, [], 10), (10, 2, .null, 0, 0, [], 11), (11, 1, .null, 1, 0, [], 12),
  (12, 40, .null, 0, 0, [], 13), (13, 9, .null, 0, 0, [], 17), (16, 0, .int 0, 0, 0, [], 17), (17, 49, .null, 0, 0, [], 17)]
def mtX4_cell : axM := (⟨"BeatSlugs", "cell", "([II)I"⟩, prog_1_method_33_code, 2, (some .int), 4, false, cdX4_cell)
abbrev kX4_cell : Nat := 9
set_option maxRecDepth 100000 in
theorem ckX4_cell : axCk 4 false 0 prog_1_method_33_code cdX4_cell = true := by decide +kernel
def cdX4_contains : List axE := [
  (0, 1, .null, 1, 0, [], 1), (1, 33, .null, 2, 22, [], 4), (4, 1, .null, 1, 0, [], 5), (5, 0, .int 24, 0, 0, [], 7), (7, 32, .null, 3, 22, [], 10), (10, 1, .null, 0, 0, [], 11), (11, 1, .null, 1, 0, [], 12), (12, 18, .null, 0, 0, [], 13),
  (13, 0, .int 1, 0, 0, [], 14), (14, 14, .null, 0, 0, [], 15), (15, 33, .null, 0, 22, [], 18), (18, 0, .int 1, 0, 0, [], 19), (19, 9, .null, 0, 0, [], 23), (22, 0, .int 0, 0, 0, [], 23), (23, 49, .null, 2, 0, [], 23)]
def mtX4_contains : axM := (⟨"BeatSlugs", "contains", "(II)Z"⟩, prog_1_method_36_code, 2, (some .boolean), 4, false, cdX4_contains)
abbrev kX4_contains : Nat := 10
set_option maxRecDepth 100000 in
theorem ckX4_contains : axCk 4 false 2 prog_1_method_36_code cdX4_contains = true := by decide +kernel
def cdX0_targetOf : List axE := [
  (0, 2, .null, 0, 0, [], 1), (1, 36, .null, 0, 1, [], 4), (4, 1, .null, 1, 0, [], 5), (5, 2, .null, 0, 0, [], 6), (6, 36, .null, 0, 1, [], 9), (9, 39, .null, 0, 0, [], 10), (10, 0, .int 1, 0, 0, [], 11), (11, 12, .null, 0, 0, [], 12),
  (12, 58, .null, 0, 0, [], 15), (15, 53, .null, 9, 2, [], 18), (18, 49, .null, 0, 0, [], 18)]
def mtX0_targetOf : axM := (⟨"BeatSlugs$Board", "targetOf", "(I)I"⟩, prog_2_method_48_code, 2, (some .int), 0, false, cdX0_targetOf)
abbrev kX0_targetOf : Nat := 11
set_option maxRecDepth 100000 in
theorem ckX0_targetOf : axCk 0 false 0 prog_2_method_48_code cdX0_targetOf = true := by decide +kernel
def cdX0_size : List axE := [
  (0, 2, .null, 0, 0, [], 1), (1, 36, .null, 0, 8, [], 4), (4, 49, .null, 0, 0, [], 4)]
def mtX0_size : axM := (⟨"BeatSlugs$Board", "size", "()I"⟩, prog_2_method_23_code, 1, (some .int), 0, false, cdX0_size)
abbrev kX0_size : Nat := 12
set_option maxRecDepth 100000 in
theorem ckX0_size : axCk 0 false 0 prog_2_method_23_code cdX0_size = true := by decide +kernel
def cdX0_slugIn : List axE := [
  (0, 1, .null, 1, 0, [], 1), (1, 33, .null, 2, 23, [], 4), (4, 1, .null, 1, 0, [], 5), (5, 2, .null, 0, 0, [], 6), (6, 36, .null, 0, 8, [], 9), (9, 32, .null, 3, 23, [], 12), (12, 2, .null, 0, 0, [], 13), (13, 36, .null, 0, 2, [], 16),
  (16, 1, .null, 1, 0, [], 17), (17, 53, .null, 9, 2, [], 20), (20, 9, .null, 0, 0, [], 24), (23, 0, .int (-1), 0, 0, [], 24), (24, 49, .null, 0, 0, [], 24)]
def mtX0_slugIn : axM := (⟨"BeatSlugs$Board", "slugIn", "(I)I"⟩, prog_2_method_27_code, 2, (some .int), 0, false, cdX0_slugIn)
abbrev kX0_slugIn : Nat := 13
set_option maxRecDepth 100000 in
theorem ckX0_slugIn : axCk 0 false 0 prog_2_method_27_code cdX0_slugIn = true := by decide +kernel
def cdX4_store : List axE := [
  (0, 1, .null, 1, 0, [], 1), (1, 33, .null, 2, 14, [], 4), (4, 1, .null, 1, 0, [], 5), (5, 2, .null, 0, 0, [], 6), (6, 39, .null, 0, 0, [], 7), (7, 32, .null, 3, 14, [], 10), (10, 2, .null, 0, 0, [], 11), (11, 1, .null, 1, 0, [], 12),
  (12, 1, .null, 2, 0, [], 13), (13, 42, .null, 0, 0, [], 14), (14, 50, .null, 0, 0, [], 14)]
def mtX4_store : axM := (⟨"BeatSlugs", "store", "([III)V"⟩, prog_1_method_34_code, 3, none, 4, false, cdX4_store)
abbrev kX4_store : Nat := 14
set_option maxRecDepth 100000 in
theorem ckX4_store : axCk 4 false 0 prog_1_method_34_code cdX4_store = true := by decide +kernel
def cdX3_tryAllBehind : List axE := [
  (0, 2, .null, 1, 0, [], 1), (1, 2, .null, 1, 0, [], 2), (2, 1, .null, 2, 0, [], 3), (3, 52, .ref 0, 13, 1, [], 6), (6, 52, .ref 0, 16, 1, [], 9), (9, 4, .null, 3, 0, [], 10), (10, 1, .null, 2, 0, [], 11), (11, 0, .int 1, 0, 0, [], 12),
  (12, 11, .null, 0, 0, [], 13), (13, 4, .null, 4, 0, [], 15), (15, 1, .null, 4, 0, [], 17), (17, 1, .null, 3, 0, [], 18), (18, 32, .null, 4, 49, [], 21), (21, 2, .null, 1, 0, [], 22), (22, 2, .null, 1, 0, [], 23), (23, 1, .null, 4, 0, [], 25),
  (25, 52, .ref 0, 13, 1, [], 28), (28, 52, .ref 0, 17, 1, [], 31), (31, 1, .null, 2, 0, [], 32), (32, 32, .null, 4, 43, [], 35), (35, 2, .null, 0, 0, [], 36), (36, 2, .null, 1, 0, [], 37), (37, 1, .null, 2, 0, [], 38), (38, 1, .null, 4, 0, [], 40),
  (40, 52, .ref 3, 19, 3, [], 43), (43, 6, .int 1, 4, 0, [], 46), (46, 9, .null, 0, 0, [], 15), (49, 50, .null, 0, 0, [], 49)]
def mtX3_tryAllBehind : axM := (⟨"BeatSlugs$SwapSearch", "tryAllBehind", "(LBeatSlugs$Board;I)V"⟩, prog_5_method_7_code, 5, none, 3, false, cdX3_tryAllBehind)
abbrev kX3_tryAllBehind : Nat := 15
set_option maxRecDepth 100000 in
theorem ckX3_tryAllBehind : axCk 3 false 0 prog_5_method_7_code cdX3_tryAllBehind = true := by decide +kernel
def cdX0_highestPlace : List axE := [
  (0, 0, .int 0, 0, 0, [], 1), (1, 4, .null, 2, 0, [], 2), (2, 1, .null, 2, 0, [], 3), (3, 2, .null, 0, 0, [], 4), (4, 36, .null, 0, 8, [], 7), (7, 32, .null, 3, 42, [], 10), (10, 2, .null, 0, 0, [], 11), (11, 36, .null, 0, 5, [], 14),
  (14, 2, .null, 0, 0, [], 15), (15, 36, .null, 0, 2, [], 18), (18, 1, .null, 2, 0, [], 19), (19, 53, .null, 9, 2, [], 22), (22, 53, .null, 9, 2, [], 25), (25, 1, .null, 1, 0, [], 26), (26, 53, .null, 10, 2, [], 29), (29, 33, .null, 0, 36, [], 32),
  (32, 1, .null, 2, 0, [], 33), (33, 0, .int 1, 0, 0, [], 34), (34, 12, .null, 0, 0, [], 35), (35, 49, .null, 0, 0, [], 35), (36, 6, .int 1, 2, 0, [], 39), (39, 9, .null, 0, 0, [], 2), (42, 2, .null, 0, 0, [], 43), (43, 36, .null, 0, 8, [], 46),
  (46, 0, .int 1, 0, 0, [], 47), (47, 12, .null, 0, 0, [], 48), (48, 49, .null, 0, 0, [], 48)]
def mtX0_highestPlace : axM := (⟨"BeatSlugs$Board", "highestPlace", "(I)I"⟩, prog_2_method_38_code, 3, (some .int), 0, false, cdX0_highestPlace)
abbrev kX0_highestPlace : Nat := 16
set_option maxRecDepth 100000 in
theorem ckX0_highestPlace : axCk 0 false 0 prog_2_method_38_code cdX0_highestPlace = true := by decide +kernel
def cdX0_lowestPlace : List axE := [
  (0, 2, .null, 0, 0, [], 1), (1, 1, .null, 1, 0, [], 2), (2, 52, .ref 0, 18, 1, [], 5), (5, 4, .null, 2, 0, [], 6), (6, 2, .null, 0, 0, [], 7), (7, 36, .null, 0, 8, [], 10), (10, 0, .int 1, 0, 0, [], 11), (11, 12, .null, 0, 0, [], 12),
  (12, 4, .null, 3, 0, [], 13), (13, 1, .null, 3, 0, [], 14), (14, 33, .null, 2, 42, [], 17), (17, 1, .null, 2, 0, [], 18), (18, 2, .null, 0, 0, [], 19), (19, 36, .null, 0, 2, [], 22), (22, 1, .null, 3, 0, [], 23), (23, 53, .null, 9, 2, [], 26),
  (26, 53, .null, 10, 2, [], 29), (29, 33, .null, 0, 36, [], 32), (32, 1, .null, 3, 0, [], 33), (33, 0, .int 1, 0, 0, [], 34), (34, 11, .null, 0, 0, [], 35), (35, 49, .null, 0, 0, [], 35), (36, 6, .int (-1), 3, 0, [], 39), (39, 9, .null, 0, 0, [], 13),
  (42, 0, .int 0, 0, 0, [], 43), (43, 49, .null, 0, 0, [], 43)]
def mtX0_lowestPlace : axM := (⟨"BeatSlugs$Board", "lowestPlace", "(I)I"⟩, prog_2_method_37_code, 4, (some .int), 0, false, cdX0_lowestPlace)
abbrev kX0_lowestPlace : Nat := 17
set_option maxRecDepth 100000 in
theorem ckX0_lowestPlace : axCk 0 false 0 prog_2_method_37_code cdX0_lowestPlace = true := by decide +kernel
def cdX0_needsOf : List axE := [
  (0, 2, .null, 0, 0, [], 1), (1, 36, .null, 0, 5, [], 4), (4, 1, .null, 1, 0, [], 5), (5, 53, .null, 9, 2, [], 8), (8, 49, .null, 0, 0, [], 8)]
def mtX0_needsOf : axM := (⟨"BeatSlugs$Board", "needsOf", "(I)I"⟩, prog_2_method_34_code, 2, (some .int), 0, false, cdX0_needsOf)
abbrev kX0_needsOf : Nat := 18
set_option maxRecDepth 100000 in
theorem ckX0_needsOf : axCk 0 false 0 prog_2_method_34_code cdX0_needsOf = true := by decide +kernel
def cdX3_tryOne : List axE := [
  (0, 2, .null, 0, 0, [], 1), (1, 1, .null, 2, 0, [], 2), (2, 1, .null, 3, 0, [], 3), (3, 52, .ref 3, 20, 2, [], 6), (6, 2, .null, 1, 0, [], 7), (7, 2, .null, 0, 0, [], 8), (8, 36, .null, 3, 0, [], 11), (11, 2, .null, 1, 0, [], 12),
  (12, 52, .ref 0, 21, 0, [], 15), (15, 52, .ref 0, 8, 2, [], 18), (18, 4, .null, 4, 0, [], 20), (20, 2, .null, 0, 0, [], 21), (21, 1, .null, 2, 0, [], 22), (22, 1, .null, 3, 0, [], 23), (23, 52, .ref 3, 20, 2, [], 26), (26, 1, .null, 4, 0, [], 28),
  (28, 2, .null, 0, 0, [], 29), (29, 36, .null, 3, 3, [], 32), (32, 32, .null, 3, 51, [], 35), (35, 2, .null, 0, 0, [], 36), (36, 1, .null, 4, 0, [], 38), (38, 37, .null, 3, 3, [], 41), (41, 2, .null, 0, 0, [], 42), (42, 1, .null, 2, 0, [], 43),
  (43, 37, .null, 3, 1, [], 46), (46, 2, .null, 0, 0, [], 47), (47, 1, .null, 3, 0, [], 48), (48, 37, .null, 3, 2, [], 51), (51, 50, .null, 0, 0, [], 51)]
def mtX3_tryOne : axM := (⟨"BeatSlugs$SwapSearch", "tryOne", "(LBeatSlugs$Board;II)V"⟩, prog_5_method_8_code, 5, none, 3, false, cdX3_tryOne)
abbrev kX3_tryOne : Nat := 19
set_option maxRecDepth 100000 in
theorem ckX3_tryOne : axCk 3 false 0 prog_5_method_8_code cdX3_tryOne = true := by decide +kernel
def cdX3_exchange : List axE := [
  (0, 2, .null, 0, 0, [], 1), (1, 36, .null, 3, 0, [], 4), (4, 1, .null, 1, 0, [], 5), (5, 53, .null, 9, 2, [], 8), (8, 4, .null, 3, 0, [], 9), (9, 2, .null, 0, 0, [], 10), (10, 36, .null, 3, 0, [], 13), (13, 1, .null, 1, 0, [], 14),
  (14, 2, .null, 0, 0, [], 15), (15, 36, .null, 3, 0, [], 18), (18, 1, .null, 2, 0, [], 19), (19, 53, .null, 9, 2, [], 22), (22, 53, .null, 14, 3, [], 25), (25, 2, .null, 0, 0, [], 26), (26, 36, .null, 3, 0, [], 29), (29, 1, .null, 2, 0, [], 30),
  (30, 1, .null, 3, 0, [], 31), (31, 53, .null, 14, 3, [], 34), (34, 50, .null, 0, 0, [], 34)]
def mtX3_exchange : axM := (⟨"BeatSlugs$SwapSearch", "exchange", "(II)V"⟩, prog_5_method_9_code, 4, none, 3, false, cdX3_exchange)
abbrev kX3_exchange : Nat := 20
set_option maxRecDepth 100000 in
theorem ckX3_exchange : axCk 3 false 0 prog_5_method_9_code cdX3_exchange = true := by decide +kernel
def cdX0_allTurns : List axE := [
  (0, 2, .null, 0, 0, [], 1), (1, 36, .null, 0, 7, [], 4), (4, 49, .null, 0, 0, [], 4)]
def mtX0_allTurns : axM := (⟨"BeatSlugs$Board", "allTurns", "()I"⟩, prog_2_method_25_code, 1, (some .int), 0, false, cdX0_allTurns)
abbrev kX0_allTurns : Nat := 21
set_option maxRecDepth 100000 in
theorem ckX0_allTurns : axCk 0 false 0 prog_2_method_25_code cdX0_allTurns = true := by decide +kernel
def cdX3_isFound : List axE := [
  (0, 2, .null, 0, 0, [], 1), (1, 36, .null, 3, 1, [], 4), (4, 2, .null, 0, 0, [], 5), (5, 36, .null, 3, 2, [], 8), (8, 32, .null, 3, 15, [], 11), (11, 0, .int 1, 0, 0, [], 12), (12, 9, .null, 0, 0, [], 16), (15, 0, .int 0, 0, 0, [], 16),
  (16, 49, .null, 2, 0, [], 16)]
def mtX3_isFound : axM := (⟨"BeatSlugs$SwapSearch", "isFound", "()Z"⟩, prog_5_method_2_code, 1, (some .boolean), 3, false, cdX3_isFound)
abbrev kX3_isFound : Nat := 22
set_option maxRecDepth 100000 in
theorem ckX3_isFound : axCk 3 false 2 prog_5_method_2_code cdX3_isFound = true := by decide +kernel
def cdX3_lowerPlace : List axE := [
  (0, 2, .null, 0, 0, [], 1), (1, 36, .null, 3, 1, [], 4), (4, 49, .null, 0, 0, [], 4)]
def mtX3_lowerPlace : axM := (⟨"BeatSlugs$SwapSearch", "lowerPlace", "()I"⟩, prog_5_method_3_code, 1, (some .int), 3, false, cdX3_lowerPlace)
abbrev kX3_lowerPlace : Nat := 23
set_option maxRecDepth 100000 in
theorem ckX3_lowerPlace : axCk 3 false 0 prog_5_method_3_code cdX3_lowerPlace = true := by decide +kernel
def cdX3_higherPlace : List axE := [
  (0, 2, .null, 0, 0, [], 1), (1, 36, .null, 3, 2, [], 4), (4, 49, .null, 0, 0, [], 4)]
def mtX3_higherPlace : axM := (⟨"BeatSlugs$SwapSearch", "higherPlace", "()I"⟩, prog_5_method_4_code, 1, (some .int), 3, false, cdX3_higherPlace)
abbrev kX3_higherPlace : Nat := 24
set_option maxRecDepth 100000 in
theorem ckX3_higherPlace : axCk 3 false 0 prog_5_method_4_code cdX3_higherPlace = true := by decide +kernel
def cdX3_leastOff : List axE := [
  (0, 2, .null, 0, 0, [], 1), (1, 36, .null, 3, 3, [], 4), (4, 49, .null, 0, 0, [], 4)]
def mtX3_leastOff : axM := (⟨"BeatSlugs$SwapSearch", "leastOff", "()I"⟩, prog_5_method_5_code, 1, (some .int), 3, false, cdX3_leastOff)
abbrev kX3_leastOff : Nat := 25
set_option maxRecDepth 100000 in
theorem ckX3_leastOff : axCk 3 false 0 prog_5_method_5_code cdX3_leastOff = true := by decide +kernel
def cdX4_ifFitted : List axE := [
  (0, 2, .null, 0, 0, [], 1), (1, 36, .null, 4, 0, [], 4), (4, 1, .null, 1, 0, [], 5), (5, 52, .ref 0, 27, 1, [], 8), (8, 49, .null, 0, 0, [], 8)]
def mtX4_ifFitted : axM := (⟨"BeatSlugs", "ifFitted", "(I)I"⟩, prog_1_method_21_code, 2, (some .int), 4, false, cdX4_ifFitted)
abbrev kX4_ifFitted : Nat := 26
set_option maxRecDepth 100000 in
theorem ckX4_ifFitted : axCk 4 false 0 prog_1_method_21_code cdX4_ifFitted = true := by decide +kernel
def cdX0_cutOf : List axE := [
  (0, 2, .null, 0, 0, [], 1), (1, 1, .null, 1, 0, [], 2), (2, 52, .ref 0, 28, 1, [], 5), (5, 33, .null, 1, 10, [], 8), (8, 0, .int (-1), 0, 0, [], 9), (9, 49, .null, 0, 0, [], 9), (10, 0, .int 0, 0, 0, [], 11), (11, 2, .null, 0, 0, [], 12),
  (12, 1, .null, 1, 0, [], 13), (13, 52, .ref 0, 31, 1, [], 16), (16, 57, .null, 0, 0, [], 19), (19, 4, .null, 2, 0, [], 20), (20, 1, .null, 2, 0, [], 21), (21, 2, .null, 0, 0, [], 22), (22, 2, .null, 0, 0, [], 23), (23, 1, .null, 1, 0, [], 24),
  (24, 52, .ref 0, 32, 1, [], 27), (27, 2, .null, 0, 0, [], 28), (28, 1, .null, 1, 0, [], 29), (29, 0, .int 1, 0, 0, [], 30), (30, 11, .null, 0, 0, [], 31), (31, 52, .ref 0, 32, 1, [], 34), (34, 52, .ref 0, 34, 2, [], 37), (37, 58, .null, 0, 0, [], 40),
  (40, 4, .null, 3, 0, [], 41), (41, 1, .null, 2, 0, [], 42), (42, 1, .null, 3, 0, [], 43), (43, 12, .null, 0, 0, [], 44), (44, 2, .null, 0, 0, [], 45), (45, 0, .int 1, 0, 0, [], 46), (46, 52, .ref 0, 36, 1, [], 49), (49, 32, .null, 5, 57, [], 52),
  (52, 0, .int (-5), 0, 0, [], 54), (54, 9, .null, 0, 0, [], 58), (57, 1, .null, 3, 0, [], 58), (58, 49, .null, 0, 0, [], 58)]
def mtX0_cutOf : axM := (⟨"BeatSlugs$Board", "cutOf", "(I)I"⟩, prog_2_method_53_code, 4, (some .int), 0, false, cdX0_cutOf)
abbrev kX0_cutOf : Nat := 27
set_option maxRecDepth 100000 in
theorem ckX0_cutOf : axCk 0 false 0 prog_2_method_53_code cdX0_cutOf = true := by decide +kernel
def cdX0_hasAct : List axE := [
  (0, 1, .null, 1, 0, [], 1), (1, 33, .null, 2, 16, [], 4), (4, 1, .null, 1, 0, [], 5), (5, 2, .null, 0, 0, [], 6), (6, 52, .ref 0, 29, 0, [], 9), (9, 32, .null, 3, 16, [], 12), (12, 0, .int 1, 0, 0, [], 13), (13, 9, .null, 0, 0, [], 17),
  (16, 0, .int 0, 0, 0, [], 17), (17, 49, .null, 2, 0, [], 17)]
def mtX0_hasAct : axM := (⟨"BeatSlugs$Board", "hasAct", "(I)Z"⟩, prog_2_method_46_code, 2, (some .boolean), 0, false, cdX0_hasAct)
abbrev kX0_hasAct : Nat := 28
set_option maxRecDepth 100000 in
theorem ckX0_hasAct : axCk 0 false 2 prog_2_method_46_code cdX0_hasAct = true := by decide +kernel
def cdX0_actCount : List axE := [
  (0, 2, .null, 0, 0, [], 1), (1, 36, .null, 0, 8, [], 4), (4, 33, .null, 5, 34, [], 7), (7, 2, .null, 0, 0, [], 8), (8, 36, .null, 0, 7, [], 11), (11, 2, .null, 0, 0, [], 12), (12, 36, .null, 0, 2, [], 15), (15, 2, .null, 0, 0, [], 16),
  (16, 36, .null, 0, 8, [], 19), (19, 0, .int 1, 0, 0, [], 20), (20, 12, .null, 0, 0, [], 21), (21, 53, .null, 9, 2, [], 24), (24, 53, .null, 10, 2, [], 27), (27, 33, .null, 1, 34, [], 30), (30, 0, .int 1, 0, 0, [], 31), (31, 9, .null, 0, 0, [], 35),
  (34, 0, .int 0, 0, 0, [], 35), (35, 4, .null, 1, 0, [], 36), (36, 2, .null, 0, 0, [], 37), (37, 36, .null, 0, 7, [], 40), (40, 53, .null, 30, 1, [], 43), (43, 1, .null, 1, 0, [], 44), (44, 33, .null, 0, 51, [], 47), (47, 0, .int 1, 0, 0, [], 48),
  (48, 9, .null, 0, 0, [], 52), (51, 0, .int 0, 0, 0, [], 52), (52, 11, .null, 0, 0, [], 53), (53, 49, .null, 0, 0, [], 53)]
def mtX0_actCount : axM := (⟨"BeatSlugs$Board", "actCount", "()I"⟩, prog_2_method_45_code, 2, (some .int), 0, false, cdX0_actCount)
abbrev kX0_actCount : Nat := 29
set_option maxRecDepth 100000 in
theorem ckX0_actCount : axCk 0 false 0 prog_2_method_45_code cdX0_actCount = true := by decide +kernel
def cdJ_bitCount : List axE := [
  (0, 1, .null, 0, 0, [], 1), (1, 1, .null, 0, 0, [], 2), (2, 0, .int 1, 0, 0, [], 3), (3, 19, .null, 0, 0, [], 4), (4, 0, .int 1431655765, 0, 0, [], 7), (7, 14, .null, 0, 0, [], 8), (8, 12, .null, 0, 0, [], 9), (9, 4, .null, 0, 0, [], 10),
  (10, 1, .null, 0, 0, [], 11), (11, 0, .int 858993459, 0, 0, [], 14), (14, 14, .null, 0, 0, [], 15), (15, 1, .null, 0, 0, [], 16), (16, 0, .int 2, 0, 0, [], 17), (17, 19, .null, 0, 0, [], 18), (18, 0, .int 858993459, 0, 0, [], 21), (21, 14, .null, 0, 0, [], 22),
  (22, 11, .null, 0, 0, [], 23), (23, 4, .null, 0, 0, [], 24), (24, 1, .null, 0, 0, [], 25), (25, 1, .null, 0, 0, [], 26), (26, 0, .int 4, 0, 0, [], 27), (27, 19, .null, 0, 0, [], 28), (28, 11, .null, 0, 0, [], 29), (29, 0, .int 252645135, 0, 0, [], 32),
  (32, 14, .null, 0, 0, [], 33), (33, 4, .null, 0, 0, [], 34), (34, 1, .null, 0, 0, [], 35), (35, 1, .null, 0, 0, [], 36), (36, 0, .int 8, 0, 0, [], 38), (38, 19, .null, 0, 0, [], 39), (39, 11, .null, 0, 0, [], 40), (40, 4, .null, 0, 0, [], 41),
  (41, 1, .null, 0, 0, [], 42), (42, 1, .null, 0, 0, [], 43), (43, 0, .int 16, 0, 0, [], 45), (45, 19, .null, 0, 0, [], 46), (46, 11, .null, 0, 0, [], 47), (47, 4, .null, 0, 0, [], 48), (48, 1, .null, 0, 0, [], 49), (49, 0, .int 63, 0, 0, [], 51),
  (51, 14, .null, 0, 0, [], 52), (52, 49, .null, 0, 0, [], 52)]
def mtJ_bitCount : axM := (⟨"java/lang/Integer", "bitCount", "(I)I"⟩, prog_8_method_49_code, 1, (some .int), 7, false, cdJ_bitCount)
abbrev kJ_bitCount : Nat := 30
set_option maxRecDepth 100000 in
theorem ckJ_bitCount : axCk 7 false 0 prog_8_method_49_code cdJ_bitCount = true := by decide +kernel
def cdX0_offOf : List axE := [
  (0, 2, .null, 0, 0, [], 1), (1, 2, .null, 0, 0, [], 2), (2, 1, .null, 1, 0, [], 3), (3, 52, .ref 0, 32, 1, [], 6), (6, 2, .null, 0, 0, [], 7), (7, 1, .null, 1, 0, [], 8), (8, 0, .int 1, 0, 0, [], 9), (9, 11, .null, 0, 0, [], 10),
  (10, 52, .ref 0, 32, 1, [], 13), (13, 52, .ref 0, 33, 2, [], 16), (16, 2, .null, 0, 0, [], 17), (17, 1, .null, 1, 0, [], 18), (18, 52, .ref 0, 11, 1, [], 21), (21, 12, .null, 0, 0, [], 22), (22, 49, .null, 0, 0, [], 22)]
def mtX0_offOf : axM := (⟨"BeatSlugs$Board", "offOf", "(I)I"⟩, prog_2_method_49_code, 2, (some .int), 0, false, cdX0_offOf)
abbrev kX0_offOf : Nat := 31
set_option maxRecDepth 100000 in
theorem ckX0_offOf : axCk 0 false 0 prog_2_method_49_code cdX0_offOf = true := by decide +kernel
def cdX0_startOf : List axE := [
  (0, 0, .int 0, 0, 0, [], 1), (1, 4, .null, 2, 0, [], 2), (2, 1, .null, 1, 0, [], 3), (3, 4, .null, 3, 0, [], 4), (4, 1, .null, 2, 0, [], 5), (5, 2, .null, 0, 0, [], 6), (6, 36, .null, 0, 8, [], 9), (9, 32, .null, 3, 43, [], 12),
  (12, 1, .null, 3, 0, [], 13), (13, 33, .null, 5, 43, [], 16), (16, 2, .null, 0, 0, [], 17), (17, 36, .null, 0, 7, [], 20), (20, 2, .null, 0, 0, [], 21), (21, 36, .null, 0, 2, [], 24), (24, 1, .null, 2, 0, [], 25), (25, 53, .null, 9, 2, [], 28),
  (28, 53, .null, 10, 2, [], 31), (31, 33, .null, 0, 37, [], 34), (34, 6, .int (-1), 3, 0, [], 37), (37, 6, .int 1, 2, 0, [], 40), (40, 9, .null, 0, 0, [], 4), (43, 1, .null, 2, 0, [], 44), (44, 49, .null, 0, 0, [], 44)]
def mtX0_startOf : axM := (⟨"BeatSlugs$Board", "startOf", "(I)I"⟩, prog_2_method_47_code, 4, (some .int), 0, false, cdX0_startOf)
abbrev kX0_startOf : Nat := 32
set_option maxRecDepth 100000 in
theorem ckX0_startOf : axCk 0 false 0 prog_2_method_47_code cdX0_startOf = true := by decide +kernel
def cdX0_beatsIn : List axE := [
  (0, 0, .int 0, 0, 0, [], 1), (1, 4, .null, 3, 0, [], 2), (2, 1, .null, 1, 0, [], 3), (3, 4, .null, 4, 0, [], 5), (5, 1, .null, 4, 0, [], 7), (7, 1, .null, 2, 0, [], 8), (8, 32, .null, 3, 36, [], 11), (11, 1, .null, 3, 0, [], 12),
  (12, 2, .null, 0, 0, [], 13), (13, 36, .null, 0, 4, [], 16), (16, 2, .null, 0, 0, [], 17), (17, 36, .null, 0, 2, [], 20), (20, 1, .null, 4, 0, [], 22), (22, 53, .null, 9, 2, [], 25), (25, 53, .null, 9, 2, [], 28), (28, 11, .null, 0, 0, [], 29),
  (29, 4, .null, 3, 0, [], 30), (30, 6, .int 1, 4, 0, [], 33), (33, 9, .null, 0, 0, [], 5), (36, 1, .null, 3, 0, [], 37), (37, 49, .null, 0, 0, [], 37)]
def mtX0_beatsIn : axM := (⟨"BeatSlugs$Board", "beatsIn", "(II)I"⟩, prog_2_method_40_code, 5, (some .int), 0, false, cdX0_beatsIn)
abbrev kX0_beatsIn : Nat := 33
set_option maxRecDepth 100000 in
theorem ckX0_beatsIn : axCk 0 false 0 prog_2_method_40_code cdX0_beatsIn = true := by decide +kernel
def cdX0_roomIn : List axE := [
  (0, 0, .int 0, 0, 0, [], 1), (1, 4, .null, 3, 0, [], 2), (2, 1, .null, 1, 0, [], 3), (3, 4, .null, 4, 0, [], 5), (5, 1, .null, 4, 0, [], 7), (7, 1, .null, 2, 0, [], 8), (8, 32, .null, 3, 33, [], 11), (11, 1, .null, 3, 0, [], 12),
  (12, 2, .null, 0, 0, [], 13), (13, 2, .null, 0, 0, [], 14), (14, 36, .null, 0, 2, [], 17), (17, 1, .null, 4, 0, [], 19), (19, 53, .null, 9, 2, [], 22), (22, 52, .ref 0, 35, 1, [], 25), (25, 11, .null, 0, 0, [], 26), (26, 4, .null, 3, 0, [], 27),
  (27, 6, .int 1, 4, 0, [], 30), (30, 9, .null, 0, 0, [], 5), (33, 1, .null, 3, 0, [], 34), (34, 49, .null, 0, 0, [], 34)]
def mtX0_roomIn : axM := (⟨"BeatSlugs$Board", "roomIn", "(II)I"⟩, prog_2_method_42_code, 5, (some .int), 0, false, cdX0_roomIn)
abbrev kX0_roomIn : Nat := 34
set_option maxRecDepth 100000 in
theorem ckX0_roomIn : axCk 0 false 0 prog_2_method_42_code cdX0_roomIn = true := by decide +kernel
def cdX0_roomOf : List axE := [
  (0, 2, .null, 0, 0, [], 1), (1, 36, .null, 0, 3, [], 4), (4, 1, .null, 1, 0, [], 5), (5, 53, .null, 9, 2, [], 8), (8, 4, .null, 2, 0, [], 9), (9, 0, .int 1, 0, 0, [], 10), (10, 1, .null, 2, 0, [], 11), (11, 1, .null, 2, 0, [], 12),
  (12, 2, .null, 0, 0, [], 13), (13, 36, .null, 0, 0, [], 16), (16, 0, .int 2, 0, 0, [], 17), (17, 53, .null, 9, 2, [], 20), (20, 13, .null, 0, 0, [], 21), (21, 0, .int 100, 0, 0, [], 23), (23, 47, .null, 0, 0, [], 24), (24, 12, .null, 0, 0, [], 25),
  (25, 57, .null, 0, 0, [], 28), (28, 4, .null, 3, 0, [], 29), (29, 0, .int 0, 0, 0, [], 30), (30, 2, .null, 0, 0, [], 31), (31, 36, .null, 0, 4, [], 34), (34, 1, .null, 1, 0, [], 35), (35, 53, .null, 9, 2, [], 38), (38, 1, .null, 3, 0, [], 39),
  (39, 12, .null, 0, 0, [], 40), (40, 57, .null, 0, 0, [], 43), (43, 49, .null, 0, 0, [], 43)]
def mtX0_roomOf : axM := (⟨"BeatSlugs$Board", "roomOf", "(I)I"⟩, prog_2_method_32_code, 4, (some .int), 0, false, cdX0_roomOf)
abbrev kX0_roomOf : Nat := 35
set_option maxRecDepth 100000 in
theorem ckX0_roomOf : axCk 0 false 0 prog_2_method_32_code cdX0_roomOf = true := by decide +kernel
def cdX0_settingOf : List axE := [
  (0, 2, .null, 0, 0, [], 1), (1, 36, .null, 0, 0, [], 4), (4, 1, .null, 1, 0, [], 5), (5, 53, .null, 9, 2, [], 8), (8, 49, .null, 0, 0, [], 8)]
def mtX0_settingOf : axM := (⟨"BeatSlugs$Board", "settingOf", "(I)I"⟩, prog_2_method_21_code, 2, (some .int), 0, false, cdX0_settingOf)
abbrev kX0_settingOf : Nat := 36
set_option maxRecDepth 100000 in
theorem ckX0_settingOf : axCk 0 false 0 prog_2_method_21_code cdX0_settingOf = true := by decide +kernel
def cdL_cell : List axE := [
  (0, 1, .null, 1, 0, [], 1), (1, 2, .null, 0, 0, [], 2), (2, 39, .null, 0, 0, [], 3), (3, 32, .null, 3, 12, [], 6), (6, 2, .null, 0, 0, [], 7), (7, 1, .null, 1, 0, [], 8), (8, 40, .null, 0, 0, [], 9), (9, 9, .null, 0, 0, [], 21),
  (12, 0, .int 834001351, 0, 0, [], 14), (14, 1, .null, 1, 0, [], 15), (15, 0, .int 5, 0, 0, [], 16), (16, 11, .null, 0, 0, [], 17), (17, 13, .null, 0, 0, [], 18), (18, 0, .int 782758355, 0, 0, [], 20), (20, 11, .null, 0, 0, [], 21), (21, 49, .null, 0, 0, [], 21)]
def mtL_cell : axM := (⟨"BeatSlugsLaw", "cell", "([II)I"⟩, method_2_code, 2, (some .int), 6, false, cdL_cell)
abbrev kL_cell : Nat := 37
set_option maxRecDepth 100000 in
theorem ckL_cell : axCk 6 false 0 method_2_code cdL_cell = true := by decide +kernel
def cdL_holds0 : List axE := [
  (0, 2, .null, 0, 0, [], 1), (1, 53, .null, 39, 1, [], 4), (4, 4, .null, 1, 0, [], 5), (5, 0, .int 0, 0, 0, [], 6), (6, 4, .null, 2, 0, [], 7), (7, 0, .int 0, 0, 0, [], 8), (8, 4, .null, 3, 0, [], 9), (9, 0, .int 0, 0, 0, [], 10),
  (10, 4, .null, 4, 0, [], 12), (12, 0, .int 0, 0, 0, [], 13), (13, 4, .null, 5, 0, [], 15), (15, 0, .int 0, 0, 0, [], 16), (16, 4, .null, 6, 0, [], 18), (18, 0, .int 0, 0, 0, [], 19), (19, 4, .null, 7, 0, [], 21), (21, 0, .int 0, 0, 0, [], 22),
  (22, 4, .null, 8, 0, [], 24), (24, 0, .int 0, 0, 0, [], 25), (25, 4, .null, 9, 0, [], 27), (27, 1, .null, 9, 0, [], 29), (29, 1, .null, 1, 0, [], 30), (30, 32, .null, 3, 330, [], 33), (33, 2, .null, 0, 0, [], 34), (34, 1, .null, 9, 0, [], 36),
  (36, 52, .ref 4, 40, 1, [], 39), (39, 4, .null, 10, 0, [], 41), (41, 2, .null, 0, 0, [], 42), (42, 1, .null, 10, 0, [], 44), (44, 0, .int 8, 0, 0, [], 46), (46, 52, .ref 4, 41, 2, [], 49), (49, 4, .null, 11, 0, [], 51), (51, 2, .null, 0, 0, [], 52),
  (52, 1, .null, 10, 0, [], 54), (54, 52, .ref 4, 51, 1, [], 57), (57, 4, .null, 12, 0, [], 59), (59, 1, .null, 2, 0, [], 60), (60, 1, .null, 10, 0, [], 62), (62, 18, .null, 0, 0, [], 63), (63, 0, .int 1, 0, 0, [], 64), (64, 14, .null, 0, 0, [], 65),
  (65, 33, .null, 1, 212, [], 68), (68, 2, .null, 0, 0, [], 69), (69, 1, .null, 10, 0, [], 71), (71, 0, .int 0, 0, 0, [], 72)]
set_option maxRecDepth 100000 in
theorem ckL_holds0 : axCk 6 false 2 method_5_code cdL_holds0 = true := by decide +kernel
def cdL_holds1 : List axE := [
  (72, 52, .ref 4, 41, 2, [], 75), (75, 1, .null, 9, 0, [], 77), (77, 32, .null, 1, 212, [], 80), (80, 2, .null, 0, 0, [], 81), (81, 1, .null, 10, 0, [], 83), (83, 0, .int 2, 0, 0, [], 84), (84, 52, .ref 4, 41, 2, [], 87), (87, 0, .int 1, 0, 0, [], 88),
  (88, 32, .null, 2, 212, [], 91), (91, 2, .null, 0, 0, [], 92), (92, 1, .null, 10, 0, [], 94), (94, 0, .int 2, 0, 0, [], 95), (95, 52, .ref 4, 41, 2, [], 98), (98, 2, .null, 0, 0, [], 99), (99, 1, .null, 10, 0, [], 101), (101, 0, .int 1, 0, 0, [], 102),
  (102, 52, .ref 4, 41, 2, [], 105), (105, 32, .null, 4, 212, [], 108), (108, 2, .null, 0, 0, [], 109), (109, 1, .null, 10, 0, [], 111), (111, 0, .int 4, 0, 0, [], 112), (112, 52, .ref 4, 41, 2, [], 115), (115, 1, .null, 2, 0, [], 116), (116, 0, .int (-1), 0, 0, [], 117),
  (117, 16, .null, 0, 0, [], 118), (118, 14, .null, 0, 0, [], 119), (119, 33, .null, 1, 212, [], 122), (122, 2, .null, 0, 0, [], 123), (123, 1, .null, 10, 0, [], 125), (125, 0, .int 4, 0, 0, [], 126), (126, 52, .ref 4, 41, 2, [], 129), (129, 1, .null, 12, 0, [], 131),
  (131, 0, .int (-1), 0, 0, [], 132), (132, 16, .null, 0, 0, [], 133), (133, 14, .null, 0, 0, [], 134), (134, 33, .null, 1, 212, [], 137), (137, 1, .null, 12, 0, [], 139), (139, 1, .null, 2, 0, [], 140), (140, 0, .int (-1), 0, 0, [], 141), (141, 16, .null, 0, 0, [], 142),
  (142, 14, .null, 0, 0, [], 143), (143, 33, .null, 1, 212, [], 146), (146, 2, .null, 0, 0, [], 147), (147, 1, .null, 10, 0, [], 149)]
set_option maxRecDepth 100000 in
theorem ckL_holds1 : axCk 6 false 2 method_5_code cdL_holds1 = true := by decide +kernel
def cdL_holds2 : List axE := [
  (149, 0, .int 6, 0, 0, [], 151), (151, 52, .ref 4, 41, 2, [], 154), (154, 1, .null, 3, 0, [], 155), (155, 32, .null, 1, 212, [], 158), (158, 2, .null, 0, 0, [], 159), (159, 1, .null, 3, 0, [], 160), (160, 52, .ref 4, 53, 1, [], 163), (163, 1, .null, 10, 0, [], 165),
  (165, 32, .null, 1, 212, [], 168), (168, 1, .null, 11, 0, [], 170), (170, 1, .null, 4, 0, [], 172), (172, 32, .null, 1, 212, [], 175), (175, 2, .null, 0, 0, [], 176), (176, 1, .null, 10, 0, [], 178), (178, 0, .int 9, 0, 0, [], 180), (180, 52, .ref 4, 41, 2, [], 183),
  (183, 2, .null, 0, 0, [], 184), (184, 1, .null, 10, 0, [], 186), (186, 0, .int 2, 0, 0, [], 187), (187, 52, .ref 4, 41, 2, [], 190), (190, 32, .null, 3, 212, [], 193), (193, 2, .null, 0, 0, [], 194), (194, 1, .null, 10, 0, [], 196), (196, 52, .ref 4, 55, 1, [], 199),
  (199, 1, .null, 9, 0, [], 201), (201, 18, .null, 0, 0, [], 202), (202, 0, .int 1, 0, 0, [], 203), (203, 14, .null, 0, 0, [], 204), (204, 0, .int 1, 0, 0, [], 205), (205, 32, .null, 1, 212, [], 208), (208, 0, .int 1, 0, 0, [], 209), (209, 9, .null, 0, 0, [], 213),
  (212, 0, .int 0, 0, 0, [], 213), (213, 4, .null, 13, 0, [], 215), (215, 0, .int 0, 0, 0, [], 216), (216, 4, .null, 14, 0, [], 218), (218, 1, .null, 14, 0, [], 220), (220, 0, .int 24, 0, 0, [], 222), (222, 32, .null, 3, 288, [], 225), (225, 1, .null, 13, 0, [], 227),
  (227, 33, .null, 0, 288, [], 230), (230, 2, .null, 0, 0, [], 231), (231, 1, .null, 10, 0, [], 233), (233, 0, .int 4, 0, 0, [], 234)]
set_option maxRecDepth 100000 in
theorem ckL_holds2 : axCk 6 false 2 method_5_code cdL_holds2 = true := by decide +kernel
def cdL_holds3 : List axE := [
  (234, 52, .ref 4, 41, 2, [], 237), (237, 1, .null, 14, 0, [], 239), (239, 18, .null, 0, 0, [], 240), (240, 0, .int 1, 0, 0, [], 241), (241, 14, .null, 0, 0, [], 242), (242, 33, .null, 0, 275, [], 245), (245, 2, .null, 0, 0, [], 246), (246, 1, .null, 14, 0, [], 248),
  (248, 0, .int 5, 0, 0, [], 249), (249, 52, .ref 4, 41, 2, [], 252), (252, 1, .null, 10, 0, [], 254), (254, 18, .null, 0, 0, [], 255), (255, 0, .int 1, 0, 0, [], 256), (256, 14, .null, 0, 0, [], 257), (257, 0, .int 1, 0, 0, [], 258), (258, 32, .null, 1, 279, [], 261),
  (261, 2, .null, 0, 0, [], 262), (262, 1, .null, 14, 0, [], 264), (264, 52, .ref 4, 51, 1, [], 267), (267, 1, .null, 12, 0, [], 269), (269, 0, .int (-1), 0, 0, [], 270), (270, 16, .null, 0, 0, [], 271), (271, 14, .null, 0, 0, [], 272), (272, 33, .null, 1, 279, [], 275),
  (275, 0, .int 1, 0, 0, [], 276), (276, 9, .null, 0, 0, [], 280), (279, 0, .int 0, 0, 0, [], 280), (280, 4, .null, 13, 0, [], 282), (282, 6, .int 1, 14, 0, [], 285), (285, 9, .null, 0, 0, [], 218), (288, 1, .null, 13, 0, [], 290), (290, 33, .null, 1, 295, [], 293),
  (293, 0, .int 0, 0, 0, [], 294), (294, 49, .null, 2, 0, [], 294), (295, 1, .null, 2, 0, [], 296), (296, 0, .int 1, 0, 0, [], 297), (297, 1, .null, 10, 0, [], 299), (299, 17, .null, 0, 0, [], 300), (300, 15, .null, 0, 0, [], 301), (301, 4, .null, 2, 0, [], 302),
  (302, 1, .null, 3, 0, [], 303), (303, 2, .null, 0, 0, [], 304), (304, 1, .null, 10, 0, [], 306), (306, 0, .int 2, 0, 0, [], 307)]
set_option maxRecDepth 100000 in
theorem ckL_holds3 : axCk 6 false 2 method_5_code cdL_holds3 = true := by decide +kernel
def cdL_holds4 : List axE := [
  (307, 52, .ref 4, 41, 2, [], 310), (310, 11, .null, 0, 0, [], 311), (311, 4, .null, 3, 0, [], 312), (312, 1, .null, 4, 0, [], 314), (314, 2, .null, 0, 0, [], 315), (315, 1, .null, 10, 0, [], 317), (317, 0, .int 3, 0, 0, [], 318), (318, 52, .ref 4, 41, 2, [], 321),
  (321, 11, .null, 0, 0, [], 322), (322, 4, .null, 4, 0, [], 324), (324, 6, .int 1, 9, 0, [], 327), (327, 9, .null, 0, 0, [], 27), (330, 2, .null, 0, 0, [], 331), (331, 0, .int 1, 0, 0, [], 332), (332, 52, .ref 4, 56, 1, [], 335), (335, 4, .null, 9, 0, [], 337),
  (337, 0, .int 0, 0, 0, [], 338), (338, 4, .null, 10, 0, [], 340), (340, 1, .null, 10, 0, [], 342), (342, 1, .null, 9, 0, [], 344), (344, 32, .null, 3, 538, [], 347), (347, 2, .null, 0, 0, [], 348), (348, 1, .null, 10, 0, [], 350), (350, 0, .int 2, 0, 0, [], 351),
  (351, 52, .ref 4, 65, 2, [], 354), (354, 0, .int 5000, 0, 0, [], 357), (357, 12, .null, 0, 0, [], 358), (358, 4, .null, 11, 0, [], 360), (360, 2, .null, 0, 0, [], 361), (361, 1, .null, 8, 0, [], 363), (363, 2, .null, 0, 0, [], 364), (364, 1, .null, 10, 0, [], 366),
  (366, 0, .int 5, 0, 0, [], 367), (367, 52, .ref 4, 65, 2, [], 370), (370, 11, .null, 0, 0, [], 371), (371, 0, .int 1, 0, 0, [], 372), (372, 12, .null, 0, 0, [], 373), (373, 52, .ref 4, 40, 1, [], 376), (376, 4, .null, 12, 0, [], 378), (378, 2, .null, 0, 0, [], 379),
  (379, 1, .null, 10, 0, [], 381), (381, 0, .int 4, 0, 0, [], 382), (382, 52, .ref 4, 65, 2, [], 385), (385, 0, .int 1, 0, 0, [], 386)]
set_option maxRecDepth 100000 in
theorem ckL_holds4 : axCk 6 false 2 method_5_code cdL_holds4 = true := by decide +kernel
def cdL_holds5 : List axE := [
  (386, 32, .null, 1, 393, [], 389), (389, 0, .int 1, 0, 0, [], 390), (390, 9, .null, 0, 0, [], 394), (393, 0, .int 0, 0, 0, [], 394), (394, 4, .null, 13, 0, [], 396), (396, 1, .null, 11, 0, [], 398), (398, 2, .null, 0, 0, [], 399), (399, 1, .null, 10, 0, [], 401),
  (401, 0, .int 0, 0, 0, [], 402), (402, 52, .ref 4, 65, 2, [], 405), (405, 2, .null, 0, 0, [], 406), (406, 1, .null, 10, 0, [], 408), (408, 0, .int 1, 0, 0, [], 409), (409, 52, .ref 4, 65, 2, [], 412), (412, 12, .null, 0, 0, [], 413), (413, 32, .null, 1, 476, [], 416),
  (416, 2, .null, 0, 0, [], 417), (417, 1, .null, 10, 0, [], 419), (419, 0, .int 6, 0, 0, [], 421), (421, 52, .ref 4, 65, 2, [], 424), (424, 1, .null, 7, 0, [], 426), (426, 32, .null, 1, 476, [], 429), (429, 1, .null, 13, 0, [], 431), (431, 2, .null, 0, 0, [], 432),
  (432, 1, .null, 12, 0, [], 434), (434, 0, .int 3, 0, 0, [], 435), (435, 52, .ref 4, 41, 2, [], 438), (438, 33, .null, 1, 445, [], 441), (441, 0, .int 1, 0, 0, [], 442), (442, 9, .null, 0, 0, [], 446), (445, 0, .int 0, 0, 0, [], 446), (446, 32, .null, 1, 476, [], 449),
  (449, 1, .null, 13, 0, [], 451), (451, 33, .null, 0, 463, [], 454), (454, 1, .null, 10, 0, [], 456), (456, 1, .null, 9, 0, [], 458), (458, 0, .int 1, 0, 0, [], 459), (459, 12, .null, 0, 0, [], 460), (460, 32, .null, 2, 476, [], 463), (463, 2, .null, 0, 0, [], 464),
  (464, 1, .null, 12, 0, [], 466), (466, 0, .int 8, 0, 0, [], 468), (468, 52, .ref 4, 41, 2, [], 471), (471, 1, .null, 10, 0, [], 473)]
set_option maxRecDepth 100000 in
theorem ckL_holds5 : axCk 6 false 2 method_5_code cdL_holds5 = true := by decide +kernel
def cdL_holds6 : List axE := [
  (473, 32, .null, 0, 478, [], 476), (476, 0, .int 0, 0, 0, [], 477), (477, 49, .null, 2, 0, [], 477), (478, 1, .null, 5, 0, [], 480), (480, 1, .null, 11, 0, [], 482), (482, 33, .null, 3, 491, [], 485), (485, 1, .null, 11, 0, [], 487), (487, 20, .null, 0, 0, [], 488),
  (488, 9, .null, 0, 0, [], 493), (491, 1, .null, 11, 0, [], 493), (493, 11, .null, 0, 0, [], 494), (494, 4, .null, 5, 0, [], 496), (496, 1, .null, 6, 0, [], 498), (498, 2, .null, 0, 0, [], 499), (499, 1, .null, 10, 0, [], 501), (501, 0, .int 3, 0, 0, [], 502),
  (502, 52, .ref 4, 65, 2, [], 505), (505, 11, .null, 0, 0, [], 506), (506, 4, .null, 6, 0, [], 508), (508, 1, .null, 7, 0, [], 510), (510, 2, .null, 0, 0, [], 511), (511, 1, .null, 10, 0, [], 513), (513, 0, .int 0, 0, 0, [], 514), (514, 52, .ref 4, 65, 2, [], 517),
  (517, 11, .null, 0, 0, [], 518), (518, 4, .null, 7, 0, [], 520), (520, 1, .null, 8, 0, [], 522), (522, 2, .null, 0, 0, [], 523), (523, 1, .null, 10, 0, [], 525), (525, 0, .int 5, 0, 0, [], 526), (526, 52, .ref 4, 65, 2, [], 529), (529, 11, .null, 0, 0, [], 530),
  (530, 4, .null, 8, 0, [], 532), (532, 6, .int 1, 10, 0, [], 535), (535, 9, .null, 0, 0, [], 340), (538, 2, .null, 0, 0, [], 539), (539, 0, .int 0, 0, 0, [], 540), (540, 52, .ref 4, 56, 1, [], 543), (543, 1, .null, 2, 0, [], 544), (544, 32, .null, 1, 681, [], 547),
  (547, 2, .null, 0, 0, [], 548), (548, 0, .int 2, 0, 0, [], 549), (549, 52, .ref 4, 56, 1, [], 552), (552, 1, .null, 3, 0, [], 553)]
set_option maxRecDepth 100000 in
theorem ckL_holds6 : axCk 6 false 2 method_5_code cdL_holds6 = true := by decide +kernel
def cdL_holds7 : List axE := [
  (553, 32, .null, 1, 681, [], 556), (556, 1, .null, 7, 0, [], 558), (558, 1, .null, 3, 0, [], 559), (559, 32, .null, 1, 681, [], 562), (562, 1, .null, 8, 0, [], 564), (564, 1, .null, 1, 0, [], 565), (565, 32, .null, 1, 681, [], 568), (568, 2, .null, 0, 0, [], 569),
  (569, 0, .int 4, 0, 0, [], 570), (570, 52, .ref 4, 56, 1, [], 573), (573, 1, .null, 5, 0, [], 575), (575, 32, .null, 1, 681, [], 578), (578, 2, .null, 0, 0, [], 579), (579, 0, .int 5, 0, 0, [], 580), (580, 52, .ref 4, 56, 1, [], 583), (583, 1, .null, 6, 0, [], 585),
  (585, 32, .null, 1, 681, [], 588), (588, 1, .null, 9, 0, [], 590), (590, 1, .null, 4, 0, [], 592), (592, 12, .null, 0, 0, [], 593), (593, 33, .null, 2, 681, [], 596), (596, 1, .null, 9, 0, [], 598), (598, 1, .null, 4, 0, [], 600), (600, 12, .null, 0, 0, [], 601),
  (601, 0, .int 1, 0, 0, [], 602), (602, 32, .null, 4, 681, [], 605), (605, 2, .null, 0, 0, [], 606), (606, 0, .int 3, 0, 0, [], 607), (607, 52, .ref 4, 56, 1, [], 610), (610, 2, .null, 0, 0, [], 611), (611, 0, .int 7, 0, 0, [], 613), (613, 52, .ref 4, 56, 1, [], 616),
  (616, 13, .null, 0, 0, [], 617), (617, 1, .null, 3, 0, [], 618), (618, 32, .null, 2, 681, [], 621), (621, 2, .null, 0, 0, [], 622), (622, 0, .int 3, 0, 0, [], 623), (623, 52, .ref 4, 56, 1, [], 626), (626, 0, .int 1, 0, 0, [], 627), (627, 12, .null, 0, 0, [], 628),
  (628, 2, .null, 0, 0, [], 629), (629, 0, .int 7, 0, 0, [], 631), (631, 52, .ref 4, 56, 1, [], 634), (634, 13, .null, 0, 0, [], 635)]
set_option maxRecDepth 100000 in
theorem ckL_holds7 : axCk 6 false 2 method_5_code cdL_holds7 = true := by decide +kernel
def cdL_holds8 : List axE := [
  (635, 1, .null, 3, 0, [], 636), (636, 32, .null, 3, 681, [], 639), (639, 1, .null, 1, 0, [], 640), (640, 33, .null, 1, 647, [], 643), (643, 0, .int 1, 0, 0, [], 644), (644, 9, .null, 0, 0, [], 648), (647, 0, .int 0, 0, 0, [], 648), (648, 2, .null, 0, 0, [], 649),
  (649, 0, .int 6, 0, 0, [], 651), (651, 52, .ref 4, 56, 1, [], 654), (654, 0, .int (-6), 0, 0, [], 656), (656, 32, .null, 1, 663, [], 659), (659, 0, .int 1, 0, 0, [], 660), (660, 9, .null, 0, 0, [], 664), (663, 0, .int 0, 0, 0, [], 664), (664, 32, .null, 1, 681, [], 667),
  (667, 2, .null, 0, 0, [], 668), (668, 1, .null, 3, 0, [], 669), (669, 52, .ref 4, 53, 1, [], 672), (672, 0, .int (-6), 0, 0, [], 674), (674, 32, .null, 1, 681, [], 677), (677, 0, .int 1, 0, 0, [], 678), (678, 9, .null, 0, 0, [], 682), (681, 0, .int 0, 0, 0, [], 682),
  (682, 49, .null, 2, 0, [], 682)]
set_option maxRecDepth 100000 in
theorem ckL_holds8 : axCk 6 false 2 method_5_code cdL_holds8 = true := by decide +kernel
def cdL_holds : List axE := cdL_holds0 ++ (cdL_holds1 ++ (cdL_holds2 ++ (cdL_holds3 ++ (cdL_holds4 ++ (cdL_holds5 ++ (cdL_holds6 ++ (cdL_holds7 ++ (cdL_holds8))))))))
def mtL_holds : axM := (⟨"BeatSlugsLaw", "holds", "(LBeatSlugs;)Z"⟩, method_5_code, 15, (some .boolean), 6, false, cdL_holds)
abbrev kL_holds : Nat := 38
theorem ckL_holds : axCk 6 false 2 method_5_code cdL_holds = true := axCk_app ckL_holds0 (axCk_app ckL_holds1 (axCk_app ckL_holds2 (axCk_app ckL_holds3 (axCk_app ckL_holds4 (axCk_app ckL_holds5 (axCk_app ckL_holds6 (axCk_app ckL_holds7 (ckL_holds8))))))))
def cdL_many : List axE := [
  (0, 0, .int 0, 0, 0, [], 1), (1, 4, .null, 1, 0, [], 2), (2, 2, .null, 0, 0, [], 3), (3, 1, .null, 1, 0, [], 4), (4, 52, .ref 4, 40, 1, [], 7), (7, 33, .null, 2, 16, [], 10), (10, 6, .int 1, 1, 0, [], 13), (13, 9, .null, 0, 0, [], 2),
  (16, 1, .null, 1, 0, [], 17), (17, 49, .null, 0, 0, [], 17)]
def mtL_many : axM := (⟨"BeatSlugsLaw", "many", "(LBeatSlugs;)I"⟩, method_4_code, 2, (some .int), 6, false, cdL_many)
abbrev kL_many : Nat := 39
set_option maxRecDepth 100000 in
theorem ckL_many : axCk 6 false 0 method_4_code cdL_many = true := by decide +kernel
end
section
/-! The code of the methods as rows of the abstract machine. Written by wip/p32/gen2.py. -/
def cdX4_at : List axE := [
  (0, 2, .null, 0, 0, [], 1), (1, 36, .null, 4, 0, [], 4), (4, 1, .null, 1, 0, [], 5), (5, 52, .ref 0, 13, 1, [], 8), (8, 49, .null, 0, 0, [], 8)]
def mtX4_at : axM := (⟨"BeatSlugs", "at", "(I)I"⟩, prog_1_method_15_code, 2, (some .int), 4, false, cdX4_at)
abbrev kX4_at : Nat := 40
set_option maxRecDepth 100000 in
theorem ckX4_at : axCk 4 false 0 prog_1_method_15_code cdX4_at = true := by decide +kernel
def cdX4_of : List axE := [
  (0, 2, .null, 0, 0, [], 1), (1, 36, .null, 4, 0, [], 4), (4, 1, .null, 1, 0, [], 5), (5, 52, .ref 0, 42, 1, [], 8), (8, 33, .null, 1, 13, [], 11), (11, 0, .int (-1), 0, 0, [], 12), (12, 49, .null, 0, 0, [], 12), (13, 2, .null, 0, 0, [], 14),
  (14, 36, .null, 4, 0, [], 17), (17, 1, .null, 1, 0, [], 18), (18, 52, .ref 0, 43, 1, [], 21), (21, 4, .null, 3, 0, [], 22), (22, 1, .null, 2, 0, [], 23), (23, 35, .null, 0, 177, [(0, 76), (1, 78), (2, 87), (3, 96), (4, 113), (5, 122), (6, 131), (7, 141), (8, 159), (9, 168)], 23), (76, 1, .null, 3, 0, [], 77), (77, 49, .null, 0, 0, [], 77),
  (78, 2, .null, 0, 0, [], 79), (79, 36, .null, 4, 0, [], 82), (82, 1, .null, 1, 0, [], 83), (83, 52, .ref 0, 44, 1, [], 86), (86, 49, .null, 0, 0, [], 86), (87, 2, .null, 0, 0, [], 88), (88, 36, .null, 4, 0, [], 91), (91, 1, .null, 1, 0, [], 92),
  (92, 52, .ref 0, 45, 1, [], 95), (95, 49, .null, 0, 0, [], 95), (96, 2, .null, 0, 0, [], 97), (97, 36, .null, 4, 0, [], 100), (100, 1, .null, 1, 0, [], 101), (101, 52, .ref 0, 46, 1, [], 104), (104, 33, .null, 0, 111, [], 107), (107, 0, .int 1, 0, 0, [], 108),
  (108, 9, .null, 0, 0, [], 112), (111, 0, .int 0, 0, 0, [], 112), (112, 49, .null, 0, 0, [], 112), (113, 2, .null, 0, 0, [], 114), (114, 36, .null, 4, 0, [], 117), (117, 1, .null, 1, 0, [], 118), (118, 52, .ref 0, 18, 1, [], 121), (121, 49, .null, 0, 0, [], 121),
  (122, 2, .null, 0, 0, [], 123), (123, 36, .null, 4, 0, [], 126), (126, 1, .null, 1, 0, [], 127), (127, 52, .ref 0, 47, 1, [], 130), (130, 49, .null, 0, 0, [], 130), (131, 2, .null, 0, 0, [], 132), (132, 36, .null, 4, 0, [], 135), (135, 0, .int 0, 0, 0, [], 136),
  (136, 1, .null, 3, 0, [], 137), (137, 52, .ref 0, 33, 2, [], 140), (140, 49, .null, 0, 0, [], 140), (141, 2, .null, 0, 0, [], 142), (142, 36, .null, 4, 0, [], 145), (145, 0, .int 0, 0, 0, [], 146), (146, 1, .null, 3, 0, [], 147), (147, 52, .ref 0, 33, 2, [], 150),
  (150, 2, .null, 0, 0, [], 151), (151, 36, .null, 4, 0, [], 154), (154, 52, .ref 0, 49, 0, [], 157), (157, 47, .null, 0, 0, [], 158), (158, 49, .null, 0, 0, [], 158), (159, 2, .null, 0, 0, [], 160), (160, 36, .null, 4, 0, [], 163), (163, 1, .null, 3, 0, [], 164),
  (164, 52, .ref 0, 50, 1, [], 167), (167, 49, .null, 0, 0, [], 167), (168, 2, .null, 0, 0, [], 169), (169, 36, .null, 4, 0, [], 172), (172, 1, .null, 1, 0, [], 173), (173, 52, .ref 0, 35, 1, [], 176), (176, 49, .null, 0, 0, [], 176), (177, 0, .int (-2), 0, 0, [], 179),
  (179, 49, .null, 0, 0, [], 179)]
def mtX4_of : axM := (⟨"BeatSlugs", "of", "(II)I"⟩, prog_1_method_14_code, 4, (some .int), 4, false, cdX4_of)
abbrev kX4_of : Nat := 41
set_option maxRecDepth 100000 in
theorem ckX4_of : axCk 4 false 0 prog_1_method_14_code cdX4_of = true := by decide +kernel
def cdX0_has : List axE := [
  (0, 2, .null, 0, 0, [], 1), (1, 36, .null, 0, 6, [], 4), (4, 1, .null, 1, 0, [], 5), (5, 53, .null, 10, 2, [], 8), (8, 49, .null, 2, 0, [], 8)]
def mtX0_has : axM := (⟨"BeatSlugs$Board", "has", "(I)Z"⟩, prog_2_method_26_code, 2, (some .boolean), 0, false, cdX0_has)
abbrev kX0_has : Nat := 42
set_option maxRecDepth 100000 in
theorem ckX0_has : axCk 0 false 2 prog_2_method_26_code cdX0_has = true := by decide +kernel
def cdX0_placeOf : List axE := [
  (0, 0, .int 0, 0, 0, [], 1), (1, 4, .null, 2, 0, [], 2), (2, 1, .null, 2, 0, [], 3), (3, 2, .null, 0, 0, [], 4), (4, 36, .null, 0, 8, [], 7), (7, 32, .null, 3, 30, [], 10), (10, 2, .null, 0, 0, [], 11), (11, 36, .null, 0, 2, [], 14),
  (14, 1, .null, 2, 0, [], 15), (15, 53, .null, 9, 2, [], 18), (18, 1, .null, 1, 0, [], 19), (19, 32, .null, 1, 24, [], 22), (22, 1, .null, 2, 0, [], 23), (23, 49, .null, 0, 0, [], 23), (24, 6, .int 1, 2, 0, [], 27), (27, 9, .null, 0, 0, [], 2),
  (30, 0, .int (-1), 0, 0, [], 31), (31, 49, .null, 0, 0, [], 31)]
def mtX0_placeOf : axM := (⟨"BeatSlugs$Board", "placeOf", "(I)I"⟩, prog_2_method_28_code, 3, (some .int), 0, false, cdX0_placeOf)
abbrev kX0_placeOf : Nat := 43
set_option maxRecDepth 100000 in
theorem ckX0_placeOf : axCk 0 false 0 prog_2_method_28_code cdX0_placeOf = true := by decide +kernel
def cdX0_writtenOf : List axE := [
  (0, 2, .null, 0, 0, [], 1), (1, 36, .null, 0, 3, [], 4), (4, 1, .null, 1, 0, [], 5), (5, 53, .null, 9, 2, [], 8), (8, 49, .null, 0, 0, [], 8)]
def mtX0_writtenOf : axM := (⟨"BeatSlugs$Board", "writtenOf", "(I)I"⟩, prog_2_method_29_code, 2, (some .int), 0, false, cdX0_writtenOf)
abbrev kX0_writtenOf : Nat := 44
set_option maxRecDepth 100000 in
theorem ckX0_writtenOf : axCk 0 false 0 prog_2_method_29_code cdX0_writtenOf = true := by decide +kernel
def cdX0_beatsOf : List axE := [
  (0, 2, .null, 0, 0, [], 1), (1, 36, .null, 0, 4, [], 4), (4, 1, .null, 1, 0, [], 5), (5, 53, .null, 9, 2, [], 8), (8, 49, .null, 0, 0, [], 8)]
def mtX0_beatsOf : axM := (⟨"BeatSlugs$Board", "beatsOf", "(I)I"⟩, prog_2_method_30_code, 2, (some .int), 0, false, cdX0_beatsOf)
abbrev kX0_beatsOf : Nat := 45
set_option maxRecDepth 100000 in
theorem ckX0_beatsOf : axCk 0 false 0 prog_2_method_30_code cdX0_beatsOf = true := by decide +kernel
def cdX0_isTurn : List axE := [
  (0, 2, .null, 0, 0, [], 1), (1, 36, .null, 0, 7, [], 4), (4, 1, .null, 1, 0, [], 5), (5, 53, .null, 10, 2, [], 8), (8, 49, .null, 2, 0, [], 8)]
def mtX0_isTurn : axM := (⟨"BeatSlugs$Board", "isTurn", "(I)Z"⟩, prog_2_method_31_code, 2, (some .boolean), 0, false, cdX0_isTurn)
abbrev kX0_isTurn : Nat := 46
set_option maxRecDepth 100000 in
theorem ckX0_isTurn : axCk 0 false 2 prog_2_method_31_code cdX0_isTurn = true := by decide +kernel
def cdX0_needersOf : List axE := [
  (0, 0, .int 0, 0, 0, [], 1), (1, 4, .null, 2, 0, [], 2), (2, 0, .int 0, 0, 0, [], 3), (3, 4, .null, 3, 0, [], 4), (4, 1, .null, 3, 0, [], 5), (5, 2, .null, 0, 0, [], 6), (6, 36, .null, 0, 8, [], 9), (9, 32, .null, 3, 49, [], 12),
  (12, 2, .null, 0, 0, [], 13), (13, 36, .null, 0, 2, [], 16), (16, 1, .null, 3, 0, [], 17), (17, 53, .null, 9, 2, [], 20), (20, 4, .null, 4, 0, [], 22), (22, 2, .null, 0, 0, [], 23), (23, 1, .null, 4, 0, [], 25), (25, 52, .ref 0, 18, 1, [], 28),
  (28, 1, .null, 1, 0, [], 29), (29, 53, .null, 10, 2, [], 32), (32, 33, .null, 0, 43, [], 35), (35, 1, .null, 2, 0, [], 36), (36, 1, .null, 4, 0, [], 38), (38, 53, .null, 48, 1, [], 41), (41, 15, .null, 0, 0, [], 42), (42, 4, .null, 2, 0, [], 43),
  (43, 6, .int 1, 3, 0, [], 46), (46, 9, .null, 0, 0, [], 4), (49, 1, .null, 2, 0, [], 50), (50, 49, .null, 0, 0, [], 50)]
def mtX0_needersOf : axM := (⟨"BeatSlugs$Board", "needersOf", "(I)I"⟩, prog_2_method_35_code, 5, (some .int), 0, false, cdX0_needersOf)
abbrev kX0_needersOf : Nat := 47
set_option maxRecDepth 100000 in
theorem ckX0_needersOf : axCk 0 false 0 prog_2_method_35_code cdX0_needersOf = true := by decide +kernel
def cdX4_bit : List axE := [
  (0, 1, .null, 0, 0, [], 1), (1, 33, .null, 2, 16, [], 4), (4, 1, .null, 0, 0, [], 5), (5, 0, .int 24, 0, 0, [], 7), (7, 32, .null, 3, 16, [], 10), (10, 0, .int 1, 0, 0, [], 11), (11, 1, .null, 0, 0, [], 12), (12, 17, .null, 0, 0, [], 13),
  (13, 9, .null, 0, 0, [], 17), (16, 0, .int 0, 0, 0, [], 17), (17, 49, .null, 0, 0, [], 17)]
def mtX4_bit : axM := (⟨"BeatSlugs", "bit", "(I)I"⟩, prog_1_method_35_code, 1, (some .int), 4, false, cdX4_bit)
abbrev kX4_bit : Nat := 48
set_option maxRecDepth 100000 in
theorem ckX4_bit : axCk 4 false 0 prog_1_method_35_code cdX4_bit = true := by decide +kernel
def cdX0_pageBeats : List axE := [
  (0, 0, .int 1, 0, 0, [], 1), (1, 2, .null, 0, 0, [], 2), (2, 0, .int 0, 0, 0, [], 3), (3, 52, .ref 0, 36, 1, [], 6), (6, 57, .null, 0, 0, [], 9), (9, 49, .null, 0, 0, [], 9)]
def mtX0_pageBeats : axM := (⟨"BeatSlugs$Board", "pageBeats", "()I"⟩, prog_2_method_22_code, 1, (some .int), 0, false, cdX0_pageBeats)
abbrev kX0_pageBeats : Nat := 49
set_option maxRecDepth 100000 in
theorem ckX0_pageBeats : axCk 0 false 0 prog_2_method_22_code cdX0_pageBeats = true := by decide +kernel
def cdX0_turnsAhead : List axE := [
  (0, 0, .int 0, 0, 0, [], 1), (1, 4, .null, 2, 0, [], 2), (2, 0, .int 0, 0, 0, [], 3), (3, 4, .null, 3, 0, [], 4), (4, 1, .null, 3, 0, [], 5), (5, 1, .null, 1, 0, [], 6), (6, 32, .null, 3, 36, [], 9), (9, 2, .null, 0, 0, [], 10),
  (10, 36, .null, 0, 7, [], 13), (13, 2, .null, 0, 0, [], 14), (14, 36, .null, 0, 2, [], 17), (17, 1, .null, 3, 0, [], 18), (18, 53, .null, 9, 2, [], 21), (21, 53, .null, 10, 2, [], 24), (24, 33, .null, 0, 30, [], 27), (27, 6, .int 1, 2, 0, [], 30),
  (30, 6, .int 1, 3, 0, [], 33), (33, 9, .null, 0, 0, [], 4), (36, 1, .null, 2, 0, [], 37), (37, 49, .null, 0, 0, [], 37)]
def mtX0_turnsAhead : axM := (⟨"BeatSlugs$Board", "turnsAhead", "(I)I"⟩, prog_2_method_44_code, 4, (some .int), 0, false, cdX0_turnsAhead)
abbrev kX0_turnsAhead : Nat := 50
set_option maxRecDepth 100000 in
theorem ckX0_turnsAhead : axCk 0 false 0 prog_2_method_44_code cdX0_turnsAhead = true := by decide +kernel
def cdX4_needs : List axE := [
  (0, 2, .null, 0, 0, [], 1), (1, 36, .null, 4, 0, [], 4), (4, 1, .null, 1, 0, [], 5), (5, 52, .ref 0, 42, 1, [], 8), (8, 33, .null, 0, 22, [], 11), (11, 2, .null, 0, 0, [], 12), (12, 36, .null, 4, 0, [], 15), (15, 1, .null, 1, 0, [], 16),
  (16, 52, .ref 0, 52, 1, [], 19), (19, 9, .null, 0, 0, [], 23), (22, 0, .int (-1), 0, 0, [], 23), (23, 49, .null, 0, 0, [], 23)]
def mtX4_needs : axM := (⟨"BeatSlugs", "needs", "(I)I"⟩, prog_1_method_23_code, 2, (some .int), 4, false, cdX4_needs)
abbrev kX4_needs : Nat := 51
set_option maxRecDepth 100000 in
theorem ckX4_needs : axCk 4 false 0 prog_1_method_23_code cdX4_needs = true := by decide +kernel
def cdX0_allNeedsOf : List axE := [
  (0, 2, .null, 0, 0, [], 1), (1, 1, .null, 1, 0, [], 2), (2, 52, .ref 0, 18, 1, [], 5), (5, 4, .null, 2, 0, [], 6), (6, 2, .null, 0, 0, [], 7), (7, 36, .null, 0, 8, [], 10), (10, 0, .int 1, 0, 0, [], 11), (11, 12, .null, 0, 0, [], 12),
  (12, 4, .null, 3, 0, [], 13), (13, 1, .null, 3, 0, [], 14), (14, 33, .null, 2, 51, [], 17), (17, 2, .null, 0, 0, [], 18), (18, 36, .null, 0, 2, [], 21), (21, 1, .null, 3, 0, [], 22), (22, 53, .null, 9, 2, [], 25), (25, 4, .null, 4, 0, [], 27),
  (27, 1, .null, 2, 0, [], 28), (28, 1, .null, 4, 0, [], 30), (30, 53, .null, 10, 2, [], 33), (33, 33, .null, 0, 45, [], 36), (36, 1, .null, 2, 0, [], 37), (37, 2, .null, 0, 0, [], 38), (38, 1, .null, 4, 0, [], 40), (40, 52, .ref 0, 18, 1, [], 43),
  (43, 15, .null, 0, 0, [], 44), (44, 4, .null, 2, 0, [], 45), (45, 6, .int (-1), 3, 0, [], 48), (48, 9, .null, 0, 0, [], 13), (51, 1, .null, 2, 0, [], 52), (52, 49, .null, 0, 0, [], 52)]
def mtX0_allNeedsOf : axM := (⟨"BeatSlugs$Board", "allNeedsOf", "(I)I"⟩, prog_2_method_36_code, 5, (some .int), 0, false, cdX0_allNeedsOf)
abbrev kX0_allNeedsOf : Nat := 52
set_option maxRecDepth 100000 in
theorem ckX0_allNeedsOf : axCk 0 false 0 prog_2_method_36_code cdX0_allNeedsOf = true := by decide +kernel
def cdX4_atBeat : List axE := [
  (0, 1, .null, 1, 0, [], 1), (1, 33, .null, 3, 9, [], 4), (4, 0, .int (-2), 0, 0, [], 6), (6, 9, .null, 0, 0, [], 17), (9, 2, .null, 0, 0, [], 10), (10, 36, .null, 4, 0, [], 13), (13, 1, .null, 1, 0, [], 14), (14, 52, .ref 0, 54, 1, [], 17),
  (17, 49, .null, 0, 0, [], 17)]
def mtX4_atBeat : axM := (⟨"BeatSlugs", "atBeat", "(I)I"⟩, prog_1_method_16_code, 2, (some .int), 4, false, cdX4_atBeat)
abbrev kX4_atBeat : Nat := 53
set_option maxRecDepth 100000 in
theorem ckX4_atBeat : axCk 4 false 0 prog_1_method_16_code cdX4_atBeat = true := by decide +kernel
def cdX0_slugAtBeat : List axE := [
  (0, 0, .int 0, 0, 0, [], 1), (1, 4, .null, 2, 0, [], 2), (2, 0, .int 0, 0, 0, [], 3), (3, 4, .null, 3, 0, [], 4), (4, 1, .null, 3, 0, [], 5), (5, 2, .null, 0, 0, [], 6), (6, 36, .null, 0, 8, [], 9), (9, 32, .null, 3, 45, [], 12),
  (12, 2, .null, 0, 0, [], 13), (13, 36, .null, 0, 2, [], 16), (16, 1, .null, 3, 0, [], 17), (17, 53, .null, 9, 2, [], 20), (20, 4, .null, 4, 0, [], 22), (22, 1, .null, 2, 0, [], 23), (23, 2, .null, 0, 0, [], 24), (24, 1, .null, 4, 0, [], 26),
  (26, 52, .ref 0, 45, 1, [], 29), (29, 11, .null, 0, 0, [], 30), (30, 4, .null, 2, 0, [], 31), (31, 1, .null, 1, 0, [], 32), (32, 1, .null, 2, 0, [], 33), (33, 32, .null, 3, 39, [], 36), (36, 1, .null, 4, 0, [], 38), (38, 49, .null, 0, 0, [], 38),
  (39, 6, .int 1, 3, 0, [], 42), (42, 9, .null, 0, 0, [], 4), (45, 0, .int (-6), 0, 0, [], 47), (47, 49, .null, 0, 0, [], 47)]
def mtX0_slugAtBeat : axM := (⟨"BeatSlugs$Board", "slugAtBeat", "(I)I"⟩, prog_2_method_43_code, 5, (some .int), 0, false, cdX0_slugAtBeat)
abbrev kX0_slugAtBeat : Nat := 54
set_option maxRecDepth 100000 in
theorem ckX0_slugAtBeat : axCk 0 false 0 prog_2_method_43_code cdX0_slugAtBeat = true := by decide +kernel
def cdX4_places : List axE := [
  (0, 2, .null, 0, 0, [], 1), (1, 36, .null, 4, 0, [], 4), (4, 1, .null, 1, 0, [], 5), (5, 52, .ref 0, 42, 1, [], 8), (8, 33, .null, 1, 13, [], 11), (11, 0, .int (-1), 0, 0, [], 12), (12, 49, .null, 0, 0, [], 12), (13, 0, .int 0, 0, 0, [], 14),
  (14, 4, .null, 2, 0, [], 15), (15, 2, .null, 0, 0, [], 16), (16, 36, .null, 4, 0, [], 19), (19, 1, .null, 1, 0, [], 20), (20, 52, .ref 0, 16, 1, [], 23), (23, 4, .null, 3, 0, [], 24), (24, 2, .null, 0, 0, [], 25), (25, 36, .null, 4, 0, [], 28),
  (28, 1, .null, 1, 0, [], 29), (29, 52, .ref 0, 17, 1, [], 32), (32, 4, .null, 4, 0, [], 34), (34, 1, .null, 4, 0, [], 36), (36, 1, .null, 3, 0, [], 37), (37, 32, .null, 4, 54, [], 40), (40, 1, .null, 2, 0, [], 41), (41, 1, .null, 4, 0, [], 43),
  (43, 53, .null, 48, 1, [], 46), (46, 15, .null, 0, 0, [], 47), (47, 4, .null, 2, 0, [], 48), (48, 6, .int 1, 4, 0, [], 51), (51, 9, .null, 0, 0, [], 34), (54, 1, .null, 2, 0, [], 55), (55, 49, .null, 0, 0, [], 55)]
def mtX4_places : axM := (⟨"BeatSlugs", "places", "(I)I"⟩, prog_1_method_19_code, 5, (some .int), 4, false, cdX4_places)
abbrev kX4_places : Nat := 55
set_option maxRecDepth 100000 in
theorem ckX4_places : axCk 4 false 0 prog_1_method_19_code cdX4_places = true := by decide +kernel
def cdX4_count : List axE := [
  (0, 1, .null, 1, 0, [], 1), (1, 35, .null, 0, 181, [(0, 64), (1, 72), (2, 80), (3, 88), (4, 114), (5, 122), (6, 130), (7, 138), (8, 147), (9, 156), (10, 165), (11, 173)], 1), (64, 2, .null, 0, 0, [], 65), (65, 36, .null, 4, 0, [], 68), (68, 52, .ref 0, 57, 0, [], 71), (71, 49, .null, 0, 0, [], 71), (72, 2, .null, 0, 0, [], 73), (73, 36, .null, 4, 0, [], 76),
  (76, 52, .ref 0, 29, 0, [], 79), (79, 49, .null, 0, 0, [], 79), (80, 2, .null, 0, 0, [], 81), (81, 36, .null, 4, 0, [], 84), (84, 52, .ref 0, 58, 0, [], 87), (87, 49, .null, 0, 0, [], 87), (88, 2, .null, 0, 0, [], 89), (89, 36, .null, 4, 0, [], 92),
  (92, 52, .ref 0, 58, 0, [], 95), (95, 2, .null, 0, 0, [], 96), (96, 36, .null, 4, 0, [], 99), (99, 52, .ref 0, 49, 0, [], 102), (102, 11, .null, 0, 0, [], 103), (103, 0, .int 1, 0, 0, [], 104), (104, 12, .null, 0, 0, [], 105), (105, 2, .null, 0, 0, [], 106),
  (106, 36, .null, 4, 0, [], 109), (109, 52, .ref 0, 49, 0, [], 112), (112, 47, .null, 0, 0, [], 113), (113, 49, .null, 0, 0, [], 113), (114, 2, .null, 0, 0, [], 115), (115, 36, .null, 4, 0, [], 118), (118, 52, .ref 0, 7, 0, [], 121), (121, 49, .null, 0, 0, [], 121),
  (122, 2, .null, 0, 0, [], 123), (123, 36, .null, 4, 0, [], 126), (126, 52, .ref 0, 59, 0, [], 129), (129, 49, .null, 0, 0, [], 129), (130, 2, .null, 0, 0, [], 131), (131, 36, .null, 4, 0, [], 134), (134, 52, .ref 0, 62, 0, [], 137), (137, 49, .null, 0, 0, [], 137),
  (138, 2, .null, 0, 0, [], 139), (139, 36, .null, 4, 0, [], 142), (142, 0, .int 0, 0, 0, [], 143), (143, 52, .ref 0, 36, 1, [], 146), (146, 49, .null, 0, 0, [], 146), (147, 2, .null, 0, 0, [], 148), (148, 36, .null, 4, 0, [], 151), (151, 0, .int 1, 0, 0, [], 152),
  (152, 52, .ref 0, 36, 1, [], 155), (155, 49, .null, 0, 0, [], 155), (156, 2, .null, 0, 0, [], 157), (157, 36, .null, 4, 0, [], 160), (160, 0, .int 2, 0, 0, [], 161), (161, 52, .ref 0, 36, 1, [], 164), (164, 49, .null, 0, 0, [], 164), (165, 2, .null, 0, 0, [], 166),
  (166, 36, .null, 4, 3, [], 169), (169, 52, .ref 2, 63, 0, [], 172), (172, 49, .null, 0, 0, [], 172), (173, 2, .null, 0, 0, [], 174), (174, 36, .null, 4, 1, [], 177), (177, 52, .ref 1, 64, 0, [], 180), (180, 49, .null, 0, 0, [], 180), (181, 0, .int (-2), 0, 0, [], 183),
  (183, 49, .null, 0, 0, [], 183)]
def mtX4_count : axM := (⟨"BeatSlugs", "count", "(I)I"⟩, prog_1_method_18_code, 2, (some .int), 4, false, cdX4_count)
abbrev kX4_count : Nat := 56
set_option maxRecDepth 100000 in
theorem ckX4_count : axCk 4 false 0 prog_1_method_18_code cdX4_count = true := by decide +kernel
def cdX0_allSlugs : List axE := [
  (0, 2, .null, 0, 0, [], 1), (1, 36, .null, 0, 6, [], 4), (4, 49, .null, 0, 0, [], 4)]
def mtX0_allSlugs : axM := (⟨"BeatSlugs$Board", "allSlugs", "()I"⟩, prog_2_method_24_code, 1, (some .int), 0, false, cdX0_allSlugs)
abbrev kX0_allSlugs : Nat := 57
set_option maxRecDepth 100000 in
theorem ckX0_allSlugs : axCk 0 false 0 prog_2_method_24_code cdX0_allSlugs = true := by decide +kernel
def cdX0_allBeats : List axE := [
  (0, 2, .null, 0, 0, [], 1), (1, 0, .int 0, 0, 0, [], 2), (2, 2, .null, 0, 0, [], 3), (3, 36, .null, 0, 8, [], 6), (6, 52, .ref 0, 33, 2, [], 9), (9, 49, .null, 0, 0, [], 9)]
def mtX0_allBeats : axM := (⟨"BeatSlugs$Board", "allBeats", "()I"⟩, prog_2_method_41_code, 1, (some .int), 0, false, cdX0_allBeats)
abbrev kX0_allBeats : Nat := 58
set_option maxRecDepth 100000 in
theorem ckX0_allBeats : axCk 0 false 0 prog_2_method_41_code cdX0_allBeats = true := by decide +kernel
def cdX0_fittingActs : List axE := [
  (0, 0, .int 0, 0, 0, [], 1), (1, 4, .null, 1, 0, [], 2), (2, 2, .null, 0, 0, [], 3), (3, 52, .ref 0, 29, 0, [], 6), (6, 4, .null, 2, 0, [], 7), (7, 0, .int 0, 0, 0, [], 8), (8, 4, .null, 3, 0, [], 9), (9, 1, .null, 3, 0, [], 10),
  (10, 1, .null, 2, 0, [], 11), (11, 32, .null, 3, 31, [], 14), (14, 2, .null, 0, 0, [], 15), (15, 1, .null, 3, 0, [], 16), (16, 52, .ref 0, 60, 1, [], 19), (19, 33, .null, 0, 25, [], 22), (22, 6, .int 1, 1, 0, [], 25), (25, 6, .int 1, 3, 0, [], 28),
  (28, 9, .null, 0, 0, [], 9), (31, 1, .null, 1, 0, [], 32), (32, 49, .null, 0, 0, [], 32)]
def mtX0_fittingActs : axM := (⟨"BeatSlugs$Board", "fittingActs", "()I"⟩, prog_2_method_52_code, 4, (some .int), 0, false, cdX0_fittingActs)
abbrev kX0_fittingActs : Nat := 59
set_option maxRecDepth 100000 in
theorem ckX0_fittingActs : axCk 0 false 0 prog_2_method_52_code cdX0_fittingActs = true := by decide +kernel
def cdX0_isFitting : List axE := [
  (0, 2, .null, 0, 0, [], 1), (1, 1, .null, 1, 0, [], 2), (2, 52, .ref 0, 61, 1, [], 5), (5, 33, .null, 1, 28, [], 8), (8, 2, .null, 0, 0, [], 9), (9, 1, .null, 1, 0, [], 10), (10, 52, .ref 0, 31, 1, [], 13), (13, 59, .null, 0, 0, [], 16),
  (16, 2, .null, 0, 0, [], 17), (17, 0, .int 1, 0, 0, [], 18), (18, 52, .ref 0, 36, 1, [], 21), (21, 32, .null, 4, 28, [], 24), (24, 0, .int 1, 0, 0, [], 25), (25, 9, .null, 0, 0, [], 29), (28, 0, .int 0, 0, 0, [], 29), (29, 49, .null, 2, 0, [], 29)]
def mtX0_isFitting : axM := (⟨"BeatSlugs$Board", "isFitting", "(I)Z"⟩, prog_2_method_51_code, 2, (some .boolean), 0, false, cdX0_isFitting)
abbrev kX0_isFitting : Nat := 60
set_option maxRecDepth 100000 in
theorem ckX0_isFitting : axCk 0 false 2 prog_2_method_51_code cdX0_isFitting = true := by decide +kernel
def cdX0_isOpen : List axE := [
  (0, 1, .null, 1, 0, [], 1), (1, 2, .null, 0, 0, [], 2), (2, 36, .null, 0, 7, [], 5), (5, 53, .null, 30, 1, [], 8), (8, 32, .null, 2, 15, [], 11), (11, 0, .int 1, 0, 0, [], 12), (12, 9, .null, 0, 0, [], 16), (15, 0, .int 0, 0, 0, [], 16),
  (16, 49, .null, 2, 0, [], 16)]
def mtX0_isOpen : axM := (⟨"BeatSlugs$Board", "isOpen", "(I)Z"⟩, prog_2_method_50_code, 2, (some .boolean), 0, false, cdX0_isOpen)
abbrev kX0_isOpen : Nat := 61
set_option maxRecDepth 100000 in
theorem ckX0_isOpen : axCk 0 false 2 prog_2_method_50_code cdX0_isOpen = true := by decide +kernel
def cdX0_longestSlug : List axE := [
  (0, 0, .int (-6), 0, 0, [], 2), (2, 4, .null, 1, 0, [], 3), (3, 0, .int 0, 0, 0, [], 4), (4, 4, .null, 2, 0, [], 5), (5, 0, .int 0, 0, 0, [], 6), (6, 4, .null, 3, 0, [], 7), (7, 1, .null, 3, 0, [], 8), (8, 2, .null, 0, 0, [], 9),
  (9, 36, .null, 0, 8, [], 12), (12, 32, .null, 3, 51, [], 15), (15, 2, .null, 0, 0, [], 16), (16, 36, .null, 0, 2, [], 19), (19, 1, .null, 3, 0, [], 20), (20, 53, .null, 9, 2, [], 23), (23, 4, .null, 4, 0, [], 25), (25, 2, .null, 0, 0, [], 26),
  (26, 1, .null, 4, 0, [], 28), (28, 52, .ref 0, 45, 1, [], 31), (31, 1, .null, 2, 0, [], 32), (32, 32, .null, 5, 45, [], 35), (35, 1, .null, 4, 0, [], 37), (37, 4, .null, 1, 0, [], 38), (38, 2, .null, 0, 0, [], 39), (39, 1, .null, 4, 0, [], 41),
  (41, 52, .ref 0, 45, 1, [], 44), (44, 4, .null, 2, 0, [], 45), (45, 6, .int 1, 3, 0, [], 48), (48, 9, .null, 0, 0, [], 7), (51, 1, .null, 1, 0, [], 52), (52, 49, .null, 0, 0, [], 52)]
def mtX0_longestSlug : axM := (⟨"BeatSlugs$Board", "longestSlug", "()I"⟩, prog_2_method_33_code, 5, (some .int), 0, false, cdX0_longestSlug)
abbrev kX0_longestSlug : Nat := 62
set_option maxRecDepth 100000 in
theorem ckX0_longestSlug : axCk 0 false 0 prog_2_method_33_code cdX0_longestSlug = true := by decide +kernel
def cdX2_size : List axE := [
  (0, 2, .null, 0, 0, [], 1), (1, 36, .null, 2, 1, [], 4), (4, 49, .null, 0, 0, [], 4)]
def mtX2_size : axM := (⟨"BeatSlugs$Pad", "size", "()I"⟩, prog_4_method_2_code, 1, (some .int), 2, false, cdX2_size)
abbrev kX2_size : Nat := 63
set_option maxRecDepth 100000 in
theorem ckX2_size : axCk 2 false 0 prog_4_method_2_code cdX2_size = true := by decide +kernel
def cdX1_size : List axE := [
  (0, 2, .null, 0, 0, [], 1), (1, 36, .null, 1, 2, [], 4), (4, 49, .null, 0, 0, [], 4)]
def mtX1_size : axM := (⟨"BeatSlugs$History", "size", "()I"⟩, prog_3_method_2_code, 1, (some .int), 1, false, cdX1_size)
abbrev kX1_size : Nat := 64
set_option maxRecDepth 100000 in
theorem ckX1_size : axCk 1 false 0 prog_3_method_2_code cdX1_size = true := by decide +kernel
def cdX4_ofAct : List axE := [
  (0, 2, .null, 0, 0, [], 1), (1, 36, .null, 4, 0, [], 4), (4, 1, .null, 1, 0, [], 5), (5, 52, .ref 0, 28, 1, [], 8), (8, 33, .null, 1, 13, [], 11), (11, 0, .int (-1), 0, 0, [], 12), (12, 49, .null, 0, 0, [], 12), (13, 2, .null, 0, 0, [], 14),
  (14, 36, .null, 4, 0, [], 17), (17, 1, .null, 1, 0, [], 18), (18, 52, .ref 0, 32, 1, [], 21), (21, 4, .null, 3, 0, [], 22), (22, 2, .null, 0, 0, [], 23), (23, 36, .null, 4, 0, [], 26), (26, 1, .null, 1, 0, [], 27), (27, 0, .int 1, 0, 0, [], 28),
  (28, 11, .null, 0, 0, [], 29), (29, 52, .ref 0, 32, 1, [], 32), (32, 4, .null, 4, 0, [], 34), (34, 1, .null, 2, 0, [], 35), (35, 35, .null, 0, 173, [(0, 80), (1, 91), (2, 100), (3, 113), (4, 130), (5, 147), (6, 152), (7, 162)], 35), (80, 2, .null, 0, 0, [], 81), (81, 36, .null, 4, 0, [], 84), (84, 1, .null, 3, 0, [], 85),
  (85, 1, .null, 4, 0, [], 87), (87, 52, .ref 0, 33, 2, [], 90), (90, 49, .null, 0, 0, [], 90), (91, 2, .null, 0, 0, [], 92), (92, 36, .null, 4, 0, [], 95), (95, 1, .null, 1, 0, [], 96), (96, 52, .ref 0, 11, 1, [], 99), (99, 49, .null, 0, 0, [], 99),
  (100, 2, .null, 0, 0, [], 101), (101, 36, .null, 4, 0, [], 104), (104, 1, .null, 1, 0, [], 105), (105, 52, .ref 0, 31, 1, [], 108), (108, 0, .int 5000, 0, 0, [], 111), (111, 11, .null, 0, 0, [], 112), (112, 49, .null, 0, 0, [], 112), (113, 2, .null, 0, 0, [], 114),
  (114, 36, .null, 4, 0, [], 117), (117, 1, .null, 1, 0, [], 118), (118, 52, .ref 0, 60, 1, [], 121), (121, 33, .null, 0, 128, [], 124), (124, 0, .int 1, 0, 0, [], 125), (125, 9, .null, 0, 0, [], 129), (128, 0, .int 0, 0, 0, [], 129), (129, 49, .null, 0, 0, [], 129),
  (130, 2, .null, 0, 0, [], 131), (131, 36, .null, 4, 0, [], 134), (134, 1, .null, 1, 0, [], 135), (135, 52, .ref 0, 61, 1, [], 138), (138, 33, .null, 0, 145, [], 141), (141, 0, .int 1, 0, 0, [], 142), (142, 9, .null, 0, 0, [], 146), (145, 0, .int 0, 0, 0, [], 146),
  (146, 49, .null, 0, 0, [], 146), (147, 1, .null, 4, 0, [], 149), (149, 1, .null, 3, 0, [], 150), (150, 12, .null, 0, 0, [], 151), (151, 49, .null, 0, 0, [], 151), (152, 2, .null, 0, 0, [], 153), (153, 36, .null, 4, 0, [], 156), (156, 0, .int 0, 0, 0, [], 157),
  (157, 1, .null, 3, 0, [], 158), (158, 52, .ref 0, 33, 2, [], 161), (161, 49, .null, 0, 0, [], 161), (162, 2, .null, 0, 0, [], 163), (163, 36, .null, 4, 0, [], 166), (166, 1, .null, 3, 0, [], 167), (167, 1, .null, 4, 0, [], 169), (169, 52, .ref 0, 34, 2, [], 172),
  (172, 49, .null, 0, 0, [], 172), (173, 0, .int (-2), 0, 0, [], 175), (175, 49, .null, 0, 0, [], 175)]
def mtX4_ofAct : axM := (⟨"BeatSlugs", "ofAct", "(II)I"⟩, prog_1_method_17_code, 5, (some .int), 4, false, cdX4_ofAct)
abbrev kX4_ofAct : Nat := 65
set_option maxRecDepth 100000 in
theorem ckX4_ofAct : axCk 4 false 0 prog_1_method_17_code cdX4_ofAct = true := by decide +kernel
def cdL_swapsBest : List axE := [
  (0, 2, .null, 0, 0, [], 1), (1, 0, .int 4, 0, 0, [], 2), (2, 52, .ref 4, 56, 1, [], 5), (5, 4, .null, 1, 0, [], 6), (6, 2, .null, 0, 0, [], 7), (7, 0, .int 0, 0, 0, [], 8), (8, 52, .ref 4, 5, 1, [], 11), (11, 4, .null, 2, 0, [], 12),
  (12, 2, .null, 0, 0, [], 13), (13, 0, .int 1, 0, 0, [], 14), (14, 52, .ref 4, 5, 1, [], 17), (17, 4, .null, 3, 0, [], 18), (18, 2, .null, 0, 0, [], 19), (19, 0, .int 2, 0, 0, [], 20), (20, 52, .ref 4, 5, 1, [], 23), (23, 4, .null, 4, 0, [], 25),
  (25, 2, .null, 0, 0, [], 26), (26, 53, .null, 39, 1, [], 29), (29, 4, .null, 5, 0, [], 31), (31, 0, .int 1, 0, 0, [], 32), (32, 4, .null, 6, 0, [], 34), (34, 0, .int 0, 0, 0, [], 35), (35, 4, .null, 7, 0, [], 37), (37, 1, .null, 7, 0, [], 39),
  (39, 1, .null, 5, 0, [], 41), (41, 32, .null, 3, 149, [], 44), (44, 1, .null, 6, 0, [], 46), (46, 33, .null, 0, 149, [], 49), (49, 1, .null, 7, 0, [], 51), (51, 0, .int 1, 0, 0, [], 52), (52, 11, .null, 0, 0, [], 53), (53, 4, .null, 8, 0, [], 55),
  (55, 1, .null, 8, 0, [], 57), (57, 1, .null, 5, 0, [], 59), (59, 32, .null, 3, 143, [], 62), (62, 1, .null, 6, 0, [], 64), (64, 33, .null, 0, 143, [], 67), (67, 2, .null, 0, 0, [], 68), (68, 2, .null, 0, 0, [], 69), (69, 1, .null, 7, 0, [], 71),
  (71, 52, .ref 4, 40, 1, [], 74), (74, 2, .null, 0, 0, [], 75), (75, 1, .null, 8, 0, [], 77), (77, 52, .ref 4, 40, 1, [], 80), (80, 52, .ref 4, 67, 2, [], 83), (83, 4, .null, 9, 0, [], 85), (85, 1, .null, 9, 0, [], 87), (87, 0, .int (-5), 0, 0, [], 89),
  (89, 32, .null, 0, 130, [], 92), (92, 1, .null, 9, 0, [], 94), (94, 1, .null, 8, 0, [], 96), (96, 1, .null, 7, 0, [], 98), (98, 12, .null, 0, 0, [], 99), (99, 0, .int 1, 0, 0, [], 100), (100, 12, .null, 0, 0, [], 101), (101, 32, .null, 1, 134, [], 104),
  (104, 2, .null, 0, 0, [], 105), (105, 0, .int 4, 0, 0, [], 106), (106, 52, .ref 4, 56, 1, [], 109), (109, 1, .null, 4, 0, [], 111), (111, 33, .null, 3, 118, [], 114), (114, 1, .null, 1, 0, [], 115), (115, 9, .null, 0, 0, [], 120), (118, 1, .null, 4, 0, [], 120),
  (120, 32, .null, 2, 134, [], 123), (123, 2, .null, 0, 0, [], 124), (124, 52, .ref 4, 74, 0, [], 127), (127, 33, .null, 2, 134, [], 130), (130, 0, .int 1, 0, 0, [], 131), (131, 9, .null, 0, 0, [], 135), (134, 0, .int 0, 0, 0, [], 135), (135, 4, .null, 6, 0, [], 137),
  (137, 6, .int 1, 8, 0, [], 140), (140, 9, .null, 0, 0, [], 55), (143, 6, .int 1, 7, 0, [], 146), (146, 9, .null, 0, 0, [], 37), (149, 1, .null, 6, 0, [], 151), (151, 33, .null, 0, 158, [], 154), (154, 1, .null, 2, 0, [], 155), (155, 33, .null, 3, 188, [], 158),
  (158, 1, .null, 6, 0, [], 160), (160, 33, .null, 0, 186, [], 163), (163, 1, .null, 2, 0, [], 164), (164, 0, .int (-6), 0, 0, [], 166), (166, 32, .null, 1, 186, [], 169), (169, 1, .null, 3, 0, [], 170), (170, 0, .int (-6), 0, 0, [], 172), (172, 32, .null, 1, 186, [], 175),
  (175, 1, .null, 4, 0, [], 177), (177, 0, .int (-6), 0, 0, [], 179), (179, 32, .null, 1, 186, [], 182), (182, 0, .int 1, 0, 0, [], 183), (183, 9, .null, 0, 0, [], 187), (186, 0, .int 0, 0, 0, [], 187), (187, 49, .null, 2, 0, [], 187), (188, 1, .null, 4, 0, [], 190),
  (190, 1, .null, 1, 0, [], 191), (191, 32, .null, 3, 232, [], 194), (194, 2, .null, 0, 0, [], 195), (195, 1, .null, 2, 0, [], 196), (196, 0, .int 0, 0, 0, [], 197), (197, 52, .ref 4, 41, 2, [], 200), (200, 2, .null, 0, 0, [], 201), (201, 1, .null, 3, 0, [], 202),
  (202, 0, .int 0, 0, 0, [], 203), (203, 52, .ref 4, 41, 2, [], 206), (206, 32, .null, 3, 232, [], 209), (209, 2, .null, 0, 0, [], 210), (210, 1, .null, 2, 0, [], 211), (211, 1, .null, 3, 0, [], 212), (212, 52, .ref 4, 67, 2, [], 215), (215, 33, .null, 2, 232, [], 218),
  (218, 2, .null, 0, 0, [], 219), (219, 0, .int 4, 0, 0, [], 220), (220, 52, .ref 4, 56, 1, [], 223), (223, 1, .null, 4, 0, [], 225), (225, 32, .null, 1, 232, [], 228), (228, 0, .int 1, 0, 0, [], 229), (229, 9, .null, 0, 0, [], 233), (232, 0, .int 0, 0, 0, [], 233),
  (233, 49, .null, 2, 0, [], 233)]
def mtL_swapsBest : axM := (⟨"BeatSlugsLaw", "swapsBest", "(LBeatSlugs;)Z"⟩, method_7_code, 10, (some .boolean), 6, false, cdL_swapsBest)
abbrev kL_swapsBest : Nat := 66
set_option maxRecDepth 100000 in
theorem ckL_swapsBest : axCk 6 false 2 method_7_code cdL_swapsBest = true := by decide +kernel
def cdX4_swap : List axE := [
  (0, 2, .null, 0, 0, [], 1), (1, 36, .null, 4, 1, [], 4), (4, 2, .null, 0, 0, [], 5), (5, 36, .null, 4, 0, [], 8), (8, 52, .ref 1, 68, 1, [], 11), (11, 2, .null, 0, 0, [], 12), (12, 36, .null, 4, 1, [], 15), (15, 2, .null, 0, 0, [], 16),
  (16, 36, .null, 4, 0, [], 19), (19, 1, .null, 1, 0, [], 20), (20, 1, .null, 2, 0, [], 21), (21, 52, .ref 0, 71, 2, [], 24), (24, 52, .ref 1, 73, 1, [], 27), (27, 49, .null, 0, 0, [], 27)]
def mtX4_swap : axM := (⟨"BeatSlugs", "swap", "(II)I"⟩, prog_1_method_11_code, 3, (some .int), 4, false, cdX4_swap)
abbrev kX4_swap : Nat := 67
set_option maxRecDepth 100000 in
theorem ckX4_swap : axCk 4 false 0 prog_1_method_11_code cdX4_swap = true := by decide +kernel
def cdX1_prepare : List axE := [
  (0, 2, .null, 0, 0, [], 1), (1, 36, .null, 1, 1, [], 4), (4, 33, .null, 2, 41, [], 7), (7, 2, .null, 0, 0, [], 8), (8, 36, .null, 1, 1, [], 11), (11, 2, .null, 0, 0, [], 12), (12, 36, .null, 1, 0, [], 15), (15, 39, .null, 0, 0, [], 16),
  (16, 32, .null, 3, 41, [], 19), (19, 2, .null, 0, 0, [], 20), (20, 36, .null, 1, 0, [], 23), (23, 2, .null, 0, 0, [], 24), (24, 36, .null, 1, 1, [], 27), (27, 2, .null, 0, 0, [], 28), (28, 36, .null, 1, 0, [], 31), (31, 2, .null, 0, 0, [], 32),
  (32, 36, .null, 1, 1, [], 35), (35, 41, .null, 0, 0, [], 36), (36, 2, .null, 1, 0, [], 37), (37, 53, .null, 69, 2, [], 40), (40, 43, .null, 0, 0, [], 41), (41, 50, .null, 0, 0, [], 41)]
def mtX1_prepare : axM := (⟨"BeatSlugs$History", "prepare", "(LBeatSlugs$Board;)V"⟩, prog_3_method_3_code, 2, none, 1, false, cdX1_prepare)
abbrev kX1_prepare : Nat := 68
set_option maxRecDepth 100000 in
theorem ckX1_prepare : axCk 1 false 0 prog_3_method_3_code cdX1_prepare = true := by decide +kernel
def cdX4_copyInto : List axE := [
  (0, 2, .null, 0, 0, [], 1), (1, 34, .null, 0, 14, [], 4), (4, 46, .null, 0, 0, [], 7), (7, 7, .null, 0, 0, [], 8), (8, 54, .null, 1, 0, [], 11), (11, 9, .null, 0, 0, [], 15), (14, 2, .null, 0, 0, [], 15), (15, 5, .null, 2, 0, [], 16),
  (16, 2, .null, 2, 0, [], 17), (17, 2, .null, 1, 0, [], 18), (18, 52, .ref 0, 70, 1, [], 21), (21, 2, .null, 2, 0, [], 22), (22, 51, .null, 0, 0, [], 22)]
def mtX4_copyInto : axM := (⟨"BeatSlugs", "copyInto", "(LBeatSlugs$Board;LBeatSlugs$Board;)LBeatSlugs$Board;"⟩, prog_1_method_32_code, 3, (some (.object "BeatSlugs$Board")), 4, false, cdX4_copyInto)
abbrev kX4_copyInto : Nat := 69
set_option maxRecDepth 100000 in
theorem ckX4_copyInto : axCk 4 false 0 prog_1_method_32_code cdX4_copyInto = true := by decide +kernel
def cdX0_takeOver : List axE := [
  (0, 2, .null, 1, 0, [], 1), (1, 36, .null, 0, 0, [], 4), (4, 0, .int 0, 0, 0, [], 5), (5, 2, .null, 0, 0, [], 6), (6, 36, .null, 0, 0, [], 9), (9, 0, .int 0, 0, 0, [], 10), (10, 2, .null, 0, 0, [], 11), (11, 36, .null, 0, 0, [], 14),
  (14, 39, .null, 0, 0, [], 15), (15, 56, .null, 0, 0, [], 18), (18, 2, .null, 1, 0, [], 19), (19, 36, .null, 0, 1, [], 22), (22, 0, .int 0, 0, 0, [], 23), (23, 2, .null, 0, 0, [], 24), (24, 36, .null, 0, 1, [], 27), (27, 0, .int 0, 0, 0, [], 28),
  (28, 2, .null, 0, 0, [], 29), (29, 36, .null, 0, 1, [], 32), (32, 39, .null, 0, 0, [], 33), (33, 56, .null, 0, 0, [], 36), (36, 2, .null, 1, 0, [], 37), (37, 36, .null, 0, 2, [], 40), (40, 0, .int 0, 0, 0, [], 41), (41, 2, .null, 0, 0, [], 42),
  (42, 36, .null, 0, 2, [], 45), (45, 0, .int 0, 0, 0, [], 46), (46, 2, .null, 0, 0, [], 47), (47, 36, .null, 0, 2, [], 50), (50, 39, .null, 0, 0, [], 51), (51, 56, .null, 0, 0, [], 54), (54, 2, .null, 1, 0, [], 55), (55, 36, .null, 0, 3, [], 58),
  (58, 0, .int 0, 0, 0, [], 59), (59, 2, .null, 0, 0, [], 60), (60, 36, .null, 0, 3, [], 63), (63, 0, .int 0, 0, 0, [], 64), (64, 2, .null, 0, 0, [], 65), (65, 36, .null, 0, 3, [], 68), (68, 39, .null, 0, 0, [], 69), (69, 56, .null, 0, 0, [], 72),
  (72, 2, .null, 1, 0, [], 73), (73, 36, .null, 0, 4, [], 76), (76, 0, .int 0, 0, 0, [], 77), (77, 2, .null, 0, 0, [], 78), (78, 36, .null, 0, 4, [], 81), (81, 0, .int 0, 0, 0, [], 82), (82, 2, .null, 0, 0, [], 83), (83, 36, .null, 0, 4, [], 86),
  (86, 39, .null, 0, 0, [], 87), (87, 56, .null, 0, 0, [], 90), (90, 2, .null, 1, 0, [], 91), (91, 36, .null, 0, 5, [], 94), (94, 0, .int 0, 0, 0, [], 95), (95, 2, .null, 0, 0, [], 96), (96, 36, .null, 0, 5, [], 99), (99, 0, .int 0, 0, 0, [], 100),
  (100, 2, .null, 0, 0, [], 101), (101, 36, .null, 0, 5, [], 104), (104, 39, .null, 0, 0, [], 105), (105, 56, .null, 0, 0, [], 108), (108, 2, .null, 0, 0, [], 109), (109, 2, .null, 1, 0, [], 110), (110, 36, .null, 0, 6, [], 113), (113, 37, .null, 0, 6, [], 116),
  (116, 2, .null, 0, 0, [], 117), (117, 2, .null, 1, 0, [], 118), (118, 36, .null, 0, 7, [], 121), (121, 37, .null, 0, 7, [], 124), (124, 2, .null, 0, 0, [], 125), (125, 2, .null, 1, 0, [], 126), (126, 36, .null, 0, 8, [], 129), (129, 37, .null, 0, 8, [], 132),
  (132, 50, .null, 0, 0, [], 132)]
def mtX0_takeOver : axM := (⟨"BeatSlugs$Board", "takeOver", "(LBeatSlugs$Board;)V"⟩, prog_2_method_2_code, 2, none, 0, false, cdX0_takeOver)
abbrev kX0_takeOver : Nat := 70
set_option maxRecDepth 100000 in
theorem ckX0_takeOver : axCk 0 false 0 prog_2_method_2_code cdX0_takeOver = true := by decide +kernel
def cdX0_swapSlugs : List axE := [
  (0, 2, .null, 0, 0, [], 1), (1, 1, .null, 1, 0, [], 2), (2, 52, .ref 0, 42, 1, [], 5), (5, 33, .null, 0, 16, [], 8), (8, 2, .null, 0, 0, [], 9), (9, 1, .null, 2, 0, [], 10), (10, 52, .ref 0, 42, 1, [], 13), (13, 33, .null, 1, 18, [], 16),
  (16, 0, .int (-1), 0, 0, [], 17), (17, 49, .null, 0, 0, [], 17), (18, 1, .null, 1, 0, [], 19), (19, 1, .null, 2, 0, [], 20), (20, 32, .null, 1, 26, [], 23), (23, 0, .int (-2), 0, 0, [], 25), (25, 49, .null, 0, 0, [], 25), (26, 2, .null, 0, 0, [], 27),
  (27, 1, .null, 1, 0, [], 28), (28, 52, .ref 0, 43, 1, [], 31), (31, 4, .null, 3, 0, [], 32), (32, 2, .null, 0, 0, [], 33), (33, 1, .null, 2, 0, [], 34), (34, 52, .ref 0, 43, 1, [], 37), (37, 4, .null, 4, 0, [], 39), (39, 2, .null, 0, 0, [], 40),
  (40, 1, .null, 1, 0, [], 41), (41, 1, .null, 4, 0, [], 43), (43, 52, .ref 0, 72, 2, [], 46), (46, 33, .null, 0, 58, [], 49), (49, 2, .null, 0, 0, [], 50), (50, 1, .null, 2, 0, [], 51), (51, 1, .null, 3, 0, [], 52), (52, 52, .ref 0, 72, 2, [], 55),
  (55, 33, .null, 1, 61, [], 58), (58, 0, .int (-5), 0, 0, [], 60), (60, 49, .null, 0, 0, [], 60), (61, 2, .null, 0, 0, [], 62), (62, 36, .null, 0, 2, [], 65), (65, 1, .null, 3, 0, [], 66), (66, 1, .null, 2, 0, [], 67), (67, 53, .null, 14, 3, [], 70),
  (70, 2, .null, 0, 0, [], 71), (71, 36, .null, 0, 2, [], 74), (74, 1, .null, 4, 0, [], 76), (76, 1, .null, 1, 0, [], 77), (77, 53, .null, 14, 3, [], 80), (80, 1, .null, 3, 0, [], 81), (81, 1, .null, 4, 0, [], 83), (83, 12, .null, 0, 0, [], 84),
  (84, 59, .null, 0, 0, [], 87), (87, 0, .int 1, 0, 0, [], 88), (88, 12, .null, 0, 0, [], 89), (89, 49, .null, 0, 0, [], 89)]
def mtX0_swapSlugs : axM := (⟨"BeatSlugs$Board", "swapSlugs", "(II)I"⟩, prog_2_method_12_code, 5, (some .int), 0, false, cdX0_swapSlugs)
abbrev kX0_swapSlugs : Nat := 71
set_option maxRecDepth 100000 in
theorem ckX0_swapSlugs : axCk 0 false 0 prog_2_method_12_code cdX0_swapSlugs = true := by decide +kernel
def cdX0_mayStandIn : List axE := [
  (0, 1, .null, 2, 0, [], 1), (1, 2, .null, 0, 0, [], 2), (2, 1, .null, 1, 0, [], 3), (3, 52, .ref 0, 17, 1, [], 6), (6, 32, .null, 2, 22, [], 9), (9, 1, .null, 2, 0, [], 10), (10, 2, .null, 0, 0, [], 11), (11, 1, .null, 1, 0, [], 12),
  (12, 52, .ref 0, 16, 1, [], 15), (15, 32, .null, 4, 22, [], 18), (18, 0, .int 1, 0, 0, [], 19), (19, 9, .null, 0, 0, [], 23), (22, 0, .int 0, 0, 0, [], 23), (23, 49, .null, 2, 0, [], 23)]
def mtX0_mayStandIn : axM := (⟨"BeatSlugs$Board", "mayStandIn", "(II)Z"⟩, prog_2_method_39_code, 3, (some .boolean), 0, false, cdX0_mayStandIn)
abbrev kX0_mayStandIn : Nat := 72
set_option maxRecDepth 100000 in
theorem ckX0_mayStandIn : axCk 0 false 2 prog_2_method_39_code cdX0_mayStandIn = true := by decide +kernel
def cdX1_settle : List axE := [
  (0, 1, .null, 1, 0, [], 1), (1, 33, .null, 2, 47, [], 4), (4, 2, .null, 0, 0, [], 5), (5, 2, .null, 0, 0, [], 6), (6, 36, .null, 1, 1, [], 9), (9, 0, .int 1, 0, 0, [], 10), (10, 11, .null, 0, 0, [], 11), (11, 2, .null, 0, 0, [], 12),
  (12, 36, .null, 1, 0, [], 15), (15, 39, .null, 0, 0, [], 16), (16, 32, .null, 3, 28, [], 19), (19, 2, .null, 0, 0, [], 20), (20, 36, .null, 1, 1, [], 23), (23, 0, .int 1, 0, 0, [], 24), (24, 11, .null, 0, 0, [], 25), (25, 9, .null, 0, 0, [], 29),
  (28, 0, .int 0, 0, 0, [], 29), (29, 37, .null, 1, 1, [], 32), (32, 2, .null, 0, 0, [], 33), (33, 2, .null, 0, 0, [], 34), (34, 36, .null, 1, 2, [], 37), (37, 0, .int 1, 0, 0, [], 38), (38, 11, .null, 0, 0, [], 39), (39, 0, .int 6, 0, 0, [], 41),
  (41, 58, .null, 0, 0, [], 44), (44, 37, .null, 1, 2, [], 47), (47, 1, .null, 1, 0, [], 48), (48, 49, .null, 0, 0, [], 48)]
def mtX1_settle : axM := (⟨"BeatSlugs$History", "settle", "(I)I"⟩, prog_3_method_4_code, 2, (some .int), 1, false, cdX1_settle)
abbrev kX1_settle : Nat := 73
set_option maxRecDepth 100000 in
theorem ckX1_settle : axCk 1 false 0 prog_3_method_4_code cdX1_settle = true := by decide +kernel
def cdX4_undo : List axE := [
  (0, 2, .null, 0, 0, [], 1), (1, 36, .null, 4, 1, [], 4), (4, 2, .null, 0, 0, [], 5), (5, 36, .null, 4, 0, [], 8), (8, 52, .ref 1, 75, 1, [], 11), (11, 49, .null, 0, 0, [], 11)]
def mtX4_undo : axM := (⟨"BeatSlugs", "undo", "()I"⟩, prog_1_method_28_code, 1, (some .int), 4, false, cdX4_undo)
abbrev kX4_undo : Nat := 74
set_option maxRecDepth 100000 in
theorem ckX4_undo : axCk 4 false 0 prog_1_method_28_code cdX4_undo = true := by decide +kernel
def cdX1_takeBack : List axE := [
  (0, 2, .null, 0, 0, [], 1), (1, 36, .null, 1, 1, [], 4), (4, 33, .null, 5, 16, [], 7), (7, 2, .null, 0, 0, [], 8), (8, 36, .null, 1, 1, [], 11), (11, 0, .int 1, 0, 0, [], 12), (12, 12, .null, 0, 0, [], 13), (13, 9, .null, 0, 0, [], 23),
  (16, 2, .null, 0, 0, [], 17), (17, 36, .null, 1, 0, [], 20), (20, 39, .null, 0, 0, [], 21), (21, 0, .int 1, 0, 0, [], 22), (22, 12, .null, 0, 0, [], 23), (23, 4, .null, 2, 0, [], 24), (24, 2, .null, 0, 0, [], 25), (25, 36, .null, 1, 2, [], 28),
  (28, 33, .null, 5, 40, [], 31), (31, 1, .null, 2, 0, [], 32), (32, 2, .null, 0, 0, [], 33), (33, 36, .null, 1, 0, [], 36), (36, 39, .null, 0, 0, [], 37), (37, 32, .null, 2, 43, [], 40), (40, 0, .int (-5), 0, 0, [], 42), (42, 49, .null, 0, 0, [], 42),
  (43, 2, .null, 0, 0, [], 44), (44, 36, .null, 1, 0, [], 47), (47, 1, .null, 2, 0, [], 48), (48, 41, .null, 0, 0, [], 49), (49, 5, .null, 3, 0, [], 50), (50, 2, .null, 3, 0, [], 51), (51, 34, .null, 0, 57, [], 54), (54, 0, .int (-5), 0, 0, [], 56),
  (56, 49, .null, 0, 0, [], 56), (57, 2, .null, 1, 0, [], 58), (58, 2, .null, 3, 0, [], 59), (59, 52, .ref 0, 70, 1, [], 62), (62, 2, .null, 0, 0, [], 63), (63, 1, .null, 2, 0, [], 64), (64, 37, .null, 1, 1, [], 67), (67, 2, .null, 0, 0, [], 68),
  (68, 7, .null, 0, 0, [], 69), (69, 36, .null, 1, 2, [], 72), (72, 0, .int 1, 0, 0, [], 73), (73, 12, .null, 0, 0, [], 74), (74, 37, .null, 1, 2, [], 77), (77, 2, .null, 0, 0, [], 78), (78, 36, .null, 1, 2, [], 81), (81, 49, .null, 0, 0, [], 81)]
def mtX1_takeBack : axM := (⟨"BeatSlugs$History", "takeBack", "(LBeatSlugs$Board;)I"⟩, prog_3_method_5_code, 4, (some .int), 1, false, cdX1_takeBack)
abbrev kX1_takeBack : Nat := 75
set_option maxRecDepth 100000 in
theorem ckX1_takeBack : axCk 1 false 0 prog_3_method_5_code cdX1_takeBack = true := by decide +kernel
end
section
/-! The code of the methods as rows of the abstract machine. Written by wip/p32/gen2.py. -/
def cdL_act0 : List axE := [
  (0, 2, .null, 0, 0, [], 1), (1, 53, .null, 39, 1, [], 4), (4, 4, .null, 3, 0, [], 5), (5, 1, .null, 1, 0, [], 6), (6, 0, .int 20, 0, 0, [], 8), (8, 53, .null, 77, 2, [], 11), (11, 4, .null, 4, 0, [], 13), (13, 1, .null, 4, 0, [], 15),
  (15, 0, .int 6, 0, 0, [], 17), (17, 32, .null, 2, 24, [], 20), (20, 1, .null, 3, 0, [], 21), (21, 33, .null, 1, 169, [], 24), (24, 1, .null, 2, 0, [], 25), (25, 1, .null, 3, 0, [], 26), (26, 0, .int 1, 0, 0, [], 27), (27, 11, .null, 0, 0, [], 28),
  (28, 53, .null, 77, 2, [], 31), (31, 4, .null, 5, 0, [], 33), (33, 0, .int 1, 0, 0, [], 34), (34, 1, .null, 2, 0, [], 35), (35, 0, .int 5, 0, 0, [], 36), (36, 18, .null, 0, 0, [], 37), (37, 1, .null, 2, 0, [], 38), (38, 0, .int 13, 0, 0, [], 40),
  (40, 18, .null, 0, 0, [], 41), (41, 0, .int 3, 0, 0, [], 42), (42, 53, .null, 77, 2, [], 45), (45, 33, .null, 1, 53, [], 48), (48, 0, .int 99, 0, 0, [], 50), (50, 9, .null, 0, 0, [], 55), (53, 0, .int 40, 0, 0, [], 55), (55, 53, .null, 77, 2, [], 58),
  (58, 11, .null, 0, 0, [], 59), (59, 4, .null, 6, 0, [], 61), (61, 2, .null, 0, 0, [], 62), (62, 1, .null, 5, 0, [], 64), (64, 1, .null, 6, 0, [], 66), (66, 1, .null, 2, 0, [], 67), (67, 0, .int 12, 0, 0, [], 69), (69, 18, .null, 0, 0, [], 70),
  (70, 0, .int 4, 0, 0, [], 71), (71, 53, .null, 77, 2, [], 74), (74, 33, .null, 1, 81, [], 77), (77, 0, .int 1, 0, 0, [], 78)]
set_option maxRecDepth 100000 in
theorem ckL_act0 : axCk 6 false 2 method_10_code cdL_act0 = true := by decide +kernel
def cdL_act1 : List axE := [
  (78, 9, .null, 0, 0, [], 82), (81, 0, .int 0, 0, 0, [], 82), (82, 52, .ref 4, 78, 3, [], 85), (85, 4, .null, 7, 0, [], 87), (87, 1, .null, 3, 0, [], 88), (88, 0, .int 24, 0, 0, [], 90), (90, 32, .null, 1, 108, [], 93), (93, 1, .null, 7, 0, [], 95),
  (95, 0, .int (-4), 0, 0, [], 97), (97, 32, .null, 1, 104, [], 100), (100, 0, .int 1, 0, 0, [], 101), (101, 9, .null, 0, 0, [], 168), (104, 0, .int 0, 0, 0, [], 105), (105, 9, .null, 0, 0, [], 168), (108, 2, .null, 0, 0, [], 109), (109, 1, .null, 5, 0, [], 111),
  (111, 52, .ref 4, 40, 1, [], 114), (114, 1, .null, 7, 0, [], 116), (116, 32, .null, 1, 167, [], 119), (119, 2, .null, 0, 0, [], 120), (120, 1, .null, 7, 0, [], 122), (122, 0, .int 1, 0, 0, [], 123), (123, 52, .ref 4, 41, 2, [], 126), (126, 1, .null, 6, 0, [], 128),
  (128, 32, .null, 1, 167, [], 131), (131, 2, .null, 0, 0, [], 132), (132, 1, .null, 7, 0, [], 134), (134, 0, .int 2, 0, 0, [], 135), (135, 52, .ref 4, 41, 2, [], 138), (138, 1, .null, 6, 0, [], 140), (140, 32, .null, 1, 167, [], 143), (143, 2, .null, 0, 0, [], 144),
  (144, 1, .null, 7, 0, [], 146), (146, 0, .int 4, 0, 0, [], 147), (147, 52, .ref 4, 41, 2, [], 150), (150, 33, .null, 1, 167, [], 153), (153, 2, .null, 0, 0, [], 154), (154, 1, .null, 7, 0, [], 156), (156, 0, .int 5, 0, 0, [], 157), (157, 52, .ref 4, 41, 2, [], 160),
  (160, 33, .null, 1, 167, [], 163), (163, 0, .int 1, 0, 0, [], 164), (164, 9, .null, 0, 0, [], 168), (167, 0, .int 0, 0, 0, [], 168)]
set_option maxRecDepth 100000 in
theorem ckL_act1 : axCk 6 false 2 method_10_code cdL_act1 = true := by decide +kernel
def cdL_act2 : List axE := [
  (168, 49, .null, 2, 0, [], 168), (169, 2, .null, 0, 0, [], 170), (170, 1, .null, 2, 0, [], 171), (171, 1, .null, 3, 0, [], 172), (172, 53, .null, 77, 2, [], 175), (175, 52, .ref 4, 40, 1, [], 178), (178, 4, .null, 5, 0, [], 180), (180, 2, .null, 0, 0, [], 181),
  (181, 1, .null, 2, 0, [], 182), (182, 0, .int 5, 0, 0, [], 183), (183, 18, .null, 0, 0, [], 184), (184, 1, .null, 3, 0, [], 185), (185, 53, .null, 77, 2, [], 188), (188, 52, .ref 4, 40, 1, [], 191), (191, 4, .null, 6, 0, [], 193), (193, 2, .null, 0, 0, [], 194),
  (194, 0, .int 2, 0, 0, [], 195), (195, 52, .ref 4, 56, 1, [], 198), (198, 4, .null, 7, 0, [], 200), (200, 2, .null, 0, 0, [], 201), (201, 0, .int 1, 0, 0, [], 202), (202, 52, .ref 4, 56, 1, [], 205), (205, 4, .null, 8, 0, [], 207), (207, 1, .null, 4, 0, [], 209),
  (209, 0, .int 6, 0, 0, [], 211), (211, 32, .null, 1, 265, [], 214), (214, 2, .null, 0, 0, [], 215), (215, 1, .null, 5, 0, [], 217), (217, 0, .int 2, 0, 0, [], 218), (218, 52, .ref 4, 41, 2, [], 221), (221, 4, .null, 9, 0, [], 223), (223, 2, .null, 0, 0, [], 224),
  (224, 1, .null, 5, 0, [], 226), (226, 52, .ref 4, 83, 1, [], 229), (229, 1, .null, 3, 0, [], 230), (230, 0, .int 1, 0, 0, [], 231), (231, 12, .null, 0, 0, [], 232), (232, 32, .null, 1, 263, [], 235), (235, 2, .null, 0, 0, [], 236), (236, 1, .null, 5, 0, [], 238),
  (238, 0, .int 0, 0, 0, [], 239), (239, 52, .ref 4, 41, 2, [], 242), (242, 0, .int (-1), 0, 0, [], 243), (243, 32, .null, 1, 263, [], 246)]
set_option maxRecDepth 100000 in
theorem ckL_act2 : axCk 6 false 2 method_10_code cdL_act2 = true := by decide +kernel
def cdL_act3 : List axE := [
  (246, 2, .null, 0, 0, [], 247), (247, 0, .int 2, 0, 0, [], 248), (248, 52, .ref 4, 56, 1, [], 251), (251, 1, .null, 7, 0, [], 253), (253, 1, .null, 9, 0, [], 255), (255, 12, .null, 0, 0, [], 256), (256, 32, .null, 1, 263, [], 259), (259, 0, .int 1, 0, 0, [], 260),
  (260, 9, .null, 0, 0, [], 264), (263, 0, .int 0, 0, 0, [], 264), (264, 49, .null, 2, 0, [], 264), (265, 1, .null, 4, 0, [], 267), (267, 0, .int 7, 0, 0, [], 269), (269, 32, .null, 1, 332, [], 272), (272, 2, .null, 0, 0, [], 273), (273, 1, .null, 5, 0, [], 275),
  (275, 52, .ref 4, 86, 1, [], 278), (278, 4, .null, 9, 0, [], 280), (280, 2, .null, 0, 0, [], 281), (281, 1, .null, 5, 0, [], 283), (283, 0, .int 3, 0, 0, [], 284), (284, 52, .ref 4, 41, 2, [], 287), (287, 4, .null, 10, 0, [], 289), (289, 2, .null, 0, 0, [], 290),
  (290, 1, .null, 5, 0, [], 292), (292, 52, .ref 4, 88, 1, [], 295), (295, 0, .int 1, 0, 0, [], 296), (296, 1, .null, 10, 0, [], 298), (298, 12, .null, 0, 0, [], 299), (299, 32, .null, 1, 330, [], 302), (302, 2, .null, 0, 0, [], 303), (303, 1, .null, 5, 0, [], 305),
  (305, 0, .int 3, 0, 0, [], 306), (306, 52, .ref 4, 41, 2, [], 309), (309, 0, .int 1, 0, 0, [], 310), (310, 1, .null, 10, 0, [], 312), (312, 12, .null, 0, 0, [], 313), (313, 32, .null, 1, 330, [], 316), (316, 2, .null, 0, 0, [], 317), (317, 0, .int 4, 0, 0, [], 318),
  (318, 52, .ref 4, 56, 1, [], 321), (321, 1, .null, 9, 0, [], 323), (323, 32, .null, 1, 330, [], 326), (326, 0, .int 1, 0, 0, [], 327)]
set_option maxRecDepth 100000 in
theorem ckL_act3 : axCk 6 false 2 method_10_code cdL_act3 = true := by decide +kernel
def cdL_act4 : List axE := [
  (327, 9, .null, 0, 0, [], 331), (330, 0, .int 0, 0, 0, [], 331), (331, 49, .null, 2, 0, [], 331), (332, 1, .null, 4, 0, [], 334), (334, 0, .int 11, 0, 0, [], 336), (336, 32, .null, 3, 475, [], 339), (339, 2, .null, 0, 0, [], 340), (340, 1, .null, 5, 0, [], 342),
  (342, 0, .int 4, 0, 0, [], 343), (343, 52, .ref 4, 41, 2, [], 346), (346, 4, .null, 9, 0, [], 348), (348, 2, .null, 0, 0, [], 349), (349, 1, .null, 5, 0, [], 351), (351, 1, .null, 6, 0, [], 353), (353, 52, .ref 4, 90, 2, [], 356), (356, 4, .null, 10, 0, [], 358),
  (358, 1, .null, 9, 0, [], 360), (360, 1, .null, 6, 0, [], 362), (362, 18, .null, 0, 0, [], 363), (363, 0, .int 1, 0, 0, [], 364), (364, 14, .null, 0, 0, [], 365), (365, 0, .int 1, 0, 0, [], 366), (366, 32, .null, 0, 386, [], 369), (369, 2, .null, 0, 0, [], 370),
  (370, 1, .null, 6, 0, [], 372), (372, 0, .int 0, 0, 0, [], 373), (373, 52, .ref 4, 41, 2, [], 376), (376, 2, .null, 0, 0, [], 377), (377, 1, .null, 5, 0, [], 379), (379, 0, .int 0, 0, 0, [], 380), (380, 52, .ref 4, 41, 2, [], 383), (383, 32, .null, 3, 390, [], 386),
  (386, 0, .int 1, 0, 0, [], 387), (387, 9, .null, 0, 0, [], 391), (390, 0, .int 0, 0, 0, [], 391), (391, 4, .null, 11, 0, [], 393), (393, 1, .null, 5, 0, [], 395), (395, 1, .null, 6, 0, [], 397), (397, 32, .null, 1, 415, [], 400), (400, 1, .null, 10, 0, [], 402),
  (402, 0, .int (-2), 0, 0, [], 404), (404, 32, .null, 1, 411, [], 407), (407, 0, .int 1, 0, 0, [], 408), (408, 9, .null, 0, 0, [], 474)]
set_option maxRecDepth 100000 in
theorem ckL_act4 : axCk 6 false 2 method_10_code cdL_act4 = true := by decide +kernel
def cdL_act5 : List axE := [
  (411, 0, .int 0, 0, 0, [], 412), (412, 9, .null, 0, 0, [], 474), (415, 1, .null, 11, 0, [], 417), (417, 33, .null, 0, 450, [], 420), (420, 2, .null, 0, 0, [], 421), (421, 1, .null, 5, 0, [], 423), (423, 0, .int 4, 0, 0, [], 424), (424, 52, .ref 4, 41, 2, [], 427),
  (427, 1, .null, 9, 0, [], 429), (429, 0, .int 1, 0, 0, [], 430), (430, 1, .null, 6, 0, [], 432), (432, 17, .null, 0, 0, [], 433), (433, 16, .null, 0, 0, [], 434), (434, 32, .null, 1, 446, [], 437), (437, 1, .null, 10, 0, [], 439), (439, 33, .null, 2, 446, [], 442),
  (442, 0, .int 1, 0, 0, [], 443), (443, 9, .null, 0, 0, [], 474), (446, 0, .int 0, 0, 0, [], 447), (447, 9, .null, 0, 0, [], 474), (450, 1, .null, 10, 0, [], 452), (452, 0, .int (-5), 0, 0, [], 454), (454, 32, .null, 1, 473, [], 457), (457, 2, .null, 0, 0, [], 458),
  (458, 1, .null, 5, 0, [], 460), (460, 0, .int 4, 0, 0, [], 461), (461, 52, .ref 4, 41, 2, [], 464), (464, 1, .null, 9, 0, [], 466), (466, 32, .null, 1, 473, [], 469), (469, 0, .int 1, 0, 0, [], 470), (470, 9, .null, 0, 0, [], 474), (473, 0, .int 0, 0, 0, [], 474),
  (474, 49, .null, 2, 0, [], 474), (475, 1, .null, 4, 0, [], 477), (477, 0, .int 11, 0, 0, [], 479), (479, 32, .null, 1, 645, [], 482), (482, 2, .null, 0, 0, [], 483), (483, 53, .null, 92, 1, [], 486), (486, 30, .null, 9, 0, [], 488), (488, 2, .null, 0, 0, [], 489),
  (489, 1, .null, 5, 0, [], 491), (491, 0, .int 9, 0, 0, [], 493), (493, 52, .ref 4, 41, 2, [], 496), (496, 4, .null, 11, 0, [], 498)]
set_option maxRecDepth 100000 in
theorem ckL_act5 : axCk 6 false 2 method_10_code cdL_act5 = true := by decide +kernel
def cdL_act6 : List axE := [
  (498, 0, .int 1, 0, 0, [], 499), (499, 1, .null, 2, 0, [], 500), (500, 0, .int 5, 0, 0, [], 501), (501, 18, .null, 0, 0, [], 502), (502, 0, .int 30, 0, 0, [], 504), (504, 53, .null, 77, 2, [], 507), (507, 11, .null, 0, 0, [], 508), (508, 4, .null, 12, 0, [], 510),
  (510, 2, .null, 0, 0, [], 511), (511, 1, .null, 5, 0, [], 513), (513, 0, .int 2, 0, 0, [], 514), (514, 52, .ref 4, 41, 2, [], 517), (517, 4, .null, 13, 0, [], 519), (519, 1, .null, 13, 0, [], 521), (521, 2, .null, 0, 0, [], 522), (522, 1, .null, 5, 0, [], 524),
  (524, 0, .int 1, 0, 0, [], 525), (525, 52, .ref 4, 41, 2, [], 528), (528, 32, .null, 1, 535, [], 531), (531, 0, .int 1, 0, 0, [], 532), (532, 9, .null, 0, 0, [], 536), (535, 0, .int 0, 0, 0, [], 536), (536, 4, .null, 14, 0, [], 538), (538, 2, .null, 0, 0, [], 539),
  (539, 1, .null, 5, 0, [], 541), (541, 1, .null, 12, 0, [], 543), (543, 52, .ref 4, 93, 2, [], 546), (546, 4, .null, 15, 0, [], 548), (548, 1, .null, 12, 0, [], 550), (550, 1, .null, 11, 0, [], 552), (552, 32, .null, 5, 580, [], 555), (555, 1, .null, 15, 0, [], 557),
  (557, 0, .int (-5), 0, 0, [], 559), (559, 32, .null, 1, 576, [], 562), (562, 2, .null, 0, 0, [], 563), (563, 53, .null, 92, 1, [], 566), (566, 3, .null, 9, 0, [], 568), (568, 29, .null, 0, 0, [], 569), (569, 33, .null, 1, 576, [], 572), (572, 0, .int 1, 0, 0, [], 573),
  (573, 9, .null, 0, 0, [], 644), (576, 0, .int 0, 0, 0, [], 577), (577, 9, .null, 0, 0, [], 644), (580, 1, .null, 15, 0, [], 582)]
set_option maxRecDepth 100000 in
theorem ckL_act6 : axCk 6 false 2 method_10_code cdL_act6 = true := by decide +kernel
def cdL_act7 : List axE := [
  (582, 1, .null, 13, 0, [], 584), (584, 1, .null, 12, 0, [], 586), (586, 12, .null, 0, 0, [], 587), (587, 32, .null, 1, 643, [], 590), (590, 2, .null, 0, 0, [], 591), (591, 1, .null, 5, 0, [], 593), (593, 0, .int 2, 0, 0, [], 594), (594, 52, .ref 4, 41, 2, [], 597),
  (597, 1, .null, 15, 0, [], 599), (599, 32, .null, 1, 643, [], 602), (602, 1, .null, 14, 0, [], 604), (604, 33, .null, 0, 639, [], 607), (607, 1, .null, 2, 0, [], 608), (608, 0, .int 9, 0, 0, [], 610), (610, 18, .null, 0, 0, [], 611), (611, 0, .int 2, 0, 0, [], 612),
  (612, 53, .null, 77, 2, [], 615), (615, 33, .null, 0, 639, [], 618), (618, 2, .null, 0, 0, [], 619), (619, 1, .null, 5, 0, [], 621), (621, 52, .ref 4, 95, 1, [], 624), (624, 1, .null, 12, 0, [], 626), (626, 32, .null, 1, 643, [], 629), (629, 2, .null, 0, 0, [], 630),
  (630, 53, .null, 92, 1, [], 633), (633, 3, .null, 9, 0, [], 635), (635, 29, .null, 0, 0, [], 636), (636, 33, .null, 1, 643, [], 639), (639, 0, .int 1, 0, 0, [], 640), (640, 9, .null, 0, 0, [], 644), (643, 0, .int 0, 0, 0, [], 644), (644, 49, .null, 2, 0, [], 644),
  (645, 1, .null, 4, 0, [], 647), (647, 0, .int 12, 0, 0, [], 649), (649, 32, .null, 1, 716, [], 652), (652, 2, .null, 0, 0, [], 653), (653, 1, .null, 5, 0, [], 655), (655, 0, .int 1, 0, 0, [], 656), (656, 52, .ref 4, 41, 2, [], 659), (659, 2, .null, 0, 0, [], 660),
  (660, 1, .null, 5, 0, [], 662), (662, 0, .int 2, 0, 0, [], 663), (663, 52, .ref 4, 41, 2, [], 666), (666, 12, .null, 0, 0, [], 667)]
set_option maxRecDepth 100000 in
theorem ckL_act7 : axCk 6 false 2 method_10_code cdL_act7 = true := by decide +kernel
def cdL_act8 : List axE := [
  (667, 4, .null, 9, 0, [], 669), (669, 2, .null, 0, 0, [], 670), (670, 1, .null, 5, 0, [], 672), (672, 52, .ref 4, 95, 1, [], 675), (675, 1, .null, 9, 0, [], 677), (677, 32, .null, 1, 714, [], 680), (680, 2, .null, 0, 0, [], 681), (681, 1, .null, 5, 0, [], 683),
  (683, 0, .int 2, 0, 0, [], 684), (684, 52, .ref 4, 41, 2, [], 687), (687, 2, .null, 0, 0, [], 688), (688, 1, .null, 5, 0, [], 690), (690, 0, .int 1, 0, 0, [], 691), (691, 52, .ref 4, 41, 2, [], 694), (694, 32, .null, 1, 714, [], 697), (697, 2, .null, 0, 0, [], 698),
  (698, 0, .int 2, 0, 0, [], 699), (699, 52, .ref 4, 56, 1, [], 702), (702, 1, .null, 7, 0, [], 704), (704, 1, .null, 9, 0, [], 706), (706, 11, .null, 0, 0, [], 707), (707, 32, .null, 1, 714, [], 710), (710, 0, .int 1, 0, 0, [], 711), (711, 9, .null, 0, 0, [], 715),
  (714, 0, .int 0, 0, 0, [], 715), (715, 49, .null, 2, 0, [], 715), (716, 1, .null, 4, 0, [], 718), (718, 0, .int 15, 0, 0, [], 720), (720, 32, .null, 3, 738, [], 723), (723, 2, .null, 0, 0, [], 724), (724, 1, .null, 5, 0, [], 726), (726, 1, .null, 2, 0, [], 727),
  (727, 0, .int 6, 0, 0, [], 729), (729, 18, .null, 0, 0, [], 730), (730, 1, .null, 3, 0, [], 731), (731, 53, .null, 77, 2, [], 734), (734, 53, .null, 97, 3, [], 737), (737, 49, .null, 2, 0, [], 737), (738, 1, .null, 4, 0, [], 740), (740, 0, .int 15, 0, 0, [], 742),
  (742, 32, .null, 1, 837, [], 745), (745, 2, .null, 0, 0, [], 746), (746, 53, .null, 92, 1, [], 749), (749, 30, .null, 9, 0, [], 751)]
set_option maxRecDepth 100000 in
theorem ckL_act8 : axCk 6 false 2 method_10_code cdL_act8 = true := by decide +kernel
def cdL_act9 : List axE := [
  (751, 2, .null, 0, 0, [], 752), (752, 1, .null, 5, 0, [], 754), (754, 1, .null, 6, 0, [], 756), (756, 52, .ref 4, 67, 2, [], 759), (759, 4, .null, 11, 0, [], 761), (761, 1, .null, 5, 0, [], 763), (763, 1, .null, 6, 0, [], 765), (765, 32, .null, 1, 783, [], 768),
  (768, 1, .null, 11, 0, [], 770), (770, 0, .int (-2), 0, 0, [], 772), (772, 32, .null, 1, 779, [], 775), (775, 0, .int 1, 0, 0, [], 776), (776, 9, .null, 0, 0, [], 836), (779, 0, .int 0, 0, 0, [], 780), (780, 9, .null, 0, 0, [], 836), (783, 1, .null, 11, 0, [], 785),
  (785, 0, .int (-5), 0, 0, [], 787), (787, 32, .null, 1, 808, [], 790), (790, 2, .null, 0, 0, [], 791), (791, 53, .null, 92, 1, [], 794), (794, 3, .null, 9, 0, [], 796), (796, 29, .null, 0, 0, [], 797), (797, 33, .null, 1, 804, [], 800), (800, 0, .int 1, 0, 0, [], 801),
  (801, 9, .null, 0, 0, [], 836), (804, 0, .int 0, 0, 0, [], 805), (805, 9, .null, 0, 0, [], 836), (808, 2, .null, 0, 0, [], 809), (809, 1, .null, 5, 0, [], 811), (811, 1, .null, 6, 0, [], 813), (813, 52, .ref 4, 67, 2, [], 816), (816, 1, .null, 11, 0, [], 818),
  (818, 32, .null, 1, 835, [], 821), (821, 2, .null, 0, 0, [], 822), (822, 53, .null, 92, 1, [], 825), (825, 3, .null, 9, 0, [], 827), (827, 29, .null, 0, 0, [], 828), (828, 33, .null, 1, 835, [], 831), (831, 0, .int 1, 0, 0, [], 832), (832, 9, .null, 0, 0, [], 836),
  (835, 0, .int 0, 0, 0, [], 836), (836, 49, .null, 2, 0, [], 836), (837, 1, .null, 4, 0, [], 839), (839, 0, .int 16, 0, 0, [], 841)]
set_option maxRecDepth 100000 in
theorem ckL_act9 : axCk 6 false 2 method_10_code cdL_act9 = true := by decide +kernel
def cdL_act10 : List axE := [
  (841, 32, .null, 1, 1070, [], 844), (844, 0, .int 1, 0, 0, [], 845), (845, 1, .null, 2, 0, [], 846), (846, 0, .int 5, 0, 0, [], 847), (847, 18, .null, 0, 0, [], 848), (848, 0, .int 30, 0, 0, [], 850), (850, 53, .null, 77, 2, [], 853), (853, 11, .null, 0, 0, [], 854),
  (854, 4, .null, 9, 0, [], 856), (856, 2, .null, 0, 0, [], 857), (857, 1, .null, 5, 0, [], 859), (859, 0, .int 2, 0, 0, [], 860), (860, 52, .ref 4, 41, 2, [], 863), (863, 4, .null, 10, 0, [], 865), (865, 2, .null, 0, 0, [], 866), (866, 1, .null, 5, 0, [], 868),
  (868, 0, .int 3, 0, 0, [], 869), (869, 52, .ref 4, 41, 2, [], 872), (872, 4, .null, 11, 0, [], 874), (874, 2, .null, 0, 0, [], 875), (875, 1, .null, 5, 0, [], 877), (877, 0, .int 0, 0, 0, [], 878), (878, 52, .ref 4, 41, 2, [], 881), (881, 4, .null, 12, 0, [], 883),
  (883, 2, .null, 0, 0, [], 884), (884, 1, .null, 5, 0, [], 886), (886, 1, .null, 9, 0, [], 888), (888, 52, .ref 4, 100, 2, [], 891), (891, 4, .null, 13, 0, [], 893), (893, 1, .null, 10, 0, [], 895), (895, 1, .null, 9, 0, [], 897), (897, 32, .null, 5, 906, [], 900),
  (900, 1, .null, 3, 0, [], 901), (901, 0, .int 24, 0, 0, [], 903), (903, 32, .null, 1, 931, [], 906), (906, 1, .null, 13, 0, [], 908), (908, 1, .null, 10, 0, [], 910), (910, 1, .null, 9, 0, [], 912), (912, 32, .null, 4, 920, [], 915), (915, 0, .int (-5), 0, 0, [], 917),
  (917, 9, .null, 0, 0, [], 922), (920, 0, .int (-4), 0, 0, [], 922), (922, 32, .null, 1, 929, [], 925), (925, 0, .int 1, 0, 0, [], 926)]
set_option maxRecDepth 100000 in
theorem ckL_act10 : axCk 6 false 2 method_10_code cdL_act10 = true := by decide +kernel
def cdL_act11 : List axE := [
  (926, 9, .null, 0, 0, [], 930), (929, 0, .int 0, 0, 0, [], 930), (930, 49, .null, 2, 0, [], 930), (931, 2, .null, 0, 0, [], 932), (932, 0, .int 2, 0, 0, [], 933), (933, 52, .ref 4, 56, 1, [], 936), (936, 1, .null, 7, 0, [], 938), (938, 32, .null, 1, 1068, [], 941),
  (941, 2, .null, 0, 0, [], 942), (942, 0, .int 1, 0, 0, [], 943), (943, 52, .ref 4, 56, 1, [], 946), (946, 1, .null, 8, 0, [], 948), (948, 32, .null, 1, 1068, [], 951), (951, 2, .null, 0, 0, [], 952), (952, 1, .null, 12, 0, [], 954), (954, 0, .int 1, 0, 0, [], 955),
  (955, 11, .null, 0, 0, [], 956), (956, 52, .ref 4, 40, 1, [], 959), (959, 1, .null, 13, 0, [], 961), (961, 32, .null, 1, 1068, [], 964), (964, 2, .null, 0, 0, [], 965), (965, 1, .null, 5, 0, [], 967), (967, 0, .int 2, 0, 0, [], 968), (968, 52, .ref 4, 41, 2, [], 971),
  (971, 1, .null, 9, 0, [], 973), (973, 32, .null, 1, 1068, [], 976), (976, 2, .null, 0, 0, [], 977), (977, 1, .null, 5, 0, [], 979), (979, 0, .int 1, 0, 0, [], 980), (980, 52, .ref 4, 41, 2, [], 983), (983, 1, .null, 9, 0, [], 985), (985, 32, .null, 1, 1068, [], 988),
  (988, 2, .null, 0, 0, [], 989), (989, 1, .null, 13, 0, [], 991), (991, 0, .int 2, 0, 0, [], 992), (992, 52, .ref 4, 41, 2, [], 995), (995, 1, .null, 10, 0, [], 997), (997, 1, .null, 9, 0, [], 999), (999, 12, .null, 0, 0, [], 1000), (1000, 32, .null, 1, 1068, [], 1003),
  (1003, 2, .null, 0, 0, [], 1004), (1004, 1, .null, 13, 0, [], 1006), (1006, 0, .int 3, 0, 0, [], 1007), (1007, 52, .ref 4, 41, 2, [], 1010)]
set_option maxRecDepth 100000 in
theorem ckL_act11 : axCk 6 false 2 method_10_code cdL_act11 = true := by decide +kernel
def cdL_act12 : List axE := [
  (1010, 1, .null, 11, 0, [], 1012), (1012, 32, .null, 1, 1068, [], 1015), (1015, 2, .null, 0, 0, [], 1016), (1016, 1, .null, 5, 0, [], 1018), (1018, 0, .int 3, 0, 0, [], 1019), (1019, 52, .ref 4, 41, 2, [], 1022), (1022, 33, .null, 1, 1068, [], 1025), (1025, 2, .null, 0, 0, [], 1026),
  (1026, 1, .null, 13, 0, [], 1028), (1028, 0, .int 4, 0, 0, [], 1029), (1029, 52, .ref 4, 41, 2, [], 1032), (1032, 0, .int 1, 0, 0, [], 1033), (1033, 1, .null, 5, 0, [], 1035), (1035, 17, .null, 0, 0, [], 1036), (1036, 32, .null, 1, 1068, [], 1039), (1039, 2, .null, 0, 0, [], 1040),
  (1040, 1, .null, 5, 0, [], 1042), (1042, 0, .int 5, 0, 0, [], 1043), (1043, 52, .ref 4, 41, 2, [], 1046), (1046, 2, .null, 0, 0, [], 1047), (1047, 1, .null, 13, 0, [], 1049), (1049, 0, .int 5, 0, 0, [], 1050), (1050, 52, .ref 4, 41, 2, [], 1053), (1053, 0, .int 1, 0, 0, [], 1054),
  (1054, 1, .null, 13, 0, [], 1056), (1056, 17, .null, 0, 0, [], 1057), (1057, 15, .null, 0, 0, [], 1058), (1058, 0, .int (-1), 0, 0, [], 1059), (1059, 16, .null, 0, 0, [], 1060), (1060, 14, .null, 0, 0, [], 1061), (1061, 33, .null, 1, 1068, [], 1064), (1064, 0, .int 1, 0, 0, [], 1065),
  (1065, 9, .null, 0, 0, [], 1069), (1068, 0, .int 0, 0, 0, [], 1069), (1069, 49, .null, 2, 0, [], 1069), (1070, 1, .null, 4, 0, [], 1072), (1072, 0, .int 17, 0, 0, [], 1074), (1074, 32, .null, 1, 1087, [], 1077), (1077, 2, .null, 0, 0, [], 1078), (1078, 1, .null, 2, 0, [], 1079),
  (1079, 0, .int 4, 0, 0, [], 1080), (1080, 53, .null, 77, 2, [], 1083), (1083, 53, .null, 104, 2, [], 1086), (1086, 49, .null, 2, 0, [], 1086)]
set_option maxRecDepth 100000 in
theorem ckL_act12 : axCk 6 false 2 method_10_code cdL_act12 = true := by decide +kernel
def cdL_act13 : List axE := [
  (1087, 1, .null, 4, 0, [], 1089), (1089, 0, .int 18, 0, 0, [], 1091), (1091, 32, .null, 1, 1171, [], 1094), (1094, 0, .int 1, 0, 0, [], 1095), (1095, 1, .null, 2, 0, [], 1096), (1096, 0, .int 3, 0, 0, [], 1097), (1097, 18, .null, 0, 0, [], 1098), (1098, 1, .null, 2, 0, [], 1099),
  (1099, 0, .int 12, 0, 0, [], 1101), (1101, 18, .null, 0, 0, [], 1102), (1102, 0, .int 3, 0, 0, [], 1103), (1103, 53, .null, 77, 2, [], 1106), (1106, 33, .null, 1, 1115, [], 1109), (1109, 0, .int 999, 0, 0, [], 1112), (1112, 9, .null, 0, 0, [], 1117), (1115, 0, .int 120, 0, 0, [], 1117),
  (1117, 53, .null, 77, 2, [], 1120), (1120, 11, .null, 0, 0, [], 1121), (1121, 4, .null, 9, 0, [], 1123), (1123, 1, .null, 2, 0, [], 1124), (1124, 0, .int 6, 0, 0, [], 1126), (1126, 53, .null, 77, 2, [], 1129), (1129, 4, .null, 10, 0, [], 1131), (1131, 2, .null, 0, 0, [], 1132),
  (1132, 1, .null, 10, 0, [], 1134), (1134, 1, .null, 9, 0, [], 1136), (1136, 52, .ref 4, 107, 2, [], 1139), (1139, 0, .int 1, 0, 0, [], 1140), (1140, 32, .null, 2, 1169, [], 1143), (1143, 1, .null, 10, 0, [], 1145), (1145, 2, .null, 0, 0, [], 1146), (1146, 0, .int 1, 0, 0, [], 1147),
  (1147, 52, .ref 4, 56, 1, [], 1150), (1150, 32, .null, 3, 1165, [], 1153), (1153, 2, .null, 0, 0, [], 1154), (1154, 1, .null, 10, 0, [], 1156), (1156, 0, .int 1, 0, 0, [], 1157), (1157, 52, .ref 4, 65, 2, [], 1160), (1160, 1, .null, 9, 0, [], 1162), (1162, 32, .null, 1, 1169, [], 1165),
  (1165, 0, .int 1, 0, 0, [], 1166), (1166, 9, .null, 0, 0, [], 1170), (1169, 0, .int 0, 0, 0, [], 1170), (1170, 49, .null, 2, 0, [], 1170)]
set_option maxRecDepth 100000 in
theorem ckL_act13 : axCk 6 false 2 method_10_code cdL_act13 = true := by decide +kernel
def cdL_act14 : List axE := [
  (1171, 1, .null, 2, 0, [], 1172), (1172, 0, .int 3, 0, 0, [], 1173), (1173, 53, .null, 77, 2, [], 1176), (1176, 4, .null, 9, 0, [], 1178), (1178, 1, .null, 9, 0, [], 1180), (1180, 33, .null, 1, 1196, [], 1183), (1183, 0, .int 4, 0, 0, [], 1184), (1184, 1, .null, 2, 0, [], 1185),
  (1185, 0, .int 3, 0, 0, [], 1186), (1186, 18, .null, 0, 0, [], 1187), (1187, 0, .int 57, 0, 0, [], 1189), (1189, 53, .null, 77, 2, [], 1192), (1192, 11, .null, 0, 0, [], 1193), (1193, 9, .null, 0, 0, [], 1221), (1196, 1, .null, 9, 0, [], 1198), (1198, 0, .int 1, 0, 0, [], 1199),
  (1199, 32, .null, 1, 1213, [], 1202), (1202, 1, .null, 2, 0, [], 1203), (1203, 0, .int 3, 0, 0, [], 1204), (1204, 18, .null, 0, 0, [], 1205), (1205, 0, .int 21, 0, 0, [], 1207), (1207, 53, .null, 77, 2, [], 1210), (1210, 9, .null, 0, 0, [], 1221), (1213, 1, .null, 2, 0, [], 1214),
  (1214, 0, .int 3, 0, 0, [], 1215), (1215, 18, .null, 0, 0, [], 1216), (1216, 0, .int 91, 0, 0, [], 1218), (1218, 53, .null, 77, 2, [], 1221), (1221, 4, .null, 10, 0, [], 1223), (1223, 2, .null, 0, 0, [], 1224), (1224, 0, .int 7, 0, 0, [], 1226), (1226, 1, .null, 9, 0, [], 1228),
  (1228, 11, .null, 0, 0, [], 1229), (1229, 52, .ref 4, 56, 1, [], 1232), (1232, 4, .null, 11, 0, [], 1234), (1234, 1, .null, 2, 0, [], 1235), (1235, 0, .int 2, 0, 0, [], 1236), (1236, 18, .null, 0, 0, [], 1237), (1237, 0, .int 2, 0, 0, [], 1238), (1238, 53, .null, 77, 2, [], 1241),
  (1241, 33, .null, 1, 1251, [], 1244), (1244, 2, .null, 0, 0, [], 1245), (1245, 53, .null, 66, 1, [], 1248), (1248, 9, .null, 0, 0, [], 1283)]
set_option maxRecDepth 100000 in
theorem ckL_act14 : axCk 6 false 2 method_10_code cdL_act14 = true := by decide +kernel
def cdL_act15 : List axE := [
  (1251, 2, .null, 0, 0, [], 1252), (1252, 1, .null, 9, 0, [], 1254), (1254, 1, .null, 10, 0, [], 1256), (1256, 52, .ref 4, 109, 2, [], 1259), (1259, 1, .null, 11, 0, [], 1261), (1261, 32, .null, 1, 1282, [], 1264), (1264, 2, .null, 0, 0, [], 1265), (1265, 0, .int 7, 0, 0, [], 1267),
  (1267, 1, .null, 9, 0, [], 1269), (1269, 11, .null, 0, 0, [], 1270), (1270, 52, .ref 4, 56, 1, [], 1273), (1273, 1, .null, 10, 0, [], 1275), (1275, 32, .null, 1, 1282, [], 1278), (1278, 0, .int 1, 0, 0, [], 1279), (1279, 9, .null, 0, 0, [], 1283), (1282, 0, .int 0, 0, 0, [], 1283),
  (1283, 49, .null, 2, 0, [], 1283)]
set_option maxRecDepth 100000 in
theorem ckL_act15 : axCk 6 false 2 method_10_code cdL_act15 = true := by decide +kernel
def cdL_act : List axE := cdL_act0 ++ (cdL_act1 ++ (cdL_act2 ++ (cdL_act3 ++ (cdL_act4 ++ (cdL_act5 ++ (cdL_act6 ++ (cdL_act7 ++ (cdL_act8 ++ (cdL_act9 ++ (cdL_act10 ++ (cdL_act11 ++ (cdL_act12 ++ (cdL_act13 ++ (cdL_act14 ++ (cdL_act15)))))))))))))))
def mtL_act : axM := (⟨"BeatSlugsLaw", "act", "(LBeatSlugs;II)Z"⟩, method_10_code, 16, (some .boolean), 6, false, cdL_act)
abbrev kL_act : Nat := 76
theorem ckL_act : axCk 6 false 2 method_10_code cdL_act = true := axCk_app ckL_act0 (axCk_app ckL_act1 (axCk_app ckL_act2 (axCk_app ckL_act3 (axCk_app ckL_act4 (axCk_app ckL_act5 (axCk_app ckL_act6 (axCk_app ckL_act7 (axCk_app ckL_act8 (axCk_app ckL_act9 (axCk_app ckL_act10 (axCk_app ckL_act11 (axCk_app ckL_act12 (axCk_app ckL_act13 (axCk_app ckL_act14 (ckL_act15)))))))))))))))
end
section
/-! The code of the methods as rows of the abstract machine. Written by wip/p32/gen2.py. -/
def cdL_low : List axE := [
  (0, 1, .null, 0, 0, [], 1), (1, 0, .int 2147483647, 0, 0, [], 3), (3, 14, .null, 0, 0, [], 4), (4, 1, .null, 1, 0, [], 5), (5, 48, .null, 0, 0, [], 6), (6, 49, .null, 0, 0, [], 6)]
def mtL_low : axM := (⟨"BeatSlugsLaw", "low", "(II)I"⟩, method_3_code, 2, (some .int), 6, false, cdL_low)
abbrev kL_low : Nat := 77
set_option maxRecDepth 100000 in
theorem ckL_low : axCk 6 false 0 method_3_code cdL_low = true := by decide +kernel
def cdX4_slug : List axE := [
  (0, 2, .null, 0, 0, [], 1), (1, 36, .null, 4, 1, [], 4), (4, 2, .null, 0, 0, [], 5), (5, 36, .null, 4, 0, [], 8), (8, 52, .ref 1, 68, 1, [], 11), (11, 2, .null, 0, 0, [], 12), (12, 36, .null, 4, 1, [], 15), (15, 2, .null, 0, 0, [], 16),
  (16, 36, .null, 4, 0, [], 19), (19, 1, .null, 1, 0, [], 20), (20, 1, .null, 2, 0, [], 21), (21, 1, .null, 3, 0, [], 22), (22, 52, .ref 0, 79, 3, [], 25), (25, 52, .ref 1, 73, 1, [], 28), (28, 49, .null, 0, 0, [], 28)]
def mtX4_slug : axM := (⟨"BeatSlugs", "slug", "(III)I"⟩, prog_1_method_4_code, 4, (some .int), 4, false, cdX4_slug)
abbrev kX4_slug : Nat := 78
set_option maxRecDepth 100000 in
theorem ckX4_slug : axCk 4 false 0 prog_1_method_4_code cdX4_slug = true := by decide +kernel
def cdX0_addSlug : List axE := [
  (0, 1, .null, 1, 0, [], 1), (1, 33, .null, 2, 12, [], 4), (4, 1, .null, 1, 0, [], 5), (5, 2, .null, 0, 0, [], 6), (6, 36, .null, 0, 8, [], 9), (9, 32, .null, 5, 14, [], 12), (12, 0, .int (-1), 0, 0, [], 13), (13, 49, .null, 0, 0, [], 13),
  (14, 1, .null, 2, 0, [], 15), (15, 0, .int 1, 0, 0, [], 16), (16, 32, .null, 2, 34, [], 19), (19, 1, .null, 2, 0, [], 20), (20, 0, .int 99, 0, 0, [], 22), (22, 32, .null, 4, 34, [], 25), (25, 1, .null, 3, 0, [], 26), (26, 33, .null, 2, 34, [], 29),
  (29, 1, .null, 3, 0, [], 30), (30, 0, .int 1, 0, 0, [], 31), (31, 32, .null, 5, 37, [], 34), (34, 0, .int (-2), 0, 0, [], 36), (36, 49, .null, 0, 0, [], 36), (37, 2, .null, 0, 0, [], 38), (38, 36, .null, 0, 8, [], 41), (41, 0, .int 24, 0, 0, [], 43),
  (43, 32, .null, 2, 49, [], 46), (46, 0, .int (-4), 0, 0, [], 48), (48, 49, .null, 0, 0, [], 48), (49, 2, .null, 0, 0, [], 50), (50, 1, .null, 1, 0, [], 51), (51, 1, .null, 2, 0, [], 52), (52, 52, .ref 0, 80, 2, [], 55), (55, 4, .null, 4, 0, [], 57),
  (57, 1, .null, 3, 0, [], 58), (58, 0, .int 1, 0, 0, [], 59), (59, 32, .null, 1, 76, [], 62), (62, 2, .null, 0, 0, [], 63), (63, 7, .null, 0, 0, [], 64), (64, 36, .null, 0, 7, [], 67), (67, 1, .null, 4, 0, [], 69), (69, 53, .null, 48, 1, [], 72),
  (72, 15, .null, 0, 0, [], 73), (73, 37, .null, 0, 7, [], 76), (76, 1, .null, 4, 0, [], 78), (78, 49, .null, 0, 0, [], 78)]
def mtX0_addSlug : axM := (⟨"BeatSlugs$Board", "addSlug", "(III)I"⟩, prog_2_method_5_code, 5, (some .int), 0, false, cdX0_addSlug)
abbrev kX0_addSlug : Nat := 79
set_option maxRecDepth 100000 in
theorem ckX0_addSlug : axCk 0 false 0 prog_2_method_5_code cdX0_addSlug = true := by decide +kernel
def cdX0_makeSlug : List axE := [
  (0, 2, .null, 0, 0, [], 1), (1, 52, .ref 0, 81, 0, [], 4), (4, 4, .null, 3, 0, [], 5), (5, 2, .null, 0, 0, [], 6), (6, 7, .null, 0, 0, [], 7), (7, 36, .null, 0, 6, [], 10), (10, 1, .null, 3, 0, [], 11), (11, 53, .null, 48, 1, [], 14),
  (14, 15, .null, 0, 0, [], 15), (15, 37, .null, 0, 6, [], 18), (18, 2, .null, 0, 0, [], 19), (19, 36, .null, 0, 3, [], 22), (22, 1, .null, 3, 0, [], 23), (23, 1, .null, 2, 0, [], 24), (24, 53, .null, 14, 3, [], 27), (27, 2, .null, 0, 0, [], 28),
  (28, 36, .null, 0, 4, [], 31), (31, 1, .null, 3, 0, [], 32), (32, 1, .null, 2, 0, [], 33), (33, 53, .null, 14, 3, [], 36), (36, 2, .null, 0, 0, [], 37), (37, 36, .null, 0, 5, [], 40), (40, 1, .null, 3, 0, [], 41), (41, 0, .int 0, 0, 0, [], 42),
  (42, 53, .null, 14, 3, [], 45), (45, 2, .null, 0, 0, [], 46), (46, 1, .null, 1, 0, [], 47), (47, 1, .null, 3, 0, [], 48), (48, 52, .ref 0, 82, 2, [], 51), (51, 1, .null, 3, 0, [], 52), (52, 49, .null, 0, 0, [], 52)]
def mtX0_makeSlug : axM := (⟨"BeatSlugs$Board", "makeSlug", "(II)I"⟩, prog_2_method_15_code, 4, (some .int), 0, false, cdX0_makeSlug)
abbrev kX0_makeSlug : Nat := 80
set_option maxRecDepth 100000 in
theorem ckX0_makeSlug : axCk 0 false 0 prog_2_method_15_code cdX0_makeSlug = true := by decide +kernel
def cdX0_lowestFree : List axE := [
  (0, 0, .int 0, 0, 0, [], 1), (1, 4, .null, 1, 0, [], 2), (2, 1, .null, 1, 0, [], 3), (3, 0, .int 24, 0, 0, [], 5), (5, 32, .null, 3, 27, [], 8), (8, 2, .null, 0, 0, [], 9), (9, 36, .null, 0, 6, [], 12), (12, 1, .null, 1, 0, [], 13),
  (13, 53, .null, 10, 2, [], 16), (16, 33, .null, 1, 21, [], 19), (19, 1, .null, 1, 0, [], 20), (20, 49, .null, 0, 0, [], 20), (21, 6, .int 1, 1, 0, [], 24), (24, 9, .null, 0, 0, [], 2), (27, 0, .int (-1), 0, 0, [], 28), (28, 49, .null, 0, 0, [], 28)]
def mtX0_lowestFree : axM := (⟨"BeatSlugs$Board", "lowestFree", "()I"⟩, prog_2_method_16_code, 2, (some .int), 0, false, cdX0_lowestFree)
abbrev kX0_lowestFree : Nat := 81
set_option maxRecDepth 100000 in
theorem ckX0_lowestFree : axCk 0 false 0 prog_2_method_16_code cdX0_lowestFree = true := by decide +kernel
def cdX0_putIn : List axE := [
  (0, 2, .null, 0, 0, [], 1), (1, 36, .null, 0, 8, [], 4), (4, 4, .null, 3, 0, [], 5), (5, 1, .null, 3, 0, [], 6), (6, 1, .null, 1, 0, [], 7), (7, 32, .null, 5, 34, [], 10), (10, 2, .null, 0, 0, [], 11), (11, 36, .null, 0, 2, [], 14),
  (14, 1, .null, 3, 0, [], 15), (15, 2, .null, 0, 0, [], 16), (16, 36, .null, 0, 2, [], 19), (19, 1, .null, 3, 0, [], 20), (20, 0, .int 1, 0, 0, [], 21), (21, 12, .null, 0, 0, [], 22), (22, 53, .null, 9, 2, [], 25), (25, 53, .null, 14, 3, [], 28),
  (28, 6, .int (-1), 3, 0, [], 31), (31, 9, .null, 0, 0, [], 5), (34, 2, .null, 0, 0, [], 35), (35, 36, .null, 0, 2, [], 38), (38, 1, .null, 1, 0, [], 39), (39, 1, .null, 2, 0, [], 40), (40, 53, .null, 14, 3, [], 43), (43, 2, .null, 0, 0, [], 44),
  (44, 7, .null, 0, 0, [], 45), (45, 36, .null, 0, 8, [], 48), (48, 0, .int 1, 0, 0, [], 49), (49, 11, .null, 0, 0, [], 50), (50, 37, .null, 0, 8, [], 53), (53, 50, .null, 0, 0, [], 53)]
def mtX0_putIn : axM := (⟨"BeatSlugs$Board", "putIn", "(II)V"⟩, prog_2_method_17_code, 4, none, 0, false, cdX0_putIn)
abbrev kX0_putIn : Nat := 82
set_option maxRecDepth 100000 in
theorem ckX0_putIn : axCk 0 false 0 prog_2_method_17_code cdX0_putIn = true := by decide +kernel
def cdX4_drop : List axE := [
  (0, 2, .null, 0, 0, [], 1), (1, 36, .null, 4, 1, [], 4), (4, 2, .null, 0, 0, [], 5), (5, 36, .null, 4, 0, [], 8), (8, 52, .ref 1, 68, 1, [], 11), (11, 2, .null, 0, 0, [], 12), (12, 36, .null, 4, 1, [], 15), (15, 2, .null, 0, 0, [], 16),
  (16, 36, .null, 4, 0, [], 19), (19, 1, .null, 1, 0, [], 20), (20, 52, .ref 0, 84, 1, [], 23), (23, 52, .ref 1, 73, 1, [], 26), (26, 49, .null, 0, 0, [], 26)]
def mtX4_drop : axM := (⟨"BeatSlugs", "drop", "(I)I"⟩, prog_1_method_5_code, 2, (some .int), 4, false, cdX4_drop)
abbrev kX4_drop : Nat := 83
set_option maxRecDepth 100000 in
theorem ckX4_drop : axCk 4 false 0 prog_1_method_5_code cdX4_drop = true := by decide +kernel
def cdX0_dropSlug : List axE := [
  (0, 2, .null, 0, 0, [], 1), (1, 1, .null, 1, 0, [], 2), (2, 52, .ref 0, 42, 1, [], 5), (5, 33, .null, 1, 10, [], 8), (8, 0, .int (-1), 0, 0, [], 9), (9, 49, .null, 0, 0, [], 9), (10, 2, .null, 0, 0, [], 11), (11, 2, .null, 0, 0, [], 12),
  (12, 1, .null, 1, 0, [], 13), (13, 52, .ref 0, 43, 1, [], 16), (16, 52, .ref 0, 85, 1, [], 19), (19, 2, .null, 0, 0, [], 20), (20, 7, .null, 0, 0, [], 21), (21, 36, .null, 0, 6, [], 24), (24, 1, .null, 1, 0, [], 25), (25, 53, .null, 48, 1, [], 28),
  (28, 0, .int (-1), 0, 0, [], 29), (29, 16, .null, 0, 0, [], 30), (30, 14, .null, 0, 0, [], 31), (31, 37, .null, 0, 6, [], 34), (34, 2, .null, 0, 0, [], 35), (35, 7, .null, 0, 0, [], 36), (36, 36, .null, 0, 7, [], 39), (39, 1, .null, 1, 0, [], 40),
  (40, 53, .null, 48, 1, [], 43), (43, 0, .int (-1), 0, 0, [], 44), (44, 16, .null, 0, 0, [], 45), (45, 14, .null, 0, 0, [], 46), (46, 37, .null, 0, 7, [], 49), (49, 0, .int 0, 0, 0, [], 50), (50, 4, .null, 2, 0, [], 51), (51, 1, .null, 2, 0, [], 52),
  (52, 2, .null, 0, 0, [], 53), (53, 36, .null, 0, 5, [], 56), (56, 39, .null, 0, 0, [], 57), (57, 32, .null, 3, 81, [], 60), (60, 2, .null, 0, 0, [], 61), (61, 36, .null, 0, 5, [], 64), (64, 1, .null, 2, 0, [], 65), (65, 10, .null, 0, 0, [], 66),
  (66, 40, .null, 0, 0, [], 67), (67, 1, .null, 1, 0, [], 68), (68, 53, .null, 48, 1, [], 71), (71, 0, .int (-1), 0, 0, [], 72), (72, 16, .null, 0, 0, [], 73), (73, 14, .null, 0, 0, [], 74), (74, 42, .null, 0, 0, [], 75), (75, 6, .int 1, 2, 0, [], 78),
  (78, 9, .null, 0, 0, [], 51), (81, 2, .null, 0, 0, [], 82), (82, 36, .null, 0, 8, [], 85), (85, 49, .null, 0, 0, [], 85)]
def mtX0_dropSlug : axM := (⟨"BeatSlugs$Board", "dropSlug", "(I)I"⟩, prog_2_method_6_code, 3, (some .int), 0, false, cdX0_dropSlug)
abbrev kX0_dropSlug : Nat := 84
set_option maxRecDepth 100000 in
theorem ckX0_dropSlug : axCk 0 false 0 prog_2_method_6_code cdX0_dropSlug = true := by decide +kernel
def cdX0_takeOut : List axE := [
  (0, 1, .null, 1, 0, [], 1), (1, 0, .int 1, 0, 0, [], 2), (2, 11, .null, 0, 0, [], 3), (3, 4, .null, 2, 0, [], 4), (4, 1, .null, 2, 0, [], 5), (5, 2, .null, 0, 0, [], 6), (6, 36, .null, 0, 8, [], 9), (9, 32, .null, 3, 36, [], 12),
  (12, 2, .null, 0, 0, [], 13), (13, 36, .null, 0, 2, [], 16), (16, 1, .null, 2, 0, [], 17), (17, 0, .int 1, 0, 0, [], 18), (18, 12, .null, 0, 0, [], 19), (19, 2, .null, 0, 0, [], 20), (20, 36, .null, 0, 2, [], 23), (23, 1, .null, 2, 0, [], 24),
  (24, 53, .null, 9, 2, [], 27), (27, 53, .null, 14, 3, [], 30), (30, 6, .int 1, 2, 0, [], 33), (33, 9, .null, 0, 0, [], 4), (36, 2, .null, 0, 0, [], 37), (37, 7, .null, 0, 0, [], 38), (38, 36, .null, 0, 8, [], 41), (41, 0, .int 1, 0, 0, [], 42),
  (42, 12, .null, 0, 0, [], 43), (43, 37, .null, 0, 8, [], 46), (46, 50, .null, 0, 0, [], 46)]
def mtX0_takeOut : axM := (⟨"BeatSlugs$Board", "takeOut", "(I)V"⟩, prog_2_method_18_code, 3, none, 0, false, cdX0_takeOut)
abbrev kX0_takeOut : Nat := 85
set_option maxRecDepth 100000 in
theorem ckX0_takeOut : axCk 0 false 0 prog_2_method_18_code cdX0_takeOut = true := by decide +kernel
def cdX4_ifTurned : List axE := [
  (0, 2, .null, 0, 0, [], 1), (1, 36, .null, 4, 0, [], 4), (4, 1, .null, 1, 0, [], 5), (5, 52, .ref 0, 42, 1, [], 8), (8, 33, .null, 0, 22, [], 11), (11, 2, .null, 0, 0, [], 12), (12, 36, .null, 4, 0, [], 15), (15, 1, .null, 1, 0, [], 16),
  (16, 52, .ref 0, 87, 1, [], 19), (19, 9, .null, 0, 0, [], 23), (22, 0, .int (-1), 0, 0, [], 23), (23, 49, .null, 0, 0, [], 23)]
def mtX4_ifTurned : axM := (⟨"BeatSlugs", "ifTurned", "(I)I"⟩, prog_1_method_22_code, 2, (some .int), 4, false, cdX4_ifTurned)
abbrev kX4_ifTurned : Nat := 86
set_option maxRecDepth 100000 in
theorem ckX4_ifTurned : axCk 4 false 0 prog_1_method_22_code cdX4_ifTurned = true := by decide +kernel
def cdX0_offIfTurned : List axE := [
  (0, 2, .null, 0, 0, [], 1), (1, 2, .null, 0, 0, [], 2), (2, 36, .null, 0, 2, [], 5), (5, 2, .null, 0, 0, [], 6), (6, 36, .null, 0, 7, [], 9), (9, 1, .null, 1, 0, [], 10), (10, 53, .null, 48, 1, [], 13), (13, 16, .null, 0, 0, [], 14),
  (14, 52, .ref 0, 8, 2, [], 17), (17, 49, .null, 0, 0, [], 17)]
def mtX0_offIfTurned : axM := (⟨"BeatSlugs$Board", "offIfTurned", "(I)I"⟩, prog_2_method_55_code, 2, (some .int), 0, false, cdX0_offIfTurned)
abbrev kX0_offIfTurned : Nat := 87
set_option maxRecDepth 100000 in
theorem ckX0_offIfTurned : axCk 0 false 0 prog_2_method_55_code cdX0_offIfTurned = true := by decide +kernel
def cdX4_turn : List axE := [
  (0, 2, .null, 0, 0, [], 1), (1, 36, .null, 4, 1, [], 4), (4, 2, .null, 0, 0, [], 5), (5, 36, .null, 4, 0, [], 8), (8, 52, .ref 1, 68, 1, [], 11), (11, 2, .null, 0, 0, [], 12), (12, 36, .null, 4, 1, [], 15), (15, 2, .null, 0, 0, [], 16),
  (16, 36, .null, 4, 0, [], 19), (19, 1, .null, 1, 0, [], 20), (20, 52, .ref 0, 89, 1, [], 23), (23, 52, .ref 1, 73, 1, [], 26), (26, 49, .null, 0, 0, [], 26)]
def mtX4_turn : axM := (⟨"BeatSlugs", "turn", "(I)I"⟩, prog_1_method_6_code, 2, (some .int), 4, false, cdX4_turn)
abbrev kX4_turn : Nat := 88
set_option maxRecDepth 100000 in
theorem ckX4_turn : axCk 4 false 0 prog_1_method_6_code cdX4_turn = true := by decide +kernel
def cdX0_flipTurn : List axE := [
  (0, 2, .null, 0, 0, [], 1), (1, 1, .null, 1, 0, [], 2), (2, 52, .ref 0, 42, 1, [], 5), (5, 33, .null, 1, 10, [], 8), (8, 0, .int (-1), 0, 0, [], 9), (9, 49, .null, 0, 0, [], 9), (10, 2, .null, 0, 0, [], 11), (11, 7, .null, 0, 0, [], 12),
  (12, 36, .null, 0, 7, [], 15), (15, 1, .null, 1, 0, [], 16), (16, 53, .null, 48, 1, [], 19), (19, 16, .null, 0, 0, [], 20), (20, 37, .null, 0, 7, [], 23), (23, 2, .null, 0, 0, [], 24), (24, 1, .null, 1, 0, [], 25), (25, 52, .ref 0, 46, 1, [], 28),
  (28, 33, .null, 0, 35, [], 31), (31, 0, .int 1, 0, 0, [], 32), (32, 9, .null, 0, 0, [], 36), (35, 0, .int 0, 0, 0, [], 36), (36, 49, .null, 0, 0, [], 36)]
def mtX0_flipTurn : axM := (⟨"BeatSlugs$Board", "flipTurn", "(I)I"⟩, prog_2_method_7_code, 2, (some .int), 0, false, cdX0_flipTurn)
abbrev kX0_flipTurn : Nat := 89
set_option maxRecDepth 100000 in
theorem ckX0_flipTurn : axCk 0 false 0 prog_2_method_7_code cdX0_flipTurn = true := by decide +kernel
def cdX4_need : List axE := [
  (0, 2, .null, 0, 0, [], 1), (1, 36, .null, 4, 1, [], 4), (4, 2, .null, 0, 0, [], 5), (5, 36, .null, 4, 0, [], 8), (8, 52, .ref 1, 68, 1, [], 11), (11, 2, .null, 0, 0, [], 12), (12, 36, .null, 4, 1, [], 15), (15, 2, .null, 0, 0, [], 16),
  (16, 36, .null, 4, 0, [], 19), (19, 1, .null, 1, 0, [], 20), (20, 1, .null, 2, 0, [], 21), (21, 52, .ref 0, 91, 2, [], 24), (24, 52, .ref 1, 73, 1, [], 27), (27, 49, .null, 0, 0, [], 27)]
def mtX4_need : axM := (⟨"BeatSlugs", "need", "(II)I"⟩, prog_1_method_7_code, 3, (some .int), 4, false, cdX4_need)
abbrev kX4_need : Nat := 90
set_option maxRecDepth 100000 in
theorem ckX4_need : axCk 4 false 0 prog_1_method_7_code cdX4_need = true := by decide +kernel
def cdX0_flipNeed : List axE := [
  (0, 2, .null, 0, 0, [], 1), (1, 1, .null, 1, 0, [], 2), (2, 52, .ref 0, 42, 1, [], 5), (5, 33, .null, 0, 16, [], 8), (8, 2, .null, 0, 0, [], 9), (9, 1, .null, 2, 0, [], 10), (10, 52, .ref 0, 42, 1, [], 13), (13, 33, .null, 1, 18, [], 16),
  (16, 0, .int (-1), 0, 0, [], 17), (17, 49, .null, 0, 0, [], 17), (18, 1, .null, 1, 0, [], 19), (19, 1, .null, 2, 0, [], 20), (20, 32, .null, 1, 26, [], 23), (23, 0, .int (-2), 0, 0, [], 25), (25, 49, .null, 0, 0, [], 25), (26, 2, .null, 0, 0, [], 27),
  (27, 1, .null, 1, 0, [], 28), (28, 52, .ref 0, 18, 1, [], 31), (31, 1, .null, 2, 0, [], 32), (32, 53, .null, 10, 2, [], 35), (35, 33, .null, 1, 54, [], 38), (38, 2, .null, 0, 0, [], 39), (39, 1, .null, 2, 0, [], 40), (40, 52, .ref 0, 43, 1, [], 43),
  (43, 2, .null, 0, 0, [], 44), (44, 1, .null, 1, 0, [], 45), (45, 52, .ref 0, 43, 1, [], 48), (48, 32, .null, 5, 54, [], 51), (51, 0, .int (-5), 0, 0, [], 53), (53, 49, .null, 0, 0, [], 53), (54, 2, .null, 0, 0, [], 55), (55, 36, .null, 0, 5, [], 58),
  (58, 1, .null, 1, 0, [], 59), (59, 2, .null, 0, 0, [], 60), (60, 1, .null, 1, 0, [], 61), (61, 52, .ref 0, 18, 1, [], 64), (64, 1, .null, 2, 0, [], 65), (65, 53, .null, 48, 1, [], 68), (68, 16, .null, 0, 0, [], 69), (69, 53, .null, 14, 3, [], 72),
  (72, 2, .null, 0, 0, [], 73), (73, 1, .null, 1, 0, [], 74), (74, 52, .ref 0, 18, 1, [], 77), (77, 53, .null, 30, 1, [], 80), (80, 49, .null, 0, 0, [], 80)]
def mtX0_flipNeed : axM := (⟨"BeatSlugs$Board", "flipNeed", "(II)I"⟩, prog_2_method_8_code, 3, (some .int), 0, false, cdX0_flipNeed)
abbrev kX0_flipNeed : Nat := 91
set_option maxRecDepth 100000 in
theorem ckX0_flipNeed : axCk 0 false 0 prog_2_method_8_code cdX0_flipNeed = true := by decide +kernel
def cdL_tale : List axE := [
  (0, 0, .long 19, 0, 0, [], 3), (3, 30, .null, 1, 0, [], 4), (4, 0, .int 0, 0, 0, [], 5), (5, 4, .null, 3, 0, [], 6), (6, 1, .null, 3, 0, [], 7), (7, 0, .int 10, 0, 0, [], 9), (9, 32, .null, 3, 31, [], 12), (12, 0, .long 31, 0, 0, [], 15),
  (15, 3, .null, 1, 0, [], 16), (16, 31, .null, 1, 0, [], 17), (17, 2, .null, 0, 0, [], 18), (18, 1, .null, 3, 0, [], 19), (19, 52, .ref 4, 56, 1, [], 22), (22, 22, .null, 0, 0, [], 23), (23, 31, .null, 0, 0, [], 24), (24, 30, .null, 1, 0, [], 25),
  (25, 6, .int 1, 3, 0, [], 28), (28, 9, .null, 0, 0, [], 6), (31, 0, .int 0, 0, 0, [], 32), (32, 4, .null, 3, 0, [], 33), (33, 1, .null, 3, 0, [], 34), (34, 0, .int 240, 0, 0, [], 37), (37, 32, .null, 3, 66, [], 40), (40, 0, .long 31, 0, 0, [], 43),
  (43, 3, .null, 1, 0, [], 44), (44, 31, .null, 1, 0, [], 45), (45, 2, .null, 0, 0, [], 46), (46, 1, .null, 3, 0, [], 47), (47, 0, .int 10, 0, 0, [], 49), (49, 47, .null, 0, 0, [], 50), (50, 1, .null, 3, 0, [], 51), (51, 0, .int 10, 0, 0, [], 53),
  (53, 48, .null, 0, 0, [], 54), (54, 52, .ref 4, 41, 2, [], 57), (57, 22, .null, 0, 0, [], 58), (58, 31, .null, 0, 0, [], 59), (59, 30, .null, 1, 0, [], 60), (60, 6, .int 1, 3, 0, [], 63), (63, 9, .null, 0, 0, [], 33), (66, 3, .null, 1, 0, [], 67),
  (67, 62, .null, 0, 0, [], 67)]
def mtL_tale : axM := (⟨"BeatSlugsLaw", "tale", "(LBeatSlugs;)J"⟩, method_6_code, 4, (some .long), 6, false, cdL_tale)
abbrev kL_tale : Nat := 92
set_option maxRecDepth 100000 in
theorem ckL_tale : axCk 6 false 0 method_6_code cdL_tale = true := by decide +kernel
def cdX4_trim : List axE := [
  (0, 2, .null, 0, 0, [], 1), (1, 36, .null, 4, 1, [], 4), (4, 2, .null, 0, 0, [], 5), (5, 36, .null, 4, 0, [], 8), (8, 52, .ref 1, 68, 1, [], 11), (11, 2, .null, 0, 0, [], 12), (12, 36, .null, 4, 1, [], 15), (15, 2, .null, 0, 0, [], 16),
  (16, 36, .null, 4, 0, [], 19), (19, 1, .null, 1, 0, [], 20), (20, 1, .null, 2, 0, [], 21), (21, 52, .ref 0, 94, 2, [], 24), (24, 52, .ref 1, 73, 1, [], 27), (27, 49, .null, 0, 0, [], 27)]
def mtX4_trim : axM := (⟨"BeatSlugs", "trim", "(II)I"⟩, prog_1_method_8_code, 3, (some .int), 4, false, cdX4_trim)
abbrev kX4_trim : Nat := 93
set_option maxRecDepth 100000 in
theorem ckX4_trim : axCk 4 false 0 prog_1_method_8_code cdX4_trim = true := by decide +kernel
def cdX0_trimSlug : List axE := [
  (0, 2, .null, 0, 0, [], 1), (1, 1, .null, 1, 0, [], 2), (2, 52, .ref 0, 42, 1, [], 5), (5, 33, .null, 1, 10, [], 8), (8, 0, .int (-1), 0, 0, [], 9), (9, 49, .null, 0, 0, [], 9), (10, 1, .null, 2, 0, [], 11), (11, 0, .int 1, 0, 0, [], 12),
  (12, 32, .null, 2, 21, [], 15), (15, 1, .null, 2, 0, [], 16), (16, 0, .int 98, 0, 0, [], 18), (18, 32, .null, 5, 24, [], 21), (21, 0, .int (-2), 0, 0, [], 23), (23, 49, .null, 0, 0, [], 23), (24, 1, .null, 2, 0, [], 25), (25, 2, .null, 0, 0, [], 26),
  (26, 1, .null, 1, 0, [], 27), (27, 52, .ref 0, 35, 1, [], 30), (30, 32, .null, 5, 36, [], 33), (33, 0, .int (-5), 0, 0, [], 35), (35, 49, .null, 0, 0, [], 35), (36, 2, .null, 0, 0, [], 37), (37, 36, .null, 0, 4, [], 40), (40, 1, .null, 1, 0, [], 41),
  (41, 2, .null, 0, 0, [], 42), (42, 1, .null, 1, 0, [], 43), (43, 52, .ref 0, 45, 1, [], 46), (46, 1, .null, 2, 0, [], 47), (47, 12, .null, 0, 0, [], 48), (48, 53, .null, 14, 3, [], 51), (51, 2, .null, 0, 0, [], 52), (52, 1, .null, 1, 0, [], 53),
  (53, 52, .ref 0, 45, 1, [], 56), (56, 49, .null, 0, 0, [], 56)]
def mtX0_trimSlug : axM := (⟨"BeatSlugs$Board", "trimSlug", "(II)I"⟩, prog_2_method_9_code, 3, (some .int), 0, false, cdX0_trimSlug)
abbrev kX0_trimSlug : Nat := 94
set_option maxRecDepth 100000 in
theorem ckX0_trimSlug : axCk 0 false 0 prog_2_method_9_code cdX0_trimSlug = true := by decide +kernel
def cdX4_restoreTail : List axE := [
  (0, 2, .null, 0, 0, [], 1), (1, 36, .null, 4, 1, [], 4), (4, 2, .null, 0, 0, [], 5), (5, 36, .null, 4, 0, [], 8), (8, 52, .ref 1, 68, 1, [], 11), (11, 2, .null, 0, 0, [], 12), (12, 36, .null, 4, 1, [], 15), (15, 2, .null, 0, 0, [], 16),
  (16, 36, .null, 4, 0, [], 19), (19, 1, .null, 1, 0, [], 20), (20, 52, .ref 0, 96, 1, [], 23), (23, 52, .ref 1, 73, 1, [], 26), (26, 49, .null, 0, 0, [], 26)]
def mtX4_restoreTail : axM := (⟨"BeatSlugs", "restoreTail", "(I)I"⟩, prog_1_method_9_code, 2, (some .int), 4, false, cdX4_restoreTail)
abbrev kX4_restoreTail : Nat := 95
set_option maxRecDepth 100000 in
theorem ckX4_restoreTail : axCk 4 false 0 prog_1_method_9_code cdX4_restoreTail = true := by decide +kernel
def cdX0_giveBack : List axE := [
  (0, 2, .null, 0, 0, [], 1), (1, 1, .null, 1, 0, [], 2), (2, 52, .ref 0, 42, 1, [], 5), (5, 33, .null, 1, 10, [], 8), (8, 0, .int (-1), 0, 0, [], 9), (9, 49, .null, 0, 0, [], 9), (10, 2, .null, 0, 0, [], 11), (11, 1, .null, 1, 0, [], 12),
  (12, 52, .ref 0, 44, 1, [], 15), (15, 2, .null, 0, 0, [], 16), (16, 1, .null, 1, 0, [], 17), (17, 52, .ref 0, 45, 1, [], 20), (20, 12, .null, 0, 0, [], 21), (21, 4, .null, 2, 0, [], 22), (22, 2, .null, 0, 0, [], 23), (23, 36, .null, 0, 4, [], 26),
  (26, 1, .null, 1, 0, [], 27), (27, 2, .null, 0, 0, [], 28), (28, 1, .null, 1, 0, [], 29), (29, 52, .ref 0, 44, 1, [], 32), (32, 53, .null, 14, 3, [], 35), (35, 1, .null, 2, 0, [], 36), (36, 49, .null, 0, 0, [], 36)]
def mtX0_giveBack : axM := (⟨"BeatSlugs$Board", "giveBack", "(I)I"⟩, prog_2_method_10_code, 3, (some .int), 0, false, cdX0_giveBack)
abbrev kX0_giveBack : Nat := 96
set_option maxRecDepth 100000 in
theorem ckX0_giveBack : axCk 0 false 0 prog_2_method_10_code cdX0_giveBack = true := by decide +kernel
def cdL_moves : List axE := [
  (0, 2, .null, 0, 0, [], 1), (1, 53, .null, 92, 1, [], 4), (4, 30, .null, 3, 0, [], 5), (5, 2, .null, 0, 0, [], 6), (6, 1, .null, 1, 0, [], 7), (7, 0, .int 0, 0, 0, [], 8), (8, 52, .ref 4, 41, 2, [], 11), (11, 4, .null, 5, 0, [], 13),
  (13, 2, .null, 0, 0, [], 14), (14, 1, .null, 1, 0, [], 15), (15, 52, .ref 4, 55, 1, [], 18), (18, 1, .null, 2, 0, [], 19), (19, 18, .null, 0, 0, [], 20), (20, 0, .int 1, 0, 0, [], 21), (21, 14, .null, 0, 0, [], 22), (22, 4, .null, 6, 0, [], 24),
  (24, 2, .null, 0, 0, [], 25), (25, 1, .null, 1, 0, [], 26), (26, 1, .null, 2, 0, [], 27), (27, 52, .ref 4, 98, 2, [], 30), (30, 4, .null, 7, 0, [], 32), (32, 1, .null, 6, 0, [], 34), (34, 33, .null, 1, 59, [], 37), (37, 1, .null, 7, 0, [], 39),
  (39, 0, .int (-5), 0, 0, [], 41), (41, 32, .null, 1, 57, [], 44), (44, 2, .null, 0, 0, [], 45), (45, 53, .null, 92, 1, [], 48), (48, 3, .null, 3, 0, [], 49), (49, 29, .null, 0, 0, [], 50), (50, 33, .null, 1, 57, [], 53), (53, 0, .int 1, 0, 0, [], 54),
  (54, 9, .null, 0, 0, [], 58), (57, 0, .int 0, 0, 0, [], 58), (58, 49, .null, 2, 0, [], 58), (59, 1, .null, 7, 0, [], 61), (61, 1, .null, 5, 0, [], 63), (63, 32, .null, 1, 106, [], 66), (66, 2, .null, 0, 0, [], 67), (67, 1, .null, 1, 0, [], 68),
  (68, 0, .int 0, 0, 0, [], 69), (69, 52, .ref 4, 41, 2, [], 72), (72, 1, .null, 2, 0, [], 73), (73, 32, .null, 1, 106, [], 76), (76, 1, .null, 2, 0, [], 77), (77, 0, .int 2, 0, 0, [], 78), (78, 48, .null, 0, 0, [], 79), (79, 33, .null, 0, 102, [], 82),
  (82, 2, .null, 0, 0, [], 83), (83, 1, .null, 1, 0, [], 84), (84, 1, .null, 5, 0, [], 86), (86, 52, .ref 4, 98, 2, [], 89), (89, 1, .null, 2, 0, [], 90), (90, 32, .null, 1, 106, [], 93), (93, 2, .null, 0, 0, [], 94), (94, 53, .null, 92, 1, [], 97),
  (97, 3, .null, 3, 0, [], 98), (98, 29, .null, 0, 0, [], 99), (99, 33, .null, 1, 106, [], 102), (102, 0, .int 1, 0, 0, [], 103), (103, 9, .null, 0, 0, [], 107), (106, 0, .int 0, 0, 0, [], 107), (107, 49, .null, 2, 0, [], 107)]
def mtL_moves : axM := (⟨"BeatSlugsLaw", "moves", "(LBeatSlugs;II)Z"⟩, method_8_code, 8, (some .boolean), 6, false, cdL_moves)
abbrev kL_moves : Nat := 97
set_option maxRecDepth 100000 in
theorem ckL_moves : axCk 6 false 2 method_8_code cdL_moves = true := by decide +kernel
def cdX4_move : List axE := [
  (0, 2, .null, 0, 0, [], 1), (1, 36, .null, 4, 1, [], 4), (4, 2, .null, 0, 0, [], 5), (5, 36, .null, 4, 0, [], 8), (8, 52, .ref 1, 68, 1, [], 11), (11, 2, .null, 0, 0, [], 12), (12, 36, .null, 4, 1, [], 15), (15, 2, .null, 0, 0, [], 16),
  (16, 36, .null, 4, 0, [], 19), (19, 1, .null, 1, 0, [], 20), (20, 1, .null, 2, 0, [], 21), (21, 52, .ref 0, 99, 2, [], 24), (24, 52, .ref 1, 73, 1, [], 27), (27, 49, .null, 0, 0, [], 27)]
def mtX4_move : axM := (⟨"BeatSlugs", "move", "(II)I"⟩, prog_1_method_10_code, 3, (some .int), 4, false, cdX4_move)
abbrev kX4_move : Nat := 98
set_option maxRecDepth 100000 in
theorem ckX4_move : axCk 4 false 0 prog_1_method_10_code cdX4_move = true := by decide +kernel
def cdX0_moveSlug : List axE := [
  (0, 2, .null, 0, 0, [], 1), (1, 1, .null, 1, 0, [], 2), (2, 52, .ref 0, 42, 1, [], 5), (5, 33, .null, 0, 20, [], 8), (8, 1, .null, 2, 0, [], 9), (9, 33, .null, 2, 20, [], 12), (12, 1, .null, 2, 0, [], 13), (13, 2, .null, 0, 0, [], 14),
  (14, 36, .null, 0, 8, [], 17), (17, 32, .null, 2, 22, [], 20), (20, 0, .int (-1), 0, 0, [], 21), (21, 49, .null, 0, 0, [], 21), (22, 2, .null, 0, 0, [], 23), (23, 1, .null, 1, 0, [], 24), (24, 1, .null, 2, 0, [], 25), (25, 52, .ref 0, 72, 2, [], 28),
  (28, 33, .null, 1, 34, [], 31), (31, 0, .int (-5), 0, 0, [], 33), (33, 49, .null, 0, 0, [], 33), (34, 2, .null, 0, 0, [], 35), (35, 1, .null, 1, 0, [], 36), (36, 52, .ref 0, 43, 1, [], 39), (39, 4, .null, 3, 0, [], 40), (40, 2, .null, 0, 0, [], 41),
  (41, 1, .null, 3, 0, [], 42), (42, 52, .ref 0, 85, 1, [], 45), (45, 2, .null, 0, 0, [], 46), (46, 1, .null, 2, 0, [], 47), (47, 1, .null, 1, 0, [], 48), (48, 52, .ref 0, 82, 2, [], 51), (51, 1, .null, 3, 0, [], 52), (52, 49, .null, 0, 0, [], 52)]
def mtX0_moveSlug : axM := (⟨"BeatSlugs$Board", "moveSlug", "(II)I"⟩, prog_2_method_11_code, 4, (some .int), 0, false, cdX0_moveSlug)
abbrev kX0_moveSlug : Nat := 99
set_option maxRecDepth 100000 in
theorem ckX0_moveSlug : axCk 0 false 0 prog_2_method_11_code cdX0_moveSlug = true := by decide +kernel
def cdX4_split : List axE := [
  (0, 2, .null, 0, 0, [], 1), (1, 36, .null, 4, 1, [], 4), (4, 2, .null, 0, 0, [], 5), (5, 36, .null, 4, 0, [], 8), (8, 52, .ref 1, 68, 1, [], 11), (11, 2, .null, 0, 0, [], 12), (12, 36, .null, 4, 1, [], 15), (15, 2, .null, 0, 0, [], 16),
  (16, 36, .null, 4, 0, [], 19), (19, 1, .null, 1, 0, [], 20), (20, 1, .null, 2, 0, [], 21), (21, 52, .ref 0, 101, 2, [], 24), (24, 52, .ref 1, 73, 1, [], 27), (27, 49, .null, 0, 0, [], 27)]
def mtX4_split : axM := (⟨"BeatSlugs", "split", "(II)I"⟩, prog_1_method_12_code, 3, (some .int), 4, false, cdX4_split)
abbrev kX4_split : Nat := 100
set_option maxRecDepth 100000 in
theorem ckX4_split : axCk 4 false 0 prog_1_method_12_code cdX4_split = true := by decide +kernel
def cdX0_splitSlug : List axE := [
  (0, 2, .null, 0, 0, [], 1), (1, 1, .null, 1, 0, [], 2), (2, 52, .ref 0, 42, 1, [], 5), (5, 33, .null, 1, 10, [], 8), (8, 0, .int (-1), 0, 0, [], 9), (9, 49, .null, 0, 0, [], 9), (10, 1, .null, 2, 0, [], 11), (11, 0, .int 1, 0, 0, [], 12),
  (12, 32, .null, 2, 21, [], 15), (15, 1, .null, 2, 0, [], 16), (16, 0, .int 98, 0, 0, [], 18), (18, 32, .null, 5, 24, [], 21), (21, 0, .int (-2), 0, 0, [], 23), (23, 49, .null, 0, 0, [], 23), (24, 2, .null, 0, 0, [], 25), (25, 1, .null, 1, 0, [], 26),
  (26, 52, .ref 0, 45, 1, [], 29), (29, 1, .null, 2, 0, [], 30), (30, 32, .null, 4, 36, [], 33), (33, 0, .int (-5), 0, 0, [], 35), (35, 49, .null, 0, 0, [], 35), (36, 2, .null, 0, 0, [], 37), (37, 36, .null, 0, 8, [], 40), (40, 0, .int 24, 0, 0, [], 42),
  (42, 32, .null, 2, 48, [], 45), (45, 0, .int (-4), 0, 0, [], 47), (47, 49, .null, 0, 0, [], 47), (48, 2, .null, 0, 0, [], 49), (49, 2, .null, 0, 0, [], 50), (50, 1, .null, 1, 0, [], 51), (51, 52, .ref 0, 43, 1, [], 54), (54, 0, .int 1, 0, 0, [], 55),
  (55, 11, .null, 0, 0, [], 56), (56, 2, .null, 0, 0, [], 57), (57, 1, .null, 1, 0, [], 58), (58, 52, .ref 0, 44, 1, [], 61), (61, 1, .null, 2, 0, [], 62), (62, 12, .null, 0, 0, [], 63), (63, 52, .ref 0, 80, 2, [], 66), (66, 4, .null, 3, 0, [], 67),
  (67, 2, .null, 0, 0, [], 68), (68, 36, .null, 0, 4, [], 71), (71, 1, .null, 3, 0, [], 72), (72, 2, .null, 0, 0, [], 73), (73, 1, .null, 1, 0, [], 74), (74, 52, .ref 0, 45, 1, [], 77), (77, 1, .null, 2, 0, [], 78), (78, 12, .null, 0, 0, [], 79),
  (79, 53, .null, 14, 3, [], 82), (82, 2, .null, 0, 0, [], 83), (83, 36, .null, 0, 3, [], 86), (86, 1, .null, 1, 0, [], 87), (87, 1, .null, 2, 0, [], 88), (88, 53, .null, 14, 3, [], 91), (91, 2, .null, 0, 0, [], 92), (92, 36, .null, 0, 4, [], 95),
  (95, 1, .null, 1, 0, [], 96), (96, 1, .null, 2, 0, [], 97), (97, 53, .null, 14, 3, [], 100), (100, 2, .null, 0, 0, [], 101), (101, 1, .null, 1, 0, [], 102), (102, 1, .null, 3, 0, [], 103), (103, 52, .ref 0, 102, 2, [], 106), (106, 2, .null, 0, 0, [], 107),
  (107, 1, .null, 1, 0, [], 108), (108, 1, .null, 3, 0, [], 109), (109, 52, .ref 0, 103, 2, [], 112), (112, 1, .null, 3, 0, [], 113), (113, 49, .null, 0, 0, [], 113)]
def mtX0_splitSlug : axM := (⟨"BeatSlugs$Board", "splitSlug", "(II)I"⟩, prog_2_method_13_code, 4, (some .int), 0, false, cdX0_splitSlug)
abbrev kX0_splitSlug : Nat := 101
set_option maxRecDepth 100000 in
theorem ckX0_splitSlug : axCk 0 false 0 prog_2_method_13_code cdX0_splitSlug = true := by decide +kernel
def cdX0_handOverNeeds : List axE := [
  (0, 0, .int 0, 0, 0, [], 1), (1, 4, .null, 3, 0, [], 2), (2, 1, .null, 3, 0, [], 3), (3, 2, .null, 0, 0, [], 4), (4, 36, .null, 0, 5, [], 7), (7, 39, .null, 0, 0, [], 8), (8, 32, .null, 3, 43, [], 11), (11, 2, .null, 0, 0, [], 12),
  (12, 36, .null, 0, 5, [], 15), (15, 1, .null, 3, 0, [], 16), (16, 40, .null, 0, 0, [], 17), (17, 1, .null, 1, 0, [], 18), (18, 53, .null, 10, 2, [], 21), (21, 33, .null, 0, 37, [], 24), (24, 2, .null, 0, 0, [], 25), (25, 36, .null, 0, 5, [], 28),
  (28, 1, .null, 3, 0, [], 29), (29, 10, .null, 0, 0, [], 30), (30, 40, .null, 0, 0, [], 31), (31, 1, .null, 2, 0, [], 32), (32, 53, .null, 48, 1, [], 35), (35, 15, .null, 0, 0, [], 36), (36, 42, .null, 0, 0, [], 37), (37, 6, .int 1, 3, 0, [], 40),
  (40, 9, .null, 0, 0, [], 2), (43, 2, .null, 0, 0, [], 44), (44, 36, .null, 0, 5, [], 47), (47, 1, .null, 2, 0, [], 48), (48, 1, .null, 1, 0, [], 49), (49, 53, .null, 48, 1, [], 52), (52, 53, .null, 14, 3, [], 55), (55, 50, .null, 0, 0, [], 55)]
def mtX0_handOverNeeds : axM := (⟨"BeatSlugs$Board", "handOverNeeds", "(II)V"⟩, prog_2_method_19_code, 4, none, 0, false, cdX0_handOverNeeds)
abbrev kX0_handOverNeeds : Nat := 102
set_option maxRecDepth 100000 in
theorem ckX0_handOverNeeds : axCk 0 false 0 prog_2_method_19_code cdX0_handOverNeeds = true := by decide +kernel
def cdX0_handOverTurn : List axE := [
  (0, 2, .null, 0, 0, [], 1), (1, 1, .null, 1, 0, [], 2), (2, 52, .ref 0, 46, 1, [], 5), (5, 33, .null, 0, 36, [], 8), (8, 2, .null, 0, 0, [], 9), (9, 7, .null, 0, 0, [], 10), (10, 36, .null, 0, 7, [], 13), (13, 1, .null, 1, 0, [], 14),
  (14, 53, .null, 48, 1, [], 17), (17, 0, .int (-1), 0, 0, [], 18), (18, 16, .null, 0, 0, [], 19), (19, 14, .null, 0, 0, [], 20), (20, 37, .null, 0, 7, [], 23), (23, 2, .null, 0, 0, [], 24), (24, 7, .null, 0, 0, [], 25), (25, 36, .null, 0, 7, [], 28),
  (28, 1, .null, 2, 0, [], 29), (29, 53, .null, 48, 1, [], 32), (32, 15, .null, 0, 0, [], 33), (33, 37, .null, 0, 7, [], 36), (36, 50, .null, 0, 0, [], 36)]
def mtX0_handOverTurn : axM := (⟨"BeatSlugs$Board", "handOverTurn", "(II)V"⟩, prog_2_method_20_code, 3, none, 0, false, cdX0_handOverTurn)
abbrev kX0_handOverTurn : Nat := 103
set_option maxRecDepth 100000 in
theorem ckX0_handOverTurn : axCk 0 false 0 prog_2_method_20_code cdX0_handOverTurn = true := by decide +kernel
def cdL_fits : List axE := [
  (0, 2, .null, 0, 0, [], 1), (1, 53, .null, 92, 1, [], 4), (4, 30, .null, 2, 0, [], 5), (5, 2, .null, 0, 0, [], 6), (6, 1, .null, 1, 0, [], 7), (7, 52, .ref 4, 26, 1, [], 10), (10, 4, .null, 4, 0, [], 12), (12, 2, .null, 0, 0, [], 13),
  (13, 0, .int 2, 0, 0, [], 14), (14, 52, .ref 4, 56, 1, [], 17), (17, 4, .null, 5, 0, [], 19), (19, 2, .null, 0, 0, [], 20), (20, 1, .null, 1, 0, [], 21), (21, 52, .ref 4, 105, 1, [], 24), (24, 4, .null, 6, 0, [], 26), (26, 1, .null, 6, 0, [], 28),
  (28, 33, .null, 3, 81, [], 31), (31, 1, .null, 6, 0, [], 33), (33, 1, .null, 4, 0, [], 35), (35, 32, .null, 1, 79, [], 38), (38, 2, .null, 0, 0, [], 39), (39, 53, .null, 92, 1, [], 42), (42, 3, .null, 2, 0, [], 43), (43, 29, .null, 0, 0, [], 44),
  (44, 33, .null, 1, 79, [], 47), (47, 1, .null, 6, 0, [], 49), (49, 0, .int (-1), 0, 0, [], 50), (50, 32, .null, 1, 57, [], 53), (53, 0, .int 1, 0, 0, [], 54), (54, 9, .null, 0, 0, [], 58), (57, 0, .int 0, 0, 0, [], 58), (58, 1, .null, 1, 0, [], 59),
  (59, 2, .null, 0, 0, [], 60), (60, 0, .int 1, 0, 0, [], 61), (61, 52, .ref 4, 56, 1, [], 64), (64, 32, .null, 2, 71, [], 67), (67, 0, .int 1, 0, 0, [], 68), (68, 9, .null, 0, 0, [], 72), (71, 0, .int 0, 0, 0, [], 72), (72, 32, .null, 1, 79, [], 75),
  (75, 0, .int 1, 0, 0, [], 76), (76, 9, .null, 0, 0, [], 80), (79, 0, .int 0, 0, 0, [], 80), (80, 49, .null, 2, 0, [], 80), (81, 1, .null, 6, 0, [], 83), (83, 1, .null, 4, 0, [], 85), (85, 32, .null, 1, 155, [], 88), (88, 2, .null, 0, 0, [], 89),
  (89, 0, .int 2, 0, 0, [], 90), (90, 52, .ref 4, 56, 1, [], 93), (93, 1, .null, 5, 0, [], 95), (95, 1, .null, 6, 0, [], 97), (97, 12, .null, 0, 0, [], 98), (98, 32, .null, 1, 155, [], 101), (101, 2, .null, 0, 0, [], 102), (102, 1, .null, 1, 0, [], 103),
  (103, 0, .int 0, 0, 0, [], 104), (104, 52, .ref 4, 65, 2, [], 107), (107, 2, .null, 0, 0, [], 108), (108, 1, .null, 1, 0, [], 109), (109, 0, .int 1, 0, 0, [], 110), (110, 52, .ref 4, 65, 2, [], 113), (113, 2, .null, 0, 0, [], 114), (114, 0, .int 8, 0, 0, [], 116),
  (116, 52, .ref 4, 56, 1, [], 119), (119, 11, .null, 0, 0, [], 120), (120, 32, .null, 4, 155, [], 123), (123, 1, .null, 6, 0, [], 125), (125, 33, .null, 0, 143, [], 128), (128, 2, .null, 0, 0, [], 129), (129, 1, .null, 1, 0, [], 130), (130, 0, .int 0, 0, 0, [], 131),
  (131, 52, .ref 4, 65, 2, [], 134), (134, 2, .null, 0, 0, [], 135), (135, 1, .null, 1, 0, [], 136), (136, 0, .int 1, 0, 0, [], 137), (137, 52, .ref 4, 65, 2, [], 140), (140, 32, .null, 2, 155, [], 143), (143, 2, .null, 0, 0, [], 144), (144, 1, .null, 1, 0, [], 145),
  (145, 52, .ref 4, 26, 1, [], 148), (148, 33, .null, 2, 155, [], 151), (151, 0, .int 1, 0, 0, [], 152), (152, 9, .null, 0, 0, [], 156), (155, 0, .int 0, 0, 0, [], 156), (156, 49, .null, 2, 0, [], 156)]
def mtL_fits : axM := (⟨"BeatSlugsLaw", "fits", "(LBeatSlugs;I)Z"⟩, method_9_code, 7, (some .boolean), 6, false, cdL_fits)
abbrev kL_fits : Nat := 104
set_option maxRecDepth 100000 in
theorem ckL_fits : axCk 6 false 2 method_9_code cdL_fits = true := by decide +kernel
def cdX4_fit : List axE := [
  (0, 2, .null, 0, 0, [], 1), (1, 36, .null, 4, 1, [], 4), (4, 2, .null, 0, 0, [], 5), (5, 36, .null, 4, 0, [], 8), (8, 52, .ref 1, 68, 1, [], 11), (11, 2, .null, 0, 0, [], 12), (12, 36, .null, 4, 1, [], 15), (15, 2, .null, 0, 0, [], 16),
  (16, 36, .null, 4, 0, [], 19), (19, 1, .null, 1, 0, [], 20), (20, 52, .ref 0, 106, 1, [], 23), (23, 52, .ref 1, 73, 1, [], 26), (26, 49, .null, 0, 0, [], 26)]
def mtX4_fit : axM := (⟨"BeatSlugs", "fit", "(I)I"⟩, prog_1_method_13_code, 2, (some .int), 4, false, cdX4_fit)
abbrev kX4_fit : Nat := 105
set_option maxRecDepth 100000 in
theorem ckX4_fit : axCk 4 false 0 prog_1_method_13_code cdX4_fit = true := by decide +kernel
def cdX0_fitAct : List axE := [
  (0, 2, .null, 0, 0, [], 1), (1, 1, .null, 1, 0, [], 2), (2, 52, .ref 0, 27, 1, [], 5), (5, 4, .null, 2, 0, [], 6), (6, 1, .null, 2, 0, [], 7), (7, 33, .null, 3, 12, [], 10), (10, 1, .null, 2, 0, [], 11), (11, 49, .null, 0, 0, [], 11),
  (12, 2, .null, 0, 0, [], 13), (13, 1, .null, 1, 0, [], 14), (14, 52, .ref 0, 32, 1, [], 17), (17, 4, .null, 3, 0, [], 18), (18, 1, .null, 2, 0, [], 19), (19, 4, .null, 4, 0, [], 21), (21, 2, .null, 0, 0, [], 22), (22, 1, .null, 1, 0, [], 23),
  (23, 0, .int 1, 0, 0, [], 24), (24, 11, .null, 0, 0, [], 25), (25, 52, .ref 0, 32, 1, [], 28), (28, 0, .int 1, 0, 0, [], 29), (29, 12, .null, 0, 0, [], 30), (30, 4, .null, 5, 0, [], 32), (32, 1, .null, 5, 0, [], 34), (34, 1, .null, 3, 0, [], 35),
  (35, 32, .null, 2, 98, [], 38), (38, 1, .null, 4, 0, [], 40), (40, 33, .null, 5, 98, [], 43), (43, 2, .null, 0, 0, [], 44), (44, 36, .null, 0, 2, [], 47), (47, 1, .null, 5, 0, [], 49), (49, 53, .null, 9, 2, [], 52), (52, 4, .null, 6, 0, [], 54),
  (54, 1, .null, 4, 0, [], 56), (56, 2, .null, 0, 0, [], 57), (57, 1, .null, 6, 0, [], 59), (59, 52, .ref 0, 35, 1, [], 62), (62, 58, .null, 0, 0, [], 65), (65, 4, .null, 7, 0, [], 67), (67, 2, .null, 0, 0, [], 68), (68, 36, .null, 0, 4, [], 71),
  (71, 1, .null, 6, 0, [], 73), (73, 2, .null, 0, 0, [], 74), (74, 1, .null, 6, 0, [], 76), (76, 52, .ref 0, 45, 1, [], 79), (79, 1, .null, 7, 0, [], 81), (81, 12, .null, 0, 0, [], 82), (82, 53, .null, 14, 3, [], 85), (85, 1, .null, 4, 0, [], 87),
  (87, 1, .null, 7, 0, [], 89), (89, 12, .null, 0, 0, [], 90), (90, 4, .null, 4, 0, [], 92), (92, 6, .int (-1), 5, 0, [], 95), (95, 9, .null, 0, 0, [], 32), (98, 1, .null, 2, 0, [], 99), (99, 49, .null, 0, 0, [], 99)]
def mtX0_fitAct : axM := (⟨"BeatSlugs$Board", "fitAct", "(I)I"⟩, prog_2_method_14_code, 8, (some .int), 0, false, cdX0_fitAct)
abbrev kX0_fitAct : Nat := 106
set_option maxRecDepth 100000 in
theorem ckX0_fitAct : axCk 0 false 0 prog_2_method_14_code cdX0_fitAct = true := by decide +kernel
def cdX4_target : List axE := [
  (0, 2, .null, 0, 0, [], 1), (1, 36, .null, 4, 1, [], 4), (4, 2, .null, 0, 0, [], 5), (5, 36, .null, 4, 0, [], 8), (8, 52, .ref 1, 68, 1, [], 11), (11, 2, .null, 0, 0, [], 12), (12, 36, .null, 4, 1, [], 15), (15, 2, .null, 0, 0, [], 16),
  (16, 36, .null, 4, 0, [], 19), (19, 1, .null, 1, 0, [], 20), (20, 1, .null, 2, 0, [], 21), (21, 52, .ref 0, 108, 2, [], 24), (24, 52, .ref 1, 73, 1, [], 27), (27, 49, .null, 0, 0, [], 27)]
def mtX4_target : axM := (⟨"BeatSlugs", "target", "(II)I"⟩, prog_1_method_3_code, 3, (some .int), 4, false, cdX4_target)
abbrev kX4_target : Nat := 107
set_option maxRecDepth 100000 in
theorem ckX4_target : axCk 4 false 0 prog_1_method_3_code cdX4_target = true := by decide +kernel
def cdX0_changeTarget : List axE := [
  (0, 1, .null, 1, 0, [], 1), (1, 33, .null, 2, 13, [], 4), (4, 1, .null, 1, 0, [], 5), (5, 2, .null, 0, 0, [], 6), (6, 36, .null, 0, 1, [], 9), (9, 39, .null, 0, 0, [], 10), (10, 32, .null, 2, 15, [], 13), (13, 0, .int (-1), 0, 0, [], 14),
  (14, 49, .null, 0, 0, [], 14), (15, 1, .null, 2, 0, [], 16), (16, 0, .int 1, 0, 0, [], 17), (17, 32, .null, 2, 27, [], 20), (20, 1, .null, 2, 0, [], 21), (21, 0, .int 999, 0, 0, [], 24), (24, 32, .null, 5, 30, [], 27), (27, 0, .int (-2), 0, 0, [], 29),
  (29, 49, .null, 0, 0, [], 29), (30, 2, .null, 0, 0, [], 31), (31, 36, .null, 0, 1, [], 34), (34, 1, .null, 1, 0, [], 35), (35, 40, .null, 0, 0, [], 36), (36, 4, .null, 3, 0, [], 37), (37, 2, .null, 0, 0, [], 38), (38, 36, .null, 0, 1, [], 41),
  (41, 1, .null, 1, 0, [], 42), (42, 1, .null, 2, 0, [], 43), (43, 42, .null, 0, 0, [], 44), (44, 1, .null, 3, 0, [], 45), (45, 49, .null, 0, 0, [], 45)]
def mtX0_changeTarget : axM := (⟨"BeatSlugs$Board", "changeTarget", "(II)I"⟩, prog_2_method_4_code, 4, (some .int), 0, false, cdX0_changeTarget)
abbrev kX0_changeTarget : Nat := 108
set_option maxRecDepth 100000 in
theorem ckX0_changeTarget : axCk 0 false 0 prog_2_method_4_code cdX0_changeTarget = true := by decide +kernel
def cdX4_set : List axE := [
  (0, 2, .null, 0, 0, [], 1), (1, 36, .null, 4, 1, [], 4), (4, 2, .null, 0, 0, [], 5), (5, 36, .null, 4, 0, [], 8), (8, 52, .ref 1, 68, 1, [], 11), (11, 2, .null, 0, 0, [], 12), (12, 36, .null, 4, 1, [], 15), (15, 2, .null, 0, 0, [], 16),
  (16, 36, .null, 4, 0, [], 19), (19, 1, .null, 1, 0, [], 20), (20, 1, .null, 2, 0, [], 21), (21, 52, .ref 0, 110, 2, [], 24), (24, 52, .ref 1, 73, 1, [], 27), (27, 49, .null, 0, 0, [], 27)]
def mtX4_set : axM := (⟨"BeatSlugs", "set", "(II)I"⟩, prog_1_method_2_code, 3, (some .int), 4, false, cdX4_set)
abbrev kX4_set : Nat := 109
set_option maxRecDepth 100000 in
theorem ckX4_set : axCk 4 false 0 prog_1_method_2_code cdX4_set = true := by decide +kernel
def cdX0_changeSetting : List axE := [
  (0, 1, .null, 1, 0, [], 1), (1, 33, .null, 2, 13, [], 4), (4, 1, .null, 1, 0, [], 5), (5, 2, .null, 0, 0, [], 6), (6, 36, .null, 0, 0, [], 9), (9, 39, .null, 0, 0, [], 10), (10, 32, .null, 2, 16, [], 13), (13, 0, .int (-2), 0, 0, [], 15),
  (15, 49, .null, 0, 0, [], 15), (16, 1, .null, 2, 0, [], 17), (17, 38, .null, 1, 0, [], 20), (20, 1, .null, 1, 0, [], 21), (21, 53, .null, 9, 2, [], 24), (24, 32, .null, 2, 38, [], 27), (27, 1, .null, 2, 0, [], 28), (28, 38, .null, 2, 0, [], 31),
  (31, 1, .null, 1, 0, [], 32), (32, 53, .null, 9, 2, [], 35), (35, 32, .null, 5, 41, [], 38), (38, 0, .int (-2), 0, 0, [], 40), (40, 49, .null, 0, 0, [], 40), (41, 2, .null, 0, 0, [], 42), (42, 36, .null, 0, 0, [], 45), (45, 1, .null, 1, 0, [], 46),
  (46, 40, .null, 0, 0, [], 47), (47, 4, .null, 3, 0, [], 48), (48, 2, .null, 0, 0, [], 49), (49, 36, .null, 0, 0, [], 52), (52, 1, .null, 1, 0, [], 53), (53, 1, .null, 2, 0, [], 54), (54, 42, .null, 0, 0, [], 55), (55, 1, .null, 3, 0, [], 56),
  (56, 49, .null, 0, 0, [], 56)]
def mtX0_changeSetting : axM := (⟨"BeatSlugs$Board", "changeSetting", "(II)I"⟩, prog_2_method_3_code, 4, (some .int), 0, false, cdX0_changeSetting)
abbrev kX0_changeSetting : Nat := 110
set_option maxRecDepth 100000 in
theorem ckX0_changeSetting : axCk 0 false 0 prog_2_method_3_code cdX0_changeSetting = true := by decide +kernel
end
section
/-! The code of the methods as rows of the abstract machine. Written by wip/p32/gen2.py. -/
def cdL_law0 : List axE := [
  (0, 46, .null, 4, 0, [], 3), (3, 7, .null, 0, 0, [], 4), (4, 54, .null, 0, 0, [], 7), (7, 5, .null, 1, 0, [], 8), (8, 2, .null, 1, 0, [], 9), (9, 53, .null, 38, 1, [], 12), (12, 33, .null, 0, 34, [], 15), (15, 2, .null, 1, 0, [], 16),
  (16, 0, .int 2, 0, 0, [], 17), (17, 52, .ref 4, 5, 1, [], 20), (20, 0, .int (-6), 0, 0, [], 22), (22, 32, .null, 1, 34, [], 25), (25, 2, .null, 1, 0, [], 26), (26, 0, .int 0, 0, 0, [], 27), (27, 52, .ref 4, 26, 1, [], 30), (30, 0, .int (-1), 0, 0, [], 31),
  (31, 32, .null, 0, 36, [], 34), (34, 0, .int 0, 0, 0, [], 35), (35, 49, .null, 2, 0, [], 35), (36, 0, .int 0, 0, 0, [], 37), (37, 4, .null, 2, 0, [], 38), (38, 1, .null, 2, 0, [], 39), (39, 0, .int 40, 0, 0, [], 41), (41, 32, .null, 3, 91, [], 44),
  (44, 2, .null, 1, 0, [], 45), (45, 1, .null, 2, 0, [], 46), (46, 0, .int 5, 0, 0, [], 47), (47, 32, .null, 3, 54, [], 50), (50, 0, .int 0, 0, 0, [], 51), (51, 9, .null, 0, 0, [], 61), (54, 2, .null, 0, 0, [], 55), (55, 0, .int 2, 0, 0, [], 56),
  (56, 1, .null, 2, 0, [], 57), (57, 13, .null, 0, 0, [], 58), (58, 53, .null, 37, 2, [], 61), (61, 2, .null, 0, 0, [], 62), (62, 0, .int 2, 0, 0, [], 63), (63, 1, .null, 2, 0, [], 64), (64, 13, .null, 0, 0, [], 65), (65, 0, .int 1, 0, 0, [], 66),
  (66, 11, .null, 0, 0, [], 67), (67, 53, .null, 37, 2, [], 70), (70, 53, .null, 76, 3, [], 73), (73, 33, .null, 0, 83, [], 76)]
set_option maxRecDepth 100000 in
theorem ckL_law0 : axCk 6 false 2 code cdL_law0 = true := by decide +kernel
def cdL_law1 : List axE := [
  (76, 2, .null, 1, 0, [], 77), (77, 53, .null, 38, 1, [], 80), (80, 33, .null, 1, 85, [], 83), (83, 0, .int 0, 0, 0, [], 84), (84, 49, .null, 2, 0, [], 84), (85, 6, .int 1, 2, 0, [], 88), (88, 9, .null, 0, 0, [], 38), (91, 2, .null, 1, 0, [], 92),
  (92, 53, .null, 66, 1, [], 95), (95, 33, .null, 0, 109, [], 98), (98, 2, .null, 1, 0, [], 99), (99, 53, .null, 38, 1, [], 102), (102, 33, .null, 0, 109, [], 105), (105, 0, .int 1, 0, 0, [], 106), (106, 9, .null, 0, 0, [], 110), (109, 0, .int 0, 0, 0, [], 110),
  (110, 49, .null, 2, 0, [], 110)]
set_option maxRecDepth 100000 in
theorem ckL_law1 : axCk 6 false 2 code cdL_law1 = true := by decide +kernel
def cdL_law : List axE := cdL_law0 ++ (cdL_law1)
theorem ckL_law : axCk 6 false 2 code cdL_law = true := axCk_app ckL_law0 (ckL_law1)
end
section
/-! What the tables say of the methods and the links. Written by wip/p32/gen2.py. -/
def axMs0 : List axM := [mtX4_init, mtX0_init, mtX1_init, mtX2_init, mtX3_init, mtX4_bestSwap, mtX3_run, mtX0_offTogether, mtX0_offOfRow, mtX4_cell, mtX4_contains, mtX0_targetOf, mtX0_size, mtX0_slugIn, mtX4_store, mtX3_tryAllBehind, mtX0_highestPlace, mtX0_lowestPlace, mtX0_needsOf, mtX3_tryOne, mtX3_exchange, mtX0_allTurns, mtX3_isFound, mtX3_lowerPlace, mtX3_higherPlace, mtX3_leastOff, mtX4_ifFitted, mtX0_cutOf, mtX0_hasAct, mtX0_actCount, mtJ_bitCount, mtX0_offOf, mtX0_startOf, mtX0_beatsIn]
def axMs1 : List axM := [mtX0_roomIn, mtX0_roomOf, mtX0_settingOf, mtL_cell, mtL_holds, mtL_many, mtX4_at, mtX4_of, mtX0_has, mtX0_placeOf, mtX0_writtenOf, mtX0_beatsOf, mtX0_isTurn, mtX0_needersOf, mtX4_bit, mtX0_pageBeats, mtX0_turnsAhead, mtX4_needs, mtX0_allNeedsOf, mtX4_atBeat, mtX0_slugAtBeat, mtX4_places, mtX4_count, mtX0_allSlugs, mtX0_allBeats, mtX0_fittingActs, mtX0_isFitting, mtX0_isOpen, mtX0_longestSlug, mtX2_size, mtX1_size, mtX4_ofAct, mtL_swapsBest, mtX4_swap]
def axMs2 : List axM := [mtX1_prepare, mtX4_copyInto, mtX0_takeOver, mtX0_swapSlugs, mtX0_mayStandIn, mtX1_settle, mtX4_undo, mtX1_takeBack, mtL_act, mtL_low, mtX4_slug, mtX0_addSlug, mtX0_makeSlug, mtX0_lowestFree, mtX0_putIn, mtX4_drop, mtX0_dropSlug, mtX0_takeOut, mtX4_ifTurned, mtX0_offIfTurned, mtX4_turn, mtX0_flipTurn, mtX4_need, mtX0_flipNeed, mtL_tale, mtX4_trim, mtX0_trimSlug, mtX4_restoreTail, mtX0_giveBack, mtL_moves, mtX4_move, mtX0_moveSlug, mtX4_split, mtX0_splitSlug]
def axMs3 : List axM := [mtX0_handOverNeeds, mtX0_handOverTurn, mtL_fits, mtX4_fit, mtX0_fitAct, mtX4_target, mtX0_changeTarget, mtX4_set, mtX0_changeSetting]
def axMs : List axM := axMs0 ++ (axMs1 ++ (axMs2 ++ (axMs3)))
/-- what every method of the list has -/
def axGood (M : axM) : Prop := Cond.code M.1 M.2.1 M.2.2.1 M.2.2.2.1 ∈ lw_tbl ∧ Cond.initialized M.1.cls ∈ lw_tbl ∧ axCn M.2.2.2.2.1 = M.1.cls ∧ M.2.2.1 ≤ 16 ∧ plainName M.1.cls = true ∧ (M.1.cls ≠ "java/lang/invoke/MethodHandle" ∧ M.1.cls ≠ "java/lang/invoke/VarHandle") ∧ axCk M.2.2.2.2.1 M.2.2.2.2.2.1 (axRk M.2.2.2.1) M.2.1 M.2.2.2.2.2.2 = true ∧ (M.2.2.2.2.2.1 = true → M.1.name = "<init>")
theorem moX4_init : axGood mtX4_init := ⟨List.mem_of_getElem? (i := 23) (by decide +kernel), List.mem_of_getElem? (i := 11) (by decide +kernel), rfl, by decide, by decide +kernel, ⟨by decide +kernel, by decide +kernel⟩, ckX4_init, by decide +kernel⟩
theorem moX0_init : axGood mtX0_init := ⟨List.mem_of_getElem? (i := 31) (by decide +kernel), List.mem_of_getElem? (i := 12) (by decide +kernel), rfl, by decide, by decide +kernel, ⟨by decide +kernel, by decide +kernel⟩, ckX0_init, by decide +kernel⟩
theorem moX1_init : axGood mtX1_init := ⟨List.mem_of_getElem? (i := 66) (by decide +kernel), List.mem_of_getElem? (i := 13) (by decide +kernel), rfl, by decide, by decide +kernel, ⟨by decide +kernel, by decide +kernel⟩, ckX1_init, by decide +kernel⟩
theorem moX2_init : axGood mtX2_init := ⟨List.mem_of_getElem? (i := 84) (by decide +kernel), List.mem_of_getElem? (i := 14) (by decide +kernel), rfl, by decide, by decide +kernel, ⟨by decide +kernel, by decide +kernel⟩, ckX2_init, by decide +kernel⟩
theorem moX3_init : axGood mtX3_init := ⟨List.mem_of_getElem? (i := 108) (by decide +kernel), List.mem_of_getElem? (i := 15) (by decide +kernel), rfl, by decide, by decide +kernel, ⟨by decide +kernel, by decide +kernel⟩, ckX3_init, by decide +kernel⟩
theorem moX4_bestSwap : axGood mtX4_bestSwap := ⟨List.mem_of_getElem? (i := 142) (by decide +kernel), List.mem_of_getElem? (i := 11) (by decide +kernel), rfl, by decide, by decide +kernel, ⟨by decide +kernel, by decide +kernel⟩, ckX4_bestSwap, by decide +kernel⟩
theorem moX3_run : axGood mtX3_run := ⟨List.mem_of_getElem? (i := 146) (by decide +kernel), List.mem_of_getElem? (i := 15) (by decide +kernel), rfl, by decide, by decide +kernel, ⟨by decide +kernel, by decide +kernel⟩, ckX3_run, by decide +kernel⟩
theorem moX0_offTogether : axGood mtX0_offTogether := ⟨List.mem_of_getElem? (i := 150) (by decide +kernel), List.mem_of_getElem? (i := 12) (by decide +kernel), rfl, by decide, by decide +kernel, ⟨by decide +kernel, by decide +kernel⟩, ckX0_offTogether, by decide +kernel⟩
theorem moX0_offOfRow : axGood mtX0_offOfRow := ⟨List.mem_of_getElem? (i := 154) (by decide +kernel), List.mem_of_getElem? (i := 12) (by decide +kernel), rfl, by decide, by decide +kernel, ⟨by decide +kernel, by decide +kernel⟩, ckX0_offOfRow, by decide +kernel⟩
theorem moX4_cell : axGood mtX4_cell := ⟨List.mem_of_getElem? (i := 157) (by decide +kernel), List.mem_of_getElem? (i := 11) (by decide +kernel), rfl, by decide, by decide +kernel, ⟨by decide +kernel, by decide +kernel⟩, ckX4_cell, by decide +kernel⟩
theorem moX4_contains : axGood mtX4_contains := ⟨List.mem_of_getElem? (i := 160) (by decide +kernel), List.mem_of_getElem? (i := 11) (by decide +kernel), rfl, by decide, by decide +kernel, ⟨by decide +kernel, by decide +kernel⟩, ckX4_contains, by decide +kernel⟩
theorem moX0_targetOf : axGood mtX0_targetOf := ⟨List.mem_of_getElem? (i := 164) (by decide +kernel), List.mem_of_getElem? (i := 12) (by decide +kernel), rfl, by decide, by decide +kernel, ⟨by decide +kernel, by decide +kernel⟩, ckX0_targetOf, by decide +kernel⟩
theorem moX0_size : axGood mtX0_size := ⟨List.mem_of_getElem? (i := 174) (by decide +kernel), List.mem_of_getElem? (i := 12) (by decide +kernel), rfl, by decide, by decide +kernel, ⟨by decide +kernel, by decide +kernel⟩, ckX0_size, by decide +kernel⟩
theorem moX0_slugIn : axGood mtX0_slugIn := ⟨List.mem_of_getElem? (i := 178) (by decide +kernel), List.mem_of_getElem? (i := 12) (by decide +kernel), rfl, by decide, by decide +kernel, ⟨by decide +kernel, by decide +kernel⟩, ckX0_slugIn, by decide +kernel⟩
theorem moX4_store : axGood mtX4_store := ⟨List.mem_of_getElem? (i := 181) (by decide +kernel), List.mem_of_getElem? (i := 11) (by decide +kernel), rfl, by decide, by decide +kernel, ⟨by decide +kernel, by decide +kernel⟩, ckX4_store, by decide +kernel⟩
theorem moX3_tryAllBehind : axGood mtX3_tryAllBehind := ⟨List.mem_of_getElem? (i := 185) (by decide +kernel), List.mem_of_getElem? (i := 15) (by decide +kernel), rfl, by decide, by decide +kernel, ⟨by decide +kernel, by decide +kernel⟩, ckX3_tryAllBehind, by decide +kernel⟩
theorem moX0_highestPlace : axGood mtX0_highestPlace := ⟨List.mem_of_getElem? (i := 189) (by decide +kernel), List.mem_of_getElem? (i := 12) (by decide +kernel), rfl, by decide, by decide +kernel, ⟨by decide +kernel, by decide +kernel⟩, ckX0_highestPlace, by decide +kernel⟩
theorem moX0_lowestPlace : axGood mtX0_lowestPlace := ⟨List.mem_of_getElem? (i := 193) (by decide +kernel), List.mem_of_getElem? (i := 12) (by decide +kernel), rfl, by decide, by decide +kernel, ⟨by decide +kernel, by decide +kernel⟩, ckX0_lowestPlace, by decide +kernel⟩
theorem moX0_needsOf : axGood mtX0_needsOf := ⟨List.mem_of_getElem? (i := 197) (by decide +kernel), List.mem_of_getElem? (i := 12) (by decide +kernel), rfl, by decide, by decide +kernel, ⟨by decide +kernel, by decide +kernel⟩, ckX0_needsOf, by decide +kernel⟩
theorem moX3_tryOne : axGood mtX3_tryOne := ⟨List.mem_of_getElem? (i := 201) (by decide +kernel), List.mem_of_getElem? (i := 15) (by decide +kernel), rfl, by decide, by decide +kernel, ⟨by decide +kernel, by decide +kernel⟩, ckX3_tryOne, by decide +kernel⟩
theorem moX3_exchange : axGood mtX3_exchange := ⟨List.mem_of_getElem? (i := 205) (by decide +kernel), List.mem_of_getElem? (i := 15) (by decide +kernel), rfl, by decide, by decide +kernel, ⟨by decide +kernel, by decide +kernel⟩, ckX3_exchange, by decide +kernel⟩
theorem moX0_allTurns : axGood mtX0_allTurns := ⟨List.mem_of_getElem? (i := 210) (by decide +kernel), List.mem_of_getElem? (i := 12) (by decide +kernel), rfl, by decide, by decide +kernel, ⟨by decide +kernel, by decide +kernel⟩, ckX0_allTurns, by decide +kernel⟩
theorem moX3_isFound : axGood mtX3_isFound := ⟨List.mem_of_getElem? (i := 215) (by decide +kernel), List.mem_of_getElem? (i := 15) (by decide +kernel), rfl, by decide, by decide +kernel, ⟨by decide +kernel, by decide +kernel⟩, ckX3_isFound, by decide +kernel⟩
theorem moX3_lowerPlace : axGood mtX3_lowerPlace := ⟨List.mem_of_getElem? (i := 219) (by decide +kernel), List.mem_of_getElem? (i := 15) (by decide +kernel), rfl, by decide, by decide +kernel, ⟨by decide +kernel, by decide +kernel⟩, ckX3_lowerPlace, by decide +kernel⟩
theorem moX3_higherPlace : axGood mtX3_higherPlace := ⟨List.mem_of_getElem? (i := 224) (by decide +kernel), List.mem_of_getElem? (i := 15) (by decide +kernel), rfl, by decide, by decide +kernel, ⟨by decide +kernel, by decide +kernel⟩, ckX3_higherPlace, by decide +kernel⟩
theorem moX3_leastOff : axGood mtX3_leastOff := ⟨List.mem_of_getElem? (i := 228) (by decide +kernel), List.mem_of_getElem? (i := 15) (by decide +kernel), rfl, by decide, by decide +kernel, ⟨by decide +kernel, by decide +kernel⟩, ckX3_leastOff, by decide +kernel⟩
theorem moX4_ifFitted : axGood mtX4_ifFitted := ⟨List.mem_of_getElem? (i := 232) (by decide +kernel), List.mem_of_getElem? (i := 11) (by decide +kernel), rfl, by decide, by decide +kernel, ⟨by decide +kernel, by decide +kernel⟩, ckX4_ifFitted, by decide +kernel⟩
theorem moX0_cutOf : axGood mtX0_cutOf := ⟨List.mem_of_getElem? (i := 236) (by decide +kernel), List.mem_of_getElem? (i := 12) (by decide +kernel), rfl, by decide, by decide +kernel, ⟨by decide +kernel, by decide +kernel⟩, ckX0_cutOf, by decide +kernel⟩
theorem moX0_hasAct : axGood mtX0_hasAct := ⟨List.mem_of_getElem? (i := 240) (by decide +kernel), List.mem_of_getElem? (i := 12) (by decide +kernel), rfl, by decide, by decide +kernel, ⟨by decide +kernel, by decide +kernel⟩, ckX0_hasAct, by decide +kernel⟩
theorem moX0_actCount : axGood mtX0_actCount := ⟨List.mem_of_getElem? (i := 244) (by decide +kernel), List.mem_of_getElem? (i := 12) (by decide +kernel), rfl, by decide, by decide +kernel, ⟨by decide +kernel, by decide +kernel⟩, ckX0_actCount, by decide +kernel⟩
theorem moJ_bitCount : axGood mtJ_bitCount := ⟨List.mem_of_getElem? (i := 247) (by decide +kernel), List.mem_of_getElem? (i := 17) (by decide +kernel), rfl, by decide, by decide +kernel, ⟨by decide +kernel, by decide +kernel⟩, ckJ_bitCount, by decide +kernel⟩
theorem moX0_offOf : axGood mtX0_offOf := ⟨List.mem_of_getElem? (i := 254) (by decide +kernel), List.mem_of_getElem? (i := 12) (by decide +kernel), rfl, by decide, by decide +kernel, ⟨by decide +kernel, by decide +kernel⟩, ckX0_offOf, by decide +kernel⟩
theorem moX0_startOf : axGood mtX0_startOf := ⟨List.mem_of_getElem? (i := 258) (by decide +kernel), List.mem_of_getElem? (i := 12) (by decide +kernel), rfl, by decide, by decide +kernel, ⟨by decide +kernel, by decide +kernel⟩, ckX0_startOf, by decide +kernel⟩
theorem moX0_beatsIn : axGood mtX0_beatsIn := ⟨List.mem_of_getElem? (i := 262) (by decide +kernel), List.mem_of_getElem? (i := 12) (by decide +kernel), rfl, by decide, by decide +kernel, ⟨by decide +kernel, by decide +kernel⟩, ckX0_beatsIn, by decide +kernel⟩
theorem moX0_roomIn : axGood mtX0_roomIn := ⟨List.mem_of_getElem? (i := 269) (by decide +kernel), List.mem_of_getElem? (i := 12) (by decide +kernel), rfl, by decide, by decide +kernel, ⟨by decide +kernel, by decide +kernel⟩, ckX0_roomIn, by decide +kernel⟩
theorem moX0_roomOf : axGood mtX0_roomOf := ⟨List.mem_of_getElem? (i := 273) (by decide +kernel), List.mem_of_getElem? (i := 12) (by decide +kernel), rfl, by decide, by decide +kernel, ⟨by decide +kernel, by decide +kernel⟩, ckX0_roomOf, by decide +kernel⟩
theorem moX0_settingOf : axGood mtX0_settingOf := ⟨List.mem_of_getElem? (i := 277) (by decide +kernel), List.mem_of_getElem? (i := 12) (by decide +kernel), rfl, by decide, by decide +kernel, ⟨by decide +kernel, by decide +kernel⟩, ckX0_settingOf, by decide +kernel⟩
theorem moL_cell : axGood mtL_cell := ⟨List.mem_of_getElem? (i := 280) (by decide +kernel), List.mem_of_getElem? (i := 10) (by decide +kernel), rfl, by decide, by decide +kernel, ⟨by decide +kernel, by decide +kernel⟩, ckL_cell, by decide +kernel⟩
set_option maxRecDepth 100000 in
theorem moL_holds : axGood mtL_holds := ⟨List.mem_of_getElem? (i := 285) rfl, List.mem_of_getElem? (i := 10) (by decide +kernel), rfl, by decide, by decide +kernel, ⟨by decide +kernel, by decide +kernel⟩, ckL_holds, by decide +kernel⟩
theorem moL_many : axGood mtL_many := ⟨List.mem_of_getElem? (i := 288) (by decide +kernel), List.mem_of_getElem? (i := 10) (by decide +kernel), rfl, by decide, by decide +kernel, ⟨by decide +kernel, by decide +kernel⟩, ckL_many, by decide +kernel⟩
theorem moX4_at : axGood mtX4_at := ⟨List.mem_of_getElem? (i := 292) (by decide +kernel), List.mem_of_getElem? (i := 11) (by decide +kernel), rfl, by decide, by decide +kernel, ⟨by decide +kernel, by decide +kernel⟩, ckX4_at, by decide +kernel⟩
theorem moX4_of : axGood mtX4_of := ⟨List.mem_of_getElem? (i := 296) (by decide +kernel), List.mem_of_getElem? (i := 11) (by decide +kernel), rfl, by decide, by decide +kernel, ⟨by decide +kernel, by decide +kernel⟩, ckX4_of, by decide +kernel⟩
theorem moX0_has : axGood mtX0_has := ⟨List.mem_of_getElem? (i := 300) (by decide +kernel), List.mem_of_getElem? (i := 12) (by decide +kernel), rfl, by decide, by decide +kernel, ⟨by decide +kernel, by decide +kernel⟩, ckX0_has, by decide +kernel⟩
theorem moX0_placeOf : axGood mtX0_placeOf := ⟨List.mem_of_getElem? (i := 304) (by decide +kernel), List.mem_of_getElem? (i := 12) (by decide +kernel), rfl, by decide, by decide +kernel, ⟨by decide +kernel, by decide +kernel⟩, ckX0_placeOf, by decide +kernel⟩
theorem moX0_writtenOf : axGood mtX0_writtenOf := ⟨List.mem_of_getElem? (i := 308) (by decide +kernel), List.mem_of_getElem? (i := 12) (by decide +kernel), rfl, by decide, by decide +kernel, ⟨by decide +kernel, by decide +kernel⟩, ckX0_writtenOf, by decide +kernel⟩
theorem moX0_beatsOf : axGood mtX0_beatsOf := ⟨List.mem_of_getElem? (i := 312) (by decide +kernel), List.mem_of_getElem? (i := 12) (by decide +kernel), rfl, by decide, by decide +kernel, ⟨by decide +kernel, by decide +kernel⟩, ckX0_beatsOf, by decide +kernel⟩
theorem moX0_isTurn : axGood mtX0_isTurn := ⟨List.mem_of_getElem? (i := 316) (by decide +kernel), List.mem_of_getElem? (i := 12) (by decide +kernel), rfl, by decide, by decide +kernel, ⟨by decide +kernel, by decide +kernel⟩, ckX0_isTurn, by decide +kernel⟩
theorem moX0_needersOf : axGood mtX0_needersOf := ⟨List.mem_of_getElem? (i := 321) (by decide +kernel), List.mem_of_getElem? (i := 12) (by decide +kernel), rfl, by decide, by decide +kernel, ⟨by decide +kernel, by decide +kernel⟩, ckX0_needersOf, by decide +kernel⟩
theorem moX4_bit : axGood mtX4_bit := ⟨List.mem_of_getElem? (i := 324) (by decide +kernel), List.mem_of_getElem? (i := 11) (by decide +kernel), rfl, by decide, by decide +kernel, ⟨by decide +kernel, by decide +kernel⟩, ckX4_bit, by decide +kernel⟩
theorem moX0_pageBeats : axGood mtX0_pageBeats := ⟨List.mem_of_getElem? (i := 329) (by decide +kernel), List.mem_of_getElem? (i := 12) (by decide +kernel), rfl, by decide, by decide +kernel, ⟨by decide +kernel, by decide +kernel⟩, ckX0_pageBeats, by decide +kernel⟩
theorem moX0_turnsAhead : axGood mtX0_turnsAhead := ⟨List.mem_of_getElem? (i := 333) (by decide +kernel), List.mem_of_getElem? (i := 12) (by decide +kernel), rfl, by decide, by decide +kernel, ⟨by decide +kernel, by decide +kernel⟩, ckX0_turnsAhead, by decide +kernel⟩
theorem moX4_needs : axGood mtX4_needs := ⟨List.mem_of_getElem? (i := 338) (by decide +kernel), List.mem_of_getElem? (i := 11) (by decide +kernel), rfl, by decide, by decide +kernel, ⟨by decide +kernel, by decide +kernel⟩, ckX4_needs, by decide +kernel⟩
theorem moX0_allNeedsOf : axGood mtX0_allNeedsOf := ⟨List.mem_of_getElem? (i := 342) (by decide +kernel), List.mem_of_getElem? (i := 12) (by decide +kernel), rfl, by decide, by decide +kernel, ⟨by decide +kernel, by decide +kernel⟩, ckX0_allNeedsOf, by decide +kernel⟩
theorem moX4_atBeat : axGood mtX4_atBeat := ⟨List.mem_of_getElem? (i := 346) (by decide +kernel), List.mem_of_getElem? (i := 11) (by decide +kernel), rfl, by decide, by decide +kernel, ⟨by decide +kernel, by decide +kernel⟩, ckX4_atBeat, by decide +kernel⟩
theorem moX0_slugAtBeat : axGood mtX0_slugAtBeat := ⟨List.mem_of_getElem? (i := 350) (by decide +kernel), List.mem_of_getElem? (i := 12) (by decide +kernel), rfl, by decide, by decide +kernel, ⟨by decide +kernel, by decide +kernel⟩, ckX0_slugAtBeat, by decide +kernel⟩
theorem moX4_places : axGood mtX4_places := ⟨List.mem_of_getElem? (i := 355) (by decide +kernel), List.mem_of_getElem? (i := 11) (by decide +kernel), rfl, by decide, by decide +kernel, ⟨by decide +kernel, by decide +kernel⟩, ckX4_places, by decide +kernel⟩
theorem moX4_count : axGood mtX4_count := ⟨List.mem_of_getElem? (i := 362) (by decide +kernel), List.mem_of_getElem? (i := 11) (by decide +kernel), rfl, by decide, by decide +kernel, ⟨by decide +kernel, by decide +kernel⟩, ckX4_count, by decide +kernel⟩
theorem moX0_allSlugs : axGood mtX0_allSlugs := ⟨List.mem_of_getElem? (i := 366) (by decide +kernel), List.mem_of_getElem? (i := 12) (by decide +kernel), rfl, by decide, by decide +kernel, ⟨by decide +kernel, by decide +kernel⟩, ckX0_allSlugs, by decide +kernel⟩
theorem moX0_allBeats : axGood mtX0_allBeats := ⟨List.mem_of_getElem? (i := 371) (by decide +kernel), List.mem_of_getElem? (i := 12) (by decide +kernel), rfl, by decide, by decide +kernel, ⟨by decide +kernel, by decide +kernel⟩, ckX0_allBeats, by decide +kernel⟩
theorem moX0_fittingActs : axGood mtX0_fittingActs := ⟨List.mem_of_getElem? (i := 376) (by decide +kernel), List.mem_of_getElem? (i := 12) (by decide +kernel), rfl, by decide, by decide +kernel, ⟨by decide +kernel, by decide +kernel⟩, ckX0_fittingActs, by decide +kernel⟩
theorem moX0_isFitting : axGood mtX0_isFitting := ⟨List.mem_of_getElem? (i := 380) (by decide +kernel), List.mem_of_getElem? (i := 12) (by decide +kernel), rfl, by decide, by decide +kernel, ⟨by decide +kernel, by decide +kernel⟩, ckX0_isFitting, by decide +kernel⟩
theorem moX0_isOpen : axGood mtX0_isOpen := ⟨List.mem_of_getElem? (i := 384) (by decide +kernel), List.mem_of_getElem? (i := 12) (by decide +kernel), rfl, by decide, by decide +kernel, ⟨by decide +kernel, by decide +kernel⟩, ckX0_isOpen, by decide +kernel⟩
theorem moX0_longestSlug : axGood mtX0_longestSlug := ⟨List.mem_of_getElem? (i := 388) (by decide +kernel), List.mem_of_getElem? (i := 12) (by decide +kernel), rfl, by decide, by decide +kernel, ⟨by decide +kernel, by decide +kernel⟩, ckX0_longestSlug, by decide +kernel⟩
theorem moX2_size : axGood mtX2_size := ⟨List.mem_of_getElem? (i := 393) (by decide +kernel), List.mem_of_getElem? (i := 14) (by decide +kernel), rfl, by decide, by decide +kernel, ⟨by decide +kernel, by decide +kernel⟩, ckX2_size, by decide +kernel⟩
theorem moX1_size : axGood mtX1_size := ⟨List.mem_of_getElem? (i := 397) (by decide +kernel), List.mem_of_getElem? (i := 13) (by decide +kernel), rfl, by decide, by decide +kernel, ⟨by decide +kernel, by decide +kernel⟩, ckX1_size, by decide +kernel⟩
theorem moX4_ofAct : axGood mtX4_ofAct := ⟨List.mem_of_getElem? (i := 401) (by decide +kernel), List.mem_of_getElem? (i := 11) (by decide +kernel), rfl, by decide, by decide +kernel, ⟨by decide +kernel, by decide +kernel⟩, ckX4_ofAct, by decide +kernel⟩
theorem moL_swapsBest : axGood mtL_swapsBest := ⟨List.mem_of_getElem? (i := 411) (by decide +kernel), List.mem_of_getElem? (i := 10) (by decide +kernel), rfl, by decide, by decide +kernel, ⟨by decide +kernel, by decide +kernel⟩, ckL_swapsBest, by decide +kernel⟩
theorem moX4_swap : axGood mtX4_swap := ⟨List.mem_of_getElem? (i := 415) (by decide +kernel), List.mem_of_getElem? (i := 11) (by decide +kernel), rfl, by decide, by decide +kernel, ⟨by decide +kernel, by decide +kernel⟩, ckX4_swap, by decide +kernel⟩
theorem moX1_prepare : axGood mtX1_prepare := ⟨List.mem_of_getElem? (i := 419) (by decide +kernel), List.mem_of_getElem? (i := 13) (by decide +kernel), rfl, by decide, by decide +kernel, ⟨by decide +kernel, by decide +kernel⟩, ckX1_prepare, by decide +kernel⟩
theorem moX4_copyInto : axGood mtX4_copyInto := ⟨List.mem_of_getElem? (i := 422) (by decide +kernel), List.mem_of_getElem? (i := 11) (by decide +kernel), rfl, by decide, by decide +kernel, ⟨by decide +kernel, by decide +kernel⟩, ckX4_copyInto, by decide +kernel⟩
theorem moX0_takeOver : axGood mtX0_takeOver := ⟨List.mem_of_getElem? (i := 426) (by decide +kernel), List.mem_of_getElem? (i := 12) (by decide +kernel), rfl, by decide, by decide +kernel, ⟨by decide +kernel, by decide +kernel⟩, ckX0_takeOver, by decide +kernel⟩
theorem moX0_swapSlugs : axGood mtX0_swapSlugs := ⟨List.mem_of_getElem? (i := 433) (by decide +kernel), List.mem_of_getElem? (i := 12) (by decide +kernel), rfl, by decide, by decide +kernel, ⟨by decide +kernel, by decide +kernel⟩, ckX0_swapSlugs, by decide +kernel⟩
theorem moX0_mayStandIn : axGood mtX0_mayStandIn := ⟨List.mem_of_getElem? (i := 439) (by decide +kernel), List.mem_of_getElem? (i := 12) (by decide +kernel), rfl, by decide, by decide +kernel, ⟨by decide +kernel, by decide +kernel⟩, ckX0_mayStandIn, by decide +kernel⟩
theorem moX1_settle : axGood mtX1_settle := ⟨List.mem_of_getElem? (i := 446) (by decide +kernel), List.mem_of_getElem? (i := 13) (by decide +kernel), rfl, by decide, by decide +kernel, ⟨by decide +kernel, by decide +kernel⟩, ckX1_settle, by decide +kernel⟩
theorem moX4_undo : axGood mtX4_undo := ⟨List.mem_of_getElem? (i := 451) (by decide +kernel), List.mem_of_getElem? (i := 11) (by decide +kernel), rfl, by decide, by decide +kernel, ⟨by decide +kernel, by decide +kernel⟩, ckX4_undo, by decide +kernel⟩
theorem moX1_takeBack : axGood mtX1_takeBack := ⟨List.mem_of_getElem? (i := 455) (by decide +kernel), List.mem_of_getElem? (i := 13) (by decide +kernel), rfl, by decide, by decide +kernel, ⟨by decide +kernel, by decide +kernel⟩, ckX1_takeBack, by decide +kernel⟩
set_option maxRecDepth 100000 in
theorem moL_act : axGood mtL_act := ⟨List.mem_of_getElem? (i := 459) rfl, List.mem_of_getElem? (i := 10) (by decide +kernel), rfl, by decide, by decide +kernel, ⟨by decide +kernel, by decide +kernel⟩, ckL_act, by decide +kernel⟩
theorem moL_low : axGood mtL_low := ⟨List.mem_of_getElem? (i := 462) (by decide +kernel), List.mem_of_getElem? (i := 10) (by decide +kernel), rfl, by decide, by decide +kernel, ⟨by decide +kernel, by decide +kernel⟩, ckL_low, by decide +kernel⟩
theorem moX4_slug : axGood mtX4_slug := ⟨List.mem_of_getElem? (i := 467) (by decide +kernel), List.mem_of_getElem? (i := 11) (by decide +kernel), rfl, by decide, by decide +kernel, ⟨by decide +kernel, by decide +kernel⟩, ckX4_slug, by decide +kernel⟩
theorem moX0_addSlug : axGood mtX0_addSlug := ⟨List.mem_of_getElem? (i := 471) (by decide +kernel), List.mem_of_getElem? (i := 12) (by decide +kernel), rfl, by decide, by decide +kernel, ⟨by decide +kernel, by decide +kernel⟩, ckX0_addSlug, by decide +kernel⟩
theorem moX0_makeSlug : axGood mtX0_makeSlug := ⟨List.mem_of_getElem? (i := 475) (by decide +kernel), List.mem_of_getElem? (i := 12) (by decide +kernel), rfl, by decide, by decide +kernel, ⟨by decide +kernel, by decide +kernel⟩, ckX0_makeSlug, by decide +kernel⟩
theorem moX0_lowestFree : axGood mtX0_lowestFree := ⟨List.mem_of_getElem? (i := 479) (by decide +kernel), List.mem_of_getElem? (i := 12) (by decide +kernel), rfl, by decide, by decide +kernel, ⟨by decide +kernel, by decide +kernel⟩, ckX0_lowestFree, by decide +kernel⟩
theorem moX0_putIn : axGood mtX0_putIn := ⟨List.mem_of_getElem? (i := 483) (by decide +kernel), List.mem_of_getElem? (i := 12) (by decide +kernel), rfl, by decide, by decide +kernel, ⟨by decide +kernel, by decide +kernel⟩, ckX0_putIn, by decide +kernel⟩
theorem moX4_drop : axGood mtX4_drop := ⟨List.mem_of_getElem? (i := 487) (by decide +kernel), List.mem_of_getElem? (i := 11) (by decide +kernel), rfl, by decide, by decide +kernel, ⟨by decide +kernel, by decide +kernel⟩, ckX4_drop, by decide +kernel⟩
theorem moX0_dropSlug : axGood mtX0_dropSlug := ⟨List.mem_of_getElem? (i := 491) (by decide +kernel), List.mem_of_getElem? (i := 12) (by decide +kernel), rfl, by decide, by decide +kernel, ⟨by decide +kernel, by decide +kernel⟩, ckX0_dropSlug, by decide +kernel⟩
theorem moX0_takeOut : axGood mtX0_takeOut := ⟨List.mem_of_getElem? (i := 495) (by decide +kernel), List.mem_of_getElem? (i := 12) (by decide +kernel), rfl, by decide, by decide +kernel, ⟨by decide +kernel, by decide +kernel⟩, ckX0_takeOut, by decide +kernel⟩
theorem moX4_ifTurned : axGood mtX4_ifTurned := ⟨List.mem_of_getElem? (i := 499) (by decide +kernel), List.mem_of_getElem? (i := 11) (by decide +kernel), rfl, by decide, by decide +kernel, ⟨by decide +kernel, by decide +kernel⟩, ckX4_ifTurned, by decide +kernel⟩
theorem moX0_offIfTurned : axGood mtX0_offIfTurned := ⟨List.mem_of_getElem? (i := 503) (by decide +kernel), List.mem_of_getElem? (i := 12) (by decide +kernel), rfl, by decide, by decide +kernel, ⟨by decide +kernel, by decide +kernel⟩, ckX0_offIfTurned, by decide +kernel⟩
theorem moX4_turn : axGood mtX4_turn := ⟨List.mem_of_getElem? (i := 507) (by decide +kernel), List.mem_of_getElem? (i := 11) (by decide +kernel), rfl, by decide, by decide +kernel, ⟨by decide +kernel, by decide +kernel⟩, ckX4_turn, by decide +kernel⟩
theorem moX0_flipTurn : axGood mtX0_flipTurn := ⟨List.mem_of_getElem? (i := 511) (by decide +kernel), List.mem_of_getElem? (i := 12) (by decide +kernel), rfl, by decide, by decide +kernel, ⟨by decide +kernel, by decide +kernel⟩, ckX0_flipTurn, by decide +kernel⟩
theorem moX4_need : axGood mtX4_need := ⟨List.mem_of_getElem? (i := 516) (by decide +kernel), List.mem_of_getElem? (i := 11) (by decide +kernel), rfl, by decide, by decide +kernel, ⟨by decide +kernel, by decide +kernel⟩, ckX4_need, by decide +kernel⟩
theorem moX0_flipNeed : axGood mtX0_flipNeed := ⟨List.mem_of_getElem? (i := 520) (by decide +kernel), List.mem_of_getElem? (i := 12) (by decide +kernel), rfl, by decide, by decide +kernel, ⟨by decide +kernel, by decide +kernel⟩, ckX0_flipNeed, by decide +kernel⟩
theorem moL_tale : axGood mtL_tale := ⟨List.mem_of_getElem? (i := 523) (by decide +kernel), List.mem_of_getElem? (i := 10) (by decide +kernel), rfl, by decide, by decide +kernel, ⟨by decide +kernel, by decide +kernel⟩, ckL_tale, by decide +kernel⟩
theorem moX4_trim : axGood mtX4_trim := ⟨List.mem_of_getElem? (i := 529) (by decide +kernel), List.mem_of_getElem? (i := 11) (by decide +kernel), rfl, by decide, by decide +kernel, ⟨by decide +kernel, by decide +kernel⟩, ckX4_trim, by decide +kernel⟩
theorem moX0_trimSlug : axGood mtX0_trimSlug := ⟨List.mem_of_getElem? (i := 533) (by decide +kernel), List.mem_of_getElem? (i := 12) (by decide +kernel), rfl, by decide, by decide +kernel, ⟨by decide +kernel, by decide +kernel⟩, ckX0_trimSlug, by decide +kernel⟩
theorem moX4_restoreTail : axGood mtX4_restoreTail := ⟨List.mem_of_getElem? (i := 537) (by decide +kernel), List.mem_of_getElem? (i := 11) (by decide +kernel), rfl, by decide, by decide +kernel, ⟨by decide +kernel, by decide +kernel⟩, ckX4_restoreTail, by decide +kernel⟩
theorem moX0_giveBack : axGood mtX0_giveBack := ⟨List.mem_of_getElem? (i := 541) (by decide +kernel), List.mem_of_getElem? (i := 12) (by decide +kernel), rfl, by decide, by decide +kernel, ⟨by decide +kernel, by decide +kernel⟩, ckX0_giveBack, by decide +kernel⟩
theorem moL_moves : axGood mtL_moves := ⟨List.mem_of_getElem? (i := 545) (by decide +kernel), List.mem_of_getElem? (i := 10) (by decide +kernel), rfl, by decide, by decide +kernel, ⟨by decide +kernel, by decide +kernel⟩, ckL_moves, by decide +kernel⟩
theorem moX4_move : axGood mtX4_move := ⟨List.mem_of_getElem? (i := 549) (by decide +kernel), List.mem_of_getElem? (i := 11) (by decide +kernel), rfl, by decide, by decide +kernel, ⟨by decide +kernel, by decide +kernel⟩, ckX4_move, by decide +kernel⟩
theorem moX0_moveSlug : axGood mtX0_moveSlug := ⟨List.mem_of_getElem? (i := 553) (by decide +kernel), List.mem_of_getElem? (i := 12) (by decide +kernel), rfl, by decide, by decide +kernel, ⟨by decide +kernel, by decide +kernel⟩, ckX0_moveSlug, by decide +kernel⟩
theorem moX4_split : axGood mtX4_split := ⟨List.mem_of_getElem? (i := 557) (by decide +kernel), List.mem_of_getElem? (i := 11) (by decide +kernel), rfl, by decide, by decide +kernel, ⟨by decide +kernel, by decide +kernel⟩, ckX4_split, by decide +kernel⟩
theorem moX0_splitSlug : axGood mtX0_splitSlug := ⟨List.mem_of_getElem? (i := 561) (by decide +kernel), List.mem_of_getElem? (i := 12) (by decide +kernel), rfl, by decide, by decide +kernel, ⟨by decide +kernel, by decide +kernel⟩, ckX0_splitSlug, by decide +kernel⟩
theorem moX0_handOverNeeds : axGood mtX0_handOverNeeds := ⟨List.mem_of_getElem? (i := 565) (by decide +kernel), List.mem_of_getElem? (i := 12) (by decide +kernel), rfl, by decide, by decide +kernel, ⟨by decide +kernel, by decide +kernel⟩, ckX0_handOverNeeds, by decide +kernel⟩
theorem moX0_handOverTurn : axGood mtX0_handOverTurn := ⟨List.mem_of_getElem? (i := 569) (by decide +kernel), List.mem_of_getElem? (i := 12) (by decide +kernel), rfl, by decide, by decide +kernel, ⟨by decide +kernel, by decide +kernel⟩, ckX0_handOverTurn, by decide +kernel⟩
theorem moL_fits : axGood mtL_fits := ⟨List.mem_of_getElem? (i := 572) (by decide +kernel), List.mem_of_getElem? (i := 10) (by decide +kernel), rfl, by decide, by decide +kernel, ⟨by decide +kernel, by decide +kernel⟩, ckL_fits, by decide +kernel⟩
theorem moX4_fit : axGood mtX4_fit := ⟨List.mem_of_getElem? (i := 576) (by decide +kernel), List.mem_of_getElem? (i := 11) (by decide +kernel), rfl, by decide, by decide +kernel, ⟨by decide +kernel, by decide +kernel⟩, ckX4_fit, by decide +kernel⟩
theorem moX0_fitAct : axGood mtX0_fitAct := ⟨List.mem_of_getElem? (i := 580) (by decide +kernel), List.mem_of_getElem? (i := 12) (by decide +kernel), rfl, by decide, by decide +kernel, ⟨by decide +kernel, by decide +kernel⟩, ckX0_fitAct, by decide +kernel⟩
theorem moX4_target : axGood mtX4_target := ⟨List.mem_of_getElem? (i := 585) (by decide +kernel), List.mem_of_getElem? (i := 11) (by decide +kernel), rfl, by decide, by decide +kernel, ⟨by decide +kernel, by decide +kernel⟩, ckX4_target, by decide +kernel⟩
theorem moX0_changeTarget : axGood mtX0_changeTarget := ⟨List.mem_of_getElem? (i := 589) (by decide +kernel), List.mem_of_getElem? (i := 12) (by decide +kernel), rfl, by decide, by decide +kernel, ⟨by decide +kernel, by decide +kernel⟩, ckX0_changeTarget, by decide +kernel⟩
theorem moX4_set : axGood mtX4_set := ⟨List.mem_of_getElem? (i := 593) (by decide +kernel), List.mem_of_getElem? (i := 11) (by decide +kernel), rfl, by decide, by decide +kernel, ⟨by decide +kernel, by decide +kernel⟩, ckX4_set, by decide +kernel⟩
theorem moX0_changeSetting : axGood mtX0_changeSetting := ⟨List.mem_of_getElem? (i := 597) (by decide +kernel), List.mem_of_getElem? (i := 12) (by decide +kernel), rfl, by decide, by decide +kernel, ⟨by decide +kernel, by decide +kernel⟩, ckX0_changeSetting, by decide +kernel⟩
theorem axMs0_ok : ∀ M ∈ axMs0, axGood M := List.forall_mem_cons.mpr ⟨moX4_init, List.forall_mem_cons.mpr ⟨moX0_init, List.forall_mem_cons.mpr ⟨moX1_init, List.forall_mem_cons.mpr ⟨moX2_init, List.forall_mem_cons.mpr ⟨moX3_init, List.forall_mem_cons.mpr ⟨moX4_bestSwap, List.forall_mem_cons.mpr ⟨moX3_run, List.forall_mem_cons.mpr ⟨moX0_offTogether, List.forall_mem_cons.mpr ⟨moX0_offOfRow, List.forall_mem_cons.mpr ⟨moX4_cell, List.forall_mem_cons.mpr ⟨moX4_contains, List.forall_mem_cons.mpr ⟨moX0_targetOf, List.forall_mem_cons.mpr ⟨moX0_size, List.forall_mem_cons.mpr ⟨moX0_slugIn, List.forall_mem_cons.mpr ⟨moX4_store, List.forall_mem_cons.mpr ⟨moX3_tryAllBehind, List.forall_mem_cons.mpr ⟨moX0_highestPlace, List.forall_mem_cons.mpr ⟨moX0_lowestPlace, List.forall_mem_cons.mpr ⟨moX0_needsOf, List.forall_mem_cons.mpr ⟨moX3_tryOne, List.forall_mem_cons.mpr ⟨moX3_exchange, List.forall_mem_cons.mpr ⟨moX0_allTurns, List.forall_mem_cons.mpr ⟨moX3_isFound, List.forall_mem_cons.mpr ⟨moX3_lowerPlace, List.forall_mem_cons.mpr ⟨moX3_higherPlace, List.forall_mem_cons.mpr ⟨moX3_leastOff, List.forall_mem_cons.mpr ⟨moX4_ifFitted, List.forall_mem_cons.mpr ⟨moX0_cutOf, List.forall_mem_cons.mpr ⟨moX0_hasAct, List.forall_mem_cons.mpr ⟨moX0_actCount, List.forall_mem_cons.mpr ⟨moJ_bitCount, List.forall_mem_cons.mpr ⟨moX0_offOf, List.forall_mem_cons.mpr ⟨moX0_startOf, List.forall_mem_cons.mpr ⟨moX0_beatsIn, fun _ h => absurd h List.not_mem_nil⟩⟩⟩⟩⟩⟩⟩⟩⟩⟩⟩⟩⟩⟩⟩⟩⟩⟩⟩⟩⟩⟩⟩⟩⟩⟩⟩⟩⟩⟩⟩⟩⟩⟩
theorem axMs1_ok : ∀ M ∈ axMs1, axGood M := List.forall_mem_cons.mpr ⟨moX0_roomIn, List.forall_mem_cons.mpr ⟨moX0_roomOf, List.forall_mem_cons.mpr ⟨moX0_settingOf, List.forall_mem_cons.mpr ⟨moL_cell, List.forall_mem_cons.mpr ⟨moL_holds, List.forall_mem_cons.mpr ⟨moL_many, List.forall_mem_cons.mpr ⟨moX4_at, List.forall_mem_cons.mpr ⟨moX4_of, List.forall_mem_cons.mpr ⟨moX0_has, List.forall_mem_cons.mpr ⟨moX0_placeOf, List.forall_mem_cons.mpr ⟨moX0_writtenOf, List.forall_mem_cons.mpr ⟨moX0_beatsOf, List.forall_mem_cons.mpr ⟨moX0_isTurn, List.forall_mem_cons.mpr ⟨moX0_needersOf, List.forall_mem_cons.mpr ⟨moX4_bit, List.forall_mem_cons.mpr ⟨moX0_pageBeats, List.forall_mem_cons.mpr ⟨moX0_turnsAhead, List.forall_mem_cons.mpr ⟨moX4_needs, List.forall_mem_cons.mpr ⟨moX0_allNeedsOf, List.forall_mem_cons.mpr ⟨moX4_atBeat, List.forall_mem_cons.mpr ⟨moX0_slugAtBeat, List.forall_mem_cons.mpr ⟨moX4_places, List.forall_mem_cons.mpr ⟨moX4_count, List.forall_mem_cons.mpr ⟨moX0_allSlugs, List.forall_mem_cons.mpr ⟨moX0_allBeats, List.forall_mem_cons.mpr ⟨moX0_fittingActs, List.forall_mem_cons.mpr ⟨moX0_isFitting, List.forall_mem_cons.mpr ⟨moX0_isOpen, List.forall_mem_cons.mpr ⟨moX0_longestSlug, List.forall_mem_cons.mpr ⟨moX2_size, List.forall_mem_cons.mpr ⟨moX1_size, List.forall_mem_cons.mpr ⟨moX4_ofAct, List.forall_mem_cons.mpr ⟨moL_swapsBest, List.forall_mem_cons.mpr ⟨moX4_swap, fun _ h => absurd h List.not_mem_nil⟩⟩⟩⟩⟩⟩⟩⟩⟩⟩⟩⟩⟩⟩⟩⟩⟩⟩⟩⟩⟩⟩⟩⟩⟩⟩⟩⟩⟩⟩⟩⟩⟩⟩
theorem axMs2_ok : ∀ M ∈ axMs2, axGood M := List.forall_mem_cons.mpr ⟨moX1_prepare, List.forall_mem_cons.mpr ⟨moX4_copyInto, List.forall_mem_cons.mpr ⟨moX0_takeOver, List.forall_mem_cons.mpr ⟨moX0_swapSlugs, List.forall_mem_cons.mpr ⟨moX0_mayStandIn, List.forall_mem_cons.mpr ⟨moX1_settle, List.forall_mem_cons.mpr ⟨moX4_undo, List.forall_mem_cons.mpr ⟨moX1_takeBack, List.forall_mem_cons.mpr ⟨moL_act, List.forall_mem_cons.mpr ⟨moL_low, List.forall_mem_cons.mpr ⟨moX4_slug, List.forall_mem_cons.mpr ⟨moX0_addSlug, List.forall_mem_cons.mpr ⟨moX0_makeSlug, List.forall_mem_cons.mpr ⟨moX0_lowestFree, List.forall_mem_cons.mpr ⟨moX0_putIn, List.forall_mem_cons.mpr ⟨moX4_drop, List.forall_mem_cons.mpr ⟨moX0_dropSlug, List.forall_mem_cons.mpr ⟨moX0_takeOut, List.forall_mem_cons.mpr ⟨moX4_ifTurned, List.forall_mem_cons.mpr ⟨moX0_offIfTurned, List.forall_mem_cons.mpr ⟨moX4_turn, List.forall_mem_cons.mpr ⟨moX0_flipTurn, List.forall_mem_cons.mpr ⟨moX4_need, List.forall_mem_cons.mpr ⟨moX0_flipNeed, List.forall_mem_cons.mpr ⟨moL_tale, List.forall_mem_cons.mpr ⟨moX4_trim, List.forall_mem_cons.mpr ⟨moX0_trimSlug, List.forall_mem_cons.mpr ⟨moX4_restoreTail, List.forall_mem_cons.mpr ⟨moX0_giveBack, List.forall_mem_cons.mpr ⟨moL_moves, List.forall_mem_cons.mpr ⟨moX4_move, List.forall_mem_cons.mpr ⟨moX0_moveSlug, List.forall_mem_cons.mpr ⟨moX4_split, List.forall_mem_cons.mpr ⟨moX0_splitSlug, fun _ h => absurd h List.not_mem_nil⟩⟩⟩⟩⟩⟩⟩⟩⟩⟩⟩⟩⟩⟩⟩⟩⟩⟩⟩⟩⟩⟩⟩⟩⟩⟩⟩⟩⟩⟩⟩⟩⟩⟩
theorem axMs3_ok : ∀ M ∈ axMs3, axGood M := List.forall_mem_cons.mpr ⟨moX0_handOverNeeds, List.forall_mem_cons.mpr ⟨moX0_handOverTurn, List.forall_mem_cons.mpr ⟨moL_fits, List.forall_mem_cons.mpr ⟨moX4_fit, List.forall_mem_cons.mpr ⟨moX0_fitAct, List.forall_mem_cons.mpr ⟨moX4_target, List.forall_mem_cons.mpr ⟨moX0_changeTarget, List.forall_mem_cons.mpr ⟨moX4_set, List.forall_mem_cons.mpr ⟨moX0_changeSetting, fun _ h => absurd h List.not_mem_nil⟩⟩⟩⟩⟩⟩⟩⟩⟩
theorem axMs_ok : ∀ M ∈ axMs, axGood M := List.forall_mem_append.mpr ⟨axMs0_ok, List.forall_mem_append.mpr ⟨axMs1_ok, List.forall_mem_append.mpr ⟨axMs2_ok, axMs3_ok⟩⟩⟩
end
section
/-! The links. Written by wip/p32/gen2.py. -/
abbrev axPn (y : MethodName) (n : Nat) : Prop := (parseMethodDescriptor y.desc).map (fun d => d.parameters.length) = some n
def axLinkOk (q : Nat × Nat × Nat × Nat × Nat × Nat × Nat) : Prop := match q with
  | (o, i, kind, z, n, ci, _) => match kind with
    | 0 => ∃ M, axMs[z]? = some M ∧ Cond.methodLink (axCn o) i M.1 ∈ lw_tbl ∧ Cond.instanceMethod M.1 ∈ lw_tbl ∧ Cond.selects M.1.cls M.1 M.1 ∈ lw_tbl ∧ M.1.cls = axCn ci ∧ axPn M.1 n ∧ ci < 5
    | 1 => ∃ M, axMs[z]? = some M ∧ Cond.methodLink (axCn o) i M.1 ∈ lw_tbl ∧ Cond.static M.1 ∈ lw_tbl ∧ M.1.cls = axCn o ∧ axPn M.1 n
    | 2 => ∃ M, axMs[z]? = some M ∧ Cond.methodLinkNest (axCn o) i M.1 "BeatSlugs" ∈ lw_tbl ∧ Cond.static M.1 ∈ lw_tbl ∧ axPn M.1 n
    | 3 => ∃ M, axMs[z]? = some M ∧ Cond.methodLink (axCn o) i M.1 ∈ lw_tbl ∧ Cond.static M.1 ∈ lw_tbl ∧ axPn M.1 n
    | 4 => Cond.methodLink (axCn o) i arraycopyName ∈ lw_tbl
    | 5 => Cond.methodLink (axCn o) i Lib.Math.max.name ∈ lw_tbl
    | 6 => Cond.methodLink (axCn o) i Lib.Math.min.name ∈ lw_tbl
    | 7 => Cond.methodLink (axCn o) i Lib.Math.abs.name ∈ lw_tbl
    | 8 => ∃ M, axMs[z]? = some M ∧ Cond.methodLink (axCn o) i M.1 ∈ lw_tbl ∧ Cond.instanceMethod M.1 ∈ lw_tbl ∧ M.1.name = "<init>" ∧ axPn M.1 n ∧ M.2.2.2.1 = none
    | _ => Cond.methodLink (axCn o) i objectInit ∈ lw_tbl
theorem lk0 : axLinkOk (6, 114, 8, 0, 0, 4, 21) := ⟨mtX4_init, rfl, List.mem_of_getElem? (i := 21) (by decide +kernel), List.mem_of_getElem? (i := 22) (by decide +kernel), rfl, by decide +kernel, rfl⟩
theorem lk1 : axLinkOk (4, 1, 9, 0, 0, 0, 24) := List.mem_of_getElem? (i := 24) (by decide +kernel)
theorem lk2 : axLinkOk (4, 9, 8, 1, 0, 0, 29) := ⟨mtX0_init, rfl, List.mem_of_getElem? (i := 29) (by decide +kernel), List.mem_of_getElem? (i := 30) (by decide +kernel), rfl, by decide +kernel, rfl⟩
theorem lk3 : axLinkOk (0, 3, 9, 0, 0, 0, 32) := List.mem_of_getElem? (i := 32) (by decide +kernel)
theorem lk4 : axLinkOk (4, 18, 8, 2, 0, 1, 64) := ⟨mtX1_init, rfl, List.mem_of_getElem? (i := 64) (by decide +kernel), List.mem_of_getElem? (i := 65) (by decide +kernel), rfl, by decide +kernel, rfl⟩
theorem lk5 : axLinkOk (1, 3, 9, 0, 0, 0, 67) := List.mem_of_getElem? (i := 67) (by decide +kernel)
theorem lk6 : axLinkOk (4, 29, 8, 3, 0, 2, 82) := ⟨mtX2_init, rfl, List.mem_of_getElem? (i := 82) (by decide +kernel), List.mem_of_getElem? (i := 83) (by decide +kernel), rfl, by decide +kernel, rfl⟩
theorem lk7 : axLinkOk (2, 3, 9, 0, 0, 0, 85) := List.mem_of_getElem? (i := 85) (by decide +kernel)
theorem lk8 : axLinkOk (4, 36, 8, 4, 0, 3, 106) := ⟨mtX3_init, rfl, List.mem_of_getElem? (i := 106) (by decide +kernel), List.mem_of_getElem? (i := 107) (by decide +kernel), rfl, by decide +kernel, rfl⟩
theorem lk9 : axLinkOk (3, 3, 9, 0, 0, 0, 109) := List.mem_of_getElem? (i := 109) (by decide +kernel)
theorem lk10 : axLinkOk (6, 45, 0, 5, 1, 4, 139) := ⟨mtX4_bestSwap, rfl, List.mem_of_getElem? (i := 139) (by decide +kernel), List.mem_of_getElem? (i := 140) (by decide +kernel), List.mem_of_getElem? (i := 141) (by decide +kernel), rfl, by decide +kernel, by decide⟩
theorem lk11 : axLinkOk (4, 183, 0, 6, 1, 3, 143) := ⟨mtX3_run, rfl, List.mem_of_getElem? (i := 143) (by decide +kernel), List.mem_of_getElem? (i := 144) (by decide +kernel), List.mem_of_getElem? (i := 145) (by decide +kernel), rfl, by decide +kernel, by decide⟩
theorem lk12 : axLinkOk (3, 25, 0, 7, 0, 0, 147) := ⟨mtX0_offTogether, rfl, List.mem_of_getElem? (i := 147) (by decide +kernel), List.mem_of_getElem? (i := 148) (by decide +kernel), List.mem_of_getElem? (i := 149) (by decide +kernel), rfl, by decide +kernel, by decide⟩
theorem lk13 : axLinkOk (0, 170, 0, 8, 2, 0, 151) := ⟨mtX0_offOfRow, rfl, List.mem_of_getElem? (i := 151) (by decide +kernel), List.mem_of_getElem? (i := 152) (by decide +kernel), List.mem_of_getElem? (i := 153) (by decide +kernel), rfl, by decide +kernel, by decide⟩
theorem lk14 : axLinkOk (0, 152, 0, 11, 1, 0, 161) := ⟨mtX0_targetOf, rfl, List.mem_of_getElem? (i := 161) (by decide +kernel), List.mem_of_getElem? (i := 162) (by decide +kernel), List.mem_of_getElem? (i := 163) (by decide +kernel), rfl, by decide +kernel, by decide⟩
theorem lk15 : axLinkOk (0, 127, 6, 0, 2, 0, 165) := List.mem_of_getElem? (i := 165) (by decide +kernel)
theorem lk16 : axLinkOk (0, 110, 7, 0, 1, 0, 168) := List.mem_of_getElem? (i := 168) (by decide +kernel)
theorem lk17 : axLinkOk (3, 31, 0, 12, 0, 0, 171) := ⟨mtX0_size, rfl, List.mem_of_getElem? (i := 171) (by decide +kernel), List.mem_of_getElem? (i := 172) (by decide +kernel), List.mem_of_getElem? (i := 173) (by decide +kernel), rfl, by decide +kernel, by decide⟩
theorem lk18 : axLinkOk (3, 34, 0, 13, 1, 0, 175) := ⟨mtX0_slugIn, rfl, List.mem_of_getElem? (i := 175) (by decide +kernel), List.mem_of_getElem? (i := 176) (by decide +kernel), List.mem_of_getElem? (i := 177) (by decide +kernel), rfl, by decide +kernel, by decide⟩
theorem lk19 : axLinkOk (3, 42, 0, 15, 2, 3, 182) := ⟨mtX3_tryAllBehind, rfl, List.mem_of_getElem? (i := 182) (by decide +kernel), List.mem_of_getElem? (i := 184) (by decide +kernel), List.mem_of_getElem? (i := 0) (by decide +kernel), rfl, by decide +kernel, by decide⟩
theorem lk20 : axLinkOk (3, 46, 0, 16, 1, 0, 186) := ⟨mtX0_highestPlace, rfl, List.mem_of_getElem? (i := 186) (by decide +kernel), List.mem_of_getElem? (i := 187) (by decide +kernel), List.mem_of_getElem? (i := 188) (by decide +kernel), rfl, by decide +kernel, by decide⟩
theorem lk21 : axLinkOk (3, 49, 0, 17, 1, 0, 190) := ⟨mtX0_lowestPlace, rfl, List.mem_of_getElem? (i := 190) (by decide +kernel), List.mem_of_getElem? (i := 191) (by decide +kernel), List.mem_of_getElem? (i := 192) (by decide +kernel), rfl, by decide +kernel, by decide⟩
theorem lk22 : axLinkOk (0, 78, 0, 18, 1, 0, 194) := ⟨mtX0_needsOf, rfl, List.mem_of_getElem? (i := 194) (by decide +kernel), List.mem_of_getElem? (i := 195) (by decide +kernel), List.mem_of_getElem? (i := 196) (by decide +kernel), rfl, by decide +kernel, by decide⟩
theorem lk23 : axLinkOk (3, 52, 0, 19, 3, 3, 198) := ⟨mtX3_tryOne, rfl, List.mem_of_getElem? (i := 198) (by decide +kernel), List.mem_of_getElem? (i := 200) (by decide +kernel), List.mem_of_getElem? (i := 1) (by decide +kernel), rfl, by decide +kernel, by decide⟩
theorem lk24 : axLinkOk (3, 56, 0, 20, 2, 3, 202) := ⟨mtX3_exchange, rfl, List.mem_of_getElem? (i := 202) (by decide +kernel), List.mem_of_getElem? (i := 204) (by decide +kernel), List.mem_of_getElem? (i := 2) (by decide +kernel), rfl, by decide +kernel, by decide⟩
theorem lk25 : axLinkOk (3, 60, 0, 21, 0, 0, 207) := ⟨mtX0_allTurns, rfl, List.mem_of_getElem? (i := 207) (by decide +kernel), List.mem_of_getElem? (i := 208) (by decide +kernel), List.mem_of_getElem? (i := 209) (by decide +kernel), rfl, by decide +kernel, by decide⟩
theorem lk26 : axLinkOk (3, 63, 0, 8, 2, 0, 211) := ⟨mtX0_offOfRow, rfl, List.mem_of_getElem? (i := 211) (by decide +kernel), List.mem_of_getElem? (i := 152) (by decide +kernel), List.mem_of_getElem? (i := 153) (by decide +kernel), rfl, by decide +kernel, by decide⟩
theorem lk27 : axLinkOk (4, 186, 0, 22, 0, 3, 212) := ⟨mtX3_isFound, rfl, List.mem_of_getElem? (i := 212) (by decide +kernel), List.mem_of_getElem? (i := 213) (by decide +kernel), List.mem_of_getElem? (i := 214) (by decide +kernel), rfl, by decide +kernel, by decide⟩
theorem lk28 : axLinkOk (4, 190, 0, 23, 0, 3, 216) := ⟨mtX3_lowerPlace, rfl, List.mem_of_getElem? (i := 216) (by decide +kernel), List.mem_of_getElem? (i := 217) (by decide +kernel), List.mem_of_getElem? (i := 218) (by decide +kernel), rfl, by decide +kernel, by decide⟩
theorem lk29 : axLinkOk (4, 122, 0, 13, 1, 0, 220) := ⟨mtX0_slugIn, rfl, List.mem_of_getElem? (i := 220) (by decide +kernel), List.mem_of_getElem? (i := 176) (by decide +kernel), List.mem_of_getElem? (i := 177) (by decide +kernel), rfl, by decide +kernel, by decide⟩
theorem lk30 : axLinkOk (4, 193, 0, 24, 0, 3, 221) := ⟨mtX3_higherPlace, rfl, List.mem_of_getElem? (i := 221) (by decide +kernel), List.mem_of_getElem? (i := 222) (by decide +kernel), List.mem_of_getElem? (i := 223) (by decide +kernel), rfl, by decide +kernel, by decide⟩
theorem lk31 : axLinkOk (4, 196, 0, 25, 0, 3, 225) := ⟨mtX3_leastOff, rfl, List.mem_of_getElem? (i := 225) (by decide +kernel), List.mem_of_getElem? (i := 226) (by decide +kernel), List.mem_of_getElem? (i := 227) (by decide +kernel), rfl, by decide +kernel, by decide⟩
theorem lk32 : axLinkOk (6, 62, 0, 26, 1, 4, 229) := ⟨mtX4_ifFitted, rfl, List.mem_of_getElem? (i := 229) (by decide +kernel), List.mem_of_getElem? (i := 230) (by decide +kernel), List.mem_of_getElem? (i := 231) (by decide +kernel), rfl, by decide +kernel, by decide⟩
theorem lk33 : axLinkOk (4, 199, 0, 27, 1, 0, 233) := ⟨mtX0_cutOf, rfl, List.mem_of_getElem? (i := 233) (by decide +kernel), List.mem_of_getElem? (i := 234) (by decide +kernel), List.mem_of_getElem? (i := 235) (by decide +kernel), rfl, by decide +kernel, by decide⟩
theorem lk34 : axLinkOk (0, 164, 0, 28, 1, 0, 237) := ⟨mtX0_hasAct, rfl, List.mem_of_getElem? (i := 237) (by decide +kernel), List.mem_of_getElem? (i := 238) (by decide +kernel), List.mem_of_getElem? (i := 239) (by decide +kernel), rfl, by decide +kernel, by decide⟩
theorem lk35 : axLinkOk (0, 149, 0, 29, 0, 0, 241) := ⟨mtX0_actCount, rfl, List.mem_of_getElem? (i := 241) (by decide +kernel), List.mem_of_getElem? (i := 242) (by decide +kernel), List.mem_of_getElem? (i := 243) (by decide +kernel), rfl, by decide +kernel, by decide⟩
theorem lk36 : axLinkOk (0, 89, 3, 30, 1, 7, 245) := ⟨mtJ_bitCount, rfl, List.mem_of_getElem? (i := 245) (by decide +kernel), List.mem_of_getElem? (i := 246) (by decide +kernel), by decide +kernel⟩
theorem lk37 : axLinkOk (0, 158, 0, 31, 1, 0, 251) := ⟨mtX0_offOf, rfl, List.mem_of_getElem? (i := 251) (by decide +kernel), List.mem_of_getElem? (i := 252) (by decide +kernel), List.mem_of_getElem? (i := 253) (by decide +kernel), rfl, by decide +kernel, by decide⟩
theorem lk38 : axLinkOk (0, 124, 0, 32, 1, 0, 255) := ⟨mtX0_startOf, rfl, List.mem_of_getElem? (i := 255) (by decide +kernel), List.mem_of_getElem? (i := 256) (by decide +kernel), List.mem_of_getElem? (i := 257) (by decide +kernel), rfl, by decide +kernel, by decide⟩
theorem lk39 : axLinkOk (0, 146, 0, 33, 2, 0, 259) := ⟨mtX0_beatsIn, rfl, List.mem_of_getElem? (i := 259) (by decide +kernel), List.mem_of_getElem? (i := 260) (by decide +kernel), List.mem_of_getElem? (i := 261) (by decide +kernel), rfl, by decide +kernel, by decide⟩
theorem lk40 : axLinkOk (0, 137, 5, 0, 2, 0, 263) := List.mem_of_getElem? (i := 263) (by decide +kernel)
theorem lk41 : axLinkOk (0, 167, 0, 34, 2, 0, 266) := ⟨mtX0_roomIn, rfl, List.mem_of_getElem? (i := 266) (by decide +kernel), List.mem_of_getElem? (i := 267) (by decide +kernel), List.mem_of_getElem? (i := 268) (by decide +kernel), rfl, by decide +kernel, by decide⟩
theorem lk42 : axLinkOk (0, 94, 0, 35, 1, 0, 270) := ⟨mtX0_roomOf, rfl, List.mem_of_getElem? (i := 270) (by decide +kernel), List.mem_of_getElem? (i := 271) (by decide +kernel), List.mem_of_getElem? (i := 272) (by decide +kernel), rfl, by decide +kernel, by decide⟩
theorem lk43 : axLinkOk (0, 134, 0, 36, 1, 0, 274) := ⟨mtX0_settingOf, rfl, List.mem_of_getElem? (i := 274) (by decide +kernel), List.mem_of_getElem? (i := 275) (by decide +kernel), List.mem_of_getElem? (i := 276) (by decide +kernel), rfl, by decide +kernel, by decide⟩
theorem lk44 : axLinkOk (6, 118, 1, 37, 2, 6, 278) := ⟨mtL_cell, rfl, List.mem_of_getElem? (i := 278) (by decide +kernel), List.mem_of_getElem? (i := 279) (by decide +kernel), rfl, by decide +kernel⟩
theorem lk45 : axLinkOk (6, 115, 1, 38, 1, 6, 283) := ⟨mtL_holds, rfl, List.mem_of_getElem? (i := 283) (by decide +kernel), List.mem_of_getElem? (i := 284) (by decide +kernel), rfl, by decide +kernel⟩
theorem lk46 : axLinkOk (6, 16, 1, 39, 1, 6, 286) := ⟨mtL_many, rfl, List.mem_of_getElem? (i := 286) (by decide +kernel), List.mem_of_getElem? (i := 287) (by decide +kernel), rfl, by decide +kernel⟩
theorem lk47 : axLinkOk (6, 10, 0, 40, 1, 4, 289) := ⟨mtX4_at, rfl, List.mem_of_getElem? (i := 289) (by decide +kernel), List.mem_of_getElem? (i := 290) (by decide +kernel), List.mem_of_getElem? (i := 291) (by decide +kernel), rfl, by decide +kernel, by decide⟩
theorem lk48 : axLinkOk (6, 22, 0, 41, 2, 4, 293) := ⟨mtX4_of, rfl, List.mem_of_getElem? (i := 293) (by decide +kernel), List.mem_of_getElem? (i := 294) (by decide +kernel), List.mem_of_getElem? (i := 295) (by decide +kernel), rfl, by decide +kernel, by decide⟩
theorem lk49 : axLinkOk (4, 87, 0, 42, 1, 0, 297) := ⟨mtX0_has, rfl, List.mem_of_getElem? (i := 297) (by decide +kernel), List.mem_of_getElem? (i := 298) (by decide +kernel), List.mem_of_getElem? (i := 299) (by decide +kernel), rfl, by decide +kernel, by decide⟩
theorem lk50 : axLinkOk (4, 91, 0, 43, 1, 0, 301) := ⟨mtX0_placeOf, rfl, List.mem_of_getElem? (i := 301) (by decide +kernel), List.mem_of_getElem? (i := 302) (by decide +kernel), List.mem_of_getElem? (i := 303) (by decide +kernel), rfl, by decide +kernel, by decide⟩
theorem lk51 : axLinkOk (4, 94, 0, 44, 1, 0, 305) := ⟨mtX0_writtenOf, rfl, List.mem_of_getElem? (i := 305) (by decide +kernel), List.mem_of_getElem? (i := 306) (by decide +kernel), List.mem_of_getElem? (i := 307) (by decide +kernel), rfl, by decide +kernel, by decide⟩
theorem lk52 : axLinkOk (4, 97, 0, 45, 1, 0, 309) := ⟨mtX0_beatsOf, rfl, List.mem_of_getElem? (i := 309) (by decide +kernel), List.mem_of_getElem? (i := 310) (by decide +kernel), List.mem_of_getElem? (i := 311) (by decide +kernel), rfl, by decide +kernel, by decide⟩
theorem lk53 : axLinkOk (4, 100, 0, 46, 1, 0, 313) := ⟨mtX0_isTurn, rfl, List.mem_of_getElem? (i := 313) (by decide +kernel), List.mem_of_getElem? (i := 314) (by decide +kernel), List.mem_of_getElem? (i := 315) (by decide +kernel), rfl, by decide +kernel, by decide⟩
theorem lk54 : axLinkOk (4, 103, 0, 18, 1, 0, 317) := ⟨mtX0_needsOf, rfl, List.mem_of_getElem? (i := 317) (by decide +kernel), List.mem_of_getElem? (i := 195) (by decide +kernel), List.mem_of_getElem? (i := 196) (by decide +kernel), rfl, by decide +kernel, by decide⟩
theorem lk55 : axLinkOk (4, 106, 0, 47, 1, 0, 318) := ⟨mtX0_needersOf, rfl, List.mem_of_getElem? (i := 318) (by decide +kernel), List.mem_of_getElem? (i := 319) (by decide +kernel), List.mem_of_getElem? (i := 320) (by decide +kernel), rfl, by decide +kernel, by decide⟩
theorem lk56 : axLinkOk (4, 109, 0, 33, 2, 0, 325) := ⟨mtX0_beatsIn, rfl, List.mem_of_getElem? (i := 325) (by decide +kernel), List.mem_of_getElem? (i := 260) (by decide +kernel), List.mem_of_getElem? (i := 261) (by decide +kernel), rfl, by decide +kernel, by decide⟩
theorem lk57 : axLinkOk (4, 112, 0, 49, 0, 0, 326) := ⟨mtX0_pageBeats, rfl, List.mem_of_getElem? (i := 326) (by decide +kernel), List.mem_of_getElem? (i := 327) (by decide +kernel), List.mem_of_getElem? (i := 328) (by decide +kernel), rfl, by decide +kernel, by decide⟩
theorem lk58 : axLinkOk (4, 116, 0, 50, 1, 0, 330) := ⟨mtX0_turnsAhead, rfl, List.mem_of_getElem? (i := 330) (by decide +kernel), List.mem_of_getElem? (i := 331) (by decide +kernel), List.mem_of_getElem? (i := 332) (by decide +kernel), rfl, by decide +kernel, by decide⟩
theorem lk59 : axLinkOk (4, 119, 0, 35, 1, 0, 334) := ⟨mtX0_roomOf, rfl, List.mem_of_getElem? (i := 334) (by decide +kernel), List.mem_of_getElem? (i := 271) (by decide +kernel), List.mem_of_getElem? (i := 272) (by decide +kernel), rfl, by decide +kernel, by decide⟩
theorem lk60 : axLinkOk (6, 26, 0, 51, 1, 4, 335) := ⟨mtX4_needs, rfl, List.mem_of_getElem? (i := 335) (by decide +kernel), List.mem_of_getElem? (i := 336) (by decide +kernel), List.mem_of_getElem? (i := 337) (by decide +kernel), rfl, by decide +kernel, by decide⟩
theorem lk61 : axLinkOk (4, 205, 0, 52, 1, 0, 339) := ⟨mtX0_allNeedsOf, rfl, List.mem_of_getElem? (i := 339) (by decide +kernel), List.mem_of_getElem? (i := 340) (by decide +kernel), List.mem_of_getElem? (i := 341) (by decide +kernel), rfl, by decide +kernel, by decide⟩
theorem lk62 : axLinkOk (6, 29, 0, 53, 1, 4, 343) := ⟨mtX4_atBeat, rfl, List.mem_of_getElem? (i := 343) (by decide +kernel), List.mem_of_getElem? (i := 344) (by decide +kernel), List.mem_of_getElem? (i := 345) (by decide +kernel), rfl, by decide +kernel, by decide⟩
theorem lk63 : axLinkOk (4, 125, 0, 54, 1, 0, 347) := ⟨mtX0_slugAtBeat, rfl, List.mem_of_getElem? (i := 347) (by decide +kernel), List.mem_of_getElem? (i := 348) (by decide +kernel), List.mem_of_getElem? (i := 349) (by decide +kernel), rfl, by decide +kernel, by decide⟩
theorem lk64 : axLinkOk (0, 97, 0, 45, 1, 0, 351) := ⟨mtX0_beatsOf, rfl, List.mem_of_getElem? (i := 351) (by decide +kernel), List.mem_of_getElem? (i := 310) (by decide +kernel), List.mem_of_getElem? (i := 311) (by decide +kernel), rfl, by decide +kernel, by decide⟩
theorem lk65 : axLinkOk (6, 32, 0, 55, 1, 4, 352) := ⟨mtX4_places, rfl, List.mem_of_getElem? (i := 352) (by decide +kernel), List.mem_of_getElem? (i := 353) (by decide +kernel), List.mem_of_getElem? (i := 354) (by decide +kernel), rfl, by decide +kernel, by decide⟩
theorem lk66 : axLinkOk (4, 174, 0, 16, 1, 0, 356) := ⟨mtX0_highestPlace, rfl, List.mem_of_getElem? (i := 356) (by decide +kernel), List.mem_of_getElem? (i := 187) (by decide +kernel), List.mem_of_getElem? (i := 188) (by decide +kernel), rfl, by decide +kernel, by decide⟩
theorem lk67 : axLinkOk (4, 177, 0, 17, 1, 0, 357) := ⟨mtX0_lowestPlace, rfl, List.mem_of_getElem? (i := 357) (by decide +kernel), List.mem_of_getElem? (i := 191) (by decide +kernel), List.mem_of_getElem? (i := 192) (by decide +kernel), rfl, by decide +kernel, by decide⟩
theorem lk68 : axLinkOk (4, 180, 1, 48, 1, 4, 358) := ⟨mtX4_bit, rfl, List.mem_of_getElem? (i := 358) (by decide +kernel), List.mem_of_getElem? (i := 323) (by decide +kernel), rfl, by decide +kernel⟩
theorem lk69 : axLinkOk (6, 35, 0, 56, 1, 4, 359) := ⟨mtX4_count, rfl, List.mem_of_getElem? (i := 359) (by decide +kernel), List.mem_of_getElem? (i := 360) (by decide +kernel), List.mem_of_getElem? (i := 361) (by decide +kernel), rfl, by decide +kernel, by decide⟩
theorem lk70 : axLinkOk (4, 149, 0, 57, 0, 0, 363) := ⟨mtX0_allSlugs, rfl, List.mem_of_getElem? (i := 363) (by decide +kernel), List.mem_of_getElem? (i := 364) (by decide +kernel), List.mem_of_getElem? (i := 365) (by decide +kernel), rfl, by decide +kernel, by decide⟩
theorem lk71 : axLinkOk (4, 152, 0, 29, 0, 0, 367) := ⟨mtX0_actCount, rfl, List.mem_of_getElem? (i := 367) (by decide +kernel), List.mem_of_getElem? (i := 242) (by decide +kernel), List.mem_of_getElem? (i := 243) (by decide +kernel), rfl, by decide +kernel, by decide⟩
theorem lk72 : axLinkOk (4, 155, 0, 58, 0, 0, 368) := ⟨mtX0_allBeats, rfl, List.mem_of_getElem? (i := 368) (by decide +kernel), List.mem_of_getElem? (i := 369) (by decide +kernel), List.mem_of_getElem? (i := 370) (by decide +kernel), rfl, by decide +kernel, by decide⟩
theorem lk73 : axLinkOk (4, 158, 0, 7, 0, 0, 372) := ⟨mtX0_offTogether, rfl, List.mem_of_getElem? (i := 372) (by decide +kernel), List.mem_of_getElem? (i := 148) (by decide +kernel), List.mem_of_getElem? (i := 149) (by decide +kernel), rfl, by decide +kernel, by decide⟩
theorem lk74 : axLinkOk (4, 161, 0, 59, 0, 0, 373) := ⟨mtX0_fittingActs, rfl, List.mem_of_getElem? (i := 373) (by decide +kernel), List.mem_of_getElem? (i := 374) (by decide +kernel), List.mem_of_getElem? (i := 375) (by decide +kernel), rfl, by decide +kernel, by decide⟩
theorem lk75 : axLinkOk (0, 161, 0, 60, 1, 0, 377) := ⟨mtX0_isFitting, rfl, List.mem_of_getElem? (i := 377) (by decide +kernel), List.mem_of_getElem? (i := 378) (by decide +kernel), List.mem_of_getElem? (i := 379) (by decide +kernel), rfl, by decide +kernel, by decide⟩
theorem lk76 : axLinkOk (0, 155, 0, 61, 1, 0, 381) := ⟨mtX0_isOpen, rfl, List.mem_of_getElem? (i := 381) (by decide +kernel), List.mem_of_getElem? (i := 382) (by decide +kernel), List.mem_of_getElem? (i := 383) (by decide +kernel), rfl, by decide +kernel, by decide⟩
theorem lk77 : axLinkOk (4, 164, 0, 62, 0, 0, 385) := ⟨mtX0_longestSlug, rfl, List.mem_of_getElem? (i := 385) (by decide +kernel), List.mem_of_getElem? (i := 386) (by decide +kernel), List.mem_of_getElem? (i := 387) (by decide +kernel), rfl, by decide +kernel, by decide⟩
theorem lk78 : axLinkOk (4, 167, 0, 36, 1, 0, 389) := ⟨mtX0_settingOf, rfl, List.mem_of_getElem? (i := 389) (by decide +kernel), List.mem_of_getElem? (i := 275) (by decide +kernel), List.mem_of_getElem? (i := 276) (by decide +kernel), rfl, by decide +kernel, by decide⟩
theorem lk79 : axLinkOk (4, 170, 0, 63, 0, 2, 390) := ⟨mtX2_size, rfl, List.mem_of_getElem? (i := 390) (by decide +kernel), List.mem_of_getElem? (i := 391) (by decide +kernel), List.mem_of_getElem? (i := 392) (by decide +kernel), rfl, by decide +kernel, by decide⟩
theorem lk80 : axLinkOk (4, 173, 0, 64, 0, 1, 394) := ⟨mtX1_size, rfl, List.mem_of_getElem? (i := 394) (by decide +kernel), List.mem_of_getElem? (i := 395) (by decide +kernel), List.mem_of_getElem? (i := 396) (by decide +kernel), rfl, by decide +kernel, by decide⟩
theorem lk81 : axLinkOk (6, 38, 0, 65, 2, 4, 398) := ⟨mtX4_ofAct, rfl, List.mem_of_getElem? (i := 398) (by decide +kernel), List.mem_of_getElem? (i := 399) (by decide +kernel), List.mem_of_getElem? (i := 400) (by decide +kernel), rfl, by decide +kernel, by decide⟩
theorem lk82 : axLinkOk (4, 128, 0, 28, 1, 0, 402) := ⟨mtX0_hasAct, rfl, List.mem_of_getElem? (i := 402) (by decide +kernel), List.mem_of_getElem? (i := 238) (by decide +kernel), List.mem_of_getElem? (i := 239) (by decide +kernel), rfl, by decide +kernel, by decide⟩
theorem lk83 : axLinkOk (4, 131, 0, 32, 1, 0, 403) := ⟨mtX0_startOf, rfl, List.mem_of_getElem? (i := 403) (by decide +kernel), List.mem_of_getElem? (i := 256) (by decide +kernel), List.mem_of_getElem? (i := 257) (by decide +kernel), rfl, by decide +kernel, by decide⟩
theorem lk84 : axLinkOk (4, 134, 0, 11, 1, 0, 404) := ⟨mtX0_targetOf, rfl, List.mem_of_getElem? (i := 404) (by decide +kernel), List.mem_of_getElem? (i := 162) (by decide +kernel), List.mem_of_getElem? (i := 163) (by decide +kernel), rfl, by decide +kernel, by decide⟩
theorem lk85 : axLinkOk (4, 137, 0, 31, 1, 0, 405) := ⟨mtX0_offOf, rfl, List.mem_of_getElem? (i := 405) (by decide +kernel), List.mem_of_getElem? (i := 252) (by decide +kernel), List.mem_of_getElem? (i := 253) (by decide +kernel), rfl, by decide +kernel, by decide⟩
theorem lk86 : axLinkOk (4, 140, 0, 60, 1, 0, 406) := ⟨mtX0_isFitting, rfl, List.mem_of_getElem? (i := 406) (by decide +kernel), List.mem_of_getElem? (i := 378) (by decide +kernel), List.mem_of_getElem? (i := 379) (by decide +kernel), rfl, by decide +kernel, by decide⟩
theorem lk87 : axLinkOk (4, 143, 0, 61, 1, 0, 407) := ⟨mtX0_isOpen, rfl, List.mem_of_getElem? (i := 407) (by decide +kernel), List.mem_of_getElem? (i := 382) (by decide +kernel), List.mem_of_getElem? (i := 383) (by decide +kernel), rfl, by decide +kernel, by decide⟩
theorem lk88 : axLinkOk (4, 146, 0, 34, 2, 0, 408) := ⟨mtX0_roomIn, rfl, List.mem_of_getElem? (i := 408) (by decide +kernel), List.mem_of_getElem? (i := 267) (by decide +kernel), List.mem_of_getElem? (i := 268) (by decide +kernel), rfl, by decide +kernel, by decide⟩
theorem lk89 : axLinkOk (6, 107, 1, 66, 1, 6, 409) := ⟨mtL_swapsBest, rfl, List.mem_of_getElem? (i := 409) (by decide +kernel), List.mem_of_getElem? (i := 410) (by decide +kernel), rfl, by decide +kernel⟩
theorem lk90 : axLinkOk (6, 48, 0, 67, 2, 4, 412) := ⟨mtX4_swap, rfl, List.mem_of_getElem? (i := 412) (by decide +kernel), List.mem_of_getElem? (i := 413) (by decide +kernel), List.mem_of_getElem? (i := 414) (by decide +kernel), rfl, by decide +kernel, by decide⟩
theorem lk91 : axLinkOk (4, 41, 0, 68, 1, 1, 416) := ⟨mtX1_prepare, rfl, List.mem_of_getElem? (i := 416) (by decide +kernel), List.mem_of_getElem? (i := 417) (by decide +kernel), List.mem_of_getElem? (i := 418) (by decide +kernel), rfl, by decide +kernel, by decide⟩
theorem lk92 : axLinkOk (4, 236, 0, 70, 1, 0, 423) := ⟨mtX0_takeOver, rfl, List.mem_of_getElem? (i := 423) (by decide +kernel), List.mem_of_getElem? (i := 424) (by decide +kernel), List.mem_of_getElem? (i := 425) (by decide +kernel), rfl, by decide +kernel, by decide⟩
theorem lk93 : axLinkOk (0, 30, 4, 0, 5, 0, 427) := List.mem_of_getElem? (i := 427) (by decide +kernel)
theorem lk94 : axLinkOk (4, 78, 0, 71, 2, 0, 430) := ⟨mtX0_swapSlugs, rfl, List.mem_of_getElem? (i := 430) (by decide +kernel), List.mem_of_getElem? (i := 431) (by decide +kernel), List.mem_of_getElem? (i := 432) (by decide +kernel), rfl, by decide +kernel, by decide⟩
theorem lk95 : axLinkOk (0, 64, 0, 42, 1, 0, 434) := ⟨mtX0_has, rfl, List.mem_of_getElem? (i := 434) (by decide +kernel), List.mem_of_getElem? (i := 298) (by decide +kernel), List.mem_of_getElem? (i := 299) (by decide +kernel), rfl, by decide +kernel, by decide⟩
theorem lk96 : axLinkOk (0, 68, 0, 43, 1, 0, 435) := ⟨mtX0_placeOf, rfl, List.mem_of_getElem? (i := 435) (by decide +kernel), List.mem_of_getElem? (i := 302) (by decide +kernel), List.mem_of_getElem? (i := 303) (by decide +kernel), rfl, by decide +kernel, by decide⟩
theorem lk97 : axLinkOk (0, 103, 0, 72, 2, 0, 436) := ⟨mtX0_mayStandIn, rfl, List.mem_of_getElem? (i := 436) (by decide +kernel), List.mem_of_getElem? (i := 438) (by decide +kernel), List.mem_of_getElem? (i := 3) (by decide +kernel), rfl, by decide +kernel, by decide⟩
theorem lk98 : axLinkOk (0, 140, 0, 17, 1, 0, 440) := ⟨mtX0_lowestPlace, rfl, List.mem_of_getElem? (i := 440) (by decide +kernel), List.mem_of_getElem? (i := 191) (by decide +kernel), List.mem_of_getElem? (i := 192) (by decide +kernel), rfl, by decide +kernel, by decide⟩
theorem lk99 : axLinkOk (0, 143, 0, 16, 1, 0, 441) := ⟨mtX0_highestPlace, rfl, List.mem_of_getElem? (i := 441) (by decide +kernel), List.mem_of_getElem? (i := 187) (by decide +kernel), List.mem_of_getElem? (i := 188) (by decide +kernel), rfl, by decide +kernel, by decide⟩
theorem lk100 : axLinkOk (4, 49, 0, 73, 1, 1, 443) := ⟨mtX1_settle, rfl, List.mem_of_getElem? (i := 443) (by decide +kernel), List.mem_of_getElem? (i := 444) (by decide +kernel), List.mem_of_getElem? (i := 445) (by decide +kernel), rfl, by decide +kernel, by decide⟩
theorem lk101 : axLinkOk (1, 28, 6, 0, 2, 0, 447) := List.mem_of_getElem? (i := 447) (by decide +kernel)
theorem lk102 : axLinkOk (6, 51, 0, 74, 0, 4, 448) := ⟨mtX4_undo, rfl, List.mem_of_getElem? (i := 448) (by decide +kernel), List.mem_of_getElem? (i := 449) (by decide +kernel), List.mem_of_getElem? (i := 450) (by decide +kernel), rfl, by decide +kernel, by decide⟩
theorem lk103 : axLinkOk (4, 227, 0, 75, 1, 1, 452) := ⟨mtX1_takeBack, rfl, List.mem_of_getElem? (i := 452) (by decide +kernel), List.mem_of_getElem? (i := 453) (by decide +kernel), List.mem_of_getElem? (i := 454) (by decide +kernel), rfl, by decide +kernel, by decide⟩
theorem lk104 : axLinkOk (1, 34, 0, 70, 1, 0, 456) := ⟨mtX0_takeOver, rfl, List.mem_of_getElem? (i := 456) (by decide +kernel), List.mem_of_getElem? (i := 424) (by decide +kernel), List.mem_of_getElem? (i := 425) (by decide +kernel), rfl, by decide +kernel, by decide⟩
theorem lk105 : axLinkOk (6, 122, 1, 76, 3, 6, 457) := ⟨mtL_act, rfl, List.mem_of_getElem? (i := 457) (by decide +kernel), List.mem_of_getElem? (i := 458) (by decide +kernel), rfl, by decide +kernel⟩
theorem lk106 : axLinkOk (6, 68, 1, 77, 2, 6, 460) := ⟨mtL_low, rfl, List.mem_of_getElem? (i := 460) (by decide +kernel), List.mem_of_getElem? (i := 461) (by decide +kernel), rfl, by decide +kernel⟩
theorem lk107 : axLinkOk (6, 71, 0, 78, 3, 4, 464) := ⟨mtX4_slug, rfl, List.mem_of_getElem? (i := 464) (by decide +kernel), List.mem_of_getElem? (i := 465) (by decide +kernel), List.mem_of_getElem? (i := 466) (by decide +kernel), rfl, by decide +kernel, by decide⟩
theorem lk108 : axLinkOk (4, 56, 0, 79, 3, 0, 468) := ⟨mtX0_addSlug, rfl, List.mem_of_getElem? (i := 468) (by decide +kernel), List.mem_of_getElem? (i := 469) (by decide +kernel), List.mem_of_getElem? (i := 470) (by decide +kernel), rfl, by decide +kernel, by decide⟩
theorem lk109 : axLinkOk (0, 56, 0, 80, 2, 0, 472) := ⟨mtX0_makeSlug, rfl, List.mem_of_getElem? (i := 472) (by decide +kernel), List.mem_of_getElem? (i := 474) (by decide +kernel), List.mem_of_getElem? (i := 4) (by decide +kernel), rfl, by decide +kernel, by decide⟩
theorem lk110 : axLinkOk (0, 130, 0, 81, 0, 0, 476) := ⟨mtX0_lowestFree, rfl, List.mem_of_getElem? (i := 476) (by decide +kernel), List.mem_of_getElem? (i := 478) (by decide +kernel), List.mem_of_getElem? (i := 5) (by decide +kernel), rfl, by decide +kernel, by decide⟩
theorem lk111 : axLinkOk (0, 106, 0, 82, 2, 0, 480) := ⟨mtX0_putIn, rfl, List.mem_of_getElem? (i := 480) (by decide +kernel), List.mem_of_getElem? (i := 482) (by decide +kernel), List.mem_of_getElem? (i := 6) (by decide +kernel), rfl, by decide +kernel, by decide⟩
theorem lk112 : axLinkOk (6, 75, 0, 83, 1, 4, 484) := ⟨mtX4_drop, rfl, List.mem_of_getElem? (i := 484) (by decide +kernel), List.mem_of_getElem? (i := 485) (by decide +kernel), List.mem_of_getElem? (i := 486) (by decide +kernel), rfl, by decide +kernel, by decide⟩
theorem lk113 : axLinkOk (4, 60, 0, 84, 1, 0, 488) := ⟨mtX0_dropSlug, rfl, List.mem_of_getElem? (i := 488) (by decide +kernel), List.mem_of_getElem? (i := 489) (by decide +kernel), List.mem_of_getElem? (i := 490) (by decide +kernel), rfl, by decide +kernel, by decide⟩
theorem lk114 : axLinkOk (0, 71, 0, 85, 1, 0, 492) := ⟨mtX0_takeOut, rfl, List.mem_of_getElem? (i := 492) (by decide +kernel), List.mem_of_getElem? (i := 494) (by decide +kernel), List.mem_of_getElem? (i := 7) (by decide +kernel), rfl, by decide +kernel, by decide⟩
theorem lk115 : axLinkOk (6, 78, 0, 86, 1, 4, 496) := ⟨mtX4_ifTurned, rfl, List.mem_of_getElem? (i := 496) (by decide +kernel), List.mem_of_getElem? (i := 497) (by decide +kernel), List.mem_of_getElem? (i := 498) (by decide +kernel), rfl, by decide +kernel, by decide⟩
theorem lk116 : axLinkOk (4, 202, 0, 87, 1, 0, 500) := ⟨mtX0_offIfTurned, rfl, List.mem_of_getElem? (i := 500) (by decide +kernel), List.mem_of_getElem? (i := 501) (by decide +kernel), List.mem_of_getElem? (i := 502) (by decide +kernel), rfl, by decide +kernel, by decide⟩
theorem lk117 : axLinkOk (6, 81, 0, 88, 1, 4, 504) := ⟨mtX4_turn, rfl, List.mem_of_getElem? (i := 504) (by decide +kernel), List.mem_of_getElem? (i := 505) (by decide +kernel), List.mem_of_getElem? (i := 506) (by decide +kernel), rfl, by decide +kernel, by decide⟩
theorem lk118 : axLinkOk (4, 63, 0, 89, 1, 0, 508) := ⟨mtX0_flipTurn, rfl, List.mem_of_getElem? (i := 508) (by decide +kernel), List.mem_of_getElem? (i := 509) (by decide +kernel), List.mem_of_getElem? (i := 510) (by decide +kernel), rfl, by decide +kernel, by decide⟩
theorem lk119 : axLinkOk (0, 75, 0, 46, 1, 0, 512) := ⟨mtX0_isTurn, rfl, List.mem_of_getElem? (i := 512) (by decide +kernel), List.mem_of_getElem? (i := 314) (by decide +kernel), List.mem_of_getElem? (i := 315) (by decide +kernel), rfl, by decide +kernel, by decide⟩
theorem lk120 : axLinkOk (6, 84, 0, 90, 2, 4, 513) := ⟨mtX4_need, rfl, List.mem_of_getElem? (i := 513) (by decide +kernel), List.mem_of_getElem? (i := 514) (by decide +kernel), List.mem_of_getElem? (i := 515) (by decide +kernel), rfl, by decide +kernel, by decide⟩
theorem lk121 : axLinkOk (4, 66, 0, 91, 2, 0, 517) := ⟨mtX0_flipNeed, rfl, List.mem_of_getElem? (i := 517) (by decide +kernel), List.mem_of_getElem? (i := 518) (by decide +kernel), List.mem_of_getElem? (i := 519) (by decide +kernel), rfl, by decide +kernel, by decide⟩
theorem lk122 : axLinkOk (6, 55, 1, 92, 1, 6, 521) := ⟨mtL_tale, rfl, List.mem_of_getElem? (i := 521) (by decide +kernel), List.mem_of_getElem? (i := 522) (by decide +kernel), rfl, by decide +kernel⟩
theorem lk123 : axLinkOk (6, 87, 0, 93, 2, 4, 526) := ⟨mtX4_trim, rfl, List.mem_of_getElem? (i := 526) (by decide +kernel), List.mem_of_getElem? (i := 527) (by decide +kernel), List.mem_of_getElem? (i := 528) (by decide +kernel), rfl, by decide +kernel, by decide⟩
theorem lk124 : axLinkOk (4, 69, 0, 94, 2, 0, 530) := ⟨mtX0_trimSlug, rfl, List.mem_of_getElem? (i := 530) (by decide +kernel), List.mem_of_getElem? (i := 531) (by decide +kernel), List.mem_of_getElem? (i := 532) (by decide +kernel), rfl, by decide +kernel, by decide⟩
theorem lk125 : axLinkOk (6, 90, 0, 95, 1, 4, 534) := ⟨mtX4_restoreTail, rfl, List.mem_of_getElem? (i := 534) (by decide +kernel), List.mem_of_getElem? (i := 535) (by decide +kernel), List.mem_of_getElem? (i := 536) (by decide +kernel), rfl, by decide +kernel, by decide⟩
theorem lk126 : axLinkOk (4, 72, 0, 96, 1, 0, 538) := ⟨mtX0_giveBack, rfl, List.mem_of_getElem? (i := 538) (by decide +kernel), List.mem_of_getElem? (i := 539) (by decide +kernel), List.mem_of_getElem? (i := 540) (by decide +kernel), rfl, by decide +kernel, by decide⟩
theorem lk127 : axLinkOk (0, 100, 0, 44, 1, 0, 542) := ⟨mtX0_writtenOf, rfl, List.mem_of_getElem? (i := 542) (by decide +kernel), List.mem_of_getElem? (i := 306) (by decide +kernel), List.mem_of_getElem? (i := 307) (by decide +kernel), rfl, by decide +kernel, by decide⟩
theorem lk128 : axLinkOk (6, 93, 1, 97, 3, 6, 543) := ⟨mtL_moves, rfl, List.mem_of_getElem? (i := 543) (by decide +kernel), List.mem_of_getElem? (i := 544) (by decide +kernel), rfl, by decide +kernel⟩
theorem lk129 : axLinkOk (6, 59, 0, 98, 2, 4, 546) := ⟨mtX4_move, rfl, List.mem_of_getElem? (i := 546) (by decide +kernel), List.mem_of_getElem? (i := 547) (by decide +kernel), List.mem_of_getElem? (i := 548) (by decide +kernel), rfl, by decide +kernel, by decide⟩
theorem lk130 : axLinkOk (4, 75, 0, 99, 2, 0, 550) := ⟨mtX0_moveSlug, rfl, List.mem_of_getElem? (i := 550) (by decide +kernel), List.mem_of_getElem? (i := 551) (by decide +kernel), List.mem_of_getElem? (i := 552) (by decide +kernel), rfl, by decide +kernel, by decide⟩
theorem lk131 : axLinkOk (6, 97, 0, 100, 2, 4, 554) := ⟨mtX4_split, rfl, List.mem_of_getElem? (i := 554) (by decide +kernel), List.mem_of_getElem? (i := 555) (by decide +kernel), List.mem_of_getElem? (i := 556) (by decide +kernel), rfl, by decide +kernel, by decide⟩
theorem lk132 : axLinkOk (4, 81, 0, 101, 2, 0, 558) := ⟨mtX0_splitSlug, rfl, List.mem_of_getElem? (i := 558) (by decide +kernel), List.mem_of_getElem? (i := 559) (by decide +kernel), List.mem_of_getElem? (i := 560) (by decide +kernel), rfl, by decide +kernel, by decide⟩
theorem lk133 : axLinkOk (0, 115, 0, 102, 2, 0, 562) := ⟨mtX0_handOverNeeds, rfl, List.mem_of_getElem? (i := 562) (by decide +kernel), List.mem_of_getElem? (i := 564) (by decide +kernel), List.mem_of_getElem? (i := 8) (by decide +kernel), rfl, by decide +kernel, by decide⟩
theorem lk134 : axLinkOk (0, 118, 0, 103, 2, 0, 566) := ⟨mtX0_handOverTurn, rfl, List.mem_of_getElem? (i := 566) (by decide +kernel), List.mem_of_getElem? (i := 568) (by decide +kernel), List.mem_of_getElem? (i := 9) (by decide +kernel), rfl, by decide +kernel, by decide⟩
theorem lk135 : axLinkOk (6, 100, 1, 104, 2, 6, 570) := ⟨mtL_fits, rfl, List.mem_of_getElem? (i := 570) (by decide +kernel), List.mem_of_getElem? (i := 571) (by decide +kernel), rfl, by decide +kernel⟩
theorem lk136 : axLinkOk (6, 65, 0, 105, 1, 4, 573) := ⟨mtX4_fit, rfl, List.mem_of_getElem? (i := 573) (by decide +kernel), List.mem_of_getElem? (i := 574) (by decide +kernel), List.mem_of_getElem? (i := 575) (by decide +kernel), rfl, by decide +kernel, by decide⟩
theorem lk137 : axLinkOk (4, 84, 0, 106, 1, 0, 577) := ⟨mtX0_fitAct, rfl, List.mem_of_getElem? (i := 577) (by decide +kernel), List.mem_of_getElem? (i := 578) (by decide +kernel), List.mem_of_getElem? (i := 579) (by decide +kernel), rfl, by decide +kernel, by decide⟩
theorem lk138 : axLinkOk (0, 121, 0, 27, 1, 0, 581) := ⟨mtX0_cutOf, rfl, List.mem_of_getElem? (i := 581) (by decide +kernel), List.mem_of_getElem? (i := 234) (by decide +kernel), List.mem_of_getElem? (i := 235) (by decide +kernel), rfl, by decide +kernel, by decide⟩
theorem lk139 : axLinkOk (6, 104, 0, 107, 2, 4, 582) := ⟨mtX4_target, rfl, List.mem_of_getElem? (i := 582) (by decide +kernel), List.mem_of_getElem? (i := 583) (by decide +kernel), List.mem_of_getElem? (i := 584) (by decide +kernel), rfl, by decide +kernel, by decide⟩
theorem lk140 : axLinkOk (4, 53, 0, 108, 2, 0, 586) := ⟨mtX0_changeTarget, rfl, List.mem_of_getElem? (i := 586) (by decide +kernel), List.mem_of_getElem? (i := 587) (by decide +kernel), List.mem_of_getElem? (i := 588) (by decide +kernel), rfl, by decide +kernel, by decide⟩
theorem lk141 : axLinkOk (6, 111, 0, 109, 2, 4, 590) := ⟨mtX4_set, rfl, List.mem_of_getElem? (i := 590) (by decide +kernel), List.mem_of_getElem? (i := 591) (by decide +kernel), List.mem_of_getElem? (i := 592) (by decide +kernel), rfl, by decide +kernel, by decide⟩
theorem lk142 : axLinkOk (4, 45, 0, 110, 2, 0, 594) := ⟨mtX0_changeSetting, rfl, List.mem_of_getElem? (i := 594) (by decide +kernel), List.mem_of_getElem? (i := 595) (by decide +kernel), List.mem_of_getElem? (i := 596) (by decide +kernel), rfl, by decide +kernel, by decide⟩
theorem lk143 : axLinkOk (0, 49, 2, 9, 2, 4, 155) := ⟨mtX4_cell, rfl, List.mem_of_getElem? (i := 155) (by decide +kernel), List.mem_of_getElem? (i := 156) (by decide +kernel), by decide +kernel⟩
theorem lk144 : axLinkOk (0, 81, 2, 10, 2, 4, 158) := ⟨mtX4_contains, rfl, List.mem_of_getElem? (i := 158) (by decide +kernel), List.mem_of_getElem? (i := 159) (by decide +kernel), by decide +kernel⟩
theorem lk145 : axLinkOk (3, 38, 2, 14, 3, 4, 179) := ⟨mtX4_store, rfl, List.mem_of_getElem? (i := 179) (by decide +kernel), List.mem_of_getElem? (i := 180) (by decide +kernel), by decide +kernel⟩
theorem lk146 : axLinkOk (3, 67, 2, 9, 2, 4, 206) := ⟨mtX4_cell, rfl, List.mem_of_getElem? (i := 206) (by decide +kernel), List.mem_of_getElem? (i := 156) (by decide +kernel), by decide +kernel⟩
theorem lk147 : axLinkOk (0, 60, 2, 48, 1, 4, 322) := ⟨mtX4_bit, rfl, List.mem_of_getElem? (i := 322) (by decide +kernel), List.mem_of_getElem? (i := 323) (by decide +kernel), by decide +kernel⟩
theorem lk148 : axLinkOk (1, 24, 2, 69, 2, 4, 420) := ⟨mtX4_copyInto, rfl, List.mem_of_getElem? (i := 420) (by decide +kernel), List.mem_of_getElem? (i := 421) (by decide +kernel), by decide +kernel⟩
theorem lk149 : axLinkOk (0, 85, 2, 14, 3, 4, 442) := ⟨mtX4_store, rfl, List.mem_of_getElem? (i := 442) (by decide +kernel), List.mem_of_getElem? (i := 180) (by decide +kernel), by decide +kernel⟩
theorem axMlT0_ok : ∀ q ∈ axMlT0, axLinkOk q := List.forall_mem_cons.mpr ⟨lk0, List.forall_mem_cons.mpr ⟨lk1, List.forall_mem_cons.mpr ⟨lk2, List.forall_mem_cons.mpr ⟨lk3, List.forall_mem_cons.mpr ⟨lk4, List.forall_mem_cons.mpr ⟨lk5, List.forall_mem_cons.mpr ⟨lk6, List.forall_mem_cons.mpr ⟨lk7, List.forall_mem_cons.mpr ⟨lk8, List.forall_mem_cons.mpr ⟨lk9, List.forall_mem_cons.mpr ⟨lk10, List.forall_mem_cons.mpr ⟨lk11, List.forall_mem_cons.mpr ⟨lk12, List.forall_mem_cons.mpr ⟨lk13, List.forall_mem_cons.mpr ⟨lk14, List.forall_mem_cons.mpr ⟨lk15, List.forall_mem_cons.mpr ⟨lk16, List.forall_mem_cons.mpr ⟨lk17, List.forall_mem_cons.mpr ⟨lk18, List.forall_mem_cons.mpr ⟨lk19, List.forall_mem_cons.mpr ⟨lk20, List.forall_mem_cons.mpr ⟨lk21, List.forall_mem_cons.mpr ⟨lk22, List.forall_mem_cons.mpr ⟨lk23, List.forall_mem_cons.mpr ⟨lk24, List.forall_mem_cons.mpr ⟨lk25, List.forall_mem_cons.mpr ⟨lk26, List.forall_mem_cons.mpr ⟨lk27, List.forall_mem_cons.mpr ⟨lk28, List.forall_mem_cons.mpr ⟨lk29, List.forall_mem_cons.mpr ⟨lk30, List.forall_mem_cons.mpr ⟨lk31, fun _ h => absurd h List.not_mem_nil⟩⟩⟩⟩⟩⟩⟩⟩⟩⟩⟩⟩⟩⟩⟩⟩⟩⟩⟩⟩⟩⟩⟩⟩⟩⟩⟩⟩⟩⟩⟩⟩
theorem axMlT1_ok : ∀ q ∈ axMlT1, axLinkOk q := List.forall_mem_cons.mpr ⟨lk32, List.forall_mem_cons.mpr ⟨lk33, List.forall_mem_cons.mpr ⟨lk34, List.forall_mem_cons.mpr ⟨lk35, List.forall_mem_cons.mpr ⟨lk36, List.forall_mem_cons.mpr ⟨lk37, List.forall_mem_cons.mpr ⟨lk38, List.forall_mem_cons.mpr ⟨lk39, List.forall_mem_cons.mpr ⟨lk40, List.forall_mem_cons.mpr ⟨lk41, List.forall_mem_cons.mpr ⟨lk42, List.forall_mem_cons.mpr ⟨lk43, List.forall_mem_cons.mpr ⟨lk44, List.forall_mem_cons.mpr ⟨lk45, List.forall_mem_cons.mpr ⟨lk46, List.forall_mem_cons.mpr ⟨lk47, List.forall_mem_cons.mpr ⟨lk48, List.forall_mem_cons.mpr ⟨lk49, List.forall_mem_cons.mpr ⟨lk50, List.forall_mem_cons.mpr ⟨lk51, List.forall_mem_cons.mpr ⟨lk52, List.forall_mem_cons.mpr ⟨lk53, List.forall_mem_cons.mpr ⟨lk54, List.forall_mem_cons.mpr ⟨lk55, List.forall_mem_cons.mpr ⟨lk56, List.forall_mem_cons.mpr ⟨lk57, List.forall_mem_cons.mpr ⟨lk58, List.forall_mem_cons.mpr ⟨lk59, List.forall_mem_cons.mpr ⟨lk60, List.forall_mem_cons.mpr ⟨lk61, List.forall_mem_cons.mpr ⟨lk62, List.forall_mem_cons.mpr ⟨lk63, fun _ h => absurd h List.not_mem_nil⟩⟩⟩⟩⟩⟩⟩⟩⟩⟩⟩⟩⟩⟩⟩⟩⟩⟩⟩⟩⟩⟩⟩⟩⟩⟩⟩⟩⟩⟩⟩⟩
theorem axMlT2_ok : ∀ q ∈ axMlT2, axLinkOk q := List.forall_mem_cons.mpr ⟨lk64, List.forall_mem_cons.mpr ⟨lk65, List.forall_mem_cons.mpr ⟨lk66, List.forall_mem_cons.mpr ⟨lk67, List.forall_mem_cons.mpr ⟨lk68, List.forall_mem_cons.mpr ⟨lk69, List.forall_mem_cons.mpr ⟨lk70, List.forall_mem_cons.mpr ⟨lk71, List.forall_mem_cons.mpr ⟨lk72, List.forall_mem_cons.mpr ⟨lk73, List.forall_mem_cons.mpr ⟨lk74, List.forall_mem_cons.mpr ⟨lk75, List.forall_mem_cons.mpr ⟨lk76, List.forall_mem_cons.mpr ⟨lk77, List.forall_mem_cons.mpr ⟨lk78, List.forall_mem_cons.mpr ⟨lk79, List.forall_mem_cons.mpr ⟨lk80, List.forall_mem_cons.mpr ⟨lk81, List.forall_mem_cons.mpr ⟨lk82, List.forall_mem_cons.mpr ⟨lk83, List.forall_mem_cons.mpr ⟨lk84, List.forall_mem_cons.mpr ⟨lk85, List.forall_mem_cons.mpr ⟨lk86, List.forall_mem_cons.mpr ⟨lk87, List.forall_mem_cons.mpr ⟨lk88, List.forall_mem_cons.mpr ⟨lk89, List.forall_mem_cons.mpr ⟨lk90, List.forall_mem_cons.mpr ⟨lk91, List.forall_mem_cons.mpr ⟨lk92, List.forall_mem_cons.mpr ⟨lk93, List.forall_mem_cons.mpr ⟨lk94, List.forall_mem_cons.mpr ⟨lk95, fun _ h => absurd h List.not_mem_nil⟩⟩⟩⟩⟩⟩⟩⟩⟩⟩⟩⟩⟩⟩⟩⟩⟩⟩⟩⟩⟩⟩⟩⟩⟩⟩⟩⟩⟩⟩⟩⟩
theorem axMlT3_ok : ∀ q ∈ axMlT3, axLinkOk q := List.forall_mem_cons.mpr ⟨lk96, List.forall_mem_cons.mpr ⟨lk97, List.forall_mem_cons.mpr ⟨lk98, List.forall_mem_cons.mpr ⟨lk99, List.forall_mem_cons.mpr ⟨lk100, List.forall_mem_cons.mpr ⟨lk101, List.forall_mem_cons.mpr ⟨lk102, List.forall_mem_cons.mpr ⟨lk103, List.forall_mem_cons.mpr ⟨lk104, List.forall_mem_cons.mpr ⟨lk105, List.forall_mem_cons.mpr ⟨lk106, List.forall_mem_cons.mpr ⟨lk107, List.forall_mem_cons.mpr ⟨lk108, List.forall_mem_cons.mpr ⟨lk109, List.forall_mem_cons.mpr ⟨lk110, List.forall_mem_cons.mpr ⟨lk111, List.forall_mem_cons.mpr ⟨lk112, List.forall_mem_cons.mpr ⟨lk113, List.forall_mem_cons.mpr ⟨lk114, List.forall_mem_cons.mpr ⟨lk115, List.forall_mem_cons.mpr ⟨lk116, List.forall_mem_cons.mpr ⟨lk117, List.forall_mem_cons.mpr ⟨lk118, List.forall_mem_cons.mpr ⟨lk119, List.forall_mem_cons.mpr ⟨lk120, List.forall_mem_cons.mpr ⟨lk121, List.forall_mem_cons.mpr ⟨lk122, List.forall_mem_cons.mpr ⟨lk123, List.forall_mem_cons.mpr ⟨lk124, List.forall_mem_cons.mpr ⟨lk125, List.forall_mem_cons.mpr ⟨lk126, List.forall_mem_cons.mpr ⟨lk127, fun _ h => absurd h List.not_mem_nil⟩⟩⟩⟩⟩⟩⟩⟩⟩⟩⟩⟩⟩⟩⟩⟩⟩⟩⟩⟩⟩⟩⟩⟩⟩⟩⟩⟩⟩⟩⟩⟩
theorem axMlT4_ok : ∀ q ∈ axMlT4, axLinkOk q := List.forall_mem_cons.mpr ⟨lk128, List.forall_mem_cons.mpr ⟨lk129, List.forall_mem_cons.mpr ⟨lk130, List.forall_mem_cons.mpr ⟨lk131, List.forall_mem_cons.mpr ⟨lk132, List.forall_mem_cons.mpr ⟨lk133, List.forall_mem_cons.mpr ⟨lk134, List.forall_mem_cons.mpr ⟨lk135, List.forall_mem_cons.mpr ⟨lk136, List.forall_mem_cons.mpr ⟨lk137, List.forall_mem_cons.mpr ⟨lk138, List.forall_mem_cons.mpr ⟨lk139, List.forall_mem_cons.mpr ⟨lk140, List.forall_mem_cons.mpr ⟨lk141, List.forall_mem_cons.mpr ⟨lk142, List.forall_mem_cons.mpr ⟨lk143, List.forall_mem_cons.mpr ⟨lk144, List.forall_mem_cons.mpr ⟨lk145, List.forall_mem_cons.mpr ⟨lk146, List.forall_mem_cons.mpr ⟨lk147, List.forall_mem_cons.mpr ⟨lk148, List.forall_mem_cons.mpr ⟨lk149, fun _ h => absurd h List.not_mem_nil⟩⟩⟩⟩⟩⟩⟩⟩⟩⟩⟩⟩⟩⟩⟩⟩⟩⟩⟩⟩⟩⟩
theorem axMlT_ok : ∀ q ∈ axMlT, axLinkOk q := List.forall_mem_append.mpr ⟨axMlT0_ok, List.forall_mem_append.mpr ⟨axMlT1_ok, List.forall_mem_append.mpr ⟨axMlT2_ok, List.forall_mem_append.mpr ⟨axMlT3_ok, axMlT4_ok⟩⟩⟩⟩
theorem axFlT_ok : ∀ q ∈ axFlT, Cond.fieldLink (axCn q.1) q.2.1 (axT q.2.2.1 q.2.2.2.1).1 (axT q.2.2.1 q.2.2.2.1).2.1 (axT q.2.2.1 q.2.2.2.1).2.2.1 ∈ lw_tbl ∧ q.2.2.2.1 < axNf q.2.2.1 ∧ axCl[q.2.2.1]? = some (axCn q.2.2.1, axT q.2.2.1, axNf q.2.2.1) := List.forall_mem_cons.mpr ⟨⟨List.mem_of_getElem? (i := 33) (by decide +kernel), by decide, rfl⟩, List.forall_mem_cons.mpr ⟨⟨List.mem_of_getElem? (i := 34) (by decide +kernel), by decide, rfl⟩, List.forall_mem_cons.mpr ⟨⟨List.mem_of_getElem? (i := 35) (by decide +kernel), by decide, rfl⟩, List.forall_mem_cons.mpr ⟨⟨List.mem_of_getElem? (i := 36) (by decide +kernel), by decide, rfl⟩, List.forall_mem_cons.mpr ⟨⟨List.mem_of_getElem? (i := 37) (by decide +kernel), by decide, rfl⟩, List.forall_mem_cons.mpr ⟨⟨List.mem_of_getElem? (i := 38) (by decide +kernel), by decide, rfl⟩, List.forall_mem_cons.mpr ⟨⟨List.mem_of_getElem? (i := 39) (by decide +kernel), by decide, rfl⟩, List.forall_mem_cons.mpr ⟨⟨List.mem_of_getElem? (i := 40) (by decide +kernel), by decide, rfl⟩, List.forall_mem_cons.mpr ⟨⟨List.mem_of_getElem? (i := 41) (by decide +kernel), by decide, rfl⟩, List.forall_mem_cons.mpr ⟨⟨List.mem_of_getElem? (i := 70) (by decide +kernel), by decide, rfl⟩, List.forall_mem_cons.mpr ⟨⟨List.mem_of_getElem? (i := 71) (by decide +kernel), by decide, rfl⟩, List.forall_mem_cons.mpr ⟨⟨List.mem_of_getElem? (i := 72) (by decide +kernel), by decide, rfl⟩, List.forall_mem_cons.mpr ⟨⟨List.mem_of_getElem? (i := 86) (by decide +kernel), by decide, rfl⟩, List.forall_mem_cons.mpr ⟨⟨List.mem_of_getElem? (i := 87) (by decide +kernel), by decide, rfl⟩, List.forall_mem_cons.mpr ⟨⟨List.mem_of_getElem? (i := 110) (by decide +kernel), by decide, rfl⟩, List.forall_mem_cons.mpr ⟨⟨List.mem_of_getElem? (i := 111) (by decide +kernel), by decide, rfl⟩, List.forall_mem_cons.mpr ⟨⟨List.mem_of_getElem? (i := 112) (by decide +kernel), by decide, rfl⟩, List.forall_mem_cons.mpr ⟨⟨List.mem_of_getElem? (i := 113) (by decide +kernel), by decide, rfl⟩, List.forall_mem_cons.mpr ⟨⟨List.mem_of_getElem? (i := 123) (by decide +kernel), by decide, rfl⟩, List.forall_mem_cons.mpr ⟨⟨List.mem_of_getElem? (i := 124) (by decide +kernel), by decide, rfl⟩, List.forall_mem_cons.mpr ⟨⟨List.mem_of_getElem? (i := 125) (by decide +kernel), by decide, rfl⟩, List.forall_mem_cons.mpr ⟨⟨List.mem_of_getElem? (i := 126) (by decide +kernel), by decide, rfl⟩, List.forall_mem_cons.mpr ⟨⟨List.mem_of_getElem? (i := 127) (by decide +kernel), by decide, rfl⟩, fun _ h => absurd h List.not_mem_nil⟩⟩⟩⟩⟩⟩⟩⟩⟩⟩⟩⟩⟩⟩⟩⟩⟩⟩⟩⟩⟩⟩⟩
theorem axStT_ok : ∀ q ∈ axStT, Cond.fieldLinkNest (axCn q.1) q.2.1 "BeatSlugs" (if q.2.2.1 = 1 then "LEAST_SETTING" else "MOST_SETTING") "[I" "BeatSlugs" ∈ lw_tbl ∧ (q.2.2.1 = 1 ∨ q.2.2.1 = 2) := List.forall_mem_cons.mpr ⟨⟨List.mem_of_getElem? (i := 598) (by decide +kernel), by decide⟩, List.forall_mem_cons.mpr ⟨⟨List.mem_of_getElem? (i := 600) (by decide +kernel), by decide⟩, fun _ h => absurd h List.not_mem_nil⟩⟩
theorem axClsT_ok : ∀ q ∈ axClsT, Cond.classLink (axCn q.1) q.2.1 (axCn q.2.2.1) ∈ lw_tbl := List.forall_mem_cons.mpr ⟨List.mem_of_getElem? (i := 19) (by decide +kernel), List.forall_mem_cons.mpr ⟨List.mem_of_getElem? (i := 27) (by decide +kernel), List.forall_mem_cons.mpr ⟨List.mem_of_getElem? (i := 62) (by decide +kernel), List.forall_mem_cons.mpr ⟨List.mem_of_getElem? (i := 68) (by decide +kernel), List.forall_mem_cons.mpr ⟨List.mem_of_getElem? (i := 80) (by decide +kernel), List.forall_mem_cons.mpr ⟨List.mem_of_getElem? (i := 104) (by decide +kernel), fun _ h => absurd h List.not_mem_nil⟩⟩⟩⟩⟩⟩
theorem axCsT_ok : ∀ q ∈ axCsT, Cond.constant (axCn q.1) q.2.1 q.2.2.1 ∈ lw_tbl := List.forall_mem_cons.mpr ⟨List.mem_of_getElem? (i := 248) (by decide +kernel), List.forall_mem_cons.mpr ⟨List.mem_of_getElem? (i := 249) (by decide +kernel), List.forall_mem_cons.mpr ⟨List.mem_of_getElem? (i := 250) (by decide +kernel), List.forall_mem_cons.mpr ⟨List.mem_of_getElem? (i := 281) (by decide +kernel), List.forall_mem_cons.mpr ⟨List.mem_of_getElem? (i := 282) (by decide +kernel), List.forall_mem_cons.mpr ⟨List.mem_of_getElem? (i := 463) (by decide +kernel), fun _ h => absurd h List.not_mem_nil⟩⟩⟩⟩⟩⟩
theorem axLcT_ok : ∀ q ∈ axLcT, Cond.constantLong (axCn q.1) q.2.1 q.2.2.1 ∈ lw_tbl := List.forall_mem_cons.mpr ⟨List.mem_of_getElem? (i := 524) (by decide +kernel), List.forall_mem_cons.mpr ⟨List.mem_of_getElem? (i := 525) (by decide +kernel), fun _ h => absurd h List.not_mem_nil⟩⟩
theorem axW_native : Cond.native arraycopyName ∈ lw_tbl := List.mem_of_getElem? (i := 429) (by decide +kernel)
theorem axW_statac : Cond.static arraycopyName ∈ lw_tbl := List.mem_of_getElem? (i := 428) (by decide +kernel)
theorem axW_sys : Cond.initialized "java/lang/System" ∈ lw_tbl := List.mem_of_getElem? (i := 18) (by decide +kernel)
theorem axW_math : Cond.initialized "java/lang/Math" ∈ lw_tbl := List.mem_of_getElem? (i := 16) (by decide +kernel)
theorem axW_stmax : Cond.static Lib.Math.max.name ∈ lw_tbl := List.mem_of_getElem? (i := 264) (by decide +kernel)
theorem axW_cdmax : Cond.code Lib.Math.max.name Lib.Math.max.code 2 (some .int) ∈ lw_tbl := List.mem_of_getElem? (i := 265) (by decide +kernel)
theorem axW_stmin : Cond.static Lib.Math.min.name ∈ lw_tbl := List.mem_of_getElem? (i := 166) (by decide +kernel)
theorem axW_cdmin : Cond.code Lib.Math.min.name Lib.Math.min.code 2 (some .int) ∈ lw_tbl := List.mem_of_getElem? (i := 167) (by decide +kernel)
theorem axW_stabs : Cond.static Lib.Math.abs.name ∈ lw_tbl := List.mem_of_getElem? (i := 169) (by decide +kernel)
theorem axW_cdabs : Cond.code Lib.Math.abs.name Lib.Math.abs.code 1 (some .int) ∈ lw_tbl := List.mem_of_getElem? (i := 170) (by decide +kernel)
theorem axW_obj : Cond.instanceMethod objectInit ∈ lw_tbl := List.mem_of_getElem? (i := 25) (by decide +kernel)
theorem axW_objc : Cond.code objectInit ⟨#[0xb1]⟩ 1 none ∈ lw_tbl := List.mem_of_getElem? (i := 26) (by decide +kernel)
theorem axW_in0 : Cond.instantiable (axCn 0) (axNf 0) ∈ lw_tbl := List.mem_of_getElem? (i := 28) (by decide +kernel)
theorem axW_ini0 : Cond.initialized (axCn 0) ∈ lw_tbl := List.mem_of_getElem? (i := 12) (by decide +kernel)
theorem axW_lay0 : ∀ w ∈ u_ws (axCn 0) (axT 0) (axNf 0), w ∈ lw_tbl := by decide +kernel
theorem axW_ty0 : ∀ k, k < axNf 0 → parseFieldDescriptor (axT 0 k).2.2.1 = some (axTy 0 k) := by decide +kernel
theorem axW_nm0 : ∀ a, a < axNf 0 → ∀ b, b < axNf 0 → a ≠ b → (axT 0 a).2.1 ≠ (axT 0 b).2.1 := by decide +kernel
theorem axW_own0 : ∀ k, k < axNf 0 → (axT 0 k).1 = axCn 0 := by decide +kernel
theorem axW_df0 : ∀ k, k < axNf 0 → defaultValue (axTy 0 k) = vp_V (axDf 0) k := by decide +kernel
theorem axW_in1 : Cond.instantiable (axCn 1) (axNf 1) ∈ lw_tbl := List.mem_of_getElem? (i := 63) (by decide +kernel)
theorem axW_ini1 : Cond.initialized (axCn 1) ∈ lw_tbl := List.mem_of_getElem? (i := 13) (by decide +kernel)
theorem axW_lay1 : ∀ w ∈ u_ws (axCn 1) (axT 1) (axNf 1), w ∈ lw_tbl := by decide +kernel
theorem axW_ty1 : ∀ k, k < axNf 1 → parseFieldDescriptor (axT 1 k).2.2.1 = some (axTy 1 k) := by decide +kernel
theorem axW_nm1 : ∀ a, a < axNf 1 → ∀ b, b < axNf 1 → a ≠ b → (axT 1 a).2.1 ≠ (axT 1 b).2.1 := by decide +kernel
theorem axW_own1 : ∀ k, k < axNf 1 → (axT 1 k).1 = axCn 1 := by decide +kernel
theorem axW_df1 : ∀ k, k < axNf 1 → defaultValue (axTy 1 k) = vp_V (axDf 1) k := by decide +kernel
theorem axW_in2 : Cond.instantiable (axCn 2) (axNf 2) ∈ lw_tbl := List.mem_of_getElem? (i := 81) (by decide +kernel)
theorem axW_ini2 : Cond.initialized (axCn 2) ∈ lw_tbl := List.mem_of_getElem? (i := 14) (by decide +kernel)
theorem axW_lay2 : ∀ w ∈ u_ws (axCn 2) (axT 2) (axNf 2), w ∈ lw_tbl := by decide +kernel
theorem axW_ty2 : ∀ k, k < axNf 2 → parseFieldDescriptor (axT 2 k).2.2.1 = some (axTy 2 k) := by decide +kernel
theorem axW_nm2 : ∀ a, a < axNf 2 → ∀ b, b < axNf 2 → a ≠ b → (axT 2 a).2.1 ≠ (axT 2 b).2.1 := by decide +kernel
theorem axW_own2 : ∀ k, k < axNf 2 → (axT 2 k).1 = axCn 2 := by decide +kernel
theorem axW_df2 : ∀ k, k < axNf 2 → defaultValue (axTy 2 k) = vp_V (axDf 2) k := by decide +kernel
theorem axW_in3 : Cond.instantiable (axCn 3) (axNf 3) ∈ lw_tbl := List.mem_of_getElem? (i := 105) (by decide +kernel)
theorem axW_ini3 : Cond.initialized (axCn 3) ∈ lw_tbl := List.mem_of_getElem? (i := 15) (by decide +kernel)
theorem axW_lay3 : ∀ w ∈ u_ws (axCn 3) (axT 3) (axNf 3), w ∈ lw_tbl := by decide +kernel
theorem axW_ty3 : ∀ k, k < axNf 3 → parseFieldDescriptor (axT 3 k).2.2.1 = some (axTy 3 k) := by decide +kernel
theorem axW_nm3 : ∀ a, a < axNf 3 → ∀ b, b < axNf 3 → a ≠ b → (axT 3 a).2.1 ≠ (axT 3 b).2.1 := by decide +kernel
theorem axW_own3 : ∀ k, k < axNf 3 → (axT 3 k).1 = axCn 3 := by decide +kernel
theorem axW_df3 : ∀ k, k < axNf 3 → defaultValue (axTy 3 k) = vp_V (axDf 3) k := by decide +kernel
theorem axW_in4 : Cond.instantiable (axCn 4) (axNf 4) ∈ lw_tbl := List.mem_of_getElem? (i := 20) (by decide +kernel)
theorem axW_ini4 : Cond.initialized (axCn 4) ∈ lw_tbl := List.mem_of_getElem? (i := 11) (by decide +kernel)
theorem axW_lay4 : ∀ w ∈ u_ws (axCn 4) (axT 4) (axNf 4), w ∈ lw_tbl := by decide +kernel
theorem axW_ty4 : ∀ k, k < axNf 4 → parseFieldDescriptor (axT 4 k).2.2.1 = some (axTy 4 k) := by decide +kernel
theorem axW_nm4 : ∀ a, a < axNf 4 → ∀ b, b < axNf 4 → a ≠ b → (axT 4 a).2.1 ≠ (axT 4 b).2.1 := by decide +kernel
theorem axW_own4 : ∀ k, k < axNf 4 → (axT 4 k).1 = axCn 4 := by decide +kernel
theorem axW_df4 : ∀ k, k < axNf 4 → defaultValue (axTy 4 k) = vp_V (axDf 4) k := by decide +kernel
theorem axW_ari : Cond.arrayClass .int ∈ lw_tbl := List.mem_of_getElem? (i := 61) (by decide +kernel)
theorem axW_arc : Cond.arrayClass .char ∈ lw_tbl := List.mem_of_getElem? (i := 103) (by decide +kernel)
theorem axW_ao : Cond.arrayOver (.object "BeatSlugs$Board") ∈ lw_tbl := List.mem_of_getElem? (i := 69) (by decide +kernel)
theorem axW_lsLEAST : Cond.laysStatic "BeatSlugs" "LEAST_SETTING" "[I" ∈ lw_tbl := List.mem_of_getElem? (i := 599) (by decide +kernel)
theorem axW_lsMOST : Cond.laysStatic "BeatSlugs" "MOST_SETTING" "[I" ∈ lw_tbl := List.mem_of_getElem? (i := 601) (by decide +kernel)
end
section
/-! The abstract heap on the Java heap. b: the heap's size at the law's entry; rb: the three arrays that nobody writes; ca: the array classes. -/
def axTW : List Cond := lw_tbl.filter goodWord
theorem axTW_mem {w : Cond} (h : w ∈ lw_tbl) (g : goodWord w = true) : w ∈ axTW := List.mem_filter.mpr ⟨h, g⟩
theorem axTW_good {w : Cond} (h : w ∈ axTW) : (w.onTables && w.keeps) = true ∨ ∃ ty, w = .arrayClass ty := good_of_word (List.mem_filter.mp h).2
def axCv (b : Nat) (rb : Nat → Nat) : Value → Value := fun v => match v with
  | .ref k => .ref (b + k)
  | .retAddr i => .ref (rb i)
  | v => v
def axCe (b : Nat) (rb : Nat → Nat) (ca : Nat → ClassId) : axC → va_E := fun c => match c with
  | .inl (k, n, f) => .inl (ca k, n, .inl f)
  | .inr (.inl (n, f)) => .inl (ca 3, n, .inr (.inr (.inr (.inr (fun i => (f i).map (fun k => b + k))))))
  | .inr (.inr (ci, fs)) => .inr (ci, fs.map (axCv b rb))
def axWs (b : Nat) (rb : Nat → Nat) (ca : Nat → ClassId) : Nat → axH → va_W
  | _, [] => []
  | k, c :: l => (k, axCe b rb ca c) :: axWs b rb ca (k + 1) l
section AX6
variable {b : Nat} {rb : Nat → Nat} {ca : Nat → ClassId}
theorem axWs_get : ∀ (h : axH) (k i : Nat), (axWs b rb ca k h)[i]? = (h[i]?).map (fun c => (k + i, axCe b rb ca c))
  | [], k, i => by simp [axWs]
  | c :: l, k, 0 => by simp [axWs]
  | c :: l, k, i + 1 => by
    show (axWs b rb ca (k + 1) l)[i]? = (l[i]?).map _
    rw [axWs_get l (k + 1) i]
    congr 1
    funext c
    rw [show k + 1 + i = k + (i + 1) by omega]
theorem axWs_at {h : axH} {i : Nat} {c : axC} (e : h[i]? = some c) : (axWs b rb ca b h)[i]? = some (b + i, axCe b rb ca c) := by rw [axWs_get, e]; rfl
theorem axWs_set : ∀ (h : axH) (k i : Nat) (c : axC), axWs b rb ca k (h.set i c) = (axWs b rb ca k h).set i (k + i, axCe b rb ca c)
  | [], k, i, c => by simp [axWs]
  | _ :: l, k, 0, c => by simp [axWs]
  | d :: l, k, i + 1, c => by
    show (k, axCe b rb ca d) :: axWs b rb ca (k + 1) (l.set i c) = (k, axCe b rb ca d) :: (axWs b rb ca (k + 1) l).set i (k + (i + 1), axCe b rb ca c)
    rw [axWs_set l (k + 1) i c, show k + 1 + i = k + (i + 1) by omega]
theorem axWs_app : ∀ (h : axH) (k : Nat) (c : axC), axWs b rb ca k (h ++ [c]) = axWs b rb ca k h ++ [(k + h.length, axCe b rb ca c)]
  | [], k, c => by simp [axWs]
  | d :: l, k, c => by
    show (k, axCe b rb ca d) :: axWs b rb ca (k + 1) (l ++ [c]) = (k, axCe b rb ca d) :: (axWs b rb ca (k + 1) l ++ [(k + (l.length + 1), axCe b rb ca c)])
    rw [axWs_app l (k + 1) c, show k + 1 + l.length = k + (l.length + 1) by omega]
theorem axWs_D (h : axH) : va_D (fun q : Nat => b ≤ q) (axWs b rb ca b h) := by
  have key : ∀ (k : Nat) (q : Nat × va_E), (axWs b rb ca b h)[k]? = some q → q.1 = b + k := by
    intro k q hq
    rw [axWs_get] at hq
    obtain ⟨c, -, e⟩ := Option.map_eq_some_iff.mp hq
    rw [← e]
  refine ⟨fun i j p q hi hj he => ?_, fun k q hq => ?_⟩
  · rw [key i p hi, key j q hj] at he
    omega
  · show b ≤ q.1
    rw [key k q hq]; omega
theorem axCv_cat (v : Value) : (axCv b rb v).category = v.category := by cases v <;> rfl
theorem axCv_sum (S : List Value) : ((S.map (axCv b rb)).map fun v => v.category).sum = axSum S := by
  unfold axSum
  rw [List.map_map]
  congr 1
  apply List.map_congr_left
  intro v _
  exact axCv_cat v
end AX6
def axTys (ca : Nat → ClassId) : List (ClassId × FieldType) := [(ca 0, .int), (ca 1, .char), (ca 2, .int), (ca 3, .object "BeatSlugs$Board")]
def axNest : Cond → Bool
  | .methodLinkNest _ _ _ _ => true
  | .fieldLinkNest _ _ _ _ _ _ => true
  | _ => false
/-- what stays as it was at the law's entry: the arrays that nobody writes, the static fields, the words on nest mates -/
def axSt (b : Nat) (rb : Nat → Nat) (ro : axRo) (U : State) (H : Heap) : Prop :=
  (∀ i, i < 3 → rb i < b ∧ va_T .int (rb i) (ro i).1 (fun j => .int ((ro i).2 j)) (fun q : Nat => b ≤ q) U H) ∧ va_Z "BeatSlugs" "LEAST_SETTING" "[I" (.ref (rb 1)) (fun q : Nat => b ≤ q) U H ∧ va_Z "BeatSlugs" "MOST_SETTING" "[I" (.ref (rb 2)) (fun q : Nat => b ≤ q) U H ∧ (∀ w ∈ lw_tbl, axNest w = true → va_Nw w U) ∧ va_AO "BeatSlugs$Board" U
def axRep (b : Nat) (rb : Nat → Nat) (ca : Nat → ClassId) (D : va_G) (ro : axRo) (h : axH) (U : State) : Prop :=
  U.heap.size = b + h.length ∧ va_P D axCl (axWs b rb ca b h) U.heap ∧ va_K D axCl (axTys ca) U ∧ axSt b rb ro U U.heap
def axInv (b : Nat) (rb : Nat → Nat) (ca : Nat → ClassId) (D : va_G) (s : State) (h : axH) (H : Heap) (locs : List Loc) : Prop :=
  H.size = b + h.length ∧ va_P D axCl (axWs b rb ca b h) H ∧ va_S (fun q : Nat => b ≤ q) s.heap H locs
section AX6b
variable {b : Nat} {rb : Nat → Nat} {ca : Nat → ClassId} {D : va_G} {ro : axRo}
theorem axSt_moved {u U : State} {H H1 : Heap} (hvm : u.vm.Alike U.vm) (hnw : ∀ w ∈ lw_tbl, axNest w = true → va_Nw w u → va_Nw w U) (hq : ∀ a : Nat, a < H.size → ¬ b ≤ a → H1[a]? = H[a]?) (hb : b ≤ H.size) (h : axSt b rb ro u H) : axSt b rb ro U H1 := by
  obtain ⟨h1, h2, h3, h4, h5⟩ := h
  refine ⟨fun i hi => ⟨(h1 i hi).1, ((h1 i hi).2.kept hq).moved hvm⟩, (h2.kept hq).moved hvm, (h3.kept hq).moved hvm, fun w hw hn => hnw w hw hn (h4 w hw hn), h5.moved hvm⟩
theorem axNw_warm {s U : State} (hW : s.WarmedH U.vm) {w : Cond} (hn : axNest w = true) (h : va_Nw w s) : va_Nw w U := by
  cases w <;> simp only [axNest] at hn
  case methodLinkNest => exact va_Nw.warmM hW h
  case fieldLinkNest => exact va_Nw.warmF hW h
  all_goals cases hn
theorem axNw_same {s U : State} (hv : s.vm = U.vm) {w : Cond} (hn : axNest w = true) (h : va_Nw w s) : va_Nw w U := by
  cases w <;> simp only [axNest] at hn
  case methodLinkNest => exact va_Nw.same rfl hv h
  case fieldLinkNest => exact va_Nw.same rfl hv h
  all_goals cases hn
theorem axRep_at {s U : State} {h : axH} {H : Heap} {locs : List Loc} (hW : s.WarmedH U.vm) (hU : U.heap = H) (hK : va_K D axCl (axTys ca) s) (hs : b ≤ s.heap.size) (h0 : axSt b rb ro s s.heap) (hI : axInv b rb ca D s h H locs) : axRep b rb ca D ro h U := by
  obtain ⟨i1, i2, i3⟩ := hI
  refine ⟨by rw [hU]; exact i1, by rw [hU]; exact i2, va_K.moved hW.alike hK, ?_⟩
  rw [hU]
  exact axSt_moved hW.alike (fun w _ hn h => axNw_warm hW hn h) (fun a ha hb => i3.2.1 a ha hb) hs h0
theorem axRep_calling {U : State} {h : axH} (g : JFrame) (mk : MethodId) (a : Array Value) (hR : axRep b rb ca D ro h U) : axRep b rb ca D ro h (U.calling g mk a) := by
  obtain ⟨i1, i2, i3, i4⟩ := hR
  refine ⟨i1, i2, va_K.moved (u := U) (U := U.calling g mk a) (Vm.Alike.refl U.vm) i3, ?_⟩
  refine axSt_moved (u := U) (U := U.calling g mk a) (H := U.heap) (H1 := U.heap) (Vm.Alike.refl U.vm) (fun w _ hn h => axNw_same (s := U) (U := U.calling g mk a) rfl hn h) (fun _ _ _ => rfl) (by omega) i4
end AX6b
def axPc (b : Nat) (rb : Nat → Nat) (ca : Nat → ClassId) (D : va_G) (ro : axRo) (vs : List Value) (h : axH) : Array Value → State → Prop := fun a U => a = (vs.map (axCv b rb)).toArray ∧ axRep b rb ca D ro h U
def axQc (b : Nat) (rb : Nat → Nat) (ca : Nat → ClassId) (D : va_G) (ro : axRo) (r : Option Value) (h : axH) : Array Value → State → Outcome → State → Prop := fun _ st o t => o = .returned (r.map (axCv b rb)) ∧ axRep b rb ca D ro h t ∧ va_F (fun q : Nat => b ≤ q) st t
def axRm (d mc ms : Nat) : Room := { frames := d, cells := mc, slots := ms, locals := 36 * d }
def axCs : axC → Nat := fun c => match c with
  | .inl (_, n, _) => n
  | .inr (.inl (n, _)) => n
  | .inr (.inr (_, fs)) => fs.length
def axSl (h : axH) : Nat := (h.map axCs).sum
theorem axSl_app (h : axH) (c : axC) : axSl (h ++ [c]) = axSl h + axCs c := by simp [axSl]
theorem axSl_set : ∀ (h : axH) (i : Nat) (c d : axC), h[i]? = some d → axCs c = axCs d → axSl (h.set i c) = axSl h
  | [], i, c, d, h, _ => by simp at h
  | a :: l, 0, c, d, h, e => by
    simp only [List.getElem?_cons_zero, Option.some.injEq] at h
    simp [axSl, e, h]
  | a :: l, i + 1, c, d, h, e => by
    rw [List.getElem?_cons_succ] at h
    have := axSl_set l i c d h e
    unfold axSl at *
    rw [List.set_cons_succ, List.map_cons, List.sum_cons, this, List.map_cons, List.sum_cons]
def axWM (M : axM) : List Cond := Cond.code M.1 M.2.1 M.2.2.1 M.2.2.2.1 :: axTW
theorem axWM_good {M : axM} (hM : axGood M) : GoodIn axTW (axWM M) := by
  intro w hw
  have hc : Cond.code M.1 M.2.1 M.2.2.1 M.2.2.2.1 ∈ axTW := axTW_mem hM.1 rfl
  rcases List.mem_cons.mp hw with rfl | h
  · exact ⟨hc, axTW_good hc⟩
  · exact ⟨h, axTW_good h⟩
theorem goodIn_one {big : List Cond} {w : Cond} (h : w ∈ lw_tbl) (g : goodWord w = true) : w ∈ axTW ∧ ((w.onTables && w.keeps) = true ∨ ∃ ty, w = .arrayClass ty) := ⟨axTW_mem h g, good_of_word g⟩
/-! the locals -/
def axEn (b : Nat) (rb : Nat → Nat) : Nat → axL → List (Nat × Value)
  | _, [] => []
  | k, some v :: l => (k, axCv b rb v) :: axEn b rb (k + 1) l
  | k, none :: l => axEn b rb (k + 1) l
def axLr (b : Nat) (rb : Nat → Nat) (L : axL) (ls : Array Slot) (nL : Nat) : Prop := L.length = nL ∧ lv_has ls nL (axEn b rb 0 L)
section AX6c
variable {b : Nat} {rb : Nat → Nat}
theorem axEn_mem : ∀ (L : axL) (k j : Nat) (w : Value), (j, w) ∈ axEn b rb k L ↔ ∃ i v, j = k + i ∧ axG L i = some v ∧ w = axCv b rb v
  | [], k, j, w => by simp [axEn, axG]
  | some u :: l, k, j, w => by
    rw [axEn, List.mem_cons, axEn_mem l (k + 1) j w]
    constructor
    · rintro (h | ⟨i, v, h1, h2, h3⟩)
      · cases h
        exact ⟨0, u, rfl, rfl, rfl⟩
      · exact ⟨i + 1, v, by omega, h2, h3⟩
    · rintro ⟨i, v, h1, h2, h3⟩
      cases i with
      | zero =>
        have : u = v := Option.some.inj h2
        subst this
        left
        rw [h1, h3]; rfl
      | succ i => exact Or.inr ⟨i, v, by omega, h2, h3⟩
  | none :: l, k, j, w => by
    rw [axEn, axEn_mem l (k + 1) j w]
    constructor
    · rintro ⟨i, v, h1, h2, h3⟩
      exact ⟨i + 1, v, by omega, h2, h3⟩
    · rintro ⟨i, v, h1, h2, h3⟩
      cases i with
      | zero => cases h2
      | succ i => exact ⟨i, v, by omega, h2, h3⟩
theorem axLr_get {L : axL} {ls : Array Slot} {nL i : Nat} {v : Value} (h : axLr b rb L ls nL) (e : axG L i = some v) : ls[i]? = some (.val (axCv b rb v)) := h.2.2.2 (i, axCv b rb v) ((axEn_mem L 0 i _).mpr ⟨i, v, by omega, e, rfl⟩)
theorem axP_succ {u : Option Value} {l L' : axL} {i : Nat} {v : Value} (h : axP (u :: l) (i + 1) v = some L') : (∃ l', axP l i v = some l' ∧ L' = u :: l') ∧ (i = 0 → ∀ w, u = some w → ¬ w.category = 2) := by
  have key : ∀ o : Option axL, (match o with | some l' => some (u :: l') | none => none) = some L' → ∃ l', o = some l' ∧ L' = u :: l' := by
    intro o ho
    cases o with
    | none => cases ho
    | some l' => exact ⟨l', rfl, (Option.some.inj ho).symm⟩
  cases i with
  | succ n => exact ⟨key _ (by rw [axP] at h; exact h; all_goals (intros; omega)), fun q => by omega⟩
  | zero =>
    cases u with
    | none => exact ⟨key _ h, fun _ w q => by cases q⟩
    | some w =>
      cases w with
      | long x => cases h
      | double x => cases h
      | _ => exact ⟨key _ h, fun _ w q => by cases q; intro z; cases z⟩
theorem axP_spec : ∀ (L L' : axL) (i : Nat) (v : Value), axP L i v = some L' → L'.length = L.length ∧ i < L.length ∧ ∀ j w, axG L' j = some w → (j = i ∧ w = v) ∨ (j ≠ i ∧ axG L j = some w ∧ ¬ (j + 1 = i ∧ w.category = 2))
  | [], L', i, v, h => by cases h
  | u :: l, L', 0, v, h => by
    have h := (Option.some.inj h).symm
    subst h
    refine ⟨rfl, by simp, fun j w e => ?_⟩
    cases j with
    | zero => exact Or.inl ⟨rfl, (Option.some.inj e).symm⟩
    | succ j => exact Or.inr ⟨by omega, e, by omega⟩
  | u :: l, L', i + 1, v, h => by
    obtain ⟨⟨l', hl, rfl⟩, hn⟩ := axP_succ h
    obtain ⟨a1, a2, a3⟩ := axP_spec l l' i v hl
    refine ⟨by simp [a1], by simp; omega, fun j w e => ?_⟩
    cases j with
    | zero => exact Or.inr ⟨by omega, e, fun q => hn (by omega) w e q.2⟩
    | succ j =>
      rcases a3 j w e with ⟨z1, z2⟩ | ⟨z1, z2, z3⟩
      · exact Or.inl ⟨by omega, z2⟩
      · exact Or.inr ⟨by omega, z2, by omega⟩
theorem axN_spec : ∀ (L L' : axL) (i : Nat), axN L i = some L' → L'.length = L.length ∧ i < L.length ∧ ∀ j w, axG L' j = some w → j ≠ i ∧ axG L j = some w
  | [], L', i, h => by cases h
  | u :: l, L', 0, h => by
    have h := (Option.some.inj h).symm
    subst h
    refine ⟨rfl, by simp, fun j w e => ?_⟩
    cases j with
    | zero => cases e
    | succ j => exact ⟨by omega, e⟩
  | u :: l, L', i + 1, h => by
    have key : ∀ o : Option axL, (match o with | some l' => some (u :: l') | none => none) = some L' → ∃ l', o = some l' ∧ L' = u :: l' := by
      intro o ho
      cases o with
      | none => cases ho
      | some l' => exact ⟨l', rfl, (Option.some.inj ho).symm⟩
    obtain ⟨l', hl, rfl⟩ := key _ h
    obtain ⟨a1, a2, a3⟩ := axN_spec l l' i hl
    refine ⟨by simp [a1], by simp; omega, fun j w e => ?_⟩
    cases j with
    | zero => exact ⟨by omega, e⟩
    | succ j =>
      obtain ⟨z1, z2⟩ := a3 j w e
      exact ⟨by omega, z2⟩
end AX6c
end
section
/-! SOUNDNESS, an instruction at a time: where the abstract machine goes on, the Java machine does (1: locals, stack, jumps). Written by wip/whole/mk07.py. -/
/-- what stays for a method's whole body: the machine, the code, the class, the words, the classes' numbers, what nobody writes -/
def axFx (p : Program) (s : State) (m : MethodId) (args : Array Value) (meth : Method) (c : Code) (b : Nat) (rb : Nat → Nat) (ca : Nat → ClassId) (D : va_G) (ro : axRo) (cc : ByteArray) (nL o : Nat) : Prop :=
  p.tables.exec = Jvm.exec ∧ c.code = cc ∧ c.maxLocals = nL ∧ s.vm.findClass (axCn o) = some m.cls ∧ (∀ w ∈ axTW, w.before args s = true) ∧ va_K D axCl (axTys ca) s ∧ axSt b rb ro s s.heap ∧ b ≤ s.heap.size
/-- from every heap that holds the abstract one, with these locals and this stack at pc, the method comes to QQ -/
def axWW (p : Program) (l : Launch) (e : Env) (R : Room) (s : State) (m : MethodId) (args : Array Value) (below : List Frame) (meth : Method) (c : Code) (b : Nat) (rb : Nat → Nat) (ca : Nat → ClassId) (D : va_G) (QQ : State → Prop) (nL n0 s0 : Nat) (pc : Nat) (L : axL) (S : List Value) (h : axH) : Prop :=
  n0 ≤ h.length → s0 ≤ axSl h → ∀ (H : Heap) (locs : List Loc) (ls : Array Slot), axInv b rb ca D s h H locs → axLr b rb L ls nL → W p l e R s m args below meth c H locs (h.length - n0) (axSl h - s0) QQ (F0 m pc ls (S.map (axCv b rb)))
theorem axI_ok {k len : Nat} {e e' : axE} (h : axI k len e = some e') : len = k ∧ e = e' := by
  unfold axI at h
  split at h
  · exact ⟨by assumption, Option.some.inj h⟩
  · cases h
theorem axTg_ok {pc len : Nat} {off : Int} {k : Nat → axE} {e' : axE} (h : axTg pc len off k = some e') : len = 3 ∧ (pc : Int) + off = ((((pc : Int) + off).toNat : Nat) : Int) ∧ k ((pc : Int) + off).toNat = e' := by
  unfold axTg at h
  split at h
  · rename_i q
    exact ⟨q.2, (Int.toNat_of_nonneg q.1).symm, Option.some.inj h⟩
  · cases h
theorem axLr_put {b : Nat} {rb : Nat → Nat} {L L' : axL} {nL i : Nat} {v : Value} {ls' : Array Slot} (hp : axP L i v = some L') (hn : L.length = nL) (hl : lv_has ls' nL ((i, axCv b rb v) :: (axEn b rb 0 L).filter (fun q => !(q.1 == i) && !(q.1 + 1 == i && q.2.category == 2)))) : axLr b rb L' ls' nL := by
  obtain ⟨a1, a2, a3⟩ := axP_spec L L' i v hp
  refine ⟨a1.trans hn, hl.1, hl.2.1, fun q hq => ?_⟩
  obtain ⟨j, w⟩ := q
  obtain ⟨i0, v0, h1, h2, h3⟩ := (axEn_mem L' 0 j w).mp hq
  have h1 : j = i0 := by omega
  subst h1
  subst h3
  rcases a3 j v0 h2 with ⟨z1, z2⟩ | ⟨z1, z2, z3⟩
  · rw [z1, z2]
    exact hl.2.2 (i, axCv b rb v) List.mem_cons_self
  · refine hl.2.2 (j, axCv b rb v0) (List.mem_cons_of_mem _ (List.mem_filter.mpr ⟨(axEn_mem L 0 j _).mpr ⟨j, v0, by omega, z2, rfl⟩, ?_⟩))
    rw [axCv_cat]
    simp only [Bool.and_eq_true, Bool.not_eq_true', beq_eq_false_iff_ne, ne_eq, Bool.and_eq_false_iff]
    refine ⟨z1, ?_⟩
    by_cases hj : j + 1 = i
    · exact Or.inr (fun q => z3 ⟨hj, q⟩)
    · exact Or.inl hj
theorem axLr_put2 {b : Nat} {rb : Nat → Nat} {L L' L'' : axL} {nL i : Nat} {v : Value} {ls' : Array Slot} (hp : axP L i v = some L') (hp2 : axN L' (i + 1) = some L'') (hn : L.length = nL) (hl : lv_has ls' nL ((i, axCv b rb v) :: (axEn b rb 0 L).filter (fun q => !(q.1 == i) && (!(q.1 == i + 1) && !(q.1 + 1 == i && q.2.category == 2))))) : axLr b rb L'' ls' nL := by
  obtain ⟨a1, a2, a3⟩ := axP_spec L L' i v hp
  obtain ⟨b1, b2, b3⟩ := axN_spec L' L'' (i + 1) hp2
  refine ⟨b1.trans (a1.trans hn), hl.1, hl.2.1, fun q hq => ?_⟩
  obtain ⟨j, w⟩ := q
  obtain ⟨i0, v0, h1, h2, h3⟩ := (axEn_mem L'' 0 j w).mp hq
  have h1 : j = i0 := by omega
  subst h1
  subst h3
  obtain ⟨c1, c2⟩ := b3 j v0 h2
  rcases a3 j v0 c2 with ⟨z1, z2⟩ | ⟨z1, z2, z3⟩
  · rw [z1, z2]
    exact hl.2.2 (i, axCv b rb v) List.mem_cons_self
  · refine hl.2.2 (j, axCv b rb v0) (List.mem_cons_of_mem _ (List.mem_filter.mpr ⟨(axEn_mem L 0 j _).mpr ⟨j, v0, by omega, z2, rfl⟩, ?_⟩))
    rw [axCv_cat]
    simp only [Bool.and_eq_true, Bool.not_eq_true', beq_eq_false_iff_ne, ne_eq, Bool.and_eq_false_iff]
    refine ⟨z1, c1, ?_⟩
    by_cases hj : j + 1 = i
    · exact Or.inr (fun q => z3 ⟨hj, q⟩)
    · exact Or.inl hj
theorem axFnd_mem {α : Type} {o i : Nat} : ∀ (l : List (Nat × Nat × α)) {x : α}, axFnd o i l = some x → (o, i, x) ∈ l
  | [], x, h => by cases h
  | q :: r, x, h => by
    unfold axFnd at h
    by_cases hq : (Nat.beq q.1 o && Nat.beq q.2.1 i) = true
    · rw [hq] at h
      rw [Bool.and_eq_true] at hq
      have h := Option.some.inj h
      have e1 := Nat.eq_of_beq_eq_true hq.1
      have e2 := Nat.eq_of_beq_eq_true hq.2
      rw [← h, ← e1, ← e2]
      exact List.mem_cons_self
    · rw [Bool.not_eq_true] at hq
      rw [hq] at h
      exact List.mem_cons_of_mem _ (axFnd_mem r h)
section AX7
variable {p : Program} {l : Launch} {e : Env} {R : Room} {s : State} {m : MethodId} {args : Array Value} {below : List Frame} {meth : Method} {c : Code} {b : Nat} {rb : Nat → Nat} {ca : Nat → ClassId} {D : va_G} {ro : axRo} {QQ : State → Prop} {cc : ByteArray} {nL n0 s0 o : Nat} {pc : Nat} {L : axL} {S : List Value} {h : axH} {K : Nat → axL → List Value → axH → Prop} {Q : Option Value → axH → Prop} {E : axCall} {ent : axE} {ini : Bool} {rt len : Nat}

theorem sx_iconst (n : Int) (F : axFx p s m args meth c b rb ca D ro cc nL o) (hd : decode cc pc = .ok (.iconst n, len)) (ht : axTr o ini rt pc (.iconst n) len = some ent) (h1 : axOne ro E ent L S h K Q) (hK : ∀ pc' L' S' h', K pc' L' S' h' → axWW p l e R s m args below meth c b rb ca D QQ nL n0 s0 pc' L' S' h') : axWW p l e R s m args below meth c b rb ca D QQ nL n0 s0 pc L S h := by
  obtain ⟨rfl, rfl⟩ := axI_ok ht
  obtain ⟨q, hq, hk⟩ := h1
  cases (Option.some.inj hq)
  intro g1 g2 H locs ls hI hL
  exact lv_iconst F.1 F.2.1 hd rfl (hK _ _ _ _ hk g1 g2 H locs ls hI hL)
theorem sx_bipush (n : Int) (F : axFx p s m args meth c b rb ca D ro cc nL o) (hd : decode cc pc = .ok (.bipush n, len)) (ht : axTr o ini rt pc (.bipush n) len = some ent) (h1 : axOne ro E ent L S h K Q) (hK : ∀ pc' L' S' h', K pc' L' S' h' → axWW p l e R s m args below meth c b rb ca D QQ nL n0 s0 pc' L' S' h') : axWW p l e R s m args below meth c b rb ca D QQ nL n0 s0 pc L S h := by
  obtain ⟨rfl, rfl⟩ := axI_ok ht
  obtain ⟨q, hq, hk⟩ := h1
  cases (Option.some.inj hq)
  intro g1 g2 H locs ls hI hL
  exact lv_bipush F.1 F.2.1 hd rfl (hK _ _ _ _ hk g1 g2 H locs ls hI hL)
theorem sx_sipush (n : Int) (F : axFx p s m args meth c b rb ca D ro cc nL o) (hd : decode cc pc = .ok (.sipush n, len)) (ht : axTr o ini rt pc (.sipush n) len = some ent) (h1 : axOne ro E ent L S h K Q) (hK : ∀ pc' L' S' h', K pc' L' S' h' → axWW p l e R s m args below meth c b rb ca D QQ nL n0 s0 pc' L' S' h') : axWW p l e R s m args below meth c b rb ca D QQ nL n0 s0 pc L S h := by
  obtain ⟨rfl, rfl⟩ := axI_ok ht
  obtain ⟨q, hq, hk⟩ := h1
  cases (Option.some.inj hq)
  intro g1 g2 H locs ls hI hL
  exact lv_sipush F.1 F.2.1 hd rfl (hK _ _ _ _ hk g1 g2 H locs ls hI hL)
theorem sx_lconst (n : Fin 2) (F : axFx p s m args meth c b rb ca D ro cc nL o) (hd : decode cc pc = .ok (.lconst n, len)) (ht : axTr o ini rt pc (.lconst n) len = some ent) (h1 : axOne ro E ent L S h K Q) (hK : ∀ pc' L' S' h', K pc' L' S' h' → axWW p l e R s m args below meth c b rb ca D QQ nL n0 s0 pc' L' S' h') : axWW p l e R s m args below meth c b rb ca D QQ nL n0 s0 pc L S h := by
  obtain ⟨rfl, rfl⟩ := axI_ok ht
  obtain ⟨q, hq, hk⟩ := h1
  cases (Option.some.inj hq)
  intro g1 g2 H locs ls hI hL
  exact lv_lconst F.1 F.2.1 hd rfl (hK _ _ _ _ hk g1 g2 H locs ls hI hL)
theorem sx_ldc_w (i : Nat) (F : axFx p s m args meth c b rb ca D ro cc nL o) (hd : decode cc pc = .ok (.ldc_w i, len)) (ht : axTr o ini rt pc (.ldc_w i) len = some ent) (h1 : axOne ro E ent L S h K Q) (hK : ∀ pc' L' S' h', K pc' L' S' h' → axWW p l e R s m args below meth c b rb ca D QQ nL n0 s0 pc' L' S' h') : axWW p l e R s m args below meth c b rb ca D QQ nL n0 s0 pc L S h := by
  rcases hq0 : axFnd o i axCsT with _ | ⟨v, w⟩
  · simp only [axTr, hq0] at ht
    cases ht
  · simp only [axTr, hq0] at ht
    obtain ⟨rfl, rfl⟩ := axI_ok ht
    obtain ⟨q, hq, hk⟩ := h1
    cases (Option.some.inj hq)
    intro g1 g2 H locs ls hI hL
    exact lv_ldcw F.1 F.2.1 F.2.2.2.1 (F.2.2.2.2.1 _ (axTW_mem (axCsT_ok _ (axFnd_mem _ hq0)) rfl)) hd (hK _ _ _ _ hk g1 g2 H locs ls hI hL)
theorem sx_ldc2_w (i : Nat) (F : axFx p s m args meth c b rb ca D ro cc nL o) (hd : decode cc pc = .ok (.ldc2_w i, len)) (ht : axTr o ini rt pc (.ldc2_w i) len = some ent) (h1 : axOne ro E ent L S h K Q) (hK : ∀ pc' L' S' h', K pc' L' S' h' → axWW p l e R s m args below meth c b rb ca D QQ nL n0 s0 pc' L' S' h') : axWW p l e R s m args below meth c b rb ca D QQ nL n0 s0 pc L S h := by
  rcases hq0 : axFnd o i axLcT with _ | ⟨v, w⟩
  · simp only [axTr, hq0] at ht
    cases ht
  · simp only [axTr, hq0] at ht
    obtain ⟨rfl, rfl⟩ := axI_ok ht
    obtain ⟨q, hq, hk⟩ := h1
    cases (Option.some.inj hq)
    intro g1 g2 H locs ls hI hL
    exact lv_ldc2 F.1 F.2.1 F.2.2.2.1 (F.2.2.2.2.1 _ (axTW_mem (axLcT_ok _ (axFnd_mem _ hq0)) rfl)) hd (hK _ _ _ _ hk g1 g2 H locs ls hI hL)
theorem sx_iload_n (k : Fin 4) (F : axFx p s m args meth c b rb ca D ro cc nL o) (hd : decode cc pc = .ok (.iload_n k, len)) (ht : axTr o ini rt pc (.iload_n k) len = some ent) (h1 : axOne ro E ent L S h K Q) (hK : ∀ pc' L' S' h', K pc' L' S' h' → axWW p l e R s m args below meth c b rb ca D QQ nL n0 s0 pc' L' S' h') : axWW p l e R s m args below meth c b rb ca D QQ nL n0 s0 pc L S h := by
  obtain ⟨rfl, rfl⟩ := axI_ok ht
  obtain ⟨q, hq, hk⟩ := h1
  simp only [axStp] at hq
  split at hq
  · rename_i x hx
    cases (Option.some.inj hq)
    intro g1 g2 H locs ls hI hL
    exact lv_iload_n F.1 F.2.1 hd rfl (axLr_get hL hx) (hK _ _ _ _ hk g1 g2 H locs ls hI hL)
  · cases hq
theorem sx_iload (k : Nat) (F : axFx p s m args meth c b rb ca D ro cc nL o) (hd : decode cc pc = .ok (.iload k, len)) (ht : axTr o ini rt pc (.iload k) len = some ent) (h1 : axOne ro E ent L S h K Q) (hK : ∀ pc' L' S' h', K pc' L' S' h' → axWW p l e R s m args below meth c b rb ca D QQ nL n0 s0 pc' L' S' h') : axWW p l e R s m args below meth c b rb ca D QQ nL n0 s0 pc L S h := by
  obtain ⟨rfl, rfl⟩ := axI_ok ht
  obtain ⟨q, hq, hk⟩ := h1
  simp only [axStp] at hq
  split at hq
  · rename_i x hx
    cases (Option.some.inj hq)
    intro g1 g2 H locs ls hI hL
    exact lv_iload F.1 F.2.1 hd (axLr_get hL hx) (hK _ _ _ _ hk g1 g2 H locs ls hI hL)
  · cases hq
theorem sx_lload_n (k : Fin 4) (F : axFx p s m args meth c b rb ca D ro cc nL o) (hd : decode cc pc = .ok (.lload_n k, len)) (ht : axTr o ini rt pc (.lload_n k) len = some ent) (h1 : axOne ro E ent L S h K Q) (hK : ∀ pc' L' S' h', K pc' L' S' h' → axWW p l e R s m args below meth c b rb ca D QQ nL n0 s0 pc' L' S' h') : axWW p l e R s m args below meth c b rb ca D QQ nL n0 s0 pc L S h := by
  obtain ⟨rfl, rfl⟩ := axI_ok ht
  obtain ⟨q, hq, hk⟩ := h1
  simp only [axStp] at hq
  split at hq
  · rename_i x hx
    cases (Option.some.inj hq)
    intro g1 g2 H locs ls hI hL
    exact lv_lload_n F.1 F.2.1 hd rfl (axLr_get hL hx) (hK _ _ _ _ hk g1 g2 H locs ls hI hL)
  · cases hq
theorem sx_lload (k : Nat) (F : axFx p s m args meth c b rb ca D ro cc nL o) (hd : decode cc pc = .ok (.lload k, len)) (ht : axTr o ini rt pc (.lload k) len = some ent) (h1 : axOne ro E ent L S h K Q) (hK : ∀ pc' L' S' h', K pc' L' S' h' → axWW p l e R s m args below meth c b rb ca D QQ nL n0 s0 pc' L' S' h') : axWW p l e R s m args below meth c b rb ca D QQ nL n0 s0 pc L S h := by
  obtain ⟨rfl, rfl⟩ := axI_ok ht
  obtain ⟨q, hq, hk⟩ := h1
  simp only [axStp] at hq
  split at hq
  · rename_i x hx
    cases (Option.some.inj hq)
    intro g1 g2 H locs ls hI hL
    exact lv_lload F.1 F.2.1 hd (axLr_get hL hx) (hK _ _ _ _ hk g1 g2 H locs ls hI hL)
  · cases hq
theorem sx_aload_n (k : Fin 4) (F : axFx p s m args meth c b rb ca D ro cc nL o) (hd : decode cc pc = .ok (.aload_n k, len)) (ht : axTr o ini rt pc (.aload_n k) len = some ent) (h1 : axOne ro E ent L S h K Q) (hK : ∀ pc' L' S' h', K pc' L' S' h' → axWW p l e R s m args below meth c b rb ca D QQ nL n0 s0 pc' L' S' h') : axWW p l e R s m args below meth c b rb ca D QQ nL n0 s0 pc L S h := by
  obtain ⟨rfl, rfl⟩ := axI_ok ht
  obtain ⟨q, hq, hk⟩ := h1
  simp only [axStp] at hq
  split at hq
  · rename_i x hx
    cases (Option.some.inj hq)
    intro g1 g2 H locs ls hI hL
    exact lv_aload_n F.1 F.2.1 hd rfl (axLr_get hL hx) (hK _ _ _ _ hk g1 g2 H locs ls hI hL)
  · rename_i hx
    cases (Option.some.inj hq)
    intro g1 g2 H locs ls hI hL
    exact lv_aload_nN F.1 F.2.1 hd rfl (axLr_get hL hx) (hK _ _ _ _ hk g1 g2 H locs ls hI hL)
  · rename_i x hx
    cases (Option.some.inj hq)
    intro g1 g2 H locs ls hI hL
    exact lv_aload_n F.1 F.2.1 hd rfl (axLr_get hL hx) (hK _ _ _ _ hk g1 g2 H locs ls hI hL)
  · cases hq
theorem sx_aload (k : Nat) (F : axFx p s m args meth c b rb ca D ro cc nL o) (hd : decode cc pc = .ok (.aload k, len)) (ht : axTr o ini rt pc (.aload k) len = some ent) (h1 : axOne ro E ent L S h K Q) (hK : ∀ pc' L' S' h', K pc' L' S' h' → axWW p l e R s m args below meth c b rb ca D QQ nL n0 s0 pc' L' S' h') : axWW p l e R s m args below meth c b rb ca D QQ nL n0 s0 pc L S h := by
  obtain ⟨rfl, rfl⟩ := axI_ok ht
  obtain ⟨q, hq, hk⟩ := h1
  simp only [axStp] at hq
  split at hq
  · rename_i x hx
    cases (Option.some.inj hq)
    intro g1 g2 H locs ls hI hL
    exact lv_aload F.1 F.2.1 hd (axLr_get hL hx) (hK _ _ _ _ hk g1 g2 H locs ls hI hL)
  · rename_i hx
    cases (Option.some.inj hq)
    intro g1 g2 H locs ls hI hL
    exact lv_aloadN F.1 F.2.1 hd (axLr_get hL hx) (hK _ _ _ _ hk g1 g2 H locs ls hI hL)
  · rename_i x hx
    cases (Option.some.inj hq)
    intro g1 g2 H locs ls hI hL
    exact lv_aload F.1 F.2.1 hd (axLr_get hL hx) (hK _ _ _ _ hk g1 g2 H locs ls hI hL)
  · cases hq
theorem sx_istore_n (k : Fin 4) (F : axFx p s m args meth c b rb ca D ro cc nL o) (hd : decode cc pc = .ok (.istore_n k, len)) (ht : axTr o ini rt pc (.istore_n k) len = some ent) (h1 : axOne ro E ent L S h K Q) (hK : ∀ pc' L' S' h', K pc' L' S' h' → axWW p l e R s m args below meth c b rb ca D QQ nL n0 s0 pc' L' S' h') : axWW p l e R s m args below meth c b rb ca D QQ nL n0 s0 pc L S h := by
  obtain ⟨rfl, rfl⟩ := axI_ok ht
  obtain ⟨q, hq, hk⟩ := h1
  simp only [axStp] at hq
  split at hq
  · rename_i x S'
    split at hq
    · rename_i L' hp
      cases (Option.some.inj hq)
      intro g1 g2 H locs ls hI hL
      exact lv_istore_n F.1 F.2.1 hd rfl hL.2 (by have := (axP_spec _ _ _ _ hp).2.1; rw [hL.1] at this; exact this) rfl (fun ls hl => hK _ _ _ _ hk g1 g2 H locs ls hI (axLr_put hp hL.1 hl))
    · cases hq
  · cases hq
theorem sx_istore (k : Nat) (F : axFx p s m args meth c b rb ca D ro cc nL o) (hd : decode cc pc = .ok (.istore k, len)) (ht : axTr o ini rt pc (.istore k) len = some ent) (h1 : axOne ro E ent L S h K Q) (hK : ∀ pc' L' S' h', K pc' L' S' h' → axWW p l e R s m args below meth c b rb ca D QQ nL n0 s0 pc' L' S' h') : axWW p l e R s m args below meth c b rb ca D QQ nL n0 s0 pc L S h := by
  obtain ⟨rfl, rfl⟩ := axI_ok ht
  obtain ⟨q, hq, hk⟩ := h1
  simp only [axStp] at hq
  split at hq
  · rename_i x S'
    split at hq
    · rename_i L' hp
      cases (Option.some.inj hq)
      intro g1 g2 H locs ls hI hL
      exact lv_istore F.1 F.2.1 hd hL.2 (by have := (axP_spec _ _ _ _ hp).2.1; rw [hL.1] at this; exact this) rfl (fun ls hl => hK _ _ _ _ hk g1 g2 H locs ls hI (axLr_put hp hL.1 hl))
    · cases hq
  · cases hq
theorem sx_astore_n (k : Fin 4) (F : axFx p s m args meth c b rb ca D ro cc nL o) (hd : decode cc pc = .ok (.astore_n k, len)) (ht : axTr o ini rt pc (.astore_n k) len = some ent) (h1 : axOne ro E ent L S h K Q) (hK : ∀ pc' L' S' h', K pc' L' S' h' → axWW p l e R s m args below meth c b rb ca D QQ nL n0 s0 pc' L' S' h') : axWW p l e R s m args below meth c b rb ca D QQ nL n0 s0 pc L S h := by
  obtain ⟨rfl, rfl⟩ := axI_ok ht
  obtain ⟨q, hq, hk⟩ := h1
  simp only [axStp] at hq
  split at hq
  · rename_i x S'
    split at hq
    · rename_i L' hp
      cases (Option.some.inj hq)
      intro g1 g2 H locs ls hI hL
      exact lv_astore_n F.1 F.2.1 hd rfl hL.2 (by have := (axP_spec _ _ _ _ hp).2.1; rw [hL.1] at this; exact this) rfl (fun ls hl => hK _ _ _ _ hk g1 g2 H locs ls hI (axLr_put hp hL.1 hl))
    · cases hq
  · rename_i S'
    split at hq
    · rename_i L' hp
      cases (Option.some.inj hq)
      intro g1 g2 H locs ls hI hL
      exact lv_astore_nN F.1 F.2.1 hd rfl hL.2 (by have := (axP_spec _ _ _ _ hp).2.1; rw [hL.1] at this; exact this) rfl (fun ls hl => hK _ _ _ _ hk g1 g2 H locs ls hI (axLr_put hp hL.1 hl))
    · cases hq
  · cases hq
theorem sx_astore (k : Nat) (F : axFx p s m args meth c b rb ca D ro cc nL o) (hd : decode cc pc = .ok (.astore k, len)) (ht : axTr o ini rt pc (.astore k) len = some ent) (h1 : axOne ro E ent L S h K Q) (hK : ∀ pc' L' S' h', K pc' L' S' h' → axWW p l e R s m args below meth c b rb ca D QQ nL n0 s0 pc' L' S' h') : axWW p l e R s m args below meth c b rb ca D QQ nL n0 s0 pc L S h := by
  obtain ⟨rfl, rfl⟩ := axI_ok ht
  obtain ⟨q, hq, hk⟩ := h1
  simp only [axStp] at hq
  split at hq
  · rename_i x S'
    split at hq
    · rename_i L' hp
      cases (Option.some.inj hq)
      intro g1 g2 H locs ls hI hL
      exact lv_astore F.1 F.2.1 hd hL.2 (by have := (axP_spec _ _ _ _ hp).2.1; rw [hL.1] at this; exact this) rfl (fun ls hl => hK _ _ _ _ hk g1 g2 H locs ls hI (axLr_put hp hL.1 hl))
    · cases hq
  · rename_i S'
    split at hq
    · rename_i L' hp
      cases (Option.some.inj hq)
      intro g1 g2 H locs ls hI hL
      exact lv_astoreN F.1 F.2.1 hd hL.2 (by have := (axP_spec _ _ _ _ hp).2.1; rw [hL.1] at this; exact this) rfl (fun ls hl => hK _ _ _ _ hk g1 g2 H locs ls hI (axLr_put hp hL.1 hl))
    · cases hq
  · cases hq
theorem sx_iinc (i : Nat) (n : Int) (F : axFx p s m args meth c b rb ca D ro cc nL o) (hd : decode cc pc = .ok (.iinc i n, len)) (ht : axTr o ini rt pc (.iinc i n) len = some ent) (h1 : axOne ro E ent L S h K Q) (hK : ∀ pc' L' S' h', K pc' L' S' h' → axWW p l e R s m args below meth c b rb ca D QQ nL n0 s0 pc' L' S' h') : axWW p l e R s m args below meth c b rb ca D QQ nL n0 s0 pc L S h := by
  obtain ⟨rfl, rfl⟩ := axI_ok ht
  obtain ⟨q, hq, hk⟩ := h1
  simp only [axStp] at hq
  split at hq
  · rename_i x hx
    split at hq
    · rename_i L' hp
      cases (Option.some.inj hq)
      intro g1 g2 H locs ls hI hL
      obtain ⟨k, hkk⟩ := List.getElem?_of_mem ((axEn_mem (b := b) (rb := rb) L 0 i _).mpr ⟨i, _, by omega, hx, rfl⟩)
      exact lv_iinc F.1 F.2.1 hd hL.2 (k := k) hkk rfl (by have := (axP_spec _ _ _ _ hp).2.1; rw [hL.1] at this; exact this) rfl (fun ls hl => hK _ _ _ _ hk g1 g2 H locs ls hI (axLr_put hp hL.1 hl))
    · cases hq
  · cases hq
theorem sx_dup (F : axFx p s m args meth c b rb ca D ro cc nL o) (hd : decode cc pc = .ok (.dup, len)) (ht : axTr o ini rt pc (.dup) len = some ent) (h1 : axOne ro E ent L S h K Q) (hK : ∀ pc' L' S' h', K pc' L' S' h' → axWW p l e R s m args below meth c b rb ca D QQ nL n0 s0 pc' L' S' h') : axWW p l e R s m args below meth c b rb ca D QQ nL n0 s0 pc L S h := by
  obtain ⟨rfl, rfl⟩ := axI_ok ht
  obtain ⟨q, hq, hk⟩ := h1
  simp only [axStp] at hq
  split at hq
  · cases (Option.some.inj hq)
    intro g1 g2 H locs ls hI hL
    exact lv_dup F.1 F.2.1 hd rfl (hK _ _ _ _ hk g1 g2 H locs ls hI hL)
  · cases (Option.some.inj hq)
    intro g1 g2 H locs ls hI hL
    exact lv_dup F.1 F.2.1 hd rfl (hK _ _ _ _ hk g1 g2 H locs ls hI hL)
  · cases hq
theorem sx_pop (F : axFx p s m args meth c b rb ca D ro cc nL o) (hd : decode cc pc = .ok (.pop, len)) (ht : axTr o ini rt pc (.pop) len = some ent) (h1 : axOne ro E ent L S h K Q) (hK : ∀ pc' L' S' h', K pc' L' S' h' → axWW p l e R s m args below meth c b rb ca D QQ nL n0 s0 pc' L' S' h') : axWW p l e R s m args below meth c b rb ca D QQ nL n0 s0 pc L S h := by
  obtain ⟨rfl, rfl⟩ := axI_ok ht
  obtain ⟨q, hq, hk⟩ := h1
  simp only [axStp] at hq
  split at hq
  · cases (Option.some.inj hq)
    intro g1 g2 H locs ls hI hL
    exact lv_pop F.1 F.2.1 hd rfl (hK _ _ _ _ hk g1 g2 H locs ls hI hL)
  · cases (Option.some.inj hq)
    intro g1 g2 H locs ls hI hL
    exact lv_pop F.1 F.2.1 hd rfl (hK _ _ _ _ hk g1 g2 H locs ls hI hL)
  · cases hq
theorem sx_dup2 (F : axFx p s m args meth c b rb ca D ro cc nL o) (hd : decode cc pc = .ok (.dup2, len)) (ht : axTr o ini rt pc (.dup2) len = some ent) (h1 : axOne ro E ent L S h K Q) (hK : ∀ pc' L' S' h', K pc' L' S' h' → axWW p l e R s m args below meth c b rb ca D QQ nL n0 s0 pc' L' S' h') : axWW p l e R s m args below meth c b rb ca D QQ nL n0 s0 pc L S h := by
  obtain ⟨rfl, rfl⟩ := axI_ok ht
  obtain ⟨q, hq, hk⟩ := h1
  simp only [axStp] at hq
  split at hq
  · cases (Option.some.inj hq)
    intro g1 g2 H locs ls hI hL
    exact lv_dup2_11 F.1 F.2.1 hd rfl rfl (hK _ _ _ _ hk g1 g2 H locs ls hI hL)
  · cases hq
theorem sx_iadd (F : axFx p s m args meth c b rb ca D ro cc nL o) (hd : decode cc pc = .ok (.iadd, len)) (ht : axTr o ini rt pc (.iadd) len = some ent) (h1 : axOne ro E ent L S h K Q) (hK : ∀ pc' L' S' h', K pc' L' S' h' → axWW p l e R s m args below meth c b rb ca D QQ nL n0 s0 pc' L' S' h') : axWW p l e R s m args below meth c b rb ca D QQ nL n0 s0 pc L S h := by
  obtain ⟨rfl, rfl⟩ := axI_ok ht
  obtain ⟨q, hq, hk⟩ := h1
  simp only [axStp] at hq
  split at hq
  · cases (Option.some.inj hq)
    intro g1 g2 H locs ls hI hL
    exact lv_iadd F.1 F.2.1 hd (hK _ _ _ _ hk g1 g2 H locs ls hI hL)
  · cases hq
theorem sx_isub (F : axFx p s m args meth c b rb ca D ro cc nL o) (hd : decode cc pc = .ok (.isub, len)) (ht : axTr o ini rt pc (.isub) len = some ent) (h1 : axOne ro E ent L S h K Q) (hK : ∀ pc' L' S' h', K pc' L' S' h' → axWW p l e R s m args below meth c b rb ca D QQ nL n0 s0 pc' L' S' h') : axWW p l e R s m args below meth c b rb ca D QQ nL n0 s0 pc L S h := by
  obtain ⟨rfl, rfl⟩ := axI_ok ht
  obtain ⟨q, hq, hk⟩ := h1
  simp only [axStp] at hq
  split at hq
  · cases (Option.some.inj hq)
    intro g1 g2 H locs ls hI hL
    exact lv_isub F.1 F.2.1 hd (hK _ _ _ _ hk g1 g2 H locs ls hI hL)
  · cases hq
theorem sx_imul (F : axFx p s m args meth c b rb ca D ro cc nL o) (hd : decode cc pc = .ok (.imul, len)) (ht : axTr o ini rt pc (.imul) len = some ent) (h1 : axOne ro E ent L S h K Q) (hK : ∀ pc' L' S' h', K pc' L' S' h' → axWW p l e R s m args below meth c b rb ca D QQ nL n0 s0 pc' L' S' h') : axWW p l e R s m args below meth c b rb ca D QQ nL n0 s0 pc L S h := by
  obtain ⟨rfl, rfl⟩ := axI_ok ht
  obtain ⟨q, hq, hk⟩ := h1
  simp only [axStp] at hq
  split at hq
  · cases (Option.some.inj hq)
    intro g1 g2 H locs ls hI hL
    exact lv_imul F.1 F.2.1 hd (hK _ _ _ _ hk g1 g2 H locs ls hI hL)
  · cases hq
theorem sx_iand (F : axFx p s m args meth c b rb ca D ro cc nL o) (hd : decode cc pc = .ok (.iand, len)) (ht : axTr o ini rt pc (.iand) len = some ent) (h1 : axOne ro E ent L S h K Q) (hK : ∀ pc' L' S' h', K pc' L' S' h' → axWW p l e R s m args below meth c b rb ca D QQ nL n0 s0 pc' L' S' h') : axWW p l e R s m args below meth c b rb ca D QQ nL n0 s0 pc L S h := by
  obtain ⟨rfl, rfl⟩ := axI_ok ht
  obtain ⟨q, hq, hk⟩ := h1
  simp only [axStp] at hq
  split at hq
  · cases (Option.some.inj hq)
    intro g1 g2 H locs ls hI hL
    exact lv_iand F.1 F.2.1 hd (hK _ _ _ _ hk g1 g2 H locs ls hI hL)
  · cases hq
theorem sx_ior (F : axFx p s m args meth c b rb ca D ro cc nL o) (hd : decode cc pc = .ok (.ior, len)) (ht : axTr o ini rt pc (.ior) len = some ent) (h1 : axOne ro E ent L S h K Q) (hK : ∀ pc' L' S' h', K pc' L' S' h' → axWW p l e R s m args below meth c b rb ca D QQ nL n0 s0 pc' L' S' h') : axWW p l e R s m args below meth c b rb ca D QQ nL n0 s0 pc L S h := by
  obtain ⟨rfl, rfl⟩ := axI_ok ht
  obtain ⟨q, hq, hk⟩ := h1
  simp only [axStp] at hq
  split at hq
  · cases (Option.some.inj hq)
    intro g1 g2 H locs ls hI hL
    exact lv_ior F.1 F.2.1 hd (hK _ _ _ _ hk g1 g2 H locs ls hI hL)
  · cases hq
theorem sx_ixor (F : axFx p s m args meth c b rb ca D ro cc nL o) (hd : decode cc pc = .ok (.ixor, len)) (ht : axTr o ini rt pc (.ixor) len = some ent) (h1 : axOne ro E ent L S h K Q) (hK : ∀ pc' L' S' h', K pc' L' S' h' → axWW p l e R s m args below meth c b rb ca D QQ nL n0 s0 pc' L' S' h') : axWW p l e R s m args below meth c b rb ca D QQ nL n0 s0 pc L S h := by
  obtain ⟨rfl, rfl⟩ := axI_ok ht
  obtain ⟨q, hq, hk⟩ := h1
  simp only [axStp] at hq
  split at hq
  · cases (Option.some.inj hq)
    intro g1 g2 H locs ls hI hL
    exact lv_ixor F.1 F.2.1 hd (hK _ _ _ _ hk g1 g2 H locs ls hI hL)
  · cases hq
theorem sx_ishl (F : axFx p s m args meth c b rb ca D ro cc nL o) (hd : decode cc pc = .ok (.ishl, len)) (ht : axTr o ini rt pc (.ishl) len = some ent) (h1 : axOne ro E ent L S h K Q) (hK : ∀ pc' L' S' h', K pc' L' S' h' → axWW p l e R s m args below meth c b rb ca D QQ nL n0 s0 pc' L' S' h') : axWW p l e R s m args below meth c b rb ca D QQ nL n0 s0 pc L S h := by
  obtain ⟨rfl, rfl⟩ := axI_ok ht
  obtain ⟨q, hq, hk⟩ := h1
  simp only [axStp] at hq
  split at hq
  · cases (Option.some.inj hq)
    intro g1 g2 H locs ls hI hL
    exact lv_ishl F.1 F.2.1 hd (hK _ _ _ _ hk g1 g2 H locs ls hI hL)
  · cases hq
theorem sx_ishr (F : axFx p s m args meth c b rb ca D ro cc nL o) (hd : decode cc pc = .ok (.ishr, len)) (ht : axTr o ini rt pc (.ishr) len = some ent) (h1 : axOne ro E ent L S h K Q) (hK : ∀ pc' L' S' h', K pc' L' S' h' → axWW p l e R s m args below meth c b rb ca D QQ nL n0 s0 pc' L' S' h') : axWW p l e R s m args below meth c b rb ca D QQ nL n0 s0 pc L S h := by
  obtain ⟨rfl, rfl⟩ := axI_ok ht
  obtain ⟨q, hq, hk⟩ := h1
  simp only [axStp] at hq
  split at hq
  · cases (Option.some.inj hq)
    intro g1 g2 H locs ls hI hL
    exact lv_ishr F.1 F.2.1 hd (hK _ _ _ _ hk g1 g2 H locs ls hI hL)
  · cases hq
theorem sx_iushr (F : axFx p s m args meth c b rb ca D ro cc nL o) (hd : decode cc pc = .ok (.iushr, len)) (ht : axTr o ini rt pc (.iushr) len = some ent) (h1 : axOne ro E ent L S h K Q) (hK : ∀ pc' L' S' h', K pc' L' S' h' → axWW p l e R s m args below meth c b rb ca D QQ nL n0 s0 pc' L' S' h') : axWW p l e R s m args below meth c b rb ca D QQ nL n0 s0 pc L S h := by
  obtain ⟨rfl, rfl⟩ := axI_ok ht
  obtain ⟨q, hq, hk⟩ := h1
  simp only [axStp] at hq
  split at hq
  · cases (Option.some.inj hq)
    intro g1 g2 H locs ls hI hL
    exact lv_iushr F.1 F.2.1 hd rfl (hK _ _ _ _ hk g1 g2 H locs ls hI hL)
  · cases hq
theorem sx_ineg (F : axFx p s m args meth c b rb ca D ro cc nL o) (hd : decode cc pc = .ok (.ineg, len)) (ht : axTr o ini rt pc (.ineg) len = some ent) (h1 : axOne ro E ent L S h K Q) (hK : ∀ pc' L' S' h', K pc' L' S' h' → axWW p l e R s m args below meth c b rb ca D QQ nL n0 s0 pc' L' S' h') : axWW p l e R s m args below meth c b rb ca D QQ nL n0 s0 pc L S h := by
  obtain ⟨rfl, rfl⟩ := axI_ok ht
  obtain ⟨q, hq, hk⟩ := h1
  simp only [axStp] at hq
  split at hq
  · cases (Option.some.inj hq)
    intro g1 g2 H locs ls hI hL
    exact lv_ineg F.1 F.2.1 hd (hK _ _ _ _ hk g1 g2 H locs ls hI hL)
  · cases hq
theorem sx_i2c (F : axFx p s m args meth c b rb ca D ro cc nL o) (hd : decode cc pc = .ok (.i2c, len)) (ht : axTr o ini rt pc (.i2c) len = some ent) (h1 : axOne ro E ent L S h K Q) (hK : ∀ pc' L' S' h', K pc' L' S' h' → axWW p l e R s m args below meth c b rb ca D QQ nL n0 s0 pc' L' S' h') : axWW p l e R s m args below meth c b rb ca D QQ nL n0 s0 pc L S h := by
  obtain ⟨rfl, rfl⟩ := axI_ok ht
  obtain ⟨q, hq, hk⟩ := h1
  simp only [axStp] at hq
  split at hq
  · cases (Option.some.inj hq)
    intro g1 g2 H locs ls hI hL
    exact lv_i2c F.1 F.2.1 hd rfl (hK _ _ _ _ hk g1 g2 H locs ls hI hL)
  · cases hq
theorem sx_i2l (F : axFx p s m args meth c b rb ca D ro cc nL o) (hd : decode cc pc = .ok (.i2l, len)) (ht : axTr o ini rt pc (.i2l) len = some ent) (h1 : axOne ro E ent L S h K Q) (hK : ∀ pc' L' S' h', K pc' L' S' h' → axWW p l e R s m args below meth c b rb ca D QQ nL n0 s0 pc' L' S' h') : axWW p l e R s m args below meth c b rb ca D QQ nL n0 s0 pc L S h := by
  obtain ⟨rfl, rfl⟩ := axI_ok ht
  obtain ⟨q, hq, hk⟩ := h1
  simp only [axStp] at hq
  split at hq
  · cases (Option.some.inj hq)
    intro g1 g2 H locs ls hI hL
    exact lv_i2l F.1 F.2.1 hd rfl (hK _ _ _ _ hk g1 g2 H locs ls hI hL)
  · cases hq
theorem sx_l2i (F : axFx p s m args meth c b rb ca D ro cc nL o) (hd : decode cc pc = .ok (.l2i, len)) (ht : axTr o ini rt pc (.l2i) len = some ent) (h1 : axOne ro E ent L S h K Q) (hK : ∀ pc' L' S' h', K pc' L' S' h' → axWW p l e R s m args below meth c b rb ca D QQ nL n0 s0 pc' L' S' h') : axWW p l e R s m args below meth c b rb ca D QQ nL n0 s0 pc L S h := by
  obtain ⟨rfl, rfl⟩ := axI_ok ht
  obtain ⟨q, hq, hk⟩ := h1
  simp only [axStp] at hq
  split at hq
  · cases (Option.some.inj hq)
    intro g1 g2 H locs ls hI hL
    exact lv_l2i F.1 F.2.1 hd rfl (hK _ _ _ _ hk g1 g2 H locs ls hI hL)
  · cases hq
theorem sx_land (F : axFx p s m args meth c b rb ca D ro cc nL o) (hd : decode cc pc = .ok (.land, len)) (ht : axTr o ini rt pc (.land) len = some ent) (h1 : axOne ro E ent L S h K Q) (hK : ∀ pc' L' S' h', K pc' L' S' h' → axWW p l e R s m args below meth c b rb ca D QQ nL n0 s0 pc' L' S' h') : axWW p l e R s m args below meth c b rb ca D QQ nL n0 s0 pc L S h := by
  obtain ⟨rfl, rfl⟩ := axI_ok ht
  obtain ⟨q, hq, hk⟩ := h1
  simp only [axStp] at hq
  split at hq
  · cases (Option.some.inj hq)
    intro g1 g2 H locs ls hI hL
    exact lv_land F.1 F.2.1 hd (hK _ _ _ _ hk g1 g2 H locs ls hI hL)
  · cases hq
theorem sx_lor (F : axFx p s m args meth c b rb ca D ro cc nL o) (hd : decode cc pc = .ok (.lor, len)) (ht : axTr o ini rt pc (.lor) len = some ent) (h1 : axOne ro E ent L S h K Q) (hK : ∀ pc' L' S' h', K pc' L' S' h' → axWW p l e R s m args below meth c b rb ca D QQ nL n0 s0 pc' L' S' h') : axWW p l e R s m args below meth c b rb ca D QQ nL n0 s0 pc L S h := by
  obtain ⟨rfl, rfl⟩ := axI_ok ht
  obtain ⟨q, hq, hk⟩ := h1
  simp only [axStp] at hq
  split at hq
  · cases (Option.some.inj hq)
    intro g1 g2 H locs ls hI hL
    exact lv_lor F.1 F.2.1 hd (hK _ _ _ _ hk g1 g2 H locs ls hI hL)
  · cases hq
theorem sx_lshl (F : axFx p s m args meth c b rb ca D ro cc nL o) (hd : decode cc pc = .ok (.lshl, len)) (ht : axTr o ini rt pc (.lshl) len = some ent) (h1 : axOne ro E ent L S h K Q) (hK : ∀ pc' L' S' h', K pc' L' S' h' → axWW p l e R s m args below meth c b rb ca D QQ nL n0 s0 pc' L' S' h') : axWW p l e R s m args below meth c b rb ca D QQ nL n0 s0 pc L S h := by
  obtain ⟨rfl, rfl⟩ := axI_ok ht
  obtain ⟨q, hq, hk⟩ := h1
  simp only [axStp] at hq
  split at hq
  · cases (Option.some.inj hq)
    intro g1 g2 H locs ls hI hL
    exact lv_lshl F.1 F.2.1 hd rfl (hK _ _ _ _ hk g1 g2 H locs ls hI hL)
  · cases hq
theorem sx_lshr (F : axFx p s m args meth c b rb ca D ro cc nL o) (hd : decode cc pc = .ok (.lshr, len)) (ht : axTr o ini rt pc (.lshr) len = some ent) (h1 : axOne ro E ent L S h K Q) (hK : ∀ pc' L' S' h', K pc' L' S' h' → axWW p l e R s m args below meth c b rb ca D QQ nL n0 s0 pc' L' S' h') : axWW p l e R s m args below meth c b rb ca D QQ nL n0 s0 pc L S h := by
  obtain ⟨rfl, rfl⟩ := axI_ok ht
  obtain ⟨q, hq, hk⟩ := h1
  simp only [axStp] at hq
  split at hq
  · cases (Option.some.inj hq)
    intro g1 g2 H locs ls hI hL
    exact lv_lshr F.1 F.2.1 hd rfl (hK _ _ _ _ hk g1 g2 H locs ls hI hL)
  · cases hq
theorem sx_lushr (F : axFx p s m args meth c b rb ca D ro cc nL o) (hd : decode cc pc = .ok (.lushr, len)) (ht : axTr o ini rt pc (.lushr) len = some ent) (h1 : axOne ro E ent L S h K Q) (hK : ∀ pc' L' S' h', K pc' L' S' h' → axWW p l e R s m args below meth c b rb ca D QQ nL n0 s0 pc' L' S' h') : axWW p l e R s m args below meth c b rb ca D QQ nL n0 s0 pc L S h := by
  obtain ⟨rfl, rfl⟩ := axI_ok ht
  obtain ⟨q, hq, hk⟩ := h1
  simp only [axStp] at hq
  split at hq
  · cases (Option.some.inj hq)
    intro g1 g2 H locs ls hI hL
    exact lv_lushr F.1 F.2.1 hd rfl (hK _ _ _ _ hk g1 g2 H locs ls hI hL)
  · cases hq
theorem sx_lcmp (F : axFx p s m args meth c b rb ca D ro cc nL o) (hd : decode cc pc = .ok (.lcmp, len)) (ht : axTr o ini rt pc (.lcmp) len = some ent) (h1 : axOne ro E ent L S h K Q) (hK : ∀ pc' L' S' h', K pc' L' S' h' → axWW p l e R s m args below meth c b rb ca D QQ nL n0 s0 pc' L' S' h') : axWW p l e R s m args below meth c b rb ca D QQ nL n0 s0 pc L S h := by
  obtain ⟨rfl, rfl⟩ := axI_ok ht
  obtain ⟨q, hq, hk⟩ := h1
  simp only [axStp] at hq
  split at hq
  · cases (Option.some.inj hq)
    intro g1 g2 H locs ls hI hL
    exact W.lcmp F.1 F.2.1 hd (hK _ _ _ _ hk g1 g2 H locs ls hI hL)
  · cases hq
theorem sx_lstore_n (k : Fin 4) (F : axFx p s m args meth c b rb ca D ro cc nL o) (hd : decode cc pc = .ok (.lstore_n k, len)) (ht : axTr o ini rt pc (.lstore_n k) len = some ent) (h1 : axOne ro E ent L S h K Q) (hK : ∀ pc' L' S' h', K pc' L' S' h' → axWW p l e R s m args below meth c b rb ca D QQ nL n0 s0 pc' L' S' h') : axWW p l e R s m args below meth c b rb ca D QQ nL n0 s0 pc L S h := by
  obtain ⟨rfl, rfl⟩ := axI_ok ht
  obtain ⟨q, hq, hk⟩ := h1
  simp only [axStp] at hq
  split at hq
  · rename_i x S'
    split at hq
    · rename_i L' hp
      split at hq
      · rename_i L'' hp2
        cases (Option.some.inj hq)
        intro g1 g2 H locs ls hI hL
        exact lv_lstore_n F.1 F.2.1 hd rfl hL.2 (by have := (axN_spec _ _ _ hp2).2.1; rw [(axP_spec _ _ _ _ hp).1, hL.1] at this; exact this) rfl (fun ls hl => hK _ _ _ _ hk g1 g2 H locs ls hI (axLr_put2 hp hp2 hL.1 hl))
      · cases hq
    · cases hq
  · cases hq
theorem sx_lstore (k : Nat) (F : axFx p s m args meth c b rb ca D ro cc nL o) (hd : decode cc pc = .ok (.lstore k, len)) (ht : axTr o ini rt pc (.lstore k) len = some ent) (h1 : axOne ro E ent L S h K Q) (hK : ∀ pc' L' S' h', K pc' L' S' h' → axWW p l e R s m args below meth c b rb ca D QQ nL n0 s0 pc' L' S' h') : axWW p l e R s m args below meth c b rb ca D QQ nL n0 s0 pc L S h := by
  obtain ⟨rfl, rfl⟩ := axI_ok ht
  obtain ⟨q, hq, hk⟩ := h1
  simp only [axStp] at hq
  split at hq
  · rename_i x S'
    split at hq
    · rename_i L' hp
      split at hq
      · rename_i L'' hp2
        cases (Option.some.inj hq)
        intro g1 g2 H locs ls hI hL
        exact lv_lstore F.1 F.2.1 hd hL.2 (by have := (axN_spec _ _ _ hp2).2.1; rw [(axP_spec _ _ _ _ hp).1, hL.1] at this; exact this) rfl (fun ls hl => hK _ _ _ _ hk g1 g2 H locs ls hI (axLr_put2 hp hp2 hL.1 hl))
      · cases hq
    · cases hq
  · cases hq
theorem sx_ladd (F : axFx p s m args meth c b rb ca D ro cc nL o) (hd : decode cc pc = .ok (.ladd, len)) (ht : axTr o ini rt pc (.ladd) len = some ent) (h1 : axOne ro E ent L S h K Q) (hK : ∀ pc' L' S' h', K pc' L' S' h' → axWW p l e R s m args below meth c b rb ca D QQ nL n0 s0 pc' L' S' h') : axWW p l e R s m args below meth c b rb ca D QQ nL n0 s0 pc L S h := by
  obtain ⟨rfl, rfl⟩ := axI_ok ht
  obtain ⟨q, hq, hk⟩ := h1
  simp only [axStp] at hq
  split at hq
  · cases (Option.some.inj hq)
    intro g1 g2 H locs ls hI hL
    exact lv_ladd F.1 F.2.1 hd (hK _ _ _ _ hk g1 g2 H locs ls hI hL)
  · cases hq
theorem sx_lmul (F : axFx p s m args meth c b rb ca D ro cc nL o) (hd : decode cc pc = .ok (.lmul, len)) (ht : axTr o ini rt pc (.lmul) len = some ent) (h1 : axOne ro E ent L S h K Q) (hK : ∀ pc' L' S' h', K pc' L' S' h' → axWW p l e R s m args below meth c b rb ca D QQ nL n0 s0 pc' L' S' h') : axWW p l e R s m args below meth c b rb ca D QQ nL n0 s0 pc L S h := by
  obtain ⟨rfl, rfl⟩ := axI_ok ht
  obtain ⟨q, hq, hk⟩ := h1
  simp only [axStp] at hq
  split at hq
  · cases (Option.some.inj hq)
    intro g1 g2 H locs ls hI hL
    exact lv_lmul F.1 F.2.1 hd (hK _ _ _ _ hk g1 g2 H locs ls hI hL)
  · cases hq
theorem sx_ldc (i : Nat) (F : axFx p s m args meth c b rb ca D ro cc nL o) (hd : decode cc pc = .ok (.ldc i, len)) (ht : axTr o ini rt pc (.ldc i) len = some ent) (h1 : axOne ro E ent L S h K Q) (hK : ∀ pc' L' S' h', K pc' L' S' h' → axWW p l e R s m args below meth c b rb ca D QQ nL n0 s0 pc' L' S' h') : axWW p l e R s m args below meth c b rb ca D QQ nL n0 s0 pc L S h := by
  rcases hq0 : axFnd o i axCsT with _ | ⟨v, w⟩
  · simp only [axTr, hq0] at ht
    cases ht
  · simp only [axTr, hq0] at ht
    obtain ⟨rfl, rfl⟩ := axI_ok ht
    obtain ⟨q, hq, hk⟩ := h1
    cases (Option.some.inj hq)
    intro g1 g2 H locs ls hI hL
    exact lv_ldc F.1 F.2.1 F.2.2.2.1 (F.2.2.2.2.1 _ (axTW_mem (axCsT_ok _ (axFnd_mem _ hq0)) rfl)) hd (hK _ _ _ _ hk g1 g2 H locs ls hI hL)
theorem sx_goto (off : Int) (F : axFx p s m args meth c b rb ca D ro cc nL o) (hd : decode cc pc = .ok (.goto off, len)) (ht : axTr o ini rt pc (.goto off) len = some ent) (h1 : axOne ro E ent L S h K Q) (hK : ∀ pc' L' S' h', K pc' L' S' h' → axWW p l e R s m args below meth c b rb ca D QQ nL n0 s0 pc' L' S' h') : axWW p l e R s m args below meth c b rb ca D QQ nL n0 s0 pc L S h := by
  simp only [axTr] at ht
  obtain ⟨rfl, et, rfl⟩ := axTg_ok ht
  obtain ⟨q, hq, hk⟩ := h1
  cases (Option.some.inj hq)
  intro g1 g2 H locs ls hI hL
  exact lv_goto F.1 F.2.1 hd et (hK _ _ _ _ hk g1 g2 H locs ls hI hL)
theorem sx_if_icmp (cd : ClassFile.Cond) (off : Int) (F : axFx p s m args meth c b rb ca D ro cc nL o) (hd : decode cc pc = .ok (.if_icmp cd off, len)) (ht : axTr o ini rt pc (.if_icmp cd off) len = some ent) (h1 : axOne ro E ent L S h K Q) (hK : ∀ pc' L' S' h', K pc' L' S' h' → axWW p l e R s m args below meth c b rb ca D QQ nL n0 s0 pc' L' S' h') : axWW p l e R s m args below meth c b rb ca D QQ nL n0 s0 pc L S h := by
  simp only [axTr] at ht
  obtain ⟨rfl, et, rfl⟩ := axTg_ok ht
  obtain ⟨x, y, S', rfl, h2, h3⟩ := h1
  intro g1 g2 H locs ls hI hL
  cases cd
  · exact lv_icmp_eq F.1 F.2.1 hd et (fun q => hK _ _ _ _ (h2 q) g1 g2 H locs ls hI hL) (fun q => hK _ _ _ _ (h3 q) g1 g2 H locs ls hI hL)
  · exact lv_icmp_ne F.1 F.2.1 hd et (fun q => hK _ _ _ _ (h2 q) g1 g2 H locs ls hI hL) (fun q => hK _ _ _ _ (h3 (fun z => z q)) g1 g2 H locs ls hI hL)
  · exact lv_icmp_lt F.1 F.2.1 hd et (fun q => hK _ _ _ _ (h2 q) g1 g2 H locs ls hI hL) (fun q => hK _ _ _ _ (h3 q) g1 g2 H locs ls hI hL)
  · exact lv_icmp_ge F.1 F.2.1 hd et (fun q => hK _ _ _ _ (h2 q) g1 g2 H locs ls hI hL) (fun q => hK _ _ _ _ (h3 q) g1 g2 H locs ls hI hL)
  · exact lv_icmp_gt F.1 F.2.1 hd et (fun q => hK _ _ _ _ (h2 q) g1 g2 H locs ls hI hL) (fun q => hK _ _ _ _ (h3 q) g1 g2 H locs ls hI hL)
  · exact lv_icmp_le F.1 F.2.1 hd et (fun q => hK _ _ _ _ (h2 q) g1 g2 H locs ls hI hL) (fun q => hK _ _ _ _ (h3 q) g1 g2 H locs ls hI hL)
theorem sx_ifCond (cd : ClassFile.Cond) (off : Int) (F : axFx p s m args meth c b rb ca D ro cc nL o) (hd : decode cc pc = .ok (.ifCond cd off, len)) (ht : axTr o ini rt pc (.ifCond cd off) len = some ent) (h1 : axOne ro E ent L S h K Q) (hK : ∀ pc' L' S' h', K pc' L' S' h' → axWW p l e R s m args below meth c b rb ca D QQ nL n0 s0 pc' L' S' h') : axWW p l e R s m args below meth c b rb ca D QQ nL n0 s0 pc L S h := by
  simp only [axTr] at ht
  obtain ⟨rfl, et, rfl⟩ := axTg_ok ht
  obtain ⟨x, S', rfl, h2, h3⟩ := h1
  intro g1 g2 H locs ls hI hL
  cases cd
  · exact lv_if_eq F.1 F.2.1 hd et (fun q => hK _ _ _ _ (h2 q) g1 g2 H locs ls hI hL) (fun q => hK _ _ _ _ (h3 q) g1 g2 H locs ls hI hL)
  · exact lv_if_ne F.1 F.2.1 hd et (fun q => hK _ _ _ _ (h2 q) g1 g2 H locs ls hI hL) (fun q => hK _ _ _ _ (h3 (fun z => z q)) g1 g2 H locs ls hI hL)
  · exact lv_if_lt F.1 F.2.1 hd et (fun q => hK _ _ _ _ (h2 q) g1 g2 H locs ls hI hL) (fun q => hK _ _ _ _ (h3 q) g1 g2 H locs ls hI hL)
  · exact lv_if_ge F.1 F.2.1 hd et (fun q => hK _ _ _ _ (h2 q) g1 g2 H locs ls hI hL) (fun q => hK _ _ _ _ (h3 q) g1 g2 H locs ls hI hL)
  · exact lv_if_gt F.1 F.2.1 hd et (fun q => hK _ _ _ _ (h2 q) g1 g2 H locs ls hI hL) (fun q => hK _ _ _ _ (h3 q) g1 g2 H locs ls hI hL)
  · exact lv_if_le F.1 F.2.1 hd et (fun q => hK _ _ _ _ (h2 q) g1 g2 H locs ls hI hL) (fun q => hK _ _ _ _ (h3 q) g1 g2 H locs ls hI hL)
theorem sx_ifnonnull (off : Int) (F : axFx p s m args meth c b rb ca D ro cc nL o) (hd : decode cc pc = .ok (.ifnonnull off, len)) (ht : axTr o ini rt pc (.ifnonnull off) len = some ent) (h1 : axOne ro E ent L S h K Q) (hK : ∀ pc' L' S' h', K pc' L' S' h' → axWW p l e R s m args below meth c b rb ca D QQ nL n0 s0 pc' L' S' h') : axWW p l e R s m args below meth c b rb ca D QQ nL n0 s0 pc L S h := by
  simp only [axTr] at ht
  obtain ⟨rfl, et, rfl⟩ := axTg_ok ht
  rcases h1 with ⟨k, S', rfl, hk⟩ | ⟨S', rfl, hk⟩
  · intro g1 g2 H locs ls hI hL
    exact lv_ifnonnull F.1 F.2.1 hd et (hK _ _ _ _ hk g1 g2 H locs ls hI hL)
  · intro g1 g2 H locs ls hI hL
    exact lv_ifnonnullN F.1 F.2.1 hd (hK _ _ _ _ hk g1 g2 H locs ls hI hL)
end AX7
end
section
/-! SOUNDNESS 2: the heap. Written by wip/whole/mk08.py. -/
theorem axLay_good {C : String} {T : u_T} {N : Nat} : ∀ w ∈ u_ws C T N, goodWord w = true := by
  intro w hw
  obtain ⟨k, -, rfl⟩ := List.mem_map.mp hw
  unfold u_lay
  split <;> rfl
theorem axLay : ∀ c, c < 5 → ∀ w ∈ u_ws (axCn c) (axT c) (axNf c), w ∈ axTW
  | 0, _ => fun w hw => axTW_mem (axW_lay0 w hw) (axLay_good w hw)
  | 1, _ => fun w hw => axTW_mem (axW_lay1 w hw) (axLay_good w hw)
  | 2, _ => fun w hw => axTW_mem (axW_lay2 w hw) (axLay_good w hw)
  | 3, _ => fun w hw => axTW_mem (axW_lay3 w hw) (axLay_good w hw)
  | 4, _ => fun w hw => axTW_mem (axW_lay4 w hw) (axLay_good w hw)
  | n + 5, h => absurd h (by omega)
theorem axTyOk : ∀ c, c < 5 → ∀ k, k < axNf c → parseFieldDescriptor (axT c k).2.2.1 = some (axTy c k)
  | 0, _ => axW_ty0
  | 1, _ => axW_ty1
  | 2, _ => axW_ty2
  | 3, _ => axW_ty3
  | 4, _ => axW_ty4
  | n + 5, h => absurd h (by omega)
theorem axNmOk : ∀ c, c < 5 → ∀ a, a < axNf c → ∀ b, b < axNf c → a ≠ b → (axT c a).2.1 ≠ (axT c b).2.1
  | 0, _ => axW_nm0
  | 1, _ => axW_nm1
  | 2, _ => axW_nm2
  | 3, _ => axW_nm3
  | 4, _ => axW_nm4
  | n + 5, h => absurd h (by omega)
theorem axOwnOk : ∀ c, c < 5 → ∀ k, k < axNf c → (axT c k).1 = axCn c
  | 0, _ => axW_own0
  | 1, _ => axW_own1
  | 2, _ => axW_own2
  | 3, _ => axW_own3
  | 4, _ => axW_own4
  | n + 5, h => absurd h (by omega)
theorem axDfOk : ∀ c, c < 5 → ∀ k, k < axNf c → defaultValue (axTy c k) = vp_V (axDf c) k
  | 0, _ => axW_df0
  | 1, _ => axW_df1
  | 2, _ => axW_df2
  | 3, _ => axW_df3
  | 4, _ => axW_df4
  | n + 5, h => absurd h (by omega)
theorem axInsOk : ∀ c, c < 5 → Cond.instantiable (axCn c) (axNf c) ∈ axTW
  | 0, _ => axTW_mem axW_in0 rfl
  | 1, _ => axTW_mem axW_in1 rfl
  | 2, _ => axTW_mem axW_in2 rfl
  | 3, _ => axTW_mem axW_in3 rfl
  | 4, _ => axTW_mem axW_in4 rfl
  | n + 5, h => absurd h (by omega)
theorem axIniOk : ∀ c, c < 5 → Cond.initialized (axCn c) ∈ axTW
  | 0, _ => axTW_mem axW_ini0 rfl
  | 1, _ => axTW_mem axW_ini1 rfl
  | 2, _ => axTW_mem axW_ini2 rfl
  | 3, _ => axTW_mem axW_ini3 rfl
  | 4, _ => axTW_mem axW_ini4 rfl
  | n + 5, h => absurd h (by omega)
theorem axClOk : ∀ c, c < 5 → axCl[c]? = some (axCn c, axT c, axNf c)
  | 0, _ => rfl
  | 1, _ => rfl
  | 2, _ => rfl
  | 3, _ => rfl
  | 4, _ => rfl
  | n + 5, h => absurd h (by omega)
theorem axDfN : ∀ c, c < 5 → (axDf c).length = axNf c
  | 0, _ => rfl
  | 1, _ => rfl
  | 2, _ => rfl
  | 3, _ => rfl
  | 4, _ => rfl
  | n + 5, h => absurd h (by omega)
theorem axDf_cv (b : Nat) (rb : Nat → Nat) : ∀ c, (axDf c).map (axCv b rb) = axDf c
  | 0 => rfl
  | 1 => rfl
  | 2 => rfl
  | 3 => rfl
  | 4 => rfl
  | n + 5 => rfl
theorem axCl_lt {c : Nat} {x : vw_C} (h : axCl[c]? = some x) : c < 5 := (List.getElem?_eq_some_iff.mp h).1
theorem axFit_cv {b : Nat} {rb : Nat → Nat} {c k : Nat} {v : Value} (h : axFit c k v) : narrow (axTy c k) (axCv b rb v) = axCv b rb v ∧ fits (axTy c k) (axCv b rb v) = true := by
  obtain ⟨h1, h2, h3⟩ := h
  cases v with
  | retAddr j => exact absurd rfl (h3 j)
  | ref j =>
    refine ⟨?_, ?_⟩
    · generalize axTy c k = ty
      cases ty <;> rfl
    · generalize axTy c k = ty at h2
      cases ty <;> first | exact h2 | rfl
  | _ => exact ⟨h1, h2⟩
section AX8
variable {p : Program} {l : Launch} {e : Env} {R : Room} {s : State} {m : MethodId} {args : Array Value} {below : List Frame} {meth : Method} {c : Code} {b : Nat} {rb : Nat → Nat} {ca : Nat → ClassId} {D : va_G} {ro : axRo} {QQ : State → Prop} {cc : ByteArray} {nL n0 s0 o : Nat} {pc : Nat} {L : axL} {S : List Value} {h : axH} {K : Nat → axL → List Value → axH → Prop} {Q : Option Value → axH → Prop} {E : axCall} {ent : axE} {ini : Bool} {rt len : Nat}
theorem axWs_lt {H : Heap} (hP : va_P D axCl (axWs b rb ca b h) H) (hne : 0 < h.length) : b + (h.length - 1) < H.size := by
  have hc : h[h.length - 1]? = some (h[h.length - 1]'(by omega)) := List.getElem?_eq_getElem (by omega)
  exact (hP _ _ (axWs_at (b := b) (rb := rb) (ca := ca) hc)).lt
/-- the heap's size, out of what the machine says of the room that is used -/
theorem axW_sz (hn : s.heap.size = b + n0) {H : Heap} {locs : List Loc} {slots : Nat} {g : JFrame} (g1 : n0 ≤ h.length) (hP : va_P D axCl (axWs b rb ca b h) H) (hS : va_S (fun q : Nat => b ≤ q) s.heap H locs) (k : H.size = b + h.length → W p l e R s m args below meth c H locs (h.length - n0) slots QQ g) : W p l e R s m args below meth c H locs (h.length - n0) slots QQ g := by
  intro T hT X
  refine k ?_ T hT X
  have h1 := X.heapSize
  rw [hT, hn] at h1
  have h2 := hS.1
  rw [hn] at h2
  by_cases hne : 0 < h.length
  · have h3 := axWs_lt hP hne
    omega
  · omega
theorem axWW_set (hn : s.heap.size = b + n0) {k0 : Nat} {x d : axC} (hc : h[k0]? = some d) (hcs : axCs x = axCs d) (hW : axWW p l e R s m args below meth c b rb ca D QQ nL n0 s0 pc L S (h.set k0 x)) (g1 : n0 ≤ h.length) (g2 : s0 ≤ axSl h) {H : Heap} {locs : List Loc} {ls : Array Slot}
    (hP : va_P D axCl (axWs b rb ca b (h.set k0 x)) H) (hS : va_S (fun q : Nat => b ≤ q) s.heap H locs) (hL : axLr b rb L ls nL) : W p l e R s m args below meth c H locs (h.length - n0) (axSl h - s0) QQ (F0 m pc ls (S.map (axCv b rb))) := by
  have e1 : (h.set k0 x).length = h.length := List.length_set
  have e2 : axSl (h.set k0 x) = axSl h := axSl_set h k0 x d hc hcs
  unfold axWW at hW
  rw [e1, e2] at hW
  have hz := axW_sz (p := p) (l := l) (e := e) (R := R) (m := m) (args := args) (below := below) (meth := meth) (c := c) (QQ := QQ) (slots := axSl h - s0) (g := F0 m pc ls (S.map (axCv b rb))) hn (h := h.set k0 x) (by rw [e1]; exact g1) hP hS
  rw [e1] at hz
  exact hz fun z => hW g1 g2 H locs ls ⟨by rw [e1]; exact z, hP, hS⟩ hL
/-- a new cell's place is the next one -/
theorem axWW_push (hn : s.heap.size = b + n0) {x : axC} {q : Nat} {ls : Array Slot} {S' : List Value} (hW : axWW p l e R s m args below meth c b rb ca D QQ nL n0 s0 pc L (.ref h.length :: S') (h ++ [x])) (g1 : n0 ≤ h.length) (g2 : s0 ≤ axSl h) {H : Heap} {locs : List Loc} {N : Nat} (hN : N = axCs x)
    (hP : va_P D axCl (axWs b rb ca b h ++ [(q, axCe b rb ca x)]) H) (hD : va_D (fun q : Nat => b ≤ q) (axWs b rb ca b h ++ [(q, axCe b rb ca x)])) (hS : va_S (fun q : Nat => b ≤ q) s.heap H locs) (hL : axLr b rb L ls nL) : W p l e R s m args below meth c H locs (h.length - n0 + 1) (axSl h - s0 + N) QQ (F0 m pc ls (.ref q :: S'.map (axCv b rb))) := by
  have hlen : (axWs b rb ca b h).length = h.length := by
    have : ∀ (h : axH) (k : Nat), (axWs b rb ca k h).length = h.length := by
      intro h
      induction h with
      | nil => intro k; rfl
      | cons a t ih => intro k; simp [axWs, ih]
    exact this h b
  have hlast : (axWs b rb ca b h ++ [(q, axCe b rb ca x)])[h.length]? = some (q, axCe b rb ca x) := by rw [← hlen]; simp
  have hlt : q < H.size := (hP _ _ hlast).lt
  have hge : b ≤ q := hD.2 _ _ hlast
  have hq : b + h.length ≤ q := by
    rcases Nat.lt_or_ge q (b + h.length) with z | z
    · have hi : q - b < h.length := by omega
      have hc : h[q - b]? = some (h[q - b]'hi) := List.getElem?_eq_getElem hi
      have h1 : (axWs b rb ca b h ++ [(q, axCe b rb ca x)])[q - b]? = some (b + (q - b), axCe b rb ca (h[q - b]'hi)) := by
        rw [List.getElem?_append_left (by rw [hlen]; exact hi)]
        exact axWs_at hc
      have := hD.1 _ _ _ _ h1 hlast (by show b + (q - b) = q; omega)
      omega
    · exact z
  intro T hT X
  have h1 := X.heapSize
  rw [hT, hn] at h1
  have hqe : q = b + h.length := by omega
  subst hqe
  have e1 : (h ++ [x]).length = h.length + 1 := by simp
  have e2 : axSl (h ++ [x]) = axSl h + N := by rw [axSl_app, hN]
  rw [← axWs_app] at hP
  unfold axWW at hW
  rw [e1, e2] at hW
  have hw := hW (by omega) (by omega) H locs ls ⟨by rw [e1]; omega, hP, hS⟩ hL
  rw [show h.length + 1 - n0 = h.length - n0 + 1 by omega, show axSl h + N - s0 = axSl h - s0 + N by omega] at hw
  exact hw T hT X

theorem sx_getfield (i : Nat) (F : axFx p s m args meth c b rb ca D ro cc nL o) (hn : s.heap.size = b + n0) (hini : ini = true → meth.name = "<init>") (hR : 1 ≤ R.frames ∧ 36 ≤ R.locals) (hcap : ∀ pc' L' S' h', K pc' L' S' h' → h'.length - n0 ≤ R.cells ∧ axSl h' - s0 ≤ R.slots) (hd : decode cc pc = .ok (.getfield i, len)) (ht : axTr o ini rt pc (.getfield i) len = some ent) (h1 : axOne ro E ent L S h K Q) (hK : ∀ pc' L' S' h', K pc' L' S' h' → axWW p l e R s m args below meth c b rb ca D QQ nL n0 s0 pc' L' S' h') : axWW p l e R s m args below meth c b rb ca D QQ nL n0 s0 pc L S h := by
  rcases hq0 : axFnd o i axFlT with _ | ⟨ci, k, w⟩
  · simp only [axTr, hq0] at ht
    cases ht
  · simp only [axTr, hq0] at ht
    obtain ⟨rfl, rfl⟩ := axI_ok ht
    obtain ⟨k0, S', fs, v, rfl, hc, hv, hk⟩ := h1
    obtain ⟨f1, f2, f3⟩ := axFlT_ok _ (axFnd_mem _ hq0)
    intro g1 g2 H locs ls hI hL
    exact va_get F.1 F.2.1 (Ts := axTW) F.2.2.2.2.1 (axLay ci (axCl_lt f3)) F.2.2.2.1 F.2.2.2.2.2.1 hI.2.1 k0 (axWs_at hc) f3 k f2 (F.2.2.2.2.1 _ (axTW_mem f1 rfl)) (fun x hx => hx) (v := axCv b rb v) (by rw [List.getElem?_map, hv]; rfl) hd (hK _ _ _ _ hk g1 g2 H locs ls hI hL)
theorem sx_putfield (i : Nat) (F : axFx p s m args meth c b rb ca D ro cc nL o) (hn : s.heap.size = b + n0) (hini : ini = true → meth.name = "<init>") (hR : 1 ≤ R.frames ∧ 36 ≤ R.locals) (hcap : ∀ pc' L' S' h', K pc' L' S' h' → h'.length - n0 ≤ R.cells ∧ axSl h' - s0 ≤ R.slots) (hd : decode cc pc = .ok (.putfield i, len)) (ht : axTr o ini rt pc (.putfield i) len = some ent) (h1 : axOne ro E ent L S h K Q) (hK : ∀ pc' L' S' h', K pc' L' S' h' → axWW p l e R s m args below meth c b rb ca D QQ nL n0 s0 pc' L' S' h') : axWW p l e R s m args below meth c b rb ca D QQ nL n0 s0 pc L S h := by
  rcases hq0 : axFnd o i axFlT with _ | ⟨ci, k, w⟩
  · simp only [axTr, hq0] at ht
    cases ht
  · simp only [axTr, hq0] at ht
    cases hfin : axFin ci k with
    | false =>
      simp only [hfin, cond_false] at ht
      obtain ⟨rfl, rfl⟩ := axI_ok ht
      obtain ⟨v, k0, S', fs, rfl, hc, hlt, hfit, hk⟩ := h1
      obtain ⟨f1, f2, f3⟩ := axFlT_ok _ (axFnd_mem _ hq0)
      obtain ⟨n1, n2⟩ := axFit_cv (b := b) (rb := rb) hfit
      intro g1 g2 H locs ls hI hL
      refine va_put F.1 F.2.1 (Ts := axTW) F.2.2.2.2.1 (axLay ci (axCl_lt f3)) (axTy ci) (axTyOk ci (axCl_lt f3)) (axNmOk ci (axCl_lt f3)) F.2.2.2.1 F.2.2.2.2.2.1 hI.2.1 (axWs_D h) hI.2.2 k0 (axWs_at hc) f3 k f2 (F.2.2.2.2.1 _ (axTW_mem f1 rfl)) (fun x hx => hx) hfin (axTyOk ci (axCl_lt f3) k f2) n1 n2 (by rw [List.length_map]; exact hlt) hd (fun H1 locs1 hP1 hD1 hS1 => ?_)
      refine axWW_set hn hc (x := .inr (.inr (ci, fs.set k v))) (by simp [axCs]) (hK _ _ _ _ hk) g1 g2 ?_ hS1 hL
      rw [axWs_set]
      show va_P D axCl ((axWs b rb ca b h).set k0 (b + k0, .inr (ci, (fs.set k v).map (axCv b rb)))) H1
      rw [List.map_set]
      exact hP1
    | true =>
      simp only [hfin, cond_true] at ht
      cases hio : (ini && Nat.beq ci o) with
      | false => rw [hio] at ht; cases ht
      | true =>
        rw [hio, cond_true] at ht
        rw [Bool.and_eq_true] at hio
        have e2 := Nat.eq_of_beq_eq_true hio.2
        obtain ⟨rfl, rfl⟩ := axI_ok ht
        obtain ⟨v, k0, S', fs, rfl, hc, hlt, hfit, hk⟩ := h1
        obtain ⟨f1, f2, f3⟩ := axFlT_ok _ (axFnd_mem _ hq0)
        obtain ⟨n1, n2⟩ := axFit_cv (b := b) (rb := rb) hfit
        intro g1 g2 H locs ls hI hL
        refine va_putF F.1 F.2.1 (Ts := axTW) F.2.2.2.2.1 (axLay ci (axCl_lt f3)) (axTy ci) (axTyOk ci (axCl_lt f3)) (axNmOk ci (axCl_lt f3)) F.2.2.2.1 F.2.2.2.2.2.1 hI.2.1 (axWs_D h) hI.2.2 k0 (axWs_at hc) f3 k f2 (F.2.2.2.2.1 _ (axTW_mem f1 rfl)) (fun x hx => hx) hfin (hini hio.1) (by have z := axOwnOk ci (axCl_lt (axFlT_ok _ (axFnd_mem _ hq0)).2.2) k f2; rw [z, e2]) (axTyOk ci (axCl_lt f3) k f2) n1 n2 (by rw [List.length_map]; exact hlt) hd (fun H1 locs1 hP1 hD1 hS1 => ?_)
        refine axWW_set hn hc (x := .inr (.inr (ci, fs.set k v))) (by simp [axCs]) (hK _ _ _ _ hk) g1 g2 ?_ hS1 hL
        rw [axWs_set]
        show va_P D axCl ((axWs b rb ca b h).set k0 (b + k0, .inr (ci, (fs.set k v).map (axCv b rb)))) H1
        rw [List.map_set]
        exact hP1
theorem sx_getstatic (i : Nat) (F : axFx p s m args meth c b rb ca D ro cc nL o) (hn : s.heap.size = b + n0) (hini : ini = true → meth.name = "<init>") (hR : 1 ≤ R.frames ∧ 36 ≤ R.locals) (hcap : ∀ pc' L' S' h', K pc' L' S' h' → h'.length - n0 ≤ R.cells ∧ axSl h' - s0 ≤ R.slots) (hd : decode cc pc = .ok (.getstatic i, len)) (ht : axTr o ini rt pc (.getstatic i) len = some ent) (h1 : axOne ro E ent L S h K Q) (hK : ∀ pc' L' S' h', K pc' L' S' h' → axWW p l e R s m args below meth c b rb ca D QQ nL n0 s0 pc' L' S' h') : axWW p l e R s m args below meth c b rb ca D QQ nL n0 s0 pc L S h := by
  rcases hq0 : axFnd o i axStT with _ | ⟨j, w⟩
  · simp only [axTr, hq0] at ht
    cases ht
  · simp only [axTr, hq0] at ht
    obtain ⟨rfl, rfl⟩ := axI_ok ht
    have hk := h1
    obtain ⟨f1, f2⟩ := axStT_ok _ (axFnd_mem _ hq0)
    obtain ⟨q1, q2, q3, q4, q5⟩ := F.2.2.2.2.2.2.1
    intro g1 g2 H locs ls hI hL
    have f2 : j = 1 ∨ j = 2 := f2
    rcases f2 with rfl | rfl
    · exact va_getsN F.1 F.2.1 q2 hI.2.2 F.2.2.2.1 (va_Nw.use rfl (q4 _ f1 rfl)) (fun x hx => hx) hd (hK _ _ _ _ hk g1 g2 H locs ls hI hL)
    · exact va_getsN F.1 F.2.1 q3 hI.2.2 F.2.2.2.1 (va_Nw.use rfl (q4 _ f1 rfl)) (fun x hx => hx) hd (hK _ _ _ _ hk g1 g2 H locs ls hI hL)
theorem sx_arraylength (F : axFx p s m args meth c b rb ca D ro cc nL o) (hn : s.heap.size = b + n0) (hini : ini = true → meth.name = "<init>") (hR : 1 ≤ R.frames ∧ 36 ≤ R.locals) (hcap : ∀ pc' L' S' h', K pc' L' S' h' → h'.length - n0 ≤ R.cells ∧ axSl h' - s0 ≤ R.slots) (hd : decode cc pc = .ok (.arraylength, len)) (ht : axTr o ini rt pc (.arraylength) len = some ent) (h1 : axOne ro E ent L S h K Q) (hK : ∀ pc' L' S' h', K pc' L' S' h' → axWW p l e R s m args below meth c b rb ca D QQ nL n0 s0 pc' L' S' h') : axWW p l e R s m args below meth c b rb ca D QQ nL n0 s0 pc L S h := by
  obtain ⟨rfl, rfl⟩ := axI_ok ht
  rcases h1 with ⟨k0, S', ki, n, f, rfl, hc, hlt, hk⟩ | ⟨k0, S', n, f, rfl, hc, hk⟩ | ⟨i, S', rfl, hi, hk⟩
  · intro g1 g2 H locs ls hI hL
    have hki : ∃ ty, (axTys ca)[ki]? = some (ca ki, ty) := by
      rcases (show ki = 0 ∨ ki = 1 ∨ ki = 2 by omega) with rfl | rfl | rfl
      · exact ⟨_, rfl⟩
      · exact ⟨_, rfl⟩
      · exact ⟨_, rfl⟩
    obtain ⟨ty, hty⟩ := hki
    exact va_alen F.1 F.2.1 F.2.2.2.2.2.1 hI.2.1 k0 ki (axWs_at hc) hty rfl hd (hK _ _ _ _ hk g1 g2 H locs ls hI hL)
  · intro g1 g2 H locs ls hI hL
    exact va_alen F.1 F.2.1 F.2.2.2.2.2.1 hI.2.1 k0 3 (axWs_at hc) rfl rfl hd (hK _ _ _ _ hk g1 g2 H locs ls hI hL)
  · intro g1 g2 H locs ls hI hL
    obtain ⟨hlt, scr, q1, q2, q3, q4, q5, q6, q7⟩ := F.2.2.2.2.2.2.1.1 i hi
    exact W.alen F.1 F.2.1 (by rw [hI.2.2.2.1 _ (by have z := F.2.2.2.2.2.2.2; omega) q7]; exact q1) q2 q5 rfl rfl hd (hK _ _ _ _ hk g1 g2 H locs ls hI hL)
theorem sx_iaload (F : axFx p s m args meth c b rb ca D ro cc nL o) (hn : s.heap.size = b + n0) (hini : ini = true → meth.name = "<init>") (hR : 1 ≤ R.frames ∧ 36 ≤ R.locals) (hcap : ∀ pc' L' S' h', K pc' L' S' h' → h'.length - n0 ≤ R.cells ∧ axSl h' - s0 ≤ R.slots) (hd : decode cc pc = .ok (.iaload, len)) (ht : axTr o ini rt pc (.iaload) len = some ent) (h1 : axOne ro E ent L S h K Q) (hK : ∀ pc' L' S' h', K pc' L' S' h' → axWW p l e R s m args below meth c b rb ca D QQ nL n0 s0 pc' L' S' h') : axWW p l e R s m args below meth c b rb ca D QQ nL n0 s0 pc L S h := by
  obtain ⟨rfl, rfl⟩ := axI_ok ht
  rcases h1 with ⟨k0, i, S', n, f, rfl, hc, hin, hk⟩ | ⟨hb0, j, i, S', rfl, hj, hin, hk⟩
  · intro g1 g2 H locs ls hI hL
    exact va_iald F.1 F.2.1 F.2.2.2.2.2.1 hI.2.1 k0 0 (axWs_at hc) rfl hin hd (hK _ _ _ _ hk g1 g2 H locs ls hI hL)
  · intro g1 g2 H locs ls hI hL
    obtain ⟨hlt, scr, q1, q2, q3, q4, q5, q6, q7⟩ := F.2.2.2.2.2.2.1.1 j hj
    have hlt2 : i.toNatClampNeg < (ro j).1 := Nat.not_le.mp fun q => hin (Or.inr q)
    exact W.iald F.1 F.2.1 (by rw [hI.2.2.2.1 _ (by have z := F.2.2.2.2.2.2.2; omega) q7]; exact q1) q2 q3 (fun z => hin (z.elim Or.inl (fun z => Or.inr (Nat.le_trans q4 z)))) (q6 _ hlt2) rfl rfl hd (hK _ _ _ _ hk g1 g2 H locs ls hI hL)
theorem sx_caload (F : axFx p s m args meth c b rb ca D ro cc nL o) (hn : s.heap.size = b + n0) (hini : ini = true → meth.name = "<init>") (hR : 1 ≤ R.frames ∧ 36 ≤ R.locals) (hcap : ∀ pc' L' S' h', K pc' L' S' h' → h'.length - n0 ≤ R.cells ∧ axSl h' - s0 ≤ R.slots) (hd : decode cc pc = .ok (.caload, len)) (ht : axTr o ini rt pc (.caload) len = some ent) (h1 : axOne ro E ent L S h K Q) (hK : ∀ pc' L' S' h', K pc' L' S' h' → axWW p l e R s m args below meth c b rb ca D QQ nL n0 s0 pc' L' S' h') : axWW p l e R s m args below meth c b rb ca D QQ nL n0 s0 pc L S h := by
  obtain ⟨rfl, rfl⟩ := axI_ok ht
  rcases h1 with ⟨k0, i, S', n, f, rfl, hc, hin, hk⟩ | ⟨hb0, j, i, S', rfl, hj, hin, hk⟩
  · intro g1 g2 H locs ls hI hL
    exact va_cald F.1 F.2.1 F.2.2.2.2.2.1 hI.2.1 k0 1 (axWs_at hc) rfl hin hd (hK _ _ _ _ hk g1 g2 H locs ls hI hL)
  · cases hb0
theorem sx_aaload (F : axFx p s m args meth c b rb ca D ro cc nL o) (hn : s.heap.size = b + n0) (hini : ini = true → meth.name = "<init>") (hR : 1 ≤ R.frames ∧ 36 ≤ R.locals) (hcap : ∀ pc' L' S' h', K pc' L' S' h' → h'.length - n0 ≤ R.cells ∧ axSl h' - s0 ≤ R.slots) (hd : decode cc pc = .ok (.aaload, len)) (ht : axTr o ini rt pc (.aaload) len = some ent) (h1 : axOne ro E ent L S h K Q) (hK : ∀ pc' L' S' h', K pc' L' S' h' → axWW p l e R s m args below meth c b rb ca D QQ nL n0 s0 pc' L' S' h') : axWW p l e R s m args below meth c b rb ca D QQ nL n0 s0 pc L S h := by
  obtain ⟨rfl, rfl⟩ := axI_ok ht
  obtain ⟨k0, i, S', n, f, rfl, hc, hin, hk⟩ := h1
  intro g1 g2 H locs ls hI hL
  refine va_aldq F.1 F.2.1 F.2.2.2.2.2.1 hI.2.1 k0 3 (axWs_at hc) rfl hin hd ?_
  have hk := (hK _ _ _ _ hk g1 g2 H locs ls hI hL)
  have e1 : axCv b rb (va_rf (f i.toNatClampNeg)) = va_rf ((f i.toNatClampNeg).map (fun k => b + k)) := by cases f i.toNatClampNeg <;> rfl
  rw [List.map_cons, e1] at hk
  exact hk
theorem sx_iastore (F : axFx p s m args meth c b rb ca D ro cc nL o) (hn : s.heap.size = b + n0) (hini : ini = true → meth.name = "<init>") (hR : 1 ≤ R.frames ∧ 36 ≤ R.locals) (hcap : ∀ pc' L' S' h', K pc' L' S' h' → h'.length - n0 ≤ R.cells ∧ axSl h' - s0 ≤ R.slots) (hd : decode cc pc = .ok (.iastore, len)) (ht : axTr o ini rt pc (.iastore) len = some ent) (h1 : axOne ro E ent L S h K Q) (hK : ∀ pc' L' S' h', K pc' L' S' h' → axWW p l e R s m args below meth c b rb ca D QQ nL n0 s0 pc' L' S' h') : axWW p l e R s m args below meth c b rb ca D QQ nL n0 s0 pc L S h := by
  obtain ⟨rfl, rfl⟩ := axI_ok ht
  obtain ⟨x, i, k0, S', n, f, rfl, hc, hin, hnar, hk⟩ := h1
  intro g1 g2 H locs ls hI hL
  refine va_iast F.1 F.2.1 F.2.2.2.2.2.1 hI.2.1 (axWs_D h) hI.2.2 k0 0 (axWs_at hc) rfl hin hd (fun H1 locs1 hP1 hD1 hS1 => ?_)
  refine axWW_set hn hc (x := .inl (0, n, upd f i.toNatClampNeg x)) rfl (hK _ _ _ _ hk) g1 g2 ?_ hS1 hL
  rw [axWs_set]
  exact hP1
theorem sx_castore (F : axFx p s m args meth c b rb ca D ro cc nL o) (hn : s.heap.size = b + n0) (hini : ini = true → meth.name = "<init>") (hR : 1 ≤ R.frames ∧ 36 ≤ R.locals) (hcap : ∀ pc' L' S' h', K pc' L' S' h' → h'.length - n0 ≤ R.cells ∧ axSl h' - s0 ≤ R.slots) (hd : decode cc pc = .ok (.castore, len)) (ht : axTr o ini rt pc (.castore) len = some ent) (h1 : axOne ro E ent L S h K Q) (hK : ∀ pc' L' S' h', K pc' L' S' h' → axWW p l e R s m args below meth c b rb ca D QQ nL n0 s0 pc' L' S' h') : axWW p l e R s m args below meth c b rb ca D QQ nL n0 s0 pc L S h := by
  obtain ⟨rfl, rfl⟩ := axI_ok ht
  obtain ⟨x, i, k0, S', n, f, rfl, hc, hin, hnar, hk⟩ := h1
  intro g1 g2 H locs ls hI hL
  refine va_cast F.1 F.2.1 F.2.2.2.2.2.1 hI.2.1 (axWs_D h) hI.2.2 k0 1 (axWs_at hc) rfl hin hd (fun H1 locs1 hP1 hD1 hS1 => ?_)
  refine axWW_set hn hc (x := .inl (1, n, upd f i.toNatClampNeg x)) rfl (hK _ _ _ _ hk) g1 g2 ?_ hS1 hL
  rw [axWs_set]
  rw [show vp_nar .char x = x from hnar] at hP1
  exact hP1
theorem sx_aastore (F : axFx p s m args meth c b rb ca D ro cc nL o) (hn : s.heap.size = b + n0) (hini : ini = true → meth.name = "<init>") (hR : 1 ≤ R.frames ∧ 36 ≤ R.locals) (hcap : ∀ pc' L' S' h', K pc' L' S' h' → h'.length - n0 ≤ R.cells ∧ axSl h' - s0 ≤ R.slots) (hd : decode cc pc = .ok (.aastore, len)) (ht : axTr o ini rt pc (.aastore) len = some ent) (h1 : axOne ro E ent L S h K Q) (hK : ∀ pc' L' S' h', K pc' L' S' h' → axWW p l e R s m args below meth c b rb ca D QQ nL n0 s0 pc' L' S' h') : axWW p l e R s m args below meth c b rb ca D QQ nL n0 s0 pc L S h := by
  obtain ⟨rfl, rfl⟩ := axI_ok ht
  obtain ⟨v, i, k0, S', n, f, fs, rfl, hc, hv, hin, hk⟩ := h1
  intro g1 g2 H locs ls hI hL
  refine va_astq F.1 F.2.1 F.2.2.2.2.2.1 hI.2.1 (axWs_D h) hI.2.2 k0 3 v 0 (axWs_at hc) (r := ("BeatSlugs$Board", axT0, 9)) rfl (axWs_at hv) rfl hin hd (fun H1 locs1 hP1 hD1 hS1 => ?_)
  refine axWW_set hn hc (x := .inr (.inl (n, va_up f i.toNatClampNeg (some v)))) rfl (hK _ _ _ _ hk) g1 g2 ?_ hS1 hL
  rw [axWs_set]
  have e1 : (fun j => (va_up f i.toNatClampNeg (some v) j).map (fun k => b + k)) = va_up (fun j => (f j).map (fun k => b + k)) i.toNatClampNeg (some (b + v)) := by
    funext j
    unfold va_up
    split <;> rfl
  show va_P D axCl ((axWs b rb ca b h).set k0 (b + k0, .inl (ca 3, n, .inr (.inr (.inr (.inr (fun j => (va_up f i.toNatClampNeg (some v) j).map (fun k => b + k)))))))) H1
  rw [e1]
  exact hP1
theorem sx_newarray (t : ArrayType) (F : axFx p s m args meth c b rb ca D ro cc nL o) (hn : s.heap.size = b + n0) (hini : ini = true → meth.name = "<init>") (hR : 1 ≤ R.frames ∧ 36 ≤ R.locals) (hcap : ∀ pc' L' S' h', K pc' L' S' h' → h'.length - n0 ≤ R.cells ∧ axSl h' - s0 ≤ R.slots) (hd : decode cc pc = .ok (.newarray t, len)) (ht : axTr o ini rt pc (.newarray t) len = some ent) (h1 : axOne ro E ent L S h K Q) (hK : ∀ pc' L' S' h', K pc' L' S' h' → axWW p l e R s m args below meth c b rb ca D QQ nL n0 s0 pc' L' S' h') : axWW p l e R s m args below meth c b rb ca D QQ nL n0 s0 pc L S h := by
  have key : ∀ (b_ : Nat) (ty : FieldType), newarray.typeOf t = ty → Cond.arrayClass (newarray.typeOf t) ∈ axTW → (axTys ca)[b_]? = some (ca b_, ty) → componentBytes ty ≤ 8 → defaultValue ty = .int 0 → axI 2 len (pc, 44, .null, b_, 0, [], pc + 2) = some ent → axWW p l e R s m args below meth c b rb ca D QQ nL n0 s0 pc L S h := by
    intro b_ ty hty hw htys hcb hdef hti
    obtain ⟨rfl, rfl⟩ := axI_ok hti
    obtain ⟨x, S', rfl, hx0, hxn, hk⟩ := h1
    intro g1 g2 H locs ls hI hL
    have hcp := hcap _ _ _ _ hk
    rw [axSl_app] at hcp
    have hcp : h.length + 1 - n0 ≤ R.cells ∧ axSl h + x.toNatClampNeg - s0 ≤ R.slots := by simpa [axCs] using hcp
    refine va_newa F.1 F.2.1 (F.2.2.2.2.1 _ hw) hty F.2.2.2.2.2.1 hI.2.1 (axWs_D h) hI.2.2 (fun q hq => by show b ≤ q; have := F.2.2.2.2.2.2.2; omega) (a0 := (x.toNatClampNeg, .inl (fun _ => 0))) (N' := x.toNatClampNeg) (fun cA => by rw [hdef]; rfl) hx0 rfl ?_ (by omega) (by omega) hd (fun q cA H1 hK1 hP1 hD1 hS1 => ?_)
    · calc x.toNatClampNeg * componentBytes ty ≤ 65536 * 8 := Nat.mul_le_mul hxn hcb
        _ ≤ 536870912 := by decide
    · have hcA : cA = ca b_ := by
        have z1 := (hK1.2 (axTys ca).length (cA, ty) (by simp)).2
        have z2 := (F.2.2.2.2.2.1.2 b_ (ca b_, ty) htys).2
        cases ty with
        | object C => cases hdef
        | _ => exact Option.some.inj (z1.symm.trans z2)
      subst hcA
      exact axWW_push hn (x := .inl (b_, x.toNatClampNeg, fun _ => 0)) (hK _ _ _ _ hk) g1 g2 rfl hP1 hD1 hS1 hL
  cases t with
  | int => exact key 0 .int rfl (axTW_mem axW_ari rfl) rfl (by decide) rfl ht
  | char => exact key 1 .char rfl (axTW_mem axW_arc rfl) rfl (by decide) rfl ht
  | _ => cases ht
theorem sx_anewarray (i : Nat) (F : axFx p s m args meth c b rb ca D ro cc nL o) (hn : s.heap.size = b + n0) (hini : ini = true → meth.name = "<init>") (hR : 1 ≤ R.frames ∧ 36 ≤ R.locals) (hcap : ∀ pc' L' S' h', K pc' L' S' h' → h'.length - n0 ≤ R.cells ∧ axSl h' - s0 ≤ R.slots) (hd : decode cc pc = .ok (.anewarray i, len)) (ht : axTr o ini rt pc (.anewarray i) len = some ent) (h1 : axOne ro E ent L S h K Q) (hK : ∀ pc' L' S' h', K pc' L' S' h' → axWW p l e R s m args below meth c b rb ca D QQ nL n0 s0 pc' L' S' h') : axWW p l e R s m args below meth c b rb ca D QQ nL n0 s0 pc L S h := by
  rcases hq0 : axFnd o i axClsT with _ | ⟨ci, w⟩
  · simp only [axTr, hq0] at ht
    cases ht
  · cases ci with
    | succ z => simp only [axTr, hq0] at ht; cases ht
    | zero =>
      simp only [axTr, hq0] at ht
      obtain ⟨rfl, rfl⟩ := axI_ok ht
      obtain ⟨x, S', rfl, hx0, hxn, hk⟩ := h1
      have f1 := axClsT_ok _ (axFnd_mem _ hq0)
      intro g1 g2 H locs ls hI hL
      have hcp := hcap _ _ _ _ hk
      rw [axSl_app] at hcp
      have hcp : h.length + 1 - n0 ≤ R.cells ∧ axSl h + x.toNatClampNeg - s0 ≤ R.slots := by simpa [axCs] using hcp
      refine va_newq (C := "BeatSlugs$Board") F.1 F.2.1 F.2.2.2.1 (F.2.2.2.2.1 _ (axTW_mem f1 rfl)) F.2.2.2.2.2.2.1.2.2.2.2 F.2.2.2.2.2.1 hI.2.1 (axWs_D h) hI.2.2 (fun q hq => by show b ≤ q; have := F.2.2.2.2.2.2.2; omega) (N' := x.toNatClampNeg) hx0 rfl (by omega) (by omega) (by omega) hd (fun q cA H1 hK1 hP1 hD1 hS1 => ?_)
      have hcA : cA = ca 3 := by
        obtain ⟨k1, c1, -, -, -, z1⟩ := (hK1.2 (axTys ca).length (cA, .object "BeatSlugs$Board") (by simp)).2
        obtain ⟨k2, c2, -, -, -, z2⟩ := (F.2.2.2.2.2.1.2 3 (ca 3, .object "BeatSlugs$Board") rfl).2
        exact Option.some.inj (z1.symm.trans z2)
      subst hcA
      exact axWW_push hn (x := .inr (.inl (x.toNatClampNeg, fun _ => none))) (hK _ _ _ _ hk) g1 g2 rfl hP1 hD1 hS1 hL
theorem sx_new (i : Nat) (F : axFx p s m args meth c b rb ca D ro cc nL o) (hn : s.heap.size = b + n0) (hini : ini = true → meth.name = "<init>") (hR : 1 ≤ R.frames ∧ 36 ≤ R.locals) (hcap : ∀ pc' L' S' h', K pc' L' S' h' → h'.length - n0 ≤ R.cells ∧ axSl h' - s0 ≤ R.slots) (hd : decode cc pc = .ok (.new i, len)) (ht : axTr o ini rt pc (.new i) len = some ent) (h1 : axOne ro E ent L S h K Q) (hK : ∀ pc' L' S' h', K pc' L' S' h' → axWW p l e R s m args below meth c b rb ca D QQ nL n0 s0 pc' L' S' h') : axWW p l e R s m args below meth c b rb ca D QQ nL n0 s0 pc L S h := by
  rcases hq0 : axFnd o i axClsT with _ | ⟨ci, w⟩
  · simp only [axTr, hq0] at ht
    cases ht
  · simp only [axTr, hq0] at ht
    cases hb6 : Nat.blt ci 5 with
    | false => rw [hb6] at ht; cases ht
    | true =>
      rw [hb6, cond_true] at ht
      have hlt : ci < 5 := Nat.le_of_ble_eq_true hb6
      obtain ⟨rfl, rfl⟩ := axI_ok ht
      have hk := h1
      have f1 := axClsT_ok _ (axFnd_mem _ hq0)
      intro g1 g2 H locs ls hI hL
      have hcp := hcap _ _ _ _ hk
      rw [axSl_app] at hcp
      have hcp : h.length + 1 - n0 ≤ R.cells ∧ axSl h + axNf ci - s0 ≤ R.slots := by rw [← axDfN ci hlt]; simpa [axCs] using hcp
      refine va_new (ci := ci) (C := axCn ci) (T := axT ci) (N := axNf ci) (fs := (axDf ci).map (axCv b rb)) F.1 F.2.1 F.2.2.2.2.1 (axLay ci hlt) (axTy ci) (axTyOk ci hlt) F.2.2.2.1 (F.2.2.2.2.1 _ (axTW_mem f1 rfl)) (F.2.2.2.2.1 _ (axInsOk ci hlt)) (F.2.2.2.2.1 _ (axIniOk ci hlt)) F.2.2.2.2.2.1 hI.2.1 (axWs_D h) hI.2.2 (fun q hq => by show b ≤ q; have := F.2.2.2.2.2.2.2; omega) (axClOk ci hlt) (fun j hj => by rw [axDf_cv]; exact axDfOk ci hlt j hj) (by omega) (by omega) hd (fun q H1 hP1 hD1 hS1 => ?_)
      exact axWW_push hn (x := .inr (.inr (ci, axDf ci))) (hK _ _ _ _ hk) g1 g2 (axDfN ci hlt).symm hP1 hD1 hS1 hL
theorem sx_idiv (F : axFx p s m args meth c b rb ca D ro cc nL o) (hn : s.heap.size = b + n0) (hini : ini = true → meth.name = "<init>") (hR : 1 ≤ R.frames ∧ 36 ≤ R.locals) (hcap : ∀ pc' L' S' h', K pc' L' S' h' → h'.length - n0 ≤ R.cells ∧ axSl h' - s0 ≤ R.slots) (hd : decode cc pc = .ok (.idiv, len)) (ht : axTr o ini rt pc (.idiv) len = some ent) (h1 : axOne ro E ent L S h K Q) (hK : ∀ pc' L' S' h', K pc' L' S' h' → axWW p l e R s m args below meth c b rb ca D QQ nL n0 s0 pc' L' S' h') : axWW p l e R s m args below meth c b rb ca D QQ nL n0 s0 pc L S h := by
  obtain ⟨rfl, rfl⟩ := axI_ok ht
  obtain ⟨x, y, S', rfl, hy, hk⟩ := h1
  intro g1 g2 H locs ls hI hL
  exact lv_idiv F.1 F.2.1 hd hy (hK _ _ _ _ hk g1 g2 H locs ls hI hL)
theorem sx_irem (F : axFx p s m args meth c b rb ca D ro cc nL o) (hn : s.heap.size = b + n0) (hini : ini = true → meth.name = "<init>") (hR : 1 ≤ R.frames ∧ 36 ≤ R.locals) (hcap : ∀ pc' L' S' h', K pc' L' S' h' → h'.length - n0 ≤ R.cells ∧ axSl h' - s0 ≤ R.slots) (hd : decode cc pc = .ok (.irem, len)) (ht : axTr o ini rt pc (.irem) len = some ent) (h1 : axOne ro E ent L S h K Q) (hK : ∀ pc' L' S' h', K pc' L' S' h' → axWW p l e R s m args below meth c b rb ca D QQ nL n0 s0 pc' L' S' h') : axWW p l e R s m args below meth c b rb ca D QQ nL n0 s0 pc L S h := by
  obtain ⟨rfl, rfl⟩ := axI_ok ht
  obtain ⟨x, y, S', rfl, hy, hk⟩ := h1
  intro g1 g2 H locs ls hI hL
  exact lv_irem F.1 F.2.1 hd hy (hK _ _ _ _ hk g1 g2 H locs ls hI hL)
end AX8
end
section
/-! SOUNDNESS 3: switches, calls, the whole body, the contracts. Written by wip/whole/mk09.py. -/
theorem axToInt {n : Int} (h0 : -1000 ≤ n) (h1 : n ≤ 1001) : (Int32.ofInt n).toInt = n := Int32.toInt_ofInt_of_le (by omega) (by omega)
theorem axSwT_out {pc d : Nat} : ∀ (offs : List Int) (lo : Int) (x : Int32), 0 ≤ lo → lo + offs.length ≤ 1001 → (x.toInt < lo ∨ lo + offs.length ≤ x.toInt) → axSw (axSwT pc lo offs) d x = d
  | [], lo, x, _, _, _ => rfl
  | o :: r, lo, x, h0, h1, h2 => by
    rw [List.length_cons] at h1 h2
    have hne : ¬ x = Int32.ofInt lo := by
      intro e
      have : x.toInt = lo := by rw [e]; exact axToInt (by omega) (by omega)
      omega
    show (if x = Int32.ofInt lo then _ else axSw (axSwT pc (lo + 1) r) d x) = d
    rw [if_neg hne]
    exact axSwT_out r (lo + 1) x (by omega) (by omega) (by omega)
theorem axSwT_in {pc d : Nat} : ∀ (offs : List Int) (lo : Int) (x : Int32) (i : Nat) (o : Int), 0 ≤ lo → lo + offs.length ≤ 1001 → offs[i]? = some o → x.toInt = lo + i → axSw (axSwT pc lo offs) d x = ((pc : Int) + o).toNat
  | [], lo, x, i, o, _, _, h, _ => by simp at h
  | o' :: r, lo, x, 0, o, h0, h1, h2, h3 => by
    rw [List.length_cons] at h1
    have e : x = Int32.ofInt lo := Int32.toInt_inj.mp (by rw [h3, axToInt (by omega) (by omega)]; simp)
    show (if x = Int32.ofInt lo then ((pc : Int) + o').toNat else _) = _
    rw [if_pos e]
    simp only [List.getElem?_cons_zero, Option.some.injEq] at h2
    rw [h2]
  | o' :: r, lo, x, i + 1, o, h0, h1, h2, h3 => by
    rw [List.length_cons] at h1
    rw [List.getElem?_cons_succ] at h2
    have hne : ¬ x = Int32.ofInt lo := by
      intro e
      have : x.toInt = lo := by rw [e]; exact axToInt (by omega) (by omega)
      omega
    show (if x = Int32.ofInt lo then _ else axSw (axSwT pc (lo + 1) r) d x) = _
    rw [if_neg hne]
    exact axSwT_in r (lo + 1) x i o (by omega) (by omega) h2 (by omega)
theorem axSwL_ok {pc : Nat} {d : Int} (hd : 0 ≤ (pc : Int) + d) : ∀ (ps : List (Int × Int)) (x : Int32), (ps.all fun o => decide (0 ≤ (pc : Int) + o.2 ∧ -1000 < o.1 ∧ o.1 < 1000)) = true → 0 ≤ (pc : Int) + Op.lookupswitch.offset ps d x.toInt ∧ axSw (axSwL pc ps) ((pc : Int) + d).toNat x = ((pc : Int) + Op.lookupswitch.offset ps d x.toInt).toNat
  | [], x, _ => ⟨hd, rfl⟩
  | (a, o) :: r, x, h => by
    rw [List.all_cons, Bool.and_eq_true, decide_eq_true_eq] at h
    have ih := axSwL_ok hd r x h.2
    rw [Op.lookupswitch.offset_cons]
    have ht : (Int32.ofInt a).toInt = a := axToInt (by omega) (by omega)
    by_cases e : x = Int32.ofInt a
    · have e1 : a = x.toInt := by rw [e, ht]
      rw [if_pos e1]
      refine ⟨h.1.1, ?_⟩
      show (if x = Int32.ofInt a then _ else _) = _
      rw [if_pos e]
    · have e1 : ¬ a = x.toInt := fun q => e (Int32.toInt_inj.mp (by rw [ht, q]))
      rw [if_neg e1]
      refine ⟨ih.1, ?_⟩
      show (if x = Int32.ofInt a then _ else axSw (axSwL pc r) _ x) = _
      rw [if_neg e]
      exact ih.2
/-- what is known of the calls: the heap grows, and the contract of the method holds -/
def axHE (E : axCall) (l : Launch) (dd : Nat) (b : Nat) (rb : Nat → Nat) (ca : Nat → ClassId) (D : va_G) (ro : axRo) : Prop := ∀ z vs h r h1, E z vs h r h1 → (h.length ≤ h1.length ∧ axSl h ≤ axSl h1) ∧ ∀ M, axMs[z]? = some M → Met l M.1 (axWM M) (axRm dd (h1.length - h.length) (axSl h1 - axSl h)) (axPc b rb ca D ro vs h) (axQc b rb ca D ro r h1) (h1.length - h.length) (axSl h1 - axSl h) (fun q : Nat => b ≤ q)
theorem axGI {M : axM} (hM : axGood M) {ws : List Cond} (h : ∀ w ∈ ws, w ∈ lw_tbl ∧ goodWord w = true) : GoodIn axTW (ws ++ axWM M) := by
  intro w hw
  rcases List.mem_append.mp hw with q | q
  · exact goodIn_one (big := []) (h w q).1 (h w q).2
  · exact axWM_good hM w q
section AX9
variable {p : Program} {l : Launch} {e : Env} {R : Room} {s : State} {m : MethodId} {args : Array Value} {below : List Frame} {meth : Method} {c : Code} {b : Nat} {rb : Nat → Nat} {ca : Nat → ClassId} {D : va_G} {ro : axRo} {QQ : State → Prop} {cc : ByteArray} {nL n0 s0 o : Nat} {pc : Nat} {L : axL} {S : List Value} {h : axH} {K : Nat → axL → List Value → axH → Prop} {Q : Option Value → axH → Prop} {E : axCall} {ent : axE} {ini : Bool} {rt len dd : Nat}
theorem axW_call {h2 : axH} {r : Option Value} {rest st0 : List Value} {a : Array Value} {H : Heap} {locs : List Loc} {ls : Array Slot} (hs : b ≤ s.heap.size) (l1 : h.length ≤ h2.length) (l2 : axSl h ≤ axSl h2) (g1 : n0 ≤ h.length) (g2 : s0 ≤ axSl h) (hS : va_S (fun q : Nat => b ≤ q) s.heap H locs) (hL : axLr b rb L ls nL)
    (hr : va_Run p l e R s m args below meth c H locs (h.length - n0) (axSl h - s0) (h2.length - h.length) (axSl h2 - axSl h) (F0 m pc ls st0) (rest.map (axCv b rb)) (axQc b rb ca D ro r h2 a) (fun q : Nat => b ≤ q))
    (hW : axWW p l e R s m args below meth c b rb ca D QQ nL n0 s0 (pc + 3) L (r.toList ++ rest) h2) : W p l e R s m args below meth c H locs (h.length - n0) (axSl h - s0) QQ (F0 m pc ls st0) := by
  intro T hT X
  obtain ⟨v, st₀, t, T', Lc, h0, X', hLc, e1, e2, ⟨hv, hRep, hF⟩, st⟩ := hr T hT X
  cases hv
  obtain ⟨f1, f2⟩ := hF
  rw [h0] at f1 f2
  obtain ⟨r1, r2, -, -⟩ := hRep
  have hS' : va_S (fun q : Nat => b ≤ q) s.heap T'.heap (locs ++ Lc) := by
    refine ⟨by rw [e1]; exact Nat.le_trans hS.1 f1, fun q q1 q2 => ?_, fun q hq => ?_⟩
    · rw [e1, f2 q (Nat.lt_of_lt_of_le q1 hS.1) q2]
      exact hS.2.1 q q1 q2
    · rcases List.mem_append.mp hq with z | z
      · exact hS.2.2 q z
      · exact hLc q z
  have hw := hW (by omega) (by omega) T'.heap (locs ++ Lc) ls ⟨by rw [e1]; exact r1, by rw [e1]; exact r2, hS'⟩ hL
  have e3 : (r.toList ++ rest).map (axCv b rb) = (r.map (axCv b rb)).toList ++ rest.map (axCv b rb) := by cases r <;> rfl
  rw [e3, show h2.length - n0 = h.length - n0 + (h2.length - h.length) by omega, show axSl h2 - s0 = axSl h - s0 + (axSl h2 - axSl h) by omega] at hw
  obtain ⟨t2, a1, b1⟩ := hw T' rfl X'
  exact ⟨t2, st t2 a1, b1⟩
theorem axBlind {vs : List Value} : FrameBlind (axPc b rb ca D ro vs h) := fun a U g mk q => ⟨q.1, axRep_calling g mk a q.2⟩

theorem sx_tableswitch (d lo hi : Int) (offs : Array Int) (F : axFx p s m args meth c b rb ca D ro cc nL o) (hn : s.heap.size = b + n0) (hE : axHE E l dd b rb ca D ro) (hR : dd + 1 ≤ R.frames ∧ 36 * (dd + 1) ≤ R.locals) (hcap : ∀ pc' L' S' h', K pc' L' S' h' → h'.length - n0 ≤ R.cells ∧ axSl h' - s0 ≤ R.slots) (hd : decode cc pc = .ok (.tableswitch d lo hi offs, len)) (ht : axTr o ini rt pc (.tableswitch d lo hi offs) len = some ent) (h1 : axOne ro E ent L S h K Q) (hK : ∀ pc' L' S' h', K pc' L' S' h' → axWW p l e R s m args below meth c b rb ca D QQ nL n0 s0 pc' L' S' h') : axWW p l e R s m args below meth c b rb ca D QQ nL n0 s0 pc L S h := by
  simp only [axTr] at ht
  split at ht
  · rename_i hq
    obtain ⟨q1, q2, q3, q4, q5⟩ := hq
    have ht := (Option.some.inj ht).symm
    subst ht
    obtain ⟨x, S', rfl, hk⟩ := h1
    have hlen : offs.toList.length = offs.size := Array.length_toList
    intro g1 g2 H locs ls hI hL
    by_cases hx : x.toInt < lo ∨ hi < x.toInt
    · rw [axSwT_out offs.toList lo x q1 (by omega) (by omega)] at hk
      exact lv_tableOut F.1 F.2.1 hd hx (Int.toNat_of_nonneg q4).symm (hK _ _ _ _ hk g1 g2 H locs ls hI hL)
    · have hi' : (x.toInt - lo).toNat < offs.size := by omega
      have ho : offs[(x.toInt - lo).toNat]? = some offs[(x.toInt - lo).toNat] := Array.getElem?_eq_getElem hi'
      have ho' : offs.toList[(x.toInt - lo).toNat]? = some offs[(x.toInt - lo).toNat] := by rw [Array.getElem?_toList]; exact ho
      rw [axSwT_in offs.toList lo x _ _ q1 (by omega) ho' (by omega)] at hk
      have hz := List.all_eq_true.mp q5 _ (List.mem_of_getElem? ho')
      rw [decide_eq_true_eq] at hz
      exact lv_tableIn F.1 F.2.1 hd (by omega) (by omega) ho (Int.toNat_of_nonneg hz).symm (hK _ _ _ _ hk g1 g2 H locs ls hI hL)
  · cases ht
theorem sx_lookupswitch (d : Int) (ps : Array (Int × Int)) (F : axFx p s m args meth c b rb ca D ro cc nL o) (hn : s.heap.size = b + n0) (hE : axHE E l dd b rb ca D ro) (hR : dd + 1 ≤ R.frames ∧ 36 * (dd + 1) ≤ R.locals) (hcap : ∀ pc' L' S' h', K pc' L' S' h' → h'.length - n0 ≤ R.cells ∧ axSl h' - s0 ≤ R.slots) (hd : decode cc pc = .ok (.lookupswitch d ps, len)) (ht : axTr o ini rt pc (.lookupswitch d ps) len = some ent) (h1 : axOne ro E ent L S h K Q) (hK : ∀ pc' L' S' h', K pc' L' S' h' → axWW p l e R s m args below meth c b rb ca D QQ nL n0 s0 pc' L' S' h') : axWW p l e R s m args below meth c b rb ca D QQ nL n0 s0 pc L S h := by
  simp only [axTr] at ht
  split at ht
  · rename_i hq
    obtain ⟨q1, q2, q3⟩ := hq
    have ht := (Option.some.inj ht).symm
    subst ht
    obtain ⟨x, S', rfl, hk⟩ := h1
    obtain ⟨z1, z2⟩ := axSwL_ok q2 ps.toList x q3
    rw [z2] at hk
    intro g1 g2 H locs ls hI hL
    exact lv_lookup F.1 F.2.1 hd q1 rfl (Int.toNat_of_nonneg z1).symm (hK _ _ _ _ hk g1 g2 H locs ls hI hL)
  · cases ht
theorem sx_invokevirtual (i : Nat) (F : axFx p s m args meth c b rb ca D ro cc nL o) (hn : s.heap.size = b + n0) (hE : axHE E l dd b rb ca D ro) (hR : dd + 1 ≤ R.frames ∧ 36 * (dd + 1) ≤ R.locals) (hcap : ∀ pc' L' S' h', K pc' L' S' h' → h'.length - n0 ≤ R.cells ∧ axSl h' - s0 ≤ R.slots) (hd : decode cc pc = .ok (.invokevirtual i, len)) (ht : axTr o ini rt pc (.invokevirtual i) len = some ent) (h1 : axOne ro E ent L S h K Q) (hK : ∀ pc' L' S' h', K pc' L' S' h' → axWW p l e R s m args below meth c b rb ca D QQ nL n0 s0 pc' L' S' h') : axWW p l e R s m args below meth c b rb ca D QQ nL n0 s0 pc L S h := by
  rcases hq0 : axFnd o i axMlT with _ | ⟨kind, z, n, ci, w⟩
  · simp only [axTr, hq0] at ht
    cases ht
  · cases kind with
    | succ k => simp only [axTr, hq0] at ht; cases ht
    | zero =>
      simp only [axTr, hq0] at ht
      obtain ⟨rfl, rfl⟩ := axI_ok ht
      obtain ⟨ci', As, k0, rest, fs, r, h2, ea, rfl, hAs, hsum, hc, hEv, hk⟩ := h1
      cases ea
      obtain ⟨M, hM, w1, w2, w3, hcls, hpn, hci⟩ := axMlT_ok _ (axFnd_mem _ hq0)
      obtain ⟨⟨l1, l2⟩, hMet⟩ := hE _ _ _ _ _ hEv
      have hMM := hMet M hM
      have hG := axMs_ok M (List.mem_of_getElem? hM)
      have hG' := hG
      obtain ⟨-, G2, -, G4, -, G6, -, -⟩ := hG'
      have hcp := hcap _ _ _ _ hk
      
      intro g1 g2 H locs ls hI hL
      refine axW_call (r := r) (h2 := h2) (rest := rest) (ca := ca) (ro := ro) (D := D) F.2.2.2.2.2.2.2 l1 l2 g1 g2 hI.2.2 hL (va_runV (As := As.map (axCv b rb)) (C := M.1.cls) (b := b + k0) ⟨F.1, F.2.1, F.2.2.1, F.2.2.2.1, F.2.2.2.2.1⟩ hMM (cwV n F.2.2.2.2.1 (axGI hG ?_) rfl rfl rfl ⟨rfl, G6.1, G6.2, hpn⟩ ⟨by show dd + 1 ≤ R.frames; exact hR.1, by show 8 + (M.2.2.1 + 11) + 36 * dd ≤ R.locals; omega⟩) ⟨axBlind, ?_, fun U hU hW => ⟨rfl, axRep_at hW hU F.2.2.2.2.2.1 F.2.2.2.2.2.2.2 F.2.2.2.2.2.2.1 hI⟩⟩ rfl (by rw [List.length_map]; exact hAs) hL.2.1 (by simp [List.map_reverse, axCv]) (by show 2 * 0 + _ ≤ 8; rw [axCv_sum]; omega) hd ⟨by omega, by omega⟩) (hK _ _ _ _ hk)
      · intro w hw
        simp only [List.mem_cons, List.not_mem_nil, or_false] at hw
        rcases hw with rfl | rfl | rfl | rfl
        · exact ⟨w1, rfl⟩
        · exact ⟨w2, rfl⟩
        · exact ⟨w3, rfl⟩
        · exact ⟨G2, rfl⟩
      · have hz := va_recv F.2.2.2.2.2.1 hI.2.1 (axClOk ci hci) (axWs_at hc)
        rw [hcls]
        exact hz
theorem sx_invokestatic (i : Nat) (F : axFx p s m args meth c b rb ca D ro cc nL o) (hn : s.heap.size = b + n0) (hE : axHE E l dd b rb ca D ro) (hR : dd + 1 ≤ R.frames ∧ 36 * (dd + 1) ≤ R.locals) (hcap : ∀ pc' L' S' h', K pc' L' S' h' → h'.length - n0 ≤ R.cells ∧ axSl h' - s0 ≤ R.slots) (hd : decode cc pc = .ok (.invokestatic i, len)) (ht : axTr o ini rt pc (.invokestatic i) len = some ent) (h1 : axOne ro E ent L S h K Q) (hK : ∀ pc' L' S' h', K pc' L' S' h' → axWW p l e R s m args below meth c b rb ca D QQ nL n0 s0 pc' L' S' h') : axWW p l e R s m args below meth c b rb ca D QQ nL n0 s0 pc L S h := by
  rcases hq0 : axFnd o i axMlT with _ | ⟨kind, z, n, ci, w⟩
  · simp only [axTr, hq0] at ht
    cases ht
  · match kind, hq0 with
    | 1, hq0 =>
      simp only [axTr, hq0] at ht
      obtain ⟨rfl, rfl⟩ := axI_ok ht
      obtain ⟨As, rest, r, h2, rfl, hAs, hsum, hEv, hk⟩ := h1
      obtain ⟨M, hM, w1, w2, hcls, hpn⟩ := axMlT_ok _ (axFnd_mem _ hq0)
      obtain ⟨⟨l1, l2⟩, hMet⟩ := hE _ _ _ _ _ hEv
      have hMM := hMet M hM
      have hG := axMs_ok M (List.mem_of_getElem? hM)
      have hG' := hG
      obtain ⟨-, G2, -, G4, -, G6, -, -⟩ := hG'
      have hcp := hcap _ _ _ _ hk
      intro g1 g2 H locs ls hI hL
      refine axW_call (r := r) (h2 := h2) (rest := rest) (ca := ca) (ro := ro) (D := D) F.2.2.2.2.2.2.2 l1 l2 g1 g2 hI.2.2 hL (va_runS (As := As.map (axCv b rb)) ⟨F.1, F.2.1, F.2.2.1, F.2.2.2.1, F.2.2.2.2.1⟩ hMM (va_cwS n F.2.2.2.2.1 (axGI hG ?_) rfl rfl rfl ⟨G6.1, G6.2, hpn⟩ ⟨by show dd + 1 ≤ R.frames; exact hR.1, by show 8 + (M.2.2.1 + 11) + 36 * dd ≤ R.locals; omega⟩) ⟨axBlind, fun U hU hW => ⟨rfl, axRep_at hW hU F.2.2.2.2.2.1 F.2.2.2.2.2.2.2 F.2.2.2.2.2.2.1 hI⟩⟩ rfl (by rw [List.length_map]; exact hAs) hL.2.1 (by simp [List.map_reverse, axCv]) (by show 2 * 0 + _ ≤ 8; rw [axCv_sum]; omega) hd ⟨by omega, by omega⟩) (hK _ _ _ _ hk)
      intro w hw
      simp only [List.mem_cons, List.not_mem_nil, or_false] at hw
      rcases hw with rfl | rfl | rfl
      · exact ⟨w1, rfl⟩
      · exact ⟨w2, rfl⟩
      · exact ⟨G2, rfl⟩
    | 2, hq0 =>
      simp only [axTr, hq0] at ht
      obtain ⟨rfl, rfl⟩ := axI_ok ht
      obtain ⟨As, rest, r, h2, rfl, hAs, hsum, hEv, hk⟩ := h1
      obtain ⟨M, hM, w1, w2, hpn⟩ := axMlT_ok _ (axFnd_mem _ hq0)
      obtain ⟨⟨l1, l2⟩, hMet⟩ := hE _ _ _ _ _ hEv
      have hMM := hMet M hM
      have hG := axMs_ok M (List.mem_of_getElem? hM)
      have hG' := hG
      obtain ⟨-, G2, -, G4, -, G6, -, -⟩ := hG'
      have hcp := hcap _ _ _ _ hk
      have hnw := F.2.2.2.2.2.2.1.2.2.2.1 _ w1 rfl
      intro g1 g2 H locs ls hI hL
      exact axW_call (r := r) (h2 := h2) (rest := rest) (ca := ca) (ro := ro) (D := D) F.2.2.2.2.2.2.2 l1 l2 g1 g2 hI.2.2 hL (va_runSN (As := As.map (axCv b rb)) ⟨F.1, F.2.1, F.2.2.1, F.2.2.2.1, F.2.2.2.2.1⟩ hMM ⟨va_cnB n F.2.2.2.2.1 (axWM_good hG) rfl rfl rfl hnw (F.2.2.2.2.1 _ (axTW_mem G2 rfl)) ⟨G6.1, G6.2, hpn⟩ ⟨by show dd + 1 ≤ R.frames; exact hR.1, by show 8 + (M.2.2.1 + 11) + 36 * dd ≤ R.locals; omega⟩, F.2.2.2.2.1 _ (axTW_mem w2 rfl), trivial⟩ ⟨axBlind, fun U hU hW => ⟨rfl, axRep_at hW hU F.2.2.2.2.2.1 F.2.2.2.2.2.2.2 F.2.2.2.2.2.2.1 hI⟩⟩ rfl (by rw [List.length_map]; exact hAs) hL.2.1 (by simp [List.map_reverse, axCv]) (by show 2 * 0 + _ ≤ 8; rw [axCv_sum]; omega) hd ⟨by omega, by omega⟩) (hK _ _ _ _ hk)
    | 3, hq0 =>
      simp only [axTr, hq0] at ht
      obtain ⟨rfl, rfl⟩ := axI_ok ht
      obtain ⟨As, rest, r, h2, rfl, hAs, hsum, hEv, hk⟩ := h1
      obtain ⟨M, hM, w1, w2, hpn⟩ := axMlT_ok _ (axFnd_mem _ hq0)
      obtain ⟨⟨l1, l2⟩, hMet⟩ := hE _ _ _ _ _ hEv
      have hMM := hMet M hM
      have hG := axMs_ok M (List.mem_of_getElem? hM)
      have hG' := hG
      obtain ⟨-, G2, -, G4, -, G6, -, -⟩ := hG'
      have hcp := hcap _ _ _ _ hk
      intro g1 g2 H locs ls hI hL
      refine axW_call (r := r) (h2 := h2) (rest := rest) (ca := ca) (ro := ro) (D := D) F.2.2.2.2.2.2.2 l1 l2 g1 g2 hI.2.2 hL (va_runS (As := As.map (axCv b rb)) ⟨F.1, F.2.1, F.2.2.1, F.2.2.2.1, F.2.2.2.2.1⟩ hMM (va_cwS n F.2.2.2.2.1 (axGI hG ?_) rfl rfl rfl ⟨G6.1, G6.2, hpn⟩ ⟨by show dd + 1 ≤ R.frames; exact hR.1, by show 8 + (M.2.2.1 + 11) + 36 * dd ≤ R.locals; omega⟩) ⟨axBlind, fun U hU hW => ⟨rfl, axRep_at hW hU F.2.2.2.2.2.1 F.2.2.2.2.2.2.2 F.2.2.2.2.2.2.1 hI⟩⟩ rfl (by rw [List.length_map]; exact hAs) hL.2.1 (by simp [List.map_reverse, axCv]) (by show 2 * 0 + _ ≤ 8; rw [axCv_sum]; omega) hd ⟨by omega, by omega⟩) (hK _ _ _ _ hk)
      intro w hw
      simp only [List.mem_cons, List.not_mem_nil, or_false] at hw
      rcases hw with rfl | rfl | rfl
      · exact ⟨w1, rfl⟩
      · exact ⟨w2, rfl⟩
      · exact ⟨G2, rfl⟩
    | 4, hq0 =>
      simp only [axTr, hq0] at ht
      obtain ⟨rfl, rfl⟩ := axI_ok ht
      have w1 := axMlT_ok _ (axFnd_mem _ hq0)
      obtain ⟨n, dp, k1, sp, k0, rest, n0', n1, f, g, rfl, hc0, hc1, q1, q2, q3, q4, q5, hsum, hk⟩ := h1
      intro g1 g2 H locs ls hI hL
      refine va_copyi F.1 F.2.1 (F.2.2.1.trans hL.2.1.symm) F.2.2.2.1 (F.2.2.2.2.1 _ (axTW_mem w1 rfl)) (F.2.2.2.2.1 _ (axTW_mem axW_native rfl)) (F.2.2.2.2.1 _ (axTW_mem axW_statac rfl)) (F.2.2.2.2.1 _ (axTW_mem axW_sys rfl)) F.2.2.2.2.2.1 hI.2.1 (axWs_D h) hI.2.2 k0 k1 0 0 (axWs_at hc0) (axWs_at hc1) rfl rfl rfl q1 q2 q3 q4 q5 (fun _ _ => rfl) (by omega) (by rw [axCv_sum, show nativeFrameWords "java/lang/System" "arraycopy" 5 = 7 by decide +kernel]; omega) hd (fun H1 locs1 hP1 hD1 hS1 => ?_)
      refine axWW_set hn hc1 (x := .inl (0, n1, va_cpy f g sp.toNatClampNeg dp.toNatClampNeg n.toNatClampNeg)) rfl (hK _ _ _ _ hk) g1 g2 ?_ hS1 hL
      rw [axWs_set]
      exact hP1
    | 5, hq0 =>
      simp only [axTr, hq0] at ht
      obtain ⟨rfl, rfl⟩ := axI_ok ht
      have w1 := axMlT_ok _ (axFnd_mem _ hq0)
      obtain ⟨x, y, S', rfl, hsum, hk⟩ := h1
      have hcz := hcap _ _ _ _ hk
      intro g1 g2 H locs ls hI hL
      exact va_mmax F.1 F.2.1 (F.2.2.1.trans hL.2.1.symm) F.2.2.2.1 (F.2.2.2.2.1 _ (axTW_mem w1 rfl)) (F.2.2.2.2.1 _ (axTW_mem axW_stmax rfl)) (F.2.2.2.2.1 _ (axTW_mem axW_math rfl)) (F.2.2.2.2.1 _ (axTW_mem axW_cdmax rfl)) (by omega) (by rw [axCv_sum]; omega) hcz.1 hcz.2 hd (hK _ _ _ _ hk g1 g2 H locs ls hI hL)
    | 6, hq0 =>
      simp only [axTr, hq0] at ht
      obtain ⟨rfl, rfl⟩ := axI_ok ht
      have w1 := axMlT_ok _ (axFnd_mem _ hq0)
      obtain ⟨x, y, S', rfl, hsum, hk⟩ := h1
      have hcz := hcap _ _ _ _ hk
      intro g1 g2 H locs ls hI hL
      exact va_mmin F.1 F.2.1 (F.2.2.1.trans hL.2.1.symm) F.2.2.2.1 (F.2.2.2.2.1 _ (axTW_mem w1 rfl)) (F.2.2.2.2.1 _ (axTW_mem axW_stmin rfl)) (F.2.2.2.2.1 _ (axTW_mem axW_math rfl)) (F.2.2.2.2.1 _ (axTW_mem axW_cdmin rfl)) (by omega) (by rw [axCv_sum]; omega) hcz.1 hcz.2 hd (hK _ _ _ _ hk g1 g2 H locs ls hI hL)
    | 7, hq0 =>
      simp only [axTr, hq0] at ht
      obtain ⟨rfl, rfl⟩ := axI_ok ht
      have w1 := axMlT_ok _ (axFnd_mem _ hq0)
      obtain ⟨x, S', rfl, hsum, hk⟩ := h1
      have hcz := hcap _ _ _ _ hk
      intro g1 g2 H locs ls hI hL
      exact va_mabs F.1 F.2.1 (F.2.2.1.trans hL.2.1.symm) F.2.2.2.1 (F.2.2.2.2.1 _ (axTW_mem w1 rfl)) (F.2.2.2.2.1 _ (axTW_mem axW_stabs rfl)) (F.2.2.2.2.1 _ (axTW_mem axW_math rfl)) (F.2.2.2.2.1 _ (axTW_mem axW_cdabs rfl)) (by omega) (by rw [axCv_sum]; omega) hcz.1 hcz.2 hd (hK _ _ _ _ hk g1 g2 H locs ls hI hL)
    | 0, hq0 => simp only [axTr, hq0] at ht; cases ht
    | k + 8, hq0 => simp only [axTr, hq0] at ht; cases ht
theorem sx_invokespecial (i : Nat) (F : axFx p s m args meth c b rb ca D ro cc nL o) (hn : s.heap.size = b + n0) (hE : axHE E l dd b rb ca D ro) (hR : dd + 1 ≤ R.frames ∧ 36 * (dd + 1) ≤ R.locals) (hcap : ∀ pc' L' S' h', K pc' L' S' h' → h'.length - n0 ≤ R.cells ∧ axSl h' - s0 ≤ R.slots) (hd : decode cc pc = .ok (.invokespecial i, len)) (ht : axTr o ini rt pc (.invokespecial i) len = some ent) (h1 : axOne ro E ent L S h K Q) (hK : ∀ pc' L' S' h', K pc' L' S' h' → axWW p l e R s m args below meth c b rb ca D QQ nL n0 s0 pc' L' S' h') : axWW p l e R s m args below meth c b rb ca D QQ nL n0 s0 pc L S h := by
  rcases hq0 : axFnd o i axMlT with _ | ⟨kind, z, n, ci, w⟩
  · simp only [axTr, hq0] at ht
    cases ht
  · match kind, hq0 with
    | 8, hq0 =>
      simp only [axTr, hq0] at ht
      obtain ⟨rfl, rfl⟩ := axI_ok ht
      obtain ⟨As, k0, rest, r, h2, rfl, hAs, hsum, hEv, hk⟩ := h1
      obtain ⟨M, hM, w1, w2, hnm, hpn, hret⟩ := axMlT_ok _ (axFnd_mem _ hq0)
      obtain ⟨⟨l1, l2⟩, hMet⟩ := hE _ _ _ _ _ hEv
      have hMM := hMet M hM
      have hG := axMs_ok M (List.mem_of_getElem? hM)
      have hG' := hG
      obtain ⟨-, G2, -, G4, -, G6, -, -⟩ := hG'
      have hcp := hcap _ _ _ _ hk
      
      intro g1 g2 H locs ls hI hL
      exact axW_call (r := r) (h2 := h2) (rest := rest) (ca := ca) (ro := ro) (D := D) F.2.2.2.2.2.2.2 l1 l2 g1 g2 hI.2.2 hL (va_runI (As := As.map (axCv b rb)) (b := b + k0) ⟨F.1, F.2.1, F.2.2.1, F.2.2.2.1, F.2.2.2.2.1⟩ hMM (cwI n F.2.2.2.2.1 (axWM_good hG) (by unfold axWM; rw [hret]) rfl rfl (F.2.2.2.2.1 _ (axTW_mem G2 rfl)) (F.2.2.2.2.1 _ (axTW_mem w1 rfl)) (F.2.2.2.2.1 _ (axTW_mem w2 rfl)) hnm ⟨G6.1, G6.2, hpn⟩ ⟨by show dd + 1 ≤ R.frames; exact hR.1, by show 8 + (M.2.2.1 + 11) + 36 * dd ≤ R.locals; omega⟩) ⟨axBlind, fun U hU hW => ⟨rfl, axRep_at hW hU F.2.2.2.2.2.1 F.2.2.2.2.2.2.2 F.2.2.2.2.2.2.1 hI⟩⟩ rfl (by rw [List.length_map]; exact hAs) hL.2.1 (by simp [List.map_reverse, axCv]) (by show 2 * 0 + _ ≤ 8; rw [axCv_sum]; omega) hd ⟨by omega, by omega⟩) (hK _ _ _ _ hk)
    | 9, hq0 =>
      simp only [axTr, hq0] at ht
      obtain ⟨rfl, rfl⟩ := axI_ok ht
      obtain ⟨k0, rest, rfl, hsum, hk⟩ := h1
      have w1 := axMlT_ok _ (axFnd_mem _ hq0)
      intro g1 g2 H locs ls hI hL
      exact W.objInit F.1 F.2.1 F.2.2.2.1 (F.2.2.2.2.1 _ (axTW_mem w1 rfl)) (F.2.2.2.2.1 _ (axTW_mem axW_obj rfl)) (F.2.2.2.2.1 _ (axTW_mem axW_objc rfl)) rfl (hL.2.1.trans F.2.2.1.symm) rfl hd (by omega) (by show 2 * 0 + _ + 12 ≤ _; rw [axCv_sum]; omega) (hK _ _ _ _ hk g1 g2 H locs ls hI hL)
    | 0, hq0 => simp only [axTr, hq0] at ht; cases ht
    | 1, hq0 => simp only [axTr, hq0] at ht; cases ht
    | 2, hq0 => simp only [axTr, hq0] at ht; cases ht
    | 3, hq0 => simp only [axTr, hq0] at ht; cases ht
    | 4, hq0 => simp only [axTr, hq0] at ht; cases ht
    | 5, hq0 => simp only [axTr, hq0] at ht; cases ht
    | 6, hq0 => simp only [axTr, hq0] at ht; cases ht
    | 7, hq0 => simp only [axTr, hq0] at ht; cases ht
    | k + 10, hq0 => simp only [axTr, hq0] at ht; cases ht
end AX9
end
section
/-! SOUNDNESS 4: the whole body, and the contracts by the depth of the calls. Written by wip/whole/mk10.py. -/
section AX10
variable {p : Program} {l : Launch} {e : Env} {R : Room} {s : State} {m : MethodId} {args : Array Value} {below : List Frame} {meth : Method} {c : Code} {b : Nat} {rb : Nat → Nat} {ca : Nat → ClassId} {D : va_G} {ro : axRo} {QQ : State → Prop} {cc : ByteArray} {nL n0 s0 o : Nat} {pc : Nat} {L : axL} {S : List Value} {h : axH} {K : Nat → axL → List Value → axH → Prop} {Q : Option Value → axH → Prop} {E : axCall} {ent : axE} {ini : Bool} {rt len dd : Nat} {cd : List axE}

theorem sx_all (F : axFx p s m args meth c b rb ca D ro cc nL o) (hn : s.heap.size = b + n0) (hini : ini = true → meth.name = "<init>") (hE : axHE E l dd b rb ca D ro) (hR : dd + 1 ≤ R.frames ∧ 36 * (dd + 1) ≤ R.locals)
    (hri : ∀ (pc : Nat) (H : Heap) (locs : List Loc) (h : axH) (ls : Array Slot) (x : Int32), (∃ q ∈ cd, q.2.1 = 49) → decode cc pc = .ok (.ireturn, 1) → narrow (axEt rt) (.int x) = .int x → Q (some (.int x)) h → n0 ≤ h.length → s0 ≤ axSl h → axInv b rb ca D s h H locs → W p l e R s m args below meth c H locs (h.length - n0) (axSl h - s0) QQ (F0 m pc ls [.int x]))
    (hrv : ∀ (pc : Nat) (H : Heap) (locs : List Loc) (h : axH) (ls : Array Slot), (∃ q ∈ cd, q.2.1 = 50) → decode cc pc = .ok (.return_, 1) → Q none h → n0 ≤ h.length → s0 ≤ axSl h → axInv b rb ca D s h H locs → W p l e R s m args below meth c H locs (h.length - n0) (axSl h - s0) QQ (F0 m pc ls []))
    (hra : ∀ (pc : Nat) (H : Heap) (locs : List Loc) (h : axH) (ls : Array Slot) (k : Nat), (∃ q ∈ cd, q.2.1 = 51) → decode cc pc = .ok (.areturn, 1) → Q (some (.ref k)) h → n0 ≤ h.length → s0 ≤ axSl h → axInv b rb ca D s h H locs → W p l e R s m args below meth c H locs (h.length - n0) (axSl h - s0) QQ (F0 m pc ls [.ref (b + k)]))
    (hrl : ∀ (pc : Nat) (H : Heap) (locs : List Loc) (h : axH) (ls : Array Slot) (x : Int64), (∃ q ∈ cd, q.2.1 = 62) → decode cc pc = .ok (.lreturn, 1) → Q (some (.long x)) h → n0 ≤ h.length → s0 ≤ axSl h → axInv b rb ca D s h H locs → W p l e R s m args below meth c H locs (h.length - n0) (axSl h - s0) QQ (F0 m pc ls [.long x]))
    (hcap : ∀ pc' L' S' h', K pc' L' S' h' → h'.length - n0 ≤ R.cells ∧ axSl h' - s0 ≤ R.slots) (hmem : ent ∈ cd) (ins : Instr) (hd : decode cc pc = .ok (ins, len)) (ht : axTr o ini rt pc ins len = some ent) (h1 : axOne ro E ent L S h K Q) (hK : ∀ pc' L' S' h', K pc' L' S' h' → axWW p l e R s m args below meth c b rb ca D QQ nL n0 s0 pc' L' S' h') : axWW p l e R s m args below meth c b rb ca D QQ nL n0 s0 pc L S h := by
  have hR1 : 1 ≤ R.frames ∧ 36 ≤ R.locals := ⟨by omega, by omega⟩
  cases ins with
  | iconst n => exact sx_iconst n F hd ht h1 hK
  | bipush n => exact sx_bipush n F hd ht h1 hK
  | sipush n => exact sx_sipush n F hd ht h1 hK
  | lconst n => exact sx_lconst n F hd ht h1 hK
  | ldc_w i => exact sx_ldc_w i F hd ht h1 hK
  | ldc2_w i => exact sx_ldc2_w i F hd ht h1 hK
  | iload_n k => exact sx_iload_n k F hd ht h1 hK
  | iload k => exact sx_iload k F hd ht h1 hK
  | lload_n k => exact sx_lload_n k F hd ht h1 hK
  | lload k => exact sx_lload k F hd ht h1 hK
  | aload_n k => exact sx_aload_n k F hd ht h1 hK
  | aload k => exact sx_aload k F hd ht h1 hK
  | istore_n k => exact sx_istore_n k F hd ht h1 hK
  | istore k => exact sx_istore k F hd ht h1 hK
  | astore_n k => exact sx_astore_n k F hd ht h1 hK
  | astore k => exact sx_astore k F hd ht h1 hK
  | iinc i n => exact sx_iinc i n F hd ht h1 hK
  | dup => exact sx_dup  F hd ht h1 hK
  | pop => exact sx_pop  F hd ht h1 hK
  | dup2 => exact sx_dup2  F hd ht h1 hK
  | iadd => exact sx_iadd  F hd ht h1 hK
  | isub => exact sx_isub  F hd ht h1 hK
  | imul => exact sx_imul  F hd ht h1 hK
  | iand => exact sx_iand  F hd ht h1 hK
  | ior => exact sx_ior  F hd ht h1 hK
  | ixor => exact sx_ixor  F hd ht h1 hK
  | ishl => exact sx_ishl  F hd ht h1 hK
  | ishr => exact sx_ishr  F hd ht h1 hK
  | iushr => exact sx_iushr  F hd ht h1 hK
  | ineg => exact sx_ineg  F hd ht h1 hK
  | i2c => exact sx_i2c  F hd ht h1 hK
  | i2l => exact sx_i2l  F hd ht h1 hK
  | l2i => exact sx_l2i  F hd ht h1 hK
  | land => exact sx_land  F hd ht h1 hK
  | lor => exact sx_lor  F hd ht h1 hK
  | lshl => exact sx_lshl  F hd ht h1 hK
  | lshr => exact sx_lshr  F hd ht h1 hK
  | lushr => exact sx_lushr  F hd ht h1 hK
  | lcmp => exact sx_lcmp  F hd ht h1 hK
  | lstore_n k => exact sx_lstore_n k F hd ht h1 hK
  | lstore k => exact sx_lstore k F hd ht h1 hK
  | ladd => exact sx_ladd F hd ht h1 hK
  | lmul => exact sx_lmul F hd ht h1 hK
  | ldc i => exact sx_ldc i F hd ht h1 hK
  | goto off => exact sx_goto off F hd ht h1 hK
  | if_icmp cd off => exact sx_if_icmp cd off F hd ht h1 hK
  | ifCond cd off => exact sx_ifCond cd off F hd ht h1 hK
  | ifnonnull off => exact sx_ifnonnull off F hd ht h1 hK
  | getfield i => exact sx_getfield i F hn hini hR1 hcap hd ht h1 hK
  | putfield i => exact sx_putfield i F hn hini hR1 hcap hd ht h1 hK
  | getstatic i => exact sx_getstatic i F hn hini hR1 hcap hd ht h1 hK
  | arraylength => exact sx_arraylength  F hn hini hR1 hcap hd ht h1 hK
  | iaload => exact sx_iaload  F hn hini hR1 hcap hd ht h1 hK
  | caload => exact sx_caload  F hn hini hR1 hcap hd ht h1 hK
  | aaload => exact sx_aaload  F hn hini hR1 hcap hd ht h1 hK
  | iastore => exact sx_iastore  F hn hini hR1 hcap hd ht h1 hK
  | castore => exact sx_castore  F hn hini hR1 hcap hd ht h1 hK
  | aastore => exact sx_aastore  F hn hini hR1 hcap hd ht h1 hK
  | newarray t => exact sx_newarray t F hn hini hR1 hcap hd ht h1 hK
  | anewarray i => exact sx_anewarray i F hn hini hR1 hcap hd ht h1 hK
  | new i => exact sx_new i F hn hini hR1 hcap hd ht h1 hK
  | idiv => exact sx_idiv  F hn hini hR1 hcap hd ht h1 hK
  | irem => exact sx_irem  F hn hini hR1 hcap hd ht h1 hK
  | tableswitch d lo hi offs => exact sx_tableswitch d lo hi offs F hn hE hR hcap hd ht h1 hK
  | lookupswitch d ps => exact sx_lookupswitch d ps F hn hE hR hcap hd ht h1 hK
  | invokevirtual i => exact sx_invokevirtual i F hn hE hR hcap hd ht h1 hK
  | invokestatic i => exact sx_invokestatic i F hn hE hR hcap hd ht h1 hK
  | invokespecial i => exact sx_invokespecial i F hn hE hR hcap hd ht h1 hK
  | ireturn =>
    obtain ⟨rfl, rfl⟩ := axI_ok ht
    obtain ⟨x, rfl, hnar, hq⟩ := h1
    exact fun g1 g2 H locs ls hI hL => hri pc H locs h ls x ⟨_, hmem, rfl⟩ hd hnar hq g1 g2 hI
  | return_ =>
    obtain ⟨rfl, rfl⟩ := axI_ok ht
    obtain ⟨rfl, hq⟩ := h1
    exact fun g1 g2 H locs ls hI hL => hrv pc H locs h ls ⟨_, hmem, rfl⟩ hd hq g1 g2 hI
  | areturn =>
    obtain ⟨rfl, rfl⟩ := axI_ok ht
    obtain ⟨k, rfl, hq⟩ := h1
    exact fun g1 g2 H locs ls hI hL => hra pc H locs h ls k ⟨_, hmem, rfl⟩ hd hq g1 g2 hI
  | lreturn =>
    obtain ⟨rfl, rfl⟩ := axI_ok ht
    obtain ⟨x, rfl, hq⟩ := h1
    exact fun g1 g2 H locs ls hI hL => hrl pc H locs h ls x ⟨_, hmem, rfl⟩ hd hq g1 g2 hI
  | _ => cases ht
theorem axOne_up (hE : ∀ z vs h r h1, E z vs h r h1 → h.length ≤ h1.length ∧ axSl h ≤ axSl h1) (h1 : axOne ro E ent L S h K Q) : (∃ r, Q r h) ∨ ∃ pc' L' S' h', K pc' L' S' h' ∧ h.length ≤ h'.length ∧ axSl h ≤ axSl h' := by
  obtain ⟨pc, op, a, b, c, tb, nx⟩ := ent
  have same : ∀ {pc' L' S'}, K pc' L' S' h → (∃ r, Q r h) ∨ ∃ pc' L' S' h', K pc' L' S' h' ∧ h.length ≤ h'.length ∧ axSl h ≤ axSl h' := fun hk => Or.inr ⟨_, _, _, _, hk, Nat.le_refl _, Nat.le_refl _⟩
  have setc : ∀ {pc' L' S' k x d}, h[k]? = some d → axCs x = axCs d → K pc' L' S' (h.set k x) → (∃ r, Q r h) ∨ ∃ pc' L' S' h', K pc' L' S' h' ∧ h.length ≤ h'.length ∧ axSl h ≤ axSl h' := fun hc hs hk => Or.inr ⟨_, _, _, _, hk, by rw [List.length_set]; exact Nat.le_refl _, by rw [axSl_set _ _ _ _ hc hs]; exact Nat.le_refl _⟩
  have app : ∀ {pc' L' S' x}, K pc' L' S' (h ++ [x]) → (∃ r, Q r h) ∨ ∃ pc' L' S' h', K pc' L' S' h' ∧ h.length ≤ h'.length ∧ axSl h ≤ axSl h' := fun hk => Or.inr ⟨_, _, _, _, hk, by simp, by rw [axSl_app]; omega⟩
  have call : ∀ {pc' L' S' z vs r h2}, E z vs h r h2 → K pc' L' S' h2 → (∃ r, Q r h) ∨ ∃ pc' L' S' h', K pc' L' S' h' ∧ h.length ≤ h'.length ∧ axSl h ≤ axSl h' := fun he hk => Or.inr ⟨_, _, _, _, hk, (hE _ _ _ _ _ he).1, (hE _ _ _ _ _ he).2⟩
  dsimp only [axOne] at h1
  split at h1
  · obtain ⟨x, y, S', rfl, h2, h3⟩ := h1
    by_cases q : axCnd b x y
    · exact same (h2 q)
    · exact same (h3 q)
  · obtain ⟨x, S', rfl, h2, h3⟩ := h1
    by_cases q : axCnd b x 0
    · exact same (h2 q)
    · exact same (h3 q)
  · rcases h1 with ⟨k, S', rfl, hk⟩ | ⟨S', rfl, hk⟩
    · exact same hk
    · exact same hk
  · obtain ⟨x, S', rfl, hk⟩ := h1
    exact same hk
  · obtain ⟨k, S', fs, v, rfl, hc, hv, hk⟩ := h1
    exact same hk
  · obtain ⟨v, k, S', fs, rfl, hc, hlt, hf, hk⟩ := h1
    exact setc hc (by simp [axCs]) hk
  · exact same h1
  · rcases h1 with ⟨k, S', ki, n, f, rfl, hc, hki, hk⟩ | ⟨k, S', n, f, rfl, hc, hk⟩ | ⟨i, S', rfl, hi, hk⟩
    · exact same hk
    · exact same hk
    · exact same hk
  · rcases h1 with ⟨k, i, S', n, f, rfl, hc, hin, hk⟩ | ⟨hb, j, i, S', rfl, hj, hin, hk⟩
    · exact same hk
    · exact same hk
  · obtain ⟨k, i, S', n, f, rfl, hc, hin, hk⟩ := h1
    exact same hk
  · obtain ⟨x, i, k, S', n, f, rfl, hc, hin, hnar, hk⟩ := h1
    exact setc hc (by rfl) hk
  · obtain ⟨v, i, k, S', n, f, fs, rfl, hc, hv, hin, hk⟩ := h1
    exact setc hc (by rfl) hk
  · obtain ⟨x, S', rfl, h0, hN, hk⟩ := h1
    exact app hk
  · obtain ⟨x, S', rfl, h0, hN, hk⟩ := h1
    exact app hk
  · exact app h1
  · obtain ⟨x, y, S', rfl, hy, hk⟩ := h1
    exact same hk
  · obtain ⟨x, y, S', rfl, hy, hk⟩ := h1
    exact same hk
  · obtain ⟨x, rfl, hnar, hq⟩ := h1
    exact Or.inl ⟨_, hq⟩
  · exact Or.inl ⟨_, h1.2⟩
  · obtain ⟨k, rfl, hq⟩ := h1
    exact Or.inl ⟨_, hq⟩
  · obtain ⟨ci, As, k0, rest, fs, r, h2, ea, rfl, hAs, hsum, hc, hEv, hk⟩ := h1
    exact call hEv hk
  · obtain ⟨As, rest, r, h2, rfl, hAs, hsum, hEv, hk⟩ := h1
    exact call hEv hk
  · obtain ⟨As, k0, rest, r, h2, rfl, hAs, hsum, hEv, hk⟩ := h1
    exact call hEv hk
  · obtain ⟨k, rest, rfl, hsum, hk⟩ := h1
    exact same hk
  · obtain ⟨n, dp, k1, sp, k0, rest, n0, n1, f, g, rfl, hc0, hc1, q1, q2, q3, q4, q5, hsum, hk⟩ := h1
    exact setc hc1 (by rfl) hk
  · obtain ⟨x, y, S', rfl, hsum, hk⟩ := h1
    exact same hk
  · obtain ⟨x, y, S', rfl, hsum, hk⟩ := h1
    exact same hk
  · obtain ⟨x, S', rfl, hsum, hk⟩ := h1
    exact same hk
  · obtain ⟨v, k, S', fs, rfl, hc, hlt, hf, hk⟩ := h1
    exact setc hc (by simp [axCs]) hk
  · obtain ⟨x, rfl, hq⟩ := h1
    exact Or.inl ⟨_, hq⟩
  · obtain ⟨q, hq, hk⟩ := h1
    exact same hk
theorem axWn_up (hE : ∀ z vs h r h1, E z vs h r h1 → h.length ≤ h1.length ∧ axSl h ≤ axSl h1) : ∀ (n pc : Nat) (L : axL) (S : List Value) (h : axH), axWn ro E cd n pc L S h Q → ∃ r h', Q r h' ∧ h.length ≤ h'.length ∧ axSl h ≤ axSl h'
  | 0, _, _, _, _, h1 => h1.elim
  | n + 1, pc, L, S, h, h1 => by
    obtain ⟨ent, he, h1⟩ := h1
    rcases axOne_up hE h1 with ⟨r, hq⟩ | ⟨pc', L', S', h', hk, a1, a2⟩
    · exact ⟨r, h, hq, Nat.le_refl _, Nat.le_refl _⟩
    · obtain ⟨r, h2, hq, b1, b2⟩ := axWn_up hE n pc' L' S' h' hk
      exact ⟨r, h2, hq, Nat.le_trans a1 b1, Nat.le_trans a2 b2⟩
theorem axF_spec : ∀ (cd : List axE) (pc : Nat) {ent : axE}, axF cd pc = some ent → ent ∈ cd ∧ ent.1 = pc
  | [], pc, ent, h => by cases h
  | a :: r, pc, ent, h => by
    unfold axF at h
    cases hq : Nat.beq a.1 pc with
    | true =>
      rw [hq] at h
      have h := Option.some.inj h
      subst h
      exact ⟨List.mem_cons_self, Nat.eq_of_beq_eq_true hq⟩
    | false =>
      rw [hq] at h
      have z := axF_spec r pc h
      exact ⟨List.mem_cons_of_mem _ z.1, z.2⟩
theorem axWn_sound (F : axFx p s m args meth c b rb ca D ro cc nL o) (hn : s.heap.size = b + n0) (hini : ini = true → meth.name = "<init>") (hE : axHE E l dd b rb ca D ro) (hR : dd + 1 ≤ R.frames ∧ 36 * (dd + 1) ≤ R.locals)
    (hri : ∀ (pc : Nat) (H : Heap) (locs : List Loc) (h : axH) (ls : Array Slot) (x : Int32), (∃ q ∈ cd, q.2.1 = 49) → decode cc pc = .ok (.ireturn, 1) → narrow (axEt rt) (.int x) = .int x → Q (some (.int x)) h → n0 ≤ h.length → s0 ≤ axSl h → axInv b rb ca D s h H locs → W p l e R s m args below meth c H locs (h.length - n0) (axSl h - s0) QQ (F0 m pc ls [.int x]))
    (hrv : ∀ (pc : Nat) (H : Heap) (locs : List Loc) (h : axH) (ls : Array Slot), (∃ q ∈ cd, q.2.1 = 50) → decode cc pc = .ok (.return_, 1) → Q none h → n0 ≤ h.length → s0 ≤ axSl h → axInv b rb ca D s h H locs → W p l e R s m args below meth c H locs (h.length - n0) (axSl h - s0) QQ (F0 m pc ls []))
    (hra : ∀ (pc : Nat) (H : Heap) (locs : List Loc) (h : axH) (ls : Array Slot) (k : Nat), (∃ q ∈ cd, q.2.1 = 51) → decode cc pc = .ok (.areturn, 1) → Q (some (.ref k)) h → n0 ≤ h.length → s0 ≤ axSl h → axInv b rb ca D s h H locs → W p l e R s m args below meth c H locs (h.length - n0) (axSl h - s0) QQ (F0 m pc ls [.ref (b + k)]))
    (hrl : ∀ (pc : Nat) (H : Heap) (locs : List Loc) (h : axH) (ls : Array Slot) (x : Int64), (∃ q ∈ cd, q.2.1 = 62) → decode cc pc = .ok (.lreturn, 1) → Q (some (.long x)) h → n0 ≤ h.length → s0 ≤ axSl h → axInv b rb ca D s h H locs → W p l e R s m args below meth c H locs (h.length - n0) (axSl h - s0) QQ (F0 m pc ls [.long x]))
    (hQ : ∀ r h', Q r h' → h'.length - n0 ≤ R.cells ∧ axSl h' - s0 ≤ R.slots) (hck : axCk o ini rt cc cd = true) : ∀ (n pc : Nat) (L : axL) (S : List Value) (h : axH), axWn ro E cd n pc L S h Q → axWW p l e R s m args below meth c b rb ca D QQ nL n0 s0 pc L S h
  | 0, _, _, _, _, h1 => h1.elim
  | n + 1, pc, L, S, h, h1 => by
    obtain ⟨ent, he, h1⟩ := h1
    obtain ⟨hmem, hpc⟩ := axF_spec cd pc he
    have hz := List.all_eq_true.mp hck ent hmem
    rw [hpc] at hz
    split at hz
    · rename_i ins len hd
      have ht := axEqO_ok hz
      refine sx_all F hn hini hE hR hri hrv hra hrl (fun pc' L' S' h' hk => ?_) hmem ins hd ht h1 (fun pc' L' S' h' hk => axWn_sound F hn hini hE hR hri hrv hra hrl hQ hck n pc' L' S' h' hk)
      obtain ⟨r, h2, hq, b1, b2⟩ := axWn_up (fun z vs h r h1 q => (hE z vs h r h1 q).1) n pc' L' S' h' hk
      have := hQ r h2 hq
      exact ⟨by omega, by omega⟩
    · cases hz
end AX10
def axOkA : List Value → Bool
  | [] => true
  | .double _ :: _ => false
  | _ :: l => axOkA l
/-- METHOD z, CALLED WITH vs OVER h, comes with the answer r to the heap h1: calls at most d deep -/
def axEv (ro : axRo) : Nat → axCall
  | 0 => fun _ _ _ _ _ => False
  | d + 1 => fun z vs h r h1 => ∃ M, axMs[z]? = some M ∧ axOkA vs = true ∧ axSz vs ≤ M.2.2.1 ∧ axW ro (axEv ro d) M.2.2.2.2.2.2 0 (axIn vs M.2.2.1) [] h (fun r' h' => r' = r ∧ h' = h1)
theorem axIn_len : ∀ (vs : List Value) (n : Nat), axSz vs ≤ n → (axIn vs n).length = n
  | [], n, _ => by simp [axIn]
  | v :: l, n, h => by
    have hc : v.category + axSz l ≤ n := h
    cases v with
    | long x =>
      have hc : 2 + axSz l ≤ n := hc
      show (some (.long x) :: none :: axIn l (n - 2)).length = n
      rw [List.length_cons, List.length_cons, axIn_len l (n - 2) (by omega)]
      omega
    | double x =>
      have hc : 2 + axSz l ≤ n := hc
      show (some (.double x) :: axIn l (n - 1)).length = n
      rw [List.length_cons, axIn_len l (n - 1) (by omega)]
      omega
    | _ =>
      have hc : 1 + axSz l ≤ n := hc
      show (some _ :: axIn l (n - 1)).length = n
      rw [List.length_cons, axIn_len l (n - 1) (by omega)]
      omega
theorem axIn_mem {b : Nat} {rb : Nat → Nat} : ∀ (vs : List Value) (n k : Nat) (q : Nat × Value), axOkA vs = true → q ∈ axEn b rb k (axIn vs n) → q ∈ lv_args k (vs.map (axCv b rb))
  | [], n, k, q, _, h => by
    have : ∀ (n k : Nat), axEn b rb k (List.replicate n none) = [] := by
      intro n
      induction n with
      | zero => intro k; rfl
      | succ n ih => intro k; rw [List.replicate_succ]; exact ih (k + 1)
    rw [show axIn [] n = List.replicate n none from rfl, this] at h
    cases h
  | v :: l, n, k, q, ho, h => by
    have one : ∀ (w : Value), axCv b rb v = w → w.category = 1 → axOkA l = true → q ∈ (k, w) :: axEn b rb (k + 1) (axIn l (n - 1)) → q ∈ lv_args k ((v :: l).map (axCv b rb)) := by
      intro w hw hc hol hq
      show q ∈ (k, axCv b rb v) :: lv_args (if (axCv b rb v).category = 2 then k + 2 else k + 1) (l.map (axCv b rb))
      rw [hw, if_neg (by omega)]
      rcases List.mem_cons.mp hq with z | z
      · exact List.mem_cons.mpr (Or.inl z)
      · exact List.mem_cons_of_mem _ (axIn_mem l (n - 1) (k + 1) q hol z)
    cases v with
    | double x => cases ho
    | long x =>
      show q ∈ (k, .long x) :: lv_args (k + 2) (l.map (axCv b rb))
      have h : q ∈ (k, Value.long x) :: axEn b rb (k + 2) (axIn l (n - 2)) := h
      rcases List.mem_cons.mp h with z | z
      · exact List.mem_cons.mpr (Or.inl z)
      · exact List.mem_cons_of_mem _ (axIn_mem l (n - 2) (k + 2) q ho z)
    | _ => exact one _ rfl rfl ho h
theorem axSz_sl {b : Nat} {rb : Nat → Nat} : ∀ (vs : List Value), (lg_sl (vs.map (axCv b rb))).length = axSz vs
  | [] => rfl
  | v :: l => by
    have ih := axSz_sl (b := b) (rb := rb) l
    unfold lg_sl at *
    rw [List.map_cons, List.flatMap_cons, List.length_append, ih, axCv_cat]
    show _ = v.category + axSz l
    rcases lv_cat v with z | z <;> simp [z]
def axRetOk (M : axM) : Bool := M.2.2.2.2.2.2.all fun e => match e.2.1 with
  | 49 => match M.2.2.2.1 with
    | some .int => true
    | some .char => true
    | some .boolean => true
    | _ => false
  | 50 => match M.2.2.2.1 with
    | none => true
    | _ => false
  | 51 => match M.2.2.2.1 with
    | some (.object _) => true
    | _ => false
  | 62 => match M.2.2.2.1 with
    | some .long => true
    | _ => false
  | _ => true
set_option maxRecDepth 100000 in
theorem axRetAll : axMs.all axRetOk = true := by decide +kernel
theorem axRk_ok {r : Option FieldType} (h : (match r with | some .int => true | some .char => true | some .boolean => true | _ => false) = true) : r = some (axEt (axRk r)) := by
  split at h <;> first | rfl | cases h
theorem axEv_HE (l : Launch) (b : Nat) (rb : Nat → Nat) (ca : Nat → ClassId) (D : va_G) (ro : axRo) : ∀ dd, axHE (axEv ro dd) l dd b rb ca D ro
  | 0 => fun _ _ _ _ _ h => h.elim
  | dd + 1 => by
    intro z vs h r h1 hEv
    have hE := axEv_HE l b rb ca D ro dd
    obtain ⟨M, hM, hok, hsz, n, hn⟩ := hEv
    obtain ⟨r', h', ⟨rfl, rfl⟩, u1, u2⟩ := axWn_up (fun z vs h r h1 q => (hE z vs h r h1 q).1) n _ _ _ _ hn
    refine ⟨⟨u1, u2⟩, fun M' hM' => ?_⟩
    have hMM : M = M' := Option.some.inj (hM.symm.trans hM')
    subst hMM
    have hmem := List.mem_of_getElem? hM
    obtain ⟨G1, G2, G3, G4, G5, G6, G7, G8⟩ := axMs_ok M hmem
    have hret := List.all_eq_true.mp (List.all_eq_true.mp axRetAll M hmem)
    refine Met.ofW (cc := M.2.1) (maxL := M.2.2.1) (ret := M.2.2.2.1) G5 rfl ?_
    intro p e s m args below meth c s₁ B hml hv
    obtain ⟨rfl, hRep⟩ := hv
    have hr := B.returns
    have hts := atoms_spec (ws := axWM M) B.pre
    have hown : s.vm.findClass M.1.cls = some m.cls := findClass_of_methodNamed B.named
    have hlocks := B.notSynchronized
    have hname : meth.name = M.1.name := (name_of_methodNamed B.named B.method).1
    obtain ⟨R1, R2, R3, R4⟩ := hRep
    have F : axFx p s m (vs.map (axCv b rb)).toArray meth c b rb ca D ro M.2.1 M.2.2.1 M.2.2.2.2.1 := ⟨B.exec, B.bytes, hml, by rw [G3]; exact hown, fun w hw => hts w (List.mem_cons_of_mem _ hw), R3, R4, by omega⟩
    have hl := lv_entry (vs.map (axCv b rb)) (n := M.2.2.1) (by rw [axSz_sl]; exact hsz)
    rw [lg_entry_eq]
    generalize (lg_sl (vs.map (axCv b rb)) ++ List.replicate (M.2.2.1 - (lg_sl (vs.map (axCv b rb))).length) Slot.unset).toArray = ls at hl ⊢
    have hL : axLr b rb (axIn vs M.2.2.1) ls M.2.2.1 := ⟨axIn_len vs _ hsz, hl.1, hl.2.1, fun q hq => hl.2.2 q (axIn_mem vs _ 0 q hok hq)⟩
    have hq : ∀ (H : Heap) (locs : List Loc), axInv b rb ca D s h' H locs → ∀ t : State, t.heap = H → s.WarmedH t.vm → axQc b rb ca D ro r' h' (vs.map (axCv b rb)).toArray s (.returned (r'.map (axCv b rb))) t := fun H locs hI t ht hW => ⟨rfl, axRep_at hW ht R3 (by omega) R4 hI, hI.2.2.F ht⟩
    have hf : ∀ (H : Heap) (locs : List Loc), axInv b rb ca D s h' H locs → ∀ q ∈ locs, b ≤ q.base := fun H locs hI q hq => hI.2.2.2.2 q hq
    have key := axWn_sound (QQ := MQ below (axQc b rb ca D ro r' h') (vs.map (axCv b rb)).toArray s (h'.length - h.length) (axSl h' - axSl h) (fun q : Nat => b ≤ q)) (l := l) (R := axRm (dd + 1) (h'.length - h.length) (axSl h' - axSl h)) (e := e) (below := below) (n0 := h.length) (s0 := axSl h) (ini := M.2.2.2.2.2.1) (rt := axRk M.2.2.2.1) (cd := M.2.2.2.2.2.2) (Q := fun r1 h1 => r1 = r' ∧ h1 = h') F R1 (fun q => by rw [hname]; exact G8 q) hE ⟨Nat.le_refl _, Nat.le_refl _⟩ ?_ ?_ ?_ ?_ ?_ G7 n 0 (axIn vs M.2.2.1) [] h hn (Nat.le_refl _) (Nat.le_refl _) s.heap [] ls ⟨R1, R2, va_S.rf⟩ hL
    · rw [Nat.sub_self, Nat.sub_self] at key
      exact key
    · intro pc H locs h0 ls x hx hd hnar hq1 _ _ hI
      obtain ⟨e1, rfl⟩ := hq1
      subst e1
      obtain ⟨q, hq0, hq1⟩ := hx
      have hz := hret q hq0
      rw [hq1] at hz
      exact W.zret (ty := axEt (axRk M.2.2.2.1)) B.exec B.bytes (hr.trans (axRk_ok hz)) hnar (hq H locs hI) (hf H locs hI) hd hlocks
    · intro pc H locs h0 ls hx hd hq1 _ _ hI
      obtain ⟨e1, rfl⟩ := hq1
      subst e1
      obtain ⟨q, hq0, hq1⟩ := hx
      have hz := hret q hq0
      rw [hq1] at hz
      have hnone : M.2.2.2.1 = none := by
        cases hmr : M.2.2.2.1 with
        | none => rfl
        | some t => simp only [hmr] at hz; cases hz
      exact W.vret B.exec B.bytes (hr.trans hnone) (hq H locs hI) (hf H locs hI) hd hlocks
    · intro pc H locs h0 ls k hx hd hq1 _ _ hI
      obtain ⟨e1, rfl⟩ := hq1
      subst e1
      obtain ⟨q, hq0, hq1⟩ := hx
      have hz := hret q hq0
      rw [hq1] at hz
      have hobj : ∃ n, M.2.2.2.1 = some (.object n) := by
        cases hmr : M.2.2.2.1 with
        | none => simp only [hmr] at hz; cases hz
        | some t => cases t <;> simp only [hmr] at hz <;> first | exact ⟨_, rfl⟩ | cases hz
      obtain ⟨n1, hobj⟩ := hobj
      exact W.aret B.exec B.bytes (hr.trans hobj) (Or.inl ⟨_, rfl⟩) (Or.inr ⟨_, rfl⟩) (hq H locs hI) (hf H locs hI) hd hlocks
    · intro pc H locs h0 ls x hx hd hq1 _ _ hI
      obtain ⟨e1, rfl⟩ := hq1
      subst e1
      obtain ⟨q, hq0, hq1⟩ := hx
      have hz := hret q hq0
      rw [hq1] at hz
      have hlong : M.2.2.2.1 = some .long := by
        cases hmr : M.2.2.2.1 with
        | none => simp only [hmr] at hz; cases hz
        | some t => cases t <;> simp only [hmr] at hz <;> first | rfl | cases hz
      exact W.lret B.exec B.bytes (hr.trans hlong) (hq H locs hI) (hf H locs hI) hd hlocks
    · intro r1 h2 hq1
      rw [hq1.2]
      exact ⟨Nat.le_refl _, Nat.le_refl _⟩
end
section
/-! THE CLAIM OUT OF ONE WALK OF THE LAW'S BODY. Your part is whole_start (and what it stands on); all else here is the same for every law, but numbers. -/
def R_law : String := "BeatSlugsLaw"
def lw_P (b : Addr) (xs : List Int32) (args : Array Value) (s : State) : Prop := args = #[.ref b] ∧ s.IntsAt b xs ∧ xs.length ≤ 260 ∧ (Jvm.Cond.and given_1 narrow_1).before args s = true
def lw_Q (_ : Array Value) (s : State) (o : Outcome) (t : State) : Prop := o = .returned (some (.int 1)) ∧ Framed s o t [] 600000 7302249
def lw_Z (below : List Frame) (a : Array Value) (s : State) : State → Prop := fun t => ∃ o, t.status = .running ∧ Ended t below o ∧ lw_Q a s o t
/-- the law's own end, with 1 on the stack, nothing written that was there before, its room as the claim has it -/
theorem lw_ret {p : Program} {l : Launch} {e : Env} {s : State} {m : MethodId} {below : List Frame} {meth : Method} {c : Code} {b : Nat} (hx : p.tables.exec = Jvm.exec) (hb : c.code = code) (hr : meth.sig.returnType = ret) (hlocks : meth.locks = false) {pc : Nat} {H : Heap} {ls : Array Slot} (hdg : decode code pc = .ok (.ireturn, 1)) : W p l e room_1 s m #[Value.ref b] below meth c H [] 600000 7302249 (lw_Z below #[Value.ref b] s) (F0 m pc ls [.int 1]) := by
  intro T hT X
  obtain ⟨fs, hret, hrun, hended, hW, hframe⟩ := X.leave (v := some (.int 1)) (hlocks := hlocks) (fun h => by rw [hr] at h; cases h)
  have hmeth' : T.vm.method? m = some meth := X.method'
  refine ⟨T.setFrames fs, ?_, .returned (some (.int 1)), hrun, hended, rfl, ⟨_, rfl⟩, hW, hframe⟩
  jvm_step X.here [X.here.top, hx, hb, hdg, hmeth', hr, ret, narrow_b1]
  (try refine ⟨rfl, ?_⟩); (try refine ⟨rfl, ?_⟩)
  first | (intro acts; rw [hret _ acts rfl rfl rfl]) | rw [hret _ _ rfl rfl rfl]
  exact Steps.refl _
/-- what holds at the law's entry: the machine, the code, the tables' words (any of lw_tbl by 'hts w (by decide +kernel)'), the script of L ints xs at the cell b, what the Statement gives of the start (any of its parts by flat_of_before) -/
def lw_At (p : Program) (s : State) (m : MethodId) (meth : Method) (c : Code) (b L : Nat) (xs : Nat → Int32) : Prop :=
  p.tables.exec = Jvm.exec ∧ c.code = code ∧ meth.sig.returnType = ret ∧ c.maxLocals = 3 ∧ s.vm.findClass R_law = some m.cls ∧ (∀ w ∈ lw_tbl, w.before #[Value.ref b] s = true) ∧ va_X b L xs s s.heap ∧ b < s.heap.size ∧ meth.locks = false ∧ (Jvm.Cond.and given_1 narrow_1).before #[Value.ref b] s = true
/-- the arrays that nobody writes: the script, LEAST_SETTING, MOST_SETTING -/
def axRoL (L : Nat) (xs : Nat → Int32) : axRo := fun i => match i with
  | 0 => (L, xs)
  | 1 => (3, fun j => if j = 0 then 4 else 0)
  | _ => (3, fun j => if j = 0 then 60 else if j = 1 then 20 else 90)
theorem axArr {s : State} {args : Array Value} {ty : FieldType} (hno : ∀ C, ty ≠ .object C) (h : (Cond.arrayClass ty).before args s = true) : ∃ cA, ArrOfT s cA ty ∧ va_RA s cA ty := by
  obtain ⟨cA, kA, comp, h1, h2, h3⟩ := Cond.arrayClass_spec h
  refine ⟨cA, fun n z => ⟨fun k h => (by cases h), kA, h2, comp, h3⟩, ?_⟩
  cases ty with
  | object C => exact absurd rfl (hno C)
  | _ => exact h1
theorem axStat3 {s : State} {args : Array Value} {n : String} {A : Nat → Prop} {f : Nat → Int32} (hl : (Cond.laysStatic "BeatSlugs" n "[I").before args s = true) (hi : (Cond.initialized "BeatSlugs").before args s = true) (ha : (Cond.arrayOf (.static "BeatSlugs" n "[I") .int).before args s = true) (hlen : (Cond.eq (.length (.static "BeatSlugs" n "[I")) (.int 3)).before args s = true)
    (h0 : (Cond.eq (.elem (.static "BeatSlugs" n "[I") (.int 0)) (.int (f 0))).before args s = true) (h1 : (Cond.eq (.elem (.static "BeatSlugs" n "[I") (.int 1)) (.int (f 1))).before args s = true) (h2 : (Cond.eq (.elem (.static "BeatSlugs" n "[I") (.int 2)) (.int (f 2))).before args s = true) (hA : ∀ a : Nat, a < s.heap.size → ¬ A a) :
    ∃ t : Nat, va_Z "BeatSlugs" n "[I" (.ref t) A s s.heap ∧ va_T .int t 3 (fun j => .int (f j)) A s s.heap := by
  obtain ⟨t, ht, hT⟩ := va_Tof (N := 3) (f := fun j => .int (f j)) (by omega) ha (va_eqt hlen) (fun j hj => by
    rcases (show j = 0 ∨ j = 1 ∨ j = 2 by omega) with rfl | rfl | rfl
    · exact va_eqt h0
    · exact va_eqt h1
    · exact va_eqt h2) hA
  exact ⟨t, va_Zref hl hi ht hA, hT⟩
set_option maxHeartbeats 4000000 in
/-- the law's walk, out of what the abstract machine computes of its body -/
theorem ax_law {p : Program} {e : Env} {s : State} {m : MethodId} {below : List Frame} {meth : Method} {c : Code} (l : Launch) {b L : Nat} {xs : Nat → Int32} (hL2 : L ≤ 260) (C0 : lw_At p s m meth c b L xs)
    (hlaw : axW (axRoL L xs) (axEv (axRoL L xs) 10) cdL_law 0 [some (.retAddr 0), none, none] [] [] (fun r h => r = some (.int 1) ∧ h.length ≤ 600000 ∧ axSl h ≤ 7302249)) : W p l e room_1 s m #[Value.ref b] below meth c s.heap [] 0 0 (lw_Z below #[Value.ref b] s) (entryFrame m ([Value.ref b] : List Value).toArray 3) := by
  obtain ⟨hx, hb, hr, hml, hown, hts, hX, hbl, hlocks, hgv⟩ := id C0
  have hA : ∀ a : Nat, a < s.heap.size → ¬ (fun q : Nat => s.heap.size ≤ q) a := fun a h => Nat.not_le.mpr h
  have hfl := flat_of_before _ hgv
  obtain ⟨t1, Z1, T1⟩ := axStat3 (n := "LEAST_SETTING") (f := fun j => if j = 0 then 4 else 0) (hts _ axW_lsLEAST) (hts _ axW_ini4) (hfl _ (by decide +kernel)) (hfl _ (by decide +kernel)) (hfl _ (by decide +kernel)) (hfl _ (by decide +kernel)) (hfl _ (by decide +kernel)) hA
  obtain ⟨t2, Z2, T2⟩ := axStat3 (n := "MOST_SETTING") (f := fun j => if j = 0 then 60 else if j = 1 then 20 else 90) (hts _ axW_lsMOST) (hts _ axW_ini4) (hfl _ (by decide +kernel)) (hfl _ (by decide +kernel)) (hfl _ (by decide +kernel)) (hfl _ (by decide +kernel)) (hfl _ (by decide +kernel)) hA
  obtain ⟨c0, A0, B0⟩ := axArr (ty := .int) (fun C h => by cases h) (hts _ axW_ari)
  obtain ⟨c1, A1, B1⟩ := axArr (ty := .char) (fun C h => by cases h) (hts _ axW_arc)
  obtain ⟨c2, A2, B2⟩ := axArr (ty := .int) (fun C h => by cases h) (hts _ axW_ari)
  obtain ⟨comp, c3, k3, f1, f2, f3, f4, f5⟩ := Cond.arrayOver_spec (hts _ axW_ao)
  have hcls : ∀ k : Nat, ∃ q : ClassId × (Nat → Nat), k < 5 → u_Kn s (axCn k) (axT k) (axNf k) q.1 q.2 := by
    intro k
    by_cases hk : k < 5
    · obtain ⟨cC, iS, h⟩ := u_known (C := axCn k) (T := axT k) (N := axNf k) (ws := lw_tbl) (args := #[Value.ref b]) hts (fun w hw => (List.mem_filter.mp (axLay k hk w hw)).1) (hts _ (List.mem_filter.mp (axInsOk k hk)).1)
      exact ⟨(cC, iS), fun _ => h⟩
    · exact ⟨(0, fun _ => 0), fun h => absurd h hk⟩
  obtain ⟨D, hD⟩ : ∃ D : va_G, ∀ k, k < 5 → u_Kn s (axCn k) (axT k) (axNf k) (D.1 k) (D.2 k) := ⟨(fun k => (Classical.choose (hcls k)).1, fun k => (Classical.choose (hcls k)).2), fun k hk => Classical.choose_spec (hcls k) hk⟩
  let ca : Nat → ClassId := fun k => match k with
    | 0 => c0
    | 1 => c1
    | 2 => c2
    | _ => c3
  let rb : Nat → Nat := fun k => match k with
    | 0 => b
    | 1 => t1
    | _ => t2
  have hK : va_K D axCl (axTys ca) s := by
    refine ⟨fun k q hq => ?_, fun k q hq => ?_⟩
    · have hk := axCl_lt hq
      have := axClOk k hk
      rw [this] at hq
      cases hq
      exact hD k hk
    · match k, hq with
      | 0, hq => cases hq; exact ⟨A0, B0⟩
      | 1, hq => cases hq; exact ⟨A1, B1⟩
      | 2, hq => cases hq; exact ⟨A2, B2⟩
      | 3, hq => cases hq; exact ⟨fun n z => ⟨fun k h => (by cases h), k3, f3, comp, f4⟩, k3, comp, f3, f4, f1, f5⟩
      | k + 4, hq => simp [axTys] at hq
  have hSt : axSt s.heap.size rb (axRoL L xs) s s.heap := by
    refine ⟨fun i hi => ?_, Z1, Z2, fun w hw hn => ?_, va_AO.of (hts _ axW_ao)⟩
    · rcases (show i = 0 ∨ i = 1 ∨ i = 2 by omega) with rfl | rfl | rfl
      · refine ⟨hbl, ?_⟩
        obtain ⟨scr, q1, q2, q3, q4, q5⟩ := hX
        exact ⟨scr, q1, q2, q3, by rw [q4]; exact Nat.le_refl _, by rw [q4]; rfl, q5, Nat.not_le.mpr hbl⟩
      · have hT := T1
        obtain ⟨cell, q1, q2⟩ := T1
        exact ⟨(Array.getElem?_eq_some_iff.mp q1).1, hT⟩
      · have hT := T2
        obtain ⟨cell, q1, q2⟩ := T2
        exact ⟨(Array.getElem?_eq_some_iff.mp q1).1, hT⟩
    · have hon : w.onTables = true := by cases w <;> first | rfl | cases hn
      exact va_Nw.of hon (hts w hw)
  have F : axFx p s m #[Value.ref b] meth c s.heap.size rb ca D (axRoL L xs) code 3 6 := ⟨hx, hb, hml, hown, fun w hw => hts w (List.mem_filter.mp hw).1, hK, hSt, Nat.le_refl _⟩
  have hl := lv_entry ([.ref b]) (n := 3) (Nat.le_of_ble_eq_true rfl)
  rw [lg_entry_eq]
  generalize (lg_sl ([.ref b]) ++ List.replicate (3 - (lg_sl ([.ref b])).length) Slot.unset).toArray = ls at hl ⊢
  have hLr : axLr s.heap.size rb [some (.retAddr 0), none, none] ls 3 := ⟨rfl, hl⟩
  obtain ⟨n, hn⟩ := hlaw
  have key := axWn_sound (QQ := lw_Z below #[Value.ref b] s) (l := l) (R := room_1) (e := e) (below := below) (n0 := 0) (s0 := 0) (ini := false) (rt := 2) (cd := cdL_law) (dd := 10) (Q := fun r h => r = some (.int 1) ∧ h.length ≤ 600000 ∧ axSl h ≤ 7302249) F (by omega) (fun h => by cases h) (axEv_HE l s.heap.size rb ca D (axRoL L xs) 10) ⟨by decide, by decide⟩ ?_ ?_ ?_ ?_ ?_ ckL_law n 0 [some (.retAddr 0), none, none] [] [] hn (Nat.le_refl _) (Nat.le_refl _) s.heap [] ls ⟨by simp, fun k q h => by simp [axWs] at h, va_S.rf⟩ hLr
  · exact key
  · intro pc H locs h0 ls x _ hd _ hq _ _ hI
    obtain ⟨e1, e2, e3⟩ := hq
    cases e1
    refine va_forget (fun q hq => hI.2.2.2.2 q hq) ?_
    refine W.widen (k := 600000) (n := 7302249) (by omega) (by omega) ?_
    exact lw_ret hx hb hr hlocks hd
  · intro pc H locs h0 ls _ hd hq _ _ hI
    cases hq.1
  · intro pc H locs h0 ls k _ hd hq _ _ hI
    cases hq.1
  · intro pc H locs h0 ls x _ hd hq _ _ hI
    cases hq.1
  · intro r h' hq
    exact ⟨Nat.le_trans (Nat.sub_le _ _) hq.2.1, Nat.le_trans (Nat.sub_le _ _) hq.2.2⟩
end
section
/-! RULES of the abstract machine, for proofs: a run of simple steps at once (wp_run), then an instruction a rule. -/
def axS1 (cd : List axE) (pc : Nat) (L : axL) (S : List Value) (h : axH) : Option (Nat × axL × List Value) :=
  match axF cd pc with
  | some (_, op, a, b, c, _, nx) =>
    bif Nat.blt op 32 then
      match axStp op a b L S with
      | some (L', S') => some (nx, L', S')
      | none => none
    else match op with
      | 36 => match S with
        | .ref k :: S' => match h[k]? with
          | some (.inr (.inr (b', fs))) => bif Nat.beq b' b then
              match fs[c]? with
              | some v => some (nx, L, v :: S')
              | none => none
            else none
          | _ => none
        | _ => none
      | 38 => some (nx, L, .retAddr b :: S)
      | 39 => match S with
        | .ref k :: S' => match h[k]? with
          | some (.inl (ki, n, _)) => bif Nat.blt ki 3 then some (nx, L, .int (Int32.ofNat n) :: S') else none
          | some (.inr (.inl (n, _))) => some (nx, L, .int (Int32.ofNat n) :: S')
          | _ => none
        | _ => none
      | _ => none
  | none => none
/-- as many of these steps as there are, f at most -/
def axRn (cd : List axE) (h : axH) : Nat → Nat → axL → List Value → Nat × axL × List Value
  | 0, pc, L, S => (pc, L, S)
  | f + 1, pc, L, S => match axS1 cd pc L S h with
    | some (pc', L', S') => axRn cd h f pc' L' S'
    | none => (pc, L, S)
section AX12
variable {ro : axRo} {E : axCall} {cd : List axE} {pc : Nat} {L : axL} {S : List Value} {h h1 : axH} {Q : Option Value → axH → Prop} {p0 b c nx : Nat} {a : Value} {tb : List (Int32 × Nat)}
theorem wp_one {e : axE} (hf : axF cd pc = some e) (h1 : ∃ n, axOne ro E e L S h (fun pc' L' S' h' => axWn ro E cd n pc' L' S' h' Q) Q) : axW ro E cd pc L S h Q := by
  obtain ⟨n, h1⟩ := h1
  exact ⟨n + 1, e, hf, h1⟩
theorem axOne_simple {op : Nat} (h32 : op < 32) {K : Nat → axL → List Value → axH → Prop} {q : axL × List Value} (hq : axStp op a b L S = some q) (hk : K nx q.1 q.2 h) : axOne ro E (p0, op, a, b, c, tb, nx) L S h K Q := by
  dsimp only [axOne]
  split <;> first | (exfalso; omega) | exact ⟨q, hq, hk⟩
theorem axS1_ok {q : Nat × axL × List Value} (hs : axS1 cd pc L S h = some q) (k : axW ro E cd q.1 q.2.1 q.2.2 h Q) : axW ro E cd pc L S h Q := by
  obtain ⟨n, k⟩ := k
  unfold axS1 at hs
  cases hf : axF cd pc with
  | none => rw [hf] at hs; cases hs
  | some e =>
    obtain ⟨p0, op, a, b, c, tb, nx⟩ := e
    rw [hf] at hs
    dsimp only at hs
    refine wp_one hf ⟨n, ?_⟩
    cases h32 : Nat.blt op 32 with
    | true =>
      rw [h32, cond_true] at hs
      split at hs
      · rename_i L' S' hst
        cases hs
        exact axOne_simple (Nat.le_of_ble_eq_true h32) hst k
      · cases hs
    | false =>
      rw [h32, cond_false] at hs
      split at hs
      · split at hs
        · rename_i k0 S'
          split at hs
          · rename_i b' fs hh
            cases hb : Nat.beq b' b with
            | false => rw [hb] at hs; cases hs
            | true =>
              rw [hb, cond_true] at hs
              have e := Nat.eq_of_beq_eq_true hb
              subst e
              split at hs
              · rename_i v hv
                cases hs
                exact ⟨k0, S', fs, v, rfl, hh, hv, k⟩
              · cases hs
          · cases hs
        · cases hs
      · cases hs
        exact k
      · split at hs
        · rename_i k0 S'
          split at hs
          · rename_i ki n f hh
            cases hb : Nat.blt ki 3 with
            | false => rw [hb] at hs; cases hs
            | true =>
              rw [hb, cond_true] at hs
              cases hs
              exact Or.inl ⟨k0, S', ki, n, f, rfl, hh, Nat.le_of_ble_eq_true hb, k⟩
          · rename_i n f hh
            cases hs
            exact Or.inr (Or.inl ⟨k0, S', n, f, rfl, hh, k⟩)
          · cases hs
        · cases hs
      · cases hs
theorem axRn_ok : ∀ (f pc : Nat) (L : axL) (S : List Value), axW ro E cd (axRn cd h f pc L S).1 (axRn cd h f pc L S).2.1 (axRn cd h f pc L S).2.2 h Q → axW ro E cd pc L S h Q
  | 0, pc, L, S, k => k
  | f + 1, pc, L, S, k => by
    unfold axRn at k
    cases hs : axS1 cd pc L S h with
    | none => rw [hs] at k; exact k
    | some q =>
      obtain ⟨pc', L', S'⟩ := q
      rw [hs] at k
      exact axS1_ok hs (axRn_ok f pc' L' S' k)
theorem wp_run {pc' : Nat} {L' : axL} {S' : List Value} (hr : axRn cd h 40 pc L S = (pc', L', S')) (k : axW ro E cd pc' L' S' h Q) : axW ro E cd pc L S h Q := axRn_ok 40 pc L S (by rw [hr]; exact k)
theorem wp_iceq {x y : Int32} (hf : axF cd pc = some (p0, 32, a, 0, c, tb, nx)) (ht : x = y → axW ro E cd c L S h Q) (hn : ¬ (x = y) → axW ro E cd nx L S h Q) : axW ro E cd pc L (.int y :: .int x :: S) h Q := by
  by_cases q : x = y
  · obtain ⟨n, k⟩ := ht q
    exact wp_one hf ⟨n, ⟨x, y, S, rfl, fun _ => k, fun z => absurd q z⟩⟩
  · obtain ⟨n, k⟩ := hn q
    exact wp_one hf ⟨n, ⟨x, y, S, rfl, fun z => absurd z q, fun _ => k⟩⟩
theorem wp_ifeq {x : Int32} (hf : axF cd pc = some (p0, 33, a, 0, c, tb, nx)) (ht : x = 0 → axW ro E cd c L S h Q) (hn : ¬ (x = 0) → axW ro E cd nx L S h Q) : axW ro E cd pc L (.int x :: S) h Q := by
  by_cases q : x = 0
  · obtain ⟨n, k⟩ := ht q
    exact wp_one hf ⟨n, ⟨x, S, rfl, fun _ => k, fun z => absurd q z⟩⟩
  · obtain ⟨n, k⟩ := hn q
    exact wp_one hf ⟨n, ⟨x, S, rfl, fun z => absurd z q, fun _ => k⟩⟩
theorem wp_icne {x y : Int32} (hf : axF cd pc = some (p0, 32, a, 1, c, tb, nx)) (ht : ¬ x = y → axW ro E cd c L S h Q) (hn : ¬ (¬ x = y) → axW ro E cd nx L S h Q) : axW ro E cd pc L (.int y :: .int x :: S) h Q := by
  by_cases q : ¬ x = y
  · obtain ⟨n, k⟩ := ht q
    exact wp_one hf ⟨n, ⟨x, y, S, rfl, fun _ => k, fun z => absurd q z⟩⟩
  · obtain ⟨n, k⟩ := hn q
    exact wp_one hf ⟨n, ⟨x, y, S, rfl, fun z => absurd z q, fun _ => k⟩⟩
theorem wp_ifne {x : Int32} (hf : axF cd pc = some (p0, 33, a, 1, c, tb, nx)) (ht : ¬ x = 0 → axW ro E cd c L S h Q) (hn : ¬ (¬ x = 0) → axW ro E cd nx L S h Q) : axW ro E cd pc L (.int x :: S) h Q := by
  by_cases q : ¬ x = 0
  · obtain ⟨n, k⟩ := ht q
    exact wp_one hf ⟨n, ⟨x, S, rfl, fun _ => k, fun z => absurd q z⟩⟩
  · obtain ⟨n, k⟩ := hn q
    exact wp_one hf ⟨n, ⟨x, S, rfl, fun z => absurd z q, fun _ => k⟩⟩
theorem wp_iclt {x y : Int32} (hf : axF cd pc = some (p0, 32, a, 2, c, tb, nx)) (ht : x < y → axW ro E cd c L S h Q) (hn : ¬ (x < y) → axW ro E cd nx L S h Q) : axW ro E cd pc L (.int y :: .int x :: S) h Q := by
  by_cases q : x < y
  · obtain ⟨n, k⟩ := ht q
    exact wp_one hf ⟨n, ⟨x, y, S, rfl, fun _ => k, fun z => absurd q z⟩⟩
  · obtain ⟨n, k⟩ := hn q
    exact wp_one hf ⟨n, ⟨x, y, S, rfl, fun z => absurd z q, fun _ => k⟩⟩
theorem wp_iflt {x : Int32} (hf : axF cd pc = some (p0, 33, a, 2, c, tb, nx)) (ht : x < 0 → axW ro E cd c L S h Q) (hn : ¬ (x < 0) → axW ro E cd nx L S h Q) : axW ro E cd pc L (.int x :: S) h Q := by
  by_cases q : x < 0
  · obtain ⟨n, k⟩ := ht q
    exact wp_one hf ⟨n, ⟨x, S, rfl, fun _ => k, fun z => absurd q z⟩⟩
  · obtain ⟨n, k⟩ := hn q
    exact wp_one hf ⟨n, ⟨x, S, rfl, fun z => absurd z q, fun _ => k⟩⟩
theorem wp_icge {x y : Int32} (hf : axF cd pc = some (p0, 32, a, 3, c, tb, nx)) (ht : y ≤ x → axW ro E cd c L S h Q) (hn : ¬ (y ≤ x) → axW ro E cd nx L S h Q) : axW ro E cd pc L (.int y :: .int x :: S) h Q := by
  by_cases q : y ≤ x
  · obtain ⟨n, k⟩ := ht q
    exact wp_one hf ⟨n, ⟨x, y, S, rfl, fun _ => k, fun z => absurd q z⟩⟩
  · obtain ⟨n, k⟩ := hn q
    exact wp_one hf ⟨n, ⟨x, y, S, rfl, fun z => absurd z q, fun _ => k⟩⟩
theorem wp_ifge {x : Int32} (hf : axF cd pc = some (p0, 33, a, 3, c, tb, nx)) (ht : 0 ≤ x → axW ro E cd c L S h Q) (hn : ¬ (0 ≤ x) → axW ro E cd nx L S h Q) : axW ro E cd pc L (.int x :: S) h Q := by
  by_cases q : 0 ≤ x
  · obtain ⟨n, k⟩ := ht q
    exact wp_one hf ⟨n, ⟨x, S, rfl, fun _ => k, fun z => absurd q z⟩⟩
  · obtain ⟨n, k⟩ := hn q
    exact wp_one hf ⟨n, ⟨x, S, rfl, fun z => absurd z q, fun _ => k⟩⟩
theorem wp_icgt {x y : Int32} (hf : axF cd pc = some (p0, 32, a, 4, c, tb, nx)) (ht : y < x → axW ro E cd c L S h Q) (hn : ¬ (y < x) → axW ro E cd nx L S h Q) : axW ro E cd pc L (.int y :: .int x :: S) h Q := by
  by_cases q : y < x
  · obtain ⟨n, k⟩ := ht q
    exact wp_one hf ⟨n, ⟨x, y, S, rfl, fun _ => k, fun z => absurd q z⟩⟩
  · obtain ⟨n, k⟩ := hn q
    exact wp_one hf ⟨n, ⟨x, y, S, rfl, fun z => absurd z q, fun _ => k⟩⟩
theorem wp_ifgt {x : Int32} (hf : axF cd pc = some (p0, 33, a, 4, c, tb, nx)) (ht : 0 < x → axW ro E cd c L S h Q) (hn : ¬ (0 < x) → axW ro E cd nx L S h Q) : axW ro E cd pc L (.int x :: S) h Q := by
  by_cases q : 0 < x
  · obtain ⟨n, k⟩ := ht q
    exact wp_one hf ⟨n, ⟨x, S, rfl, fun _ => k, fun z => absurd q z⟩⟩
  · obtain ⟨n, k⟩ := hn q
    exact wp_one hf ⟨n, ⟨x, S, rfl, fun z => absurd z q, fun _ => k⟩⟩
theorem wp_icle {x y : Int32} (hf : axF cd pc = some (p0, 32, a, 5, c, tb, nx)) (ht : x ≤ y → axW ro E cd c L S h Q) (hn : ¬ (x ≤ y) → axW ro E cd nx L S h Q) : axW ro E cd pc L (.int y :: .int x :: S) h Q := by
  by_cases q : x ≤ y
  · obtain ⟨n, k⟩ := ht q
    exact wp_one hf ⟨n, ⟨x, y, S, rfl, fun _ => k, fun z => absurd q z⟩⟩
  · obtain ⟨n, k⟩ := hn q
    exact wp_one hf ⟨n, ⟨x, y, S, rfl, fun z => absurd z q, fun _ => k⟩⟩
theorem wp_ifle {x : Int32} (hf : axF cd pc = some (p0, 33, a, 5, c, tb, nx)) (ht : x ≤ 0 → axW ro E cd c L S h Q) (hn : ¬ (x ≤ 0) → axW ro E cd nx L S h Q) : axW ro E cd pc L (.int x :: S) h Q := by
  by_cases q : x ≤ 0
  · obtain ⟨n, k⟩ := ht q
    exact wp_one hf ⟨n, ⟨x, S, rfl, fun _ => k, fun z => absurd q z⟩⟩
  · obtain ⟨n, k⟩ := hn q
    exact wp_one hf ⟨n, ⟨x, S, rfl, fun z => absurd z q, fun _ => k⟩⟩
theorem wp_nn {k : Nat} (hf : axF cd pc = some (p0, 34, a, b, c, tb, nx)) (ht : axW ro E cd c L S h Q) : axW ro E cd pc L (.ref k :: S) h Q := by
  obtain ⟨n, ht⟩ := ht
  exact wp_one hf ⟨n, Or.inl ⟨k, S, rfl, ht⟩⟩
theorem wp_nnN (hf : axF cd pc = some (p0, 34, a, b, c, tb, nx)) (ht : axW ro E cd nx L S h Q) : axW ro E cd pc L (.null :: S) h Q := by
  obtain ⟨n, ht⟩ := ht
  exact wp_one hf ⟨n, Or.inr ⟨S, rfl, ht⟩⟩
theorem wp_sw {x : Int32} (hf : axF cd pc = some (p0, 35, a, b, c, tb, nx)) (k : axW ro E cd (axSw tb c x) L S h Q) : axW ro E cd pc L (.int x :: S) h Q := by
  obtain ⟨n, k⟩ := k
  exact wp_one hf ⟨n, ⟨x, S, rfl, k⟩⟩
theorem wp_putf {v : Value} {k : Nat} {fs : List Value} (hf : axF cd pc = some (p0, 37, a, b, c, tb, nx)) (hh : h[k]? = some (.inr (.inr (b, fs)))) (hl : c < fs.length) (hv : axFit b c v) (hs : h.set k (.inr (.inr (b, fs.set c v))) = h1) (kk : axW ro E cd nx L S h1 Q) : axW ro E cd pc L (v :: .ref k :: S) h Q := by
  obtain ⟨n, kk⟩ := kk
  subst hs
  exact wp_one hf ⟨n, ⟨v, k, S, fs, rfl, hh, hl, hv, kk⟩⟩
theorem wp_putF {v : Value} {k : Nat} {fs : List Value} (hf : axF cd pc = some (p0, 60, a, b, c, tb, nx)) (hh : h[k]? = some (.inr (.inr (b, fs)))) (hl : c < fs.length) (hv : axFit b c v) (hs : h.set k (.inr (.inr (b, fs.set c v))) = h1) (kk : axW ro E cd nx L S h1 Q) : axW ro E cd pc L (v :: .ref k :: S) h Q := by
  obtain ⟨n, kk⟩ := kk
  subst hs
  exact wp_one hf ⟨n, ⟨v, k, S, fs, rfl, hh, hl, hv, kk⟩⟩
theorem wp_ald {i v : Int32} {k n0 : Nat} {f : Nat → Int32} (hf : axF cd pc = some (p0, 40, a, b, c, tb, nx)) (hh : h[k]? = some (.inl (b, n0, f))) (hi : vp_in i n0) (hv : f i.toNatClampNeg = v) (kk : axW ro E cd nx L (.int v :: S) h Q) : axW ro E cd pc L (.int i :: .ref k :: S) h Q := by
  obtain ⟨n, kk⟩ := kk
  subst hv
  exact wp_one hf ⟨n, Or.inl ⟨k, i, S, n0, f, rfl, hh, hi, kk⟩⟩
theorem wp_aldR {i v : Int32} {j : Nat} (hf : axF cd pc = some (p0, 40, a, 0, c, tb, nx)) (hj : j < 3) (hi : vp_in i (ro j).1) (hv : (ro j).2 i.toNatClampNeg = v) (kk : axW ro E cd nx L (.int v :: S) h Q) : axW ro E cd pc L (.int i :: .retAddr j :: S) h Q := by
  obtain ⟨n, kk⟩ := kk
  subst hv
  exact wp_one hf ⟨n, Or.inr ⟨rfl, j, i, S, rfl, hj, hi, kk⟩⟩
theorem wp_lenR {j : Nat} (hf : axF cd pc = some (p0, 39, a, b, c, tb, nx)) (hj : j < 3) (kk : axW ro E cd nx L (.int (Int32.ofNat (ro j).1) :: S) h Q) : axW ro E cd pc L (.retAddr j :: S) h Q := by
  obtain ⟨n, kk⟩ := kk
  exact wp_one hf ⟨n, Or.inr (Or.inr ⟨j, S, rfl, hj, kk⟩)⟩
theorem wp_aald {i : Int32} {k n0 : Nat} {f : Nat → Option Nat} {v : Value} (hf : axF cd pc = some (p0, 41, a, b, c, tb, nx)) (hh : h[k]? = some (.inr (.inl (n0, f)))) (hi : vp_in i n0) (hv : va_rf (f i.toNatClampNeg) = v) (kk : axW ro E cd nx L (v :: S) h Q) : axW ro E cd pc L (.int i :: .ref k :: S) h Q := by
  obtain ⟨n, kk⟩ := kk
  subst hv
  exact wp_one hf ⟨n, ⟨k, i, S, n0, f, rfl, hh, hi, kk⟩⟩
theorem wp_ast {i x : Int32} {k n0 : Nat} {f : Nat → Int32} (hf : axF cd pc = some (p0, 42, a, b, c, tb, nx)) (hh : h[k]? = some (.inl (b, n0, f))) (hi : vp_in i n0) (hx : vp_nar (axEt b) x = x) (hs : h.set k (.inl (b, n0, upd f i.toNatClampNeg x)) = h1) (kk : axW ro E cd nx L S h1 Q) : axW ro E cd pc L (.int x :: .int i :: .ref k :: S) h Q := by
  obtain ⟨n, kk⟩ := kk
  subst hs
  exact wp_one hf ⟨n, ⟨x, i, k, S, n0, f, rfl, hh, hi, hx, kk⟩⟩
theorem wp_aast {i : Int32} {k n0 v : Nat} {f : Nat → Option Nat} {fs : List Value} (hf : axF cd pc = some (p0, 43, a, b, c, tb, nx)) (hh : h[k]? = some (.inr (.inl (n0, f)))) (hv : h[v]? = some (.inr (.inr (0, fs)))) (hi : vp_in i n0) (hs : h.set k (.inr (.inl (n0, va_up f i.toNatClampNeg (some v)))) = h1) (kk : axW ro E cd nx L S h1 Q) : axW ro E cd pc L (.ref v :: .int i :: .ref k :: S) h Q := by
  obtain ⟨n, kk⟩ := kk
  subst hs
  exact wp_one hf ⟨n, ⟨v, i, k, S, n0, f, fs, rfl, hh, hv, hi, kk⟩⟩
theorem wp_newa {x : Int32} {N q : Nat} (hf : axF cd pc = some (p0, 44, a, b, c, tb, nx)) (h0 : ¬ x < 0) (hx : x.toNatClampNeg = N) (hN : N ≤ 65536) (hq : h.length = q) (hs : h ++ [.inl (b, N, fun _ => 0)] = h1) (kk : axW ro E cd nx L (.ref q :: S) h1 Q) : axW ro E cd pc L (.int x :: S) h Q := by
  obtain ⟨n, kk⟩ := kk
  subst hs
  subst hx
  subst hq
  exact wp_one hf ⟨n, ⟨x, S, rfl, h0, hN, kk⟩⟩
theorem wp_newq {x : Int32} {N q : Nat} (hf : axF cd pc = some (p0, 45, a, b, c, tb, nx)) (h0 : ¬ x < 0) (hx : x.toNatClampNeg = N) (hN : N ≤ 65536) (hq : h.length = q) (hs : h ++ [.inr (.inl (N, fun _ => none))] = h1) (kk : axW ro E cd nx L (.ref q :: S) h1 Q) : axW ro E cd pc L (.int x :: S) h Q := by
  obtain ⟨n, kk⟩ := kk
  subst hs
  subst hx
  subst hq
  exact wp_one hf ⟨n, ⟨x, S, rfl, h0, hN, kk⟩⟩
theorem wp_new {q : Nat} (hf : axF cd pc = some (p0, 46, a, b, c, tb, nx)) (hq : h.length = q) (hs : h ++ [.inr (.inr (b, axDf b))] = h1) (kk : axW ro E cd nx L (.ref q :: S) h1 Q) : axW ro E cd pc L S h Q := by
  obtain ⟨n, kk⟩ := kk
  subst hs
  subst hq
  exact wp_one hf ⟨n, kk⟩
theorem wp_idiv {x y v : Int32} (hf : axF cd pc = some (p0, 47, a, b, c, tb, nx)) (hy : ¬ y = 0) (hv : x / y = v) (kk : axW ro E cd nx L (.int v :: S) h Q) : axW ro E cd pc L (.int y :: .int x :: S) h Q := by
  obtain ⟨n, kk⟩ := kk
  subst hv
  exact wp_one hf ⟨n, ⟨x, y, S, rfl, hy, kk⟩⟩
theorem wp_irem {x y v : Int32} (hf : axF cd pc = some (p0, 48, a, b, c, tb, nx)) (hy : ¬ y = 0) (hv : x - x / y * y = v) (kk : axW ro E cd nx L (.int v :: S) h Q) : axW ro E cd pc L (.int y :: .int x :: S) h Q := by
  obtain ⟨n, kk⟩ := kk
  subst hv
  exact wp_one hf ⟨n, ⟨x, y, S, rfl, hy, kk⟩⟩
theorem wp_ret {x : Int32} (hf : axF cd pc = some (p0, 49, a, b, c, tb, nx)) (hx : narrow (axEt b) (.int x) = .int x) (kk : Q (some (.int x)) h) : axW ro E cd pc L [.int x] h Q := by
  exact wp_one hf ⟨0, ⟨x, rfl, hx, kk⟩⟩
theorem wp_retv (hf : axF cd pc = some (p0, 50, a, b, c, tb, nx)) (kk : Q none h) : axW ro E cd pc L [] h Q := by
  exact wp_one hf ⟨0, ⟨rfl, kk⟩⟩
theorem wp_reta {k : Nat} (hf : axF cd pc = some (p0, 51, a, b, c, tb, nx)) (kk : Q (some (.ref k)) h) : axW ro E cd pc L [.ref k] h Q := by
  exact wp_one hf ⟨0, ⟨k, rfl, kk⟩⟩
theorem wp_retl {x : Int64} (hf : axF cd pc = some (p0, 62, a, b, c, tb, nx)) (kk : Q (some (.long x)) h) : axW ro E cd pc L [.long x] h Q := by
  exact wp_one hf ⟨0, ⟨x, rfl, kk⟩⟩
theorem wp_v0 {w : Value} {k z ci : Nat} {fs : List Value} (hf : axF cd pc = some (p0, 52, .ref ci, z, 0, tb, nx)) (hh : h[k]? = some (.inr (.inr (ci, fs)))) (hs : axSum S ≤ 8) (he : E z (.ref k :: []) h (some w) h1) (kk : axW ro E cd nx L (w :: S) h1 Q) : axW ro E cd pc L (.ref k :: S) h Q := by
  obtain ⟨n, kk⟩ := kk
  exact wp_one hf ⟨n, ⟨ci, [], k, S, fs, _, h1, rfl, rfl, rfl, hs, hh, he, kk⟩⟩
theorem wp_s0 {w : Value} {z : Nat} (hf : axF cd pc = some (p0, 53, a, z, 0, tb, nx)) (hs : axSum S ≤ 8) (he : E z [] h (some w) h1) (kk : axW ro E cd nx L (w :: S) h1 Q) : axW ro E cd pc L (S) h Q := by
  obtain ⟨n, kk⟩ := kk
  exact wp_one hf ⟨n, ⟨[], S, _, h1, rfl, rfl, hs, he, kk⟩⟩
theorem wp_v0v {k z ci : Nat} {fs : List Value} (hf : axF cd pc = some (p0, 52, .ref ci, z, 0, tb, nx)) (hh : h[k]? = some (.inr (.inr (ci, fs)))) (hs : axSum S ≤ 8) (he : E z (.ref k :: []) h (none) h1) (kk : axW ro E cd nx L S h1 Q) : axW ro E cd pc L (.ref k :: S) h Q := by
  obtain ⟨n, kk⟩ := kk
  exact wp_one hf ⟨n, ⟨ci, [], k, S, fs, _, h1, rfl, rfl, rfl, hs, hh, he, kk⟩⟩
theorem wp_s0v {z : Nat} (hf : axF cd pc = some (p0, 53, a, z, 0, tb, nx)) (hs : axSum S ≤ 8) (he : E z [] h (none) h1) (kk : axW ro E cd nx L S h1 Q) : axW ro E cd pc L (S) h Q := by
  obtain ⟨n, kk⟩ := kk
  exact wp_one hf ⟨n, ⟨[], S, _, h1, rfl, rfl, hs, he, kk⟩⟩
theorem wp_v1 {v0 : Value} {w : Value} {k z ci : Nat} {fs : List Value} (hf : axF cd pc = some (p0, 52, .ref ci, z, 1, tb, nx)) (hh : h[k]? = some (.inr (.inr (ci, fs)))) (hs : axSum S ≤ 8) (he : E z (.ref k :: [v0]) h (some w) h1) (kk : axW ro E cd nx L (w :: S) h1 Q) : axW ro E cd pc L (v0 :: .ref k :: S) h Q := by
  obtain ⟨n, kk⟩ := kk
  exact wp_one hf ⟨n, ⟨ci, [v0], k, S, fs, _, h1, rfl, rfl, rfl, hs, hh, he, kk⟩⟩
theorem wp_s1 {v0 : Value} {w : Value} {z : Nat} (hf : axF cd pc = some (p0, 53, a, z, 1, tb, nx)) (hs : axSum S ≤ 8) (he : E z [v0] h (some w) h1) (kk : axW ro E cd nx L (w :: S) h1 Q) : axW ro E cd pc L (v0 :: S) h Q := by
  obtain ⟨n, kk⟩ := kk
  exact wp_one hf ⟨n, ⟨[v0], S, _, h1, rfl, rfl, hs, he, kk⟩⟩
theorem wp_v1v {v0 : Value} {k z ci : Nat} {fs : List Value} (hf : axF cd pc = some (p0, 52, .ref ci, z, 1, tb, nx)) (hh : h[k]? = some (.inr (.inr (ci, fs)))) (hs : axSum S ≤ 8) (he : E z (.ref k :: [v0]) h (none) h1) (kk : axW ro E cd nx L S h1 Q) : axW ro E cd pc L (v0 :: .ref k :: S) h Q := by
  obtain ⟨n, kk⟩ := kk
  exact wp_one hf ⟨n, ⟨ci, [v0], k, S, fs, _, h1, rfl, rfl, rfl, hs, hh, he, kk⟩⟩
theorem wp_s1v {v0 : Value} {z : Nat} (hf : axF cd pc = some (p0, 53, a, z, 1, tb, nx)) (hs : axSum S ≤ 8) (he : E z [v0] h (none) h1) (kk : axW ro E cd nx L S h1 Q) : axW ro E cd pc L (v0 :: S) h Q := by
  obtain ⟨n, kk⟩ := kk
  exact wp_one hf ⟨n, ⟨[v0], S, _, h1, rfl, rfl, hs, he, kk⟩⟩
theorem wp_v2 {v0 v1 : Value} {w : Value} {k z ci : Nat} {fs : List Value} (hf : axF cd pc = some (p0, 52, .ref ci, z, 2, tb, nx)) (hh : h[k]? = some (.inr (.inr (ci, fs)))) (hs : axSum S ≤ 8) (he : E z (.ref k :: [v0, v1]) h (some w) h1) (kk : axW ro E cd nx L (w :: S) h1 Q) : axW ro E cd pc L (v1 :: v0 :: .ref k :: S) h Q := by
  obtain ⟨n, kk⟩ := kk
  exact wp_one hf ⟨n, ⟨ci, [v0, v1], k, S, fs, _, h1, rfl, rfl, rfl, hs, hh, he, kk⟩⟩
theorem wp_s2 {v0 v1 : Value} {w : Value} {z : Nat} (hf : axF cd pc = some (p0, 53, a, z, 2, tb, nx)) (hs : axSum S ≤ 8) (he : E z [v0, v1] h (some w) h1) (kk : axW ro E cd nx L (w :: S) h1 Q) : axW ro E cd pc L (v1 :: v0 :: S) h Q := by
  obtain ⟨n, kk⟩ := kk
  exact wp_one hf ⟨n, ⟨[v0, v1], S, _, h1, rfl, rfl, hs, he, kk⟩⟩
theorem wp_v2v {v0 v1 : Value} {k z ci : Nat} {fs : List Value} (hf : axF cd pc = some (p0, 52, .ref ci, z, 2, tb, nx)) (hh : h[k]? = some (.inr (.inr (ci, fs)))) (hs : axSum S ≤ 8) (he : E z (.ref k :: [v0, v1]) h (none) h1) (kk : axW ro E cd nx L S h1 Q) : axW ro E cd pc L (v1 :: v0 :: .ref k :: S) h Q := by
  obtain ⟨n, kk⟩ := kk
  exact wp_one hf ⟨n, ⟨ci, [v0, v1], k, S, fs, _, h1, rfl, rfl, rfl, hs, hh, he, kk⟩⟩
theorem wp_s2v {v0 v1 : Value} {z : Nat} (hf : axF cd pc = some (p0, 53, a, z, 2, tb, nx)) (hs : axSum S ≤ 8) (he : E z [v0, v1] h (none) h1) (kk : axW ro E cd nx L S h1 Q) : axW ro E cd pc L (v1 :: v0 :: S) h Q := by
  obtain ⟨n, kk⟩ := kk
  exact wp_one hf ⟨n, ⟨[v0, v1], S, _, h1, rfl, rfl, hs, he, kk⟩⟩
theorem wp_v3 {v0 v1 v2 : Value} {w : Value} {k z ci : Nat} {fs : List Value} (hf : axF cd pc = some (p0, 52, .ref ci, z, 3, tb, nx)) (hh : h[k]? = some (.inr (.inr (ci, fs)))) (hs : axSum S ≤ 8) (he : E z (.ref k :: [v0, v1, v2]) h (some w) h1) (kk : axW ro E cd nx L (w :: S) h1 Q) : axW ro E cd pc L (v2 :: v1 :: v0 :: .ref k :: S) h Q := by
  obtain ⟨n, kk⟩ := kk
  exact wp_one hf ⟨n, ⟨ci, [v0, v1, v2], k, S, fs, _, h1, rfl, rfl, rfl, hs, hh, he, kk⟩⟩
theorem wp_s3 {v0 v1 v2 : Value} {w : Value} {z : Nat} (hf : axF cd pc = some (p0, 53, a, z, 3, tb, nx)) (hs : axSum S ≤ 8) (he : E z [v0, v1, v2] h (some w) h1) (kk : axW ro E cd nx L (w :: S) h1 Q) : axW ro E cd pc L (v2 :: v1 :: v0 :: S) h Q := by
  obtain ⟨n, kk⟩ := kk
  exact wp_one hf ⟨n, ⟨[v0, v1, v2], S, _, h1, rfl, rfl, hs, he, kk⟩⟩
theorem wp_v3v {v0 v1 v2 : Value} {k z ci : Nat} {fs : List Value} (hf : axF cd pc = some (p0, 52, .ref ci, z, 3, tb, nx)) (hh : h[k]? = some (.inr (.inr (ci, fs)))) (hs : axSum S ≤ 8) (he : E z (.ref k :: [v0, v1, v2]) h (none) h1) (kk : axW ro E cd nx L S h1 Q) : axW ro E cd pc L (v2 :: v1 :: v0 :: .ref k :: S) h Q := by
  obtain ⟨n, kk⟩ := kk
  exact wp_one hf ⟨n, ⟨ci, [v0, v1, v2], k, S, fs, _, h1, rfl, rfl, rfl, hs, hh, he, kk⟩⟩
theorem wp_s3v {v0 v1 v2 : Value} {z : Nat} (hf : axF cd pc = some (p0, 53, a, z, 3, tb, nx)) (hs : axSum S ≤ 8) (he : E z [v0, v1, v2] h (none) h1) (kk : axW ro E cd nx L S h1 Q) : axW ro E cd pc L (v2 :: v1 :: v0 :: S) h Q := by
  obtain ⟨n, kk⟩ := kk
  exact wp_one hf ⟨n, ⟨[v0, v1, v2], S, _, h1, rfl, rfl, hs, he, kk⟩⟩
theorem wp_s4v {v0 v1 v2 v3 : Value} {z : Nat} (hf : axF cd pc = some (p0, 53, a, z, 4, tb, nx)) (hs : axSum S ≤ 8) (he : E z [v0, v1, v2, v3] h none h1) (kk : axW ro E cd nx L S h1 Q) : axW ro E cd pc L (v3 :: v2 :: v1 :: v0 :: S) h Q := by
  obtain ⟨n, kk⟩ := kk
  exact wp_one hf ⟨n, ⟨[v0, v1, v2, v3], S, _, h1, rfl, rfl, hs, he, kk⟩⟩
theorem wp_i0 {k z : Nat} (hf : axF cd pc = some (p0, 54, a, z, 0, tb, nx)) (hs : axSum S ≤ 8) (he : E z [.ref k] h none h1) (kk : axW ro E cd nx L S h1 Q) : axW ro E cd pc L (.ref k :: S) h Q := by
  obtain ⟨n, kk⟩ := kk
  exact wp_one hf ⟨n, ⟨[], k, S, _, h1, rfl, rfl, hs, he, kk⟩⟩
theorem wp_obj {k : Nat} (hf : axF cd pc = some (p0, 55, a, b, c, tb, nx)) (hs : axSum S ≤ 8) (kk : axW ro E cd nx L S h Q) : axW ro E cd pc L (.ref k :: S) h Q := by
  obtain ⟨n, kk⟩ := kk
  exact wp_one hf ⟨n, ⟨k, S, rfl, hs, kk⟩⟩
theorem wp_cpy {n1 sp dp : Int32} {k0 k1 m0 m1 : Nat} {f g : Nat → Int32} (hf : axF cd pc = some (p0, 56, a, b, c, tb, nx)) (hh0 : h[k0]? = some (.inl (0, m0, f))) (hh1 : h[k1]? = some (.inl (0, m1, g))) (q1 : ¬ sp < 0) (q2 : ¬ dp < 0) (q3 : ¬ n1 < 0) (q4 : sp.toNatClampNeg + n1.toNatClampNeg ≤ m0) (q5 : dp.toNatClampNeg + n1.toNatClampNeg ≤ m1) (hs : axSum S ≤ 8) (he : h.set k1 (.inl (0, m1, va_cpy f g sp.toNatClampNeg dp.toNatClampNeg n1.toNatClampNeg)) = h1) (kk : axW ro E cd nx L S h1 Q) : axW ro E cd pc L (.int n1 :: .int dp :: .ref k1 :: .int sp :: .ref k0 :: S) h Q := by
  obtain ⟨n, kk⟩ := kk
  subst he
  exact wp_one hf ⟨n, ⟨n1, dp, k1, sp, k0, S, m0, m1, f, g, rfl, hh0, hh1, q1, q2, q3, q4, q5, hs, kk⟩⟩
theorem wp_max {x y v : Int32} (hf : axF cd pc = some (p0, 57, a, b, c, tb, nx)) (hs : axSum S ≤ 8) (hv : (if x < y then y else x) = v) (kk : axW ro E cd nx L (.int v :: S) h Q) : axW ro E cd pc L (.int y :: .int x :: S) h Q := by
  obtain ⟨n, kk⟩ := kk
  subst hv
  exact wp_one hf ⟨n, ⟨x, y, S, rfl, hs, kk⟩⟩
theorem wp_min {x y v : Int32} (hf : axF cd pc = some (p0, 58, a, b, c, tb, nx)) (hs : axSum S ≤ 8) (hv : (if y < x then y else x) = v) (kk : axW ro E cd nx L (.int v :: S) h Q) : axW ro E cd pc L (.int y :: .int x :: S) h Q := by
  obtain ⟨n, kk⟩ := kk
  subst hv
  exact wp_one hf ⟨n, ⟨x, y, S, rfl, hs, kk⟩⟩
theorem wp_abs {x v : Int32} (hf : axF cd pc = some (p0, 59, a, b, c, tb, nx)) (hs : axSum S ≤ 8) (hv : (if 0 ≤ x then x else 0 - x) = v) (kk : axW ro E cd nx L (.int v :: S) h Q) : axW ro E cd pc L (.int x :: S) h Q := by
  obtain ⟨n, kk⟩ := kk
  subst hv
  exact wp_one hf ⟨n, ⟨x, S, rfl, hs, kk⟩⟩
end AX12
theorem ev_in {ro : axRo} {d z : Nat} {vs : List Value} {h h1 : axH} {r : Option Value} {M : axM} (hM : axMs[z]? = some M) (ho : axOkA vs = true) (hs : axSz vs ≤ M.2.2.1) {L : axL} (hL : axIn vs M.2.2.1 = L) (hw : axW ro (axEv ro d) M.2.2.2.2.2.2 0 L [] h (fun r' h' => r' = r ∧ h' = h1)) : axEv ro (d + 1) z vs h r h1 := by
  subst hL
  exact ⟨M, hM, ho, hs, hw⟩
/-- what is proved over a loop: W at its head, by a measure that falls -/
theorem ax_ind {σ : Type} (P : σ → Prop) (μ : σ → Nat) (step : ∀ s, (∀ s', μ s' < μ s → P s') → P s) : ∀ s, P s := fun s => by
  have : ∀ n s, μ s < n → P s := by
    intro n
    induction n with
    | zero => intro s h; omega
    | succ n ih => intro s h; exact step s (fun s' h' => ih s' (by omega))
  exact this (μ s + 1) s (Nat.lt_succ_self _)
end
section
/-! The heap of the run: the class' cells 0 to 14, the reference's 15 to 21, behind them the boards that are made later. -/
abbrev axBD : Type := (Nat → Int32) × (Nat → Int32) × (Nat → Int32) × (Nat → Int32) × (Nat → Int32) × (Nat → Int32) × Int32 × Int32 × Int32
abbrev bSt (B : axBD) : Nat → Int32 := B.1
abbrev bTg (B : axBD) : Nat → Int32 := B.2.1
abbrev bRw (B : axBD) : Nat → Int32 := B.2.2.1
abbrev bWr (B : axBD) : Nat → Int32 := B.2.2.2.1
abbrev bBt (B : axBD) : Nat → Int32 := B.2.2.2.2.1
abbrev bNd (B : axBD) : Nat → Int32 := B.2.2.2.2.2.1
abbrev bSg (B : axBD) : Int32 := B.2.2.2.2.2.2.1
abbrev bTn (B : axBD) : Int32 := B.2.2.2.2.2.2.2.1
abbrev bSz (B : axBD) : Int32 := B.2.2.2.2.2.2.2.2
/-- states, next, kept -/
abbrev axYD : Type := (Nat → Option Nat) × Int32 × Int32
/-- signs, length, cursor, last, kind, first, second -/
abbrev axPD : Type := (Nat → Int32) × Int32 × Int32 × Int32 × Int32 × Int32 × Int32
/-- trial, lower, higher, least -/
abbrev axGD : Type := (Nat → Int32) × Int32 × Int32 × Int32
def axAi (n : Nat) (f : Nat → Int32) : axC := .inl (0, n, f)
def axBo (o : Nat) (B : axBD) : axC := .inr (.inr (0, [.ref (o + 1), .ref (o + 2), .ref (o + 3), .ref (o + 4), .ref (o + 5), .ref (o + 6), .int (bSg B), .int (bTn B), .int (bSz B)]))
def hX (B : axBD) (Y : axYD) (sl : Nat → Option Nat) (P : axPD) (G : axGD) (tl : axH) : axH :=
  .inr (.inr (4, [.ref 1, .ref 8, .ref 10, .ref 11, .ref 13])) ::
  .inr (.inr (0, [.ref 2, .ref 3, .ref 4, .ref 5, .ref 6, .ref 7, .int (bSg B), .int (bTn B), .int (bSz B)])) ::
  axAi 3 (bSt B) :: axAi 6 (bTg B) :: axAi 24 (bRw B) :: axAi 24 (bWr B) :: axAi 24 (bBt B) :: axAi 24 (bNd B) ::
  .inr (.inr (1, [.ref 9, .int Y.2.1, .int Y.2.2])) :: .inr (.inl (7, Y.1)) ::
  .inr (.inl (2, sl)) ::
  .inr (.inr (2, [.ref 12, .int P.2.1, .int P.2.2.1, .int P.2.2.2.1, .int P.2.2.2.2.1, .int P.2.2.2.2.2.1, .int P.2.2.2.2.2.2])) :: .inl (1, 80, P.1) ::
  .inr (.inr (3, [.ref 14, .int G.2.1, .int G.2.2.1, .int G.2.2.2])) :: axAi 24 G.1 :: tl
/-- s, history, kept, slots, isSaved, before, pad, length, place, letter, one, other, isTurn, done -/
abbrev axMD : Type := (Nat → Int32) × (Nat → Int32) × Int32 × (Nat → Int32) × (Nat → Int32) × (Nat → Int32) × (Nat → Int32) × Int32 × Int32 × Int32 × Int32 × Int32 × Int32 × Int32
abbrev mS (M : axMD) : Nat → Int32 := M.1
abbrev mHs (M : axMD) : Nat → Int32 := M.2.1
abbrev mKp (M : axMD) : Int32 := M.2.2.1
abbrev mSl (M : axMD) : Nat → Int32 := M.2.2.2.1
abbrev mSv (M : axMD) : Nat → Int32 := M.2.2.2.2.1
abbrev mBf (M : axMD) : Nat → Int32 := M.2.2.2.2.2.1
abbrev mPd (M : axMD) : Nat → Int32 := M.2.2.2.2.2.2.1
abbrev mLn (M : axMD) : Int32 := M.2.2.2.2.2.2.2.1
abbrev mPl (M : axMD) : Int32 := M.2.2.2.2.2.2.2.2.1
abbrev mLt (M : axMD) : Int32 := M.2.2.2.2.2.2.2.2.2.1
abbrev mOn (M : axMD) : Int32 := M.2.2.2.2.2.2.2.2.2.2.1
abbrev mOt (M : axMD) : Int32 := M.2.2.2.2.2.2.2.2.2.2.2.1
abbrev mIt (M : axMD) : Int32 := M.2.2.2.2.2.2.2.2.2.2.2.2.1
abbrev mDn (M : axMD) : Int32 := M.2.2.2.2.2.2.2.2.2.2.2.2.2
def axMO (M : axMD) : axC := .inr (.inr (5, [.ref 16, .ref 17, .int (mKp M), .ref 18, .ref 19, .ref 20, .ref 21, .int (mLn M), .int (mPl M), .int (mLt M), .int (mOn M), .int (mOt M), .int (mIt M), .int (mDn M)]))
def hM (c : Nat → axC) (M : axMD) (tl : axH) : axH :=
  c 0 :: c 1 :: c 2 :: c 3 :: c 4 :: c 5 :: c 6 :: c 7 :: c 8 :: c 9 :: c 10 :: c 11 :: c 12 :: c 13 :: c 14 ::
  .inr (.inr (5, [.ref 16, .ref 17, .int (mKp M), .ref 18, .ref 19, .ref 20, .ref 21, .int (mLn M), .int (mPl M), .int (mLt M), .int (mOn M), .int (mOt M), .int (mIt M), .int (mDn M)])) ::
  axAi 154 (mS M) :: axAi 924 (mHs M) :: axAi 308 (mSl M) :: .inl (2, 2, mSv M) :: axAi 154 (mBf M) :: axAi 80 (mPd M) :: tl
section AX13
variable {ro : axRo} {E : axCall} {cd : List axE} {pc : Nat} {L : axL} {S : List Value} {h h1 : axH} {Q : Option Value → axH → Prop} {p0 b c nx : Nat} {a : Value} {tb : List (Int32 × Nat)}
theorem wp_runk {pc' : Nat} {L' : axL} {S' : List Value} (k : Nat) (hr : axRn cd h k pc L S = (pc', L', S')) (kk : axW ro E cd pc' L' S' h Q) : axW ro E cd pc L S h Q := axRn_ok k pc L S (by rw [hr]; exact kk)
theorem wp_len {k n0 : Nat} {f : Nat → Int32} (hf : axF cd pc = some (p0, 39, a, b, c, tb, nx)) (hh : h[k]? = some (.inl (b, n0, f))) (hb : b < 3) (kk : axW ro E cd nx L (.int (Int32.ofNat n0) :: S) h Q) : axW ro E cd pc L (.ref k :: S) h Q := by
  obtain ⟨n, kk⟩ := kk
  exact wp_one hf ⟨n, Or.inl ⟨k, S, b, n0, f, rfl, hh, hb, kk⟩⟩
variable {d : Nat}
theorem x4_cell {k n0 j : Nat} {f : Nat → Int32} (hh : h[k]? = some (.inl (0, n0, f))) (hj : j < n0) (hn : n0 < 2 ^ 31) : axEv ro (d + 1) kX4_cell [.ref k, .int (nI j)] h (some (.int (f j))) h := by
  refine ev_in rfl rfl (Nat.le_of_ble_eq_true rfl) rfl ?_
  refine wp_runk 1 rfl ?_
  refine wp_iflt rfl (fun q => absurd q (nI_pos (by omega))) (fun _ => ?_)
  refine wp_runk 2 rfl ?_
  refine wp_len rfl hh (by decide) ?_
  refine wp_icge rfl (fun q => absurd q (nI_ge hj hn)) (fun _ => ?_)
  refine wp_runk 2 rfl ?_
  refine wp_ald rfl hh (vp_in_nI hj hn) (by rw [nI_clamp (by omega)]) ?_
  refine wp_runk 1 rfl ?_
  exact wp_ret rfl rfl ⟨rfl, rfl⟩
theorem x0_size0 {B Y sl P G tl} : axEv ro (d + 1) kX0_size [.ref 1] (hX B Y sl P G tl) (some (.int (bSz B))) (hX B Y sl P G tl) := by
  refine ev_in rfl rfl (Nat.le_of_ble_eq_true rfl) rfl ?_
  refine wp_run rfl ?_
  exact wp_ret rfl rfl ⟨rfl, rfl⟩
theorem x0_writtenOf0 {B Y sl P G tl} {j : Nat} (hj : j < 24) : axEv ro (d + 2) kX0_writtenOf [.ref 1, .int (nI j)] (hX B Y sl P G tl) (some (.int (bWr B j))) (hX B Y sl P G tl) := by
  refine ev_in rfl rfl (Nat.le_of_ble_eq_true rfl) rfl ?_
  refine wp_run rfl ?_
  refine wp_s2 rfl (by decide) (x4_cell rfl hj (by decide)) ?_
  refine wp_run rfl ?_
  exact wp_ret rfl rfl ⟨rfl, rfl⟩
end AX13
end
section
def bt (x : Int32) (i : Nat) : Bool := x.toBitVec.getLsbD i
theorem b_ext {x y : Int32} (h : ∀ i, i < 32 → bt x i = bt y i) : x = y := Int32.toBitVec_inj.mp (BitVec.eq_of_getLsbD_eq (fun i hi => h i hi))
theorem b_or (x y : Int32) (i : Nat) : bt (x ||| y) i = (bt x i || bt y i) := by unfold bt; rw [Int32.toBitVec_or, BitVec.getLsbD_or]
theorem b_and (x y : Int32) (i : Nat) : bt (x &&& y) i = (bt x i && bt y i) := by unfold bt; rw [Int32.toBitVec_and, BitVec.getLsbD_and]
theorem b_xor (x y : Int32) (i : Nat) : bt (x ^^^ y) i = (bt x i ^^ bt y i) := by unfold bt; rw [Int32.toBitVec_xor, BitVec.getLsbD_xor]
theorem b_big {x : Int32} {i : Nat} (h : 32 ≤ i) : bt x i = false := BitVec.getLsbD_of_ge _ _ h
theorem b_255 (i : Nat) : bt 255 i = decide (i < 8) := by
  rcases Nat.lt_or_ge i 32 with h | h
  · exact (by decide +kernel : ∀ i, i < 32 → bt 255 i = decide (i < 8)) i h
  · rw [b_big h, decide_eq_false (by omega)]
theorem b_65535 (i : Nat) : bt 65535 i = decide (i < 16) := by
  rcases Nat.lt_or_ge i 32 with h | h
  · exact (by decide +kernel : ∀ i, i < 32 → bt 65535 i = decide (i < 16)) i h
  · rw [b_big h, decide_eq_false (by omega)]
theorem b_m1 : ∀ i, i < 32 → bt (-1) i = true := by decide +kernel
theorem b_0 (i : Nat) : bt 0 i = false := BitVec.getLsbD_zero
theorem s_l : ∀ n, n < 32 → ((nI n &&& 31).toBitVec.smod 32).toNat = n := by decide +kernel
theorem s_u : ∀ n, n < 32 → (((nI n).toUInt32 &&& Int32.toUInt32 31).toBitVec % 32).toNat = n := by decide +kernel
theorem b_shl (n : Nat) (hn : n < 32) (x : Int32) {i : Nat} (hi : i < 32) : bt (x <<< (nI n &&& 31)) i = (decide (n ≤ i) && bt x (i - n)) := by
  unfold bt
  rw [Int32.toBitVec_shiftLeft]
  show (x.toBitVec <<< ((nI n &&& 31).toBitVec.smod 32).toNat).getLsbD i = _
  rw [s_l n hn, BitVec.getLsbD_shiftLeft]
  rcases Nat.lt_or_ge i n with h | h
  · simp [h, Nat.not_le.mpr h]
  · simp [hi, h, Nat.not_lt.mpr h]
theorem b_ushr (n : Nat) (hn : n < 32) (x : Int32) (i : Nat) : bt ((x.toUInt32 >>> ((nI n).toUInt32 &&& Int32.toUInt32 31)).toInt32) i = bt x (n + i) := by
  show (x.toUInt32 >>> ((nI n).toUInt32 &&& Int32.toUInt32 31)).toBitVec.getLsbD i = x.toUInt32.toBitVec.getLsbD (n + i)
  rw [UInt32.toBitVec_shiftRight]
  show (x.toUInt32.toBitVec >>> (((nI n).toUInt32 &&& Int32.toUInt32 31).toBitVec % 32).toNat).getLsbD i = _
  rw [s_u n hn, BitVec.getLsbD_ushiftRight]
theorem b_sshr (n : Nat) (hn : n < 32) (x : Int32) {i : Nat} (hi : i < 32) : bt (x >>> (nI n &&& 31)) i = if n + i < 32 then bt x (n + i) else bt x 31 := by
  unfold bt
  rw [Int32.toBitVec_shiftRight]
  show (x.toBitVec.sshiftRight ((nI n &&& 31).toBitVec.smod 32).toNat).getLsbD i = _
  rw [s_l n hn, BitVec.getLsbD_sshiftRight, BitVec.msb_eq_getLsbD_last]
  simp [hi]
/-! own rows on bits -/
def bi (k : Nat) : Int32 := (1 : Int32) <<< (nI k &&& 31)
theorem bt_1 (i : Nat) : bt 1 i = decide (i = 0) := by
  rcases Nat.lt_or_ge i 32 with h | h
  · exact (by decide +kernel : ∀ i, i < 32 → bt 1 i = decide (i = 0)) i h
  · rw [b_big h, decide_eq_false (by omega)]
theorem bt_bi {k : Nat} (hk : k < 32) (i : Nat) : bt (bi k) i = decide (i = k) := by
  rcases Nat.lt_or_ge i 32 with h | h
  · unfold bi
    rw [b_shl k hk 1 h, bt_1]
    by_cases e : i = k
    · subst e; simp
    · by_cases e2 : k ≤ i
      · have : ¬ i - k = 0 := by omega
        simp [e, this]
      · simp [e, e2]
  · rw [b_big h, decide_eq_false (by omega)]
theorem bt_has {x : Int32} {k : Nat} (hk : k < 32) : (x >>> (nI k &&& 31)) &&& 1 = if bt x k = true then 1 else 0 := by
  apply b_ext
  intro i hi
  rw [b_and, bt_1]
  by_cases e : i = 0
  · subst e
    rw [b_sshr k hk x hi, if_pos (by omega), Nat.add_zero]
    cases bt x k
    · simp [b_0]
    · simp [bt_1]
  · cases bt x k
    · simp [e, b_0]
    · simp [e, bt_1]
theorem bt_m1 (i : Nat) : bt (-1) i = decide (i < 32) := by
  rcases Nat.lt_or_ge i 32 with h | h
  · rw [b_m1 i h]; simp [h]
  · rw [b_big h, decide_eq_false (by omega)]
theorem bt_set {x : Int32} {k : Nat} (hk : k < 32) (i : Nat) : bt (x ||| bi k) i = (bt x i || decide (i = k)) := by rw [b_or, bt_bi hk]
theorem bt_clr {x : Int32} {k : Nat} (hk : k < 32) (i : Nat) : bt (x &&& (bi k ^^^ (-1))) i = (bt x i && !decide (i = k)) := by
  rw [b_and, b_xor, bt_bi hk, bt_m1]
  rcases Nat.lt_or_ge i 32 with h | h
  · simp [h]
  · rw [b_big h]; simp
theorem bt_flp {x : Int32} {k : Nat} (hk : k < 32) (i : Nat) : bt (x ^^^ bi k) i = (bt x i ^^ decide (i = k)) := by rw [b_xor, bt_bi hk]
theorem bt_ext {x y : Int32} (h : ∀ i, i < 32 → (bt x i = true ↔ bt y i = true)) : x = y := b_ext fun i hi => by
  have := h i hi
  cases hx : bt x i <;> cases hy : bt y i <;> simp_all
theorem nI_div {a b : Nat} (ha : a < 2 ^ 31) (h0 : 0 < b) (hb : b < 2 ^ 31) : nI a / nI b = nI (a / b) := pk_div ha h0 hb
theorem nI_max {a b : Nat} (ha : a < 2 ^ 31) (hb : b < 2 ^ 31) : (if nI a < nI b then nI b else nI a) = nI (max a b) := by
  by_cases h : a < b
  · rw [if_pos ((nI_ltI ha hb).mpr h), Nat.max_eq_right (Nat.le_of_lt h)]
  · rw [if_neg (fun q => h ((nI_ltI ha hb).mp q)), Nat.max_eq_left (by omega)]
theorem nI_min {a b : Nat} (ha : a < 2 ^ 31) (hb : b < 2 ^ 31) : (if nI b < nI a then nI b else nI a) = nI (min a b) := by
  by_cases h : b < a
  · rw [if_pos ((nI_ltI hb ha).mpr h), Nat.min_eq_right (Nat.le_of_lt h)]
  · rw [if_neg (fun q => h ((nI_ltI hb ha).mp q)), Nat.min_eq_left (by omega)]
/-- ints that are small integers -/
def zI (z : Int) : Int32 := Int32.ofInt z
theorem zI_toInt {z : Int} (h0 : -2147483648 ≤ z) (h1 : z < 2147483648) : (zI z).toInt = z := Int32.toInt_ofInt_of_le (by omega) (by omega)
theorem zI_nI (n : Nat) : zI (n : Int) = nI n := by
  unfold zI nI
  rfl
theorem zI_lt {a b : Int} (ha : -2147483648 ≤ a ∧ a < 2147483648) (hb : -2147483648 ≤ b ∧ b < 2147483648) : zI a < zI b ↔ a < b := by rw [Int32.lt_iff_toInt_lt, zI_toInt ha.1 ha.2, zI_toInt hb.1 hb.2]
theorem zI_le {a b : Int} (ha : -2147483648 ≤ a ∧ a < 2147483648) (hb : -2147483648 ≤ b ∧ b < 2147483648) : zI a ≤ zI b ↔ a ≤ b := by rw [Int32.le_iff_toInt_le, zI_toInt ha.1 ha.2, zI_toInt hb.1 hb.2]
theorem zI_add (a b : Int) : zI a + zI b = zI (a + b) := (Int32.ofInt_add a b).symm
theorem zI_sub (a b : Int) : zI a - zI b = zI (a - b) := (Int32.ofInt_sub a b).symm
theorem zI_neg (a : Int) : -zI a = zI (-a) := (Int32.ofInt_neg a).symm
theorem zI_0 : (0 : Int32) = zI 0 := rfl
theorem zI_abs {z : Int} (h0 : -2147483648 < z) (h1 : z < 2147483648) : (if 0 ≤ zI z then zI z else 0 - zI z) = nI z.natAbs := by
  have hle : (0 : Int32) ≤ zI z ↔ 0 ≤ z := by rw [zI_0, zI_le ⟨by omega, by omega⟩ ⟨by omega, h1⟩]
  rw [← zI_nI]
  by_cases h : 0 ≤ z
  · rw [if_pos (hle.mpr h)]; congr 1; omega
  · rw [if_neg (fun q => h (hle.mp q)), zI_0, zI_sub]; congr 1; omega
/-- how many of the first n hold -/
def bc (p : Nat → Bool) : Nat → Nat
  | 0 => 0
  | n + 1 => bc p n + (if p n = true then 1 else 0)
theorem bc_le (p : Nat → Bool) : ∀ n, bc p n ≤ n
  | 0 => Nat.le_refl _
  | n + 1 => by
    have := bc_le p n
    rw [bc]
    split <;> omega
theorem bc_cong {p q : Nat → Bool} : ∀ (n : Nat), (∀ i, i < n → p i = q i) → bc p n = bc q n
  | 0, _ => rfl
  | n + 1, h => by rw [bc, bc, bc_cong n (fun i hi => h i (by omega)), h n (by omega)]
theorem bc_add (p : Nat → Bool) (m : Nat) : ∀ n, bc p (m + n) = bc p m + bc (fun i => p (m + i)) n
  | 0 => by simp [bc]
  | n + 1 => by
    rw [show m + (n + 1) = (m + n) + 1 by omega, bc, bc, bc_add p m n]
    omega
/-- prefix sums -/
def aS (f : Nat → Nat) : Nat → Nat
  | 0 => 0
  | n + 1 => aS f n + f n
theorem aS_cong {f g : Nat → Nat} : ∀ (n : Nat), (∀ i, i < n → f i = g i) → aS f n = aS g n
  | 0, _ => rfl
  | n + 1, h => by rw [aS, aS, aS_cong n (fun i hi => h i (by omega)), h n (by omega)]
theorem aS_le {f : Nat → Nat} {c : Nat} : ∀ (n : Nat), (∀ i, i < n → f i ≤ c) → aS f n ≤ n * c
  | 0, _ => by simp [aS]
  | n + 1, h => by
    have h1 := aS_le n (fun i hi => h i (by omega))
    have h2 := h n (by omega)
    rw [aS, Nat.succ_mul]; omega
theorem aS_mono {f : Nat → Nat} {m : Nat} : ∀ {n : Nat}, m ≤ n → aS f m ≤ aS f n
  | 0, h => by rw [show m = 0 by omega]; exact Nat.le_refl _
  | n + 1, h => by
    by_cases e : m = n + 1
    · rw [e]; exact Nat.le_refl _
    · have := aS_mono (f := f) (show m ≤ n by omega)
      rw [aS]; omega
end
section
/-! The state of a board in plain numbers, and how the class' arrays and the reference's row hold it. -/
/-- slugs, the row, written, beats, needs (sets), turns, PAGE, SLACK, TRIM, targets -/
abbrev axAD : Type := Nat × (Nat → Nat) × (Nat → Nat) × (Nat → Nat) × (Nat → Int32) × (Nat → Bool) × Nat × Nat × Nat × (Nat → Nat)
abbrev aN (A : axAD) : Nat := A.1
abbrev aR (A : axAD) : Nat → Nat := A.2.1
abbrev aW (A : axAD) : Nat → Nat := A.2.2.1
abbrev aB (A : axAD) : Nat → Nat := A.2.2.2.1
abbrev aD (A : axAD) : Nat → Int32 := A.2.2.2.2.1
abbrev aT (A : axAD) : Nat → Bool := A.2.2.2.2.2.1
abbrev aPg (A : axAD) : Nat := A.2.2.2.2.2.2.1
abbrev aSl (A : axAD) : Nat := A.2.2.2.2.2.2.2.1
abbrev aTr (A : axAD) : Nat := A.2.2.2.2.2.2.2.2.1
abbrev aTg (A : axAD) : Nat → Nat := A.2.2.2.2.2.2.2.2.2
/-- the slug k is there -/
def aIn (A : axAD) (k : Nat) : Prop := ∃ i, i < aN A ∧ aR A i = k
/-- what holds of every board -/
def aOk (A : axAD) : Prop :=
  aN A ≤ 24 ∧ (∀ i, i < aN A → aR A i < 24) ∧ (∀ i j, i < aN A → j < aN A → aR A i = aR A j → i = j) ∧
  (∀ i, i < aN A → 1 ≤ aB A (aR A i) ∧ aB A (aR A i) ≤ aW A (aR A i) ∧ aW A (aR A i) ≤ 99) ∧
  (∀ i k, i < aN A → bt (aD A (aR A i)) k = true → ∃ j, j < i ∧ aR A j = k) ∧
  (4 ≤ aPg A ∧ aPg A ≤ 60) ∧ aSl A ≤ 20 ∧ aTr A ≤ 90 ∧ (∀ a, a < 6 → 1 ≤ aTg A a ∧ aTg A a ≤ 999)
/-- the class' arrays hold it -/
def CR (B : axBD) (A : axAD) : Prop :=
  bSz B = nI (aN A) ∧ (∀ i, i < aN A → bRw B i = nI (aR A i)) ∧
  (∀ i, i < aN A → bWr B (aR A i) = nI (aW A (aR A i)) ∧ bBt B (aR A i) = nI (aB A (aR A i)) ∧ bNd B (aR A i) = aD A (aR A i)) ∧
  (∀ k, bt (bSg B) k = true ↔ aIn A k) ∧ (∀ k, bt (bTn B) k = true ↔ (aIn A k ∧ aT A k = true)) ∧
  (bSt B 0 = nI (aPg A) ∧ bSt B 1 = nI (aSl A) ∧ bSt B 2 = nI (aTr A)) ∧ (∀ a, a < 6 → bTg B a = nI (aTg A a))
/-- the reference's row of numbers holds it -/
def MR (s : Nat → Int32) (A : axAD) : Prop :=
  s 0 = nI (aN A) ∧ (∀ i, i < aN A → s (10 + i) = nI (aR A i)) ∧
  (∀ i, i < aN A → s (35 + 5 * aR A i) = nI (aW A (aR A i)) ∧ s (36 + 5 * aR A i) = nI (aB A (aR A i)) ∧ s (37 + 5 * aR A i) = (if aT A (aR A i) = true then 1 else 0) ∧ s (38 + 5 * aR A i) = aD A (aR A i)) ∧
  (∀ k, k < 24 → (aIn A k → s (34 + 5 * k) = 1) ∧ (¬ aIn A k → s (34 + 5 * k) = 0)) ∧
  (s 1 = nI (aPg A) ∧ s 2 = nI (aSl A) ∧ s 3 = nI (aTr A)) ∧ (∀ a, a < 6 → s (4 + a) = nI (aTg A a))
section AX15
variable {A : axAD} {B : axBD}
theorem aOk.n (h : aOk A) : aN A ≤ 24 := h.1
theorem aOk.r (h : aOk A) {i : Nat} (hi : i < aN A) : aR A i < 24 := h.2.1 i hi
theorem aOk.inj (h : aOk A) {i j : Nat} (hi : i < aN A) (hj : j < aN A) (e : aR A i = aR A j) : i = j := h.2.2.1 i j hi hj e
theorem aOk.b (h : aOk A) {i : Nat} (hi : i < aN A) : 1 ≤ aB A (aR A i) ∧ aB A (aR A i) ≤ aW A (aR A i) ∧ aW A (aR A i) ≤ 99 := h.2.2.2.1 i hi
theorem aOk.d (h : aOk A) {i k : Nat} (hi : i < aN A) (hk : bt (aD A (aR A i)) k = true) : ∃ j, j < i ∧ aR A j = k := h.2.2.2.2.1 i k hi hk
theorem aOk.pg (h : aOk A) : 4 ≤ aPg A ∧ aPg A ≤ 60 := h.2.2.2.2.2.1
theorem aOk.sl (h : aOk A) : aSl A ≤ 20 := h.2.2.2.2.2.2.1
theorem aOk.tr (h : aOk A) : aTr A ≤ 90 := h.2.2.2.2.2.2.2.1
theorem aOk.tg (h : aOk A) {a : Nat} (ha : a < 6) : 1 ≤ aTg A a ∧ aTg A a ≤ 999 := h.2.2.2.2.2.2.2.2 a ha
theorem cr_sz (h : CR B A) : bSz B = nI (aN A) := h.1
theorem cr_rw (h : CR B A) {i : Nat} (hi : i < aN A) : bRw B i = nI (aR A i) := h.2.1 i hi
theorem cr_wr (h : CR B A) {i : Nat} (hi : i < aN A) : bWr B (aR A i) = nI (aW A (aR A i)) := (h.2.2.1 i hi).1
theorem cr_bt (h : CR B A) {i : Nat} (hi : i < aN A) : bBt B (aR A i) = nI (aB A (aR A i)) := (h.2.2.1 i hi).2.1
theorem cr_nd (h : CR B A) {i : Nat} (hi : i < aN A) : bNd B (aR A i) = aD A (aR A i) := (h.2.2.1 i hi).2.2
theorem cr_sg (h : CR B A) (k : Nat) : bt (bSg B) k = true ↔ aIn A k := h.2.2.2.1 k
theorem cr_tn (h : CR B A) (k : Nat) : bt (bTn B) k = true ↔ (aIn A k ∧ aT A k = true) := h.2.2.2.2.1 k
theorem cr_pg (h : CR B A) : bSt B 0 = nI (aPg A) := h.2.2.2.2.2.1.1
theorem cr_sl (h : CR B A) : bSt B 1 = nI (aSl A) := h.2.2.2.2.2.1.2.1
theorem cr_tr (h : CR B A) : bSt B 2 = nI (aTr A) := h.2.2.2.2.2.1.2.2
theorem cr_tg (h : CR B A) {a : Nat} (ha : a < 6) : bTg B a = nI (aTg A a) := h.2.2.2.2.2.2 a ha
theorem cr_tnr (h : CR B A) {i : Nat} (hi : i < aN A) : bt (bTn B) (aR A i) = aT A (aR A i) := by
  have := cr_tn h (aR A i)
  cases h1 : bt (bTn B) (aR A i) <;> cases h2 : aT A (aR A i) <;> rw [h1, h2] at this <;> simp at this
  all_goals first | rfl | exact absurd ⟨i, hi, rfl⟩ this
variable {s : Nat → Int32}
theorem mr_sz (h : MR s A) : s 0 = nI (aN A) := h.1
theorem mr_rw (h : MR s A) {i : Nat} (hi : i < aN A) : s (10 + i) = nI (aR A i) := h.2.1 i hi
theorem mr_wr (h : MR s A) {i : Nat} (hi : i < aN A) : s (35 + 5 * aR A i) = nI (aW A (aR A i)) := (h.2.2.1 i hi).1
theorem mr_bt (h : MR s A) {i : Nat} (hi : i < aN A) : s (36 + 5 * aR A i) = nI (aB A (aR A i)) := (h.2.2.1 i hi).2.1
theorem mr_tn (h : MR s A) {i : Nat} (hi : i < aN A) : s (37 + 5 * aR A i) = (if aT A (aR A i) = true then 1 else 0) := (h.2.2.1 i hi).2.2.1
theorem mr_nd (h : MR s A) {i : Nat} (hi : i < aN A) : s (38 + 5 * aR A i) = aD A (aR A i) := (h.2.2.1 i hi).2.2.2
theorem mr_in (h : MR s A) {k : Nat} (hk : k < 24) (hi : aIn A k) : s (34 + 5 * k) = 1 := (h.2.2.2.1 k hk).1 hi
theorem mr_out (h : MR s A) {k : Nat} (hk : k < 24) (hi : ¬ aIn A k) : s (34 + 5 * k) = 0 := (h.2.2.2.1 k hk).2 hi
theorem mr_pg (h : MR s A) : s 1 = nI (aPg A) := h.2.2.2.2.1.1
theorem mr_sl (h : MR s A) : s 2 = nI (aSl A) := h.2.2.2.2.1.2.1
theorem mr_tr (h : MR s A) : s 3 = nI (aTr A) := h.2.2.2.2.1.2.2
theorem mr_tg (h : MR s A) {a : Nat} (ha : a < 6) : s (4 + a) = nI (aTg A a) := h.2.2.2.2.2 a ha
end AX15
/-- beats ahead of a place; turns ahead of it; what can be trimmed of a slug; and of all ahead of a place -/
def aBeg (A : axAD) : Nat → Nat := aS (fun i => aB A (aR A i))
def aAct (A : axAD) : Nat → Nat := aS (fun i => if aT A (aR A i) = true then 1 else 0)
def aCan (A : axAD) (k : Nat) : Nat := aB A k - max 1 (aW A k - aW A k * aTr A / 100)
def aRm (A : axAD) : Nat → Nat := aS (fun i => aCan A (aR A i))
theorem aBeg_le {A : axAD} (h : aOk A) {p : Nat} (hp : p ≤ aN A) : aBeg A p ≤ p * 99 := aS_le p fun i hi => by have := h.b (show i < aN A by omega); omega
theorem aAct_le {A : axAD} (p : Nat) : aAct A p ≤ p := by
  have := aS_le (f := fun i => if aT A (aR A i) = true then 1 else 0) (c := 1) p (fun i _ => by split <;> omega)
  unfold aAct; omega
theorem aRm_le {A : axAD} (h : aOk A) {p : Nat} (hp : p ≤ aN A) : aRm A p ≤ p * 99 := aS_le p fun i hi => by have := h.b (show i < aN A by omega); unfold aCan; omega
end
section
/-! THE CLASS: helpers, and what only reads the board (1). -/
section AX16
variable {ro : axRo} {d : Nat} {h h1 : axH} {B : axBD} {Y : axYD} {sl : Nat → Option Nat} {P : axPD} {G : axGD} {tl : axH} {A : axAD}
theorem nlt24 {k : Nat} (h : k < 24) : ¬ (24 : Int32) ≤ nI k := nI_ge (b := 24) h (by omega)
theorem x4_cellR {j k : Nat} (hj : j < 3) (hk : k < (ro j).1) (hn : (ro j).1 < 2 ^ 31) : axEv ro (d + 1) kX4_cell [.retAddr j, .int (nI k)] h (some (.int ((ro j).2 k))) h := by
  refine ev_in rfl rfl (Nat.le_of_ble_eq_true rfl) rfl ?_
  refine wp_runk 1 rfl ?_
  refine wp_iflt rfl (fun hz_ => absurd hz_ (nI_pos (by omega))) (fun _ => ?_)
  refine wp_runk 2 rfl ?_
  refine wp_lenR rfl hj ?_
  refine wp_icge rfl (fun hz_ => absurd hz_ (nI_ge hk hn)) (fun _ => ?_)
  refine wp_runk 2 rfl ?_
  refine wp_aldR rfl hj (vp_in_nI hk hn) (by rw [nI_clamp (by omega)]) ?_
  refine wp_runk 1 rfl ?_
  exact wp_ret rfl rfl ⟨rfl, rfl⟩
theorem x4_store {k n0 j : Nat} {f : Nat → Int32} {v : Int32} (hh : h[k]? = some (.inl (0, n0, f))) (hj : j < n0) (hn : n0 < 2 ^ 31) (hs : h.set k (.inl (0, n0, upd f j v)) = h1) : axEv ro (d + 1) kX4_store [.ref k, .int (nI j), .int v] h none h1 := by
  refine ev_in rfl rfl (Nat.le_of_ble_eq_true rfl) rfl ?_
  refine wp_runk 1 rfl ?_
  refine wp_iflt rfl (fun hz_ => absurd hz_ (nI_pos (by omega))) (fun _ => ?_)
  refine wp_runk 2 rfl ?_
  refine wp_len rfl hh (by decide) ?_
  refine wp_icge rfl (fun hz_ => absurd hz_ (nI_ge hj hn)) (fun _ => ?_)
  refine wp_runk 3 rfl ?_
  refine wp_ast (h1 := h1) rfl hh (vp_in_nI hj hn) rfl (by rw [nI_clamp (by omega)]; exact hs) ?_
  exact wp_retv rfl ⟨rfl, rfl⟩
theorem x4_bit {k : Nat} (hk : k < 24) : axEv ro (d + 1) kX4_bit [.int (nI k)] h (some (.int (bi k))) h := by
  refine ev_in rfl rfl (Nat.le_of_ble_eq_true rfl) rfl ?_
  refine wp_run rfl ?_
  refine wp_iflt rfl (fun hz_ => absurd hz_ (nI_pos (by omega))) (fun _ => ?_)
  refine wp_run rfl ?_
  refine wp_run rfl ?_
  refine wp_icge rfl (fun hz_ => absurd hz_ (nlt24 hk)) (fun _ => ?_)
  refine wp_run rfl ?_
  refine wp_run rfl ?_
  exact wp_ret rfl rfl ⟨rfl, rfl⟩
theorem x4_contains_in {x : Int32} {k : Nat} (hk : k < 24) : axEv ro (d + 1) kX4_contains [.int x, .int (nI k)] h (some (.int (if bt x k = true then 1 else 0))) h := by
  refine ev_in rfl rfl (Nat.le_of_ble_eq_true rfl) rfl ?_
  refine wp_run rfl ?_
  refine wp_iflt rfl (fun hz_ => absurd hz_ (nI_pos (by omega))) (fun _ => ?_)
  refine wp_run rfl ?_
  refine wp_run rfl ?_
  refine wp_icge rfl (fun hz_ => absurd hz_ (nlt24 hk)) (fun _ => ?_)
  refine wp_run rfl ?_
  refine wp_run rfl ?_
  rw [bt_has (by omega)]
  by_cases hb : bt x k = true
  · rw [if_pos hb]
    refine wp_ifeq rfl (fun hz_ => absurd hz_ ((by decide : ¬ (1 : Int32) = 0))) (fun _ => ?_)
    refine wp_run rfl ?_
    refine wp_run rfl ?_
    exact wp_ret rfl rfl ⟨rfl, rfl⟩
  · rw [if_neg hb]
    refine wp_ifeq rfl (fun _ => ?_) (fun hz_ => absurd (rfl) hz_)
    refine wp_run rfl ?_
    refine wp_run rfl ?_
    exact wp_ret rfl rfl ⟨rfl, rfl⟩
theorem x4_contains_out {x y : Int32} (hy : y < 0 ∨ 24 ≤ y) : axEv ro (d + 1) kX4_contains [.int x, .int y] h (some (.int 0)) h := by
  refine ev_in rfl rfl (Nat.le_of_ble_eq_true rfl) rfl ?_
  refine wp_run rfl ?_
  refine wp_iflt rfl (fun q => ?_) (fun q => ?_)
  · refine wp_run rfl ?_
    exact wp_ret rfl rfl ⟨rfl, rfl⟩
  · refine wp_run rfl ?_
    refine wp_icge rfl (fun q2 => ?_) (fun q2 => ?_)
    · refine wp_run rfl ?_
      exact wp_ret rfl rfl ⟨rfl, rfl⟩
    · exact absurd hy (fun z => z.elim q q2)
/-! the board -/
theorem x0_has_in (hO : aOk A) (hC : CR B A) {i : Nat} (hi : i < aN A) : axEv ro (d + 2) kX0_has [.ref 1, .int (nI (aR A i))] (hX B Y sl P G tl) (some (.int 1)) (hX B Y sl P G tl) := by
  refine ev_in rfl rfl (Nat.le_of_ble_eq_true rfl) rfl ?_
  refine wp_run rfl ?_
  refine wp_s2 rfl (Nat.le_of_ble_eq_true rfl) (x4_contains_in (hO.r hi)) ?_
  refine wp_run rfl ?_
  rw [if_pos ((cr_sg hC _).mpr ⟨i, hi, rfl⟩)]
  exact wp_ret rfl rfl ⟨rfl, rfl⟩
theorem x0_has_out (hC : CR B A) {y : Int32} (hy : ∀ i, i < aN A → y ≠ nI (aR A i)) : axEv ro (d + 2) kX0_has [.ref 1, .int y] (hX B Y sl P G tl) (some (.int 0)) (hX B Y sl P G tl) := by
  rcases pk_ix y (show 24 < 2 ^ 31 by omega) with h | h | ⟨k, hk, rfl⟩
  · refine ev_in rfl rfl (Nat.le_of_ble_eq_true rfl) rfl ?_
    refine wp_run rfl ?_
    refine wp_s2 rfl (Nat.le_of_ble_eq_true rfl) (x4_contains_out (Or.inl h)) ?_
    refine wp_run rfl ?_
    exact wp_ret rfl rfl ⟨rfl, rfl⟩
  · refine ev_in rfl rfl (Nat.le_of_ble_eq_true rfl) rfl ?_
    refine wp_run rfl ?_
    refine wp_s2 rfl (Nat.le_of_ble_eq_true rfl) (x4_contains_out (Or.inr h)) ?_
    refine wp_run rfl ?_
    exact wp_ret rfl rfl ⟨rfl, rfl⟩
  · refine ev_in rfl rfl (Nat.le_of_ble_eq_true rfl) rfl ?_
    refine wp_run rfl ?_
    refine wp_s2 rfl (Nat.le_of_ble_eq_true rfl) (x4_contains_in hk) ?_
    refine wp_run rfl ?_
    rw [if_neg (fun q => by obtain ⟨i, hi, e⟩ := (cr_sg hC k).mp q; exact hy i hi (by rw [e]))]
    exact wp_ret rfl rfl ⟨rfl, rfl⟩
theorem x0_isTurn (hO : aOk A) (hC : CR B A) {i : Nat} (hi : i < aN A) : axEv ro (d + 2) kX0_isTurn [.ref 1, .int (nI (aR A i))] (hX B Y sl P G tl) (some (.int (if aT A (aR A i) = true then 1 else 0))) (hX B Y sl P G tl) := by
  refine ev_in rfl rfl (Nat.le_of_ble_eq_true rfl) rfl ?_
  refine wp_run rfl ?_
  refine wp_s2 rfl (Nat.le_of_ble_eq_true rfl) (x4_contains_in (hO.r hi)) ?_
  refine wp_run rfl ?_
  rw [cr_tnr hC hi]
  cases aT A (aR A i)
  · exact wp_ret rfl rfl ⟨rfl, rfl⟩
  · exact wp_ret rfl rfl ⟨rfl, rfl⟩
theorem x0_writtenOf (hO : aOk A) (hC : CR B A) {i : Nat} (hi : i < aN A) : axEv ro (d + 2) kX0_writtenOf [.ref 1, .int (nI (aR A i))] (hX B Y sl P G tl) (some (.int (nI (aW A (aR A i))))) (hX B Y sl P G tl) := by
  refine ev_in rfl rfl (Nat.le_of_ble_eq_true rfl) rfl ?_
  refine wp_run rfl ?_
  refine wp_s2 rfl (Nat.le_of_ble_eq_true rfl) (x4_cell rfl (hO.r hi) (by decide)) ?_
  refine wp_run rfl ?_
  exact wp_ret rfl rfl ⟨by rw [cr_wr hC hi], rfl⟩
theorem x0_beatsOf (hO : aOk A) (hC : CR B A) {i : Nat} (hi : i < aN A) : axEv ro (d + 2) kX0_beatsOf [.ref 1, .int (nI (aR A i))] (hX B Y sl P G tl) (some (.int (nI (aB A (aR A i))))) (hX B Y sl P G tl) := by
  refine ev_in rfl rfl (Nat.le_of_ble_eq_true rfl) rfl ?_
  refine wp_run rfl ?_
  refine wp_s2 rfl (Nat.le_of_ble_eq_true rfl) (x4_cell rfl (hO.r hi) (by decide)) ?_
  refine wp_run rfl ?_
  exact wp_ret rfl rfl ⟨by rw [cr_bt hC hi], rfl⟩
theorem x0_needsOf (hO : aOk A) (hC : CR B A) {i : Nat} (hi : i < aN A) : axEv ro (d + 2) kX0_needsOf [.ref 1, .int (nI (aR A i))] (hX B Y sl P G tl) (some (.int (aD A (aR A i)))) (hX B Y sl P G tl) := by
  refine ev_in rfl rfl (Nat.le_of_ble_eq_true rfl) rfl ?_
  refine wp_run rfl ?_
  refine wp_s2 rfl (Nat.le_of_ble_eq_true rfl) (x4_cell rfl (hO.r hi) (by decide)) ?_
  refine wp_run rfl ?_
  exact wp_ret rfl rfl ⟨by rw [cr_nd hC hi], rfl⟩
theorem x0_settingOf {j : Nat} (hj : j < 3) : axEv ro (d + 2) kX0_settingOf [.ref 1, .int (nI j)] (hX B Y sl P G tl) (some (.int (bSt B j))) (hX B Y sl P G tl) := by
  refine ev_in rfl rfl (Nat.le_of_ble_eq_true rfl) rfl ?_
  refine wp_run rfl ?_
  refine wp_s2 rfl (Nat.le_of_ble_eq_true rfl) (x4_cell rfl hj (by decide)) ?_
  refine wp_run rfl ?_
  exact wp_ret rfl rfl ⟨rfl, rfl⟩
theorem x0_pageBeats (hO : aOk A) (hC : CR B A) : axEv ro (d + 3) kX0_pageBeats [.ref 1] (hX B Y sl P G tl) (some (.int (nI (aPg A)))) (hX B Y sl P G tl) := by
  have := hO.pg
  refine ev_in rfl rfl (Nat.le_of_ble_eq_true rfl) rfl ?_
  refine wp_run rfl ?_
  refine wp_v1 rfl rfl (Nat.le_of_ble_eq_true rfl) (x0_settingOf (j := 0) (by omega)) ?_
  refine wp_run rfl ?_
  rw [cr_pg hC]
  refine wp_max rfl (Nat.le_of_ble_eq_true rfl) ((nI_max (a := 1) (by omega) (by omega))) ?_
  refine wp_run rfl ?_
  exact wp_ret rfl rfl ⟨by rw [Nat.max_eq_right (by omega)], rfl⟩
theorem x0_size (hC : CR B A) : axEv ro (d + 1) kX0_size [.ref 1] (hX B Y sl P G tl) (some (.int (nI (aN A)))) (hX B Y sl P G tl) := by
  refine ev_in rfl rfl (Nat.le_of_ble_eq_true rfl) rfl ?_
  refine wp_run rfl ?_
  exact wp_ret rfl rfl ⟨by rw [← cr_sz hC], rfl⟩
theorem x0_allSlugs : axEv ro (d + 1) kX0_allSlugs [.ref 1] (hX B Y sl P G tl) (some (.int (bSg B))) (hX B Y sl P G tl) := by
  refine ev_in rfl rfl (Nat.le_of_ble_eq_true rfl) rfl ?_
  refine wp_run rfl ?_
  exact wp_ret rfl rfl ⟨rfl, rfl⟩
theorem x0_allTurns : axEv ro (d + 1) kX0_allTurns [.ref 1] (hX B Y sl P G tl) (some (.int (bTn B))) (hX B Y sl P G tl) := by
  refine ev_in rfl rfl (Nat.le_of_ble_eq_true rfl) rfl ?_
  refine wp_run rfl ?_
  exact wp_ret rfl rfl ⟨rfl, rfl⟩
theorem x0_slugIn_in (hO : aOk A) (hC : CR B A) {i : Nat} (hi : i < aN A) : axEv ro (d + 2) kX0_slugIn [.ref 1, .int (nI i)] (hX B Y sl P G tl) (some (.int (nI (aR A i)))) (hX B Y sl P G tl) := by
  have := hO.n
  refine ev_in rfl rfl (Nat.le_of_ble_eq_true rfl) rfl ?_
  refine wp_run rfl ?_
  refine wp_iflt rfl (fun hz_ => absurd hz_ (nI_pos (by omega))) (fun _ => ?_)
  refine wp_run rfl ?_
  refine wp_run rfl ?_
  rw [cr_sz hC]
  refine wp_icge rfl (fun hz_ => absurd hz_ (nI_ge hi (by omega))) (fun _ => ?_)
  refine wp_run rfl ?_
  refine wp_run rfl ?_
  refine wp_s2 rfl (Nat.le_of_ble_eq_true rfl) (x4_cell rfl (show i < 24 by omega) (by decide)) ?_
  refine wp_run rfl ?_
  exact wp_ret rfl rfl ⟨by rw [cr_rw hC hi], rfl⟩
theorem x0_slugIn_out (hC : CR B A) {y : Int32} (hy : y < 0 ∨ nI (aN A) ≤ y) : axEv ro (d + 2) kX0_slugIn [.ref 1, .int y] (hX B Y sl P G tl) (some (.int (-1))) (hX B Y sl P G tl) := by
  refine ev_in rfl rfl (Nat.le_of_ble_eq_true rfl) rfl ?_
  refine wp_run rfl ?_
  refine wp_iflt rfl (fun q => ?_) (fun q => ?_)
  · refine wp_run rfl ?_
    exact wp_ret rfl rfl ⟨rfl, rfl⟩
  · refine wp_run rfl ?_
    rw [cr_sz hC]
    refine wp_icge rfl (fun q2 => ?_) (fun q2 => ?_)
    · refine wp_run rfl ?_
      exact wp_ret rfl rfl ⟨rfl, rfl⟩
    · exact absurd hy (fun z => z.elim q q2)
theorem x0_placeOf (hO : aOk A) (hC : CR B A) {p : Nat} (hp : p < aN A) : axEv ro (d + 2) kX0_placeOf [.ref 1, .int (nI (aR A p))] (hX B Y sl P G tl) (some (.int (nI p))) (hX B Y sl P G tl) := by
  have hn := hO.n
  have loop : ∀ m q, q + m = p → axW ro (axEv ro (d + 1)) cdX0_placeOf 7 [some (.ref 1), some (.int (nI (aR A p))), some (.int (nI q))] [.int (bSz B), .int (nI q)] (hX B Y sl P G tl) (fun r' h' => r' = some (.int (nI p)) ∧ h' = (hX B Y sl P G tl)) := by
    intro m
    induction m with
    | zero =>
      intro q e
      have e : q = p := by omega
      subst e
      rw [cr_sz hC]
      refine wp_icge rfl (fun hz_ => absurd hz_ (nI_ge hp (by omega))) (fun _ => ?_)
      refine wp_run rfl ?_
      refine wp_s2 rfl (Nat.le_of_ble_eq_true rfl) (x4_cell rfl (show q < 24 by omega) (by decide)) ?_
      refine wp_run rfl ?_
      rw [cr_rw hC hp]
      refine wp_icne rfl (fun hz_ => absurd hz_ (fun z => z rfl)) (fun _ => ?_)
      refine wp_run rfl ?_
      exact wp_ret rfl rfl ⟨rfl, rfl⟩
    | succ m ih =>
      intro q e
      have hq : q < aN A := by omega
      rw [cr_sz hC]
      refine wp_icge rfl (fun hz_ => absurd hz_ (nI_ge hq (by omega))) (fun _ => ?_)
      refine wp_run rfl ?_
      refine wp_s2 rfl (Nat.le_of_ble_eq_true rfl) (x4_cell rfl (show q < 24 by omega) (by decide)) ?_
      refine wp_run rfl ?_
      rw [cr_rw hC hq]
      refine wp_icne rfl (fun _ => ?_) (fun hz_ => absurd (fun z => by have := (nI_eq (by have := hO.r hq; omega) (by have := hO.r hp; omega)).mp z; have := hO.inj hq hp this; omega) hz_)
      refine wp_run rfl ?_
      rw [nI_1]
      exact ih (q + 1) (by omega)
  refine ev_in rfl rfl (Nat.le_of_ble_eq_true rfl) rfl ?_
  refine wp_run rfl ?_
  exact loop p 0 (by omega)
end AX16
end
section
/-! Integer.bitCount -/
theorem nx_and (a b : Nat) : nI a &&& nI b = nI (a &&& b) := by
  apply Int32.toBitVec_inj.1
  show BitVec.ofNat 32 a &&& BitVec.ofNat 32 b = BitVec.ofNat 32 (a &&& b)
  apply BitVec.eq_of_getLsbD_eq
  intro i hi
  simp [hi]
theorem pc_land {x u y v : Nat} (hy : y < 256) (hv : v < 256) : (256 * x + y) &&& (256 * u + v) = 256 * (x &&& u) + (y &&& v) := by
  have hyv : y &&& v < 2 ^ 8 := Nat.and_lt_two_pow y (by omega)
  apply Nat.eq_of_testBit_eq
  intro i
  rw [Nat.testBit_and, show 256 = 2 ^ 8 from rfl, Nat.testBit_two_pow_mul_add _ (show y < 2 ^ 8 by omega), Nat.testBit_two_pow_mul_add _ (show v < 2 ^ 8 by omega), Nat.testBit_two_pow_mul_add _ hyv]
  split <;> rw [Nat.testBit_and]
def pc8 (a : Nat) : Nat := bc (fun i => a.testBit i) 8
def pcT (a : Nat) : Nat := a / 2 &&& 85
def pc2 (a : Nat) : Nat := ((a - pcT a) &&& 51) + ((a - pcT a) / 4 &&& 51)
set_option maxRecDepth 100000 in
theorem pc_b1 : ∀ a, a < 256 → ∀ k, k < 2 → (a / 2 + 128 * k) &&& 85 = pcT a := by decide +kernel
theorem pc_b2 : ∀ a, a < 256 → pcT a ≤ a ∧ a / 2 &&& 85 = pcT a := by decide +kernel
set_option maxRecDepth 100000 in
theorem pc_b3 : ∀ a, a < 256 → ∀ k, k < 4 → (a / 4 + 64 * k) &&& 51 = a / 4 &&& 51 := by decide +kernel
set_option maxRecDepth 100000 in
theorem pc_b4 : ∀ a, a < 256 → ∀ r, r < 5 → (pc2 a + pc2 a / 16 + 16 * r) &&& 15 = pc8 a := by decide +kernel
theorem pc_b5 : ∀ a, a < 256 → pc2 a ≤ 68 ∧ pc2 a % 16 ≤ 4 ∧ pc8 a ≤ 8 ∧ pc2 a / 16 ≤ 4 := by decide +kernel
theorem pc_s1 {a b c e : Nat} (ha : a < 256) (hb : b < 256) (hc : c < 256) (he : e < 256) : (256 * (256 * (256 * e + c) + b) + a) / 2 &&& 1431655765 = 256 * (256 * (256 * pcT e + pcT c) + pcT b) + pcT a := by
  rw [show (256 * (256 * (256 * e + c) + b) + a) / 2 = 256 * (256 * (256 * (e / 2) + (c / 2 + 128 * (e % 2))) + (b / 2 + 128 * (c % 2))) + (a / 2 + 128 * (b % 2)) by omega,
    show 1431655765 = 256 * (256 * (256 * 85 + 85) + 85) + 85 from rfl, pc_land (by omega) (by omega), pc_land (by omega) (by omega), pc_land (by omega) (by omega),
    pc_b1 a ha _ (by omega), pc_b1 b hb _ (by omega), pc_b1 c hc _ (by omega), (pc_b2 e he).2]
theorem pc_s2 {a b c e : Nat} (ha : a < 256) (hb : b < 256) (hc : c < 256) (he : e < 256) : (256 * (256 * (256 * e + c) + b) + a) &&& 858993459 = 256 * (256 * (256 * (e &&& 51) + (c &&& 51)) + (b &&& 51)) + (a &&& 51) := by
  rw [show 858993459 = 256 * (256 * (256 * 51 + 51) + 51) + 51 from rfl, pc_land (by omega) (by omega), pc_land (by omega) (by omega), pc_land (by omega) (by omega)]
theorem pc_s3 {a b c e : Nat} (ha : a < 256) (hb : b < 256) (hc : c < 256) (he : e < 256) : (256 * (256 * (256 * e + c) + b) + a) / 4 &&& 858993459 = 256 * (256 * (256 * (e / 4 &&& 51) + (c / 4 &&& 51)) + (b / 4 &&& 51)) + (a / 4 &&& 51) := by
  rw [show (256 * (256 * (256 * e + c) + b) + a) / 4 = 256 * (256 * (256 * (e / 4) + (c / 4 + 64 * (e % 4))) + (b / 4 + 64 * (c % 4))) + (a / 4 + 64 * (b % 4)) by omega,
    show 858993459 = 256 * (256 * (256 * 51 + 51) + 51) + 51 from rfl, pc_land (by omega) (by omega), pc_land (by omega) (by omega), pc_land (by omega) (by omega),
    pc_b3 a ha _ (by omega), pc_b3 b hb _ (by omega), pc_b3 c hc _ (by omega)]
theorem pc_s4 {a b c e : Nat} (ha : a < 256) (hb : b < 256) (hc : c < 256) (he : e < 256) : ((256 * (256 * (256 * pc2 e + pc2 c) + pc2 b) + pc2 a) + (256 * (256 * (256 * pc2 e + pc2 c) + pc2 b) + pc2 a) / 16) &&& 252645135 = 256 * (256 * (256 * pc8 e + pc8 c) + pc8 b) + pc8 a := by
  have h1 := pc_b5 a ha
  have h2 := pc_b5 b hb
  have h3 := pc_b5 c hc
  have h4 := pc_b5 e he
  rw [show (256 * (256 * (256 * pc2 e + pc2 c) + pc2 b) + pc2 a) + (256 * (256 * (256 * pc2 e + pc2 c) + pc2 b) + pc2 a) / 16 = 256 * (256 * (256 * (pc2 e + pc2 e / 16 + 16 * 0) + (pc2 c + pc2 c / 16 + 16 * (pc2 e % 16))) + (pc2 b + pc2 b / 16 + 16 * (pc2 c % 16))) + (pc2 a + pc2 a / 16 + 16 * (pc2 b % 16)) by omega,
    show 252645135 = 256 * (256 * (256 * 15 + 15) + 15) + 15 from rfl, pc_land (by omega) (by omega), pc_land (by omega) (by omega), pc_land (by omega) (by omega),
    pc_b4 a ha _ (by omega), pc_b4 b hb _ (by omega), pc_b4 c hc _ (by omega), pc_b4 e he _ (by omega)]
/-- how many bits are set -/
def pcN (x : Int32) : Nat := bc (fun i => bt x i) 32
theorem pc_bits {m : Nat} (hm : m < 2 ^ 32) (i : Nat) (hi : i < 32) : bt (nI m) i = m.testBit i := by
  unfold bt
  show (BitVec.ofNat 32 m).getLsbD i = _
  rw [BitVec.getLsbD_ofNat]
  simp [hi]
theorem pc_split {a b c e : Nat} (ha : a < 256) (hb : b < 256) (hc : c < 256) (he : e < 256) : pcN (nI (256 * (256 * (256 * e + c) + b) + a)) = pc8 a + pc8 b + pc8 c + pc8 e := by
  unfold pcN
  rw [bc_cong 32 (fun i hi => pc_bits (by omega) i hi), show 32 = 8 + (8 + (8 + 8)) from rfl, bc_add, bc_add, bc_add]
  have k1 : bc (fun i => (256 * (256 * (256 * e + c) + b) + a).testBit i) 8 = pc8 a := bc_cong 8 fun i hi => by
    rw [show 256 = 2 ^ 8 from rfl, Nat.testBit_two_pow_mul_add _ (show a < 2 ^ 8 by omega), if_pos hi]
  have k2 : bc (fun i => (256 * (256 * (256 * e + c) + b) + a).testBit (8 + i)) 8 = pc8 b := bc_cong 8 fun i hi => by
    rw [show 256 = 2 ^ 8 from rfl, Nat.testBit_two_pow_mul_add _ (show a < 2 ^ 8 by omega), if_neg (by omega), Nat.testBit_two_pow_mul_add _ (show b < 2 ^ 8 by omega), if_pos (by omega), show 8 + i - 8 = i by omega]
  have k3 : bc (fun i => (256 * (256 * (256 * e + c) + b) + a).testBit (8 + (8 + i))) 8 = pc8 c := bc_cong 8 fun i hi => by
    rw [show 256 = 2 ^ 8 from rfl, Nat.testBit_two_pow_mul_add _ (show a < 2 ^ 8 by omega), if_neg (by omega), Nat.testBit_two_pow_mul_add _ (show b < 2 ^ 8 by omega), if_neg (by omega), Nat.testBit_two_pow_mul_add _ (show c < 2 ^ 8 by omega), if_pos (by omega), show 8 + (8 + i) - 8 - 8 = i by omega]
  have k4 : bc (fun i => (256 * (256 * (256 * e + c) + b) + a).testBit (8 + (8 + (8 + i)))) 8 = pc8 e := bc_cong 8 fun i hi => by
    rw [show 256 = 2 ^ 8 from rfl, Nat.testBit_two_pow_mul_add _ (show a < 2 ^ 8 by omega), if_neg (by omega), Nat.testBit_two_pow_mul_add _ (show b < 2 ^ 8 by omega), if_neg (by omega), Nat.testBit_two_pow_mul_add _ (show c < 2 ^ 8 by omega), if_neg (by omega), show 8 + (8 + (8 + i)) - 8 - 8 - 8 = i by omega]
  have z := Nat.add_assoc
  simp only [← Nat.add_assoc] at k1 k2 k3 k4 ⊢
  rw [k1, k2, k3, k4]
theorem pc_of (x : Int32) : ∃ a b c e, a < 256 ∧ b < 256 ∧ c < 256 ∧ e < 256 ∧ x = nI (256 * (256 * (256 * e + c) + b) + a) := by
  refine ⟨x.toBitVec.toNat % 256, x.toBitVec.toNat / 256 % 256, x.toBitVec.toNat / 65536 % 256, x.toBitVec.toNat / 16777216, by omega, by omega, by omega, by have := x.toBitVec.isLt; omega, ?_⟩
  have h := x.toBitVec.isLt
  rw [show 256 * (256 * (256 * (x.toBitVec.toNat / 16777216) + x.toBitVec.toNat / 65536 % 256) + x.toBitVec.toNat / 256 % 256) + x.toBitVec.toNat % 256 = x.toBitVec.toNat by omega]
  apply Int32.toBitVec_inj.mp
  show _ = BitVec.ofNat 32 x.toBitVec.toNat
  simp
theorem xJ_bitCount {ro : axRo} {d : Nat} {h : axH} (x : Int32) : axEv ro (d + 1) kJ_bitCount [.int x] h (some (.int (nI (pcN x)))) h := by
  obtain ⟨a, b, c, e, ha, hb, hc, he, rfl⟩ := pc_of x
  rw [pc_split ha hb hc he]
  have t1 := pc_b2 a ha
  have t2 := pc_b2 b hb
  have t3 := pc_b2 c hc
  have t4 := pc_b2 e he
  have u1 := pc_b5 a ha
  have u2 := pc_b5 b hb
  have u3 := pc_b5 c hc
  have u4 := pc_b5 e he
  refine ev_in rfl rfl (Nat.le_of_ble_eq_true rfl) rfl ?_
  -- the words step by step
  have s1 : nI (256 * (256 * (256 * e + c) + b) + a) - (((nI (256 * (256 * (256 * e + c) + b) + a)).toUInt32 >>> ((1 : Int32).toUInt32 &&& Int32.toUInt32 31)).toInt32 &&& 1431655765) = nI (256 * (256 * (256 * (e - pcT e) + (c - pcT c)) + (b - pcT b)) + (a - pcT a)) := by
    rw [pk_ushrN (by omega) 1 1 (by decide +kernel), show (1431655765 : Int32) = nI 1431655765 from rfl, nx_and, show (2 : Nat) ^ 1 = 2 from rfl, pc_s1 ha hb hc he, pk_sub (by omega)]
    congr 1
    omega
  have s2 : ∀ w, w = nI (256 * (256 * (256 * (e - pcT e) + (c - pcT c)) + (b - pcT b)) + (a - pcT a)) → (w &&& 858993459) + ((w.toUInt32 >>> ((2 : Int32).toUInt32 &&& Int32.toUInt32 31)).toInt32 &&& 858993459) = nI (256 * (256 * (256 * pc2 e + pc2 c) + pc2 b) + pc2 a) := by
    intro w hw
    rw [hw, pk_ushrN (by omega) 2 2 (by decide +kernel), show (858993459 : Int32) = nI 858993459 from rfl, nx_and, nx_and, show (2 : Nat) ^ 2 = 4 from rfl, pc_s2 (by omega) (by omega) (by omega) (by omega), pc_s3 (by omega) (by omega) (by omega) (by omega), nI_add]
    congr 1
    unfold pc2
    omega
  have s3 : ∀ w, w = nI (256 * (256 * (256 * pc2 e + pc2 c) + pc2 b) + pc2 a) → (w + (w.toUInt32 >>> ((4 : Int32).toUInt32 &&& Int32.toUInt32 31)).toInt32) &&& 252645135 = nI (256 * (256 * (256 * pc8 e + pc8 c) + pc8 b) + pc8 a) := by
    intro w hw
    rw [hw, pk_ushrN (by omega) 4 4 (by decide +kernel), show (252645135 : Int32) = nI 252645135 from rfl, nI_add, nx_and, show (2 : Nat) ^ 4 = 16 from rfl, pc_s4 ha hb hc he]
  have s4 : ∀ w, w = nI (256 * (256 * (256 * pc8 e + pc8 c) + pc8 b) + pc8 a) → w + (w.toUInt32 >>> ((8 : Int32).toUInt32 &&& Int32.toUInt32 31)).toInt32 = nI (256 * (256 * (256 * pc8 e + (pc8 c + pc8 e)) + (pc8 b + pc8 c)) + (pc8 a + pc8 b)) := by
    intro w hw
    rw [hw, pk_ushrN (by omega) 8 8 (by decide +kernel), nI_add]
    congr 1
    rw [show (2 : Nat) ^ 8 = 256 from rfl]
    omega
  have s5 : ∀ w, w = nI (256 * (256 * (256 * pc8 e + (pc8 c + pc8 e)) + (pc8 b + pc8 c)) + (pc8 a + pc8 b)) → (w + (w.toUInt32 >>> ((16 : Int32).toUInt32 &&& Int32.toUInt32 31)).toInt32) &&& 63 = nI (pc8 a + pc8 b + pc8 c + pc8 e) := by
    intro w hw
    rw [hw, pk_ushrN (by omega) 16 16 (by decide +kernel), nI_add, pk_andN (by omega) 6 (by decide +kernel)]
    congr 1
    have e1 : (256 * (256 * (256 * pc8 e + (pc8 c + pc8 e)) + (pc8 b + pc8 c)) + (pc8 a + pc8 b)) / 2 ^ 16 = 256 * pc8 e + (pc8 c + pc8 e) := by
      rw [show (2 : Nat) ^ 16 = 256 * 256 from rfl, ← Nat.div_div_eq_div_mul, show (256 * (256 * (256 * pc8 e + (pc8 c + pc8 e)) + (pc8 b + pc8 c)) + (pc8 a + pc8 b)) / 256 = 256 * (256 * pc8 e + (pc8 c + pc8 e)) + (pc8 b + pc8 c) by omega]
      omega
    rw [e1, show (2 : Nat) ^ 6 = 64 from rfl]
    generalize pc8 a = a' at *
    generalize pc8 b = b' at *
    generalize pc8 c = c' at *
    generalize pc8 e = e' at *
    omega
  refine wp_run rfl ?_
  refine wp_run rfl ?_
  exact wp_ret rfl rfl ⟨by rw [s5 _ (s4 _ (s3 _ (s2 _ s1)))], rfl⟩
end
section
/-! THE CLASS: what only reads the board (2): rooms, sums, needs, places. -/
section AX18
variable {ro : axRo} {d : Nat} {h h1 : axH} {B : axBD} {Y : axYD} {sl : Nat → Option Nat} {P : axPD} {G : axGD} {tl : axH} {A : axAD}
theorem aS_diff {f : Nat → Nat} {a q : Nat} (h : a ≤ q) : aS f q - aS f a + f q = aS f (q + 1) - aS f a := by
  have := aS_mono (f := f) h
  rw [aS]; omega
theorem aCan_min {A : axAD} (h : aOk A) {i : Nat} (hi : i < aN A) : aW A (aR A i) * aTr A ≤ 99 * 90 := Nat.mul_le_mul (h.b hi).2.2 h.tr
theorem x0_roomOf (hO : aOk A) (hC : CR B A) {i : Nat} (hi : i < aN A) : axEv ro (d + 2) kX0_roomOf [.ref 1, .int (nI (aR A i))] (hX B Y sl P G tl) (some (.int (nI (aCan A (aR A i))))) (hX B Y sl P G tl) := by
  have h1 := hO.b hi
  have h2 := aCan_min hO hi
  have h3 : aW A (aR A i) * aTr A ≤ aW A (aR A i) * 90 := Nat.mul_le_mul_left _ hO.tr
  refine ev_in rfl rfl (Nat.le_of_ble_eq_true rfl) rfl ?_
  refine wp_run rfl ?_
  refine wp_s2 rfl (Nat.le_of_ble_eq_true rfl) (x4_cell rfl (hO.r hi) (by decide)) ?_
  refine wp_run rfl ?_
  refine wp_s2 rfl (Nat.le_of_ble_eq_true rfl) (x4_cell (j := 2) rfl (by omega) (by decide)) ?_
  refine wp_run rfl ?_
  rw [cr_wr hC hi, cr_tr hC, pk_mul]
  refine wp_idiv rfl (by decide) (pk_div (d := 100) (by omega) (by omega) (by omega)) ?_
  refine wp_run rfl ?_
  rw [pk_sub (by omega)]
  refine wp_max rfl (Nat.le_of_ble_eq_true rfl) ((nI_max (a := 1) (by omega) (by omega))) ?_
  refine wp_run rfl ?_
  refine wp_s2 rfl (Nat.le_of_ble_eq_true rfl) (x4_cell rfl (hO.r hi) (by decide)) ?_
  refine wp_run rfl ?_
  rw [cr_bt hC hi]
  by_cases hle : max 1 (aW A (aR A i) - aW A (aR A i) * aTr A / 100) ≤ aB A (aR A i)
  · rw [pk_sub hle]
    refine wp_max rfl (Nat.le_of_ble_eq_true rfl) ((nI_max (a := 0) (by omega) (by omega))) ?_
    refine wp_run rfl ?_
    exact wp_ret rfl rfl ⟨by rw [Nat.max_eq_right (by omega)]; rfl, rfl⟩
  · rw [show nI (aB A (aR A i)) - nI (max 1 (aW A (aR A i) - aW A (aR A i) * aTr A / 100)) = zI ((aB A (aR A i) : Int) - (max 1 (aW A (aR A i) - aW A (aR A i) * aTr A / 100) : Nat)) by rw [← zI_nI, ← zI_nI, zI_sub]]
    refine wp_max rfl (Nat.le_of_ble_eq_true rfl) (if_neg (by rw [zI_0, zI_lt ⟨by omega, by omega⟩ ⟨by omega, by omega⟩]; omega)) ?_
    refine wp_run rfl ?_
    exact wp_ret rfl rfl ⟨by unfold aCan; rw [show aB A (aR A i) - max 1 (aW A (aR A i) - aW A (aR A i) * aTr A / 100) = 0 by omega]; rfl, rfl⟩
theorem x0_beatsIn (hO : aOk A) (hC : CR B A) {f t : Nat} (hf : f ≤ t) (ht : t ≤ aN A) : axEv ro (d + 2) kX0_beatsIn [.ref 1, .int (nI f), .int (nI t)] (hX B Y sl P G tl) (some (.int (nI (aBeg A t - aBeg A f)))) (hX B Y sl P G tl) := by
  have hn := hO.n
  have loop : ∀ m q, q + m = t → f ≤ q → axW ro (axEv ro (d + 1)) cdX0_beatsIn 8 [some (.ref 1), some (.int (nI f)), some (.int (nI t)), some (.int (nI (aBeg A q - aBeg A f))), some (.int (nI q))] [.int (nI t), .int (nI q)] (hX B Y sl P G tl) (fun r' h' => r' = some (.int (nI (aBeg A t - aBeg A f))) ∧ h' = (hX B Y sl P G tl)) := by
    intro m
    induction m with
    | zero =>
      intro q e _
      have e : q = t := by omega
      subst e
      refine wp_icge rfl (fun _ => ?_) (fun hz_ => absurd (nI_le (Nat.le_refl _) (by omega)) hz_)
      refine wp_run rfl ?_
      exact wp_ret rfl rfl ⟨rfl, rfl⟩
    | succ m ih =>
      intro q e hq
      have hqn : q < aN A := by omega
      refine wp_icge rfl (fun hz_ => absurd hz_ (nI_ge (show q < t by omega) (by omega))) (fun _ => ?_)
      refine wp_run rfl ?_
      refine wp_s2 rfl (Nat.le_of_ble_eq_true rfl) (x4_cell rfl (show q < 24 by omega) (by decide)) ?_
      refine wp_run rfl ?_
      rw [cr_rw hC hqn]
      refine wp_s2 rfl (Nat.le_of_ble_eq_true rfl) (x4_cell rfl (hO.r hqn) (by decide)) ?_
      refine wp_run rfl ?_
      rw [cr_bt hC hqn, nI_add, nI_1, show aBeg A q - aBeg A f + aB A (aR A q) = aBeg A (q + 1) - aBeg A f from aS_diff hq]
      exact ih (q + 1) (by omega) (by omega)
  refine ev_in rfl rfl (Nat.le_of_ble_eq_true rfl) rfl ?_
  refine wp_run rfl ?_
  have := loop (t - f) f (by omega) (Nat.le_refl _)
  rw [Nat.sub_self] at this
  exact this
theorem x0_roomIn (hO : aOk A) (hC : CR B A) {f t : Nat} (hf : f ≤ t) (ht : t ≤ aN A) : axEv ro (d + 3) kX0_roomIn [.ref 1, .int (nI f), .int (nI t)] (hX B Y sl P G tl) (some (.int (nI (aRm A t - aRm A f)))) (hX B Y sl P G tl) := by
  have hn := hO.n
  have loop : ∀ m q, q + m = t → f ≤ q → axW ro (axEv ro (d + 2)) cdX0_roomIn 8 [some (.ref 1), some (.int (nI f)), some (.int (nI t)), some (.int (nI (aRm A q - aRm A f))), some (.int (nI q))] [.int (nI t), .int (nI q)] (hX B Y sl P G tl) (fun r' h' => r' = some (.int (nI (aRm A t - aRm A f))) ∧ h' = (hX B Y sl P G tl)) := by
    intro m
    induction m with
    | zero =>
      intro q e _
      have e : q = t := by omega
      subst e
      refine wp_icge rfl (fun _ => ?_) (fun hz_ => absurd (nI_le (Nat.le_refl _) (by omega)) hz_)
      refine wp_run rfl ?_
      exact wp_ret rfl rfl ⟨rfl, rfl⟩
    | succ m ih =>
      intro q e hq
      have hqn : q < aN A := by omega
      refine wp_icge rfl (fun hz_ => absurd hz_ (nI_ge (show q < t by omega) (by omega))) (fun _ => ?_)
      refine wp_run rfl ?_
      refine wp_s2 rfl (Nat.le_of_ble_eq_true rfl) (x4_cell rfl (show q < 24 by omega) (by decide)) ?_
      refine wp_run rfl ?_
      rw [cr_rw hC hqn]
      refine wp_v1 rfl rfl (Nat.le_of_ble_eq_true rfl) (x0_roomOf hO hC hqn) ?_
      refine wp_run rfl ?_
      rw [nI_add, nI_1, show aRm A q - aRm A f + aCan A (aR A q) = aRm A (q + 1) - aRm A f from aS_diff hq]
      exact ih (q + 1) (by omega) (by omega)
  refine ev_in rfl rfl (Nat.le_of_ble_eq_true rfl) rfl ?_
  refine wp_run rfl ?_
  have := loop (t - f) f (by omega) (Nat.le_refl _)
  rw [Nat.sub_self] at this
  exact this
theorem x0_allBeats (hO : aOk A) (hC : CR B A) : axEv ro (d + 3) kX0_allBeats [.ref 1] (hX B Y sl P G tl) (some (.int (nI (aBeg A (aN A))))) (hX B Y sl P G tl) := by
  refine ev_in rfl rfl (Nat.le_of_ble_eq_true rfl) rfl ?_
  refine wp_run rfl ?_
  rw [cr_sz hC]
  refine wp_v2 rfl rfl (Nat.le_of_ble_eq_true rfl) (x0_beatsIn (f := 0) hO hC (Nat.zero_le _) (Nat.le_refl _)) ?_
  refine wp_run rfl ?_
  exact wp_ret rfl rfl ⟨rfl, rfl⟩
theorem x0_turnsAhead (hO : aOk A) (hC : CR B A) {t : Nat} (ht : t ≤ aN A) : axEv ro (d + 2) kX0_turnsAhead [.ref 1, .int (nI t)] (hX B Y sl P G tl) (some (.int (nI (aAct A t)))) (hX B Y sl P G tl) := by
  have hn := hO.n
  have loop : ∀ m q, q + m = t → axW ro (axEv ro (d + 1)) cdX0_turnsAhead 6 [some (.ref 1), some (.int (nI t)), some (.int (nI (aAct A q))), some (.int (nI q))] [.int (nI t), .int (nI q)] (hX B Y sl P G tl) (fun r' h' => r' = some (.int (nI (aAct A t))) ∧ h' = (hX B Y sl P G tl)) := by
    intro m
    induction m with
    | zero =>
      intro q e
      have e : q = t := by omega
      subst e
      refine wp_icge rfl (fun _ => ?_) (fun hz_ => absurd (nI_le (Nat.le_refl _) (by omega)) hz_)
      refine wp_run rfl ?_
      exact wp_ret rfl rfl ⟨rfl, rfl⟩
    | succ m ih =>
      intro q e
      have hqn : q < aN A := by omega
      refine wp_icge rfl (fun hz_ => absurd hz_ (nI_ge (show q < t by omega) (by omega))) (fun _ => ?_)
      refine wp_run rfl ?_
      refine wp_s2 rfl (Nat.le_of_ble_eq_true rfl) (x4_cell rfl (show q < 24 by omega) (by decide)) ?_
      refine wp_run rfl ?_
      rw [cr_rw hC hqn]
      refine wp_s2 rfl (Nat.le_of_ble_eq_true rfl) (x4_contains_in (hO.r hqn)) ?_
      refine wp_run rfl ?_
      rw [cr_tnr hC hqn]
      have e1 : aAct A (q + 1) = aAct A q + (if aT A (aR A q) = true then 1 else 0) := rfl
      cases ht : aT A (aR A q) with
      | true =>
        rw [ht] at e1
        refine wp_ifeq rfl (fun hz_ => absurd hz_ ((by decide : ¬ (1 : Int32) = 0))) (fun _ => ?_)
        refine wp_run rfl ?_
        rw [nI_1, nI_1, show aAct A q + 1 = aAct A (q + 1) by rw [e1]; rfl]
        exact ih (q + 1) (by omega)
      | false =>
        rw [ht] at e1
        refine wp_ifeq rfl (fun _ => ?_) (fun hz_ => absurd (rfl) hz_)
        refine wp_run rfl ?_
        rw [nI_1, show aAct A q = aAct A (q + 1) by rw [e1]; rfl]
        exact ih (q + 1) (by omega)
  refine ev_in rfl rfl (Nat.le_of_ble_eq_true rfl) rfl ?_
  refine wp_run rfl ?_
  exact loop t 0 (by omega)
/-- the slug that runs at a beat: the first place whose end is behind it -/
def aAtB (A : axAD) (x : Nat) : Nat := bc (fun p => decide (aBeg A (p + 1) ≤ x)) (aN A)
theorem bc_pre {p : Nat → Bool} : ∀ (n : Nat), (∀ q, q + 1 < n → p (q + 1) = true → p q = true) → ∀ q, q < bc p n ↔ (q < n ∧ p q = true)
  | 0, _, q => by simp [bc]
  | n + 1, h, q => by
    have ih := bc_pre n (fun q hq => h q (by omega))
    have hall : p n = true → ∀ j, j ≤ n → p (n - j) = true := by
      intro hn j
      induction j with
      | zero => intro _; exact hn
      | succ j ihj =>
        intro hj
        have := ihj (by omega)
        apply h (n - (j + 1)) (by omega)
        rw [show n - (j + 1) + 1 = n - j by omega]; exact this
    rw [bc]
    by_cases hn : p n = true
    · rw [if_pos hn]
      have e : bc p n = n := by
        rcases Nat.lt_or_ge (bc p n) n with z | z
        · have h1 := (ih (bc p n)).mpr ⟨z, by have := hall hn (n - bc p n) (by omega); rw [show n - (n - bc p n) = bc p n by omega] at this; exact this⟩
          omega
        · have := bc_le p n; omega
      rw [e]
      constructor
      · intro hq
        exact ⟨hq, by have := hall hn (n - q) (by omega); rw [show n - (n - q) = q by omega] at this; exact this⟩
      · intro hq; exact hq.1
    · rw [if_neg hn, Nat.add_zero]
      constructor
      · intro hq
        have := (ih q).mp hq
        exact ⟨by omega, this.2⟩
      · intro hq
        apply (ih q).mpr
        refine ⟨?_, hq.2⟩
        by_cases e : q = n
        · rw [e] at hq; exact absurd hq.2 hn
        · omega
theorem aAtB_lt (A : axAD) (x q : Nat) : q < aAtB A x ↔ (q < aN A ∧ aBeg A (q + 1) ≤ x) := by
  unfold aAtB
  rw [bc_pre (aN A) (fun q _ hq => by
    rw [decide_eq_true_eq] at *
    have : aBeg A (q + 1) ≤ aBeg A (q + 1 + 1) := aS_mono (by omega)
    omega) q, decide_eq_true_eq]
theorem aAtB_le (A : axAD) (x : Nat) : aAtB A x ≤ aN A := bc_le _ _
theorem x0_slugAtBeat (hO : aOk A) (hC : CR B A) {x : Nat} (hx : x < 2 ^ 31) : axEv ro (d + 3) kX0_slugAtBeat [.ref 1, .int (nI x)] (hX B Y sl P G tl) (some (.int (if aAtB A x < aN A then nI (aR A (aAtB A x)) else -6))) (hX B Y sl P G tl) := by
  have hn := hO.n
  have loop : ∀ m q, q + m = aAtB A x → ∀ v : Option Value, axW ro (axEv ro (d + 2)) cdX0_slugAtBeat 9 [some (.ref 1), some (.int (nI x)), some (.int (nI (aBeg A q))), some (.int (nI q)), v] [.int (bSz B), .int (nI q)] (hX B Y sl P G tl) (fun r' h' => r' = some (.int (if aAtB A x < aN A then nI (aR A (aAtB A x)) else -6)) ∧ h' = (hX B Y sl P G tl)) := by
    intro m
    induction m with
    | zero =>
      intro q e v
      have e : q = aAtB A x := by omega
      rw [cr_sz hC]
      by_cases hlt : q < aN A
      · refine wp_icge rfl (fun hz_ => absurd hz_ (nI_ge hlt (by omega))) (fun _ => ?_)
        refine wp_run rfl ?_
        refine wp_s2 rfl (Nat.le_of_ble_eq_true rfl) (x4_cell rfl (show q < 24 by omega) (by decide)) ?_
        refine wp_run rfl ?_
        rw [cr_rw hC hlt]
        refine wp_v1 rfl rfl (Nat.le_of_ble_eq_true rfl) (x0_beatsOf hO hC hlt) ?_
        refine wp_run rfl ?_
        have h3 : aBeg A (q + 1) = aBeg A q + aB A (aR A q) := rfl
        have h4 : ¬ aBeg A (q + 1) ≤ x := fun z => by have := (aAtB_lt A x q).mpr ⟨hlt, z⟩; omega
        have h5 := aBeg_le hO (show q + 1 ≤ aN A by omega)
        rw [nI_add, ← h3]
        refine wp_icge rfl (fun hz_ => absurd hz_ (nI_ge (show x < aBeg A (q + 1) by omega) (by omega))) (fun _ => ?_)
        refine wp_run rfl ?_
        exact wp_ret rfl rfl ⟨by rw [← e, if_pos hlt], rfl⟩
      · have := aAtB_le A x
        refine wp_icge rfl (fun _ => ?_) (fun hz_ => absurd (nI_le (show aN A ≤ q by omega) (by omega)) hz_)
        refine wp_run rfl ?_
        exact wp_ret rfl rfl ⟨by rw [← e, if_neg hlt], rfl⟩
    | succ m ih =>
      intro q e v
      obtain ⟨hlt, h4⟩ := (aAtB_lt A x q).mp (by omega)
      rw [cr_sz hC]
      refine wp_icge rfl (fun hz_ => absurd hz_ (nI_ge hlt (by omega))) (fun _ => ?_)
      refine wp_run rfl ?_
      refine wp_s2 rfl (Nat.le_of_ble_eq_true rfl) (x4_cell rfl (show q < 24 by omega) (by decide)) ?_
      refine wp_run rfl ?_
      rw [cr_rw hC hlt]
      refine wp_v1 rfl rfl (Nat.le_of_ble_eq_true rfl) (x0_beatsOf hO hC hlt) ?_
      refine wp_run rfl ?_
      have h3 : aBeg A (q + 1) = aBeg A q + aB A (aR A q) := rfl
      rw [nI_add, ← h3]
      refine wp_icge rfl (fun _ => ?_) (fun hz_ => absurd (nI_le h4 hx) hz_)
      refine wp_run rfl ?_
      rw [nI_1]
      exact ih (q + 1) (by omega) _
  refine ev_in rfl rfl (Nat.le_of_ble_eq_true rfl) rfl ?_
  refine wp_run rfl ?_
  exact loop (aAtB A x) 0 (by omega) _
end AX18
end
section
/-! THE CLASS: what only reads the board (3): needs, places, the longest slug. -/
/-- the first of the first n for which f holds, n if there is none -/
def aFst (f : Nat → Bool) : Nat → Nat
  | 0 => 0
  | n + 1 => if aFst f n < n then aFst f n else if f n = true then n else n + 1
theorem aFst_le (f : Nat → Bool) : ∀ n, aFst f n ≤ n
  | 0 => Nat.le_refl _
  | n + 1 => by
    have := aFst_le f n
    rw [aFst]
    split
    · omega
    · split <;> omega
theorem aFst_no (f : Nat → Bool) : ∀ n k, k < aFst f n → f k = false
  | 0, k, h => absurd h (Nat.not_lt_zero k)
  | n + 1, k, h => by
    have ih := aFst_no f n
    have hle := aFst_le f n
    rw [aFst] at h
    split at h
    · exact ih k h
    · split at h
      · exact ih k (by omega)
      · rename_i h1 h2
        by_cases e : k = n
        · rw [e]; simpa using h2
        · exact ih k (by omega)
theorem aFst_yes (f : Nat → Bool) : ∀ n, aFst f n < n → f (aFst f n) = true
  | 0, h => absurd h (Nat.not_lt_zero _)
  | n + 1, h => by
    have ih := aFst_yes f n
    have hle := aFst_le f n
    rw [aFst] at h ⊢
    split
    · rename_i h1
      exact ih h1
    · rename_i h1
      rw [if_neg h1] at h
      split
      · rename_i h2; exact h2
      · rename_i h2
        rw [if_neg h2] at h
        omega
theorem aFst_lt {f : Nat → Bool} {n k : Nat} (hk : k < n) (hf : f k = true) : aFst f n ≤ k := by
  rcases Nat.lt_or_ge k (aFst f n) with h | h
  · have := aFst_no f n k h; rw [hf] at this; cases this
  · exact h
theorem aFst_eq {f : Nat → Bool} {n k : Nat} (hk : k ≤ n) (h1 : ∀ j, j < k → f j = false) (h2 : k < n → f k = true) : aFst f n = k := by
  rcases Nat.lt_or_ge k n with h | h
  · have a := aFst_lt h (h2 h)
    rcases Nat.lt_or_ge (aFst f n) k with b | b
    · have := aFst_yes f n (by omega); rw [h1 _ b] at this; cases this
    · omega
  · have e : k = n := by omega
    have a := aFst_le f n
    rcases Nat.lt_or_ge (aFst f n) k with b | b
    · have := aFst_yes f n (by omega); rw [h1 _ b] at this; cases this
    · omega
/-- who needs the slug k -/
def aNdr (A : axAD) (k : Nat) : Nat → Int32
  | 0 => 0
  | p + 1 => if bt (aD A (aR A p)) k = true then aNdr A k p ||| bi (aR A p) else aNdr A k p
/-- all that is needed, and what these need, down from a place -/
def aClo (A : axAD) : Nat → Int32 → Int32
  | 0, x => x
  | p + 1, x => aClo A p (if bt x (aR A p) = true then x ||| aD A (aR A p) else x)
/-- the place behind the last slug of a set -/
def aLoF (A : axAD) (x : Int32) : Nat → Nat
  | 0 => 0
  | p + 1 => if bt x (aR A p) = true then p + 1 else aLoF A x p
theorem aLoF_le (A : axAD) (x : Int32) : ∀ p, aLoF A x p ≤ p
  | 0 => Nat.le_refl _
  | p + 1 => by
    have := aLoF_le A x p
    rw [aLoF]
    split <;> omega
def aLo (A : axAD) (i : Nat) : Nat := aLoF A (aD A (aR A i)) (aN A)
def aHi (A : axAD) (i : Nat) : Nat := aFst (fun p => bt (aD A (aR A p)) (aR A i)) (aN A)
/-- the longest slug, and how long it is -/
def aLng (A : axAD) : Nat → Int32 × Nat
  | 0 => (-6, 0)
  | p + 1 => if (aLng A p).2 < aB A (aR A p) then (nI (aR A p), aB A (aR A p)) else aLng A p
section AX19
variable {ro : axRo} {d : Nat} {h h1 : axH} {B : axBD} {Y : axYD} {sl : Nat → Option Nat} {P : axPD} {G : axGD} {tl : axH} {A : axAD}
theorem nI_p1 {a : Nat} (h : 1 ≤ a) : nI a - 1 = nI (a - 1) := pk_sub (b := 1) h
theorem aHi_pos (hO : aOk A) {i : Nat} (hi : i < aN A) : 1 ≤ aHi A i := by
  rcases Nat.eq_zero_or_pos (aHi A i) with h | h
  · have h2 := aFst_yes (fun p => bt (aD A (aR A p)) (aR A i)) (aN A) (by unfold aHi at h; omega)
    unfold aHi at h
    rw [h] at h2
    obtain ⟨j, hj, _⟩ := hO.d (show 0 < aN A by omega) h2
    omega
  · exact h
theorem x0_needersOf (hO : aOk A) (hC : CR B A) {k : Nat} (hk : k < 24) : axEv ro (d + 3) kX0_needersOf [.ref 1, .int (nI k)] (hX B Y sl P G tl) (some (.int (aNdr A k (aN A)))) (hX B Y sl P G tl) := by
  have hn := hO.n
  have loop : ∀ m q, q + m = aN A → ∀ v : Option Value, axW ro (axEv ro (d + 2)) cdX0_needersOf 9 [some (.ref 1), some (.int (nI k)), some (.int (aNdr A k q)), some (.int (nI q)), v] [.int (bSz B), .int (nI q)] (hX B Y sl P G tl) (fun r' h' => r' = some (.int (aNdr A k (aN A))) ∧ h' = (hX B Y sl P G tl)) := by
    intro m
    induction m with
    | zero =>
      intro q e v
      have e : q = aN A := by omega
      subst e
      rw [cr_sz hC]
      refine wp_icge rfl (fun _ => ?_) (fun hz_ => absurd (nI_le (Nat.le_refl _) (by omega)) hz_)
      refine wp_run rfl ?_
      exact wp_ret rfl rfl ⟨rfl, rfl⟩
    | succ m ih =>
      intro q e v
      have hq : q < aN A := by omega
      rw [cr_sz hC]
      refine wp_icge rfl (fun hz_ => absurd hz_ (nI_ge hq (by omega))) (fun _ => ?_)
      refine wp_run rfl ?_
      refine wp_s2 rfl (Nat.le_of_ble_eq_true rfl) (x4_cell rfl (show q < 24 by omega) (by decide)) ?_
      refine wp_run rfl ?_
      rw [cr_rw hC hq]
      refine wp_v1 rfl rfl (Nat.le_of_ble_eq_true rfl) (x0_needsOf hO hC hq) ?_
      refine wp_run rfl ?_
      refine wp_s2 rfl (Nat.le_of_ble_eq_true rfl) (x4_contains_in hk) ?_
      refine wp_run rfl ?_
      have e1 : aNdr A k (q + 1) = if bt (aD A (aR A q)) k = true then aNdr A k q ||| bi (aR A q) else aNdr A k q := rfl
      by_cases hb : bt (aD A (aR A q)) k = true
      · rw [if_pos hb]
        rw [if_pos hb] at e1
        refine wp_ifeq rfl (fun hz_ => absurd hz_ ((by decide : ¬ (1 : Int32) = 0))) (fun _ => ?_)
        refine wp_run rfl ?_
        refine wp_s1 rfl (Nat.le_of_ble_eq_true rfl) (x4_bit (hO.r hq)) ?_
        refine wp_run rfl ?_
        rw [← e1, nI_1]
        exact ih (q + 1) (by omega) _
      · rw [if_neg hb]
        rw [if_neg hb] at e1
        refine wp_ifeq rfl (fun _ => ?_) (fun hz_ => absurd (rfl) hz_)
        refine wp_run rfl ?_
        rw [← e1, nI_1]
        exact ih (q + 1) (by omega) _
  refine ev_in rfl rfl (Nat.le_of_ble_eq_true rfl) rfl ?_
  refine wp_run rfl ?_
  exact loop (aN A) 0 (by omega) _
theorem x0_allNeedsOf (hO : aOk A) (hC : CR B A) {i : Nat} (hi : i < aN A) : axEv ro (d + 3) kX0_allNeedsOf [.ref 1, .int (nI (aR A i))] (hX B Y sl P G tl) (some (.int (aClo A (aN A) (aD A (aR A i))))) (hX B Y sl P G tl) := by
  have hn := hO.n
  have loop : ∀ m, m ≤ aN A → ∀ (x : Int32) (v : Option Value), aClo A m x = aClo A (aN A) (aD A (aR A i)) → axW ro (axEv ro (d + 2)) cdX0_allNeedsOf 14 [some (.ref 1), some (.int (nI (aR A i))), some (.int x), some (.int (nI m - 1)), v] [.int (nI m - 1)] (hX B Y sl P G tl) (fun r' h' => r' = some (.int (aClo A (aN A) (aD A (aR A i)))) ∧ h' = (hX B Y sl P G tl)) := by
    intro m
    induction m with
    | zero =>
      intro _ x v hx
      refine wp_iflt rfl (fun _ => ?_) (fun hz_ => absurd ((by decide : nI 0 - 1 < 0)) hz_)
      refine wp_run rfl ?_
      exact wp_ret rfl rfl ⟨by rw [← hx]; rfl, rfl⟩
    | succ m ih =>
      intro hm x v hx
      have hq : m < aN A := by omega
      rw [show nI (m + 1) - 1 = nI m from nI_pred m]
      refine wp_iflt rfl (fun hz_ => absurd hz_ (nI_pos (by omega))) (fun _ => ?_)
      refine wp_run rfl ?_
      refine wp_s2 rfl (Nat.le_of_ble_eq_true rfl) (x4_cell rfl (show m < 24 by omega) (by decide)) ?_
      refine wp_run rfl ?_
      rw [cr_rw hC hq]
      refine wp_s2 rfl (Nat.le_of_ble_eq_true rfl) (x4_contains_in (hO.r hq)) ?_
      refine wp_run rfl ?_
      have e1 : aClo A (m + 1) x = aClo A m (if bt x (aR A m) = true then x ||| aD A (aR A m) else x) := rfl
      rw [e1] at hx
      by_cases hb : bt x (aR A m) = true
      · rw [if_pos hb]
        rw [if_pos hb] at hx
        refine wp_ifeq rfl (fun hz_ => absurd hz_ ((by decide : ¬ (1 : Int32) = 0))) (fun _ => ?_)
        refine wp_run rfl ?_
        refine wp_v1 rfl rfl (Nat.le_of_ble_eq_true rfl) (x0_needsOf hO hC hq) ?_
        refine wp_run rfl ?_
        rw [show nI m + (-1) = nI m - 1 by rw [Int32.sub_eq_add_neg]]
        exact ih (by omega) _ _ hx
      · rw [if_neg hb]
        rw [if_neg hb] at hx
        refine wp_ifeq rfl (fun _ => ?_) (fun hz_ => absurd (rfl) hz_)
        refine wp_run rfl ?_
        rw [show nI m + (-1) = nI m - 1 by rw [Int32.sub_eq_add_neg]]
        exact ih (by omega) _ _ hx
  refine ev_in rfl rfl (Nat.le_of_ble_eq_true rfl) rfl ?_
  refine wp_run rfl ?_
  refine wp_v1 rfl rfl (Nat.le_of_ble_eq_true rfl) (x0_needsOf hO hC hi) ?_
  refine wp_run rfl ?_
  rw [cr_sz hC]
  exact loop (aN A) (Nat.le_refl _) _ _ rfl
theorem x0_lowestPlace (hO : aOk A) (hC : CR B A) {i : Nat} (hi : i < aN A) : axEv ro (d + 3) kX0_lowestPlace [.ref 1, .int (nI (aR A i))] (hX B Y sl P G tl) (some (.int (nI (aLo A i)))) (hX B Y sl P G tl) := by
  have hn := hO.n
  have loop : ∀ m, m ≤ aN A → aLoF A (aD A (aR A i)) m = aLo A i → axW ro (axEv ro (d + 2)) cdX0_lowestPlace 14 [some (.ref 1), some (.int (nI (aR A i))), some (.int (aD A (aR A i))), some (.int (nI m - 1))] [.int (nI m - 1)] (hX B Y sl P G tl) (fun r' h' => r' = some (.int (nI (aLo A i))) ∧ h' = (hX B Y sl P G tl)) := by
    intro m
    induction m with
    | zero =>
      intro _ hx
      refine wp_iflt rfl (fun _ => ?_) (fun hz_ => absurd ((by decide : nI 0 - 1 < 0)) hz_)
      refine wp_run rfl ?_
      exact wp_ret rfl rfl ⟨by rw [← hx]; rfl, rfl⟩
    | succ m ih =>
      intro hm hx
      have hq : m < aN A := by omega
      rw [show nI (m + 1) - 1 = nI m from nI_pred m]
      refine wp_iflt rfl (fun hz_ => absurd hz_ (nI_pos (by omega))) (fun _ => ?_)
      refine wp_run rfl ?_
      refine wp_s2 rfl (Nat.le_of_ble_eq_true rfl) (x4_cell rfl (show m < 24 by omega) (by decide)) ?_
      refine wp_run rfl ?_
      rw [cr_rw hC hq]
      refine wp_s2 rfl (Nat.le_of_ble_eq_true rfl) (x4_contains_in (hO.r hq)) ?_
      refine wp_run rfl ?_
      have e1 : aLoF A (aD A (aR A i)) (m + 1) = if bt (aD A (aR A i)) (aR A m) = true then m + 1 else aLoF A (aD A (aR A i)) m := rfl
      rw [e1] at hx
      by_cases hb : bt (aD A (aR A i)) (aR A m) = true
      · rw [if_pos hb]
        rw [if_pos hb] at hx
        refine wp_ifeq rfl (fun hz_ => absurd hz_ ((by decide : ¬ (1 : Int32) = 0))) (fun _ => ?_)
        refine wp_run rfl ?_
        rw [nI_1, hx]
        exact wp_ret rfl rfl ⟨rfl, rfl⟩
      · rw [if_neg hb]
        rw [if_neg hb] at hx
        refine wp_ifeq rfl (fun _ => ?_) (fun hz_ => absurd (rfl) hz_)
        refine wp_run rfl ?_
        rw [show nI m + (-1) = nI m - 1 by rw [Int32.sub_eq_add_neg]]
        exact ih (by omega) hx
  refine ev_in rfl rfl (Nat.le_of_ble_eq_true rfl) rfl ?_
  refine wp_run rfl ?_
  refine wp_v1 rfl rfl (Nat.le_of_ble_eq_true rfl) (x0_needsOf hO hC hi) ?_
  refine wp_run rfl ?_
  rw [cr_sz hC]
  exact loop (aN A) (Nat.le_refl _) rfl
theorem x0_highestPlace (hO : aOk A) (hC : CR B A) {i : Nat} (hi : i < aN A) : axEv ro (d + 2) kX0_highestPlace [.ref 1, .int (nI (aR A i))] (hX B Y sl P G tl) (some (.int (nI (aHi A i - 1)))) (hX B Y sl P G tl) := by
  have hn := hO.n
  have hp := aHi_pos hO hi
  have hle : aHi A i ≤ aN A := aFst_le _ _
  have loop : ∀ m q, q + m = aHi A i → axW ro (axEv ro (d + 1)) cdX0_highestPlace 7 [some (.ref 1), some (.int (nI (aR A i))), some (.int (nI q))] [.int (bSz B), .int (nI q)] (hX B Y sl P G tl) (fun r' h' => r' = some (.int (nI (aHi A i - 1))) ∧ h' = (hX B Y sl P G tl)) := by
    intro m
    induction m with
    | zero =>
      intro q e
      have e : q = aHi A i := by omega
      subst e
      rw [cr_sz hC]
      by_cases hq : aHi A i < aN A
      · refine wp_icge rfl (fun hz_ => absurd hz_ (nI_ge hq (by omega))) (fun _ => ?_)
        refine wp_run rfl ?_
        refine wp_s2 rfl (Nat.le_of_ble_eq_true rfl) (x4_cell rfl (show aHi A i < 24 by omega) (by decide)) ?_
        refine wp_run rfl ?_
        rw [cr_rw hC hq]
        refine wp_s2 rfl (Nat.le_of_ble_eq_true rfl) (x4_cell rfl (hO.r hq) (by decide)) ?_
        refine wp_run rfl ?_
        rw [cr_nd hC hq]
        refine wp_s2 rfl (Nat.le_of_ble_eq_true rfl) (x4_contains_in (hO.r hi)) ?_
        refine wp_run rfl ?_
        rw [if_pos (show bt (aD A (aR A (aHi A i))) (aR A i) = true from aFst_yes (fun p => bt (aD A (aR A p)) (aR A i)) (aN A) hq)]
        refine wp_ifeq rfl (fun hz_ => absurd hz_ ((by decide : ¬ (1 : Int32) = 0))) (fun _ => ?_)
        refine wp_run rfl ?_
        rw [nI_p1 hp]
        exact wp_ret rfl rfl ⟨rfl, rfl⟩
      · refine wp_icge rfl (fun _ => ?_) (fun hz_ => absurd (nI_le (show aN A ≤ aHi A i by omega) (by omega)) hz_)
        refine wp_run rfl ?_
        rw [cr_sz hC, nI_p1 (a := aN A) (by omega), show aN A - 1 = aHi A i - 1 by omega]
        exact wp_ret rfl rfl ⟨rfl, rfl⟩
    | succ m ih =>
      intro q e
      have hq : q < aN A := by omega
      rw [cr_sz hC]
      refine wp_icge rfl (fun hz_ => absurd hz_ (nI_ge hq (by omega))) (fun _ => ?_)
      refine wp_run rfl ?_
      refine wp_s2 rfl (Nat.le_of_ble_eq_true rfl) (x4_cell rfl (show q < 24 by omega) (by decide)) ?_
      refine wp_run rfl ?_
      rw [cr_rw hC hq]
      refine wp_s2 rfl (Nat.le_of_ble_eq_true rfl) (x4_cell rfl (hO.r hq) (by decide)) ?_
      refine wp_run rfl ?_
      rw [cr_nd hC hq]
      refine wp_s2 rfl (Nat.le_of_ble_eq_true rfl) (x4_contains_in (hO.r hi)) ?_
      refine wp_run rfl ?_
      have h3 : bt (aD A (aR A q)) (aR A i) = false := aFst_no (fun p => bt (aD A (aR A p)) (aR A i)) (aN A) q (by unfold aHi at e; omega)
      rw [if_neg (by rw [h3]; decide)]
      refine wp_ifeq rfl (fun _ => ?_) (fun hz_ => absurd (rfl) hz_)
      refine wp_run rfl ?_
      rw [nI_1]
      exact ih (q + 1) (by omega)
  refine ev_in rfl rfl (Nat.le_of_ble_eq_true rfl) rfl ?_
  refine wp_run rfl ?_
  exact loop (aHi A i) 0 (by omega)
theorem x0_mayStandIn (hO : aOk A) (hC : CR B A) {i q : Nat} (hi : i < aN A) (hq : q < aN A) : axEv ro (d + 4) kX0_mayStandIn [.ref 1, .int (nI (aR A i)), .int (nI q)] (hX B Y sl P G tl) (some (.int (if aLo A i ≤ q ∧ q < aHi A i then 1 else 0))) (hX B Y sl P G tl) := by
  have hn := hO.n
  have hp := aHi_pos hO hi
  have hle : aHi A i ≤ aN A := aFst_le _ _
  have hl : aLo A i ≤ aN A := aLoF_le _ _ _
  refine ev_in rfl rfl (Nat.le_of_ble_eq_true rfl) rfl ?_
  refine wp_run rfl ?_
  refine wp_v1 rfl rfl (Nat.le_of_ble_eq_true rfl) (x0_lowestPlace hO hC hi) ?_
  refine wp_run rfl ?_
  by_cases h1 : aLo A i ≤ q
  · refine wp_iclt rfl (fun hz_ => absurd hz_ (nI_nlt h1 (by omega))) (fun _ => ?_)
    refine wp_run rfl ?_
    refine wp_v1 rfl rfl (Nat.le_of_ble_eq_true rfl) (x0_highestPlace hO hC hi) ?_
    refine wp_run rfl ?_
    by_cases h2 : q < aHi A i
    · rw [if_pos ⟨h1, h2⟩]
      refine wp_icgt rfl (fun hz_ => absurd hz_ (nI_nlt (show q ≤ aHi A i - 1 by omega) (by omega))) (fun _ => ?_)
      refine wp_run rfl ?_
      exact wp_ret rfl rfl ⟨rfl, rfl⟩
    · rw [if_neg (fun z => h2 z.2)]
      refine wp_icgt rfl (fun _ => ?_) (fun hz_ => absurd (nI_lt (show aHi A i - 1 < q by omega) (by omega)) hz_)
      refine wp_run rfl ?_
      exact wp_ret rfl rfl ⟨rfl, rfl⟩
  · rw [if_neg (fun z => h1 z.1)]
    refine wp_iclt rfl (fun _ => ?_) (fun hz_ => absurd (nI_lt (show q < aLo A i by omega) (by omega)) hz_)
    refine wp_run rfl ?_
    exact wp_ret rfl rfl ⟨rfl, rfl⟩
theorem aLng_le (hO : aOk A) : ∀ p, p ≤ aN A → (aLng A p).2 ≤ 99
  | 0, _ => by simp [aLng]
  | p + 1, h => by
    have ih := aLng_le hO p (by omega)
    have := hO.b (show p < aN A by omega)
    rw [aLng]
    split
    · show aB A (aR A p) ≤ 99; omega
    · exact ih
theorem x0_longestSlug (hO : aOk A) (hC : CR B A) : axEv ro (d + 3) kX0_longestSlug [.ref 1] (hX B Y sl P G tl) (some (.int (aLng A (aN A)).1)) (hX B Y sl P G tl) := by
  have hn := hO.n
  have loop : ∀ m q, q + m = aN A → ∀ v : Option Value, axW ro (axEv ro (d + 2)) cdX0_longestSlug 12 [some (.ref 1), some (.int (aLng A q).1), some (.int (nI (aLng A q).2)), some (.int (nI q)), v] [.int (bSz B), .int (nI q)] (hX B Y sl P G tl) (fun r' h' => r' = some (.int ((aLng A (aN A)).1)) ∧ h' = (hX B Y sl P G tl)) := by
    intro m
    induction m with
    | zero =>
      intro q e v
      have e : q = aN A := by omega
      subst e
      rw [cr_sz hC]
      refine wp_icge rfl (fun _ => ?_) (fun hz_ => absurd (nI_le (Nat.le_refl _) (by omega)) hz_)
      refine wp_run rfl ?_
      exact wp_ret rfl rfl ⟨rfl, rfl⟩
    | succ m ih =>
      intro q e v
      have hq : q < aN A := by omega
      have hm := aLng_le hO q (by omega)
      have hb := hO.b hq
      rw [cr_sz hC]
      refine wp_icge rfl (fun hz_ => absurd hz_ (nI_ge hq (by omega))) (fun _ => ?_)
      refine wp_run rfl ?_
      refine wp_s2 rfl (Nat.le_of_ble_eq_true rfl) (x4_cell rfl (show q < 24 by omega) (by decide)) ?_
      refine wp_run rfl ?_
      rw [cr_rw hC hq]
      refine wp_v1 rfl rfl (Nat.le_of_ble_eq_true rfl) (x0_beatsOf hO hC hq) ?_
      refine wp_run rfl ?_
      have e1 : aLng A (q + 1) = if (aLng A q).2 < aB A (aR A q) then (nI (aR A q), aB A (aR A q)) else aLng A q := rfl
      by_cases h2 : (aLng A q).2 < aB A (aR A q)
      · rw [if_pos h2] at e1
        refine wp_icle rfl (fun hz_ => absurd hz_ (nI_ge h2 (by omega))) (fun _ => ?_)
        refine wp_run rfl ?_
        refine wp_v1 rfl rfl (Nat.le_of_ble_eq_true rfl) (x0_beatsOf hO hC hq) ?_
        refine wp_run rfl ?_
        rw [nI_1]
        have := ih (q + 1) (by omega) (some (.int (nI (aR A q))))
        rw [e1] at this
        exact this
      · rw [if_neg h2] at e1
        refine wp_icle rfl (fun _ => ?_) (fun hz_ => absurd (nI_le (show aB A (aR A q) ≤ (aLng A q).2 by omega) (by omega)) hz_)
        refine wp_run rfl ?_
        rw [nI_1]
        have := ih (q + 1) (by omega) (some (.int (nI (aR A q))))
        rw [e1] at this
        exact this
  refine ev_in rfl rfl (Nat.le_of_ble_eq_true rfl) rfl ?_
  refine wp_run rfl ?_
  exact loop (aN A) 0 (by omega) _
end AX19
end
section
/-! THE CLASS: acts. -/
/-- how many acts; where an act begins; its target; by how much it is off; is it open; does it fit -/
def aActs (A : axAD) : Nat := if aN A = 0 then 0 else aAct A (aN A - 1) + 1
def aSt (A : axAD) (a : Nat) : Nat := bc (fun q => decide (aAct A q < a)) (aN A)
def aTgt (A : axAD) (a : Nat) : Nat := aTg A (min a 5)
def aOff (A : axAD) (a : Nat) : Int := ((aBeg A (aSt A (a + 1)) - aBeg A (aSt A a) : Nat) : Int) - (aTgt A a : Int)
theorem aSt_lt (A : axAD) (a q : Nat) : q < aSt A a ↔ (q < aN A ∧ aAct A q < a) := by
  unfold aSt
  rw [bc_pre (aN A) (fun q _ hq => by
    rw [decide_eq_true_eq] at *
    have : aAct A q ≤ aAct A (q + 1) := aS_mono (by omega)
    omega) q, decide_eq_true_eq]
theorem aSt_le (A : axAD) (a : Nat) : aSt A a ≤ aN A := bc_le _ _
theorem aSt_mono (A : axAD) {a b : Nat} (h : a ≤ b) : aSt A a ≤ aSt A b := by
  rcases Nat.lt_or_ge (aSt A b) (aSt A a) with z | z
  · have h1 := (aSt_lt A a (aSt A b)).mp z
    have h2 := (aSt_lt A b (aSt A b)).mpr ⟨h1.1, by omega⟩
    omega
  · exact z
theorem aTgt_le {A : axAD} (h : aOk A) (a : Nat) : 1 ≤ aTgt A a ∧ aTgt A a ≤ 999 := h.tg (by omega)
theorem aActs_le (A : axAD) : aActs A ≤ aN A := by
  unfold aActs
  split
  · omega
  · have := aAct_le (A := A) (aN A - 1); omega
theorem aOff_b {A : axAD} (h : aOk A) (a : Nat) : -999 ≤ aOff A a ∧ aOff A a ≤ 2376 := by
  have h1 := aTgt_le h a
  have h2 := aBeg_le h (aSt_le A (a + 1))
  have h3 := aSt_le A (a + 1)
  have h4 := h.n
  unfold aOff
  omega
theorem bc_point {f : Nat → Bool} {a : Nat} {c : Bool} (hf : f a = false) : ∀ N, bc (fun k => f k || (decide (k = a) && c)) N = bc f N + (if a < N ∧ c = true then 1 else 0)
  | 0 => by simp [bc]
  | N + 1 => by
    rw [bc, bc, bc_point hf N]
    by_cases e : N = a
    · subst e
      rw [hf]
      cases c
      · simp
      · simp
    · have : decide (N = a) = false := decide_eq_false e
      rw [this]
      simp only [Bool.false_and, Bool.or_false]
      by_cases h1 : a < N
      · have : a < N + 1 := by omega
        simp only [h1, this, true_and]; omega
      · have : ¬ a < N + 1 := by omega
        simp only [h1, this, false_and, if_false, Nat.add_zero]
theorem bc_row {r : Nat → Nat} {t : Nat → Bool} {n N : Nat} (hr : ∀ i, i < n → r i < N) (inj : ∀ i j, i < n → j < n → r i = r j → i = j) : ∀ p, p ≤ n → ∀ f : Nat → Bool, (∀ k, f k = true ↔ ∃ i, i < p ∧ r i = k ∧ t k = true) → bc f N = aS (fun i => if t (r i) = true then 1 else 0) p
  | 0, _, f, hf => by
    have : ∀ k, k < N → f k = (fun _ => false) k := fun k _ => by
      cases h : f k with
      | false => rfl
      | true => obtain ⟨i, hi, _⟩ := (hf k).mp h; omega
    rw [bc_cong N this]
    have z : ∀ N, bc (fun _ => false) N = 0 := by
      intro N
      induction N with
      | zero => rfl
      | succ N ih => rw [bc, ih]; rfl
    rw [z]; rfl
  | p + 1, hp, f, hf => by
    have ih := bc_row (t := t) hr inj p (by omega)
    obtain ⟨g, hg⟩ : ∃ g : Nat → Bool, ∀ k, g k = true ↔ ∃ i, i < p ∧ r i = k ∧ t k = true := ⟨fun k => @decide _ (Classical.propDecidable (∃ i, i < p ∧ r i = k ∧ t k = true)), fun k => by simp⟩
    have hgp : g (r p) = false := by
      cases h : g (r p) with
      | false => rfl
      | true =>
        obtain ⟨i, hi, e, _⟩ := (hg (r p)).mp h
        have := inj i p (by omega) (by omega) e
        omega
    have e : ∀ k, k < N → f k = (fun k => g k || (decide (k = r p) && t (r p))) k := by
      intro k _
      have h1 := hf k
      have h2 := hg k
      show f k = (g k || (decide (k = r p) && t (r p)))
      cases hfk : f k
      · cases hgk : g k
        · by_cases ek : k = r p
          · subst ek
            cases ht : t (r p)
            · simp
            · exact absurd (h1.mpr ⟨p, by omega, rfl, ht⟩) (by rw [hfk]; decide)
          · simp [ek]
        · obtain ⟨i, hi, q1, q2⟩ := h2.mp hgk
          exact absurd (h1.mpr ⟨i, by omega, q1, q2⟩) (by rw [hfk]; decide)
      · obtain ⟨i, hi, q1, q2⟩ := h1.mp hfk
        by_cases ei : i = p
        · subst ei
          subst q1
          simp [q2]
        · have := h2.mpr ⟨i, by omega, q1, q2⟩
          rw [this]; rfl
    rw [bc_cong N e, bc_point hgp, ih g hg, aS]
    congr 1
    have := hr p (by omega)
    cases t (r p)
    · simp
    · simp [this]
section AX20
variable {ro : axRo} {d : Nat} {h h1 : axH} {B : axBD} {Y : axYD} {sl : Nat → Option Nat} {P : axPD} {G : axGD} {tl : axH} {A : axAD}
theorem aTurns (hO : aOk A) (hC : CR B A) : pcN (bTn B) = aAct A (aN A) := by
  unfold pcN aAct
  refine bc_row (r := aR A) (t := aT A) (n := aN A) (fun i hi => by have := hO.r hi; omega) (fun i j hi hj e => hO.inj hi hj e) (aN A) (Nat.le_refl _) _ (fun k => ?_)
  rw [cr_tn hC k]
  constructor
  · rintro ⟨⟨i, hi, e⟩, ht⟩
    exact ⟨i, hi, e, ht⟩
  · rintro ⟨i, hi, e, ht⟩
    exact ⟨⟨i, hi, e⟩, ht⟩
theorem x0_actCount (hO : aOk A) (hC : CR B A) : axEv ro (d + 2) kX0_actCount [.ref 1] (hX B Y sl P G tl) (some (.int (nI (aActs A)))) (hX B Y sl P G tl) := by
  have hn := hO.n
  have ha := aAct_le (A := A) (aN A)
  have ht := aTurns hO hC
  refine ev_in rfl rfl (Nat.le_of_ble_eq_true rfl) rfl ?_
  refine wp_run rfl ?_
  rw [cr_sz hC]
  by_cases h0 : aN A = 0
  · refine wp_ifle rfl (fun _ => ?_) (fun hz_ => absurd (by rw [h0]; decide) hz_)
    refine wp_run rfl ?_
    refine wp_s1 rfl (Nat.le_of_ble_eq_true rfl) (xJ_bitCount _) ?_
    refine wp_run rfl ?_
    refine wp_ifeq rfl (fun _ => ?_) (fun hz_ => absurd (rfl) hz_)
    refine wp_run rfl ?_
    rw [ht, show aAct A (aN A) = 0 by omega]
    exact wp_ret rfl rfl ⟨by unfold aActs; rw [if_pos h0]; rfl, rfl⟩
  · have hp : aN A - 1 < aN A := by omega
    refine wp_ifle rfl (fun hz_ => absurd hz_ (nI_nle (by omega) (by omega))) (fun _ => ?_)
    refine wp_run rfl ?_
    rw [cr_sz hC, nI_p1 (by omega)]
    refine wp_s2 rfl (Nat.le_of_ble_eq_true rfl) (x4_cell rfl (show aN A - 1 < 24 by omega) (by decide)) ?_
    refine wp_run rfl ?_
    rw [cr_rw hC hp]
    refine wp_s2 rfl (Nat.le_of_ble_eq_true rfl) (x4_contains_in (hO.r hp)) ?_
    refine wp_run rfl ?_
    rw [cr_tnr hC hp]
    have e1 : aAct A (aN A - 1 + 1) = aAct A (aN A - 1) + (if aT A (aR A (aN A - 1)) = true then 1 else 0) := rfl
    rw [show aN A - 1 + 1 = aN A by omega] at e1
    cases hb : aT A (aR A (aN A - 1)) with
    | true =>
      rw [hb] at e1
      refine wp_ifne rfl (fun _ => ?_) (fun hz_ => absurd ((by decide : ¬ (1 : Int32) = 0)) hz_)
      refine wp_run rfl ?_
      refine wp_s1 rfl (Nat.le_of_ble_eq_true rfl) (xJ_bitCount _) ?_
      refine wp_run rfl ?_
      refine wp_ifeq rfl (fun _ => ?_) (fun hz_ => absurd (rfl) hz_)
      refine wp_run rfl ?_
      rw [ht, e1]
      exact wp_ret rfl rfl ⟨by unfold aActs; rw [if_neg h0]; exact congrArg (fun z => some (Value.int z)) (Int32.add_zero _), rfl⟩
    | false =>
      rw [hb] at e1
      refine wp_ifne rfl (fun hz_ => absurd hz_ (fun z => z rfl)) (fun _ => ?_)
      refine wp_run rfl ?_
      refine wp_s1 rfl (Nat.le_of_ble_eq_true rfl) (xJ_bitCount _) ?_
      refine wp_run rfl ?_
      refine wp_ifeq rfl (fun hz_ => absurd hz_ ((by decide : ¬ (1 : Int32) = 0))) (fun _ => ?_)
      refine wp_run rfl ?_
      rw [ht, e1, nI_1]
      exact wp_ret rfl rfl ⟨by unfold aActs; rw [if_neg h0]; rfl, rfl⟩
theorem x0_hasAct_in (hO : aOk A) (hC : CR B A) {a : Nat} (ha : a < aActs A) : axEv ro (d + 3) kX0_hasAct [.ref 1, .int (nI a)] (hX B Y sl P G tl) (some (.int 1)) (hX B Y sl P G tl) := by
  have hn := hO.n
  have hl := aActs_le A
  refine ev_in rfl rfl (Nat.le_of_ble_eq_true rfl) rfl ?_
  refine wp_run rfl ?_
  refine wp_iflt rfl (fun hz_ => absurd hz_ (nI_pos (by omega))) (fun _ => ?_)
  refine wp_run rfl ?_
  refine wp_v0 rfl rfl (Nat.le_of_ble_eq_true rfl) (x0_actCount hO hC) ?_
  refine wp_run rfl ?_
  refine wp_icge rfl (fun hz_ => absurd hz_ (nI_ge ha (by omega))) (fun _ => ?_)
  refine wp_run rfl ?_
  exact wp_ret rfl rfl ⟨rfl, rfl⟩
theorem x0_hasAct_out (hO : aOk A) (hC : CR B A) {y : Int32} (hy : y < 0 ∨ nI (aActs A) ≤ y) : axEv ro (d + 3) kX0_hasAct [.ref 1, .int y] (hX B Y sl P G tl) (some (.int 0)) (hX B Y sl P G tl) := by
  refine ev_in rfl rfl (Nat.le_of_ble_eq_true rfl) rfl ?_
  refine wp_run rfl ?_
  refine wp_iflt rfl (fun q => ?_) (fun q => ?_)
  · refine wp_run rfl ?_
    exact wp_ret rfl rfl ⟨rfl, rfl⟩
  · refine wp_run rfl ?_
    refine wp_v0 rfl rfl (Nat.le_of_ble_eq_true rfl) (x0_actCount hO hC) ?_
    refine wp_run rfl ?_
    refine wp_icge rfl (fun q2 => ?_) (fun q2 => ?_)
    · refine wp_run rfl ?_
      exact wp_ret rfl rfl ⟨rfl, rfl⟩
    · exact absurd hy (fun z => z.elim q q2)
theorem x0_startOf (hO : aOk A) (hC : CR B A) {a : Nat} (ha : a < 2 ^ 31) : axEv ro (d + 2) kX0_startOf [.ref 1, .int (nI a)] (hX B Y sl P G tl) (some (.int (nI (aSt A a)))) (hX B Y sl P G tl) := by
  have hn := hO.n
  have hl := aSt_le A a
  have loop : ∀ m q, q + m = aSt A a → axW ro (axEv ro (d + 1)) cdX0_startOf 9 [some (.ref 1), some (.int (nI a)), some (.int (nI q)), some (.int (nI (a - aAct A q)))] [.int (bSz B), .int (nI q)] (hX B Y sl P G tl) (fun r' h' => r' = some (.int (nI (aSt A a))) ∧ h' = (hX B Y sl P G tl)) := by
    intro m
    induction m with
    | zero =>
      intro q e
      have e : q = aSt A a := by omega
      subst e
      rw [cr_sz hC]
      by_cases hq : aSt A a < aN A
      · have h1 : ¬ aAct A (aSt A a) < a := fun z => by have := (aSt_lt A a (aSt A a)).mpr ⟨hq, z⟩; omega
        refine wp_icge rfl (fun hz_ => absurd hz_ (nI_ge hq (by omega))) (fun _ => ?_)
        refine wp_run rfl ?_
        refine wp_ifle rfl (fun _ => ?_) (fun hz_ => absurd (by rw [show a - aAct A (aSt A a) = 0 by omega]; decide) hz_)
        refine wp_run rfl ?_
        exact wp_ret rfl rfl ⟨rfl, rfl⟩
      · refine wp_icge rfl (fun _ => ?_) (fun hz_ => absurd (nI_le (show aN A ≤ aSt A a by omega) (by omega)) hz_)
        refine wp_run rfl ?_
        exact wp_ret rfl rfl ⟨rfl, rfl⟩
    | succ m ih =>
      intro q e
      obtain ⟨hq, h1⟩ := (aSt_lt A a q).mp (by omega)
      rw [cr_sz hC]
      refine wp_icge rfl (fun hz_ => absurd hz_ (nI_ge hq (by omega))) (fun _ => ?_)
      refine wp_run rfl ?_
      refine wp_ifle rfl (fun hz_ => absurd hz_ (nI_nle (show 0 < a - aAct A q by omega) (by omega))) (fun _ => ?_)
      refine wp_run rfl ?_
      refine wp_s2 rfl (Nat.le_of_ble_eq_true rfl) (x4_cell rfl (show q < 24 by omega) (by decide)) ?_
      refine wp_run rfl ?_
      rw [cr_rw hC hq]
      refine wp_s2 rfl (Nat.le_of_ble_eq_true rfl) (x4_contains_in (hO.r hq)) ?_
      refine wp_run rfl ?_
      rw [cr_tnr hC hq]
      have e1 : aAct A (q + 1) = aAct A q + (if aT A (aR A q) = true then 1 else 0) := rfl
      cases hb : aT A (aR A q) with
      | true =>
        rw [hb] at e1
        refine wp_ifeq rfl (fun hz_ => absurd hz_ ((by decide : ¬ (1 : Int32) = 0))) (fun _ => ?_)
        refine wp_run rfl ?_
        have e2 : nI (a - aAct A q) + (-1) = nI (a - aAct A (q + 1)) := by
          rw [e1, show a - aAct A q = (a - (aAct A q + if true = true then 1 else 0)) + 1 by simp; omega, pk_m1]
        rw [e2, nI_1]
        exact ih (q + 1) (by omega)
      | false =>
        rw [hb] at e1
        refine wp_ifeq rfl (fun _ => ?_) (fun hz_ => absurd (rfl) hz_)
        refine wp_run rfl ?_
        rw [nI_1, show aAct A q = aAct A (q + 1) by rw [e1]; rfl]
        exact ih (q + 1) (by omega)
  refine ev_in rfl rfl (Nat.le_of_ble_eq_true rfl) rfl ?_
  refine wp_run rfl ?_
  exact loop (aSt A a) 0 (by omega)
theorem x0_targetOf (hO : aOk A) (hC : CR B A) {a : Nat} (ha : a < 2 ^ 31) : axEv ro (d + 2) kX0_targetOf [.ref 1, .int (nI a)] (hX B Y sl P G tl) (some (.int (nI (aTgt A a)))) (hX B Y sl P G tl) := by
  refine ev_in rfl rfl (Nat.le_of_ble_eq_true rfl) rfl ?_
  refine wp_run rfl ?_
  refine wp_min rfl (Nat.le_of_ble_eq_true rfl) ((nI_min (b := 5) ha (by omega))) ?_
  refine wp_run rfl ?_
  refine wp_s2 rfl (Nat.le_of_ble_eq_true rfl) (x4_cell rfl (show min a 5 < 6 by omega) (by decide)) ?_
  refine wp_run rfl ?_
  rw [cr_tg hC (show min a 5 < 6 by omega)]
  exact wp_ret rfl rfl ⟨rfl, rfl⟩
theorem x0_offOf (hO : aOk A) (hC : CR B A) {a : Nat} (ha : a < 2 ^ 30) : axEv ro (d + 3) kX0_offOf [.ref 1, .int (nI a)] (hX B Y sl P G tl) (some (.int (zI (aOff A a)))) (hX B Y sl P G tl) := by
  refine ev_in rfl rfl (Nat.le_of_ble_eq_true rfl) rfl ?_
  refine wp_run rfl ?_
  refine wp_v1 rfl rfl (Nat.le_of_ble_eq_true rfl) (x0_startOf hO hC (by omega)) ?_
  refine wp_run rfl ?_
  rw [nI_1]
  refine wp_v1 rfl rfl (Nat.le_of_ble_eq_true rfl) (x0_startOf hO hC (by omega)) ?_
  refine wp_run rfl ?_
  refine wp_v2 rfl rfl (Nat.le_of_ble_eq_true rfl) (x0_beatsIn hO hC (aSt_mono A (by omega)) (aSt_le A _)) ?_
  refine wp_run rfl ?_
  refine wp_v1 rfl rfl (Nat.le_of_ble_eq_true rfl) (x0_targetOf hO hC (by omega)) ?_
  refine wp_run rfl ?_
  rw [show nI (aBeg A (aSt A (a + 1)) - aBeg A (aSt A a)) - nI (aTgt A a) = zI (aOff A a) by unfold aOff; rw [← zI_nI, ← zI_nI, zI_sub]]
  exact wp_ret rfl rfl ⟨rfl, rfl⟩
theorem x0_isOpen (hO : aOk A) (hC : CR B A) {a : Nat} (ha : a < 2 ^ 31) : axEv ro (d + 2) kX0_isOpen [.ref 1, .int (nI a)] (hX B Y sl P G tl) (some (.int (if aAct A (aN A) ≤ a then 1 else 0))) (hX B Y sl P G tl) := by
  have hl := aAct_le (A := A) (aN A)
  have hn := hO.n
  refine ev_in rfl rfl (Nat.le_of_ble_eq_true rfl) rfl ?_
  refine wp_run rfl ?_
  refine wp_s1 rfl (Nat.le_of_ble_eq_true rfl) (xJ_bitCount _) ?_
  refine wp_run rfl ?_
  rw [aTurns hO hC]
  by_cases h : aAct A (aN A) ≤ a
  · rw [if_pos h]
    refine wp_iclt rfl (fun hz_ => absurd hz_ (nI_nlt h (by omega))) (fun _ => ?_)
    refine wp_run rfl ?_
    exact wp_ret rfl rfl ⟨rfl, rfl⟩
  · rw [if_neg h]
    refine wp_iclt rfl (fun _ => ?_) (fun hz_ => absurd (nI_lt (show a < aAct A (aN A) by omega) (by omega)) hz_)
    refine wp_run rfl ?_
    exact wp_ret rfl rfl ⟨rfl, rfl⟩
theorem x0_isFitting (hO : aOk A) (hC : CR B A) {a : Nat} (ha : a < 2 ^ 30) : axEv ro (d + 4) kX0_isFitting [.ref 1, .int (nI a)] (hX B Y sl P G tl) (some (.int (if a < aAct A (aN A) ∧ (aOff A a).natAbs ≤ aSl A then 1 else 0))) (hX B Y sl P G tl) := by
  have hb := aOff_b hO a
  have hs := hO.sl
  refine ev_in rfl rfl (Nat.le_of_ble_eq_true rfl) rfl ?_
  refine wp_run rfl ?_
  refine wp_v1 rfl rfl (Nat.le_of_ble_eq_true rfl) (x0_isOpen hO hC (by omega)) ?_
  refine wp_run rfl ?_
  by_cases h : aAct A (aN A) ≤ a
  · rw [if_pos h, if_neg (fun z => by omega)]
    refine wp_ifne rfl (fun _ => ?_) (fun hz_ => absurd ((by decide : ¬ (1 : Int32) = 0)) hz_)
    refine wp_run rfl ?_
    exact wp_ret rfl rfl ⟨rfl, rfl⟩
  · rw [if_neg h]
    refine wp_ifne rfl (fun hz_ => absurd hz_ (fun z => z rfl)) (fun _ => ?_)
    refine wp_run rfl ?_
    refine wp_v1 rfl rfl (Nat.le_of_ble_eq_true rfl) (x0_offOf hO hC ha) ?_
    refine wp_run rfl ?_
    refine wp_abs rfl (Nat.le_of_ble_eq_true rfl) ((zI_abs (by omega) (by omega))) ?_
    refine wp_run rfl ?_
    refine wp_v1 rfl rfl (Nat.le_of_ble_eq_true rfl) (x0_settingOf (j := 1) (by omega)) ?_
    refine wp_run rfl ?_
    rw [cr_sl hC]
    by_cases h2 : (aOff A a).natAbs ≤ aSl A
    · rw [if_pos ⟨by omega, h2⟩]
      refine wp_icgt rfl (fun hz_ => absurd hz_ (nI_nlt h2 (by omega))) (fun _ => ?_)
      refine wp_run rfl ?_
      exact wp_ret rfl rfl ⟨rfl, rfl⟩
    · rw [if_neg (fun z => h2 z.2)]
      refine wp_icgt rfl (fun _ => ?_) (fun hz_ => absurd (nI_lt (show aSl A < (aOff A a).natAbs by omega) (by omega)) hz_)
      refine wp_run rfl ?_
      exact wp_ret rfl rfl ⟨rfl, rfl⟩
theorem x0_fittingActs (hO : aOk A) (hC : CR B A) : axEv ro (d + 5) kX0_fittingActs [.ref 1] (hX B Y sl P G tl) (some (.int (nI (bc (fun a => decide (a < aAct A (aN A) ∧ (aOff A a).natAbs ≤ aSl A)) (aActs A))))) (hX B Y sl P G tl) := by
  have hl := aActs_le A
  have hn := hO.n
  have loop : ∀ m q, q + m = aActs A → axW ro (axEv ro (d + 4)) cdX0_fittingActs 11 [some (.ref 1), some (.int (nI (bc (fun a => decide (a < aAct A (aN A) ∧ (aOff A a).natAbs ≤ aSl A)) q))), some (.int (nI (aActs A))), some (.int (nI q))] [.int (nI (aActs A)), .int (nI q)] (hX B Y sl P G tl) (fun r' h' => r' = some (.int (nI (bc (fun a => decide (a < aAct A (aN A) ∧ (aOff A a).natAbs ≤ aSl A)) (aActs A)))) ∧ h' = (hX B Y sl P G tl)) := by
    intro m
    induction m with
    | zero =>
      intro q e
      have e : q = aActs A := by omega
      subst e
      refine wp_icge rfl (fun _ => ?_) (fun hz_ => absurd (nI_le (Nat.le_refl _) (by omega)) hz_)
      refine wp_run rfl ?_
      exact wp_ret rfl rfl ⟨rfl, rfl⟩
    | succ m ih =>
      intro q e
      refine wp_icge rfl (fun hz_ => absurd hz_ (nI_ge (show q < aActs A by omega) (by omega))) (fun _ => ?_)
      refine wp_run rfl ?_
      refine wp_v1 rfl rfl (Nat.le_of_ble_eq_true rfl) (x0_isFitting hO hC (show q < 2 ^ 30 by omega)) ?_
      refine wp_run rfl ?_
      have ih := ih (q + 1) (by omega)
      rw [bc] at ih
      by_cases h2 : q < aAct A (aN A) ∧ (aOff A q).natAbs ≤ aSl A
      · rw [if_pos h2]
        rw [if_pos (decide_eq_true h2)] at ih
        refine wp_ifeq rfl (fun hz_ => absurd hz_ ((by decide : ¬ (1 : Int32) = 0))) (fun _ => ?_)
        refine wp_run rfl ?_
        rw [nI_1, nI_1]
        exact ih
      · rw [if_neg h2]
        rw [if_neg (by rw [decide_eq_false h2]; decide), Nat.add_zero] at ih
        refine wp_ifeq rfl (fun _ => ?_) (fun hz_ => absurd (rfl) hz_)
        refine wp_run rfl ?_
        rw [nI_1]
        exact ih
  refine ev_in rfl rfl (Nat.le_of_ble_eq_true rfl) rfl ?_
  refine wp_run rfl ?_
  refine wp_v0 rfl rfl (Nat.le_of_ble_eq_true rfl) (x0_actCount hO hC) ?_
  refine wp_run rfl ?_
  exact loop (aActs A) 0 (by omega)
/-- what fit() would trim of an act -/
def aCut (A : axAD) (a : Nat) : Nat := min (aOff A a).toNat (aRm A (aSt A (a + 1)) - aRm A (aSt A a))
theorem x0_cutOf_out (hO : aOk A) (hC : CR B A) {y : Int32} (hy : y < 0 ∨ nI (aActs A) ≤ y) : axEv ro (d + 4) kX0_cutOf [.ref 1, .int y] (hX B Y sl P G tl) (some (.int (-1))) (hX B Y sl P G tl) := by
  refine ev_in rfl rfl (Nat.le_of_ble_eq_true rfl) rfl ?_
  refine wp_run rfl ?_
  refine wp_v1 rfl rfl (Nat.le_of_ble_eq_true rfl) (x0_hasAct_out hO hC hy) ?_
  refine wp_run rfl ?_
  refine wp_ifne rfl (fun hz_ => absurd hz_ (fun z => z rfl)) (fun _ => ?_)
  refine wp_run rfl ?_
  exact wp_ret rfl rfl ⟨rfl, rfl⟩
theorem x0_cutOf_in (hO : aOk A) (hC : CR B A) {a : Nat} (ha : a < aActs A) : axEv ro (d + 4) kX0_cutOf [.ref 1, .int (nI a)] (hX B Y sl P G tl) (some (.int (if (aOff A a).toNat - aCut A a ≤ aSl A then nI (aCut A a) else -5))) (hX B Y sl P G tl) := by
  have hl := aActs_le A
  have hn := hO.n
  have hb := aOff_b hO a
  have hr := aRm_le hO (aSt_le A (a + 1))
  have hq := aSt_le A (a + 1)
  have hs := hO.sl
  refine ev_in rfl rfl (Nat.le_of_ble_eq_true rfl) rfl ?_
  refine wp_run rfl ?_
  refine wp_v1 rfl rfl (Nat.le_of_ble_eq_true rfl) (x0_hasAct_in hO hC ha) ?_
  refine wp_run rfl ?_
  refine wp_ifne rfl (fun _ => ?_) (fun hz_ => absurd ((by decide : ¬ (1 : Int32) = 0)) hz_)
  refine wp_run rfl ?_
  refine wp_v1 rfl rfl (Nat.le_of_ble_eq_true rfl) (x0_offOf hO hC (by omega)) ?_
  refine wp_run rfl ?_
  have e0 : (if (0 : Int32) < zI (aOff A a) then zI (aOff A a) else 0) = nI (aOff A a).toNat := by
    have e : (0 : Int32) < zI (aOff A a) ↔ 0 < aOff A a := by rw [zI_0, zI_lt ⟨by omega, by omega⟩ ⟨by omega, by omega⟩]
    by_cases h : 0 < aOff A a
    · rw [if_pos (e.mpr h), ← zI_nI]; congr 1; omega
    · rw [if_neg (fun z => h (e.mp z)), show (aOff A a).toNat = 0 by omega]; rfl
  refine wp_max rfl (Nat.le_of_ble_eq_true rfl) (e0) ?_
  refine wp_run rfl ?_
  refine wp_v1 rfl rfl (Nat.le_of_ble_eq_true rfl) (x0_startOf hO hC (by omega)) ?_
  refine wp_run rfl ?_
  rw [nI_1]
  refine wp_v1 rfl rfl (Nat.le_of_ble_eq_true rfl) (x0_startOf hO hC (by omega)) ?_
  refine wp_run rfl ?_
  refine wp_v2 rfl rfl (Nat.le_of_ble_eq_true rfl) (x0_roomIn hO hC (aSt_mono A (by omega)) (aSt_le A _)) ?_
  refine wp_run rfl ?_
  refine wp_min rfl (Nat.le_of_ble_eq_true rfl) ((nI_min (by omega) (by omega))) ?_
  refine wp_run rfl ?_
  have hm : min (aOff A a).toNat (aRm A (aSt A (a + 1)) - aRm A (aSt A a)) ≤ (aOff A a).toNat := Nat.min_le_left _ _
  rw [pk_sub hm]
  refine wp_v1 rfl rfl (Nat.le_of_ble_eq_true rfl) (x0_settingOf (j := 1) (by omega)) ?_
  refine wp_run rfl ?_
  rw [cr_sl hC]
  by_cases h2 : (aOff A a).toNat - aCut A a ≤ aSl A
  · rw [if_pos h2]
    refine wp_icle rfl (fun _ => ?_) (fun hz_ => absurd (nI_le h2 (by omega)) hz_)
    refine wp_run rfl ?_
    exact wp_ret rfl rfl ⟨rfl, rfl⟩
  · rw [if_neg h2]
    refine wp_icle rfl (fun hz_ => absurd hz_ (nI_ge (show aSl A < (aOff A a).toNat - aCut A a by omega) (by have : aCut A a = min (aOff A a).toNat (aRm A (aSt A (a + 1)) - aRm A (aSt A a)) := rfl; omega))) (fun _ => ?_)
    refine wp_run rfl ?_
    exact wp_ret rfl rfl ⟨rfl, rfl⟩
end AX20
end
section
/-! THE CLASS: how far all acts are off. -/
/-- over the row: all that ended acts are off, the act, its beats so far, is it open -/
def aFo (A : axAD) : Nat → Nat × Nat × Nat × Bool
  | 0 => (0, 0, 0, false)
  | p + 1 => if aT A (aR A p) = true then ((aFo A p).1 + (((aFo A p).2.2.1 + aB A (aR A p) : Nat) - (aTgt A (aFo A p).2.1 : Int) : Int).natAbs, (aFo A p).2.1 + 1, 0, false) else ((aFo A p).1, (aFo A p).2.1, (aFo A p).2.2.1 + aB A (aR A p), true)
def aAll (A : axAD) : Nat := if (aFo A (aN A)).2.2.2 = true then (aFo A (aN A)).1 + (((aFo A (aN A)).2.2.1 : Int) - (aTgt A (aFo A (aN A)).2.1 : Int)).natAbs else (aFo A (aN A)).1
theorem aFo_le {A : axAD} (hn : aN A ≤ 24) (hb : ∀ i, i < aN A → aB A (aR A i) ≤ 99) (ht : ∀ a, a < 6 → aTg A a ≤ 999) : ∀ p, p ≤ aN A → (aFo A p).1 ≤ p * 2400 ∧ (aFo A p).2.1 ≤ p ∧ (aFo A p).2.2.1 ≤ p * 99
  | 0, _ => by simp [aFo]
  | p + 1, h => by
    obtain ⟨h1, h2, h3⟩ := aFo_le hn hb ht p (by omega)
    have h4 := hb p (by omega)
    have h5 : aTgt A (aFo A p).2.1 ≤ 999 := ht (min (aFo A p).2.1 5) (by omega)
    rw [aFo]
    generalize aFo A p = q at *
    generalize aTgt A q.2.1 = t at *
    generalize aB A (aR A p) = x at *
    have h6 : (((q.2.2.1 + x : Nat) : Int) - (t : Int)).natAbs ≤ 2400 := by omega
    have h7 : (p + 1) * 2400 = p * 2400 + 2400 := Nat.succ_mul p 2400
    split
    · refine ⟨?_, ?_, ?_⟩
      · rw [h7]
        exact Nat.add_le_add h1 h6
      · show q.2.1 + 1 ≤ p + 1
        omega
      · show 0 ≤ _
        omega
    · refine ⟨?_, ?_, ?_⟩
      · rw [h7]
        exact Nat.le_trans h1 (Nat.le_add_right _ _)
      · show q.2.1 ≤ p + 1
        omega
      · show q.2.2.1 + x ≤ _
        omega
section AX21
variable {ro : axRo} {d : Nat} {h h1 : axH} {B : axBD} {Y : axYD} {sl : Nat → Option Nat} {P : axPD} {G : axGD} {tl : axH} {A A' : axAD}
theorem x0_offOfRow (hO : aOk A) (hC : CR B A) {rr : Nat} {ord : Nat → Int32} {ts : Int32} (hrr : ((hX B Y sl P G tl))[rr]? = some (axAi 24 ord)) (hn' : aN A' = aN A) (hb' : aB A' = aB A) (htg : aTg A' = aTg A) (hpm : ∀ i, i < aN A → ∃ j, j < aN A ∧ aR A' i = aR A j) (ho : ∀ i, i < aN A → ord i = nI (aR A' i)) (hts : ∀ i, i < aN A → bt ts (aR A' i) = aT A' (aR A' i)) : axEv ro (d + 3) kX0_offOfRow [.ref 1, .ref rr, .int ts] (hX B Y sl P G tl) (some (.int (nI (aAll A')))) (hX B Y sl P G tl) := by
  have hn := hO.n
  have hB : ∀ i, i < aN A' → aB A' (aR A' i) ≤ 99 := fun i hi => by
    obtain ⟨j, hj, e⟩ := hpm i (by omega)
    rw [e, hb']
    have := hO.b hj; omega
  have hT : ∀ a, a < 6 → aTg A' a ≤ 999 := fun a ha => by rw [htg]; exact (hO.tg ha).2
  have tg : ∀ {a : Nat}, a < 2 ^ 31 → axEv ro (d + 2) kX0_targetOf [.ref 1, .int (nI a)] (hX B Y sl P G tl) (some (.int (nI (aTgt A' a)))) (hX B Y sl P G tl) := fun ha => by
    have := x0_targetOf (ro := ro) (d := d) (Y := Y) (sl := sl) (P := P) (G := G) (tl := tl) hO hC ha
    unfold aTgt at *
    rw [htg]; exact this
  have ab : ∀ q : Nat, ∀ x : Nat, x ≤ 2400 → ((if 0 ≤ nI x - nI (aTgt A' (aFo A' q).2.1) then nI x - nI (aTgt A' (aFo A' q).2.1) else 0 - (nI x - nI (aTgt A' (aFo A' q).2.1))) : Int32) = nI ((x : Int) - (aTgt A' (aFo A' q).2.1 : Int)).natAbs := by
    intro q x hx
    have h5 : aTgt A' (aFo A' q).2.1 ≤ 999 := hT (min (aFo A' q).2.1 5) (by omega)
    rw [← zI_nI x, ← zI_nI (aTgt A' (aFo A' q).2.1), zI_sub]
    exact zI_abs (by omega) (by omega)
  have loop : ∀ m q, q + m = aN A → ∀ v : Option Value, axW ro (axEv ro (d + 2)) cdX0_offOfRow 20 [some (.ref 1), some (.ref rr), some (.int ts), some (.int (nI (aFo A' q).1)), some (.int (nI (aFo A' q).2.1)), some (.int (nI (aFo A' q).2.2.1)), some (.int (if (aFo A' q).2.2.2 = true then 1 else 0)), some (.int (nI q)), v] [.int (bSz B), .int (nI q)] (hX B Y sl P G tl) (fun r' h' => r' = some (.int (nI (aAll A'))) ∧ h' = (hX B Y sl P G tl)) := by
    intro m
    induction m with
    | zero =>
      intro q e v
      have e : q = aN A := by omega
      subst e
      obtain ⟨f1, f2, f3⟩ := aFo_le (by omega) hB hT (aN A) (by omega)
      rw [cr_sz hC]
      refine wp_icge rfl (fun _ => ?_) (fun hz_ => absurd (nI_le (Nat.le_refl _) (by omega)) hz_)
      refine wp_run rfl ?_
      by_cases ho : (aFo A' (aN A)).2.2.2 = true
      · rw [if_pos ho]
        refine wp_ifeq rfl (fun hz_ => absurd hz_ ((by decide : ¬ (1 : Int32) = 0))) (fun _ => ?_)
        refine wp_run rfl ?_
        refine wp_v1 rfl rfl (Nat.le_of_ble_eq_true rfl) (tg (by omega)) ?_
        refine wp_run rfl ?_
        refine wp_abs rfl (Nat.le_of_ble_eq_true rfl) (ab (aN A) _ (by omega)) ?_
        refine wp_run rfl ?_
        rw [nI_add]
        exact wp_ret rfl rfl ⟨by unfold aAll; rw [hn', if_pos ho], rfl⟩
      · rw [if_neg ho]
        refine wp_ifeq rfl (fun _ => ?_) (fun hz_ => absurd (rfl) hz_)
        refine wp_run rfl ?_
        exact wp_ret rfl rfl ⟨by unfold aAll; rw [hn', if_neg ho], rfl⟩
    | succ m ih =>
      intro q e v
      have hq : q < aN A := by omega
      obtain ⟨f1, f2, f3⟩ := aFo_le (by omega) hB hT q (by omega)
      obtain ⟨j, hj, ej⟩ := hpm q hq
      have hb := hB q (by omega)
      rw [cr_sz hC]
      refine wp_icge rfl (fun hz_ => absurd hz_ (nI_ge hq (by omega))) (fun _ => ?_)
      refine wp_run rfl ?_
      refine wp_s2 rfl (Nat.le_of_ble_eq_true rfl) (x4_cell hrr (show q < 24 by omega) (by decide)) ?_
      refine wp_run rfl ?_
      rw [ho q hq, ej]
      refine wp_s2 rfl (Nat.le_of_ble_eq_true rfl) (x4_cell rfl (hO.r hj) (by decide)) ?_
      refine wp_run rfl ?_
      rw [cr_bt hC hj, nI_add]
      refine wp_s2 rfl (Nat.le_of_ble_eq_true rfl) (x4_contains_in (hO.r hj)) ?_
      refine wp_run rfl ?_
      have ih := ih (q + 1) (by omega) (some (.int (nI (aR A j))))
      have eB : aB A' (aR A' q) = aB A (aR A j) := by rw [hb', ej]
      have hb2 : aB A (aR A j) ≤ 99 := by rw [← eB]; exact hb
      rw [aFo, eB] at ih
      rw [← ej, hts q hq, ej]
      rw [ej] at ih
      cases ht : aT A' (aR A j) with
      | true =>
        rw [ht, if_pos rfl] at ih
        refine wp_ifne rfl (fun _ => ?_) (fun hz_ => absurd ((by decide : ¬ (1 : Int32) = 0)) hz_)
        refine wp_run rfl ?_
        refine wp_ifne rfl (fun hz_ => absurd hz_ (fun z => z rfl)) (fun _ => ?_)
        refine wp_run rfl ?_
        refine wp_v1 rfl rfl (Nat.le_of_ble_eq_true rfl) (tg (by omega)) ?_
        refine wp_run rfl ?_
        refine wp_abs rfl (Nat.le_of_ble_eq_true rfl) (ab q _ (by omega)) ?_
        refine wp_run rfl ?_
        rw [nI_add, nI_1, nI_1]
        exact ih
      | false =>
        rw [ht, if_neg (by decide)] at ih
        refine wp_ifne rfl (fun hz_ => absurd hz_ (fun z => z rfl)) (fun _ => ?_)
        refine wp_run rfl ?_
        refine wp_ifne rfl (fun _ => ?_) (fun hz_ => absurd ((by decide : ¬ (1 : Int32) = 0)) hz_)
        refine wp_run rfl ?_
        rw [nI_1]
        exact ih
  refine ev_in rfl rfl (Nat.le_of_ble_eq_true rfl) rfl ?_
  refine wp_run rfl ?_
  exact loop (aN A) 0 (by omega) _
theorem x0_offTogether (hO : aOk A) (hC : CR B A) : axEv ro (d + 4) kX0_offTogether [.ref 1] (hX B Y sl P G tl) (some (.int (nI (aAll A)))) (hX B Y sl P G tl) := by
  refine ev_in rfl rfl (Nat.le_of_ble_eq_true rfl) rfl ?_
  refine wp_run rfl ?_
  refine wp_v2 rfl rfl (Nat.le_of_ble_eq_true rfl) (x0_offOfRow hO hC (rr := 4) (A' := A) rfl rfl rfl rfl (fun i hi => ⟨i, hi, rfl⟩) (fun i hi => cr_rw hC hi) (fun i hi => cr_tnr hC hi)) ?_
  refine wp_run rfl ?_
  exact wp_ret rfl rfl ⟨rfl, rfl⟩
/-- a board with one slug's turn flipped -/
def aFlip (A : axAD) (k : Nat) : axAD := (aN A, aR A, aW A, aB A, aD A, fun j => if j = k then !aT A j else aT A j, aPg A, aSl A, aTr A, aTg A)
theorem x0_offIfTurned (hO : aOk A) (hC : CR B A) {i : Nat} (hi : i < aN A) : axEv ro (d + 4) kX0_offIfTurned [.ref 1, .int (nI (aR A i))] (hX B Y sl P G tl) (some (.int (nI (aAll (aFlip A (aR A i)))))) (hX B Y sl P G tl) := by
  have ht : ∀ j, j < aN A → bt (bTn B ^^^ bi (aR A i)) (aR A j) = aT (aFlip A (aR A i)) (aR A j) := fun j hj => by
    show bt (bTn B ^^^ bi (aR A i)) (aR A j) = if aR A j = aR A i then !aT A (aR A j) else aT A (aR A j)
    rw [bt_flp (by have := hO.r hi; omega), cr_tnr hC hj]
    by_cases e : aR A j = aR A i
    · rw [if_pos e, decide_eq_true e]; cases aT A (aR A j) <;> rfl
    · rw [if_neg e, decide_eq_false e]; cases aT A (aR A j) <;> rfl
  refine ev_in rfl rfl (Nat.le_of_ble_eq_true rfl) rfl ?_
  refine wp_run rfl ?_
  refine wp_s1 rfl (Nat.le_of_ble_eq_true rfl) (x4_bit (hO.r hi)) ?_
  refine wp_run rfl ?_
  refine wp_v2 rfl rfl (Nat.le_of_ble_eq_true rfl) (x0_offOfRow hO hC (rr := 4) (A' := aFlip A (aR A i)) rfl rfl rfl rfl (fun i hi => ⟨i, hi, rfl⟩) (fun i hi => cr_rw hC hi) ht) ?_
  refine wp_run rfl ?_
  exact wp_ret rfl rfl ⟨rfl, rfl⟩
end AX21
end
section
/-! THE CLASS: changes of the board (1): settings, targets, turns, needs, trims. -/
def bSt_ (B : axBD) (f : Nat → Int32) : axBD := (f, bTg B, bRw B, bWr B, bBt B, bNd B, bSg B, bTn B, bSz B)
def bTg_ (B : axBD) (f : Nat → Int32) : axBD := (bSt B, f, bRw B, bWr B, bBt B, bNd B, bSg B, bTn B, bSz B)
def bRw_ (B : axBD) (f : Nat → Int32) : axBD := (bSt B, bTg B, f, bWr B, bBt B, bNd B, bSg B, bTn B, bSz B)
def bWr_ (B : axBD) (f : Nat → Int32) : axBD := (bSt B, bTg B, bRw B, f, bBt B, bNd B, bSg B, bTn B, bSz B)
def bBt_ (B : axBD) (f : Nat → Int32) : axBD := (bSt B, bTg B, bRw B, bWr B, f, bNd B, bSg B, bTn B, bSz B)
def bNd_ (B : axBD) (f : Nat → Int32) : axBD := (bSt B, bTg B, bRw B, bWr B, bBt B, f, bSg B, bTn B, bSz B)
def bSg_ (B : axBD) (x : Int32) : axBD := (bSt B, bTg B, bRw B, bWr B, bBt B, bNd B, x, bTn B, bSz B)
def bTn_ (B : axBD) (x : Int32) : axBD := (bSt B, bTg B, bRw B, bWr B, bBt B, bNd B, bSg B, x, bSz B)
def bSz_ (B : axBD) (x : Int32) : axBD := (bSt B, bTg B, bRw B, bWr B, bBt B, bNd B, bSg B, bTn B, x)
/-- the least and the most of a setting -/
def aLs (j : Nat) : Nat := if j = 0 then 4 else 0
def aMs (j : Nat) : Nat := if j = 0 then 60 else if j = 1 then 20 else 90
def aSetV (A : axAD) (j : Nat) : Nat := if j = 0 then aPg A else if j = 1 then aSl A else aTr A
def aSetS (A : axAD) (j v : Nat) : axAD := (aN A, aR A, aW A, aB A, aD A, aT A, if j = 0 then v else aPg A, if j = 1 then v else aSl A, if j = 2 then v else aTr A, aTg A)
def aSetT (A : axAD) (a v : Nat) : axAD := (aN A, aR A, aW A, aB A, aD A, aT A, aPg A, aSl A, aTr A, va_up (aTg A) a v)
def aNeed (A : axAD) (k o : Nat) : axAD := (aN A, aR A, aW A, aB A, va_up (aD A) k (aD A k ^^^ bi o), aT A, aPg A, aSl A, aTr A, aTg A)
def aBts (A : axAD) (k v : Nat) : axAD := (aN A, aR A, aW A, va_up (aB A) k v, aD A, aT A, aPg A, aSl A, aTr A, aTg A)
theorem upd_up {f : Nat → Int32} {k j : Nat} {v : Int32} : upd f k v j = if j = k then v else f j := rfl
section AX22
variable {ro : axRo} {d : Nat} {h h1 : axH} {B : axBD} {Y : axYD} {sl : Nat → Option Nat} {P : axPD} {G : axGD} {tl : axH} {A : axAD} {LL : Nat} {xs : Nat → Int32}
theorem cr_set (hC : CR B A) {j v : Nat} (hj : j < 3) : CR (bSt_ B (upd (bSt B) j (nI v))) (aSetS A j v) := by
  obtain ⟨c1, c2, c3, c4, c5, ⟨c6, c7, c8⟩, c9⟩ := hC
  refine ⟨c1, c2, c3, c4, c5, ⟨?_, ?_, ?_⟩, c9⟩
  · show upd (bSt B) j (nI v) 0 = nI (if j = 0 then v else aPg A)
    rw [upd_up]
    by_cases e : j = 0
    · rw [if_pos e.symm, if_pos e]
    · rw [if_neg (fun q => e q.symm), if_neg e, c6]
  · show upd (bSt B) j (nI v) 1 = nI (if j = 1 then v else aSl A)
    rw [upd_up]
    by_cases e : j = 1
    · rw [if_pos e.symm, if_pos e]
    · rw [if_neg (fun q => e q.symm), if_neg e, c7]
  · show upd (bSt B) j (nI v) 2 = nI (if j = 2 then v else aTr A)
    rw [upd_up]
    by_cases e : j = 2
    · rw [if_pos e.symm, if_pos e]
    · rw [if_neg (fun q => e q.symm), if_neg e, c8]
theorem cr_stv (hC : CR B A) {j : Nat} (hj : j < 3) : bSt B j = nI (aSetV A j) := by
  unfold aSetV
  rcases (show j = 0 ∨ j = 1 ∨ j = 2 by omega) with rfl | rfl | rfl
  · exact cr_pg hC
  · exact cr_sl hC
  · exact cr_tr hC
theorem roL_1 {j : Nat} (hj : j < 3) : (axRoL LL xs 1).2 j = nI (aLs j) := by
  rcases (show j = 0 ∨ j = 1 ∨ j = 2 by omega) with rfl | rfl | rfl <;> rfl
theorem roL_2 {j : Nat} (hj : j < 3) : (axRoL LL xs 2).2 j = nI (aMs j) := by
  rcases (show j = 0 ∨ j = 1 ∨ j = 2 by omega) with rfl | rfl | rfl <;> rfl
theorem aMs_le (j : Nat) : aMs j ≤ 90 := by unfold aMs; split <;> (try split) <;> omega
theorem aLs_le (j : Nat) : aLs j ≤ 4 := by unfold aLs; split <;> omega
theorem x0_changeSetting_in (hC : CR B A) {j v : Nat} (hj : j < 3) (h1 : aLs j ≤ v) (h2 : v ≤ aMs j) : axEv (axRoL LL xs) (d + 2) kX0_changeSetting [.ref 1, .int (nI j), .int (nI v)] (hX B Y sl P G tl) (some (.int (nI (aSetV A j)))) (hX (bSt_ B (upd (bSt B) j (nI v))) Y sl P G tl) := by
  have h3 := aMs_le j
  have h4 := aLs_le j
  refine ev_in rfl rfl (Nat.le_of_ble_eq_true rfl) rfl ?_
  refine wp_run rfl ?_
  refine wp_iflt rfl (fun hz_ => absurd hz_ (nI_pos (by omega))) (fun _ => ?_)
  refine wp_run rfl ?_
  refine wp_iclt rfl (fun _ => ?_) (fun hz_ => absurd (nI_lt (b := 3) hj (by omega)) hz_)
  refine wp_run rfl ?_
  refine wp_s2 rfl (Nat.le_of_ble_eq_true rfl) (x4_cellR (by decide) (show j < (axRoL LL xs 1).1 from hj) (show 3 < 2 ^ 31 by decide)) ?_
  refine wp_run rfl ?_
  rw [roL_1 hj]
  refine wp_iclt rfl (fun hz_ => absurd hz_ (nI_nlt h1 (by omega))) (fun _ => ?_)
  refine wp_run rfl ?_
  refine wp_s2 rfl (Nat.le_of_ble_eq_true rfl) (x4_cellR (by decide) (show j < (axRoL LL xs 2).1 from hj) (show 3 < 2 ^ 31 by decide)) ?_
  refine wp_run rfl ?_
  rw [roL_2 hj]
  refine wp_icle rfl (fun _ => ?_) (fun hz_ => absurd (nI_le h2 (by omega)) hz_)
  refine wp_run rfl ?_
  refine wp_ald rfl rfl (vp_in_nI (hj) (by decide)) (by rw [nI_clamp (by omega)]) ?_
  refine wp_run rfl ?_
  refine wp_ast (h1 := hX (bSt_ B (upd (bSt B) j (nI v))) Y sl P G tl) rfl rfl (vp_in_nI (hj) (by decide)) rfl (by rw [nI_clamp (by omega)]; rfl) ?_
  refine wp_run rfl ?_
  exact wp_ret rfl rfl ⟨by rw [cr_stv hC hj], rfl⟩
theorem x0_changeSetting_out {x y : Int32} (hv : ∀ j v, j < 3 → x = nI j → y = nI v → aLs j ≤ v → ¬ v ≤ aMs j) : axEv (axRoL LL xs) (d + 2) kX0_changeSetting [.ref 1, .int x, .int y] (hX B Y sl P G tl) (some (.int (-2))) (hX B Y sl P G tl) := by
  refine ev_in rfl rfl (Nat.le_of_ble_eq_true rfl) rfl ?_
  refine wp_run rfl ?_
  rcases pk_ix x (show 3 < 2 ^ 31 by omega) with h | h | ⟨j, hj, rfl⟩
  · refine wp_iflt rfl (fun _ => ?_) (fun hz_ => absurd (h) hz_)
    refine wp_run rfl ?_
    exact wp_ret rfl rfl ⟨rfl, rfl⟩
  · refine wp_iflt rfl (fun q => ?_) (fun q => ?_)
    · refine wp_run rfl ?_
      exact wp_ret rfl rfl ⟨rfl, rfl⟩
    · refine wp_run rfl ?_
      refine wp_iclt rfl (fun hz_ => absurd hz_ (fun z => absurd h (Int32.not_le.mpr z))) (fun _ => ?_)
      refine wp_run rfl ?_
      exact wp_ret rfl rfl ⟨rfl, rfl⟩
  · have h3 := aMs_le j
    have h4 := aLs_le j
    refine wp_iflt rfl (fun hz_ => absurd hz_ (nI_pos (by omega))) (fun _ => ?_)
    refine wp_run rfl ?_
    refine wp_iclt rfl (fun _ => ?_) (fun hz_ => absurd (nI_lt (b := 3) hj (by omega)) hz_)
    refine wp_run rfl ?_
    refine wp_s2 rfl (Nat.le_of_ble_eq_true rfl) (x4_cellR (by decide) (show j < (axRoL LL xs 1).1 from hj) (show 3 < 2 ^ 31 by decide)) ?_
    refine wp_run rfl ?_
    rw [roL_1 hj]
    by_cases c1 : y < nI (aLs j)
    · refine wp_iclt rfl (fun _ => ?_) (fun hz_ => absurd (c1) hz_)
      refine wp_run rfl ?_
      exact wp_ret rfl rfl ⟨rfl, rfl⟩
    · refine wp_iclt rfl (fun hz_ => absurd hz_ (c1)) (fun _ => ?_)
      refine wp_run rfl ?_
      refine wp_s2 rfl (Nat.le_of_ble_eq_true rfl) (x4_cellR (by decide) (show j < (axRoL LL xs 2).1 from hj) (show 3 < 2 ^ 31 by decide)) ?_
      refine wp_run rfl ?_
      rw [roL_2 hj]
      by_cases c2 : y ≤ nI (aMs j)
      · have h0 : ¬ y < 0 := fun z => c1 (Int32.lt_of_lt_of_le z (nI_pos' (by omega)))
        obtain ⟨v, hv1, rfl⟩ := nI_of h0
        have e1 := (nI_leI (by omega) (by omega)).mp c2
        have e2 : ¬ v < aLs j := fun z => c1 (nI_lt z (by omega))
        exact absurd e1 (hv j v hj rfl rfl (by omega))
      · refine wp_icle rfl (fun hz_ => absurd hz_ (c2)) (fun _ => ?_)
        refine wp_run rfl ?_
        exact wp_ret rfl rfl ⟨rfl, rfl⟩
theorem cr_tgt (hC : CR B A) {a v : Nat} (ha : a < 6) : CR (bTg_ B (upd (bTg B) a (nI v))) (aSetT A a v) := by
  obtain ⟨c1, c2, c3, c4, c5, c6, c9⟩ := hC
  refine ⟨c1, c2, c3, c4, c5, c6, fun b hb => ?_⟩
  show upd (bTg B) a (nI v) b = nI (va_up (aTg A) a v b)
  rw [upd_up]
  unfold va_up
  by_cases e : b = a
  · rw [if_pos e, if_pos e]
  · rw [if_neg e, if_neg e, c9 b hb]
theorem x0_changeTarget_in (hC : CR B A) {a v : Nat} (ha : a < 6) (h1 : 1 ≤ v) (h2 : v ≤ 999) : axEv ro (d + 2) kX0_changeTarget [.ref 1, .int (nI a), .int (nI v)] (hX B Y sl P G tl) (some (.int (nI (aTg A a)))) (hX (bTg_ B (upd (bTg B) a (nI v))) Y sl P G tl) := by
  refine ev_in rfl rfl (Nat.le_of_ble_eq_true rfl) rfl ?_
  refine wp_run rfl ?_
  refine wp_iflt rfl (fun hz_ => absurd hz_ (nI_pos (by omega))) (fun _ => ?_)
  refine wp_run rfl ?_
  refine wp_iclt rfl (fun _ => ?_) (fun hz_ => absurd (nI_lt (b := 6) ha (by omega)) hz_)
  refine wp_run rfl ?_
  refine wp_iclt rfl (fun hz_ => absurd hz_ (nI_nlt (b := 1) h1 (by omega))) (fun _ => ?_)
  refine wp_run rfl ?_
  refine wp_icle rfl (fun _ => ?_) (fun hz_ => absurd (nI_le (b := 999) h2 (by omega)) hz_)
  refine wp_run rfl ?_
  refine wp_ald rfl rfl (vp_in_nI (ha) (by decide)) (by rw [nI_clamp (by omega)]) ?_
  refine wp_run rfl ?_
  refine wp_ast (h1 := hX (bTg_ B (upd (bTg B) a (nI v))) Y sl P G tl) rfl rfl (vp_in_nI (ha) (by decide)) rfl (by rw [nI_clamp (by omega)]; rfl) ?_
  refine wp_run rfl ?_
  exact wp_ret rfl rfl ⟨by rw [cr_tg hC ha], rfl⟩
theorem x0_changeTarget_ns {x y : Int32} (hx : x < 0 ∨ nI 6 ≤ x) : axEv ro (d + 2) kX0_changeTarget [.ref 1, .int x, .int y] (hX B Y sl P G tl) (some (.int (-1))) (hX B Y sl P G tl) := by
  refine ev_in rfl rfl (Nat.le_of_ble_eq_true rfl) rfl ?_
  refine wp_run rfl ?_
  refine wp_iflt rfl (fun q => ?_) (fun q => ?_)
  · refine wp_run rfl ?_
    exact wp_ret rfl rfl ⟨rfl, rfl⟩
  · refine wp_run rfl ?_
    refine wp_iclt rfl (fun hz_ => absurd hz_ (fun z => hx.elim q (fun w => absurd w (Int32.not_le.mpr z)))) (fun _ => ?_)
    refine wp_run rfl ?_
    exact wp_ret rfl rfl ⟨rfl, rfl⟩
theorem x0_changeTarget_bv {a : Nat} {y : Int32} (ha : a < 6) (hy : y < nI 1 ∨ ¬ y ≤ nI 999) : axEv ro (d + 2) kX0_changeTarget [.ref 1, .int (nI a), .int y] (hX B Y sl P G tl) (some (.int (-2))) (hX B Y sl P G tl) := by
  refine ev_in rfl rfl (Nat.le_of_ble_eq_true rfl) rfl ?_
  refine wp_run rfl ?_
  refine wp_iflt rfl (fun hz_ => absurd hz_ (nI_pos (by omega))) (fun _ => ?_)
  refine wp_run rfl ?_
  refine wp_iclt rfl (fun _ => ?_) (fun hz_ => absurd (nI_lt (b := 6) ha (by omega)) hz_)
  refine wp_run rfl ?_
  refine wp_iclt rfl (fun q => ?_) (fun q => ?_)
  · refine wp_run rfl ?_
    exact wp_ret rfl rfl ⟨rfl, rfl⟩
  · refine wp_run rfl ?_
    refine wp_icle rfl (fun hz_ => absurd hz_ (hy.elim (fun w => absurd w q) id)) (fun _ => ?_)
    refine wp_run rfl ?_
    exact wp_ret rfl rfl ⟨rfl, rfl⟩
theorem cr_flip (hO : aOk A) (hC : CR B A) {i : Nat} (hi : i < aN A) : CR (bTn_ B (bTn B ^^^ bi (aR A i))) (aFlip A (aR A i)) := by
  obtain ⟨c1, c2, c3, c4, c5, c6, c9⟩ := hC
  refine ⟨c1, c2, c3, c4, fun k => ?_, c6, c9⟩
  show bt (bTn B ^^^ bi (aR A i)) k = true ↔ (aIn A k ∧ (if k = aR A i then !aT A k else aT A k) = true)
  rw [bt_flp (by have := hO.r hi; omega)]
  have := c5 k
  by_cases e : k = aR A i
  · subst e
    have hin : aIn A (aR A i) := ⟨i, hi, rfl⟩
    rw [if_pos rfl]
    cases h1 : bt (bTn B) (aR A i) <;> cases h2 : aT A (aR A i) <;> simp_all
  · rw [if_neg e, decide_eq_false e, Bool.xor_false]; exact this
theorem x0_flipTurn_out (hC : CR B A) {y : Int32} (hy : ∀ i, i < aN A → y ≠ nI (aR A i)) : axEv ro (d + 3) kX0_flipTurn [.ref 1, .int y] (hX B Y sl P G tl) (some (.int (-1))) (hX B Y sl P G tl) := by
  refine ev_in rfl rfl (Nat.le_of_ble_eq_true rfl) rfl ?_
  refine wp_run rfl ?_
  refine wp_v1 rfl rfl (Nat.le_of_ble_eq_true rfl) (x0_has_out hC hy) ?_
  refine wp_run rfl ?_
  refine wp_ifne rfl (fun hz_ => absurd hz_ (fun z => z rfl)) (fun _ => ?_)
  refine wp_run rfl ?_
  exact wp_ret rfl rfl ⟨rfl, rfl⟩
theorem x0_flipTurn_in (hO : aOk A) (hC : CR B A) {i : Nat} (hi : i < aN A) : axEv ro (d + 3) kX0_flipTurn [.ref 1, .int (nI (aR A i))] (hX B Y sl P G tl) (some (.int (if aT A (aR A i) = true then 0 else 1))) (hX (bTn_ B (bTn B ^^^ bi (aR A i))) Y sl P G tl) := by
  refine ev_in rfl rfl (Nat.le_of_ble_eq_true rfl) rfl ?_
  refine wp_run rfl ?_
  refine wp_v1 rfl rfl (Nat.le_of_ble_eq_true rfl) (x0_has_in hO hC hi) ?_
  refine wp_run rfl ?_
  refine wp_ifne rfl (fun _ => ?_) (fun hz_ => absurd ((by decide : ¬ (1 : Int32) = 0)) hz_)
  refine wp_run rfl ?_
  refine wp_s1 rfl (Nat.le_of_ble_eq_true rfl) (x4_bit (hO.r hi)) ?_
  refine wp_run rfl ?_
  refine wp_putf (h1 := hX (bTn_ B (bTn B ^^^ bi (aR A i))) Y sl P G tl) rfl rfl (Nat.le_of_ble_eq_true rfl) ⟨rfl, rfl, fun _ hz_ => by cases hz_⟩ rfl ?_
  refine wp_run rfl ?_
  refine wp_v1 rfl rfl (Nat.le_of_ble_eq_true rfl) (x0_isTurn (A := aFlip A (aR A i)) (by exact hO) (cr_flip hO hC hi) hi) ?_
  refine wp_run rfl ?_
  have e : aT (aFlip A (aR A i)) (aR (aFlip A (aR A i)) i) = !aT A (aR A i) := if_pos rfl
  rw [e]
  cases aT A (aR A i)
  · refine wp_ifeq rfl (fun hz_ => absurd hz_ ((by decide : ¬ (1 : Int32) = 0))) (fun _ => ?_)
    refine wp_run rfl ?_
    exact wp_ret rfl rfl ⟨rfl, rfl⟩
  · refine wp_ifeq rfl (fun _ => ?_) (fun hz_ => absurd (rfl) hz_)
    refine wp_run rfl ?_
    exact wp_ret rfl rfl ⟨rfl, rfl⟩
end AX22
end
section
/-! THE CLASS: changes of the board (2): needs, trims; slugs that go out of the row and come in. -/
def aSetD (A : axAD) (k : Nat) (x : Int32) : axAD := (aN A, aR A, aW A, aB A, va_up (aD A) k x, aT A, aPg A, aSl A, aTr A, aTg A)
section AX23
variable {ro : axRo} {d : Nat} {h h1 : axH} {B : axBD} {Y : axYD} {sl : Nat → Option Nat} {P : axPD} {G : axGD} {tl : axH} {A : axAD}
theorem cr_setD (hC : CR B A) {k : Nat} {x : Int32} : CR (bNd_ B (upd (bNd B) k x)) (aSetD A k x) := by
  obtain ⟨c1, c2, c3, c4, c5, c6, c9⟩ := hC
  refine ⟨c1, c2, fun j hj => ⟨(c3 j hj).1, (c3 j hj).2.1, ?_⟩, c4, c5, c6, c9⟩
  show upd (bNd B) k x (aR A j) = va_up (aD A) k x (aR A j)
  rw [upd_up]
  unfold va_up
  by_cases e : aR A j = k
  · rw [if_pos e, if_pos e]
  · rw [if_neg e, if_neg e]
    exact (c3 j hj).2.2
theorem cr_bts (hC : CR B A) {k v : Nat} : CR (bBt_ B (upd (bBt B) k (nI v))) (aBts A k v) := by
  obtain ⟨c1, c2, c3, c4, c5, c6, c9⟩ := hC
  refine ⟨c1, c2, fun j hj => ⟨(c3 j hj).1, ?_, (c3 j hj).2.2⟩, c4, c5, c6, c9⟩
  show upd (bBt B) k (nI v) (aR A j) = nI (va_up (aB A) k v (aR A j))
  rw [upd_up]
  unfold va_up
  by_cases e : aR A j = k
  · rw [if_pos e, if_pos e]
  · rw [if_neg e, if_neg e]
    exact (c3 j hj).2.1
theorem x0_needsOf0 {j : Nat} (hj : j < 24) : axEv ro (d + 2) kX0_needsOf [.ref 1, .int (nI j)] (hX B Y sl P G tl) (some (.int (bNd B j))) (hX B Y sl P G tl) := by
  refine ev_in rfl rfl (Nat.le_of_ble_eq_true rfl) rfl ?_
  refine wp_run rfl ?_
  refine wp_s2 rfl (Nat.le_of_ble_eq_true rfl) (x4_cell rfl hj (by decide)) ?_
  refine wp_run rfl ?_
  exact wp_ret rfl rfl ⟨rfl, rfl⟩
theorem x0_beatsOf0 {j : Nat} (hj : j < 24) : axEv ro (d + 2) kX0_beatsOf [.ref 1, .int (nI j)] (hX B Y sl P G tl) (some (.int (bBt B j))) (hX B Y sl P G tl) := by
  refine ev_in rfl rfl (Nat.le_of_ble_eq_true rfl) rfl ?_
  refine wp_run rfl ?_
  refine wp_s2 rfl (Nat.le_of_ble_eq_true rfl) (x4_cell rfl hj (by decide)) ?_
  refine wp_run rfl ?_
  exact wp_ret rfl rfl ⟨rfl, rfl⟩
theorem x0_flipNeed_ns1 (hC : CR B A) {x y : Int32} (hx : ∀ i, i < aN A → x ≠ nI (aR A i)) : axEv ro (d + 3) kX0_flipNeed [.ref 1, .int x, .int y] (hX B Y sl P G tl) (some (.int (-1))) (hX B Y sl P G tl) := by
  refine ev_in rfl rfl (Nat.le_of_ble_eq_true rfl) rfl ?_
  refine wp_run rfl ?_
  refine wp_v1 rfl rfl (Nat.le_of_ble_eq_true rfl) (x0_has_out hC hx) ?_
  refine wp_run rfl ?_
  refine wp_ifeq rfl (fun _ => ?_) (fun hz_ => absurd (rfl) hz_)
  refine wp_run rfl ?_
  exact wp_ret rfl rfl ⟨rfl, rfl⟩
theorem x0_flipNeed_ns2 (hO : aOk A) (hC : CR B A) {i : Nat} (hi : i < aN A) {y : Int32} (hy : ∀ i, i < aN A → y ≠ nI (aR A i)) : axEv ro (d + 3) kX0_flipNeed [.ref 1, .int (nI (aR A i)), .int y] (hX B Y sl P G tl) (some (.int (-1))) (hX B Y sl P G tl) := by
  refine ev_in rfl rfl (Nat.le_of_ble_eq_true rfl) rfl ?_
  refine wp_run rfl ?_
  refine wp_v1 rfl rfl (Nat.le_of_ble_eq_true rfl) (x0_has_in hO hC hi) ?_
  refine wp_run rfl ?_
  refine wp_ifeq rfl (fun hz_ => absurd hz_ ((by decide : ¬ (1 : Int32) = 0))) (fun _ => ?_)
  refine wp_run rfl ?_
  refine wp_v1 rfl rfl (Nat.le_of_ble_eq_true rfl) (x0_has_out hC hy) ?_
  refine wp_run rfl ?_
  refine wp_ifne rfl (fun hz_ => absurd hz_ (fun z => z rfl)) (fun _ => ?_)
  refine wp_run rfl ?_
  exact wp_ret rfl rfl ⟨rfl, rfl⟩
theorem x0_flipNeed_bv (hO : aOk A) (hC : CR B A) {i : Nat} (hi : i < aN A) : axEv ro (d + 3) kX0_flipNeed [.ref 1, .int (nI (aR A i)), .int (nI (aR A i))] (hX B Y sl P G tl) (some (.int (-2))) (hX B Y sl P G tl) := by
  refine ev_in rfl rfl (Nat.le_of_ble_eq_true rfl) rfl ?_
  refine wp_run rfl ?_
  refine wp_v1 rfl rfl (Nat.le_of_ble_eq_true rfl) (x0_has_in hO hC hi) ?_
  refine wp_run rfl ?_
  refine wp_ifeq rfl (fun hz_ => absurd hz_ ((by decide : ¬ (1 : Int32) = 0))) (fun _ => ?_)
  refine wp_run rfl ?_
  refine wp_v1 rfl rfl (Nat.le_of_ble_eq_true rfl) (x0_has_in hO hC hi) ?_
  refine wp_run rfl ?_
  refine wp_ifne rfl (fun _ => ?_) (fun hz_ => absurd ((by decide : ¬ (1 : Int32) = 0)) hz_)
  refine wp_run rfl ?_
  refine wp_icne rfl (fun hz_ => absurd hz_ (fun z => z rfl)) (fun _ => ?_)
  refine wp_run rfl ?_
  exact wp_ret rfl rfl ⟨rfl, rfl⟩
theorem aR_ne (hO : aOk A) {i j : Nat} (hi : i < aN A) (hj : j < aN A) (hij : i ≠ j) : nI (aR A i) ≠ nI (aR A j) := fun z => hij (hO.inj hi hj ((nI_eq (by have := hO.r hi; omega) (by have := hO.r hj; omega)).mp z))
theorem x0_flipNeed_np (hO : aOk A) (hC : CR B A) {i j : Nat} (hi : i < aN A) (hj : j < aN A) (hij : i < j) (hb : bt (aD A (aR A i)) (aR A j) = false) : axEv ro (d + 3) kX0_flipNeed [.ref 1, .int (nI (aR A i)), .int (nI (aR A j))] (hX B Y sl P G tl) (some (.int (-5))) (hX B Y sl P G tl) := by
  have hn := hO.n
  refine ev_in rfl rfl (Nat.le_of_ble_eq_true rfl) rfl ?_
  refine wp_run rfl ?_
  refine wp_v1 rfl rfl (Nat.le_of_ble_eq_true rfl) (x0_has_in hO hC hi) ?_
  refine wp_run rfl ?_
  refine wp_ifeq rfl (fun hz_ => absurd hz_ ((by decide : ¬ (1 : Int32) = 0))) (fun _ => ?_)
  refine wp_run rfl ?_
  refine wp_v1 rfl rfl (Nat.le_of_ble_eq_true rfl) (x0_has_in hO hC hj) ?_
  refine wp_run rfl ?_
  refine wp_ifne rfl (fun _ => ?_) (fun hz_ => absurd ((by decide : ¬ (1 : Int32) = 0)) hz_)
  refine wp_run rfl ?_
  refine wp_icne rfl (fun _ => ?_) (fun hz_ => absurd (aR_ne hO hi hj (by omega)) hz_)
  refine wp_run rfl ?_
  refine wp_v1 rfl rfl (Nat.le_of_ble_eq_true rfl) (x0_needsOf hO hC hi) ?_
  refine wp_run rfl ?_
  refine wp_s2 rfl (Nat.le_of_ble_eq_true rfl) (x4_contains_in (hO.r hj)) ?_
  refine wp_run rfl ?_
  rw [if_neg (by rw [hb]; decide)]
  refine wp_ifne rfl (fun hz_ => absurd hz_ (fun z => z rfl)) (fun _ => ?_)
  refine wp_run rfl ?_
  refine wp_v1 rfl rfl (Nat.le_of_ble_eq_true rfl) (x0_placeOf hO hC hj) ?_
  refine wp_run rfl ?_
  refine wp_v1 rfl rfl (Nat.le_of_ble_eq_true rfl) (x0_placeOf hO hC hi) ?_
  refine wp_run rfl ?_
  refine wp_icle rfl (fun hz_ => absurd hz_ (nI_ge hij (by omega))) (fun _ => ?_)
  refine wp_run rfl ?_
  exact wp_ret rfl rfl ⟨rfl, rfl⟩
theorem x0_flipNeed_ok (hO : aOk A) (hC : CR B A) {i j : Nat} (hi : i < aN A) (hj : j < aN A) (hij : i ≠ j) (hb : bt (aD A (aR A i)) (aR A j) = true ∨ j < i) : axEv ro (d + 3) kX0_flipNeed [.ref 1, .int (nI (aR A i)), .int (nI (aR A j))] (hX B Y sl P G tl) (some (.int (nI (pcN (aD A (aR A i) ^^^ bi (aR A j)))))) (hX (bNd_ B (upd (bNd B) (aR A i) (aD A (aR A i) ^^^ bi (aR A j)))) Y sl P G tl) := by
  have hn := hO.n
  have fin : axW ro (axEv ro (d + 2)) cdX0_flipNeed 54 [some (.ref 1), some (.int (nI (aR A i))), some (.int (nI (aR A j)))] [] (hX B Y sl P G tl) (fun r' h' => r' = some (.int (nI (pcN (aD A (aR A i) ^^^ bi (aR A j))))) ∧ h' = hX (bNd_ B (upd (bNd B) (aR A i) (aD A (aR A i) ^^^ bi (aR A j)))) Y sl P G tl) := by
    refine wp_run rfl ?_
    refine wp_v1 rfl rfl (Nat.le_of_ble_eq_true rfl) (x0_needsOf hO hC hi) ?_
    refine wp_run rfl ?_
    refine wp_s1 rfl (Nat.le_of_ble_eq_true rfl) (x4_bit (hO.r hj)) ?_
    refine wp_run rfl ?_
    refine wp_s3v rfl (Nat.le_of_ble_eq_true rfl) (x4_store (h1 := hX (bNd_ B (upd (bNd B) (aR A i) (aD A (aR A i) ^^^ bi (aR A j)))) Y sl P G tl) rfl (hO.r hi) (by decide) rfl) ?_
    refine wp_run rfl ?_
    refine wp_v1 rfl rfl (Nat.le_of_ble_eq_true rfl) (x0_needsOf0 (hO.r hi)) ?_
    refine wp_run rfl ?_
    rw [show bNd (bNd_ B (upd (bNd B) (aR A i) (aD A (aR A i) ^^^ bi (aR A j)))) (aR A i) = aD A (aR A i) ^^^ bi (aR A j) from pk_us]
    refine wp_s1 rfl (Nat.le_of_ble_eq_true rfl) (xJ_bitCount _) ?_
    refine wp_run rfl ?_
    exact wp_ret rfl rfl ⟨rfl, rfl⟩
  refine ev_in rfl rfl (Nat.le_of_ble_eq_true rfl) rfl ?_
  refine wp_run rfl ?_
  refine wp_v1 rfl rfl (Nat.le_of_ble_eq_true rfl) (x0_has_in hO hC hi) ?_
  refine wp_run rfl ?_
  refine wp_ifeq rfl (fun hz_ => absurd hz_ ((by decide : ¬ (1 : Int32) = 0))) (fun _ => ?_)
  refine wp_run rfl ?_
  refine wp_v1 rfl rfl (Nat.le_of_ble_eq_true rfl) (x0_has_in hO hC hj) ?_
  refine wp_run rfl ?_
  refine wp_ifne rfl (fun _ => ?_) (fun hz_ => absurd ((by decide : ¬ (1 : Int32) = 0)) hz_)
  refine wp_run rfl ?_
  refine wp_icne rfl (fun _ => ?_) (fun hz_ => absurd (aR_ne hO hi hj hij) hz_)
  refine wp_run rfl ?_
  refine wp_v1 rfl rfl (Nat.le_of_ble_eq_true rfl) (x0_needsOf hO hC hi) ?_
  refine wp_run rfl ?_
  refine wp_s2 rfl (Nat.le_of_ble_eq_true rfl) (x4_contains_in (hO.r hj)) ?_
  refine wp_run rfl ?_
  by_cases h2 : bt (aD A (aR A i)) (aR A j) = true
  · rw [if_pos h2]
    refine wp_ifne rfl (fun _ => ?_) (fun hz_ => absurd ((by decide : ¬ (1 : Int32) = 0)) hz_)
    exact fin
  · rw [if_neg h2]
    refine wp_ifne rfl (fun hz_ => absurd hz_ (fun z => z rfl)) (fun _ => ?_)
    refine wp_run rfl ?_
    refine wp_v1 rfl rfl (Nat.le_of_ble_eq_true rfl) (x0_placeOf hO hC hj) ?_
    refine wp_run rfl ?_
    refine wp_v1 rfl rfl (Nat.le_of_ble_eq_true rfl) (x0_placeOf hO hC hi) ?_
    refine wp_run rfl ?_
    refine wp_icle rfl (fun _ => ?_) (fun hz_ => absurd (nI_le (show j ≤ i by have := hb.resolve_left h2; omega) (by omega)) hz_)
    exact fin
theorem x0_trimSlug_ns (hC : CR B A) {x y : Int32} (hx : ∀ i, i < aN A → x ≠ nI (aR A i)) : axEv ro (d + 3) kX0_trimSlug [.ref 1, .int x, .int y] (hX B Y sl P G tl) (some (.int (-1))) (hX B Y sl P G tl) := by
  refine ev_in rfl rfl (Nat.le_of_ble_eq_true rfl) rfl ?_
  refine wp_run rfl ?_
  refine wp_v1 rfl rfl (Nat.le_of_ble_eq_true rfl) (x0_has_out hC hx) ?_
  refine wp_run rfl ?_
  refine wp_ifne rfl (fun hz_ => absurd hz_ (fun z => z rfl)) (fun _ => ?_)
  refine wp_run rfl ?_
  exact wp_ret rfl rfl ⟨rfl, rfl⟩
theorem x0_trimSlug_bv (hO : aOk A) (hC : CR B A) {i : Nat} (hi : i < aN A) {y : Int32} (hy : y < nI 1 ∨ ¬ y ≤ nI 98) : axEv ro (d + 3) kX0_trimSlug [.ref 1, .int (nI (aR A i)), .int y] (hX B Y sl P G tl) (some (.int (-2))) (hX B Y sl P G tl) := by
  refine ev_in rfl rfl (Nat.le_of_ble_eq_true rfl) rfl ?_
  refine wp_run rfl ?_
  refine wp_v1 rfl rfl (Nat.le_of_ble_eq_true rfl) (x0_has_in hO hC hi) ?_
  refine wp_run rfl ?_
  refine wp_ifne rfl (fun _ => ?_) (fun hz_ => absurd ((by decide : ¬ (1 : Int32) = 0)) hz_)
  refine wp_run rfl ?_
  refine wp_iclt rfl (fun q => ?_) (fun q => ?_)
  · refine wp_run rfl ?_
    exact wp_ret rfl rfl ⟨rfl, rfl⟩
  · refine wp_run rfl ?_
    refine wp_icle rfl (fun hz_ => absurd hz_ (hy.elim (fun w => absurd w q) id)) (fun _ => ?_)
    refine wp_run rfl ?_
    exact wp_ret rfl rfl ⟨rfl, rfl⟩
theorem x0_trimSlug_np (hO : aOk A) (hC : CR B A) {i : Nat} (hi : i < aN A) {v : Nat} (h1 : 1 ≤ v) (h2 : v ≤ 98) (h3 : aCan A (aR A i) < v) : axEv ro (d + 3) kX0_trimSlug [.ref 1, .int (nI (aR A i)), .int (nI v)] (hX B Y sl P G tl) (some (.int (-5))) (hX B Y sl P G tl) := by
  refine ev_in rfl rfl (Nat.le_of_ble_eq_true rfl) rfl ?_
  refine wp_run rfl ?_
  refine wp_v1 rfl rfl (Nat.le_of_ble_eq_true rfl) (x0_has_in hO hC hi) ?_
  refine wp_run rfl ?_
  refine wp_ifne rfl (fun _ => ?_) (fun hz_ => absurd ((by decide : ¬ (1 : Int32) = 0)) hz_)
  refine wp_run rfl ?_
  refine wp_iclt rfl (fun hz_ => absurd hz_ (nI_nlt (b := 1) h1 (by omega))) (fun _ => ?_)
  refine wp_run rfl ?_
  refine wp_icle rfl (fun _ => ?_) (fun hz_ => absurd (nI_le (b := 98) h2 (by omega)) hz_)
  refine wp_run rfl ?_
  refine wp_v1 rfl rfl (Nat.le_of_ble_eq_true rfl) (x0_roomOf hO hC hi) ?_
  refine wp_run rfl ?_
  refine wp_icle rfl (fun hz_ => absurd hz_ (nI_ge h3 (by omega))) (fun _ => ?_)
  refine wp_run rfl ?_
  exact wp_ret rfl rfl ⟨rfl, rfl⟩
theorem x0_trimSlug_ok (hO : aOk A) (hC : CR B A) {i : Nat} (hi : i < aN A) {v : Nat} (h1 : 1 ≤ v) (h2 : v ≤ 98) (h3 : v ≤ aCan A (aR A i)) : axEv ro (d + 3) kX0_trimSlug [.ref 1, .int (nI (aR A i)), .int (nI v)] (hX B Y sl P G tl) (some (.int (nI (aB A (aR A i) - v)))) (hX (bBt_ B (upd (bBt B) (aR A i) (nI (aB A (aR A i) - v)))) Y sl P G tl) := by
  have hc : aCan A (aR A i) ≤ aB A (aR A i) := Nat.sub_le _ _
  have hb := hO.b hi
  refine ev_in rfl rfl (Nat.le_of_ble_eq_true rfl) rfl ?_
  refine wp_run rfl ?_
  refine wp_v1 rfl rfl (Nat.le_of_ble_eq_true rfl) (x0_has_in hO hC hi) ?_
  refine wp_run rfl ?_
  refine wp_ifne rfl (fun _ => ?_) (fun hz_ => absurd ((by decide : ¬ (1 : Int32) = 0)) hz_)
  refine wp_run rfl ?_
  refine wp_iclt rfl (fun hz_ => absurd hz_ (nI_nlt (b := 1) h1 (by omega))) (fun _ => ?_)
  refine wp_run rfl ?_
  refine wp_icle rfl (fun _ => ?_) (fun hz_ => absurd (nI_le (b := 98) h2 (by omega)) hz_)
  refine wp_run rfl ?_
  refine wp_v1 rfl rfl (Nat.le_of_ble_eq_true rfl) (x0_roomOf hO hC hi) ?_
  refine wp_run rfl ?_
  refine wp_icle rfl (fun _ => ?_) (fun hz_ => absurd (nI_le h3 (by omega)) hz_)
  refine wp_run rfl ?_
  refine wp_v1 rfl rfl (Nat.le_of_ble_eq_true rfl) (x0_beatsOf hO hC hi) ?_
  refine wp_run rfl ?_
  rw [pk_sub (by omega)]
  refine wp_s3v rfl (Nat.le_of_ble_eq_true rfl) (x4_store (h1 := hX (bBt_ B (upd (bBt B) (aR A i) (nI (aB A (aR A i) - v)))) Y sl P G tl) rfl (hO.r hi) (by decide) rfl) ?_
  refine wp_run rfl ?_
  refine wp_v1 rfl rfl (Nat.le_of_ble_eq_true rfl) (x0_beatsOf0 (hO.r hi)) ?_
  refine wp_run rfl ?_
  rw [show bBt (bBt_ B (upd (bBt B) (aR A i) (nI (aB A (aR A i) - v)))) (aR A i) = nI (aB A (aR A i) - v) from pk_us]
  exact wp_ret rfl rfl ⟨rfl, rfl⟩
theorem x0_giveBack_out (hC : CR B A) {x : Int32} (hx : ∀ i, i < aN A → x ≠ nI (aR A i)) : axEv ro (d + 3) kX0_giveBack [.ref 1, .int x] (hX B Y sl P G tl) (some (.int (-1))) (hX B Y sl P G tl) := by
  refine ev_in rfl rfl (Nat.le_of_ble_eq_true rfl) rfl ?_
  refine wp_run rfl ?_
  refine wp_v1 rfl rfl (Nat.le_of_ble_eq_true rfl) (x0_has_out hC hx) ?_
  refine wp_run rfl ?_
  refine wp_ifne rfl (fun hz_ => absurd hz_ (fun z => z rfl)) (fun _ => ?_)
  refine wp_run rfl ?_
  exact wp_ret rfl rfl ⟨rfl, rfl⟩
theorem x0_giveBack_in (hO : aOk A) (hC : CR B A) {i : Nat} (hi : i < aN A) : axEv ro (d + 3) kX0_giveBack [.ref 1, .int (nI (aR A i))] (hX B Y sl P G tl) (some (.int (nI (aW A (aR A i) - aB A (aR A i))))) (hX (bBt_ B (upd (bBt B) (aR A i) (nI (aW A (aR A i))))) Y sl P G tl) := by
  have hb := hO.b hi
  refine ev_in rfl rfl (Nat.le_of_ble_eq_true rfl) rfl ?_
  refine wp_run rfl ?_
  refine wp_v1 rfl rfl (Nat.le_of_ble_eq_true rfl) (x0_has_in hO hC hi) ?_
  refine wp_run rfl ?_
  refine wp_ifne rfl (fun _ => ?_) (fun hz_ => absurd ((by decide : ¬ (1 : Int32) = 0)) hz_)
  refine wp_run rfl ?_
  refine wp_v1 rfl rfl (Nat.le_of_ble_eq_true rfl) (x0_writtenOf hO hC hi) ?_
  refine wp_run rfl ?_
  refine wp_v1 rfl rfl (Nat.le_of_ble_eq_true rfl) (x0_beatsOf hO hC hi) ?_
  refine wp_run rfl ?_
  rw [pk_sub (by omega)]
  refine wp_v1 rfl rfl (Nat.le_of_ble_eq_true rfl) (x0_writtenOf hO hC hi) ?_
  refine wp_run rfl ?_
  refine wp_s3v rfl (Nat.le_of_ble_eq_true rfl) (x4_store (h1 := hX (bBt_ B (upd (bBt B) (aR A i) (nI (aW A (aR A i))))) Y sl P G tl) rfl (hO.r hi) (by decide) rfl) ?_
  refine wp_run rfl ?_
  exact wp_ret rfl rfl ⟨rfl, rfl⟩
/-- the row without the slug at p (what stands behind the end stays) -/
def tkF (f : Nat → Int32) (p q : Nat) : Nat → Int32 := fun i => if p ≤ i ∧ i + 1 < q then f (i + 1) else f i
theorem tkF_0 (f : Nat → Int32) (p : Nat) : tkF f p (p + 1) = f := by
  funext i
  unfold tkF
  rw [if_neg (by omega)]
theorem tkF_s (f : Nat → Int32) {p q : Nat} (h : p < q) : upd (tkF f p q) (q - 1) (f q) = tkF f p (q + 1) := by
  funext i
  rw [upd_up]
  unfold tkF
  by_cases e : i = q - 1
  · subst e
    rw [if_pos rfl, if_pos (by omega), show q - 1 + 1 = q by omega]
  · rw [if_neg e]
    by_cases e2 : p ≤ i ∧ i + 1 < q
    · rw [if_pos e2, if_pos (by omega)]
    · rw [if_neg e2, if_neg (by omega)]
theorem x0_takeOut {n p : Nat} (hs : bSz B = nI n) (hn : n ≤ 24) (hp : p < n) : axEv ro (d + 2) kX0_takeOut [.ref 1, .int (nI p)] (hX B Y sl P G tl) none (hX (bSz_ (bRw_ B (tkF (bRw B) p n)) (nI (n - 1))) Y sl P G tl) := by
  have loop : ∀ m q, q + m = n → p < q → axW ro (axEv ro (d + 1)) cdX0_takeOut 9 [some (.ref 1), some (.int (nI p)), some (.int (nI q))] [.int (bSz B), .int (nI q)] (hX (bRw_ B (tkF (bRw B) p q)) Y sl P G tl) (fun r' h' => r' = none ∧ h' = hX (bSz_ (bRw_ B (tkF (bRw B) p n)) (nI (n - 1))) Y sl P G tl) := by
    intro m
    induction m with
    | zero =>
      intro q e hq
      have e : q = n := by omega
      subst e
      rw [hs]
      refine wp_icge rfl (fun _ => ?_) (fun hz_ => absurd (nI_le (Nat.le_refl _) (by omega)) hz_)
      refine wp_run rfl ?_
      rw [show bSz (bRw_ B (tkF (bRw B) p q)) = nI q from hs, nI_p1 (by omega)]
      refine wp_putf (h1 := hX (bSz_ (bRw_ B (tkF (bRw B) p q)) (nI (q - 1))) Y sl P G tl) rfl rfl (Nat.le_of_ble_eq_true rfl) ⟨rfl, rfl, fun _ hz_ => by cases hz_⟩ rfl ?_
      refine wp_run rfl ?_
      exact wp_retv rfl ⟨rfl, rfl⟩
    | succ m ih =>
      intro q e hq
      rw [hs]
      refine wp_icge rfl (fun hz_ => absurd hz_ (nI_ge (show q < n by omega) (by omega))) (fun _ => ?_)
      refine wp_run rfl ?_
      rw [nI_p1 (by omega)]
      refine wp_s2 rfl (Nat.le_of_ble_eq_true rfl) (x4_cell rfl (show q < 24 by omega) (by decide)) ?_
      refine wp_run rfl ?_
      rw [show bRw (bRw_ B (tkF (bRw B) p q)) q = bRw B q from if_neg (by omega)]
      refine wp_s3v rfl (Nat.le_of_ble_eq_true rfl) (x4_store (h1 := hX (bRw_ B (upd (tkF (bRw B) p q) (q - 1) (bRw B q))) Y sl P G tl) rfl (show q - 1 < 24 by omega) (by decide) rfl) ?_
      refine wp_run rfl ?_
      rw [tkF_s _ hq, nI_1]
      exact ih (q + 1) (by omega) (by omega)
  refine ev_in rfl rfl (Nat.le_of_ble_eq_true rfl) rfl ?_
  refine wp_run rfl ?_
  have := loop (n - (p + 1)) (p + 1) (by omega) (by omega)
  rw [tkF_0] at this
  rw [nI_1]
  exact this
/-- the row, behind p each a place further -/
def pnF (f : Nat → Int32) (q n : Nat) : Nat → Int32 := fun i => if q < i ∧ i ≤ n then f (i - 1) else f i
theorem pnF_0 (f : Nat → Int32) (n : Nat) : pnF f n n = f := by
  funext i
  unfold pnF
  rw [if_neg (by omega)]
theorem pnF_s (f : Nat → Int32) {q n : Nat} (h : q + 1 ≤ n) : upd (pnF f (q + 1) n) (q + 1) (f q) = pnF f q n := by
  funext i
  rw [upd_up]
  unfold pnF
  by_cases e : i = q + 1
  · subst e
    rw [if_pos rfl, if_pos (by omega), show q + 1 - 1 = q by omega]
  · rw [if_neg e]
    by_cases e2 : q < i ∧ i ≤ n
    · rw [if_pos e2, if_pos (by omega)]
    · rw [if_neg e2, if_neg (by omega)]
theorem x0_putIn {n p k : Nat} (hs : bSz B = nI n) (hn : n < 24) (hp : p ≤ n) : axEv ro (d + 2) kX0_putIn [.ref 1, .int (nI p), .int (nI k)] (hX B Y sl P G tl) none (hX (bSz_ (bRw_ B (upd (pnF (bRw B) p n) p (nI k))) (nI (n + 1))) Y sl P G tl) := by
  have loop : ∀ m q, q = p + m → q ≤ n → axW ro (axEv ro (d + 1)) cdX0_putIn 7 [some (.ref 1), some (.int (nI p)), some (.int (nI k)), some (.int (nI q))] [.int (nI p), .int (nI q)] (hX (bRw_ B (pnF (bRw B) q n)) Y sl P G tl) (fun r' h' => r' = none ∧ h' = hX (bSz_ (bRw_ B (upd (pnF (bRw B) p n) p (nI k))) (nI (n + 1))) Y sl P G tl) := by
    intro m
    induction m with
    | zero =>
      intro q e hq
      have e : q = p := by omega
      subst e
      refine wp_icle rfl (fun _ => ?_) (fun hz_ => absurd (nI_le (Nat.le_refl _) (by omega)) hz_)
      refine wp_run rfl ?_
      refine wp_s3v rfl (Nat.le_of_ble_eq_true rfl) (x4_store (h1 := hX (bRw_ B (upd (pnF (bRw B) q n) q (nI k))) Y sl P G tl) rfl (show q < 24 by omega) (by decide) rfl) ?_
      refine wp_run rfl ?_
      rw [show bSz (bRw_ B (upd (pnF (bRw B) q n) q (nI k))) = nI n from hs, nI_1]
      refine wp_putf (h1 := hX (bSz_ (bRw_ B (upd (pnF (bRw B) q n) q (nI k))) (nI (n + 1))) Y sl P G tl) rfl rfl (Nat.le_of_ble_eq_true rfl) ⟨rfl, rfl, fun _ hz_ => by cases hz_⟩ rfl ?_
      refine wp_run rfl ?_
      exact wp_retv rfl ⟨rfl, rfl⟩
    | succ m ih =>
      intro q e hq
      obtain ⟨q', rfl⟩ : ∃ q', q = q' + 1 := ⟨q - 1, by omega⟩
      refine wp_icle rfl (fun hz_ => absurd hz_ (nI_ge (show p < q' + 1 by omega) (by omega))) (fun _ => ?_)
      refine wp_run rfl ?_
      rw [nI_pred]
      refine wp_s2 rfl (Nat.le_of_ble_eq_true rfl) (x4_cell rfl (show q' < 24 by omega) (by decide)) ?_
      refine wp_run rfl ?_
      rw [show bRw (bRw_ B (pnF (bRw B) (q' + 1) n)) q' = bRw B q' from if_neg (by omega)]
      refine wp_s3v rfl (Nat.le_of_ble_eq_true rfl) (x4_store (h1 := hX (bRw_ B (upd (pnF (bRw B) (q' + 1) n) (q' + 1) (bRw B q'))) Y sl P G tl) rfl (show q' + 1 < 24 by omega) (by decide) rfl) ?_
      refine wp_run rfl ?_
      rw [pnF_s _ (by omega), pk_m1]
      exact ih q' (by omega) (by omega)
  refine ev_in rfl rfl (Nat.le_of_ble_eq_true rfl) rfl ?_
  refine wp_run rfl ?_
  have := loop (n - p) n (by omega) (Nat.le_refl _)
  rw [pnF_0] at this
  rw [hs]
  exact this
end AX23
end
section
/-! THE CLASS: changes of the board (3): slugs go, come, are moved, are swapped. -/
def aIns (r : Nat → Nat) (p k : Nat) : Nat → Nat := fun i => if i < p then r i else if i = p then k else r (i - 1)
def aDel (r : Nat → Nat) (p : Nat) : Nat → Nat := fun i => if i < p then r i else r (i + 1)
theorem aDel_is (r : Nat → Nat) {p i n : Nat} (hi : i < n - 1) (hp : p < n) : ∃ j, j < n ∧ j ≠ p ∧ aDel r p i = r j := by
  unfold aDel
  by_cases h : i < p
  · exact ⟨i, by omega, by omega, by rw [if_pos h]⟩
  · exact ⟨i + 1, by omega, by omega, by rw [if_neg h]⟩
theorem aDel_has (r : Nat → Nat) {p j n : Nat} (hj : j < n) (hjp : j ≠ p) (hp : p < n) : ∃ i, i < n - 1 ∧ aDel r p i = r j := by
  unfold aDel
  by_cases h : j < p
  · exact ⟨j, by omega, by rw [if_pos h]⟩
  · exact ⟨j - 1, by omega, by rw [if_neg (by omega), show j - 1 + 1 = j by omega]⟩
theorem aIns_is (r : Nat → Nat) {p k i n : Nat} (hi : i < n + 1) (hp : p ≤ n) : (i = p ∧ aIns r p k i = k) ∨ ∃ j, j < n ∧ aIns r p k i = r j := by
  unfold aIns
  by_cases h : i < p
  · exact Or.inr ⟨i, by omega, by rw [if_pos h]⟩
  · by_cases h2 : i = p
    · exact Or.inl ⟨h2, by rw [if_neg h, if_pos h2]⟩
    · exact Or.inr ⟨i - 1, by omega, by rw [if_neg h, if_neg h2]⟩
theorem aIns_at (r : Nat → Nat) (p k : Nat) : aIns r p k p = k := by unfold aIns; rw [if_neg (by omega), if_pos rfl]
theorem aIns_has (r : Nat → Nat) {p k j n : Nat} (hj : j < n) (hp : p ≤ n) : ∃ i, i < n + 1 ∧ i ≠ p ∧ aIns r p k i = r j := by
  unfold aIns
  by_cases h : j < p
  · exact ⟨j, by omega, by omega, by rw [if_pos h]⟩
  · exact ⟨j + 1, by omega, by omega, by rw [if_neg (by omega), if_neg (by omega), Nat.add_sub_cancel]⟩
def aDrop (A : axAD) (p : Nat) : axAD := (aN A - 1, aDel (aR A) p, aW A, aB A, fun k => aD A k &&& (bi (aR A p) ^^^ (-1)), aT A, aPg A, aSl A, aTr A, aTg A)
def aAdd (A : axAD) (p v k : Nat) (t : Bool) : axAD := (aN A + 1, aIns (aR A) p k, va_up (aW A) k v, va_up (aB A) k v, va_up (aD A) k 0, va_up (aT A) k t, aPg A, aSl A, aTr A, aTg A)
def aRow (A : axAD) (r : Nat → Nat) : axAD := (aN A, r, aW A, aB A, aD A, aT A, aPg A, aSl A, aTr A, aTg A)
def aMove (A : axAD) (p q : Nat) : axAD := aRow A (aIns (aDel (aR A) p) q (aR A p))
def aSwp (A : axAD) (p q : Nat) : axAD := aRow A (fun i => if i = p then aR A q else if i = q then aR A p else aR A i)
/-- is it there; the lowest number that is free -/
def aPr (A : axAD) (k : Nat) : Bool := decide (aFst (fun i => decide (aR A i = k)) (aN A) < aN A)
def aFr (A : axAD) : Nat := aFst (fun k => !aPr A k) 24
theorem aPr_iff (A : axAD) (k : Nat) : aPr A k = true ↔ aIn A k := by
  unfold aPr aIn
  rw [decide_eq_true_eq]
  constructor
  · intro h
    exact ⟨_, h, of_decide_eq_true (aFst_yes (fun i => decide (aR A i = k)) (aN A) h)⟩
  · rintro ⟨i, hi, e⟩
    have := aFst_lt (f := fun i => decide (aR A i = k)) hi (decide_eq_true e)
    omega
section AX24
variable {ro : axRo} {d : Nat} {h h1 : axH} {B : axBD} {Y : axYD} {sl : Nat → Option Nat} {P : axPD} {G : axGD} {tl : axH} {A : axAD}
theorem aFr_lt (hO : aOk A) (hn : aN A < 24) : aFr A < 24 := by
  rcases Nat.lt_or_ge (aFr A) 24 with h | h
  · exact h
  · have hle : aFr A ≤ 24 := aFst_le _ _
    have all : ∀ k, k < 24 → aPr A k = true := fun k hk => by
      have := aFst_no (fun k => !aPr A k) 24 k (by unfold aFr at h; omega)
      simpa using this
    have h1 := bc_row (r := aR A) (t := fun _ => true) (N := 24) (fun i hi => hO.r hi) (fun i j hi hj e => hO.inj hi hj e) (aN A) (Nat.le_refl _) (fun k => aPr A k) (fun k => by
      rw [aPr_iff]
      constructor
      · rintro ⟨i, hi, e⟩; exact ⟨i, hi, e, rfl⟩
      · rintro ⟨i, hi, e, _⟩; exact ⟨i, hi, e⟩)
    have h2 : bc (fun k => aPr A k) 24 = 24 := by
      have : ∀ N, N ≤ 24 → bc (fun k => aPr A k) N = N := by
        intro N
        induction N with
        | zero => intro _; rfl
        | succ N ih => intro hN; rw [bc, ih (by omega), if_pos (all N (by omega))]
      exact this 24 (Nat.le_refl _)
    have h3 : aS (fun i => if (fun _ : Nat => true) (aR A i) = true then 1 else 0) (aN A) ≤ aN A * 1 := aS_le _ (fun i _ => by simp)
    rw [h1] at h2
    have h4 := Nat.le_trans (Nat.le_of_eq h2.symm) h3
    omega
theorem aFr_free (hO : aOk A) (hn : aN A < 24) : ¬ aIn A (aFr A) := by
  have := aFst_yes (fun k => !aPr A k) 24 (aFr_lt hO hn)
  intro h
  have h2 := (aPr_iff A (aFr A)).mpr h
  unfold aFr at h2
  simp only [h2] at this
  cases this
theorem cr_pr (hC : CR B A) (k : Nat) : bt (bSg B) k = aPr A k := by
  have h1 := cr_sg hC k
  have h2 := aPr_iff A k
  cases h3 : bt (bSg B) k <;> cases h4 : aPr A k <;> simp_all
theorem x0_lowestFree (hO : aOk A) (hC : CR B A) (hn : aN A < 24) : axEv ro (d + 2) kX0_lowestFree [.ref 1] (hX B Y sl P G tl) (some (.int (nI (aFr A)))) (hX B Y sl P G tl) := by
  have hlt := aFr_lt hO hn
  have loop : ∀ m q, q + m = aFr A → axW ro (axEv ro (d + 1)) cdX0_lowestFree 5 [some (.ref 1), some (.int (nI q))] [.int 24, .int (nI q)] (hX B Y sl P G tl) (fun r' h' => r' = some (.int (nI (aFr A))) ∧ h' = (hX B Y sl P G tl)) := by
    intro m
    induction m with
    | zero =>
      intro q e
      have e : q = aFr A := by omega
      refine wp_icge rfl (fun hz_ => absurd hz_ (nlt24 (show q < 24 by omega))) (fun _ => ?_)
      refine wp_run rfl ?_
      refine wp_s2 rfl (Nat.le_of_ble_eq_true rfl) (x4_contains_in (show q < 24 by omega)) ?_
      refine wp_run rfl ?_
      have h2 : aPr A q = false := by
        have := aFst_yes (fun k => !aPr A k) 24 hlt
        rw [e]; simpa [aFr] using this
      rw [if_neg (by rw [cr_pr hC, h2]; decide)]
      refine wp_ifne rfl (fun hz_ => absurd hz_ (fun z => z rfl)) (fun _ => ?_)
      refine wp_run rfl ?_
      rw [e]
      exact wp_ret rfl rfl ⟨rfl, rfl⟩
    | succ m ih =>
      intro q e
      refine wp_icge rfl (fun hz_ => absurd hz_ (nlt24 (show q < 24 by omega))) (fun _ => ?_)
      refine wp_run rfl ?_
      refine wp_s2 rfl (Nat.le_of_ble_eq_true rfl) (x4_contains_in (show q < 24 by omega)) ?_
      refine wp_run rfl ?_
      have h2 : aPr A q = true := by
        have := aFst_no (fun k => !aPr A k) 24 q (by unfold aFr at e; omega)
        simpa using this
      rw [if_pos (by rw [cr_pr hC, h2])]
      refine wp_ifne rfl (fun _ => ?_) (fun hz_ => absurd ((by decide : ¬ (1 : Int32) = 0)) hz_)
      refine wp_run rfl ?_
      rw [nI_1]
      exact ih (q + 1) (by omega)
  refine ev_in rfl rfl (Nat.le_of_ble_eq_true rfl) rfl ?_
  refine wp_run rfl ?_
  exact loop (aFr A) 0 (by omega)
/-- a new slug's arrays, the row included -/
def bAdd (B : axBD) (n p v k : Nat) : axBD := (bSt B, bTg B, upd (pnF (bRw B) p n) p (nI k), upd (bWr B) k (nI v), upd (bBt B) k (nI v), upd (bNd B) k 0, bSg B ||| bi k, bTn B, nI (n + 1))
theorem x0_makeSlug (hO : aOk A) (hC : CR B A) {p v : Nat} (hn : aN A < 24) (hp : p ≤ aN A) : axEv ro (d + 3) kX0_makeSlug [.ref 1, .int (nI p), .int (nI v)] (hX B Y sl P G tl) (some (.int (nI (aFr A)))) (hX (bAdd B (aN A) p v (aFr A)) Y sl P G tl) := by
  have hlt := aFr_lt hO hn
  have hz := cr_sz hC
  refine ev_in rfl rfl (Nat.le_of_ble_eq_true rfl) rfl ?_
  refine wp_run rfl ?_
  refine wp_v0 rfl rfl (Nat.le_of_ble_eq_true rfl) (x0_lowestFree hO hC hn) ?_
  refine wp_run rfl ?_
  refine wp_s1 rfl (Nat.le_of_ble_eq_true rfl) (x4_bit hlt) ?_
  refine wp_run rfl ?_
  refine wp_putf (h1 := hX (bSg_ B (bSg B ||| bi (aFr A))) Y sl P G tl) rfl rfl (Nat.le_of_ble_eq_true rfl) ⟨rfl, rfl, fun _ hz_ => by cases hz_⟩ rfl ?_
  refine wp_run rfl ?_
  refine wp_s3v rfl (Nat.le_of_ble_eq_true rfl) (x4_store (h1 := hX (bWr_ (bSg_ B (bSg B ||| bi (aFr A))) (upd (bWr B) (aFr A) (nI v))) Y sl P G tl) rfl hlt (by decide) rfl) ?_
  refine wp_run rfl ?_
  refine wp_s3v rfl (Nat.le_of_ble_eq_true rfl) (x4_store (h1 := hX (bBt_ (bWr_ (bSg_ B (bSg B ||| bi (aFr A))) (upd (bWr B) (aFr A) (nI v))) (upd (bBt B) (aFr A) (nI v))) Y sl P G tl) rfl hlt (by decide) rfl) ?_
  refine wp_run rfl ?_
  refine wp_s3v rfl (Nat.le_of_ble_eq_true rfl) (x4_store (h1 := hX (bNd_ (bBt_ (bWr_ (bSg_ B (bSg B ||| bi (aFr A))) (upd (bWr B) (aFr A) (nI v))) (upd (bBt B) (aFr A) (nI v))) (upd (bNd B) (aFr A) 0)) Y sl P G tl) rfl hlt (by decide) rfl) ?_
  refine wp_run rfl ?_
  refine wp_v2v rfl rfl (Nat.le_of_ble_eq_true rfl) (x0_putIn (n := aN A) hz hn hp) ?_
  refine wp_run rfl ?_
  exact wp_ret rfl rfl ⟨rfl, rfl⟩
theorem va_is {α : Type} {f : Nat → α} {k : Nat} {v : α} : va_up f k v k = v := if_pos rfl
theorem va_no {α : Type} {f : Nat → α} {k j : Nat} {v : α} (h : j ≠ k) : va_up f k v j = f j := if_neg h
theorem pn_row {f : Nat → Int32} {r : Nat → Nat} {n p k : Nat} (hf : ∀ i, i < n → f i = nI (r i)) (hp : p ≤ n) {i : Nat} (hi : i < n + 1) : upd (pnF f p n) p (nI k) i = nI (aIns r p k i) := by
  rw [upd_up]
  unfold pnF aIns
  by_cases e : i = p
  · rw [if_pos e, if_neg (by omega), if_pos e]
  · rw [if_neg e]
    by_cases e2 : i < p
    · rw [if_neg (by omega), if_pos e2, hf i (by omega)]
    · rw [if_pos (by omega), if_neg e2, if_neg e, hf (i - 1) (by omega)]
theorem tk_row {f : Nat → Int32} {r : Nat → Nat} {n p : Nat} (hf : ∀ i, i < n → f i = nI (r i)) {i : Nat} (hi : i < n - 1) : tkF f p n i = nI (aDel r p i) := by
  unfold tkF aDel
  by_cases e : i < p
  · rw [if_neg (by omega), if_pos e, hf i (by omega)]
  · rw [if_pos (by omega), if_neg e, hf (i + 1) (by omega)]
theorem cr_add (hC : CR B A) {p v z0 : Nat} (hlt : z0 < 24) (hfr : ¬ aIn A z0) (hp : p ≤ aN A) : CR (bAdd B (aN A) p v z0) (aAdd A p v z0 false) := by
  obtain ⟨c1, c2, c3, c4, c5, c6, c9⟩ := hC
  have hin : ∀ k, aIn (aAdd A p v z0 false) k ↔ (aIn A k ∨ k = z0) := by
    intro k
    constructor
    · rintro ⟨i, hi, e⟩
      rcases aIns_is (aR A) (p := p) (k := z0) hi hp with ⟨-, e2⟩ | ⟨j, hj, e2⟩
      · exact Or.inr (e.symm.trans e2)
      · exact Or.inl ⟨j, hj, e2.symm.trans e⟩
    · rintro (⟨j, hj, e⟩ | e)
      · obtain ⟨i, hi, -, e2⟩ := aIns_has (aR A) (p := p) (k := z0) hj hp
        exact ⟨i, hi, e2.trans e⟩
      · exact ⟨p, by show p < aN A + 1; omega, (aIns_at (aR A) p z0).trans e.symm⟩
  have hne : ∀ j, j < aN A → aR A j ≠ z0 := fun j hj e => hfr ⟨j, hj, e⟩
  refine ⟨rfl, fun i hi => pn_row c2 hp hi, fun i hi => ?_, fun k => ?_, fun k => ?_, c6, c9⟩
  · have key : ∀ z, aIns (aR A) p z0 i = z → upd (bWr B) z0 (nI v) z = nI (va_up (aW A) z0 v z) ∧ upd (bBt B) z0 (nI v) z = nI (va_up (aB A) z0 v z) ∧ upd (bNd B) z0 0 z = va_up (aD A) z0 0 z := by
      intro z hz
      rcases aIns_is (aR A) (p := p) (k := z0) hi hp with ⟨-, e2⟩ | ⟨j, hj, e2⟩
      · rw [← hz, e2, pk_us, pk_us, pk_us, va_is, va_is, va_is]
        exact ⟨rfl, rfl, rfl⟩
      · have hj2 := hne j hj
        rw [← hz, e2, pk_un hj2, pk_un hj2, pk_un hj2, va_no hj2, va_no hj2, va_no hj2]
        exact c3 j hj
    exact key _ rfl
  · rw [hin k, ← c4 k]
    show bt (bSg B ||| bi z0) k = true ↔ _
    rw [bt_set (by omega), Bool.or_eq_true, decide_eq_true_eq]
  · rw [hin k]
    show bt (bTn B) k = true ↔ (_ ∧ va_up (aT A) z0 false k = true)
    rw [c5 k]
    by_cases e : k = z0
    · subst e
      rw [va_is]
      constructor
      · intro h; exact absurd h.1 hfr
      · intro h; cases h.2
    · rw [va_no e]
      constructor
      · intro h; exact ⟨Or.inl h.1, h.2⟩
      · intro h; exact ⟨h.1.resolve_right e, h.2⟩
theorem cr_turnOn (hC : CR B A) {k : Nat} (hk : k < 24) (hin : aIn A k) (hf : aT A k = false) : CR (bTn_ B (bTn B ||| bi k)) (aFlip A k) := by
  obtain ⟨c1, c2, c3, c4, c5, c6, c9⟩ := hC
  refine ⟨c1, c2, c3, c4, fun j => ?_, c6, c9⟩
  show bt (bTn B ||| bi k) j = true ↔ (aIn A j ∧ (if j = k then !aT A j else aT A j) = true)
  rw [bt_set (by omega), Bool.or_eq_true, decide_eq_true_eq, c5 j]
  by_cases e : j = k
  · subst e
    rw [if_pos rfl, hf]
    simp [hin]
  · rw [if_neg e]
    simp [e]
theorem x0_addSlug_ns (hC : CR B A) {x y z : Int32} (hx : x < 0 ∨ ¬ x ≤ nI (aN A)) : axEv ro (d + 4) kX0_addSlug [.ref 1, .int x, .int y, .int z] (hX B Y sl P G tl) (some (.int (-1))) (hX B Y sl P G tl) := by
  refine ev_in rfl rfl (Nat.le_of_ble_eq_true rfl) rfl ?_
  refine wp_run rfl ?_
  refine wp_iflt rfl (fun q => ?_) (fun q => ?_)
  · refine wp_run rfl ?_
    exact wp_ret rfl rfl ⟨rfl, rfl⟩
  · refine wp_run rfl ?_
    rw [cr_sz hC]
    refine wp_icle rfl (fun hz_ => absurd hz_ (hx.elim (fun w => absurd w q) id)) (fun _ => ?_)
    refine wp_run rfl ?_
    exact wp_ret rfl rfl ⟨rfl, rfl⟩
theorem x0_addSlug_bv (hO : aOk A) (hC : CR B A) {p : Nat} {y z : Int32} (hp : p ≤ aN A) (hv : y < 1 ∨ 99 < y ∨ z < 0 ∨ ¬ z ≤ 1) : axEv ro (d + 4) kX0_addSlug [.ref 1, .int (nI p), .int y, .int z] (hX B Y sl P G tl) (some (.int (-2))) (hX B Y sl P G tl) := by
  have hn := hO.n
  refine ev_in rfl rfl (Nat.le_of_ble_eq_true rfl) rfl ?_
  refine wp_run rfl ?_
  refine wp_iflt rfl (fun hz_ => absurd hz_ (nI_pos (by omega))) (fun _ => ?_)
  refine wp_run rfl ?_
  rw [cr_sz hC]
  refine wp_icle rfl (fun _ => ?_) (fun hz_ => absurd (nI_le hp (by omega)) hz_)
  refine wp_run rfl ?_
  refine wp_iclt rfl (fun q1 => ?_) (fun q1 => ?_)
  · refine wp_run rfl ?_
    exact wp_ret rfl rfl ⟨rfl, rfl⟩
  · refine wp_run rfl ?_
    refine wp_icgt rfl (fun q2 => ?_) (fun q2 => ?_)
    · refine wp_run rfl ?_
      exact wp_ret rfl rfl ⟨rfl, rfl⟩
    · refine wp_run rfl ?_
      refine wp_iflt rfl (fun q3 => ?_) (fun q3 => ?_)
      · refine wp_run rfl ?_
        exact wp_ret rfl rfl ⟨rfl, rfl⟩
      · refine wp_run rfl ?_
        refine wp_icle rfl (fun hz_ => absurd hz_ (fun q4 => hv.elim q1 (fun w => w.elim q2 (fun w => w.elim q3 (fun w => w q4))))) (fun _ => ?_)
        refine wp_run rfl ?_
        exact wp_ret rfl rfl ⟨rfl, rfl⟩
theorem x0_addSlug_tm (hO : aOk A) (hC : CR B A) {p v t : Nat} (hp : p ≤ aN A) (h1 : 1 ≤ v) (h2 : v ≤ 99) (h3 : t ≤ 1) (hn : aN A = 24) : axEv ro (d + 4) kX0_addSlug [.ref 1, .int (nI p), .int (nI v), .int (nI t)] (hX B Y sl P G tl) (some (.int (-4))) (hX B Y sl P G tl) := by
  refine ev_in rfl rfl (Nat.le_of_ble_eq_true rfl) rfl ?_
  refine wp_run rfl ?_
  refine wp_iflt rfl (fun hz_ => absurd hz_ (nI_pos (by omega))) (fun _ => ?_)
  refine wp_run rfl ?_
  rw [cr_sz hC]
  refine wp_icle rfl (fun _ => ?_) (fun hz_ => absurd (nI_le hp (by omega)) hz_)
  refine wp_run rfl ?_
  refine wp_iclt rfl (fun hz_ => absurd hz_ (nI_nlt (b := 1) h1 (by omega))) (fun _ => ?_)
  refine wp_run rfl ?_
  refine wp_icgt rfl (fun hz_ => absurd hz_ (nI_nlt (a := 99) h2 (by omega))) (fun _ => ?_)
  refine wp_run rfl ?_
  refine wp_iflt rfl (fun hz_ => absurd hz_ (nI_pos (by omega))) (fun _ => ?_)
  refine wp_run rfl ?_
  refine wp_icle rfl (fun _ => ?_) (fun hz_ => absurd (nI_le (b := 1) h3 (by omega)) hz_)
  refine wp_run rfl ?_
  rw [cr_sz hC, hn]
  refine wp_iclt rfl (fun hz_ => absurd hz_ ((by decide : ¬ nI 24 < 24))) (fun _ => ?_)
  refine wp_run rfl ?_
  exact wp_ret rfl rfl ⟨rfl, rfl⟩
theorem x0_addSlug_ok (hO : aOk A) (hC : CR B A) {p v t : Nat} (hp : p ≤ aN A) (h1 : 1 ≤ v) (h2 : v ≤ 99) (h3 : t ≤ 1) (hn : aN A < 24) : ∃ B', axEv ro (d + 4) kX0_addSlug [.ref 1, .int (nI p), .int (nI v), .int (nI t)] (hX B Y sl P G tl) (some (.int (nI (aFr A)))) (hX (B') Y sl P G tl) ∧ CR B' (aAdd A p v (aFr A) (decide (t = 1))) := by
  have hlt := aFr_lt hO hn
  have hfr := aFr_free hO hn
  have hc := cr_add (v := v) hC hlt hfr hp
  have hm := x0_makeSlug (ro := ro) (d := d) (Y := Y) (sl := sl) (P := P) (G := G) (tl := tl) (v := v) hO hC hn hp
  generalize aFr A = k at *
  rcases (show t = 0 ∨ t = 1 by omega) with rfl | rfl
  · refine ⟨_, ?_, hc⟩
    refine ev_in rfl rfl (Nat.le_of_ble_eq_true rfl) rfl ?_
    refine wp_run rfl ?_
    refine wp_iflt rfl (fun hz_ => absurd hz_ (nI_pos (by omega))) (fun _ => ?_)
    refine wp_run rfl ?_
    rw [cr_sz hC]
    refine wp_icle rfl (fun _ => ?_) (fun hz_ => absurd (nI_le hp (by omega)) hz_)
    refine wp_run rfl ?_
    refine wp_iclt rfl (fun hz_ => absurd hz_ (nI_nlt (b := 1) h1 (by omega))) (fun _ => ?_)
    refine wp_run rfl ?_
    refine wp_icgt rfl (fun hz_ => absurd hz_ (nI_nlt (a := 99) h2 (by omega))) (fun _ => ?_)
    refine wp_run rfl ?_
    refine wp_iflt rfl (fun hz_ => absurd hz_ (nI_pos (by omega))) (fun _ => ?_)
    refine wp_run rfl ?_
    refine wp_icle rfl (fun _ => ?_) (fun hz_ => absurd (nI_le (b := 1) h3 (by omega)) hz_)
    refine wp_run rfl ?_
    rw [cr_sz hC]
    refine wp_iclt rfl (fun _ => ?_) (fun hz_ => absurd (nI_lt (b := 24) hn (by omega)) hz_)
    refine wp_run rfl ?_
    refine wp_v2 rfl rfl (Nat.le_of_ble_eq_true rfl) (hm) ?_
    refine wp_run rfl ?_
    refine wp_icne rfl (fun _ => ?_) (fun hz_ => absurd ((by decide : ¬ nI 0 = 1)) hz_)
    refine wp_run rfl ?_
    exact wp_ret rfl rfl ⟨rfl, rfl⟩
  · have hc2 := cr_turnOn hc hlt ⟨p, by show p < aN A + 1; omega, aIns_at (aR A) p k⟩ va_is
    refine ⟨bTn_ (bAdd B (aN A) p v k) (bTn B ||| bi k), ?_, ?_⟩
    · refine ev_in rfl rfl (Nat.le_of_ble_eq_true rfl) rfl ?_
      refine wp_run rfl ?_
      refine wp_iflt rfl (fun hz_ => absurd hz_ (nI_pos (by omega))) (fun _ => ?_)
      refine wp_run rfl ?_
      rw [cr_sz hC]
      refine wp_icle rfl (fun _ => ?_) (fun hz_ => absurd (nI_le hp (by omega)) hz_)
      refine wp_run rfl ?_
      refine wp_iclt rfl (fun hz_ => absurd hz_ (nI_nlt (b := 1) h1 (by omega))) (fun _ => ?_)
      refine wp_run rfl ?_
      refine wp_icgt rfl (fun hz_ => absurd hz_ (nI_nlt (a := 99) h2 (by omega))) (fun _ => ?_)
      refine wp_run rfl ?_
      refine wp_iflt rfl (fun hz_ => absurd hz_ (nI_pos (by omega))) (fun _ => ?_)
      refine wp_run rfl ?_
      refine wp_icle rfl (fun _ => ?_) (fun hz_ => absurd (nI_le (b := 1) h3 (by omega)) hz_)
      refine wp_run rfl ?_
      rw [cr_sz hC]
      refine wp_iclt rfl (fun _ => ?_) (fun hz_ => absurd (nI_lt (b := 24) hn (by omega)) hz_)
      refine wp_run rfl ?_
      refine wp_v2 rfl rfl (Nat.le_of_ble_eq_true rfl) (hm) ?_
      refine wp_run rfl ?_
      refine wp_icne rfl (fun hz_ => absurd hz_ (fun z => z rfl)) (fun _ => ?_)
      refine wp_run rfl ?_
      refine wp_s1 rfl (Nat.le_of_ble_eq_true rfl) (x4_bit hlt) ?_
      refine wp_run rfl ?_
      refine wp_putf (h1 := hX (bTn_ (bAdd B (aN A) p v k) (bTn B ||| bi k)) Y sl P G tl) rfl rfl (Nat.le_of_ble_eq_true rfl) ⟨rfl, rfl, fun _ hz_ => by cases hz_⟩ rfl ?_
      refine wp_run rfl ?_
      exact wp_ret rfl rfl ⟨rfl, rfl⟩
    · have e : aFlip (aAdd A p v k false) k = aAdd A p v k (decide (1 = 1)) := by
        have e2 : (fun j => if j = k then !(va_up (aT A) k false j) else va_up (aT A) k false j) = va_up (aT A) k true := by
          funext j
          unfold va_up
          by_cases e : j = k
          · rw [if_pos e, if_pos e, if_pos e]; rfl
          · rw [if_neg e, if_neg e, if_neg e]
        show (_, _, _, _, _, (fun j => if j = k then !(va_up (aT A) k false j) else va_up (aT A) k false j), _) = (_, _, _, _, _, va_up (aT A) k true, _)
        rw [e2]
        rfl
      rw [← e]
      exact hc2
end AX24
end
section
/-! THE CLASS: changes of the board (4): drop, move, swap. -/
/-- the sets without one slug, of the first q -/
def clF (f : Nat → Int32) (k q : Nat) : Nat → Int32 := fun i => if i < q then f i &&& (bi k ^^^ (-1)) else f i
theorem clF_s (f : Nat → Int32) (k q : Nat) : upd (clF f k q) q (f q &&& (bi k ^^^ (-1))) = clF f k (q + 1) := by
  funext i
  rw [upd_up]
  unfold clF
  by_cases e : i = q
  · subst e
    rw [if_pos rfl, if_pos (by omega)]
  · rw [if_neg e]
    by_cases e2 : i < q
    · rw [if_pos e2, if_pos (by omega)]
    · rw [if_neg e2, if_neg (by omega)]
def bDrop (B : axBD) (n p k : Nat) : axBD := (bSt B, bTg B, tkF (bRw B) p n, bWr B, bBt B, clF (bNd B) k 24, bSg B &&& (bi k ^^^ (-1)), bTn B &&& (bi k ^^^ (-1)), nI (n - 1))
section AX25
variable {ro : axRo} {d : Nat} {h h1 : axH} {B : axBD} {Y : axYD} {sl : Nat → Option Nat} {P : axPD} {G : axGD} {tl : axH} {A : axAD}
theorem cr_row (hC : CR B A) {r : Nat → Nat} {f : Nat → Int32} (hf : ∀ i, i < aN A → f i = nI (r i)) (h1 : ∀ i, i < aN A → ∃ j, j < aN A ∧ r i = aR A j) (h2 : ∀ j, j < aN A → ∃ i, i < aN A ∧ r i = aR A j) : CR (bRw_ B f) (aRow A r) := by
  obtain ⟨c1, c2, c3, c4, c5, c6, c9⟩ := hC
  have hin : ∀ k, aIn (aRow A r) k ↔ aIn A k := by
    intro k
    constructor
    · rintro ⟨i, hi, e⟩
      obtain ⟨j, hj, e2⟩ := h1 i hi
      exact ⟨j, hj, e2.symm.trans e⟩
    · rintro ⟨j, hj, e⟩
      obtain ⟨i, hi, e2⟩ := h2 j hj
      exact ⟨i, hi, e2.trans e⟩
  refine ⟨c1, hf, fun i hi => ?_, fun k => (c4 k).trans (hin k).symm, fun k => ?_, c6, c9⟩
  · obtain ⟨j, hj, e⟩ := h1 i hi
    have key : ∀ z, r i = z → bWr B z = nI (aW A z) ∧ bBt B z = nI (aB A z) ∧ bNd B z = aD A z := fun z hz => by rw [← hz, e]; exact c3 j hj
    exact key _ rfl
  · rw [hin k]; exact c5 k
theorem aMove_is (hn : 0 < aN A) {p q i : Nat} (hp : p < aN A) (hq : q < aN A) (hi : i < aN A) : ∃ j, j < aN A ∧ aIns (aDel (aR A) p) q (aR A p) i = aR A j := by
  rcases aIns_is (aDel (aR A) p) (k := aR A p) (n := aN A - 1) (p := q) (i := i) (by omega) (by omega) with ⟨-, e⟩ | ⟨j, hj, e⟩
  · exact ⟨p, hp, e⟩
  · obtain ⟨j2, h1, -, h2⟩ := aDel_is (aR A) hj hp
    exact ⟨j2, h1, e.trans h2⟩
theorem aMove_has (hn : 0 < aN A) {p q j : Nat} (hp : p < aN A) (hq : q < aN A) (hj : j < aN A) : ∃ i, i < aN A ∧ aIns (aDel (aR A) p) q (aR A p) i = aR A j := by
  by_cases e : j = p
  · exact ⟨q, hq, by rw [aIns_at, e]⟩
  · obtain ⟨i, hi, e2⟩ := aDel_has (aR A) hj e hp
    obtain ⟨i2, h1, -, h2⟩ := aIns_has (aDel (aR A) p) (p := q) (k := aR A p) hi (by omega)
    exact ⟨i2, by omega, h2.trans e2⟩
theorem cr_move (hC : CR B A) {p q : Nat} (hp : p < aN A) (hq : q < aN A) : CR (bRw_ B (upd (pnF (tkF (bRw B) p (aN A)) q (aN A - 1)) q (nI (aR A p)))) (aMove A p q) :=
  cr_row hC (fun i hi => pn_row (fun i hi => tk_row (fun i hi => cr_rw hC hi) hi) (by omega) (by omega)) (fun i hi => aMove_is (by omega) hp hq hi) (fun j hj => aMove_has (by omega) hp hq hj)
theorem cr_swp (hC : CR B A) {p q : Nat} (hp : p < aN A) (hq : q < aN A) : CR (bRw_ B (upd (upd (bRw B) p (nI (aR A q))) q (nI (aR A p)))) (aSwp A p q) := by
  refine cr_row hC (fun i hi => ?_) (fun i hi => ?_) (fun j hj => ?_)
  · rw [upd_up, upd_up]
    by_cases e : i = q
    · rw [if_pos e]
      by_cases e2 : i = p
      · rw [if_pos e2, ← e2, e]
      · rw [if_neg e2, if_pos e]
    · rw [if_neg e]
      by_cases e2 : i = p
      · rw [if_pos e2, if_pos e2]
      · rw [if_neg e2, if_neg e2, if_neg e, cr_rw hC hi]
  · show ∃ j, j < aN A ∧ (if i = p then aR A q else if i = q then aR A p else aR A i) = aR A j
    by_cases e2 : i = p
    · exact ⟨q, hq, by rw [if_pos e2]⟩
    · by_cases e : i = q
      · exact ⟨p, hp, by rw [if_neg e2, if_pos e]⟩
      · exact ⟨i, hi, by rw [if_neg e2, if_neg e]⟩
  · show ∃ i, i < aN A ∧ (if i = p then aR A q else if i = q then aR A p else aR A i) = aR A j
    by_cases e2 : j = p
    · exact ⟨q, hq, by
        by_cases e : q = p
        · rw [if_pos e, e2, e]
        · rw [if_neg e, if_pos rfl, e2]⟩
    · by_cases e : j = q
      · exact ⟨p, hp, by rw [if_pos rfl, e]⟩
      · exact ⟨j, hj, by rw [if_neg e2, if_neg e]⟩
theorem cr_drop (hO : aOk A) (hC : CR B A) {p : Nat} (hp : p < aN A) : CR (bDrop B (aN A) p (aR A p)) (aDrop A p) := by
  have hk := hO.r hp
  have inj : ∀ j, j < aN A → j ≠ p → aR A j ≠ aR A p := fun j hj hne e => hne (hO.inj hj hp e)
  have hrow : ∀ {i : Nat}, i < aN A → aR A i < 24 := fun h => hO.r h
  obtain ⟨c1, c2, c3, c4, c5, c6, c9⟩ := hC
  have hin : ∀ k, aIn (aDrop A p) k ↔ (aIn A k ∧ k ≠ aR A p) := by
    intro k
    constructor
    · rintro ⟨i, hi, e⟩
      obtain ⟨j, hj, hjp, e2⟩ := aDel_is (aR A) hi hp
      have e3 : aR A j = k := e2.symm.trans e
      exact ⟨⟨j, hj, e3⟩, by rw [← e3]; exact inj j hj hjp⟩
    · rintro ⟨⟨j, hj, e⟩, hne⟩
      obtain ⟨i, hi, e2⟩ := aDel_has (aR A) hj (fun z => hne (by rw [← e, z])) hp
      exact ⟨i, hi, e2.trans e⟩
  refine ⟨rfl, fun i hi => tk_row c2 hi, fun i hi => ?_, fun k => ?_, fun k => ?_, c6, c9⟩
  · obtain ⟨j, hj, hjp, e2⟩ := aDel_is (aR A) hi hp
    have key : ∀ z, aDel (aR A) p i = z → bWr B z = nI (aW A z) ∧ bBt B z = nI (aB A z) ∧ clF (bNd B) (aR A p) 24 z = aD A z &&& (bi (aR A p) ^^^ (-1)) := by
      intro z hz
      rw [← hz, e2]
      refine ⟨(c3 j hj).1, (c3 j hj).2.1, ?_⟩
      unfold clF
      rw [if_pos (hrow hj), (c3 j hj).2.2]
    exact key _ rfl
  · rw [hin k, ← c4 k]
    show bt (bSg B &&& (bi (aR A p) ^^^ (-1))) k = true ↔ _
    rw [bt_clr (by omega)]
    by_cases e : k = aR A p <;> simp [e]
  · rw [hin k]
    show bt (bTn B &&& (bi (aR A p) ^^^ (-1))) k = true ↔ (_ ∧ aT A k = true)
    rw [bt_clr (by omega), Bool.and_eq_true, c5 k]
    by_cases e : k = aR A p <;> simp [e]
theorem x0_dropSlug_out (hC : CR B A) {x : Int32} (hx : ∀ i, i < aN A → x ≠ nI (aR A i)) : axEv ro (d + 3) kX0_dropSlug [.ref 1, .int x] (hX B Y sl P G tl) (some (.int (-1))) (hX B Y sl P G tl) := by
  refine ev_in rfl rfl (Nat.le_of_ble_eq_true rfl) rfl ?_
  refine wp_run rfl ?_
  refine wp_v1 rfl rfl (Nat.le_of_ble_eq_true rfl) (x0_has_out hC hx) ?_
  refine wp_run rfl ?_
  refine wp_ifne rfl (fun hz_ => absurd hz_ (fun z => z rfl)) (fun _ => ?_)
  refine wp_run rfl ?_
  exact wp_ret rfl rfl ⟨rfl, rfl⟩
theorem x0_dropSlug_in (hO : aOk A) (hC : CR B A) {p : Nat} (hp : p < aN A) : axEv ro (d + 3) kX0_dropSlug [.ref 1, .int (nI (aR A p))] (hX B Y sl P G tl) (some (.int (nI (aN A - 1)))) (hX (bDrop B (aN A) p (aR A p)) Y sl P G tl) := by
  have hn := hO.n
  have hk := hO.r hp
  have hz := cr_sz hC
  have hhas := x0_has_in (ro := ro) (d := d) (Y := Y) (sl := sl) (P := P) (G := G) (tl := tl) hO hC hp
  have hpl := x0_placeOf (ro := ro) (d := d) (Y := Y) (sl := sl) (P := P) (G := G) (tl := tl) hO hC hp
  generalize aR A p = k at *
  have loop : ∀ m q, q + m = 24 → axW ro (axEv ro (d + 2)) cdX0_dropSlug 57 [some (.ref 1), some (.int (nI k)), some (.int (nI q))] [.int 24, .int (nI q)] (hX ((bSt B, bTg B, tkF (bRw B) p (aN A), bWr B, bBt B, clF (bNd B) k q, bSg B &&& (bi k ^^^ (-1)), bTn B &&& (bi k ^^^ (-1)), nI (aN A - 1))) Y sl P G tl) (fun r' h' => r' = some (.int (nI (aN A - 1))) ∧ h' = hX (bDrop B (aN A) p k) Y sl P G tl) := by
    intro m
    induction m with
    | zero =>
      intro q e
      have e : q = 24 := by omega
      subst e
      refine wp_icge rfl (fun _ => ?_) (fun hz_ => absurd ((by decide : (24 : Int32) ≤ nI 24)) hz_)
      refine wp_run rfl ?_
      exact wp_ret rfl rfl ⟨rfl, rfl⟩
    | succ m ih =>
      intro q e
      refine wp_icge rfl (fun hz_ => absurd hz_ (nlt24 (show q < 24 by omega))) (fun _ => ?_)
      refine wp_run rfl ?_
      refine wp_ald rfl rfl (vp_in_nI ((show q < 24 by omega)) (by decide)) (by rw [nI_clamp (by omega)]) ?_
      refine wp_run rfl ?_
      rw [show bNd (bSt B, bTg B, tkF (bRw B) p (aN A), bWr B, bBt B, clF (bNd B) k q, bSg B &&& (bi k ^^^ (-1)), bTn B &&& (bi k ^^^ (-1)), nI (aN A - 1)) q = bNd B q from if_neg (by omega)]
      refine wp_s1 rfl (Nat.le_of_ble_eq_true rfl) (x4_bit hk) ?_
      refine wp_run rfl ?_
      refine wp_ast (h1 := hX ((bSt B, bTg B, tkF (bRw B) p (aN A), bWr B, bBt B, upd (clF (bNd B) k q) q (bNd B q &&& (bi k ^^^ (-1))), bSg B &&& (bi k ^^^ (-1)), bTn B &&& (bi k ^^^ (-1)), nI (aN A - 1))) Y sl P G tl) rfl rfl (vp_in_nI (show q < 24 by omega) (by decide)) rfl (by rw [nI_clamp (by omega)]; rfl) ?_
      refine wp_run rfl ?_
      rw [clF_s, nI_1]
      exact ih (q + 1) (by omega)
  refine ev_in rfl rfl (Nat.le_of_ble_eq_true rfl) rfl ?_
  refine wp_run rfl ?_
  refine wp_v1 rfl rfl (Nat.le_of_ble_eq_true rfl) (hhas) ?_
  refine wp_run rfl ?_
  refine wp_ifne rfl (fun _ => ?_) (fun hz_ => absurd ((by decide : ¬ (1 : Int32) = 0)) hz_)
  refine wp_run rfl ?_
  refine wp_v1 rfl rfl (Nat.le_of_ble_eq_true rfl) (hpl) ?_
  refine wp_run rfl ?_
  refine wp_v1v rfl rfl (Nat.le_of_ble_eq_true rfl) (x0_takeOut hz hn hp) ?_
  refine wp_run rfl ?_
  refine wp_s1 rfl (Nat.le_of_ble_eq_true rfl) (x4_bit hk) ?_
  refine wp_run rfl ?_
  refine wp_putf (h1 := hX ((bSt B, bTg B, tkF (bRw B) p (aN A), bWr B, bBt B, bNd B, bSg B &&& (bi k ^^^ (-1)), bTn B, nI (aN A - 1))) Y sl P G tl) rfl rfl (Nat.le_of_ble_eq_true rfl) ⟨rfl, rfl, fun _ hz_ => by cases hz_⟩ rfl ?_
  refine wp_run rfl ?_
  refine wp_s1 rfl (Nat.le_of_ble_eq_true rfl) (x4_bit hk) ?_
  refine wp_run rfl ?_
  refine wp_putf (h1 := hX ((bSt B, bTg B, tkF (bRw B) p (aN A), bWr B, bBt B, bNd B, bSg B &&& (bi k ^^^ (-1)), bTn B &&& (bi k ^^^ (-1)), nI (aN A - 1))) Y sl P G tl) rfl rfl (Nat.le_of_ble_eq_true rfl) ⟨rfl, rfl, fun _ hz_ => by cases hz_⟩ rfl ?_
  refine wp_run rfl ?_
  have := loop 24 0 (by omega)
  rw [show clF (bNd B) k 0 = bNd B from rfl] at this
  exact this
theorem x0_moveSlug_ns1 (hC : CR B A) {x y : Int32} (hx : ∀ i, i < aN A → x ≠ nI (aR A i)) : axEv ro (d + 5) kX0_moveSlug [.ref 1, .int x, .int y] (hX B Y sl P G tl) (some (.int (-1))) (hX B Y sl P G tl) := by
  refine ev_in rfl rfl (Nat.le_of_ble_eq_true rfl) rfl ?_
  refine wp_run rfl ?_
  refine wp_v1 rfl rfl (Nat.le_of_ble_eq_true rfl) (x0_has_out hC hx) ?_
  refine wp_run rfl ?_
  refine wp_ifeq rfl (fun _ => ?_) (fun hz_ => absurd (rfl) hz_)
  refine wp_run rfl ?_
  exact wp_ret rfl rfl ⟨rfl, rfl⟩
theorem x0_moveSlug_ns2 (hO : aOk A) (hC : CR B A) {p : Nat} (hp : p < aN A) {y : Int32} (hy : y < 0 ∨ nI (aN A) ≤ y) : axEv ro (d + 5) kX0_moveSlug [.ref 1, .int (nI (aR A p)), .int y] (hX B Y sl P G tl) (some (.int (-1))) (hX B Y sl P G tl) := by
  refine ev_in rfl rfl (Nat.le_of_ble_eq_true rfl) rfl ?_
  refine wp_run rfl ?_
  refine wp_v1 rfl rfl (Nat.le_of_ble_eq_true rfl) (x0_has_in hO hC hp) ?_
  refine wp_run rfl ?_
  refine wp_ifeq rfl (fun hz_ => absurd hz_ ((by decide : ¬ (1 : Int32) = 0))) (fun _ => ?_)
  refine wp_run rfl ?_
  refine wp_iflt rfl (fun q => ?_) (fun q => ?_)
  · refine wp_run rfl ?_
    exact wp_ret rfl rfl ⟨rfl, rfl⟩
  · refine wp_run rfl ?_
    rw [cr_sz hC]
    refine wp_iclt rfl (fun hz_ => absurd hz_ (fun z => hy.elim q (fun w => absurd w (Int32.not_le.mpr z)))) (fun _ => ?_)
    refine wp_run rfl ?_
    exact wp_ret rfl rfl ⟨rfl, rfl⟩
theorem x0_moveSlug_np (hO : aOk A) (hC : CR B A) {p q : Nat} (hp : p < aN A) (hq : q < aN A) (hm : ¬ (aLo A p ≤ q ∧ q < aHi A p)) : axEv ro (d + 5) kX0_moveSlug [.ref 1, .int (nI (aR A p)), .int (nI q)] (hX B Y sl P G tl) (some (.int (-5))) (hX B Y sl P G tl) := by
  have hn := hO.n
  refine ev_in rfl rfl (Nat.le_of_ble_eq_true rfl) rfl ?_
  refine wp_run rfl ?_
  refine wp_v1 rfl rfl (Nat.le_of_ble_eq_true rfl) (x0_has_in hO hC hp) ?_
  refine wp_run rfl ?_
  refine wp_ifeq rfl (fun hz_ => absurd hz_ ((by decide : ¬ (1 : Int32) = 0))) (fun _ => ?_)
  refine wp_run rfl ?_
  refine wp_iflt rfl (fun hz_ => absurd hz_ (nI_pos (by omega))) (fun _ => ?_)
  refine wp_run rfl ?_
  rw [cr_sz hC]
  refine wp_iclt rfl (fun _ => ?_) (fun hz_ => absurd (nI_lt hq (by omega)) hz_)
  refine wp_run rfl ?_
  refine wp_v2 rfl rfl (Nat.le_of_ble_eq_true rfl) (x0_mayStandIn hO hC hp hq) ?_
  refine wp_run rfl ?_
  rw [if_neg hm]
  refine wp_ifne rfl (fun hz_ => absurd hz_ (fun z => z rfl)) (fun _ => ?_)
  refine wp_run rfl ?_
  exact wp_ret rfl rfl ⟨rfl, rfl⟩
theorem x0_moveSlug_ok (hO : aOk A) (hC : CR B A) {p q : Nat} (hp : p < aN A) (hq : q < aN A) (hm : aLo A p ≤ q ∧ q < aHi A p) : axEv ro (d + 5) kX0_moveSlug [.ref 1, .int (nI (aR A p)), .int (nI q)] (hX B Y sl P G tl) (some (.int (nI p))) (hX (bSz_ (bRw_ B (upd (pnF (tkF (bRw B) p (aN A)) q (aN A - 1)) q (nI (aR A p)))) (nI (aN A - 1 + 1))) Y sl P G tl) := by
  have hn := hO.n
  have hz := cr_sz hC
  refine ev_in rfl rfl (Nat.le_of_ble_eq_true rfl) rfl ?_
  refine wp_run rfl ?_
  refine wp_v1 rfl rfl (Nat.le_of_ble_eq_true rfl) (x0_has_in hO hC hp) ?_
  refine wp_run rfl ?_
  refine wp_ifeq rfl (fun hz_ => absurd hz_ ((by decide : ¬ (1 : Int32) = 0))) (fun _ => ?_)
  refine wp_run rfl ?_
  refine wp_iflt rfl (fun hz_ => absurd hz_ (nI_pos (by omega))) (fun _ => ?_)
  refine wp_run rfl ?_
  rw [cr_sz hC]
  refine wp_iclt rfl (fun _ => ?_) (fun hz_ => absurd (nI_lt hq (by omega)) hz_)
  refine wp_run rfl ?_
  refine wp_v2 rfl rfl (Nat.le_of_ble_eq_true rfl) (x0_mayStandIn hO hC hp hq) ?_
  refine wp_run rfl ?_
  rw [if_pos hm]
  refine wp_ifne rfl (fun _ => ?_) (fun hz_ => absurd ((by decide : ¬ (1 : Int32) = 0)) hz_)
  refine wp_run rfl ?_
  refine wp_v1 rfl rfl (Nat.le_of_ble_eq_true rfl) (x0_placeOf hO hC hp) ?_
  refine wp_run rfl ?_
  refine wp_v1v rfl rfl (Nat.le_of_ble_eq_true rfl) (x0_takeOut hz hn hp) ?_
  refine wp_run rfl ?_
  refine wp_v2v rfl rfl (Nat.le_of_ble_eq_true rfl) (x0_putIn (n := aN A - 1) (B := bSz_ (bRw_ B (tkF (bRw B) p (aN A))) (nI (aN A - 1))) rfl (by omega) (by omega)) ?_
  refine wp_run rfl ?_
  exact wp_ret rfl rfl ⟨rfl, rfl⟩
theorem cr_szs (hC : CR B A) {f : Nat → Int32} {A' : axAD} (hn : 0 < aN A) (h : CR (bRw_ B f) A') : CR (bSz_ (bRw_ B f) (nI (aN A - 1 + 1))) A' := by
  rw [show aN A - 1 + 1 = aN A by omega, ← cr_sz hC]
  exact h
theorem x0_swapSlugs_ns1 (hC : CR B A) {x y : Int32} (hx : ∀ i, i < aN A → x ≠ nI (aR A i)) : axEv ro (d + 5) kX0_swapSlugs [.ref 1, .int x, .int y] (hX B Y sl P G tl) (some (.int (-1))) (hX B Y sl P G tl) := by
  refine ev_in rfl rfl (Nat.le_of_ble_eq_true rfl) rfl ?_
  refine wp_run rfl ?_
  refine wp_v1 rfl rfl (Nat.le_of_ble_eq_true rfl) (x0_has_out hC hx) ?_
  refine wp_run rfl ?_
  refine wp_ifeq rfl (fun _ => ?_) (fun hz_ => absurd (rfl) hz_)
  refine wp_run rfl ?_
  exact wp_ret rfl rfl ⟨rfl, rfl⟩
theorem x0_swapSlugs_ns2 (hO : aOk A) (hC : CR B A) {p : Nat} (hp : p < aN A) {y : Int32} (hy : ∀ i, i < aN A → y ≠ nI (aR A i)) : axEv ro (d + 5) kX0_swapSlugs [.ref 1, .int (nI (aR A p)), .int y] (hX B Y sl P G tl) (some (.int (-1))) (hX B Y sl P G tl) := by
  refine ev_in rfl rfl (Nat.le_of_ble_eq_true rfl) rfl ?_
  refine wp_run rfl ?_
  refine wp_v1 rfl rfl (Nat.le_of_ble_eq_true rfl) (x0_has_in hO hC hp) ?_
  refine wp_run rfl ?_
  refine wp_ifeq rfl (fun hz_ => absurd hz_ ((by decide : ¬ (1 : Int32) = 0))) (fun _ => ?_)
  refine wp_run rfl ?_
  refine wp_v1 rfl rfl (Nat.le_of_ble_eq_true rfl) (x0_has_out hC hy) ?_
  refine wp_run rfl ?_
  refine wp_ifne rfl (fun hz_ => absurd hz_ (fun z => z rfl)) (fun _ => ?_)
  refine wp_run rfl ?_
  exact wp_ret rfl rfl ⟨rfl, rfl⟩
theorem x0_swapSlugs_bv (hO : aOk A) (hC : CR B A) {p : Nat} (hp : p < aN A) : axEv ro (d + 5) kX0_swapSlugs [.ref 1, .int (nI (aR A p)), .int (nI (aR A p))] (hX B Y sl P G tl) (some (.int (-2))) (hX B Y sl P G tl) := by
  refine ev_in rfl rfl (Nat.le_of_ble_eq_true rfl) rfl ?_
  refine wp_run rfl ?_
  refine wp_v1 rfl rfl (Nat.le_of_ble_eq_true rfl) (x0_has_in hO hC hp) ?_
  refine wp_run rfl ?_
  refine wp_ifeq rfl (fun hz_ => absurd hz_ ((by decide : ¬ (1 : Int32) = 0))) (fun _ => ?_)
  refine wp_run rfl ?_
  refine wp_v1 rfl rfl (Nat.le_of_ble_eq_true rfl) (x0_has_in hO hC hp) ?_
  refine wp_run rfl ?_
  refine wp_ifne rfl (fun _ => ?_) (fun hz_ => absurd ((by decide : ¬ (1 : Int32) = 0)) hz_)
  refine wp_run rfl ?_
  refine wp_icne rfl (fun hz_ => absurd hz_ (fun z => z rfl)) (fun _ => ?_)
  refine wp_run rfl ?_
  exact wp_ret rfl rfl ⟨rfl, rfl⟩
/-- may two slugs be swapped -/
def aMay (A : axAD) (p q : Nat) : Prop := (aLo A p ≤ q ∧ q < aHi A p) ∧ (aLo A q ≤ p ∧ p < aHi A q)
theorem x0_swapSlugs_np (hO : aOk A) (hC : CR B A) {p q : Nat} (hp : p < aN A) (hq : q < aN A) (hpq : p ≠ q) (hm : ¬ aMay A p q) : axEv ro (d + 5) kX0_swapSlugs [.ref 1, .int (nI (aR A p)), .int (nI (aR A q))] (hX B Y sl P G tl) (some (.int (-5))) (hX B Y sl P G tl) := by
  refine ev_in rfl rfl (Nat.le_of_ble_eq_true rfl) rfl ?_
  refine wp_run rfl ?_
  refine wp_v1 rfl rfl (Nat.le_of_ble_eq_true rfl) (x0_has_in hO hC hp) ?_
  refine wp_run rfl ?_
  refine wp_ifeq rfl (fun hz_ => absurd hz_ ((by decide : ¬ (1 : Int32) = 0))) (fun _ => ?_)
  refine wp_run rfl ?_
  refine wp_v1 rfl rfl (Nat.le_of_ble_eq_true rfl) (x0_has_in hO hC hq) ?_
  refine wp_run rfl ?_
  refine wp_ifne rfl (fun _ => ?_) (fun hz_ => absurd ((by decide : ¬ (1 : Int32) = 0)) hz_)
  refine wp_run rfl ?_
  refine wp_icne rfl (fun _ => ?_) (fun hz_ => absurd (aR_ne hO hp hq hpq) hz_)
  refine wp_run rfl ?_
  refine wp_v1 rfl rfl (Nat.le_of_ble_eq_true rfl) (x0_placeOf hO hC hp) ?_
  refine wp_run rfl ?_
  refine wp_v1 rfl rfl (Nat.le_of_ble_eq_true rfl) (x0_placeOf hO hC hq) ?_
  refine wp_run rfl ?_
  refine wp_v2 rfl rfl (Nat.le_of_ble_eq_true rfl) (x0_mayStandIn hO hC hp hq) ?_
  refine wp_run rfl ?_
  by_cases h1 : aLo A p ≤ q ∧ q < aHi A p
  · rw [if_pos h1]
    refine wp_ifeq rfl (fun hz_ => absurd hz_ ((by decide : ¬ (1 : Int32) = 0))) (fun _ => ?_)
    refine wp_run rfl ?_
    refine wp_v2 rfl rfl (Nat.le_of_ble_eq_true rfl) (x0_mayStandIn hO hC hq hp) ?_
    refine wp_run rfl ?_
    rw [if_neg (fun z => hm ⟨h1, z⟩)]
    refine wp_ifne rfl (fun hz_ => absurd hz_ (fun z => z rfl)) (fun _ => ?_)
    refine wp_run rfl ?_
    exact wp_ret rfl rfl ⟨rfl, rfl⟩
  · rw [if_neg h1]
    refine wp_ifeq rfl (fun _ => ?_) (fun hz_ => absurd (rfl) hz_)
    refine wp_run rfl ?_
    exact wp_ret rfl rfl ⟨rfl, rfl⟩
theorem x0_swapSlugs_ok (hO : aOk A) (hC : CR B A) {p q : Nat} (hp : p < aN A) (hq : q < aN A) (hpq : p ≠ q) (hm : aMay A p q) : axEv ro (d + 5) kX0_swapSlugs [.ref 1, .int (nI (aR A p)), .int (nI (aR A q))] (hX B Y sl P G tl) (some (.int (nI (((p : Int) - q).natAbs - 1)))) (hX (bRw_ B (upd (upd (bRw B) p (nI (aR A q))) q (nI (aR A p)))) Y sl P G tl) := by
  have hn := hO.n
  refine ev_in rfl rfl (Nat.le_of_ble_eq_true rfl) rfl ?_
  refine wp_run rfl ?_
  refine wp_v1 rfl rfl (Nat.le_of_ble_eq_true rfl) (x0_has_in hO hC hp) ?_
  refine wp_run rfl ?_
  refine wp_ifeq rfl (fun hz_ => absurd hz_ ((by decide : ¬ (1 : Int32) = 0))) (fun _ => ?_)
  refine wp_run rfl ?_
  refine wp_v1 rfl rfl (Nat.le_of_ble_eq_true rfl) (x0_has_in hO hC hq) ?_
  refine wp_run rfl ?_
  refine wp_ifne rfl (fun _ => ?_) (fun hz_ => absurd ((by decide : ¬ (1 : Int32) = 0)) hz_)
  refine wp_run rfl ?_
  refine wp_icne rfl (fun _ => ?_) (fun hz_ => absurd (aR_ne hO hp hq hpq) hz_)
  refine wp_run rfl ?_
  refine wp_v1 rfl rfl (Nat.le_of_ble_eq_true rfl) (x0_placeOf hO hC hp) ?_
  refine wp_run rfl ?_
  refine wp_v1 rfl rfl (Nat.le_of_ble_eq_true rfl) (x0_placeOf hO hC hq) ?_
  refine wp_run rfl ?_
  refine wp_v2 rfl rfl (Nat.le_of_ble_eq_true rfl) (x0_mayStandIn hO hC hp hq) ?_
  refine wp_run rfl ?_
  rw [if_pos hm.1]
  refine wp_ifeq rfl (fun hz_ => absurd hz_ ((by decide : ¬ (1 : Int32) = 0))) (fun _ => ?_)
  refine wp_run rfl ?_
  refine wp_v2 rfl rfl (Nat.le_of_ble_eq_true rfl) (x0_mayStandIn hO hC hq hp) ?_
  refine wp_run rfl ?_
  rw [if_pos hm.2]
  refine wp_ifne rfl (fun _ => ?_) (fun hz_ => absurd ((by decide : ¬ (1 : Int32) = 0)) hz_)
  refine wp_run rfl ?_
  refine wp_s3v rfl (Nat.le_of_ble_eq_true rfl) (x4_store (h1 := hX (bRw_ B (upd (bRw B) p (nI (aR A q)))) Y sl P G tl) rfl (show p < 24 by omega) (by decide) rfl) ?_
  refine wp_run rfl ?_
  refine wp_s3v rfl (Nat.le_of_ble_eq_true rfl) (x4_store (h1 := hX (bRw_ B (upd (upd (bRw B) p (nI (aR A q))) q (nI (aR A p)))) Y sl P G tl) rfl (show q < 24 by omega) (by decide) rfl) ?_
  refine wp_run rfl ?_
  rw [show nI p - nI q = zI ((p : Int) - q) by rw [← zI_nI, ← zI_nI, zI_sub]]
  refine wp_abs rfl (Nat.le_of_ble_eq_true rfl) ((zI_abs (by omega) (by omega))) ?_
  refine wp_run rfl ?_
  rw [nI_p1 (by omega)]
  exact wp_ret rfl rfl ⟨rfl, rfl⟩
end AX25
end
section
/-! THE CLASS: changes of the board (5): split, fit. -/
def aWrs (A : axAD) (k v : Nat) : axAD := (aN A, aR A, va_up (aW A) k v, aB A, aD A, aT A, aPg A, aSl A, aTr A, aTg A)
def aNdF (A : axAD) (g : Nat → Int32) : axAD := (aN A, aR A, aW A, aB A, g, aT A, aPg A, aSl A, aTr A, aTg A)
/-- the sets in which the slug k is, of the first q, with the slug z too -/
def hoF (f : Nat → Int32) (k z q : Nat) : Nat → Int32 := fun i => if i < q ∧ bt (f i) k = true then f i ||| bi z else f i
theorem hoF_s (f : Nat → Int32) (k z q : Nat) : (bt (f q) k = true → upd (hoF f k z q) q (f q ||| bi z) = hoF f k z (q + 1)) ∧ (bt (f q) k = false → hoF f k z q = hoF f k z (q + 1)) := by
  constructor
  · intro h
    funext i
    rw [upd_up]
    unfold hoF
    by_cases e : i = q
    · subst e
      rw [if_pos rfl, if_pos ⟨by omega, h⟩]
    · rw [if_neg e]
      by_cases e2 : i < q ∧ bt (f i) k = true
      · rw [if_pos e2, if_pos ⟨by omega, e2.2⟩]
      · rw [if_neg e2, if_neg (fun w => e2 ⟨by omega, w.2⟩)]
  · intro h
    funext i
    unfold hoF
    by_cases e2 : i < q ∧ bt (f i) k = true
    · rw [if_pos e2, if_pos ⟨by omega, e2.2⟩]
    · rw [if_neg e2, if_neg (fun w => e2 ⟨by
        by_cases e : i = q
        · subst e; rw [h] at w; cases w.2
        · omega, w.2⟩)]
section AX26
variable {ro : axRo} {d : Nat} {h h1 : axH} {B : axBD} {Y : axYD} {sl : Nat → Option Nat} {P : axPD} {G : axGD} {tl : axH} {A : axAD}
theorem cr_wrs (hC : CR B A) {k v : Nat} : CR (bWr_ B (upd (bWr B) k (nI v))) (aWrs A k v) := by
  obtain ⟨c1, c2, c3, c4, c5, c6, c9⟩ := hC
  refine ⟨c1, c2, fun j hj => ⟨?_, (c3 j hj).2⟩, c4, c5, c6, c9⟩
  show upd (bWr B) k (nI v) (aR A j) = nI (va_up (aW A) k v (aR A j))
  rw [upd_up]
  unfold va_up
  by_cases e : aR A j = k
  · rw [if_pos e, if_pos e]
  · rw [if_neg e, if_neg e]
    exact (c3 j hj).1
theorem cr_ndF (hC : CR B A) {f g : Nat → Int32} (h : ∀ i, i < aN A → f (aR A i) = g (aR A i)) : CR (bNd_ B f) (aNdF A g) := by
  obtain ⟨c1, c2, c3, c4, c5, c6, c9⟩ := hC
  exact ⟨c1, c2, fun j hj => ⟨(c3 j hj).1, (c3 j hj).2.1, h j hj⟩, c4, c5, c6, c9⟩
theorem cr_turnOff (hC : CR B A) {k : Nat} (hk : k < 24) (hf : aT A k = true) : CR (bTn_ B (bTn B &&& (bi k ^^^ (-1)))) (aFlip A k) := by
  obtain ⟨c1, c2, c3, c4, c5, c6, c9⟩ := hC
  refine ⟨c1, c2, c3, c4, fun j => ?_, c6, c9⟩
  show bt (bTn B &&& (bi k ^^^ (-1))) j = true ↔ (aIn A j ∧ (if j = k then !aT A j else aT A j) = true)
  rw [bt_clr (by omega), Bool.and_eq_true, c5 j]
  by_cases e : j = k
  · subst e
    rw [if_pos rfl, hf]
    simp
  · rw [if_neg e]
    simp [e]
theorem x0_isTurn0 {k : Nat} (hk : k < 24) : axEv ro (d + 2) kX0_isTurn [.ref 1, .int (nI k)] (hX B Y sl P G tl) (some (.int (if bt (bTn B) k = true then 1 else 0))) (hX B Y sl P G tl) := by
  refine ev_in rfl rfl (Nat.le_of_ble_eq_true rfl) rfl ?_
  refine wp_run rfl ?_
  refine wp_s2 rfl (Nat.le_of_ble_eq_true rfl) (x4_contains_in hk) ?_
  refine wp_run rfl ?_
  by_cases h : bt (bTn B) k = true
  · rw [if_pos h]
    exact wp_ret rfl rfl ⟨rfl, rfl⟩
  · rw [if_neg h]
    exact wp_ret rfl rfl ⟨rfl, rfl⟩
theorem x0_handOverNeeds {k z : Nat} (hk : k < 24) (hz : z < 24) : axEv ro (d + 2) kX0_handOverNeeds [.ref 1, .int (nI k), .int (nI z)] (hX B Y sl P G tl) none (hX (bNd_ B (upd (hoF (bNd B) k z 24) z (bi k))) Y sl P G tl) := by
  have loop : ∀ m q, q + m = 24 → axW ro (axEv ro (d + 1)) cdX0_handOverNeeds 8 [some (.ref 1), some (.int (nI k)), some (.int (nI z)), some (.int (nI q))] [.int 24, .int (nI q)] (hX (bNd_ B (hoF (bNd B) k z q)) Y sl P G tl) (fun r' h' => r' = none ∧ h' = hX (bNd_ B (upd (hoF (bNd B) k z 24) z (bi k))) Y sl P G tl) := by
    intro m
    induction m with
    | zero =>
      intro q e
      have e : q = 24 := by omega
      subst e
      refine wp_icge rfl (fun _ => ?_) (fun hz_ => absurd ((by decide : (24 : Int32) ≤ nI 24)) hz_)
      refine wp_run rfl ?_
      refine wp_s1 rfl (Nat.le_of_ble_eq_true rfl) (x4_bit hk) ?_
      refine wp_run rfl ?_
      refine wp_s3v rfl (Nat.le_of_ble_eq_true rfl) (x4_store (h1 := hX (bNd_ B (upd (hoF (bNd B) k z 24) z (bi k))) Y sl P G tl) rfl hz (by decide) rfl) ?_
      refine wp_run rfl ?_
      exact wp_retv rfl ⟨rfl, rfl⟩
    | succ m ih =>
      intro q e
      have hq : q < 24 := by omega
      have eq : bNd (bNd_ B (hoF (bNd B) k z q)) q = bNd B q := if_neg (fun w => by omega)
      refine wp_icge rfl (fun hz_ => absurd hz_ (nlt24 hq)) (fun _ => ?_)
      refine wp_run rfl ?_
      refine wp_ald rfl rfl (vp_in_nI (hq) (by decide)) (by rw [nI_clamp (by omega)]) ?_
      refine wp_run rfl ?_
      rw [eq]
      refine wp_s2 rfl (Nat.le_of_ble_eq_true rfl) (x4_contains_in hk) ?_
      refine wp_run rfl ?_
      by_cases hb : bt (bNd B q) k = true
      · rw [if_pos hb]
        refine wp_ifeq rfl (fun hz_ => absurd hz_ ((by decide : ¬ (1 : Int32) = 0))) (fun _ => ?_)
        refine wp_run rfl ?_
        refine wp_ald rfl rfl (vp_in_nI (hq) (by decide)) (by rw [nI_clamp (by omega)]) ?_
        refine wp_run rfl ?_
        rw [eq]
        refine wp_s1 rfl (Nat.le_of_ble_eq_true rfl) (x4_bit hz) ?_
        refine wp_run rfl ?_
        refine wp_ast (h1 := hX (bNd_ B (upd (hoF (bNd B) k z q) q (bNd B q ||| bi z))) Y sl P G tl) rfl rfl (vp_in_nI (hq) (by decide)) rfl (by rw [nI_clamp (by omega)]; rfl) ?_
        refine wp_run rfl ?_
        rw [(hoF_s (bNd B) k z q).1 hb, nI_1]
        exact ih (q + 1) (by omega)
      · rw [if_neg hb]
        refine wp_ifeq rfl (fun _ => ?_) (fun hz_ => absurd (rfl) hz_)
        refine wp_run rfl ?_
        rw [(hoF_s (bNd B) k z q).2 (by simpa using hb), nI_1]
        exact ih (q + 1) (by omega)
  refine ev_in rfl rfl (Nat.le_of_ble_eq_true rfl) rfl ?_
  refine wp_run rfl ?_
  exact loop 24 0 (by omega)
theorem x0_handOverTurn_no {k z : Nat} (hk : k < 24) (hb : bt (bTn B) k = false) : axEv ro (d + 3) kX0_handOverTurn [.ref 1, .int (nI k), .int (nI z)] (hX B Y sl P G tl) none (hX B Y sl P G tl) := by
  refine ev_in rfl rfl (Nat.le_of_ble_eq_true rfl) rfl ?_
  refine wp_run rfl ?_
  refine wp_v1 rfl rfl (Nat.le_of_ble_eq_true rfl) (x0_isTurn0 hk) ?_
  refine wp_run rfl ?_
  rw [if_neg (by rw [hb]; decide)]
  refine wp_ifeq rfl (fun _ => ?_) (fun hz_ => absurd (rfl) hz_)
  refine wp_run rfl ?_
  exact wp_retv rfl ⟨rfl, rfl⟩
theorem x0_handOverTurn_yes {k z : Nat} (hk : k < 24) (hz : z < 24) (hb : bt (bTn B) k = true) : axEv ro (d + 3) kX0_handOverTurn [.ref 1, .int (nI k), .int (nI z)] (hX B Y sl P G tl) none (hX (bTn_ B ((bTn B &&& (bi k ^^^ (-1))) ||| bi z)) Y sl P G tl) := by
  refine ev_in rfl rfl (Nat.le_of_ble_eq_true rfl) rfl ?_
  refine wp_run rfl ?_
  refine wp_v1 rfl rfl (Nat.le_of_ble_eq_true rfl) (x0_isTurn0 hk) ?_
  refine wp_run rfl ?_
  rw [if_pos hb]
  refine wp_ifeq rfl (fun hz_ => absurd hz_ ((by decide : ¬ (1 : Int32) = 0))) (fun _ => ?_)
  refine wp_run rfl ?_
  refine wp_s1 rfl (Nat.le_of_ble_eq_true rfl) (x4_bit hk) ?_
  refine wp_run rfl ?_
  refine wp_putf (h1 := hX (bTn_ B (bTn B &&& (bi k ^^^ (-1)))) Y sl P G tl) rfl rfl (Nat.le_of_ble_eq_true rfl) ⟨rfl, rfl, fun _ hz_ => by cases hz_⟩ rfl ?_
  refine wp_run rfl ?_
  refine wp_s1 rfl (Nat.le_of_ble_eq_true rfl) (x4_bit hz) ?_
  refine wp_run rfl ?_
  refine wp_putf (h1 := hX (bTn_ B ((bTn B &&& (bi k ^^^ (-1))) ||| bi z)) Y sl P G tl) rfl rfl (Nat.le_of_ble_eq_true rfl) ⟨rfl, rfl, fun _ hz_ => by cases hz_⟩ rfl ?_
  refine wp_run rfl ?_
  exact wp_retv rfl ⟨rfl, rfl⟩
/-- the slug in place p split at a beat, z the new one's number -/
def aSplN (A : axAD) (k z : Nat) : Nat → Int32 := fun j => if j = z then bi k else if bt (aD A j) k = true then aD A j ||| bi z else aD A j
def aSpl0 (A : axAD) (p v k z : Nat) : axAD := aNdF (aBts (aWrs (aBts (aAdd A (p + 1) (aW A k - v) z false) z (aB A k - v)) k v) k v) (aSplN A k z)
def aSplit (A : axAD) (p v k z : Nat) : axAD := if aT A k = true then aFlip (aFlip (aSpl0 A p v k z) k) z else aSpl0 A p v k z
theorem x0_splitSlug_ns (hC : CR B A) {x y : Int32} (hx : ∀ i, i < aN A → x ≠ nI (aR A i)) : axEv ro (d + 4) kX0_splitSlug [.ref 1, .int x, .int y] (hX B Y sl P G tl) (some (.int (-1))) (hX B Y sl P G tl) := by
  refine ev_in rfl rfl (Nat.le_of_ble_eq_true rfl) rfl ?_
  refine wp_run rfl ?_
  refine wp_v1 rfl rfl (Nat.le_of_ble_eq_true rfl) (x0_has_out hC hx) ?_
  refine wp_run rfl ?_
  refine wp_ifne rfl (fun hz_ => absurd hz_ (fun z => z rfl)) (fun _ => ?_)
  refine wp_run rfl ?_
  exact wp_ret rfl rfl ⟨rfl, rfl⟩
theorem x0_splitSlug_bv (hO : aOk A) (hC : CR B A) {i : Nat} (hi : i < aN A) {y : Int32} (hy : y < nI 1 ∨ ¬ y ≤ nI 98) : axEv ro (d + 4) kX0_splitSlug [.ref 1, .int (nI (aR A i)), .int y] (hX B Y sl P G tl) (some (.int (-2))) (hX B Y sl P G tl) := by
  refine ev_in rfl rfl (Nat.le_of_ble_eq_true rfl) rfl ?_
  refine wp_run rfl ?_
  refine wp_v1 rfl rfl (Nat.le_of_ble_eq_true rfl) (x0_has_in hO hC hi) ?_
  refine wp_run rfl ?_
  refine wp_ifne rfl (fun _ => ?_) (fun hz_ => absurd ((by decide : ¬ (1 : Int32) = 0)) hz_)
  refine wp_run rfl ?_
  refine wp_iclt rfl (fun q => ?_) (fun q => ?_)
  · refine wp_run rfl ?_
    exact wp_ret rfl rfl ⟨rfl, rfl⟩
  · refine wp_run rfl ?_
    refine wp_icle rfl (fun hz_ => absurd hz_ (hy.elim (fun w => absurd w q) id)) (fun _ => ?_)
    refine wp_run rfl ?_
    exact wp_ret rfl rfl ⟨rfl, rfl⟩
theorem x0_splitSlug_np (hO : aOk A) (hC : CR B A) {i : Nat} (hi : i < aN A) {v : Nat} (h1 : 1 ≤ v) (h2 : v ≤ 98) (h3 : aB A (aR A i) ≤ v) : axEv ro (d + 4) kX0_splitSlug [.ref 1, .int (nI (aR A i)), .int (nI v)] (hX B Y sl P G tl) (some (.int (-5))) (hX B Y sl P G tl) := by
  have hb := hO.b hi
  refine ev_in rfl rfl (Nat.le_of_ble_eq_true rfl) rfl ?_
  refine wp_run rfl ?_
  refine wp_v1 rfl rfl (Nat.le_of_ble_eq_true rfl) (x0_has_in hO hC hi) ?_
  refine wp_run rfl ?_
  refine wp_ifne rfl (fun _ => ?_) (fun hz_ => absurd ((by decide : ¬ (1 : Int32) = 0)) hz_)
  refine wp_run rfl ?_
  refine wp_iclt rfl (fun hz_ => absurd hz_ (nI_nlt (b := 1) h1 (by omega))) (fun _ => ?_)
  refine wp_run rfl ?_
  refine wp_icle rfl (fun _ => ?_) (fun hz_ => absurd (nI_le (b := 98) h2 (by omega)) hz_)
  refine wp_run rfl ?_
  refine wp_v1 rfl rfl (Nat.le_of_ble_eq_true rfl) (x0_beatsOf hO hC hi) ?_
  refine wp_run rfl ?_
  refine wp_icgt rfl (fun hz_ => absurd hz_ (nI_nlt h3 (by omega))) (fun _ => ?_)
  refine wp_run rfl ?_
  exact wp_ret rfl rfl ⟨rfl, rfl⟩
theorem x0_splitSlug_tm (hO : aOk A) (hC : CR B A) {i : Nat} (hi : i < aN A) {v : Nat} (h1 : 1 ≤ v) (h2 : v ≤ 98) (h3 : v < aB A (aR A i)) (hn : aN A = 24) : axEv ro (d + 4) kX0_splitSlug [.ref 1, .int (nI (aR A i)), .int (nI v)] (hX B Y sl P G tl) (some (.int (-4))) (hX B Y sl P G tl) := by
  have hb := hO.b hi
  refine ev_in rfl rfl (Nat.le_of_ble_eq_true rfl) rfl ?_
  refine wp_run rfl ?_
  refine wp_v1 rfl rfl (Nat.le_of_ble_eq_true rfl) (x0_has_in hO hC hi) ?_
  refine wp_run rfl ?_
  refine wp_ifne rfl (fun _ => ?_) (fun hz_ => absurd ((by decide : ¬ (1 : Int32) = 0)) hz_)
  refine wp_run rfl ?_
  refine wp_iclt rfl (fun hz_ => absurd hz_ (nI_nlt (b := 1) h1 (by omega))) (fun _ => ?_)
  refine wp_run rfl ?_
  refine wp_icle rfl (fun _ => ?_) (fun hz_ => absurd (nI_le (b := 98) h2 (by omega)) hz_)
  refine wp_run rfl ?_
  refine wp_v1 rfl rfl (Nat.le_of_ble_eq_true rfl) (x0_beatsOf hO hC hi) ?_
  refine wp_run rfl ?_
  refine wp_icgt rfl (fun _ => ?_) (fun hz_ => absurd (nI_lt h3 (by omega)) hz_)
  refine wp_run rfl ?_
  rw [cr_sz hC, hn]
  refine wp_iclt rfl (fun hz_ => absurd hz_ ((by decide : ¬ nI 24 < 24))) (fun _ => ?_)
  refine wp_run rfl ?_
  exact wp_ret rfl rfl ⟨rfl, rfl⟩
theorem x0_splitSlug_ok (hO : aOk A) (hC : CR B A) {i : Nat} (hi : i < aN A) {v : Nat} (h1 : 1 ≤ v) (h2 : v ≤ 98) (h3 : v < aB A (aR A i)) (hn : aN A < 24) : ∃ B', axEv ro (d + 4) kX0_splitSlug [.ref 1, .int (nI (aR A i)), .int (nI v)] (hX B Y sl P G tl) (some (.int (nI (aFr A)))) (hX (B') Y sl P G tl) ∧ CR B' (aSplit A i v (aR A i) (aFr A)) := by
  have hb := hO.b hi
  have hk := hO.r hi
  have hz := aFr_lt hO hn
  have hfr := aFr_free hO hn
  have hin : aIn A (aR A i) := ⟨i, hi, rfl⟩
  have c1 := cr_add (p := i + 1) (v := aW A (aR A i) - v) hC hz hfr (by omega)
  have hm := x0_makeSlug (ro := ro) (d := d) (Y := Y) (sl := sl) (P := P) (G := G) (tl := tl) (p := i + 1) (v := aW A (aR A i) - v) hO hC hn (by omega)
  have hhas := x0_has_in (ro := ro) (d := d + 1) (Y := Y) (sl := sl) (P := P) (G := G) (tl := tl) hO hC hi
  have hpl := x0_placeOf (ro := ro) (d := d + 1) (Y := Y) (sl := sl) (P := P) (G := G) (tl := tl) hO hC hi
  have hbt := x0_beatsOf (ro := ro) (d := d + 1) (Y := Y) (sl := sl) (P := P) (G := G) (tl := tl) hO hC hi
  have hwr := x0_writtenOf (ro := ro) (d := d + 1) (Y := Y) (sl := sl) (P := P) (G := G) (tl := tl) hO hC hi
  have ebt := cr_bt hC hi
  have etn := cr_tnr hC hi
  have hrows := fun j (hj : j < aN A) => cr_nd hC hj
  have hkz : aR A i ≠ aFr A := fun e => hfr (by rw [← e]; exact hin)
  have hne : ∀ j, j < aN A → aR A j ≠ aFr A := fun j hj e => hfr ⟨j, hj, e⟩
  generalize aFr A = z at *
  generalize hke : aR A i = k at *
  have c2 := cr_bts (k := z) (v := aB A k - v) c1
  have c3 := cr_wrs (k := k) (v := v) c2
  have c4 := cr_bts (k := k) (v := v) c3
  have c5 := cr_ndF (f := upd (hoF (upd (bNd B) z 0) k z 24) z (bi k)) (g := aSplN A k z) c4 (fun j hj => by
    have key : ∀ w, aIns (aR A) (i + 1) z j = w → upd (hoF (upd (bNd B) z 0) k z 24) z (bi k) w = aSplN A k z w := by
      intro w hw
      rcases aIns_is (aR A) (p := i + 1) (k := z) hj (by omega) with ⟨-, e2⟩ | ⟨j2, hj2, e2⟩
      · rw [← hw, e2, pk_us]
        unfold aSplN
        rw [if_pos rfl]
      · have hjz := hne j2 hj2
        have e3 := hrows j2 hj2
        have hr := hO.r hj2
        rw [← hw, e2, pk_un hjz]
        unfold aSplN hoF
        rw [pk_un hjz, e3, if_neg hjz]
        by_cases hb : bt (aD A (aR A j2)) k = true
        · rw [if_pos hb, if_pos ⟨hr, hb⟩]
        · rw [if_neg hb, if_neg (fun w => hb w.2)]
    exact key _ rfl)
  have pre : ∀ Bf r2, axEv ro (d + 3) kX0_handOverTurn [.ref 1, .int (nI k), .int (nI z)] (hX (bNd_ (bBt_ (bWr_ (bBt_ (bAdd B (aN A) (i + 1) (aW A k - v) z) (upd (upd (bBt B) z (nI (aW A k - v))) z (nI (aB A k - v)))) (upd (upd (bWr B) z (nI (aW A k - v))) k (nI v))) (upd (upd (upd (bBt B) z (nI (aW A k - v))) z (nI (aB A k - v))) k (nI v))) (upd (hoF (upd (bNd B) z 0) k z 24) z (bi k))) Y sl P G tl) none (hX (Bf) Y sl P G tl) → r2 = nI z → axEv ro (d + 4) kX0_splitSlug [.ref 1, .int (nI k), .int (nI v)] (hX B Y sl P G tl) (some (.int r2)) (hX (Bf) Y sl P G tl) := by
    intro Bf r2 ht hr2
    subst hr2
    refine ev_in rfl rfl (Nat.le_of_ble_eq_true rfl) rfl ?_
    refine wp_run rfl ?_
    refine wp_v1 rfl rfl (Nat.le_of_ble_eq_true rfl) (hhas) ?_
    refine wp_run rfl ?_
    refine wp_ifne rfl (fun _ => ?_) (fun hz_ => absurd ((by decide : ¬ (1 : Int32) = 0)) hz_)
    refine wp_run rfl ?_
    refine wp_iclt rfl (fun hz_ => absurd hz_ (nI_nlt (b := 1) h1 (by omega))) (fun _ => ?_)
    refine wp_run rfl ?_
    refine wp_icle rfl (fun _ => ?_) (fun hz_ => absurd (nI_le (b := 98) h2 (by omega)) hz_)
    refine wp_run rfl ?_
    refine wp_v1 rfl rfl (Nat.le_of_ble_eq_true rfl) (hbt) ?_
    refine wp_run rfl ?_
    refine wp_icgt rfl (fun _ => ?_) (fun hz_ => absurd (nI_lt h3 (by omega)) hz_)
    refine wp_run rfl ?_
    rw [cr_sz hC]
    refine wp_iclt rfl (fun _ => ?_) (fun hz_ => absurd (nI_lt (b := 24) hn (by omega)) hz_)
    refine wp_run rfl ?_
    refine wp_v1 rfl rfl (Nat.le_of_ble_eq_true rfl) (hpl) ?_
    refine wp_run rfl ?_
    refine wp_v1 rfl rfl (Nat.le_of_ble_eq_true rfl) (hwr) ?_
    refine wp_run rfl ?_
    rw [nI_1, pk_sub (by omega)]
    refine wp_v2 rfl rfl (Nat.le_of_ble_eq_true rfl) (hm) ?_
    refine wp_run rfl ?_
    refine wp_v1 rfl rfl (Nat.le_of_ble_eq_true rfl) (x0_beatsOf0 hk) ?_
    refine wp_run rfl ?_
    rw [show bBt (bAdd B (aN A) (i + 1) (aW A k - v) z) k = nI (aB A k) from (pk_un hkz).trans ebt, pk_sub (by omega)]
    refine wp_s3v rfl (Nat.le_of_ble_eq_true rfl) (x4_store (h1 := hX (bBt_ (bAdd B (aN A) (i + 1) (aW A k - v) z) (upd (upd (bBt B) z (nI (aW A k - v))) z (nI (aB A k - v)))) Y sl P G tl) rfl hz (by decide) rfl) ?_
    refine wp_run rfl ?_
    refine wp_s3v rfl (Nat.le_of_ble_eq_true rfl) (x4_store (h1 := hX (bWr_ (bBt_ (bAdd B (aN A) (i + 1) (aW A k - v) z) (upd (upd (bBt B) z (nI (aW A k - v))) z (nI (aB A k - v)))) (upd (upd (bWr B) z (nI (aW A k - v))) k (nI v))) Y sl P G tl) rfl hk (by decide) rfl) ?_
    refine wp_run rfl ?_
    refine wp_s3v rfl (Nat.le_of_ble_eq_true rfl) (x4_store (h1 := hX (bBt_ (bWr_ (bBt_ (bAdd B (aN A) (i + 1) (aW A k - v) z) (upd (upd (bBt B) z (nI (aW A k - v))) z (nI (aB A k - v)))) (upd (upd (bWr B) z (nI (aW A k - v))) k (nI v))) (upd (upd (upd (bBt B) z (nI (aW A k - v))) z (nI (aB A k - v))) k (nI v))) Y sl P G tl) rfl hk (by decide) rfl) ?_
    refine wp_run rfl ?_
    refine wp_v2v rfl rfl (Nat.le_of_ble_eq_true rfl) (x0_handOverNeeds hk hz) ?_
    refine wp_run rfl ?_
    refine wp_v2v rfl rfl (Nat.le_of_ble_eq_true rfl) (ht) ?_
    refine wp_run rfl ?_
    exact wp_ret rfl rfl ⟨rfl, rfl⟩
  cases htk : aT A k with
  | false =>
    rw [htk] at etn
    refine ⟨_, pre _ _ (x0_handOverTurn_no hk etn) rfl, ?_⟩
    unfold aSplit
    rw [if_neg (by rw [htk]; decide)]
    exact c5
  | true =>
    rw [htk] at etn
    refine ⟨_, pre _ _ (x0_handOverTurn_yes hk hz etn) rfl, ?_⟩
    unfold aSplit
    rw [if_pos htk]
    have c6 := cr_turnOff c5 hk (show va_up (aT A) z false k = true by rw [va_no hkz]; exact htk)
    have c7 := cr_turnOn (k := z) c6 hz ⟨i + 1, by show i + 1 < aN A + 1; omega, aIns_at (aR A) (i + 1) z⟩ (show (if z = k then _ else va_up (aT A) z false z) = false by rw [if_neg (fun e => hkz e.symm), va_is])
    exact c7
end AX26
end
section
/-! THE CLASS: changes of the board (6): fit. -/
/-- trimming from the place lo + m - 1 down to lo, while something is left to trim -/
def aFt (lo : Nat) : Nat → Nat → axAD → axAD
  | 0, _, A => A
  | m + 1, left, A => if left = 0 then A else aFt lo m (left - min left (aCan A (aR A (lo + m)))) (aBts A (aR A (lo + m)) (aB A (aR A (lo + m)) - min left (aCan A (aR A (lo + m)))))
def aFit (A : axAD) (a : Nat) : axAD := aFt (aSt A a) (aSt A (a + 1) - aSt A a) (aCut A a) A
theorem aOk_bts {A : axAD} (hO : aOk A) {i v : Nat} (hi : i < aN A) (h1 : 1 ≤ v) (h2 : v ≤ aW A (aR A i)) : aOk (aBts A (aR A i) v) := by
  obtain ⟨o1, o2, o3, o4, o5⟩ := hO
  refine ⟨o1, o2, o3, fun j hj => ?_, o5⟩
  show 1 ≤ va_up (aB A) (aR A i) v (aR A j) ∧ va_up (aB A) (aR A i) v (aR A j) ≤ aW A (aR A j) ∧ aW A (aR A j) ≤ 99
  have := o4 j hj
  by_cases e : aR A j = aR A i
  · rw [e, va_is]
    have h3 := o4 i hi
    exact ⟨h1, h2, h3.2.2⟩
  · rw [va_no e]; exact this
theorem aCan_lt {A : axAD} (hO : aOk A) {i : Nat} (hi : i < aN A) : aCan A (aR A i) < aB A (aR A i) := by
  have := hO.b hi
  unfold aCan
  omega
section AX27
variable {ro : axRo} {d : Nat} {h h1 : axH} {B : axBD} {Y : axYD} {sl : Nat → Option Nat} {P : axPD} {G : axGD} {tl : axH} {A : axAD}
theorem x0_fitAct_bad {y : Int32} {e : Int32} (he : e < 0) (hc : axEv ro (d + 4) kX0_cutOf [.ref 1, .int y] (hX B Y sl P G tl) (some (.int e)) (hX B Y sl P G tl)) : axEv ro (d + 5) kX0_fitAct [.ref 1, .int y] (hX B Y sl P G tl) (some (.int e)) (hX B Y sl P G tl) := by
  refine ev_in rfl rfl (Nat.le_of_ble_eq_true rfl) rfl ?_
  refine wp_run rfl ?_
  refine wp_v1 rfl rfl (Nat.le_of_ble_eq_true rfl) (hc) ?_
  refine wp_run rfl ?_
  refine wp_ifge rfl (fun hz_ => absurd hz_ (Int32.not_le.mpr he)) (fun _ => ?_)
  refine wp_run rfl ?_
  exact wp_ret rfl rfl ⟨rfl, rfl⟩
theorem x0_fitAct_ok (hO : aOk A) (hC : CR B A) {a : Nat} (ha : a < aActs A) (hf : (aOff A a).toNat - aCut A a ≤ aSl A) : ∃ B', axEv ro (d + 5) kX0_fitAct [.ref 1, .int (nI a)] (hX B Y sl P G tl) (some (.int (nI (aCut A a)))) (hX (B') Y sl P G tl) ∧ CR B' (aFit A a) ∧ aOk (aFit A a) := by
  have hl := aActs_le A
  have hn := hO.n
  have hb := aOff_b hO a
  have hcut : aCut A a ≤ 2376 := by
    have : aCut A a ≤ (aOff A a).toNat := Nat.min_le_left _ _
    omega
  have hmono := aSt_mono A (show a ≤ a + 1 by omega)
  have hse := aSt_le A (a + 1)
  have hcv := x0_cutOf_in (ro := ro) (d := d) (Y := Y) (sl := sl) (P := P) (G := G) (tl := tl) hO hC ha
  rw [if_pos hf] at hcv
  have loop : ∀ m, aSt A a + m ≤ aN A → ∀ (left : Nat) (B1 : axBD) (A1 : axAD) (v6 v7 : Option Value), left ≤ 2376 → aOk A1 → CR B1 A1 → aN A1 = aN A → ∃ B', axW ro (axEv ro (d + 4)) cdX0_fitAct 35 [some (.ref 1), some (.int (nI a)), some (.int (nI (aCut A a))), some (.int (nI (aSt A a))), some (.int (nI left)), some (.int (nI (aSt A a + m) - 1)), v6, v7] [.int (nI (aSt A a)), .int (nI (aSt A a + m) - 1)] (hX (B1) Y sl P G tl) (fun r' h' => r' = some (.int (nI (aCut A a))) ∧ h' = hX (B') Y sl P G tl) ∧ CR B' (aFt (aSt A a) m left A1) ∧ aOk (aFt (aSt A a) m left A1) := by
    intro m
    induction m with
    | zero =>
      intro hm left B1 A1 v6 v7 hleft hO1 hC1 hn1
      refine ⟨B1, ?_, hC1, hO1⟩
      have e : nI (aSt A a + 0) - 1 < nI (aSt A a) := by
        rw [Nat.add_zero, Int32.lt_iff_toInt_lt]
        rcases Nat.eq_zero_or_pos (aSt A a) with z | z
        · rw [z]; decide
        · rw [nI_p1 z, nI_toInt (by omega), nI_toInt (by omega)]; omega
      refine wp_iclt rfl (fun _ => ?_) (fun hz_ => absurd (e) hz_)
      refine wp_run rfl ?_
      exact wp_ret rfl rfl ⟨rfl, rfl⟩
    | succ m ih =>
      intro hm left B1 A1 v6 v7 hleft hO1 hC1 hn1
      have hp : aSt A a + m < aN A1 := by omega
      rw [show nI (aSt A a + (m + 1)) - 1 = nI (aSt A a + m) from nI_pred (aSt A a + m)]
      by_cases hz : left = 0
      · refine ⟨B1, ?_, ?_, ?_⟩
        · refine wp_iclt rfl (fun hz_ => absurd hz_ (nI_nlt (show aSt A a ≤ aSt A a + m by omega) (by omega))) (fun _ => ?_)
          refine wp_run rfl ?_
          refine wp_ifle rfl (fun _ => ?_) (fun hz_ => absurd (by rw [hz]; decide) hz_)
          refine wp_run rfl ?_
          exact wp_ret rfl rfl ⟨rfl, rfl⟩
        · rw [aFt, if_pos hz]; exact hC1
        · rw [aFt, if_pos hz]; exact hO1
      · have hlt := aCan_lt hO1 hp
        have hbb := hO1.b hp
        have hO2 := aOk_bts hO1 hp (v := aB A1 (aR A1 (aSt A a + m)) - min left (aCan A1 (aR A1 (aSt A a + m)))) (by omega) (by omega)
        have hC2 := cr_bts (k := aR A1 (aSt A a + m)) (v := aB A1 (aR A1 (aSt A a + m)) - min left (aCan A1 (aR A1 (aSt A a + m)))) hC1
        obtain ⟨B', hw, hC3, hO3⟩ := ih (by omega) (left - min left (aCan A1 (aR A1 (aSt A a + m)))) _ _ (some (.int (nI (aR A1 (aSt A a + m))))) (some (.int (nI (min left (aCan A1 (aR A1 (aSt A a + m))))))) (by omega) hO2 hC2 hn1
        refine ⟨B', ?_, ?_, ?_⟩
        · refine wp_iclt rfl (fun hz_ => absurd hz_ (nI_nlt (show aSt A a ≤ aSt A a + m by omega) (by omega))) (fun _ => ?_)
          refine wp_run rfl ?_
          refine wp_ifle rfl (fun hz_ => absurd hz_ (nI_nle (show 0 < left by omega) (by omega))) (fun _ => ?_)
          refine wp_run rfl ?_
          refine wp_s2 rfl (Nat.le_of_ble_eq_true rfl) (x4_cell rfl (show aSt A a + m < 24 by omega) (by decide)) ?_
          refine wp_run rfl ?_
          rw [cr_rw hC1 hp]
          refine wp_v1 rfl rfl (Nat.le_of_ble_eq_true rfl) (x0_roomOf hO1 hC1 hp) ?_
          refine wp_run rfl ?_
          refine wp_min rfl (Nat.le_of_ble_eq_true rfl) ((nI_min (by omega) (by omega))) ?_
          refine wp_run rfl ?_
          refine wp_v1 rfl rfl (Nat.le_of_ble_eq_true rfl) (x0_beatsOf hO1 hC1 hp) ?_
          refine wp_run rfl ?_
          rw [pk_sub (show min left (aCan A1 (aR A1 (aSt A a + m))) ≤ aB A1 (aR A1 (aSt A a + m)) by omega)]
          refine wp_s3v rfl (Nat.le_of_ble_eq_true rfl) (x4_store (h1 := hX (bBt_ B1 (upd (bBt B1) (aR A1 (aSt A a + m)) (nI (aB A1 (aR A1 (aSt A a + m)) - min left (aCan A1 (aR A1 (aSt A a + m))))))) Y sl P G tl) rfl (hO1.r hp) (by decide) rfl) ?_
          refine wp_run rfl ?_
          rw [pk_sub (show min left (aCan A1 (aR A1 (aSt A a + m))) ≤ left by omega), show nI (aSt A a + m) + (-1) = nI (aSt A a + m) - 1 by rw [Int32.sub_eq_add_neg]]
          exact hw
        · rw [aFt, if_neg hz]; exact hC3
        · rw [aFt, if_neg hz]; exact hO3
  obtain ⟨B', hw, hC3, hO3⟩ := loop (aSt A (a + 1) - aSt A a) (by omega) (aCut A a) B A none none hcut hO hC rfl
  rw [show aSt A a + (aSt A (a + 1) - aSt A a) = aSt A (a + 1) by omega] at hw
  refine ⟨B', ?_, hC3, hO3⟩
  refine ev_in rfl rfl (Nat.le_of_ble_eq_true rfl) rfl ?_
  refine wp_run rfl ?_
  refine wp_v1 rfl rfl (Nat.le_of_ble_eq_true rfl) (hcv) ?_
  refine wp_run rfl ?_
  refine wp_ifge rfl (fun _ => ?_) (fun hz_ => absurd (nI_pos' (by omega)) hz_)
  refine wp_run rfl ?_
  refine wp_v1 rfl rfl (Nat.le_of_ble_eq_true rfl) (x0_startOf hO hC (by omega)) ?_
  refine wp_run rfl ?_
  rw [nI_1]
  refine wp_v1 rfl rfl (Nat.le_of_ble_eq_true rfl) (x0_startOf hO hC (by omega)) ?_
  refine wp_run rfl ?_
  exact hw
end AX27
end
section
/-! THE CLASS: boards anywhere in the heap: made, copied. -/
/-- a board of its own at o -/
def HBd (h : axH) (o : Nat) (B : axBD) : Prop := h[o]? = some (axBo o B) ∧ h[o + 1]? = some (axAi 3 (bSt B)) ∧ h[o + 2]? = some (axAi 6 (bTg B)) ∧ h[o + 3]? = some (axAi 24 (bRw B)) ∧ h[o + 4]? = some (axAi 24 (bWr B)) ∧ h[o + 5]? = some (axAi 24 (bBt B)) ∧ h[o + 6]? = some (axAi 24 (bNd B))
/-- what one board takes over of another -/
def bCp (B C : axBD) : axBD := (va_cpy (bSt B) (bSt C) 0 0 3, va_cpy (bTg B) (bTg C) 0 0 6, va_cpy (bRw B) (bRw C) 0 0 24, va_cpy (bWr B) (bWr C) 0 0 24, va_cpy (bBt B) (bBt C) 0 0 24, va_cpy (bNd B) (bNd C) 0 0 24, bSg B, bTn B, bSz B)
theorem va_cpy0 {α : Type} {f g : Nat → α} {n i : Nat} (h : i < n) : va_cpy f g 0 0 n i = f i := by
  unfold va_cpy
  rw [if_pos ⟨by omega, by omega⟩, Nat.sub_zero, Nat.zero_add]
theorem cr_cp {A : axAD} {B C : axBD} (hO : aOk A) (h : CR B A) : CR (bCp B C) A := by
  have hn := hO.n
  have hr := fun i (hi : i < aN A) => hO.r hi
  obtain ⟨c1, c2, c3, c4, c5, ⟨c6, c7, c8⟩, c9⟩ := h
  refine ⟨c1, fun i hi => ?_, fun i hi => ⟨?_, ?_, ?_⟩, c4, c5, ⟨?_, ?_, ?_⟩, fun a ha => ?_⟩
  · exact (va_cpy0 (show i < 24 by omega)).trans (c2 i hi)
  · exact (va_cpy0 (hr i hi)).trans (c3 i hi).1
  · exact (va_cpy0 (hr i hi)).trans (c3 i hi).2.1
  · exact (va_cpy0 (hr i hi)).trans (c3 i hi).2.2
  · exact (va_cpy0 (f := bSt B) (g := bSt C) (show 0 < 3 by omega)).trans c6
  · exact (va_cpy0 (f := bSt B) (g := bSt C) (show 1 < 3 by omega)).trans c7
  · exact (va_cpy0 (f := bSt B) (g := bSt C) (show 2 < 3 by omega)).trans c8
  · exact (va_cpy0 ha).trans (c9 a ha)
section AX28
variable {ro : axRo} {E : axCall} {cd : List axE} {pc : Nat} {L : axL} {S : List Value} {h h1 : axH} {Q : Option Value → axH → Prop} {p0 b c nx : Nat} {a : Value} {tb : List (Int32 × Nat)}
theorem wp_getf {k : Nat} {fs : List Value} {v : Value} (hf : axF cd pc = some (p0, 36, a, b, c, tb, nx)) (hh : h[k]? = some (.inr (.inr (b, fs)))) (hv : fs[c]? = some v) (kk : axW ro E cd nx L (v :: S) h Q) : axW ro E cd pc L (.ref k :: S) h Q := by
  obtain ⟨n, kk⟩ := kk
  exact wp_one hf ⟨n, ⟨k, S, fs, v, rfl, hh, hv, kk⟩⟩
variable {d : Nat}
theorem gset_ne {i j : Nat} {x : axC} (hij : i ≠ j) : (h.set i x)[j]? = h[j]? := List.getElem?_set_ne hij
theorem gset_eq {i : Nat} {x y : axC} (hi : h[i]? = some y) : (h.set i x)[i]? = some x := by
  rw [List.getElem?_set_self (List.getElem?_eq_some_iff.mp hi).1]
theorem x0_takeOver {o q : Nat} {B C : axBD} (hB : HBd h q B) (hC : HBd h o C) (hd : o + 7 ≤ q ∨ q + 7 ≤ o) : ∃ h', axEv ro (d + 1) kX0_takeOver [.ref o, .ref q] h none h' ∧ HBd h' o (bCp B C) ∧ (∀ k, k < o ∨ o + 7 ≤ k → h'[k]? = h[k]?) ∧ h'.length = h.length ∧ axSl h' = axSl h := by
  obtain ⟨b0, b1, b2, b3, b4, b5, b6⟩ := hB
  obtain ⟨c0, c1, c2, c3, c4, c5, c6⟩ := hC
  generalize e1 : h.set (o + 1) (axAi 3 (va_cpy (bSt B) (bSt C) 0 0 3)) = h1
  have g1 : ∀ k, k ≠ o + 1 → h1[k]? = h[k]? := fun k hk => by rw [← e1, gset_ne (Ne.symm hk)]
  have f1 : h1[o + 1]? = some (axAi 3 (va_cpy (bSt B) (bSt C) 0 0 3)) := by rw [← e1]; exact gset_eq c1
  generalize e2 : h1.set (o + 2) (axAi 6 (va_cpy (bTg B) (bTg C) 0 0 6)) = h2
  have g2 : ∀ k, k ≠ o + 2 → h2[k]? = h1[k]? := fun k hk => by rw [← e2, gset_ne (Ne.symm hk)]
  have f2 : h2[o + 2]? = some (axAi 6 (va_cpy (bTg B) (bTg C) 0 0 6)) := by rw [← e2]; exact gset_eq (by rw [g1 _ (by omega)]; exact c2)
  generalize e3 : h2.set (o + 3) (axAi 24 (va_cpy (bRw B) (bRw C) 0 0 24)) = h3
  have g3 : ∀ k, k ≠ o + 3 → h3[k]? = h2[k]? := fun k hk => by rw [← e3, gset_ne (Ne.symm hk)]
  have f3 : h3[o + 3]? = some (axAi 24 (va_cpy (bRw B) (bRw C) 0 0 24)) := by rw [← e3]; exact gset_eq (by rw [g2 _ (by omega), g1 _ (by omega)]; exact c3)
  generalize e4 : h3.set (o + 4) (axAi 24 (va_cpy (bWr B) (bWr C) 0 0 24)) = h4
  have g4 : ∀ k, k ≠ o + 4 → h4[k]? = h3[k]? := fun k hk => by rw [← e4, gset_ne (Ne.symm hk)]
  have f4 : h4[o + 4]? = some (axAi 24 (va_cpy (bWr B) (bWr C) 0 0 24)) := by rw [← e4]; exact gset_eq (by rw [g3 _ (by omega), g2 _ (by omega), g1 _ (by omega)]; exact c4)
  generalize e5 : h4.set (o + 5) (axAi 24 (va_cpy (bBt B) (bBt C) 0 0 24)) = h5
  have g5 : ∀ k, k ≠ o + 5 → h5[k]? = h4[k]? := fun k hk => by rw [← e5, gset_ne (Ne.symm hk)]
  have f5 : h5[o + 5]? = some (axAi 24 (va_cpy (bBt B) (bBt C) 0 0 24)) := by rw [← e5]; exact gset_eq (by rw [g4 _ (by omega), g3 _ (by omega), g2 _ (by omega), g1 _ (by omega)]; exact c5)
  generalize e6 : h5.set (o + 6) (axAi 24 (va_cpy (bNd B) (bNd C) 0 0 24)) = h6
  have g6 : ∀ k, k ≠ o + 6 → h6[k]? = h5[k]? := fun k hk => by rw [← e6, gset_ne (Ne.symm hk)]
  have f6 : h6[o + 6]? = some (axAi 24 (va_cpy (bNd B) (bNd C) 0 0 24)) := by rw [← e6]; exact gset_eq (by rw [g5 _ (by omega), g4 _ (by omega), g3 _ (by omega), g2 _ (by omega), g1 _ (by omega)]; exact c6)
  have ob : ∀ k, (k < o + 1 ∨ o + 7 ≤ k) → h6[k]? = h[k]? ∧ h5[k]? = h[k]? ∧ h4[k]? = h[k]? ∧ h3[k]? = h[k]? ∧ h2[k]? = h[k]? ∧ h1[k]? = h[k]? := fun k hk => by
    have a1 := g1 k (by omega)
    have a2 := (g2 k (by omega)).trans a1
    have a3 := (g3 k (by omega)).trans a2
    have a4 := (g4 k (by omega)).trans a3
    have a5 := (g5 k (by omega)).trans a4
    have a6 := (g6 k (by omega)).trans a5
    exact ⟨a6, a5, a4, a3, a2, a1⟩
  generalize e7 : h6.set o (.inr (.inr (0, [.ref (o + 1), .ref (o + 2), .ref (o + 3), .ref (o + 4), .ref (o + 5), .ref (o + 6), .int (bSg B), .int (bTn C), .int (bSz C)]))) = h7
  have c06 : h6[o]? = some (axBo o C) := (ob o (by omega)).1.trans c0
  have f7 : h7[o]? = some (.inr (.inr (0, [.ref (o + 1), .ref (o + 2), .ref (o + 3), .ref (o + 4), .ref (o + 5), .ref (o + 6), .int (bSg B), .int (bTn C), .int (bSz C)]))) := by rw [← e7]; exact gset_eq c06
  have g7 : ∀ k, k ≠ o → h7[k]? = h6[k]? := fun k hk => by rw [← e7, gset_ne (Ne.symm hk)]
  generalize e8 : h7.set o (.inr (.inr (0, [.ref (o + 1), .ref (o + 2), .ref (o + 3), .ref (o + 4), .ref (o + 5), .ref (o + 6), .int (bSg B), .int (bTn B), .int (bSz C)]))) = h8
  have f8 : h8[o]? = some (.inr (.inr (0, [.ref (o + 1), .ref (o + 2), .ref (o + 3), .ref (o + 4), .ref (o + 5), .ref (o + 6), .int (bSg B), .int (bTn B), .int (bSz C)]))) := by rw [← e8]; exact gset_eq f7
  have g8 : ∀ k, k ≠ o → h8[k]? = h7[k]? := fun k hk => by rw [← e8, gset_ne (Ne.symm hk)]
  generalize e9 : h8.set o (axBo o (bCp B C)) = h9
  have f9 : h9[o]? = some (axBo o (bCp B C)) := by rw [← e9]; exact gset_eq f8
  have g9 : ∀ k, k ≠ o → h9[k]? = h6[k]? := fun k hk => by rw [← e9, gset_ne (Ne.symm hk), g8 k hk, g7 k hk]
  have qb : q < o + 1 ∨ o + 7 ≤ q := by omega
  have qn : q ≠ o := by omega
  refine ⟨h9, ?_, ⟨f9, ?_, ?_, ?_, ?_, ?_, ?_⟩, fun k hk => by rw [g9 k (by omega)]; exact (ob k (by omega)).1, ?_, ?_⟩
  · refine ev_in rfl rfl (Nat.le_of_ble_eq_true rfl) rfl ?_
    refine wp_runk 1 rfl ?_
    refine wp_getf rfl b0 rfl ?_
    refine wp_runk 2 rfl ?_
    refine wp_getf rfl c0 rfl ?_
    refine wp_runk 2 rfl ?_
    refine wp_getf rfl c0 rfl ?_
    refine wp_len rfl c1 (by decide) ?_
    refine wp_cpy (h1 := h1) rfl b1 c1 (by decide) (by decide) (by decide) (by decide) (by decide) (Nat.le_of_ble_eq_true rfl) e1 ?_
    refine wp_runk 1 rfl ?_
    refine wp_getf rfl ((ob q qb).2.2.2.2.2.trans b0) rfl ?_
    refine wp_runk 2 rfl ?_
    refine wp_getf rfl ((ob o (by omega)).2.2.2.2.2.trans c0) rfl ?_
    refine wp_runk 2 rfl ?_
    refine wp_getf rfl ((ob o (by omega)).2.2.2.2.2.trans c0) rfl ?_
    refine wp_len rfl ((g1 _ (by omega)).trans c2) (by decide) ?_
    refine wp_cpy (h1 := h2) rfl ((g1 _ (by omega)).trans b2) ((g1 _ (by omega)).trans c2) (by decide) (by decide) (by decide) (by decide) (by decide) (Nat.le_of_ble_eq_true rfl) e2 ?_
    refine wp_runk 1 rfl ?_
    refine wp_getf rfl ((ob q qb).2.2.2.2.1.trans b0) rfl ?_
    refine wp_runk 2 rfl ?_
    refine wp_getf rfl ((ob o (by omega)).2.2.2.2.1.trans c0) rfl ?_
    refine wp_runk 2 rfl ?_
    refine wp_getf rfl ((ob o (by omega)).2.2.2.2.1.trans c0) rfl ?_
    refine wp_len rfl (((g2 _ (by omega)).trans (g1 _ (by omega))).trans c3) (by decide) ?_
    refine wp_cpy (h1 := h3) rfl (((g2 _ (by omega)).trans (g1 _ (by omega))).trans b3) (((g2 _ (by omega)).trans (g1 _ (by omega))).trans c3) (by decide) (by decide) (by decide) (by decide) (by decide) (Nat.le_of_ble_eq_true rfl) e3 ?_
    refine wp_runk 1 rfl ?_
    refine wp_getf rfl ((ob q qb).2.2.2.1.trans b0) rfl ?_
    refine wp_runk 2 rfl ?_
    refine wp_getf rfl ((ob o (by omega)).2.2.2.1.trans c0) rfl ?_
    refine wp_runk 2 rfl ?_
    refine wp_getf rfl ((ob o (by omega)).2.2.2.1.trans c0) rfl ?_
    refine wp_len rfl ((((g3 _ (by omega)).trans (g2 _ (by omega))).trans (g1 _ (by omega))).trans c4) (by decide) ?_
    refine wp_cpy (h1 := h4) rfl ((((g3 _ (by omega)).trans (g2 _ (by omega))).trans (g1 _ (by omega))).trans b4) ((((g3 _ (by omega)).trans (g2 _ (by omega))).trans (g1 _ (by omega))).trans c4) (by decide) (by decide) (by decide) (by decide) (by decide) (Nat.le_of_ble_eq_true rfl) e4 ?_
    refine wp_runk 1 rfl ?_
    refine wp_getf rfl ((ob q qb).2.2.1.trans b0) rfl ?_
    refine wp_runk 2 rfl ?_
    refine wp_getf rfl ((ob o (by omega)).2.2.1.trans c0) rfl ?_
    refine wp_runk 2 rfl ?_
    refine wp_getf rfl ((ob o (by omega)).2.2.1.trans c0) rfl ?_
    refine wp_len rfl (((((g4 _ (by omega)).trans (g3 _ (by omega))).trans (g2 _ (by omega))).trans (g1 _ (by omega))).trans c5) (by decide) ?_
    refine wp_cpy (h1 := h5) rfl (((((g4 _ (by omega)).trans (g3 _ (by omega))).trans (g2 _ (by omega))).trans (g1 _ (by omega))).trans b5) (((((g4 _ (by omega)).trans (g3 _ (by omega))).trans (g2 _ (by omega))).trans (g1 _ (by omega))).trans c5) (by decide) (by decide) (by decide) (by decide) (by decide) (Nat.le_of_ble_eq_true rfl) e5 ?_
    refine wp_runk 1 rfl ?_
    refine wp_getf rfl ((ob q qb).2.1.trans b0) rfl ?_
    refine wp_runk 2 rfl ?_
    refine wp_getf rfl ((ob o (by omega)).2.1.trans c0) rfl ?_
    refine wp_runk 2 rfl ?_
    refine wp_getf rfl ((ob o (by omega)).2.1.trans c0) rfl ?_
    refine wp_len rfl ((((((g5 _ (by omega)).trans (g4 _ (by omega))).trans (g3 _ (by omega))).trans (g2 _ (by omega))).trans (g1 _ (by omega))).trans c6) (by decide) ?_
    refine wp_cpy (h1 := h6) rfl ((((((g5 _ (by omega)).trans (g4 _ (by omega))).trans (g3 _ (by omega))).trans (g2 _ (by omega))).trans (g1 _ (by omega))).trans b6) ((((((g5 _ (by omega)).trans (g4 _ (by omega))).trans (g3 _ (by omega))).trans (g2 _ (by omega))).trans (g1 _ (by omega))).trans c6) (by decide) (by decide) (by decide) (by decide) (by decide) (Nat.le_of_ble_eq_true rfl) e6 ?_
    refine wp_runk 2 rfl ?_
    refine wp_getf rfl ((ob q qb).1.trans b0) rfl ?_
    refine wp_putf (h1 := h7) rfl c06 (Nat.le_of_ble_eq_true rfl) ⟨rfl, rfl, fun _ hz_ => by cases hz_⟩ e7 ?_
    refine wp_runk 2 rfl ?_
    refine wp_getf rfl (((g7 q qn).trans (ob q qb).1).trans b0) rfl ?_
    refine wp_putf (h1 := h8) rfl f7 (Nat.le_of_ble_eq_true rfl) ⟨rfl, rfl, fun _ hz_ => by cases hz_⟩ e8 ?_
    refine wp_runk 2 rfl ?_
    refine wp_getf rfl (((g8 q qn).trans ((g7 q qn).trans (ob q qb).1)).trans b0) rfl ?_
    refine wp_putf (h1 := h9) rfl f8 (Nat.le_of_ble_eq_true rfl) ⟨rfl, rfl, fun _ hz_ => by cases hz_⟩ e9 ?_
    exact wp_retv rfl ⟨rfl, rfl⟩
  · rw [g9 _ (by omega), g6 _ (by omega), g5 _ (by omega), g4 _ (by omega), g3 _ (by omega), g2 _ (by omega)]; exact f1
  · rw [g9 _ (by omega), g6 _ (by omega), g5 _ (by omega), g4 _ (by omega), g3 _ (by omega)]; exact f2
  · rw [g9 _ (by omega), g6 _ (by omega), g5 _ (by omega), g4 _ (by omega)]; exact f3
  · rw [g9 _ (by omega), g6 _ (by omega), g5 _ (by omega)]; exact f4
  · rw [g9 _ (by omega), g6 _ (by omega)]; exact f5
  · rw [g9 _ (by omega)]; exact f6
  · rw [← e9, ← e8, ← e7, ← e6, ← e5, ← e4, ← e3, ← e2, ← e1]
    simp only [List.length_set]
  · rw [← e9, axSl_set _ _ _ _ f8 (by rfl), ← e8, axSl_set _ _ _ _ f7 (by rfl), ← e7, axSl_set _ _ _ _ c06 (by rfl), ← e6, axSl_set h5 _ _ (axAi 24 (bNd C)) (by rw [g5 _ (by omega), g4 _ (by omega), g3 _ (by omega), g2 _ (by omega), g1 _ (by omega)]; exact c6) (by rfl),
      ← e5, axSl_set h4 _ _ (axAi 24 (bBt C)) (by rw [g4 _ (by omega), g3 _ (by omega), g2 _ (by omega), g1 _ (by omega)]; exact c5) (by rfl),
      ← e4, axSl_set h3 _ _ (axAi 24 (bWr C)) (by rw [g3 _ (by omega), g2 _ (by omega), g1 _ (by omega)]; exact c4) (by rfl),
      ← e3, axSl_set h2 _ _ (axAi 24 (bRw C)) (by rw [g2 _ (by omega), g1 _ (by omega)]; exact c3) (by rfl),
      ← e2, axSl_set h1 _ _ (axAi 6 (bTg C)) (by rw [g1 _ (by omega)]; exact c2) (by rfl),
      ← e1, axSl_set h _ _ (axAi 3 (bSt C)) c1 (by rfl)]
end AX28
end
section
/-! THE CLASS: a new board. Written by a program. -/
theorem gA {h0 l : axH} (i : Nat) : (h0 ++ l)[h0.length + i]? = l[i]? := by rw [List.getElem?_append_right (by omega), Nat.add_sub_cancel_left]
theorem gS {h0 l : axH} (i : Nat) (x : axC) : (h0 ++ l).set (h0.length + i) x = h0 ++ l.set i x := by rw [List.set_append_right _ _ (by omega), Nat.add_sub_cancel_left]
theorem gL {h0 l : axH} {n : Nat} (h : l.length = n) : (h0 ++ l).length = h0.length + n := by rw [List.length_append, h]
theorem gP {h0 l m : axH} {x : axC} (h : l ++ [x] = m) : (h0 ++ l) ++ [x] = h0 ++ m := by rw [List.append_assoc, h]
def z0F : Nat → Int32 := fun _ => 0
/-- a board as it is made -/
def bIni : axBD := (upd (upd (upd z0F 0 16) 1 2) 2 50, upd (upd (upd (upd (upd (upd z0F 0 60) 1 60) 2 60) 3 60) 4 60) 5 60, z0F, z0F, z0F, z0F, 0, 0, 0)
def bdL (o : Nat) (B : axBD) : axH := [axBo o B, axAi 3 (bSt B), axAi 6 (bTg B), axAi 24 (bRw B), axAi 24 (bWr B), axAi 24 (bBt B), axAi 24 (bNd B)]
section AX29
variable {ro : axRo} {d : Nat}
theorem x0_init {h0 : axH} : axEv ro (d + 1) kX0_init [.ref h0.length] (h0 ++ [.inr (.inr (0, axDf 0))]) none (h0 ++ bdL h0.length bIni) := by
  refine ev_in rfl rfl (Nat.le_of_ble_eq_true rfl) rfl ?_
  refine wp_run rfl ?_
  refine wp_obj rfl (Nat.le_of_ble_eq_true rfl) ?_
  refine wp_run rfl ?_
  refine wp_newa (q := h0.length + 1) (N := 3) (h1 := (h0 ++ [.inr (.inr (0, [.null, .null, .null, .null, .null, .null, .int 0, .int 0, .int 0])), .inl (0, 3, z0F)])) rfl (by decide) (by decide) (by decide) (gL rfl) (gP rfl) ?_
  refine wp_run rfl ?_
  refine wp_ast (h1 := (h0 ++ [.inr (.inr (0, [.null, .null, .null, .null, .null, .null, .int 0, .int 0, .int 0])), .inl (0, 3, (upd z0F 0 16))])) rfl (gA 1) (vp_in_nI (n := 0) (N := 3) (by decide) (by decide)) rfl (gS 1 _) ?_
  refine wp_run rfl ?_
  refine wp_ast (h1 := (h0 ++ [.inr (.inr (0, [.null, .null, .null, .null, .null, .null, .int 0, .int 0, .int 0])), .inl (0, 3, (upd (upd z0F 0 16) 1 2))])) rfl (gA 1) (vp_in_nI (n := 1) (N := 3) (by decide) (by decide)) rfl (gS 1 _) ?_
  refine wp_run rfl ?_
  refine wp_ast (h1 := (h0 ++ [.inr (.inr (0, [.null, .null, .null, .null, .null, .null, .int 0, .int 0, .int 0])), .inl (0, 3, (upd (upd (upd z0F 0 16) 1 2) 2 50))])) rfl (gA 1) (vp_in_nI (n := 2) (N := 3) (by decide) (by decide)) rfl (gS 1 _) ?_
  refine wp_run rfl ?_
  refine wp_putF (h1 := (h0 ++ [.inr (.inr (0, [.ref (h0.length + 1), .null, .null, .null, .null, .null, .int 0, .int 0, .int 0])), .inl (0, 3, (upd (upd (upd z0F 0 16) 1 2) 2 50))])) rfl (gA 0) (Nat.le_of_ble_eq_true rfl) ⟨rfl, rfl, fun _ hz_ => by cases hz_⟩ (gS 0 _) ?_
  refine wp_run rfl ?_
  refine wp_newa (q := h0.length + 2) (N := 6) (h1 := (h0 ++ [.inr (.inr (0, [.ref (h0.length + 1), .null, .null, .null, .null, .null, .int 0, .int 0, .int 0])), .inl (0, 3, (upd (upd (upd z0F 0 16) 1 2) 2 50)), .inl (0, 6, z0F)])) rfl (by decide) (by decide) (by decide) (gL rfl) (gP rfl) ?_
  refine wp_run rfl ?_
  refine wp_ast (h1 := (h0 ++ [.inr (.inr (0, [.ref (h0.length + 1), .null, .null, .null, .null, .null, .int 0, .int 0, .int 0])), .inl (0, 3, (upd (upd (upd z0F 0 16) 1 2) 2 50)), .inl (0, 6, (upd z0F 0 60))])) rfl (gA 2) (vp_in_nI (n := 0) (N := 6) (by decide) (by decide)) rfl (gS 2 _) ?_
  refine wp_run rfl ?_
  refine wp_ast (h1 := (h0 ++ [.inr (.inr (0, [.ref (h0.length + 1), .null, .null, .null, .null, .null, .int 0, .int 0, .int 0])), .inl (0, 3, (upd (upd (upd z0F 0 16) 1 2) 2 50)), .inl (0, 6, (upd (upd z0F 0 60) 1 60))])) rfl (gA 2) (vp_in_nI (n := 1) (N := 6) (by decide) (by decide)) rfl (gS 2 _) ?_
  refine wp_run rfl ?_
  refine wp_ast (h1 := (h0 ++ [.inr (.inr (0, [.ref (h0.length + 1), .null, .null, .null, .null, .null, .int 0, .int 0, .int 0])), .inl (0, 3, (upd (upd (upd z0F 0 16) 1 2) 2 50)), .inl (0, 6, (upd (upd (upd z0F 0 60) 1 60) 2 60))])) rfl (gA 2) (vp_in_nI (n := 2) (N := 6) (by decide) (by decide)) rfl (gS 2 _) ?_
  refine wp_run rfl ?_
  refine wp_ast (h1 := (h0 ++ [.inr (.inr (0, [.ref (h0.length + 1), .null, .null, .null, .null, .null, .int 0, .int 0, .int 0])), .inl (0, 3, (upd (upd (upd z0F 0 16) 1 2) 2 50)), .inl (0, 6, (upd (upd (upd (upd z0F 0 60) 1 60) 2 60) 3 60))])) rfl (gA 2) (vp_in_nI (n := 3) (N := 6) (by decide) (by decide)) rfl (gS 2 _) ?_
  refine wp_run rfl ?_
  refine wp_ast (h1 := (h0 ++ [.inr (.inr (0, [.ref (h0.length + 1), .null, .null, .null, .null, .null, .int 0, .int 0, .int 0])), .inl (0, 3, (upd (upd (upd z0F 0 16) 1 2) 2 50)), .inl (0, 6, (upd (upd (upd (upd (upd z0F 0 60) 1 60) 2 60) 3 60) 4 60))])) rfl (gA 2) (vp_in_nI (n := 4) (N := 6) (by decide) (by decide)) rfl (gS 2 _) ?_
  refine wp_run rfl ?_
  refine wp_ast (h1 := (h0 ++ [.inr (.inr (0, [.ref (h0.length + 1), .null, .null, .null, .null, .null, .int 0, .int 0, .int 0])), .inl (0, 3, (upd (upd (upd z0F 0 16) 1 2) 2 50)), .inl (0, 6, (upd (upd (upd (upd (upd (upd z0F 0 60) 1 60) 2 60) 3 60) 4 60) 5 60))])) rfl (gA 2) (vp_in_nI (n := 5) (N := 6) (by decide) (by decide)) rfl (gS 2 _) ?_
  refine wp_run rfl ?_
  refine wp_putF (h1 := (h0 ++ [.inr (.inr (0, [.ref (h0.length + 1), .ref (h0.length + 2), .null, .null, .null, .null, .int 0, .int 0, .int 0])), .inl (0, 3, (upd (upd (upd z0F 0 16) 1 2) 2 50)), .inl (0, 6, (upd (upd (upd (upd (upd (upd z0F 0 60) 1 60) 2 60) 3 60) 4 60) 5 60))])) rfl (gA 0) (Nat.le_of_ble_eq_true rfl) ⟨rfl, rfl, fun _ hz_ => by cases hz_⟩ (gS 0 _) ?_
  refine wp_run rfl ?_
  refine wp_newa (q := h0.length + 3) (N := 24) (h1 := (h0 ++ [.inr (.inr (0, [.ref (h0.length + 1), .ref (h0.length + 2), .null, .null, .null, .null, .int 0, .int 0, .int 0])), .inl (0, 3, (upd (upd (upd z0F 0 16) 1 2) 2 50)), .inl (0, 6, (upd (upd (upd (upd (upd (upd z0F 0 60) 1 60) 2 60) 3 60) 4 60) 5 60)), .inl (0, 24, z0F)])) rfl (by decide) (by decide) (by decide) (gL rfl) (gP rfl) ?_
  refine wp_run rfl ?_
  refine wp_putF (h1 := (h0 ++ [.inr (.inr (0, [.ref (h0.length + 1), .ref (h0.length + 2), .ref (h0.length + 3), .null, .null, .null, .int 0, .int 0, .int 0])), .inl (0, 3, (upd (upd (upd z0F 0 16) 1 2) 2 50)), .inl (0, 6, (upd (upd (upd (upd (upd (upd z0F 0 60) 1 60) 2 60) 3 60) 4 60) 5 60)), .inl (0, 24, z0F)])) rfl (gA 0) (Nat.le_of_ble_eq_true rfl) ⟨rfl, rfl, fun _ hz_ => by cases hz_⟩ (gS 0 _) ?_
  refine wp_run rfl ?_
  refine wp_newa (q := h0.length + 4) (N := 24) (h1 := (h0 ++ [.inr (.inr (0, [.ref (h0.length + 1), .ref (h0.length + 2), .ref (h0.length + 3), .null, .null, .null, .int 0, .int 0, .int 0])), .inl (0, 3, (upd (upd (upd z0F 0 16) 1 2) 2 50)), .inl (0, 6, (upd (upd (upd (upd (upd (upd z0F 0 60) 1 60) 2 60) 3 60) 4 60) 5 60)), .inl (0, 24, z0F), .inl (0, 24, z0F)])) rfl (by decide) (by decide) (by decide) (gL rfl) (gP rfl) ?_
  refine wp_run rfl ?_
  refine wp_putF (h1 := (h0 ++ [.inr (.inr (0, [.ref (h0.length + 1), .ref (h0.length + 2), .ref (h0.length + 3), .ref (h0.length + 4), .null, .null, .int 0, .int 0, .int 0])), .inl (0, 3, (upd (upd (upd z0F 0 16) 1 2) 2 50)), .inl (0, 6, (upd (upd (upd (upd (upd (upd z0F 0 60) 1 60) 2 60) 3 60) 4 60) 5 60)), .inl (0, 24, z0F), .inl (0, 24, z0F)])) rfl (gA 0) (Nat.le_of_ble_eq_true rfl) ⟨rfl, rfl, fun _ hz_ => by cases hz_⟩ (gS 0 _) ?_
  refine wp_run rfl ?_
  refine wp_newa (q := h0.length + 5) (N := 24) (h1 := (h0 ++ [.inr (.inr (0, [.ref (h0.length + 1), .ref (h0.length + 2), .ref (h0.length + 3), .ref (h0.length + 4), .null, .null, .int 0, .int 0, .int 0])), .inl (0, 3, (upd (upd (upd z0F 0 16) 1 2) 2 50)), .inl (0, 6, (upd (upd (upd (upd (upd (upd z0F 0 60) 1 60) 2 60) 3 60) 4 60) 5 60)), .inl (0, 24, z0F), .inl (0, 24, z0F), .inl (0, 24, z0F)])) rfl (by decide) (by decide) (by decide) (gL rfl) (gP rfl) ?_
  refine wp_run rfl ?_
  refine wp_putF (h1 := (h0 ++ [.inr (.inr (0, [.ref (h0.length + 1), .ref (h0.length + 2), .ref (h0.length + 3), .ref (h0.length + 4), .ref (h0.length + 5), .null, .int 0, .int 0, .int 0])), .inl (0, 3, (upd (upd (upd z0F 0 16) 1 2) 2 50)), .inl (0, 6, (upd (upd (upd (upd (upd (upd z0F 0 60) 1 60) 2 60) 3 60) 4 60) 5 60)), .inl (0, 24, z0F), .inl (0, 24, z0F), .inl (0, 24, z0F)])) rfl (gA 0) (Nat.le_of_ble_eq_true rfl) ⟨rfl, rfl, fun _ hz_ => by cases hz_⟩ (gS 0 _) ?_
  refine wp_run rfl ?_
  refine wp_newa (q := h0.length + 6) (N := 24) (h1 := (h0 ++ [.inr (.inr (0, [.ref (h0.length + 1), .ref (h0.length + 2), .ref (h0.length + 3), .ref (h0.length + 4), .ref (h0.length + 5), .null, .int 0, .int 0, .int 0])), .inl (0, 3, (upd (upd (upd z0F 0 16) 1 2) 2 50)), .inl (0, 6, (upd (upd (upd (upd (upd (upd z0F 0 60) 1 60) 2 60) 3 60) 4 60) 5 60)), .inl (0, 24, z0F), .inl (0, 24, z0F), .inl (0, 24, z0F), .inl (0, 24, z0F)])) rfl (by decide) (by decide) (by decide) (gL rfl) (gP rfl) ?_
  refine wp_run rfl ?_
  refine wp_putF (h1 := (h0 ++ [.inr (.inr (0, [.ref (h0.length + 1), .ref (h0.length + 2), .ref (h0.length + 3), .ref (h0.length + 4), .ref (h0.length + 5), .ref (h0.length + 6), .int 0, .int 0, .int 0])), .inl (0, 3, (upd (upd (upd z0F 0 16) 1 2) 2 50)), .inl (0, 6, (upd (upd (upd (upd (upd (upd z0F 0 60) 1 60) 2 60) 3 60) 4 60) 5 60)), .inl (0, 24, z0F), .inl (0, 24, z0F), .inl (0, 24, z0F), .inl (0, 24, z0F)])) rfl (gA 0) (Nat.le_of_ble_eq_true rfl) ⟨rfl, rfl, fun _ hz_ => by cases hz_⟩ (gS 0 _) ?_
  refine wp_run rfl ?_
  exact wp_retv rfl ⟨rfl, rfl⟩
end AX29
end
section
/-! THE CLASS: the boards that are kept (six states and one more, two slots), and the history. -/
/-- who keeps a board: the seven states, the two slots -/
def zO (sf lf : Nat → Option Nat) : Nat → Option Nat := fun i => if i < 7 then sf i else lf (i - 7)
def ZB (h : axH) (bo : Nat → Option Nat) : Prop := (∀ i, i < 9 → ∀ o, bo i = some o → 15 ≤ o ∧ ∃ C, HBd h o C) ∧ ∀ i j, i < 9 → j < 9 → i ≠ j → ∀ o q, bo i = some o → bo j = some q → o + 7 ≤ q ∨ q + 7 ≤ o
/-- the i-th holds the board A -/
def ZH (h : axH) (bo : Nat → Option Nat) (i : Nat) (A : axAD) : Prop := ∃ o C, bo i = some o ∧ HBd h o C ∧ CR C A ∧ aOk A
theorem HBd_same {h h' : axH} {o : Nat} {C : axBD} (hC : HBd h o C) (hs : ∀ k, o ≤ k → k < o + 7 → h'[k]? = h[k]?) : HBd h' o C := by
  obtain ⟨b0, b1, b2, b3, b4, b5, b6⟩ := hC
  exact ⟨(hs _ (by omega) (by omega)).trans b0, (hs _ (by omega) (by omega)).trans b1, (hs _ (by omega) (by omega)).trans b2, (hs _ (by omega) (by omega)).trans b3, (hs _ (by omega) (by omega)).trans b4, (hs _ (by omega) (by omega)).trans b5, (hs _ (by omega) (by omega)).trans b6⟩
theorem HBd_lt {h : axH} {o : Nat} {C : axBD} (hC : HBd h o C) : o + 7 ≤ h.length := by
  have := (List.getElem?_eq_some_iff.mp hC.2.2.2.2.2.2).1
  omega
theorem HBd_app {h l : axH} {o : Nat} {C : axBD} (hC : HBd h o C) : HBd (h ++ l) o C := HBd_same hC fun k h1 h2 => List.getElem?_append_left (by have := HBd_lt hC; omega)
theorem HBd_new {h : axH} {C : axBD} : HBd (h ++ bdL h.length C) h.length C := ⟨gA 0, gA 1, gA 2, gA 3, gA 4, gA 5, gA 6⟩
section AX30
variable {ro : axRo} {d : Nat} {h : axH} {A : axAD} {B : axBD} {bo : Nat → Option Nat}
theorem x4_copyInto (hB : HBd h 1 B) (hC : CR B A) (hO : aOk A) (hl : 15 ≤ h.length) (hZ : ZB h bo) {i : Nat} (hi : i < 9) : ∃ o h', axEv ro (d + 2) kX4_copyInto [va_rf (bo i), .ref 1] h (some (.ref o)) h' ∧ ZB h' (va_up bo i (some o)) ∧ ZH h' (va_up bo i (some o)) i A ∧ (∀ j, j < 9 → j ≠ i → ∀ A', ZH h bo j A' → ZH h' (va_up bo i (some o)) j A') ∧ (∀ k, k < 15 → h'[k]? = h[k]?) ∧ (∃ fs, h'[o]? = some (.inr (.inr (0, fs)))) ∧ h.length ≤ h'.length ∧ h'.length ≤ h.length + 7 ∧ axSl h' ≤ axSl h + 114 := by
  obtain ⟨Z1, Z2⟩ := hZ
  -- what follows from the copy at o
  have fin : ∀ o h1 h', 15 ≤ o → HBd h' o (bCp B h1) → (∀ k, k < o ∨ o + 7 ≤ k → k < h.length → h'[k]? = h[k]?) → (∀ j, j < 9 → j ≠ i → ∀ q, bo j = some q → o + 7 ≤ q ∨ q + 7 ≤ o) → ZB h' (va_up bo i (some o)) ∧ ZH h' (va_up bo i (some o)) i A ∧ (∀ j, j < 9 → j ≠ i → ∀ A', ZH h bo j A' → ZH h' (va_up bo i (some o)) j A') ∧ (∀ k, k < 15 → h'[k]? = h[k]?) ∧ (∃ fs, h'[o]? = some (.inr (.inr (0, fs)))) := by
    intro o C h' ho hH hs ha
    have keep : ∀ j, j < 9 → j ≠ i → ∀ q, bo j = some q → ∀ C', HBd h q C' → HBd h' q C' := fun j hj hji q hq C' hC' => HBd_same hC' fun k h1 h2 => by
      have := ha j hj hji q hq
      have := HBd_lt hC'
      exact hs k (by omega) (by omega)
    refine ⟨⟨fun j hj q hq => ?_, fun j l hj hl hjl q r hq hr => ?_⟩, ⟨o, _, va_is, hH, cr_cp hO hC, hO⟩, fun j hj hji A' ⟨q, C', e1, e2, e3⟩ => ⟨q, C', (va_no hji).trans e1, keep j hj hji q e1 C' e2, e3⟩, fun k hk => hs k (by omega) (by omega), ⟨_, hH.1⟩⟩
    · by_cases e : j = i
      · subst e
        rw [va_is] at hq
        cases hq
        exact ⟨ho, _, hH⟩
      · rw [va_no e] at hq
        obtain ⟨z1, C', z2⟩ := Z1 j hj q hq
        exact ⟨z1, C', keep j hj e q hq C' z2⟩
    · by_cases e : j = i
      · subst e
        rw [va_is] at hq
        cases hq
        rw [va_no (fun z => hjl z.symm)] at hr
        exact ha l hl (fun z => hjl z.symm) r hr
      · rw [va_no e] at hq
        by_cases e2 : l = i
        · subst e2
          rw [va_is] at hr
          cases hr
          exact (ha j hj e q hq).symm
        · rw [va_no e2] at hr
          exact Z2 j l hj hl hjl q r hq hr
  cases hb : bo i with
  | none =>
    obtain ⟨h', hev, hH, hsm, hlen, hsl⟩ := x0_takeOver (ro := ro) (d := d) (h := h ++ bdL h.length bIni) (o := h.length) (q := 1) (HBd_app hB) HBd_new (Or.inr (by omega))
    have hlen2 : h'.length = h.length + 7 := by rw [hlen, List.length_append]; rfl
    have hsl2 : axSl h' = axSl h + 114 := by
      rw [hsl]
      unfold axSl
      rw [List.map_append, List.sum_append]
      rfl
    obtain ⟨f1, f2, f3, f4, f5⟩ := fin h.length bIni h' hl hH (fun k hk hkl => (hsm k hk).trans (List.getElem?_append_left hkl)) (fun j hj _ q hq => by
      obtain ⟨_, C', z2⟩ := Z1 j hj q hq
      have := HBd_lt z2
      omega)
    refine ⟨h.length, h', ?_, f1, f2, f3, f4, f5, by omega, by omega, by omega⟩
    refine ev_in rfl rfl (Nat.le_of_ble_eq_true rfl) rfl ?_
    refine wp_run rfl ?_
    refine wp_nnN rfl ?_
    refine wp_new (q := h.length) (h1 := h ++ [.inr (.inr (0, axDf 0))]) rfl rfl rfl ?_
    refine wp_run rfl ?_
    refine wp_i0 rfl (Nat.le_of_ble_eq_true rfl) x0_init ?_
    refine wp_run rfl ?_
    refine wp_v1v rfl HBd_new.1 (Nat.le_of_ble_eq_true rfl) hev ?_
    refine wp_run rfl ?_
    exact wp_reta rfl ⟨rfl, rfl⟩
  | some o =>
    obtain ⟨z1, C, z2⟩ := Z1 i hi o hb
    obtain ⟨h', hev, hH, hsm, hlen, hsl⟩ := x0_takeOver (ro := ro) (d := d) (h := h) (o := o) (q := 1) hB z2 (Or.inr (by omega))
    obtain ⟨f1, f2, f3, f4, f5⟩ := fin o C h' z1 hH (fun k hk _ => hsm k hk) (fun j hj hji q hq => Z2 i j hi hj (fun z => hji z.symm) o q hb hq)
    refine ⟨o, h', ?_, f1, f2, f3, f4, f5, by omega, by omega, by omega⟩
    refine ev_in rfl rfl (Nat.le_of_ble_eq_true rfl) rfl ?_
    refine wp_run rfl ?_
    refine wp_nn rfl ?_
    refine wp_run rfl ?_
    refine wp_v1v rfl z2.1 (Nat.le_of_ble_eq_true rfl) hev ?_
    refine wp_run rfl ?_
    exact wp_reta rfl ⟨rfl, rfl⟩
end AX30
end
section
/-! THE CLASS: what is kept of earlier boards: prepare, settle, takeBack, save, restore. -/
theorem hX_get {B Y sl P G tl} {k : Nat} (hk : 15 ≤ k) : (hX B Y sl P G tl)[k]? = tl[k - 15]? := by
  show (hX B Y sl P G [] ++ tl)[k]? = _
  rw [List.getElem?_append_right hk]; rfl
theorem hX_len {B Y sl P G tl} : (hX B Y sl P G tl).length = 15 + tl.length := by
  show (hX B Y sl P G [] ++ tl).length = _
  rw [List.length_append]; rfl
theorem hX_to {B Y sl P G} {mc h' : axH} (h1 : ∀ k, k < 15 → h'[k]? = (hX B Y sl P G [])[k]?) (h2 : ∀ k, 15 ≤ k → k < 15 → h'[k]? = mc[k - 15]?) (hm : mc.length = 0) : ∃ bs, h' = hX B Y sl P G (mc ++ bs) := by
  refine ⟨h'.drop 15, List.ext_getElem? fun k => ?_⟩
  by_cases a : k < 15
  · rw [h1 k a]
    show _ = (hX B Y sl P G [] ++ (mc ++ h'.drop 15))[k]?
    rw [List.getElem?_append_left (show k < (hX B Y sl P G []).length from a)]
  · rw [hX_get (by omega)]
    by_cases b : k < 15
    · rw [h2 k (by omega) b, List.getElem?_append_left (by omega)]
    · rw [List.getElem?_append_right (by omega), hm, List.getElem?_drop]
      congr 1; omega
theorem ZB_same {h h' : axH} {bo : Nat → Option Nat} (hZ : ZB h bo) (hs : ∀ k, 15 ≤ k → h'[k]? = h[k]?) : ZB h' bo :=
  ⟨fun i hi o ho => by
    obtain ⟨a, C, b⟩ := hZ.1 i hi o ho
    exact ⟨a, C, HBd_same b fun k h1 _ => hs k (by omega)⟩, hZ.2⟩
theorem ZH_same {h h' : axH} {bo : Nat → Option Nat} {i : Nat} {A : axAD} (hi : i < 9) (hB : ZB h bo) (hZ : ZH h bo i A) (hs : ∀ k, 15 ≤ k → h'[k]? = h[k]?) : ZH h' bo i A := by
  obtain ⟨o, C, a, b, c⟩ := hZ
  have := (hB.1 i hi o a).1
  exact ⟨o, C, a, HBd_same b fun k h1 _ => hs k (by omega), c⟩
/-- what is kept: the states (the next to be written, how many), the slots -/
def KP (h : axH) (sf lf : Nat → Option Nat) (nx k : Nat) (hs : Nat → axAD) (sv : Nat → Option axAD) : Prop :=
  nx < 7 ∧ k ≤ 6 ∧ ZB h (zO sf lf) ∧ (∀ j, j < k → ZH h (zO sf lf) ((nx + 6 - j) % 7) (hs j)) ∧ (∀ i, i < 2 → (sv i = none → lf i = none) ∧ ∀ A, sv i = some A → ZH h (zO sf lf) (7 + i) A)
theorem KP_same {h h' : axH} {sf lf : Nat → Option Nat} {nx k : Nat} {hs : Nat → axAD} {sv : Nat → Option axAD} (hK : KP h sf lf nx k hs sv) (hs' : ∀ k, 15 ≤ k → h'[k]? = h[k]?) : KP h' sf lf nx k hs sv := by
  obtain ⟨k1, k2, k3, k4, k5⟩ := hK
  exact ⟨k1, k2, ZB_same k3 hs', fun j hj => ZH_same (by omega) k3 (k4 j hj) hs', fun i hi => ⟨(k5 i hi).1, fun A hA => ZH_same (by omega) k3 ((k5 i hi).2 A hA) hs'⟩⟩
theorem hX_same {B Y sl P G B' Y' sl' P' G' tl} : ∀ k, 15 ≤ k → (hX B' Y' sl' P' G' tl)[k]? = (hX B Y sl P G tl)[k]? := fun k hk => by rw [hX_get (by omega), hX_get (by omega)]
theorem KP_go {B Y sl P G B' Y' sl' P' G' tl} {sf lf : Nat → Option Nat} {nx k : Nat} {hs : Nat → axAD} {sv : Nat → Option axAD} (hK : KP (hX B Y sl P G tl) sf lf nx k hs sv) : KP (hX B' Y' sl' P' G' tl) sf lf nx k hs sv := KP_same hK hX_same
theorem ZH_go {B Y sl P G B' Y' sl' P' G' tl} {bo : Nat → Option Nat} {i : Nat} {A : axAD} (hi : i < 9) (hB : ZB (hX B Y sl P G tl) bo) (hZ : ZH (hX B Y sl P G tl) bo i A) : ZH (hX B' Y' sl' P' G' tl) bo i A := ZH_same hi hB hZ hX_same
theorem zO_st {sf lf : Nat → Option Nat} {i : Nat} {v : Option Nat} (hi : i < 7) : va_up (zO sf lf) i v = zO (va_up sf i v) lf := by
  funext j
  by_cases e : j = i
  · subst e
    rw [va_is]; unfold zO; rw [if_pos hi, va_is]
  · rw [va_no e]; unfold zO
    by_cases e2 : j < 7
    · rw [if_pos e2, if_pos e2, va_no e]
    · rw [if_neg e2, if_neg e2]
theorem zO_sl {sf lf : Nat → Option Nat} {i : Nat} {v : Option Nat} : va_up (zO sf lf) (7 + i) v = zO sf (va_up lf i v) := by
  funext j
  by_cases e : j = 7 + i
  · subst e
    rw [va_is]; unfold zO; rw [if_neg (by omega), Nat.add_sub_cancel_left, va_is]
  · rw [va_no e]; unfold zO
    by_cases e2 : j < 7
    · rw [if_pos e2, if_pos e2]
    · rw [if_neg e2, if_neg e2, va_no (by omega)]
section AX31
variable {ro : axRo} {d : Nat} {h : axH} {A : axAD} {B : axBD} {sf lf : Nat → Option Nat} {nx k : Nat} {hs : Nat → axAD} {sv : Nat → Option axAD} {P : axPD} {G : axGD} {mc bs tl : axH} {Y : axYD} {sl : Nat → Option Nat}
theorem axSl_apps (a b : axH) : axSl (a ++ b) = axSl a + axSl b := by
  unfold axSl; rw [List.map_append, List.sum_append]
theorem axSl_hX {bs' : axH} : axSl (hX B Y sl P G (mc ++ bs')) + axSl bs = axSl (hX B Y sl P G (mc ++ bs)) + axSl bs' := by
  show axSl (hX B Y sl P G [] ++ (mc ++ bs')) + axSl bs = axSl (hX B Y sl P G [] ++ (mc ++ bs)) + axSl bs'
  rw [axSl_apps, axSl_apps, axSl_apps, axSl_apps]; omega
theorem x1_prepare (hm : mc.length = 0) (hC : CR B A) (hO : aOk A) (hK : KP (hX B (sf, nI nx, nI k) lf P G (mc ++ bs)) sf lf nx k hs sv) : ∃ sf' bs', axEv ro (d + 3) kX1_prepare [.ref 8, .ref 1] (hX B (sf, nI nx, nI k) lf P G (mc ++ bs)) none (hX B (sf', nI nx, nI k) lf P G (mc ++ bs')) ∧ KP (hX B (sf', nI nx, nI k) lf P G (mc ++ bs')) sf' lf nx k hs sv ∧ ZH (hX B (sf', nI nx, nI k) lf P G (mc ++ bs')) (zO sf' lf) nx A ∧ bs'.length ≤ bs.length + 7 ∧ axSl bs' ≤ axSl bs + 114 := by
  obtain ⟨k1, k2, k3, k4, k5⟩ := hK
  obtain ⟨o, h', hev, z1, z2, z3, hsm, ⟨fs, hfs⟩, -, hl2, hsl⟩ := x4_copyInto (ro := ro) (d := d) (B := B) (i := nx) ⟨rfl, rfl, rfl, rfl, rfl, rfl, rfl⟩ hC hO (by rw [hX_len, List.length_append, hm]; omega) k3 (by omega)
  rw [zO_st k1] at z1 z2 z3
  have hbo : zO sf lf nx = sf nx := if_pos k1
  rw [hbo] at hev
  obtain ⟨bs', e⟩ := hX_to (B := B) (Y := (sf, nI nx, nI k)) (sl := lf) (P := P) (G := G) (mc := mc) (h' := h') (fun k hk => (hsm k (by omega)).trans (by
      show (hX B _ lf P G [] ++ (mc ++ bs))[k]? = _
      rw [List.getElem?_append_left (show k < (hX B (sf, nI nx, _) lf P G []).length from hk)])) (fun k h1 h2 => (hsm k h2).trans (by rw [hX_get h1, List.getElem?_append_left (by omega)])) hm
  subst e
  rw [hX_len, hX_len, List.length_append, List.length_append] at hl2
  have hsl2 := axSl_hX (B := B) (Y := (sf, nI nx, nI k)) (sl := lf) (P := P) (G := G) (mc := mc) (bs := bs) (bs' := bs')
  refine ⟨va_up sf nx (some o), bs', ?_, KP_go (Y := (sf, nI nx, nI k)) (B := B) (sl := lf) (P := P) (G := G) ⟨k1, k2, z1, fun j hj => z3 _ (by omega) (by omega) _ (k4 j hj), fun i hi => ⟨(k5 i hi).1, fun A' hA => z3 _ (by omega) (by omega) _ ((k5 i hi).2 A' hA)⟩⟩, ZH_go (by omega) z1 z2, by omega, by omega⟩
  refine ev_in rfl rfl (Nat.le_of_ble_eq_true rfl) rfl ?_
  refine wp_run rfl ?_
  refine wp_iflt rfl (fun hz_ => absurd hz_ (nI_pos (by omega))) (fun _ => ?_)
  refine wp_run rfl ?_
  refine wp_icge rfl (fun hz_ => absurd hz_ (nI_ge (b := 7) k1 (by omega))) (fun _ => ?_)
  refine wp_run rfl ?_
  refine wp_aald rfl rfl (vp_in_nI k1 (by decide)) (by rw [nI_clamp (by omega)]) ?_
  refine wp_run rfl ?_
  refine wp_s2 rfl (Nat.le_of_ble_eq_true rfl) (hev) ?_
  refine wp_run rfl ?_
  refine wp_aast (h1 := hX B (va_up sf nx (some o), nI nx, nI k) lf P G (mc ++ bs')) rfl rfl hfs (vp_in_nI k1 (by decide)) (by rw [nI_clamp (by omega)]; rfl) ?_
  refine wp_run rfl ?_
  exact wp_retv rfl ⟨rfl, rfl⟩
theorem x1_settle_neg {x : Int32} (hx : x < 0) : axEv ro (d + 1) kX1_settle [.ref 8, .int x] h (some (.int x)) h := by
  refine ev_in rfl rfl (Nat.le_of_ble_eq_true rfl) rfl ?_
  refine wp_run rfl ?_
  refine wp_iflt rfl (fun _ => ?_) (fun hz_ => absurd (hx) hz_)
  refine wp_run rfl ?_
  exact wp_ret rfl rfl ⟨rfl, rfl⟩
theorem x1_settle {n : Nat} (hn : n < 2 ^ 31) (h1 : nx < 7) (h2 : k ≤ 6) : axEv ro (d + 1) kX1_settle [.ref 8, .int (nI n)] (hX B (sf, nI nx, nI k) sl P G tl) (some (.int (nI n))) (hX B (sf, nI ((nx + 1) % 7), nI (min (k + 1) 6)) sl P G tl) := by
  refine ev_in rfl rfl (Nat.le_of_ble_eq_true rfl) rfl ?_
  refine wp_run rfl ?_
  refine wp_iflt rfl (fun hz_ => absurd hz_ (nI_pos hn)) (fun _ => ?_)
  refine wp_run rfl ?_
  generalize hz : (nx + 1) % 7 = z
  have key : axW ro (axEv ro d) cdX1_settle 29 [some (.ref 8), some (.int (nI n))] [.int (nI z), .ref 8] (hX B (sf, nI nx, nI k) sl P G tl) (fun r' h' => r' = some (.int (nI n)) ∧ h' = hX B (sf, nI z, nI (min (k + 1) 6)) sl P G tl) := by
    refine wp_putf (h1 := hX B (sf, nI z, nI k) sl P G tl) rfl rfl (Nat.le_of_ble_eq_true rfl) ⟨rfl, rfl, fun _ hz_ => by cases hz_⟩ rfl ?_
    refine wp_run rfl ?_
    rw [nI_1]
    refine wp_min rfl (Nat.le_of_ble_eq_true rfl) ((nI_min (b := 6) (by omega) (by omega))) ?_
    refine wp_run rfl ?_
    refine wp_putf (h1 := hX B (sf, nI z, nI (min (k + 1) 6)) sl P G tl) rfl rfl (Nat.le_of_ble_eq_true rfl) ⟨rfl, rfl, fun _ hz_ => by cases hz_⟩ rfl ?_
    refine wp_run rfl ?_
    exact wp_ret rfl rfl ⟨rfl, rfl⟩
  rw [nI_1]
  by_cases e : nx + 1 < 7
  · refine wp_icge rfl (fun hz_ => absurd hz_ (nI_ge (b := 7) e (by omega))) (fun _ => ?_)
    refine wp_run rfl ?_
    rw [nI_1, show nx + 1 = z by omega]
    exact key
  · refine wp_icge rfl (fun _ => ?_) (fun hz_ => absurd (nI_le (a := 7) (by omega) (by omega)) hz_)
    refine wp_run rfl ?_
    have hz0 : z = 0 := by omega
    subst hz0
    exact key
theorem KP_settle (hK : KP h sf lf nx k hs sv) (hZ : ZH h (zO sf lf) nx A) : KP h sf lf ((nx + 1) % 7) (min (k + 1) 6) (fun j => if j = 0 then A else hs (j - 1)) sv := by
  obtain ⟨k1, k2, k3, k4, k5⟩ := hK
  refine ⟨by omega, by omega, k3, fun j hj => ?_, k5⟩
  by_cases e : j = 0
  · subst e
    show ZH h (zO sf lf) (((nx + 1) % 7 + 6 - 0) % 7) (if 0 = 0 then A else hs (0 - 1))
    rw [if_pos rfl, show ((nx + 1) % 7 + 6 - 0) % 7 = nx by omega]; exact hZ
  · show ZH h (zO sf lf) (((nx + 1) % 7 + 6 - j) % 7) (if j = 0 then A else hs (j - 1))
    rw [if_neg e, show ((nx + 1) % 7 + 6 - j) % 7 = (nx + 6 - (j - 1)) % 7 by omega]
    exact k4 (j - 1) (by omega)
theorem hX_bd (hm : mc.length = 0) {h' : axH} {B' : axBD} (h1 : HBd h' 1 B') (h2 : ∀ k, k < 1 ∨ 8 ≤ k → h'[k]? = (hX B Y sl P G (mc ++ bs))[k]?) : h' = hX B' Y sl P G (mc ++ bs) := by
  obtain ⟨b0, b1, b2, b3, b4, b5, b6⟩ := h1
  refine List.ext_getElem? fun k => ?_
  by_cases a : k < 8
  · match k, a with
    | 0, _ => exact h2 0 (by omega)
    | 1, _ => exact b0
    | 2, _ => exact b1
    | 3, _ => exact b2
    | 4, _ => exact b3
    | 5, _ => exact b4
    | 6, _ => exact b5
    | 7, _ => exact b6
    | n + 8, a => exact absurd a (by omega)
  · rw [h2 k (by omega)]
    by_cases b : k < 15
    · match k, a, b with
      | 8, _, _ => rfl
      | 9, _, _ => rfl
      | 10, _, _ => rfl
      | 11, _, _ => rfl
      | 12, _, _ => rfl
      | 13, _, _ => rfl
      | 14, _, _ => rfl
      | n + 15, _, b => exact absurd b (by omega)
    · rw [hX_get (by omega), hX_get (by omega)]
/-- the board is taken over from one that is kept -/
theorem x0_take (hm : mc.length = 0) {i : Nat} (hi : i < 9) (hB : ZB (hX B Y sl P G (mc ++ bs)) (zO sf lf)) (hZ : ZH (hX B Y sl P G (mc ++ bs)) (zO sf lf) i A) : ∃ o B', zO sf lf i = some o ∧ axEv ro (d + 1) kX0_takeOver [.ref 1, .ref o] (hX B Y sl P G (mc ++ bs)) none (hX B' Y sl P G (mc ++ bs)) ∧ CR B' A ∧ aOk A := by
  obtain ⟨o, C, a, b, c, e⟩ := hZ
  have ho := (hB.1 i hi o a).1
  obtain ⟨h', hev, hH, hsm, -, -⟩ := x0_takeOver (ro := ro) (d := d) (o := 1) (q := o) (C := B) b ⟨rfl, rfl, rfl, rfl, rfl, rfl, rfl⟩ (by omega)
  have := hX_bd hm hH hsm
  subst this
  exact ⟨o, bCp C B, a, hev, cr_cp e c, e⟩
theorem x1_takeBack_no (h1 : nx < 7) (h2 : k = 0) : axEv ro (d + 2) kX1_takeBack [.ref 8, .ref 1] (hX B (sf, nI nx, nI k) sl P G tl) (some (.int (-5))) (hX B (sf, nI nx, nI k) sl P G tl) := by
  subst h2
  refine ev_in rfl rfl (Nat.le_of_ble_eq_true rfl) rfl ?_
  refine wp_run rfl ?_
  by_cases e : nx = 0
  · subst e
    refine wp_ifle rfl (fun _ => ?_) (fun hz_ => absurd ((by decide : (nI 0) ≤ 0)) hz_)
    refine wp_run rfl ?_
    refine wp_ifle rfl (fun _ => ?_) (fun hz_ => absurd ((by decide : (nI 0) ≤ 0)) hz_)
    refine wp_run rfl ?_
    exact wp_ret rfl rfl ⟨rfl, rfl⟩
  · refine wp_ifle rfl (fun hz_ => absurd hz_ (nI_nle (by omega) (by omega))) (fun _ => ?_)
    refine wp_run rfl ?_
    refine wp_ifle rfl (fun _ => ?_) (fun hz_ => absurd ((by decide : (nI 0) ≤ 0)) hz_)
    refine wp_run rfl ?_
    exact wp_ret rfl rfl ⟨rfl, rfl⟩
theorem x1_takeBack (hm : mc.length = 0) (h2 : 0 < k) (hK : KP (hX B (sf, nI nx, nI k) lf P G (mc ++ bs)) sf lf nx k hs sv) : ∃ B', axEv ro (d + 2) kX1_takeBack [.ref 8, .ref 1] (hX B (sf, nI nx, nI k) lf P G (mc ++ bs)) (some (.int (nI (k - 1)))) (hX B' (sf, nI ((nx + 6) % 7), nI (k - 1)) lf P G (mc ++ bs)) ∧ CR B' (hs 0) ∧ aOk (hs 0) ∧ KP (hX B' (sf, nI ((nx + 6) % 7), nI (k - 1)) lf P G (mc ++ bs)) sf lf ((nx + 6) % 7) (k - 1) (fun j => hs (j + 1)) sv := by
  obtain ⟨k1, k2, k3, k4, k5⟩ := hK
  obtain ⟨o, B', ho, hev, hC, hO⟩ := x0_take (ro := ro) (d := d) hm (by omega) k3 (k4 0 h2)
  rw [show (nx + 6 - 0) % 7 = (nx + 6) % 7 by omega] at ho
  have hlt : (nx + 6) % 7 < 7 := by omega
  have ho : sf ((nx + 6) % 7) = some o := by rw [← ho]; unfold zO; rw [if_pos hlt]
  refine ⟨B', ?_, hC, hO, KP_go (B := B) (Y := (sf, nI nx, nI k)) (sl := lf) (P := P) (G := G) ⟨by omega, by omega, k3, fun j hj => ?_, k5⟩⟩
  · have key : axW ro (axEv ro (d + 1)) cdX1_takeBack 23 [some (.ref 8), some (.ref 1), none, none] [.int (nI ((nx + 6) % 7))] (hX B (sf, nI nx, nI k) lf P G (mc ++ bs)) (fun r' h' => r' = some (.int (nI (k - 1))) ∧ h' = hX B' (sf, nI ((nx + 6) % 7), nI (k - 1)) lf P G (mc ++ bs)) := by
      refine wp_run rfl ?_
      refine wp_ifle rfl (fun hz_ => absurd hz_ (nI_nle (by omega) (by omega))) (fun _ => ?_)
      refine wp_run rfl ?_
      refine wp_iclt rfl (fun _ => ?_) (fun hz_ => absurd (nI_lt (b := 7) hlt (by omega)) hz_)
      refine wp_run rfl ?_
      refine wp_aald (v := .ref o) rfl rfl (vp_in_nI hlt (by decide)) (by rw [nI_clamp (by omega)]; exact congrArg va_rf ho) ?_
      refine wp_run rfl ?_
      refine wp_nn rfl ?_
      refine wp_run rfl ?_
      refine wp_v1v rfl rfl (Nat.le_of_ble_eq_true rfl) (hev) ?_
      refine wp_run rfl ?_
      refine wp_putf (h1 := hX B' (sf, nI ((nx + 6) % 7), nI k) lf P G (mc ++ bs)) rfl rfl (Nat.le_of_ble_eq_true rfl) ⟨rfl, rfl, fun _ hz_ => by cases hz_⟩ rfl ?_
      refine wp_run rfl ?_
      rw [nI_p1 h2]
      refine wp_putf (h1 := hX B' (sf, nI ((nx + 6) % 7), nI (k - 1)) lf P G (mc ++ bs)) rfl rfl (Nat.le_of_ble_eq_true rfl) ⟨rfl, rfl, fun _ hz_ => by cases hz_⟩ rfl ?_
      refine wp_run rfl ?_
      exact wp_ret rfl rfl ⟨rfl, rfl⟩
    refine ev_in rfl rfl (Nat.le_of_ble_eq_true rfl) rfl ?_
    refine wp_run rfl ?_
    by_cases e : nx = 0
    · subst e
      refine wp_ifle rfl (fun _ => ?_) (fun hz_ => absurd ((by decide : (nI 0) ≤ 0)) hz_)
      refine wp_runk 5 rfl ?_
      exact key
    · refine wp_ifle rfl (fun hz_ => absurd hz_ (nI_nle (by omega) (by omega))) (fun _ => ?_)
      refine wp_runk 5 rfl ?_
      rw [nI_p1 (by omega), show nx - 1 = (nx + 6) % 7 by omega]
      exact key
  · have := k4 (j + 1) (by omega)
    rw [show ((nx + 6) % 7 + 6 - j) % 7 = (nx + 6 - (j + 1)) % 7 by omega]
    exact this
theorem x1_size : axEv ro (d + 1) kX1_size [.ref 8] (hX B Y sl P G tl) (some (.int Y.2.2)) (hX B Y sl P G tl) := by
  refine ev_in rfl rfl (Nat.le_of_ble_eq_true rfl) rfl ?_
  refine wp_run rfl ?_
  exact wp_ret rfl rfl ⟨rfl, rfl⟩
end AX31
end
section
/-! THE CLASS: the best swap. -/
def exG (g : Nat → Int32) (p q : Nat) : Nat → Int32 := upd (upd g p (g q)) q (g p)
theorem exG_exG (g : Nat → Int32) {p q : Nat} (h : p ≠ q) : exG (exG g p q) p q = g := by
  funext i
  unfold exG
  rw [upd_up, upd_up, upd_up, upd_up, upd_up, upd_up, upd_up, upd_up]
  by_cases e : i = q
  · rw [if_pos e, if_neg h, if_pos rfl, e]
  · rw [if_neg e]
    by_cases e2 : i = p
    · rw [if_pos e2, if_pos rfl, e2]
    · rw [if_neg e2, if_neg e, if_neg e2]
theorem aHi_gt {A : axAD} (hO : aOk A) {i : Nat} (hi : i < aN A) : i < aHi A i := by
  by_cases e : aHi A i ≤ i
  · have hlt : aHi A i < aN A := by omega
    have := aFst_yes (fun p => bt (aD A (aR A p)) (aR A i)) (aN A) hlt
    obtain ⟨j, hj, e2⟩ := hO.d hlt this
    have := hO.inj (show j < aN A by omega) hi e2
    have : j < aHi A i := hj
    omega
  · omega
theorem aHi_le (A : axAD) (i : Nat) : aHi A i ≤ aN A := aFst_le _ _
theorem aLo_le {A : axAD} (hO : aOk A) {i : Nat} (hi : i < aN A) : aLo A i ≤ i := by
  have key : ∀ n, n ≤ aN A → aLoF A (aD A (aR A i)) n ≤ i := by
    intro n
    induction n with
    | zero => intro _; exact Nat.zero_le _
    | succ n ih =>
      intro hn
      rw [aLoF]
      split
      · rename_i hb
        obtain ⟨j, hj, e⟩ := hO.d hi hb
        have := hO.inj (show j < aN A by omega) (show n < aN A by omega) e
        omega
      · exact ih (by omega)
  exact key _ (Nat.le_refl _)
theorem aAll_le {A : axAD} (hn : aN A ≤ 24) (hb : ∀ i, i < aN A → aB A (aR A i) ≤ 99) (ht : ∀ a, a < 6 → aTg A a ≤ 999) : aAll A ≤ 70000 := by
  obtain ⟨h1, h2, h3⟩ := aFo_le hn hb ht _ (Nat.le_refl _)
  have h5 : aTgt A (aFo A (aN A)).2.1 ≤ 999 := ht (min (aFo A (aN A)).2.1 5) (by omega)
  unfold aAll
  generalize aFo A (aN A) = q at *
  generalize aTgt A q.2.1 = t at *
  have : aN A * 2400 ≤ 24 * 2400 := Nat.mul_le_mul_right _ hn
  have : aN A * 99 ≤ 24 * 99 := Nat.mul_le_mul_right _ hn
  split <;> omega
theorem aAll_lt {A : axAD} (hO : aOk A) : aAll A ≤ 70000 := aAll_le hO.n (fun i hi => by have := hO.b hi; omega) (fun a ha => (hO.tg ha).2)
theorem aSwp_is {A : axAD} {p q i : Nat} (hp : p < aN A) (hq : q < aN A) (hi : i < aN A) : ∃ j, j < aN A ∧ aR (aSwp A p q) i = aR A j := by
  show ∃ j, j < aN A ∧ (if i = p then aR A q else if i = q then aR A p else aR A i) = aR A j
  by_cases e : i = p
  · exact ⟨q, hq, by rw [if_pos e]⟩
  · by_cases e2 : i = q
    · exact ⟨p, hp, by rw [if_neg e, if_pos e2]⟩
    · exact ⟨i, hi, by rw [if_neg e, if_neg e2]⟩
theorem aSwp_all {A : axAD} (hO : aOk A) {p q : Nat} (hp : p < aN A) (hq : q < aN A) : aAll (aSwp A p q) ≤ 70000 := by
  refine aAll_le hO.n (fun i hi => ?_) (fun a ha => (hO.tg ha).2)
  obtain ⟨j, hj, e⟩ := aSwp_is hp hq hi
  rw [e]
  have := hO.b hj
  exact Nat.le_trans this.2.1 this.2.2
/-- lower, higher place, how far off: of the best swap so far -/
abbrev axBS : Type := Nat × Nat × Nat
def aBst (A : axAD) (p q : Nat) (s : axBS) : axBS := if ((aLo A p ≤ q ∧ q < aHi A p) ∧ (aLo A q ≤ p ∧ p < aHi A q)) ∧ aAll (aSwp A p q) < s.2.2 then (p, q, aAll (aSwp A p q)) else s
def aBr (A : axAD) (p : Nat) : Nat → axBS → axBS
  | 0, s => s
  | m + 1, s => if p < m then aBst A p m (aBr A p m s) else aBr A p m s
def aBS (A : axAD) : Nat → axBS
  | 0 => (0, 0, aAll A)
  | p + 1 => aBr A p (aN A) (aBS A p)
theorem aBr_lo (A : axAD) {p : Nat} (s : axBS) : ∀ m, m ≤ p + 1 → aBr A p m s = s
  | 0, _ => rfl
  | m + 1, h => by rw [aBr, if_neg (by omega)]; exact aBr_lo A s m (by omega)
theorem aBr_hi (A : axAD) {p : Nat} (s : axBS) : ∀ m, aHi A p ≤ m → aBr A p m s = aBr A p (aHi A p) s := by
  intro m hm
  induction m with
  | zero => rw [show aHi A p = 0 by omega]
  | succ m ih =>
    by_cases e : aHi A p = m + 1
    · rw [e]
    · rw [aBr, ih (by omega)]
      split
      · unfold aBst; rw [if_neg (fun z => by have := z.1.1.2; omega)]
      · rfl
theorem aBst_le {A : axAD} {p q : Nat} {s : axBS} (hs : s.2.2 ≤ 70000) : (aBst A p q s).2.2 ≤ 70000 := by
  unfold aBst; split
  · rename_i h; have := h.2; show aAll (aSwp A p q) ≤ _; omega
  · exact hs
section AX32
variable {ro : axRo} {d : Nat} {h h1 : axH} {B : axBD} {Y : axYD} {sl : Nat → Option Nat} {P : axPD} {G : axGD} {tl : axH} {A : axAD} {g : Nat → Int32} {lo hi le : Int32}
theorem x3_exchange {p q : Nat} (hp : p < 24) (hq : q < 24) : axEv ro (d + 2) kX3_exchange [.ref 13, .int (nI p), .int (nI q)] ((hX B Y sl P ((g, lo, hi, le)) tl)) none ((hX B Y sl P ((exG g p q, lo, hi, le)) tl)) := by
  refine ev_in rfl rfl (Nat.le_of_ble_eq_true rfl) rfl ?_
  refine wp_run rfl ?_
  refine wp_s2 rfl (Nat.le_of_ble_eq_true rfl) (x4_cell rfl hp (by decide)) ?_
  refine wp_run rfl ?_
  refine wp_s2 rfl (Nat.le_of_ble_eq_true rfl) (x4_cell rfl hq (by decide)) ?_
  refine wp_run rfl ?_
  refine wp_s3v rfl (Nat.le_of_ble_eq_true rfl) (x4_store (h1 := (hX B Y sl P ((upd g p (g q), lo, hi, le)) tl)) rfl hp (by decide) rfl) ?_
  refine wp_run rfl ?_
  refine wp_s3v rfl (Nat.le_of_ble_eq_true rfl) (x4_store (h1 := (hX B Y sl P ((exG g p q, lo, hi, le)) tl)) rfl hq (by decide) rfl) ?_
  refine wp_run rfl ?_
  exact wp_retv rfl ⟨rfl, rfl⟩
/-- the search's numbers -/
def gOf (g : Nat → Int32) (s : axBS) : axGD := (g, nI s.1, nI s.2.1, nI s.2.2)
theorem x3_tryOne (hO : aOk A) (hC : CR B A) (hg : ∀ i, i < aN A → g i = nI (aR A i)) {p q : Nat} (hpq : p < q) (hq : q < aN A) (hm : aMay A p q) {s : axBS} (hs : s.2.2 ≤ 70000) : axEv ro (d + 4) kX3_tryOne [.ref 13, .ref 1, .int (nI p), .int (nI q)] ((hX B Y sl P (gOf g s) tl)) none ((hX B Y sl P (gOf g (aBst A p q s)) tl)) := by
  have hn := hO.n
  have hp : p < aN A := by omega
  have hall := aSwp_all hO hp hq
  have hex : ∀ i, i < aN A → exG g p q i = nI (aR (aSwp A p q) i) := fun i hi => by
    show upd (upd g p (g q)) q (g p) i = nI (if i = p then aR A q else if i = q then aR A p else aR A i)
    rw [upd_up, upd_up]
    by_cases e : i = q
    · rw [if_pos e, if_neg (by omega), if_pos e, hg p hp]
    · rw [if_neg e, if_neg e]
      by_cases e2 : i = p
      · rw [if_pos e2, if_pos e2, hg q hq]
      · rw [if_neg e2, if_neg e2, hg i hi]
  have hts : ∀ i, i < aN A → bt (bTn B) (aR (aSwp A p q) i) = aT (aSwp A p q) (aR (aSwp A p q) i) := fun i hi => by
    obtain ⟨j, hj, e⟩ := aSwp_is hp hq hi
    rw [e]; exact cr_tnr hC hj
  have hoff := x0_offOfRow (ro := ro) (d := d) (Y := Y) (sl := sl) (P := P) (G := (exG g p q, nI s.1, nI s.2.1, nI s.2.2)) (tl := tl) (A' := aSwp A p q) (rr := 14) (ord := exG g p q) (ts := bTn B) hO hC rfl rfl rfl rfl (fun i hi => aSwp_is hp hq hi) hex hts
  refine ev_in rfl rfl (Nat.le_of_ble_eq_true rfl) rfl ?_
  refine wp_run rfl ?_
  refine wp_v2v rfl rfl (Nat.le_of_ble_eq_true rfl) (x3_exchange (by omega) (by omega)) ?_
  refine wp_run rfl ?_
  refine wp_v0 rfl rfl (Nat.le_of_ble_eq_true rfl) (x0_allTurns) ?_
  refine wp_run rfl ?_
  refine wp_v2 rfl rfl (Nat.le_of_ble_eq_true rfl) (hoff) ?_
  refine wp_run rfl ?_
  refine wp_v2v rfl rfl (Nat.le_of_ble_eq_true rfl) (x3_exchange (by omega) (by omega)) ?_
  refine wp_run rfl ?_
  rw [exG_exG g (by omega)]
  by_cases e : aAll (aSwp A p q) < s.2.2
  · have hb : aBst A p q s = (p, q, aAll (aSwp A p q)) := by unfold aBst; rw [if_pos ⟨hm, e⟩]
    rw [hb]
    refine wp_icge rfl (fun hz_ => absurd hz_ (nI_ge e (by omega))) (fun _ => ?_)
    refine wp_run rfl ?_
    refine wp_putf (h1 := (hX B Y sl P ((g, nI s.1, nI s.2.1, nI (aAll (aSwp A p q)))) tl)) rfl rfl (Nat.le_of_ble_eq_true rfl) ⟨rfl, rfl, fun _ hz_ => by cases hz_⟩ rfl ?_
    refine wp_run rfl ?_
    refine wp_putf (h1 := (hX B Y sl P ((g, nI p, nI s.2.1, nI (aAll (aSwp A p q)))) tl)) rfl rfl (Nat.le_of_ble_eq_true rfl) ⟨rfl, rfl, fun _ hz_ => by cases hz_⟩ rfl ?_
    refine wp_run rfl ?_
    refine wp_putf (h1 := (hX B Y sl P ((g, nI p, nI q, nI (aAll (aSwp A p q)))) tl)) rfl rfl (Nat.le_of_ble_eq_true rfl) ⟨rfl, rfl, fun _ hz_ => by cases hz_⟩ rfl ?_
    refine wp_run rfl ?_
    exact wp_retv rfl ⟨rfl, rfl⟩
  · have hb : aBst A p q s = s := by unfold aBst; rw [if_neg (fun z => e z.2)]
    rw [hb]
    refine wp_icge rfl (fun _ => ?_) (fun hz_ => absurd (nI_le (show s.2.2 ≤ aAll (aSwp A p q) by omega) (by omega)) hz_)
    refine wp_run rfl ?_
    exact wp_retv rfl ⟨rfl, rfl⟩
theorem aBr_le {A : axAD} {p : Nat} {s : axBS} (hs : s.2.2 ≤ 70000) : ∀ m, (aBr A p m s).2.2 ≤ 70000
  | 0 => hs
  | m + 1 => by
    rw [aBr]; split
    · exact aBst_le (aBr_le hs m)
    · exact aBr_le hs m
theorem aBS_le {A : axAD} (hO : aOk A) : ∀ p, (aBS A p).2.2 ≤ 70000
  | 0 => aAll_lt hO
  | p + 1 => aBr_le (aBS_le hO p) _
theorem x3_tryAllBehind (hO : aOk A) (hC : CR B A) (hg : ∀ i, i < aN A → g i = nI (aR A i)) {p : Nat} (hp : p < aN A) {s : axBS} (hs : s.2.2 ≤ 70000) : axEv ro (d + 5) kX3_tryAllBehind [.ref 13, .ref 1, .int (nI p)] ((hX B Y sl P (gOf g s) tl)) none ((hX B Y sl P (gOf g (aBr A p (aN A) s)) tl)) := by
  have hn := hO.n
  have hgt := aHi_gt hO hp
  have hle := aHi_le A p
  rw [aBr_hi A s (aN A) hle]
  have loop : ∀ m q, q + m = aHi A p → p < q → axW ro (axEv ro (d + 4)) cdX3_tryAllBehind 18 [some (.ref 13), some (.ref 1), some (.int (nI p)), some (.int (nI (aHi A p - 1))), some (.int (nI q))] [.int (nI (aHi A p - 1)), .int (nI q)] ((hX B Y sl P (gOf g (aBr A p q s)) tl)) (fun r' h' => r' = none ∧ h' = ((hX B Y sl P (gOf g (aBr A p (aHi A p) s)) tl))) := by
    intro m
    induction m with
    | zero =>
      intro q e _
      have e : q = aHi A p := by omega
      refine wp_icgt rfl (fun _ => ?_) (fun hz_ => absurd (nI_lt (show aHi A p - 1 < q by omega) (by omega)) hz_)
      refine wp_run rfl ?_
      rw [e]
      exact wp_retv rfl ⟨rfl, rfl⟩
    | succ m ih =>
      intro q e hpq
      have hq : q < aN A := by omega
      have ih := ih (q + 1) (by omega) (by omega)
      rw [aBr, if_pos hpq] at ih
      refine wp_icgt rfl (fun hz_ => absurd hz_ (nI_nlt (show q ≤ aHi A p - 1 by omega) (by omega))) (fun _ => ?_)
      refine wp_run rfl ?_
      refine wp_v1 rfl rfl (Nat.le_of_ble_eq_true rfl) (x0_slugIn_in hO hC hq) ?_
      refine wp_run rfl ?_
      refine wp_v1 rfl rfl (Nat.le_of_ble_eq_true rfl) (x0_lowestPlace hO hC hq) ?_
      refine wp_run rfl ?_
      by_cases e2 : aLo A q ≤ p
      · have hm : aMay A p q := ⟨⟨by have := aLo_le hO hp; omega, by omega⟩, e2, by have := aHi_gt hO hq; omega⟩
        refine wp_icgt rfl (fun hz_ => absurd hz_ (nI_nlt e2 (by omega))) (fun _ => ?_)
        refine wp_run rfl ?_
        refine wp_v3v rfl rfl (Nat.le_of_ble_eq_true rfl) (x3_tryOne hO hC hg hpq hq hm (aBr_le hs q)) ?_
        refine wp_run rfl ?_
        rw [nI_1]
        exact ih
      · rw [show aBst A p q (aBr A p q s) = aBr A p q s by unfold aBst; rw [if_neg (fun z => e2 z.1.2.1)]] at ih
        have := aLo_le hO hq
        refine wp_icgt rfl (fun _ => ?_) (fun hz_ => absurd (nI_lt (show p < aLo A q by omega) (by omega)) hz_)
        refine wp_run rfl ?_
        rw [nI_1]
        exact ih
  have h0 := loop (aHi A p - (p + 1)) (p + 1) (by omega) (by omega)
  rw [aBr_lo A s (p + 1) (Nat.le_refl _)] at h0
  refine ev_in rfl rfl (Nat.le_of_ble_eq_true rfl) rfl ?_
  refine wp_run rfl ?_
  refine wp_v1 rfl rfl (Nat.le_of_ble_eq_true rfl) (x0_slugIn_in hO hC hp) ?_
  refine wp_run rfl ?_
  refine wp_v1 rfl rfl (Nat.le_of_ble_eq_true rfl) (x0_highestPlace hO hC hp) ?_
  refine wp_run rfl ?_
  rw [nI_1]
  exact h0
theorem x3_run (hO : aOk A) (hC : CR B A) : ∃ g', axEv ro (d + 6) kX3_run [.ref 13, .ref 1] (hX B Y sl P G tl) none ((hX B Y sl P (gOf g' (aBS A (aN A))) tl)) := by
  have hn := hO.n
  have loop2 : ∀ g : Nat → Int32, (∀ i, i < aN A → g i = nI (aR A i)) → ∀ m p, p + m = aN A → axW ro (axEv ro (d + 5)) cdX3_run 53 [some (.ref 13), some (.ref 1), some (.int (nI (aN A))), some (.int (nI p))] [.int (nI (aN A)), .int (nI p)] ((hX B Y sl P (gOf g (aBS A p)) tl)) (fun r' h' => r' = none ∧ h' = ((hX B Y sl P (gOf g (aBS A (aN A))) tl))) := by
    intro g hg m
    induction m with
    | zero =>
      intro p e
      have e : p = aN A := by omega
      refine wp_icge rfl (fun _ => ?_) (fun hz_ => absurd (nI_le (show aN A ≤ p by omega) (by omega)) hz_)
      refine wp_run rfl ?_
      rw [e]
      exact wp_retv rfl ⟨rfl, rfl⟩
    | succ m ih =>
      intro p e
      refine wp_icge rfl (fun hz_ => absurd hz_ (nI_ge (show p < aN A by omega) (by omega))) (fun _ => ?_)
      refine wp_run rfl ?_
      refine wp_v2v rfl rfl (Nat.le_of_ble_eq_true rfl) (x3_tryAllBehind hO hC hg (by omega) (aBS_le hO p)) ?_
      refine wp_run rfl ?_
      rw [nI_1]
      exact ih (p + 1) (by omega)
  have loop1 : ∀ m p, p + m = aN A → ∀ g : Nat → Int32, (∀ i, i < p → g i = nI (aR A i)) → ∃ g', axW ro (axEv ro (d + 5)) cdX3_run 27 [some (.ref 13), some (.ref 1), some (.int (nI (aN A))), some (.int (nI p))] [.int (nI (aN A)), .int (nI p)] ((hX B Y sl P (gOf g (aBS A 0)) tl)) (fun r' h' => r' = none ∧ h' = ((hX B Y sl P (gOf g' (aBS A (aN A))) tl))) := by
    intro m
    induction m with
    | zero =>
      intro p e g hg
      have e : p = aN A := by omega
      refine ⟨g, ?_⟩
      refine wp_icge rfl (fun _ => ?_) (fun hz_ => absurd (nI_le (show aN A ≤ p by omega) (by omega)) hz_)
      refine wp_run rfl ?_
      exact loop2 g (fun i hi => hg i (by omega)) (aN A) 0 (by omega)
    | succ m ih =>
      intro p e g hg
      obtain ⟨g', ih⟩ := ih (p + 1) (by omega) (upd g p (nI (aR A p))) (fun i hi => by
        rw [upd_up]
        by_cases e : i = p
        · rw [if_pos e, e]
        · rw [if_neg e]; exact hg i (by omega))
      refine ⟨g', ?_⟩
      refine wp_icge rfl (fun hz_ => absurd hz_ (nI_ge (show p < aN A by omega) (by omega))) (fun _ => ?_)
      refine wp_run rfl ?_
      refine wp_v1 rfl rfl (Nat.le_of_ble_eq_true rfl) (x0_slugIn_in hO hC (show p < aN A by omega)) ?_
      refine wp_run rfl ?_
      refine wp_s3v rfl (Nat.le_of_ble_eq_true rfl) (x4_store (h1 := (hX B Y sl P (gOf (upd g p (nI (aR A p))) (aBS A 0)) tl)) rfl (show p < 24 by omega) (by decide) rfl) ?_
      refine wp_run rfl ?_
      rw [nI_1]
      exact ih
  obtain ⟨g', hw⟩ := loop1 (aN A) 0 (by omega) G.1 (fun i hi => absurd hi (by omega))
  refine ⟨g', ?_⟩
  refine ev_in rfl rfl (Nat.le_of_ble_eq_true rfl) rfl ?_
  refine wp_run rfl ?_
  refine wp_putf (h1 := (hX B Y sl P ((G.1, 0, G.2.2.1, G.2.2.2)) tl)) rfl rfl (Nat.le_of_ble_eq_true rfl) ⟨rfl, rfl, fun _ hz_ => by cases hz_⟩ rfl ?_
  refine wp_run rfl ?_
  refine wp_putf (h1 := (hX B Y sl P ((G.1, 0, 0, G.2.2.2)) tl)) rfl rfl (Nat.le_of_ble_eq_true rfl) ⟨rfl, rfl, fun _ hz_ => by cases hz_⟩ rfl ?_
  refine wp_run rfl ?_
  refine wp_v0 rfl rfl (Nat.le_of_ble_eq_true rfl) (x0_offTogether hO hC) ?_
  refine wp_run rfl ?_
  refine wp_putf (h1 := (hX B Y sl P (gOf G.1 (aBS A 0)) tl)) rfl rfl (Nat.le_of_ble_eq_true rfl) ⟨rfl, rfl, fun _ hz_ => by cases hz_⟩ rfl ?_
  refine wp_run rfl ?_
  refine wp_v0 rfl rfl (Nat.le_of_ble_eq_true rfl) (x0_size hC) ?_
  refine wp_run rfl ?_
  exact hw
end AX32
end
section
/-! The text on the pad (no method of this law changes it). -/
def PT (f : Nat → Int32) (t : Nat → Nat) (pl : Nat) : Prop := pl ≤ 80 ∧ ∀ i, i < pl → f i = nI (t i) ∧ 33 ≤ t i ∧ t i ≤ 126
end
section
/-! THE CLASS: a new one. -/
def nO : Nat → Option Nat := fun _ => none
def pIni : axPD := (z0F, 0, 0, 0, 0, 0, 0)
def gIni : axGD := (z0F, 0, 0, 0)
section AX38
variable {ro : axRo} {d : Nat} {h0 : axH}
theorem x1_init : axEv ro (d + 1) kX1_init [.ref h0.length] (h0 ++ [.inr (.inr (1, axDf 1))]) none (h0 ++ [.inr (.inr (1, [.ref (h0.length + 1), .int 0, .int 0])), .inr (.inl (7, nO))]) := by
  refine ev_in rfl rfl (Nat.le_of_ble_eq_true rfl) rfl ?_
  refine wp_run rfl ?_
  refine wp_obj rfl (Nat.le_of_ble_eq_true rfl) ?_
  refine wp_run rfl ?_
  refine wp_newq (q := h0.length + 1) (N := 7) (h1 := h0 ++ [.inr (.inr (1, [.null, .int 0, .int 0])), .inr (.inl (7, nO))]) rfl (by decide) (by decide) (by decide) (gL rfl) (gP rfl) ?_
  refine wp_run rfl ?_
  refine wp_putF (h1 := h0 ++ [.inr (.inr (1, [.ref (h0.length + 1), .int 0, .int 0])), .inr (.inl (7, nO))]) rfl (gA 0) (Nat.le_of_ble_eq_true rfl) ⟨rfl, rfl, fun _ hz_ => by cases hz_⟩ (gS 0 _) ?_
  refine wp_run rfl ?_
  exact wp_retv rfl ⟨rfl, rfl⟩
theorem x2_init : axEv ro (d + 1) kX2_init [.ref h0.length] (h0 ++ [.inr (.inr (2, axDf 2))]) none (h0 ++ [.inr (.inr (2, [.ref (h0.length + 1), .int 0, .int 0, .int 0, .int 0, .int 0, .int 0])), .inl (1, 80, z0F)]) := by
  refine ev_in rfl rfl (Nat.le_of_ble_eq_true rfl) rfl ?_
  refine wp_run rfl ?_
  refine wp_obj rfl (Nat.le_of_ble_eq_true rfl) ?_
  refine wp_run rfl ?_
  refine wp_newa (q := h0.length + 1) (N := 80) (h1 := h0 ++ [.inr (.inr (2, [.null, .int 0, .int 0, .int 0, .int 0, .int 0, .int 0])), .inl (1, 80, z0F)]) rfl (by decide) (by decide) (by decide) (gL rfl) (gP rfl) ?_
  refine wp_run rfl ?_
  refine wp_putF (h1 := h0 ++ [.inr (.inr (2, [.ref (h0.length + 1), .int 0, .int 0, .int 0, .int 0, .int 0, .int 0])), .inl (1, 80, z0F)]) rfl (gA 0) (Nat.le_of_ble_eq_true rfl) ⟨rfl, rfl, fun _ hz_ => by cases hz_⟩ (gS 0 _) ?_
  refine wp_run rfl ?_
  exact wp_retv rfl ⟨rfl, rfl⟩
theorem x3_init : axEv ro (d + 1) kX3_init [.ref h0.length] (h0 ++ [.inr (.inr (3, axDf 3))]) none (h0 ++ [.inr (.inr (3, [.ref (h0.length + 1), .int 0, .int 0, .int 0])), .inl (0, 24, z0F)]) := by
  refine ev_in rfl rfl (Nat.le_of_ble_eq_true rfl) rfl ?_
  refine wp_run rfl ?_
  refine wp_obj rfl (Nat.le_of_ble_eq_true rfl) ?_
  refine wp_run rfl ?_
  refine wp_newa (q := h0.length + 1) (N := 24) (h1 := h0 ++ [.inr (.inr (3, [.null, .int 0, .int 0, .int 0])), .inl (0, 24, z0F)]) rfl (by decide) (by decide) (by decide) (gL rfl) (gP rfl) ?_
  refine wp_run rfl ?_
  refine wp_putF (h1 := h0 ++ [.inr (.inr (3, [.ref (h0.length + 1), .int 0, .int 0, .int 0])), .inl (0, 24, z0F)]) rfl (gA 0) (Nat.le_of_ble_eq_true rfl) ⟨rfl, rfl, fun _ hz_ => by cases hz_⟩ (gS 0 _) ?_
  refine wp_run rfl ?_
  exact wp_retv rfl ⟨rfl, rfl⟩
/-- the class' object while it is made -/
def o4 (a b c e f : Value) : axC := .inr (.inr (4, [a, b, c, e, f]))
def hi1 (a : axC) : axH := a :: bdL 1 bIni
def hi2 (a : axC) : axH := hi1 a ++ [.inr (.inr (1, [.ref 9, .int 0, .int 0])), .inr (.inl (7, nO))]
def hi3 (a : axC) : axH := hi2 a ++ [.inr (.inl (2, nO))]
def hi4 (a : axC) : axH := hi3 a ++ [.inr (.inr (2, [.ref 12, .int 0, .int 0, .int 0, .int 0, .int 0, .int 0])), .inl (1, 80, z0F)]
theorem x4_init : axEv ro (d + 2) kX4_init [.ref 0] [.inr (.inr (4, axDf 4))] none (hX bIni (nO, 0, 0) nO pIni gIni []) := by
  refine ev_in rfl rfl (Nat.le_of_ble_eq_true rfl) rfl ?_
  refine wp_run rfl ?_
  refine wp_obj rfl (Nat.le_of_ble_eq_true rfl) ?_
  refine wp_run rfl ?_
  refine wp_new (q := 1) (h1 := [o4 .null .null .null .null .null] ++ [.inr (.inr (0, axDf 0))]) rfl rfl rfl ?_
  refine wp_run rfl ?_
  refine wp_i0 rfl (Nat.le_of_ble_eq_true rfl) (x0_init (h0 := [o4 .null .null .null .null .null])) ?_
  refine wp_run rfl ?_
  refine wp_putF (h1 := hi1 (o4 (.ref 1) .null .null .null .null)) (k := 0) rfl rfl (Nat.le_of_ble_eq_true rfl) ⟨rfl, rfl, fun _ hz_ => by cases hz_⟩ rfl ?_
  refine wp_run rfl ?_
  refine wp_new (q := 8) (h1 := hi1 (o4 (.ref 1) .null .null .null .null) ++ [.inr (.inr (1, axDf 1))]) rfl rfl rfl ?_
  refine wp_run rfl ?_
  refine wp_i0 rfl (Nat.le_of_ble_eq_true rfl) (x1_init (h0 := hi1 (o4 (.ref 1) .null .null .null .null))) ?_
  refine wp_run rfl ?_
  refine wp_putF (h1 := hi2 (o4 (.ref 1) (.ref 8) .null .null .null)) (k := 0) rfl rfl (Nat.le_of_ble_eq_true rfl) ⟨rfl, rfl, fun _ hz_ => by cases hz_⟩ rfl ?_
  refine wp_run rfl ?_
  refine wp_newq (q := 10) (N := 2) (h1 := hi3 (o4 (.ref 1) (.ref 8) .null .null .null)) rfl (by decide) (by decide) (by decide) rfl rfl ?_
  refine wp_run rfl ?_
  refine wp_putF (h1 := hi3 (o4 (.ref 1) (.ref 8) (.ref 10) .null .null)) (k := 0) rfl rfl (Nat.le_of_ble_eq_true rfl) ⟨rfl, rfl, fun _ hz_ => by cases hz_⟩ rfl ?_
  refine wp_run rfl ?_
  refine wp_new (q := 11) (h1 := hi3 (o4 (.ref 1) (.ref 8) (.ref 10) .null .null) ++ [.inr (.inr (2, axDf 2))]) rfl rfl rfl ?_
  refine wp_run rfl ?_
  refine wp_i0 rfl (Nat.le_of_ble_eq_true rfl) (x2_init (h0 := hi3 (o4 (.ref 1) (.ref 8) (.ref 10) .null .null))) ?_
  refine wp_run rfl ?_
  refine wp_putF (h1 := hi4 (o4 (.ref 1) (.ref 8) (.ref 10) (.ref 11) .null)) (k := 0) rfl rfl (Nat.le_of_ble_eq_true rfl) ⟨rfl, rfl, fun _ hz_ => by cases hz_⟩ rfl ?_
  refine wp_run rfl ?_
  refine wp_new (q := 13) (h1 := hi4 (o4 (.ref 1) (.ref 8) (.ref 10) (.ref 11) .null) ++ [.inr (.inr (3, axDf 3))]) rfl rfl rfl ?_
  refine wp_run rfl ?_
  refine wp_i0 rfl (Nat.le_of_ble_eq_true rfl) (x3_init (h0 := hi4 (o4 (.ref 1) (.ref 8) (.ref 10) (.ref 11) .null))) ?_
  refine wp_run rfl ?_
  refine wp_putF (h1 := hX bIni (nO, 0, 0) nO pIni gIni []) (k := 0) rfl rfl (Nat.le_of_ble_eq_true rfl) ⟨rfl, rfl, fun _ hz_ => by cases hz_⟩ rfl ?_
  refine wp_run rfl ?_
  exact wp_retv rfl ⟨rfl, rfl⟩
end AX38
end
section
/-! What holds of every board goes on to hold after every change. -/
/-- the place p needs the place b -/
def nd (A : axAD) (a b : Nat) : Bool := bt (aD A (aR A a)) (aR A b)
theorem nd_lt {A : axAD} (hO : aOk A) {a b : Nat} (ha : a < aN A) (hb : b < aN A) (h : nd A a b = true) : b < a := by
  obtain ⟨j, hj, e⟩ := hO.d ha h
  have := hO.inj (show j < aN A by omega) hb e
  omega
theorem aLo_iff {A : axAD} {p q : Nat} : aLo A p ≤ q ↔ ∀ b, b < aN A → nd A p b = true → b < q := by
  have key : ∀ n, aLoF A (aD A (aR A p)) n ≤ q ↔ ∀ b, b < n → nd A p b = true → b < q := by
    intro n
    induction n with
    | zero => exact ⟨fun _ b hb => absurd hb (by omega), fun _ => Nat.zero_le _⟩
    | succ n ih =>
      rw [aLoF]
      by_cases e : bt (aD A (aR A p)) (aR A n) = true
      · rw [if_pos e]
        exact ⟨fun h b hb _ => by omega, fun h => h n (by omega) e⟩
      · rw [if_neg e, ih]
        exact ⟨fun h b hb hn => by
          by_cases e2 : b = n
          · subst e2; exact absurd hn e
          · exact h b (by omega) hn, fun h b hb hn => h b (by omega) hn⟩
  exact key _
theorem aHi_iff {A : axAD} {p q : Nat} (hq : q < aN A) : q < aHi A p ↔ ∀ a, a < aN A → nd A a p = true → q < a := by
  constructor
  · intro h a ha hn
    have := aFst_lt (f := fun i => bt (aD A (aR A i)) (aR A p)) ha hn
    have h : q < aFst (fun i => bt (aD A (aR A i)) (aR A p)) (aN A) := h
    omega
  · intro h
    by_cases e : aHi A p < aN A
    · exact h _ e (aFst_yes (fun i => bt (aD A (aR A i)) (aR A p)) (aN A) e)
    · omega
/-- is each slug behind all that it needs, in the row r -/
def aOrd (A : axAD) (r : Nat → Nat) : Prop := ∀ i k, i < aN A → bt (aD A (r i)) k = true → ∃ j, j < i ∧ r j = k
theorem aRow_ord {A : axAD} (hO : aOk A) {r π : Nat → Nat} (h1 : ∀ a, a < aN A → π a < aN A ∧ r (π a) = aR A a) (h2 : ∀ i, i < aN A → ∃ a, a < aN A ∧ π a = i) : aOrd A r ↔ ∀ a b, a < aN A → b < aN A → nd A a b = true → π b < π a := by
  constructor
  · intro h a b ha hb hn
    obtain ⟨j, hj, e⟩ := h (π a) (aR A b) (h1 a ha).1 (by rw [(h1 a ha).2]; exact hn)
    obtain ⟨c, hc, e2⟩ := h2 j (by have := (h1 a ha).1; omega)
    have : c = b := hO.inj hc hb (by rw [← (h1 c hc).2, e2, e])
    rw [← this, e2]; exact hj
  · intro h i k hi hn
    obtain ⟨a, ha, e⟩ := h2 i hi
    rw [← e, (h1 a ha).2] at hn
    obtain ⟨b, hb, e2⟩ := hO.d ha hn
    refine ⟨π b, ?_, by rw [(h1 b (by omega)).2, e2]⟩
    rw [← e]
    exact h a b ha (by omega) (by unfold nd; rw [e2]; exact hn)
theorem aOk_row {A : axAD} (hO : aOk A) {r π : Nat → Nat} (h1 : ∀ a, a < aN A → π a < aN A ∧ r (π a) = aR A a) (h2 : ∀ i, i < aN A → ∃ a, a < aN A ∧ π a = i) (ho : aOrd A r) : aOk (aRow A r) := by
  have hr : ∀ i, i < aN A → ∃ a, a < aN A ∧ π a = i ∧ r i = aR A a := fun i hi => by
    obtain ⟨a, ha, e⟩ := h2 i hi
    exact ⟨a, ha, e, by rw [← e]; exact (h1 a ha).2⟩
  obtain ⟨o1, o2, o3, o4, o5, o6⟩ := hO
  refine ⟨o1, fun i hi => ?_, fun i j hi hj e => ?_, fun i hi => ?_, ho, o6⟩
  · obtain ⟨a, ha, -, e⟩ := hr i hi
    show r i < 24
    rw [e]; exact o2 a ha
  · obtain ⟨a, ha, ea, e1⟩ := hr i hi
    obtain ⟨b, hb, eb, e2⟩ := hr j hj
    have : a = b := o3 a b ha hb (by rw [← e1, ← e2]; exact e)
    rw [← ea, ← eb, this]
  · obtain ⟨a, ha, -, e⟩ := hr i hi
    show 1 ≤ aB A (r i) ∧ aB A (r i) ≤ aW A (r i) ∧ aW A (r i) ≤ 99
    rw [e]; exact o4 a ha
/-- where places go when p moves to q -/
def mvP (p q a : Nat) : Nat := if a = p then q else if a < p then (if a < q then a else a + 1) else (if a - 1 < q then a - 1 else a)
theorem mvP_is {A : axAD} {p q : Nat} (hp : p < aN A) (hq : q < aN A) : ∀ a, a < aN A → mvP p q a < aN A ∧ aIns (aDel (aR A) p) q (aR A p) (mvP p q a) = aR A a := by
  intro a ha
  unfold mvP
  by_cases e : a = p
  · rw [if_pos e, aIns_at, e]; exact ⟨hq, rfl⟩
  · rw [if_neg e]
    by_cases e2 : a < p
    · rw [if_pos e2]
      by_cases e3 : a < q
      · rw [if_pos e3]; refine ⟨ha, ?_⟩
        unfold aIns aDel; rw [if_pos e3, if_pos e2]
      · rw [if_neg e3]; refine ⟨by omega, ?_⟩
        unfold aIns aDel; rw [if_neg (by omega), if_neg (by omega), if_pos (by omega)]; rfl
    · rw [if_neg e2]
      by_cases e3 : a - 1 < q
      · rw [if_pos e3]; refine ⟨by omega, ?_⟩
        unfold aIns aDel; rw [if_pos e3, if_neg (by omega), show a - 1 + 1 = a by omega]
      · rw [if_neg e3]; refine ⟨ha, ?_⟩
        unfold aIns aDel; rw [if_neg (by omega), if_neg (by omega), if_neg (by omega), show a - 1 + 1 = a by omega]
theorem mvP_has {n p q : Nat} (hp : p < n) (hq : q < n) : ∀ i, i < n → ∃ a, a < n ∧ mvP p q a = i := by
  intro i hi
  by_cases e : i = q
  · exact ⟨p, hp, by unfold mvP; rw [if_pos rfl, e]⟩
  · by_cases e1 : i < q
    · by_cases e2 : i < p
      · exact ⟨i, hi, by unfold mvP; rw [if_neg (by omega), if_pos e2, if_pos e1]⟩
      · exact ⟨i + 1, by omega, by unfold mvP; rw [if_neg (by omega), if_neg (by omega), if_pos (by omega)]; omega⟩
    · by_cases e2 : i ≤ p
      · exact ⟨i - 1, by omega, by unfold mvP; rw [if_neg (by omega), if_pos (by omega), if_neg (by omega)]; omega⟩
      · exact ⟨i, hi, by unfold mvP; rw [if_neg (by omega), if_neg (by omega), if_neg (by omega)]⟩
theorem aMove_ord {A : axAD} (hO : aOk A) {p q : Nat} (hp : p < aN A) (hq : q < aN A) : aOrd A (aIns (aDel (aR A) p) q (aR A p)) ↔ (aLo A p ≤ q ∧ q < aHi A p) := by
  rw [aRow_ord hO (mvP_is hp hq) (mvP_has hp hq), aLo_iff, aHi_iff hq]
  constructor
  · intro h
    constructor
    · intro b hb hn
      have h1 := nd_lt hO hp hb hn
      have h2 := h p b hp hb hn
      unfold mvP at h2
      rw [if_neg (by omega), if_pos rfl, if_pos h1] at h2
      split at h2 <;> omega
    · intro a ha hn
      have h1 := nd_lt hO ha hp hn
      have h2 := h a p ha hp hn
      unfold mvP at h2
      rw [if_pos rfl, if_neg (by omega), if_neg (by omega)] at h2
      split at h2 <;> omega
  · rintro ⟨g1, g2⟩ a b ha hb hn
    have h1 := nd_lt hO ha hb hn
    by_cases ea : a = p
    · subst ea
      have := g1 b hb hn
      unfold mvP
      rw [if_neg (by omega), if_pos rfl, if_pos h1, if_pos this]; exact this
    · by_cases eb : b = p
      · subst eb
        have := g2 a ha hn
        unfold mvP
        rw [if_pos rfl, if_neg ea, if_neg (by omega), if_neg (by omega)]; exact this
      · unfold mvP
        rw [if_neg ea, if_neg eb]
        split <;> split <;> split <;> (try split) <;> omega
theorem aOk_move {A : axAD} (hO : aOk A) {p q : Nat} (hp : p < aN A) (hq : q < aN A) (h : aLo A p ≤ q ∧ q < aHi A p) : aOk (aMove A p q) :=
  aOk_row hO (mvP_is hp hq) (mvP_has hp hq) ((aMove_ord hO hp hq).mpr h)
def swP (p q a : Nat) : Nat := if a = p then q else if a = q then p else a
theorem swP_is {A : axAD} {p q : Nat} (hp : p < aN A) (hq : q < aN A) : ∀ a, a < aN A → swP p q a < aN A ∧ (fun i => if i = p then aR A q else if i = q then aR A p else aR A i) (swP p q a) = aR A a := by
  intro a ha
  show swP p q a < aN A ∧ (if swP p q a = p then aR A q else if swP p q a = q then aR A p else aR A (swP p q a)) = aR A a
  unfold swP
  by_cases e : a = p
  · rw [if_pos e]
    refine ⟨hq, ?_⟩
    by_cases e2 : q = p
    · rw [if_pos e2, e, e2]
    · rw [if_neg e2, if_pos rfl, e]
  · rw [if_neg e]
    by_cases e2 : a = q
    · rw [if_pos e2]; exact ⟨hp, by rw [if_pos rfl, e2]⟩
    · rw [if_neg e2, if_neg e, if_neg e2]; exact ⟨ha, rfl⟩
theorem swP_has {n p q : Nat} (hp : p < n) (hq : q < n) : ∀ i, i < n → ∃ a, a < n ∧ swP p q a = i := by
  intro i hi
  unfold swP
  by_cases e : i = q
  · exact ⟨p, hp, by rw [if_pos rfl, e]⟩
  · by_cases e2 : i = p
    · exact ⟨q, hq, by
        by_cases e3 : q = p
        · rw [if_pos e3, e2, e3]
        · rw [if_neg e3, if_pos rfl, e2]⟩
    · exact ⟨i, hi, by rw [if_neg e2, if_neg e]⟩
theorem aSwp_ord {A : axAD} (hO : aOk A) {p q : Nat} (hp : p < aN A) (hq : q < aN A) (hpq : p ≠ q) : aOrd A (fun i => if i = p then aR A q else if i = q then aR A p else aR A i) ↔ aMay A p q := by
  rw [aRow_ord hO (swP_is hp hq) (swP_has hp hq)]
  unfold aMay
  rw [aLo_iff, aHi_iff hq, aLo_iff, aHi_iff hp]
  constructor
  · intro h
    refine ⟨⟨fun b hb hn => ?_, fun a ha hn => ?_⟩, fun b hb hn => ?_, fun a ha hn => ?_⟩
    · have h1 := nd_lt hO hp hb hn
      have h2 := h p b hp hb hn
      unfold swP at h2
      rw [if_pos rfl, if_neg (by omega)] at h2
      split at h2 <;> omega
    · have h1 := nd_lt hO ha hp hn
      have h2 := h a p ha hp hn
      unfold swP at h2
      rw [if_pos rfl, if_neg (by omega)] at h2
      split at h2 <;> omega
    · have h1 := nd_lt hO hq hb hn
      have h2 := h q b hq hb hn
      unfold swP at h2
      rw [if_neg (show ¬ q = p from fun z => hpq z.symm), if_pos (show q = q from rfl)] at h2
      split at h2
      · omega
      · rw [if_neg (by omega)] at h2; omega
    · have h1 := nd_lt hO ha hq hn
      have h2 := h a q ha hq hn
      unfold swP at h2
      rw [if_neg (show ¬ q = p from fun z => hpq z.symm), if_pos (show q = q from rfl)] at h2
      split at h2
      · omega
      · rw [if_neg (by omega)] at h2; omega
  · rintro ⟨⟨g1, g2⟩, g3, g4⟩ a b ha hb hn
    have h1 := nd_lt hO ha hb hn
    unfold swP
    by_cases ea : a = p
    · subst ea
      have := g1 b hb hn
      rw [if_pos rfl, if_neg (by omega), if_neg (by omega)]; exact this
    · rw [if_neg ea]
      by_cases ea2 : a = q
      · subst ea2
        have := g3 b hb hn
        rw [if_pos rfl, if_neg (by omega), if_neg (by omega)]; exact this
      · rw [if_neg ea2]
        by_cases eb : b = p
        · subst eb
          rw [if_pos rfl]; exact g2 a ha hn
        · rw [if_neg eb]
          by_cases eb2 : b = q
          · subst eb2
            rw [if_pos rfl]; exact g4 a ha hn
          · rw [if_neg eb2]; exact h1
theorem aOk_swp {A : axAD} (hO : aOk A) {p q : Nat} (hp : p < aN A) (hq : q < aN A) (hpq : p ≠ q) (h : aMay A p q) : aOk (aSwp A p q) :=
  aOk_row hO (swP_is hp hq) (swP_has hp hq) ((aSwp_ord hO hp hq hpq).mpr h)
theorem aOk_setS {A : axAD} (hO : aOk A) {j v : Nat} (hj : j < 3) (h1 : aLs j ≤ v) (h2 : v ≤ aMs j) : aOk (aSetS A j v) := by
  obtain ⟨o1, o2, o3, o4, o5, o6, o7, o8, o9⟩ := hO
  refine ⟨o1, o2, o3, o4, o5, ?_, ?_, ?_, o9⟩
  · show 4 ≤ (if j = 0 then v else aPg A) ∧ (if j = 0 then v else aPg A) ≤ 60
    by_cases e : j = 0
    · subst e; rw [if_pos rfl]; exact ⟨h1, h2⟩
    · rw [if_neg e]; exact o6
  · show (if j = 1 then v else aSl A) ≤ 20
    by_cases e : j = 1
    · subst e; rw [if_pos rfl]; exact h2
    · rw [if_neg e]; exact o7
  · show (if j = 2 then v else aTr A) ≤ 90
    by_cases e : j = 2
    · subst e; rw [if_pos rfl]; exact h2
    · rw [if_neg e]; exact o8
theorem aOk_setT {A : axAD} (hO : aOk A) {a v : Nat} (h1 : 1 ≤ v) (h2 : v ≤ 999) : aOk (aSetT A a v) := by
  obtain ⟨o1, o2, o3, o4, o5, o6, o7, o8, o9⟩ := hO
  refine ⟨o1, o2, o3, o4, o5, o6, o7, o8, fun b hb => ?_⟩
  show 1 ≤ va_up (aTg A) a v b ∧ va_up (aTg A) a v b ≤ 999
  by_cases e : b = a
  · rw [e, va_is]; exact ⟨h1, h2⟩
  · rw [va_no e]; exact o9 b hb
theorem aOk_flip {A : axAD} (hO : aOk A) (k : Nat) : aOk (aFlip A k) := hO
theorem aOk_setD {A : axAD} (hO : aOk A) {p : Nat} (hp : p < aN A) {x : Int32} (h : ∀ k, bt x k = true → ∃ j, j < p ∧ aR A j = k) : aOk (aSetD A (aR A p) x) := by
  have inj : ∀ j, j < aN A → aR A p = aR A j → p = j := fun j hj e => hO.inj hp hj e
  obtain ⟨o1, o2, o3, o4, o5, o6⟩ := hO
  refine ⟨o1, o2, o3, o4, fun i k hi hb => ?_, o6⟩
  have hb : bt (va_up (aD A) (aR A p) x (aR A i)) k = true := hb
  by_cases e : aR A i = aR A p
  · have : i = p := (inj i hi e.symm).symm
    subst this
    rw [va_is] at hb
    exact h k hb
  · rw [va_no e] at hb
    exact o5 i k hi hb
theorem aOk_need {A : axAD} (hO : aOk A) {i j : Nat} (hi : i < aN A) (hj : j < aN A) (hb : bt (aD A (aR A i)) (aR A j) = true ∨ j < i) : aOk (aSetD A (aR A i) (aD A (aR A i) ^^^ bi (aR A j))) := by
  have hk := hO.r hj
  refine aOk_setD hO hi fun k hk2 => ?_
  rw [bt_flp (by omega)] at hk2
  by_cases e : k = aR A j
  · rcases hb with hb | hb
    · rw [e, hb, decide_eq_true rfl] at hk2; cases hk2
    · exact ⟨j, hb, e.symm⟩
  · rw [decide_eq_false e, Bool.xor_false] at hk2
    exact hO.d hi hk2
end
section
/-! What holds of every board goes on to hold: drop, add, split. -/
def dlI (p i : Nat) : Nat := if i < p then i else i + 1
theorem aDel_dl (r : Nat → Nat) (p i : Nat) : aDel r p i = r (dlI p i) := by
  unfold aDel dlI; split <;> rfl
theorem dlI_lt {p i n : Nat} (hi : i < n - 1) : dlI p i < n ∧ dlI p i ≠ p := by
  unfold dlI; split <;> omega
theorem dlI_has {p b n : Nat} (hb : b < n) (hbp : b ≠ p) (hp : p < n) : ∃ i, i < n - 1 ∧ dlI p i = b := by
  by_cases e : b < p
  · exact ⟨b, by omega, if_pos e⟩
  · exact ⟨b - 1, by omega, by unfold dlI; rw [if_neg (by omega)]; omega⟩
theorem dlI_mono {p i j : Nat} (h : dlI p i < dlI p j) : i < j := by
  unfold dlI at h; split at h <;> split at h <;> omega
theorem dlI_inj {p i j : Nat} (h : dlI p i = dlI p j) : i = j := by
  unfold dlI at h; split at h <;> split at h <;> omega
theorem aOk_drop {A : axAD} (hO : aOk A) {p : Nat} (hp : p < aN A) : aOk (aDrop A p) := by
  have hk := hO.r hp
  obtain ⟨o1, o2, o3, o4, o5, o6⟩ := hO
  refine ⟨?_, fun i hi => ?_, fun i j hi hj e => ?_, fun i hi => ?_, fun i k hi hb => ?_, o6⟩
  · show aN A - 1 ≤ 24; omega
  · show aDel (aR A) p i < 24
    rw [aDel_dl]; exact o2 _ (dlI_lt hi).1
  · have e : aDel (aR A) p i = aDel (aR A) p j := e
    rw [aDel_dl, aDel_dl] at e
    exact dlI_inj (o3 _ _ (dlI_lt hi).1 (dlI_lt hj).1 e)
  · show 1 ≤ aB A (aDel (aR A) p i) ∧ aB A (aDel (aR A) p i) ≤ aW A (aDel (aR A) p i) ∧ aW A (aDel (aR A) p i) ≤ 99
    rw [aDel_dl]; exact o4 _ (dlI_lt hi).1
  · have hb : bt (aD A (aDel (aR A) p i) &&& (bi (aR A p) ^^^ (-1))) k = true := hb
    rw [bt_clr (by omega), aDel_dl, Bool.and_eq_true] at hb
    obtain ⟨b, hb1, hb2⟩ := o5 _ k (dlI_lt hi).1 hb.1
    have hne : b ≠ p := fun z => by
      rw [z] at hb2
      rw [← hb2, decide_eq_true rfl] at hb
      cases hb.2
    obtain ⟨j, hj, e⟩ := dlI_has (by have := (dlI_lt (p := p) hi).1; omega) hne hp
    refine ⟨j, dlI_mono (p := p) (by rw [e]; exact hb1), ?_⟩
    show aDel (aR A) p j = k
    rw [aDel_dl, e, hb2]
def isP (p a : Nat) : Nat := if a < p then a else a + 1
theorem aIns_isP (r : Nat → Nat) (p k a : Nat) : aIns r p k (isP p a) = r a := by
  unfold aIns isP
  by_cases e : a < p
  · rw [if_pos e, if_pos e]
  · rw [if_neg e, if_neg (by omega), if_neg (by omega), Nat.add_sub_cancel]
theorem isP_ex {p i n : Nat} (hi : i < n + 1) (hp : p ≤ n) : i = p ∨ ∃ a, a < n ∧ isP p a = i := by
  by_cases e : i = p
  · exact Or.inl e
  · refine Or.inr ?_
    by_cases e2 : i < p
    · exact ⟨i, by omega, if_pos e2⟩
    · exact ⟨i - 1, by omega, by unfold isP; rw [if_neg (by omega)]; omega⟩
theorem isP_lt {p a b : Nat} (h : a < b) : isP p a < isP p b := by
  unfold isP; split <;> split <;> omega
theorem isP_inj {p a b : Nat} (h : isP p a = isP p b) : a = b := by
  unfold isP at h; split at h <;> split at h <;> omega
theorem aOk_add {A : axAD} (hO : aOk A) {p v k : Nat} {t : Bool} (hn : aN A < 24) (hp : p ≤ aN A) (hk : k < 24) (hf : ¬ aIn A k) (h1 : 1 ≤ v) (h2 : v ≤ 99) : aOk (aAdd A p v k t) := by
  have hne : ∀ a, a < aN A → aR A a ≠ k := fun a ha z => hf ⟨a, ha, z⟩
  obtain ⟨o1, o2, o3, o4, o5, o6⟩ := hO
  refine ⟨hn, fun i hi => ?_, fun i j hi hj e => ?_, fun i hi => ?_, fun i x hi hb => ?_, o6⟩
  · show aIns (aR A) p k i < 24
    rcases isP_ex hi hp with e | ⟨a, ha, e⟩
    · rw [e, aIns_at]; exact hk
    · rw [← e, aIns_isP]; exact o2 a ha
  · have e : aIns (aR A) p k i = aIns (aR A) p k j := e
    rcases isP_ex hi hp with e1 | ⟨a, ha, e1⟩
    · rcases isP_ex hj hp with e2 | ⟨b, hb, e2⟩
      · rw [e1, e2]
      · rw [e1, ← e2, aIns_at, aIns_isP] at e
        exact absurd e.symm (hne b hb)
    · rcases isP_ex hj hp with e2 | ⟨b, hb, e2⟩
      · rw [e2, ← e1, aIns_at, aIns_isP] at e
        exact absurd e (hne a ha)
      · rw [← e1, ← e2, aIns_isP, aIns_isP] at e
        rw [← e1, ← e2, o3 a b ha hb e]
  · show 1 ≤ va_up (aB A) k v (aIns (aR A) p k i) ∧ va_up (aB A) k v (aIns (aR A) p k i) ≤ va_up (aW A) k v (aIns (aR A) p k i) ∧ va_up (aW A) k v (aIns (aR A) p k i) ≤ 99
    rcases isP_ex hi hp with e1 | ⟨a, ha, e1⟩
    · rw [e1, aIns_at, va_is, va_is]; exact ⟨h1, Nat.le_refl _, h2⟩
    · rw [← e1, aIns_isP, va_no (hne a ha), va_no (hne a ha)]; exact o4 a ha
  · have hb : bt (va_up (aD A) k 0 (aIns (aR A) p k i)) x = true := hb
    rcases isP_ex hi hp with e1 | ⟨a, ha, e1⟩
    · rw [e1, aIns_at, va_is, b_0] at hb; cases hb
    · rw [← e1, aIns_isP, va_no (hne a ha)] at hb
      obtain ⟨b, hb1, hb2⟩ := o5 a x ha hb
      refine ⟨isP p b, by rw [← e1]; exact isP_lt hb1, ?_⟩
      show aIns (aR A) p k (isP p b) = x
      rw [aIns_isP, hb2]
theorem aOk_spl0 {A : axAD} (hO : aOk A) {p v z : Nat} (hn : aN A < 24) (hp : p < aN A) (hz : z < 24) (hf : ¬ aIn A z) (h1 : 1 ≤ v) (h2 : v < aB A (aR A p)) : aOk (aSpl0 A p v (aR A p) z) := by
  have hne : ∀ a, a < aN A → aR A a ≠ z := fun a ha e => hf ⟨a, ha, e⟩
  have hk := hO.r hp
  have hbb := hO.b hp
  have hzk : z ≠ aR A p := fun e => hne p hp e.symm
  have hinj : ∀ a, a < aN A → a ≠ p → aR A a ≠ aR A p := fun a ha hap e => hap (hO.inj ha hp e)
  obtain ⟨a1, a2, a3, -, -, a6⟩ := aOk_add (t := false) hO hn (show p + 1 ≤ aN A by omega) hz hf (show 1 ≤ aW A (aR A p) - v by omega) (show aW A (aR A p) - v ≤ 99 by omega)
  obtain ⟨o1, o2, o3, o4, o5, o6⟩ := hO
  refine ⟨a1, a2, a3, fun i hi => ?_, fun i x hi hb => ?_, a6⟩
  · show 1 ≤ va_up (va_up (va_up (aB A) z (aW A (aR A p) - v)) z (aB A (aR A p) - v)) (aR A p) v (aIns (aR A) (p + 1) z i) ∧ va_up (va_up (va_up (aB A) z (aW A (aR A p) - v)) z (aB A (aR A p) - v)) (aR A p) v (aIns (aR A) (p + 1) z i) ≤ va_up (va_up (aW A) z (aW A (aR A p) - v)) (aR A p) v (aIns (aR A) (p + 1) z i) ∧ va_up (va_up (aW A) z (aW A (aR A p) - v)) (aR A p) v (aIns (aR A) (p + 1) z i) ≤ 99
    rcases isP_ex hi (show p + 1 ≤ aN A by omega) with e1 | ⟨a, ha, e1⟩
    · rw [e1, aIns_at, va_no hzk, va_is, va_no hzk, va_is]; omega
    · rw [← e1, aIns_isP]
      by_cases e : a = p
      · subst e
        rw [va_is, va_is]; omega
      · rw [va_no (hinj a ha e), va_no (hne a ha), va_no (hne a ha), va_no (hinj a ha e), va_no (hne a ha)]
        exact o4 a ha
  · have hb : bt (aSplN A (aR A p) z (aIns (aR A) (p + 1) z i)) x = true := hb
    have go : ∀ b, b < aN A → isP (p + 1) b < i → ∃ j, j < i ∧ aIns (aR A) (p + 1) z j = aR A b := fun b _ hbi => ⟨_, hbi, aIns_isP _ _ _ _⟩
    show ∃ j, j < i ∧ aIns (aR A) (p + 1) z j = x
    unfold aSplN at hb
    rcases isP_ex hi (show p + 1 ≤ aN A by omega) with e1 | ⟨a, ha, e1⟩
    · rw [e1, aIns_at, if_pos rfl, bt_bi (by omega)] at hb
      rw [of_decide_eq_true hb]
      exact go p hp (by unfold isP; rw [if_pos (by omega)]; omega)
    · rw [← e1, aIns_isP, if_neg (hne a ha)] at hb
      have old : bt (aD A (aR A a)) x = true → ∃ j, j < i ∧ aIns (aR A) (p + 1) z j = x := fun hx => by
        obtain ⟨b, hb1, hb2⟩ := o5 a x ha hx
        rw [← hb2]
        exact go b (by omega) (by rw [← e1]; exact isP_lt hb1)
      by_cases e : bt (aD A (aR A a)) (aR A p) = true
      · rw [if_pos e, bt_set (by omega), Bool.or_eq_true] at hb
        rcases hb with hb3 | hb3
        · exact old hb3
        · obtain ⟨b, hb1, hb2⟩ := o5 a _ ha e
          have : b = p := o3 b p (by omega) hp hb2
          subst this
          rw [of_decide_eq_true hb3]
          refine ⟨b + 1, ?_, aIns_at _ _ _⟩
          rw [← e1]; unfold isP; rw [if_neg (by omega)]; omega
      · rw [if_neg e] at hb
        exact old hb
theorem aOk_split {A : axAD} (hO : aOk A) {p v z : Nat} (hn : aN A < 24) (hp : p < aN A) (hz : z < 24) (hf : ¬ aIn A z) (h1 : 1 ≤ v) (h2 : v < aB A (aR A p)) : aOk (aSplit A p v (aR A p) z) := by
  unfold aSplit
  split
  · exact aOk_flip (aOk_flip (aOk_spl0 hO hn hp hz hf h1 h2) _) _
  · exact aOk_spl0 hO hn hp hz hf h1 h2
end
section
/-! What each change answers, and what board it leaves: for the class and for the reference. -/
def spSlug (A : axAD) (x : Int32) (i : Nat) : Prop := i < aN A ∧ x = nI (aR A i)
def spNo (A : axAD) (x : Int32) : Prop := ∀ i, i < aN A → x ≠ nI (aR A i)
theorem sp_slug (A : axAD) (x : Int32) : spNo A x ∨ ∃ i, spSlug A x i := by
  by_cases h : ∃ i, spSlug A x i
  · exact Or.inr h
  · exact Or.inl fun i hi e => h ⟨i, hi, e⟩
theorem sp_int (x : Int32) (n : Nat) (hn : n < 2 ^ 31) : (x < 0 ∨ nI n ≤ x) ∨ ∃ j, j < n ∧ x = nI j := by
  by_cases h : x < 0
  · exact Or.inl (Or.inl h)
  · obtain ⟨j, hj, e⟩ := nI_of h
    by_cases h2 : j < n
    · exact Or.inr ⟨j, h2, e⟩
    · exact Or.inl (Or.inr (by rw [e]; exact nI_le (by omega) hj))
theorem sp_rng (x : Int32) (a b : Nat) (ha : a < 2 ^ 31) (hb : b < 2 ^ 31) : (x < nI a ∨ ¬ x ≤ nI b) ∨ ∃ j, a ≤ j ∧ j ≤ b ∧ x = nI j := by
  by_cases h : x < nI a
  · exact Or.inl (Or.inl h)
  by_cases h2 : x ≤ nI b
  · refine Or.inr ?_
    have h0 : ¬ x < 0 := fun z => h (Int32.lt_of_lt_of_le z (nI_pos' ha))
    obtain ⟨j, hj, e⟩ := nI_of h0
    subst e
    exact ⟨j, by have hh : ¬ j < a := fun z => h ((nI_ltI hj ha).mpr z); omega, (nI_leI hj hb).mp h2, rfl⟩
  · exact Or.inl (Or.inr h2)
def spSet (A : axAD) (x y r : Int32) (A' : axAD) : Prop :=
  (∃ j v, j < 3 ∧ x = nI j ∧ y = nI v ∧ aLs j ≤ v ∧ v ≤ aMs j ∧ r = nI (aSetV A j) ∧ A' = aSetS A j v) ∨
  ((∀ j v, j < 3 → x = nI j → y = nI v → aLs j ≤ v → ¬ v ≤ aMs j) ∧ r = -2 ∧ A' = A)
def spTarget (A : axAD) (x y r : Int32) (A' : axAD) : Prop :=
  (∃ a v, a < 6 ∧ x = nI a ∧ 1 ≤ v ∧ v ≤ 999 ∧ y = nI v ∧ r = nI (aTg A a) ∧ A' = aSetT A a v) ∨
  ((x < 0 ∨ nI 6 ≤ x) ∧ r = -1 ∧ A' = A) ∨ (∃ a, a < 6 ∧ x = nI a ∧ (y < nI 1 ∨ ¬ y ≤ nI 999) ∧ r = -2 ∧ A' = A)
def spAdd (A : axAD) (x y w r : Int32) (A' : axAD) : Prop :=
  ((x < 0 ∨ nI (aN A + 1) ≤ x) ∧ r = -1 ∧ A' = A) ∨
  (∃ p, p < aN A + 1 ∧ x = nI p ∧ ((y < nI 1 ∨ ¬ y ≤ nI 99) ∨ (w < nI 0 ∨ ¬ w ≤ nI 1)) ∧ r = -2 ∧ A' = A) ∨
  (∃ p v t, p < aN A + 1 ∧ x = nI p ∧ 1 ≤ v ∧ v ≤ 99 ∧ y = nI v ∧ t ≤ 1 ∧ w = nI t ∧
    ((aN A = 24 ∧ r = -4 ∧ A' = A) ∨ (aN A < 24 ∧ ∃ z, z = aFr A ∧ r = nI z ∧ A' = aAdd A p v z (decide (t = 1)))))
def spDrop (A : axAD) (x r : Int32) (A' : axAD) : Prop :=
  (spNo A x ∧ r = -1 ∧ A' = A) ∨ (∃ p, spSlug A x p ∧ r = nI (aN A - 1) ∧ A' = aDrop A p)
def spTurn (A : axAD) (x r : Int32) (A' : axAD) : Prop :=
  (spNo A x ∧ r = -1 ∧ A' = A) ∨ (∃ p, spSlug A x p ∧ r = (if aT A (aR A p) = true then 0 else 1) ∧ A' = aFlip A (aR A p))
def spNeed (A : axAD) (x y r : Int32) (A' : axAD) : Prop :=
  ((spNo A x ∨ spNo A y) ∧ r = -1 ∧ A' = A) ∨
  (∃ i j, spSlug A x i ∧ spSlug A y j ∧ ((i = j ∧ r = -2 ∧ A' = A) ∨ (i < j ∧ nd A i j = false ∧ r = -5 ∧ A' = A) ∨
    (i ≠ j ∧ (nd A i j = true ∨ j < i) ∧ r = nI (pcN (aD A (aR A i) ^^^ bi (aR A j))) ∧ A' = aSetD A (aR A i) (aD A (aR A i) ^^^ bi (aR A j)))))
def spTrim (A : axAD) (x y r : Int32) (A' : axAD) : Prop :=
  (spNo A x ∧ r = -1 ∧ A' = A) ∨
  (∃ i, spSlug A x i ∧ (((y < nI 1 ∨ ¬ y ≤ nI 98) ∧ r = -2 ∧ A' = A) ∨
    (∃ v, 1 ≤ v ∧ v ≤ 98 ∧ y = nI v ∧ ((aCan A (aR A i) < v ∧ r = -5 ∧ A' = A) ∨ (v ≤ aCan A (aR A i) ∧ r = nI (aB A (aR A i) - v) ∧ A' = aBts A (aR A i) (aB A (aR A i) - v))))))
def spGive (A : axAD) (x r : Int32) (A' : axAD) : Prop :=
  (spNo A x ∧ r = -1 ∧ A' = A) ∨ (∃ p, spSlug A x p ∧ r = nI (aW A (aR A p) - aB A (aR A p)) ∧ A' = aBts A (aR A p) (aW A (aR A p)))
def spMove (A : axAD) (x y r : Int32) (A' : axAD) : Prop :=
  ((spNo A x ∨ (y < 0 ∨ nI (aN A) ≤ y)) ∧ r = -1 ∧ A' = A) ∨
  (∃ p q, spSlug A x p ∧ q < aN A ∧ y = nI q ∧ ((¬ (aLo A p ≤ q ∧ q < aHi A p) ∧ r = -5 ∧ A' = A) ∨ ((aLo A p ≤ q ∧ q < aHi A p) ∧ r = nI p ∧ A' = aMove A p q)))
def spSwap (A : axAD) (x y r : Int32) (A' : axAD) : Prop :=
  ((spNo A x ∨ spNo A y) ∧ r = -1 ∧ A' = A) ∨
  (∃ p q, spSlug A x p ∧ spSlug A y q ∧ ((p = q ∧ r = -2 ∧ A' = A) ∨ (p ≠ q ∧ ¬ aMay A p q ∧ r = -5 ∧ A' = A) ∨
    (p ≠ q ∧ aMay A p q ∧ r = nI (((p : Int) - q).natAbs - 1) ∧ A' = aSwp A p q)))
def spSplit (A : axAD) (x y r : Int32) (A' : axAD) : Prop :=
  (spNo A x ∧ r = -1 ∧ A' = A) ∨
  (∃ i, spSlug A x i ∧ (((y < nI 1 ∨ ¬ y ≤ nI 98) ∧ r = -2 ∧ A' = A) ∨
    (∃ v, 1 ≤ v ∧ v ≤ 98 ∧ y = nI v ∧ ((aB A (aR A i) ≤ v ∧ r = -5 ∧ A' = A) ∨ (v < aB A (aR A i) ∧ aN A = 24 ∧ r = -4 ∧ A' = A) ∨
      (v < aB A (aR A i) ∧ aN A < 24 ∧ ∃ z, z = aFr A ∧ r = nI z ∧ A' = aSplit A i v (aR A i) z)))))
def spFit (A : axAD) (x r : Int32) (A' : axAD) : Prop :=
  ((x < 0 ∨ nI (aActs A) ≤ x) ∧ r = -1 ∧ A' = A) ∨
  (∃ a, a < aActs A ∧ x = nI a ∧ ((¬ (aOff A a).toNat - aCut A a ≤ aSl A ∧ r = -5 ∧ A' = A) ∨ ((aOff A a).toNat - aCut A a ≤ aSl A ∧ r = nI (aCut A a) ∧ A' = aFit A a)))
section AX41
variable {A : axAD}
theorem spSet_ex (A : axAD) (x y : Int32) : ∃ r A', spSet A x y r A' := by
  by_cases h : ∃ j v, j < 3 ∧ x = nI j ∧ y = nI v ∧ aLs j ≤ v ∧ v ≤ aMs j
  · obtain ⟨j, v, h1, h2, h3, h4, h5⟩ := h
    exact ⟨_, _, Or.inl ⟨j, v, h1, h2, h3, h4, h5, rfl, rfl⟩⟩
  · exact ⟨_, _, Or.inr ⟨fun j v h1 h2 h3 h4 h5 => h ⟨j, v, h1, h2, h3, h4, h5⟩, rfl, rfl⟩⟩
theorem spTarget_ex (A : axAD) (x y : Int32) : ∃ r A', spTarget A x y r A' := by
  rcases sp_int x 6 (by decide) with h | ⟨a, ha, e⟩
  · exact ⟨_, _, Or.inr (Or.inl ⟨h, rfl, rfl⟩)⟩
  · rcases sp_rng y 1 999 (by decide) (by decide) with h | ⟨v, h1, h2, e2⟩
    · exact ⟨_, _, Or.inr (Or.inr ⟨a, ha, e, h, rfl, rfl⟩)⟩
    · exact ⟨_, _, Or.inl ⟨a, v, ha, e, h1, h2, e2, rfl, rfl⟩⟩
theorem spAdd_ex (hO : aOk A) (x y w : Int32) : ∃ r A', spAdd A x y w r A' := by
  have hn := hO.n
  rcases sp_int x (aN A + 1) (by omega) with h | ⟨p, hp, e⟩
  · exact ⟨_, _, Or.inl ⟨h, rfl, rfl⟩⟩
  · rcases sp_rng y 1 99 (by decide) (by decide) with h | ⟨v, h1, h2, e2⟩
    · exact ⟨_, _, Or.inr (Or.inl ⟨p, hp, e, Or.inl h, rfl, rfl⟩)⟩
    · rcases sp_rng w 0 1 (by decide) (by decide) with h | ⟨t, h3, h4, e3⟩
      · exact ⟨_, _, Or.inr (Or.inl ⟨p, hp, e, Or.inr h, rfl, rfl⟩)⟩
      · by_cases hf : aN A < 24
        · generalize hz : aFr A = z
          exact ⟨nI z, aAdd A p v z (decide (t = 1)), Or.inr (Or.inr ⟨p, v, t, hp, e, h1, h2, e2, h4, e3, Or.inr ⟨hf, z, hz.symm, rfl, rfl⟩⟩)⟩
        · exact ⟨-4, A, Or.inr (Or.inr ⟨p, v, t, hp, e, h1, h2, e2, h4, e3, Or.inl ⟨by omega, rfl, rfl⟩⟩)⟩
theorem spDrop_ex (A : axAD) (x : Int32) : ∃ r A', spDrop A x r A' := by
  rcases sp_slug A x with h | ⟨p, hp⟩
  · exact ⟨_, _, Or.inl ⟨h, rfl, rfl⟩⟩
  · exact ⟨_, _, Or.inr ⟨p, hp, rfl, rfl⟩⟩
theorem spTurn_ex (A : axAD) (x : Int32) : ∃ r A', spTurn A x r A' := by
  rcases sp_slug A x with h | ⟨p, hp⟩
  · exact ⟨_, _, Or.inl ⟨h, rfl, rfl⟩⟩
  · exact ⟨_, _, Or.inr ⟨p, hp, rfl, rfl⟩⟩
theorem spNeed_ex (A : axAD) (x y : Int32) : ∃ r A', spNeed A x y r A' := by
  rcases sp_slug A x with h | ⟨i, hi⟩
  · exact ⟨_, _, Or.inl ⟨Or.inl h, rfl, rfl⟩⟩
  · rcases sp_slug A y with h | ⟨j, hj⟩
    · exact ⟨_, _, Or.inl ⟨Or.inr h, rfl, rfl⟩⟩
    · by_cases e : i = j
      · exact ⟨_, _, Or.inr ⟨i, j, hi, hj, Or.inl ⟨e, rfl, rfl⟩⟩⟩
      · cases hb : nd A i j with
        | true => exact ⟨_, _, Or.inr ⟨i, j, hi, hj, Or.inr (Or.inr ⟨e, Or.inl hb, rfl, rfl⟩)⟩⟩
        | false =>
          by_cases e2 : j < i
          · exact ⟨_, _, Or.inr ⟨i, j, hi, hj, Or.inr (Or.inr ⟨e, Or.inr e2, rfl, rfl⟩)⟩⟩
          · exact ⟨_, _, Or.inr ⟨i, j, hi, hj, Or.inr (Or.inl ⟨by omega, hb, rfl, rfl⟩)⟩⟩
theorem spTrim_ex (A : axAD) (x y : Int32) : ∃ r A', spTrim A x y r A' := by
  rcases sp_slug A x with h | ⟨i, hi⟩
  · exact ⟨_, _, Or.inl ⟨h, rfl, rfl⟩⟩
  · rcases sp_rng y 1 98 (by decide) (by decide) with h | ⟨v, h1, h2, e2⟩
    · exact ⟨_, _, Or.inr ⟨i, hi, Or.inl ⟨h, rfl, rfl⟩⟩⟩
    · by_cases e : v ≤ aCan A (aR A i)
      · exact ⟨_, _, Or.inr ⟨i, hi, Or.inr ⟨v, h1, h2, e2, Or.inr ⟨e, rfl, rfl⟩⟩⟩⟩
      · exact ⟨_, _, Or.inr ⟨i, hi, Or.inr ⟨v, h1, h2, e2, Or.inl ⟨by omega, rfl, rfl⟩⟩⟩⟩
theorem spGive_ex (A : axAD) (x : Int32) : ∃ r A', spGive A x r A' := by
  rcases sp_slug A x with h | ⟨p, hp⟩
  · exact ⟨_, _, Or.inl ⟨h, rfl, rfl⟩⟩
  · exact ⟨_, _, Or.inr ⟨p, hp, rfl, rfl⟩⟩
theorem spMove_ex (hO : aOk A) (x y : Int32) : ∃ r A', spMove A x y r A' := by
  have hn := hO.n
  rcases sp_slug A x with h | ⟨p, hp⟩
  · exact ⟨_, _, Or.inl ⟨Or.inl h, rfl, rfl⟩⟩
  · rcases sp_int y (aN A) (by omega) with h | ⟨q, hq, e⟩
    · exact ⟨_, _, Or.inl ⟨Or.inr h, rfl, rfl⟩⟩
    · by_cases hm : aLo A p ≤ q ∧ q < aHi A p
      · exact ⟨_, _, Or.inr ⟨p, q, hp, hq, e, Or.inr ⟨hm, rfl, rfl⟩⟩⟩
      · exact ⟨_, _, Or.inr ⟨p, q, hp, hq, e, Or.inl ⟨hm, rfl, rfl⟩⟩⟩
theorem spSwap_ex (A : axAD) (x y : Int32) : ∃ r A', spSwap A x y r A' := by
  rcases sp_slug A x with h | ⟨p, hp⟩
  · exact ⟨_, _, Or.inl ⟨Or.inl h, rfl, rfl⟩⟩
  · rcases sp_slug A y with h | ⟨q, hq⟩
    · exact ⟨_, _, Or.inl ⟨Or.inr h, rfl, rfl⟩⟩
    · by_cases e : p = q
      · exact ⟨_, _, Or.inr ⟨p, q, hp, hq, Or.inl ⟨e, rfl, rfl⟩⟩⟩
      · by_cases hm : aMay A p q
        · exact ⟨_, _, Or.inr ⟨p, q, hp, hq, Or.inr (Or.inr ⟨e, hm, rfl, rfl⟩)⟩⟩
        · exact ⟨_, _, Or.inr ⟨p, q, hp, hq, Or.inr (Or.inl ⟨e, hm, rfl, rfl⟩)⟩⟩
theorem spSplit_ex (hO : aOk A) (x y : Int32) : ∃ r A', spSplit A x y r A' := by
  have hn := hO.n
  rcases sp_slug A x with h | ⟨i, hi⟩
  · exact ⟨_, _, Or.inl ⟨h, rfl, rfl⟩⟩
  · rcases sp_rng y 1 98 (by decide) (by decide) with h | ⟨v, h1, h2, e2⟩
    · exact ⟨_, _, Or.inr ⟨i, hi, Or.inl ⟨h, rfl, rfl⟩⟩⟩
    · by_cases e : v < aB A (aR A i)
      · by_cases hf : aN A < 24
        · generalize hz : aFr A = z
          exact ⟨nI z, aSplit A i v (aR A i) z, Or.inr ⟨i, hi, Or.inr ⟨v, h1, h2, e2, Or.inr (Or.inr ⟨e, hf, z, hz.symm, rfl, rfl⟩)⟩⟩⟩
        · exact ⟨-4, A, Or.inr ⟨i, hi, Or.inr ⟨v, h1, h2, e2, Or.inr (Or.inl ⟨e, by omega, rfl, rfl⟩)⟩⟩⟩
      · exact ⟨_, _, Or.inr ⟨i, hi, Or.inr ⟨v, h1, h2, e2, Or.inl ⟨by omega, rfl, rfl⟩⟩⟩⟩
theorem spFit_ex (hO : aOk A) (x : Int32) : ∃ r A', spFit A x r A' := by
  have hn := hO.n
  have ha := aActs_le A
  rcases sp_int x (aActs A) (by omega) with h | ⟨a, ha, e⟩
  · exact ⟨_, _, Or.inl ⟨h, rfl, rfl⟩⟩
  · by_cases hm : (aOff A a).toNat - aCut A a ≤ aSl A
    · exact ⟨_, _, Or.inr ⟨a, ha, e, Or.inr ⟨hm, rfl, rfl⟩⟩⟩
    · exact ⟨_, _, Or.inr ⟨a, ha, e, Or.inl ⟨hm, rfl, rfl⟩⟩⟩
end AX41
end
section
/-! THE CLASS: each change of the board does what is told of it. -/
/-- what is told is an error, and nothing changed; or a number from 0 on -/
def spR (A : axAD) (r : Int32) (A' : axAD) : Prop := (r < 0 ∧ A' = A) ∨ ∃ n, n < 2 ^ 31 ∧ r = nI n
theorem spR_e (A : axAD) {r : Int32} (h : r < 0) : spR A r A := Or.inl ⟨h, rfl⟩
theorem spR_n {A A' : axAD} {n : Nat} (h : n < 2 ^ 31) : spR A (nI n) A' := Or.inr ⟨n, h, rfl⟩
theorem m1_neg : (-1 : Int32) < 0 := by decide
theorem m2_neg : (-2 : Int32) < 0 := by decide
theorem m4_neg : (-4 : Int32) < 0 := by decide
theorem m5_neg : (-5 : Int32) < 0 := by decide
section AX42
variable {LL : Nat} {xs : Nat → Int32} {ro : axRo} {d : Nat} {B : axBD} {Y : axYD} {sl : Nat → Option Nat} {P : axPD} {G : axGD} {tl : axH} {A A' : axAD} {x y w r : Int32}
theorem x0_set_sp (hO : aOk A) (hC : CR B A) (hS : spSet A x y r A') : ∃ B', axEv (axRoL LL xs) (d + 5) kX0_changeSetting [.ref 1, .int x, .int y] (hX B Y sl P G tl) (some (.int r)) ((hX (B') Y sl P G tl)) ∧ CR B' A' ∧ aOk A' ∧ spR A r A' := by
  rcases hS with ⟨j, v, hj, rfl, rfl, h1, h2, rfl, rfl⟩ | ⟨h, rfl, rfl⟩
  · refine ⟨_, x0_changeSetting_in (d := d + 3) hC hj h1 h2, cr_set hC hj, aOk_setS hO hj h1 h2, spR_n ?_⟩
    have := hO.pg; have := hO.sl; have := hO.tr
    unfold aSetV; split <;> (try split) <;> omega
  · exact ⟨B, x0_changeSetting_out (d := d + 3) h, hC, hO, spR_e _ m2_neg⟩
theorem x0_target_sp (hO : aOk A) (hC : CR B A) (hS : spTarget A x y r A') : ∃ B', axEv ro (d + 5) kX0_changeTarget [.ref 1, .int x, .int y] (hX B Y sl P G tl) (some (.int r)) ((hX (B') Y sl P G tl)) ∧ CR B' A' ∧ aOk A' ∧ spR A r A' := by
  rcases hS with ⟨a, v, ha, rfl, h1, h2, rfl, rfl, rfl⟩ | ⟨h, rfl, rfl⟩ | ⟨a, ha, rfl, h, rfl, rfl⟩
  · refine ⟨_, x0_changeTarget_in (d := d + 3) hC ha h1 h2, cr_tgt hC ha, aOk_setT hO h1 h2, spR_n ?_⟩
    have := hO.tg ha; omega
  · exact ⟨B, x0_changeTarget_ns (d := d + 3) h, hC, hO, spR_e _ m1_neg⟩
  · exact ⟨B, x0_changeTarget_bv (d := d + 3) ha h, hC, hO, spR_e _ m2_neg⟩
theorem x0_add_sp (hO : aOk A) (hC : CR B A) (hS : spAdd A x y w r A') : ∃ B', axEv ro (d + 5) kX0_addSlug [.ref 1, .int x, .int y, .int w] (hX B Y sl P G tl) (some (.int r)) ((hX (B') Y sl P G tl)) ∧ CR B' A' ∧ aOk A' ∧ spR A r A' := by
  have hn := hO.n
  rcases hS with ⟨h, rfl, rfl⟩ | ⟨p, hp, rfl, h, rfl, rfl⟩ | ⟨p, v, t, hp, rfl, h1, h2, rfl, h3, rfl, ⟨h4, rfl, rfl⟩ | ⟨h4, z, hz, rfl, rfl⟩⟩
  · refine ⟨B, x0_addSlug_ns (d := d + 1) hC ?_, hC, hO, spR_e _ m1_neg⟩
    rcases h with h | h
    · exact Or.inl h
    · refine Or.inr fun hle => ?_
      exact absurd (Int32.le_trans h hle) (nI_ge (by omega) (by omega))
  · refine ⟨B, x0_addSlug_bv (d := d + 1) hO hC (by omega) ?_, hC, hO, spR_e _ m2_neg⟩
    rcases h with (h | h) | (h | h)
    · exact Or.inl h
    · exact Or.inr (Or.inl (Int32.not_le.mp h))
    · exact Or.inr (Or.inr (Or.inl h))
    · exact Or.inr (Or.inr (Or.inr h))
  · exact ⟨B, x0_addSlug_tm (d := d + 1) hO hC (by omega) h1 h2 h3 h4, hC, hO, spR_e _ m4_neg⟩
  · obtain ⟨B', hev, hcr⟩ := x0_addSlug_ok (ro := ro) (d := d + 1) (Y := Y) (sl := sl) (P := P) (G := G) (tl := tl) hO hC (show p ≤ aN A by omega) h1 h2 h3 h4
    have hfl := aFr_lt hO h4
    have hff := aFr_free hO h4
    rw [← hz] at hev hcr hfl hff
    exact ⟨B', hev, hcr, aOk_add hO h4 (by omega) hfl hff h1 h2, spR_n (by omega)⟩
theorem x0_drop_sp (hO : aOk A) (hC : CR B A) (hS : spDrop A x r A') : ∃ B', axEv ro (d + 5) kX0_dropSlug [.ref 1, .int x] (hX B Y sl P G tl) (some (.int r)) ((hX (B') Y sl P G tl)) ∧ CR B' A' ∧ aOk A' ∧ spR A r A' := by
  have hn := hO.n
  rcases hS with ⟨h, rfl, rfl⟩ | ⟨p, ⟨hp, rfl⟩, rfl, rfl⟩
  · exact ⟨B, x0_dropSlug_out (d := d + 2) hC h, hC, hO, spR_e _ m1_neg⟩
  · exact ⟨_, x0_dropSlug_in (d := d + 2) hO hC hp, cr_drop hO hC hp, aOk_drop hO hp, spR_n (by omega)⟩
theorem x0_turn_sp (hO : aOk A) (hC : CR B A) (hS : spTurn A x r A') : ∃ B', axEv ro (d + 5) kX0_flipTurn [.ref 1, .int x] (hX B Y sl P G tl) (some (.int r)) ((hX (B') Y sl P G tl)) ∧ CR B' A' ∧ aOk A' ∧ spR A r A' := by
  rcases hS with ⟨h, rfl, rfl⟩ | ⟨p, ⟨hp, rfl⟩, rfl, rfl⟩
  · exact ⟨B, x0_flipTurn_out (d := d + 2) hC h, hC, hO, spR_e _ m1_neg⟩
  · refine ⟨_, x0_flipTurn_in (d := d + 2) hO hC hp, cr_flip hO hC hp, aOk_flip hO _, ?_⟩
    split
    · exact spR_n (n := 0) (by decide)
    · exact spR_n (n := 1) (by decide)
theorem x0_need_sp (hO : aOk A) (hC : CR B A) (hS : spNeed A x y r A') : ∃ B', axEv ro (d + 5) kX0_flipNeed [.ref 1, .int x, .int y] (hX B Y sl P G tl) (some (.int r)) ((hX (B') Y sl P G tl)) ∧ CR B' A' ∧ aOk A' ∧ spR A r A' := by
  rcases hS with ⟨h, rfl, rfl⟩ | ⟨i, j, ⟨hi, rfl⟩, ⟨hj, rfl⟩, ⟨e, rfl, rfl⟩ | ⟨e, hb, rfl, rfl⟩ | ⟨e, hb, rfl, rfl⟩⟩
  · refine ⟨B, ?_, hC, hO, spR_e _ m1_neg⟩
    rcases h with h | h
    · exact x0_flipNeed_ns1 (d := d + 2) hC h
    · rcases sp_slug A' x with h2 | ⟨i, hi, rfl⟩
      · exact x0_flipNeed_ns1 (d := d + 2) hC h2
      · exact x0_flipNeed_ns2 (d := d + 2) hO hC hi h
  · subst e
    exact ⟨B, x0_flipNeed_bv (d := d + 2) hO hC hi, hC, hO, spR_e _ m2_neg⟩
  · exact ⟨B, x0_flipNeed_np (d := d + 2) hO hC hi hj e hb, hC, hO, spR_e _ m5_neg⟩
  · refine ⟨_, x0_flipNeed_ok (d := d + 2) hO hC hi hj e hb, cr_setD hC, aOk_need hO hi hj hb, spR_n ?_⟩
    exact Nat.lt_of_le_of_lt (bc_le _ _) (by decide)
theorem x0_trim_sp (hO : aOk A) (hC : CR B A) (hS : spTrim A x y r A') : ∃ B', axEv ro (d + 5) kX0_trimSlug [.ref 1, .int x, .int y] (hX B Y sl P G tl) (some (.int r)) ((hX (B') Y sl P G tl)) ∧ CR B' A' ∧ aOk A' ∧ spR A r A' := by
  rcases hS with ⟨h, rfl, rfl⟩ | ⟨i, ⟨hi, rfl⟩, ⟨h, rfl, rfl⟩ | ⟨v, h1, h2, rfl, ⟨h3, rfl, rfl⟩ | ⟨h3, rfl, rfl⟩⟩⟩
  · exact ⟨B, x0_trimSlug_ns (d := d + 2) hC h, hC, hO, spR_e _ m1_neg⟩
  · exact ⟨B, x0_trimSlug_bv (d := d + 2) hO hC hi h, hC, hO, spR_e _ m2_neg⟩
  · exact ⟨B, x0_trimSlug_np (d := d + 2) hO hC hi h1 h2 h3, hC, hO, spR_e _ m5_neg⟩
  · have hb := hO.b hi
    have hc := aCan_lt hO hi
    exact ⟨_, x0_trimSlug_ok (d := d + 2) hO hC hi h1 h2 h3, cr_bts hC, aOk_bts hO hi (by omega) (by omega), spR_n (by omega)⟩
theorem x0_give_sp (hO : aOk A) (hC : CR B A) (hS : spGive A x r A') : ∃ B', axEv ro (d + 5) kX0_giveBack [.ref 1, .int x] (hX B Y sl P G tl) (some (.int r)) ((hX (B') Y sl P G tl)) ∧ CR B' A' ∧ aOk A' ∧ spR A r A' := by
  rcases hS with ⟨h, rfl, rfl⟩ | ⟨p, ⟨hp, rfl⟩, rfl, rfl⟩
  · exact ⟨B, x0_giveBack_out (d := d + 2) hC h, hC, hO, spR_e _ m1_neg⟩
  · have hb := hO.b hp
    exact ⟨_, x0_giveBack_in (d := d + 2) hO hC hp, cr_bts hC, aOk_bts hO hp (by omega) (Nat.le_refl _), spR_n (by omega)⟩
theorem x0_move_sp (hO : aOk A) (hC : CR B A) (hS : spMove A x y r A') : ∃ B', axEv ro (d + 5) kX0_moveSlug [.ref 1, .int x, .int y] (hX B Y sl P G tl) (some (.int r)) ((hX (B') Y sl P G tl)) ∧ CR B' A' ∧ aOk A' ∧ spR A r A' := by
  have hn := hO.n
  rcases hS with ⟨h, rfl, rfl⟩ | ⟨p, q, ⟨hp, rfl⟩, hq, rfl, ⟨h, rfl, rfl⟩ | ⟨h, rfl, rfl⟩⟩
  · refine ⟨B, ?_, hC, hO, spR_e _ m1_neg⟩
    rcases sp_slug A' x with h2 | ⟨p, hp, rfl⟩
    · exact x0_moveSlug_ns1 hC h2
    · rcases h with h | h
      · exact absurd rfl (h p hp)
      · exact x0_moveSlug_ns2 hO hC hp h
  · exact ⟨B, x0_moveSlug_np hO hC hp hq h, hC, hO, spR_e _ m5_neg⟩
  · exact ⟨_, x0_moveSlug_ok hO hC hp hq h, cr_szs hC (by omega) (cr_move hC hp hq), aOk_move hO hp hq h, spR_n (by omega)⟩
theorem x0_swap_sp (hO : aOk A) (hC : CR B A) (hS : spSwap A x y r A') : ∃ B', axEv ro (d + 5) kX0_swapSlugs [.ref 1, .int x, .int y] (hX B Y sl P G tl) (some (.int r)) ((hX (B') Y sl P G tl)) ∧ CR B' A' ∧ aOk A' ∧ spR A r A' := by
  have hn := hO.n
  rcases hS with ⟨h, rfl, rfl⟩ | ⟨p, q, ⟨hp, rfl⟩, ⟨hq, rfl⟩, ⟨e, rfl, rfl⟩ | ⟨e, h, rfl, rfl⟩ | ⟨e, h, rfl, rfl⟩⟩
  · refine ⟨B, ?_, hC, hO, spR_e _ m1_neg⟩
    rcases sp_slug A' x with h2 | ⟨p, hp, rfl⟩
    · exact x0_swapSlugs_ns1 hC h2
    · rcases h with h | h
      · exact absurd rfl (h p hp)
      · exact x0_swapSlugs_ns2 hO hC hp h
  · subst e
    exact ⟨B, x0_swapSlugs_bv hO hC hp, hC, hO, spR_e _ m2_neg⟩
  · exact ⟨B, x0_swapSlugs_np hO hC hp hq e h, hC, hO, spR_e _ m5_neg⟩
  · exact ⟨_, x0_swapSlugs_ok hO hC hp hq e h, cr_swp hC hp hq, aOk_swp hO hp hq e h, spR_n (by omega)⟩
theorem x0_split_sp (hO : aOk A) (hC : CR B A) (hS : spSplit A x y r A') : ∃ B', axEv ro (d + 5) kX0_splitSlug [.ref 1, .int x, .int y] (hX B Y sl P G tl) (some (.int r)) ((hX (B') Y sl P G tl)) ∧ CR B' A' ∧ aOk A' ∧ spR A r A' := by
  rcases hS with ⟨h, rfl, rfl⟩ | ⟨i, ⟨hi, rfl⟩, ⟨h, rfl, rfl⟩ | ⟨v, h1, h2, rfl, ⟨h3, rfl, rfl⟩ | ⟨h3, h4, rfl, rfl⟩ | ⟨h3, h4, z, hz, rfl, rfl⟩⟩⟩
  · exact ⟨B, x0_splitSlug_ns (d := d + 1) hC h, hC, hO, spR_e _ m1_neg⟩
  · exact ⟨B, x0_splitSlug_bv (d := d + 1) hO hC hi h, hC, hO, spR_e _ m2_neg⟩
  · exact ⟨B, x0_splitSlug_np (d := d + 1) hO hC hi h1 h2 h3, hC, hO, spR_e _ m5_neg⟩
  · exact ⟨B, x0_splitSlug_tm (d := d + 1) hO hC hi h1 h2 h3 h4, hC, hO, spR_e _ m4_neg⟩
  · obtain ⟨B', hev, hcr⟩ := x0_splitSlug_ok (ro := ro) (d := d + 1) (Y := Y) (sl := sl) (P := P) (G := G) (tl := tl) hO hC hi h1 h2 h3 h4
    have hfl := aFr_lt hO h4
    have hff := aFr_free hO h4
    rw [← hz] at hev hcr hfl hff
    exact ⟨B', hev, hcr, aOk_split hO h4 hi hfl hff h1 h3, spR_n (by omega)⟩
theorem x0_fit_sp (hO : aOk A) (hC : CR B A) (hS : spFit A x r A') : ∃ B', axEv ro (d + 5) kX0_fitAct [.ref 1, .int x] (hX B Y sl P G tl) (some (.int r)) ((hX (B') Y sl P G tl)) ∧ CR B' A' ∧ aOk A' ∧ spR A r A' := by
  rcases hS with ⟨h, rfl, rfl⟩ | ⟨a, ha, rfl, ⟨h, rfl, rfl⟩ | ⟨h, rfl, rfl⟩⟩
  · exact ⟨B, x0_fitAct_bad m1_neg (x0_cutOf_out hO hC h), hC, hO, spR_e _ m1_neg⟩
  · refine ⟨B, x0_fitAct_bad m5_neg ?_, hC, hO, spR_e _ m5_neg⟩
    have := x0_cutOf_in (ro := ro) (d := d) (Y := Y) (sl := sl) (P := P) (G := G) (tl := tl) hO hC ha
    rw [if_neg h] at this
    exact this
  · obtain ⟨B', hev, hcr, hok⟩ := x0_fitAct_ok (ro := ro) (d := d) (Y := Y) (sl := sl) (P := P) (G := G) (tl := tl) hO hC ha h
    refine ⟨B', hev, hcr, hok, spR_n ?_⟩
    have h1 := aOff_b hO a
    have : aCut A a ≤ (aOff A a).toNat := Nat.min_le_left _ _
    omega
end AX42
end
section
/-! THE CLASS: its whole state, and its public changes. -/
/-- what there is, for both: board, how many to undo, which, the slots, the pad -/
abbrev axV : Type := axAD × Nat × (Nat → axAD) × (Nat → Option axAD) × Nat × (Nat → Nat)
abbrev vA (V : axV) : axAD := V.1
abbrev vK (V : axV) : Nat := V.2.1
abbrev vH (V : axV) : Nat → axAD := V.2.2.1
abbrev vS (V : axV) : Nat → Option axAD := V.2.2.2.1
abbrev vP (V : axV) : Nat := V.2.2.2.2.1
abbrev vT (V : axV) : Nat → Nat := V.2.2.2.2.2
/-- the class' heap, with the other's cells mc, after m calls -/
def XS (V : axV) (mc : axH) (m : Nat) (h : axH) : Prop := ∃ B nx sf lf f cu la ki fi se G bs, h = hX B (sf, nI nx, nI (vK V)) lf (f, nI (vP V), cu, la, ki, fi, se) G (mc ++ bs) ∧ CR B (vA V) ∧ aOk (vA V) ∧ KP h sf lf nx (vK V) (vH V) (vS V) ∧ PT f (vT V) (vP V) ∧ bs.length ≤ 7 * m ∧ axSl bs ≤ 114 * m
/-- what there is after a change -/
def stpN (V : axV) (A' : axAD) : axV := (A', min (vK V + 1) 6, fun j => if j = 0 then vA V else vH V (j - 1), vS V, vP V, vT V)
def stp (V : axV) (r : Int32) (A' : axAD) : axV := if r < 0 then V else stpN V A'
section AX43
variable {LL : Nat} {xs : Nat → Int32} {ro : axRo} {d m : Nat} {B B' : axBD} {Y : axYD} {sf lf : Nat → Option Nat} {nx : Nat} {G : axGD} {mc bs h : axH} {V : axV} {A' : axAD} {x y w r : Int32} {f : Nat → Int32} {cu la ki fi se : Int32}
theorem x1_settle_xs (hC : CR B' A') (hO : aOk A') (hr : spR (vA V) r A') (hK : KP (hX B Y lf (f, nI (vP V), cu, la, ki, fi, se) G (mc ++ bs)) sf lf nx (vK V) (vH V) (vS V)) (hZ : ZH (hX B Y lf (f, nI (vP V), cu, la, ki, fi, se) G (mc ++ bs)) (zO sf lf) nx (vA V)) (hT : PT f (vT V) (vP V)) (h1 : bs.length ≤ 7 * m) (h2 : axSl bs ≤ 114 * m) : ∃ h', axEv ro (d + 1) kX1_settle [.ref 8, .int r] (hX B' (sf, nI nx, nI (vK V)) lf (f, nI (vP V), cu, la, ki, fi, se) G (mc ++ bs)) (some (.int r)) h' ∧ XS (stp V r A') mc m h' := by
  rcases hr with ⟨hn, rfl⟩ | ⟨n, hn, rfl⟩
  · unfold stp
    rw [if_pos hn]
    exact ⟨_, x1_settle_neg hn, B', nx, sf, lf, f, cu, la, ki, fi, se, G, bs, rfl, hC, hO, KP_go hK, hT, h1, h2⟩
  · unfold stp
    rw [if_neg (nI_pos hn)]
    exact ⟨_, x1_settle hn hK.1 hK.2.1, B', (nx + 1) % 7, sf, lf, f, cu, la, ki, fi, se, G, bs, rfl, hC, hO, KP_settle (KP_go hK) (ZH_go (by have := hK.1; omega) hK.2.2.1 hZ), hT, h1, h2⟩
theorem x4_set (hm : mc.length = 0) (hx : XS V mc m h) (hS : spSet (vA V) x y r A') : ∃ h', axEv (axRoL LL xs) (d + 6) kX4_set [.ref 0, .int x, .int y] h (some (.int r)) h' ∧ XS (stp V r A') mc (m + 1) h' := by
  obtain ⟨B, nx, sf, lf, f, cu, la, ki, fi, se, G, bs, rfl, hC, hO, hK, hT, hb1, hb2⟩ := hx
  obtain ⟨sf', bs', hev1, hK1, hZ1, hc1, hc2⟩ := x1_prepare (ro := (axRoL LL xs)) (d := d + 2) hm hC hO hK
  obtain ⟨B', hev2, hC2, hO2, hr⟩ := x0_set_sp (LL := LL) (xs := xs) (d := d) (Y := (sf', nI nx, nI (vK V))) (sl := lf) (P := (f, nI (vP V), cu, la, ki, fi, se)) (G := G) (tl := mc ++ bs') hO hC hS
  obtain ⟨h', hev3, hx3⟩ := x1_settle_xs (ro := (axRoL LL xs)) (d := d + 4) (m := m + 1) hC2 hO2 hr hK1 hZ1 hT (by omega) (by omega)
  refine ⟨h', ?_, hx3⟩
  refine ev_in rfl rfl (Nat.le_of_ble_eq_true rfl) rfl ?_
  refine wp_run rfl ?_
  refine wp_v1v rfl rfl (Nat.le_of_ble_eq_true rfl) (hev1) ?_
  refine wp_run rfl ?_
  refine wp_v2 rfl rfl (Nat.le_of_ble_eq_true rfl) (hev2) ?_
  refine wp_run rfl ?_
  refine wp_v1 rfl rfl (Nat.le_of_ble_eq_true rfl) (hev3) ?_
  refine wp_run rfl ?_
  exact wp_ret rfl rfl ⟨rfl, rfl⟩
theorem x4_target (hm : mc.length = 0) (hx : XS V mc m h) (hS : spTarget (vA V) x y r A') : ∃ h', axEv ro (d + 6) kX4_target [.ref 0, .int x, .int y] h (some (.int r)) h' ∧ XS (stp V r A') mc (m + 1) h' := by
  obtain ⟨B, nx, sf, lf, f, cu, la, ki, fi, se, G, bs, rfl, hC, hO, hK, hT, hb1, hb2⟩ := hx
  obtain ⟨sf', bs', hev1, hK1, hZ1, hc1, hc2⟩ := x1_prepare (ro := ro) (d := d + 2) hm hC hO hK
  obtain ⟨B', hev2, hC2, hO2, hr⟩ := x0_target_sp (ro := ro) (d := d) (Y := (sf', nI nx, nI (vK V))) (sl := lf) (P := (f, nI (vP V), cu, la, ki, fi, se)) (G := G) (tl := mc ++ bs') hO hC hS
  obtain ⟨h', hev3, hx3⟩ := x1_settle_xs (ro := ro) (d := d + 4) (m := m + 1) hC2 hO2 hr hK1 hZ1 hT (by omega) (by omega)
  refine ⟨h', ?_, hx3⟩
  refine ev_in rfl rfl (Nat.le_of_ble_eq_true rfl) rfl ?_
  refine wp_run rfl ?_
  refine wp_v1v rfl rfl (Nat.le_of_ble_eq_true rfl) (hev1) ?_
  refine wp_run rfl ?_
  refine wp_v2 rfl rfl (Nat.le_of_ble_eq_true rfl) (hev2) ?_
  refine wp_run rfl ?_
  refine wp_v1 rfl rfl (Nat.le_of_ble_eq_true rfl) (hev3) ?_
  refine wp_run rfl ?_
  exact wp_ret rfl rfl ⟨rfl, rfl⟩
theorem x4_slug (hm : mc.length = 0) (hx : XS V mc m h) (hS : spAdd (vA V) x y w r A') : ∃ h', axEv ro (d + 6) kX4_slug [.ref 0, .int x, .int y, .int w] h (some (.int r)) h' ∧ XS (stp V r A') mc (m + 1) h' := by
  obtain ⟨B, nx, sf, lf, f, cu, la, ki, fi, se, G, bs, rfl, hC, hO, hK, hT, hb1, hb2⟩ := hx
  obtain ⟨sf', bs', hev1, hK1, hZ1, hc1, hc2⟩ := x1_prepare (ro := ro) (d := d + 2) hm hC hO hK
  obtain ⟨B', hev2, hC2, hO2, hr⟩ := x0_add_sp (ro := ro) (d := d) (Y := (sf', nI nx, nI (vK V))) (sl := lf) (P := (f, nI (vP V), cu, la, ki, fi, se)) (G := G) (tl := mc ++ bs') hO hC hS
  obtain ⟨h', hev3, hx3⟩ := x1_settle_xs (ro := ro) (d := d + 4) (m := m + 1) hC2 hO2 hr hK1 hZ1 hT (by omega) (by omega)
  refine ⟨h', ?_, hx3⟩
  refine ev_in rfl rfl (Nat.le_of_ble_eq_true rfl) rfl ?_
  refine wp_run rfl ?_
  refine wp_v1v rfl rfl (Nat.le_of_ble_eq_true rfl) (hev1) ?_
  refine wp_run rfl ?_
  refine wp_v3 rfl rfl (Nat.le_of_ble_eq_true rfl) (hev2) ?_
  refine wp_run rfl ?_
  refine wp_v1 rfl rfl (Nat.le_of_ble_eq_true rfl) (hev3) ?_
  refine wp_run rfl ?_
  exact wp_ret rfl rfl ⟨rfl, rfl⟩
theorem x4_drop (hm : mc.length = 0) (hx : XS V mc m h) (hS : spDrop (vA V) x r A') : ∃ h', axEv ro (d + 6) kX4_drop [.ref 0, .int x] h (some (.int r)) h' ∧ XS (stp V r A') mc (m + 1) h' := by
  obtain ⟨B, nx, sf, lf, f, cu, la, ki, fi, se, G, bs, rfl, hC, hO, hK, hT, hb1, hb2⟩ := hx
  obtain ⟨sf', bs', hev1, hK1, hZ1, hc1, hc2⟩ := x1_prepare (ro := ro) (d := d + 2) hm hC hO hK
  obtain ⟨B', hev2, hC2, hO2, hr⟩ := x0_drop_sp (ro := ro) (d := d) (Y := (sf', nI nx, nI (vK V))) (sl := lf) (P := (f, nI (vP V), cu, la, ki, fi, se)) (G := G) (tl := mc ++ bs') hO hC hS
  obtain ⟨h', hev3, hx3⟩ := x1_settle_xs (ro := ro) (d := d + 4) (m := m + 1) hC2 hO2 hr hK1 hZ1 hT (by omega) (by omega)
  refine ⟨h', ?_, hx3⟩
  refine ev_in rfl rfl (Nat.le_of_ble_eq_true rfl) rfl ?_
  refine wp_run rfl ?_
  refine wp_v1v rfl rfl (Nat.le_of_ble_eq_true rfl) (hev1) ?_
  refine wp_run rfl ?_
  refine wp_v1 rfl rfl (Nat.le_of_ble_eq_true rfl) (hev2) ?_
  refine wp_run rfl ?_
  refine wp_v1 rfl rfl (Nat.le_of_ble_eq_true rfl) (hev3) ?_
  refine wp_run rfl ?_
  exact wp_ret rfl rfl ⟨rfl, rfl⟩
theorem x4_turn (hm : mc.length = 0) (hx : XS V mc m h) (hS : spTurn (vA V) x r A') : ∃ h', axEv ro (d + 6) kX4_turn [.ref 0, .int x] h (some (.int r)) h' ∧ XS (stp V r A') mc (m + 1) h' := by
  obtain ⟨B, nx, sf, lf, f, cu, la, ki, fi, se, G, bs, rfl, hC, hO, hK, hT, hb1, hb2⟩ := hx
  obtain ⟨sf', bs', hev1, hK1, hZ1, hc1, hc2⟩ := x1_prepare (ro := ro) (d := d + 2) hm hC hO hK
  obtain ⟨B', hev2, hC2, hO2, hr⟩ := x0_turn_sp (ro := ro) (d := d) (Y := (sf', nI nx, nI (vK V))) (sl := lf) (P := (f, nI (vP V), cu, la, ki, fi, se)) (G := G) (tl := mc ++ bs') hO hC hS
  obtain ⟨h', hev3, hx3⟩ := x1_settle_xs (ro := ro) (d := d + 4) (m := m + 1) hC2 hO2 hr hK1 hZ1 hT (by omega) (by omega)
  refine ⟨h', ?_, hx3⟩
  refine ev_in rfl rfl (Nat.le_of_ble_eq_true rfl) rfl ?_
  refine wp_run rfl ?_
  refine wp_v1v rfl rfl (Nat.le_of_ble_eq_true rfl) (hev1) ?_
  refine wp_run rfl ?_
  refine wp_v1 rfl rfl (Nat.le_of_ble_eq_true rfl) (hev2) ?_
  refine wp_run rfl ?_
  refine wp_v1 rfl rfl (Nat.le_of_ble_eq_true rfl) (hev3) ?_
  refine wp_run rfl ?_
  exact wp_ret rfl rfl ⟨rfl, rfl⟩
theorem x4_need (hm : mc.length = 0) (hx : XS V mc m h) (hS : spNeed (vA V) x y r A') : ∃ h', axEv ro (d + 6) kX4_need [.ref 0, .int x, .int y] h (some (.int r)) h' ∧ XS (stp V r A') mc (m + 1) h' := by
  obtain ⟨B, nx, sf, lf, f, cu, la, ki, fi, se, G, bs, rfl, hC, hO, hK, hT, hb1, hb2⟩ := hx
  obtain ⟨sf', bs', hev1, hK1, hZ1, hc1, hc2⟩ := x1_prepare (ro := ro) (d := d + 2) hm hC hO hK
  obtain ⟨B', hev2, hC2, hO2, hr⟩ := x0_need_sp (ro := ro) (d := d) (Y := (sf', nI nx, nI (vK V))) (sl := lf) (P := (f, nI (vP V), cu, la, ki, fi, se)) (G := G) (tl := mc ++ bs') hO hC hS
  obtain ⟨h', hev3, hx3⟩ := x1_settle_xs (ro := ro) (d := d + 4) (m := m + 1) hC2 hO2 hr hK1 hZ1 hT (by omega) (by omega)
  refine ⟨h', ?_, hx3⟩
  refine ev_in rfl rfl (Nat.le_of_ble_eq_true rfl) rfl ?_
  refine wp_run rfl ?_
  refine wp_v1v rfl rfl (Nat.le_of_ble_eq_true rfl) (hev1) ?_
  refine wp_run rfl ?_
  refine wp_v2 rfl rfl (Nat.le_of_ble_eq_true rfl) (hev2) ?_
  refine wp_run rfl ?_
  refine wp_v1 rfl rfl (Nat.le_of_ble_eq_true rfl) (hev3) ?_
  refine wp_run rfl ?_
  exact wp_ret rfl rfl ⟨rfl, rfl⟩
theorem x4_trim (hm : mc.length = 0) (hx : XS V mc m h) (hS : spTrim (vA V) x y r A') : ∃ h', axEv ro (d + 6) kX4_trim [.ref 0, .int x, .int y] h (some (.int r)) h' ∧ XS (stp V r A') mc (m + 1) h' := by
  obtain ⟨B, nx, sf, lf, f, cu, la, ki, fi, se, G, bs, rfl, hC, hO, hK, hT, hb1, hb2⟩ := hx
  obtain ⟨sf', bs', hev1, hK1, hZ1, hc1, hc2⟩ := x1_prepare (ro := ro) (d := d + 2) hm hC hO hK
  obtain ⟨B', hev2, hC2, hO2, hr⟩ := x0_trim_sp (ro := ro) (d := d) (Y := (sf', nI nx, nI (vK V))) (sl := lf) (P := (f, nI (vP V), cu, la, ki, fi, se)) (G := G) (tl := mc ++ bs') hO hC hS
  obtain ⟨h', hev3, hx3⟩ := x1_settle_xs (ro := ro) (d := d + 4) (m := m + 1) hC2 hO2 hr hK1 hZ1 hT (by omega) (by omega)
  refine ⟨h', ?_, hx3⟩
  refine ev_in rfl rfl (Nat.le_of_ble_eq_true rfl) rfl ?_
  refine wp_run rfl ?_
  refine wp_v1v rfl rfl (Nat.le_of_ble_eq_true rfl) (hev1) ?_
  refine wp_run rfl ?_
  refine wp_v2 rfl rfl (Nat.le_of_ble_eq_true rfl) (hev2) ?_
  refine wp_run rfl ?_
  refine wp_v1 rfl rfl (Nat.le_of_ble_eq_true rfl) (hev3) ?_
  refine wp_run rfl ?_
  exact wp_ret rfl rfl ⟨rfl, rfl⟩
theorem x4_restoreTail (hm : mc.length = 0) (hx : XS V mc m h) (hS : spGive (vA V) x r A') : ∃ h', axEv ro (d + 6) kX4_restoreTail [.ref 0, .int x] h (some (.int r)) h' ∧ XS (stp V r A') mc (m + 1) h' := by
  obtain ⟨B, nx, sf, lf, f, cu, la, ki, fi, se, G, bs, rfl, hC, hO, hK, hT, hb1, hb2⟩ := hx
  obtain ⟨sf', bs', hev1, hK1, hZ1, hc1, hc2⟩ := x1_prepare (ro := ro) (d := d + 2) hm hC hO hK
  obtain ⟨B', hev2, hC2, hO2, hr⟩ := x0_give_sp (ro := ro) (d := d) (Y := (sf', nI nx, nI (vK V))) (sl := lf) (P := (f, nI (vP V), cu, la, ki, fi, se)) (G := G) (tl := mc ++ bs') hO hC hS
  obtain ⟨h', hev3, hx3⟩ := x1_settle_xs (ro := ro) (d := d + 4) (m := m + 1) hC2 hO2 hr hK1 hZ1 hT (by omega) (by omega)
  refine ⟨h', ?_, hx3⟩
  refine ev_in rfl rfl (Nat.le_of_ble_eq_true rfl) rfl ?_
  refine wp_run rfl ?_
  refine wp_v1v rfl rfl (Nat.le_of_ble_eq_true rfl) (hev1) ?_
  refine wp_run rfl ?_
  refine wp_v1 rfl rfl (Nat.le_of_ble_eq_true rfl) (hev2) ?_
  refine wp_run rfl ?_
  refine wp_v1 rfl rfl (Nat.le_of_ble_eq_true rfl) (hev3) ?_
  refine wp_run rfl ?_
  exact wp_ret rfl rfl ⟨rfl, rfl⟩
theorem x4_move (hm : mc.length = 0) (hx : XS V mc m h) (hS : spMove (vA V) x y r A') : ∃ h', axEv ro (d + 6) kX4_move [.ref 0, .int x, .int y] h (some (.int r)) h' ∧ XS (stp V r A') mc (m + 1) h' := by
  obtain ⟨B, nx, sf, lf, f, cu, la, ki, fi, se, G, bs, rfl, hC, hO, hK, hT, hb1, hb2⟩ := hx
  obtain ⟨sf', bs', hev1, hK1, hZ1, hc1, hc2⟩ := x1_prepare (ro := ro) (d := d + 2) hm hC hO hK
  obtain ⟨B', hev2, hC2, hO2, hr⟩ := x0_move_sp (ro := ro) (d := d) (Y := (sf', nI nx, nI (vK V))) (sl := lf) (P := (f, nI (vP V), cu, la, ki, fi, se)) (G := G) (tl := mc ++ bs') hO hC hS
  obtain ⟨h', hev3, hx3⟩ := x1_settle_xs (ro := ro) (d := d + 4) (m := m + 1) hC2 hO2 hr hK1 hZ1 hT (by omega) (by omega)
  refine ⟨h', ?_, hx3⟩
  refine ev_in rfl rfl (Nat.le_of_ble_eq_true rfl) rfl ?_
  refine wp_run rfl ?_
  refine wp_v1v rfl rfl (Nat.le_of_ble_eq_true rfl) (hev1) ?_
  refine wp_run rfl ?_
  refine wp_v2 rfl rfl (Nat.le_of_ble_eq_true rfl) (hev2) ?_
  refine wp_run rfl ?_
  refine wp_v1 rfl rfl (Nat.le_of_ble_eq_true rfl) (hev3) ?_
  refine wp_run rfl ?_
  exact wp_ret rfl rfl ⟨rfl, rfl⟩
theorem x4_swap (hm : mc.length = 0) (hx : XS V mc m h) (hS : spSwap (vA V) x y r A') : ∃ h', axEv ro (d + 6) kX4_swap [.ref 0, .int x, .int y] h (some (.int r)) h' ∧ XS (stp V r A') mc (m + 1) h' := by
  obtain ⟨B, nx, sf, lf, f, cu, la, ki, fi, se, G, bs, rfl, hC, hO, hK, hT, hb1, hb2⟩ := hx
  obtain ⟨sf', bs', hev1, hK1, hZ1, hc1, hc2⟩ := x1_prepare (ro := ro) (d := d + 2) hm hC hO hK
  obtain ⟨B', hev2, hC2, hO2, hr⟩ := x0_swap_sp (ro := ro) (d := d) (Y := (sf', nI nx, nI (vK V))) (sl := lf) (P := (f, nI (vP V), cu, la, ki, fi, se)) (G := G) (tl := mc ++ bs') hO hC hS
  obtain ⟨h', hev3, hx3⟩ := x1_settle_xs (ro := ro) (d := d + 4) (m := m + 1) hC2 hO2 hr hK1 hZ1 hT (by omega) (by omega)
  refine ⟨h', ?_, hx3⟩
  refine ev_in rfl rfl (Nat.le_of_ble_eq_true rfl) rfl ?_
  refine wp_run rfl ?_
  refine wp_v1v rfl rfl (Nat.le_of_ble_eq_true rfl) (hev1) ?_
  refine wp_run rfl ?_
  refine wp_v2 rfl rfl (Nat.le_of_ble_eq_true rfl) (hev2) ?_
  refine wp_run rfl ?_
  refine wp_v1 rfl rfl (Nat.le_of_ble_eq_true rfl) (hev3) ?_
  refine wp_run rfl ?_
  exact wp_ret rfl rfl ⟨rfl, rfl⟩
theorem x4_split (hm : mc.length = 0) (hx : XS V mc m h) (hS : spSplit (vA V) x y r A') : ∃ h', axEv ro (d + 6) kX4_split [.ref 0, .int x, .int y] h (some (.int r)) h' ∧ XS (stp V r A') mc (m + 1) h' := by
  obtain ⟨B, nx, sf, lf, f, cu, la, ki, fi, se, G, bs, rfl, hC, hO, hK, hT, hb1, hb2⟩ := hx
  obtain ⟨sf', bs', hev1, hK1, hZ1, hc1, hc2⟩ := x1_prepare (ro := ro) (d := d + 2) hm hC hO hK
  obtain ⟨B', hev2, hC2, hO2, hr⟩ := x0_split_sp (ro := ro) (d := d) (Y := (sf', nI nx, nI (vK V))) (sl := lf) (P := (f, nI (vP V), cu, la, ki, fi, se)) (G := G) (tl := mc ++ bs') hO hC hS
  obtain ⟨h', hev3, hx3⟩ := x1_settle_xs (ro := ro) (d := d + 4) (m := m + 1) hC2 hO2 hr hK1 hZ1 hT (by omega) (by omega)
  refine ⟨h', ?_, hx3⟩
  refine ev_in rfl rfl (Nat.le_of_ble_eq_true rfl) rfl ?_
  refine wp_run rfl ?_
  refine wp_v1v rfl rfl (Nat.le_of_ble_eq_true rfl) (hev1) ?_
  refine wp_run rfl ?_
  refine wp_v2 rfl rfl (Nat.le_of_ble_eq_true rfl) (hev2) ?_
  refine wp_run rfl ?_
  refine wp_v1 rfl rfl (Nat.le_of_ble_eq_true rfl) (hev3) ?_
  refine wp_run rfl ?_
  exact wp_ret rfl rfl ⟨rfl, rfl⟩
theorem x4_fit (hm : mc.length = 0) (hx : XS V mc m h) (hS : spFit (vA V) x r A') : ∃ h', axEv ro (d + 6) kX4_fit [.ref 0, .int x] h (some (.int r)) h' ∧ XS (stp V r A') mc (m + 1) h' := by
  obtain ⟨B, nx, sf, lf, f, cu, la, ki, fi, se, G, bs, rfl, hC, hO, hK, hT, hb1, hb2⟩ := hx
  obtain ⟨sf', bs', hev1, hK1, hZ1, hc1, hc2⟩ := x1_prepare (ro := ro) (d := d + 2) hm hC hO hK
  obtain ⟨B', hev2, hC2, hO2, hr⟩ := x0_fit_sp (ro := ro) (d := d) (Y := (sf', nI nx, nI (vK V))) (sl := lf) (P := (f, nI (vP V), cu, la, ki, fi, se)) (G := G) (tl := mc ++ bs') hO hC hS
  obtain ⟨h', hev3, hx3⟩ := x1_settle_xs (ro := ro) (d := d + 4) (m := m + 1) hC2 hO2 hr hK1 hZ1 hT (by omega) (by omega)
  refine ⟨h', ?_, hx3⟩
  refine ev_in rfl rfl (Nat.le_of_ble_eq_true rfl) rfl ?_
  refine wp_run rfl ?_
  refine wp_v1v rfl rfl (Nat.le_of_ble_eq_true rfl) (hev1) ?_
  refine wp_run rfl ?_
  refine wp_v1 rfl rfl (Nat.le_of_ble_eq_true rfl) (hev2) ?_
  refine wp_run rfl ?_
  refine wp_v1 rfl rfl (Nat.le_of_ble_eq_true rfl) (hev3) ?_
  refine wp_run rfl ?_
  exact wp_ret rfl rfl ⟨rfl, rfl⟩
end AX43
end
section
/-! THE CLASS: undo. -/
def spUndo (V : axV) (r : Int32) (V' : axV) : Prop :=
  (vK V = 0 ∧ r = -5 ∧ V' = V) ∨ (0 < vK V ∧ r = nI (vK V - 1) ∧ V' = (vH V 0, vK V - 1, fun j => vH V (j + 1), vS V, vP V, vT V))
section AX44
variable {ro : axRo} {d m : Nat} {mc h : axH} {V V' : axV} {x r : Int32}
theorem spUndo_ex (V : axV) : ∃ r V', spUndo V r V' := by
  by_cases h : vK V = 0
  · exact ⟨_, _, Or.inl ⟨h, rfl, rfl⟩⟩
  · exact ⟨_, _, Or.inr ⟨by omega, rfl, rfl⟩⟩
theorem XS_more {m' : Nat} (hm : m ≤ m') (hx : XS V mc m h) : XS V mc m' h := by
  obtain ⟨B, nx, sf, lf, f, cu, la, ki, fi, se, G, bs, e, hC, hO, hK, hT, hb1, hb2⟩ := hx
  exact ⟨B, nx, sf, lf, f, cu, la, ki, fi, se, G, bs, e, hC, hO, hK, hT, by omega, by omega⟩
theorem x4_undo (hm : mc.length = 0) (hx : XS V mc m h) (hS : spUndo V r V') : ∃ h', axEv ro (d + 6) kX4_undo [.ref 0] h (some (.int r)) h' ∧ XS V' mc (m + 1) h' := by
  have hx' := XS_more (Nat.le_succ m) hx
  obtain ⟨B, nx, sf, lf, f, cu, la, ki, fi, se, G, bs, rfl, hC, hO, hK, hT, hb1, hb2⟩ := hx
  rcases hS with ⟨h1, rfl, rfl⟩ | ⟨h1, rfl, rfl⟩
  · refine ⟨_, ?_, hx'⟩
    refine ev_in rfl rfl (Nat.le_of_ble_eq_true rfl) rfl ?_
    refine wp_run rfl ?_
    refine wp_v1 rfl rfl (Nat.le_of_ble_eq_true rfl) (x1_takeBack_no (d := d + 3) hK.1 h1) ?_
    refine wp_run rfl ?_
    exact wp_ret rfl rfl ⟨rfl, rfl⟩
  · obtain ⟨B', hev, hC', hO', hK'⟩ := x1_takeBack (ro := ro) (d := d + 3) hm h1 hK
    refine ⟨_, ?_, B', (nx + 6) % 7, sf, lf, f, cu, la, ki, fi, se, G, bs, rfl, hC', hO', hK', hT, by omega, by omega⟩
    refine ev_in rfl rfl (Nat.le_of_ble_eq_true rfl) rfl ?_
    refine wp_run rfl ?_
    refine wp_v1 rfl rfl (Nat.le_of_ble_eq_true rfl) (hev) ?_
    refine wp_run rfl ?_
    exact wp_ret rfl rfl ⟨rfl, rfl⟩
end AX44
end
section
/-! THE LAW: a switch that goes to its default. -/
def axSwO (d : Nat) (x : Int32) : List (Int32 × Nat) → Prop
  | [] => True
  | q :: r => match Nat.beq q.2 d with
    | true => axSwO d x r
    | false => x ≠ q.1 ∧ axSwO d x r
theorem axSw_def {d : Nat} {x : Int32} : ∀ (tb : List (Int32 × Nat)), axSwO d x tb → axSw tb d x = d
  | [], _ => rfl
  | q :: r, h => by
    unfold axSwO at h
    rw [axSw]
    cases e : Nat.beq q.2 d with
    | true =>
      rw [e] at h
      split
      · exact Nat.eq_of_beq_eq_true e
      · exact axSw_def r h
    | false =>
      rw [e] at h
      rw [if_neg h.1]
      exact axSw_def r h.2
theorem axSw_go {ro : axRo} {E : axCall} {cd : List axE} {L : axL} {S : List Value} {Q : Option Value → axH → Prop} {h : axH} {x : Int32} {tb : List (Int32 × Nat)} {z : Nat} (hs : axSwO z x tb) (k : axW ro E cd z L S h Q) : axW ro E cd (axSw tb z x) L S h Q := by rw [axSw_def tb hs]; exact k
end
section
/-! THE CLASS: its public methods that change nothing. -/
def ofV (A : axAD) (i k : Nat) : Int32 := match k with
  | 0 => nI i
  | 1 => nI (aW A (aR A i))
  | 2 => nI (aB A (aR A i))
  | 3 => if aT A (aR A i) = true then 1 else 0
  | 4 => aD A (aR A i)
  | 5 => aNdr A (aR A i) (aN A)
  | 6 => nI (aBeg A i)
  | 7 => nI (aBeg A i / aPg A)
  | 8 => nI (aAct A i)
  | _ => nI (aCan A (aR A i))
def spOf (A : axAD) (x y r : Int32) : Prop := (spNo A x ∧ r = -1) ∨ ∃ i, spSlug A x i ∧ ((∃ k, k < 10 ∧ y = nI k ∧ r = ofV A i k) ∨ ((y < 0 ∨ nI 10 ≤ y) ∧ r = -2))
def spAt (A : axAD) (x r : Int32) : Prop := ((x < 0 ∨ nI (aN A) ≤ x) ∧ r = -1) ∨ ∃ i, i < aN A ∧ x = nI i ∧ r = nI (aR A i)
def spAtBeat (A : axAD) (x r : Int32) : Prop := (x < 0 ∧ r = -2) ∨ ∃ v, v < 2 ^ 31 ∧ x = nI v ∧ r = (if aAtB A v < aN A then nI (aR A (aAtB A v)) else -6)
def actV (A : axAD) (a k : Nat) : Int32 := match k with
  | 0 => nI (aBeg A (aSt A (a + 1)) - aBeg A (aSt A a))
  | 1 => nI (aTgt A a)
  | 2 => zI (aOff A a + 5000)
  | 3 => if a < aAct A (aN A) ∧ (aOff A a).natAbs ≤ aSl A then 1 else 0
  | 4 => if aAct A (aN A) ≤ a then 1 else 0
  | 5 => nI (aSt A (a + 1) - aSt A a)
  | 6 => nI (aBeg A (aSt A a))
  | _ => nI (aRm A (aSt A (a + 1)) - aRm A (aSt A a))
def spOfAct (A : axAD) (x y r : Int32) : Prop := ((x < 0 ∨ nI (aActs A) ≤ x) ∧ r = -1) ∨ ∃ a, a < aActs A ∧ x = nI a ∧ ((∃ k, k < 8 ∧ y = nI k ∧ r = actV A a k) ∨ ((y < 0 ∨ nI 8 ≤ y) ∧ r = -2))
theorem sw_out {y : Int32} {n : Nat} (h : y < 0 ∨ nI n ≤ y) (hn : n < 2 ^ 31) {k : Nat} (hk : k < n) : y ≠ nI k := fun e => by
  rcases h with h | h
  · rw [e] at h; exact nI_pos (by omega) h
  · rw [e] at h; exact nI_ge hk hn h
theorem spOf_ex (A : axAD) (x y : Int32) : ∃ r, spOf A x y r := by
  rcases sp_slug A x with h | ⟨i, hi⟩
  · exact ⟨_, Or.inl ⟨h, rfl⟩⟩
  · rcases sp_int y 10 (by decide) with h | ⟨k, hk, e⟩
    · exact ⟨_, Or.inr ⟨i, hi, Or.inr ⟨h, rfl⟩⟩⟩
    · exact ⟨_, Or.inr ⟨i, hi, Or.inl ⟨k, hk, e, rfl⟩⟩⟩
theorem spAt_ex {A : axAD} (hO : aOk A) (x : Int32) : ∃ r, spAt A x r := by
  have hn := hO.n
  rcases sp_int x (aN A) (by omega) with h | ⟨k, hk, e⟩
  · exact ⟨_, Or.inl ⟨h, rfl⟩⟩
  · exact ⟨_, Or.inr ⟨k, hk, e, rfl⟩⟩
theorem spAtBeat_ex (A : axAD) (x : Int32) : ∃ r, spAtBeat A x r := by
  by_cases h : x < 0
  · exact ⟨_, Or.inl ⟨h, rfl⟩⟩
  · obtain ⟨v, hv, e⟩ := nI_of h
    exact ⟨_, Or.inr ⟨v, hv, e, rfl⟩⟩
theorem spOfAct_ex {A : axAD} (hO : aOk A) (x y : Int32) : ∃ r, spOfAct A x y r := by
  have hn := hO.n
  have ha := aActs_le A
  rcases sp_int x (aActs A) (by omega) with h | ⟨a, ha, e⟩
  · exact ⟨_, Or.inl ⟨h, rfl⟩⟩
  · rcases sp_int y 8 (by decide) with h | ⟨k, hk, e2⟩
    · exact ⟨_, Or.inr ⟨a, ha, e, Or.inr ⟨h, rfl⟩⟩⟩
    · exact ⟨_, Or.inr ⟨a, ha, e, Or.inl ⟨k, hk, e2, rfl⟩⟩⟩
section AX47
variable {ro : axRo} {d : Nat} {B : axBD} {Y : axYD} {sl : Nat → Option Nat} {P : axPD} {G : axGD} {tl : axH} {A : axAD} {x y r : Int32}
theorem x4_of_b (hO : aOk A) (hC : CR B A) (hS : spOf A x y r) : axEv ro (d + 6) kX4_of [.ref 0, .int x, .int y] (hX B Y sl P G tl) (some (.int r)) (hX B Y sl P G tl) := by
  have hn := hO.n
  rcases hS with ⟨h, rfl⟩ | ⟨i, ⟨hi, rfl⟩, ⟨k, hk, rfl, rfl⟩ | ⟨h, rfl⟩⟩
  · refine ev_in rfl rfl (Nat.le_of_ble_eq_true rfl) rfl ?_
    refine wp_run rfl ?_
    refine wp_v1 rfl rfl (Nat.le_of_ble_eq_true rfl) (x0_has_out (d := d + 3) hC h) ?_
    refine wp_run rfl ?_
    refine wp_ifne rfl (fun hz_ => absurd hz_ (fun z => z rfl)) (fun _ => ?_)
    refine wp_run rfl ?_
    exact wp_ret rfl rfl ⟨rfl, rfl⟩
  · have hk24 := hO.r hi
    match k, hk with
    | 0, _ =>
      refine ev_in rfl rfl (Nat.le_of_ble_eq_true rfl) rfl ?_
      refine wp_run rfl ?_
      refine wp_v1 rfl rfl (Nat.le_of_ble_eq_true rfl) (x0_has_in (d := d + 3) hO hC hi) ?_
      refine wp_run rfl ?_
      refine wp_ifne rfl (fun _ => ?_) (fun hz_ => absurd ((by decide : ¬ (1 : Int32) = 0)) hz_)
      refine wp_run rfl ?_
      refine wp_v1 rfl rfl (Nat.le_of_ble_eq_true rfl) (x0_placeOf (d := d + 3) hO hC hi) ?_
      refine wp_run rfl ?_
      refine wp_sw rfl ?_
      refine wp_run rfl ?_
      exact wp_ret rfl rfl ⟨rfl, rfl⟩
    | 1, _ =>
      refine ev_in rfl rfl (Nat.le_of_ble_eq_true rfl) rfl ?_
      refine wp_run rfl ?_
      refine wp_v1 rfl rfl (Nat.le_of_ble_eq_true rfl) (x0_has_in (d := d + 3) hO hC hi) ?_
      refine wp_run rfl ?_
      refine wp_ifne rfl (fun _ => ?_) (fun hz_ => absurd ((by decide : ¬ (1 : Int32) = 0)) hz_)
      refine wp_run rfl ?_
      refine wp_v1 rfl rfl (Nat.le_of_ble_eq_true rfl) (x0_placeOf (d := d + 3) hO hC hi) ?_
      refine wp_run rfl ?_
      refine wp_sw rfl ?_
      refine wp_run rfl ?_
      refine wp_v1 rfl rfl (Nat.le_of_ble_eq_true rfl) (x0_writtenOf (d := d + 3) hO hC hi) ?_
      refine wp_run rfl ?_
      exact wp_ret rfl rfl ⟨rfl, rfl⟩
    | 2, _ =>
      refine ev_in rfl rfl (Nat.le_of_ble_eq_true rfl) rfl ?_
      refine wp_run rfl ?_
      refine wp_v1 rfl rfl (Nat.le_of_ble_eq_true rfl) (x0_has_in (d := d + 3) hO hC hi) ?_
      refine wp_run rfl ?_
      refine wp_ifne rfl (fun _ => ?_) (fun hz_ => absurd ((by decide : ¬ (1 : Int32) = 0)) hz_)
      refine wp_run rfl ?_
      refine wp_v1 rfl rfl (Nat.le_of_ble_eq_true rfl) (x0_placeOf (d := d + 3) hO hC hi) ?_
      refine wp_run rfl ?_
      refine wp_sw rfl ?_
      refine wp_run rfl ?_
      refine wp_v1 rfl rfl (Nat.le_of_ble_eq_true rfl) (x0_beatsOf (d := d + 3) hO hC hi) ?_
      refine wp_run rfl ?_
      exact wp_ret rfl rfl ⟨rfl, rfl⟩
    | 3, _ =>
      have ht := x0_isTurn (ro := ro) (d := d + 3) (Y := Y) (sl := sl) (P := P) (G := G) (tl := tl) hO hC hi
      show axEv ro (d + 6) kX4_of [.ref 0, .int (nI (aR A i)), .int (nI 3)] (hX B Y sl P G tl) (some (.int (if aT A (aR A i) = true then 1 else 0))) (hX B Y sl P G tl)
      refine ev_in rfl rfl (Nat.le_of_ble_eq_true rfl) rfl ?_
      refine wp_run rfl ?_
      refine wp_v1 rfl rfl (Nat.le_of_ble_eq_true rfl) (x0_has_in (d := d + 3) hO hC hi) ?_
      refine wp_run rfl ?_
      refine wp_ifne rfl (fun _ => ?_) (fun hz_ => absurd ((by decide : ¬ (1 : Int32) = 0)) hz_)
      refine wp_run rfl ?_
      refine wp_v1 rfl rfl (Nat.le_of_ble_eq_true rfl) (x0_placeOf (d := d + 3) hO hC hi) ?_
      refine wp_run rfl ?_
      refine wp_sw rfl ?_
      refine wp_run rfl ?_
      cases hb : aT A (aR A i) with
      | true =>
        rw [hb] at ht
        refine wp_v1 rfl rfl (Nat.le_of_ble_eq_true rfl) (ht) ?_
        refine wp_run rfl ?_
        refine wp_ifeq rfl (fun hz_ => absurd hz_ ((by decide : ¬ (1 : Int32) = 0))) (fun _ => ?_)
        refine wp_run rfl ?_
        exact wp_ret rfl rfl ⟨rfl, rfl⟩
      | false =>
        rw [hb] at ht
        refine wp_v1 rfl rfl (Nat.le_of_ble_eq_true rfl) (ht) ?_
        refine wp_run rfl ?_
        refine wp_ifeq rfl (fun _ => ?_) (fun hz_ => absurd (rfl) hz_)
        refine wp_run rfl ?_
        exact wp_ret rfl rfl ⟨rfl, rfl⟩
    | 4, _ =>
      refine ev_in rfl rfl (Nat.le_of_ble_eq_true rfl) rfl ?_
      refine wp_run rfl ?_
      refine wp_v1 rfl rfl (Nat.le_of_ble_eq_true rfl) (x0_has_in (d := d + 3) hO hC hi) ?_
      refine wp_run rfl ?_
      refine wp_ifne rfl (fun _ => ?_) (fun hz_ => absurd ((by decide : ¬ (1 : Int32) = 0)) hz_)
      refine wp_run rfl ?_
      refine wp_v1 rfl rfl (Nat.le_of_ble_eq_true rfl) (x0_placeOf (d := d + 3) hO hC hi) ?_
      refine wp_run rfl ?_
      refine wp_sw rfl ?_
      refine wp_run rfl ?_
      refine wp_v1 rfl rfl (Nat.le_of_ble_eq_true rfl) (x0_needsOf (d := d + 3) hO hC hi) ?_
      refine wp_run rfl ?_
      exact wp_ret rfl rfl ⟨rfl, rfl⟩
    | 5, _ =>
      refine ev_in rfl rfl (Nat.le_of_ble_eq_true rfl) rfl ?_
      refine wp_run rfl ?_
      refine wp_v1 rfl rfl (Nat.le_of_ble_eq_true rfl) (x0_has_in (d := d + 3) hO hC hi) ?_
      refine wp_run rfl ?_
      refine wp_ifne rfl (fun _ => ?_) (fun hz_ => absurd ((by decide : ¬ (1 : Int32) = 0)) hz_)
      refine wp_run rfl ?_
      refine wp_v1 rfl rfl (Nat.le_of_ble_eq_true rfl) (x0_placeOf (d := d + 3) hO hC hi) ?_
      refine wp_run rfl ?_
      refine wp_sw rfl ?_
      refine wp_run rfl ?_
      refine wp_v1 rfl rfl (Nat.le_of_ble_eq_true rfl) (x0_needersOf (d := d + 2) hO hC hk24) ?_
      refine wp_run rfl ?_
      exact wp_ret rfl rfl ⟨rfl, rfl⟩
    | 6, _ =>
      have hb := x0_beatsIn (ro := ro) (d := d + 3) (Y := Y) (sl := sl) (P := P) (G := G) (tl := tl) hO hC (f := 0) (t := i) (Nat.zero_le _) (by omega)
      refine ev_in rfl rfl (Nat.le_of_ble_eq_true rfl) rfl ?_
      refine wp_run rfl ?_
      refine wp_v1 rfl rfl (Nat.le_of_ble_eq_true rfl) (x0_has_in (d := d + 3) hO hC hi) ?_
      refine wp_run rfl ?_
      refine wp_ifne rfl (fun _ => ?_) (fun hz_ => absurd ((by decide : ¬ (1 : Int32) = 0)) hz_)
      refine wp_run rfl ?_
      refine wp_v1 rfl rfl (Nat.le_of_ble_eq_true rfl) (x0_placeOf (d := d + 3) hO hC hi) ?_
      refine wp_run rfl ?_
      refine wp_sw rfl ?_
      refine wp_run rfl ?_
      refine wp_v2 rfl rfl (Nat.le_of_ble_eq_true rfl) (hb) ?_
      refine wp_run rfl ?_
      exact wp_ret rfl rfl ⟨rfl, rfl⟩
    | 7, _ =>
      have hb := x0_beatsIn (ro := ro) (d := d + 3) (Y := Y) (sl := sl) (P := P) (G := G) (tl := tl) hO hC (f := 0) (t := i) (Nat.zero_le _) (by omega)
      have hbg := aBeg_le hO (show i ≤ aN A by omega)
      have hpg := hO.pg
      refine ev_in rfl rfl (Nat.le_of_ble_eq_true rfl) rfl ?_
      refine wp_run rfl ?_
      refine wp_v1 rfl rfl (Nat.le_of_ble_eq_true rfl) (x0_has_in (d := d + 3) hO hC hi) ?_
      refine wp_run rfl ?_
      refine wp_ifne rfl (fun _ => ?_) (fun hz_ => absurd ((by decide : ¬ (1 : Int32) = 0)) hz_)
      refine wp_run rfl ?_
      refine wp_v1 rfl rfl (Nat.le_of_ble_eq_true rfl) (x0_placeOf (d := d + 3) hO hC hi) ?_
      refine wp_run rfl ?_
      refine wp_sw rfl ?_
      refine wp_run rfl ?_
      refine wp_v2 rfl rfl (Nat.le_of_ble_eq_true rfl) (hb) ?_
      refine wp_run rfl ?_
      refine wp_v0 rfl rfl (Nat.le_of_ble_eq_true rfl) (x0_pageBeats (d := d + 2) hO hC) ?_
      refine wp_run rfl ?_
      refine wp_idiv rfl (nI_ne0 (by omega) (by omega)) (nI_div (show aBeg A i - aBeg A 0 < 2 ^ 31 by omega) (by omega) (by omega)) ?_
      refine wp_run rfl ?_
      exact wp_ret rfl rfl ⟨rfl, rfl⟩
    | 8, _ =>
      refine ev_in rfl rfl (Nat.le_of_ble_eq_true rfl) rfl ?_
      refine wp_run rfl ?_
      refine wp_v1 rfl rfl (Nat.le_of_ble_eq_true rfl) (x0_has_in (d := d + 3) hO hC hi) ?_
      refine wp_run rfl ?_
      refine wp_ifne rfl (fun _ => ?_) (fun hz_ => absurd ((by decide : ¬ (1 : Int32) = 0)) hz_)
      refine wp_run rfl ?_
      refine wp_v1 rfl rfl (Nat.le_of_ble_eq_true rfl) (x0_placeOf (d := d + 3) hO hC hi) ?_
      refine wp_run rfl ?_
      refine wp_sw rfl ?_
      refine wp_run rfl ?_
      refine wp_v1 rfl rfl (Nat.le_of_ble_eq_true rfl) (x0_turnsAhead (d := d + 3) hO hC (by omega)) ?_
      refine wp_run rfl ?_
      exact wp_ret rfl rfl ⟨rfl, rfl⟩
    | 9, _ =>
      refine ev_in rfl rfl (Nat.le_of_ble_eq_true rfl) rfl ?_
      refine wp_run rfl ?_
      refine wp_v1 rfl rfl (Nat.le_of_ble_eq_true rfl) (x0_has_in (d := d + 3) hO hC hi) ?_
      refine wp_run rfl ?_
      refine wp_ifne rfl (fun _ => ?_) (fun hz_ => absurd ((by decide : ¬ (1 : Int32) = 0)) hz_)
      refine wp_run rfl ?_
      refine wp_v1 rfl rfl (Nat.le_of_ble_eq_true rfl) (x0_placeOf (d := d + 3) hO hC hi) ?_
      refine wp_run rfl ?_
      refine wp_sw rfl ?_
      refine wp_run rfl ?_
      refine wp_v1 rfl rfl (Nat.le_of_ble_eq_true rfl) (x0_roomOf (d := d + 3) hO hC hi) ?_
      refine wp_run rfl ?_
      exact wp_ret rfl rfl ⟨rfl, rfl⟩
    | n + 10, hk => exact absurd hk (by omega)
  · have ne : ∀ k, k < 10 → y ≠ nI k := fun k hk => sw_out h (by decide) hk
    refine ev_in rfl rfl (Nat.le_of_ble_eq_true rfl) rfl ?_
    refine wp_run rfl ?_
    refine wp_v1 rfl rfl (Nat.le_of_ble_eq_true rfl) (x0_has_in (d := d + 3) hO hC hi) ?_
    refine wp_run rfl ?_
    refine wp_ifne rfl (fun _ => ?_) (fun hz_ => absurd ((by decide : ¬ (1 : Int32) = 0)) hz_)
    refine wp_run rfl ?_
    refine wp_v1 rfl rfl (Nat.le_of_ble_eq_true rfl) (x0_placeOf (d := d + 3) hO hC hi) ?_
    refine wp_run rfl ?_
    refine wp_sw rfl ?_
    refine axSw_go ⟨ne 0 (by decide), ne 1 (by decide), ne 2 (by decide), ne 3 (by decide), ne 4 (by decide), ne 5 (by decide), ne 6 (by decide), ne 7 (by decide), ne 8 (by decide), ne 9 (by decide), trivial⟩ ?_
    refine wp_run rfl ?_
    exact wp_ret rfl rfl ⟨rfl, rfl⟩
theorem x4_at_b (hO : aOk A) (hC : CR B A) (hS : spAt A x r) : axEv ro (d + 6) kX4_at [.ref 0, .int x] (hX B Y sl P G tl) (some (.int r)) (hX B Y sl P G tl) := by
  rcases hS with ⟨h, rfl⟩ | ⟨i, hi, rfl, rfl⟩
  · refine ev_in rfl rfl (Nat.le_of_ble_eq_true rfl) rfl ?_
    refine wp_run rfl ?_
    refine wp_v1 rfl rfl (Nat.le_of_ble_eq_true rfl) (x0_slugIn_out (d := d + 3) hC h) ?_
    refine wp_run rfl ?_
    exact wp_ret rfl rfl ⟨rfl, rfl⟩
  · refine ev_in rfl rfl (Nat.le_of_ble_eq_true rfl) rfl ?_
    refine wp_run rfl ?_
    refine wp_v1 rfl rfl (Nat.le_of_ble_eq_true rfl) (x0_slugIn_in (d := d + 3) hO hC hi) ?_
    refine wp_run rfl ?_
    exact wp_ret rfl rfl ⟨rfl, rfl⟩
theorem x4_atBeat_b (hO : aOk A) (hC : CR B A) (hS : spAtBeat A x r) : axEv ro (d + 6) kX4_atBeat [.ref 0, .int x] (hX B Y sl P G tl) (some (.int r)) (hX B Y sl P G tl) := by
  rcases hS with ⟨h, rfl⟩ | ⟨v, hv, rfl, rfl⟩
  · refine ev_in rfl rfl (Nat.le_of_ble_eq_true rfl) rfl ?_
    refine wp_run rfl ?_
    refine wp_ifge rfl (fun hz_ => absurd hz_ (Int32.not_le.mpr h)) (fun _ => ?_)
    refine wp_run rfl ?_
    exact wp_ret rfl rfl ⟨rfl, rfl⟩
  · refine ev_in rfl rfl (Nat.le_of_ble_eq_true rfl) rfl ?_
    refine wp_run rfl ?_
    refine wp_ifge rfl (fun _ => ?_) (fun hz_ => absurd (nI_pos' hv) hz_)
    refine wp_run rfl ?_
    refine wp_v1 rfl rfl (Nat.le_of_ble_eq_true rfl) (x0_slugAtBeat (d := d + 2) hO hC hv) ?_
    refine wp_run rfl ?_
    exact wp_ret rfl rfl ⟨rfl, rfl⟩
end AX47
end
section
/-! THE CLASS: its public methods that change nothing (2). -/
def aSet (A : axAD) : Nat → Int32
  | 0 => 0
  | q + 1 => aSet A q ||| bi (aR A q)
def plS (A : axAD) (i : Nat) : Nat → Int32
  | 0 => 0
  | q + 1 => if aLo A i ≤ q ∧ q < aHi A i then plS A i q ||| bi q else plS A i q
def spPlaces (A : axAD) (x r : Int32) : Prop := (spNo A x ∧ r = -1) ∨ ∃ i, spSlug A x i ∧ r = plS A i (aN A)
def spTurned (A : axAD) (x r : Int32) : Prop := (spNo A x ∧ r = -1) ∨ ∃ i, spSlug A x i ∧ r = nI (aAll (aFlip A (aR A i)))
def spNeeds (A : axAD) (x r : Int32) : Prop := (spNo A x ∧ r = -1) ∨ ∃ i, spSlug A x i ∧ r = aClo A (aN A) (aD A (aR A i))
def bsV (A : axAD) (k : Nat) : Int32 := if (aBS A (aN A)).1 < (aBS A (aN A)).2.1 then (match k with
  | 0 => nI (aR A (aBS A (aN A)).1)
  | 1 => nI (aR A (aBS A (aN A)).2.1)
  | _ => nI (aBS A (aN A)).2.2) else -6
def spBest (A : axAD) (x r : Int32) : Prop := ((x < 0 ∨ nI 3 ≤ x) ∧ r = -2) ∨ ∃ k, k < 3 ∧ x = nI k ∧ r = bsV A k
def cntV (V : axV) (k : Nat) : Int32 := match k with
  | 0 => aSet (vA V) (aN (vA V))
  | 1 => nI (aActs (vA V))
  | 2 => nI (aBeg (vA V) (aN (vA V)))
  | 3 => nI ((aBeg (vA V) (aN (vA V)) + aPg (vA V) - 1) / aPg (vA V))
  | 4 => nI (aAll (vA V))
  | 5 => nI (bc (fun a => decide (a < aAct (vA V) (aN (vA V)) ∧ (aOff (vA V) a).natAbs ≤ aSl (vA V))) (aActs (vA V)))
  | 6 => (aLng (vA V) (aN (vA V))).1
  | 7 => nI (aPg (vA V))
  | 8 => nI (aSl (vA V))
  | 9 => nI (aTr (vA V))
  | 10 => nI (vP V)
  | _ => nI (vK V)
def spCount (V : axV) (x r : Int32) : Prop := ((x < 0 ∨ nI 12 ≤ x) ∧ r = -2) ∨ ∃ k, k < 12 ∧ x = nI k ∧ r = cntV V k
theorem spPlaces_ex (A : axAD) (x : Int32) : ∃ r, spPlaces A x r := by
  rcases sp_slug A x with h | ⟨i, hi⟩
  · exact ⟨_, Or.inl ⟨h, rfl⟩⟩
  · exact ⟨_, Or.inr ⟨i, hi, rfl⟩⟩
theorem spTurned_ex (A : axAD) (x : Int32) : ∃ r, spTurned A x r := by
  rcases sp_slug A x with h | ⟨i, hi⟩
  · exact ⟨_, Or.inl ⟨h, rfl⟩⟩
  · exact ⟨_, Or.inr ⟨i, hi, rfl⟩⟩
theorem spNeeds_ex (A : axAD) (x : Int32) : ∃ r, spNeeds A x r := by
  rcases sp_slug A x with h | ⟨i, hi⟩
  · exact ⟨_, Or.inl ⟨h, rfl⟩⟩
  · exact ⟨_, Or.inr ⟨i, hi, rfl⟩⟩
theorem spBest_ex (A : axAD) (x : Int32) : ∃ r, spBest A x r := by
  rcases sp_int x 3 (by decide) with h | ⟨i, hi, e⟩
  · exact ⟨_, Or.inl ⟨h, rfl⟩⟩
  · exact ⟨_, Or.inr ⟨i, hi, e, rfl⟩⟩
theorem spCount_ex (V : axV) (x : Int32) : ∃ r, spCount V x r := by
  rcases sp_int x 12 (by decide) with h | ⟨i, hi, e⟩
  · exact ⟨_, Or.inl ⟨h, rfl⟩⟩
  · exact ⟨_, Or.inr ⟨i, hi, e, rfl⟩⟩
theorem bt_aSet {A : axAD} (hO : aOk A) (k : Nat) : ∀ q, q ≤ aN A → (bt (aSet A q) k = true ↔ ∃ i, i < q ∧ aR A i = k)
  | 0, _ => ⟨fun h => (by rw [aSet, b_0] at h; cases h), fun ⟨i, hi, _⟩ => absurd hi (Nat.not_lt_zero i)⟩
  | q + 1, hq => by
    have hr := hO.r (show q < aN A by omega)
    rw [aSet, bt_set (by omega), Bool.or_eq_true, bt_aSet hO k q (by omega)]
    constructor
    · rintro (⟨i, hi, e⟩ | h)
      · exact ⟨i, by omega, e⟩
      · exact ⟨q, by omega, (of_decide_eq_true h).symm⟩
    · rintro ⟨i, hi, e⟩
      by_cases e2 : i = q
      · subst e2; exact Or.inr (decide_eq_true e.symm)
      · exact Or.inl ⟨i, by omega, e⟩
theorem cr_set0 {A : axAD} {B : axBD} (hO : aOk A) (hC : CR B A) : bSg B = aSet A (aN A) :=
  bt_ext fun i _ => by rw [cr_sg hC, bt_aSet hO i _ (Nat.le_refl _)]; rfl
def bsOk (A : axAD) (s : axBS) : Prop := s.1 = 0 ∧ s.2.1 = 0 ∨ s.1 < s.2.1 ∧ s.2.1 < aN A
theorem aBr_ok {A : axAD} {p : Nat} {s : axBS} (hs : bsOk A s) : ∀ m, m ≤ aN A → bsOk A (aBr A p m s)
  | 0, _ => hs
  | m + 1, hm => by
    have ih := aBr_ok (p := p) hs m (by omega)
    rw [aBr]
    split
    · unfold aBst
      split
      · exact Or.inr ⟨by assumption, by show m < aN A; omega⟩
      · exact ih
    · exact ih
theorem aBS_ok (A : axAD) : ∀ p, bsOk A (aBS A p)
  | 0 => Or.inl ⟨rfl, rfl⟩
  | p + 1 => aBr_ok (aBS_ok A p) _ (Nat.le_refl _)
section AX48
variable {ro : axRo} {d : Nat} {B : axBD} {Y : axYD} {sl : Nat → Option Nat} {P : axPD} {G : axGD} {tl : axH} {A : axAD} {x y r : Int32}
theorem x4_ofAct_b (hO : aOk A) (hC : CR B A) (hS : spOfAct A x y r) : axEv ro (d + 7) kX4_ofAct [.ref 0, .int x, .int y] (hX B Y sl P G tl) (some (.int r)) (hX B Y sl P G tl) := by
  have hn := hO.n
  have hacts := aActs_le A
  rcases hS with ⟨h, rfl⟩ | ⟨a, ha, rfl, ⟨k, hk, rfl, rfl⟩ | ⟨h, rfl⟩⟩
  · refine ev_in rfl rfl (Nat.le_of_ble_eq_true rfl) rfl ?_
    refine wp_run rfl ?_
    refine wp_v1 rfl rfl (Nat.le_of_ble_eq_true rfl) (x0_hasAct_out (d := d + 3) hO hC h) ?_
    refine wp_run rfl ?_
    refine wp_ifne rfl (fun hz_ => absurd hz_ (fun z => z rfl)) (fun _ => ?_)
    refine wp_run rfl ?_
    exact wp_ret rfl rfl ⟨rfl, rfl⟩
  · have hm := aSt_mono A (show a ≤ a + 1 by omega)
    have hl := aSt_le A (a + 1)
    have hb := aBeg_le hO hl
    match k, hk with
    | 0, _ =>
      refine ev_in rfl rfl (Nat.le_of_ble_eq_true rfl) rfl ?_
      refine wp_run rfl ?_
      refine wp_v1 rfl rfl (Nat.le_of_ble_eq_true rfl) (x0_hasAct_in (d := d + 3) hO hC ha) ?_
      refine wp_run rfl ?_
      refine wp_ifne rfl (fun _ => ?_) (fun hz_ => absurd ((by decide : ¬ (1 : Int32) = 0)) hz_)
      refine wp_run rfl ?_
      refine wp_v1 rfl rfl (Nat.le_of_ble_eq_true rfl) (x0_startOf (d := d + 4) hO hC (a := a) (by omega)) ?_
      refine wp_run rfl ?_
      rw [nI_1]
      refine wp_v1 rfl rfl (Nat.le_of_ble_eq_true rfl) (x0_startOf (d := d + 4) hO hC (a := a + 1) (by omega)) ?_
      refine wp_run rfl ?_
      refine wp_sw rfl ?_
      refine wp_run rfl ?_
      refine wp_v2 rfl rfl (Nat.le_of_ble_eq_true rfl) (x0_beatsIn (d := d + 4) hO hC hm hl) ?_
      refine wp_run rfl ?_
      exact wp_ret rfl rfl ⟨rfl, rfl⟩
    | 1, _ =>
      refine ev_in rfl rfl (Nat.le_of_ble_eq_true rfl) rfl ?_
      refine wp_run rfl ?_
      refine wp_v1 rfl rfl (Nat.le_of_ble_eq_true rfl) (x0_hasAct_in (d := d + 3) hO hC ha) ?_
      refine wp_run rfl ?_
      refine wp_ifne rfl (fun _ => ?_) (fun hz_ => absurd ((by decide : ¬ (1 : Int32) = 0)) hz_)
      refine wp_run rfl ?_
      refine wp_v1 rfl rfl (Nat.le_of_ble_eq_true rfl) (x0_startOf (d := d + 4) hO hC (a := a) (by omega)) ?_
      refine wp_run rfl ?_
      rw [nI_1]
      refine wp_v1 rfl rfl (Nat.le_of_ble_eq_true rfl) (x0_startOf (d := d + 4) hO hC (a := a + 1) (by omega)) ?_
      refine wp_run rfl ?_
      refine wp_sw rfl ?_
      refine wp_run rfl ?_
      refine wp_v1 rfl rfl (Nat.le_of_ble_eq_true rfl) (x0_targetOf (d := d + 4) hO hC (by omega)) ?_
      refine wp_run rfl ?_
      exact wp_ret rfl rfl ⟨rfl, rfl⟩
    | 2, _ =>
      refine ev_in rfl rfl (Nat.le_of_ble_eq_true rfl) rfl ?_
      refine wp_run rfl ?_
      refine wp_v1 rfl rfl (Nat.le_of_ble_eq_true rfl) (x0_hasAct_in (d := d + 3) hO hC ha) ?_
      refine wp_run rfl ?_
      refine wp_ifne rfl (fun _ => ?_) (fun hz_ => absurd ((by decide : ¬ (1 : Int32) = 0)) hz_)
      refine wp_run rfl ?_
      refine wp_v1 rfl rfl (Nat.le_of_ble_eq_true rfl) (x0_startOf (d := d + 4) hO hC (a := a) (by omega)) ?_
      refine wp_run rfl ?_
      rw [nI_1]
      refine wp_v1 rfl rfl (Nat.le_of_ble_eq_true rfl) (x0_startOf (d := d + 4) hO hC (a := a + 1) (by omega)) ?_
      refine wp_run rfl ?_
      refine wp_sw rfl ?_
      refine wp_run rfl ?_
      refine wp_v1 rfl rfl (Nat.le_of_ble_eq_true rfl) (x0_offOf (d := d + 3) hO hC (by omega)) ?_
      refine wp_run rfl ?_
      rw [show (5000 : Int32) = zI 5000 from rfl, zI_add]
      exact wp_ret rfl rfl ⟨rfl, rfl⟩
    | 3, _ =>
      have hf := x0_isFitting (ro := ro) (d := d + 2) (Y := Y) (sl := sl) (P := P) (G := G) (tl := tl) hO hC (show a < 2 ^ 30 by omega)
      show axEv ro (d + 7) kX4_ofAct [.ref 0, .int (nI a), .int (nI 3)] (hX B Y sl P G tl) (some (.int (if a < aAct A (aN A) ∧ (aOff A a).natAbs ≤ aSl A then 1 else 0))) (hX B Y sl P G tl)
      refine ev_in rfl rfl (Nat.le_of_ble_eq_true rfl) rfl ?_
      refine wp_run rfl ?_
      refine wp_v1 rfl rfl (Nat.le_of_ble_eq_true rfl) (x0_hasAct_in (d := d + 3) hO hC ha) ?_
      refine wp_run rfl ?_
      refine wp_ifne rfl (fun _ => ?_) (fun hz_ => absurd ((by decide : ¬ (1 : Int32) = 0)) hz_)
      refine wp_run rfl ?_
      refine wp_v1 rfl rfl (Nat.le_of_ble_eq_true rfl) (x0_startOf (d := d + 4) hO hC (a := a) (by omega)) ?_
      refine wp_run rfl ?_
      rw [nI_1]
      refine wp_v1 rfl rfl (Nat.le_of_ble_eq_true rfl) (x0_startOf (d := d + 4) hO hC (a := a + 1) (by omega)) ?_
      refine wp_run rfl ?_
      refine wp_sw rfl ?_
      refine wp_run rfl ?_
      by_cases e : a < aAct A (aN A) ∧ (aOff A a).natAbs ≤ aSl A
      · rw [if_pos e] at hf ⊢
        refine wp_v1 rfl rfl (Nat.le_of_ble_eq_true rfl) (hf) ?_
        refine wp_run rfl ?_
        refine wp_ifeq rfl (fun hz_ => absurd hz_ ((by decide : ¬ (1 : Int32) = 0))) (fun _ => ?_)
        refine wp_run rfl ?_
        exact wp_ret rfl rfl ⟨rfl, rfl⟩
      · rw [if_neg e] at hf ⊢
        refine wp_v1 rfl rfl (Nat.le_of_ble_eq_true rfl) (hf) ?_
        refine wp_run rfl ?_
        refine wp_ifeq rfl (fun _ => ?_) (fun hz_ => absurd (rfl) hz_)
        refine wp_run rfl ?_
        exact wp_ret rfl rfl ⟨rfl, rfl⟩
    | 4, _ =>
      have hf := x0_isOpen (ro := ro) (d := d + 4) (Y := Y) (sl := sl) (P := P) (G := G) (tl := tl) hO hC (show a < 2 ^ 31 by omega)
      show axEv ro (d + 7) kX4_ofAct [.ref 0, .int (nI a), .int (nI 4)] (hX B Y sl P G tl) (some (.int (if aAct A (aN A) ≤ a then 1 else 0))) (hX B Y sl P G tl)
      refine ev_in rfl rfl (Nat.le_of_ble_eq_true rfl) rfl ?_
      refine wp_run rfl ?_
      refine wp_v1 rfl rfl (Nat.le_of_ble_eq_true rfl) (x0_hasAct_in (d := d + 3) hO hC ha) ?_
      refine wp_run rfl ?_
      refine wp_ifne rfl (fun _ => ?_) (fun hz_ => absurd ((by decide : ¬ (1 : Int32) = 0)) hz_)
      refine wp_run rfl ?_
      refine wp_v1 rfl rfl (Nat.le_of_ble_eq_true rfl) (x0_startOf (d := d + 4) hO hC (a := a) (by omega)) ?_
      refine wp_run rfl ?_
      rw [nI_1]
      refine wp_v1 rfl rfl (Nat.le_of_ble_eq_true rfl) (x0_startOf (d := d + 4) hO hC (a := a + 1) (by omega)) ?_
      refine wp_run rfl ?_
      refine wp_sw rfl ?_
      refine wp_run rfl ?_
      by_cases e : aAct A (aN A) ≤ a
      · rw [if_pos e] at hf ⊢
        refine wp_v1 rfl rfl (Nat.le_of_ble_eq_true rfl) (hf) ?_
        refine wp_run rfl ?_
        refine wp_ifeq rfl (fun hz_ => absurd hz_ ((by decide : ¬ (1 : Int32) = 0))) (fun _ => ?_)
        refine wp_run rfl ?_
        exact wp_ret rfl rfl ⟨rfl, rfl⟩
      · rw [if_neg e] at hf ⊢
        refine wp_v1 rfl rfl (Nat.le_of_ble_eq_true rfl) (hf) ?_
        refine wp_run rfl ?_
        refine wp_ifeq rfl (fun _ => ?_) (fun hz_ => absurd (rfl) hz_)
        refine wp_run rfl ?_
        exact wp_ret rfl rfl ⟨rfl, rfl⟩
    | 5, _ =>
      refine ev_in rfl rfl (Nat.le_of_ble_eq_true rfl) rfl ?_
      refine wp_run rfl ?_
      refine wp_v1 rfl rfl (Nat.le_of_ble_eq_true rfl) (x0_hasAct_in (d := d + 3) hO hC ha) ?_
      refine wp_run rfl ?_
      refine wp_ifne rfl (fun _ => ?_) (fun hz_ => absurd ((by decide : ¬ (1 : Int32) = 0)) hz_)
      refine wp_run rfl ?_
      refine wp_v1 rfl rfl (Nat.le_of_ble_eq_true rfl) (x0_startOf (d := d + 4) hO hC (a := a) (by omega)) ?_
      refine wp_run rfl ?_
      rw [nI_1]
      refine wp_v1 rfl rfl (Nat.le_of_ble_eq_true rfl) (x0_startOf (d := d + 4) hO hC (a := a + 1) (by omega)) ?_
      refine wp_run rfl ?_
      refine wp_sw rfl ?_
      refine wp_run rfl ?_
      rw [pk_sub hm]
      exact wp_ret rfl rfl ⟨rfl, rfl⟩
    | 6, _ =>
      have hb2 := x0_beatsIn (ro := ro) (d := d + 4) (Y := Y) (sl := sl) (P := P) (G := G) (tl := tl) hO hC (f := 0) (t := aSt A a) (Nat.zero_le _) (by omega)
      refine ev_in rfl rfl (Nat.le_of_ble_eq_true rfl) rfl ?_
      refine wp_run rfl ?_
      refine wp_v1 rfl rfl (Nat.le_of_ble_eq_true rfl) (x0_hasAct_in (d := d + 3) hO hC ha) ?_
      refine wp_run rfl ?_
      refine wp_ifne rfl (fun _ => ?_) (fun hz_ => absurd ((by decide : ¬ (1 : Int32) = 0)) hz_)
      refine wp_run rfl ?_
      refine wp_v1 rfl rfl (Nat.le_of_ble_eq_true rfl) (x0_startOf (d := d + 4) hO hC (a := a) (by omega)) ?_
      refine wp_run rfl ?_
      rw [nI_1]
      refine wp_v1 rfl rfl (Nat.le_of_ble_eq_true rfl) (x0_startOf (d := d + 4) hO hC (a := a + 1) (by omega)) ?_
      refine wp_run rfl ?_
      refine wp_sw rfl ?_
      refine wp_run rfl ?_
      refine wp_v2 rfl rfl (Nat.le_of_ble_eq_true rfl) (hb2) ?_
      refine wp_run rfl ?_
      exact wp_ret rfl rfl ⟨rfl, rfl⟩
    | 7, _ =>
      refine ev_in rfl rfl (Nat.le_of_ble_eq_true rfl) rfl ?_
      refine wp_run rfl ?_
      refine wp_v1 rfl rfl (Nat.le_of_ble_eq_true rfl) (x0_hasAct_in (d := d + 3) hO hC ha) ?_
      refine wp_run rfl ?_
      refine wp_ifne rfl (fun _ => ?_) (fun hz_ => absurd ((by decide : ¬ (1 : Int32) = 0)) hz_)
      refine wp_run rfl ?_
      refine wp_v1 rfl rfl (Nat.le_of_ble_eq_true rfl) (x0_startOf (d := d + 4) hO hC (a := a) (by omega)) ?_
      refine wp_run rfl ?_
      rw [nI_1]
      refine wp_v1 rfl rfl (Nat.le_of_ble_eq_true rfl) (x0_startOf (d := d + 4) hO hC (a := a + 1) (by omega)) ?_
      refine wp_run rfl ?_
      refine wp_sw rfl ?_
      refine wp_run rfl ?_
      refine wp_v2 rfl rfl (Nat.le_of_ble_eq_true rfl) (x0_roomIn (d := d + 3) hO hC hm hl) ?_
      refine wp_run rfl ?_
      exact wp_ret rfl rfl ⟨rfl, rfl⟩
    | n + 8, hk => exact absurd hk (by omega)
  · have ne : ∀ k, k < 8 → y ≠ nI k := fun k hk => sw_out h (by decide) hk
    refine ev_in rfl rfl (Nat.le_of_ble_eq_true rfl) rfl ?_
    refine wp_run rfl ?_
    refine wp_v1 rfl rfl (Nat.le_of_ble_eq_true rfl) (x0_hasAct_in (d := d + 3) hO hC ha) ?_
    refine wp_run rfl ?_
    refine wp_ifne rfl (fun _ => ?_) (fun hz_ => absurd ((by decide : ¬ (1 : Int32) = 0)) hz_)
    refine wp_run rfl ?_
    refine wp_v1 rfl rfl (Nat.le_of_ble_eq_true rfl) (x0_startOf (d := d + 4) hO hC (a := a) (by omega)) ?_
    refine wp_run rfl ?_
    rw [nI_1]
    refine wp_v1 rfl rfl (Nat.le_of_ble_eq_true rfl) (x0_startOf (d := d + 4) hO hC (a := a + 1) (by omega)) ?_
    refine wp_run rfl ?_
    refine wp_sw rfl ?_
    refine axSw_go ⟨ne 0 (by decide), ne 1 (by decide), ne 2 (by decide), ne 3 (by decide), ne 4 (by decide), ne 5 (by decide), ne 6 (by decide), ne 7 (by decide), trivial⟩ ?_
    refine wp_run rfl ?_
    exact wp_ret rfl rfl ⟨rfl, rfl⟩
theorem x4_places_b (hO : aOk A) (hC : CR B A) (hS : spPlaces A x r) : axEv ro (d + 6) kX4_places [.ref 0, .int x] (hX B Y sl P G tl) (some (.int r)) (hX B Y sl P G tl) := by
  have hn := hO.n
  rcases hS with ⟨h, rfl⟩ | ⟨i, ⟨hi, rfl⟩, rfl⟩
  · refine ev_in rfl rfl (Nat.le_of_ble_eq_true rfl) rfl ?_
    refine wp_run rfl ?_
    refine wp_v1 rfl rfl (Nat.le_of_ble_eq_true rfl) (x0_has_out (d := d + 3) hC h) ?_
    refine wp_run rfl ?_
    refine wp_ifne rfl (fun hz_ => absurd hz_ (fun z => z rfl)) (fun _ => ?_)
    refine wp_run rfl ?_
    exact wp_ret rfl rfl ⟨rfl, rfl⟩
  · have hgt := aHi_gt hO hi
    have hle := aHi_le A i
    have hlo := aLo_le hO hi
    have z0 : ∀ q, q ≤ aLo A i → plS A i q = 0 := by
      intro q
      induction q with
      | zero => intro _; rfl
      | succ q ih => intro hq; rw [plS, if_neg (by omega)]; exact ih (by omega)
    have z1 : ∀ q, aHi A i ≤ q → plS A i q = plS A i (aHi A i) := by
      intro q
      induction q with
      | zero => intro hq; rw [show aHi A i = 0 by omega]
      | succ q ih =>
        intro hq
        by_cases e : aHi A i = q + 1
        · rw [e]
        · rw [plS, if_neg (by omega)]; exact ih (by omega)
    have loop : ∀ m q, q + m = aHi A i → aLo A i ≤ q → axW ro (axEv ro (d + 5)) cdX4_places 37 [some (.ref 0), some (.int (nI (aR A i))), some (.int (plS A i q)), some (.int (nI (aHi A i - 1))), some (.int (nI q))] [.int (nI (aHi A i - 1)), .int (nI q)] (hX B Y sl P G tl) (fun r' h' => r' = some (.int (plS A i (aN A))) ∧ h' = (hX B Y sl P G tl)) := by
      intro m
      induction m with
      | zero =>
        intro q e _
        have e : q = aHi A i := by omega
        refine wp_icgt rfl (fun _ => ?_) (fun hz_ => absurd (nI_lt (show aHi A i - 1 < q by omega) (by omega)) hz_)
        refine wp_run rfl ?_
        rw [z1 (aN A) hle, e]
        exact wp_ret rfl rfl ⟨rfl, rfl⟩
      | succ m ih =>
        intro q e hq
        have ih := ih (q + 1) (by omega) (by omega)
        rw [plS, if_pos ⟨hq, by omega⟩] at ih
        refine wp_icgt rfl (fun hz_ => absurd hz_ (nI_nlt (show q ≤ aHi A i - 1 by omega) (by omega))) (fun _ => ?_)
        refine wp_run rfl ?_
        refine wp_s1 rfl (Nat.le_of_ble_eq_true rfl) (x4_bit (show q < 24 by omega)) ?_
        refine wp_run rfl ?_
        rw [nI_1]
        exact ih
    have h0 := loop (aHi A i - aLo A i) (aLo A i) (by omega) (Nat.le_refl _)
    rw [z0 _ (Nat.le_refl _)] at h0
    refine ev_in rfl rfl (Nat.le_of_ble_eq_true rfl) rfl ?_
    refine wp_run rfl ?_
    refine wp_v1 rfl rfl (Nat.le_of_ble_eq_true rfl) (x0_has_in (d := d + 3) hO hC hi) ?_
    refine wp_run rfl ?_
    refine wp_ifne rfl (fun _ => ?_) (fun hz_ => absurd ((by decide : ¬ (1 : Int32) = 0)) hz_)
    refine wp_run rfl ?_
    refine wp_v1 rfl rfl (Nat.le_of_ble_eq_true rfl) (x0_highestPlace (d := d + 3) hO hC hi) ?_
    refine wp_run rfl ?_
    refine wp_v1 rfl rfl (Nat.le_of_ble_eq_true rfl) (x0_lowestPlace (d := d + 2) hO hC hi) ?_
    refine wp_run rfl ?_
    exact h0
theorem x4_ifFitted_b {A' : axAD} (hO : aOk A) (hC : CR B A) (hS : spFit A x r A') : axEv ro (d + 6) kX4_ifFitted [.ref 0, .int x] (hX B Y sl P G tl) (some (.int r)) (hX B Y sl P G tl) := by
  rcases hS with ⟨h, rfl, rfl⟩ | ⟨a, ha, rfl, ⟨h, rfl, rfl⟩ | ⟨h, rfl, rfl⟩⟩
  · refine ev_in rfl rfl (Nat.le_of_ble_eq_true rfl) rfl ?_
    refine wp_run rfl ?_
    refine wp_v1 rfl rfl (Nat.le_of_ble_eq_true rfl) (x0_cutOf_out (d := d + 1) hO hC h) ?_
    refine wp_run rfl ?_
    exact wp_ret rfl rfl ⟨rfl, rfl⟩
  · have := x0_cutOf_in (ro := ro) (d := d + 1) (Y := Y) (sl := sl) (P := P) (G := G) (tl := tl) hO hC ha
    rw [if_neg h] at this
    refine ev_in rfl rfl (Nat.le_of_ble_eq_true rfl) rfl ?_
    refine wp_run rfl ?_
    refine wp_v1 rfl rfl (Nat.le_of_ble_eq_true rfl) (this) ?_
    refine wp_run rfl ?_
    exact wp_ret rfl rfl ⟨rfl, rfl⟩
  · have := x0_cutOf_in (ro := ro) (d := d + 1) (Y := Y) (sl := sl) (P := P) (G := G) (tl := tl) hO hC ha
    rw [if_pos h] at this
    refine ev_in rfl rfl (Nat.le_of_ble_eq_true rfl) rfl ?_
    refine wp_run rfl ?_
    refine wp_v1 rfl rfl (Nat.le_of_ble_eq_true rfl) (this) ?_
    refine wp_run rfl ?_
    exact wp_ret rfl rfl ⟨rfl, rfl⟩
theorem x4_ifTurned_b (hO : aOk A) (hC : CR B A) (hS : spTurned A x r) : axEv ro (d + 6) kX4_ifTurned [.ref 0, .int x] (hX B Y sl P G tl) (some (.int r)) (hX B Y sl P G tl) := by
  rcases hS with ⟨h, rfl⟩ | ⟨i, ⟨hi, rfl⟩, rfl⟩
  · refine ev_in rfl rfl (Nat.le_of_ble_eq_true rfl) rfl ?_
    refine wp_run rfl ?_
    refine wp_v1 rfl rfl (Nat.le_of_ble_eq_true rfl) (x0_has_out (d := d + 3) hC h) ?_
    refine wp_run rfl ?_
    refine wp_ifeq rfl (fun _ => ?_) (fun hz_ => absurd (rfl) hz_)
    refine wp_run rfl ?_
    exact wp_ret rfl rfl ⟨rfl, rfl⟩
  · refine ev_in rfl rfl (Nat.le_of_ble_eq_true rfl) rfl ?_
    refine wp_run rfl ?_
    refine wp_v1 rfl rfl (Nat.le_of_ble_eq_true rfl) (x0_has_in (d := d + 3) hO hC hi) ?_
    refine wp_run rfl ?_
    refine wp_ifeq rfl (fun hz_ => absurd hz_ ((by decide : ¬ (1 : Int32) = 0))) (fun _ => ?_)
    refine wp_run rfl ?_
    refine wp_v1 rfl rfl (Nat.le_of_ble_eq_true rfl) (x0_offIfTurned (d := d + 1) hO hC hi) ?_
    refine wp_run rfl ?_
    exact wp_ret rfl rfl ⟨rfl, rfl⟩
theorem x4_needs_b (hO : aOk A) (hC : CR B A) (hS : spNeeds A x r) : axEv ro (d + 6) kX4_needs [.ref 0, .int x] (hX B Y sl P G tl) (some (.int r)) (hX B Y sl P G tl) := by
  rcases hS with ⟨h, rfl⟩ | ⟨i, ⟨hi, rfl⟩, rfl⟩
  · refine ev_in rfl rfl (Nat.le_of_ble_eq_true rfl) rfl ?_
    refine wp_run rfl ?_
    refine wp_v1 rfl rfl (Nat.le_of_ble_eq_true rfl) (x0_has_out (d := d + 3) hC h) ?_
    refine wp_run rfl ?_
    refine wp_ifeq rfl (fun _ => ?_) (fun hz_ => absurd (rfl) hz_)
    refine wp_run rfl ?_
    exact wp_ret rfl rfl ⟨rfl, rfl⟩
  · refine ev_in rfl rfl (Nat.le_of_ble_eq_true rfl) rfl ?_
    refine wp_run rfl ?_
    refine wp_v1 rfl rfl (Nat.le_of_ble_eq_true rfl) (x0_has_in (d := d + 3) hO hC hi) ?_
    refine wp_run rfl ?_
    refine wp_ifeq rfl (fun hz_ => absurd hz_ ((by decide : ¬ (1 : Int32) = 0))) (fun _ => ?_)
    refine wp_run rfl ?_
    refine wp_v1 rfl rfl (Nat.le_of_ble_eq_true rfl) (x0_allNeedsOf (d := d + 2) hO hC hi) ?_
    refine wp_run rfl ?_
    exact wp_ret rfl rfl ⟨rfl, rfl⟩
end AX48
end
section
/-! THE CLASS: its public methods that change nothing (3). -/
section AX49a
variable {ro : axRo} {d : Nat} {B : axBD} {Y : axYD} {sl : Nat → Option Nat} {P : axPD} {G : axGD} {tl : axH}
theorem x3_lowerPlace : axEv ro (d + 1) kX3_lowerPlace [.ref 13] (hX B Y sl P G tl) (some (.int G.2.1)) (hX B Y sl P G tl) := by
  refine ev_in rfl rfl (Nat.le_of_ble_eq_true rfl) rfl ?_
  refine wp_run rfl ?_
  exact wp_ret rfl rfl ⟨rfl, rfl⟩
theorem x3_higherPlace : axEv ro (d + 1) kX3_higherPlace [.ref 13] (hX B Y sl P G tl) (some (.int G.2.2.1)) (hX B Y sl P G tl) := by
  refine ev_in rfl rfl (Nat.le_of_ble_eq_true rfl) rfl ?_
  refine wp_run rfl ?_
  exact wp_ret rfl rfl ⟨rfl, rfl⟩
theorem x3_leastOff : axEv ro (d + 1) kX3_leastOff [.ref 13] (hX B Y sl P G tl) (some (.int G.2.2.2)) (hX B Y sl P G tl) := by
  refine ev_in rfl rfl (Nat.le_of_ble_eq_true rfl) rfl ?_
  refine wp_run rfl ?_
  exact wp_ret rfl rfl ⟨rfl, rfl⟩
theorem x2_size : axEv ro (d + 1) kX2_size [.ref 11] (hX B Y sl P G tl) (some (.int P.2.1)) (hX B Y sl P G tl) := by
  refine ev_in rfl rfl (Nat.le_of_ble_eq_true rfl) rfl ?_
  refine wp_run rfl ?_
  exact wp_ret rfl rfl ⟨rfl, rfl⟩
end AX49a
section AX49
variable {ro : axRo} {d m : Nat} {mc h : axH} {V : axV} {x y r : Int32} {A' : axAD}
theorem x4_bestSwap (hx : XS V mc m h) (hS : spBest (vA V) x r) : ∃ h', axEv ro (d + 7) kX4_bestSwap [.ref 0, .int x] h (some (.int r)) h' ∧ XS V mc (m + 1) h' := by
  have hx' := XS_more (Nat.le_succ m) hx
  obtain ⟨B, nx, sf, lf, f, cu, la, ki, fi, se, G, bs, rfl, hC, hO, hK, hT, hb1, hb2⟩ := hx
  have hn := hO.n
  rcases hS with ⟨h, rfl⟩ | ⟨k, hk, rfl, rfl⟩
  · refine ⟨_, ?_, hx'⟩
    by_cases e : x < 0
    · refine ev_in rfl rfl (Nat.le_of_ble_eq_true rfl) rfl ?_
      refine wp_run rfl ?_
      refine wp_iflt rfl (fun _ => ?_) (fun hz_ => absurd (e) hz_)
      refine wp_run rfl ?_
      exact wp_ret rfl rfl ⟨rfl, rfl⟩
    · have h := h.resolve_left e
      refine ev_in rfl rfl (Nat.le_of_ble_eq_true rfl) rfl ?_
      refine wp_run rfl ?_
      refine wp_iflt rfl (fun hz_ => absurd hz_ (e)) (fun _ => ?_)
      refine wp_run rfl ?_
      refine wp_icle rfl (fun hz_ => absurd hz_ (fun z => absurd (Int32.le_trans h z) (by decide))) (fun _ => ?_)
      refine wp_run rfl ?_
      exact wp_ret rfl rfl ⟨rfl, rfl⟩
  · obtain ⟨g', hev⟩ := x3_run (ro := ro) (d := d) (Y := (sf, nI nx, nI (vK V))) (sl := lf) (P := (f, nI (vP V), cu, la, ki, fi, se)) (G := G) (tl := mc ++ bs) hO hC
    have hok := aBS_ok (vA V) (aN (vA V))
    have hle := aBS_le hO (aN (vA V))
    unfold bsV
    generalize aBS (vA V) (aN (vA V)) = s at *
    refine ⟨_, ?_, B, nx, sf, lf, f, cu, la, ki, fi, se, gOf g' s, bs, rfl, hC, hO, KP_go hK, hT, by omega, by omega⟩
    have pre : ∀ Q : Option Value → axH → Prop, axW ro (axEv ro (d + 6)) cdX4_bestSwap 27 [some (.ref 0), some (.int (nI k))] [.ref 13] (hX B (sf, nI nx, nI (vK V)) lf (f, nI (vP V), cu, la, ki, fi, se) (gOf g' s) (mc ++ bs)) Q → axW ro (axEv ro (d + 6)) cdX4_bestSwap 0 [some (.ref 0), some (.int (nI k))] [] (hX B (sf, nI nx, nI (vK V)) lf (f, nI (vP V), cu, la, ki, fi, se) G (mc ++ bs)) Q := fun Q K => by
      refine wp_run rfl ?_
      refine wp_iflt rfl (fun hz_ => absurd hz_ (nI_pos (by omega))) (fun _ => ?_)
      refine wp_run rfl ?_
      refine wp_icle rfl (fun _ => ?_) (fun hz_ => absurd (nI_le (b := 2) (by omega) (by omega)) hz_)
      refine wp_run rfl ?_
      refine wp_v1v rfl rfl (Nat.le_of_ble_eq_true rfl) (hev) ?_
      refine wp_run rfl ?_
      exact K
    refine ev_in rfl rfl (Nat.le_of_ble_eq_true rfl) rfl (pre _ ?_)
    have found : ∀ b : Int32, (s.1 < s.2.1 ∧ b = 1 ∨ ¬ s.1 < s.2.1 ∧ b = 0) → axEv ro (d + 6) kX3_isFound [.ref 13] (hX B (sf, nI nx, nI (vK V)) lf (f, nI (vP V), cu, la, ki, fi, se) (gOf g' s) (mc ++ bs)) (some (.int b)) (hX B (sf, nI nx, nI (vK V)) lf (f, nI (vP V), cu, la, ki, fi, se) (gOf g' s) (mc ++ bs)) := by
      intro b hb
      rcases hb with ⟨hb, rfl⟩ | ⟨hb, rfl⟩
      · have : s.2.1 < aN (vA V) := by
          rcases hok with z | z
          · omega
          · exact z.2
        refine ev_in rfl rfl (Nat.le_of_ble_eq_true rfl) rfl ?_
        refine wp_run rfl ?_
        refine wp_icge rfl (fun hz_ => absurd hz_ (nI_ge hb (by omega))) (fun _ => ?_)
        refine wp_run rfl ?_
        exact wp_ret rfl rfl ⟨rfl, rfl⟩
      · have : s.1 = 0 ∧ s.2.1 = 0 := by
          rcases hok with z | z
          · exact z
          · exact absurd z.1 hb
        refine ev_in rfl rfl (Nat.le_of_ble_eq_true rfl) rfl ?_
        refine wp_run rfl ?_
        refine wp_icge rfl (fun _ => ?_) (fun hz_ => absurd (nI_le (show s.2.1 ≤ s.1 by omega) (by omega)) hz_)
        refine wp_run rfl ?_
        exact wp_ret rfl rfl ⟨rfl, rfl⟩
    by_cases e : s.1 < s.2.1
    · have hs2 : s.2.1 < aN (vA V) := by
        rcases hok with z | z
        · omega
        · exact z.2
      rw [if_pos e]
      refine wp_v0 rfl rfl (Nat.le_of_ble_eq_true rfl) (found 1 (Or.inl ⟨e, rfl⟩)) ?_
      refine wp_run rfl ?_
      refine wp_ifne rfl (fun _ => ?_) (fun hz_ => absurd ((by decide : ¬ (1 : Int32) = 0)) hz_)
      refine wp_run rfl ?_
      match k, hk with
      | 0, _ =>
        refine wp_sw rfl ?_
        refine wp_run rfl ?_
        refine wp_v0 rfl rfl (Nat.le_of_ble_eq_true rfl) (x3_lowerPlace (d := d + 5)) ?_
        refine wp_run rfl ?_
        refine wp_v1 rfl rfl (Nat.le_of_ble_eq_true rfl) (x0_slugIn_in (d := d + 4) hO hC (show s.1 < aN (vA V) by omega)) ?_
        refine wp_run rfl ?_
        exact wp_ret rfl rfl ⟨rfl, rfl⟩
      | 1, _ =>
        refine wp_sw rfl ?_
        refine wp_run rfl ?_
        refine wp_v0 rfl rfl (Nat.le_of_ble_eq_true rfl) (x3_higherPlace (d := d + 5)) ?_
        refine wp_run rfl ?_
        refine wp_v1 rfl rfl (Nat.le_of_ble_eq_true rfl) (x0_slugIn_in (d := d + 4) hO hC hs2) ?_
        refine wp_run rfl ?_
        exact wp_ret rfl rfl ⟨rfl, rfl⟩
      | 2, _ =>
        refine wp_sw rfl ?_
        refine wp_run rfl ?_
        refine wp_v0 rfl rfl (Nat.le_of_ble_eq_true rfl) (x3_leastOff (d := d + 5)) ?_
        refine wp_run rfl ?_
        exact wp_ret rfl rfl ⟨rfl, rfl⟩
      | n + 3, hk => exact absurd hk (by omega)
    · rw [if_neg e]
      refine wp_v0 rfl rfl (Nat.le_of_ble_eq_true rfl) (found 0 (Or.inr ⟨e, rfl⟩)) ?_
      refine wp_run rfl ?_
      refine wp_ifne rfl (fun hz_ => absurd hz_ (fun z => z rfl)) (fun _ => ?_)
      refine wp_run rfl ?_
      exact wp_ret rfl rfl ⟨rfl, rfl⟩
theorem x4_count (hx : XS V mc m h) (hS : spCount V x r) : axEv ro (d + 7) kX4_count [.ref 0, .int x] h (some (.int r)) h := by
  obtain ⟨B, nx, sf, lf, f, cu, la, ki, fi, se, G, bs, rfl, hC, hO, hK, hT, hb1, hb2⟩ := hx
  have hn := hO.n
  rcases hS with ⟨h, rfl⟩ | ⟨k, hk, rfl, rfl⟩
  · have ne : ∀ k, k < 12 → x ≠ nI k := fun k hk => sw_out h (by decide) hk
    refine ev_in rfl rfl (Nat.le_of_ble_eq_true rfl) rfl ?_
    refine wp_run rfl ?_
    refine wp_sw rfl ?_
    refine axSw_go ⟨ne 0 (by decide), ne 1 (by decide), ne 2 (by decide), ne 3 (by decide), ne 4 (by decide), ne 5 (by decide), ne 6 (by decide), ne 7 (by decide), ne 8 (by decide), ne 9 (by decide), ne 10 (by decide), ne 11 (by decide), trivial⟩ ?_
    refine wp_run rfl ?_
    exact wp_ret rfl rfl ⟨rfl, rfl⟩
  · match k, hk with
    | 0, _ =>
      show axEv ro (d + 7) kX4_count [.ref 0, .int (nI 0)] _ (some (.int (aSet (vA V) (aN (vA V))))) _
      rw [← cr_set0 hO hC]
      refine ev_in rfl rfl (Nat.le_of_ble_eq_true rfl) rfl ?_
      refine wp_run rfl ?_
      refine wp_sw rfl ?_
      refine wp_run rfl ?_
      refine wp_v0 rfl rfl (Nat.le_of_ble_eq_true rfl) (x0_allSlugs (d := d + 5)) ?_
      refine wp_run rfl ?_
      exact wp_ret rfl rfl ⟨rfl, rfl⟩
    | 1, _ =>
      refine ev_in rfl rfl (Nat.le_of_ble_eq_true rfl) rfl ?_
      refine wp_run rfl ?_
      refine wp_sw rfl ?_
      refine wp_run rfl ?_
      refine wp_v0 rfl rfl (Nat.le_of_ble_eq_true rfl) (x0_actCount (d := d + 4) hO hC) ?_
      refine wp_run rfl ?_
      exact wp_ret rfl rfl ⟨rfl, rfl⟩
    | 2, _ =>
      refine ev_in rfl rfl (Nat.le_of_ble_eq_true rfl) rfl ?_
      refine wp_run rfl ?_
      refine wp_sw rfl ?_
      refine wp_run rfl ?_
      refine wp_v0 rfl rfl (Nat.le_of_ble_eq_true rfl) (x0_allBeats (d := d + 3) hO hC) ?_
      refine wp_run rfl ?_
      exact wp_ret rfl rfl ⟨rfl, rfl⟩
    | 3, _ =>
      have hbg := aBeg_le hO (Nat.le_refl (aN (vA V)))
      have hpg := hO.pg
      refine ev_in rfl rfl (Nat.le_of_ble_eq_true rfl) rfl ?_
      refine wp_run rfl ?_
      refine wp_sw rfl ?_
      refine wp_run rfl ?_
      refine wp_v0 rfl rfl (Nat.le_of_ble_eq_true rfl) (x0_allBeats (d := d + 3) hO hC) ?_
      refine wp_run rfl ?_
      refine wp_v0 rfl rfl (Nat.le_of_ble_eq_true rfl) (x0_pageBeats (d := d + 3) hO hC) ?_
      refine wp_run rfl ?_
      rw [nI_add, nI_p1 (by omega)]
      refine wp_v0 rfl rfl (Nat.le_of_ble_eq_true rfl) (x0_pageBeats (d := d + 3) hO hC) ?_
      refine wp_run rfl ?_
      refine wp_idiv rfl (nI_ne0 (by omega) (by omega)) (nI_div (by omega) (by omega) (by omega)) ?_
      refine wp_run rfl ?_
      exact wp_ret rfl rfl ⟨rfl, rfl⟩
    | 4, _ =>
      refine ev_in rfl rfl (Nat.le_of_ble_eq_true rfl) rfl ?_
      refine wp_run rfl ?_
      refine wp_sw rfl ?_
      refine wp_run rfl ?_
      refine wp_v0 rfl rfl (Nat.le_of_ble_eq_true rfl) (x0_offTogether (d := d + 2) hO hC) ?_
      refine wp_run rfl ?_
      exact wp_ret rfl rfl ⟨rfl, rfl⟩
    | 5, _ =>
      refine ev_in rfl rfl (Nat.le_of_ble_eq_true rfl) rfl ?_
      refine wp_run rfl ?_
      refine wp_sw rfl ?_
      refine wp_run rfl ?_
      refine wp_v0 rfl rfl (Nat.le_of_ble_eq_true rfl) (x0_fittingActs (d := d + 1) hO hC) ?_
      refine wp_run rfl ?_
      exact wp_ret rfl rfl ⟨rfl, rfl⟩
    | 6, _ =>
      refine ev_in rfl rfl (Nat.le_of_ble_eq_true rfl) rfl ?_
      refine wp_run rfl ?_
      refine wp_sw rfl ?_
      refine wp_run rfl ?_
      refine wp_v0 rfl rfl (Nat.le_of_ble_eq_true rfl) (x0_longestSlug (d := d + 3) hO hC) ?_
      refine wp_run rfl ?_
      exact wp_ret rfl rfl ⟨rfl, rfl⟩
    | 7, _ =>
      refine ev_in rfl rfl (Nat.le_of_ble_eq_true rfl) rfl ?_
      refine wp_run rfl ?_
      refine wp_sw rfl ?_
      refine wp_run rfl ?_
      refine wp_v1 rfl rfl (Nat.le_of_ble_eq_true rfl) (x0_settingOf (d := d + 4) (j := 0) (by decide)) ?_
      refine wp_run rfl ?_
      rw [cr_pg hC]
      exact wp_ret rfl rfl ⟨rfl, rfl⟩
    | 8, _ =>
      refine ev_in rfl rfl (Nat.le_of_ble_eq_true rfl) rfl ?_
      refine wp_run rfl ?_
      refine wp_sw rfl ?_
      refine wp_run rfl ?_
      refine wp_v1 rfl rfl (Nat.le_of_ble_eq_true rfl) (x0_settingOf (d := d + 4) (j := 1) (by decide)) ?_
      refine wp_run rfl ?_
      rw [cr_sl hC]
      exact wp_ret rfl rfl ⟨rfl, rfl⟩
    | 9, _ =>
      refine ev_in rfl rfl (Nat.le_of_ble_eq_true rfl) rfl ?_
      refine wp_run rfl ?_
      refine wp_sw rfl ?_
      refine wp_run rfl ?_
      refine wp_v1 rfl rfl (Nat.le_of_ble_eq_true rfl) (x0_settingOf (d := d + 4) (j := 2) (by decide)) ?_
      refine wp_run rfl ?_
      rw [cr_tr hC]
      exact wp_ret rfl rfl ⟨rfl, rfl⟩
    | 10, _ =>
      refine ev_in rfl rfl (Nat.le_of_ble_eq_true rfl) rfl ?_
      refine wp_run rfl ?_
      refine wp_sw rfl ?_
      refine wp_run rfl ?_
      refine wp_v0 rfl rfl (Nat.le_of_ble_eq_true rfl) (x2_size (d := d + 5)) ?_
      refine wp_run rfl ?_
      exact wp_ret rfl rfl ⟨rfl, rfl⟩
    | 11, _ =>
      refine ev_in rfl rfl (Nat.le_of_ble_eq_true rfl) rfl ?_
      refine wp_run rfl ?_
      refine wp_sw rfl ?_
      refine wp_run rfl ?_
      refine wp_v0 rfl rfl (Nat.le_of_ble_eq_true rfl) (x1_size (d := d + 5)) ?_
      refine wp_run rfl ?_
      exact wp_ret rfl rfl ⟨rfl, rfl⟩
    | n + 12, hk => exact absurd hk (by omega)
end AX49
end
section
/-! PURE: what the law asks of a board (1): sets of slugs, what is needed, places, acts. -/
theorem b_not (x : Int32) {i : Nat} (hi : i < 32) : bt (x ^^^ (-1)) i = !bt x i := by
  rw [b_xor, b_m1 i hi]; cases bt x i <;> rfl
theorem b_sub {x y : Int32} (h : ∀ i, bt x i = true → bt y i = true) : x &&& (y ^^^ (-1)) = 0 := b_ext fun i hi => by
  rw [b_and, b_not y hi, b_0]
  cases h1 : bt x i with
  | false => rfl
  | true => rw [h i h1]; rfl
section AX50
variable {A : axAD}
/-! what is needed -/
theorem pu_ahead (hO : aOk A) {i : Nat} (hi : i < aN A) : bt (aSet A i) (aR A i) = false := by
  cases h : bt (aSet A i) (aR A i) with
  | false => rfl
  | true =>
    obtain ⟨j, hj, e⟩ := (bt_aSet hO (aR A i) i (by omega)).mp h
    have := hO.inj (show j < aN A by omega) hi e
    omega
theorem pu_need (hO : aOk A) {i : Nat} (hi : i < aN A) (b : Nat) (h : bt (aD A (aR A i)) b = true) : bt (aSet A i) b = true :=
  (bt_aSet hO b i (by omega)).mpr (hO.d hi h)
theorem aClo_up : ∀ (m : Nat) (x : Int32) (b : Nat), bt x b = true → bt (aClo A m x) b = true
  | 0, _, _, h => h
  | m + 1, x, b, h => by
    rw [aClo]
    refine aClo_up m _ b ?_
    split
    · rw [b_or, h]; rfl
    · exact h
theorem aClo_min {y : Int32} : ∀ (m : Nat) (x : Int32), (∀ p, p < m → bt y (aR A p) = true → ∀ b, bt (aD A (aR A p)) b = true → bt y b = true) → (∀ b, bt x b = true → bt y b = true) → ∀ b, bt (aClo A m x) b = true → bt y b = true
  | 0, _, _, hx, b, h => hx b h
  | m + 1, x, hy, hx, b, h => by
    rw [aClo] at h
    refine aClo_min m _ (fun p hp => hy p (by omega)) (fun c hc => ?_) b h
    split at hc
    · rename_i e
      rw [b_or, Bool.or_eq_true] at hc
      rcases hc with hc | hc
      · exact hx c hc
      · exact hy m (by omega) (hx _ e) c hc
    · exact hx c hc
theorem aClo_hi (hO : aOk A) : ∀ (m : Nat), m ≤ aN A → ∀ (x : Int32) (q : Nat), m ≤ q → q < aN A → bt (aClo A m x) (aR A q) = true → bt x (aR A q) = true
  | 0, _, _, _, _, _, h => h
  | m + 1, hm, x, q, hq, hqn, h => by
    rw [aClo] at h
    have h := aClo_hi hO m (by omega) _ q (by omega) hqn h
    split at h
    · rw [b_or, Bool.or_eq_true] at h
      rcases h with h | h
      · exact h
      · obtain ⟨j, hj, e⟩ := hO.d (show m < aN A by omega) h
        have := hO.inj (show j < aN A by omega) hqn e
        omega
    · exact h
theorem aClo_cl (hO : aOk A) : ∀ (m : Nat), m ≤ aN A → ∀ (x : Int32) (p : Nat), p < m → bt (aClo A m x) (aR A p) = true → ∀ b, bt (aD A (aR A p)) b = true → bt (aClo A m x) b = true
  | 0, _, _, _, hp, _, _, _ => absurd hp (Nat.not_lt_zero _)
  | m + 1, hm, x, p, hp, h, b, hb => by
    rw [aClo] at h ⊢
    by_cases e : p = m
    · subst e
      have h := aClo_hi hO p (by omega) _ p (Nat.le_refl _) (by omega) h
      have h2 : bt x (aR A p) = true := by
        split at h
        · assumption
        · exact h
      rw [if_pos h2]
      refine aClo_up p _ b ?_
      rw [b_or, hb, Bool.or_true]
    · exact aClo_cl hO m (by omega) _ p (by omega) h b hb
/-- all that a slug needs: it needs what it needs first; it is ahead; what a needed one needs is in it -/
theorem pu_clo1 (i : Nat) (b : Nat) (h : bt (aD A (aR A i)) b = true) : bt (aClo A (aN A) (aD A (aR A i))) b = true := aClo_up _ _ b h
theorem pu_clo2 (hO : aOk A) {i : Nat} (hi : i < aN A) (b : Nat) (h : bt (aClo A (aN A) (aD A (aR A i))) b = true) : bt (aSet A i) b = true := by
  refine aClo_min (aN A) _ (fun p hp h1 c hc => ?_) (pu_need hO hi) b h
  obtain ⟨j, hj, e⟩ := (bt_aSet hO (aR A p) i (by omega)).mp h1
  have := hO.inj (show j < aN A by omega) hp e
  subst this
  obtain ⟨q, hq, e2⟩ := hO.d hp hc
  exact (bt_aSet hO c i (by omega)).mpr ⟨q, by omega, e2⟩
theorem pu_clo3 (hO : aOk A) {i j : Nat} (hj : j < aN A) (h : bt (aD A (aR A i)) (aR A j) = true) (b : Nat) (hb : bt (aClo A (aN A) (aD A (aR A j))) b = true) : bt (aClo A (aN A) (aD A (aR A i))) b = true :=
  aClo_min (aN A) _ (fun p hp h1 => aClo_cl hO _ (Nat.le_refl _) _ p hp h1) (fun c hc => aClo_cl hO _ (Nat.le_refl _) _ j hj (aClo_up _ _ _ h) c hc) b hb
theorem bt_aNdr (hO : aOk A) (k b : Nat) : ∀ q, q ≤ aN A → (bt (aNdr A k q) b = true ↔ ∃ p, p < q ∧ aR A p = b ∧ bt (aD A (aR A p)) k = true)
  | 0, _ => ⟨fun h => (by rw [aNdr, b_0] at h; cases h), fun ⟨i, hi, _⟩ => absurd hi (Nat.not_lt_zero i)⟩
  | q + 1, hq => by
    have hr := hO.r (show q < aN A by omega)
    have ih := bt_aNdr hO k b q (by omega)
    rw [aNdr]
    split
    · rename_i e
      rw [bt_set (by omega), Bool.or_eq_true, ih]
      constructor
      · rintro (⟨i, hi, e⟩ | h)
        · exact ⟨i, by omega, e⟩
        · exact ⟨q, by omega, (of_decide_eq_true h).symm, e⟩
      · rintro ⟨i, hi, e1, e3⟩
        by_cases e2 : i = q
        · subst e2; exact Or.inr (decide_eq_true e1.symm)
        · exact Or.inl ⟨i, by omega, e1, e3⟩
    · rename_i e
      rw [ih]
      constructor
      · rintro ⟨i, hi, e1⟩
        exact ⟨i, by omega, e1⟩
      · rintro ⟨i, hi, e1, e3⟩
        by_cases e2 : i = q
        · subst e2; exact absurd e3 e
        · exact ⟨i, by omega, e1, e3⟩
theorem aNdr_0 (hO : aOk A) {k : Nat} (h : ∀ p, p < aN A → bt (aD A (aR A p)) k = false) : aNdr A k (aN A) = 0 := by
  refine bt_ext fun b _ => ?_
  rw [bt_aNdr hO k b _ (Nat.le_refl _), b_0]
  constructor
  · rintro ⟨p, hp, -, e⟩
    rw [h p hp] at e; cases e
  · intro z; cases z
/-! places -/
theorem bt_plS (hO : aOk A) (i b : Nat) : ∀ q, q ≤ aN A → (bt (plS A i q) b = true ↔ (b < q ∧ aLo A i ≤ b ∧ b < aHi A i))
  | 0, _ => ⟨fun h => (by rw [plS, b_0] at h; cases h), fun h => absurd h.1 (Nat.not_lt_zero b)⟩
  | q + 1, hq => by
    have hn := hO.n
    have ih := bt_plS hO i b q (by omega)
    rw [plS]
    split
    · rename_i e
      rw [bt_set (by omega), Bool.or_eq_true, ih, decide_eq_true_eq]
      constructor
      · rintro (h | h)
        · exact ⟨by omega, h.2⟩
        · subst h; exact ⟨by omega, e⟩
      · rintro ⟨h1, h2⟩
        by_cases e2 : b = q
        · exact Or.inr e2
        · exact Or.inl ⟨by omega, h2⟩
    · rename_i e
      rw [ih]
      constructor
      · rintro ⟨h1, h2⟩
        exact ⟨by omega, h2⟩
      · rintro ⟨h1, h2⟩
        by_cases e2 : b = q
        · subst e2; exact absurd h2 e
        · exact ⟨by omega, h2⟩
theorem pu_place (hO : aOk A) {i q : Nat} (hq : q < aN A) : (plS A i (aN A) >>> (nI q &&& 31)) &&& 1 = if aLo A i ≤ q ∧ q < aHi A i then 1 else 0 := by
  have hn := hO.n
  rw [bt_has (by omega)]
  by_cases h : aLo A i ≤ q ∧ q < aHi A i
  · rw [if_pos h, if_pos ((bt_plS hO i q _ (Nat.le_refl _)).mpr ⟨hq, h⟩)]
  · rw [if_neg h, if_neg (fun z => h ((bt_plS hO i q _ (Nat.le_refl _)).mp z).2)]
/-! beats -/
theorem aBeg_s (p : Nat) : aBeg A (p + 1) = aBeg A p + aB A (aR A p) := rfl
theorem aAct_s (p : Nat) : aAct A (p + 1) = aAct A p + (if aT A (aR A p) = true then 1 else 0) := rfl
theorem aBeg_mono {p q : Nat} (h : p ≤ q) : aBeg A p ≤ aBeg A q := aS_mono h
theorem aAct_mono {p q : Nat} (h : p ≤ q) : aAct A p ≤ aAct A q := aS_mono h
theorem pu_atB (hO : aOk A) {i : Nat} (hi : i < aN A) : aAtB A (aBeg A i) = i := by
  have h1 : ¬ i < aAtB A (aBeg A i) := fun z => by
    have := ((aAtB_lt A (aBeg A i) i).mp z).2
    rw [aBeg_s] at this
    have := hO.b hi
    omega
  have h2 : ¬ aAtB A (aBeg A i) < i := fun z => by
    have h3 := (aAtB_lt A (aBeg A i) (aAtB A (aBeg A i))).mpr ⟨by omega, aBeg_mono (by omega)⟩
    omega
  omega
theorem pu_atE (hO : aOk A) : aAtB A (aBeg A (aN A)) = aN A := by
  have h2 : ¬ aAtB A (aBeg A (aN A)) < aN A := fun z => by
    have h3 := (aAtB_lt A (aBeg A (aN A)) (aAtB A (aBeg A (aN A)))).mpr ⟨z, aBeg_mono (by omega)⟩
    omega
  have := aAtB_le A (aBeg A (aN A))
  omega
/-! acts -/
theorem aAct_le1 (p : Nat) : aAct A p ≤ aAct A (p + 1) ∧ aAct A (p + 1) ≤ aAct A p + 1 := by
  rw [aAct_s]; split <;> omega
theorem pu_act {a : Nat} (ha : a < aActs A) : aSt A a < aSt A (a + 1) ∧ aSt A (a + 1) ≤ aN A ∧ aAct A (aSt A (a + 1) - 1) = a ∧ (aT A (aR A (aSt A (a + 1) - 1)) = true ↔ a < aAct A (aN A)) ∧ (aAct A (aN A) ≤ a → a + 1 = aActs A) := by
  unfold aActs at ha ⊢
  by_cases h0 : aN A = 0
  · rw [if_pos h0] at ha; omega
  rw [if_neg h0] at ha ⊢
  have hS := aSt_le A (a + 1)
  have hS0 : 0 < aSt A (a + 1) := (aSt_lt A (a + 1) 0).mpr ⟨by omega, by show 0 < a + 1; omega⟩
  obtain ⟨L, hL⟩ : ∃ L, aSt A (a + 1) = L + 1 := ⟨aSt A (a + 1) - 1, by omega⟩
  have hL1 := (aSt_lt A (a + 1) L).mp (by omega)
  have hs := aAct_s (A := A) L
  have hno : aN A = L + 1 ∨ (L + 1 < aN A ∧ a + 1 ≤ aAct A (L + 1)) := by
    by_cases e : aN A = L + 1
    · exact Or.inl e
    · refine Or.inr ⟨by omega, Nat.not_lt.mp fun z => ?_⟩
      have := (aSt_lt A (a + 1) (L + 1)).mpr ⟨by omega, z⟩
      omega
  have hLa : aAct A L = a := by
    rcases hno with e | ⟨e1, e2⟩
    · rw [e, Nat.add_sub_cancel] at ha; omega
    · split at hs <;> omega
  have hst : aSt A a ≤ L := Nat.not_lt.mp fun z => by
    have := ((aSt_lt A a L).mp z).2
    omega
  rw [hL, Nat.add_sub_cancel]
  refine ⟨by omega, by omega, hLa, ?_, ?_⟩
  · rcases hno with e | ⟨e1, e2⟩
    · rw [e, hs, hLa]
      by_cases ht : aT A (aR A L) = true
      · rw [if_pos ht]; exact ⟨fun _ => by omega, fun _ => ht⟩
      · rw [if_neg ht]; exact ⟨fun z => absurd z ht, fun z => by omega⟩
    · have hm := aAct_mono (A := A) (show L + 1 ≤ aN A by omega)
      refine ⟨fun _ => by omega, fun _ => ?_⟩
      by_cases ht : aT A (aR A L) = true
      · exact ht
      · rw [if_neg ht] at hs; omega
  · intro z
    rcases hno with e | ⟨e1, e2⟩
    · rw [e, Nat.add_sub_cancel, hLa]
    · have hm := aAct_mono (A := A) (show L + 1 ≤ aN A by omega)
      omega
theorem aSt_0 : aSt A 0 = 0 := by
  by_cases h : 0 < aSt A 0
  · have := ((aSt_lt A 0 0).mp h).2
    omega
  · omega
theorem aSt_all : aSt A (aActs A) = aN A := by
  have h := aSt_le A (aActs A)
  by_cases h0 : aN A = 0
  · omega
  · have h1 := (aSt_lt A (aActs A) (aN A - 1)).mpr ⟨by omega, by unfold aActs; rw [if_neg h0]; omega⟩
    omega
theorem pu_turns : aAct A (aN A) ≤ aActs A ∧ aActs A ≤ aAct A (aN A) + 1 := by
  unfold aActs
  by_cases h0 : aN A = 0
  · rw [if_pos h0, h0]
    exact ⟨Nat.le_refl 0, Nat.zero_le _⟩
  · rw [if_neg h0]
    have := aAct_le1 (A := A) (aN A - 1)
    rw [show aN A - 1 + 1 = aN A by omega] at this
    omega
/-! how far all acts are off -/
def ofs (A : axAD) : Nat → Nat := aS (fun a => (aOff A a).natAbs)
theorem ofs_s (a : Nat) : ofs A (a + 1) = ofs A a + (aOff A a).natAbs := rfl
theorem aSt_at {c p : Nat} (hp : p ≤ aN A) (h1 : ∀ q, q < p → aAct A q < c) (h2 : p < aN A → c ≤ aAct A p) : aSt A c = p := by
  have a1 : ¬ aSt A c < p := fun z => by
    have := (aSt_lt A c (aSt A c)).mpr ⟨by omega, h1 _ z⟩
    omega
  have a2 : ¬ p < aSt A c := fun z => by
    have := (aSt_lt A c p).mp z
    have := h2 this.1
    omega
  omega
theorem aFo_inv (p : Nat) : p ≤ aN A → (aFo A p).1 = ofs A (aAct A p) ∧ (aFo A p).2.1 = aAct A p ∧ (aFo A p).2.2.1 = aBeg A p - aBeg A (aSt A (aAct A p)) ∧ aSt A (aAct A p) ≤ p ∧ ((aFo A p).2.2.2 = true ↔ aSt A (aAct A p) < p) := by
  induction p with
  | zero =>
    intro _
    have e : aAct A 0 = 0 := rfl
    rw [e, aSt_0]
    exact ⟨rfl, rfl, (Nat.sub_self _).symm, Nat.le_refl _, ⟨fun z => (by cases z), fun z => by omega⟩⟩
  | succ p ih =>
    intro hp
    obtain ⟨i1, i2, i3, i4, i5⟩ := ih (by omega)
    have hb := aBeg_s (A := A) p
    have hm := aBeg_mono (A := A) i4
    have hs := aAct_s (A := A) p
    rw [aFo]
    by_cases ht : aT A (aR A p) = true
    · rw [if_pos ht] at hs ⊢
      have hst : aSt A (aAct A p + 1) = p + 1 := aSt_at hp (fun q hq => by have := aAct_mono (A := A) (show q ≤ p by omega); omega) (fun _ => by omega)
      rw [hs, hst]
      refine ⟨?_, by rw [i2], (Nat.sub_self _).symm, Nat.le_refl _, ⟨fun z => (by cases z), fun z => by omega⟩⟩
      show (aFo A p).1 + _ = _
      rw [i1, ofs_s, i2, i3, show aBeg A p - aBeg A (aSt A (aAct A p)) + aB A (aR A p) = aBeg A (p + 1) - aBeg A (aSt A (aAct A p)) by omega]
      unfold aOff
      rw [hst]
    · rw [if_neg ht] at hs ⊢
      rw [show aAct A (p + 1) = aAct A p from hs]
      refine ⟨i1, i2, ?_, by omega, ⟨fun _ => by omega, fun _ => rfl⟩⟩
      show (aFo A p).2.2.1 + aB A (aR A p) = _
      rw [i3]; omega
theorem aAll_ofs : aAll A = ofs A (aActs A) := by
  obtain ⟨i1, i2, i3, i4, i5⟩ := aFo_inv (A := A) (aN A) (Nat.le_refl _)
  unfold aAll
  by_cases h : aSt A (aAct A (aN A)) < aN A
  · rw [if_pos (i5.mpr h)]
    have h0 : aN A ≠ 0 := by omega
    have hge : aAct A (aN A) ≤ aAct A (aN A - 1) := Nat.not_lt.mp fun z => by
      have := (aSt_lt A (aAct A (aN A)) (aN A - 1)).mpr ⟨by omega, z⟩
      omega
    have hle := aAct_mono (A := A) (show aN A - 1 ≤ aN A by omega)
    have hac : aActs A = aAct A (aN A) + 1 := by unfold aActs; rw [if_neg h0]; omega
    have hst : aSt A (aAct A (aN A) + 1) = aN A := by rw [← hac]; exact aSt_all
    rw [hac, ofs_s, i1, i2, i3]
    unfold aOff
    rw [hst]
  · have h4 : aSt A (aAct A (aN A)) = aN A := by omega
    rw [if_neg (fun z => h (i5.mp z)), i1]
    congr 1
    unfold aActs
    by_cases h0 : aN A = 0
    · rw [if_pos h0, h0]; rfl
    · rw [if_neg h0]
      have h5 := ((aSt_lt A (aAct A (aN A)) (aN A - 1)).mp (by omega)).2
      have h6 := aAct_le1 (A := A) (aN A - 1)
      rw [show aN A - 1 + 1 = aN A by omega] at h6
      omega
theorem aLng_0 (h : aN A = 0) : (aLng A (aN A)).1 = -6 := by rw [h]; rfl
theorem aLng_n (hO : aOk A) : ∀ p, p < aN A → ∃ k, k < 24 ∧ (aLng A (p + 1)).1 = nI k ∧ 0 < (aLng A (p + 1)).2
  | 0, hp => by
    have hb := hO.b hp
    refine ⟨aR A 0, hO.r hp, ?_, ?_⟩ <;> rw [aLng, if_pos (show (aLng A 0).2 < aB A (aR A 0) by show 0 < _; omega)]
    show 0 < aB A (aR A 0)
    omega
  | p + 1, hp => by
    obtain ⟨k, h1, h2, h3⟩ := aLng_n hO p (by omega)
    have hb := hO.b hp
    rw [aLng]
    split
    · exact ⟨aR A (p + 1), hO.r hp, rfl, by show 0 < aB A (aR A (p + 1)); omega⟩
    · exact ⟨k, h1, h2, h3⟩
end AX50
end
section
/-! PURE: what the law asks of a board (2): changes there and back, beats and acts after a change. -/
theorem aDel_ins (r : Nat → Nat) (q k : Nat) : aDel (aIns r q k) q = r := by
  funext i
  show (if i < q then aIns r q k i else aIns r q k (i + 1)) = r i
  unfold aIns
  by_cases h : i < q
  · rw [if_pos h, if_pos h]
  · rw [if_neg h, if_neg (by omega), if_neg (by omega)]; rfl
theorem aIns_del (r : Nat → Nat) (p : Nat) : aIns (aDel r p) p (r p) = r := by
  funext i
  by_cases h : i < p
  · unfold aIns aDel; rw [if_pos h, if_pos h]
  · by_cases h2 : i = p
    · rw [h2, aIns_at]
    · unfold aIns aDel; rw [if_neg h, if_neg h2, if_neg (by omega), show i - 1 + 1 = i by omega]
section AX51
variable {A : axAD}
theorem pu_mv_row (A : axAD) (p q : Nat) : aIns (aDel (aR (aMove A p q)) q) p (aR (aMove A p q) q) = aR A := by
  show aIns (aDel (aIns (aDel (aR A) p) q (aR A p)) q) p (aIns (aDel (aR A) p) q (aR A p) q) = aR A
  rw [aDel_ins, aIns_at, aIns_del]
theorem pu_mv_back (A : axAD) (p q : Nat) : aMove (aMove A p q) q p = A := by
  show aRow A (aIns (aDel (aR (aMove A p q)) q) p (aR (aMove A p q) q)) = A
  rw [pu_mv_row]; rfl
theorem pu_mv_at (A : axAD) (p q : Nat) : aR (aMove A p q) q = aR A p := aIns_at _ _ _
theorem pu_mv_may (hO : aOk A) {p q : Nat} (hp : p < aN A) (hq : q < aN A) (h : aLo A p ≤ q ∧ q < aHi A p) : aLo (aMove A p q) q ≤ p ∧ p < aHi (aMove A p q) q := by
  refine (aMove_ord (aOk_move hO hp hq h) hq hp).mp ?_
  rw [pu_mv_row]
  exact hO.2.2.2.2.1
theorem pu_sw_row (A : axAD) {p q : Nat} (h : p ≠ q) : (fun i => if i = q then aR (aSwp A p q) p else if i = p then aR (aSwp A p q) q else aR (aSwp A p q) i) = aR A := by
  funext i
  show (if i = q then (if p = p then aR A q else if p = q then aR A p else aR A p) else if i = p then (if q = p then aR A q else if q = q then aR A p else aR A q) else (if i = p then aR A q else if i = q then aR A p else aR A i)) = aR A i
  by_cases h1 : i = q
  · rw [if_pos h1, if_pos rfl, h1]
  · rw [if_neg h1]
    by_cases h2 : i = p
    · rw [if_pos h2, if_neg (Ne.symm h), if_pos rfl, h2]
    · rw [if_neg h2, if_neg h2, if_neg h1]
theorem pu_sw_back (A : axAD) {p q : Nat} (h : p ≠ q) : aSwp (aSwp A p q) q p = A := by
  show aRow A (fun i => if i = q then aR (aSwp A p q) p else if i = p then aR (aSwp A p q) q else aR (aSwp A p q) i) = A
  rw [pu_sw_row A h]; rfl
theorem pu_sw_p (A : axAD) (p q : Nat) : aR (aSwp A p q) p = aR A q := if_pos rfl
theorem pu_sw_q (A : axAD) {p q : Nat} (h : p ≠ q) : aR (aSwp A p q) q = aR A p := by
  show (if q = p then aR A q else if q = q then aR A p else aR A q) = aR A p
  rw [if_neg (Ne.symm h), if_pos rfl]
theorem pu_sw_may (hO : aOk A) {p q : Nat} (hp : p < aN A) (hq : q < aN A) (hpq : p ≠ q) (h : aMay A p q) : aMay (aSwp A p q) q p := by
  refine (aSwp_ord (aOk_swp hO hp hq hpq h) hq hp (Ne.symm hpq)).mp ?_
  rw [pu_sw_row A hpq]
  exact hO.2.2.2.2.1
theorem va_up_back {α : Type} (f : Nat → α) (k : Nat) (v : α) : va_up (va_up f k v) k (f k) = f := by
  funext j
  by_cases h : j = k
  · rw [h, va_is]
  · rw [va_no h, va_no h]
theorem pu_bts_back (A : axAD) (k v : Nat) : aBts (aBts A k v) k (aB A k) = A := by
  show (aN A, aR A, aW A, va_up (va_up (aB A) k v) k (aB A k), aD A, aT A, aPg A, aSl A, aTr A, aTg A) = A
  rw [va_up_back]
/-! beats after a change -/
theorem aBeg_bts (hO : aOk A) {i v : Nat} (hi : i < aN A) : ∀ q, q ≤ aN A → aBeg (aBts A (aR A i) v) q + (if i < q then aB A (aR A i) else 0) = aBeg A q + (if i < q then v else 0)
  | 0, _ => rfl
  | q + 1, hq => by
    have ih := aBeg_bts hO (v := v) hi q (by omega)
    have e1 : aBeg (aBts A (aR A i) v) (q + 1) = aBeg (aBts A (aR A i) v) q + va_up (aB A) (aR A i) v (aR A q) := rfl
    rw [e1, aBeg_s]
    by_cases e : q = i
    · subst e
      rw [if_neg (by omega), if_neg (by omega)] at ih
      rw [if_pos (by omega), if_pos (by omega), va_is]; omega
    · rw [va_no (fun z => e (hO.inj (show q < aN A by omega) hi z))]
      by_cases e2 : i < q
      · rw [if_pos e2, if_pos e2] at ih
        rw [if_pos (by omega), if_pos (by omega)]; omega
      · rw [if_neg e2, if_neg e2] at ih
        rw [if_neg (by omega), if_neg (by omega)]; omega
theorem pu_bts_n (hO : aOk A) {i v : Nat} (hi : i < aN A) : aBeg (aBts A (aR A i) v) (aN A) + aB A (aR A i) = aBeg A (aN A) + v := by
  have := aBeg_bts hO (v := v) hi (aN A) (Nat.le_refl _)
  rw [if_pos hi, if_pos hi] at this
  exact this
theorem aBeg_drop1 (A : axAD) (p : Nat) : ∀ q, q ≤ p → aBeg (aDrop A p) q = aBeg A q
  | 0, _ => rfl
  | q + 1, hq => by
    have ih := aBeg_drop1 A p q (by omega)
    have e1 : aBeg (aDrop A p) (q + 1) = aBeg (aDrop A p) q + aB A (if q < p then aR A q else aR A (q + 1)) := rfl
    rw [e1, aBeg_s, if_pos (by omega), ih]
theorem aBeg_drop2 (A : axAD) (p : Nat) : ∀ q, p ≤ q → aBeg (aDrop A p) q + aB A (aR A p) = aBeg A (q + 1)
  | 0, hq => by
    have : p = 0 := by omega
    subst this
    rw [aBeg_s, aBeg_drop1 A 0 0 (Nat.le_refl _)]
  | q + 1, hq => by
    by_cases e : p = q + 1
    · subst e
      rw [aBeg_s (A := A) (q + 1), aBeg_drop1 A _ _ (Nat.le_refl _)]
    · have ih := aBeg_drop2 A p q (by omega)
      have e1 : aBeg (aDrop A p) (q + 1) = aBeg (aDrop A p) q + aB A (if q < p then aR A q else aR A (q + 1)) := rfl
      rw [e1, if_neg (by omega), aBeg_s (q + 1)]; omega
theorem pu_drop_n {p : Nat} (hp : p < aN A) : aBeg (aDrop A p) (aN A - 1) + aB A (aR A p) = aBeg A (aN A) := by
  have := aBeg_drop2 A p (aN A - 1) (by omega)
  rw [show aN A - 1 + 1 = aN A by omega] at this
  exact this
theorem pu_drop_no (hO : aOk A) {p : Nat} (hp : p < aN A) : spNo (aDrop A p) (nI (aR A p)) := by
  intro i hi e
  have hi : i < aN A - 1 := hi
  have e : nI (aR A p) = nI (aDel (aR A) p i) := e
  obtain ⟨j, hj, hjp, e2⟩ := aDel_is (aR A) hi hp
  rw [e2] at e
  exact absurd e.symm (aR_ne hO hj hp hjp)
/-- only the beats are others -/
def aBf (A : axAD) (f : Nat → Nat) : axAD := (aN A, aR A, aW A, f, aD A, aT A, aPg A, aSl A, aTr A, aTg A)
theorem aS_diff2 {f : Nat → Nat} {a m : Nat} : aS f (a + (m + 1)) - aS f a = aS f (a + m) - aS f a + f (a + m) := by
  have h1 : aS f (a + (m + 1)) = aS f (a + m) + f (a + m) := rfl
  have h2 := aS_mono (f := f) (show a ≤ a + m by omega)
  omega
theorem aFt_is (lo : Nat) : ∀ (m left : Nat) (A : axAD), aOk A → lo + m ≤ aN A → left ≤ aRm A (lo + m) - aRm A lo → ∃ f, aFt lo m left A = aBf A f ∧ (∀ q, q ≤ lo → aBeg (aBf A f) q = aBeg A q) ∧ (∀ q, lo + m ≤ q → q ≤ aN A → aBeg (aBf A f) q + left = aBeg A q)
  | 0, left, A, hO, hn, hl => by
    refine ⟨aB A, rfl, fun _ _ => rfl, fun q _ _ => ?_⟩
    have : left = 0 := by rw [Nat.add_zero, Nat.sub_self] at hl; omega
    rw [this]; rfl
  | m + 1, left, A, hO, hn, hl => by
    rw [aFt]
    by_cases h0 : left = 0
    · rw [if_pos h0, h0]
      exact ⟨aB A, rfl, fun _ _ => rfl, fun q _ _ => rfl⟩
    · rw [if_neg h0]
      have hi : lo + m < aN A := by omega
      have hb := hO.b hi
      have hc := aCan_lt hO hi
      have hl : left ≤ aRm A (lo + m) - aRm A lo + aCan A (aR A (lo + m)) := by
        have : aRm A (lo + (m + 1)) - aRm A lo = aRm A (lo + m) - aRm A lo + aCan A (aR A (lo + m)) := aS_diff2
        omega
      generalize hcc : min left (aCan A (aR A (lo + m))) = c
      have hc1 : c ≤ left := by omega
      have hc2 : c ≤ aCan A (aR A (lo + m)) := by omega
      have hO2 : aOk (aBts A (aR A (lo + m)) (aB A (aR A (lo + m)) - c)) := aOk_bts hO hi (by omega) (by omega)
      have hrm : ∀ q, q ≤ lo + m → aRm (aBts A (aR A (lo + m)) (aB A (aR A (lo + m)) - c)) q = aRm A q := fun q hq => aS_cong q fun j hj => by
        show va_up (aB A) (aR A (lo + m)) (aB A (aR A (lo + m)) - c) (aR A j) - _ = aB A (aR A j) - _
        rw [va_no (fun z => by have := hO.inj (show j < aN A by omega) hi z; omega)]
        rfl
      obtain ⟨f, e, h1, h2⟩ := aFt_is lo m (left - c) _ hO2 (show lo + m ≤ aN A by omega) (by rw [hrm _ (Nat.le_refl _), hrm _ (by omega)]; omega)
      have hbt := fun q hq => aBeg_bts hO (i := lo + m) (v := aB A (aR A (lo + m)) - c) hi q hq
      refine ⟨f, e, fun q hq => (h1 q hq).trans ?_, fun q hq hqn => ?_⟩
      · have := hbt q (by omega)
        rw [if_neg (by omega), if_neg (by omega)] at this
        omega
      · have h3 := h2 q (by omega) hqn
        have := hbt q hqn
        rw [if_pos (by omega), if_pos (by omega)] at this
        have h4 : aBeg (aBf (aBts A (aR A (lo + m)) (aB A (aR A (lo + m)) - c)) f) q = aBeg (aBf A f) q := rfl
        omega
theorem pu_fit (hO : aOk A) {a : Nat} (ha : a < aActs A) : ∃ f, aFit A a = aBf A f ∧ aBeg (aBf A f) (aSt A a) = aBeg A (aSt A a) ∧ aBeg (aBf A f) (aSt A (a + 1)) + aCut A a = aBeg A (aSt A (a + 1)) ∧ aBeg (aBf A f) (aN A) + aCut A a = aBeg A (aN A) := by
  have hm := aSt_mono A (show a ≤ a + 1 by omega)
  have hl := aSt_le A (a + 1)
  obtain ⟨f, e, h1, h2⟩ := aFt_is (aSt A a) (aSt A (a + 1) - aSt A a) (aCut A a) A hO (by omega) (by rw [show aSt A a + (aSt A (a + 1) - aSt A a) = aSt A (a + 1) by omega]; exact Nat.min_le_right _ _)
  rw [show aSt A a + (aSt A (a + 1) - aSt A a) = aSt A (a + 1) by omega] at h2
  exact ⟨f, e, h1 _ (Nat.le_refl _), h2 _ (Nat.le_refl _) hl, h2 _ hl (Nat.le_refl _)⟩
/-! after a split -/
theorem spT (A : axAD) {p v k z : Nat} (hzk : z ≠ k) (j : Nat) : aT (aSplit A p v k z) j = if j = z then aT A k else if j = k then false else aT A j := by
  unfold aSplit
  by_cases ht : aT A k = true
  · rw [if_pos ht, ht]
    show (if j = z then !(if j = k then !(va_up (aT A) z false j) else va_up (aT A) z false j) else (if j = k then !(va_up (aT A) z false j) else va_up (aT A) z false j)) = _
    by_cases h1 : j = z
    · rw [if_pos h1, if_pos h1, if_neg (by omega), h1, va_is]; rfl
    · rw [if_neg h1, if_neg h1, va_no h1]
      by_cases h2 : j = k
      · rw [if_pos h2, if_pos h2, h2, ht]; rfl
      · rw [if_neg h2, if_neg h2]
  · rw [if_neg ht]
    show va_up (aT A) z false j = _
    have ht : aT A k = false := Bool.eq_false_iff.mpr ht
    by_cases h1 : j = z
    · rw [if_pos h1, h1, va_is, ht]
    · rw [if_neg h1, va_no h1]
      by_cases h2 : j = k
      · rw [if_pos h2, h2, ht]
      · rw [if_neg h2]
theorem spR_ (A : axAD) (p v k z : Nat) : aR (aSplit A p v k z) = aIns (aR A) (p + 1) z ∧ aN (aSplit A p v k z) = aN A + 1 ∧ aD (aSplit A p v k z) = aSplN A k z ∧ aPg (aSplit A p v k z) = aPg A := by
  unfold aSplit; split <;> exact ⟨rfl, rfl, rfl, rfl⟩
theorem spB (A : axAD) {p v k z : Nat} (hzk : z ≠ k) (j : Nat) : aB (aSplit A p v k z) j = (if j = k then v else if j = z then aB A k - v else aB A j) ∧ aW (aSplit A p v k z) j = (if j = k then v else if j = z then aW A k - v else aW A j) := by
  have e : aB (aSplit A p v k z) j = va_up (va_up (va_up (aB A) z (aW A k - v)) z (aB A k - v)) k v j ∧ aW (aSplit A p v k z) j = va_up (va_up (aW A) z (aW A k - v)) k v j := by
    unfold aSplit; split <;> exact ⟨rfl, rfl⟩
  rw [e.1, e.2]
  by_cases h1 : j = k
  · rw [if_pos h1, if_pos h1, h1, va_is, va_is]; exact ⟨rfl, rfl⟩
  · rw [if_neg h1, if_neg h1, va_no h1, va_no h1]
    by_cases h2 : j = z
    · rw [if_pos h2, if_pos h2, h2, va_is, va_is]; exact ⟨rfl, rfl⟩
    · rw [if_neg h2, if_neg h2, va_no h2, va_no h2, va_no h2]; exact ⟨rfl, rfl⟩
/-- a sum over the row after a split -/
theorem aS_ins {f g : Nat → Nat} {n p : Nat} (hp : p < n) (h1 : ∀ i, i < p → g i = f i) (h2 : g p + g (p + 1) = f p) (h3 : ∀ i, p < i → i < n → g (i + 1) = f i) : ∀ q, p < q → q ≤ n → aS g (q + 1) = aS f q
  | 0, h, _ => absurd h (Nat.not_lt_zero _)
  | q + 1, hq, hn => by
    by_cases e : q = p
    · subst e
      have e1 : aS g q = aS f q := aS_cong q fun i hi => h1 i hi
      show aS g q + g q + g (q + 1) = aS f q + f q
      omega
    · have ih := aS_ins hp h1 h2 h3 q (by omega) (by omega)
      have := h3 q (by omega) (by omega)
      show aS g (q + 1) + g (q + 1) = aS f q + f q
      omega
theorem pu_split (hO : aOk A) {p v z : Nat} (hp : p < aN A) (hf : ¬ aIn A z) (h2 : v < aB A (aR A p)) : aBeg (aSplit A p v (aR A p) z) (aN A + 1) = aBeg A (aN A) ∧ aActs (aSplit A p v (aR A p) z) = aActs A := by
  have hne : ∀ a, a < aN A → aR A a ≠ z := fun a ha e => hf ⟨a, ha, e⟩
  have hzk : z ≠ aR A p := fun e => hne p hp e.symm
  obtain ⟨r1, r2, -, -⟩ := spR_ A p v (aR A p) z
  have row1 : ∀ i, i ≤ p → aR (aSplit A p v (aR A p) z) i = aR A i := fun i hi => by
    rw [r1]; unfold aIns; rw [if_pos (by omega)]
  have row2 : aR (aSplit A p v (aR A p) z) (p + 1) = z := by rw [r1, aIns_at]
  have row3 : ∀ i, p < i → aR (aSplit A p v (aR A p) z) (i + 1) = aR A i := fun i hi => by
    rw [r1]; unfold aIns; rw [if_neg (by omega), if_neg (by omega)]; rfl
  have ne : ∀ i, i < aN A → i ≠ p → aR A i ≠ aR A p := fun i hi h z => h (hO.inj hi hp z)
  have sb : ∀ q, p < q → q ≤ aN A → aBeg (aSplit A p v (aR A p) z) (q + 1) = aBeg A q := aS_ins hp
    (fun i hi => by show aB (aSplit A p v (aR A p) z) (aR (aSplit A p v (aR A p) z) i) = aB A (aR A i); rw [row1 i (by omega), (spB A hzk _).1, if_neg (ne i (by omega) (by omega)), if_neg (hne i (by omega))])
    (by show aB (aSplit A p v (aR A p) z) (aR (aSplit A p v (aR A p) z) p) + aB (aSplit A p v (aR A p) z) (aR (aSplit A p v (aR A p) z) (p + 1)) = aB A (aR A p); rw [row1 p (Nat.le_refl _), row2, (spB A hzk _).1, (spB A hzk _).1, if_pos rfl, if_neg hzk, if_pos rfl]; omega)
    (fun i h1 h2 => by show aB (aSplit A p v (aR A p) z) (aR (aSplit A p v (aR A p) z) (i + 1)) = aB A (aR A i); rw [row3 i h1, (spB A hzk _).1, if_neg (ne i h2 (by omega)), if_neg (hne i h2)])
  have ta : ∀ i, i ≤ p → aAct (aSplit A p v (aR A p) z) i = aAct A i := fun i hi => aS_cong i fun j hj => by
    show (if aT (aSplit A p v (aR A p) z) (aR (aSplit A p v (aR A p) z) j) = true then 1 else 0) = _
    rw [row1 j (by omega), spT A hzk, if_neg (hne j (by omega)), if_neg (ne j (by omega) (by omega))]
  have tp : aAct (aSplit A p v (aR A p) z) (p + 1) = aAct A p := by
    rw [aAct_s, ta p (Nat.le_refl _), row1 p (Nat.le_refl _), spT A hzk, if_neg (Ne.symm hzk), if_pos rfl]; rfl
  have st : ∀ q, p < q → q ≤ aN A → aAct (aSplit A p v (aR A p) z) (q + 1) = aAct A q := aS_ins hp
    (fun i hi => by show (if aT (aSplit A p v (aR A p) z) (aR (aSplit A p v (aR A p) z) i) = true then 1 else 0) = _; rw [row1 i (by omega), spT A hzk, if_neg (hne i (by omega)), if_neg (ne i (by omega) (by omega))])
    (by show (if aT (aSplit A p v (aR A p) z) (aR (aSplit A p v (aR A p) z) p) = true then 1 else 0) + (if aT (aSplit A p v (aR A p) z) (aR (aSplit A p v (aR A p) z) (p + 1)) = true then 1 else 0) = _
        rw [row1 p (Nat.le_refl _), row2, spT A hzk, spT A hzk, if_neg (Ne.symm hzk), if_pos rfl, if_pos rfl, if_neg (by decide : ¬ false = true), Nat.zero_add])
    (fun i h1 h2 => by show (if aT (aSplit A p v (aR A p) z) (aR (aSplit A p v (aR A p) z) (i + 1)) = true then 1 else 0) = _; rw [row3 i h1, spT A hzk, if_neg (hne i h2), if_neg (ne i h2 (by omega))])
  refine ⟨sb _ hp (Nat.le_refl _), ?_⟩
  unfold aActs
  rw [if_neg (by omega), if_neg (by omega), r2, Nat.add_sub_cancel]
  congr 1
  by_cases e : aN A = p + 1
  · rw [e, tp, Nat.add_sub_cancel]
  · have := st (aN A - 1) (by omega) (by omega)
    rw [show aN A - 1 + 1 = aN A by omega] at this
    exact this
end AX51
end
section
/-! PURE: what the law asks of a board (3): the swap that helps the most; a slug by its number; the tale of a board. -/
section AX52
variable {A : axAD}
/-- what is held while the swaps are tried -/
def bsI (A : axAD) (s : axBS) : Prop := (s.1 = 0 ∧ s.2.1 = 0 ∧ s.2.2 = aAll A) ∨ (s.1 < s.2.1 ∧ s.2.1 < aN A ∧ aMay A s.1 s.2.1 ∧ s.2.2 = aAll (aSwp A s.1 s.2.1) ∧ s.2.2 < aAll A)
theorem bsI_le {s : axBS} (h : bsI A s) : s.2.2 ≤ aAll A := by
  rcases h with h | h <;> omega
theorem aBst_I {p q : Nat} {s : axBS} (hs : bsI A s) (hpq : p < q) (hq : q < aN A) : bsI A (aBst A p q s) ∧ (aBst A p q s).2.2 ≤ s.2.2 ∧ (aMay A p q → (aBst A p q s).2.2 ≤ aAll (aSwp A p q)) := by
  have hl := bsI_le hs
  unfold aBst
  by_cases h : ((aLo A p ≤ q ∧ q < aHi A p) ∧ (aLo A q ≤ p ∧ p < aHi A q)) ∧ aAll (aSwp A p q) < s.2.2
  · rw [if_pos h]
    have h2 := h.2
    exact ⟨Or.inr ⟨hpq, hq, h.1, rfl, by show aAll (aSwp A p q) < aAll A; omega⟩, by show aAll (aSwp A p q) ≤ s.2.2; omega, fun _ => Nat.le_refl _⟩
  · rw [if_neg h]
    refine ⟨hs, Nat.le_refl _, fun hm => Nat.not_lt.mp fun z => h ⟨hm, z⟩⟩
theorem aBr_I {p : Nat} {s : axBS} (hs : bsI A s) : ∀ m, m ≤ aN A → bsI A (aBr A p m s) ∧ (aBr A p m s).2.2 ≤ s.2.2 ∧ ∀ q, p < q → q < m → aMay A p q → (aBr A p m s).2.2 ≤ aAll (aSwp A p q)
  | 0, _ => ⟨hs, Nat.le_refl _, fun q _ h => absurd h (Nat.not_lt_zero q)⟩
  | m + 1, hm => by
    obtain ⟨i1, i2, i3⟩ := aBr_I (p := p) hs m (by omega)
    rw [aBr]
    by_cases e : p < m
    · rw [if_pos e]
      obtain ⟨j1, j2, j3⟩ := aBst_I (p := p) (q := m) i1 e (by omega)
      refine ⟨j1, by omega, fun q h1 h2 h3 => ?_⟩
      by_cases e2 : q = m
      · subst e2; exact j3 h3
      · have := i3 q h1 (by omega) h3; omega
    · rw [if_neg e]
      exact ⟨i1, i2, fun q h1 h2 h3 => i3 q h1 (by omega) h3⟩
theorem aBS_I (A : axAD) : ∀ k, k ≤ aN A → bsI A (aBS A k) ∧ ∀ p q, p < k → p < q → q < aN A → aMay A p q → (aBS A k).2.2 ≤ aAll (aSwp A p q)
  | 0, _ => ⟨Or.inl ⟨rfl, rfl, rfl⟩, fun p q h => absurd h (Nat.not_lt_zero p)⟩
  | k + 1, hk => by
    obtain ⟨i1, i2⟩ := aBS_I A k (by omega)
    rw [aBS]
    obtain ⟨j1, j2, j3⟩ := aBr_I (p := k) i1 (aN A) (Nat.le_refl _)
    refine ⟨j1, fun p q h1 h2 h3 h4 => ?_⟩
    by_cases e : p = k
    · subst e; exact j3 q h2 h3 h4
    · have := i2 p q (by omega) h2 h3 h4; omega
/-! a slug by its number -/
def plc (A : axAD) (k : Nat) : Nat := aFst (fun i => decide (aR A i = k)) (aN A)
def ofF (A : axAD) (k j : Nat) : Int32 := if plc A k < aN A then ofV A (plc A k) j else -1
theorem ofF_sp (hO : aOk A) {k j : Nat} (hk : k < 24) (hj : j < 10) : spOf A (nI k) (nI j) (ofF A k j) := by
  unfold ofF
  by_cases h : plc A k < aN A
  · rw [if_pos h]
    have e : aR A (plc A k) = k := of_decide_eq_true (aFst_yes (fun i => decide (aR A i = k)) (aN A) h)
    exact Or.inr ⟨plc A k, ⟨h, by rw [e]⟩, Or.inl ⟨j, hj, rfl, rfl⟩⟩
  · rw [if_neg h]
    refine Or.inl ⟨fun i hi e => h ?_, rfl⟩
    have hr := hO.r hi
    have e : k = aR A i := (nI_eq (by omega) (by omega)).mp e
    have := aFst_lt (f := fun i => decide (aR A i = k)) hi (decide_eq_true e.symm)
    have : plc A k ≤ i := this
    omega
/-! the tale -/
def cntA (A : axAD) (k : Nat) : Int32 := cntV (A, 0, fun _ => A, fun _ => none, 0, fun _ => 0) k
theorem cntA_is (V : axV) : ∀ k, k < 10 → cntV V k = cntA (vA V) k
  | 0, _ => rfl
  | 1, _ => rfl
  | 2, _ => rfl
  | 3, _ => rfl
  | 4, _ => rfl
  | 5, _ => rfl
  | 6, _ => rfl
  | 7, _ => rfl
  | 8, _ => rfl
  | 9, _ => rfl
  | n + 10, h => absurd h (by omega)
def tlC (A : axAD) : Nat → Int64
  | 0 => 19
  | k + 1 => 31 * tlC A k + (cntA A k).toInt64
def tlO (A : axAD) : Nat → Int64
  | 0 => tlC A 10
  | k + 1 => 31 * tlO A k + (ofF A (k / 10) (k % 10)).toInt64
def tale (A : axAD) : Int64 := tlO A 240
/-- the low bits of a number, as the law takes them -/
theorem lw_lo (x : Int32) : ∃ a, a < 2 ^ 31 ∧ x &&& 2147483647 = nI a := by
  obtain ⟨a, b, c, e, -, -, -, -, rfl⟩ := pc_of x
  refine ⟨(256 * (256 * (256 * e + c) + b) + a) % 2 ^ 31, Nat.mod_lt _ (by decide), ?_⟩
  rw [show (2147483647 : Int32) = nI (2 ^ 31 - 1) from rfl, nx_and, Nat.and_two_pow_sub_one_eq_mod]
theorem nI_rem {a b : Nat} (ha : a < 2 ^ 31) (h0 : 0 < b) (hb : b < 2 ^ 31) : nI a - nI a / nI b * nI b = nI (a % b) := by
  have h1 : a / b * b ≤ a := Nat.div_mul_le_self a b
  rw [nI_div ha h0 hb, pk_mul, pk_sub h1]
  congr 1
  have := Nat.mod_add_div a b
  rw [Nat.mul_comm] at this
  omega
end AX52
end
section
/-! THE LAW: what it reads of an object, and its small methods. -/
section AX53
variable {ro : axRo} {d m : Nat} {h : axH} {V : axV} {x y r : Int32}
theorem XS_o4 {mc : axH} (hx : XS V mc m h) : ∃ f0, h[0]? = some (.inr (.inr (4, f0))) := by
  obtain ⟨B, nx, sf, lf, f, cu, la, ki, fi, se, G, bs, rfl, -⟩ := hx
  exact ⟨_, rfl⟩
theorem XS_ok {mc : axH} (hx : XS V mc m h) : aOk (vA V) := by
  obtain ⟨B, nx, sf, lf, f, cu, la, ki, fi, se, G, bs, -, -, hO, -⟩ := hx
  exact hO
theorem L_of_sp (hx : XS V [] m h) (hS : spOf (vA V) x y r) : axEv ro (d + 6) kX4_of [.ref 0, .int x, .int y] h (some (.int r)) h := by
  obtain ⟨B, nx, sf, lf, f, cu, la, ki, fi, se, G, bs, rfl, hC, hO, hK, hT, hb1, hb2⟩ := hx
  exact x4_of_b hO hC hS
theorem L_of (hx : XS V [] m h) {i : Nat} (hi : i < aN (vA V)) (k : Nat) (hk : k < 10) : axEv ro (d + 6) kX4_of [.ref 0, .int (nI (aR (vA V) i)), .int (nI k)] h (some (.int (ofV (vA V) i k))) h :=
  L_of_sp hx (Or.inr ⟨i, ⟨hi, rfl⟩, Or.inl ⟨k, hk, rfl, rfl⟩⟩)
theorem L_ofN (hx : XS V [] m h) (hn : spNo (vA V) x) : axEv ro (d + 6) kX4_of [.ref 0, .int x, .int y] h (some (.int (-1))) h :=
  L_of_sp hx (Or.inl ⟨hn, rfl⟩)
theorem L_ofF (hx : XS V [] m h) {k j : Nat} (hk : k < 24) (hj : j < 10) : axEv ro (d + 6) kX4_of [.ref 0, .int (nI k), .int (nI j)] h (some (.int (ofF (vA V) k j))) h :=
  L_of_sp hx (ofF_sp (XS_ok hx) hk hj)
theorem L_at_sp (hx : XS V [] m h) (hS : spAt (vA V) x r) : axEv ro (d + 6) kX4_at [.ref 0, .int x] h (some (.int r)) h := by
  obtain ⟨B, nx, sf, lf, f, cu, la, ki, fi, se, G, bs, rfl, hC, hO, hK, hT, hb1, hb2⟩ := hx
  exact x4_at_b hO hC hS
theorem L_at (hx : XS V [] m h) {i : Nat} (hi : i < aN (vA V)) : axEv ro (d + 6) kX4_at [.ref 0, .int (nI i)] h (some (.int (nI (aR (vA V) i)))) h :=
  L_at_sp hx (Or.inr ⟨i, hi, rfl, rfl⟩)
theorem L_atE (hx : XS V [] m h) : axEv ro (d + 6) kX4_at [.ref 0, .int (nI (aN (vA V)))] h (some (.int (-1))) h :=
  L_at_sp hx (Or.inl ⟨Or.inr (Int32.le_refl _), rfl⟩)
theorem L_atB_sp (hx : XS V [] m h) (hS : spAtBeat (vA V) x r) : axEv ro (d + 6) kX4_atBeat [.ref 0, .int x] h (some (.int r)) h := by
  obtain ⟨B, nx, sf, lf, f, cu, la, ki, fi, se, G, bs, rfl, hC, hO, hK, hT, hb1, hb2⟩ := hx
  exact x4_atBeat_b hO hC hS
theorem L_atB (hx : XS V [] m h) {i : Nat} (hi : i < aN (vA V)) : axEv ro (d + 6) kX4_atBeat [.ref 0, .int (nI (aBeg (vA V) i))] h (some (.int (nI (aR (vA V) i)))) h := by
  have hO := XS_ok hx
  have hb := aBeg_le hO (show i ≤ aN (vA V) by omega)
  have hn := hO.n
  exact L_atB_sp hx (Or.inr ⟨aBeg (vA V) i, by omega, rfl, by rw [pu_atB hO hi, if_pos hi]⟩)
theorem L_atBE (hx : XS V [] m h) : axEv ro (d + 6) kX4_atBeat [.ref 0, .int (nI (aBeg (vA V) (aN (vA V))))] h (some (.int (-6))) h := by
  have hO := XS_ok hx
  have hb := aBeg_le hO (Nat.le_refl (aN (vA V)))
  have hn := hO.n
  exact L_atB_sp hx (Or.inr ⟨aBeg (vA V) (aN (vA V)), by omega, rfl, by rw [pu_atE hO, if_neg (Nat.lt_irrefl _)]⟩)
theorem L_ofAct (hx : XS V [] m h) {a : Nat} (ha : a < aActs (vA V)) (k : Nat) (hk : k < 8) : axEv ro (d + 7) kX4_ofAct [.ref 0, .int (nI a), .int (nI k)] h (some (.int (actV (vA V) a k))) h := by
  obtain ⟨B, nx, sf, lf, f, cu, la, ki, fi, se, G, bs, rfl, hC, hO, hK, hT, hb1, hb2⟩ := hx
  exact x4_ofAct_b hO hC (Or.inr ⟨a, ha, rfl, Or.inl ⟨k, hk, rfl, rfl⟩⟩)
theorem L_cnt (hx : XS V [] m h) (k : Nat) (hk : k < 10) : axEv ro (d + 7) kX4_count [.ref 0, .int (nI k)] h (some (.int (cntA (vA V) k))) h := by
  rw [← cntA_is V k hk]
  exact x4_count hx (Or.inr ⟨k, by omega, rfl, rfl⟩)
theorem L_places (hx : XS V [] m h) {i : Nat} (hi : i < aN (vA V)) : axEv ro (d + 6) kX4_places [.ref 0, .int (nI (aR (vA V) i))] h (some (.int (plS (vA V) i (aN (vA V))))) h := by
  obtain ⟨B, nx, sf, lf, f, cu, la, ki, fi, se, G, bs, rfl, hC, hO, hK, hT, hb1, hb2⟩ := hx
  exact x4_places_b hO hC (Or.inr ⟨i, ⟨hi, rfl⟩, rfl⟩)
theorem L_needs (hx : XS V [] m h) {i : Nat} (hi : i < aN (vA V)) : axEv ro (d + 6) kX4_needs [.ref 0, .int (nI (aR (vA V) i))] h (some (.int (aClo (vA V) (aN (vA V)) (aD (vA V) (aR (vA V) i))))) h := by
  obtain ⟨B, nx, sf, lf, f, cu, la, ki, fi, se, G, bs, rfl, hC, hO, hK, hT, hb1, hb2⟩ := hx
  exact x4_needs_b hO hC (Or.inr ⟨i, ⟨hi, rfl⟩, rfl⟩)
theorem L_turned (hx : XS V [] m h) {i : Nat} (hi : i < aN (vA V)) : axEv ro (d + 6) kX4_ifTurned [.ref 0, .int (nI (aR (vA V) i))] h (some (.int (nI (aAll (aFlip (vA V) (aR (vA V) i)))))) h := by
  obtain ⟨B, nx, sf, lf, f, cu, la, ki, fi, se, G, bs, rfl, hC, hO, hK, hT, hb1, hb2⟩ := hx
  exact x4_ifTurned_b hO hC (Or.inr ⟨i, ⟨hi, rfl⟩, rfl⟩)
theorem L_fitted {A' : axAD} (hx : XS V [] m h) (hS : spFit (vA V) x r A') : axEv ro (d + 6) kX4_ifFitted [.ref 0, .int x] h (some (.int r)) h := by
  obtain ⟨B, nx, sf, lf, f, cu, la, ki, fi, se, G, bs, rfl, hC, hO, hK, hT, hb1, hb2⟩ := hx
  exact x4_ifFitted_b hO hC hS
theorem L_best (hx : XS V [] m h) (k : Nat) (hk : k < 3) : ∃ h', axEv ro (d + 7) kX4_bestSwap [.ref 0, .int (nI k)] h (some (.int (bsV (vA V) k))) h' ∧ XS V [] (m + 1) h' :=
  x4_bestSwap hx (Or.inr ⟨k, hk, rfl, rfl⟩)
theorem stp_e {A' : axAD} (h : r < 0) : stp V r A' = V := if_pos h
theorem stp_n {A' : axAD} {n : Nat} (h : n < 2 ^ 31) : stp V (nI n) A' = stpN V A' := if_neg (nI_pos h)
theorem stp_vA {A' : axAD} (h : spR (vA V) r A') : vA (stp V r A') = A' := by
  rcases h with ⟨h1, rfl⟩ | ⟨n, hn, rfl⟩
  · rw [stp_e h1]
  · rw [stp_n hn]; rfl
/-! its small methods -/
theorem L_low {h : axH} (x : Int32) {n : Nat} (h0 : 0 < n) (hn : n < 2 ^ 31) : ∃ j, j < n ∧ axEv ro (d + 1) kL_low [.int x, .int (nI n)] h (some (.int (nI j))) h := by
  obtain ⟨a, ha, e⟩ := lw_lo x
  refine ⟨a % n, Nat.mod_lt _ h0, ?_⟩
  refine ev_in rfl rfl (Nat.le_of_ble_eq_true rfl) rfl ?_
  refine wp_run rfl ?_
  refine wp_irem (v := nI (a % n)) rfl (nI_ne0 h0 hn) (by rw [e]; exact nI_rem ha h0 hn) ?_
  refine wp_run rfl ?_
  exact wp_ret rfl rfl ⟨rfl, rfl⟩
theorem L_cell {h : axH} {L : Nat} {xs : Nat → Int32} (hL : L ≤ 260) {k : Nat} (hk : k < 1000) : ∃ r, axEv (axRoL L xs) (d + 1) kL_cell [.retAddr 0, .int (nI k)] h (some (.int r)) h := by
  by_cases e : k < L
  · refine ⟨xs k, ?_⟩
    refine ev_in rfl rfl (Nat.le_of_ble_eq_true rfl) rfl ?_
    refine wp_run rfl ?_
    refine wp_lenR rfl (by decide) ?_
    refine wp_run rfl ?_
    refine wp_icge rfl (fun hz_ => absurd hz_ (nI_ge (b := L) e (by omega))) (fun _ => ?_)
    refine wp_run rfl ?_
    refine wp_aldR (v := xs k) rfl (by decide) (vp_in_nI (show k < L from e) (show L < 2 ^ 31 by omega)) (by show xs (nI k).toNatClampNeg = xs k; rw [nI_clamp (by omega)]) ?_
    refine wp_run rfl ?_
    exact wp_ret rfl rfl ⟨rfl, rfl⟩
  · refine ⟨834001351 * (nI k + 5) + 782758355, ?_⟩
    refine ev_in rfl rfl (Nat.le_of_ble_eq_true rfl) rfl ?_
    refine wp_run rfl ?_
    refine wp_lenR rfl (by decide) ?_
    refine wp_run rfl ?_
    refine wp_icge rfl (fun _ => ?_) (fun hz_ => absurd (nI_le (a := L) (b := k) (by omega) (by omega)) hz_)
    refine wp_run rfl ?_
    exact wp_ret rfl rfl ⟨rfl, rfl⟩
theorem L_many (hx : XS V [] m h) : axEv ro (d + 7) kL_many [.ref 0] h (some (.int (nI (aN (vA V))))) h := by
  obtain ⟨f0, e0⟩ := XS_o4 hx
  have hO := XS_ok hx
  have hn := hO.n
  have loop : ∀ j i, i + j = aN (vA V) → axW ro (axEv ro (d + 6)) cdL_many 4 [some (.ref 0), some (.int (nI i))] [.int (nI i), .ref 0] h (fun r' h' => r' = some (.int (nI (aN (vA V)))) ∧ h' = h) := by
    intro j
    induction j with
    | zero =>
      intro i hi
      have : i = aN (vA V) := by omega
      subst this
      refine wp_v1 rfl e0 (Nat.le_of_ble_eq_true rfl) (L_atE hx) ?_
      refine wp_run rfl ?_
      refine wp_iflt rfl (fun _ => ?_) (fun hz_ => absurd ((by decide : (-1 : Int32) < 0)) hz_)
      refine wp_run rfl ?_
      exact wp_ret rfl rfl ⟨rfl, rfl⟩
    | succ j ih =>
      intro i hi
      have hr := hO.r (show i < aN (vA V) by omega)
      refine wp_v1 rfl e0 (Nat.le_of_ble_eq_true rfl) (L_at hx (show i < aN (vA V) by omega)) ?_
      refine wp_run rfl ?_
      refine wp_iflt rfl (fun hz_ => absurd hz_ (nI_pos (by omega))) (fun _ => ?_)
      refine wp_run rfl ?_
      rw [nI_1]
      exact ih (i + 1) (by omega)
  refine ev_in rfl rfl (Nat.le_of_ble_eq_true rfl) rfl ?_
  refine wp_run rfl ?_
  exact loop (aN (vA V)) 0 (by omega)
theorem L_tale (hx : XS V [] m h) : axEv ro (d + 8) kL_tale [.ref 0] h (some (.long (tale (vA V)))) h := by
  obtain ⟨f0, e0⟩ := XS_o4 hx
  have loop2 : ∀ j k, k + j = 240 → axW ro (axEv ro (d + 7)) cdL_tale 37 [some (.ref 0), some (.long (tlO (vA V) k)), none, some (.int (nI k))] [.int 240, .int (nI k)] h (fun r' h' => r' = some (.long (tale (vA V))) ∧ h' = h) := by
    intro j
    induction j with
    | zero =>
      intro k hk
      have : k = 240 := by omega
      subst this
      refine wp_icge rfl (fun _ => ?_) (fun hz_ => absurd ((Int32.le_refl _ : (240 : Int32) ≤ nI 240)) hz_)
      refine wp_run rfl ?_
      exact wp_retl rfl ⟨rfl, rfl⟩
    | succ j ih =>
      intro k hk
      refine wp_icge rfl (fun hz_ => absurd hz_ (nI_ge (a := k) (b := 240) (by omega) (by omega))) (fun _ => ?_)
      refine wp_run rfl ?_
      refine wp_idiv (v := nI (k / 10)) rfl (by decide) (nI_div (b := 10) (by omega) (by omega) (by omega)) ?_
      refine wp_run rfl ?_
      refine wp_irem (v := nI (k % 10)) rfl (by decide) (nI_rem (b := 10) (by omega) (by omega) (by omega)) ?_
      refine wp_run rfl ?_
      refine wp_v2 rfl e0 (Nat.le_of_ble_eq_true rfl) (L_ofF (d := d + 1) hx (show k / 10 < 24 by omega) (show k % 10 < 10 by omega)) ?_
      refine wp_run rfl ?_
      rw [nI_1]
      exact ih (k + 1) (by omega)
  have loop1 : ∀ j k, k + j = 10 → axW ro (axEv ro (d + 7)) cdL_tale 9 [some (.ref 0), some (.long (tlC (vA V) k)), none, some (.int (nI k))] [.int 10, .int (nI k)] h (fun r' h' => r' = some (.long (tale (vA V))) ∧ h' = h) := by
    intro j
    induction j with
    | zero =>
      intro k hk
      have : k = 10 := by omega
      subst this
      refine wp_icge rfl (fun _ => ?_) (fun hz_ => absurd ((Int32.le_refl _ : (10 : Int32) ≤ nI 10)) hz_)
      refine wp_run rfl ?_
      exact loop2 240 0 rfl
    | succ j ih =>
      intro k hk
      refine wp_icge rfl (fun hz_ => absurd hz_ (nI_ge (a := k) (b := 10) (by omega) (by omega))) (fun _ => ?_)
      refine wp_run rfl ?_
      refine wp_v1 rfl e0 (Nat.le_of_ble_eq_true rfl) (L_cnt hx k (by omega)) ?_
      refine wp_run rfl ?_
      rw [nI_1]
      exact ih (k + 1) (by omega)
  refine ev_in rfl rfl (Nat.le_of_ble_eq_true rfl) rfl ?_
  refine wp_run rfl ?_
  exact loop1 10 0 rfl
end AX53
end
section
/-! THE LAW: what holds of every board. -/
def fitC (A : axAD) (a : Nat) : Nat := bc (fun a => decide (a < aAct A (aN A) ∧ (aOff A a).natAbs ≤ aSl A)) a
section AX54a
variable {A : axAD} {a : Nat}
theorem hz_off : actV A a 2 - 5000 = zI (aOff A a) := by
  show zI (aOff A a + 5000) - 5000 = zI (aOff A a)
  rw [show (5000 : Int32) = zI 5000 from rfl, zI_sub]
  congr 1; omega
theorem hz_last (ha : a < aActs A) : nI (aSt A a) + actV A a 5 - 1 = nI (aSt A (a + 1) - 1) := by
  obtain ⟨p1, p2, p3, p4, p5⟩ := pu_act ha
  show nI (aSt A a) + nI (aSt A (a + 1) - aSt A a) - 1 = _
  rw [nI_add, nI_p1 (by omega)]
  congr 1; omega
theorem hz_by : zI (aOff A a) = actV A a 0 - actV A a 1 := by
  show zI (aOff A a) = nI (aBeg A (aSt A (a + 1)) - aBeg A (aSt A a)) - nI (aTgt A a)
  rw [← zI_nI, ← zI_nI, zI_sub]; rfl
theorem hz_fit : nI (fitC A a) + actV A a 3 = nI (fitC A (a + 1)) := by
  show nI (fitC A a) + (if a < aAct A (aN A) ∧ (aOff A a).natAbs ≤ aSl A then 1 else 0) = nI (fitC A a + (if decide (a < aAct A (aN A) ∧ (aOff A a).natAbs ≤ aSl A) = true then 1 else 0))
  by_cases h : a < aAct A (aN A) ∧ (aOff A a).natAbs ≤ aSl A
  · rw [if_pos h, if_pos (decide_eq_true h), nI_1]
  · rw [if_neg h, if_neg (fun z => h (of_decide_eq_true z)), Nat.add_zero]
    exact Int32.add_zero _
theorem hz_own : nI (aBeg A (aSt A a)) + actV A a 0 = nI (aBeg A (aSt A (a + 1))) := by
  show nI (aBeg A (aSt A a)) + nI (aBeg A (aSt A (a + 1)) - aBeg A (aSt A a)) = _
  have := aBeg_mono (A := A) (aSt_mono A (show a ≤ a + 1 by omega))
  rw [nI_add]
  congr 1; omega
theorem hz_slugs : nI (aSt A a) + actV A a 5 = nI (aSt A (a + 1)) := by
  show nI (aSt A a) + nI (aSt A (a + 1) - aSt A a) = _
  have := aSt_mono A (show a ≤ a + 1 by omega)
  rw [nI_add]
  congr 1; omega
theorem hz_pos (hO : aOk A) (h : 0 ≤ zI (aOff A a)) : nI (ofs A a) + zI (aOff A a) = nI (ofs A (a + 1)) := by
  have hb := aOff_b hO a
  have h : 0 ≤ aOff A a := (zI_le (a := 0) (by omega) (by omega)).mp h
  rw [ofs_s, ← zI_nI, ← zI_nI, zI_add]
  congr 1; omega
theorem hz_neg (hO : aOk A) (h : ¬ 0 ≤ zI (aOff A a)) : nI (ofs A a) + -zI (aOff A a) = nI (ofs A (a + 1)) := by
  have hb := aOff_b hO a
  have h : ¬ 0 ≤ aOff A a := fun z => h ((zI_le (a := 0) (by omega) (by omega)).mpr z)
  rw [ofs_s, ← zI_nI, ← zI_nI, zI_neg, zI_add]
  congr 1; omega
theorem hz_pg (hO : aOk A) : aBeg A (aN A) ≤ (aBeg A (aN A) + aPg A - 1) / aPg A * aPg A ∧ (aBeg A (aN A) + aPg A - 1) / aPg A * aPg A ≤ aBeg A (aN A) + aPg A - 1 := by
  have h := Nat.div_add_mod (aBeg A (aN A) + aPg A - 1) (aPg A)
  have hp := hO.pg
  have h2 := Nat.mod_lt (aBeg A (aN A) + aPg A - 1) (show 0 < aPg A by omega)
  rw [Nat.mul_comm] at h
  omega
theorem hz_pg1 (hO : aOk A) : ¬ cntA A 3 * cntA A 7 < nI (aBeg A (aN A)) := by
  obtain ⟨h1, h2⟩ := hz_pg hO
  have hb := aBeg_le hO (Nat.le_refl (aN A))
  have hn := hO.n
  have hp := hO.pg
  show ¬ nI ((aBeg A (aN A) + aPg A - 1) / aPg A) * nI (aPg A) < nI (aBeg A (aN A))
  rw [pk_mul]
  exact nI_nlt h1 (by omega)
theorem hz_pg2 (hO : aOk A) : ¬ nI (aBeg A (aN A)) ≤ (cntA A 3 - 1) * cntA A 7 := by
  obtain ⟨h1, h2⟩ := hz_pg hO
  have hb := aBeg_le hO (Nat.le_refl (aN A))
  have hn := hO.n
  have hp := hO.pg
  show ¬ nI (aBeg A (aN A)) ≤ (nI ((aBeg A (aN A) + aPg A - 1) / aPg A) - 1) * nI (aPg A)
  generalize (aBeg A (aN A) + aPg A - 1) / aPg A = P at *
  have e : (nI P - 1) * nI (aPg A) = zI (((P : Int) - 1) * (aPg A : Int)) := by
    rw [← zI_nI, ← zI_nI, show (1 : Int32) = zI 1 from rfl, zI_sub]
    exact (Int32.ofInt_mul _ _).symm
  have e2 : ((P : Int) - 1) * (aPg A : Int) = ((P * aPg A : Nat) : Int) - (aPg A : Int) := by
    rw [Int.sub_mul, Int.one_mul, Int.natCast_mul]
  rw [e, e2, ← zI_nI]
  intro z
  have := (zI_le (by omega) (by omega)).mp z
  omega
end AX54a
section AX54
variable {ro : axRo} {d m : Nat} {h : axH} {V : axV}
set_option maxRecDepth 40000 in
theorem L_h3 (hx : XS V [] m h) (u1 u2 u3 u4 : Option Value) : axW ro (axEv ro (d + 8)) cdL_holds 540 [some (.ref 0), some (.int (nI (aN (vA V)))), some (.int (aSet (vA V) (aN (vA V)))), some (.int (nI (aBeg (vA V) (aN (vA V))))), some (.int (nI (aAct (vA V) (aN (vA V))))), some (.int (nI (ofs (vA V) (aActs (vA V))))), some (.int (nI (fitC (vA V) (aActs (vA V))))), some (.int (nI (aBeg (vA V) (aN (vA V))))), some (.int (nI (aN (vA V)))), some (.int (nI (aActs (vA V)))), some (.int (nI (aActs (vA V)))), u1, u2, u3, u4] [.int 0, .ref 0] h (fun r' h' => r' = some (.int 1) ∧ h' = h) := by
  obtain ⟨f0, e0⟩ := XS_o4 hx
  have hO := XS_ok hx
  have hn := hO.n
  have hac := aActs_le (vA V)
  obtain ⟨ht1, ht2⟩ := pu_turns (A := vA V)
  refine wp_v1 rfl e0 (Nat.le_of_ble_eq_true rfl) (L_cnt (d := d + 1) hx 0 (by decide)) ?_
  refine wp_run rfl ?_
  refine wp_icne rfl (fun hz_ => absurd hz_ ((fun z => z rfl))) (fun _ => ?_)
  refine wp_run rfl ?_
  refine wp_v1 rfl e0 (Nat.le_of_ble_eq_true rfl) (L_cnt (d := d + 1) hx 2 (by decide)) ?_
  refine wp_run rfl ?_
  refine wp_icne rfl (fun hz_ => absurd hz_ ((fun z => z rfl))) (fun _ => ?_)
  refine wp_run rfl ?_
  refine wp_icne rfl (fun hz_ => absurd hz_ ((fun z => z rfl))) (fun _ => ?_)
  refine wp_run rfl ?_
  refine wp_icne rfl (fun hz_ => absurd hz_ ((fun z => z rfl))) (fun _ => ?_)
  refine wp_run rfl ?_
  refine wp_v1 rfl e0 (Nat.le_of_ble_eq_true rfl) (L_cnt (d := d + 1) hx 4 (by decide)) ?_
  refine wp_run rfl ?_
  refine wp_icne rfl (fun hz_ => absurd hz_ (fun z => z (congrArg nI aAll_ofs))) (fun _ => ?_)
  refine wp_run rfl ?_
  refine wp_v1 rfl e0 (Nat.le_of_ble_eq_true rfl) (L_cnt (d := d + 1) hx 5 (by decide)) ?_
  refine wp_run rfl ?_
  refine wp_icne rfl (fun hz_ => absurd hz_ ((fun z => z rfl))) (fun _ => ?_)
  refine wp_run rfl ?_
  refine wp_iflt rfl (fun hz_ => absurd hz_ (by rw [pk_sub ht1]; exact nI_pos (by omega))) (fun _ => ?_)
  refine wp_run rfl ?_
  refine wp_icgt rfl (fun hz_ => absurd hz_ (by rw [pk_sub ht1]; exact nI_nlt (a := 1) (by omega) (by omega))) (fun _ => ?_)
  refine wp_run rfl ?_
  refine wp_v1 rfl e0 (Nat.le_of_ble_eq_true rfl) (L_cnt (d := d + 1) hx 3 (by decide)) ?_
  refine wp_run rfl ?_
  refine wp_v1 rfl e0 (Nat.le_of_ble_eq_true rfl) (L_cnt (d := d + 1) hx 7 (by decide)) ?_
  refine wp_run rfl ?_
  refine wp_iclt rfl (fun hz_ => absurd hz_ (hz_pg1 hO)) (fun _ => ?_)
  refine wp_run rfl ?_
  refine wp_v1 rfl e0 (Nat.le_of_ble_eq_true rfl) (L_cnt (d := d + 1) hx 3 (by decide)) ?_
  refine wp_run rfl ?_
  refine wp_v1 rfl e0 (Nat.le_of_ble_eq_true rfl) (L_cnt (d := d + 1) hx 7 (by decide)) ?_
  refine wp_run rfl ?_
  refine wp_icge rfl (fun hz_ => absurd hz_ (hz_pg2 hO)) (fun _ => ?_)
  refine wp_run rfl ?_
  by_cases h0 : (aN (vA V)) = 0
  · refine wp_ifne rfl (fun hz_ => absurd hz_ (fun z => z (by rw [h0]; rfl))) (fun _ => ?_)
    refine wp_run rfl ?_
    refine wp_v1 rfl e0 (Nat.le_of_ble_eq_true rfl) (L_cnt (d := d + 1) hx 6 (by decide)) ?_
    refine wp_run rfl ?_
    refine wp_icne rfl (fun hz_ => absurd hz_ (fun z => z (aLng_0 h0))) (fun _ => ?_)
    refine wp_run rfl ?_
    refine wp_icne rfl (fun hz_ => absurd hz_ ((fun z => z rfl))) (fun _ => ?_)
    refine wp_run rfl ?_
    refine wp_v1 rfl e0 (Nat.le_of_ble_eq_true rfl) (L_atBE (d := d + 2) hx) ?_
    refine wp_run rfl ?_
    refine wp_icne rfl (fun hz_ => absurd hz_ ((fun z => z rfl))) (fun _ => ?_)
    refine wp_run rfl ?_
    exact wp_ret rfl rfl ⟨rfl, rfl⟩
  · obtain ⟨k, hk, ek, -⟩ := aLng_n hO ((aN (vA V)) - 1) (by omega)
    rw [show (aN (vA V)) - 1 + 1 = (aN (vA V)) by omega] at ek
    refine wp_ifne rfl (fun _ => ?_) (fun hz_ => absurd (nI_ne0 (by omega) (by omega)) hz_)
    refine wp_run rfl ?_
    refine wp_v1 rfl e0 (Nat.le_of_ble_eq_true rfl) (L_cnt (d := d + 1) hx 6 (by decide)) ?_
    refine wp_run rfl ?_
    refine wp_icne rfl (fun _ => ?_) (fun hz_ => absurd (fun z => absurd (show nI k < 0 by rw [← ek, show (aLng (vA V) (aN (vA V))).1 = -6 from z]; decide) (nI_pos (by omega))) hz_)
    refine wp_run rfl ?_
    refine wp_icne rfl (fun hz_ => absurd hz_ ((fun z => z rfl))) (fun _ => ?_)
    refine wp_run rfl ?_
    refine wp_v1 rfl e0 (Nat.le_of_ble_eq_true rfl) (L_atBE (d := d + 2) hx) ?_
    refine wp_run rfl ?_
    refine wp_icne rfl (fun hz_ => absurd hz_ ((fun z => z rfl))) (fun _ => ?_)
    refine wp_run rfl ?_
    exact wp_ret rfl rfl ⟨rfl, rfl⟩
set_option maxRecDepth 40000 in
theorem L_h2 (hx : XS V [] m h) : ∀ (j a : Nat), a + j = (aActs (vA V)) → ∀ u1 u2 u3 u4 : Option Value, axW ro (axEv ro (d + 8)) cdL_holds 344 [some (.ref 0), some (.int (nI (aN (vA V)))), some (.int (aSet (vA V) (aN (vA V)))), some (.int (nI (aBeg (vA V) (aN (vA V))))), some (.int (nI (aAct (vA V) (aN (vA V))))), some (.int (nI (ofs (vA V) a))), some (.int (nI (fitC (vA V) a))), some (.int (nI (aBeg (vA V) (aSt (vA V) a)))), some (.int (nI (aSt (vA V) a))), some (.int (nI (aActs (vA V)))), some (.int (nI a)), u1, u2, u3, u4] [.int (nI (aActs (vA V))), .int (nI a)] h (fun r' h' => r' = some (.int 1) ∧ h' = h) := by
  obtain ⟨f0, e0⟩ := XS_o4 hx
  have hO := XS_ok hx
  have hn := hO.n
  have hac := aActs_le (vA V)
  intro j
  induction j with
  | zero =>
    intro a e u1 u2 u3 u4
    have e : a = (aActs (vA V)) := by omega
    subst e
    refine wp_icge rfl (fun _ => ?_) (fun hz_ => absurd (Int32.le_refl _) hz_)
    refine wp_run rfl ?_
    rw [aSt_all]
    exact L_h3 hx u1 u2 u3 u4
  | succ j ih =>
    intro a e u1 u2 u3 u4
    have ha : a < (aActs (vA V)) := by omega
    obtain ⟨p1, p2, p3, p4, p5⟩ := pu_act ha
    have hi : aSt (vA V) (a + 1) - 1 < (aN (vA V)) := by omega
    -- the sums, and on
    have t3 : ∀ v : Option Value, axW ro (axEv ro (d + 8)) cdL_holds 502 [some (.ref 0), some (.int (nI (aN (vA V)))), some (.int (aSet (vA V) (aN (vA V)))), some (.int (nI (aBeg (vA V) (aN (vA V))))), some (.int (nI (aAct (vA V) (aN (vA V))))), some (.int (nI (ofs (vA V) (a + 1)))), some (.int (nI (fitC (vA V) a))), some (.int (nI (aBeg (vA V) (aSt (vA V) a)))), some (.int (nI (aSt (vA V) a))), some (.int (nI (aActs (vA V)))), some (.int (nI a)), some (.int (zI (aOff (vA V) a))), some (.int (nI (aR (vA V) (aSt (vA V) (a + 1) - 1)))), v, u4] [.int 3, .int (nI a), .ref 0, .int (nI (fitC (vA V) a))] h (fun r' h' => r' = some (.int 1) ∧ h' = h) := by
      intro v
      refine wp_v2 rfl e0 (Nat.le_of_ble_eq_true rfl) (L_ofAct (d := d + 1) hx ha 3 (by decide)) ?_
      refine wp_run rfl ?_
      rw [hz_fit]
      refine wp_v2 rfl e0 (Nat.le_of_ble_eq_true rfl) (L_ofAct (d := d + 1) hx ha 0 (by decide)) ?_
      refine wp_run rfl ?_
      rw [hz_own]
      refine wp_v2 rfl e0 (Nat.le_of_ble_eq_true rfl) (L_ofAct (d := d + 1) hx ha 5 (by decide)) ?_
      refine wp_run rfl ?_
      rw [hz_slugs, nI_1]
      exact ih (a + 1) (by omega) _ _ _ _
    have t2 : ∀ v : Option Value, axW ro (axEv ro (d + 8)) cdL_holds 468 [some (.ref 0), some (.int (nI (aN (vA V)))), some (.int (aSet (vA V) (aN (vA V)))), some (.int (nI (aBeg (vA V) (aN (vA V))))), some (.int (nI (aAct (vA V) (aN (vA V))))), some (.int (nI (ofs (vA V) a))), some (.int (nI (fitC (vA V) a))), some (.int (nI (aBeg (vA V) (aSt (vA V) a)))), some (.int (nI (aSt (vA V) a))), some (.int (nI (aActs (vA V)))), some (.int (nI a)), some (.int (zI (aOff (vA V) a))), some (.int (nI (aR (vA V) (aSt (vA V) (a + 1) - 1)))), v, u4] [.int 8, .int (nI (aR (vA V) (aSt (vA V) (a + 1) - 1))), .ref 0] h (fun r' h' => r' = some (.int 1) ∧ h' = h) := by
      intro v
      refine wp_v2 rfl e0 (Nat.le_of_ble_eq_true rfl) (L_of (d := d + 2) hx hi 8 (by decide)) ?_
      refine wp_run rfl ?_
      refine wp_iceq rfl (fun _ => ?_) (fun hz_ => absurd (congrArg nI p3) hz_)
      refine wp_run rfl ?_
      by_cases hs : 0 ≤ zI (aOff (vA V) a)
      · refine wp_ifge rfl (fun _ => ?_) (fun hz_ => absurd (hs) hz_)
        refine wp_run rfl ?_
        rw [hz_pos hO hs]
        exact t3 v
      · refine wp_ifge rfl (fun hz_ => absurd hz_ (hs)) (fun _ => ?_)
        refine wp_run rfl ?_
        rw [hz_neg hO hs]
        exact t3 v
    have t1 : ∀ o : Int32, (o = 1 ∧ aAct (vA V) (aN (vA V)) ≤ a ∨ o = 0 ∧ ¬ aAct (vA V) (aN (vA V)) ≤ a) → axW ro (axEv ro (d + 8)) cdL_holds 402 [some (.ref 0), some (.int (nI (aN (vA V)))), some (.int (aSet (vA V) (aN (vA V)))), some (.int (nI (aBeg (vA V) (aN (vA V))))), some (.int (nI (aAct (vA V) (aN (vA V))))), some (.int (nI (ofs (vA V) a))), some (.int (nI (fitC (vA V) a))), some (.int (nI (aBeg (vA V) (aSt (vA V) a)))), some (.int (nI (aSt (vA V) a))), some (.int (nI (aActs (vA V)))), some (.int (nI a)), some (.int (zI (aOff (vA V) a))), some (.int (nI (aR (vA V) (aSt (vA V) (a + 1) - 1)))), some (.int o), u4] [.int 0, .int (nI a), .ref 0, .int (zI (aOff (vA V) a))] h (fun r' h' => r' = some (.int 1) ∧ h' = h) := by
      intro o ho
      refine wp_v2 rfl e0 (Nat.le_of_ble_eq_true rfl) (L_ofAct (d := d + 1) hx ha 0 (by decide)) ?_
      refine wp_run rfl ?_
      refine wp_v2 rfl e0 (Nat.le_of_ble_eq_true rfl) (L_ofAct (d := d + 1) hx ha 1 (by decide)) ?_
      refine wp_run rfl ?_
      refine wp_icne rfl (fun hz_ => absurd hz_ (fun z => z hz_by)) (fun _ => ?_)
      refine wp_run rfl ?_
      refine wp_v2 rfl e0 (Nat.le_of_ble_eq_true rfl) (L_ofAct (d := d + 1) hx ha 6 (by decide)) ?_
      refine wp_run rfl ?_
      refine wp_icne rfl (fun hz_ => absurd hz_ ((fun z => z rfl))) (fun _ => ?_)
      refine wp_run rfl ?_
      refine wp_v2 rfl e0 (Nat.le_of_ble_eq_true rfl) (L_of (d := d + 2) hx hi 3 (by decide)) ?_
      refine wp_run rfl ?_
      rcases ho with ⟨rfl, ho⟩ | ⟨rfl, ho⟩
      · refine wp_ifne rfl (fun hz_ => absurd hz_ (fun z => z (if_neg (fun q => absurd (p4.mp q) (by omega))))) (fun _ => ?_)
        refine wp_run rfl ?_
        refine wp_icne rfl (fun hz_ => absurd hz_ ((fun z => z rfl))) (fun _ => ?_)
        refine wp_run rfl ?_
        refine wp_ifeq rfl (fun hz_ => absurd hz_ ((by decide : ¬ (1 : Int32) = 0))) (fun _ => ?_)
        refine wp_run rfl ?_
        refine wp_iclt rfl (fun hz_ => absurd hz_ (by rw [nI_p1 (by omega)]; exact nI_nlt (by have := p5 ho; omega) (by omega))) (fun _ => ?_)
        refine wp_run rfl ?_
        exact t2 _
      · refine wp_ifne rfl (fun _ => ?_) (fun hz_ => absurd (by rw [show ofV (vA V) (aSt (vA V) (a + 1) - 1) 3 = 1 from if_pos (p4.mpr (by omega))]; decide) hz_)
        refine wp_run rfl ?_
        refine wp_icne rfl (fun hz_ => absurd hz_ ((fun z => z rfl))) (fun _ => ?_)
        refine wp_run rfl ?_
        refine wp_ifeq rfl (fun _ => ?_) (fun hz_ => absurd (rfl) hz_)
        refine wp_run rfl ?_
        exact t2 _
    refine wp_icge rfl (fun hz_ => absurd hz_ (nI_ge ha (by omega))) (fun _ => ?_)
    refine wp_run rfl ?_
    refine wp_v2 rfl e0 (Nat.le_of_ble_eq_true rfl) (L_ofAct (d := d + 1) hx ha 2 (by decide)) ?_
    refine wp_run rfl ?_
    rw [hz_off]
    refine wp_v2 rfl e0 (Nat.le_of_ble_eq_true rfl) (L_ofAct (d := d + 1) hx ha 5 (by decide)) ?_
    refine wp_run rfl ?_
    rw [hz_last ha]
    refine wp_v1 rfl e0 (Nat.le_of_ble_eq_true rfl) (L_at (d := d + 2) hx hi) ?_
    refine wp_run rfl ?_
    refine wp_v2 rfl e0 (Nat.le_of_ble_eq_true rfl) (L_ofAct (d := d + 1) hx ha 4 (by decide)) ?_
    refine wp_run rfl ?_
    by_cases ho : aAct (vA V) (aN (vA V)) ≤ a
    · refine wp_icne rfl (fun hz_ => absurd hz_ (fun z => z (if_pos ho))) (fun _ => ?_)
      refine wp_run rfl ?_
      exact t1 1 (Or.inl ⟨rfl, ho⟩)
    · refine wp_icne rfl (fun _ => ?_) (fun hz_ => absurd (by rw [show actV (vA V) a 4 = 0 from if_neg ho]; decide) hz_)
      refine wp_run rfl ?_
      exact t1 0 (Or.inr ⟨rfl, ho⟩)
end AX54
end
section
/-! THE LAW: what holds of every slug of a board. -/
section AX55
variable {ro : axRo} {d m : Nat} {h : axH} {V : axV}
set_option maxRecDepth 40000 in
/-- one slug: all that is told of it holds, and what it needs first is in order -/
theorem L_h1b (hx : XS V [] m h) {k : Nat} (hk : k < (aN (vA V))) (u2 : Option Value) (fin : axW ro (axEv ro (d + 8)) cdL_holds 290 [some (.ref 0), some (.int (nI (aN (vA V)))), some (.int (aSet (vA V) k)), some (.int (nI (aBeg (vA V) k))), some (.int (nI (aAct (vA V) k))), some (.int 0), some (.int 0), some (.int 0), some (.int 0), some (.int (nI k)), some (.int (nI (aR (vA V) k))), u2, some (.int (aClo (vA V) (aN (vA V)) (aD (vA V) (aR (vA V) k)))), some (.int 1), some (.int (nI 24))] [.int 1] h (fun r' h' => r' = some (.int 1) ∧ h' = h)) : ∀ (j q : Nat), q + j = 24 → axW ro (axEv ro (d + 8)) cdL_holds 222 [some (.ref 0), some (.int (nI (aN (vA V)))), some (.int (aSet (vA V) k)), some (.int (nI (aBeg (vA V) k))), some (.int (nI (aAct (vA V) k))), some (.int 0), some (.int 0), some (.int 0), some (.int 0), some (.int (nI k)), some (.int (nI (aR (vA V) k))), u2, some (.int (aClo (vA V) (aN (vA V)) (aD (vA V) (aR (vA V) k)))), some (.int 1), some (.int (nI q))] [.int 24, .int (nI q)] h (fun r' h' => r' = some (.int 1) ∧ h' = h) := by
  obtain ⟨f0, e0⟩ := XS_o4 hx
  have hO := XS_ok hx
  have hn := hO.n
  have hr := hO.r hk
  intro j
  induction j with
  | zero =>
    intro q e
    have e : q = 24 := by omega
    subst e
    refine wp_icge rfl (fun _ => ?_) (fun hz_ => absurd ((Int32.le_refl _ : (24 : Int32) ≤ nI 24)) hz_)
    refine wp_run rfl ?_
    exact fin
  | succ j ih =>
    intro q e
    refine wp_icge rfl (fun hz_ => absurd hz_ (nI_ge (a := q) (b := 24) (by omega) (by omega))) (fun _ => ?_)
    refine wp_run rfl ?_
    refine wp_ifeq rfl (fun hz_ => absurd hz_ ((by decide : ¬ (1 : Int32) = 0))) (fun _ => ?_)
    refine wp_run rfl ?_
    refine wp_v2 rfl e0 (Nat.le_of_ble_eq_true rfl) (L_of (d := d + 2) hx hk 4 (by decide)) ?_
    refine wp_run rfl ?_
    have eb : (ofV (vA V) k 4 >>> (nI q &&& 31)) &&& 1 = if bt (aD (vA V) (aR (vA V) k)) q = true then 1 else 0 := bt_has (by omega)
    by_cases hb : bt (aD (vA V) (aR (vA V) k)) q = true
    · rw [if_pos hb] at eb
      obtain ⟨i, hi, ei⟩ := hO.d hk hb
      have hin : i < (aN (vA V)) := by omega
      have o5 : axEv ro (d + 8) kX4_of [.ref 0, .int (nI q), .int (nI 5)] h (some (.int (aNdr (vA V) q (aN (vA V))))) h := by
        rw [← ei]; exact L_of (d := d + 2) hx hin 5 (by decide)
      have o6 : axEv ro (d + 8) kX4_needs [.ref 0, .int (nI q)] h (some (.int (aClo (vA V) (aN (vA V)) (aD (vA V) q)))) h := by
        rw [← ei]; exact L_needs (d := d + 2) hx hin
      refine wp_ifeq rfl (fun hz_ => absurd hz_ (by rw [eb]; decide)) (fun _ => ?_)
      refine wp_run rfl ?_
      refine wp_v2 rfl e0 (Nat.le_of_ble_eq_true rfl) (o5) ?_
      refine wp_run rfl ?_
      refine wp_icne rfl (fun hz_ => absurd hz_ (fun z => z (by rw [bt_has (by omega), if_pos ((bt_aNdr hO q (aR (vA V) k) _ (Nat.le_refl _)).mpr ⟨k, hk, rfl, hb⟩)]))) (fun _ => ?_)
      refine wp_run rfl ?_
      refine wp_v1 rfl e0 (Nat.le_of_ble_eq_true rfl) (o6) ?_
      refine wp_run rfl ?_
      refine wp_ifne rfl (fun hz_ => absurd hz_ (fun z => z (b_sub (by rw [← ei] at hb ⊢; exact pu_clo3 hO hin hb)))) (fun _ => ?_)
      refine wp_run rfl ?_
      rw [nI_1]
      exact ih (q + 1) (by omega)
    · rw [if_neg hb] at eb
      refine wp_ifeq rfl (fun _ => ?_) (fun hz_ => absurd (eb) hz_)
      refine wp_run rfl ?_
      rw [nI_1]
      exact ih (q + 1) (by omega)
set_option maxRecDepth 40000 in
theorem L_h1 (hx : XS V [] m h) : ∀ (j k : Nat), k + j = (aN (vA V)) → ∀ u1 u2 u3 u4 u5 : Option Value, axW ro (axEv ro (d + 8)) cdL_holds 30 [some (.ref 0), some (.int (nI (aN (vA V)))), some (.int (aSet (vA V) k)), some (.int (nI (aBeg (vA V) k))), some (.int (nI (aAct (vA V) k))), some (.int 0), some (.int 0), some (.int 0), some (.int 0), some (.int (nI k)), u1, u2, u3, u4, u5] [.int (nI (aN (vA V))), .int (nI k)] h (fun r' h' => r' = some (.int 1) ∧ h' = h) := by
  obtain ⟨f0, e0⟩ := XS_o4 hx
  have hO := XS_ok hx
  have hn := hO.n
  intro j
  induction j with
  | zero =>
    intro k e u1 u2 u3 u4 u5
    have e : k = (aN (vA V)) := by omega
    subst e
    refine wp_icge rfl (fun _ => ?_) (fun hz_ => absurd (Int32.le_refl _) hz_)
    refine wp_run rfl ?_
    refine wp_v1 rfl e0 (Nat.le_of_ble_eq_true rfl) (L_cnt (d := d + 1) hx 1 (by decide)) ?_
    refine wp_run rfl ?_
    have key := L_h2 (ro := ro) (d := d) hx (aActs (vA V)) 0 (by omega) u2 u3 u4 u5
    rw [aSt_0] at key
    exact key
  | succ j ih =>
    intro k e u1 u2 u3 u4 u5
    have hk : k < (aN (vA V)) := by omega
    have hr := hO.r hk
    have hb := hO.b hk
    have hc := aCan_lt hO hk
    refine wp_icge rfl (fun hz_ => absurd hz_ (nI_ge hk (by omega))) (fun _ => ?_)
    refine wp_run rfl ?_
    refine wp_v1 rfl e0 (Nat.le_of_ble_eq_true rfl) (L_at (d := d + 2) hx hk) ?_
    refine wp_run rfl ?_
    refine wp_v2 rfl e0 (Nat.le_of_ble_eq_true rfl) (L_of (d := d + 2) hx hk 8 (by decide)) ?_
    refine wp_run rfl ?_
    refine wp_v1 rfl e0 (Nat.le_of_ble_eq_true rfl) (L_needs (d := d + 2) hx hk) ?_
    refine wp_run rfl ?_
    refine wp_ifne rfl (fun hz_ => absurd hz_ (fun z => z (by rw [bt_has (by omega), pu_ahead hO hk]; rfl))) (fun _ => ?_)
    refine wp_run rfl ?_
    refine wp_v2 rfl e0 (Nat.le_of_ble_eq_true rfl) (L_of (d := d + 2) hx hk 0 (by decide)) ?_
    refine wp_run rfl ?_
    refine wp_icne rfl (fun hz_ => absurd hz_ ((fun z => z rfl))) (fun _ => ?_)
    refine wp_run rfl ?_
    refine wp_v2 rfl e0 (Nat.le_of_ble_eq_true rfl) (L_of (d := d + 2) hx hk 2 (by decide)) ?_
    refine wp_run rfl ?_
    refine wp_iclt rfl (fun hz_ => absurd hz_ (nI_nlt (b := 1) hb.1 (by omega))) (fun _ => ?_)
    refine wp_run rfl ?_
    refine wp_v2 rfl e0 (Nat.le_of_ble_eq_true rfl) (L_of (d := d + 2) hx hk 2 (by decide)) ?_
    refine wp_run rfl ?_
    refine wp_v2 rfl e0 (Nat.le_of_ble_eq_true rfl) (L_of (d := d + 2) hx hk 1 (by decide)) ?_
    refine wp_run rfl ?_
    refine wp_icgt rfl (fun hz_ => absurd hz_ (nI_nlt hb.2.1 (by omega))) (fun _ => ?_)
    refine wp_run rfl ?_
    refine wp_v2 rfl e0 (Nat.le_of_ble_eq_true rfl) (L_of (d := d + 2) hx hk 4 (by decide)) ?_
    refine wp_run rfl ?_
    refine wp_ifne rfl (fun hz_ => absurd hz_ (fun z => z (b_sub (pu_need hO hk)))) (fun _ => ?_)
    refine wp_run rfl ?_
    refine wp_v2 rfl e0 (Nat.le_of_ble_eq_true rfl) (L_of (d := d + 2) hx hk 4 (by decide)) ?_
    refine wp_run rfl ?_
    refine wp_ifne rfl (fun hz_ => absurd hz_ (fun z => z (b_sub (pu_clo1 k)))) (fun _ => ?_)
    refine wp_run rfl ?_
    refine wp_ifne rfl (fun hz_ => absurd hz_ (fun z => z (b_sub (pu_clo2 hO hk)))) (fun _ => ?_)
    refine wp_run rfl ?_
    refine wp_v2 rfl e0 (Nat.le_of_ble_eq_true rfl) (L_of (d := d + 2) hx hk 6 (by decide)) ?_
    refine wp_run rfl ?_
    refine wp_icne rfl (fun hz_ => absurd hz_ ((fun z => z rfl))) (fun _ => ?_)
    refine wp_run rfl ?_
    refine wp_v1 rfl e0 (Nat.le_of_ble_eq_true rfl) (L_atB (d := d + 2) hx hk) ?_
    refine wp_run rfl ?_
    refine wp_icne rfl (fun hz_ => absurd hz_ ((fun z => z rfl))) (fun _ => ?_)
    refine wp_run rfl ?_
    refine wp_icne rfl (fun hz_ => absurd hz_ ((fun z => z rfl))) (fun _ => ?_)
    refine wp_run rfl ?_
    refine wp_v2 rfl e0 (Nat.le_of_ble_eq_true rfl) (L_of (d := d + 2) hx hk 9 (by decide)) ?_
    refine wp_run rfl ?_
    refine wp_v2 rfl e0 (Nat.le_of_ble_eq_true rfl) (L_of (d := d + 2) hx hk 2 (by decide)) ?_
    refine wp_run rfl ?_
    refine wp_icge rfl (fun hz_ => absurd hz_ (nI_ge hc (by omega))) (fun _ => ?_)
    refine wp_run rfl ?_
    refine wp_v1 rfl e0 (Nat.le_of_ble_eq_true rfl) (L_places (d := d + 2) hx hk) ?_
    refine wp_run rfl ?_
    refine wp_icne rfl (fun hz_ => absurd hz_ (fun z => z (by rw [pu_place hO hk, if_pos ⟨aLo_le hO hk, aHi_gt hO hk⟩]))) (fun _ => ?_)
    refine wp_run rfl ?_
    refine L_h1b hx hk _ ?_ 24 0 rfl
    refine wp_ifne rfl (fun _ => ?_) (fun hz_ => absurd (by decide) hz_)
    refine wp_run rfl ?_
    refine wp_v2 rfl e0 (Nat.le_of_ble_eq_true rfl) (L_of (d := d + 2) hx hk 2 (by decide)) ?_
    refine wp_run rfl ?_
    refine wp_v2 rfl e0 (Nat.le_of_ble_eq_true rfl) (L_of (d := d + 2) hx hk 3 (by decide)) ?_
    refine wp_run rfl ?_
    rw [show nI (aBeg (vA V) k) + ofV (vA V) k 2 = nI (aBeg (vA V) (k + 1)) from nI_add _ _, show nI (aAct (vA V) k) + ofV (vA V) k 3 = nI (aAct (vA V) (k + 1)) from by
      show nI (aAct (vA V) k) + (if aT (vA V) (aR (vA V) k) = true then 1 else 0) = _
      rw [aAct_s]
      split
      · rw [nI_1]
      · rw [Nat.add_zero]; exact Int32.add_zero _, nI_1]
    exact ih (k + 1) (by omega) _ _ _ _ _
theorem L_holds (hx : XS V [] m h) : axEv ro (d + 9) kL_holds [.ref 0] h (some (.int 1)) h := by
  refine ev_in rfl rfl (Nat.le_of_ble_eq_true rfl) rfl ?_
  refine wp_run rfl ?_
  refine wp_s1 rfl (Nat.le_of_ble_eq_true rfl) (L_many (d := d + 1) hx) ?_
  refine wp_run rfl ?_
  exact L_h1 hx (aN (vA V)) 0 (by omega) none none none none none
end AX55
end
section
/-! THE LAW: no swap helps more than the one that is told. -/
section AX56
variable {ro : axRo} {d m : Nat} {h : axH} {V : axV} {A : axAD}
theorem sb_min (hO : aOk A) {p q : Nat} (hpq : p < q) (hq : q < aN A) (hm : aMay A p q) : (0 ≤ bsV A 2 ∧ ¬ nI (aAll (aSwp A p q)) < bsV A 2) ∨ (¬ 0 ≤ bsV A 2 ∧ ¬ nI (aAll (aSwp A p q)) < nI (aAll A)) := by
  obtain ⟨i1, i2⟩ := aBS_I A (aN A) (Nat.le_refl _)
  have h1 := i2 p q (by omega) hpq hq hm
  have h2 := aSwp_all hO (show p < aN A by omega) hq
  have h3 := bsI_le i1
  have h4 := aAll_lt hO
  unfold bsV
  by_cases hf : (aBS A (aN A)).1 < (aBS A (aN A)).2.1
  · rw [if_pos hf]
    exact Or.inl ⟨nI_pos' (n := (aBS A (aN A)).2.2) (by omega), nI_nlt h1 (by omega)⟩
  · rw [if_neg hf]
    refine Or.inr ⟨by decide, nI_nlt ?_ (by omega)⟩
    rcases i1 with i1 | i1
    · omega
    · exact absurd i1.1 hf
theorem undo_ok {A' : axAD} (hx : XS (stpN V A') [] m h) : ∃ r V2 h2, axEv ro (d + 6) kX4_undo [.ref 0] h (some (.int r)) h2 ∧ ¬ r < 0 ∧ vA V2 = vA V ∧ XS V2 [] (m + 1) h2 := by
  have hK : vK (stpN V A') = min (vK V + 1) 6 := rfl
  obtain ⟨h2, ev2, x2⟩ := x4_undo (ro := ro) (d := d) (mc := []) rfl hx (Or.inr ⟨by omega, rfl, rfl⟩)
  refine ⟨_, _, h2, ev2, ?_, ?_, x2⟩
  · exact nI_pos (by omega)
  · exact (if_pos rfl : (if 0 = 0 then vA V else vH V (0 - 1)) = vA V)
set_option maxRecDepth 40000 in
theorem L_sbI (hO : aOk A) {k : Nat} (hk : k < aN A) : ∀ (j b : Nat), b + j = aN A → k < b → ∀ (V : axV) (m : Nat) (h : axH) (u9 : Option Value), vA V = A → XS V [] m h → ∃ V' h' v9, vA V' = A ∧ XS V' [] (m + 2 * j) h' ∧ ∀ Q : Option Value → axH → Prop, axW ro (axEv ro (d + 8)) cdL_swapsBest 41 [some (.ref 0), some (.int (nI (aAll A))), some (.int (bsV A 0)), some (.int (bsV A 1)), some (.int (bsV A 2)), some (.int (nI (aN A))), some (.int 1), some (.int (nI (k + 1))), some (.int (nI (aN A))), v9] [.int (nI (aN A)), .int (nI (k + 1))] h' Q → axW ro (axEv ro (d + 8)) cdL_swapsBest 59 [some (.ref 0), some (.int (nI (aAll A))), some (.int (bsV A 0)), some (.int (bsV A 1)), some (.int (bsV A 2)), some (.int (nI (aN A))), some (.int 1), some (.int (nI k)), some (.int (nI b)), u9] [.int (nI (aN A)), .int (nI b)] h Q := by
  have hn := hO.n
  intro j
  induction j with
  | zero =>
    intro b e hkb V m h u9 hA hx
    have e : b = aN A := by omega
    subst e
    refine ⟨V, h, u9, hA, XS_more (by omega) hx, fun Q K => ?_⟩
    refine wp_icge rfl (fun _ => ?_) (fun hz_ => absurd (Int32.le_refl _) hz_)
    refine wp_run rfl ?_
    rw [nI_1]
    exact K
  | succ j ih =>
    intro b e hkb V m h u9 hA hx
    subst hA
    have hb : b < aN (vA V) := by omega
    obtain ⟨f0, e0⟩ := XS_o4 hx
    by_cases hm : aMay (vA V) k b
    · obtain ⟨h1, ev1, x1⟩ := x4_swap (ro := ro) (d := d + 2) (mc := []) (x := nI (aR (vA V) k)) (y := nI (aR (vA V) b)) (r := nI (((k : Int) - b).natAbs - 1)) (A' := aSwp (vA V) k b) rfl hx (Or.inr ⟨k, b, ⟨hk, rfl⟩, ⟨hb, rfl⟩, Or.inr (Or.inr ⟨by omega, hm, rfl, rfl⟩)⟩)
      rw [stp_n (by omega)] at x1
      obtain ⟨f1, e1⟩ := XS_o4 x1
      obtain ⟨ru, V2, h2, ev2, hu, hv, x2⟩ := undo_ok (ro := ro) (d := d + 2) x1
      obtain ⟨V', h', v9, q1, q2, q3⟩ := ih (b + 1) (by omega) (by omega) V2 _ h2 (some (.int (nI (((k : Int) - b).natAbs - 1)))) hv x2
      refine ⟨V', h', v9, q1, XS_more (by omega) q2, fun Q K => ?_⟩
      refine wp_icge rfl (fun hz_ => absurd hz_ (nI_ge hb (by omega))) (fun _ => ?_)
      refine wp_run rfl ?_
      refine wp_ifeq rfl (fun hz_ => absurd hz_ ((by decide : ¬ (1 : Int32) = 0))) (fun _ => ?_)
      refine wp_run rfl ?_
      refine wp_v1 rfl e0 (Nat.le_of_ble_eq_true rfl) (L_at (d := d + 2) hx hk) ?_
      refine wp_run rfl ?_
      refine wp_v1 rfl e0 (Nat.le_of_ble_eq_true rfl) (L_at (d := d + 2) hx hb) ?_
      refine wp_run rfl ?_
      refine wp_v2 rfl e0 (Nat.le_of_ble_eq_true rfl) (ev1) ?_
      refine wp_run rfl ?_
      refine wp_iceq rfl (fun hz_ => absurd hz_ (fun z => absurd (show nI (((k : Int) - b).natAbs - 1) < 0 by rw [z]; decide) (nI_pos (by omega)))) (fun _ => ?_)
      refine wp_run rfl ?_
      refine wp_icne rfl (fun hz_ => absurd hz_ (fun z => z (by rw [pk_sub (by omega), nI_p1 (by omega)]; congr 1; omega))) (fun _ => ?_)
      refine wp_run rfl ?_
      refine wp_v1 rfl e1 (Nat.le_of_ble_eq_true rfl) (L_cnt (d := d + 1) x1 4 (by decide)) ?_
      refine wp_run rfl ?_
      rcases sb_min hO hkb hb hm with ⟨s1, s2⟩ | ⟨s1, s2⟩
      · refine wp_ifge rfl (fun _ => ?_) (fun hz_ => absurd (s1) hz_)
        refine wp_run rfl ?_
        refine wp_iclt rfl (fun hz_ => absurd hz_ (s2)) (fun _ => ?_)
        refine wp_run rfl ?_
        refine wp_v0 rfl e1 (Nat.le_of_ble_eq_true rfl) (ev2) ?_
        refine wp_run rfl ?_
        refine wp_iflt rfl (fun hz_ => absurd hz_ (hu)) (fun _ => ?_)
        refine wp_run rfl ?_
        rw [nI_1]
        exact q3 Q K
      · refine wp_ifge rfl (fun hz_ => absurd hz_ (s1)) (fun _ => ?_)
        refine wp_run rfl ?_
        refine wp_iclt rfl (fun hz_ => absurd hz_ (s2)) (fun _ => ?_)
        refine wp_run rfl ?_
        refine wp_v0 rfl e1 (Nat.le_of_ble_eq_true rfl) (ev2) ?_
        refine wp_run rfl ?_
        refine wp_iflt rfl (fun hz_ => absurd hz_ (hu)) (fun _ => ?_)
        refine wp_run rfl ?_
        rw [nI_1]
        exact q3 Q K
    · obtain ⟨h1, ev1, x1⟩ := x4_swap (ro := ro) (d := d + 2) (mc := []) (x := nI (aR (vA V) k)) (y := nI (aR (vA V) b)) (r := -5) (A' := vA V) rfl hx (Or.inr ⟨k, b, ⟨hk, rfl⟩, ⟨hb, rfl⟩, Or.inr (Or.inl ⟨by omega, hm, rfl, rfl⟩)⟩)
      rw [stp_e m5_neg] at x1
      obtain ⟨V', h', v9, q1, q2, q3⟩ := ih (b + 1) (by omega) (by omega) _ _ _ (some (.int (-5))) rfl x1
      refine ⟨V', h', v9, q1, XS_more (by omega) q2, fun Q K => ?_⟩
      refine wp_icge rfl (fun hz_ => absurd hz_ (nI_ge hb (by omega))) (fun _ => ?_)
      refine wp_run rfl ?_
      refine wp_ifeq rfl (fun hz_ => absurd hz_ ((by decide : ¬ (1 : Int32) = 0))) (fun _ => ?_)
      refine wp_run rfl ?_
      refine wp_v1 rfl e0 (Nat.le_of_ble_eq_true rfl) (L_at (d := d + 2) hx hk) ?_
      refine wp_run rfl ?_
      refine wp_v1 rfl e0 (Nat.le_of_ble_eq_true rfl) (L_at (d := d + 2) hx hb) ?_
      refine wp_run rfl ?_
      refine wp_v2 rfl e0 (Nat.le_of_ble_eq_true rfl) (ev1) ?_
      refine wp_run rfl ?_
      refine wp_iceq rfl (fun _ => ?_) (fun hz_ => absurd (rfl) hz_)
      refine wp_run rfl ?_
      rw [nI_1]
      exact q3 Q K
set_option maxRecDepth 40000 in
theorem L_sbO (hO : aOk A) : ∀ (j k : Nat), k + j = aN A → ∀ (V : axV) (m : Nat) (h : axH) (u8 u9 : Option Value), vA V = A → XS V [] m h → ∃ V' h' v8 v9, vA V' = A ∧ XS V' [] (m + 48 * j) h' ∧ ∀ Q : Option Value → axH → Prop, axW ro (axEv ro (d + 8)) cdL_swapsBest 151 [some (.ref 0), some (.int (nI (aAll A))), some (.int (bsV A 0)), some (.int (bsV A 1)), some (.int (bsV A 2)), some (.int (nI (aN A))), some (.int 1), some (.int (nI (aN A))), v8, v9] [.int 1] h' Q → axW ro (axEv ro (d + 8)) cdL_swapsBest 41 [some (.ref 0), some (.int (nI (aAll A))), some (.int (bsV A 0)), some (.int (bsV A 1)), some (.int (bsV A 2)), some (.int (nI (aN A))), some (.int 1), some (.int (nI k)), u8, u9] [.int (nI (aN A)), .int (nI k)] h Q := by
  have hn := hO.n
  intro j
  induction j with
  | zero =>
    intro k e V m h u8 u9 hA hx
    have e : k = aN A := by omega
    subst e
    refine ⟨V, h, u8, u9, hA, XS_more (by omega) hx, fun Q K => ?_⟩
    refine wp_icge rfl (fun _ => ?_) (fun hz_ => absurd (Int32.le_refl _) hz_)
    refine wp_run rfl ?_
    exact K
  | succ j ih =>
    intro k e V m h u8 u9 hA hx
    have hk : k < aN A := by omega
    obtain ⟨V1, h1, v9, q1, q2, q3⟩ := L_sbI (ro := ro) (d := d) hO hk (aN A - (k + 1)) (k + 1) (by omega) (by omega) V m h u9 hA hx
    obtain ⟨V', h', w8, w9, r1, r2, r3⟩ := ih (k + 1) (by omega) V1 _ h1 (some (.int (nI (aN A)))) v9 q1 q2
    refine ⟨V', h', w8, w9, r1, XS_more (by omega) r2, fun Q K => ?_⟩
    refine wp_icge rfl (fun hz_ => absurd hz_ (nI_ge hk (by omega))) (fun _ => ?_)
    refine wp_run rfl ?_
    refine wp_ifeq rfl (fun hz_ => absurd hz_ ((by decide : ¬ (1 : Int32) = 0))) (fun _ => ?_)
    refine wp_run rfl ?_
    rw [nI_1]
    exact q3 Q (r3 Q K)
set_option maxRecDepth 40000 in
theorem L_swapsBest (hx : XS V [] m h) : ∃ V' h', axEv ro (d + 9) kL_swapsBest [.ref 0] h (some (.int 1)) h' ∧ XS V' [] (m + 1200) h' := by
  have hO := XS_ok hx
  have hn := hO.n
  obtain ⟨f0, e0⟩ := XS_o4 hx
  obtain ⟨h1, ev1, x1⟩ := L_best (ro := ro) (d := d + 1) hx 0 (by decide)
  obtain ⟨f1, e1⟩ := XS_o4 x1
  obtain ⟨h2, ev2, x2⟩ := L_best (ro := ro) (d := d + 1) x1 1 (by decide)
  obtain ⟨f2, e2⟩ := XS_o4 x2
  obtain ⟨h3, ev3, x3⟩ := L_best (ro := ro) (d := d + 1) x2 2 (by decide)
  obtain ⟨f3, e3⟩ := XS_o4 x3
  obtain ⟨V4, h4, v8, v9, hA, x4, K4⟩ := L_sbO (ro := ro) (d := d) hO (aN (vA V)) 0 (by omega) V _ h3 none none rfl x3
  obtain ⟨f4, e4⟩ := XS_o4 x4
  have pre : ∀ Q : Option Value → axH → Prop, axW ro (axEv ro (d + 8)) cdL_swapsBest 151 [some (.ref 0), some (.int (nI (aAll (vA V)))), some (.int (bsV (vA V) 0)), some (.int (bsV (vA V) 1)), some (.int (bsV (vA V) 2)), some (.int (nI (aN (vA V)))), some (.int 1), some (.int (nI (aN (vA V)))), v8, v9] [.int 1] h4 Q → axW ro (axEv ro (d + 8)) cdL_swapsBest 0 [some (.ref 0), none, none, none, none, none, none, none, none, none] [] h Q := fun Q K => by
    refine wp_run rfl ?_
    refine wp_v1 rfl e0 (Nat.le_of_ble_eq_true rfl) (L_cnt (d := d + 1) hx 4 (by decide)) ?_
    refine wp_run rfl ?_
    refine wp_v1 rfl e0 (Nat.le_of_ble_eq_true rfl) (ev1) ?_
    refine wp_run rfl ?_
    refine wp_v1 rfl e1 (Nat.le_of_ble_eq_true rfl) (ev2) ?_
    refine wp_run rfl ?_
    refine wp_v1 rfl e2 (Nat.le_of_ble_eq_true rfl) (ev3) ?_
    refine wp_run rfl ?_
    refine wp_s1 rfl (Nat.le_of_ble_eq_true rfl) (L_many (d := d + 1) x3) ?_
    refine wp_run rfl ?_
    exact K4 Q K
  obtain ⟨i1, -⟩ := aBS_I (vA V) (aN (vA V)) (Nat.le_refl _)
  have hll := aAll_lt hO
  by_cases hf : (aBS (vA V) (aN (vA V))).1 < (aBS (vA V) (aN (vA V))).2.1
  · have b0 : bsV (vA V) 0 = nI (aR (vA V) (aBS (vA V) (aN (vA V))).1) := if_pos hf
    have b1 : bsV (vA V) 1 = nI (aR (vA V) (aBS (vA V) (aN (vA V))).2.1) := if_pos hf
    have b2 : bsV (vA V) 2 = nI (aBS (vA V) (aN (vA V))).2.2 := if_pos hf
    rw [b0, b1, b2] at pre
    generalize aBS (vA V) (aN (vA V)) = s at *
    rcases i1 with i1 | ⟨-, c2, c3, c4, c5⟩
    · exact absurd hf (by omega)
    have hp : s.1 < aN (vA V) := by omega
    have hr := hO.r hp
    have o1 : axEv ro (d + 8) kX4_of [.ref 0, .int (nI (aR (vA V) s.1)), .int (nI 0)] h4 (some (.int (nI s.1))) h4 := by
      rw [← hA] at hp ⊢; exact L_of (d := d + 2) x4 hp 0 (by decide)
    have o2 : axEv ro (d + 8) kX4_of [.ref 0, .int (nI (aR (vA V) s.2.1)), .int (nI 0)] h4 (some (.int (nI s.2.1))) h4 := by
      rw [← hA] at c2 ⊢; exact L_of (d := d + 2) x4 c2 0 (by decide)
    have o3 : spSwap (vA V4) (nI (aR (vA V) s.1)) (nI (aR (vA V) s.2.1)) (nI (((s.1 : Int) - s.2.1).natAbs - 1)) (aSwp (vA V) s.1 s.2.1) := by
      rw [hA]; exact Or.inr ⟨s.1, s.2.1, ⟨hp, rfl⟩, ⟨c2, rfl⟩, Or.inr (Or.inr ⟨by omega, c3, rfl, rfl⟩)⟩
    obtain ⟨h5, ev5, x5⟩ := x4_swap (ro := ro) (d := d + 2) (mc := []) rfl x4 o3
    rw [stp_n (by omega)] at x5
    obtain ⟨f5, e5⟩ := XS_o4 x5
    refine ⟨_, h5, ?_, XS_more (by omega) x5⟩
    refine ev_in rfl rfl (Nat.le_of_ble_eq_true rfl) rfl ?_
    refine pre _ ?_
    refine wp_ifeq rfl (fun hz_ => absurd hz_ ((by decide : ¬ (1 : Int32) = 0))) (fun _ => ?_)
    refine wp_run rfl ?_
    refine wp_ifge rfl (fun _ => ?_) (fun hz_ => absurd (nI_pos' (by omega)) hz_)
    refine wp_run rfl ?_
    refine wp_icge rfl (fun hz_ => absurd hz_ (nI_ge c5 (by omega))) (fun _ => ?_)
    refine wp_run rfl ?_
    refine wp_v2 rfl e4 (Nat.le_of_ble_eq_true rfl) (o1) ?_
    refine wp_run rfl ?_
    refine wp_v2 rfl e4 (Nat.le_of_ble_eq_true rfl) (o2) ?_
    refine wp_run rfl ?_
    refine wp_icge rfl (fun hz_ => absurd hz_ (nI_ge hf (by omega))) (fun _ => ?_)
    refine wp_run rfl ?_
    refine wp_v2 rfl e4 (Nat.le_of_ble_eq_true rfl) (ev5) ?_
    refine wp_run rfl ?_
    refine wp_iflt rfl (fun hz_ => absurd hz_ (nI_pos (by omega))) (fun _ => ?_)
    refine wp_run rfl ?_
    refine wp_v1 rfl e5 (Nat.le_of_ble_eq_true rfl) (L_cnt (d := d + 1) x5 4 (by decide)) ?_
    refine wp_run rfl ?_
    refine wp_icne rfl (fun hz_ => absurd hz_ (fun z => z (congrArg nI c4.symm))) (fun _ => ?_)
    refine wp_run rfl ?_
    exact wp_ret rfl rfl ⟨rfl, rfl⟩
  · have b0 : bsV (vA V) 0 = -6 := if_neg hf
    have b1 : bsV (vA V) 1 = -6 := if_neg hf
    have b2 : bsV (vA V) 2 = -6 := if_neg hf
    rw [b0, b1, b2] at pre
    refine ⟨V4, h4, ?_, XS_more (by omega) x4⟩
    refine ev_in rfl rfl (Nat.le_of_ble_eq_true rfl) rfl ?_
    refine pre _ ?_
    refine wp_ifeq rfl (fun hz_ => absurd hz_ ((by decide : ¬ (1 : Int32) = 0))) (fun _ => ?_)
    refine wp_run rfl ?_
    refine wp_ifge rfl (fun hz_ => absurd hz_ ((by decide : ¬ (0 : Int32) ≤ -6))) (fun _ => ?_)
    refine wp_run rfl ?_
    refine wp_ifeq rfl (fun hz_ => absurd hz_ ((by decide : ¬ (1 : Int32) = 0))) (fun _ => ?_)
    refine wp_run rfl ?_
    refine wp_icne rfl (fun hz_ => absurd hz_ (fun z => z rfl)) (fun _ => ?_)
    refine wp_run rfl ?_
    refine wp_icne rfl (fun hz_ => absurd hz_ (fun z => z rfl)) (fun _ => ?_)
    refine wp_run rfl ?_
    refine wp_icne rfl (fun hz_ => absurd hz_ (fun z => z rfl)) (fun _ => ?_)
    refine wp_run rfl ?_
    exact wp_ret rfl rfl ⟨rfl, rfl⟩
end AX56
end
section
/-! THE LAW: slugs that are moved there and back, acts that are fitted. -/
section AX57
variable {ro : axRo} {d m : Nat} {h : axH} {V : axV}
theorem L_moves (hx : XS V [] m h) {p q : Nat} (hp : p < aN (vA V)) (hq : q < aN (vA V)) : ∃ V' h', axEv ro (d + 9) kL_moves [.ref 0, .int (nI (aR (vA V) p)), .int (nI q)] h (some (.int 1)) h' ∧ XS V' [] (m + 1200) h' := by
  have hO := XS_ok hx
  have hn := hO.n
  obtain ⟨f0, e0⟩ := XS_o4 hx
  by_cases hm : aLo (vA V) p ≤ q ∧ q < aHi (vA V) p
  · have ep : (plS (vA V) p (aN (vA V)) >>> (nI q &&& 31)) &&& 1 = 1 := by rw [pu_place hO hq, if_pos hm]
    obtain ⟨h1, ev1, x1⟩ := x4_move (ro := ro) (d := d + 2) (mc := []) (x := nI (aR (vA V) p)) (y := nI q) (r := nI p) (A' := aMove (vA V) p q) rfl hx (Or.inr ⟨p, q, ⟨hp, rfl⟩, hq, rfl, Or.inr ⟨hm, rfl, rfl⟩⟩)
    rw [stp_n (by omega)] at x1
    obtain ⟨f1, e1⟩ := XS_o4 x1
    have o1 : axEv ro (d + 8) kX4_of [.ref 0, .int (nI (aR (vA V) p)), .int (nI 0)] h1 (some (.int (nI q))) h1 := by
      have := L_of (ro := ro) (d := d + 2) x1 (i := q) hq 0 (by decide)
      rw [show aR (vA (stpN V (aMove (vA V) p q))) q = aR (vA V) p from pu_mv_at _ _ _] at this
      exact this
    by_cases hev : q % 2 = 0
    · refine ⟨_, h1, ?_, XS_more (by omega) x1⟩
      refine ev_in rfl rfl (Nat.le_of_ble_eq_true rfl) rfl ?_
      refine wp_run rfl ?_
      refine wp_s1 rfl (Nat.le_of_ble_eq_true rfl) (L_tale (d := d) hx) ?_
      refine wp_run rfl ?_
      refine wp_v2 rfl e0 (Nat.le_of_ble_eq_true rfl) (L_of (d := d + 2) hx hp 0 (by decide)) ?_
      refine wp_run rfl ?_
      refine wp_v1 rfl e0 (Nat.le_of_ble_eq_true rfl) (L_places (d := d + 2) hx hp) ?_
      refine wp_run rfl ?_
      refine wp_v2 rfl e0 (Nat.le_of_ble_eq_true rfl) (ev1) ?_
      refine wp_run rfl ?_
      refine wp_ifne rfl (fun _ => ?_) (fun hz_ => absurd (by rw [ep]; decide) hz_)
      refine wp_run rfl ?_
      refine wp_icne rfl (fun hz_ => absurd hz_ ((fun z => z rfl))) (fun _ => ?_)
      refine wp_run rfl ?_
      refine wp_v2 rfl e1 (Nat.le_of_ble_eq_true rfl) (o1) ?_
      refine wp_run rfl ?_
      refine wp_icne rfl (fun hz_ => absurd hz_ ((fun z => z rfl))) (fun _ => ?_)
      refine wp_run rfl ?_
      refine wp_irem (v := nI (q % 2)) rfl (by decide) (nI_rem (b := 2) (by omega) (by omega) (by omega)) ?_
      refine wp_run rfl ?_
      refine wp_ifeq rfl (fun _ => ?_) (fun hz_ => absurd (by rw [hev]; rfl) hz_)
      refine wp_run rfl ?_
      exact wp_ret rfl rfl ⟨rfl, rfl⟩
    · obtain ⟨h2, ev2, x2⟩ := x4_move (ro := ro) (d := d + 2) (mc := []) (x := nI (aR (vA V) p)) (y := nI p) (r := nI q) (A' := vA V) rfl x1 (Or.inr ⟨q, p, ⟨hq, congrArg nI (pu_mv_at _ _ _).symm⟩, hp, rfl, Or.inr ⟨pu_mv_may hO hp hq hm, rfl, (pu_mv_back _ _ _).symm⟩⟩)
      rw [stp_n (by omega)] at x2
      refine ⟨_, h2, ?_, XS_more (by omega) x2⟩
      refine ev_in rfl rfl (Nat.le_of_ble_eq_true rfl) rfl ?_
      refine wp_run rfl ?_
      refine wp_s1 rfl (Nat.le_of_ble_eq_true rfl) (L_tale (d := d) hx) ?_
      refine wp_run rfl ?_
      refine wp_v2 rfl e0 (Nat.le_of_ble_eq_true rfl) (L_of (d := d + 2) hx hp 0 (by decide)) ?_
      refine wp_run rfl ?_
      refine wp_v1 rfl e0 (Nat.le_of_ble_eq_true rfl) (L_places (d := d + 2) hx hp) ?_
      refine wp_run rfl ?_
      refine wp_v2 rfl e0 (Nat.le_of_ble_eq_true rfl) (ev1) ?_
      refine wp_run rfl ?_
      refine wp_ifne rfl (fun _ => ?_) (fun hz_ => absurd (by rw [ep]; decide) hz_)
      refine wp_run rfl ?_
      refine wp_icne rfl (fun hz_ => absurd hz_ ((fun z => z rfl))) (fun _ => ?_)
      refine wp_run rfl ?_
      refine wp_v2 rfl e1 (Nat.le_of_ble_eq_true rfl) (o1) ?_
      refine wp_run rfl ?_
      refine wp_icne rfl (fun hz_ => absurd hz_ ((fun z => z rfl))) (fun _ => ?_)
      refine wp_run rfl ?_
      refine wp_irem (v := nI (q % 2)) rfl (by decide) (nI_rem (b := 2) (by omega) (by omega) (by omega)) ?_
      refine wp_run rfl ?_
      refine wp_ifeq rfl (fun hz_ => absurd hz_ (nI_ne0 (by omega) (by omega))) (fun _ => ?_)
      refine wp_run rfl ?_
      refine wp_v2 rfl e1 (Nat.le_of_ble_eq_true rfl) (ev2) ?_
      refine wp_run rfl ?_
      refine wp_icne rfl (fun hz_ => absurd hz_ ((fun z => z rfl))) (fun _ => ?_)
      refine wp_run rfl ?_
      refine wp_s1 rfl (Nat.le_of_ble_eq_true rfl) (L_tale (d := d) x2) ?_
      refine wp_run rfl ?_
      refine wp_ifne rfl (fun hz_ => absurd hz_ ((fun z => z ((lg_cmp_eq _ _).mpr rfl)))) (fun _ => ?_)
      refine wp_run rfl ?_
      exact wp_ret rfl rfl ⟨rfl, rfl⟩
  · have ep : (plS (vA V) p (aN (vA V)) >>> (nI q &&& 31)) &&& 1 = 0 := by rw [pu_place hO hq, if_neg hm]
    obtain ⟨h1, ev1, x1⟩ := x4_move (ro := ro) (d := d + 2) (mc := []) (x := nI (aR (vA V) p)) (y := nI q) (r := -5) (A' := vA V) rfl hx (Or.inr ⟨p, q, ⟨hp, rfl⟩, hq, rfl, Or.inl ⟨hm, rfl, rfl⟩⟩)
    rw [stp_e m5_neg] at x1
    refine ⟨_, h1, ?_, XS_more (by omega) x1⟩
    refine ev_in rfl rfl (Nat.le_of_ble_eq_true rfl) rfl ?_
    refine wp_run rfl ?_
    refine wp_s1 rfl (Nat.le_of_ble_eq_true rfl) (L_tale (d := d) hx) ?_
    refine wp_run rfl ?_
    refine wp_v2 rfl e0 (Nat.le_of_ble_eq_true rfl) (L_of (d := d + 2) hx hp 0 (by decide)) ?_
    refine wp_run rfl ?_
    refine wp_v1 rfl e0 (Nat.le_of_ble_eq_true rfl) (L_places (d := d + 2) hx hp) ?_
    refine wp_run rfl ?_
    refine wp_v2 rfl e0 (Nat.le_of_ble_eq_true rfl) (ev1) ?_
    refine wp_run rfl ?_
    refine wp_ifne rfl (fun hz_ => absurd hz_ (fun z => z ep)) (fun _ => ?_)
    refine wp_run rfl ?_
    refine wp_icne rfl (fun hz_ => absurd hz_ ((fun z => z rfl))) (fun _ => ?_)
    refine wp_run rfl ?_
    refine wp_s1 rfl (Nat.le_of_ble_eq_true rfl) (L_tale (d := d) x1) ?_
    refine wp_run rfl ?_
    refine wp_ifne rfl (fun hz_ => absurd hz_ ((fun z => z ((lg_cmp_eq _ _).mpr rfl)))) (fun _ => ?_)
    refine wp_run rfl ?_
    exact wp_ret rfl rfl ⟨rfl, rfl⟩
theorem L_fits (hx : XS V [] m h) {a : Nat} (ha4 : a < 4) : ∃ V' h', axEv ro (d + 9) kL_fits [.ref 0, .int (nI a)] h (some (.int 1)) h' ∧ XS V' [] (m + 1200) h' := by
  have hO := XS_ok hx
  have hn := hO.n
  have hac := aActs_le (vA V)
  obtain ⟨f0, e0⟩ := XS_o4 hx
  by_cases ha : a < aActs (vA V)
  · by_cases hf : (aOff (vA V) a).toNat - aCut (vA V) a ≤ aSl (vA V)
    · have hS : spFit (vA V) (nI a) (nI (aCut (vA V) a)) (aFit (vA V) a) := Or.inr ⟨a, ha, rfl, Or.inr ⟨hf, rfl, rfl⟩⟩
      have hcl : aCut (vA V) a ≤ (aOff (vA V) a).toNat := Nat.min_le_left _ _
      have hob := aOff_b hO a
      have htg := aTgt_le hO a
      have hsl := hO.sl
      have hbg := aBeg_le hO (Nat.le_refl (aN (vA V)))
      obtain ⟨f, ef, s1, s2, s3⟩ := pu_fit hO ha
      have hm := aBeg_mono (A := vA V) (aSt_mono (vA V) (show a ≤ a + 1 by omega))
      have hoff : aOff (vA V) a = ((aBeg (vA V) (aSt (vA V) (a + 1)) - aBeg (vA V) (aSt (vA V) a) : Nat) : Int) - (aTgt (vA V) a : Int) := rfl
      obtain ⟨h1, ev1, x1⟩ := x4_fit (ro := ro) (d := d + 2) (mc := []) rfl hx hS
      rw [stp_n (by omega), ef] at x1
      obtain ⟨f1, e1⟩ := XS_o4 x1
      have ha1 : a < aActs (vA (stpN V (aBf (vA V) f))) := ha
      have v0 : actV (vA (stpN V (aBf (vA V) f))) a 0 = nI (aBeg (vA V) (aSt (vA V) (a + 1)) - aCut (vA V) a - aBeg (vA V) (aSt (vA V) a)) := by
        show nI (aBeg (aBf (vA V) f) (aSt (vA V) (a + 1)) - aBeg (aBf (vA V) f) (aSt (vA V) a)) = _
        congr 1; omega
      have hoff2 : aOff (aBf (vA V) f) a = aOff (vA V) a - (aCut (vA V) a : Int) := by
        show ((aBeg (aBf (vA V) f) (aSt (vA V) (a + 1)) - aBeg (aBf (vA V) f) (aSt (vA V) a) : Nat) : Int) - (aTgt (vA V) a : Int) = _
        omega
      have hS2 : spFit (vA (stpN V (aBf (vA V) f))) (nI a) (nI (aCut (aBf (vA V) f) a)) (aFit (aBf (vA V) f) a) := Or.inr ⟨a, ha1, rfl, Or.inr ⟨by show (aOff (aBf (vA V) f) a).toNat - aCut (aBf (vA V) f) a ≤ aSl (vA V); rw [hoff2]; omega, rfl, rfl⟩⟩
      have hcl2 : aCut (aBf (vA V) f) a ≤ (aOff (aBf (vA V) f) a).toNat := Nat.min_le_left _ _
      have c1 : ¬ nI (aTgt (vA V) a) + nI (aSl (vA V)) < actV (vA (stpN V (aBf (vA V) f))) a 0 := by
        rw [v0, nI_add]; exact nI_nlt (by omega) (by omega)
      refine ⟨_, h1, ?_, XS_more (by omega) x1⟩
      refine ev_in rfl rfl (Nat.le_of_ble_eq_true rfl) rfl ?_
      refine wp_run rfl ?_
      refine wp_s1 rfl (Nat.le_of_ble_eq_true rfl) (L_tale (d := d) hx) ?_
      refine wp_run rfl ?_
      refine wp_v1 rfl e0 (Nat.le_of_ble_eq_true rfl) (L_fitted (d := d + 2) hx hS) ?_
      refine wp_run rfl ?_
      refine wp_v1 rfl e0 (Nat.le_of_ble_eq_true rfl) (L_cnt (d := d + 1) hx 2 (by decide)) ?_
      refine wp_run rfl ?_
      refine wp_v1 rfl e0 (Nat.le_of_ble_eq_true rfl) (ev1) ?_
      refine wp_run rfl ?_
      refine wp_ifge rfl (fun _ => ?_) (fun hz_ => absurd (nI_pos' (by omega)) hz_)
      refine wp_run rfl ?_
      refine wp_icne rfl (fun hz_ => absurd hz_ ((fun z => z rfl))) (fun _ => ?_)
      refine wp_run rfl ?_
      refine wp_v1 rfl e1 (Nat.le_of_ble_eq_true rfl) (L_cnt (d := d + 1) x1 2 (by decide)) ?_
      refine wp_run rfl ?_
      refine wp_icne rfl (fun hz_ => absurd hz_ (fun z => z (show nI (aBeg (aBf (vA V) f) (aN (vA V))) = nI (aBeg (vA V) (aN (vA V))) - nI (aCut (vA V) a) by rw [pk_sub (by omega)]; congr 1; omega))) (fun _ => ?_)
      refine wp_run rfl ?_
      refine wp_v2 rfl e1 (Nat.le_of_ble_eq_true rfl) (L_ofAct (d := d + 1) x1 ha1 0 (by decide)) ?_
      refine wp_run rfl ?_
      refine wp_v2 rfl e1 (Nat.le_of_ble_eq_true rfl) (L_ofAct (d := d + 1) x1 ha1 1 (by decide)) ?_
      refine wp_run rfl ?_
      refine wp_v1 rfl e1 (Nat.le_of_ble_eq_true rfl) (L_cnt (d := d + 1) x1 8 (by decide)) ?_
      refine wp_run rfl ?_
      refine wp_icgt rfl (fun hz_ => absurd hz_ (c1)) (fun _ => ?_)
      refine wp_run rfl ?_
      by_cases hc0 : aCut (vA V) a = 0
      · refine wp_ifeq rfl (fun _ => ?_) (fun hz_ => absurd (by rw [hc0]; rfl) hz_)
        refine wp_run rfl ?_
        refine wp_v1 rfl e1 (Nat.le_of_ble_eq_true rfl) (L_fitted (d := d + 2) x1 hS2) ?_
        refine wp_run rfl ?_
        refine wp_iflt rfl (fun hz_ => absurd hz_ (nI_pos (by omega))) (fun _ => ?_)
        refine wp_run rfl ?_
        exact wp_ret rfl rfl ⟨rfl, rfl⟩
      · refine wp_ifeq rfl (fun hz_ => absurd hz_ (nI_ne0 (by omega) (by omega))) (fun _ => ?_)
        refine wp_run rfl ?_
        refine wp_v2 rfl e1 (Nat.le_of_ble_eq_true rfl) (L_ofAct (d := d + 1) x1 ha1 0 (by decide)) ?_
        refine wp_run rfl ?_
        refine wp_v2 rfl e1 (Nat.le_of_ble_eq_true rfl) (L_ofAct (d := d + 1) x1 ha1 1 (by decide)) ?_
        refine wp_run rfl ?_
        refine wp_iclt rfl (fun hz_ => absurd hz_ (by rw [v0]; exact nI_nlt (b := aTgt (vA V) a) (by omega) (by omega))) (fun _ => ?_)
        refine wp_run rfl ?_
        refine wp_v1 rfl e1 (Nat.le_of_ble_eq_true rfl) (L_fitted (d := d + 2) x1 hS2) ?_
        refine wp_run rfl ?_
        refine wp_iflt rfl (fun hz_ => absurd hz_ (nI_pos (by omega))) (fun _ => ?_)
        refine wp_run rfl ?_
        exact wp_ret rfl rfl ⟨rfl, rfl⟩
    · have hS : spFit (vA V) (nI a) (-5) (vA V) := Or.inr ⟨a, ha, rfl, Or.inl ⟨hf, rfl, rfl⟩⟩
      obtain ⟨h1, ev1, x1⟩ := x4_fit (ro := ro) (d := d + 2) (mc := []) rfl hx hS
      rw [stp_e m5_neg] at x1
      obtain ⟨f1, e1⟩ := XS_o4 x1
      refine ⟨_, h1, ?_, XS_more (by omega) x1⟩
      refine ev_in rfl rfl (Nat.le_of_ble_eq_true rfl) rfl ?_
      refine wp_run rfl ?_
      refine wp_s1 rfl (Nat.le_of_ble_eq_true rfl) (L_tale (d := d) hx) ?_
      refine wp_run rfl ?_
      refine wp_v1 rfl e0 (Nat.le_of_ble_eq_true rfl) (L_fitted (d := d + 2) hx hS) ?_
      refine wp_run rfl ?_
      refine wp_v1 rfl e0 (Nat.le_of_ble_eq_true rfl) (L_cnt (d := d + 1) hx 2 (by decide)) ?_
      refine wp_run rfl ?_
      refine wp_v1 rfl e0 (Nat.le_of_ble_eq_true rfl) (ev1) ?_
      refine wp_run rfl ?_
      refine wp_ifge rfl (fun hz_ => absurd hz_ ((by decide : ¬ (0 : Int32) ≤ -5))) (fun _ => ?_)
      refine wp_run rfl ?_
      refine wp_icne rfl (fun hz_ => absurd hz_ ((fun z => z rfl))) (fun _ => ?_)
      refine wp_run rfl ?_
      refine wp_s1 rfl (Nat.le_of_ble_eq_true rfl) (L_tale (d := d) x1) ?_
      refine wp_run rfl ?_
      refine wp_ifne rfl (fun hz_ => absurd hz_ ((fun z => z ((lg_cmp_eq _ _).mpr rfl)))) (fun _ => ?_)
      refine wp_run rfl ?_
      refine wp_icne rfl (fun _ => ?_) (fun hz_ => absurd ((by decide : ¬ (-5 : Int32) = -1)) hz_)
      refine wp_run rfl ?_
      refine wp_v1 rfl e1 (Nat.le_of_ble_eq_true rfl) (L_cnt (d := d + 1) x1 1 (by decide)) ?_
      refine wp_run rfl ?_
      refine wp_iclt rfl (fun _ => ?_) (fun hz_ => absurd (nI_lt ha (by omega)) hz_)
      refine wp_run rfl ?_
      refine wp_icne rfl (fun hz_ => absurd hz_ ((fun z => z rfl))) (fun _ => ?_)
      refine wp_run rfl ?_
      exact wp_ret rfl rfl ⟨rfl, rfl⟩
  · have hS : spFit (vA V) (nI a) (-1) (vA V) := Or.inl ⟨Or.inr (nI_le (by omega) (by omega)), rfl, rfl⟩
    obtain ⟨h1, ev1, x1⟩ := x4_fit (ro := ro) (d := d + 2) (mc := []) rfl hx hS
    rw [stp_e m1_neg] at x1
    obtain ⟨f1, e1⟩ := XS_o4 x1
    refine ⟨_, h1, ?_, XS_more (by omega) x1⟩
    refine ev_in rfl rfl (Nat.le_of_ble_eq_true rfl) rfl ?_
    refine wp_run rfl ?_
    refine wp_s1 rfl (Nat.le_of_ble_eq_true rfl) (L_tale (d := d) hx) ?_
    refine wp_run rfl ?_
    refine wp_v1 rfl e0 (Nat.le_of_ble_eq_true rfl) (L_fitted (d := d + 2) hx hS) ?_
    refine wp_run rfl ?_
    refine wp_v1 rfl e0 (Nat.le_of_ble_eq_true rfl) (L_cnt (d := d + 1) hx 2 (by decide)) ?_
    refine wp_run rfl ?_
    refine wp_v1 rfl e0 (Nat.le_of_ble_eq_true rfl) (ev1) ?_
    refine wp_run rfl ?_
    refine wp_ifge rfl (fun hz_ => absurd hz_ ((by decide : ¬ (0 : Int32) ≤ -1))) (fun _ => ?_)
    refine wp_run rfl ?_
    refine wp_icne rfl (fun hz_ => absurd hz_ ((fun z => z rfl))) (fun _ => ?_)
    refine wp_run rfl ?_
    refine wp_s1 rfl (Nat.le_of_ble_eq_true rfl) (L_tale (d := d) x1) ?_
    refine wp_run rfl ?_
    refine wp_ifne rfl (fun hz_ => absurd hz_ ((fun z => z ((lg_cmp_eq _ _).mpr rfl)))) (fun _ => ?_)
    refine wp_run rfl ?_
    refine wp_icne rfl (fun hz_ => absurd hz_ ((fun z => z rfl))) (fun _ => ?_)
    refine wp_run rfl ?_
    refine wp_v1 rfl e1 (Nat.le_of_ble_eq_true rfl) (L_cnt (d := d + 1) x1 1 (by decide)) ?_
    refine wp_run rfl ?_
    refine wp_iclt rfl (fun hz_ => absurd hz_ (nI_nlt (show aActs (vA V) ≤ a by omega) (by omega))) (fun _ => ?_)
    refine wp_run rfl ?_
    refine wp_icne rfl (fun hz_ => absurd hz_ ((fun z => z rfl))) (fun _ => ?_)
    refine wp_run rfl ?_
    exact wp_ret rfl rfl ⟨rfl, rfl⟩
end AX57
end
section
/-! THE LAW: its acts (1): drop, turn, need, trim, restoreTail, moves, swap, fits. -/
section AX58
variable {ro : axRo} {d m : Nat} {h : axH} {V : axV} {v w : Int32} {s i j : Nat}
set_option maxRecDepth 40000 in
theorem A_drop (hx : XS V [] m h) (hi : i < aN (vA V)) : ∃ V' h', axW ro (axEv ro (d + 9)) cdL_act 218 [some (.ref 0), some (.int v), some (.int w), some (.int (nI (aN (vA V)))), some (.int (nI s)), some (.int (nI (aR (vA V) i))), some (.int (nI (aR (vA V) j))), some (.int (cntA (vA V) 2)), some (.int (cntA (vA V) 1)), none, none, none, none, none, none, none] [.int 2, .int (nI (aR (vA V) i)), .ref 0] h (fun r' h'' => r' = some (.int 1) ∧ h'' = h') ∧ XS V' [] (m + 1200) h' := by
  have hO := XS_ok hx
  have hn := hO.n
  obtain ⟨f0, e0⟩ := XS_o4 hx
  obtain ⟨h1, ev1, x1⟩ := x4_drop (ro := ro) (d := d + 3) (mc := []) (x := nI (aR (vA V) i)) (r := nI (aN (vA V) - 1)) (A' := aDrop (vA V) i) rfl hx (Or.inr ⟨i, ⟨hi, rfl⟩, rfl, rfl⟩)
  rw [stp_n (by omega)] at x1
  obtain ⟨f1, e1⟩ := XS_o4 x1
  refine ⟨_, h1, ?_, XS_more (by omega) x1⟩
  refine wp_v2 rfl e0 (Nat.le_of_ble_eq_true rfl) (L_of (d := d + 3) hx hi 2 (by decide)) ?_
  refine wp_run rfl ?_
  refine wp_v1 rfl e0 (Nat.le_of_ble_eq_true rfl) (ev1) ?_
  refine wp_run rfl ?_
  refine wp_icne rfl (fun hz_ => absurd hz_ (fun z => z (nI_p1 (by omega)).symm)) (fun _ => ?_)
  refine wp_run rfl ?_
  refine wp_v2 rfl e1 (Nat.le_of_ble_eq_true rfl) (L_ofN (d := d + 3) x1 (pu_drop_no hO hi)) ?_
  refine wp_run rfl ?_
  refine wp_icne rfl (fun hz_ => absurd hz_ ((fun z => z rfl))) (fun _ => ?_)
  refine wp_run rfl ?_
  refine wp_v1 rfl e1 (Nat.le_of_ble_eq_true rfl) (L_cnt (d := d + 2) x1 2 (by decide)) ?_
  refine wp_run rfl ?_
  refine wp_icne rfl (fun hz_ => absurd hz_ (fun z => z (show nI (aBeg (aDrop (vA V) i) (aN (vA V) - 1)) = nI (aBeg (vA V) (aN (vA V))) - nI (aB (vA V) (aR (vA V) i)) by have := pu_drop_n hi; rw [pk_sub (by omega)]; congr 1; omega))) (fun _ => ?_)
  refine wp_run rfl ?_
  exact wp_ret rfl rfl ⟨rfl, rfl⟩
set_option maxRecDepth 40000 in
theorem A_turn (hx : XS V [] m h) (hi : i < aN (vA V)) : ∃ V' h', axW ro (axEv ro (d + 9)) cdL_act 275 [some (.ref 0), some (.int v), some (.int w), some (.int (nI (aN (vA V)))), some (.int (nI s)), some (.int (nI (aR (vA V) i))), some (.int (nI (aR (vA V) j))), some (.int (cntA (vA V) 2)), some (.int (cntA (vA V) 1)), none, none, none, none, none, none, none] [.int (nI (aR (vA V) i)), .ref 0] h (fun r' h'' => r' = some (.int 1) ∧ h'' = h') ∧ XS V' [] (m + 1200) h' := by
  obtain ⟨f0, e0⟩ := XS_o4 hx
  by_cases ht : aT (vA V) (aR (vA V) i) = true
  · have o3 : ofV (vA V) i 3 = 1 := if_pos ht
    have t1 : aT (aFlip (vA V) (aR (vA V) i)) (aR (vA V) i) = false := by
      show (if aR (vA V) i = aR (vA V) i then !aT (vA V) (aR (vA V) i) else aT (vA V) (aR (vA V) i)) = false
      rw [if_pos rfl, ht]; rfl
    obtain ⟨h1, ev1, x1⟩ := x4_turn (ro := ro) (d := d + 3) (mc := []) (x := nI (aR (vA V) i)) (r := 0) (A' := aFlip (vA V) (aR (vA V) i)) rfl hx (Or.inr ⟨i, ⟨hi, rfl⟩, (if_pos ht).symm, rfl⟩)
    rw [show stp V 0 (aFlip (vA V) (aR (vA V) i)) = stpN V (aFlip (vA V) (aR (vA V) i)) from if_neg (by decide)] at x1
    obtain ⟨f1, e1⟩ := XS_o4 x1
    refine ⟨_, h1, ?_, XS_more (by omega) x1⟩
    refine wp_v1 rfl e0 (Nat.le_of_ble_eq_true rfl) (L_turned (d := d + 3) hx hi) ?_
    refine wp_run rfl ?_
    refine wp_v2 rfl e0 (Nat.le_of_ble_eq_true rfl) (L_of (d := d + 3) hx hi 3 (by decide)) ?_
    refine wp_run rfl ?_
    refine wp_v1 rfl e0 (Nat.le_of_ble_eq_true rfl) (ev1) ?_
    refine wp_run rfl ?_
    refine wp_icne rfl (fun hz_ => absurd hz_ (fun z => z (by rw [o3]; decide))) (fun _ => ?_)
    refine wp_run rfl ?_
    refine wp_v2 rfl e1 (Nat.le_of_ble_eq_true rfl) (L_of (d := d + 3) x1 (i := i) hi 3 (by decide)) ?_
    refine wp_run rfl ?_
    refine wp_icne rfl (fun hz_ => absurd hz_ (fun z => z (show (if aT (aFlip (vA V) (aR (vA V) i)) (aR (vA V) i) = true then (1 : Int32) else 0) = 1 - ofV (vA V) i 3 by rw [t1, o3]; decide))) (fun _ => ?_)
    refine wp_run rfl ?_
    refine wp_v1 rfl e1 (Nat.le_of_ble_eq_true rfl) (L_cnt (d := d + 2) x1 4 (by decide)) ?_
    refine wp_run rfl ?_
    refine wp_icne rfl (fun hz_ => absurd hz_ ((fun z => z rfl))) (fun _ => ?_)
    refine wp_run rfl ?_
    exact wp_ret rfl rfl ⟨rfl, rfl⟩
  · have o3 : ofV (vA V) i 3 = 0 := if_neg ht
    have t1 : aT (aFlip (vA V) (aR (vA V) i)) (aR (vA V) i) = true := by
      show (if aR (vA V) i = aR (vA V) i then !aT (vA V) (aR (vA V) i) else aT (vA V) (aR (vA V) i)) = true
      rw [if_pos rfl, Bool.eq_false_iff.mpr ht]; rfl
    obtain ⟨h1, ev1, x1⟩ := x4_turn (ro := ro) (d := d + 3) (mc := []) (x := nI (aR (vA V) i)) (r := 1) (A' := aFlip (vA V) (aR (vA V) i)) rfl hx (Or.inr ⟨i, ⟨hi, rfl⟩, (if_neg ht).symm, rfl⟩)
    rw [show stp V 1 (aFlip (vA V) (aR (vA V) i)) = stpN V (aFlip (vA V) (aR (vA V) i)) from if_neg (by decide)] at x1
    obtain ⟨f1, e1⟩ := XS_o4 x1
    refine ⟨_, h1, ?_, XS_more (by omega) x1⟩
    refine wp_v1 rfl e0 (Nat.le_of_ble_eq_true rfl) (L_turned (d := d + 3) hx hi) ?_
    refine wp_run rfl ?_
    refine wp_v2 rfl e0 (Nat.le_of_ble_eq_true rfl) (L_of (d := d + 3) hx hi 3 (by decide)) ?_
    refine wp_run rfl ?_
    refine wp_v1 rfl e0 (Nat.le_of_ble_eq_true rfl) (ev1) ?_
    refine wp_run rfl ?_
    refine wp_icne rfl (fun hz_ => absurd hz_ (fun z => z (by rw [o3]; decide))) (fun _ => ?_)
    refine wp_run rfl ?_
    refine wp_v2 rfl e1 (Nat.le_of_ble_eq_true rfl) (L_of (d := d + 3) x1 (i := i) hi 3 (by decide)) ?_
    refine wp_run rfl ?_
    refine wp_icne rfl (fun hz_ => absurd hz_ (fun z => z (show (if aT (aFlip (vA V) (aR (vA V) i)) (aR (vA V) i) = true then (1 : Int32) else 0) = 1 - ofV (vA V) i 3 by rw [t1, o3]; decide))) (fun _ => ?_)
    refine wp_run rfl ?_
    refine wp_v1 rfl e1 (Nat.le_of_ble_eq_true rfl) (L_cnt (d := d + 2) x1 4 (by decide)) ?_
    refine wp_run rfl ?_
    refine wp_icne rfl (fun hz_ => absurd hz_ ((fun z => z rfl))) (fun _ => ?_)
    refine wp_run rfl ?_
    exact wp_ret rfl rfl ⟨rfl, rfl⟩
set_option maxRecDepth 40000 in
theorem A_need (hx : XS V [] m h) (hi : i < aN (vA V)) (hj : j < aN (vA V)) : ∃ V' h', axW ro (axEv ro (d + 9)) cdL_act 343 [some (.ref 0), some (.int v), some (.int w), some (.int (nI (aN (vA V)))), some (.int (nI s)), some (.int (nI (aR (vA V) i))), some (.int (nI (aR (vA V) j))), some (.int (cntA (vA V) 2)), some (.int (cntA (vA V) 1)), none, none, none, none, none, none, none] [.int 4, .int (nI (aR (vA V) i)), .ref 0] h (fun r' h'' => r' = some (.int 1) ∧ h'' = h') ∧ XS V' [] (m + 1200) h' := by
  have hO := XS_ok hx
  have hn := hO.n
  have hrj := hO.r hj
  obtain ⟨f0, e0⟩ := XS_o4 hx
  have eb : (ofV (vA V) i 4 >>> (nI (aR (vA V) j) &&& 31)) &&& 1 = if nd (vA V) i j = true then 1 else 0 := bt_has (by omega)
  by_cases hij : i = j
  · subst hij
    have hnd : nd (vA V) i i = false := by
      cases hb : nd (vA V) i i with
      | false => rfl
      | true => exact absurd (nd_lt hO hi hi hb) (Nat.lt_irrefl _)
    rw [hnd] at eb
    obtain ⟨h1, ev1, x1⟩ := x4_need (ro := ro) (d := d + 3) (mc := []) (x := nI (aR (vA V) i)) (y := nI (aR (vA V) i)) (r := -2) (A' := vA V) rfl hx (Or.inr ⟨i, i, ⟨hi, rfl⟩, ⟨hi, rfl⟩, Or.inl ⟨rfl, rfl, rfl⟩⟩)
    rw [stp_e m2_neg] at x1
    obtain ⟨f1, e1⟩ := XS_o4 x1
    refine ⟨_, h1, ?_, XS_more (by omega) x1⟩
    refine wp_v2 rfl e0 (Nat.le_of_ble_eq_true rfl) (L_of (d := d + 3) hx hi 4 (by decide)) ?_
    refine wp_run rfl ?_
    refine wp_v2 rfl e0 (Nat.le_of_ble_eq_true rfl) (ev1) ?_
    refine wp_run rfl ?_
    refine wp_iceq rfl (fun hz_ => absurd hz_ (by rw [eb]; decide)) (fun _ => ?_)
    refine wp_run rfl ?_
    refine wp_v2 rfl e1 (Nat.le_of_ble_eq_true rfl) (L_of (d := d + 3) x1 hi 0 (by decide)) ?_
    refine wp_run rfl ?_
    refine wp_v2 rfl e1 (Nat.le_of_ble_eq_true rfl) (L_of (d := d + 3) x1 hi 0 (by decide)) ?_
    refine wp_run rfl ?_
    refine wp_icge rfl (fun _ => ?_) (fun hz_ => absurd (Int32.le_refl _) hz_)
    refine wp_run rfl ?_
    refine wp_icne rfl (fun hz_ => absurd hz_ ((fun z => z rfl))) (fun _ => ?_)
    refine wp_run rfl ?_
    refine wp_icne rfl (fun hz_ => absurd hz_ ((fun z => z rfl))) (fun _ => ?_)
    refine wp_run rfl ?_
    exact wp_ret rfl rfl ⟨rfl, rfl⟩
  · have hne := aR_ne hO hi hj hij
    by_cases hm : nd (vA V) i j = true ∨ j < i
    · have hpc : pcN (aD (vA V) (aR (vA V) i) ^^^ bi (aR (vA V) j)) < 2 ^ 31 := Nat.lt_of_le_of_lt (bc_le _ _) (by decide)
      obtain ⟨h1, ev1, x1⟩ := x4_need (ro := ro) (d := d + 3) (mc := []) (x := nI (aR (vA V) i)) (y := nI (aR (vA V) j)) (r := nI (pcN (aD (vA V) (aR (vA V) i) ^^^ bi (aR (vA V) j)))) (A' := aSetD (vA V) (aR (vA V) i) (aD (vA V) (aR (vA V) i) ^^^ bi (aR (vA V) j))) rfl hx (Or.inr ⟨i, j, ⟨hi, rfl⟩, ⟨hj, rfl⟩, Or.inr (Or.inr ⟨hij, hm, rfl, rfl⟩)⟩)
      rw [stp_n hpc] at x1
      obtain ⟨f1, e1⟩ := XS_o4 x1
      refine ⟨_, h1, ?_, XS_more (by omega) x1⟩
      have t : axW ro (axEv ro (d + 9)) cdL_act 397 [some (.ref 0), some (.int v), some (.int w), some (.int (nI (aN (vA V)))), some (.int (nI s)), some (.int (nI (aR (vA V) i))), some (.int (nI (aR (vA V) j))), some (.int (cntA (vA V) 2)), some (.int (cntA (vA V) 1)), some (.int (ofV (vA V) i 4)), some (.int (nI (pcN (aD (vA V) (aR (vA V) i) ^^^ bi (aR (vA V) j))))), some (.int 1), none, none, none, none] [.int (nI (aR (vA V) j)), .int (nI (aR (vA V) i))] h1 (fun r' h'' => r' = some (.int 1) ∧ h'' = h1) := by
        refine wp_icne rfl (fun _ => ?_) (fun hz_ => absurd (hne) hz_)
        refine wp_run rfl ?_
        refine wp_ifeq rfl (fun hz_ => absurd hz_ ((by decide : ¬ (1 : Int32) = 0))) (fun _ => ?_)
        refine wp_run rfl ?_
        refine wp_v2 rfl e1 (Nat.le_of_ble_eq_true rfl) (L_of (d := d + 3) x1 (i := i) hi 4 (by decide)) ?_
        refine wp_run rfl ?_
        refine wp_icne rfl (fun hz_ => absurd hz_ (fun z => z (show va_up (aD (vA V)) (aR (vA V) i) (aD (vA V) (aR (vA V) i) ^^^ bi (aR (vA V) j)) (aR (vA V) i) = aD (vA V) (aR (vA V) i) ^^^ bi (aR (vA V) j) from va_is))) (fun _ => ?_)
        refine wp_run rfl ?_
        refine wp_iflt rfl (fun hz_ => absurd hz_ (nI_pos hpc)) (fun _ => ?_)
        refine wp_run rfl ?_
        exact wp_ret rfl rfl ⟨rfl, rfl⟩
      refine wp_v2 rfl e0 (Nat.le_of_ble_eq_true rfl) (L_of (d := d + 3) hx hi 4 (by decide)) ?_
      refine wp_run rfl ?_
      refine wp_v2 rfl e0 (Nat.le_of_ble_eq_true rfl) (ev1) ?_
      refine wp_run rfl ?_
      by_cases hb : nd (vA V) i j = true
      · rw [if_pos hb] at eb
        refine wp_iceq rfl (fun _ => ?_) (fun hz_ => absurd (eb) hz_)
        refine wp_run rfl ?_
        exact t
      · rw [if_neg hb] at eb
        have hji : j < i := hm.resolve_left hb
        refine wp_iceq rfl (fun hz_ => absurd hz_ (by rw [eb]; decide)) (fun _ => ?_)
        refine wp_run rfl ?_
        refine wp_v2 rfl e1 (Nat.le_of_ble_eq_true rfl) (L_of (d := d + 3) x1 (i := j) hj 0 (by decide)) ?_
        refine wp_run rfl ?_
        refine wp_v2 rfl e1 (Nat.le_of_ble_eq_true rfl) (L_of (d := d + 3) x1 (i := i) hi 0 (by decide)) ?_
        refine wp_run rfl ?_
        refine wp_icge rfl (fun hz_ => absurd hz_ (nI_ge hji (by omega))) (fun _ => ?_)
        refine wp_run rfl ?_
        exact t
    · have hnd : nd (vA V) i j = false := by
        cases hb : nd (vA V) i j with
        | false => rfl
        | true => exact absurd (Or.inl hb) hm
      have hlt : i < j := Nat.lt_of_le_of_ne (Nat.not_lt.mp fun z => hm (Or.inr z)) hij
      rw [hnd] at eb
      obtain ⟨h1, ev1, x1⟩ := x4_need (ro := ro) (d := d + 3) (mc := []) (x := nI (aR (vA V) i)) (y := nI (aR (vA V) j)) (r := -5) (A' := vA V) rfl hx (Or.inr ⟨i, j, ⟨hi, rfl⟩, ⟨hj, rfl⟩, Or.inr (Or.inl ⟨hlt, hnd, rfl, rfl⟩)⟩)
      rw [stp_e m5_neg] at x1
      obtain ⟨f1, e1⟩ := XS_o4 x1
      refine ⟨_, h1, ?_, XS_more (by omega) x1⟩
      refine wp_v2 rfl e0 (Nat.le_of_ble_eq_true rfl) (L_of (d := d + 3) hx hi 4 (by decide)) ?_
      refine wp_run rfl ?_
      refine wp_v2 rfl e0 (Nat.le_of_ble_eq_true rfl) (ev1) ?_
      refine wp_run rfl ?_
      refine wp_iceq rfl (fun hz_ => absurd hz_ (by rw [eb]; decide)) (fun _ => ?_)
      refine wp_run rfl ?_
      refine wp_v2 rfl e1 (Nat.le_of_ble_eq_true rfl) (L_of (d := d + 3) x1 hj 0 (by decide)) ?_
      refine wp_run rfl ?_
      refine wp_v2 rfl e1 (Nat.le_of_ble_eq_true rfl) (L_of (d := d + 3) x1 hi 0 (by decide)) ?_
      refine wp_run rfl ?_
      refine wp_icge rfl (fun _ => ?_) (fun hz_ => absurd (nI_le (by omega) (by omega)) hz_)
      refine wp_run rfl ?_
      refine wp_icne rfl (fun _ => ?_) (fun hz_ => absurd (hne) hz_)
      refine wp_run rfl ?_
      refine wp_ifeq rfl (fun _ => ?_) (fun hz_ => absurd (rfl) hz_)
      refine wp_run rfl ?_
      refine wp_icne rfl (fun hz_ => absurd hz_ ((fun z => z rfl))) (fun _ => ?_)
      refine wp_run rfl ?_
      refine wp_v2 rfl e1 (Nat.le_of_ble_eq_true rfl) (L_of (d := d + 3) x1 hi 4 (by decide)) ?_
      refine wp_run rfl ?_
      refine wp_icne rfl (fun hz_ => absurd hz_ ((fun z => z rfl))) (fun _ => ?_)
      refine wp_run rfl ?_
      exact wp_ret rfl rfl ⟨rfl, rfl⟩
set_option maxRecDepth 40000 in
theorem A_trim (hx : XS V [] m h) (hi : i < aN (vA V)) : ∃ V' h', axW ro (axEv ro (d + 9)) cdL_act 483 [some (.ref 0), some (.int v), some (.int w), some (.int (nI (aN (vA V)))), some (.int (nI s)), some (.int (nI (aR (vA V) i))), some (.int (nI (aR (vA V) j))), some (.int (cntA (vA V) 2)), some (.int (cntA (vA V) 1)), none, none, none, none, none, none, none] [.ref 0] h (fun r' h'' => r' = some (.int 1) ∧ h'' = h') ∧ XS V' [] (m + 1200) h' := by
  have hO := XS_ok hx
  have hn := hO.n
  have hb := hO.b hi
  have hc := aCan_lt hO hi
  obtain ⟨f0, e0⟩ := XS_o4 hx
  obtain ⟨t, ht, evl⟩ := L_low (ro := ro) (d := d + 8) (h := h) (w >>> ((5 : Int32) &&& 31)) (n := 30) (by decide) (by decide)
  have pre : ∀ Q : Option Value → axH → Prop, axW ro (axEv ro (d + 9)) cdL_act 543 [some (.ref 0), some (.int v), some (.int w), some (.int (nI (aN (vA V)))), some (.int (nI s)), some (.int (nI (aR (vA V) i))), some (.int (nI (aR (vA V) j))), some (.int (cntA (vA V) 2)), some (.int (cntA (vA V) 1)), some (.long (tale (vA V))), none, some (.int (ofV (vA V) i 9)), some (.int (nI (1 + t))), some (.int (ofV (vA V) i 2)), some (.int (if aB (vA V) (aR (vA V) i) = aW (vA V) (aR (vA V) i) then 1 else 0)), none] [.int (nI (1 + t)), .int (nI (aR (vA V) i)), .ref 0] h Q → axW ro (axEv ro (d + 9)) cdL_act 483 [some (.ref 0), some (.int v), some (.int w), some (.int (nI (aN (vA V)))), some (.int (nI s)), some (.int (nI (aR (vA V) i))), some (.int (nI (aR (vA V) j))), some (.int (cntA (vA V) 2)), some (.int (cntA (vA V) 1)), none, none, none, none, none, none, none] [.ref 0] h Q := fun Q K => by
    refine wp_s1 rfl (Nat.le_of_ble_eq_true rfl) (L_tale (d := d + 1) hx) ?_
    refine wp_run rfl ?_
    refine wp_v2 rfl e0 (Nat.le_of_ble_eq_true rfl) (L_of (d := d + 3) hx hi 9 (by decide)) ?_
    refine wp_run rfl ?_
    refine wp_s2 rfl (Nat.le_of_ble_eq_true rfl) (evl) ?_
    refine wp_run rfl ?_
    rw [show (1 : Int32) + nI t = nI (1 + t) from nI_add 1 t]
    refine wp_v2 rfl e0 (Nat.le_of_ble_eq_true rfl) (L_of (d := d + 3) hx hi 2 (by decide)) ?_
    refine wp_run rfl ?_
    refine wp_v2 rfl e0 (Nat.le_of_ble_eq_true rfl) (L_of (d := d + 3) hx hi 1 (by decide)) ?_
    refine wp_run rfl ?_
    by_cases hw : aB (vA V) (aR (vA V) i) = aW (vA V) (aR (vA V) i)
    · rw [if_pos hw] at K
      refine wp_icne rfl (fun hz_ => absurd hz_ (fun z => z (congrArg nI hw))) (fun _ => ?_)
      refine wp_run rfl ?_
      exact K
    · rw [if_neg hw] at K
      refine wp_icne rfl (fun _ => ?_) (fun hz_ => absurd (fun z => hw ((nI_eq (a := aB (vA V) (aR (vA V) i)) (b := aW (vA V) (aR (vA V) i)) (by omega) (by omega)).mp z)) hz_)
      refine wp_run rfl ?_
      exact K
  by_cases hm : 1 + t ≤ aCan (vA V) (aR (vA V) i)
  · obtain ⟨h1, ev1, x1⟩ := x4_trim (ro := ro) (d := d + 3) (mc := []) (x := nI (aR (vA V) i)) (y := nI (1 + t)) (r := nI (aB (vA V) (aR (vA V) i) - (1 + t))) (A' := aBts (vA V) (aR (vA V) i) (aB (vA V) (aR (vA V) i) - (1 + t))) rfl hx (Or.inr ⟨i, ⟨hi, rfl⟩, Or.inr ⟨1 + t, by omega, by omega, rfl, Or.inr ⟨hm, rfl, rfl⟩⟩⟩)
    rw [stp_n (by omega)] at x1
    obtain ⟨f1, e1⟩ := XS_o4 x1
    have c1 : ¬ ¬ nI (aB (vA V) (aR (vA V) i) - (1 + t)) = ofV (vA V) i 2 - nI (1 + t) := fun z => z (show nI (aB (vA V) (aR (vA V) i) - (1 + t)) = nI (aB (vA V) (aR (vA V) i)) - nI (1 + t) by rw [pk_sub (by omega)])
    have c2 : ¬ ¬ ofV (vA (stpN V (aBts (vA V) (aR (vA V) i) (aB (vA V) (aR (vA V) i) - (1 + t))))) i 2 = nI (aB (vA V) (aR (vA V) i) - (1 + t)) := fun z => z (show nI (va_up (aB (vA V)) (aR (vA V) i) (aB (vA V) (aR (vA V) i) - (1 + t)) (aR (vA V) i)) = nI (aB (vA V) (aR (vA V) i) - (1 + t)) by rw [va_is])
    by_cases hw : aB (vA V) (aR (vA V) i) = aW (vA V) (aR (vA V) i)
    · rw [if_pos hw] at pre
      obtain ⟨t2, ht2, evl2⟩ := L_low (ro := ro) (d := d + 8) (h := h1) (w >>> ((9 : Int32) &&& 31)) (n := 2) (by decide) (by decide)
      by_cases hz : t2 = 0
      · subst hz
        refine ⟨_, h1, pre _ ?_, XS_more (by omega) x1⟩
        refine wp_v2 rfl e0 (Nat.le_of_ble_eq_true rfl) (ev1) ?_
        refine wp_run rfl ?_
        refine wp_icle rfl (fun _ => ?_) (fun hz_ => absurd (nI_le hm (by omega)) hz_)
        refine wp_run rfl ?_
        refine wp_icne rfl (fun hz_ => absurd hz_ (c1)) (fun _ => ?_)
        refine wp_run rfl ?_
        refine wp_v2 rfl e1 (Nat.le_of_ble_eq_true rfl) (L_of (d := d + 3) x1 (i := i) hi 2 (by decide)) ?_
        refine wp_run rfl ?_
        refine wp_icne rfl (fun hz_ => absurd hz_ (c2)) (fun _ => ?_)
        refine wp_run rfl ?_
        refine wp_ifeq rfl (fun hz_ => absurd hz_ ((by decide : ¬ (1 : Int32) = 0))) (fun _ => ?_)
        refine wp_run rfl ?_
        refine wp_s2 rfl (Nat.le_of_ble_eq_true rfl) (evl2) ?_
        refine wp_run rfl ?_
        refine wp_ifeq rfl (fun _ => ?_) (fun hz_ => absurd (rfl) hz_)
        refine wp_run rfl ?_
        exact wp_ret rfl rfl ⟨rfl, rfl⟩
      · have w1 : aW (aBts (vA V) (aR (vA V) i) (aB (vA V) (aR (vA V) i) - (1 + t))) (aR (vA V) i) - aB (aBts (vA V) (aR (vA V) i) (aB (vA V) (aR (vA V) i) - (1 + t))) (aR (vA V) i) = 1 + t := by
          show aW (vA V) (aR (vA V) i) - va_up (aB (vA V)) (aR (vA V) i) (aB (vA V) (aR (vA V) i) - (1 + t)) (aR (vA V) i) = 1 + t
          rw [va_is]; omega
        have w2 : aBts (aBts (vA V) (aR (vA V) i) (aB (vA V) (aR (vA V) i) - (1 + t))) (aR (vA V) i) (aW (vA V) (aR (vA V) i)) = vA V := by
          rw [← hw]; exact pu_bts_back _ _ _
        obtain ⟨h2, ev2, x2⟩ := x4_restoreTail (ro := ro) (d := d + 3) (mc := []) (x := nI (aR (vA V) i)) (r := nI (1 + t)) (A' := vA V) rfl x1 (Or.inr ⟨i, ⟨hi, rfl⟩, congrArg nI w1.symm, w2.symm⟩)
        rw [stp_n (by omega)] at x2
        refine ⟨_, h2, pre _ ?_, XS_more (by omega) x2⟩
        refine wp_v2 rfl e0 (Nat.le_of_ble_eq_true rfl) (ev1) ?_
        refine wp_run rfl ?_
        refine wp_icle rfl (fun _ => ?_) (fun hz_ => absurd (nI_le hm (by omega)) hz_)
        refine wp_run rfl ?_
        refine wp_icne rfl (fun hz_ => absurd hz_ (c1)) (fun _ => ?_)
        refine wp_run rfl ?_
        refine wp_v2 rfl e1 (Nat.le_of_ble_eq_true rfl) (L_of (d := d + 3) x1 (i := i) hi 2 (by decide)) ?_
        refine wp_run rfl ?_
        refine wp_icne rfl (fun hz_ => absurd hz_ (c2)) (fun _ => ?_)
        refine wp_run rfl ?_
        refine wp_ifeq rfl (fun hz_ => absurd hz_ ((by decide : ¬ (1 : Int32) = 0))) (fun _ => ?_)
        refine wp_run rfl ?_
        refine wp_s2 rfl (Nat.le_of_ble_eq_true rfl) (evl2) ?_
        refine wp_run rfl ?_
        refine wp_ifeq rfl (fun hz_ => absurd hz_ (nI_ne0 (by omega) (by omega))) (fun _ => ?_)
        refine wp_run rfl ?_
        refine wp_v1 rfl e1 (Nat.le_of_ble_eq_true rfl) (ev2) ?_
        refine wp_run rfl ?_
        refine wp_icne rfl (fun hz_ => absurd hz_ ((fun z => z rfl))) (fun _ => ?_)
        refine wp_run rfl ?_
        refine wp_s1 rfl (Nat.le_of_ble_eq_true rfl) (L_tale (d := d + 1) x2) ?_
        refine wp_run rfl ?_
        refine wp_ifne rfl (fun hz_ => absurd hz_ ((fun z => z ((lg_cmp_eq _ _).mpr rfl)))) (fun _ => ?_)
        refine wp_run rfl ?_
        exact wp_ret rfl rfl ⟨rfl, rfl⟩
    · rw [if_neg hw] at pre
      refine ⟨_, h1, pre _ ?_, XS_more (by omega) x1⟩
      refine wp_v2 rfl e0 (Nat.le_of_ble_eq_true rfl) (ev1) ?_
      refine wp_run rfl ?_
      refine wp_icle rfl (fun _ => ?_) (fun hz_ => absurd (nI_le hm (by omega)) hz_)
      refine wp_run rfl ?_
      refine wp_icne rfl (fun hz_ => absurd hz_ (c1)) (fun _ => ?_)
      refine wp_run rfl ?_
      refine wp_v2 rfl e1 (Nat.le_of_ble_eq_true rfl) (L_of (d := d + 3) x1 (i := i) hi 2 (by decide)) ?_
      refine wp_run rfl ?_
      refine wp_icne rfl (fun hz_ => absurd hz_ (c2)) (fun _ => ?_)
      refine wp_run rfl ?_
      refine wp_ifeq rfl (fun _ => ?_) (fun hz_ => absurd (rfl) hz_)
      refine wp_run rfl ?_
      exact wp_ret rfl rfl ⟨rfl, rfl⟩
  · obtain ⟨h1, ev1, x1⟩ := x4_trim (ro := ro) (d := d + 3) (mc := []) (x := nI (aR (vA V) i)) (y := nI (1 + t)) (r := -5) (A' := vA V) rfl hx (Or.inr ⟨i, ⟨hi, rfl⟩, Or.inr ⟨1 + t, by omega, by omega, rfl, Or.inl ⟨by omega, rfl, rfl⟩⟩⟩)
    rw [stp_e m5_neg] at x1
    refine ⟨_, h1, pre _ ?_, XS_more (by omega) x1⟩
    refine wp_v2 rfl e0 (Nat.le_of_ble_eq_true rfl) (ev1) ?_
    refine wp_run rfl ?_
    refine wp_icle rfl (fun hz_ => absurd hz_ (nI_ge (a := aCan (vA V) (aR (vA V) i)) (by omega) (by omega))) (fun _ => ?_)
    refine wp_run rfl ?_
    refine wp_icne rfl (fun hz_ => absurd hz_ ((fun z => z rfl))) (fun _ => ?_)
    refine wp_run rfl ?_
    refine wp_s1 rfl (Nat.le_of_ble_eq_true rfl) (L_tale (d := d + 1) x1) ?_
    refine wp_run rfl ?_
    refine wp_ifne rfl (fun hz_ => absurd hz_ ((fun z => z ((lg_cmp_eq _ _).mpr rfl)))) (fun _ => ?_)
    refine wp_run rfl ?_
    exact wp_ret rfl rfl ⟨rfl, rfl⟩
set_option maxRecDepth 40000 in
theorem A_give (hx : XS V [] m h) (hi : i < aN (vA V)) : ∃ V' h', axW ro (axEv ro (d + 9)) cdL_act 656 [some (.ref 0), some (.int v), some (.int w), some (.int (nI (aN (vA V)))), some (.int (nI s)), some (.int (nI (aR (vA V) i))), some (.int (nI (aR (vA V) j))), some (.int (cntA (vA V) 2)), some (.int (cntA (vA V) 1)), none, none, none, none, none, none, none] [.int 1, .int (nI (aR (vA V) i)), .ref 0] h (fun r' h'' => r' = some (.int 1) ∧ h'' = h') ∧ XS V' [] (m + 1200) h' := by
  have hO := XS_ok hx
  have hn := hO.n
  have hb := hO.b hi
  obtain ⟨f0, e0⟩ := XS_o4 hx
  obtain ⟨h1, ev1, x1⟩ := x4_restoreTail (ro := ro) (d := d + 3) (mc := []) (x := nI (aR (vA V) i)) (r := nI (aW (vA V) (aR (vA V) i) - aB (vA V) (aR (vA V) i))) (A' := aBts (vA V) (aR (vA V) i) (aW (vA V) (aR (vA V) i))) rfl hx (Or.inr ⟨i, ⟨hi, rfl⟩, rfl, rfl⟩)
  rw [stp_n (by omega)] at x1
  obtain ⟨f1, e1⟩ := XS_o4 x1
  have hs := pu_bts_n hO (v := aW (vA V) (aR (vA V) i)) hi
  refine ⟨_, h1, ?_, XS_more (by omega) x1⟩
  refine wp_v2 rfl e0 (Nat.le_of_ble_eq_true rfl) (L_of (d := d + 3) hx hi 1 (by decide)) ?_
  refine wp_run rfl ?_
  refine wp_v2 rfl e0 (Nat.le_of_ble_eq_true rfl) (L_of (d := d + 3) hx hi 2 (by decide)) ?_
  refine wp_run rfl ?_
  refine wp_v1 rfl e0 (Nat.le_of_ble_eq_true rfl) (ev1) ?_
  refine wp_run rfl ?_
  refine wp_icne rfl (fun hz_ => absurd hz_ (fun z => z (show nI (aW (vA V) (aR (vA V) i) - aB (vA V) (aR (vA V) i)) = nI (aW (vA V) (aR (vA V) i)) - nI (aB (vA V) (aR (vA V) i)) by rw [pk_sub hb.2.1]))) (fun _ => ?_)
  refine wp_run rfl ?_
  refine wp_v2 rfl e1 (Nat.le_of_ble_eq_true rfl) (L_of (d := d + 3) x1 (i := i) hi 2 (by decide)) ?_
  refine wp_run rfl ?_
  refine wp_v2 rfl e1 (Nat.le_of_ble_eq_true rfl) (L_of (d := d + 3) x1 (i := i) hi 1 (by decide)) ?_
  refine wp_run rfl ?_
  refine wp_icne rfl (fun hz_ => absurd hz_ (fun z => z (show nI (va_up (aB (vA V)) (aR (vA V) i) (aW (vA V) (aR (vA V) i)) (aR (vA V) i)) = nI (aW (vA V) (aR (vA V) i)) by rw [va_is]))) (fun _ => ?_)
  refine wp_run rfl ?_
  refine wp_v1 rfl e1 (Nat.le_of_ble_eq_true rfl) (L_cnt (d := d + 2) x1 2 (by decide)) ?_
  refine wp_run rfl ?_
  refine wp_icne rfl (fun hz_ => absurd hz_ (fun z => z (show nI (aBeg (aBts (vA V) (aR (vA V) i) (aW (vA V) (aR (vA V) i))) (aN (vA V))) = nI (aBeg (vA V) (aN (vA V))) + (nI (aW (vA V) (aR (vA V) i)) - nI (aB (vA V) (aR (vA V) i))) by rw [pk_sub hb.2.1, nI_add]; congr 1; omega))) (fun _ => ?_)
  refine wp_run rfl ?_
  exact wp_ret rfl rfl ⟨rfl, rfl⟩
set_option maxRecDepth 40000 in
theorem A_move (hx : XS V [] m h) (hi : i < aN (vA V)) : ∃ V' h', axW ro (axEv ro (d + 9)) cdL_act 731 [some (.ref 0), some (.int v), some (.int w), some (.int (nI (aN (vA V)))), some (.int (nI s)), some (.int (nI (aR (vA V) i))), some (.int (nI (aR (vA V) j))), some (.int (cntA (vA V) 2)), some (.int (cntA (vA V) 1)), none, none, none, none, none, none, none] [.int (nI (aN (vA V))), .int (w >>> ((6 : Int32) &&& 31)), .int (nI (aR (vA V) i)), .ref 0] h (fun r' h'' => r' = some (.int 1) ∧ h'' = h') ∧ XS V' [] (m + 1200) h' := by
  have hn := (XS_ok hx).n
  obtain ⟨t, ht, evl⟩ := L_low (ro := ro) (d := d + 8) (h := h) (w >>> ((6 : Int32) &&& 31)) (n := aN (vA V)) (by omega) (by omega)
  obtain ⟨V', h', ev, x⟩ := L_moves (ro := ro) (d := d) hx hi ht
  refine ⟨V', h', ?_, x⟩
  refine wp_s2 rfl (Nat.le_of_ble_eq_true rfl) (evl) ?_
  refine wp_run rfl ?_
  refine wp_s3 rfl (Nat.le_of_ble_eq_true rfl) (ev) ?_
  refine wp_run rfl ?_
  exact wp_ret rfl rfl ⟨rfl, rfl⟩
set_option maxRecDepth 40000 in
theorem A_swap (hx : XS V [] m h) (hi : i < aN (vA V)) (hj : j < aN (vA V)) : ∃ V' h', axW ro (axEv ro (d + 9)) cdL_act 746 [some (.ref 0), some (.int v), some (.int w), some (.int (nI (aN (vA V)))), some (.int (nI s)), some (.int (nI (aR (vA V) i))), some (.int (nI (aR (vA V) j))), some (.int (cntA (vA V) 2)), some (.int (cntA (vA V) 1)), none, none, none, none, none, none, none] [.ref 0] h (fun r' h'' => r' = some (.int 1) ∧ h'' = h') ∧ XS V' [] (m + 1200) h' := by
  have hO := XS_ok hx
  have hn := hO.n
  obtain ⟨f0, e0⟩ := XS_o4 hx
  by_cases hij : i = j
  · subst hij
    obtain ⟨h1, ev1, x1⟩ := x4_swap (ro := ro) (d := d + 3) (mc := []) (x := nI (aR (vA V) i)) (y := nI (aR (vA V) i)) (r := -2) (A' := vA V) rfl hx (Or.inr ⟨i, i, ⟨hi, rfl⟩, ⟨hi, rfl⟩, Or.inl ⟨rfl, rfl, rfl⟩⟩)
    rw [stp_e m2_neg] at x1
    refine ⟨_, h1, ?_, XS_more (by omega) x1⟩
    refine wp_s1 rfl (Nat.le_of_ble_eq_true rfl) (L_tale (d := d + 1) hx) ?_
    refine wp_run rfl ?_
    refine wp_v2 rfl e0 (Nat.le_of_ble_eq_true rfl) (ev1) ?_
    refine wp_run rfl ?_
    refine wp_icne rfl (fun hz_ => absurd hz_ ((fun z => z rfl))) (fun _ => ?_)
    refine wp_run rfl ?_
    refine wp_icne rfl (fun hz_ => absurd hz_ ((fun z => z rfl))) (fun _ => ?_)
    refine wp_run rfl ?_
    exact wp_ret rfl rfl ⟨rfl, rfl⟩
  · have hne := aR_ne hO hi hj hij
    by_cases hm : aMay (vA V) i j
    · obtain ⟨h1, ev1, x1⟩ := x4_swap (ro := ro) (d := d + 3) (mc := []) (x := nI (aR (vA V) i)) (y := nI (aR (vA V) j)) (r := nI (((i : Int) - j).natAbs - 1)) (A' := aSwp (vA V) i j) rfl hx (Or.inr ⟨i, j, ⟨hi, rfl⟩, ⟨hj, rfl⟩, Or.inr (Or.inr ⟨hij, hm, rfl, rfl⟩)⟩)
      rw [stp_n (by omega)] at x1
      obtain ⟨f1, e1⟩ := XS_o4 x1
      obtain ⟨h2, ev2, x2⟩ := x4_swap (ro := ro) (d := d + 3) (mc := []) (x := nI (aR (vA V) i)) (y := nI (aR (vA V) j)) (r := nI (((j : Int) - i).natAbs - 1)) (A' := vA V) rfl x1 (Or.inr ⟨j, i, ⟨hj, congrArg nI (pu_sw_q (vA V) hij).symm⟩, ⟨hi, congrArg nI (pu_sw_p (vA V) i j).symm⟩, Or.inr (Or.inr ⟨Ne.symm hij, pu_sw_may hO hi hj hij hm, rfl, (pu_sw_back (vA V) hij).symm⟩)⟩)
      rw [stp_n (by omega)] at x2
      refine ⟨_, h2, ?_, XS_more (by omega) x2⟩
      refine wp_s1 rfl (Nat.le_of_ble_eq_true rfl) (L_tale (d := d + 1) hx) ?_
      refine wp_run rfl ?_
      refine wp_v2 rfl e0 (Nat.le_of_ble_eq_true rfl) (ev1) ?_
      refine wp_run rfl ?_
      refine wp_icne rfl (fun _ => ?_) (fun hz_ => absurd (hne) hz_)
      refine wp_run rfl ?_
      refine wp_icne rfl (fun _ => ?_) (fun hz_ => absurd (fun z => absurd (show nI (((i : Int) - j).natAbs - 1) < 0 by rw [z]; decide) (nI_pos (by omega))) hz_)
      refine wp_run rfl ?_
      refine wp_v2 rfl e1 (Nat.le_of_ble_eq_true rfl) (ev2) ?_
      refine wp_run rfl ?_
      refine wp_icne rfl (fun hz_ => absurd hz_ (fun z => z (by congr 1; omega))) (fun _ => ?_)
      refine wp_run rfl ?_
      refine wp_s1 rfl (Nat.le_of_ble_eq_true rfl) (L_tale (d := d + 1) x2) ?_
      refine wp_run rfl ?_
      refine wp_ifne rfl (fun hz_ => absurd hz_ ((fun z => z ((lg_cmp_eq _ _).mpr rfl)))) (fun _ => ?_)
      refine wp_run rfl ?_
      exact wp_ret rfl rfl ⟨rfl, rfl⟩
    · obtain ⟨h1, ev1, x1⟩ := x4_swap (ro := ro) (d := d + 3) (mc := []) (x := nI (aR (vA V) i)) (y := nI (aR (vA V) j)) (r := -5) (A' := vA V) rfl hx (Or.inr ⟨i, j, ⟨hi, rfl⟩, ⟨hj, rfl⟩, Or.inr (Or.inl ⟨hij, hm, rfl, rfl⟩)⟩)
      rw [stp_e m5_neg] at x1
      refine ⟨_, h1, ?_, XS_more (by omega) x1⟩
      refine wp_s1 rfl (Nat.le_of_ble_eq_true rfl) (L_tale (d := d + 1) hx) ?_
      refine wp_run rfl ?_
      refine wp_v2 rfl e0 (Nat.le_of_ble_eq_true rfl) (ev1) ?_
      refine wp_run rfl ?_
      refine wp_icne rfl (fun _ => ?_) (fun hz_ => absurd (hne) hz_)
      refine wp_run rfl ?_
      refine wp_icne rfl (fun hz_ => absurd hz_ ((fun z => z rfl))) (fun _ => ?_)
      refine wp_run rfl ?_
      refine wp_s1 rfl (Nat.le_of_ble_eq_true rfl) (L_tale (d := d + 1) x1) ?_
      refine wp_run rfl ?_
      refine wp_ifne rfl (fun hz_ => absurd hz_ ((fun z => z ((lg_cmp_eq _ _).mpr rfl)))) (fun _ => ?_)
      refine wp_run rfl ?_
      exact wp_ret rfl rfl ⟨rfl, rfl⟩
set_option maxRecDepth 40000 in
theorem A_fits (hx : XS V [] m h) : ∃ V' h', axW ro (axEv ro (d + 9)) cdL_act 1080 [some (.ref 0), some (.int v), some (.int w), some (.int (nI (aN (vA V)))), some (.int (nI s)), some (.int (nI (aR (vA V) i))), some (.int (nI (aR (vA V) j))), some (.int (cntA (vA V) 2)), some (.int (cntA (vA V) 1)), none, none, none, none, none, none, none] [.int 4, .int w, .ref 0] h (fun r' h'' => r' = some (.int 1) ∧ h'' = h') ∧ XS V' [] (m + 1200) h' := by
  obtain ⟨t, ht, evl⟩ := L_low (ro := ro) (d := d + 8) (h := h) w (n := 4) (by decide) (by decide)
  obtain ⟨V', h', ev, x⟩ := L_fits (ro := ro) (d := d) hx ht
  refine ⟨V', h', ?_, x⟩
  refine wp_s2 rfl (Nat.le_of_ble_eq_true rfl) (evl) ?_
  refine wp_run rfl ?_
  refine wp_s2 rfl (Nat.le_of_ble_eq_true rfl) (ev) ?_
  refine wp_run rfl ?_
  exact wp_ret rfl rfl ⟨rfl, rfl⟩
end AX58
end
section
/-! THE LAW: its acts (2): split, target, set, slug. -/
section AX59
variable {ro : axRo} {d m : Nat} {h : axH} {V : axV} {v w : Int32} {s i j : Nat}
/-- what is read of a board after a split -/
theorem sp_facts {A S : axAD} (hO : aOk A) {i u z : Nat} (hi : i < aN A) (hz : z < 24) (hf : ¬ aIn A z) (h2 : u < aB A (aR A i)) (eS : S = aSplit A i u (aR A i) z) (hOS : aOk S) : aN S = aN A + 1 ∧ aR S i = aR A i ∧ aR S (i + 1) = z ∧ aBeg S (aN S) = aBeg A (aN A) ∧ aActs S = aActs A ∧ (aB S (aR A i) = u ∧ aW S (aR A i) = u) ∧ aB S z = aB A (aR A i) - u ∧ aT S z = aT A (aR A i) ∧ aT S (aR A i) = false ∧ aD S z = bi (aR A i) ∧ aNdr S (aR A i) (aN S) &&& ((aNdr S z (aN S) ||| bi z) ^^^ (-1)) = 0 := by
  have hne : ∀ a, a < aN A → aR A a ≠ z := fun a ha e => hf ⟨a, ha, e⟩
  have hzk : z ≠ aR A i := fun e => hne i hi e.symm
  have hk := hO.r hi
  obtain ⟨b1, b2⟩ := pu_split (z := z) hO hi hf h2
  obtain ⟨r1, r2, r3, -⟩ := spR_ A i u (aR A i) z
  have t1 := spT A (p := i) (v := u) (k := aR A i) (z := z) hzk
  have t2 := spB A (p := i) (v := u) (k := aR A i) (z := z) hzk
  rw [← eS] at b1 b2 r1 r2 r3
  have t1 : ∀ j, aT S j = if j = z then aT A (aR A i) else if j = aR A i then false else aT A j := by rw [eS]; exact t1
  have t2 : ∀ j, aB S j = (if j = aR A i then u else if j = z then aB A (aR A i) - u else aB A j) ∧ aW S j = (if j = aR A i then u else if j = z then aW A (aR A i) - u else aW A j) := by rw [eS]; exact t2
  have rz : aR S (i + 1) = z := by rw [r1, aIns_at]
  refine ⟨r2, ?_, rz, by rw [r2]; exact b1, b2, ⟨by rw [(t2 _).1, if_pos rfl], by rw [(t2 _).2, if_pos rfl]⟩, by rw [(t2 _).1, if_neg hzk, if_pos rfl], by rw [t1, if_pos rfl], by rw [t1, if_neg (Ne.symm hzk), if_pos rfl], by rw [r3]; exact if_pos rfl, b_sub fun b hb => ?_⟩
  · rw [r1]; unfold aIns; rw [if_pos (by omega)]
  · obtain ⟨p, hp, ep, hbit⟩ := (bt_aNdr hOS (aR A i) b _ (Nat.le_refl _)).mp hb
    rw [bt_set (show z < 32 by omega), Bool.or_eq_true]
    by_cases ez : aR S p = z
    · exact Or.inr (decide_eq_true (by rw [← ep, ez]))
    · refine Or.inl ((bt_aNdr hOS z b _ (Nat.le_refl _)).mpr ⟨p, hp, ep, ?_⟩)
      rw [r3] at hbit ⊢
      unfold aSplN at hbit ⊢
      rw [if_neg ez] at hbit ⊢
      by_cases e : bt (aD A (aR S p)) (aR A i) = true
      · rw [if_pos e, bt_set (show z < 32 by omega), decide_eq_true rfl, Bool.or_true]
      · rw [if_neg e] at hbit
        exact absurd hbit e
set_option maxRecDepth 40000 in
theorem A_split (hx : XS V [] m h) (hi : i < aN (vA V)) : ∃ V' h', axW ro (axEv ro (d + 9)) cdL_act 850 [some (.ref 0), some (.int v), some (.int w), some (.int (nI (aN (vA V)))), some (.int (nI s)), some (.int (nI (aR (vA V) i))), some (.int (nI (aR (vA V) j))), some (.int (cntA (vA V) 2)), some (.int (cntA (vA V) 1)), none, none, none, none, none, none, none] [.int 30, .int (w >>> ((5 : Int32) &&& 31)), .int 1] h (fun r' h'' => r' = some (.int 1) ∧ h'' = h') ∧ XS V' [] (m + 1200) h' := by
  have hO := XS_ok hx
  have hn := hO.n
  have hb := hO.b hi
  obtain ⟨f0, e0⟩ := XS_o4 hx
  obtain ⟨t, ht, evl⟩ := L_low (ro := ro) (d := d + 8) (h := h) (w >>> ((5 : Int32) &&& 31)) (n := 30) (by decide) (by decide)
  by_cases hm : aB (vA V) (aR (vA V) i) ≤ 1 + t
  · obtain ⟨h1, ev1, x1⟩ := x4_split (ro := ro) (d := d + 3) (mc := []) (x := nI (aR (vA V) i)) (y := nI (1 + t)) (r := -5) (A' := vA V) rfl hx (Or.inr ⟨i, ⟨hi, rfl⟩, Or.inr ⟨1 + t, by omega, by omega, rfl, Or.inl ⟨hm, rfl, rfl⟩⟩⟩)
    rw [stp_e m5_neg] at x1
    refine ⟨_, h1, ?_, XS_more (by omega) x1⟩
    refine wp_s2 rfl (Nat.le_of_ble_eq_true rfl) (evl) ?_
    refine wp_run rfl ?_
    rw [show (1 : Int32) + nI t = nI (1 + t) from nI_add 1 t]
    refine wp_v2 rfl e0 (Nat.le_of_ble_eq_true rfl) (L_of (d := d + 3) hx hi 2 (by decide)) ?_
    refine wp_run rfl ?_
    refine wp_v2 rfl e0 (Nat.le_of_ble_eq_true rfl) (L_of (d := d + 3) hx hi 3 (by decide)) ?_
    refine wp_run rfl ?_
    refine wp_v2 rfl e0 (Nat.le_of_ble_eq_true rfl) (L_of (d := d + 3) hx hi 0 (by decide)) ?_
    refine wp_run rfl ?_
    refine wp_v2 rfl e0 (Nat.le_of_ble_eq_true rfl) (ev1) ?_
    refine wp_run rfl ?_
    refine wp_icle rfl (fun _ => ?_) (fun hz_ => absurd (nI_le hm (by omega)) hz_)
    refine wp_run rfl ?_
    refine wp_icgt rfl (fun hz_ => absurd hz_ (nI_nlt hm (by omega))) (fun _ => ?_)
    refine wp_run rfl ?_
    refine wp_icne rfl (fun hz_ => absurd hz_ ((fun z => z rfl))) (fun _ => ?_)
    refine wp_run rfl ?_
    exact wp_ret rfl rfl ⟨rfl, rfl⟩
  · by_cases h24 : aN (vA V) = 24
    · obtain ⟨h1, ev1, x1⟩ := x4_split (ro := ro) (d := d + 3) (mc := []) (x := nI (aR (vA V) i)) (y := nI (1 + t)) (r := -4) (A' := vA V) rfl hx (Or.inr ⟨i, ⟨hi, rfl⟩, Or.inr ⟨1 + t, by omega, by omega, rfl, Or.inr (Or.inl ⟨by omega, h24, rfl, rfl⟩)⟩⟩)
      rw [stp_e m4_neg] at x1
      refine ⟨_, h1, ?_, XS_more (by omega) x1⟩
      refine wp_s2 rfl (Nat.le_of_ble_eq_true rfl) (evl) ?_
      refine wp_run rfl ?_
      rw [show (1 : Int32) + nI t = nI (1 + t) from nI_add 1 t]
      refine wp_v2 rfl e0 (Nat.le_of_ble_eq_true rfl) (L_of (d := d + 3) hx hi 2 (by decide)) ?_
      refine wp_run rfl ?_
      refine wp_v2 rfl e0 (Nat.le_of_ble_eq_true rfl) (L_of (d := d + 3) hx hi 3 (by decide)) ?_
      refine wp_run rfl ?_
      refine wp_v2 rfl e0 (Nat.le_of_ble_eq_true rfl) (L_of (d := d + 3) hx hi 0 (by decide)) ?_
      refine wp_run rfl ?_
      refine wp_v2 rfl e0 (Nat.le_of_ble_eq_true rfl) (ev1) ?_
      refine wp_run rfl ?_
      refine wp_icle rfl (fun hz_ => absurd hz_ (nI_ge (b := aB (vA V) (aR (vA V) i)) (by omega) (by omega))) (fun _ => ?_)
      refine wp_run rfl ?_
      refine wp_icne rfl (fun hz_ => absurd hz_ (fun z => z (by rw [h24]; rfl))) (fun _ => ?_)
      refine wp_run rfl ?_
      refine wp_icgt rfl (fun _ => ?_) (fun hz_ => absurd (nI_lt (b := aB (vA V) (aR (vA V) i)) (by omega) (by omega)) hz_)
      refine wp_run rfl ?_
      refine wp_icne rfl (fun hz_ => absurd hz_ ((fun z => z rfl))) (fun _ => ?_)
      refine wp_run rfl ?_
      exact wp_ret rfl rfl ⟨rfl, rfl⟩
    · have hn24 : aN (vA V) < 24 := by omega
      obtain ⟨z, hz⟩ : ∃ z, z = aFr (vA V) := ⟨_, rfl⟩
      have hzl : z < 24 := by rw [hz]; exact aFr_lt hO hn24
      have hzf : ¬ aIn (vA V) z := by rw [hz]; exact aFr_free hO hn24
      obtain ⟨S, eS⟩ : ∃ S, S = aSplit (vA V) i (1 + t) (aR (vA V) i) z := ⟨_, rfl⟩
      obtain ⟨h1, ev1, x1⟩ := x4_split (ro := ro) (d := d + 3) (mc := []) (x := nI (aR (vA V) i)) (y := nI (1 + t)) (r := nI z) (A' := S) rfl hx (Or.inr ⟨i, ⟨hi, rfl⟩, Or.inr ⟨1 + t, by omega, by omega, rfl, Or.inr (Or.inr ⟨by omega, hn24, z, hz, rfl, eS⟩)⟩⟩)
      rw [stp_n (by omega)] at x1
      obtain ⟨f1, e1⟩ := XS_o4 x1
      have hOS : aOk S := XS_ok x1
      obtain ⟨g1, g2, g3, g4, g5, ⟨g6, g7⟩, g8, g9, g10, g11, g12⟩ := sp_facts hO hi hzl hzf (by omega) eS hOS
      have oK : ∀ k, k < 10 → axEv ro (d + 9) kX4_of [.ref 0, .int (nI (aR (vA V) i)), .int (nI k)] h1 (some (.int (ofV S i k))) h1 := fun k hk => by
        have := L_of (ro := ro) (d := d + 3) x1 (i := i) (show i < aN S by omega) k hk
        rw [show aR (vA (stpN V S)) i = aR (vA V) i from g2] at this
        exact this
      have oZ : ∀ k, k < 10 → axEv ro (d + 9) kX4_of [.ref 0, .int (nI z), .int (nI k)] h1 (some (.int (ofV S (i + 1) k))) h1 := fun k hk => by
        have := L_of (ro := ro) (d := d + 3) x1 (i := i + 1) (show i + 1 < aN S by omega) k hk
        rw [show aR (vA (stpN V S)) (i + 1) = z from g3] at this
        exact this
      have oA : axEv ro (d + 9) kX4_at [.ref 0, .int (ofV (vA V) i 0 + 1)] h1 (some (.int (nI z))) h1 := by
        show axEv ro (d + 9) kX4_at [.ref 0, .int (nI i + 1)] h1 (some (.int (nI z))) h1
        rw [nI_1]
        have := L_at (ro := ro) (d := d + 3) x1 (i := i + 1) (show i + 1 < aN S by omega)
        rw [show aR (vA (stpN V S)) (i + 1) = z from g3] at this
        exact this
      have k2 : ofV S i 2 = nI (1 + t) := by show nI (aB S (aR S i)) = _; rw [g2, g6]
      have k1 : ofV S i 1 = nI (1 + t) := by show nI (aW S (aR S i)) = _; rw [g2, g7]
      have k3 : ofV S i 3 = 0 := by show (if aT S (aR S i) = true then (1 : Int32) else 0) = 0; rw [g2, g10]; rfl
      have k5 : ofV S i 5 = aNdr S (aR (vA V) i) (aN S) := by show aNdr S (aR S i) (aN S) = _; rw [g2]
      have z2 : ofV S (i + 1) 2 = ofV (vA V) i 2 - nI (1 + t) := by show nI (aB S (aR S (i + 1))) = nI (aB (vA V) (aR (vA V) i)) - nI (1 + t); rw [g3, g8, pk_sub (by omega)]
      have z3 : ofV S (i + 1) 3 = ofV (vA V) i 3 := by show (if aT S (aR S (i + 1)) = true then (1 : Int32) else 0) = if aT (vA V) (aR (vA V) i) = true then 1 else 0; rw [g3, g9]
      have z4 : ofV S (i + 1) 4 = bi (aR (vA V) i) := by show aD S (aR S (i + 1)) = _; rw [g3, g11]
      have z5 : ofV S (i + 1) 5 = aNdr S z (aN S) := by show aNdr S (aR S (i + 1)) (aN S) = _; rw [g3]
      have c2 : cntA S 2 = cntA (vA V) 2 := congrArg nI g4
      have c1 : cntA S 1 = cntA (vA V) 1 := congrArg nI g5
      refine ⟨_, h1, ?_, XS_more (by omega) x1⟩
      refine wp_s2 rfl (Nat.le_of_ble_eq_true rfl) (evl) ?_
      refine wp_run rfl ?_
      rw [show (1 : Int32) + nI t = nI (1 + t) from nI_add 1 t]
      refine wp_v2 rfl e0 (Nat.le_of_ble_eq_true rfl) (L_of (d := d + 3) hx hi 2 (by decide)) ?_
      refine wp_run rfl ?_
      refine wp_v2 rfl e0 (Nat.le_of_ble_eq_true rfl) (L_of (d := d + 3) hx hi 3 (by decide)) ?_
      refine wp_run rfl ?_
      refine wp_v2 rfl e0 (Nat.le_of_ble_eq_true rfl) (L_of (d := d + 3) hx hi 0 (by decide)) ?_
      refine wp_run rfl ?_
      refine wp_v2 rfl e0 (Nat.le_of_ble_eq_true rfl) (ev1) ?_
      refine wp_run rfl ?_
      refine wp_icle rfl (fun hz_ => absurd hz_ (nI_ge (b := aB (vA V) (aR (vA V) i)) (by omega) (by omega))) (fun _ => ?_)
      refine wp_run rfl ?_
      refine wp_icne rfl (fun _ => ?_) (fun hz_ => absurd (fun z => h24 ((nI_eq (a := aN (vA V)) (b := 24) (by omega) (by omega)).mp z)) hz_)
      refine wp_run rfl ?_
      refine wp_v1 rfl e1 (Nat.le_of_ble_eq_true rfl) (L_cnt (d := d + 2) x1 2 (by decide)) ?_
      refine wp_run rfl ?_
      refine wp_icne rfl (fun hz_ => absurd hz_ (fun z => z c2)) (fun _ => ?_)
      refine wp_run rfl ?_
      refine wp_v1 rfl e1 (Nat.le_of_ble_eq_true rfl) (L_cnt (d := d + 2) x1 1 (by decide)) ?_
      refine wp_run rfl ?_
      refine wp_icne rfl (fun hz_ => absurd hz_ (fun z => z c1)) (fun _ => ?_)
      refine wp_run rfl ?_
      refine wp_v1 rfl e1 (Nat.le_of_ble_eq_true rfl) (oA) ?_
      refine wp_run rfl ?_
      refine wp_icne rfl (fun hz_ => absurd hz_ ((fun z => z rfl))) (fun _ => ?_)
      refine wp_run rfl ?_
      refine wp_v2 rfl e1 (Nat.le_of_ble_eq_true rfl) (oK 2 (by decide)) ?_
      refine wp_run rfl ?_
      refine wp_icne rfl (fun hz_ => absurd hz_ (fun z => z k2)) (fun _ => ?_)
      refine wp_run rfl ?_
      refine wp_v2 rfl e1 (Nat.le_of_ble_eq_true rfl) (oK 1 (by decide)) ?_
      refine wp_run rfl ?_
      refine wp_icne rfl (fun hz_ => absurd hz_ (fun z => z k1)) (fun _ => ?_)
      refine wp_run rfl ?_
      refine wp_v2 rfl e1 (Nat.le_of_ble_eq_true rfl) (oZ 2 (by decide)) ?_
      refine wp_run rfl ?_
      refine wp_icne rfl (fun hz_ => absurd hz_ (fun z => z z2)) (fun _ => ?_)
      refine wp_run rfl ?_
      refine wp_v2 rfl e1 (Nat.le_of_ble_eq_true rfl) (oZ 3 (by decide)) ?_
      refine wp_run rfl ?_
      refine wp_icne rfl (fun hz_ => absurd hz_ (fun z => z z3)) (fun _ => ?_)
      refine wp_run rfl ?_
      refine wp_v2 rfl e1 (Nat.le_of_ble_eq_true rfl) (oK 3 (by decide)) ?_
      refine wp_run rfl ?_
      refine wp_ifne rfl (fun hz_ => absurd hz_ (fun z => z k3)) (fun _ => ?_)
      refine wp_run rfl ?_
      refine wp_v2 rfl e1 (Nat.le_of_ble_eq_true rfl) (oZ 4 (by decide)) ?_
      refine wp_run rfl ?_
      refine wp_icne rfl (fun hz_ => absurd hz_ (fun z => z z4)) (fun _ => ?_)
      refine wp_run rfl ?_
      refine wp_v2 rfl e1 (Nat.le_of_ble_eq_true rfl) (oK 5 (by decide)) ?_
      refine wp_run rfl ?_
      refine wp_v2 rfl e1 (Nat.le_of_ble_eq_true rfl) (oZ 5 (by decide)) ?_
      refine wp_run rfl ?_
      refine wp_ifne rfl (fun hz_ => absurd hz_ (fun z => z (by rw [k5, z5]; exact g12))) (fun _ => ?_)
      refine wp_run rfl ?_
      exact wp_ret rfl rfl ⟨rfl, rfl⟩
set_option maxRecDepth 40000 in
theorem A_target (hx : XS V [] m h) : ∃ V' h', axW ro (axEv ro (d + 9)) cdL_act 1103 [some (.ref 0), some (.int v), some (.int w), some (.int (nI (aN (vA V)))), some (.int (nI s)), some (.int (nI (aR (vA V) i))), some (.int (nI (aR (vA V) j))), some (.int (cntA (vA V) 2)), some (.int (cntA (vA V) 1)), none, none, none, none, none, none, none] [.int 3, .int (w >>> ((12 : Int32) &&& 31)), .int (w >>> ((3 : Int32) &&& 31)), .int 1] h (fun r' h'' => r' = some (.int 1) ∧ h'' = h') ∧ XS V' [] (m + 1200) h' := by
  have hO := XS_ok hx
  have hn := hO.n
  have hac := aActs_le (vA V)
  obtain ⟨f0, e0⟩ := XS_o4 hx
  obtain ⟨c, hc, evc⟩ := L_low (ro := ro) (d := d + 8) (h := h) (w >>> ((12 : Int32) &&& 31)) (n := 3) (by decide) (by decide)
  obtain ⟨a, ha, eva⟩ := L_low (ro := ro) (d := d + 8) (h := h) w (n := 6) (by decide) (by decide)
  have pre : ∃ t, t < 999 ∧ ∀ Q : Option Value → axH → Prop, axW ro (axEv ro (d + 9)) cdL_act 1136 [some (.ref 0), some (.int v), some (.int w), some (.int (nI (aN (vA V)))), some (.int (nI s)), some (.int (nI (aR (vA V) i))), some (.int (nI (aR (vA V) j))), some (.int (cntA (vA V) 2)), some (.int (cntA (vA V) 1)), some (.int (nI (1 + t))), some (.int (nI a)), none, none, none, none, none] [.int (nI (1 + t)), .int (nI a), .ref 0] h Q → axW ro (axEv ro (d + 9)) cdL_act 1103 [some (.ref 0), some (.int v), some (.int w), some (.int (nI (aN (vA V)))), some (.int (nI s)), some (.int (nI (aR (vA V) i))), some (.int (nI (aR (vA V) j))), some (.int (cntA (vA V) 2)), some (.int (cntA (vA V) 1)), none, none, none, none, none, none, none] [.int 3, .int (w >>> ((12 : Int32) &&& 31)), .int (w >>> ((3 : Int32) &&& 31)), .int 1] h Q := by
    by_cases h0 : c = 0
    · subst h0
      obtain ⟨t, ht, evl⟩ := L_low (ro := ro) (d := d + 8) (h := h) (w >>> ((3 : Int32) &&& 31)) (n := 999) (by decide) (by decide)
      refine ⟨t, ht, fun Q K => ?_⟩
      refine wp_s2 rfl (Nat.le_of_ble_eq_true rfl) (evc) ?_
      refine wp_run rfl ?_
      refine wp_ifne rfl (fun hz_ => absurd hz_ (fun z => z rfl)) (fun _ => ?_)
      refine wp_run rfl ?_
      refine wp_s2 rfl (Nat.le_of_ble_eq_true rfl) (evl) ?_
      refine wp_run rfl ?_
      rw [show (1 : Int32) + nI t = nI (1 + t) from nI_add 1 t]
      refine wp_s2 rfl (Nat.le_of_ble_eq_true rfl) (eva) ?_
      refine wp_run rfl ?_
      exact K
    · obtain ⟨t, ht, evl⟩ := L_low (ro := ro) (d := d + 8) (h := h) (w >>> ((3 : Int32) &&& 31)) (n := 120) (by decide) (by decide)
      refine ⟨t, by omega, fun Q K => ?_⟩
      refine wp_s2 rfl (Nat.le_of_ble_eq_true rfl) (evc) ?_
      refine wp_run rfl ?_
      refine wp_ifne rfl (fun _ => ?_) (fun hz_ => absurd (nI_ne0 (by omega) (by omega)) hz_)
      refine wp_run rfl ?_
      refine wp_s2 rfl (Nat.le_of_ble_eq_true rfl) (evl) ?_
      refine wp_run rfl ?_
      rw [show (1 : Int32) + nI t = nI (1 + t) from nI_add 1 t]
      refine wp_s2 rfl (Nat.le_of_ble_eq_true rfl) (eva) ?_
      refine wp_run rfl ?_
      exact K
  obtain ⟨t, ht, pre⟩ := pre
  have htg := hO.tg ha
  obtain ⟨h1, ev1, x1⟩ := x4_target (ro := ro) (d := d + 3) (mc := []) (x := nI a) (y := nI (1 + t)) (r := nI (aTg (vA V) a)) (A' := aSetT (vA V) a (1 + t)) rfl hx (Or.inl ⟨a, 1 + t, ha, rfl, by omega, by omega, rfl, rfl, rfl⟩)
  rw [stp_n (by omega)] at x1
  obtain ⟨f1, e1⟩ := XS_o4 x1
  refine ⟨_, h1, pre _ ?_, XS_more (by omega) x1⟩
  refine wp_v2 rfl e0 (Nat.le_of_ble_eq_true rfl) (ev1) ?_
  refine wp_run rfl ?_
  refine wp_iclt rfl (fun hz_ => absurd hz_ (nI_nlt (b := 1) htg.1 (by omega))) (fun _ => ?_)
  refine wp_run rfl ?_
  refine wp_v1 rfl e1 (Nat.le_of_ble_eq_true rfl) (L_cnt (d := d + 2) x1 1 (by decide)) ?_
  refine wp_run rfl ?_
  by_cases hia : a < aActs (vA V)
  · refine wp_icge rfl (fun hz_ => absurd hz_ (nI_ge (b := aActs (vA V)) hia (by omega))) (fun _ => ?_)
    refine wp_run rfl ?_
    refine wp_v2 rfl e1 (Nat.le_of_ble_eq_true rfl) (L_ofAct (d := d + 2) x1 (a := a) hia 1 (by decide)) ?_
    refine wp_run rfl ?_
    refine wp_icne rfl (fun hz_ => absurd hz_ (fun z => z (show nI (va_up (aTg (vA V)) a (1 + t) (min a 5)) = nI (1 + t) by rw [show min a 5 = a by omega, va_is]))) (fun _ => ?_)
    refine wp_run rfl ?_
    exact wp_ret rfl rfl ⟨rfl, rfl⟩
  · refine wp_icge rfl (fun _ => ?_) (fun hz_ => absurd (nI_le (a := aActs (vA V)) (by omega) (by omega)) hz_)
    refine wp_run rfl ?_
    exact wp_ret rfl rfl ⟨rfl, rfl⟩
theorem cnt_set (A : axAD) : ∀ k, k < 3 → cntA A (7 + k) = nI (aSetV A k)
  | 0, _ => rfl
  | 1, _ => rfl
  | 2, _ => rfl
  | n + 3, h => absurd h (by omega)
theorem set_is (A : axAD) (u : Nat) : ∀ k, k < 3 → aSetV (aSetS A k u) k = u
  | 0, _ => rfl
  | 1, _ => rfl
  | 2, _ => rfl
  | n + 3, h => absurd h (by omega)
set_option maxRecDepth 40000 in
theorem A_set {L : Nat} {xs : Nat → Int32} (hx : XS V [] m h) : ∃ V' h', axW (axRoL L xs) (axEv (axRoL L xs) (d + 9)) cdL_act 1173 [some (.ref 0), some (.int v), some (.int w), some (.int (nI (aN (vA V)))), some (.int (nI s)), some (.int (nI (aR (vA V) i))), some (.int (nI (aR (vA V) j))), some (.int (cntA (vA V) 2)), some (.int (cntA (vA V) 1)), none, none, none, none, none, none, none] [.int 3, .int w] h (fun r' h'' => r' = some (.int 1) ∧ h'' = h') ∧ XS V' [] (m + 1200) h' := by
  have hO := XS_ok hx
  obtain ⟨f0, e0⟩ := XS_o4 hx
  obtain ⟨c, hc, evc⟩ := L_low (ro := axRoL L xs) (d := d + 8) (h := h) w (n := 3) (by decide) (by decide)
  obtain ⟨q, hq, evq⟩ := L_low (ro := axRoL L xs) (d := d + 8) (h := h) (w >>> ((2 : Int32) &&& 31)) (n := 2) (by decide) (by decide)
  have pre : ∃ t, aLs c ≤ t ∧ t ≤ aMs c ∧ ∀ Q : Option Value → axH → Prop, axW (axRoL L xs) (axEv (axRoL L xs) (d + 9)) cdL_act 1229 [some (.ref 0), some (.int v), some (.int w), some (.int (nI (aN (vA V)))), some (.int (nI s)), some (.int (nI (aR (vA V) i))), some (.int (nI (aR (vA V) j))), some (.int (cntA (vA V) 2)), some (.int (cntA (vA V) 1)), some (.int (nI c)), some (.int (nI t)), none, none, none, none, none] [.int (7 + nI c), .ref 0] h Q → axW (axRoL L xs) (axEv (axRoL L xs) (d + 9)) cdL_act 1173 [some (.ref 0), some (.int v), some (.int w), some (.int (nI (aN (vA V)))), some (.int (nI s)), some (.int (nI (aR (vA V) i))), some (.int (nI (aR (vA V) j))), some (.int (cntA (vA V) 2)), some (.int (cntA (vA V) 1)), none, none, none, none, none, none, none] [.int 3, .int w] h Q := by
    match c, hc, evc with
    | 0, _, evc =>
      obtain ⟨t, ht, evl⟩ := L_low (ro := axRoL L xs) (d := d + 8) (h := h) (w >>> ((3 : Int32) &&& 31)) (n := 57) (by decide) (by decide)
      refine ⟨4 + t, by show 4 ≤ 4 + t; omega, by show 4 + t ≤ 60; omega, fun Q K => ?_⟩
      refine wp_s2 rfl (Nat.le_of_ble_eq_true rfl) (evc) ?_
      refine wp_run rfl ?_
      refine wp_ifne rfl (fun hz_ => absurd hz_ (fun z => z rfl)) (fun _ => ?_)
      refine wp_run rfl ?_
      refine wp_s2 rfl (Nat.le_of_ble_eq_true rfl) (evl) ?_
      refine wp_run rfl ?_
      rw [show (4 : Int32) + nI t = nI (4 + t) from nI_add 4 t]
      exact K
    | 1, _, evc =>
      obtain ⟨t, ht, evl⟩ := L_low (ro := axRoL L xs) (d := d + 8) (h := h) (w >>> ((3 : Int32) &&& 31)) (n := 21) (by decide) (by decide)
      refine ⟨t, Nat.zero_le _, by show t ≤ 20; omega, fun Q K => ?_⟩
      refine wp_s2 rfl (Nat.le_of_ble_eq_true rfl) (evc) ?_
      refine wp_run rfl ?_
      refine wp_ifne rfl (fun _ => ?_) (fun hz_ => absurd ((by decide : ¬ nI 1 = 0)) hz_)
      refine wp_run rfl ?_
      refine wp_icne rfl (fun hz_ => absurd hz_ (fun z => z rfl)) (fun _ => ?_)
      refine wp_run rfl ?_
      refine wp_s2 rfl (Nat.le_of_ble_eq_true rfl) (evl) ?_
      refine wp_run rfl ?_
      exact K
    | 2, _, evc =>
      obtain ⟨t, ht, evl⟩ := L_low (ro := axRoL L xs) (d := d + 8) (h := h) (w >>> ((3 : Int32) &&& 31)) (n := 91) (by decide) (by decide)
      refine ⟨t, Nat.zero_le _, by show t ≤ 90; omega, fun Q K => ?_⟩
      refine wp_s2 rfl (Nat.le_of_ble_eq_true rfl) (evc) ?_
      refine wp_run rfl ?_
      refine wp_ifne rfl (fun _ => ?_) (fun hz_ => absurd ((by decide : ¬ nI 2 = 0)) hz_)
      refine wp_run rfl ?_
      refine wp_icne rfl (fun _ => ?_) (fun hz_ => absurd ((by decide : ¬ nI 2 = 1)) hz_)
      refine wp_run rfl ?_
      refine wp_s2 rfl (Nat.le_of_ble_eq_true rfl) (evl) ?_
      refine wp_run rfl ?_
      exact K
    | n + 3, hc, _ => exact absurd hc (by omega)
  obtain ⟨t, ht1, ht2, pre⟩ := pre
  have hms := aMs_le c
  have oc : ∀ {V1 : axV} {m1 : Nat} {h1 : axH}, XS V1 [] m1 h1 → axEv (axRoL L xs) (d + 9) kX4_count [.ref 0, .int (7 + nI c)] h1 (some (.int (nI (aSetV (vA V1) c)))) h1 := fun x1 => by
    rw [show (7 : Int32) + nI c = nI (7 + c) from nI_add 7 c, ← cnt_set _ c hc]
    exact L_cnt (d := d + 2) x1 (7 + c) (by omega)
  by_cases h0 : q = 0
  · subst h0
    obtain ⟨V', h', ev, x⟩ := L_swapsBest (ro := axRoL L xs) (d := d) hx
    refine ⟨V', h', pre _ ?_, x⟩
    refine wp_v1 rfl e0 (Nat.le_of_ble_eq_true rfl) (oc hx) ?_
    refine wp_run rfl ?_
    refine wp_s2 rfl (Nat.le_of_ble_eq_true rfl) (evq) ?_
    refine wp_run rfl ?_
    refine wp_ifne rfl (fun hz_ => absurd hz_ (fun z => z rfl)) (fun _ => ?_)
    refine wp_run rfl ?_
    refine wp_s1 rfl (Nat.le_of_ble_eq_true rfl) (ev) ?_
    refine wp_run rfl ?_
    exact wp_ret rfl rfl ⟨rfl, rfl⟩
  · have hsv : aSetV (vA V) c < 2 ^ 31 := by
      have := hO.pg; have := hO.sl; have := hO.tr
      unfold aSetV; split <;> (try split) <;> omega
    obtain ⟨h1, ev1, x1⟩ := x4_set (LL := L) (xs := xs) (d := d + 3) (mc := []) (x := nI c) (y := nI t) (r := nI (aSetV (vA V) c)) (A' := aSetS (vA V) c t) rfl hx (Or.inl ⟨c, t, hc, rfl, rfl, ht1, ht2, rfl, rfl⟩)
    rw [stp_n hsv] at x1
    obtain ⟨f1, e1⟩ := XS_o4 x1
    refine ⟨_, h1, pre _ ?_, XS_more (by omega) x1⟩
    refine wp_v1 rfl e0 (Nat.le_of_ble_eq_true rfl) (oc hx) ?_
    refine wp_run rfl ?_
    refine wp_s2 rfl (Nat.le_of_ble_eq_true rfl) (evq) ?_
    refine wp_run rfl ?_
    refine wp_ifne rfl (fun _ => ?_) (fun hz_ => absurd (nI_ne0 (by omega) (by omega)) hz_)
    refine wp_run rfl ?_
    refine wp_v2 rfl e0 (Nat.le_of_ble_eq_true rfl) (ev1) ?_
    refine wp_run rfl ?_
    refine wp_icne rfl (fun hz_ => absurd hz_ ((fun z => z rfl))) (fun _ => ?_)
    refine wp_run rfl ?_
    refine wp_v1 rfl e1 (Nat.le_of_ble_eq_true rfl) (oc x1) ?_
    refine wp_run rfl ?_
    refine wp_icne rfl (fun hz_ => absurd hz_ (fun z => z (congrArg nI (set_is _ t c hc)))) (fun _ => ?_)
    refine wp_run rfl ?_
    exact wp_ret rfl rfl ⟨rfl, rfl⟩
set_option maxRecDepth 40000 in
theorem A_add (hx : XS V [] m h) : ∃ V' h', axW ro (axEv ro (d + 9)) cdL_act 28 [some (.ref 0), some (.int v), some (.int w), some (.int (nI (aN (vA V)))), some (.int (nI s)), none, none, none, none, none, none, none, none, none, none, none] [.int (nI (aN (vA V)) + 1), .int w] h (fun r' h'' => r' = some (.int 1) ∧ h'' = h') ∧ XS V' [] (m + 1200) h' := by
  have hO := XS_ok hx
  have hn := hO.n
  obtain ⟨f0, e0⟩ := XS_o4 hx
  obtain ⟨p, hp, evp⟩ := L_low (ro := ro) (d := d + 8) (h := h) w (n := aN (vA V) + 1) (by omega) (by omega)
  obtain ⟨c, hc, evc⟩ := L_low (ro := ro) (d := d + 8) (h := h) (w >>> ((13 : Int32) &&& 31)) (n := 3) (by decide) (by decide)
  obtain ⟨q, hq, evq⟩ := L_low (ro := ro) (d := d + 8) (h := h) (w >>> ((12 : Int32) &&& 31)) (n := 4) (by decide) (by decide)
  have pre1 : ∃ t, t < 99 ∧ ∀ Q : Option Value → axH → Prop, axW ro (axEv ro (d + 9)) cdL_act 71 [some (.ref 0), some (.int v), some (.int w), some (.int (nI (aN (vA V)))), some (.int (nI s)), some (.int (nI p)), some (.int (nI (1 + t))), none, none, none, none, none, none, none, none, none] [.int 4, .int (w >>> ((12 : Int32) &&& 31)), .int (nI (1 + t)), .int (nI p), .ref 0] h Q → axW ro (axEv ro (d + 9)) cdL_act 28 [some (.ref 0), some (.int v), some (.int w), some (.int (nI (aN (vA V)))), some (.int (nI s)), none, none, none, none, none, none, none, none, none, none, none] [.int (nI (aN (vA V)) + 1), .int w] h Q := by
    by_cases h0 : c = 0
    · subst h0
      obtain ⟨t, ht, evl⟩ := L_low (ro := ro) (d := d + 8) (h := h) (w >>> ((5 : Int32) &&& 31)) (n := 99) (by decide) (by decide)
      refine ⟨t, ht, fun Q K => ?_⟩
      rw [nI_1]
      refine wp_s2 rfl (Nat.le_of_ble_eq_true rfl) (evp) ?_
      refine wp_run rfl ?_
      refine wp_s2 rfl (Nat.le_of_ble_eq_true rfl) (evc) ?_
      refine wp_run rfl ?_
      refine wp_ifne rfl (fun hz_ => absurd hz_ (fun z => z rfl)) (fun _ => ?_)
      refine wp_run rfl ?_
      refine wp_s2 rfl (Nat.le_of_ble_eq_true rfl) (evl) ?_
      refine wp_run rfl ?_
      rw [show (1 : Int32) + nI t = nI (1 + t) from nI_add 1 t]
      exact K
    · obtain ⟨t, ht, evl⟩ := L_low (ro := ro) (d := d + 8) (h := h) (w >>> ((5 : Int32) &&& 31)) (n := 40) (by decide) (by decide)
      refine ⟨t, by omega, fun Q K => ?_⟩
      rw [nI_1]
      refine wp_s2 rfl (Nat.le_of_ble_eq_true rfl) (evp) ?_
      refine wp_run rfl ?_
      refine wp_s2 rfl (Nat.le_of_ble_eq_true rfl) (evc) ?_
      refine wp_run rfl ?_
      refine wp_ifne rfl (fun _ => ?_) (fun hz_ => absurd (nI_ne0 (by omega) (by omega)) hz_)
      refine wp_run rfl ?_
      refine wp_s2 rfl (Nat.le_of_ble_eq_true rfl) (evl) ?_
      refine wp_run rfl ?_
      rw [show (1 : Int32) + nI t = nI (1 + t) from nI_add 1 t]
      exact K
  obtain ⟨t, ht, pre1⟩ := pre1
  have pre : ∃ u, u ≤ 1 ∧ ∀ Q : Option Value → axH → Prop, axW ro (axEv ro (d + 9)) cdL_act 82 [some (.ref 0), some (.int v), some (.int w), some (.int (nI (aN (vA V)))), some (.int (nI s)), some (.int (nI p)), some (.int (nI (1 + t))), none, none, none, none, none, none, none, none, none] [.int (nI u), .int (nI (1 + t)), .int (nI p), .ref 0] h Q → axW ro (axEv ro (d + 9)) cdL_act 28 [some (.ref 0), some (.int v), some (.int w), some (.int (nI (aN (vA V)))), some (.int (nI s)), none, none, none, none, none, none, none, none, none, none, none] [.int (nI (aN (vA V)) + 1), .int w] h Q := by
    by_cases h0 : q = 0
    · subst h0
      refine ⟨1, Nat.le_refl _, fun Q K => pre1 Q ?_⟩
      refine wp_s2 rfl (Nat.le_of_ble_eq_true rfl) (evq) ?_
      refine wp_run rfl ?_
      refine wp_ifne rfl (fun hz_ => absurd hz_ (fun z => z rfl)) (fun _ => ?_)
      refine wp_run rfl ?_
      exact K
    · refine ⟨0, Nat.zero_le _, fun Q K => pre1 Q ?_⟩
      refine wp_s2 rfl (Nat.le_of_ble_eq_true rfl) (evq) ?_
      refine wp_run rfl ?_
      refine wp_ifne rfl (fun _ => ?_) (fun hz_ => absurd (nI_ne0 (by omega) (by omega)) hz_)
      refine wp_run rfl ?_
      exact K
  obtain ⟨u, hu, pre⟩ := pre
  by_cases h24 : aN (vA V) = 24
  · obtain ⟨h1, ev1, x1⟩ := x4_slug (ro := ro) (d := d + 3) (mc := []) (x := nI p) (y := nI (1 + t)) (w := nI u) (r := -4) (A' := vA V) rfl hx (Or.inr (Or.inr ⟨p, 1 + t, u, hp, rfl, by omega, by omega, rfl, hu, rfl, Or.inl ⟨h24, rfl, rfl⟩⟩))
    rw [stp_e m4_neg] at x1
    refine ⟨_, h1, pre _ ?_, XS_more (by omega) x1⟩
    refine wp_v3 rfl e0 (Nat.le_of_ble_eq_true rfl) (ev1) ?_
    refine wp_run rfl ?_
    refine wp_icne rfl (fun hz_ => absurd hz_ (fun z => z (by rw [h24]; rfl))) (fun _ => ?_)
    refine wp_run rfl ?_
    refine wp_icne rfl (fun hz_ => absurd hz_ ((fun z => z rfl))) (fun _ => ?_)
    refine wp_run rfl ?_
    exact wp_ret rfl rfl ⟨rfl, rfl⟩
  · have hn24 : aN (vA V) < 24 := by omega
    obtain ⟨z, hz⟩ : ∃ z, z = aFr (vA V) := ⟨_, rfl⟩
    have hzl : z < 24 := by rw [hz]; exact aFr_lt hO hn24
    have hzf : ¬ aIn (vA V) z := by rw [hz]; exact aFr_free hO hn24
    obtain ⟨S, eS⟩ : ∃ S, S = aAdd (vA V) p (1 + t) z (decide (u = 1)) := ⟨_, rfl⟩
    obtain ⟨h1, ev1, x1⟩ := x4_slug (ro := ro) (d := d + 3) (mc := []) (x := nI p) (y := nI (1 + t)) (w := nI u) (r := nI z) (A' := S) rfl hx (Or.inr (Or.inr ⟨p, 1 + t, u, hp, rfl, by omega, by omega, rfl, hu, rfl, Or.inr ⟨hn24, z, hz, rfl, eS⟩⟩))
    rw [stp_n (by omega)] at x1
    obtain ⟨f1, e1⟩ := XS_o4 x1
    have hOS : aOk S := XS_ok x1
    have g1 : aN S = aN (vA V) + 1 := by rw [eS]; rfl
    have g3 : aR S p = z := by rw [eS]; exact aIns_at _ _ _
    have g4 : aW S z = 1 + t ∧ aB S z = 1 + t ∧ aD S z = 0 := by rw [eS]; exact ⟨va_is, va_is, va_is⟩
    have g5 : aNdr S z (aN S) = 0 := aNdr_0 hOS fun a ha => by
      cases hbt : bt (aD S (aR S a)) z with
      | false => rfl
      | true =>
        exfalso
        by_cases ea : aR S a = z
        · rw [ea, g4.2.2, b_0] at hbt; cases hbt
        · rw [eS] at hbt ea
          have hbt : bt (va_up (aD (vA V)) z 0 (aIns (aR (vA V)) p z a)) z = true := hbt
          have ea : ¬ aIns (aR (vA V)) p z a = z := ea
          rw [va_no ea] at hbt
          rcases aIns_is (aR (vA V)) (p := p) (k := z) (i := a) (n := aN (vA V)) (by omega) (by omega) with ⟨-, e⟩ | ⟨b, hb, e⟩
          · exact ea e
          · rw [e] at hbt
            obtain ⟨c, hc, ec⟩ := hO.d hb hbt
            exact hzf ⟨c, by omega, ec⟩
    have oZ : ∀ k, k < 10 → axEv ro (d + 9) kX4_of [.ref 0, .int (nI z), .int (nI k)] h1 (some (.int (ofV S p k))) h1 := fun k hk => by
      have := L_of (ro := ro) (d := d + 3) x1 (i := p) (show p < aN S by omega) k hk
      rw [show aR (vA (stpN V S)) p = z from g3] at this
      exact this
    have oA : axEv ro (d + 9) kX4_at [.ref 0, .int (nI p)] h1 (some (.int (nI z))) h1 := by
      have := L_at (ro := ro) (d := d + 3) x1 (i := p) (show p < aN S by omega)
      rw [show aR (vA (stpN V S)) p = z from g3] at this
      exact this
    refine ⟨_, h1, pre _ ?_, XS_more (by omega) x1⟩
    refine wp_v3 rfl e0 (Nat.le_of_ble_eq_true rfl) (ev1) ?_
    refine wp_run rfl ?_
    refine wp_icne rfl (fun _ => ?_) (fun hz_ => absurd (fun z => h24 ((nI_eq (a := aN (vA V)) (b := 24) (by omega) (by omega)).mp z)) hz_)
    refine wp_run rfl ?_
    refine wp_v1 rfl e1 (Nat.le_of_ble_eq_true rfl) (oA) ?_
    refine wp_run rfl ?_
    refine wp_icne rfl (fun hz_ => absurd hz_ ((fun z => z rfl))) (fun _ => ?_)
    refine wp_run rfl ?_
    refine wp_v2 rfl e1 (Nat.le_of_ble_eq_true rfl) (oZ 1 (by decide)) ?_
    refine wp_run rfl ?_
    refine wp_icne rfl (fun hz_ => absurd hz_ (fun z => z (by show nI (aW S (aR S p)) = _; rw [g3, g4.1]))) (fun _ => ?_)
    refine wp_run rfl ?_
    refine wp_v2 rfl e1 (Nat.le_of_ble_eq_true rfl) (oZ 2 (by decide)) ?_
    refine wp_run rfl ?_
    refine wp_icne rfl (fun hz_ => absurd hz_ (fun z => z (by show nI (aB S (aR S p)) = _; rw [g3, g4.2.1]))) (fun _ => ?_)
    refine wp_run rfl ?_
    refine wp_v2 rfl e1 (Nat.le_of_ble_eq_true rfl) (oZ 4 (by decide)) ?_
    refine wp_run rfl ?_
    refine wp_ifne rfl (fun hz_ => absurd hz_ (fun z => z (by show aD S (aR S p) = _; rw [g3, g4.2.2]))) (fun _ => ?_)
    refine wp_run rfl ?_
    refine wp_v2 rfl e1 (Nat.le_of_ble_eq_true rfl) (oZ 5 (by decide)) ?_
    refine wp_run rfl ?_
    refine wp_ifne rfl (fun hz_ => absurd hz_ (fun z => z (by show aNdr S (aR S p) (aN S) = _; rw [g3, g5]))) (fun _ => ?_)
    refine wp_run rfl ?_
    exact wp_ret rfl rfl ⟨rfl, rfl⟩
end AX59
end
section
/-! THE LAW: an act, and its walk. -/
section AX60
variable {L : Nat} {xs : Nat → Int32} {d m : Nat} {h : axH} {V : axV}
set_option maxRecDepth 40000 in
theorem L_act (hx : XS V [] m h) (v w : Int32) : ∃ V' h', axEv (axRoL L xs) (d + 10) kL_act [.ref 0, .int v, .int w] h (some (.int 1)) h' ∧ XS V' [] (m + 1200) h' := by
  have hO := XS_ok hx
  have hn := hO.n
  obtain ⟨f0, e0⟩ := XS_o4 hx
  obtain ⟨s, hs, evs⟩ := L_low (ro := axRoL L xs) (d := d + 8) (h := h) v (n := 20) (by decide) (by decide)
  have pre1 : ∀ Q : Option Value → axH → Prop, axW (axRoL L xs) (axEv (axRoL L xs) (d + 9)) cdL_act 17 [some (.ref 0), some (.int v), some (.int w), some (.int (nI (aN (vA V)))), some (.int (nI s)), none, none, none, none, none, none, none, none, none, none, none] [.int 6, .int (nI s)] h Q → axW (axRoL L xs) (axEv (axRoL L xs) (d + 9)) cdL_act 0 [some (.ref 0), some (.int v), some (.int w), none, none, none, none, none, none, none, none, none, none, none, none, none] [] h Q := fun Q K => by
    refine wp_run rfl ?_
    refine wp_s1 rfl (Nat.le_of_ble_eq_true rfl) (L_many (d := d + 2) hx) ?_
    refine wp_run rfl ?_
    refine wp_s2 rfl (Nat.le_of_ble_eq_true rfl) (evs) ?_
    refine wp_run rfl ?_
    exact K
  by_cases h6 : s < 6
  · obtain ⟨V', h', K, x⟩ := A_add (ro := axRoL L xs) (d := d) (v := v) (w := w) (s := s) hx
    refine ⟨V', h', ?_, x⟩
    refine ev_in rfl rfl (Nat.le_of_ble_eq_true rfl) rfl ?_
    refine pre1 _ ?_
    refine wp_iclt rfl (fun _ => ?_) (fun hz_ => absurd (nI_lt (b := 6) h6 (by omega)) hz_)
    refine wp_run rfl ?_
    exact K
  by_cases hn0 : aN (vA V) = 0
  · obtain ⟨V', h', K, x⟩ := A_add (ro := axRoL L xs) (d := d) (v := v) (w := w) (s := s) hx
    refine ⟨V', h', ?_, x⟩
    refine ev_in rfl rfl (Nat.le_of_ble_eq_true rfl) rfl ?_
    refine pre1 _ ?_
    refine wp_iclt rfl (fun hz_ => absurd hz_ (nI_nlt (b := 6) (by omega) (by omega))) (fun _ => ?_)
    refine wp_run rfl ?_
    refine wp_ifne rfl (fun hz_ => absurd hz_ (fun z => z (by rw [hn0]; rfl))) (fun _ => ?_)
    refine wp_run rfl ?_
    exact K
  obtain ⟨i, hi, evi⟩ := L_low (ro := axRoL L xs) (d := d + 8) (h := h) w (n := aN (vA V)) (by omega) (by omega)
  obtain ⟨j, hj, evj⟩ := L_low (ro := axRoL L xs) (d := d + 8) (h := h) (w >>> ((5 : Int32) &&& 31)) (n := aN (vA V)) (by omega) (by omega)
  have p6 : ∀ Q : Option Value → axH → Prop, axW (axRoL L xs) (axEv (axRoL L xs) (d + 9)) cdL_act 211 [some (.ref 0), some (.int v), some (.int w), some (.int (nI (aN (vA V)))), some (.int (nI s)), some (.int (nI (aR (vA V) i))), some (.int (nI (aR (vA V) j))), some (.int (cntA (vA V) 2)), some (.int (cntA (vA V) 1)), none, none, none, none, none, none, none] [.int 6, .int (nI s)] h Q → axW (axRoL L xs) (axEv (axRoL L xs) (d + 9)) cdL_act 0 [some (.ref 0), some (.int v), some (.int w), none, none, none, none, none, none, none, none, none, none, none, none, none] [] h Q := fun Q K => by
    refine pre1 _ ?_
    refine wp_iclt rfl (fun hz_ => absurd hz_ (nI_nlt (b := 6) (by omega) (by omega))) (fun _ => ?_)
    refine wp_run rfl ?_
    refine wp_ifne rfl (fun _ => ?_) (fun hz_ => absurd (nI_ne0 (by omega) (by omega)) hz_)
    refine wp_run rfl ?_
    refine wp_s2 rfl (Nat.le_of_ble_eq_true rfl) (evi) ?_
    refine wp_run rfl ?_
    refine wp_v1 rfl e0 (Nat.le_of_ble_eq_true rfl) (L_at (d := d + 3) hx hi) ?_
    refine wp_run rfl ?_
    refine wp_s2 rfl (Nat.le_of_ble_eq_true rfl) (evj) ?_
    refine wp_run rfl ?_
    refine wp_v1 rfl e0 (Nat.le_of_ble_eq_true rfl) (L_at (d := d + 3) hx hj) ?_
    refine wp_run rfl ?_
    refine wp_v1 rfl e0 (Nat.le_of_ble_eq_true rfl) (L_cnt (d := d + 2) hx 2 (by decide)) ?_
    refine wp_run rfl ?_
    refine wp_v1 rfl e0 (Nat.le_of_ble_eq_true rfl) (L_cnt (d := d + 2) hx 1 (by decide)) ?_
    refine wp_run rfl ?_
    exact K
  have ne : ∀ k, k < 20 → s ≠ k → ¬ nI s = nI k := fun k hk hsk z => hsk ((nI_eq (by omega) (by omega)).mp z)

  by_cases h6 : s = 6
  · subst h6
    obtain ⟨V', h', K, x⟩ := A_drop (ro := axRoL L xs) (d := d) (v := v) (w := w) (s := 6) (i := i) (j := j) hx hi
    refine ⟨V', h', ?_, x⟩
    refine ev_in rfl rfl (Nat.le_of_ble_eq_true rfl) rfl ?_
    refine p6 _ ?_
    refine wp_icne rfl (fun hz_ => absurd hz_ ((fun z => z rfl))) (fun _ => ?_)
    refine wp_run rfl ?_
    exact K

  have p7 : ∀ Q : Option Value → axH → Prop, axW (axRoL L xs) (axEv (axRoL L xs) (d + 9)) cdL_act 269 [some (.ref 0), some (.int v), some (.int w), some (.int (nI (aN (vA V)))), some (.int (nI s)), some (.int (nI (aR (vA V) i))), some (.int (nI (aR (vA V) j))), some (.int (cntA (vA V) 2)), some (.int (cntA (vA V) 1)), none, none, none, none, none, none, none] [.int 7, .int (nI s)] h Q → axW (axRoL L xs) (axEv (axRoL L xs) (d + 9)) cdL_act 0 [some (.ref 0), some (.int v), some (.int w), none, none, none, none, none, none, none, none, none, none, none, none, none] [] h Q := fun Q K => by
    refine p6 _ ?_
    refine wp_icne rfl (fun _ => ?_) (fun hz_ => absurd (ne 6 (by decide) h6) hz_)
    refine wp_run rfl ?_
    exact K

  by_cases h7 : s = 7
  · subst h7
    obtain ⟨V', h', K, x⟩ := A_turn (ro := axRoL L xs) (d := d) (v := v) (w := w) (s := 7) (i := i) (j := j) hx hi
    refine ⟨V', h', ?_, x⟩
    refine ev_in rfl rfl (Nat.le_of_ble_eq_true rfl) rfl ?_
    refine p7 _ ?_
    refine wp_icne rfl (fun hz_ => absurd hz_ ((fun z => z rfl))) (fun _ => ?_)
    refine wp_run rfl ?_
    exact K

  have p8 : ∀ Q : Option Value → axH → Prop, axW (axRoL L xs) (axEv (axRoL L xs) (d + 9)) cdL_act 336 [some (.ref 0), some (.int v), some (.int w), some (.int (nI (aN (vA V)))), some (.int (nI s)), some (.int (nI (aR (vA V) i))), some (.int (nI (aR (vA V) j))), some (.int (cntA (vA V) 2)), some (.int (cntA (vA V) 1)), none, none, none, none, none, none, none] [.int 11, .int (nI s)] h Q → axW (axRoL L xs) (axEv (axRoL L xs) (d + 9)) cdL_act 0 [some (.ref 0), some (.int v), some (.int w), none, none, none, none, none, none, none, none, none, none, none, none, none] [] h Q := fun Q K => by
    refine p7 _ ?_
    refine wp_icne rfl (fun _ => ?_) (fun hz_ => absurd (ne 7 (by decide) h7) hz_)
    refine wp_run rfl ?_
    exact K

  by_cases h8 : s < 11
  · obtain ⟨V', h', K, x⟩ := A_need (ro := axRoL L xs) (d := d) (v := v) (w := w) (s := s) (i := i) (j := j) hx hi hj
    refine ⟨V', h', ?_, x⟩
    refine ev_in rfl rfl (Nat.le_of_ble_eq_true rfl) rfl ?_
    refine p8 _ ?_
    refine wp_icge rfl (fun hz_ => absurd hz_ (nI_ge (b := 11) (by omega) (by omega))) (fun _ => ?_)
    refine wp_run rfl ?_
    exact K

  have p11 : ∀ Q : Option Value → axH → Prop, axW (axRoL L xs) (axEv (axRoL L xs) (d + 9)) cdL_act 479 [some (.ref 0), some (.int v), some (.int w), some (.int (nI (aN (vA V)))), some (.int (nI s)), some (.int (nI (aR (vA V) i))), some (.int (nI (aR (vA V) j))), some (.int (cntA (vA V) 2)), some (.int (cntA (vA V) 1)), none, none, none, none, none, none, none] [.int 11, .int (nI s)] h Q → axW (axRoL L xs) (axEv (axRoL L xs) (d + 9)) cdL_act 0 [some (.ref 0), some (.int v), some (.int w), none, none, none, none, none, none, none, none, none, none, none, none, none] [] h Q := fun Q K => by
    refine p8 _ ?_
    refine wp_icge rfl (fun _ => ?_) (fun hz_ => absurd (nI_le (a := 11) (by omega) (by omega)) hz_)
    refine wp_run rfl ?_
    exact K

  by_cases h11 : s = 11
  · subst h11
    obtain ⟨V', h', K, x⟩ := A_trim (ro := axRoL L xs) (d := d) (v := v) (w := w) (s := 11) (i := i) (j := j) hx hi
    refine ⟨V', h', ?_, x⟩
    refine ev_in rfl rfl (Nat.le_of_ble_eq_true rfl) rfl ?_
    refine p11 _ ?_
    refine wp_icne rfl (fun hz_ => absurd hz_ ((fun z => z rfl))) (fun _ => ?_)
    refine wp_run rfl ?_
    exact K

  have p12 : ∀ Q : Option Value → axH → Prop, axW (axRoL L xs) (axEv (axRoL L xs) (d + 9)) cdL_act 649 [some (.ref 0), some (.int v), some (.int w), some (.int (nI (aN (vA V)))), some (.int (nI s)), some (.int (nI (aR (vA V) i))), some (.int (nI (aR (vA V) j))), some (.int (cntA (vA V) 2)), some (.int (cntA (vA V) 1)), none, none, none, none, none, none, none] [.int 12, .int (nI s)] h Q → axW (axRoL L xs) (axEv (axRoL L xs) (d + 9)) cdL_act 0 [some (.ref 0), some (.int v), some (.int w), none, none, none, none, none, none, none, none, none, none, none, none, none] [] h Q := fun Q K => by
    refine p11 _ ?_
    refine wp_icne rfl (fun _ => ?_) (fun hz_ => absurd (ne 11 (by decide) h11) hz_)
    refine wp_run rfl ?_
    exact K

  by_cases h12 : s = 12
  · subst h12
    obtain ⟨V', h', K, x⟩ := A_give (ro := axRoL L xs) (d := d) (v := v) (w := w) (s := 12) (i := i) (j := j) hx hi
    refine ⟨V', h', ?_, x⟩
    refine ev_in rfl rfl (Nat.le_of_ble_eq_true rfl) rfl ?_
    refine p12 _ ?_
    refine wp_icne rfl (fun hz_ => absurd hz_ ((fun z => z rfl))) (fun _ => ?_)
    refine wp_run rfl ?_
    exact K

  have p13 : ∀ Q : Option Value → axH → Prop, axW (axRoL L xs) (axEv (axRoL L xs) (d + 9)) cdL_act 720 [some (.ref 0), some (.int v), some (.int w), some (.int (nI (aN (vA V)))), some (.int (nI s)), some (.int (nI (aR (vA V) i))), some (.int (nI (aR (vA V) j))), some (.int (cntA (vA V) 2)), some (.int (cntA (vA V) 1)), none, none, none, none, none, none, none] [.int 15, .int (nI s)] h Q → axW (axRoL L xs) (axEv (axRoL L xs) (d + 9)) cdL_act 0 [some (.ref 0), some (.int v), some (.int w), none, none, none, none, none, none, none, none, none, none, none, none, none] [] h Q := fun Q K => by
    refine p12 _ ?_
    refine wp_icne rfl (fun _ => ?_) (fun hz_ => absurd (ne 12 (by decide) h12) hz_)
    refine wp_run rfl ?_
    exact K

  by_cases h13 : s < 15
  · obtain ⟨V', h', K, x⟩ := A_move (ro := axRoL L xs) (d := d) (v := v) (w := w) (s := s) (i := i) (j := j) hx hi
    refine ⟨V', h', ?_, x⟩
    refine ev_in rfl rfl (Nat.le_of_ble_eq_true rfl) rfl ?_
    refine p13 _ ?_
    refine wp_icge rfl (fun hz_ => absurd hz_ (nI_ge (b := 15) (by omega) (by omega))) (fun _ => ?_)
    refine wp_run rfl ?_
    exact K

  have p15 : ∀ Q : Option Value → axH → Prop, axW (axRoL L xs) (axEv (axRoL L xs) (d + 9)) cdL_act 742 [some (.ref 0), some (.int v), some (.int w), some (.int (nI (aN (vA V)))), some (.int (nI s)), some (.int (nI (aR (vA V) i))), some (.int (nI (aR (vA V) j))), some (.int (cntA (vA V) 2)), some (.int (cntA (vA V) 1)), none, none, none, none, none, none, none] [.int 15, .int (nI s)] h Q → axW (axRoL L xs) (axEv (axRoL L xs) (d + 9)) cdL_act 0 [some (.ref 0), some (.int v), some (.int w), none, none, none, none, none, none, none, none, none, none, none, none, none] [] h Q := fun Q K => by
    refine p13 _ ?_
    refine wp_icge rfl (fun _ => ?_) (fun hz_ => absurd (nI_le (a := 15) (by omega) (by omega)) hz_)
    refine wp_run rfl ?_
    exact K

  by_cases h15 : s = 15
  · subst h15
    obtain ⟨V', h', K, x⟩ := A_swap (ro := axRoL L xs) (d := d) (v := v) (w := w) (s := 15) (i := i) (j := j) hx hi hj
    refine ⟨V', h', ?_, x⟩
    refine ev_in rfl rfl (Nat.le_of_ble_eq_true rfl) rfl ?_
    refine p15 _ ?_
    refine wp_icne rfl (fun hz_ => absurd hz_ ((fun z => z rfl))) (fun _ => ?_)
    refine wp_run rfl ?_
    exact K

  have p16 : ∀ Q : Option Value → axH → Prop, axW (axRoL L xs) (axEv (axRoL L xs) (d + 9)) cdL_act 841 [some (.ref 0), some (.int v), some (.int w), some (.int (nI (aN (vA V)))), some (.int (nI s)), some (.int (nI (aR (vA V) i))), some (.int (nI (aR (vA V) j))), some (.int (cntA (vA V) 2)), some (.int (cntA (vA V) 1)), none, none, none, none, none, none, none] [.int 16, .int (nI s)] h Q → axW (axRoL L xs) (axEv (axRoL L xs) (d + 9)) cdL_act 0 [some (.ref 0), some (.int v), some (.int w), none, none, none, none, none, none, none, none, none, none, none, none, none] [] h Q := fun Q K => by
    refine p15 _ ?_
    refine wp_icne rfl (fun _ => ?_) (fun hz_ => absurd (ne 15 (by decide) h15) hz_)
    refine wp_run rfl ?_
    exact K

  by_cases h16 : s = 16
  · subst h16
    obtain ⟨V', h', K, x⟩ := A_split (ro := axRoL L xs) (d := d) (v := v) (w := w) (s := 16) (i := i) (j := j) hx hi
    refine ⟨V', h', ?_, x⟩
    refine ev_in rfl rfl (Nat.le_of_ble_eq_true rfl) rfl ?_
    refine p16 _ ?_
    refine wp_icne rfl (fun hz_ => absurd hz_ ((fun z => z rfl))) (fun _ => ?_)
    refine wp_run rfl ?_
    exact K

  have p17 : ∀ Q : Option Value → axH → Prop, axW (axRoL L xs) (axEv (axRoL L xs) (d + 9)) cdL_act 1074 [some (.ref 0), some (.int v), some (.int w), some (.int (nI (aN (vA V)))), some (.int (nI s)), some (.int (nI (aR (vA V) i))), some (.int (nI (aR (vA V) j))), some (.int (cntA (vA V) 2)), some (.int (cntA (vA V) 1)), none, none, none, none, none, none, none] [.int 17, .int (nI s)] h Q → axW (axRoL L xs) (axEv (axRoL L xs) (d + 9)) cdL_act 0 [some (.ref 0), some (.int v), some (.int w), none, none, none, none, none, none, none, none, none, none, none, none, none] [] h Q := fun Q K => by
    refine p16 _ ?_
    refine wp_icne rfl (fun _ => ?_) (fun hz_ => absurd (ne 16 (by decide) h16) hz_)
    refine wp_run rfl ?_
    exact K

  by_cases h17 : s = 17
  · subst h17
    obtain ⟨V', h', K, x⟩ := A_fits (ro := axRoL L xs) (d := d) (v := v) (w := w) (s := 17) (i := i) (j := j) hx
    refine ⟨V', h', ?_, x⟩
    refine ev_in rfl rfl (Nat.le_of_ble_eq_true rfl) rfl ?_
    refine p17 _ ?_
    refine wp_icne rfl (fun hz_ => absurd hz_ ((fun z => z rfl))) (fun _ => ?_)
    refine wp_run rfl ?_
    exact K

  have p18 : ∀ Q : Option Value → axH → Prop, axW (axRoL L xs) (axEv (axRoL L xs) (d + 9)) cdL_act 1091 [some (.ref 0), some (.int v), some (.int w), some (.int (nI (aN (vA V)))), some (.int (nI s)), some (.int (nI (aR (vA V) i))), some (.int (nI (aR (vA V) j))), some (.int (cntA (vA V) 2)), some (.int (cntA (vA V) 1)), none, none, none, none, none, none, none] [.int 18, .int (nI s)] h Q → axW (axRoL L xs) (axEv (axRoL L xs) (d + 9)) cdL_act 0 [some (.ref 0), some (.int v), some (.int w), none, none, none, none, none, none, none, none, none, none, none, none, none] [] h Q := fun Q K => by
    refine p17 _ ?_
    refine wp_icne rfl (fun _ => ?_) (fun hz_ => absurd (ne 17 (by decide) h17) hz_)
    refine wp_run rfl ?_
    exact K

  by_cases h18 : s = 18
  · subst h18
    obtain ⟨V', h', K, x⟩ := A_target (ro := axRoL L xs) (d := d) (v := v) (w := w) (s := 18) (i := i) (j := j) hx
    refine ⟨V', h', ?_, x⟩
    refine ev_in rfl rfl (Nat.le_of_ble_eq_true rfl) rfl ?_
    refine p18 _ ?_
    refine wp_icne rfl (fun hz_ => absurd hz_ ((fun z => z rfl))) (fun _ => ?_)
    refine wp_run rfl ?_
    exact K

  obtain ⟨V', h', K, x⟩ := A_set (L := L) (xs := xs) (d := d) (v := v) (w := w) (s := s) (i := i) (j := j) hx
  refine ⟨V', h', ?_, x⟩
  refine ev_in rfl rfl (Nat.le_of_ble_eq_true rfl) rfl ?_
  refine p18 _ ?_
  refine wp_icne rfl (fun _ => ?_) (fun hz_ => absurd (ne 18 (by decide) h18) hz_)
  refine wp_run rfl ?_
  exact K
set_option maxRecDepth 40000 in
theorem XS_room (hx : XS V [] m h) : h.length ≤ 15 + 7 * m ∧ axSl h ≤ 246 + 114 * m := by
  obtain ⟨B, nx, sf, lf, f, cu, la, ki, fi, se, G, bs, rfl, hC, hO, hK, hT, hb1, hb2⟩ := hx
  refine ⟨by rw [hX_len]; show 15 + bs.length ≤ _; omega, ?_⟩
  show axSl (hX B (sf, nI nx, nI (vK V)) lf (f, nI (vP V), cu, la, ki, fi, se) G [] ++ bs) ≤ _
  rw [axSl_apps, show axSl (hX B (sf, nI nx, nI (vK V)) lf (f, nI (vP V), cu, la, ki, fi, se) G []) = 246 from rfl]
  omega
/-! the start -/
def aIni : axAD := (0, fun _ => 0, fun _ => 0, fun _ => 0, fun _ => 0, fun _ => false, 16, 2, 50, fun _ => 60)
def vIni : axV := (aIni, 0, fun _ => aIni, fun _ => none, 0, fun _ => 0)

theorem aOk_ini : aOk aIni := ⟨by show 0 ≤ 24; omega, fun i hi => absurd hi (Nat.not_lt_zero i), fun i _ hi => absurd hi (Nat.not_lt_zero i), fun i hi => absurd hi (Nat.not_lt_zero i), fun i _ hi => absurd hi (Nat.not_lt_zero i), ⟨by show 4 ≤ 16; omega, by show 16 ≤ 60; omega⟩, by show 2 ≤ 20; omega, by show 50 ≤ 90; omega, fun a _ => ⟨by show 1 ≤ 60; omega, by show 60 ≤ 999; omega⟩⟩

theorem CR_ini : CR bIni aIni := by
  refine ⟨rfl, fun i hi => absurd hi (Nat.not_lt_zero i), fun i hi => absurd hi (Nat.not_lt_zero i), fun k => ?_, fun k => ?_, ⟨rfl, rfl, rfl⟩, fun a ha => ?_⟩
  · show bt 0 k = true ↔ _
    rw [b_0]
    exact ⟨fun h => Bool.noConfusion h, fun ⟨i, hi, _⟩ => absurd hi (Nat.not_lt_zero i)⟩
  · show bt 0 k = true ↔ _
    rw [b_0]
    exact ⟨fun h => Bool.noConfusion h, fun ⟨⟨i, hi, _⟩, _⟩ => absurd hi (Nat.not_lt_zero i)⟩
  · match a, ha with
    | 0, _ => rfl
    | 1, _ => rfl
    | 2, _ => rfl
    | 3, _ => rfl
    | 4, _ => rfl
    | 5, _ => rfl
    | n + 6, h => exact absurd h (by omega)

theorem XS_ini : XS vIni [] 0 (hX bIni (nO, 0, 0) nO pIni gIni []) := by
  refine ⟨bIni, 0, nO, nO, z0F, 0, 0, 0, 0, 0, gIni, [], rfl, CR_ini, aOk_ini, ⟨by omega, by show 0 ≤ 6; omega, ⟨fun i _ o ho => ?_, fun i j _ _ _ o q ho => ?_⟩, fun j hj => absurd hj (Nat.not_lt_zero j), fun i _ => ⟨fun _ => rfl, fun A hA => by cases hA⟩⟩, ⟨by show 0 ≤ 80; omega, fun i hi => absurd hi (Nat.not_lt_zero i)⟩, Nat.le_refl 0, Nat.le_refl 0⟩
  · unfold zO nO at ho; split at ho <;> cases ho
  · unfold zO nO at ho; split at ho <;> cases ho
set_option maxRecDepth 40000 in
theorem L_end (hx : XS V [] m h) (hm : m ≤ 1 + 1200 * 40) : axW (axRoL L xs) (axEv (axRoL L xs) 10) cdL_law 92 [some (.retAddr 0), some (.ref 0), some (.int (nI 40))] [.ref 0] h (fun r h => r = some (.int 1) ∧ h.length ≤ 600000 ∧ axSl h ≤ 7302249) := by
  obtain ⟨V', h', ev, x⟩ := L_swapsBest (ro := axRoL L xs) (d := 1) hx
  obtain ⟨r1, r2⟩ := XS_room x
  have q1 : h'.length ≤ 600000 := by omega
  have q0 : m + 1200 ≤ 49201 := by omega
  have q2 : axSl h' ≤ 7302249 := Nat.le_trans r2 (Nat.le_trans (Nat.add_le_add_left (Nat.mul_le_mul_left 114 q0) 246) (Nat.le_of_ble_eq_true rfl))
  refine wp_s1 rfl (Nat.le_of_ble_eq_true rfl) (ev) ?_
  refine wp_run rfl ?_
  refine wp_ifeq rfl (fun hz_ => absurd hz_ ((by decide : ¬ (1 : Int32) = 0))) (fun _ => ?_)
  refine wp_run rfl ?_
  refine wp_s1 rfl (Nat.le_of_ble_eq_true rfl) (L_holds (d := 1) x) ?_
  refine wp_run rfl ?_
  refine wp_ifeq rfl (fun hz_ => absurd hz_ ((by decide : ¬ (1 : Int32) = 0))) (fun _ => ?_)
  refine wp_run rfl ?_
  exact wp_ret rfl rfl ⟨rfl, q1, q2⟩
theorem L_loop (hL : L ≤ 260) : ∀ (j e : Nat), e + j = 40 → ∀ (V : axV) (m : Nat) (h : axH), XS V [] m h → m ≤ 1 + 1200 * e → axW (axRoL L xs) (axEv (axRoL L xs) 10) cdL_law 41 [some (.retAddr 0), some (.ref 0), some (.int (nI e))] [.int 40, .int (nI e)] h (fun r h => r = some (.int 1) ∧ h.length ≤ 600000 ∧ axSl h ≤ 7302249) := by
  intro j
  induction j with
  | zero =>
    intro e he V m h hx hm
    have he : e = 40 := by omega
    subst he
    refine wp_icge rfl (fun _ => ?_) (fun hz_ => absurd ((Int32.le_refl _ : (40 : Int32) ≤ nI 40)) hz_)
    refine wp_run rfl ?_
    exact L_end hx hm
  | succ j ih =>
    intro e he V m h hx hm
    obtain ⟨w, evw⟩ := L_cell (d := 9) (h := h) (xs := xs) hL (show 2 * e + 1 < 1000 by omega)
    have fin : ∀ v : Int32, axW (axRoL L xs) (axEv (axRoL L xs) 10) cdL_law 67 [some (.retAddr 0), some (.ref 0), some (.int (nI e))] [.int (nI (2 * e + 1)), .retAddr 0, .int v, .ref 0] h (fun r h => r = some (.int 1) ∧ h.length ≤ 600000 ∧ axSl h ≤ 7302249) := by
      intro v
      obtain ⟨V', h', ev, x⟩ := L_act (L := L) (xs := xs) (d := 0) hx v w
      refine wp_s2 rfl (Nat.le_of_ble_eq_true rfl) (evw) ?_
      refine wp_run rfl ?_
      refine wp_s3 rfl (Nat.le_of_ble_eq_true rfl) (ev) ?_
      refine wp_run rfl ?_
      refine wp_ifeq rfl (fun hz_ => absurd hz_ ((by decide : ¬ (1 : Int32) = 0))) (fun _ => ?_)
      refine wp_run rfl ?_
      refine wp_s1 rfl (Nat.le_of_ble_eq_true rfl) (L_holds (d := 1) x) ?_
      refine wp_run rfl ?_
      refine wp_ifne rfl (fun _ => ?_) (fun hz_ => absurd ((by decide : ¬ (1 : Int32) = 0)) hz_)
      refine wp_run rfl ?_
      rw [nI_1]
      exact ih (e + 1) (by omega) V' _ h' x (by omega)
    refine wp_icge rfl (fun hz_ => absurd hz_ (nI_ge (a := e) (b := 40) (by omega) (by omega))) (fun _ => ?_)
    refine wp_run rfl ?_
    by_cases h5 : e < 5
    · refine wp_icge rfl (fun hz_ => absurd hz_ (nI_ge (a := e) (b := 5) h5 (by omega))) (fun _ => ?_)
      refine wp_run rfl ?_
      rw [show (2 : Int32) * nI e = nI (2 * e) from pk_mul 2 e, nI_1]
      exact fin 0
    · obtain ⟨v, evv⟩ := L_cell (d := 9) (h := h) (xs := xs) hL (show 2 * e < 1000 by omega)
      refine wp_icge rfl (fun _ => ?_) (fun hz_ => absurd (nI_le (a := 5) (b := e) (by omega) (by omega)) hz_)
      refine wp_run rfl ?_
      rw [show (2 : Int32) * nI e = nI (2 * e) from pk_mul 2 e]
      refine wp_s2 rfl (Nat.le_of_ble_eq_true rfl) (evv) ?_
      refine wp_run rfl ?_
      rw [show (2 : Int32) * nI e = nI (2 * e) from pk_mul 2 e, nI_1]
      exact fin v
theorem ax_law_run (L : Nat) (xs : Nat → Int32) (hL : L ≤ 260) : axW (axRoL L xs) (axEv (axRoL L xs) 10) cdL_law 0 [some (.retAddr 0), none, none] [] [] (fun r h => r = some (.int 1) ∧ h.length ≤ 600000 ∧ axSl h ≤ 7302249) := by
  have hx := XS_ini
  obtain ⟨f0, e0⟩ := XS_o4 hx
  obtain ⟨h1, ev1, x1⟩ := L_best (ro := axRoL L xs) (d := 3) hx 2 (by decide)
  obtain ⟨f1, e1⟩ := XS_o4 x1
  have hb : bsV (vA vIni) 2 = -6 := rfl
  refine wp_run rfl ?_
  refine wp_new (q := 0) (h1 := [.inr (.inr (4, axDf 4))]) rfl rfl rfl ?_
  refine wp_run rfl ?_
  refine wp_i0 rfl (Nat.le_of_ble_eq_true rfl) (x4_init (d := 8)) ?_
  refine wp_run rfl ?_
  refine wp_s1 rfl (Nat.le_of_ble_eq_true rfl) (L_holds (d := 1) hx) ?_
  refine wp_run rfl ?_
  refine wp_ifeq rfl (fun hz_ => absurd hz_ ((by decide : ¬ (1 : Int32) = 0))) (fun _ => ?_)
  refine wp_run rfl ?_
  refine wp_v1 rfl e0 (Nat.le_of_ble_eq_true rfl) (ev1) ?_
  refine wp_run rfl ?_
  refine wp_icne rfl (fun hz_ => absurd hz_ (fun z => z hb)) (fun _ => ?_)
  refine wp_run rfl ?_
  refine wp_v1 rfl e1 (Nat.le_of_ble_eq_true rfl) (L_fitted (d := 4) (r := -1) (A' := vA vIni) x1 (Or.inl ⟨Or.inr (Int32.le_refl _), rfl, rfl⟩)) ?_
  refine wp_run rfl ?_
  refine wp_iceq rfl (fun _ => ?_) (fun hz_ => absurd (rfl) hz_)
  refine wp_run rfl ?_
  exact L_loop hL 40 0 rfl vIni 1 h1 x1 (by omega)
end AX60
end
section
/-! THE CLAIM. -/
theorem whole_start {p : Program} {e : Env} {s : State} {m : MethodId} {below : List Frame} {meth : Method} {c : Code} (l : Launch) (hflags : l.flags = flags0) {b L : Nat} {xs : Nat → Int32} (hL : L ≤ 260) (C0 : lw_At p s m meth c b L xs) : W p l e room_1 s m #[Value.ref b] below meth c s.heap [] 0 0 (lw_Z below #[Value.ref b] s) (entryFrame m ([Value.ref b] : List Value).toArray 3) := ax_law l hL C0 (ax_law_run L xs hL)
set_option maxHeartbeats 4000000 in
theorem lw_walk (l : Launch) (hflags : l.flags = flags0) (b : Addr) (xs : List Int32) : MetFree l x (headSpec (Jvm.Cond.code x code maxLocals ret :: tables_1) room_1) (lw_P b xs) (fun _ _ _ _ _ => True) lw_Q := by
  refine MetFree.of_bodyS (code := code) (maxLocals := maxLocals) (ret := ret) (by decide) ?_ ?_
  · intro args s m h hn
    obtain ⟨meth, c, h1, h2, h3, h4, h5, h6, -, -⟩ := Cond.code_spec hn (atoms_spec (ws := Jvm.Cond.code x code maxLocals ret :: tables_1) h _ List.mem_cons_self)
    exact ⟨meth, c, h1, h2, h3, h4, h5, h6⟩
  · intro p e s m args below meth c s₁ B hml0 hP _
    obtain ⟨rfl, hx, hbd, hgv⟩ := hP
    obtain ⟨scr, harrAt, hlist, hof, hsmall⟩ := hx
    obtain ⟨hcb, hkn, -, -⟩ := State.arrayAt?_spec harrAt
    have hown : s.vm.findClass R_law = some m.cls := findClass_of_methodNamed B.named
    have hts0 : ∀ c ∈ (Jvm.Cond.code x code maxLocals ret :: tables_1), c.before #[Value.ref b] s = true := atoms_spec (ws := Jvm.Cond.code x code maxLocals ret :: tables_1) B.pre
    have hts : ∀ w ∈ lw_tbl, w.before #[Value.ref b] s = true := k2_hts_sels lw_privs (fun w hw => hts0 w (List.mem_cons_of_mem _ hw)) lw_privs_ok
    have hml : c.maxLocals = 3 := B.maxLocals_eq (hts0 _ List.mem_cons_self)
    have X₀ : Stand p l e room_1 s m #[Value.ref b] below meth c s₁ [] 0 0 := Stand.of_body B
    have hh0 : s₁.heap = s.heap := by rw [B.state]; rfl
    have hsz : scr.slots.size = xs.length := by rw [← Array.length_toList, hlist, List.length_map]
    have hval : ∀ j : Nat, j < xs.length → scr.slots[j]? = some (.int (xs.getD j 0)) := fun j hj => by
      rw [← Array.getElem?_toList, hlist]
      simp [hj]
    have hbl : b < s.heap.size := (Array.getElem?_eq_some_iff.mp hcb).1
    have hX : va_X b xs.length (fun j => xs.getD j 0) s s.heap := ⟨scr, hcb, hof, hkn, hsz, hval⟩
    have K : W p l e room_1 s m #[Value.ref b] below meth c s₁.heap [] 0 0 (lw_Z below #[Value.ref b] s) (entryFrame m ([Value.ref b] : List Value).toArray 3) := by
      rw [hh0]
      exact whole_start l hflags hbd ⟨B.exec, B.bytes, B.returns, hml, hown, hts, hX, hbl, B.notSynchronized, hgv⟩
    obtain ⟨t, a1, o, b1, b2, b3⟩ := K s₁ rfl X₀
    exact ⟨t, o, a1, b1, b2, b3⟩
theorem lw_pre_spec {args : Array Value} {s : State} (h : (Jvm.Cond.and given_1 narrow_1).before args s = true) (hr : rest_1_c.before args s = true) : ∃ (b : Addr) (xs : List Int32), lw_P b xs args s := by
  have hs := flat_of_before _ h
  have hq := flat_of_before _ hr
  have hc : (Cond.count 1).before args s = true := hs _ (by decide +kernel)
  have harr : (Cond.arrayOf (.arg 0) .int).before args s = true := hs _ (by decide +kernel)
  have hle : (Cond.le (.length (.arg 0)) (.int 260)).before args s = true := hs _ (by decide +kernel)
  have hlen : (Cond.isInt (.length (.arg 0))).before args s = true := hq _ (by decide +kernel)
  have hall : (Cond.all (.arg 0) (.isInt (.elem (.arg 0) (.index 0)))).before args s = true := hq _ (by decide +kernel)
  obtain ⟨b, xs, hb, hx⟩ := State.ints_of_pre rfl harr hlen hall
  have hsm : xs.length < 2 ^ 31 := hx.choose_spec.2.2.2
  have hev : (Term.length (.arg 0)).eval args s none [] s = some (.int xs.length.toInt32) := hx.length_eval hb
  have hv := Cond.le_ints hev (show (Term.int 260).eval args s none [] s = some (.int 260) from rfl)
  have hd : xs.length.toInt32 ≤ 260 := by
    simpa [Cond.before, Cond.holds, hv] using hle
  have hN : xs.length ≤ 260 := (Int32.ofNat_le_ofNat hsm (by decide)).mp (show Int32.ofNat xs.length ≤ Int32.ofNat 260 from hd)
  exact ⟨b, xs, Cond.one_arg hc (show args[0]? = some (.ref b) from hb), hx, hN, h⟩
theorem lw_comes (l : Launch) (hflags : l.flags = flags0) : Comes l x (Jvm.Cond.code x code maxLocals ret :: tables_1) room_1 (fun tb e args s => Calls_1 tb e args s ∧ rest_1 tb e args s ∧ Pre_1 tb e args s)
    (fun _ _ args s o t => lw_Q args s o t) := by
  intro p e ha hc hk s m args below hf hfit hheap happ hpre
  obtain ⟨b, xs, hP⟩ := lw_pre_spec hpre.2.2 hpre.2.1
  obtain ⟨k, o, h1, h2, h3, hQ⟩ := lw_walk l hflags b xs p e ha hc hk s m args below hf ((Spec.applies_iff_loose hf).mp happ).1 hP trivial
  exact ⟨k, o, h1, h2, h3, hQ⟩
theorem lw_frame {s t : State} {o : Outcome} {args : Array Value} (h : Framed s o t [] 600000 7302249) :
    Framed s o t (fieldLocs frame_1_writes args s ++ arrayLocs frame_1_arrays args s ++ staticLocs frame_1_statics s) 600000 7302249 := h
theorem lw_limb (L : Cond) (hL : ∀ (args : Array Value) (s t : State), L.after args s (.returned (some (.int 1))) t = true) :
    ArmFor flags0 classFile x code maxLocals ret World_1 tables_1 room_1 Calls_1 rest_1 Pre_1
      (fun tb e a s o t => postC L tb e a s o t ∧ Framed s o t (fieldLocs frame_1_writes a s ++ arrayLocs frame_1_arrays a s ++ staticLocs frame_1_statics s) 600000 7302249) := by
  intro l hflags _ _ p e ha hc hk s m args below hf hfit hheap happ hpre
  obtain ⟨k, o, h1, h2, h3, rfl, hF⟩ := lw_comes l hflags p e ha hc hk s m args below hf hfit hheap happ hpre
  exact ⟨k, _, h1, h2, h3, hL args s _, lw_frame hF⟩
theorem i_vc : Claimed_1_1 ∧ Claimed_1_2 := ⟨lw_limb limb_1_1 (fun args s t => by simp [limb_1_1, Cond.after, Cond.holds, Cond.value]), lw_limb limb_1_2 (fun args s t => Cond.after_iff.mpr (by
  first | (rw [show limb_1_2 = Cond.eq .result (.int 1) from rfl, Cond.eq_ints (x := 1) (y := 1) rfl rfl]; simp; done) | (simp [limb_1_2, Cond.value, Term.eval]; done)))⟩
end
