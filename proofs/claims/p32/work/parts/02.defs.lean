/-! THE ABSTRACT MACHINE. A heap is a list of cells (the place in the list is the reference); arrays are functions; the three arrays that are never written (the script, LEAST_SETTING, MOST_SETTING) stand outside it, as .retAddr 0, 1, 2.
Its one theorem (part 05) says that what it computes the Java machine computes, with the kit's contracts; all that is said of the program then is said of this machine. -/
abbrev axE : Type := Nat × Nat × Value × Nat × Nat × List (Int32 × Nat) × Nat
abbrev axC : Type := (Nat × Nat × (Nat → Int32)) ⊕ ((Nat × (Nat → Option Nat)) ⊕ (Nat × List Value))
abbrev axH : Type := List axC
abbrev axL : Type := List (Option Value)
abbrev axRo : Type := Nat → Nat × (Nat → Int32)
abbrev axCall : Type := Nat → List Value → axH → Option Value → axH → Prop
def axF : List axE → Nat → Option axE
  | [], _ => none
  | e :: l, pc => bif Nat.beq e.1 pc then some e else axF l pc
def axG : axL → Nat → Option Value
  | [], _ => none
  | v :: _, 0 => v
  | _ :: l, n + 1 => axG l n
def axP : axL → Nat → Value → Option axL
  | [], _, _ => none
  | _ :: l, 0, v => some (some v :: l)
  | w :: l, n + 1, v => match n, w with
    | 0, some (.long _) => none
    | 0, some (.double _) => none
    | _, _ => match axP l n v with
      | some l' => some (w :: l')
      | none => none
def axN : axL → Nat → Option axL
  | [], _ => none
  | _ :: l, 0 => some (none :: l)
  | w :: l, n + 1 => match axN l n with
    | some l' => some (w :: l')
    | none => none
def axStp (op : Nat) (a : Value) (b : Nat) (L : axL) (S : List Value) : Option (axL × List Value) :=
  match op with
  | 0 => some (L, a :: S)
  | 1 => match axG L b with
    | some (.int x) => some (L, .int x :: S)
    | _ => none
  | 2 => match axG L b with
    | some (.ref x) => some (L, .ref x :: S)
    | some .null => some (L, .null :: S)
    | some (.retAddr x) => some (L, .retAddr x :: S)
    | _ => none
  | 3 => match axG L b with
    | some (.long x) => some (L, .long x :: S)
    | _ => none
  | 4 => match S with
    | .int x :: S' => match axP L b (.int x) with
      | some L' => some (L', S')
      | none => none
    | _ => none
  | 5 => match S with
    | .ref x :: S' => match axP L b (.ref x) with
      | some L' => some (L', S')
      | none => none
    | .null :: S' => match axP L b .null with
      | some L' => some (L', S')
      | none => none
    | _ => none
  | 6 => match a with
    | .int k => match axG L b with
      | some (.int x) => match axP L b (.int (x + k)) with
        | some L' => some (L', S)
        | none => none
      | _ => none
    | _ => none
  | 7 => match S with
    | .int x :: S' => some (L, .int x :: .int x :: S')
    | .ref x :: S' => some (L, .ref x :: .ref x :: S')
    | _ => none
  | 8 => match S with
    | .int _ :: S' => some (L, S')
    | .ref _ :: S' => some (L, S')
    | _ => none
  | 9 => some (L, S)
  | 10 => match S with
    | .int y :: .ref x :: S' => some (L, .int y :: .ref x :: .int y :: .ref x :: S')
    | _ => none
  | 11 => match S with
    | .int y :: .int x :: S' => some (L, .int (x + y) :: S')
    | _ => none
  | 12 => match S with
    | .int y :: .int x :: S' => some (L, .int (x - y) :: S')
    | _ => none
  | 13 => match S with
    | .int y :: .int x :: S' => some (L, .int (x * y) :: S')
    | _ => none
  | 14 => match S with
    | .int y :: .int x :: S' => some (L, .int (x &&& y) :: S')
    | _ => none
  | 15 => match S with
    | .int y :: .int x :: S' => some (L, .int (x ||| y) :: S')
    | _ => none
  | 16 => match S with
    | .int y :: .int x :: S' => some (L, .int (x ^^^ y) :: S')
    | _ => none
  | 17 => match S with
    | .int y :: .int x :: S' => some (L, .int (x <<< (y &&& 31)) :: S')
    | _ => none
  | 18 => match S with
    | .int y :: .int x :: S' => some (L, .int (x >>> (y &&& 31)) :: S')
    | _ => none
  | 19 => match S with
    | .int y :: .int x :: S' => some (L, .int (x.toUInt32 >>> (y.toUInt32 &&& Int32.toUInt32 31)).toInt32 :: S')
    | _ => none
  | 20 => match S with
    | .int x :: S' => some (L, .int (-x) :: S')
    | _ => none
  | 21 => match S with
    | .int x :: S' => some (L, .int (x.toUInt32 % 65536).toInt32 :: S')
    | _ => none
  | 22 => match S with
    | .int x :: S' => some (L, .long x.toInt64 :: S')
    | _ => none
  | 23 => match S with
    | .long x :: S' => some (L, .int x.toInt32 :: S')
    | _ => none
  | 24 => match S with
    | .long y :: .long x :: S' => some (L, .long (x &&& y) :: S')
    | _ => none
  | 25 => match S with
    | .long y :: .long x :: S' => some (L, .long (x ||| y) :: S')
    | _ => none
  | 26 => match S with
    | .int y :: .long x :: S' => some (L, .long (x <<< (y.toInt64 &&& 63)) :: S')
    | _ => none
  | 27 => match S with
    | .int y :: .long x :: S' => some (L, .long (x >>> (y.toInt64 &&& 63)) :: S')
    | _ => none
  | 28 => match S with
    | .int y :: .long x :: S' => some (L, .long (x.toUInt64 >>> (y.toInt64.toUInt64 &&& Int64.toUInt64 63)).toInt64 :: S')
    | _ => none
  | 29 => match S with
    | .long y :: .long x :: S' => some (L, .int (lg_cmp x y) :: S')
    | _ => none
  | 30 => match S with
    | .long x :: S' => match axP L b (.long x) with
      | some L' => match axN L' (b + 1) with
        | some L'' => some (L'', S')
        | none => none
      | none => none
    | _ => none
  | 31 => match S with
    | .long y :: .long x :: S' => some (L, .long (match b with
      | 0 => x + y
      | _ => x * y) :: S')
    | _ => none
  | _ => none
/-- the six comparisons -/
def axCnd (k : Nat) (x y : Int32) : Prop := match k with
  | 0 => x = y
  | 1 => ¬ x = y
  | 2 => x < y
  | 3 => y ≤ x
  | 4 => y < x
  | _ => x ≤ y
def axSw : List (Int32 × Nat) → Nat → Int32 → Nat
  | [], d, _ => d
  | q :: r, d, x => if x = q.1 then q.2 else axSw r d x
def axSum (S : List Value) : Nat := (S.map fun v => v.category).sum
/-- an array's elements: 0 int, 1 char, 2 boolean -/
def axEt : Nat → FieldType := fun k => match k with
  | 0 => .int
  | 1 => .char
  | _ => .boolean
/-- classes and their fields' types -/
def axTy : Nat → Nat → FieldType := fun c k => match c with
  | 0 => if k < 6 then .array .int else .int
  | 1 => if k = 0 then .array (.object "BeatSlugs$Board") else .int
  | 2 => if k = 0 then .array .char else if k = 3 then .boolean else if k = 4 then .char else .int
  | 3 => if k = 0 then .array .int else .int
  | 4 => if k = 0 then .object "BeatSlugs$Board" else if k = 1 then .object "BeatSlugs$History" else if k = 2 then .array (.object "BeatSlugs$Board") else if k = 3 then .object "BeatSlugs$Pad" else .object "BeatSlugs$SwapSearch"
  | _ => if k = 0 then .array .int else if k = 1 then .array .int else if k = 2 then .int else if k = 3 then .array .int else if k = 4 then .array .boolean else if k = 5 then .array .int else if k = 6 then .array .int else if k = 12 then .boolean else .int
/-- a new object's fields -/
def axDf : Nat → List Value := fun c => match c with
  | 0 => [.null, .null, .null, .null, .null, .null, .int 0, .int 0, .int 0]
  | 1 => [.null, .int 0, .int 0]
  | 2 => [.null, .int 0, .int 0, .int 0, .int 0, .int 0, .int 0]
  | 3 => [.null, .int 0, .int 0, .int 0]
  | 4 => [.null, .null, .null, .null, .null]
  | _ => [.null, .null, .int 0, .null, .null, .null, .null, .int 0, .int 0, .int 0, .int 0, .int 0, .int 0, .int 0]
def axFit (c k : Nat) (v : Value) : Prop := narrow (axTy c k) v = v ∧ fits (axTy c k) v = true ∧ ∀ j, v ≠ .retAddr j
def axOne (ro : axRo) (E : axCall) (e : axE) (L : axL) (S : List Value) (h : axH) (K : Nat → axL → List Value → axH → Prop) (Q : Option Value → axH → Prop) : Prop :=
  match e with
  | (_, op, a, b, c, tb, nx) =>
  match op with
  | 32 => ∃ x y S', S = .int y :: .int x :: S' ∧ (axCnd b x y → K c L S' h) ∧ (¬ axCnd b x y → K nx L S' h)
  | 33 => ∃ x S', S = .int x :: S' ∧ (axCnd b x 0 → K c L S' h) ∧ (¬ axCnd b x 0 → K nx L S' h)
  | 34 => (∃ k S', S = .ref k :: S' ∧ K c L S' h) ∨ (∃ S', S = .null :: S' ∧ K nx L S' h)
  | 35 => ∃ x S', S = .int x :: S' ∧ K (axSw tb c x) L S' h
  | 36 => ∃ k S' fs v, S = .ref k :: S' ∧ h[k]? = some (.inr (.inr (b, fs))) ∧ fs[c]? = some v ∧ K nx L (v :: S') h
  | 37 => ∃ v k S' fs, S = v :: .ref k :: S' ∧ h[k]? = some (.inr (.inr (b, fs))) ∧ c < fs.length ∧ axFit b c v ∧ K nx L S' (h.set k (.inr (.inr (b, fs.set c v))))
  | 38 => K nx L (.retAddr b :: S) h
  | 39 => (∃ k S' ki n f, S = .ref k :: S' ∧ h[k]? = some (.inl (ki, n, f)) ∧ ki < 3 ∧ K nx L (.int (Int32.ofNat n) :: S') h) ∨ (∃ k S' n f, S = .ref k :: S' ∧ h[k]? = some (.inr (.inl (n, f))) ∧ K nx L (.int (Int32.ofNat n) :: S') h) ∨ (∃ i S', S = .retAddr i :: S' ∧ i < 3 ∧ K nx L (.int (Int32.ofNat (ro i).1) :: S') h)
  | 40 => (∃ k i S' n f, S = .int i :: .ref k :: S' ∧ h[k]? = some (.inl (b, n, f)) ∧ vp_in i n ∧ K nx L (.int (f i.toNatClampNeg) :: S') h) ∨ (b = 0 ∧ ∃ j i S', S = .int i :: .retAddr j :: S' ∧ j < 3 ∧ vp_in i (ro j).1 ∧ K nx L (.int ((ro j).2 i.toNatClampNeg) :: S') h)
  | 41 => ∃ k i S' n f, S = .int i :: .ref k :: S' ∧ h[k]? = some (.inr (.inl (n, f))) ∧ vp_in i n ∧ K nx L (va_rf (f i.toNatClampNeg) :: S') h
  | 42 => ∃ x i k S' n f, S = .int x :: .int i :: .ref k :: S' ∧ h[k]? = some (.inl (b, n, f)) ∧ vp_in i n ∧ vp_nar (axEt b) x = x ∧ K nx L S' (h.set k (.inl (b, n, upd f i.toNatClampNeg x)))
  | 43 => ∃ v i k S' n f fs, S = .ref v :: .int i :: .ref k :: S' ∧ h[k]? = some (.inr (.inl (n, f))) ∧ h[v]? = some (.inr (.inr (0, fs))) ∧ vp_in i n ∧ K nx L S' (h.set k (.inr (.inl (n, va_up f i.toNatClampNeg (some v)))))
  | 44 => ∃ x S', S = .int x :: S' ∧ ¬ x < 0 ∧ x.toNatClampNeg ≤ 65536 ∧ K nx L (.ref h.length :: S') (h ++ [.inl (b, x.toNatClampNeg, fun _ => 0)])
  | 45 => ∃ x S', S = .int x :: S' ∧ ¬ x < 0 ∧ x.toNatClampNeg ≤ 65536 ∧ K nx L (.ref h.length :: S') (h ++ [.inr (.inl (x.toNatClampNeg, fun _ => none))])
  | 46 => K nx L (.ref h.length :: S) (h ++ [.inr (.inr (b, axDf b))])
  | 47 => ∃ x y S', S = .int y :: .int x :: S' ∧ ¬ y = 0 ∧ K nx L (.int (x / y) :: S') h
  | 48 => ∃ x y S', S = .int y :: .int x :: S' ∧ ¬ y = 0 ∧ K nx L (.int (x - x / y * y) :: S') h
  | 49 => ∃ x, S = [.int x] ∧ narrow (axEt b) (.int x) = .int x ∧ Q (some (.int x)) h
  | 50 => S = [] ∧ Q none h
  | 51 => ∃ k, S = [.ref k] ∧ Q (some (.ref k)) h
  | 52 => ∃ ci As k rest fs r h1, a = .ref ci ∧ S = As.reverse ++ .ref k :: rest ∧ As.length = c ∧ axSum rest ≤ 8 ∧ h[k]? = some (.inr (.inr (ci, fs))) ∧ E b (.ref k :: As) h r h1 ∧ K nx L (r.toList ++ rest) h1
  | 53 => ∃ As rest r h1, S = As.reverse ++ rest ∧ As.length = c ∧ axSum rest ≤ 8 ∧ E b As h r h1 ∧ K nx L (r.toList ++ rest) h1
  | 54 => ∃ As k rest r h1, S = As.reverse ++ .ref k :: rest ∧ As.length = c ∧ axSum rest ≤ 8 ∧ E b (.ref k :: As) h r h1 ∧ K nx L (r.toList ++ rest) h1
  | 55 => ∃ k rest, S = .ref k :: rest ∧ axSum rest ≤ 8 ∧ K nx L rest h
  | 56 => ∃ n dp k1 sp k0 rest n0 n1 f g, S = .int n :: .int dp :: .ref k1 :: .int sp :: .ref k0 :: rest ∧ h[k0]? = some (.inl (0, n0, f)) ∧ h[k1]? = some (.inl (0, n1, g)) ∧ ¬ sp < 0 ∧ ¬ dp < 0 ∧ ¬ n < 0 ∧ sp.toNatClampNeg + n.toNatClampNeg ≤ n0 ∧ dp.toNatClampNeg + n.toNatClampNeg ≤ n1 ∧ axSum rest ≤ 8 ∧ K nx L rest (h.set k1 (.inl (0, n1, va_cpy f g sp.toNatClampNeg dp.toNatClampNeg n.toNatClampNeg)))
  | 57 => ∃ x y S', S = .int y :: .int x :: S' ∧ axSum S' ≤ 8 ∧ K nx L (.int (if x < y then y else x) :: S') h
  | 58 => ∃ x y S', S = .int y :: .int x :: S' ∧ axSum S' ≤ 8 ∧ K nx L (.int (if y < x then y else x) :: S') h
  | 59 => ∃ x S', S = .int x :: S' ∧ axSum S' ≤ 8 ∧ K nx L (.int (if 0 ≤ x then x else 0 - x) :: S') h
  | 60 => ∃ v k S' fs, S = v :: .ref k :: S' ∧ h[k]? = some (.inr (.inr (b, fs))) ∧ c < fs.length ∧ axFit b c v ∧ K nx L S' (h.set k (.inr (.inr (b, fs.set c v))))
  | 62 => ∃ x, S = [.long x] ∧ Q (some (.long x)) h
  | op => ∃ q, axStp op a b L S = some q ∧ K nx q.1 q.2 h
def axWn (ro : axRo) (E : axCall) (cd : List axE) : Nat → Nat → axL → List Value → axH → (Option Value → axH → Prop) → Prop
  | 0, _, _, _, _, _ => False
  | n + 1, pc, L, S, h, Q => ∃ e, axF cd pc = some e ∧ axOne ro E e L S h (fun pc' L' S' h' => axWn ro E cd n pc' L' S' h' Q) Q
def axW (ro : axRo) (E : axCall) (cd : List axE) (pc : Nat) (L : axL) (S : List Value) (h : axH) (Q : Option Value → axH → Prop) : Prop := ∃ n, axWn ro E cd n pc L S h Q
def axSz : List Value → Nat
  | [] => 0
  | v :: l => v.category + axSz l
def axIn : List Value → Nat → axL
  | [], n => List.replicate n none
  | v :: l, n => match v with
    | .long x => some (.long x) :: none :: axIn l (n - 2)
    | v => some v :: axIn l (n - 1)
abbrev axM : Type := MethodName × ByteArray × Nat × Option FieldType × Nat × Bool × List axE
/-- the instruction as the tables have it: o is the number of the class whose constant pool is meant -/
def axCc : ClassFile.Cond → Nat := fun k => match k with
  | .eq => 0
  | .ne => 1
  | .lt => 2
  | .ge => 3
  | .gt => 4
  | .le => 5
def axI (k len : Nat) (e : axE) : Option axE := if len = k then some e else none
def axTg (pc len : Nat) (off : Int) (k : Nat → axE) : Option axE := if 0 ≤ (pc : Int) + off ∧ len = 3 then some (k ((pc : Int) + off).toNat) else none
def axSwT (pc : Nat) (lo : Int) : List Int → List (Int32 × Nat)
  | [] => []
  | o :: r => (Int32.ofInt lo, ((pc : Int) + o).toNat) :: axSwT pc (lo + 1) r
def axSwL (pc : Nat) : List (Int × Int) → List (Int32 × Nat)
  | [] => []
  | q :: r => (Int32.ofInt q.1, ((pc : Int) + q.2).toNat) :: axSwL pc r
def axFnd {α : Type} (o i : Nat) : List (Nat × Nat × α) → Option α
  | [] => none
  | q :: r => bif Nat.beq q.1 o && Nat.beq q.2.1 i then some q.2.2 else axFnd o i r
