/-! The tables: links of the constant pools, fields, methods. Written by wip/p32/gen2.py. -/
def axCn : Nat → String := fun k => match k with
  | 0 => "BeatSlugs$Board"
  | 1 => "BeatSlugs$History"
  | 2 => "BeatSlugs$Pad"
  | 3 => "BeatSlugs$SwapSearch"
  | 4 => "BeatSlugs"
  | 5 => "BeatSlugsModel"
  | 6 => "BeatSlugsLaw"
  | _ => "java/lang/Integer"
def axT0 : u_T := fun k => match k with
  | 0 => ("BeatSlugs$Board", "settings", "[I", true)
  | 1 => ("BeatSlugs$Board", "targets", "[I", true)
  | 2 => ("BeatSlugs$Board", "row", "[I", true)
  | 3 => ("BeatSlugs$Board", "written", "[I", true)
  | 4 => ("BeatSlugs$Board", "beats", "[I", true)
  | 5 => ("BeatSlugs$Board", "needs", "[I", true)
  | 6 => ("BeatSlugs$Board", "slugs", "I", false)
  | 7 => ("BeatSlugs$Board", "turns", "I", false)
  | _ => ("BeatSlugs$Board", "size", "I", false)
def axT1 : u_T := fun k => match k with
  | 0 => ("BeatSlugs$History", "states", "[LBeatSlugs$Board;", true)
  | 1 => ("BeatSlugs$History", "next", "I", false)
  | _ => ("BeatSlugs$History", "kept", "I", false)
def axT2 : u_T := fun k => match k with
  | 0 => ("BeatSlugs$Pad", "signs", "[C", true)
  | 1 => ("BeatSlugs$Pad", "length", "I", false)
  | 2 => ("BeatSlugs$Pad", "cursor", "I", false)
  | 3 => ("BeatSlugs$Pad", "last", "Z", false)
  | 4 => ("BeatSlugs$Pad", "kind", "C", false)
  | 5 => ("BeatSlugs$Pad", "first", "I", false)
  | _ => ("BeatSlugs$Pad", "second", "I", false)
def axT3 : u_T := fun k => match k with
  | 0 => ("BeatSlugs$SwapSearch", "trial", "[I", true)
  | 1 => ("BeatSlugs$SwapSearch", "lower", "I", false)
  | 2 => ("BeatSlugs$SwapSearch", "higher", "I", false)
  | _ => ("BeatSlugs$SwapSearch", "least", "I", false)
def axT4 : u_T := fun k => match k with
  | 0 => ("BeatSlugs", "board", "LBeatSlugs$Board;", true)
  | 1 => ("BeatSlugs", "history", "LBeatSlugs$History;", true)
  | 2 => ("BeatSlugs", "slots", "[LBeatSlugs$Board;", true)
  | 3 => ("BeatSlugs", "pad", "LBeatSlugs$Pad;", true)
  | _ => ("BeatSlugs", "search", "LBeatSlugs$SwapSearch;", true)
def axT : Nat → u_T := fun c => match c with
  | 0 => axT0
  | 1 => axT1
  | 2 => axT2
  | 3 => axT3
  | _ => axT4
def axNf : Nat → Nat := fun c => match c with
  | 0 => 9
  | 1 => 3
  | 2 => 7
  | 3 => 4
  | _ => 5
abbrev axCl : List vw_C := [("BeatSlugs$Board", axT0, 9), ("BeatSlugs$History", axT1, 3), ("BeatSlugs$Pad", axT2, 7), ("BeatSlugs$SwapSearch", axT3, 4), ("BeatSlugs", axT4, 5)]
/-- a field by the place in the constant pool: class, place, class of the field, its number, the word of the tables -/
def axFlT : List (Nat × Nat × Nat × Nat × Nat) := [(0, 9, 0, 0, 33), (0, 15, 0, 1, 34), (0, 18, 0, 2, 35), (0, 21, 0, 3, 36), (0, 24, 0, 4, 37), (0, 27, 0, 5, 38), (0, 36, 0, 6, 39), (0, 40, 0, 7, 40), (0, 43, 0, 8, 41), (1, 11, 1, 0, 70), (1, 21, 1, 1, 71), (1, 17, 1, 2, 72), (2, 9, 2, 0, 86), (2, 15, 2, 1, 87), (3, 9, 3, 0, 110), (3, 15, 3, 1, 111), (3, 19, 3, 2, 112), (3, 22, 3, 3, 113), (4, 10, 4, 0, 123), (4, 19, 4, 1, 124), (4, 23, 4, 2, 125), (4, 30, 4, 3, 126), (4, 37, 4, 4, 127)]
def axStT : List (Nat × Nat × Nat × Nat) := [(0, 46, 1, 598), (0, 53, 2, 600)]
def axClsT : List (Nat × Nat × Nat × Nat) := [(6, 11, 4, 19), (4, 7, 0, 27), (4, 16, 1, 62), (1, 9, 0, 68), (4, 27, 2, 80), (4, 34, 3, 104)]
def axCsT : List (Nat × Nat × Int32 × Nat) := [(7, 265, 1431655765, 248), (7, 266, 858993459, 249), (7, 267, 252645135, 250), (6, 7, 834001351, 281), (6, 8, 782758355, 282), (6, 9, 2147483647, 463)]
def axLcT : List (Nat × Nat × Int64 × Nat) := [(6, 41, 19, 524), (6, 43, 31, 525)]
/-- a method by the place in the constant pool: class, place, kind (0 virtual, 1 static, 2 static of a nest mate, 3 static of another class, 4 arraycopy, 5 max, 6 min, 7 abs, 8 constructor, 9 Object), number, parameters, class, the word -/
def axMlT0 : List (Nat × Nat × Nat × Nat × Nat × Nat × Nat) := [
  (6, 114, 8, 0, 0, 4, 21), (4, 1, 9, 0, 0, 0, 24), (4, 9, 8, 1, 0, 0, 29), (0, 3, 9, 0, 0, 0, 32), (4, 18, 8, 2, 0, 1, 64), (1, 3, 9, 0, 0, 0, 67), (4, 29, 8, 3, 0, 2, 82), (2, 3, 9, 0, 0, 0, 85),
  (4, 36, 8, 4, 0, 3, 106), (3, 3, 9, 0, 0, 0, 109), (6, 45, 0, 5, 1, 4, 139), (4, 183, 0, 6, 1, 3, 143), (3, 25, 0, 7, 0, 0, 147), (0, 170, 0, 8, 2, 0, 151), (0, 152, 0, 11, 1, 0, 161), (0, 127, 6, 0, 2, 0, 165),
  (0, 110, 7, 0, 1, 0, 168), (3, 31, 0, 12, 0, 0, 171), (3, 34, 0, 13, 1, 0, 175), (3, 42, 0, 15, 2, 3, 182), (3, 46, 0, 16, 1, 0, 186), (3, 49, 0, 17, 1, 0, 190), (0, 78, 0, 18, 1, 0, 194), (3, 52, 0, 19, 3, 3, 198),
  (3, 56, 0, 20, 2, 3, 202), (3, 60, 0, 21, 0, 0, 207), (3, 63, 0, 8, 2, 0, 211), (4, 186, 0, 22, 0, 3, 212), (4, 190, 0, 23, 0, 3, 216), (4, 122, 0, 13, 1, 0, 220), (4, 193, 0, 24, 0, 3, 221), (4, 196, 0, 25, 0, 3, 225)]
def axMlT1 : List (Nat × Nat × Nat × Nat × Nat × Nat × Nat) := [
  (6, 62, 0, 26, 1, 4, 229), (4, 199, 0, 27, 1, 0, 233), (0, 164, 0, 28, 1, 0, 237), (0, 149, 0, 29, 0, 0, 241), (0, 89, 3, 30, 1, 7, 245), (0, 158, 0, 31, 1, 0, 251), (0, 124, 0, 32, 1, 0, 255), (0, 146, 0, 33, 2, 0, 259),
  (0, 137, 5, 0, 2, 0, 263), (0, 167, 0, 34, 2, 0, 266), (0, 94, 0, 35, 1, 0, 270), (0, 134, 0, 36, 1, 0, 274), (6, 118, 1, 37, 2, 6, 278), (6, 115, 1, 38, 1, 6, 283), (6, 16, 1, 39, 1, 6, 286), (6, 10, 0, 40, 1, 4, 289),
  (6, 22, 0, 41, 2, 4, 293), (4, 87, 0, 42, 1, 0, 297), (4, 91, 0, 43, 1, 0, 301), (4, 94, 0, 44, 1, 0, 305), (4, 97, 0, 45, 1, 0, 309), (4, 100, 0, 46, 1, 0, 313), (4, 103, 0, 18, 1, 0, 317), (4, 106, 0, 47, 1, 0, 318),
  (4, 109, 0, 33, 2, 0, 325), (4, 112, 0, 49, 0, 0, 326), (4, 116, 0, 50, 1, 0, 330), (4, 119, 0, 35, 1, 0, 334), (6, 26, 0, 51, 1, 4, 335), (4, 205, 0, 52, 1, 0, 339), (6, 29, 0, 53, 1, 4, 343), (4, 125, 0, 54, 1, 0, 347)]
def axMlT2 : List (Nat × Nat × Nat × Nat × Nat × Nat × Nat) := [
  (0, 97, 0, 45, 1, 0, 351), (6, 32, 0, 55, 1, 4, 352), (4, 174, 0, 16, 1, 0, 356), (4, 177, 0, 17, 1, 0, 357), (4, 180, 1, 48, 1, 4, 358), (6, 35, 0, 56, 1, 4, 359), (4, 149, 0, 57, 0, 0, 363), (4, 152, 0, 29, 0, 0, 367),
  (4, 155, 0, 58, 0, 0, 368), (4, 158, 0, 7, 0, 0, 372), (4, 161, 0, 59, 0, 0, 373), (0, 161, 0, 60, 1, 0, 377), (0, 155, 0, 61, 1, 0, 381), (4, 164, 0, 62, 0, 0, 385), (4, 167, 0, 36, 1, 0, 389), (4, 170, 0, 63, 0, 2, 390),
  (4, 173, 0, 64, 0, 1, 394), (6, 38, 0, 65, 2, 4, 398), (4, 128, 0, 28, 1, 0, 402), (4, 131, 0, 32, 1, 0, 403), (4, 134, 0, 11, 1, 0, 404), (4, 137, 0, 31, 1, 0, 405), (4, 140, 0, 60, 1, 0, 406), (4, 143, 0, 61, 1, 0, 407),
  (4, 146, 0, 34, 2, 0, 408), (6, 107, 1, 66, 1, 6, 409), (6, 48, 0, 67, 2, 4, 412), (4, 41, 0, 68, 1, 1, 416), (4, 236, 0, 70, 1, 0, 423), (0, 30, 4, 0, 5, 0, 427), (4, 78, 0, 71, 2, 0, 430), (0, 64, 0, 42, 1, 0, 434)]
def axMlT3 : List (Nat × Nat × Nat × Nat × Nat × Nat × Nat) := [
  (0, 68, 0, 43, 1, 0, 435), (0, 103, 0, 72, 2, 0, 436), (0, 140, 0, 17, 1, 0, 440), (0, 143, 0, 16, 1, 0, 441), (4, 49, 0, 73, 1, 1, 443), (1, 28, 6, 0, 2, 0, 447), (6, 51, 0, 74, 0, 4, 448), (4, 227, 0, 75, 1, 1, 452),
  (1, 34, 0, 70, 1, 0, 456), (6, 122, 1, 76, 3, 6, 457), (6, 68, 1, 77, 2, 6, 460), (6, 71, 0, 78, 3, 4, 464), (4, 56, 0, 79, 3, 0, 468), (0, 56, 0, 80, 2, 0, 472), (0, 130, 0, 81, 0, 0, 476), (0, 106, 0, 82, 2, 0, 480),
  (6, 75, 0, 83, 1, 4, 484), (4, 60, 0, 84, 1, 0, 488), (0, 71, 0, 85, 1, 0, 492), (6, 78, 0, 86, 1, 4, 496), (4, 202, 0, 87, 1, 0, 500), (6, 81, 0, 88, 1, 4, 504), (4, 63, 0, 89, 1, 0, 508), (0, 75, 0, 46, 1, 0, 512),
  (6, 84, 0, 90, 2, 4, 513), (4, 66, 0, 91, 2, 0, 517), (6, 55, 1, 92, 1, 6, 521), (6, 87, 0, 93, 2, 4, 526), (4, 69, 0, 94, 2, 0, 530), (6, 90, 0, 95, 1, 4, 534), (4, 72, 0, 96, 1, 0, 538), (0, 100, 0, 44, 1, 0, 542)]
def axMlT4 : List (Nat × Nat × Nat × Nat × Nat × Nat × Nat) := [
  (6, 93, 1, 97, 3, 6, 543), (6, 59, 0, 98, 2, 4, 546), (4, 75, 0, 99, 2, 0, 550), (6, 97, 0, 100, 2, 4, 554), (4, 81, 0, 101, 2, 0, 558), (0, 115, 0, 102, 2, 0, 562), (0, 118, 0, 103, 2, 0, 566), (6, 100, 1, 104, 2, 6, 570),
  (6, 65, 0, 105, 1, 4, 573), (4, 84, 0, 106, 1, 0, 577), (0, 121, 0, 27, 1, 0, 581), (6, 104, 0, 107, 2, 4, 582), (4, 53, 0, 108, 2, 0, 586), (6, 111, 0, 109, 2, 4, 590), (4, 45, 0, 110, 2, 0, 594), (0, 49, 2, 9, 2, 4, 155),
  (0, 81, 2, 10, 2, 4, 158), (3, 38, 2, 14, 3, 4, 179), (3, 67, 2, 9, 2, 4, 206), (0, 60, 2, 48, 1, 4, 322), (1, 24, 2, 69, 2, 4, 420), (0, 85, 2, 14, 3, 4, 442)]
def axMlT : List (Nat × Nat × Nat × Nat × Nat × Nat × Nat) := axMlT0 ++ (axMlT1 ++ (axMlT2 ++ (axMlT3 ++ (axMlT4))))
def axFin (c k : Nat) : Bool := (axT c k).2.2.2
def axTr (o : Nat) (ini : Bool) (rt : Nat) (pc : Nat) (ins : Instr) (len : Nat) : Option axE := match ins with
  | .iconst n => axI 1 len (pc, 0, .int (Int32.ofInt n), 0, 0, [], pc + 1)
  | .bipush n => axI 2 len (pc, 0, .int (Int8.ofInt n).toInt32, 0, 0, [], pc + 2)
  | .sipush n => axI 3 len (pc, 0, .int (Int16.ofInt n).toInt32, 0, 0, [], pc + 3)
  | .ldc_w i => match axFnd o i axCsT with
    | some q => axI 3 len (pc, 0, .int q.1, 0, 0, [], pc + 3)
    | none => none
  | .ldc i => match axFnd o i axCsT with
    | some q => axI 2 len (pc, 0, .int q.1, 0, 0, [], pc + 2)
    | none => none
  | .lstore_n k => axI 1 len (pc, 30, .null, (k : Nat), 0, [], pc + 1)
  | .lstore k => axI 2 len (pc, 30, .null, k, 0, [], pc + 2)
  | .ladd => axI 1 len (pc, 31, .null, 0, 0, [], pc + 1)
  | .lmul => axI 1 len (pc, 31, .null, 1, 0, [], pc + 1)
  | .lreturn => axI 1 len (pc, 62, .null, 0, 0, [], pc)
  | .ldc2_w i => match axFnd o i axLcT with
    | some q => axI 3 len (pc, 0, .long q.1, 0, 0, [], pc + 3)
    | none => none
  | .lconst n => axI 1 len (pc, 0, .long (Int64.ofNat (n : Nat)), 0, 0, [], pc + 1)
  | .iload_n k => axI 1 len (pc, 1, .null, (k : Nat), 0, [], pc + 1)
  | .iload k => axI 2 len (pc, 1, .null, k, 0, [], pc + 2)
  | .aload_n k => axI 1 len (pc, 2, .null, (k : Nat), 0, [], pc + 1)
  | .aload k => axI 2 len (pc, 2, .null, k, 0, [], pc + 2)
  | .lload_n k => axI 1 len (pc, 3, .null, (k : Nat), 0, [], pc + 1)
  | .lload k => axI 2 len (pc, 3, .null, k, 0, [], pc + 2)
  | .istore_n k => axI 1 len (pc, 4, .null, (k : Nat), 0, [], pc + 1)
  | .istore k => axI 2 len (pc, 4, .null, k, 0, [], pc + 2)
  | .astore_n k => axI 1 len (pc, 5, .null, (k : Nat), 0, [], pc + 1)
  | .astore k => axI 2 len (pc, 5, .null, k, 0, [], pc + 2)
  | .iinc i n => axI 3 len (pc, 6, .int (Int32.ofInt n), i, 0, [], pc + 3)
  | .dup => axI 1 len (pc, 7, .null, 0, 0, [], pc + 1)
  | .pop => axI 1 len (pc, 8, .null, 0, 0, [], pc + 1)
  | .goto off => axTg pc len off fun t => (pc, 9, .null, 0, 0, [], t)
  | .dup2 => axI 1 len (pc, 10, .null, 0, 0, [], pc + 1)
  | .iadd => axI 1 len (pc, 11, .null, 0, 0, [], pc + 1)
  | .isub => axI 1 len (pc, 12, .null, 0, 0, [], pc + 1)
  | .imul => axI 1 len (pc, 13, .null, 0, 0, [], pc + 1)
  | .iand => axI 1 len (pc, 14, .null, 0, 0, [], pc + 1)
  | .ior => axI 1 len (pc, 15, .null, 0, 0, [], pc + 1)
  | .ixor => axI 1 len (pc, 16, .null, 0, 0, [], pc + 1)
  | .ishl => axI 1 len (pc, 17, .null, 0, 0, [], pc + 1)
  | .ishr => axI 1 len (pc, 18, .null, 0, 0, [], pc + 1)
  | .iushr => axI 1 len (pc, 19, .null, 0, 0, [], pc + 1)
  | .ineg => axI 1 len (pc, 20, .null, 0, 0, [], pc + 1)
  | .i2c => axI 1 len (pc, 21, .null, 0, 0, [], pc + 1)
  | .i2l => axI 1 len (pc, 22, .null, 0, 0, [], pc + 1)
  | .l2i => axI 1 len (pc, 23, .null, 0, 0, [], pc + 1)
  | .land => axI 1 len (pc, 24, .null, 0, 0, [], pc + 1)
  | .lor => axI 1 len (pc, 25, .null, 0, 0, [], pc + 1)
  | .lshl => axI 1 len (pc, 26, .null, 0, 0, [], pc + 1)
  | .lshr => axI 1 len (pc, 27, .null, 0, 0, [], pc + 1)
  | .lushr => axI 1 len (pc, 28, .null, 0, 0, [], pc + 1)
  | .lcmp => axI 1 len (pc, 29, .null, 0, 0, [], pc + 1)
  | .if_icmp cd off => axTg pc len off fun t => (pc, 32, .null, axCc cd, t, [], pc + 3)
  | .ifCond cd off => axTg pc len off fun t => (pc, 33, .null, axCc cd, t, [], pc + 3)
  | .ifnonnull off => axTg pc len off fun t => (pc, 34, .null, 0, t, [], pc + 3)
  | .tableswitch d lo hi offs => if 0 ≤ lo ∧ hi < 1000 ∧ (offs.size : Int) = hi - lo + 1 ∧ 0 ≤ (pc : Int) + d ∧ (offs.toList.all fun o => decide (0 ≤ (pc : Int) + o)) = true then some (pc, 35, .null, 0, ((pc : Int) + d).toNat, axSwT pc lo offs.toList, pc) else none
  | .lookupswitch d ps => if (ps.toList.zip (ps.toList.drop 1)).all (fun (a, next) => a.1 < next.1) = true ∧ 0 ≤ (pc : Int) + d ∧ (ps.toList.all fun o => decide (0 ≤ (pc : Int) + o.2 ∧ -1000 < o.1 ∧ o.1 < 1000)) = true then some (pc, 35, .null, 0, ((pc : Int) + d).toNat, axSwL pc ps.toList, pc) else none
  | .getfield i => match axFnd o i axFlT with
    | some (c, k, _) => axI 3 len (pc, 36, .null, c, k, [], pc + 3)
    | none => none
  | .putfield i => match axFnd o i axFlT with
    | some (c, k, _) => bif axFin c k then bif ini && Nat.beq c o then axI 3 len (pc, 60, .null, c, k, [], pc + 3) else none else axI 3 len (pc, 37, .null, c, k, [], pc + 3)
    | none => none
  | .getstatic i => match axFnd o i axStT with
    | some (j, _) => axI 3 len (pc, 38, .null, j, 0, [], pc + 3)
    | none => none
  | .arraylength => axI 1 len (pc, 39, .null, 0, 0, [], pc + 1)
  | .iaload => axI 1 len (pc, 40, .null, 0, 0, [], pc + 1)
  | .caload => axI 1 len (pc, 40, .null, 1, 0, [], pc + 1)
  | .aaload => axI 1 len (pc, 41, .null, 0, 0, [], pc + 1)
  | .iastore => axI 1 len (pc, 42, .null, 0, 0, [], pc + 1)
  | .castore => axI 1 len (pc, 42, .null, 1, 0, [], pc + 1)
  | .aastore => axI 1 len (pc, 43, .null, 0, 0, [], pc + 1)
  | .newarray t => match t with
    | .int => axI 2 len (pc, 44, .null, 0, 0, [], pc + 2)
    | .char => axI 2 len (pc, 44, .null, 1, 0, [], pc + 2)
    | _ => none
  | .anewarray i => match axFnd o i axClsT with
    | some (0, _) => axI 3 len (pc, 45, .null, 0, 0, [], pc + 3)
    | _ => none
  | .new i => match axFnd o i axClsT with
    | some (c, _) => bif Nat.blt c 5 then axI 3 len (pc, 46, .null, c, 0, [], pc + 3) else none
    | none => none
  | .idiv => axI 1 len (pc, 47, .null, 0, 0, [], pc + 1)
  | .irem => axI 1 len (pc, 48, .null, 0, 0, [], pc + 1)
  | .ireturn => axI 1 len (pc, 49, .null, rt, 0, [], pc)
  | .return_ => axI 1 len (pc, 50, .null, 0, 0, [], pc)
  | .areturn => axI 1 len (pc, 51, .null, 0, 0, [], pc)
  | .invokevirtual i => match axFnd o i axMlT with
    | some (0, z, n, ci, _) => axI 3 len (pc, 52, .ref ci, z, n, [], pc + 3)
    | _ => none
  | .invokestatic i => match axFnd o i axMlT with
    | some (1, z, n, _, _) => axI 3 len (pc, 53, .null, z, n, [], pc + 3)
    | some (2, z, n, _, _) => axI 3 len (pc, 53, .null, z, n, [], pc + 3)
    | some (3, z, n, _, _) => axI 3 len (pc, 53, .null, z, n, [], pc + 3)
    | some (4, _, _, _, _) => axI 3 len (pc, 56, .null, 0, 0, [], pc + 3)
    | some (5, _, _, _, _) => axI 3 len (pc, 57, .null, 0, 0, [], pc + 3)
    | some (6, _, _, _, _) => axI 3 len (pc, 58, .null, 0, 0, [], pc + 3)
    | some (7, _, _, _, _) => axI 3 len (pc, 59, .null, 0, 0, [], pc + 3)
    | _ => none
  | .invokespecial i => match axFnd o i axMlT with
    | some (8, z, n, _, _) => axI 3 len (pc, 54, .null, z, n, [], pc + 3)
    | some (9, _, _, _, _) => axI 3 len (pc, 55, .null, 0, 0, [], pc + 3)
    | _ => none
  | _ => none
def axRk : Option FieldType → Nat := fun r => match r with
  | some .char => 1
  | some .boolean => 2
  | _ => 0
def axEqL : List (Int32 × Nat) → List (Int32 × Nat) → Bool
  | [], [] => true
  | q :: l, r :: m => decide (q.1 = r.1) && decide (q.2 = r.2) && axEqL l m
  | _, _ => false
theorem axEqL_ok : ∀ (l m : List (Int32 × Nat)), axEqL l m = true → l = m
  | [], [], _ => rfl
  | q :: l, r :: m, h => by
    simp only [axEqL, Bool.and_eq_true, decide_eq_true_eq] at h
    rw [axEqL_ok l m h.2, Prod.ext h.1.1 h.1.2]
  | [], _ :: _, h => by simp [axEqL] at h
  | _ :: _, [], h => by simp [axEqL] at h
def axEqO : Option axE → axE → Bool
  | some (p1, p2, p3, p4, p5, p6, p7), (q1, q2, q3, q4, q5, q6, q7) => decide (p1 = q1) && decide (p2 = q2) && decide (p3 = q3) && decide (p4 = q4) && decide (p5 = q5) && axEqL p6 q6 && decide (p7 = q7)
  | none, _ => false
theorem axEqO_ok {o : Option axE} {e : axE} (h : axEqO o e = true) : o = some e := by
  obtain ⟨q1, q2, q3, q4, q5, q6, q7⟩ := e
  match o, h with
  | some (p1, p2, p3, p4, p5, p6, p7), h =>
    simp only [axEqO, Bool.and_eq_true, decide_eq_true_eq] at h
    obtain ⟨⟨⟨⟨⟨⟨h1, h2⟩, h3⟩, h4⟩, h5⟩, h6⟩, h7⟩ := h
    rw [h1, h2, h3, h4, h5, axEqL_ok _ _ h6, h7]
  | none, h => simp [axEqO] at h
def axCk (o : Nat) (ini : Bool) (rt : Nat) (b : ByteArray) (l : List axE) : Bool := l.all fun e => match decode b e.1 with
  | .ok (ins, len) => axEqO (axTr o ini rt e.1 ins len) e
  | _ => false
theorem axCk_app {o : Nat} {i : Bool} {r : Nat} {b : ByteArray} {l m : List axE} (h1 : axCk o i r b l = true) (h2 : axCk o i r b m = true) : axCk o i r b (l ++ m) = true := by unfold axCk at *; rw [List.all_append, h1, h2]; rfl
