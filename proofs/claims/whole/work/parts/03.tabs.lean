/-! The tables: links of the constant pools, fields, methods. Written by wip/whole/gen2.py. -/
def axCn : Nat → String := fun k => match k with
  | 0 => "BeatSlugs$Board"
  | 1 => "BeatSlugs$History"
  | 2 => "BeatSlugs$Pad"
  | 3 => "BeatSlugs$SwapSearch"
  | 4 => "BeatSlugs"
  | 5 => "BeatSlugsModel"
  | 6 => "BeatSlugsLaw"
  | _ => "java/lang/Integer"
def axT0 : u_T := fun k => match k with
  | 0 => ("BeatSlugs$Board", "settings", "[I", true)
  | 1 => ("BeatSlugs$Board", "targets", "[I", true)
  | 2 => ("BeatSlugs$Board", "row", "[I", true)
  | 3 => ("BeatSlugs$Board", "written", "[I", true)
  | 4 => ("BeatSlugs$Board", "beats", "[I", true)
  | 5 => ("BeatSlugs$Board", "needs", "[I", true)
  | 6 => ("BeatSlugs$Board", "slugs", "I", false)
  | 7 => ("BeatSlugs$Board", "turns", "I", false)
  | _ => ("BeatSlugs$Board", "size", "I", false)
def axT1 : u_T := fun k => match k with
  | 0 => ("BeatSlugs$History", "states", "[LBeatSlugs$Board;", true)
  | 1 => ("BeatSlugs$History", "next", "I", false)
  | _ => ("BeatSlugs$History", "kept", "I", false)
def axT2 : u_T := fun k => match k with
  | 0 => ("BeatSlugs$Pad", "signs", "[C", true)
  | 1 => ("BeatSlugs$Pad", "length", "I", false)
  | 2 => ("BeatSlugs$Pad", "cursor", "I", false)
  | 3 => ("BeatSlugs$Pad", "last", "Z", false)
  | 4 => ("BeatSlugs$Pad", "kind", "C", false)
  | 5 => ("BeatSlugs$Pad", "first", "I", false)
  | _ => ("BeatSlugs$Pad", "second", "I", false)
def axT3 : u_T := fun k => match k with
  | 0 => ("BeatSlugs$SwapSearch", "trial", "[I", true)
  | 1 => ("BeatSlugs$SwapSearch", "lower", "I", false)
  | 2 => ("BeatSlugs$SwapSearch", "higher", "I", false)
  | _ => ("BeatSlugs$SwapSearch", "least", "I", false)
def axT4 : u_T := fun k => match k with
  | 0 => ("BeatSlugs", "board", "LBeatSlugs$Board;", true)
  | 1 => ("BeatSlugs", "history", "LBeatSlugs$History;", true)
  | 2 => ("BeatSlugs", "slots", "[LBeatSlugs$Board;", true)
  | 3 => ("BeatSlugs", "pad", "LBeatSlugs$Pad;", true)
  | _ => ("BeatSlugs", "search", "LBeatSlugs$SwapSearch;", true)
def axT5 : u_T := fun k => match k with
  | 0 => ("BeatSlugsModel", "s", "[I", true)
  | 1 => ("BeatSlugsModel", "history", "[I", true)
  | 2 => ("BeatSlugsModel", "kept", "I", false)
  | 3 => ("BeatSlugsModel", "slots", "[I", true)
  | 4 => ("BeatSlugsModel", "isSaved", "[Z", true)
  | 5 => ("BeatSlugsModel", "before", "[I", true)
  | 6 => ("BeatSlugsModel", "pad", "[I", true)
  | 7 => ("BeatSlugsModel", "length", "I", false)
  | 8 => ("BeatSlugsModel", "place", "I", false)
  | 9 => ("BeatSlugsModel", "letter", "I", false)
  | 10 => ("BeatSlugsModel", "one", "I", false)
  | 11 => ("BeatSlugsModel", "other", "I", false)
  | 12 => ("BeatSlugsModel", "isTurn", "Z", false)
  | _ => ("BeatSlugsModel", "done", "I", false)
def axT : Nat → u_T := fun c => match c with
  | 0 => axT0
  | 1 => axT1
  | 2 => axT2
  | 3 => axT3
  | 4 => axT4
  | _ => axT5
def axNf : Nat → Nat := fun c => match c with
  | 0 => 9
  | 1 => 3
  | 2 => 7
  | 3 => 4
  | 4 => 5
  | _ => 14
abbrev axCl : List vw_C := [("BeatSlugs$Board", axT0, 9), ("BeatSlugs$History", axT1, 3), ("BeatSlugs$Pad", axT2, 7), ("BeatSlugs$SwapSearch", axT3, 4), ("BeatSlugs", axT4, 5), ("BeatSlugsModel", axT5, 14)]
/-- a field by the place in the constant pool: class, place, class of the field, its number, the word of the tables -/
def axFlT : List (Nat × Nat × Nat × Nat × Nat) := [(0, 9, 0, 0, 83), (0, 15, 0, 1, 84), (0, 18, 0, 2, 85), (0, 21, 0, 3, 86), (0, 24, 0, 4, 87), (0, 27, 0, 5, 88), (0, 36, 0, 6, 89), (0, 40, 0, 7, 90), (0, 43, 0, 8, 91), (1, 11, 1, 0, 120), (1, 21, 1, 1, 121), (1, 17, 1, 2, 122), (2, 9, 2, 0, 136), (2, 15, 2, 1, 137), (2, 38, 2, 2, 138), (2, 41, 2, 3, 139), (2, 45, 2, 4, 140), (2, 49, 2, 5, 141), (2, 52, 2, 6, 142), (3, 9, 3, 0, 165), (3, 15, 3, 1, 166), (3, 19, 3, 2, 167), (3, 22, 3, 3, 168), (4, 10, 4, 0, 178), (4, 19, 4, 1, 179), (4, 23, 4, 2, 180), (4, 30, 4, 3, 181), (4, 37, 4, 4, 182), (5, 7, 5, 0, 733), (5, 13, 5, 1, 734), (5, 37, 5, 2, 735), (5, 16, 5, 3, 736), (5, 19, 5, 4, 737), (5, 23, 5, 5, 738), (5, 26, 5, 6, 739), (5, 166, 5, 7, 740), (5, 171, 5, 8, 741), (5, 177, 5, 9, 742), (5, 180, 5, 10, 743), (5, 196, 5, 11, 744), (5, 189, 5, 12, 745), (5, 199, 5, 13, 746)]
def axStT : List (Nat × Nat × Nat × Nat) := [(0, 46, 1, 216), (0, 53, 2, 221)]
def axClsT : List (Nat × Nat × Nat × Nat) := [(6, 7, 4, 69), (4, 7, 0, 77), (4, 16, 1, 112), (1, 9, 0, 118), (4, 27, 2, 130), (4, 34, 3, 159), (6, 10, 5, 727)]
def axCsT : List (Nat × Nat × Int32 × Nat) := [(7, 265, 1431655765, 314), (7, 266, 858993459, 315), (7, 267, 252645135, 316)]
def axLcT : List (Nat × Nat × Int64 × Nat) := [(5, 169, 255, 1023), (6, 104, 4294967295, 1075)]
/-- a method by the place in the constant pool: class, place, kind (0 virtual, 1 static, 2 static of a nest mate, 3 static of another class, 4 arraycopy, 5 max, 6 min, 7 abs, 8 constructor, 9 Object), number, parameters, class, the word -/
def axMlT0 : List (Nat × Nat × Nat × Nat × Nat × Nat × Nat) := [
  (6, 9, 8, 0, 0, 4, 71), (4, 1, 9, 0, 0, 0, 74), (4, 9, 8, 1, 0, 0, 79), (0, 3, 9, 0, 0, 0, 82), (4, 18, 8, 2, 0, 1, 114), (1, 3, 9, 0, 0, 0, 117), (4, 29, 8, 3, 0, 2, 132), (2, 3, 9, 0, 0, 0, 135),
  (4, 36, 8, 4, 0, 3, 161), (3, 3, 9, 0, 0, 0, 164), (6, 13, 0, 5, 2, 4, 194), (4, 41, 0, 6, 1, 1, 198), (4, 236, 0, 8, 1, 0, 205), (0, 30, 4, 0, 5, 0, 209), (4, 45, 0, 9, 2, 0, 212), (4, 49, 0, 11, 1, 1, 223),
  (1, 28, 6, 0, 2, 0, 227), (6, 18, 0, 12, 2, 4, 230), (4, 53, 0, 13, 2, 0, 234), (6, 22, 0, 14, 3, 4, 238), (4, 56, 0, 15, 3, 0, 242), (0, 56, 0, 16, 2, 0, 246), (0, 130, 0, 17, 0, 0, 250), (0, 106, 0, 21, 2, 0, 263),
  (6, 27, 0, 22, 1, 4, 267), (4, 60, 0, 23, 1, 0, 271), (0, 64, 0, 24, 1, 0, 275), (0, 68, 0, 25, 1, 0, 279), (0, 71, 0, 26, 1, 0, 283), (6, 32, 0, 27, 1, 4, 287), (4, 63, 0, 28, 1, 0, 291), (0, 75, 0, 29, 1, 0, 295)]
def axMlT1 : List (Nat × Nat × Nat × Nat × Nat × Nat × Nat) := [
  (6, 36, 0, 30, 2, 4, 299), (4, 66, 0, 31, 2, 0, 303), (0, 78, 0, 32, 1, 0, 307), (0, 89, 3, 33, 1, 7, 311), (6, 40, 0, 34, 2, 4, 317), (4, 69, 0, 35, 2, 0, 321), (0, 94, 0, 36, 1, 0, 325), (0, 137, 5, 0, 2, 0, 329),
  (0, 97, 0, 37, 1, 0, 332), (6, 44, 0, 38, 1, 4, 336), (4, 72, 0, 39, 1, 0, 340), (0, 100, 0, 40, 1, 0, 344), (6, 48, 0, 41, 2, 4, 348), (4, 75, 0, 42, 2, 0, 352), (0, 103, 0, 43, 2, 0, 356), (0, 140, 0, 44, 1, 0, 360),
  (0, 143, 0, 45, 1, 0, 364), (6, 52, 0, 46, 2, 4, 368), (4, 78, 0, 47, 2, 0, 372), (0, 110, 7, 0, 1, 0, 376), (6, 56, 0, 48, 2, 4, 379), (4, 81, 0, 49, 2, 0, 383), (0, 115, 0, 50, 2, 0, 387), (0, 118, 0, 51, 2, 0, 391),
  (6, 60, 0, 52, 1, 4, 395), (4, 84, 0, 53, 1, 0, 399), (0, 121, 0, 54, 1, 0, 403), (0, 164, 0, 55, 1, 0, 407), (0, 149, 0, 56, 0, 0, 411), (0, 158, 0, 57, 1, 0, 415), (0, 124, 0, 58, 1, 0, 419), (0, 146, 0, 59, 2, 0, 423)]
def axMlT2 : List (Nat × Nat × Nat × Nat × Nat × Nat × Nat) := [
  (0, 152, 0, 60, 1, 0, 427), (0, 127, 6, 0, 2, 0, 431), (0, 167, 0, 61, 2, 0, 432), (0, 134, 0, 62, 1, 0, 436), (6, 64, 0, 63, 2, 4, 440), (4, 87, 0, 24, 1, 0, 444), (4, 91, 0, 25, 1, 0, 445), (4, 94, 0, 40, 1, 0, 446),
  (4, 97, 0, 37, 1, 0, 447), (4, 100, 0, 29, 1, 0, 448), (4, 103, 0, 32, 1, 0, 449), (4, 106, 0, 64, 1, 0, 450), (4, 109, 0, 59, 2, 0, 454), (4, 112, 0, 65, 0, 0, 455), (4, 116, 0, 66, 1, 0, 459), (4, 119, 0, 36, 1, 0, 463),
  (6, 68, 0, 67, 1, 4, 464), (4, 122, 0, 68, 1, 0, 468), (6, 72, 0, 69, 1, 4, 472), (4, 125, 0, 70, 1, 0, 476), (6, 76, 0, 71, 2, 4, 480), (4, 128, 0, 55, 1, 0, 484), (4, 131, 0, 58, 1, 0, 485), (4, 134, 0, 60, 1, 0, 486),
  (4, 137, 0, 57, 1, 0, 487), (4, 140, 0, 72, 1, 0, 488), (0, 155, 0, 73, 1, 0, 492), (4, 143, 0, 73, 1, 0, 496), (4, 146, 0, 61, 2, 0, 497), (6, 80, 0, 74, 1, 4, 498), (4, 149, 0, 75, 0, 0, 502), (4, 152, 0, 56, 0, 0, 506)]
def axMlT3 : List (Nat × Nat × Nat × Nat × Nat × Nat × Nat) := [
  (4, 155, 0, 76, 0, 0, 507), (4, 158, 0, 77, 0, 0, 511), (0, 170, 0, 78, 2, 0, 515), (4, 161, 0, 79, 0, 0, 519), (0, 161, 0, 72, 1, 0, 523), (4, 164, 0, 80, 0, 0, 524), (4, 167, 0, 62, 1, 0, 528), (4, 170, 0, 81, 0, 2, 529),
  (4, 173, 0, 82, 0, 1, 533), (6, 84, 0, 83, 1, 4, 537), (4, 174, 0, 45, 1, 0, 541), (4, 177, 0, 44, 1, 0, 542), (4, 180, 1, 19, 1, 4, 543), (6, 88, 0, 84, 1, 4, 544), (4, 183, 0, 85, 1, 3, 548), (3, 25, 0, 77, 0, 0, 552),
  (3, 31, 0, 86, 0, 0, 553), (3, 34, 0, 68, 1, 0, 557), (3, 42, 0, 87, 2, 3, 559), (3, 46, 0, 45, 1, 0, 563), (3, 49, 0, 44, 1, 0, 564), (3, 52, 0, 88, 3, 3, 565), (3, 56, 0, 89, 2, 3, 569), (3, 60, 0, 90, 0, 0, 574),
  (3, 63, 0, 78, 2, 0, 578), (4, 186, 0, 91, 0, 3, 579), (4, 190, 0, 92, 0, 3, 583), (4, 193, 0, 93, 0, 3, 587), (4, 196, 0, 94, 0, 3, 591), (6, 92, 0, 95, 1, 4, 595), (4, 199, 0, 54, 1, 0, 599), (6, 96, 0, 96, 1, 4, 600)]
def axMlT4 : List (Nat × Nat × Nat × Nat × Nat × Nat × Nat) := [
  (4, 202, 0, 97, 1, 0, 604), (6, 100, 0, 98, 1, 4, 608), (4, 205, 0, 99, 1, 0, 612), (6, 106, 0, 100, 1, 4, 616), (4, 208, 0, 101, 1, 2, 620), (2, 19, 1, 102, 1, 2, 624), (2, 23, 1, 103, 2, 2, 627), (2, 27, 0, 104, 1, 2, 630),
  (6, 111, 0, 105, 0, 4, 634), (4, 212, 0, 106, 0, 2, 638), (6, 116, 0, 107, 0, 4, 642), (4, 215, 0, 108, 0, 2, 646), (2, 31, 0, 109, 0, 2, 650), (2, 34, 0, 110, 0, 2, 654), (2, 55, 0, 111, 1, 2, 658), (2, 59, 0, 112, 0, 2, 662),
  (2, 72, 0, 113, 0, 2, 666), (2, 76, 0, 114, 0, 2, 670), (2, 69, 0, 115, 1, 2, 674), (2, 62, 0, 116, 1, 2, 678), (2, 66, 0, 117, 0, 2, 682), (6, 120, 0, 118, 0, 4, 686), (4, 218, 0, 109, 0, 2, 690), (4, 221, 0, 110, 0, 2, 691),
  (4, 224, 0, 119, 0, 4, 692), (4, 239, 0, 120, 0, 2, 696), (4, 242, 0, 121, 0, 2, 700), (4, 245, 0, 122, 0, 2, 704), (4, 235, 0, 86, 0, 0, 708), (6, 124, 0, 123, 0, 4, 709), (4, 227, 0, 124, 1, 1, 713), (1, 34, 0, 8, 1, 0, 717)]
def axMlT5 : List (Nat × Nat × Nat × Nat × Nat × Nat × Nat) := [
  (6, 128, 0, 125, 1, 4, 718), (4, 231, 1, 7, 2, 4, 722), (6, 132, 0, 126, 1, 4, 723), (6, 12, 8, 127, 0, 5, 729), (5, 1, 9, 0, 0, 0, 732), (6, 17, 0, 128, 2, 5, 777), (5, 29, 1, 129, 3, 5, 781), (5, 121, 1, 130, 2, 5, 784),
  (5, 117, 0, 131, 1, 5, 787), (5, 41, 1, 132, 4, 5, 791), (6, 21, 0, 133, 2, 5, 794), (6, 26, 0, 134, 3, 5, 798), (5, 124, 0, 135, 0, 5, 802), (5, 113, 0, 136, 3, 5, 806), (5, 81, 0, 137, 0, 5, 810), (5, 33, 0, 138, 2, 5, 814),
  (5, 84, 0, 139, 3, 5, 818), (5, 88, 0, 140, 2, 5, 822), (5, 127, 0, 141, 1, 5, 826), (6, 31, 0, 142, 1, 5, 830), (5, 92, 0, 143, 1, 5, 834), (5, 99, 0, 144, 1, 5, 838), (5, 105, 0, 145, 1, 5, 842), (6, 35, 0, 146, 1, 5, 846),
  (6, 39, 0, 147, 2, 5, 850), (5, 130, 0, 148, 2, 5, 854), (5, 95, 1, 149, 2, 5, 858), (5, 102, 1, 150, 1, 5, 861), (6, 43, 0, 151, 2, 5, 864), (5, 133, 0, 152, 2, 5, 868), (5, 52, 0, 153, 1, 5, 872), (5, 45, 0, 154, 1, 5, 876)]
def axMlT6 : List (Nat × Nat × Nat × Nat × Nat × Nat × Nat) := [
  (6, 47, 0, 155, 1, 5, 880), (6, 51, 0, 156, 2, 5, 884), (5, 136, 0, 157, 2, 5, 888), (5, 109, 0, 158, 0, 5, 892), (6, 55, 0, 159, 2, 5, 896), (5, 139, 0, 160, 2, 5, 900), (5, 67, 1, 161, 1, 5, 904), (6, 59, 0, 162, 2, 5, 907),
  (5, 142, 0, 163, 2, 5, 911), (6, 63, 0, 164, 1, 5, 915), (5, 145, 0, 165, 1, 5, 919), (5, 74, 0, 166, 0, 5, 923), (5, 49, 0, 167, 1, 5, 927), (5, 64, 0, 168, 1, 5, 931), (5, 58, 0, 169, 2, 5, 935), (5, 61, 0, 170, 1, 5, 939),
  (6, 67, 0, 171, 2, 5, 943), (5, 148, 0, 172, 1, 5, 947), (5, 55, 0, 173, 1, 5, 951), (6, 71, 0, 174, 1, 5, 955), (6, 75, 0, 175, 1, 5, 959), (6, 79, 0, 176, 2, 5, 963), (5, 78, 0, 177, 1, 5, 967), (5, 70, 0, 178, 1, 5, 971),
  (5, 151, 0, 179, 1, 5, 975), (6, 83, 0, 180, 1, 5, 979), (5, 154, 0, 181, 0, 5, 983), (5, 157, 0, 182, 0, 5, 987), (5, 160, 0, 183, 0, 5, 991), (5, 163, 0, 184, 0, 5, 995), (6, 87, 0, 185, 1, 5, 999), (6, 91, 0, 186, 1, 5, 1003)]
def axMlT7 : List (Nat × Nat × Nat × Nat × Nat × Nat × Nat) := [
  (6, 95, 0, 187, 1, 5, 1007), (6, 99, 0, 188, 1, 5, 1011), (6, 103, 0, 189, 1, 5, 1015), (6, 110, 0, 190, 1, 5, 1019), (6, 115, 0, 191, 0, 5, 1024), (6, 119, 0, 192, 0, 5, 1028), (5, 208, 0, 193, 1, 5, 1032), (5, 202, 0, 194, 0, 5, 1036),
  (5, 174, 0, 195, 2, 5, 1040), (5, 183, 0, 196, 0, 5, 1044), (5, 186, 0, 197, 1, 5, 1048), (5, 193, 1, 198, 1, 5, 1052), (5, 205, 0, 199, 0, 5, 1055), (6, 123, 0, 200, 0, 5, 1059), (6, 127, 0, 201, 0, 5, 1063), (6, 131, 0, 202, 1, 5, 1067),
  (6, 135, 0, 203, 1, 5, 1071), (1, 24, 2, 7, 2, 4, 202), (0, 49, 2, 10, 2, 4, 218), (0, 81, 2, 18, 2, 4, 254), (0, 60, 2, 19, 1, 4, 257), (0, 85, 2, 20, 3, 4, 260), (3, 38, 2, 20, 3, 4, 558), (3, 67, 2, 10, 2, 4, 573)]
def axMlT : List (Nat × Nat × Nat × Nat × Nat × Nat × Nat) := axMlT0 ++ (axMlT1 ++ (axMlT2 ++ (axMlT3 ++ (axMlT4 ++ (axMlT5 ++ (axMlT6 ++ (axMlT7)))))))
def axFin (c k : Nat) : Bool := (axT c k).2.2.2
def axTr (o : Nat) (ini : Bool) (rt : Nat) (pc : Nat) (ins : Instr) (len : Nat) : Option axE := match ins with
  | .iconst n => axI 1 len (pc, 0, .int (Int32.ofInt n), 0, 0, [], pc + 1)
  | .bipush n => axI 2 len (pc, 0, .int (Int8.ofInt n).toInt32, 0, 0, [], pc + 2)
  | .sipush n => axI 3 len (pc, 0, .int (Int16.ofInt n).toInt32, 0, 0, [], pc + 3)
  | .ldc_w i => match axFnd o i axCsT with
    | some q => axI 3 len (pc, 0, .int q.1, 0, 0, [], pc + 3)
    | none => none
  | .ldc2_w i => match axFnd o i axLcT with
    | some q => axI 3 len (pc, 0, .long q.1, 0, 0, [], pc + 3)
    | none => none
  | .lconst n => axI 1 len (pc, 0, .long (Int64.ofNat (n : Nat)), 0, 0, [], pc + 1)
  | .iload_n k => axI 1 len (pc, 1, .null, (k : Nat), 0, [], pc + 1)
  | .iload k => axI 2 len (pc, 1, .null, k, 0, [], pc + 2)
  | .aload_n k => axI 1 len (pc, 2, .null, (k : Nat), 0, [], pc + 1)
  | .aload k => axI 2 len (pc, 2, .null, k, 0, [], pc + 2)
  | .lload_n k => axI 1 len (pc, 3, .null, (k : Nat), 0, [], pc + 1)
  | .lload k => axI 2 len (pc, 3, .null, k, 0, [], pc + 2)
  | .istore_n k => axI 1 len (pc, 4, .null, (k : Nat), 0, [], pc + 1)
  | .istore k => axI 2 len (pc, 4, .null, k, 0, [], pc + 2)
  | .astore_n k => axI 1 len (pc, 5, .null, (k : Nat), 0, [], pc + 1)
  | .astore k => axI 2 len (pc, 5, .null, k, 0, [], pc + 2)
  | .iinc i n => axI 3 len (pc, 6, .int (Int32.ofInt n), i, 0, [], pc + 3)
  | .dup => axI 1 len (pc, 7, .null, 0, 0, [], pc + 1)
  | .pop => axI 1 len (pc, 8, .null, 0, 0, [], pc + 1)
  | .goto off => axTg pc len off fun t => (pc, 9, .null, 0, 0, [], t)
  | .dup2 => axI 1 len (pc, 10, .null, 0, 0, [], pc + 1)
  | .iadd => axI 1 len (pc, 11, .null, 0, 0, [], pc + 1)
  | .isub => axI 1 len (pc, 12, .null, 0, 0, [], pc + 1)
  | .imul => axI 1 len (pc, 13, .null, 0, 0, [], pc + 1)
  | .iand => axI 1 len (pc, 14, .null, 0, 0, [], pc + 1)
  | .ior => axI 1 len (pc, 15, .null, 0, 0, [], pc + 1)
  | .ixor => axI 1 len (pc, 16, .null, 0, 0, [], pc + 1)
  | .ishl => axI 1 len (pc, 17, .null, 0, 0, [], pc + 1)
  | .ishr => axI 1 len (pc, 18, .null, 0, 0, [], pc + 1)
  | .iushr => axI 1 len (pc, 19, .null, 0, 0, [], pc + 1)
  | .ineg => axI 1 len (pc, 20, .null, 0, 0, [], pc + 1)
  | .i2c => axI 1 len (pc, 21, .null, 0, 0, [], pc + 1)
  | .i2l => axI 1 len (pc, 22, .null, 0, 0, [], pc + 1)
  | .l2i => axI 1 len (pc, 23, .null, 0, 0, [], pc + 1)
  | .land => axI 1 len (pc, 24, .null, 0, 0, [], pc + 1)
  | .lor => axI 1 len (pc, 25, .null, 0, 0, [], pc + 1)
  | .lshl => axI 1 len (pc, 26, .null, 0, 0, [], pc + 1)
  | .lshr => axI 1 len (pc, 27, .null, 0, 0, [], pc + 1)
  | .lushr => axI 1 len (pc, 28, .null, 0, 0, [], pc + 1)
  | .lcmp => axI 1 len (pc, 29, .null, 0, 0, [], pc + 1)
  | .if_icmp cd off => axTg pc len off fun t => (pc, 32, .null, axCc cd, t, [], pc + 3)
  | .ifCond cd off => axTg pc len off fun t => (pc, 33, .null, axCc cd, t, [], pc + 3)
  | .ifnonnull off => axTg pc len off fun t => (pc, 34, .null, 0, t, [], pc + 3)
  | .tableswitch d lo hi offs => if 0 ≤ lo ∧ hi < 1000 ∧ (offs.size : Int) = hi - lo + 1 ∧ 0 ≤ (pc : Int) + d ∧ (offs.toList.all fun o => decide (0 ≤ (pc : Int) + o)) = true then some (pc, 35, .null, 0, ((pc : Int) + d).toNat, axSwT pc lo offs.toList, pc) else none
  | .lookupswitch d ps => if (ps.toList.zip (ps.toList.drop 1)).all (fun (a, next) => a.1 < next.1) = true ∧ 0 ≤ (pc : Int) + d ∧ (ps.toList.all fun o => decide (0 ≤ (pc : Int) + o.2 ∧ -1000 < o.1 ∧ o.1 < 1000)) = true then some (pc, 35, .null, 0, ((pc : Int) + d).toNat, axSwL pc ps.toList, pc) else none
  | .getfield i => match axFnd o i axFlT with
    | some (c, k, _) => axI 3 len (pc, 36, .null, c, k, [], pc + 3)
    | none => none
  | .putfield i => match axFnd o i axFlT with
    | some (c, k, _) => bif axFin c k then bif ini && Nat.beq c o then axI 3 len (pc, 60, .null, c, k, [], pc + 3) else none else axI 3 len (pc, 37, .null, c, k, [], pc + 3)
    | none => none
  | .getstatic i => match axFnd o i axStT with
    | some (j, _) => axI 3 len (pc, 38, .null, j, 0, [], pc + 3)
    | none => none
  | .arraylength => axI 1 len (pc, 39, .null, 0, 0, [], pc + 1)
  | .iaload => axI 1 len (pc, 40, .null, 0, 0, [], pc + 1)
  | .caload => axI 1 len (pc, 40, .null, 1, 0, [], pc + 1)
  | .baload => axI 1 len (pc, 40, .null, 2, 0, [], pc + 1)
  | .aaload => axI 1 len (pc, 41, .null, 0, 0, [], pc + 1)
  | .iastore => axI 1 len (pc, 42, .null, 0, 0, [], pc + 1)
  | .castore => axI 1 len (pc, 42, .null, 1, 0, [], pc + 1)
  | .bastore => axI 1 len (pc, 42, .null, 2, 0, [], pc + 1)
  | .aastore => axI 1 len (pc, 43, .null, 0, 0, [], pc + 1)
  | .newarray t => match t with
    | .int => axI 2 len (pc, 44, .null, 0, 0, [], pc + 2)
    | .char => axI 2 len (pc, 44, .null, 1, 0, [], pc + 2)
    | .boolean => axI 2 len (pc, 44, .null, 2, 0, [], pc + 2)
    | _ => none
  | .anewarray i => match axFnd o i axClsT with
    | some (0, _) => axI 3 len (pc, 45, .null, 0, 0, [], pc + 3)
    | _ => none
  | .new i => match axFnd o i axClsT with
    | some (c, _) => bif Nat.blt c 6 then axI 3 len (pc, 46, .null, c, 0, [], pc + 3) else none
    | none => none
  | .idiv => axI 1 len (pc, 47, .null, 0, 0, [], pc + 1)
  | .irem => axI 1 len (pc, 48, .null, 0, 0, [], pc + 1)
  | .ireturn => axI 1 len (pc, 49, .null, rt, 0, [], pc)
  | .return_ => axI 1 len (pc, 50, .null, 0, 0, [], pc)
  | .areturn => axI 1 len (pc, 51, .null, 0, 0, [], pc)
  | .invokevirtual i => match axFnd o i axMlT with
    | some (0, z, n, ci, _) => axI 3 len (pc, 52, .ref ci, z, n, [], pc + 3)
    | _ => none
  | .invokestatic i => match axFnd o i axMlT with
    | some (1, z, n, _, _) => axI 3 len (pc, 53, .null, z, n, [], pc + 3)
    | some (2, z, n, _, _) => axI 3 len (pc, 53, .null, z, n, [], pc + 3)
    | some (3, z, n, _, _) => axI 3 len (pc, 53, .null, z, n, [], pc + 3)
    | some (4, _, _, _, _) => axI 3 len (pc, 56, .null, 0, 0, [], pc + 3)
    | some (5, _, _, _, _) => axI 3 len (pc, 57, .null, 0, 0, [], pc + 3)
    | some (6, _, _, _, _) => axI 3 len (pc, 58, .null, 0, 0, [], pc + 3)
    | some (7, _, _, _, _) => axI 3 len (pc, 59, .null, 0, 0, [], pc + 3)
    | _ => none
  | .invokespecial i => match axFnd o i axMlT with
    | some (8, z, n, _, _) => axI 3 len (pc, 54, .null, z, n, [], pc + 3)
    | some (9, _, _, _, _) => axI 3 len (pc, 55, .null, 0, 0, [], pc + 3)
    | _ => none
  | _ => none
def axRk : Option FieldType → Nat := fun r => match r with
  | some .char => 1
  | some .boolean => 2
  | _ => 0
def axEqL : List (Int32 × Nat) → List (Int32 × Nat) → Bool
  | [], [] => true
  | q :: l, r :: m => decide (q.1 = r.1) && decide (q.2 = r.2) && axEqL l m
  | _, _ => false
theorem axEqL_ok : ∀ (l m : List (Int32 × Nat)), axEqL l m = true → l = m
  | [], [], _ => rfl
  | q :: l, r :: m, h => by
    simp only [axEqL, Bool.and_eq_true, decide_eq_true_eq] at h
    rw [axEqL_ok l m h.2, Prod.ext h.1.1 h.1.2]
  | [], _ :: _, h => by simp [axEqL] at h
  | _ :: _, [], h => by simp [axEqL] at h
def axEqO : Option axE → axE → Bool
  | some (p1, p2, p3, p4, p5, p6, p7), (q1, q2, q3, q4, q5, q6, q7) => decide (p1 = q1) && decide (p2 = q2) && decide (p3 = q3) && decide (p4 = q4) && decide (p5 = q5) && axEqL p6 q6 && decide (p7 = q7)
  | none, _ => false
theorem axEqO_ok {o : Option axE} {e : axE} (h : axEqO o e = true) : o = some e := by
  obtain ⟨q1, q2, q3, q4, q5, q6, q7⟩ := e
  match o, h with
  | some (p1, p2, p3, p4, p5, p6, p7), h =>
    simp only [axEqO, Bool.and_eq_true, decide_eq_true_eq] at h
    obtain ⟨⟨⟨⟨⟨⟨h1, h2⟩, h3⟩, h4⟩, h5⟩, h6⟩, h7⟩ := h
    rw [h1, h2, h3, h4, h5, axEqL_ok _ _ h6, h7]
  | none, h => simp [axEqO] at h
def axCk (o : Nat) (ini : Bool) (rt : Nat) (b : ByteArray) (l : List axE) : Bool := l.all fun e => match decode b e.1 with
  | .ok (ins, len) => axEqO (axTr o ini rt e.1 ins len) e
  | _ => false
