/-! The code of the methods as rows of the abstract machine. Written by wip/whole/gen2.py. -/
def cdX4_init : List axE := [
  (0, 2, .null, 0, 0, [], 1), (1, 55, .null, 0, 0, [], 4), (4, 2, .null, 0, 0, [], 5), (5, 46, .null, 0, 0, [], 8), (8, 7, .null, 0, 0, [], 9), (9, 54, .null, 1, 0, [], 12), (12, 60, .null, 4, 0, [], 15), (15, 2, .null, 0, 0, [], 16),
  (16, 46, .null, 1, 0, [], 19), (19, 7, .null, 0, 0, [], 20), (20, 54, .null, 2, 0, [], 23), (23, 60, .null, 4, 1, [], 26), (26, 2, .null, 0, 0, [], 27), (27, 0, .int 2, 0, 0, [], 28), (28, 45, .null, 0, 0, [], 31), (31, 60, .null, 4, 2, [], 34),
  (34, 2, .null, 0, 0, [], 35), (35, 46, .null, 2, 0, [], 38), (38, 7, .null, 0, 0, [], 39), (39, 54, .null, 3, 0, [], 42), (42, 60, .null, 4, 3, [], 45), (45, 2, .null, 0, 0, [], 46), (46, 46, .null, 3, 0, [], 49), (49, 7, .null, 0, 0, [], 50),
  (50, 54, .null, 4, 0, [], 53), (53, 60, .null, 4, 4, [], 56), (56, 50, .null, 0, 0, [], 56)]
def mtX4_init : axM := (⟨"BeatSlugs", "<init>", "()V"⟩, prog_1_method_1_code, 1, none, 4, true, cdX4_init)
abbrev kX4_init : Nat := 0
set_option maxRecDepth 100000 in
theorem ckX4_init : axCk 4 true 0 prog_1_method_1_code cdX4_init = true := by decide +kernel
def cdX0_init : List axE := [
  (0, 2, .null, 0, 0, [], 1), (1, 55, .null, 0, 0, [], 4), (4, 2, .null, 0, 0, [], 5), (5, 0, .int 3, 0, 0, [], 6), (6, 44, .null, 0, 0, [], 8), (8, 7, .null, 0, 0, [], 9), (9, 0, .int 0, 0, 0, [], 10), (10, 0, .int 16, 0, 0, [], 12),
  (12, 42, .null, 0, 0, [], 13), (13, 7, .null, 0, 0, [], 14), (14, 0, .int 1, 0, 0, [], 15), (15, 0, .int 2, 0, 0, [], 16), (16, 42, .null, 0, 0, [], 17), (17, 7, .null, 0, 0, [], 18), (18, 0, .int 2, 0, 0, [], 19), (19, 0, .int 50, 0, 0, [], 21),
  (21, 42, .null, 0, 0, [], 22), (22, 60, .null, 0, 0, [], 25), (25, 2, .null, 0, 0, [], 26), (26, 0, .int 6, 0, 0, [], 28), (28, 44, .null, 0, 0, [], 30), (30, 7, .null, 0, 0, [], 31), (31, 0, .int 0, 0, 0, [], 32), (32, 0, .int 60, 0, 0, [], 34),
  (34, 42, .null, 0, 0, [], 35), (35, 7, .null, 0, 0, [], 36), (36, 0, .int 1, 0, 0, [], 37), (37, 0, .int 60, 0, 0, [], 39), (39, 42, .null, 0, 0, [], 40), (40, 7, .null, 0, 0, [], 41), (41, 0, .int 2, 0, 0, [], 42), (42, 0, .int 60, 0, 0, [], 44),
  (44, 42, .null, 0, 0, [], 45), (45, 7, .null, 0, 0, [], 46), (46, 0, .int 3, 0, 0, [], 47), (47, 0, .int 60, 0, 0, [], 49), (49, 42, .null, 0, 0, [], 50), (50, 7, .null, 0, 0, [], 51), (51, 0, .int 4, 0, 0, [], 52), (52, 0, .int 60, 0, 0, [], 54),
  (54, 42, .null, 0, 0, [], 55), (55, 7, .null, 0, 0, [], 56), (56, 0, .int 5, 0, 0, [], 57), (57, 0, .int 60, 0, 0, [], 59), (59, 42, .null, 0, 0, [], 60), (60, 60, .null, 0, 1, [], 63), (63, 2, .null, 0, 0, [], 64), (64, 0, .int 24, 0, 0, [], 66),
  (66, 44, .null, 0, 0, [], 68), (68, 60, .null, 0, 2, [], 71), (71, 2, .null, 0, 0, [], 72), (72, 0, .int 24, 0, 0, [], 74), (74, 44, .null, 0, 0, [], 76), (76, 60, .null, 0, 3, [], 79), (79, 2, .null, 0, 0, [], 80), (80, 0, .int 24, 0, 0, [], 82),
  (82, 44, .null, 0, 0, [], 84), (84, 60, .null, 0, 4, [], 87), (87, 2, .null, 0, 0, [], 88), (88, 0, .int 24, 0, 0, [], 90), (90, 44, .null, 0, 0, [], 92), (92, 60, .null, 0, 5, [], 95), (95, 50, .null, 0, 0, [], 95)]
def mtX0_init : axM := (⟨"BeatSlugs$Board", "<init>", "()V"⟩, prog_2_method_1_code, 1, none, 0, true, cdX0_init)
abbrev kX0_init : Nat := 1
set_option maxRecDepth 100000 in
theorem ckX0_init : axCk 0 true 0 prog_2_method_1_code cdX0_init = true := by decide +kernel
def cdX1_init : List axE := [
  (0, 2, .null, 0, 0, [], 1), (1, 55, .null, 0, 0, [], 4), (4, 2, .null, 0, 0, [], 5), (5, 0, .int 7, 0, 0, [], 7), (7, 45, .null, 0, 0, [], 10), (10, 60, .null, 1, 0, [], 13), (13, 50, .null, 0, 0, [], 13)]
def mtX1_init : axM := (⟨"BeatSlugs$History", "<init>", "()V"⟩, prog_3_method_1_code, 1, none, 1, true, cdX1_init)
abbrev kX1_init : Nat := 2
set_option maxRecDepth 100000 in
theorem ckX1_init : axCk 1 true 0 prog_3_method_1_code cdX1_init = true := by decide +kernel
def cdX2_init : List axE := [
  (0, 2, .null, 0, 0, [], 1), (1, 55, .null, 0, 0, [], 4), (4, 2, .null, 0, 0, [], 5), (5, 0, .int 80, 0, 0, [], 7), (7, 44, .null, 1, 0, [], 9), (9, 60, .null, 2, 0, [], 12), (12, 50, .null, 0, 0, [], 12)]
def mtX2_init : axM := (⟨"BeatSlugs$Pad", "<init>", "()V"⟩, prog_4_method_1_code, 1, none, 2, true, cdX2_init)
abbrev kX2_init : Nat := 3
set_option maxRecDepth 100000 in
theorem ckX2_init : axCk 2 true 0 prog_4_method_1_code cdX2_init = true := by decide +kernel
def cdX3_init : List axE := [
  (0, 2, .null, 0, 0, [], 1), (1, 55, .null, 0, 0, [], 4), (4, 2, .null, 0, 0, [], 5), (5, 0, .int 24, 0, 0, [], 7), (7, 44, .null, 0, 0, [], 9), (9, 60, .null, 3, 0, [], 12), (12, 50, .null, 0, 0, [], 12)]
def mtX3_init : axM := (⟨"BeatSlugs$SwapSearch", "<init>", "()V"⟩, prog_5_method_1_code, 1, none, 3, true, cdX3_init)
abbrev kX3_init : Nat := 4
set_option maxRecDepth 100000 in
theorem ckX3_init : axCk 3 true 0 prog_5_method_1_code cdX3_init = true := by decide +kernel
def cdX4_set : List axE := [
  (0, 2, .null, 0, 0, [], 1), (1, 36, .null, 4, 1, [], 4), (4, 2, .null, 0, 0, [], 5), (5, 36, .null, 4, 0, [], 8), (8, 52, .ref 1, 6, 1, [], 11), (11, 2, .null, 0, 0, [], 12), (12, 36, .null, 4, 1, [], 15), (15, 2, .null, 0, 0, [], 16),
  (16, 36, .null, 4, 0, [], 19), (19, 1, .null, 1, 0, [], 20), (20, 1, .null, 2, 0, [], 21), (21, 52, .ref 0, 9, 2, [], 24), (24, 52, .ref 1, 11, 1, [], 27), (27, 49, .null, 0, 0, [], 27)]
def mtX4_set : axM := (⟨"BeatSlugs", "set", "(II)I"⟩, prog_1_method_2_code, 3, (some .int), 4, false, cdX4_set)
abbrev kX4_set : Nat := 5
set_option maxRecDepth 100000 in
theorem ckX4_set : axCk 4 false 0 prog_1_method_2_code cdX4_set = true := by decide +kernel
def cdX1_prepare : List axE := [
  (0, 2, .null, 0, 0, [], 1), (1, 36, .null, 1, 1, [], 4), (4, 33, .null, 2, 41, [], 7), (7, 2, .null, 0, 0, [], 8), (8, 36, .null, 1, 1, [], 11), (11, 2, .null, 0, 0, [], 12), (12, 36, .null, 1, 0, [], 15), (15, 39, .null, 0, 0, [], 16),
  (16, 32, .null, 3, 41, [], 19), (19, 2, .null, 0, 0, [], 20), (20, 36, .null, 1, 0, [], 23), (23, 2, .null, 0, 0, [], 24), (24, 36, .null, 1, 1, [], 27), (27, 2, .null, 0, 0, [], 28), (28, 36, .null, 1, 0, [], 31), (31, 2, .null, 0, 0, [], 32),
  (32, 36, .null, 1, 1, [], 35), (35, 41, .null, 0, 0, [], 36), (36, 2, .null, 1, 0, [], 37), (37, 53, .null, 7, 2, [], 40), (40, 43, .null, 0, 0, [], 41), (41, 50, .null, 0, 0, [], 41)]
def mtX1_prepare : axM := (⟨"BeatSlugs$History", "prepare", "(LBeatSlugs$Board;)V"⟩, prog_3_method_3_code, 2, none, 1, false, cdX1_prepare)
abbrev kX1_prepare : Nat := 6
set_option maxRecDepth 100000 in
theorem ckX1_prepare : axCk 1 false 0 prog_3_method_3_code cdX1_prepare = true := by decide +kernel
def cdX4_copyInto : List axE := [
  (0, 2, .null, 0, 0, [], 1), (1, 34, .null, 0, 14, [], 4), (4, 46, .null, 0, 0, [], 7), (7, 7, .null, 0, 0, [], 8), (8, 54, .null, 1, 0, [], 11), (11, 9, .null, 0, 0, [], 15), (14, 2, .null, 0, 0, [], 15), (15, 5, .null, 2, 0, [], 16),
  (16, 2, .null, 2, 0, [], 17), (17, 2, .null, 1, 0, [], 18), (18, 52, .ref 0, 8, 1, [], 21), (21, 2, .null, 2, 0, [], 22), (22, 51, .null, 0, 0, [], 22)]
def mtX4_copyInto : axM := (⟨"BeatSlugs", "copyInto", "(LBeatSlugs$Board;LBeatSlugs$Board;)LBeatSlugs$Board;"⟩, prog_1_method_32_code, 3, (some (.object "BeatSlugs$Board")), 4, false, cdX4_copyInto)
abbrev kX4_copyInto : Nat := 7
set_option maxRecDepth 100000 in
theorem ckX4_copyInto : axCk 4 false 0 prog_1_method_32_code cdX4_copyInto = true := by decide +kernel
def cdX0_takeOver : List axE := [
  (0, 2, .null, 1, 0, [], 1), (1, 36, .null, 0, 0, [], 4), (4, 0, .int 0, 0, 0, [], 5), (5, 2, .null, 0, 0, [], 6), (6, 36, .null, 0, 0, [], 9), (9, 0, .int 0, 0, 0, [], 10), (10, 2, .null, 0, 0, [], 11), (11, 36, .null, 0, 0, [], 14),
  (14, 39, .null, 0, 0, [], 15), (15, 56, .null, 0, 0, [], 18), (18, 2, .null, 1, 0, [], 19), (19, 36, .null, 0, 1, [], 22), (22, 0, .int 0, 0, 0, [], 23), (23, 2, .null, 0, 0, [], 24), (24, 36, .null, 0, 1, [], 27), (27, 0, .int 0, 0, 0, [], 28),
  (28, 2, .null, 0, 0, [], 29), (29, 36, .null, 0, 1, [], 32), (32, 39, .null, 0, 0, [], 33), (33, 56, .null, 0, 0, [], 36), (36, 2, .null, 1, 0, [], 37), (37, 36, .null, 0, 2, [], 40), (40, 0, .int 0, 0, 0, [], 41), (41, 2, .null, 0, 0, [], 42),
  (42, 36, .null, 0, 2, [], 45), (45, 0, .int 0, 0, 0, [], 46), (46, 2, .null, 0, 0, [], 47), (47, 36, .null, 0, 2, [], 50), (50, 39, .null, 0, 0, [], 51), (51, 56, .null, 0, 0, [], 54), (54, 2, .null, 1, 0, [], 55), (55, 36, .null, 0, 3, [], 58),
  (58, 0, .int 0, 0, 0, [], 59), (59, 2, .null, 0, 0, [], 60), (60, 36, .null, 0, 3, [], 63), (63, 0, .int 0, 0, 0, [], 64), (64, 2, .null, 0, 0, [], 65), (65, 36, .null, 0, 3, [], 68), (68, 39, .null, 0, 0, [], 69), (69, 56, .null, 0, 0, [], 72),
  (72, 2, .null, 1, 0, [], 73), (73, 36, .null, 0, 4, [], 76), (76, 0, .int 0, 0, 0, [], 77), (77, 2, .null, 0, 0, [], 78), (78, 36, .null, 0, 4, [], 81), (81, 0, .int 0, 0, 0, [], 82), (82, 2, .null, 0, 0, [], 83), (83, 36, .null, 0, 4, [], 86),
  (86, 39, .null, 0, 0, [], 87), (87, 56, .null, 0, 0, [], 90), (90, 2, .null, 1, 0, [], 91), (91, 36, .null, 0, 5, [], 94), (94, 0, .int 0, 0, 0, [], 95), (95, 2, .null, 0, 0, [], 96), (96, 36, .null, 0, 5, [], 99), (99, 0, .int 0, 0, 0, [], 100),
  (100, 2, .null, 0, 0, [], 101), (101, 36, .null, 0, 5, [], 104), (104, 39, .null, 0, 0, [], 105), (105, 56, .null, 0, 0, [], 108), (108, 2, .null, 0, 0, [], 109), (109, 2, .null, 1, 0, [], 110), (110, 36, .null, 0, 6, [], 113), (113, 37, .null, 0, 6, [], 116),
  (116, 2, .null, 0, 0, [], 117), (117, 2, .null, 1, 0, [], 118), (118, 36, .null, 0, 7, [], 121), (121, 37, .null, 0, 7, [], 124), (124, 2, .null, 0, 0, [], 125), (125, 2, .null, 1, 0, [], 126), (126, 36, .null, 0, 8, [], 129), (129, 37, .null, 0, 8, [], 132),
  (132, 50, .null, 0, 0, [], 132)]
def mtX0_takeOver : axM := (⟨"BeatSlugs$Board", "takeOver", "(LBeatSlugs$Board;)V"⟩, prog_2_method_2_code, 2, none, 0, false, cdX0_takeOver)
abbrev kX0_takeOver : Nat := 8
set_option maxRecDepth 100000 in
theorem ckX0_takeOver : axCk 0 false 0 prog_2_method_2_code cdX0_takeOver = true := by decide +kernel
def cdX0_changeSetting : List axE := [
  (0, 1, .null, 1, 0, [], 1), (1, 33, .null, 2, 13, [], 4), (4, 1, .null, 1, 0, [], 5), (5, 2, .null, 0, 0, [], 6), (6, 36, .null, 0, 0, [], 9), (9, 39, .null, 0, 0, [], 10), (10, 32, .null, 2, 16, [], 13), (13, 0, .int (-2), 0, 0, [], 15),
  (15, 49, .null, 0, 0, [], 15), (16, 1, .null, 2, 0, [], 17), (17, 38, .null, 1, 0, [], 20), (20, 1, .null, 1, 0, [], 21), (21, 53, .null, 10, 2, [], 24), (24, 32, .null, 2, 38, [], 27), (27, 1, .null, 2, 0, [], 28), (28, 38, .null, 2, 0, [], 31),
  (31, 1, .null, 1, 0, [], 32), (32, 53, .null, 10, 2, [], 35), (35, 32, .null, 5, 41, [], 38), (38, 0, .int (-2), 0, 0, [], 40), (40, 49, .null, 0, 0, [], 40), (41, 2, .null, 0, 0, [], 42), (42, 36, .null, 0, 0, [], 45), (45, 1, .null, 1, 0, [], 46),
  (46, 40, .null, 0, 0, [], 47), (47, 4, .null, 3, 0, [], 48), (48, 2, .null, 0, 0, [], 49), (49, 36, .null, 0, 0, [], 52), (52, 1, .null, 1, 0, [], 53), (53, 1, .null, 2, 0, [], 54), (54, 42, .null, 0, 0, [], 55), (55, 1, .null, 3, 0, [], 56),
  (56, 49, .null, 0, 0, [], 56)]
def mtX0_changeSetting : axM := (⟨"BeatSlugs$Board", "changeSetting", "(II)I"⟩, prog_2_method_3_code, 4, (some .int), 0, false, cdX0_changeSetting)
abbrev kX0_changeSetting : Nat := 9
set_option maxRecDepth 100000 in
theorem ckX0_changeSetting : axCk 0 false 0 prog_2_method_3_code cdX0_changeSetting = true := by decide +kernel
def cdX4_cell : List axE := [
  (0, 1, .null, 1, 0, [], 1), (1, 33, .null, 2, 16, [], 4), (4, 1, .null, 1, 0, [], 5), (5, 2, .null, 0, 0, [], 6), (6, 39, .null, 0, 0, [], 7), (7, 32, .null, 3, 16, [], 10), (10, 2, .null, 0, 0, [], 11), (11, 1, .null, 1, 0, [], 12),
  (12, 40, .null, 0, 0, [], 13), (13, 9, .null, 0, 0, [], 17), (16, 0, .int 0, 0, 0, [], 17), (17, 49, .null, 0, 0, [], 17)]
def mtX4_cell : axM := (⟨"BeatSlugs", "cell", "([II)I"⟩, prog_1_method_33_code, 2, (some .int), 4, false, cdX4_cell)
abbrev kX4_cell : Nat := 10
set_option maxRecDepth 100000 in
theorem ckX4_cell : axCk 4 false 0 prog_1_method_33_code cdX4_cell = true := by decide +kernel
def cdX1_settle : List axE := [
  (0, 1, .null, 1, 0, [], 1), (1, 33, .null, 2, 47, [], 4), (4, 2, .null, 0, 0, [], 5), (5, 2, .null, 0, 0, [], 6), (6, 36, .null, 1, 1, [], 9), (9, 0, .int 1, 0, 0, [], 10), (10, 11, .null, 0, 0, [], 11), (11, 2, .null, 0, 0, [], 12),
  (12, 36, .null, 1, 0, [], 15), (15, 39, .null, 0, 0, [], 16), (16, 32, .null, 3, 28, [], 19), (19, 2, .null, 0, 0, [], 20), (20, 36, .null, 1, 1, [], 23), (23, 0, .int 1, 0, 0, [], 24), (24, 11, .null, 0, 0, [], 25), (25, 9, .null, 0, 0, [], 29),
  (28, 0, .int 0, 0, 0, [], 29), (29, 37, .null, 1, 1, [], 32), (32, 2, .null, 0, 0, [], 33), (33, 2, .null, 0, 0, [], 34), (34, 36, .null, 1, 2, [], 37), (37, 0, .int 1, 0, 0, [], 38), (38, 11, .null, 0, 0, [], 39), (39, 0, .int 6, 0, 0, [], 41),
  (41, 58, .null, 0, 0, [], 44), (44, 37, .null, 1, 2, [], 47), (47, 1, .null, 1, 0, [], 48), (48, 49, .null, 0, 0, [], 48)]
def mtX1_settle : axM := (⟨"BeatSlugs$History", "settle", "(I)I"⟩, prog_3_method_4_code, 2, (some .int), 1, false, cdX1_settle)
abbrev kX1_settle : Nat := 11
set_option maxRecDepth 100000 in
theorem ckX1_settle : axCk 1 false 0 prog_3_method_4_code cdX1_settle = true := by decide +kernel
def cdX4_target : List axE := [
  (0, 2, .null, 0, 0, [], 1), (1, 36, .null, 4, 1, [], 4), (4, 2, .null, 0, 0, [], 5), (5, 36, .null, 4, 0, [], 8), (8, 52, .ref 1, 6, 1, [], 11), (11, 2, .null, 0, 0, [], 12), (12, 36, .null, 4, 1, [], 15), (15, 2, .null, 0, 0, [], 16),
  (16, 36, .null, 4, 0, [], 19), (19, 1, .null, 1, 0, [], 20), (20, 1, .null, 2, 0, [], 21), (21, 52, .ref 0, 13, 2, [], 24), (24, 52, .ref 1, 11, 1, [], 27), (27, 49, .null, 0, 0, [], 27)]
def mtX4_target : axM := (⟨"BeatSlugs", "target", "(II)I"⟩, prog_1_method_3_code, 3, (some .int), 4, false, cdX4_target)
abbrev kX4_target : Nat := 12
set_option maxRecDepth 100000 in
theorem ckX4_target : axCk 4 false 0 prog_1_method_3_code cdX4_target = true := by decide +kernel
def cdX0_changeTarget : List axE := [
  (0, 1, .null, 1, 0, [], 1), (1, 33, .null, 2, 13, [], 4), (4, 1, .null, 1, 0, [], 5), (5, 2, .null, 0, 0, [], 6), (6, 36, .null, 0, 1, [], 9), (9, 39, .null, 0, 0, [], 10), (10, 32, .null, 2, 15, [], 13), (13, 0, .int (-1), 0, 0, [], 14),
  (14, 49, .null, 0, 0, [], 14), (15, 1, .null, 2, 0, [], 16), (16, 0, .int 1, 0, 0, [], 17), (17, 32, .null, 2, 27, [], 20), (20, 1, .null, 2, 0, [], 21), (21, 0, .int 999, 0, 0, [], 24), (24, 32, .null, 5, 30, [], 27), (27, 0, .int (-2), 0, 0, [], 29),
  (29, 49, .null, 0, 0, [], 29), (30, 2, .null, 0, 0, [], 31), (31, 36, .null, 0, 1, [], 34), (34, 1, .null, 1, 0, [], 35), (35, 40, .null, 0, 0, [], 36), (36, 4, .null, 3, 0, [], 37), (37, 2, .null, 0, 0, [], 38), (38, 36, .null, 0, 1, [], 41),
  (41, 1, .null, 1, 0, [], 42), (42, 1, .null, 2, 0, [], 43), (43, 42, .null, 0, 0, [], 44), (44, 1, .null, 3, 0, [], 45), (45, 49, .null, 0, 0, [], 45)]
def mtX0_changeTarget : axM := (⟨"BeatSlugs$Board", "changeTarget", "(II)I"⟩, prog_2_method_4_code, 4, (some .int), 0, false, cdX0_changeTarget)
abbrev kX0_changeTarget : Nat := 13
set_option maxRecDepth 100000 in
theorem ckX0_changeTarget : axCk 0 false 0 prog_2_method_4_code cdX0_changeTarget = true := by decide +kernel
def cdX4_slug : List axE := [
  (0, 2, .null, 0, 0, [], 1), (1, 36, .null, 4, 1, [], 4), (4, 2, .null, 0, 0, [], 5), (5, 36, .null, 4, 0, [], 8), (8, 52, .ref 1, 6, 1, [], 11), (11, 2, .null, 0, 0, [], 12), (12, 36, .null, 4, 1, [], 15), (15, 2, .null, 0, 0, [], 16),
  (16, 36, .null, 4, 0, [], 19), (19, 1, .null, 1, 0, [], 20), (20, 1, .null, 2, 0, [], 21), (21, 1, .null, 3, 0, [], 22), (22, 52, .ref 0, 15, 3, [], 25), (25, 52, .ref 1, 11, 1, [], 28), (28, 49, .null, 0, 0, [], 28)]
def mtX4_slug : axM := (⟨"BeatSlugs", "slug", "(III)I"⟩, prog_1_method_4_code, 4, (some .int), 4, false, cdX4_slug)
abbrev kX4_slug : Nat := 14
set_option maxRecDepth 100000 in
theorem ckX4_slug : axCk 4 false 0 prog_1_method_4_code cdX4_slug = true := by decide +kernel
def cdX0_addSlug : List axE := [
  (0, 1, .null, 1, 0, [], 1), (1, 33, .null, 2, 12, [], 4), (4, 1, .null, 1, 0, [], 5), (5, 2, .null, 0, 0, [], 6), (6, 36, .null, 0, 8, [], 9), (9, 32, .null, 5, 14, [], 12), (12, 0, .int (-1), 0, 0, [], 13), (13, 49, .null, 0, 0, [], 13),
  (14, 1, .null, 2, 0, [], 15), (15, 0, .int 1, 0, 0, [], 16), (16, 32, .null, 2, 34, [], 19), (19, 1, .null, 2, 0, [], 20), (20, 0, .int 99, 0, 0, [], 22), (22, 32, .null, 4, 34, [], 25), (25, 1, .null, 3, 0, [], 26), (26, 33, .null, 2, 34, [], 29),
  (29, 1, .null, 3, 0, [], 30), (30, 0, .int 1, 0, 0, [], 31), (31, 32, .null, 5, 37, [], 34), (34, 0, .int (-2), 0, 0, [], 36), (36, 49, .null, 0, 0, [], 36), (37, 2, .null, 0, 0, [], 38), (38, 36, .null, 0, 8, [], 41), (41, 0, .int 24, 0, 0, [], 43),
  (43, 32, .null, 2, 49, [], 46), (46, 0, .int (-4), 0, 0, [], 48), (48, 49, .null, 0, 0, [], 48), (49, 2, .null, 0, 0, [], 50), (50, 1, .null, 1, 0, [], 51), (51, 1, .null, 2, 0, [], 52), (52, 52, .ref 0, 16, 2, [], 55), (55, 4, .null, 4, 0, [], 57),
  (57, 1, .null, 3, 0, [], 58), (58, 0, .int 1, 0, 0, [], 59), (59, 32, .null, 1, 76, [], 62), (62, 2, .null, 0, 0, [], 63), (63, 7, .null, 0, 0, [], 64), (64, 36, .null, 0, 7, [], 67), (67, 1, .null, 4, 0, [], 69), (69, 53, .null, 19, 1, [], 72),
  (72, 15, .null, 0, 0, [], 73), (73, 37, .null, 0, 7, [], 76), (76, 1, .null, 4, 0, [], 78), (78, 49, .null, 0, 0, [], 78)]
def mtX0_addSlug : axM := (⟨"BeatSlugs$Board", "addSlug", "(III)I"⟩, prog_2_method_5_code, 5, (some .int), 0, false, cdX0_addSlug)
abbrev kX0_addSlug : Nat := 15
set_option maxRecDepth 100000 in
theorem ckX0_addSlug : axCk 0 false 0 prog_2_method_5_code cdX0_addSlug = true := by decide +kernel
def cdX0_makeSlug : List axE := [
  (0, 2, .null, 0, 0, [], 1), (1, 52, .ref 0, 17, 0, [], 4), (4, 4, .null, 3, 0, [], 5), (5, 2, .null, 0, 0, [], 6), (6, 7, .null, 0, 0, [], 7), (7, 36, .null, 0, 6, [], 10), (10, 1, .null, 3, 0, [], 11), (11, 53, .null, 19, 1, [], 14),
  (14, 15, .null, 0, 0, [], 15), (15, 37, .null, 0, 6, [], 18), (18, 2, .null, 0, 0, [], 19), (19, 36, .null, 0, 3, [], 22), (22, 1, .null, 3, 0, [], 23), (23, 1, .null, 2, 0, [], 24), (24, 53, .null, 20, 3, [], 27), (27, 2, .null, 0, 0, [], 28),
  (28, 36, .null, 0, 4, [], 31), (31, 1, .null, 3, 0, [], 32), (32, 1, .null, 2, 0, [], 33), (33, 53, .null, 20, 3, [], 36), (36, 2, .null, 0, 0, [], 37), (37, 36, .null, 0, 5, [], 40), (40, 1, .null, 3, 0, [], 41), (41, 0, .int 0, 0, 0, [], 42),
  (42, 53, .null, 20, 3, [], 45), (45, 2, .null, 0, 0, [], 46), (46, 1, .null, 1, 0, [], 47), (47, 1, .null, 3, 0, [], 48), (48, 52, .ref 0, 21, 2, [], 51), (51, 1, .null, 3, 0, [], 52), (52, 49, .null, 0, 0, [], 52)]
def mtX0_makeSlug : axM := (⟨"BeatSlugs$Board", "makeSlug", "(II)I"⟩, prog_2_method_15_code, 4, (some .int), 0, false, cdX0_makeSlug)
abbrev kX0_makeSlug : Nat := 16
set_option maxRecDepth 100000 in
theorem ckX0_makeSlug : axCk 0 false 0 prog_2_method_15_code cdX0_makeSlug = true := by decide +kernel
def cdX0_lowestFree : List axE := [
  (0, 0, .int 0, 0, 0, [], 1), (1, 4, .null, 1, 0, [], 2), (2, 1, .null, 1, 0, [], 3), (3, 0, .int 24, 0, 0, [], 5), (5, 32, .null, 3, 27, [], 8), (8, 2, .null, 0, 0, [], 9), (9, 36, .null, 0, 6, [], 12), (12, 1, .null, 1, 0, [], 13),
  (13, 53, .null, 18, 2, [], 16), (16, 33, .null, 1, 21, [], 19), (19, 1, .null, 1, 0, [], 20), (20, 49, .null, 0, 0, [], 20), (21, 6, .int 1, 1, 0, [], 24), (24, 9, .null, 0, 0, [], 2), (27, 0, .int (-1), 0, 0, [], 28), (28, 49, .null, 0, 0, [], 28)]
def mtX0_lowestFree : axM := (⟨"BeatSlugs$Board", "lowestFree", "()I"⟩, prog_2_method_16_code, 2, (some .int), 0, false, cdX0_lowestFree)
abbrev kX0_lowestFree : Nat := 17
set_option maxRecDepth 100000 in
theorem ckX0_lowestFree : axCk 0 false 0 prog_2_method_16_code cdX0_lowestFree = true := by decide +kernel
def cdX4_contains : List axE := [
  (0, 1, .null, 1, 0, [], 1), (1, 33, .null, 2, 22, [], 4), (4, 1, .null, 1, 0, [], 5), (5, 0, .int 24, 0, 0, [], 7), (7, 32, .null, 3, 22, [], 10), (10, 1, .null, 0, 0, [], 11), (11, 1, .null, 1, 0, [], 12), (12, 18, .null, 0, 0, [], 13),
  (13, 0, .int 1, 0, 0, [], 14), (14, 14, .null, 0, 0, [], 15), (15, 33, .null, 0, 22, [], 18), (18, 0, .int 1, 0, 0, [], 19), (19, 9, .null, 0, 0, [], 23), (22, 0, .int 0, 0, 0, [], 23), (23, 49, .null, 2, 0, [], 23)]
def mtX4_contains : axM := (⟨"BeatSlugs", "contains", "(II)Z"⟩, prog_1_method_36_code, 2, (some .boolean), 4, false, cdX4_contains)
abbrev kX4_contains : Nat := 18
set_option maxRecDepth 100000 in
theorem ckX4_contains : axCk 4 false 2 prog_1_method_36_code cdX4_contains = true := by decide +kernel
def cdX4_bit : List axE := [
  (0, 1, .null, 0, 0, [], 1), (1, 33, .null, 2, 16, [], 4), (4, 1, .null, 0, 0, [], 5), (5, 0, .int 24, 0, 0, [], 7), (7, 32, .null, 3, 16, [], 10), (10, 0, .int 1, 0, 0, [], 11), (11, 1, .null, 0, 0, [], 12), (12, 17, .null, 0, 0, [], 13),
  (13, 9, .null, 0, 0, [], 17), (16, 0, .int 0, 0, 0, [], 17), (17, 49, .null, 0, 0, [], 17)]
def mtX4_bit : axM := (⟨"BeatSlugs", "bit", "(I)I"⟩, prog_1_method_35_code, 1, (some .int), 4, false, cdX4_bit)
abbrev kX4_bit : Nat := 19
set_option maxRecDepth 100000 in
theorem ckX4_bit : axCk 4 false 0 prog_1_method_35_code cdX4_bit = true := by decide +kernel
def cdX4_store : List axE := [
  (0, 1, .null, 1, 0, [], 1), (1, 33, .null, 2, 14, [], 4), (4, 1, .null, 1, 0, [], 5), (5, 2, .null, 0, 0, [], 6), (6, 39, .null, 0, 0, [], 7), (7, 32, .null, 3, 14, [], 10), (10, 2, .null, 0, 0, [], 11), (11, 1, .null, 1, 0, [], 12),
  (12, 1, .null, 2, 0, [], 13), (13, 42, .null, 0, 0, [], 14), (14, 50, .null, 0, 0, [], 14)]
def mtX4_store : axM := (⟨"BeatSlugs", "store", "([III)V"⟩, prog_1_method_34_code, 3, none, 4, false, cdX4_store)
abbrev kX4_store : Nat := 20
set_option maxRecDepth 100000 in
theorem ckX4_store : axCk 4 false 0 prog_1_method_34_code cdX4_store = true := by decide +kernel
def cdX0_putIn : List axE := [
  (0, 2, .null, 0, 0, [], 1), (1, 36, .null, 0, 8, [], 4), (4, 4, .null, 3, 0, [], 5), (5, 1, .null, 3, 0, [], 6), (6, 1, .null, 1, 0, [], 7), (7, 32, .null, 5, 34, [], 10), (10, 2, .null, 0, 0, [], 11), (11, 36, .null, 0, 2, [], 14),
  (14, 1, .null, 3, 0, [], 15), (15, 2, .null, 0, 0, [], 16), (16, 36, .null, 0, 2, [], 19), (19, 1, .null, 3, 0, [], 20), (20, 0, .int 1, 0, 0, [], 21), (21, 12, .null, 0, 0, [], 22), (22, 53, .null, 10, 2, [], 25), (25, 53, .null, 20, 3, [], 28),
  (28, 6, .int (-1), 3, 0, [], 31), (31, 9, .null, 0, 0, [], 5), (34, 2, .null, 0, 0, [], 35), (35, 36, .null, 0, 2, [], 38), (38, 1, .null, 1, 0, [], 39), (39, 1, .null, 2, 0, [], 40), (40, 53, .null, 20, 3, [], 43), (43, 2, .null, 0, 0, [], 44),
  (44, 7, .null, 0, 0, [], 45), (45, 36, .null, 0, 8, [], 48), (48, 0, .int 1, 0, 0, [], 49), (49, 11, .null, 0, 0, [], 50), (50, 37, .null, 0, 8, [], 53), (53, 50, .null, 0, 0, [], 53)]
def mtX0_putIn : axM := (⟨"BeatSlugs$Board", "putIn", "(II)V"⟩, prog_2_method_17_code, 4, none, 0, false, cdX0_putIn)
abbrev kX0_putIn : Nat := 21
set_option maxRecDepth 100000 in
theorem ckX0_putIn : axCk 0 false 0 prog_2_method_17_code cdX0_putIn = true := by decide +kernel
def cdX4_drop : List axE := [
  (0, 2, .null, 0, 0, [], 1), (1, 36, .null, 4, 1, [], 4), (4, 2, .null, 0, 0, [], 5), (5, 36, .null, 4, 0, [], 8), (8, 52, .ref 1, 6, 1, [], 11), (11, 2, .null, 0, 0, [], 12), (12, 36, .null, 4, 1, [], 15), (15, 2, .null, 0, 0, [], 16),
  (16, 36, .null, 4, 0, [], 19), (19, 1, .null, 1, 0, [], 20), (20, 52, .ref 0, 23, 1, [], 23), (23, 52, .ref 1, 11, 1, [], 26), (26, 49, .null, 0, 0, [], 26)]
def mtX4_drop : axM := (⟨"BeatSlugs", "drop", "(I)I"⟩, prog_1_method_5_code, 2, (some .int), 4, false, cdX4_drop)
abbrev kX4_drop : Nat := 22
set_option maxRecDepth 100000 in
theorem ckX4_drop : axCk 4 false 0 prog_1_method_5_code cdX4_drop = true := by decide +kernel
def cdX0_dropSlug : List axE := [
  (0, 2, .null, 0, 0, [], 1), (1, 1, .null, 1, 0, [], 2), (2, 52, .ref 0, 24, 1, [], 5), (5, 33, .null, 1, 10, [], 8), (8, 0, .int (-1), 0, 0, [], 9), (9, 49, .null, 0, 0, [], 9), (10, 2, .null, 0, 0, [], 11), (11, 2, .null, 0, 0, [], 12),
  (12, 1, .null, 1, 0, [], 13), (13, 52, .ref 0, 25, 1, [], 16), (16, 52, .ref 0, 26, 1, [], 19), (19, 2, .null, 0, 0, [], 20), (20, 7, .null, 0, 0, [], 21), (21, 36, .null, 0, 6, [], 24), (24, 1, .null, 1, 0, [], 25), (25, 53, .null, 19, 1, [], 28),
  (28, 0, .int (-1), 0, 0, [], 29), (29, 16, .null, 0, 0, [], 30), (30, 14, .null, 0, 0, [], 31), (31, 37, .null, 0, 6, [], 34), (34, 2, .null, 0, 0, [], 35), (35, 7, .null, 0, 0, [], 36), (36, 36, .null, 0, 7, [], 39), (39, 1, .null, 1, 0, [], 40),
  (40, 53, .null, 19, 1, [], 43), (43, 0, .int (-1), 0, 0, [], 44), (44, 16, .null, 0, 0, [], 45), (45, 14, .null, 0, 0, [], 46), (46, 37, .null, 0, 7, [], 49), (49, 0, .int 0, 0, 0, [], 50), (50, 4, .null, 2, 0, [], 51), (51, 1, .null, 2, 0, [], 52),
  (52, 2, .null, 0, 0, [], 53), (53, 36, .null, 0, 5, [], 56), (56, 39, .null, 0, 0, [], 57), (57, 32, .null, 3, 81, [], 60), (60, 2, .null, 0, 0, [], 61), (61, 36, .null, 0, 5, [], 64), (64, 1, .null, 2, 0, [], 65), (65, 10, .null, 0, 0, [], 66),
  (66, 40, .null, 0, 0, [], 67), (67, 1, .null, 1, 0, [], 68), (68, 53, .null, 19, 1, [], 71), (71, 0, .int (-1), 0, 0, [], 72), (72, 16, .null, 0, 0, [], 73), (73, 14, .null, 0, 0, [], 74), (74, 42, .null, 0, 0, [], 75), (75, 6, .int 1, 2, 0, [], 78),
  (78, 9, .null, 0, 0, [], 51), (81, 2, .null, 0, 0, [], 82), (82, 36, .null, 0, 8, [], 85), (85, 49, .null, 0, 0, [], 85)]
def mtX0_dropSlug : axM := (⟨"BeatSlugs$Board", "dropSlug", "(I)I"⟩, prog_2_method_6_code, 3, (some .int), 0, false, cdX0_dropSlug)
abbrev kX0_dropSlug : Nat := 23
set_option maxRecDepth 100000 in
theorem ckX0_dropSlug : axCk 0 false 0 prog_2_method_6_code cdX0_dropSlug = true := by decide +kernel
def cdX0_has : List axE := [
  (0, 2, .null, 0, 0, [], 1), (1, 36, .null, 0, 6, [], 4), (4, 1, .null, 1, 0, [], 5), (5, 53, .null, 18, 2, [], 8), (8, 49, .null, 2, 0, [], 8)]
def mtX0_has : axM := (⟨"BeatSlugs$Board", "has", "(I)Z"⟩, prog_2_method_26_code, 2, (some .boolean), 0, false, cdX0_has)
abbrev kX0_has : Nat := 24
set_option maxRecDepth 100000 in
theorem ckX0_has : axCk 0 false 2 prog_2_method_26_code cdX0_has = true := by decide +kernel
def cdX0_placeOf : List axE := [
  (0, 0, .int 0, 0, 0, [], 1), (1, 4, .null, 2, 0, [], 2), (2, 1, .null, 2, 0, [], 3), (3, 2, .null, 0, 0, [], 4), (4, 36, .null, 0, 8, [], 7), (7, 32, .null, 3, 30, [], 10), (10, 2, .null, 0, 0, [], 11), (11, 36, .null, 0, 2, [], 14),
  (14, 1, .null, 2, 0, [], 15), (15, 53, .null, 10, 2, [], 18), (18, 1, .null, 1, 0, [], 19), (19, 32, .null, 1, 24, [], 22), (22, 1, .null, 2, 0, [], 23), (23, 49, .null, 0, 0, [], 23), (24, 6, .int 1, 2, 0, [], 27), (27, 9, .null, 0, 0, [], 2),
  (30, 0, .int (-1), 0, 0, [], 31), (31, 49, .null, 0, 0, [], 31)]
def mtX0_placeOf : axM := (⟨"BeatSlugs$Board", "placeOf", "(I)I"⟩, prog_2_method_28_code, 3, (some .int), 0, false, cdX0_placeOf)
abbrev kX0_placeOf : Nat := 25
set_option maxRecDepth 100000 in
theorem ckX0_placeOf : axCk 0 false 0 prog_2_method_28_code cdX0_placeOf = true := by decide +kernel
def cdX0_takeOut : List axE := [
  (0, 1, .null, 1, 0, [], 1), (1, 0, .int 1, 0, 0, [], 2), (2, 11, .null, 0, 0, [], 3), (3, 4, .null, 2, 0, [], 4), (4, 1, .null, 2, 0, [], 5), (5, 2, .null, 0, 0, [], 6), (6, 36, .null, 0, 8, [], 9), (9, 32, .null, 3, 36, [], 12),
  (12, 2, .null, 0, 0, [], 13), (13, 36, .null, 0, 2, [], 16), (16, 1, .null, 2, 0, [], 17), (17, 0, .int 1, 0, 0, [], 18), (18, 12, .null, 0, 0, [], 19), (19, 2, .null, 0, 0, [], 20), (20, 36, .null, 0, 2, [], 23), (23, 1, .null, 2, 0, [], 24),
  (24, 53, .null, 10, 2, [], 27), (27, 53, .null, 20, 3, [], 30), (30, 6, .int 1, 2, 0, [], 33), (33, 9, .null, 0, 0, [], 4), (36, 2, .null, 0, 0, [], 37), (37, 7, .null, 0, 0, [], 38), (38, 36, .null, 0, 8, [], 41), (41, 0, .int 1, 0, 0, [], 42),
  (42, 12, .null, 0, 0, [], 43), (43, 37, .null, 0, 8, [], 46), (46, 50, .null, 0, 0, [], 46)]
def mtX0_takeOut : axM := (⟨"BeatSlugs$Board", "takeOut", "(I)V"⟩, prog_2_method_18_code, 3, none, 0, false, cdX0_takeOut)
abbrev kX0_takeOut : Nat := 26
set_option maxRecDepth 100000 in
theorem ckX0_takeOut : axCk 0 false 0 prog_2_method_18_code cdX0_takeOut = true := by decide +kernel
def cdX4_turn : List axE := [
  (0, 2, .null, 0, 0, [], 1), (1, 36, .null, 4, 1, [], 4), (4, 2, .null, 0, 0, [], 5), (5, 36, .null, 4, 0, [], 8), (8, 52, .ref 1, 6, 1, [], 11), (11, 2, .null, 0, 0, [], 12), (12, 36, .null, 4, 1, [], 15), (15, 2, .null, 0, 0, [], 16),
  (16, 36, .null, 4, 0, [], 19), (19, 1, .null, 1, 0, [], 20), (20, 52, .ref 0, 28, 1, [], 23), (23, 52, .ref 1, 11, 1, [], 26), (26, 49, .null, 0, 0, [], 26)]
def mtX4_turn : axM := (⟨"BeatSlugs", "turn", "(I)I"⟩, prog_1_method_6_code, 2, (some .int), 4, false, cdX4_turn)
abbrev kX4_turn : Nat := 27
set_option maxRecDepth 100000 in
theorem ckX4_turn : axCk 4 false 0 prog_1_method_6_code cdX4_turn = true := by decide +kernel
def cdX0_flipTurn : List axE := [
  (0, 2, .null, 0, 0, [], 1), (1, 1, .null, 1, 0, [], 2), (2, 52, .ref 0, 24, 1, [], 5), (5, 33, .null, 1, 10, [], 8), (8, 0, .int (-1), 0, 0, [], 9), (9, 49, .null, 0, 0, [], 9), (10, 2, .null, 0, 0, [], 11), (11, 7, .null, 0, 0, [], 12),
  (12, 36, .null, 0, 7, [], 15), (15, 1, .null, 1, 0, [], 16), (16, 53, .null, 19, 1, [], 19), (19, 16, .null, 0, 0, [], 20), (20, 37, .null, 0, 7, [], 23), (23, 2, .null, 0, 0, [], 24), (24, 1, .null, 1, 0, [], 25), (25, 52, .ref 0, 29, 1, [], 28),
  (28, 33, .null, 0, 35, [], 31), (31, 0, .int 1, 0, 0, [], 32), (32, 9, .null, 0, 0, [], 36), (35, 0, .int 0, 0, 0, [], 36), (36, 49, .null, 0, 0, [], 36)]
def mtX0_flipTurn : axM := (⟨"BeatSlugs$Board", "flipTurn", "(I)I"⟩, prog_2_method_7_code, 2, (some .int), 0, false, cdX0_flipTurn)
abbrev kX0_flipTurn : Nat := 28
set_option maxRecDepth 100000 in
theorem ckX0_flipTurn : axCk 0 false 0 prog_2_method_7_code cdX0_flipTurn = true := by decide +kernel
def cdX0_isTurn : List axE := [
  (0, 2, .null, 0, 0, [], 1), (1, 36, .null, 0, 7, [], 4), (4, 1, .null, 1, 0, [], 5), (5, 53, .null, 18, 2, [], 8), (8, 49, .null, 2, 0, [], 8)]
def mtX0_isTurn : axM := (⟨"BeatSlugs$Board", "isTurn", "(I)Z"⟩, prog_2_method_31_code, 2, (some .boolean), 0, false, cdX0_isTurn)
abbrev kX0_isTurn : Nat := 29
set_option maxRecDepth 100000 in
theorem ckX0_isTurn : axCk 0 false 2 prog_2_method_31_code cdX0_isTurn = true := by decide +kernel
def cdX4_need : List axE := [
  (0, 2, .null, 0, 0, [], 1), (1, 36, .null, 4, 1, [], 4), (4, 2, .null, 0, 0, [], 5), (5, 36, .null, 4, 0, [], 8), (8, 52, .ref 1, 6, 1, [], 11), (11, 2, .null, 0, 0, [], 12), (12, 36, .null, 4, 1, [], 15), (15, 2, .null, 0, 0, [], 16),
  (16, 36, .null, 4, 0, [], 19), (19, 1, .null, 1, 0, [], 20), (20, 1, .null, 2, 0, [], 21), (21, 52, .ref 0, 31, 2, [], 24), (24, 52, .ref 1, 11, 1, [], 27), (27, 49, .null, 0, 0, [], 27)]
def mtX4_need : axM := (⟨"BeatSlugs", "need", "(II)I"⟩, prog_1_method_7_code, 3, (some .int), 4, false, cdX4_need)
abbrev kX4_need : Nat := 30
set_option maxRecDepth 100000 in
theorem ckX4_need : axCk 4 false 0 prog_1_method_7_code cdX4_need = true := by decide +kernel
def cdX0_flipNeed : List axE := [
  (0, 2, .null, 0, 0, [], 1), (1, 1, .null, 1, 0, [], 2), (2, 52, .ref 0, 24, 1, [], 5), (5, 33, .null, 0, 16, [], 8), (8, 2, .null, 0, 0, [], 9), (9, 1, .null, 2, 0, [], 10), (10, 52, .ref 0, 24, 1, [], 13), (13, 33, .null, 1, 18, [], 16),
  (16, 0, .int (-1), 0, 0, [], 17), (17, 49, .null, 0, 0, [], 17), (18, 1, .null, 1, 0, [], 19), (19, 1, .null, 2, 0, [], 20), (20, 32, .null, 1, 26, [], 23), (23, 0, .int (-2), 0, 0, [], 25), (25, 49, .null, 0, 0, [], 25), (26, 2, .null, 0, 0, [], 27),
  (27, 1, .null, 1, 0, [], 28), (28, 52, .ref 0, 32, 1, [], 31), (31, 1, .null, 2, 0, [], 32), (32, 53, .null, 18, 2, [], 35), (35, 33, .null, 1, 54, [], 38), (38, 2, .null, 0, 0, [], 39), (39, 1, .null, 2, 0, [], 40), (40, 52, .ref 0, 25, 1, [], 43),
  (43, 2, .null, 0, 0, [], 44), (44, 1, .null, 1, 0, [], 45), (45, 52, .ref 0, 25, 1, [], 48), (48, 32, .null, 5, 54, [], 51), (51, 0, .int (-5), 0, 0, [], 53), (53, 49, .null, 0, 0, [], 53), (54, 2, .null, 0, 0, [], 55), (55, 36, .null, 0, 5, [], 58),
  (58, 1, .null, 1, 0, [], 59), (59, 2, .null, 0, 0, [], 60), (60, 1, .null, 1, 0, [], 61), (61, 52, .ref 0, 32, 1, [], 64), (64, 1, .null, 2, 0, [], 65), (65, 53, .null, 19, 1, [], 68), (68, 16, .null, 0, 0, [], 69), (69, 53, .null, 20, 3, [], 72),
  (72, 2, .null, 0, 0, [], 73), (73, 1, .null, 1, 0, [], 74), (74, 52, .ref 0, 32, 1, [], 77), (77, 53, .null, 33, 1, [], 80), (80, 49, .null, 0, 0, [], 80)]
def mtX0_flipNeed : axM := (⟨"BeatSlugs$Board", "flipNeed", "(II)I"⟩, prog_2_method_8_code, 3, (some .int), 0, false, cdX0_flipNeed)
abbrev kX0_flipNeed : Nat := 31
set_option maxRecDepth 100000 in
theorem ckX0_flipNeed : axCk 0 false 0 prog_2_method_8_code cdX0_flipNeed = true := by decide +kernel
def cdX0_needsOf : List axE := [
  (0, 2, .null, 0, 0, [], 1), (1, 36, .null, 0, 5, [], 4), (4, 1, .null, 1, 0, [], 5), (5, 53, .null, 10, 2, [], 8), (8, 49, .null, 0, 0, [], 8)]
def mtX0_needsOf : axM := (⟨"BeatSlugs$Board", "needsOf", "(I)I"⟩, prog_2_method_34_code, 2, (some .int), 0, false, cdX0_needsOf)
abbrev kX0_needsOf : Nat := 32
set_option maxRecDepth 100000 in
theorem ckX0_needsOf : axCk 0 false 0 prog_2_method_34_code cdX0_needsOf = true := by decide +kernel
def cdJ_bitCount : List axE := [
  (0, 1, .null, 0, 0, [], 1), (1, 1, .null, 0, 0, [], 2), (2, 0, .int 1, 0, 0, [], 3), (3, 19, .null, 0, 0, [], 4), (4, 0, .int 1431655765, 0, 0, [], 7), (7, 14, .null, 0, 0, [], 8), (8, 12, .null, 0, 0, [], 9), (9, 4, .null, 0, 0, [], 10),
  (10, 1, .null, 0, 0, [], 11), (11, 0, .int 858993459, 0, 0, [], 14), (14, 14, .null, 0, 0, [], 15), (15, 1, .null, 0, 0, [], 16), (16, 0, .int 2, 0, 0, [], 17), (17, 19, .null, 0, 0, [], 18), (18, 0, .int 858993459, 0, 0, [], 21), (21, 14, .null, 0, 0, [], 22),
  (22, 11, .null, 0, 0, [], 23), (23, 4, .null, 0, 0, [], 24), (24, 1, .null, 0, 0, [], 25), (25, 1, .null, 0, 0, [], 26), (26, 0, .int 4, 0, 0, [], 27), (27, 19, .null, 0, 0, [], 28), (28, 11, .null, 0, 0, [], 29), (29, 0, .int 252645135, 0, 0, [], 32),
  (32, 14, .null, 0, 0, [], 33), (33, 4, .null, 0, 0, [], 34), (34, 1, .null, 0, 0, [], 35), (35, 1, .null, 0, 0, [], 36), (36, 0, .int 8, 0, 0, [], 38), (38, 19, .null, 0, 0, [], 39), (39, 11, .null, 0, 0, [], 40), (40, 4, .null, 0, 0, [], 41),
  (41, 1, .null, 0, 0, [], 42), (42, 1, .null, 0, 0, [], 43), (43, 0, .int 16, 0, 0, [], 45), (45, 19, .null, 0, 0, [], 46), (46, 11, .null, 0, 0, [], 47), (47, 4, .null, 0, 0, [], 48), (48, 1, .null, 0, 0, [], 49), (49, 0, .int 63, 0, 0, [], 51),
  (51, 14, .null, 0, 0, [], 52), (52, 49, .null, 0, 0, [], 52)]
def mtJ_bitCount : axM := (⟨"java/lang/Integer", "bitCount", "(I)I"⟩, prog_8_method_49_code, 1, (some .int), 7, false, cdJ_bitCount)
abbrev kJ_bitCount : Nat := 33
set_option maxRecDepth 100000 in
theorem ckJ_bitCount : axCk 7 false 0 prog_8_method_49_code cdJ_bitCount = true := by decide +kernel
def cdX4_trim : List axE := [
  (0, 2, .null, 0, 0, [], 1), (1, 36, .null, 4, 1, [], 4), (4, 2, .null, 0, 0, [], 5), (5, 36, .null, 4, 0, [], 8), (8, 52, .ref 1, 6, 1, [], 11), (11, 2, .null, 0, 0, [], 12), (12, 36, .null, 4, 1, [], 15), (15, 2, .null, 0, 0, [], 16),
  (16, 36, .null, 4, 0, [], 19), (19, 1, .null, 1, 0, [], 20), (20, 1, .null, 2, 0, [], 21), (21, 52, .ref 0, 35, 2, [], 24), (24, 52, .ref 1, 11, 1, [], 27), (27, 49, .null, 0, 0, [], 27)]
def mtX4_trim : axM := (⟨"BeatSlugs", "trim", "(II)I"⟩, prog_1_method_8_code, 3, (some .int), 4, false, cdX4_trim)
abbrev kX4_trim : Nat := 34
set_option maxRecDepth 100000 in
theorem ckX4_trim : axCk 4 false 0 prog_1_method_8_code cdX4_trim = true := by decide +kernel
def cdX0_trimSlug : List axE := [
  (0, 2, .null, 0, 0, [], 1), (1, 1, .null, 1, 0, [], 2), (2, 52, .ref 0, 24, 1, [], 5), (5, 33, .null, 1, 10, [], 8), (8, 0, .int (-1), 0, 0, [], 9), (9, 49, .null, 0, 0, [], 9), (10, 1, .null, 2, 0, [], 11), (11, 0, .int 1, 0, 0, [], 12),
  (12, 32, .null, 2, 21, [], 15), (15, 1, .null, 2, 0, [], 16), (16, 0, .int 98, 0, 0, [], 18), (18, 32, .null, 5, 24, [], 21), (21, 0, .int (-2), 0, 0, [], 23), (23, 49, .null, 0, 0, [], 23), (24, 1, .null, 2, 0, [], 25), (25, 2, .null, 0, 0, [], 26),
  (26, 1, .null, 1, 0, [], 27), (27, 52, .ref 0, 36, 1, [], 30), (30, 32, .null, 5, 36, [], 33), (33, 0, .int (-5), 0, 0, [], 35), (35, 49, .null, 0, 0, [], 35), (36, 2, .null, 0, 0, [], 37), (37, 36, .null, 0, 4, [], 40), (40, 1, .null, 1, 0, [], 41),
  (41, 2, .null, 0, 0, [], 42), (42, 1, .null, 1, 0, [], 43), (43, 52, .ref 0, 37, 1, [], 46), (46, 1, .null, 2, 0, [], 47), (47, 12, .null, 0, 0, [], 48), (48, 53, .null, 20, 3, [], 51), (51, 2, .null, 0, 0, [], 52), (52, 1, .null, 1, 0, [], 53),
  (53, 52, .ref 0, 37, 1, [], 56), (56, 49, .null, 0, 0, [], 56)]
def mtX0_trimSlug : axM := (⟨"BeatSlugs$Board", "trimSlug", "(II)I"⟩, prog_2_method_9_code, 3, (some .int), 0, false, cdX0_trimSlug)
abbrev kX0_trimSlug : Nat := 35
set_option maxRecDepth 100000 in
theorem ckX0_trimSlug : axCk 0 false 0 prog_2_method_9_code cdX0_trimSlug = true := by decide +kernel
def cdX0_roomOf : List axE := [
  (0, 2, .null, 0, 0, [], 1), (1, 36, .null, 0, 3, [], 4), (4, 1, .null, 1, 0, [], 5), (5, 53, .null, 10, 2, [], 8), (8, 4, .null, 2, 0, [], 9), (9, 0, .int 1, 0, 0, [], 10), (10, 1, .null, 2, 0, [], 11), (11, 1, .null, 2, 0, [], 12),
  (12, 2, .null, 0, 0, [], 13), (13, 36, .null, 0, 0, [], 16), (16, 0, .int 2, 0, 0, [], 17), (17, 53, .null, 10, 2, [], 20), (20, 13, .null, 0, 0, [], 21), (21, 0, .int 100, 0, 0, [], 23), (23, 47, .null, 0, 0, [], 24), (24, 12, .null, 0, 0, [], 25),
  (25, 57, .null, 0, 0, [], 28), (28, 4, .null, 3, 0, [], 29), (29, 0, .int 0, 0, 0, [], 30), (30, 2, .null, 0, 0, [], 31), (31, 36, .null, 0, 4, [], 34), (34, 1, .null, 1, 0, [], 35), (35, 53, .null, 10, 2, [], 38), (38, 1, .null, 3, 0, [], 39),
  (39, 12, .null, 0, 0, [], 40), (40, 57, .null, 0, 0, [], 43), (43, 49, .null, 0, 0, [], 43)]
def mtX0_roomOf : axM := (⟨"BeatSlugs$Board", "roomOf", "(I)I"⟩, prog_2_method_32_code, 4, (some .int), 0, false, cdX0_roomOf)
abbrev kX0_roomOf : Nat := 36
set_option maxRecDepth 100000 in
theorem ckX0_roomOf : axCk 0 false 0 prog_2_method_32_code cdX0_roomOf = true := by decide +kernel
def cdX0_beatsOf : List axE := [
  (0, 2, .null, 0, 0, [], 1), (1, 36, .null, 0, 4, [], 4), (4, 1, .null, 1, 0, [], 5), (5, 53, .null, 10, 2, [], 8), (8, 49, .null, 0, 0, [], 8)]
def mtX0_beatsOf : axM := (⟨"BeatSlugs$Board", "beatsOf", "(I)I"⟩, prog_2_method_30_code, 2, (some .int), 0, false, cdX0_beatsOf)
abbrev kX0_beatsOf : Nat := 37
set_option maxRecDepth 100000 in
theorem ckX0_beatsOf : axCk 0 false 0 prog_2_method_30_code cdX0_beatsOf = true := by decide +kernel
def cdX4_restoreTail : List axE := [
  (0, 2, .null, 0, 0, [], 1), (1, 36, .null, 4, 1, [], 4), (4, 2, .null, 0, 0, [], 5), (5, 36, .null, 4, 0, [], 8), (8, 52, .ref 1, 6, 1, [], 11), (11, 2, .null, 0, 0, [], 12), (12, 36, .null, 4, 1, [], 15), (15, 2, .null, 0, 0, [], 16),
  (16, 36, .null, 4, 0, [], 19), (19, 1, .null, 1, 0, [], 20), (20, 52, .ref 0, 39, 1, [], 23), (23, 52, .ref 1, 11, 1, [], 26), (26, 49, .null, 0, 0, [], 26)]
def mtX4_restoreTail : axM := (⟨"BeatSlugs", "restoreTail", "(I)I"⟩, prog_1_method_9_code, 2, (some .int), 4, false, cdX4_restoreTail)
abbrev kX4_restoreTail : Nat := 38
set_option maxRecDepth 100000 in
theorem ckX4_restoreTail : axCk 4 false 0 prog_1_method_9_code cdX4_restoreTail = true := by decide +kernel
def cdX0_giveBack : List axE := [
  (0, 2, .null, 0, 0, [], 1), (1, 1, .null, 1, 0, [], 2), (2, 52, .ref 0, 24, 1, [], 5), (5, 33, .null, 1, 10, [], 8), (8, 0, .int (-1), 0, 0, [], 9), (9, 49, .null, 0, 0, [], 9), (10, 2, .null, 0, 0, [], 11), (11, 1, .null, 1, 0, [], 12),
  (12, 52, .ref 0, 40, 1, [], 15), (15, 2, .null, 0, 0, [], 16), (16, 1, .null, 1, 0, [], 17), (17, 52, .ref 0, 37, 1, [], 20), (20, 12, .null, 0, 0, [], 21), (21, 4, .null, 2, 0, [], 22), (22, 2, .null, 0, 0, [], 23), (23, 36, .null, 0, 4, [], 26),
  (26, 1, .null, 1, 0, [], 27), (27, 2, .null, 0, 0, [], 28), (28, 1, .null, 1, 0, [], 29), (29, 52, .ref 0, 40, 1, [], 32), (32, 53, .null, 20, 3, [], 35), (35, 1, .null, 2, 0, [], 36), (36, 49, .null, 0, 0, [], 36)]
def mtX0_giveBack : axM := (⟨"BeatSlugs$Board", "giveBack", "(I)I"⟩, prog_2_method_10_code, 3, (some .int), 0, false, cdX0_giveBack)
abbrev kX0_giveBack : Nat := 39
set_option maxRecDepth 100000 in
theorem ckX0_giveBack : axCk 0 false 0 prog_2_method_10_code cdX0_giveBack = true := by decide +kernel
def cdX0_writtenOf : List axE := [
  (0, 2, .null, 0, 0, [], 1), (1, 36, .null, 0, 3, [], 4), (4, 1, .null, 1, 0, [], 5), (5, 53, .null, 10, 2, [], 8), (8, 49, .null, 0, 0, [], 8)]
def mtX0_writtenOf : axM := (⟨"BeatSlugs$Board", "writtenOf", "(I)I"⟩, prog_2_method_29_code, 2, (some .int), 0, false, cdX0_writtenOf)
abbrev kX0_writtenOf : Nat := 40
set_option maxRecDepth 100000 in
theorem ckX0_writtenOf : axCk 0 false 0 prog_2_method_29_code cdX0_writtenOf = true := by decide +kernel
def cdX4_move : List axE := [
  (0, 2, .null, 0, 0, [], 1), (1, 36, .null, 4, 1, [], 4), (4, 2, .null, 0, 0, [], 5), (5, 36, .null, 4, 0, [], 8), (8, 52, .ref 1, 6, 1, [], 11), (11, 2, .null, 0, 0, [], 12), (12, 36, .null, 4, 1, [], 15), (15, 2, .null, 0, 0, [], 16),
  (16, 36, .null, 4, 0, [], 19), (19, 1, .null, 1, 0, [], 20), (20, 1, .null, 2, 0, [], 21), (21, 52, .ref 0, 42, 2, [], 24), (24, 52, .ref 1, 11, 1, [], 27), (27, 49, .null, 0, 0, [], 27)]
def mtX4_move : axM := (⟨"BeatSlugs", "move", "(II)I"⟩, prog_1_method_10_code, 3, (some .int), 4, false, cdX4_move)
abbrev kX4_move : Nat := 41
set_option maxRecDepth 100000 in
theorem ckX4_move : axCk 4 false 0 prog_1_method_10_code cdX4_move = true := by decide +kernel
def cdX0_moveSlug : List axE := [
  (0, 2, .null, 0, 0, [], 1), (1, 1, .null, 1, 0, [], 2), (2, 52, .ref 0, 24, 1, [], 5), (5, 33, .null, 0, 20, [], 8), (8, 1, .null, 2, 0, [], 9), (9, 33, .null, 2, 20, [], 12), (12, 1, .null, 2, 0, [], 13), (13, 2, .null, 0, 0, [], 14),
  (14, 36, .null, 0, 8, [], 17), (17, 32, .null, 2, 22, [], 20), (20, 0, .int (-1), 0, 0, [], 21), (21, 49, .null, 0, 0, [], 21), (22, 2, .null, 0, 0, [], 23), (23, 1, .null, 1, 0, [], 24), (24, 1, .null, 2, 0, [], 25), (25, 52, .ref 0, 43, 2, [], 28),
  (28, 33, .null, 1, 34, [], 31), (31, 0, .int (-5), 0, 0, [], 33), (33, 49, .null, 0, 0, [], 33), (34, 2, .null, 0, 0, [], 35), (35, 1, .null, 1, 0, [], 36), (36, 52, .ref 0, 25, 1, [], 39), (39, 4, .null, 3, 0, [], 40), (40, 2, .null, 0, 0, [], 41),
  (41, 1, .null, 3, 0, [], 42), (42, 52, .ref 0, 26, 1, [], 45), (45, 2, .null, 0, 0, [], 46), (46, 1, .null, 2, 0, [], 47), (47, 1, .null, 1, 0, [], 48), (48, 52, .ref 0, 21, 2, [], 51), (51, 1, .null, 3, 0, [], 52), (52, 49, .null, 0, 0, [], 52)]
def mtX0_moveSlug : axM := (⟨"BeatSlugs$Board", "moveSlug", "(II)I"⟩, prog_2_method_11_code, 4, (some .int), 0, false, cdX0_moveSlug)
abbrev kX0_moveSlug : Nat := 42
set_option maxRecDepth 100000 in
theorem ckX0_moveSlug : axCk 0 false 0 prog_2_method_11_code cdX0_moveSlug = true := by decide +kernel
def cdX0_mayStandIn : List axE := [
  (0, 1, .null, 2, 0, [], 1), (1, 2, .null, 0, 0, [], 2), (2, 1, .null, 1, 0, [], 3), (3, 52, .ref 0, 44, 1, [], 6), (6, 32, .null, 2, 22, [], 9), (9, 1, .null, 2, 0, [], 10), (10, 2, .null, 0, 0, [], 11), (11, 1, .null, 1, 0, [], 12),
  (12, 52, .ref 0, 45, 1, [], 15), (15, 32, .null, 4, 22, [], 18), (18, 0, .int 1, 0, 0, [], 19), (19, 9, .null, 0, 0, [], 23), (22, 0, .int 0, 0, 0, [], 23), (23, 49, .null, 2, 0, [], 23)]
def mtX0_mayStandIn : axM := (⟨"BeatSlugs$Board", "mayStandIn", "(II)Z"⟩, prog_2_method_39_code, 3, (some .boolean), 0, false, cdX0_mayStandIn)
abbrev kX0_mayStandIn : Nat := 43
set_option maxRecDepth 100000 in
theorem ckX0_mayStandIn : axCk 0 false 2 prog_2_method_39_code cdX0_mayStandIn = true := by decide +kernel
def cdX0_lowestPlace : List axE := [
  (0, 2, .null, 0, 0, [], 1), (1, 1, .null, 1, 0, [], 2), (2, 52, .ref 0, 32, 1, [], 5), (5, 4, .null, 2, 0, [], 6), (6, 2, .null, 0, 0, [], 7), (7, 36, .null, 0, 8, [], 10), (10, 0, .int 1, 0, 0, [], 11), (11, 12, .null, 0, 0, [], 12),
  (12, 4, .null, 3, 0, [], 13), (13, 1, .null, 3, 0, [], 14), (14, 33, .null, 2, 42, [], 17), (17, 1, .null, 2, 0, [], 18), (18, 2, .null, 0, 0, [], 19), (19, 36, .null, 0, 2, [], 22), (22, 1, .null, 3, 0, [], 23), (23, 53, .null, 10, 2, [], 26),
  (26, 53, .null, 18, 2, [], 29), (29, 33, .null, 0, 36, [], 32), (32, 1, .null, 3, 0, [], 33), (33, 0, .int 1, 0, 0, [], 34), (34, 11, .null, 0, 0, [], 35), (35, 49, .null, 0, 0, [], 35), (36, 6, .int (-1), 3, 0, [], 39), (39, 9, .null, 0, 0, [], 13),
  (42, 0, .int 0, 0, 0, [], 43), (43, 49, .null, 0, 0, [], 43)]
def mtX0_lowestPlace : axM := (⟨"BeatSlugs$Board", "lowestPlace", "(I)I"⟩, prog_2_method_37_code, 4, (some .int), 0, false, cdX0_lowestPlace)
abbrev kX0_lowestPlace : Nat := 44
set_option maxRecDepth 100000 in
theorem ckX0_lowestPlace : axCk 0 false 0 prog_2_method_37_code cdX0_lowestPlace = true := by decide +kernel
def cdX0_highestPlace : List axE := [
  (0, 0, .int 0, 0, 0, [], 1), (1, 4, .null, 2, 0, [], 2), (2, 1, .null, 2, 0, [], 3), (3, 2, .null, 0, 0, [], 4), (4, 36, .null, 0, 8, [], 7), (7, 32, .null, 3, 42, [], 10), (10, 2, .null, 0, 0, [], 11), (11, 36, .null, 0, 5, [], 14),
  (14, 2, .null, 0, 0, [], 15), (15, 36, .null, 0, 2, [], 18), (18, 1, .null, 2, 0, [], 19), (19, 53, .null, 10, 2, [], 22), (22, 53, .null, 10, 2, [], 25), (25, 1, .null, 1, 0, [], 26), (26, 53, .null, 18, 2, [], 29), (29, 33, .null, 0, 36, [], 32),
  (32, 1, .null, 2, 0, [], 33), (33, 0, .int 1, 0, 0, [], 34), (34, 12, .null, 0, 0, [], 35), (35, 49, .null, 0, 0, [], 35), (36, 6, .int 1, 2, 0, [], 39), (39, 9, .null, 0, 0, [], 2), (42, 2, .null, 0, 0, [], 43), (43, 36, .null, 0, 8, [], 46),
  (46, 0, .int 1, 0, 0, [], 47), (47, 12, .null, 0, 0, [], 48), (48, 49, .null, 0, 0, [], 48)]
def mtX0_highestPlace : axM := (⟨"BeatSlugs$Board", "highestPlace", "(I)I"⟩, prog_2_method_38_code, 3, (some .int), 0, false, cdX0_highestPlace)
abbrev kX0_highestPlace : Nat := 45
set_option maxRecDepth 100000 in
theorem ckX0_highestPlace : axCk 0 false 0 prog_2_method_38_code cdX0_highestPlace = true := by decide +kernel
def cdX4_swap : List axE := [
  (0, 2, .null, 0, 0, [], 1), (1, 36, .null, 4, 1, [], 4), (4, 2, .null, 0, 0, [], 5), (5, 36, .null, 4, 0, [], 8), (8, 52, .ref 1, 6, 1, [], 11), (11, 2, .null, 0, 0, [], 12), (12, 36, .null, 4, 1, [], 15), (15, 2, .null, 0, 0, [], 16),
  (16, 36, .null, 4, 0, [], 19), (19, 1, .null, 1, 0, [], 20), (20, 1, .null, 2, 0, [], 21), (21, 52, .ref 0, 47, 2, [], 24), (24, 52, .ref 1, 11, 1, [], 27), (27, 49, .null, 0, 0, [], 27)]
def mtX4_swap : axM := (⟨"BeatSlugs", "swap", "(II)I"⟩, prog_1_method_11_code, 3, (some .int), 4, false, cdX4_swap)
abbrev kX4_swap : Nat := 46
set_option maxRecDepth 100000 in
theorem ckX4_swap : axCk 4 false 0 prog_1_method_11_code cdX4_swap = true := by decide +kernel
def cdX0_swapSlugs : List axE := [
  (0, 2, .null, 0, 0, [], 1), (1, 1, .null, 1, 0, [], 2), (2, 52, .ref 0, 24, 1, [], 5), (5, 33, .null, 0, 16, [], 8), (8, 2, .null, 0, 0, [], 9), (9, 1, .null, 2, 0, [], 10), (10, 52, .ref 0, 24, 1, [], 13), (13, 33, .null, 1, 18, [], 16),
  (16, 0, .int (-1), 0, 0, [], 17), (17, 49, .null, 0, 0, [], 17), (18, 1, .null, 1, 0, [], 19), (19, 1, .null, 2, 0, [], 20), (20, 32, .null, 1, 26, [], 23), (23, 0, .int (-2), 0, 0, [], 25), (25, 49, .null, 0, 0, [], 25), (26, 2, .null, 0, 0, [], 27),
  (27, 1, .null, 1, 0, [], 28), (28, 52, .ref 0, 25, 1, [], 31), (31, 4, .null, 3, 0, [], 32), (32, 2, .null, 0, 0, [], 33), (33, 1, .null, 2, 0, [], 34), (34, 52, .ref 0, 25, 1, [], 37), (37, 4, .null, 4, 0, [], 39), (39, 2, .null, 0, 0, [], 40),
  (40, 1, .null, 1, 0, [], 41), (41, 1, .null, 4, 0, [], 43), (43, 52, .ref 0, 43, 2, [], 46), (46, 33, .null, 0, 58, [], 49), (49, 2, .null, 0, 0, [], 50), (50, 1, .null, 2, 0, [], 51), (51, 1, .null, 3, 0, [], 52), (52, 52, .ref 0, 43, 2, [], 55),
  (55, 33, .null, 1, 61, [], 58), (58, 0, .int (-5), 0, 0, [], 60), (60, 49, .null, 0, 0, [], 60), (61, 2, .null, 0, 0, [], 62), (62, 36, .null, 0, 2, [], 65), (65, 1, .null, 3, 0, [], 66), (66, 1, .null, 2, 0, [], 67), (67, 53, .null, 20, 3, [], 70),
  (70, 2, .null, 0, 0, [], 71), (71, 36, .null, 0, 2, [], 74), (74, 1, .null, 4, 0, [], 76), (76, 1, .null, 1, 0, [], 77), (77, 53, .null, 20, 3, [], 80), (80, 1, .null, 3, 0, [], 81), (81, 1, .null, 4, 0, [], 83), (83, 12, .null, 0, 0, [], 84),
  (84, 59, .null, 0, 0, [], 87), (87, 0, .int 1, 0, 0, [], 88), (88, 12, .null, 0, 0, [], 89), (89, 49, .null, 0, 0, [], 89)]
def mtX0_swapSlugs : axM := (⟨"BeatSlugs$Board", "swapSlugs", "(II)I"⟩, prog_2_method_12_code, 5, (some .int), 0, false, cdX0_swapSlugs)
abbrev kX0_swapSlugs : Nat := 47
set_option maxRecDepth 100000 in
theorem ckX0_swapSlugs : axCk 0 false 0 prog_2_method_12_code cdX0_swapSlugs = true := by decide +kernel
def cdX4_split : List axE := [
  (0, 2, .null, 0, 0, [], 1), (1, 36, .null, 4, 1, [], 4), (4, 2, .null, 0, 0, [], 5), (5, 36, .null, 4, 0, [], 8), (8, 52, .ref 1, 6, 1, [], 11), (11, 2, .null, 0, 0, [], 12), (12, 36, .null, 4, 1, [], 15), (15, 2, .null, 0, 0, [], 16),
  (16, 36, .null, 4, 0, [], 19), (19, 1, .null, 1, 0, [], 20), (20, 1, .null, 2, 0, [], 21), (21, 52, .ref 0, 49, 2, [], 24), (24, 52, .ref 1, 11, 1, [], 27), (27, 49, .null, 0, 0, [], 27)]
def mtX4_split : axM := (⟨"BeatSlugs", "split", "(II)I"⟩, prog_1_method_12_code, 3, (some .int), 4, false, cdX4_split)
abbrev kX4_split : Nat := 48
set_option maxRecDepth 100000 in
theorem ckX4_split : axCk 4 false 0 prog_1_method_12_code cdX4_split = true := by decide +kernel
def cdX0_splitSlug : List axE := [
  (0, 2, .null, 0, 0, [], 1), (1, 1, .null, 1, 0, [], 2), (2, 52, .ref 0, 24, 1, [], 5), (5, 33, .null, 1, 10, [], 8), (8, 0, .int (-1), 0, 0, [], 9), (9, 49, .null, 0, 0, [], 9), (10, 1, .null, 2, 0, [], 11), (11, 0, .int 1, 0, 0, [], 12),
  (12, 32, .null, 2, 21, [], 15), (15, 1, .null, 2, 0, [], 16), (16, 0, .int 98, 0, 0, [], 18), (18, 32, .null, 5, 24, [], 21), (21, 0, .int (-2), 0, 0, [], 23), (23, 49, .null, 0, 0, [], 23), (24, 2, .null, 0, 0, [], 25), (25, 1, .null, 1, 0, [], 26),
  (26, 52, .ref 0, 37, 1, [], 29), (29, 1, .null, 2, 0, [], 30), (30, 32, .null, 4, 36, [], 33), (33, 0, .int (-5), 0, 0, [], 35), (35, 49, .null, 0, 0, [], 35), (36, 2, .null, 0, 0, [], 37), (37, 36, .null, 0, 8, [], 40), (40, 0, .int 24, 0, 0, [], 42),
  (42, 32, .null, 2, 48, [], 45), (45, 0, .int (-4), 0, 0, [], 47), (47, 49, .null, 0, 0, [], 47), (48, 2, .null, 0, 0, [], 49), (49, 2, .null, 0, 0, [], 50), (50, 1, .null, 1, 0, [], 51), (51, 52, .ref 0, 25, 1, [], 54), (54, 0, .int 1, 0, 0, [], 55),
  (55, 11, .null, 0, 0, [], 56), (56, 2, .null, 0, 0, [], 57), (57, 1, .null, 1, 0, [], 58), (58, 52, .ref 0, 40, 1, [], 61), (61, 1, .null, 2, 0, [], 62), (62, 12, .null, 0, 0, [], 63), (63, 52, .ref 0, 16, 2, [], 66), (66, 4, .null, 3, 0, [], 67),
  (67, 2, .null, 0, 0, [], 68), (68, 36, .null, 0, 4, [], 71), (71, 1, .null, 3, 0, [], 72), (72, 2, .null, 0, 0, [], 73), (73, 1, .null, 1, 0, [], 74), (74, 52, .ref 0, 37, 1, [], 77), (77, 1, .null, 2, 0, [], 78), (78, 12, .null, 0, 0, [], 79),
  (79, 53, .null, 20, 3, [], 82), (82, 2, .null, 0, 0, [], 83), (83, 36, .null, 0, 3, [], 86), (86, 1, .null, 1, 0, [], 87), (87, 1, .null, 2, 0, [], 88), (88, 53, .null, 20, 3, [], 91), (91, 2, .null, 0, 0, [], 92), (92, 36, .null, 0, 4, [], 95),
  (95, 1, .null, 1, 0, [], 96), (96, 1, .null, 2, 0, [], 97), (97, 53, .null, 20, 3, [], 100), (100, 2, .null, 0, 0, [], 101), (101, 1, .null, 1, 0, [], 102), (102, 1, .null, 3, 0, [], 103), (103, 52, .ref 0, 50, 2, [], 106), (106, 2, .null, 0, 0, [], 107),
  (107, 1, .null, 1, 0, [], 108), (108, 1, .null, 3, 0, [], 109), (109, 52, .ref 0, 51, 2, [], 112), (112, 1, .null, 3, 0, [], 113), (113, 49, .null, 0, 0, [], 113)]
def mtX0_splitSlug : axM := (⟨"BeatSlugs$Board", "splitSlug", "(II)I"⟩, prog_2_method_13_code, 4, (some .int), 0, false, cdX0_splitSlug)
abbrev kX0_splitSlug : Nat := 49
set_option maxRecDepth 100000 in
theorem ckX0_splitSlug : axCk 0 false 0 prog_2_method_13_code cdX0_splitSlug = true := by decide +kernel
def cdX0_handOverNeeds : List axE := [
  (0, 0, .int 0, 0, 0, [], 1), (1, 4, .null, 3, 0, [], 2), (2, 1, .null, 3, 0, [], 3), (3, 2, .null, 0, 0, [], 4), (4, 36, .null, 0, 5, [], 7), (7, 39, .null, 0, 0, [], 8), (8, 32, .null, 3, 43, [], 11), (11, 2, .null, 0, 0, [], 12),
  (12, 36, .null, 0, 5, [], 15), (15, 1, .null, 3, 0, [], 16), (16, 40, .null, 0, 0, [], 17), (17, 1, .null, 1, 0, [], 18), (18, 53, .null, 18, 2, [], 21), (21, 33, .null, 0, 37, [], 24), (24, 2, .null, 0, 0, [], 25), (25, 36, .null, 0, 5, [], 28),
  (28, 1, .null, 3, 0, [], 29), (29, 10, .null, 0, 0, [], 30), (30, 40, .null, 0, 0, [], 31), (31, 1, .null, 2, 0, [], 32), (32, 53, .null, 19, 1, [], 35), (35, 15, .null, 0, 0, [], 36), (36, 42, .null, 0, 0, [], 37), (37, 6, .int 1, 3, 0, [], 40),
  (40, 9, .null, 0, 0, [], 2), (43, 2, .null, 0, 0, [], 44), (44, 36, .null, 0, 5, [], 47), (47, 1, .null, 2, 0, [], 48), (48, 1, .null, 1, 0, [], 49), (49, 53, .null, 19, 1, [], 52), (52, 53, .null, 20, 3, [], 55), (55, 50, .null, 0, 0, [], 55)]
def mtX0_handOverNeeds : axM := (⟨"BeatSlugs$Board", "handOverNeeds", "(II)V"⟩, prog_2_method_19_code, 4, none, 0, false, cdX0_handOverNeeds)
abbrev kX0_handOverNeeds : Nat := 50
set_option maxRecDepth 100000 in
theorem ckX0_handOverNeeds : axCk 0 false 0 prog_2_method_19_code cdX0_handOverNeeds = true := by decide +kernel
def cdX0_handOverTurn : List axE := [
  (0, 2, .null, 0, 0, [], 1), (1, 1, .null, 1, 0, [], 2), (2, 52, .ref 0, 29, 1, [], 5), (5, 33, .null, 0, 36, [], 8), (8, 2, .null, 0, 0, [], 9), (9, 7, .null, 0, 0, [], 10), (10, 36, .null, 0, 7, [], 13), (13, 1, .null, 1, 0, [], 14),
  (14, 53, .null, 19, 1, [], 17), (17, 0, .int (-1), 0, 0, [], 18), (18, 16, .null, 0, 0, [], 19), (19, 14, .null, 0, 0, [], 20), (20, 37, .null, 0, 7, [], 23), (23, 2, .null, 0, 0, [], 24), (24, 7, .null, 0, 0, [], 25), (25, 36, .null, 0, 7, [], 28),
  (28, 1, .null, 2, 0, [], 29), (29, 53, .null, 19, 1, [], 32), (32, 15, .null, 0, 0, [], 33), (33, 37, .null, 0, 7, [], 36), (36, 50, .null, 0, 0, [], 36)]
def mtX0_handOverTurn : axM := (⟨"BeatSlugs$Board", "handOverTurn", "(II)V"⟩, prog_2_method_20_code, 3, none, 0, false, cdX0_handOverTurn)
abbrev kX0_handOverTurn : Nat := 51
set_option maxRecDepth 100000 in
theorem ckX0_handOverTurn : axCk 0 false 0 prog_2_method_20_code cdX0_handOverTurn = true := by decide +kernel
def cdX4_fit : List axE := [
  (0, 2, .null, 0, 0, [], 1), (1, 36, .null, 4, 1, [], 4), (4, 2, .null, 0, 0, [], 5), (5, 36, .null, 4, 0, [], 8), (8, 52, .ref 1, 6, 1, [], 11), (11, 2, .null, 0, 0, [], 12), (12, 36, .null, 4, 1, [], 15), (15, 2, .null, 0, 0, [], 16),
  (16, 36, .null, 4, 0, [], 19), (19, 1, .null, 1, 0, [], 20), (20, 52, .ref 0, 53, 1, [], 23), (23, 52, .ref 1, 11, 1, [], 26), (26, 49, .null, 0, 0, [], 26)]
def mtX4_fit : axM := (⟨"BeatSlugs", "fit", "(I)I"⟩, prog_1_method_13_code, 2, (some .int), 4, false, cdX4_fit)
abbrev kX4_fit : Nat := 52
set_option maxRecDepth 100000 in
theorem ckX4_fit : axCk 4 false 0 prog_1_method_13_code cdX4_fit = true := by decide +kernel
def cdX0_fitAct : List axE := [
  (0, 2, .null, 0, 0, [], 1), (1, 1, .null, 1, 0, [], 2), (2, 52, .ref 0, 54, 1, [], 5), (5, 4, .null, 2, 0, [], 6), (6, 1, .null, 2, 0, [], 7), (7, 33, .null, 3, 12, [], 10), (10, 1, .null, 2, 0, [], 11), (11, 49, .null, 0, 0, [], 11),
  (12, 2, .null, 0, 0, [], 13), (13, 1, .null, 1, 0, [], 14), (14, 52, .ref 0, 58, 1, [], 17), (17, 4, .null, 3, 0, [], 18), (18, 1, .null, 2, 0, [], 19), (19, 4, .null, 4, 0, [], 21), (21, 2, .null, 0, 0, [], 22), (22, 1, .null, 1, 0, [], 23),
  (23, 0, .int 1, 0, 0, [], 24), (24, 11, .null, 0, 0, [], 25), (25, 52, .ref 0, 58, 1, [], 28), (28, 0, .int 1, 0, 0, [], 29), (29, 12, .null, 0, 0, [], 30), (30, 4, .null, 5, 0, [], 32), (32, 1, .null, 5, 0, [], 34), (34, 1, .null, 3, 0, [], 35),
  (35, 32, .null, 2, 98, [], 38), (38, 1, .null, 4, 0, [], 40), (40, 33, .null, 5, 98, [], 43), (43, 2, .null, 0, 0, [], 44), (44, 36, .null, 0, 2, [], 47), (47, 1, .null, 5, 0, [], 49), (49, 53, .null, 10, 2, [], 52), (52, 4, .null, 6, 0, [], 54),
  (54, 1, .null, 4, 0, [], 56), (56, 2, .null, 0, 0, [], 57), (57, 1, .null, 6, 0, [], 59), (59, 52, .ref 0, 36, 1, [], 62), (62, 58, .null, 0, 0, [], 65), (65, 4, .null, 7, 0, [], 67), (67, 2, .null, 0, 0, [], 68), (68, 36, .null, 0, 4, [], 71),
  (71, 1, .null, 6, 0, [], 73), (73, 2, .null, 0, 0, [], 74), (74, 1, .null, 6, 0, [], 76), (76, 52, .ref 0, 37, 1, [], 79), (79, 1, .null, 7, 0, [], 81), (81, 12, .null, 0, 0, [], 82), (82, 53, .null, 20, 3, [], 85), (85, 1, .null, 4, 0, [], 87),
  (87, 1, .null, 7, 0, [], 89), (89, 12, .null, 0, 0, [], 90), (90, 4, .null, 4, 0, [], 92), (92, 6, .int (-1), 5, 0, [], 95), (95, 9, .null, 0, 0, [], 32), (98, 1, .null, 2, 0, [], 99), (99, 49, .null, 0, 0, [], 99)]
def mtX0_fitAct : axM := (⟨"BeatSlugs$Board", "fitAct", "(I)I"⟩, prog_2_method_14_code, 8, (some .int), 0, false, cdX0_fitAct)
abbrev kX0_fitAct : Nat := 53
set_option maxRecDepth 100000 in
theorem ckX0_fitAct : axCk 0 false 0 prog_2_method_14_code cdX0_fitAct = true := by decide +kernel
def cdX0_cutOf : List axE := [
  (0, 2, .null, 0, 0, [], 1), (1, 1, .null, 1, 0, [], 2), (2, 52, .ref 0, 55, 1, [], 5), (5, 33, .null, 1, 10, [], 8), (8, 0, .int (-1), 0, 0, [], 9), (9, 49, .null, 0, 0, [], 9), (10, 0, .int 0, 0, 0, [], 11), (11, 2, .null, 0, 0, [], 12),
  (12, 1, .null, 1, 0, [], 13), (13, 52, .ref 0, 57, 1, [], 16), (16, 57, .null, 0, 0, [], 19), (19, 4, .null, 2, 0, [], 20), (20, 1, .null, 2, 0, [], 21), (21, 2, .null, 0, 0, [], 22), (22, 2, .null, 0, 0, [], 23), (23, 1, .null, 1, 0, [], 24),
  (24, 52, .ref 0, 58, 1, [], 27), (27, 2, .null, 0, 0, [], 28), (28, 1, .null, 1, 0, [], 29), (29, 0, .int 1, 0, 0, [], 30), (30, 11, .null, 0, 0, [], 31), (31, 52, .ref 0, 58, 1, [], 34), (34, 52, .ref 0, 61, 2, [], 37), (37, 58, .null, 0, 0, [], 40),
  (40, 4, .null, 3, 0, [], 41), (41, 1, .null, 2, 0, [], 42), (42, 1, .null, 3, 0, [], 43), (43, 12, .null, 0, 0, [], 44), (44, 2, .null, 0, 0, [], 45), (45, 0, .int 1, 0, 0, [], 46), (46, 52, .ref 0, 62, 1, [], 49), (49, 32, .null, 5, 57, [], 52),
  (52, 0, .int (-5), 0, 0, [], 54), (54, 9, .null, 0, 0, [], 58), (57, 1, .null, 3, 0, [], 58), (58, 49, .null, 0, 0, [], 58)]
def mtX0_cutOf : axM := (⟨"BeatSlugs$Board", "cutOf", "(I)I"⟩, prog_2_method_53_code, 4, (some .int), 0, false, cdX0_cutOf)
abbrev kX0_cutOf : Nat := 54
set_option maxRecDepth 100000 in
theorem ckX0_cutOf : axCk 0 false 0 prog_2_method_53_code cdX0_cutOf = true := by decide +kernel
def cdX0_hasAct : List axE := [
  (0, 1, .null, 1, 0, [], 1), (1, 33, .null, 2, 16, [], 4), (4, 1, .null, 1, 0, [], 5), (5, 2, .null, 0, 0, [], 6), (6, 52, .ref 0, 56, 0, [], 9), (9, 32, .null, 3, 16, [], 12), (12, 0, .int 1, 0, 0, [], 13), (13, 9, .null, 0, 0, [], 17),
  (16, 0, .int 0, 0, 0, [], 17), (17, 49, .null, 2, 0, [], 17)]
def mtX0_hasAct : axM := (⟨"BeatSlugs$Board", "hasAct", "(I)Z"⟩, prog_2_method_46_code, 2, (some .boolean), 0, false, cdX0_hasAct)
abbrev kX0_hasAct : Nat := 55
set_option maxRecDepth 100000 in
theorem ckX0_hasAct : axCk 0 false 2 prog_2_method_46_code cdX0_hasAct = true := by decide +kernel
def cdX0_actCount : List axE := [
  (0, 2, .null, 0, 0, [], 1), (1, 36, .null, 0, 8, [], 4), (4, 33, .null, 5, 34, [], 7), (7, 2, .null, 0, 0, [], 8), (8, 36, .null, 0, 7, [], 11), (11, 2, .null, 0, 0, [], 12), (12, 36, .null, 0, 2, [], 15), (15, 2, .null, 0, 0, [], 16),
  (16, 36, .null, 0, 8, [], 19), (19, 0, .int 1, 0, 0, [], 20), (20, 12, .null, 0, 0, [], 21), (21, 53, .null, 10, 2, [], 24), (24, 53, .null, 18, 2, [], 27), (27, 33, .null, 1, 34, [], 30), (30, 0, .int 1, 0, 0, [], 31), (31, 9, .null, 0, 0, [], 35),
  (34, 0, .int 0, 0, 0, [], 35), (35, 4, .null, 1, 0, [], 36), (36, 2, .null, 0, 0, [], 37), (37, 36, .null, 0, 7, [], 40), (40, 53, .null, 33, 1, [], 43), (43, 1, .null, 1, 0, [], 44), (44, 33, .null, 0, 51, [], 47), (47, 0, .int 1, 0, 0, [], 48),
  (48, 9, .null, 0, 0, [], 52), (51, 0, .int 0, 0, 0, [], 52), (52, 11, .null, 0, 0, [], 53), (53, 49, .null, 0, 0, [], 53)]
def mtX0_actCount : axM := (⟨"BeatSlugs$Board", "actCount", "()I"⟩, prog_2_method_45_code, 2, (some .int), 0, false, cdX0_actCount)
abbrev kX0_actCount : Nat := 56
set_option maxRecDepth 100000 in
theorem ckX0_actCount : axCk 0 false 0 prog_2_method_45_code cdX0_actCount = true := by decide +kernel
def cdX0_offOf : List axE := [
  (0, 2, .null, 0, 0, [], 1), (1, 2, .null, 0, 0, [], 2), (2, 1, .null, 1, 0, [], 3), (3, 52, .ref 0, 58, 1, [], 6), (6, 2, .null, 0, 0, [], 7), (7, 1, .null, 1, 0, [], 8), (8, 0, .int 1, 0, 0, [], 9), (9, 11, .null, 0, 0, [], 10),
  (10, 52, .ref 0, 58, 1, [], 13), (13, 52, .ref 0, 59, 2, [], 16), (16, 2, .null, 0, 0, [], 17), (17, 1, .null, 1, 0, [], 18), (18, 52, .ref 0, 60, 1, [], 21), (21, 12, .null, 0, 0, [], 22), (22, 49, .null, 0, 0, [], 22)]
def mtX0_offOf : axM := (⟨"BeatSlugs$Board", "offOf", "(I)I"⟩, prog_2_method_49_code, 2, (some .int), 0, false, cdX0_offOf)
abbrev kX0_offOf : Nat := 57
set_option maxRecDepth 100000 in
theorem ckX0_offOf : axCk 0 false 0 prog_2_method_49_code cdX0_offOf = true := by decide +kernel
def cdX0_startOf : List axE := [
  (0, 0, .int 0, 0, 0, [], 1), (1, 4, .null, 2, 0, [], 2), (2, 1, .null, 1, 0, [], 3), (3, 4, .null, 3, 0, [], 4), (4, 1, .null, 2, 0, [], 5), (5, 2, .null, 0, 0, [], 6), (6, 36, .null, 0, 8, [], 9), (9, 32, .null, 3, 43, [], 12),
  (12, 1, .null, 3, 0, [], 13), (13, 33, .null, 5, 43, [], 16), (16, 2, .null, 0, 0, [], 17), (17, 36, .null, 0, 7, [], 20), (20, 2, .null, 0, 0, [], 21), (21, 36, .null, 0, 2, [], 24), (24, 1, .null, 2, 0, [], 25), (25, 53, .null, 10, 2, [], 28),
  (28, 53, .null, 18, 2, [], 31), (31, 33, .null, 0, 37, [], 34), (34, 6, .int (-1), 3, 0, [], 37), (37, 6, .int 1, 2, 0, [], 40), (40, 9, .null, 0, 0, [], 4), (43, 1, .null, 2, 0, [], 44), (44, 49, .null, 0, 0, [], 44)]
def mtX0_startOf : axM := (⟨"BeatSlugs$Board", "startOf", "(I)I"⟩, prog_2_method_47_code, 4, (some .int), 0, false, cdX0_startOf)
abbrev kX0_startOf : Nat := 58
set_option maxRecDepth 100000 in
theorem ckX0_startOf : axCk 0 false 0 prog_2_method_47_code cdX0_startOf = true := by decide +kernel
def cdX0_beatsIn : List axE := [
  (0, 0, .int 0, 0, 0, [], 1), (1, 4, .null, 3, 0, [], 2), (2, 1, .null, 1, 0, [], 3), (3, 4, .null, 4, 0, [], 5), (5, 1, .null, 4, 0, [], 7), (7, 1, .null, 2, 0, [], 8), (8, 32, .null, 3, 36, [], 11), (11, 1, .null, 3, 0, [], 12),
  (12, 2, .null, 0, 0, [], 13), (13, 36, .null, 0, 4, [], 16), (16, 2, .null, 0, 0, [], 17), (17, 36, .null, 0, 2, [], 20), (20, 1, .null, 4, 0, [], 22), (22, 53, .null, 10, 2, [], 25), (25, 53, .null, 10, 2, [], 28), (28, 11, .null, 0, 0, [], 29),
  (29, 4, .null, 3, 0, [], 30), (30, 6, .int 1, 4, 0, [], 33), (33, 9, .null, 0, 0, [], 5), (36, 1, .null, 3, 0, [], 37), (37, 49, .null, 0, 0, [], 37)]
def mtX0_beatsIn : axM := (⟨"BeatSlugs$Board", "beatsIn", "(II)I"⟩, prog_2_method_40_code, 5, (some .int), 0, false, cdX0_beatsIn)
abbrev kX0_beatsIn : Nat := 59
set_option maxRecDepth 100000 in
theorem ckX0_beatsIn : axCk 0 false 0 prog_2_method_40_code cdX0_beatsIn = true := by decide +kernel
def cdX0_targetOf : List axE := [
  (0, 2, .null, 0, 0, [], 1), (1, 36, .null, 0, 1, [], 4), (4, 1, .null, 1, 0, [], 5), (5, 2, .null, 0, 0, [], 6), (6, 36, .null, 0, 1, [], 9), (9, 39, .null, 0, 0, [], 10), (10, 0, .int 1, 0, 0, [], 11), (11, 12, .null, 0, 0, [], 12),
  (12, 58, .null, 0, 0, [], 15), (15, 53, .null, 10, 2, [], 18), (18, 49, .null, 0, 0, [], 18)]
def mtX0_targetOf : axM := (⟨"BeatSlugs$Board", "targetOf", "(I)I"⟩, prog_2_method_48_code, 2, (some .int), 0, false, cdX0_targetOf)
abbrev kX0_targetOf : Nat := 60
set_option maxRecDepth 100000 in
theorem ckX0_targetOf : axCk 0 false 0 prog_2_method_48_code cdX0_targetOf = true := by decide +kernel
def cdX0_roomIn : List axE := [
  (0, 0, .int 0, 0, 0, [], 1), (1, 4, .null, 3, 0, [], 2), (2, 1, .null, 1, 0, [], 3), (3, 4, .null, 4, 0, [], 5), (5, 1, .null, 4, 0, [], 7), (7, 1, .null, 2, 0, [], 8), (8, 32, .null, 3, 33, [], 11), (11, 1, .null, 3, 0, [], 12),
  (12, 2, .null, 0, 0, [], 13), (13, 2, .null, 0, 0, [], 14), (14, 36, .null, 0, 2, [], 17), (17, 1, .null, 4, 0, [], 19), (19, 53, .null, 10, 2, [], 22), (22, 52, .ref 0, 36, 1, [], 25), (25, 11, .null, 0, 0, [], 26), (26, 4, .null, 3, 0, [], 27),
  (27, 6, .int 1, 4, 0, [], 30), (30, 9, .null, 0, 0, [], 5), (33, 1, .null, 3, 0, [], 34), (34, 49, .null, 0, 0, [], 34)]
def mtX0_roomIn : axM := (⟨"BeatSlugs$Board", "roomIn", "(II)I"⟩, prog_2_method_42_code, 5, (some .int), 0, false, cdX0_roomIn)
abbrev kX0_roomIn : Nat := 61
set_option maxRecDepth 100000 in
theorem ckX0_roomIn : axCk 0 false 0 prog_2_method_42_code cdX0_roomIn = true := by decide +kernel
def cdX0_settingOf : List axE := [
  (0, 2, .null, 0, 0, [], 1), (1, 36, .null, 0, 0, [], 4), (4, 1, .null, 1, 0, [], 5), (5, 53, .null, 10, 2, [], 8), (8, 49, .null, 0, 0, [], 8)]
def mtX0_settingOf : axM := (⟨"BeatSlugs$Board", "settingOf", "(I)I"⟩, prog_2_method_21_code, 2, (some .int), 0, false, cdX0_settingOf)
abbrev kX0_settingOf : Nat := 62
set_option maxRecDepth 100000 in
theorem ckX0_settingOf : axCk 0 false 0 prog_2_method_21_code cdX0_settingOf = true := by decide +kernel
def cdX4_of : List axE := [
  (0, 2, .null, 0, 0, [], 1), (1, 36, .null, 4, 0, [], 4), (4, 1, .null, 1, 0, [], 5), (5, 52, .ref 0, 24, 1, [], 8), (8, 33, .null, 1, 13, [], 11), (11, 0, .int (-1), 0, 0, [], 12), (12, 49, .null, 0, 0, [], 12), (13, 2, .null, 0, 0, [], 14),
  (14, 36, .null, 4, 0, [], 17), (17, 1, .null, 1, 0, [], 18), (18, 52, .ref 0, 25, 1, [], 21), (21, 4, .null, 3, 0, [], 22), (22, 1, .null, 2, 0, [], 23), (23, 35, .null, 0, 177, [(0, 76), (1, 78), (2, 87), (3, 96), (4, 113), (5, 122), (6, 131), (7, 141), (8, 159), (9, 168)], 23), (76, 1, .null, 3, 0, [], 77), (77, 49, .null, 0, 0, [], 77),
  (78, 2, .null, 0, 0, [], 79), (79, 36, .null, 4, 0, [], 82), (82, 1, .null, 1, 0, [], 83), (83, 52, .ref 0, 40, 1, [], 86), (86, 49, .null, 0, 0, [], 86), (87, 2, .null, 0, 0, [], 88), (88, 36, .null, 4, 0, [], 91), (91, 1, .null, 1, 0, [], 92),
  (92, 52, .ref 0, 37, 1, [], 95), (95, 49, .null, 0, 0, [], 95), (96, 2, .null, 0, 0, [], 97), (97, 36, .null, 4, 0, [], 100), (100, 1, .null, 1, 0, [], 101), (101, 52, .ref 0, 29, 1, [], 104), (104, 33, .null, 0, 111, [], 107), (107, 0, .int 1, 0, 0, [], 108),
  (108, 9, .null, 0, 0, [], 112), (111, 0, .int 0, 0, 0, [], 112), (112, 49, .null, 0, 0, [], 112), (113, 2, .null, 0, 0, [], 114), (114, 36, .null, 4, 0, [], 117), (117, 1, .null, 1, 0, [], 118), (118, 52, .ref 0, 32, 1, [], 121), (121, 49, .null, 0, 0, [], 121),
  (122, 2, .null, 0, 0, [], 123), (123, 36, .null, 4, 0, [], 126), (126, 1, .null, 1, 0, [], 127), (127, 52, .ref 0, 64, 1, [], 130), (130, 49, .null, 0, 0, [], 130), (131, 2, .null, 0, 0, [], 132), (132, 36, .null, 4, 0, [], 135), (135, 0, .int 0, 0, 0, [], 136),
  (136, 1, .null, 3, 0, [], 137), (137, 52, .ref 0, 59, 2, [], 140), (140, 49, .null, 0, 0, [], 140), (141, 2, .null, 0, 0, [], 142), (142, 36, .null, 4, 0, [], 145), (145, 0, .int 0, 0, 0, [], 146), (146, 1, .null, 3, 0, [], 147), (147, 52, .ref 0, 59, 2, [], 150),
  (150, 2, .null, 0, 0, [], 151), (151, 36, .null, 4, 0, [], 154), (154, 52, .ref 0, 65, 0, [], 157), (157, 47, .null, 0, 0, [], 158), (158, 49, .null, 0, 0, [], 158), (159, 2, .null, 0, 0, [], 160), (160, 36, .null, 4, 0, [], 163), (163, 1, .null, 3, 0, [], 164),
  (164, 52, .ref 0, 66, 1, [], 167), (167, 49, .null, 0, 0, [], 167), (168, 2, .null, 0, 0, [], 169), (169, 36, .null, 4, 0, [], 172), (172, 1, .null, 1, 0, [], 173), (173, 52, .ref 0, 36, 1, [], 176), (176, 49, .null, 0, 0, [], 176), (177, 0, .int (-2), 0, 0, [], 179),
  (179, 49, .null, 0, 0, [], 179)]
def mtX4_of : axM := (⟨"BeatSlugs", "of", "(II)I"⟩, prog_1_method_14_code, 4, (some .int), 4, false, cdX4_of)
abbrev kX4_of : Nat := 63
set_option maxRecDepth 100000 in
theorem ckX4_of : axCk 4 false 0 prog_1_method_14_code cdX4_of = true := by decide +kernel
def cdX0_needersOf : List axE := [
  (0, 0, .int 0, 0, 0, [], 1), (1, 4, .null, 2, 0, [], 2), (2, 0, .int 0, 0, 0, [], 3), (3, 4, .null, 3, 0, [], 4), (4, 1, .null, 3, 0, [], 5), (5, 2, .null, 0, 0, [], 6), (6, 36, .null, 0, 8, [], 9), (9, 32, .null, 3, 49, [], 12),
  (12, 2, .null, 0, 0, [], 13), (13, 36, .null, 0, 2, [], 16), (16, 1, .null, 3, 0, [], 17), (17, 53, .null, 10, 2, [], 20), (20, 4, .null, 4, 0, [], 22), (22, 2, .null, 0, 0, [], 23), (23, 1, .null, 4, 0, [], 25), (25, 52, .ref 0, 32, 1, [], 28),
  (28, 1, .null, 1, 0, [], 29), (29, 53, .null, 18, 2, [], 32), (32, 33, .null, 0, 43, [], 35), (35, 1, .null, 2, 0, [], 36), (36, 1, .null, 4, 0, [], 38), (38, 53, .null, 19, 1, [], 41), (41, 15, .null, 0, 0, [], 42), (42, 4, .null, 2, 0, [], 43),
  (43, 6, .int 1, 3, 0, [], 46), (46, 9, .null, 0, 0, [], 4), (49, 1, .null, 2, 0, [], 50), (50, 49, .null, 0, 0, [], 50)]
def mtX0_needersOf : axM := (⟨"BeatSlugs$Board", "needersOf", "(I)I"⟩, prog_2_method_35_code, 5, (some .int), 0, false, cdX0_needersOf)
abbrev kX0_needersOf : Nat := 64
set_option maxRecDepth 100000 in
theorem ckX0_needersOf : axCk 0 false 0 prog_2_method_35_code cdX0_needersOf = true := by decide +kernel
def cdX0_pageBeats : List axE := [
  (0, 0, .int 1, 0, 0, [], 1), (1, 2, .null, 0, 0, [], 2), (2, 0, .int 0, 0, 0, [], 3), (3, 52, .ref 0, 62, 1, [], 6), (6, 57, .null, 0, 0, [], 9), (9, 49, .null, 0, 0, [], 9)]
def mtX0_pageBeats : axM := (⟨"BeatSlugs$Board", "pageBeats", "()I"⟩, prog_2_method_22_code, 1, (some .int), 0, false, cdX0_pageBeats)
abbrev kX0_pageBeats : Nat := 65
set_option maxRecDepth 100000 in
theorem ckX0_pageBeats : axCk 0 false 0 prog_2_method_22_code cdX0_pageBeats = true := by decide +kernel
def cdX0_turnsAhead : List axE := [
  (0, 0, .int 0, 0, 0, [], 1), (1, 4, .null, 2, 0, [], 2), (2, 0, .int 0, 0, 0, [], 3), (3, 4, .null, 3, 0, [], 4), (4, 1, .null, 3, 0, [], 5), (5, 1, .null, 1, 0, [], 6), (6, 32, .null, 3, 36, [], 9), (9, 2, .null, 0, 0, [], 10),
  (10, 36, .null, 0, 7, [], 13), (13, 2, .null, 0, 0, [], 14), (14, 36, .null, 0, 2, [], 17), (17, 1, .null, 3, 0, [], 18), (18, 53, .null, 10, 2, [], 21), (21, 53, .null, 18, 2, [], 24), (24, 33, .null, 0, 30, [], 27), (27, 6, .int 1, 2, 0, [], 30),
  (30, 6, .int 1, 3, 0, [], 33), (33, 9, .null, 0, 0, [], 4), (36, 1, .null, 2, 0, [], 37), (37, 49, .null, 0, 0, [], 37)]
def mtX0_turnsAhead : axM := (⟨"BeatSlugs$Board", "turnsAhead", "(I)I"⟩, prog_2_method_44_code, 4, (some .int), 0, false, cdX0_turnsAhead)
abbrev kX0_turnsAhead : Nat := 66
set_option maxRecDepth 100000 in
theorem ckX0_turnsAhead : axCk 0 false 0 prog_2_method_44_code cdX0_turnsAhead = true := by decide +kernel
def cdX4_at : List axE := [
  (0, 2, .null, 0, 0, [], 1), (1, 36, .null, 4, 0, [], 4), (4, 1, .null, 1, 0, [], 5), (5, 52, .ref 0, 68, 1, [], 8), (8, 49, .null, 0, 0, [], 8)]
def mtX4_at : axM := (⟨"BeatSlugs", "at", "(I)I"⟩, prog_1_method_15_code, 2, (some .int), 4, false, cdX4_at)
abbrev kX4_at : Nat := 67
set_option maxRecDepth 100000 in
theorem ckX4_at : axCk 4 false 0 prog_1_method_15_code cdX4_at = true := by decide +kernel
def cdX0_slugIn : List axE := [
  (0, 1, .null, 1, 0, [], 1), (1, 33, .null, 2, 23, [], 4), (4, 1, .null, 1, 0, [], 5), (5, 2, .null, 0, 0, [], 6), (6, 36, .null, 0, 8, [], 9), (9, 32, .null, 3, 23, [], 12), (12, 2, .null, 0, 0, [], 13), (13, 36, .null, 0, 2, [], 16),
  (16, 1, .null, 1, 0, [], 17), (17, 53, .null, 10, 2, [], 20), (20, 9, .null, 0, 0, [], 24), (23, 0, .int (-1), 0, 0, [], 24), (24, 49, .null, 0, 0, [], 24)]
def mtX0_slugIn : axM := (⟨"BeatSlugs$Board", "slugIn", "(I)I"⟩, prog_2_method_27_code, 2, (some .int), 0, false, cdX0_slugIn)
abbrev kX0_slugIn : Nat := 68
set_option maxRecDepth 100000 in
theorem ckX0_slugIn : axCk 0 false 0 prog_2_method_27_code cdX0_slugIn = true := by decide +kernel
def cdX4_atBeat : List axE := [
  (0, 1, .null, 1, 0, [], 1), (1, 33, .null, 3, 9, [], 4), (4, 0, .int (-2), 0, 0, [], 6), (6, 9, .null, 0, 0, [], 17), (9, 2, .null, 0, 0, [], 10), (10, 36, .null, 4, 0, [], 13), (13, 1, .null, 1, 0, [], 14), (14, 52, .ref 0, 70, 1, [], 17),
  (17, 49, .null, 0, 0, [], 17)]
def mtX4_atBeat : axM := (⟨"BeatSlugs", "atBeat", "(I)I"⟩, prog_1_method_16_code, 2, (some .int), 4, false, cdX4_atBeat)
abbrev kX4_atBeat : Nat := 69
set_option maxRecDepth 100000 in
theorem ckX4_atBeat : axCk 4 false 0 prog_1_method_16_code cdX4_atBeat = true := by decide +kernel
