/-! The code of the methods as rows of the abstract machine. Written by wip/p32/gen2.py. -/
def cdX4_init : List axE := [
  (0, 2, .null, 0, 0, [], 1), (1, 55, .null, 0, 0, [], 4), (4, 2, .null, 0, 0, [], 5), (5, 46, .null, 0, 0, [], 8), (8, 7, .null, 0, 0, [], 9), (9, 54, .null, 1, 0, [], 12), (12, 60, .null, 4, 0, [], 15), (15, 2, .null, 0, 0, [], 16),
  (16, 46, .null, 1, 0, [], 19), (19, 7, .null, 0, 0, [], 20), (20, 54, .null, 2, 0, [], 23), (23, 60, .null, 4, 1, [], 26), (26, 2, .null, 0, 0, [], 27), (27, 0, .int 2, 0, 0, [], 28), (28, 45, .null, 0, 0, [], 31), (31, 60, .null, 4, 2, [], 34),
  (34, 2, .null, 0, 0, [], 35), (35, 46, .null, 2, 0, [], 38), (38, 7, .null, 0, 0, [], 39), (39, 54, .null, 3, 0, [], 42), (42, 60, .null, 4, 3, [], 45), (45, 2, .null, 0, 0, [], 46), (46, 46, .null, 3, 0, [], 49), (49, 7, .null, 0, 0, [], 50),
  (50, 54, .null, 4, 0, [], 53), (53, 60, .null, 4, 4, [], 56), (56, 50, .null, 0, 0, [], 56)]
def mtX4_init : axM := (⟨"BeatSlugs", "<init>", "()V"⟩, prog_1_method_1_code, 1, none, 4, true, cdX4_init)
abbrev kX4_init : Nat := 0
set_option maxRecDepth 100000 in
theorem ckX4_init : axCk 4 true 0 prog_1_method_1_code cdX4_init = true := by decide +kernel
def cdX0_init : List axE := [
  (0, 2, .null, 0, 0, [], 1), (1, 55, .null, 0, 0, [], 4), (4, 2, .null, 0, 0, [], 5), (5, 0, .int 3, 0, 0, [], 6), (6, 44, .null, 0, 0, [], 8), (8, 7, .null, 0, 0, [], 9), (9, 0, .int 0, 0, 0, [], 10), (10, 0, .int 16, 0, 0, [], 12),
  (12, 42, .null, 0, 0, [], 13), (13, 7, .null, 0, 0, [], 14), (14, 0, .int 1, 0, 0, [], 15), (15, 0, .int 2, 0, 0, [], 16), (16, 42, .null, 0, 0, [], 17), (17, 7, .null, 0, 0, [], 18), (18, 0, .int 2, 0, 0, [], 19), (19, 0, .int 50, 0, 0, [], 21),
  (21, 42, .null, 0, 0, [], 22), (22, 60, .null, 0, 0, [], 25), (25, 2, .null, 0, 0, [], 26), (26, 0, .int 6, 0, 0, [], 28), (28, 44, .null, 0, 0, [], 30), (30, 7, .null, 0, 0, [], 31), (31, 0, .int 0, 0, 0, [], 32), (32, 0, .int 60, 0, 0, [], 34),
  (34, 42, .null, 0, 0, [], 35), (35, 7, .null, 0, 0, [], 36), (36, 0, .int 1, 0, 0, [], 37), (37, 0, .int 60, 0, 0, [], 39), (39, 42, .null, 0, 0, [], 40), (40, 7, .null, 0, 0, [], 41), (41, 0, .int 2, 0, 0, [], 42), (42, 0, .int 60, 0, 0, [], 44),
  (44, 42, .null, 0, 0, [], 45), (45, 7, .null, 0, 0, [], 46), (46, 0, .int 3, 0, 0, [], 47), (47, 0, .int 60, 0, 0, [], 49), (49, 42, .null, 0, 0, [], 50), (50, 7, .null, 0, 0, [], 51), (51, 0, .int 4, 0, 0, [], 52), (52, 0, .int 60, 0, 0, [], 54),
  (54, 42, .null, 0, 0, [], 55), (55, 7, .null, 0, 0, [], 56), (56, 0, .int 5, 0, 0, [], 57), (57, 0, .int 60, 0, 0, [], 59), (59, 42, .null, 0, 0, [], 60), (60, 60, .null, 0, 1, [], 63), (63, 2, .null, 0, 0, [], 64), (64, 0, .int 24, 0, 0, [], 66),
  (66, 44, .null, 0, 0, [], 68), (68, 60, .null, 0, 2, [], 71), (71, 2, .null, 0, 0, [], 72), (72, 0, .int 24, 0, 0, [], 74), (74, 44, .null, 0, 0, [], 76), (76, 60, .null, 0, 3, [], 79), (79, 2, .null, 0, 0, [], 80), (80, 0, .int 24, 0, 0, [], 82),
  (82, 44, .null, 0, 0, [], 84), (84, 60, .null, 0, 4, [], 87), (87, 2, .null, 0, 0, [], 88), (88, 0, .int 24, 0, 0, [], 90), (90, 44, .null, 0, 0, [], 92), (92, 60, .null, 0, 5, [], 95), (95, 50, .null, 0, 0, [], 95)]
def mtX0_init : axM := (⟨"BeatSlugs$Board", "<init>", "()V"⟩, prog_2_method_1_code, 1, none, 0, true, cdX0_init)
abbrev kX0_init : Nat := 1
set_option maxRecDepth 100000 in
theorem ckX0_init : axCk 0 true 0 prog_2_method_1_code cdX0_init = true := by decide +kernel
def cdX1_init : List axE := [
  (0, 2, .null, 0, 0, [], 1), (1, 55, .null, 0, 0, [], 4), (4, 2, .null, 0, 0, [], 5), (5, 0, .int 7, 0, 0, [], 7), (7, 45, .null, 0, 0, [], 10), (10, 60, .null, 1, 0, [], 13), (13, 50, .null, 0, 0, [], 13)]
def mtX1_init : axM := (⟨"BeatSlugs$History", "<init>", "()V"⟩, prog_3_method_1_code, 1, none, 1, true, cdX1_init)
abbrev kX1_init : Nat := 2
set_option maxRecDepth 100000 in
theorem ckX1_init : axCk 1 true 0 prog_3_method_1_code cdX1_init = true := by decide +kernel
def cdX2_init : List axE := [
  (0, 2, .null, 0, 0, [], 1), (1, 55, .null, 0, 0, [], 4), (4, 2, .null, 0, 0, [], 5), (5, 0, .int 80, 0, 0, [], 7), (7, 44, .null, 1, 0, [], 9), (9, 60, .null, 2, 0, [], 12), (12, 50, .null, 0, 0, [], 12)]
def mtX2_init : axM := (⟨"BeatSlugs$Pad", "<init>", "()V"⟩, prog_4_method_1_code, 1, none, 2, true, cdX2_init)
abbrev kX2_init : Nat := 3
set_option maxRecDepth 100000 in
theorem ckX2_init : axCk 2 true 0 prog_4_method_1_code cdX2_init = true := by decide +kernel
def cdX3_init : List axE := [
  (0, 2, .null, 0, 0, [], 1), (1, 55, .null, 0, 0, [], 4), (4, 2, .null, 0, 0, [], 5), (5, 0, .int 24, 0, 0, [], 7), (7, 44, .null, 0, 0, [], 9), (9, 60, .null, 3, 0, [], 12), (12, 50, .null, 0, 0, [], 12)]
def mtX3_init : axM := (⟨"BeatSlugs$SwapSearch", "<init>", "()V"⟩, prog_5_method_1_code, 1, none, 3, true, cdX3_init)
abbrev kX3_init : Nat := 4
set_option maxRecDepth 100000 in
theorem ckX3_init : axCk 3 true 0 prog_5_method_1_code cdX3_init = true := by decide +kernel
def cdX4_bestSwap : List axE := [
  (0, 1, .null, 1, 0, [], 1), (1, 33, .null, 2, 9, [], 4), (4, 1, .null, 1, 0, [], 5), (5, 0, .int 2, 0, 0, [], 6), (6, 32, .null, 5, 12, [], 9), (9, 0, .int (-2), 0, 0, [], 11), (11, 49, .null, 0, 0, [], 11), (12, 2, .null, 0, 0, [], 13),
  (13, 36, .null, 4, 4, [], 16), (16, 2, .null, 0, 0, [], 17), (17, 36, .null, 4, 0, [], 20), (20, 52, .ref 3, 6, 1, [], 23), (23, 2, .null, 0, 0, [], 24), (24, 36, .null, 4, 4, [], 27), (27, 52, .ref 3, 22, 0, [], 30), (30, 33, .null, 1, 36, [], 33),
  (33, 0, .int (-6), 0, 0, [], 35), (35, 49, .null, 0, 0, [], 35), (36, 1, .null, 1, 0, [], 37), (37, 35, .null, 0, 94, [(0, 64), (1, 79)], 37), (64, 2, .null, 0, 0, [], 65), (65, 36, .null, 4, 0, [], 68), (68, 2, .null, 0, 0, [], 69), (69, 36, .null, 4, 4, [], 72),
  (72, 52, .ref 3, 23, 0, [], 75), (75, 52, .ref 0, 13, 1, [], 78), (78, 49, .null, 0, 0, [], 78), (79, 2, .null, 0, 0, [], 80), (80, 36, .null, 4, 0, [], 83), (83, 2, .null, 0, 0, [], 84), (84, 36, .null, 4, 4, [], 87), (87, 52, .ref 3, 24, 0, [], 90),
  (90, 52, .ref 0, 13, 1, [], 93), (93, 49, .null, 0, 0, [], 93), (94, 2, .null, 0, 0, [], 95), (95, 36, .null, 4, 4, [], 98), (98, 52, .ref 3, 25, 0, [], 101), (101, 49, .null, 0, 0, [], 101)]
def mtX4_bestSwap : axM := (⟨"BeatSlugs", "bestSwap", "(I)I"⟩, prog_1_method_20_code, 2, (some .int), 4, false, cdX4_bestSwap)
abbrev kX4_bestSwap : Nat := 5
set_option maxRecDepth 100000 in
theorem ckX4_bestSwap : axCk 4 false 0 prog_1_method_20_code cdX4_bestSwap = true := by decide +kernel
def cdX3_run : List axE := [
  (0, 2, .null, 0, 0, [], 1), (1, 0, .int 0, 0, 0, [], 2), (2, 37, .null, 3, 1, [], 5), (5, 2, .null, 0, 0, [], 6), (6, 0, .int 0, 0, 0, [], 7), (7, 37, .null, 3, 2, [], 10), (10, 2, .null, 0, 0, [], 11), (11, 2, .null, 1, 0, [], 12),
  (12, 52, .ref 0, 7, 0, [], 15), (15, 37, .null, 3, 3, [], 18), (18, 2, .null, 1, 0, [], 19), (19, 52, .ref 0, 12, 0, [], 22), (22, 4, .null, 2, 0, [], 23), (23, 0, .int 0, 0, 0, [], 24), (24, 4, .null, 3, 0, [], 25), (25, 1, .null, 3, 0, [], 26),
  (26, 1, .null, 2, 0, [], 27), (27, 32, .null, 3, 49, [], 30), (30, 2, .null, 0, 0, [], 31), (31, 36, .null, 3, 0, [], 34), (34, 1, .null, 3, 0, [], 35), (35, 2, .null, 1, 0, [], 36), (36, 1, .null, 3, 0, [], 37), (37, 52, .ref 0, 13, 1, [], 40),
  (40, 53, .null, 14, 3, [], 43), (43, 6, .int 1, 3, 0, [], 46), (46, 9, .null, 0, 0, [], 25), (49, 0, .int 0, 0, 0, [], 50), (50, 4, .null, 3, 0, [], 51), (51, 1, .null, 3, 0, [], 52), (52, 1, .null, 2, 0, [], 53), (53, 32, .null, 3, 68, [], 56),
  (56, 2, .null, 0, 0, [], 57), (57, 2, .null, 1, 0, [], 58), (58, 1, .null, 3, 0, [], 59), (59, 52, .ref 3, 15, 2, [], 62), (62, 6, .int 1, 3, 0, [], 65), (65, 9, .null, 0, 0, [], 51), (68, 50, .null, 0, 0, [], 68)]
def mtX3_run : axM := (⟨"BeatSlugs$SwapSearch", "run", "(LBeatSlugs$Board;)V"⟩, prog_5_method_6_code, 4, none, 3, false, cdX3_run)
abbrev kX3_run : Nat := 6
set_option maxRecDepth 100000 in
theorem ckX3_run : axCk 3 false 0 prog_5_method_6_code cdX3_run = true := by decide +kernel
def cdX0_offTogether : List axE := [
  (0, 2, .null, 0, 0, [], 1), (1, 2, .null, 0, 0, [], 2), (2, 36, .null, 0, 2, [], 5), (5, 2, .null, 0, 0, [], 6), (6, 36, .null, 0, 7, [], 9), (9, 52, .ref 0, 8, 2, [], 12), (12, 49, .null, 0, 0, [], 12)]
def mtX0_offTogether : axM := (⟨"BeatSlugs$Board", "offTogether", "()I"⟩, prog_2_method_54_code, 1, (some .int), 0, false, cdX0_offTogether)
abbrev kX0_offTogether : Nat := 7
set_option maxRecDepth 100000 in
theorem ckX0_offTogether : axCk 0 false 0 prog_2_method_54_code cdX0_offTogether = true := by decide +kernel
def cdX0_offOfRow : List axE := [
  (0, 0, .int 0, 0, 0, [], 1), (1, 4, .null, 3, 0, [], 2), (2, 0, .int 0, 0, 0, [], 3), (3, 4, .null, 4, 0, [], 5), (5, 0, .int 0, 0, 0, [], 6), (6, 4, .null, 5, 0, [], 8), (8, 0, .int 0, 0, 0, [], 9), (9, 4, .null, 6, 0, [], 11),
  (11, 0, .int 0, 0, 0, [], 12), (12, 4, .null, 7, 0, [], 14), (14, 1, .null, 7, 0, [], 16), (16, 2, .null, 0, 0, [], 17), (17, 36, .null, 0, 8, [], 20), (20, 32, .null, 3, 93, [], 23), (23, 2, .null, 1, 0, [], 24), (24, 1, .null, 7, 0, [], 26),
  (26, 53, .null, 9, 2, [], 29), (29, 4, .null, 8, 0, [], 31), (31, 1, .null, 5, 0, [], 33), (33, 2, .null, 0, 0, [], 34), (34, 36, .null, 0, 4, [], 37), (37, 1, .null, 8, 0, [], 39), (39, 53, .null, 9, 2, [], 42), (42, 11, .null, 0, 0, [], 43),
  (43, 4, .null, 5, 0, [], 45), (45, 1, .null, 2, 0, [], 46), (46, 1, .null, 8, 0, [], 48), (48, 53, .null, 10, 2, [], 51), (51, 33, .null, 1, 58, [], 54), (54, 0, .int 1, 0, 0, [], 55), (55, 9, .null, 0, 0, [], 59), (58, 0, .int 0, 0, 0, [], 59),
  (59, 4, .null, 6, 0, [], 61), (61, 1, .null, 6, 0, [], 63), (63, 33, .null, 1, 87, [], 66), (66, 1, .null, 3, 0, [], 67), (67, 1, .null, 5, 0, [], 69), (69, 2, .null, 0, 0, [], 70), (70, 1, .null, 4, 0, [], 72), (72, 52, .ref 0, 11, 1, [], 75),
  (75, 12, .null, 0, 0, [], 76), (76, 59, .null, 0, 0, [], 79), (79, 11, .null, 0, 0, [], 80), (80, 4, .null, 3, 0, [], 81), (81, 6, .int 1, 4, 0, [], 84), (84, 0, .int 0, 0, 0, [], 85), (85, 4, .null, 5, 0, [], 87), (87, 6, .int 1, 7, 0, [], 90),
  (90, 9, .null, 0, 0, [], 14), (93, 1, .null, 6, 0, [], 95), (95, 33, .null, 0, 115, [], 98), (98, 1, .null, 3, 0, [], 99), (99, 1, .null, 5, 0, [], 101), (101, 2, .null, 0, 0, [], 102), (102, 1, .null, 4, 0, [], 104), (104, 52, .ref 0, 11, 1, [], 107),
  (107, 12, .null, 0, 0, [], 108), (108, 59, .null, 0, 0, [], 111), (111, 11, .null, 0, 0, [], 112), (112, 9, .null, 0, 0, [], 116), (115, 1, .null, 3, 0, [], 116), (116, 49, .null, 0, 0, [], 116)]
def mtX0_offOfRow : axM := (⟨"BeatSlugs$Board", "offOfRow", "([II)I"⟩, prog_2_method_56_code, 9, (some .int), 0, false, cdX0_offOfRow)
abbrev kX0_offOfRow : Nat := 8
set_option maxRecDepth 100000 in
theorem ckX0_offOfRow : axCk 0 false 0 prog_2_method_56_code cdX0_offOfRow = true := by decide +kernel
def cdX4_cell : List axE := [
  (0, 1, .null, 1, 0, [], 1), (1, 33, .null, 2, 16, [], 4), (4, 1, .null, 1, 0, [], 5), (5, 2, .null, 0, 0, [], 6), (6, 39, .null, 0, 0, [], 7), (7, 32, .null, 3, 16, [], 10), (10, 2, .null, 0, 0, [], 11), (11, 1, .null, 1, 0, [], 12),
  (12, 40, .null, 0, 0, [], 13), (13, 9, .null, 0, 0, [], 17), (16, 0, .int 0, 0, 0, [], 17), (17, 49, .null, 0, 0, [], 17)]
def mtX4_cell : axM := (⟨"BeatSlugs", "cell", "([II)I"⟩, prog_1_method_33_code, 2, (some .int), 4, false, cdX4_cell)
abbrev kX4_cell : Nat := 9
set_option maxRecDepth 100000 in
theorem ckX4_cell : axCk 4 false 0 prog_1_method_33_code cdX4_cell = true := by decide +kernel
def cdX4_contains : List axE := [
  (0, 1, .null, 1, 0, [], 1), (1, 33, .null, 2, 22, [], 4), (4, 1, .null, 1, 0, [], 5), (5, 0, .int 24, 0, 0, [], 7), (7, 32, .null, 3, 22, [], 10), (10, 1, .null, 0, 0, [], 11), (11, 1, .null, 1, 0, [], 12), (12, 18, .null, 0, 0, [], 13),
  (13, 0, .int 1, 0, 0, [], 14), (14, 14, .null, 0, 0, [], 15), (15, 33, .null, 0, 22, [], 18), (18, 0, .int 1, 0, 0, [], 19), (19, 9, .null, 0, 0, [], 23), (22, 0, .int 0, 0, 0, [], 23), (23, 49, .null, 2, 0, [], 23)]
def mtX4_contains : axM := (⟨"BeatSlugs", "contains", "(II)Z"⟩, prog_1_method_36_code, 2, (some .boolean), 4, false, cdX4_contains)
abbrev kX4_contains : Nat := 10
set_option maxRecDepth 100000 in
theorem ckX4_contains : axCk 4 false 2 prog_1_method_36_code cdX4_contains = true := by decide +kernel
def cdX0_targetOf : List axE := [
  (0, 2, .null, 0, 0, [], 1), (1, 36, .null, 0, 1, [], 4), (4, 1, .null, 1, 0, [], 5), (5, 2, .null, 0, 0, [], 6), (6, 36, .null, 0, 1, [], 9), (9, 39, .null, 0, 0, [], 10), (10, 0, .int 1, 0, 0, [], 11), (11, 12, .null, 0, 0, [], 12),
  (12, 58, .null, 0, 0, [], 15), (15, 53, .null, 9, 2, [], 18), (18, 49, .null, 0, 0, [], 18)]
def mtX0_targetOf : axM := (⟨"BeatSlugs$Board", "targetOf", "(I)I"⟩, prog_2_method_48_code, 2, (some .int), 0, false, cdX0_targetOf)
abbrev kX0_targetOf : Nat := 11
set_option maxRecDepth 100000 in
theorem ckX0_targetOf : axCk 0 false 0 prog_2_method_48_code cdX0_targetOf = true := by decide +kernel
def cdX0_size : List axE := [
  (0, 2, .null, 0, 0, [], 1), (1, 36, .null, 0, 8, [], 4), (4, 49, .null, 0, 0, [], 4)]
def mtX0_size : axM := (⟨"BeatSlugs$Board", "size", "()I"⟩, prog_2_method_23_code, 1, (some .int), 0, false, cdX0_size)
abbrev kX0_size : Nat := 12
set_option maxRecDepth 100000 in
theorem ckX0_size : axCk 0 false 0 prog_2_method_23_code cdX0_size = true := by decide +kernel
def cdX0_slugIn : List axE := [
  (0, 1, .null, 1, 0, [], 1), (1, 33, .null, 2, 23, [], 4), (4, 1, .null, 1, 0, [], 5), (5, 2, .null, 0, 0, [], 6), (6, 36, .null, 0, 8, [], 9), (9, 32, .null, 3, 23, [], 12), (12, 2, .null, 0, 0, [], 13), (13, 36, .null, 0, 2, [], 16),
  (16, 1, .null, 1, 0, [], 17), (17, 53, .null, 9, 2, [], 20), (20, 9, .null, 0, 0, [], 24), (23, 0, .int (-1), 0, 0, [], 24), (24, 49, .null, 0, 0, [], 24)]
def mtX0_slugIn : axM := (⟨"BeatSlugs$Board", "slugIn", "(I)I"⟩, prog_2_method_27_code, 2, (some .int), 0, false, cdX0_slugIn)
abbrev kX0_slugIn : Nat := 13
set_option maxRecDepth 100000 in
theorem ckX0_slugIn : axCk 0 false 0 prog_2_method_27_code cdX0_slugIn = true := by decide +kernel
def cdX4_store : List axE := [
  (0, 1, .null, 1, 0, [], 1), (1, 33, .null, 2, 14, [], 4), (4, 1, .null, 1, 0, [], 5), (5, 2, .null, 0, 0, [], 6), (6, 39, .null, 0, 0, [], 7), (7, 32, .null, 3, 14, [], 10), (10, 2, .null, 0, 0, [], 11), (11, 1, .null, 1, 0, [], 12),
  (12, 1, .null, 2, 0, [], 13), (13, 42, .null, 0, 0, [], 14), (14, 50, .null, 0, 0, [], 14)]
def mtX4_store : axM := (⟨"BeatSlugs", "store", "([III)V"⟩, prog_1_method_34_code, 3, none, 4, false, cdX4_store)
abbrev kX4_store : Nat := 14
set_option maxRecDepth 100000 in
theorem ckX4_store : axCk 4 false 0 prog_1_method_34_code cdX4_store = true := by decide +kernel
def cdX3_tryAllBehind : List axE := [
  (0, 2, .null, 1, 0, [], 1), (1, 2, .null, 1, 0, [], 2), (2, 1, .null, 2, 0, [], 3), (3, 52, .ref 0, 13, 1, [], 6), (6, 52, .ref 0, 16, 1, [], 9), (9, 4, .null, 3, 0, [], 10), (10, 1, .null, 2, 0, [], 11), (11, 0, .int 1, 0, 0, [], 12),
  (12, 11, .null, 0, 0, [], 13), (13, 4, .null, 4, 0, [], 15), (15, 1, .null, 4, 0, [], 17), (17, 1, .null, 3, 0, [], 18), (18, 32, .null, 4, 49, [], 21), (21, 2, .null, 1, 0, [], 22), (22, 2, .null, 1, 0, [], 23), (23, 1, .null, 4, 0, [], 25),
  (25, 52, .ref 0, 13, 1, [], 28), (28, 52, .ref 0, 17, 1, [], 31), (31, 1, .null, 2, 0, [], 32), (32, 32, .null, 4, 43, [], 35), (35, 2, .null, 0, 0, [], 36), (36, 2, .null, 1, 0, [], 37), (37, 1, .null, 2, 0, [], 38), (38, 1, .null, 4, 0, [], 40),
  (40, 52, .ref 3, 19, 3, [], 43), (43, 6, .int 1, 4, 0, [], 46), (46, 9, .null, 0, 0, [], 15), (49, 50, .null, 0, 0, [], 49)]
def mtX3_tryAllBehind : axM := (⟨"BeatSlugs$SwapSearch", "tryAllBehind", "(LBeatSlugs$Board;I)V"⟩, prog_5_method_7_code, 5, none, 3, false, cdX3_tryAllBehind)
abbrev kX3_tryAllBehind : Nat := 15
set_option maxRecDepth 100000 in
theorem ckX3_tryAllBehind : axCk 3 false 0 prog_5_method_7_code cdX3_tryAllBehind = true := by decide +kernel
def cdX0_highestPlace : List axE := [
  (0, 0, .int 0, 0, 0, [], 1), (1, 4, .null, 2, 0, [], 2), (2, 1, .null, 2, 0, [], 3), (3, 2, .null, 0, 0, [], 4), (4, 36, .null, 0, 8, [], 7), (7, 32, .null, 3, 42, [], 10), (10, 2, .null, 0, 0, [], 11), (11, 36, .null, 0, 5, [], 14),
  (14, 2, .null, 0, 0, [], 15), (15, 36, .null, 0, 2, [], 18), (18, 1, .null, 2, 0, [], 19), (19, 53, .null, 9, 2, [], 22), (22, 53, .null, 9, 2, [], 25), (25, 1, .null, 1, 0, [], 26), (26, 53, .null, 10, 2, [], 29), (29, 33, .null, 0, 36, [], 32),
  (32, 1, .null, 2, 0, [], 33), (33, 0, .int 1, 0, 0, [], 34), (34, 12, .null, 0, 0, [], 35), (35, 49, .null, 0, 0, [], 35), (36, 6, .int 1, 2, 0, [], 39), (39, 9, .null, 0, 0, [], 2), (42, 2, .null, 0, 0, [], 43), (43, 36, .null, 0, 8, [], 46),
  (46, 0, .int 1, 0, 0, [], 47), (47, 12, .null, 0, 0, [], 48), (48, 49, .null, 0, 0, [], 48)]
def mtX0_highestPlace : axM := (⟨"BeatSlugs$Board", "highestPlace", "(I)I"⟩, prog_2_method_38_code, 3, (some .int), 0, false, cdX0_highestPlace)
abbrev kX0_highestPlace : Nat := 16
set_option maxRecDepth 100000 in
theorem ckX0_highestPlace : axCk 0 false 0 prog_2_method_38_code cdX0_highestPlace = true := by decide +kernel
def cdX0_lowestPlace : List axE := [
  (0, 2, .null, 0, 0, [], 1), (1, 1, .null, 1, 0, [], 2), (2, 52, .ref 0, 18, 1, [], 5), (5, 4, .null, 2, 0, [], 6), (6, 2, .null, 0, 0, [], 7), (7, 36, .null, 0, 8, [], 10), (10, 0, .int 1, 0, 0, [], 11), (11, 12, .null, 0, 0, [], 12),
  (12, 4, .null, 3, 0, [], 13), (13, 1, .null, 3, 0, [], 14), (14, 33, .null, 2, 42, [], 17), (17, 1, .null, 2, 0, [], 18), (18, 2, .null, 0, 0, [], 19), (19, 36, .null, 0, 2, [], 22), (22, 1, .null, 3, 0, [], 23), (23, 53, .null, 9, 2, [], 26),
  (26, 53, .null, 10, 2, [], 29), (29, 33, .null, 0, 36, [], 32), (32, 1, .null, 3, 0, [], 33), (33, 0, .int 1, 0, 0, [], 34), (34, 11, .null, 0, 0, [], 35), (35, 49, .null, 0, 0, [], 35), (36, 6, .int (-1), 3, 0, [], 39), (39, 9, .null, 0, 0, [], 13),
  (42, 0, .int 0, 0, 0, [], 43), (43, 49, .null, 0, 0, [], 43)]
def mtX0_lowestPlace : axM := (⟨"BeatSlugs$Board", "lowestPlace", "(I)I"⟩, prog_2_method_37_code, 4, (some .int), 0, false, cdX0_lowestPlace)
abbrev kX0_lowestPlace : Nat := 17
set_option maxRecDepth 100000 in
theorem ckX0_lowestPlace : axCk 0 false 0 prog_2_method_37_code cdX0_lowestPlace = true := by decide +kernel
def cdX0_needsOf : List axE := [
  (0, 2, .null, 0, 0, [], 1), (1, 36, .null, 0, 5, [], 4), (4, 1, .null, 1, 0, [], 5), (5, 53, .null, 9, 2, [], 8), (8, 49, .null, 0, 0, [], 8)]
def mtX0_needsOf : axM := (⟨"BeatSlugs$Board", "needsOf", "(I)I"⟩, prog_2_method_34_code, 2, (some .int), 0, false, cdX0_needsOf)
abbrev kX0_needsOf : Nat := 18
set_option maxRecDepth 100000 in
theorem ckX0_needsOf : axCk 0 false 0 prog_2_method_34_code cdX0_needsOf = true := by decide +kernel
def cdX3_tryOne : List axE := [
  (0, 2, .null, 0, 0, [], 1), (1, 1, .null, 2, 0, [], 2), (2, 1, .null, 3, 0, [], 3), (3, 52, .ref 3, 20, 2, [], 6), (6, 2, .null, 1, 0, [], 7), (7, 2, .null, 0, 0, [], 8), (8, 36, .null, 3, 0, [], 11), (11, 2, .null, 1, 0, [], 12),
  (12, 52, .ref 0, 21, 0, [], 15), (15, 52, .ref 0, 8, 2, [], 18), (18, 4, .null, 4, 0, [], 20), (20, 2, .null, 0, 0, [], 21), (21, 1, .null, 2, 0, [], 22), (22, 1, .null, 3, 0, [], 23), (23, 52, .ref 3, 20, 2, [], 26), (26, 1, .null, 4, 0, [], 28),
  (28, 2, .null, 0, 0, [], 29), (29, 36, .null, 3, 3, [], 32), (32, 32, .null, 3, 51, [], 35), (35, 2, .null, 0, 0, [], 36), (36, 1, .null, 4, 0, [], 38), (38, 37, .null, 3, 3, [], 41), (41, 2, .null, 0, 0, [], 42), (42, 1, .null, 2, 0, [], 43),
  (43, 37, .null, 3, 1, [], 46), (46, 2, .null, 0, 0, [], 47), (47, 1, .null, 3, 0, [], 48), (48, 37, .null, 3, 2, [], 51), (51, 50, .null, 0, 0, [], 51)]
def mtX3_tryOne : axM := (⟨"BeatSlugs$SwapSearch", "tryOne", "(LBeatSlugs$Board;II)V"⟩, prog_5_method_8_code, 5, none, 3, false, cdX3_tryOne)
abbrev kX3_tryOne : Nat := 19
set_option maxRecDepth 100000 in
theorem ckX3_tryOne : axCk 3 false 0 prog_5_method_8_code cdX3_tryOne = true := by decide +kernel
def cdX3_exchange : List axE := [
  (0, 2, .null, 0, 0, [], 1), (1, 36, .null, 3, 0, [], 4), (4, 1, .null, 1, 0, [], 5), (5, 53, .null, 9, 2, [], 8), (8, 4, .null, 3, 0, [], 9), (9, 2, .null, 0, 0, [], 10), (10, 36, .null, 3, 0, [], 13), (13, 1, .null, 1, 0, [], 14),
  (14, 2, .null, 0, 0, [], 15), (15, 36, .null, 3, 0, [], 18), (18, 1, .null, 2, 0, [], 19), (19, 53, .null, 9, 2, [], 22), (22, 53, .null, 14, 3, [], 25), (25, 2, .null, 0, 0, [], 26), (26, 36, .null, 3, 0, [], 29), (29, 1, .null, 2, 0, [], 30),
  (30, 1, .null, 3, 0, [], 31), (31, 53, .null, 14, 3, [], 34), (34, 50, .null, 0, 0, [], 34)]
def mtX3_exchange : axM := (⟨"BeatSlugs$SwapSearch", "exchange", "(II)V"⟩, prog_5_method_9_code, 4, none, 3, false, cdX3_exchange)
abbrev kX3_exchange : Nat := 20
set_option maxRecDepth 100000 in
theorem ckX3_exchange : axCk 3 false 0 prog_5_method_9_code cdX3_exchange = true := by decide +kernel
def cdX0_allTurns : List axE := [
  (0, 2, .null, 0, 0, [], 1), (1, 36, .null, 0, 7, [], 4), (4, 49, .null, 0, 0, [], 4)]
def mtX0_allTurns : axM := (⟨"BeatSlugs$Board", "allTurns", "()I"⟩, prog_2_method_25_code, 1, (some .int), 0, false, cdX0_allTurns)
abbrev kX0_allTurns : Nat := 21
set_option maxRecDepth 100000 in
theorem ckX0_allTurns : axCk 0 false 0 prog_2_method_25_code cdX0_allTurns = true := by decide +kernel
def cdX3_isFound : List axE := [
  (0, 2, .null, 0, 0, [], 1), (1, 36, .null, 3, 1, [], 4), (4, 2, .null, 0, 0, [], 5), (5, 36, .null, 3, 2, [], 8), (8, 32, .null, 3, 15, [], 11), (11, 0, .int 1, 0, 0, [], 12), (12, 9, .null, 0, 0, [], 16), (15, 0, .int 0, 0, 0, [], 16),
  (16, 49, .null, 2, 0, [], 16)]
def mtX3_isFound : axM := (⟨"BeatSlugs$SwapSearch", "isFound", "()Z"⟩, prog_5_method_2_code, 1, (some .boolean), 3, false, cdX3_isFound)
abbrev kX3_isFound : Nat := 22
set_option maxRecDepth 100000 in
theorem ckX3_isFound : axCk 3 false 2 prog_5_method_2_code cdX3_isFound = true := by decide +kernel
def cdX3_lowerPlace : List axE := [
  (0, 2, .null, 0, 0, [], 1), (1, 36, .null, 3, 1, [], 4), (4, 49, .null, 0, 0, [], 4)]
def mtX3_lowerPlace : axM := (⟨"BeatSlugs$SwapSearch", "lowerPlace", "()I"⟩, prog_5_method_3_code, 1, (some .int), 3, false, cdX3_lowerPlace)
abbrev kX3_lowerPlace : Nat := 23
set_option maxRecDepth 100000 in
theorem ckX3_lowerPlace : axCk 3 false 0 prog_5_method_3_code cdX3_lowerPlace = true := by decide +kernel
def cdX3_higherPlace : List axE := [
  (0, 2, .null, 0, 0, [], 1), (1, 36, .null, 3, 2, [], 4), (4, 49, .null, 0, 0, [], 4)]
def mtX3_higherPlace : axM := (⟨"BeatSlugs$SwapSearch", "higherPlace", "()I"⟩, prog_5_method_4_code, 1, (some .int), 3, false, cdX3_higherPlace)
abbrev kX3_higherPlace : Nat := 24
set_option maxRecDepth 100000 in
theorem ckX3_higherPlace : axCk 3 false 0 prog_5_method_4_code cdX3_higherPlace = true := by decide +kernel
def cdX3_leastOff : List axE := [
  (0, 2, .null, 0, 0, [], 1), (1, 36, .null, 3, 3, [], 4), (4, 49, .null, 0, 0, [], 4)]
def mtX3_leastOff : axM := (⟨"BeatSlugs$SwapSearch", "leastOff", "()I"⟩, prog_5_method_5_code, 1, (some .int), 3, false, cdX3_leastOff)
abbrev kX3_leastOff : Nat := 25
set_option maxRecDepth 100000 in
theorem ckX3_leastOff : axCk 3 false 0 prog_5_method_5_code cdX3_leastOff = true := by decide +kernel
def cdX4_ifFitted : List axE := [
  (0, 2, .null, 0, 0, [], 1), (1, 36, .null, 4, 0, [], 4), (4, 1, .null, 1, 0, [], 5), (5, 52, .ref 0, 27, 1, [], 8), (8, 49, .null, 0, 0, [], 8)]
def mtX4_ifFitted : axM := (⟨"BeatSlugs", "ifFitted", "(I)I"⟩, prog_1_method_21_code, 2, (some .int), 4, false, cdX4_ifFitted)
abbrev kX4_ifFitted : Nat := 26
set_option maxRecDepth 100000 in
theorem ckX4_ifFitted : axCk 4 false 0 prog_1_method_21_code cdX4_ifFitted = true := by decide +kernel
def cdX0_cutOf : List axE := [
  (0, 2, .null, 0, 0, [], 1), (1, 1, .null, 1, 0, [], 2), (2, 52, .ref 0, 28, 1, [], 5), (5, 33, .null, 1, 10, [], 8), (8, 0, .int (-1), 0, 0, [], 9), (9, 49, .null, 0, 0, [], 9), (10, 0, .int 0, 0, 0, [], 11), (11, 2, .null, 0, 0, [], 12),
  (12, 1, .null, 1, 0, [], 13), (13, 52, .ref 0, 31, 1, [], 16), (16, 57, .null, 0, 0, [], 19), (19, 4, .null, 2, 0, [], 20), (20, 1, .null, 2, 0, [], 21), (21, 2, .null, 0, 0, [], 22), (22, 2, .null, 0, 0, [], 23), (23, 1, .null, 1, 0, [], 24),
  (24, 52, .ref 0, 32, 1, [], 27), (27, 2, .null, 0, 0, [], 28), (28, 1, .null, 1, 0, [], 29), (29, 0, .int 1, 0, 0, [], 30), (30, 11, .null, 0, 0, [], 31), (31, 52, .ref 0, 32, 1, [], 34), (34, 52, .ref 0, 34, 2, [], 37), (37, 58, .null, 0, 0, [], 40),
  (40, 4, .null, 3, 0, [], 41), (41, 1, .null, 2, 0, [], 42), (42, 1, .null, 3, 0, [], 43), (43, 12, .null, 0, 0, [], 44), (44, 2, .null, 0, 0, [], 45), (45, 0, .int 1, 0, 0, [], 46), (46, 52, .ref 0, 36, 1, [], 49), (49, 32, .null, 5, 57, [], 52),
  (52, 0, .int (-5), 0, 0, [], 54), (54, 9, .null, 0, 0, [], 58), (57, 1, .null, 3, 0, [], 58), (58, 49, .null, 0, 0, [], 58)]
def mtX0_cutOf : axM := (⟨"BeatSlugs$Board", "cutOf", "(I)I"⟩, prog_2_method_53_code, 4, (some .int), 0, false, cdX0_cutOf)
abbrev kX0_cutOf : Nat := 27
set_option maxRecDepth 100000 in
theorem ckX0_cutOf : axCk 0 false 0 prog_2_method_53_code cdX0_cutOf = true := by decide +kernel
def cdX0_hasAct : List axE := [
  (0, 1, .null, 1, 0, [], 1), (1, 33, .null, 2, 16, [], 4), (4, 1, .null, 1, 0, [], 5), (5, 2, .null, 0, 0, [], 6), (6, 52, .ref 0, 29, 0, [], 9), (9, 32, .null, 3, 16, [], 12), (12, 0, .int 1, 0, 0, [], 13), (13, 9, .null, 0, 0, [], 17),
  (16, 0, .int 0, 0, 0, [], 17), (17, 49, .null, 2, 0, [], 17)]
def mtX0_hasAct : axM := (⟨"BeatSlugs$Board", "hasAct", "(I)Z"⟩, prog_2_method_46_code, 2, (some .boolean), 0, false, cdX0_hasAct)
abbrev kX0_hasAct : Nat := 28
set_option maxRecDepth 100000 in
theorem ckX0_hasAct : axCk 0 false 2 prog_2_method_46_code cdX0_hasAct = true := by decide +kernel
def cdX0_actCount : List axE := [
  (0, 2, .null, 0, 0, [], 1), (1, 36, .null, 0, 8, [], 4), (4, 33, .null, 5, 34, [], 7), (7, 2, .null, 0, 0, [], 8), (8, 36, .null, 0, 7, [], 11), (11, 2, .null, 0, 0, [], 12), (12, 36, .null, 0, 2, [], 15), (15, 2, .null, 0, 0, [], 16),
  (16, 36, .null, 0, 8, [], 19), (19, 0, .int 1, 0, 0, [], 20), (20, 12, .null, 0, 0, [], 21), (21, 53, .null, 9, 2, [], 24), (24, 53, .null, 10, 2, [], 27), (27, 33, .null, 1, 34, [], 30), (30, 0, .int 1, 0, 0, [], 31), (31, 9, .null, 0, 0, [], 35),
  (34, 0, .int 0, 0, 0, [], 35), (35, 4, .null, 1, 0, [], 36), (36, 2, .null, 0, 0, [], 37), (37, 36, .null, 0, 7, [], 40), (40, 53, .null, 30, 1, [], 43), (43, 1, .null, 1, 0, [], 44), (44, 33, .null, 0, 51, [], 47), (47, 0, .int 1, 0, 0, [], 48),
  (48, 9, .null, 0, 0, [], 52), (51, 0, .int 0, 0, 0, [], 52), (52, 11, .null, 0, 0, [], 53), (53, 49, .null, 0, 0, [], 53)]
def mtX0_actCount : axM := (⟨"BeatSlugs$Board", "actCount", "()I"⟩, prog_2_method_45_code, 2, (some .int), 0, false, cdX0_actCount)
abbrev kX0_actCount : Nat := 29
set_option maxRecDepth 100000 in
theorem ckX0_actCount : axCk 0 false 0 prog_2_method_45_code cdX0_actCount = true := by decide +kernel
def cdJ_bitCount : List axE := [
  (0, 1, .null, 0, 0, [], 1), (1, 1, .null, 0, 0, [], 2), (2, 0, .int 1, 0, 0, [], 3), (3, 19, .null, 0, 0, [], 4), (4, 0, .int 1431655765, 0, 0, [], 7), (7, 14, .null, 0, 0, [], 8), (8, 12, .null, 0, 0, [], 9), (9, 4, .null, 0, 0, [], 10),
  (10, 1, .null, 0, 0, [], 11), (11, 0, .int 858993459, 0, 0, [], 14), (14, 14, .null, 0, 0, [], 15), (15, 1, .null, 0, 0, [], 16), (16, 0, .int 2, 0, 0, [], 17), (17, 19, .null, 0, 0, [], 18), (18, 0, .int 858993459, 0, 0, [], 21), (21, 14, .null, 0, 0, [], 22),
  (22, 11, .null, 0, 0, [], 23), (23, 4, .null, 0, 0, [], 24), (24, 1, .null, 0, 0, [], 25), (25, 1, .null, 0, 0, [], 26), (26, 0, .int 4, 0, 0, [], 27), (27, 19, .null, 0, 0, [], 28), (28, 11, .null, 0, 0, [], 29), (29, 0, .int 252645135, 0, 0, [], 32),
  (32, 14, .null, 0, 0, [], 33), (33, 4, .null, 0, 0, [], 34), (34, 1, .null, 0, 0, [], 35), (35, 1, .null, 0, 0, [], 36), (36, 0, .int 8, 0, 0, [], 38), (38, 19, .null, 0, 0, [], 39), (39, 11, .null, 0, 0, [], 40), (40, 4, .null, 0, 0, [], 41),
  (41, 1, .null, 0, 0, [], 42), (42, 1, .null, 0, 0, [], 43), (43, 0, .int 16, 0, 0, [], 45), (45, 19, .null, 0, 0, [], 46), (46, 11, .null, 0, 0, [], 47), (47, 4, .null, 0, 0, [], 48), (48, 1, .null, 0, 0, [], 49), (49, 0, .int 63, 0, 0, [], 51),
  (51, 14, .null, 0, 0, [], 52), (52, 49, .null, 0, 0, [], 52)]
def mtJ_bitCount : axM := (⟨"java/lang/Integer", "bitCount", "(I)I"⟩, prog_8_method_49_code, 1, (some .int), 7, false, cdJ_bitCount)
abbrev kJ_bitCount : Nat := 30
set_option maxRecDepth 100000 in
theorem ckJ_bitCount : axCk 7 false 0 prog_8_method_49_code cdJ_bitCount = true := by decide +kernel
def cdX0_offOf : List axE := [
  (0, 2, .null, 0, 0, [], 1), (1, 2, .null, 0, 0, [], 2), (2, 1, .null, 1, 0, [], 3), (3, 52, .ref 0, 32, 1, [], 6), (6, 2, .null, 0, 0, [], 7), (7, 1, .null, 1, 0, [], 8), (8, 0, .int 1, 0, 0, [], 9), (9, 11, .null, 0, 0, [], 10),
  (10, 52, .ref 0, 32, 1, [], 13), (13, 52, .ref 0, 33, 2, [], 16), (16, 2, .null, 0, 0, [], 17), (17, 1, .null, 1, 0, [], 18), (18, 52, .ref 0, 11, 1, [], 21), (21, 12, .null, 0, 0, [], 22), (22, 49, .null, 0, 0, [], 22)]
def mtX0_offOf : axM := (⟨"BeatSlugs$Board", "offOf", "(I)I"⟩, prog_2_method_49_code, 2, (some .int), 0, false, cdX0_offOf)
abbrev kX0_offOf : Nat := 31
set_option maxRecDepth 100000 in
theorem ckX0_offOf : axCk 0 false 0 prog_2_method_49_code cdX0_offOf = true := by decide +kernel
def cdX0_startOf : List axE := [
  (0, 0, .int 0, 0, 0, [], 1), (1, 4, .null, 2, 0, [], 2), (2, 1, .null, 1, 0, [], 3), (3, 4, .null, 3, 0, [], 4), (4, 1, .null, 2, 0, [], 5), (5, 2, .null, 0, 0, [], 6), (6, 36, .null, 0, 8, [], 9), (9, 32, .null, 3, 43, [], 12),
  (12, 1, .null, 3, 0, [], 13), (13, 33, .null, 5, 43, [], 16), (16, 2, .null, 0, 0, [], 17), (17, 36, .null, 0, 7, [], 20), (20, 2, .null, 0, 0, [], 21), (21, 36, .null, 0, 2, [], 24), (24, 1, .null, 2, 0, [], 25), (25, 53, .null, 9, 2, [], 28),
  (28, 53, .null, 10, 2, [], 31), (31, 33, .null, 0, 37, [], 34), (34, 6, .int (-1), 3, 0, [], 37), (37, 6, .int 1, 2, 0, [], 40), (40, 9, .null, 0, 0, [], 4), (43, 1, .null, 2, 0, [], 44), (44, 49, .null, 0, 0, [], 44)]
def mtX0_startOf : axM := (⟨"BeatSlugs$Board", "startOf", "(I)I"⟩, prog_2_method_47_code, 4, (some .int), 0, false, cdX0_startOf)
abbrev kX0_startOf : Nat := 32
set_option maxRecDepth 100000 in
theorem ckX0_startOf : axCk 0 false 0 prog_2_method_47_code cdX0_startOf = true := by decide +kernel
def cdX0_beatsIn : List axE := [
  (0, 0, .int 0, 0, 0, [], 1), (1, 4, .null, 3, 0, [], 2), (2, 1, .null, 1, 0, [], 3), (3, 4, .null, 4, 0, [], 5), (5, 1, .null, 4, 0, [], 7), (7, 1, .null, 2, 0, [], 8), (8, 32, .null, 3, 36, [], 11), (11, 1, .null, 3, 0, [], 12),
  (12, 2, .null, 0, 0, [], 13), (13, 36, .null, 0, 4, [], 16), (16, 2, .null, 0, 0, [], 17), (17, 36, .null, 0, 2, [], 20), (20, 1, .null, 4, 0, [], 22), (22, 53, .null, 9, 2, [], 25), (25, 53, .null, 9, 2, [], 28), (28, 11, .null, 0, 0, [], 29),
  (29, 4, .null, 3, 0, [], 30), (30, 6, .int 1, 4, 0, [], 33), (33, 9, .null, 0, 0, [], 5), (36, 1, .null, 3, 0, [], 37), (37, 49, .null, 0, 0, [], 37)]
def mtX0_beatsIn : axM := (⟨"BeatSlugs$Board", "beatsIn", "(II)I"⟩, prog_2_method_40_code, 5, (some .int), 0, false, cdX0_beatsIn)
abbrev kX0_beatsIn : Nat := 33
set_option maxRecDepth 100000 in
theorem ckX0_beatsIn : axCk 0 false 0 prog_2_method_40_code cdX0_beatsIn = true := by decide +kernel
def cdX0_roomIn : List axE := [
  (0, 0, .int 0, 0, 0, [], 1), (1, 4, .null, 3, 0, [], 2), (2, 1, .null, 1, 0, [], 3), (3, 4, .null, 4, 0, [], 5), (5, 1, .null, 4, 0, [], 7), (7, 1, .null, 2, 0, [], 8), (8, 32, .null, 3, 33, [], 11), (11, 1, .null, 3, 0, [], 12),
  (12, 2, .null, 0, 0, [], 13), (13, 2, .null, 0, 0, [], 14), (14, 36, .null, 0, 2, [], 17), (17, 1, .null, 4, 0, [], 19), (19, 53, .null, 9, 2, [], 22), (22, 52, .ref 0, 35, 1, [], 25), (25, 11, .null, 0, 0, [], 26), (26, 4, .null, 3, 0, [], 27),
  (27, 6, .int 1, 4, 0, [], 30), (30, 9, .null, 0, 0, [], 5), (33, 1, .null, 3, 0, [], 34), (34, 49, .null, 0, 0, [], 34)]
def mtX0_roomIn : axM := (⟨"BeatSlugs$Board", "roomIn", "(II)I"⟩, prog_2_method_42_code, 5, (some .int), 0, false, cdX0_roomIn)
abbrev kX0_roomIn : Nat := 34
set_option maxRecDepth 100000 in
theorem ckX0_roomIn : axCk 0 false 0 prog_2_method_42_code cdX0_roomIn = true := by decide +kernel
def cdX0_roomOf : List axE := [
  (0, 2, .null, 0, 0, [], 1), (1, 36, .null, 0, 3, [], 4), (4, 1, .null, 1, 0, [], 5), (5, 53, .null, 9, 2, [], 8), (8, 4, .null, 2, 0, [], 9), (9, 0, .int 1, 0, 0, [], 10), (10, 1, .null, 2, 0, [], 11), (11, 1, .null, 2, 0, [], 12),
  (12, 2, .null, 0, 0, [], 13), (13, 36, .null, 0, 0, [], 16), (16, 0, .int 2, 0, 0, [], 17), (17, 53, .null, 9, 2, [], 20), (20, 13, .null, 0, 0, [], 21), (21, 0, .int 100, 0, 0, [], 23), (23, 47, .null, 0, 0, [], 24), (24, 12, .null, 0, 0, [], 25),
  (25, 57, .null, 0, 0, [], 28), (28, 4, .null, 3, 0, [], 29), (29, 0, .int 0, 0, 0, [], 30), (30, 2, .null, 0, 0, [], 31), (31, 36, .null, 0, 4, [], 34), (34, 1, .null, 1, 0, [], 35), (35, 53, .null, 9, 2, [], 38), (38, 1, .null, 3, 0, [], 39),
  (39, 12, .null, 0, 0, [], 40), (40, 57, .null, 0, 0, [], 43), (43, 49, .null, 0, 0, [], 43)]
def mtX0_roomOf : axM := (⟨"BeatSlugs$Board", "roomOf", "(I)I"⟩, prog_2_method_32_code, 4, (some .int), 0, false, cdX0_roomOf)
abbrev kX0_roomOf : Nat := 35
set_option maxRecDepth 100000 in
theorem ckX0_roomOf : axCk 0 false 0 prog_2_method_32_code cdX0_roomOf = true := by decide +kernel
def cdX0_settingOf : List axE := [
  (0, 2, .null, 0, 0, [], 1), (1, 36, .null, 0, 0, [], 4), (4, 1, .null, 1, 0, [], 5), (5, 53, .null, 9, 2, [], 8), (8, 49, .null, 0, 0, [], 8)]
def mtX0_settingOf : axM := (⟨"BeatSlugs$Board", "settingOf", "(I)I"⟩, prog_2_method_21_code, 2, (some .int), 0, false, cdX0_settingOf)
abbrev kX0_settingOf : Nat := 36
set_option maxRecDepth 100000 in
theorem ckX0_settingOf : axCk 0 false 0 prog_2_method_21_code cdX0_settingOf = true := by decide +kernel
def cdL_cell : List axE := [
  (0, 1, .null, 1, 0, [], 1), (1, 2, .null, 0, 0, [], 2), (2, 39, .null, 0, 0, [], 3), (3, 32, .null, 3, 12, [], 6), (6, 2, .null, 0, 0, [], 7), (7, 1, .null, 1, 0, [], 8), (8, 40, .null, 0, 0, [], 9), (9, 9, .null, 0, 0, [], 21),
  (12, 0, .int 834001351, 0, 0, [], 14), (14, 1, .null, 1, 0, [], 15), (15, 0, .int 5, 0, 0, [], 16), (16, 11, .null, 0, 0, [], 17), (17, 13, .null, 0, 0, [], 18), (18, 0, .int 782758355, 0, 0, [], 20), (20, 11, .null, 0, 0, [], 21), (21, 49, .null, 0, 0, [], 21)]
def mtL_cell : axM := (⟨"BeatSlugsLaw", "cell", "([II)I"⟩, method_2_code, 2, (some .int), 6, false, cdL_cell)
abbrev kL_cell : Nat := 37
set_option maxRecDepth 100000 in
theorem ckL_cell : axCk 6 false 0 method_2_code cdL_cell = true := by decide +kernel
def cdL_holds0 : List axE := [
  (0, 2, .null, 0, 0, [], 1), (1, 53, .null, 39, 1, [], 4), (4, 4, .null, 1, 0, [], 5), (5, 0, .int 0, 0, 0, [], 6), (6, 4, .null, 2, 0, [], 7), (7, 0, .int 0, 0, 0, [], 8), (8, 4, .null, 3, 0, [], 9), (9, 0, .int 0, 0, 0, [], 10),
  (10, 4, .null, 4, 0, [], 12), (12, 0, .int 0, 0, 0, [], 13), (13, 4, .null, 5, 0, [], 15), (15, 0, .int 0, 0, 0, [], 16), (16, 4, .null, 6, 0, [], 18), (18, 0, .int 0, 0, 0, [], 19), (19, 4, .null, 7, 0, [], 21), (21, 0, .int 0, 0, 0, [], 22),
  (22, 4, .null, 8, 0, [], 24), (24, 0, .int 0, 0, 0, [], 25), (25, 4, .null, 9, 0, [], 27), (27, 1, .null, 9, 0, [], 29), (29, 1, .null, 1, 0, [], 30), (30, 32, .null, 3, 330, [], 33), (33, 2, .null, 0, 0, [], 34), (34, 1, .null, 9, 0, [], 36),
  (36, 52, .ref 4, 40, 1, [], 39), (39, 4, .null, 10, 0, [], 41), (41, 2, .null, 0, 0, [], 42), (42, 1, .null, 10, 0, [], 44), (44, 0, .int 8, 0, 0, [], 46), (46, 52, .ref 4, 41, 2, [], 49), (49, 4, .null, 11, 0, [], 51), (51, 2, .null, 0, 0, [], 52),
  (52, 1, .null, 10, 0, [], 54), (54, 52, .ref 4, 51, 1, [], 57), (57, 4, .null, 12, 0, [], 59), (59, 1, .null, 2, 0, [], 60), (60, 1, .null, 10, 0, [], 62), (62, 18, .null, 0, 0, [], 63), (63, 0, .int 1, 0, 0, [], 64), (64, 14, .null, 0, 0, [], 65),
  (65, 33, .null, 1, 212, [], 68), (68, 2, .null, 0, 0, [], 69), (69, 1, .null, 10, 0, [], 71), (71, 0, .int 0, 0, 0, [], 72)]
set_option maxRecDepth 100000 in
theorem ckL_holds0 : axCk 6 false 2 method_5_code cdL_holds0 = true := by decide +kernel
def cdL_holds1 : List axE := [
  (72, 52, .ref 4, 41, 2, [], 75), (75, 1, .null, 9, 0, [], 77), (77, 32, .null, 1, 212, [], 80), (80, 2, .null, 0, 0, [], 81), (81, 1, .null, 10, 0, [], 83), (83, 0, .int 2, 0, 0, [], 84), (84, 52, .ref 4, 41, 2, [], 87), (87, 0, .int 1, 0, 0, [], 88),
  (88, 32, .null, 2, 212, [], 91), (91, 2, .null, 0, 0, [], 92), (92, 1, .null, 10, 0, [], 94), (94, 0, .int 2, 0, 0, [], 95), (95, 52, .ref 4, 41, 2, [], 98), (98, 2, .null, 0, 0, [], 99), (99, 1, .null, 10, 0, [], 101), (101, 0, .int 1, 0, 0, [], 102),
  (102, 52, .ref 4, 41, 2, [], 105), (105, 32, .null, 4, 212, [], 108), (108, 2, .null, 0, 0, [], 109), (109, 1, .null, 10, 0, [], 111), (111, 0, .int 4, 0, 0, [], 112), (112, 52, .ref 4, 41, 2, [], 115), (115, 1, .null, 2, 0, [], 116), (116, 0, .int (-1), 0, 0, [], 117),
  (117, 16, .null, 0, 0, [], 118), (118, 14, .null, 0, 0, [], 119), (119, 33, .null, 1, 212, [], 122), (122, 2, .null, 0, 0, [], 123), (123, 1, .null, 10, 0, [], 125), (125, 0, .int 4, 0, 0, [], 126), (126, 52, .ref 4, 41, 2, [], 129), (129, 1, .null, 12, 0, [], 131),
  (131, 0, .int (-1), 0, 0, [], 132), (132, 16, .null, 0, 0, [], 133), (133, 14, .null, 0, 0, [], 134), (134, 33, .null, 1, 212, [], 137), (137, 1, .null, 12, 0, [], 139), (139, 1, .null, 2, 0, [], 140), (140, 0, .int (-1), 0, 0, [], 141), (141, 16, .null, 0, 0, [], 142),
  (142, 14, .null, 0, 0, [], 143), (143, 33, .null, 1, 212, [], 146), (146, 2, .null, 0, 0, [], 147), (147, 1, .null, 10, 0, [], 149)]
set_option maxRecDepth 100000 in
theorem ckL_holds1 : axCk 6 false 2 method_5_code cdL_holds1 = true := by decide +kernel
def cdL_holds2 : List axE := [
  (149, 0, .int 6, 0, 0, [], 151), (151, 52, .ref 4, 41, 2, [], 154), (154, 1, .null, 3, 0, [], 155), (155, 32, .null, 1, 212, [], 158), (158, 2, .null, 0, 0, [], 159), (159, 1, .null, 3, 0, [], 160), (160, 52, .ref 4, 53, 1, [], 163), (163, 1, .null, 10, 0, [], 165),
  (165, 32, .null, 1, 212, [], 168), (168, 1, .null, 11, 0, [], 170), (170, 1, .null, 4, 0, [], 172), (172, 32, .null, 1, 212, [], 175), (175, 2, .null, 0, 0, [], 176), (176, 1, .null, 10, 0, [], 178), (178, 0, .int 9, 0, 0, [], 180), (180, 52, .ref 4, 41, 2, [], 183),
  (183, 2, .null, 0, 0, [], 184), (184, 1, .null, 10, 0, [], 186), (186, 0, .int 2, 0, 0, [], 187), (187, 52, .ref 4, 41, 2, [], 190), (190, 32, .null, 3, 212, [], 193), (193, 2, .null, 0, 0, [], 194), (194, 1, .null, 10, 0, [], 196), (196, 52, .ref 4, 55, 1, [], 199),
  (199, 1, .null, 9, 0, [], 201), (201, 18, .null, 0, 0, [], 202), (202, 0, .int 1, 0, 0, [], 203), (203, 14, .null, 0, 0, [], 204), (204, 0, .int 1, 0, 0, [], 205), (205, 32, .null, 1, 212, [], 208), (208, 0, .int 1, 0, 0, [], 209), (209, 9, .null, 0, 0, [], 213),
  (212, 0, .int 0, 0, 0, [], 213), (213, 4, .null, 13, 0, [], 215), (215, 0, .int 0, 0, 0, [], 216), (216, 4, .null, 14, 0, [], 218), (218, 1, .null, 14, 0, [], 220), (220, 0, .int 24, 0, 0, [], 222), (222, 32, .null, 3, 288, [], 225), (225, 1, .null, 13, 0, [], 227),
  (227, 33, .null, 0, 288, [], 230), (230, 2, .null, 0, 0, [], 231), (231, 1, .null, 10, 0, [], 233), (233, 0, .int 4, 0, 0, [], 234)]
set_option maxRecDepth 100000 in
theorem ckL_holds2 : axCk 6 false 2 method_5_code cdL_holds2 = true := by decide +kernel
def cdL_holds3 : List axE := [
  (234, 52, .ref 4, 41, 2, [], 237), (237, 1, .null, 14, 0, [], 239), (239, 18, .null, 0, 0, [], 240), (240, 0, .int 1, 0, 0, [], 241), (241, 14, .null, 0, 0, [], 242), (242, 33, .null, 0, 275, [], 245), (245, 2, .null, 0, 0, [], 246), (246, 1, .null, 14, 0, [], 248),
  (248, 0, .int 5, 0, 0, [], 249), (249, 52, .ref 4, 41, 2, [], 252), (252, 1, .null, 10, 0, [], 254), (254, 18, .null, 0, 0, [], 255), (255, 0, .int 1, 0, 0, [], 256), (256, 14, .null, 0, 0, [], 257), (257, 0, .int 1, 0, 0, [], 258), (258, 32, .null, 1, 279, [], 261),
  (261, 2, .null, 0, 0, [], 262), (262, 1, .null, 14, 0, [], 264), (264, 52, .ref 4, 51, 1, [], 267), (267, 1, .null, 12, 0, [], 269), (269, 0, .int (-1), 0, 0, [], 270), (270, 16, .null, 0, 0, [], 271), (271, 14, .null, 0, 0, [], 272), (272, 33, .null, 1, 279, [], 275),
  (275, 0, .int 1, 0, 0, [], 276), (276, 9, .null, 0, 0, [], 280), (279, 0, .int 0, 0, 0, [], 280), (280, 4, .null, 13, 0, [], 282), (282, 6, .int 1, 14, 0, [], 285), (285, 9, .null, 0, 0, [], 218), (288, 1, .null, 13, 0, [], 290), (290, 33, .null, 1, 295, [], 293),
  (293, 0, .int 0, 0, 0, [], 294), (294, 49, .null, 2, 0, [], 294), (295, 1, .null, 2, 0, [], 296), (296, 0, .int 1, 0, 0, [], 297), (297, 1, .null, 10, 0, [], 299), (299, 17, .null, 0, 0, [], 300), (300, 15, .null, 0, 0, [], 301), (301, 4, .null, 2, 0, [], 302),
  (302, 1, .null, 3, 0, [], 303), (303, 2, .null, 0, 0, [], 304), (304, 1, .null, 10, 0, [], 306), (306, 0, .int 2, 0, 0, [], 307)]
set_option maxRecDepth 100000 in
theorem ckL_holds3 : axCk 6 false 2 method_5_code cdL_holds3 = true := by decide +kernel
def cdL_holds4 : List axE := [
  (307, 52, .ref 4, 41, 2, [], 310), (310, 11, .null, 0, 0, [], 311), (311, 4, .null, 3, 0, [], 312), (312, 1, .null, 4, 0, [], 314), (314, 2, .null, 0, 0, [], 315), (315, 1, .null, 10, 0, [], 317), (317, 0, .int 3, 0, 0, [], 318), (318, 52, .ref 4, 41, 2, [], 321),
  (321, 11, .null, 0, 0, [], 322), (322, 4, .null, 4, 0, [], 324), (324, 6, .int 1, 9, 0, [], 327), (327, 9, .null, 0, 0, [], 27), (330, 2, .null, 0, 0, [], 331), (331, 0, .int 1, 0, 0, [], 332), (332, 52, .ref 4, 56, 1, [], 335), (335, 4, .null, 9, 0, [], 337),
  (337, 0, .int 0, 0, 0, [], 338), (338, 4, .null, 10, 0, [], 340), (340, 1, .null, 10, 0, [], 342), (342, 1, .null, 9, 0, [], 344), (344, 32, .null, 3, 538, [], 347), (347, 2, .null, 0, 0, [], 348), (348, 1, .null, 10, 0, [], 350), (350, 0, .int 2, 0, 0, [], 351),
  (351, 52, .ref 4, 65, 2, [], 354), (354, 0, .int 5000, 0, 0, [], 357), (357, 12, .null, 0, 0, [], 358), (358, 4, .null, 11, 0, [], 360), (360, 2, .null, 0, 0, [], 361), (361, 1, .null, 8, 0, [], 363), (363, 2, .null, 0, 0, [], 364), (364, 1, .null, 10, 0, [], 366),
  (366, 0, .int 5, 0, 0, [], 367), (367, 52, .ref 4, 65, 2, [], 370), (370, 11, .null, 0, 0, [], 371), (371, 0, .int 1, 0, 0, [], 372), (372, 12, .null, 0, 0, [], 373), (373, 52, .ref 4, 40, 1, [], 376), (376, 4, .null, 12, 0, [], 378), (378, 2, .null, 0, 0, [], 379),
  (379, 1, .null, 10, 0, [], 381), (381, 0, .int 4, 0, 0, [], 382), (382, 52, .ref 4, 65, 2, [], 385), (385, 0, .int 1, 0, 0, [], 386)]
set_option maxRecDepth 100000 in
theorem ckL_holds4 : axCk 6 false 2 method_5_code cdL_holds4 = true := by decide +kernel
def cdL_holds5 : List axE := [
  (386, 32, .null, 1, 393, [], 389), (389, 0, .int 1, 0, 0, [], 390), (390, 9, .null, 0, 0, [], 394), (393, 0, .int 0, 0, 0, [], 394), (394, 4, .null, 13, 0, [], 396), (396, 1, .null, 11, 0, [], 398), (398, 2, .null, 0, 0, [], 399), (399, 1, .null, 10, 0, [], 401),
  (401, 0, .int 0, 0, 0, [], 402), (402, 52, .ref 4, 65, 2, [], 405), (405, 2, .null, 0, 0, [], 406), (406, 1, .null, 10, 0, [], 408), (408, 0, .int 1, 0, 0, [], 409), (409, 52, .ref 4, 65, 2, [], 412), (412, 12, .null, 0, 0, [], 413), (413, 32, .null, 1, 476, [], 416),
  (416, 2, .null, 0, 0, [], 417), (417, 1, .null, 10, 0, [], 419), (419, 0, .int 6, 0, 0, [], 421), (421, 52, .ref 4, 65, 2, [], 424), (424, 1, .null, 7, 0, [], 426), (426, 32, .null, 1, 476, [], 429), (429, 1, .null, 13, 0, [], 431), (431, 2, .null, 0, 0, [], 432),
  (432, 1, .null, 12, 0, [], 434), (434, 0, .int 3, 0, 0, [], 435), (435, 52, .ref 4, 41, 2, [], 438), (438, 33, .null, 1, 445, [], 441), (441, 0, .int 1, 0, 0, [], 442), (442, 9, .null, 0, 0, [], 446), (445, 0, .int 0, 0, 0, [], 446), (446, 32, .null, 1, 476, [], 449),
  (449, 1, .null, 13, 0, [], 451), (451, 33, .null, 0, 463, [], 454), (454, 1, .null, 10, 0, [], 456), (456, 1, .null, 9, 0, [], 458), (458, 0, .int 1, 0, 0, [], 459), (459, 12, .null, 0, 0, [], 460), (460, 32, .null, 2, 476, [], 463), (463, 2, .null, 0, 0, [], 464),
  (464, 1, .null, 12, 0, [], 466), (466, 0, .int 8, 0, 0, [], 468), (468, 52, .ref 4, 41, 2, [], 471), (471, 1, .null, 10, 0, [], 473)]
set_option maxRecDepth 100000 in
theorem ckL_holds5 : axCk 6 false 2 method_5_code cdL_holds5 = true := by decide +kernel
def cdL_holds6 : List axE := [
  (473, 32, .null, 0, 478, [], 476), (476, 0, .int 0, 0, 0, [], 477), (477, 49, .null, 2, 0, [], 477), (478, 1, .null, 5, 0, [], 480), (480, 1, .null, 11, 0, [], 482), (482, 33, .null, 3, 491, [], 485), (485, 1, .null, 11, 0, [], 487), (487, 20, .null, 0, 0, [], 488),
  (488, 9, .null, 0, 0, [], 493), (491, 1, .null, 11, 0, [], 493), (493, 11, .null, 0, 0, [], 494), (494, 4, .null, 5, 0, [], 496), (496, 1, .null, 6, 0, [], 498), (498, 2, .null, 0, 0, [], 499), (499, 1, .null, 10, 0, [], 501), (501, 0, .int 3, 0, 0, [], 502),
  (502, 52, .ref 4, 65, 2, [], 505), (505, 11, .null, 0, 0, [], 506), (506, 4, .null, 6, 0, [], 508), (508, 1, .null, 7, 0, [], 510), (510, 2, .null, 0, 0, [], 511), (511, 1, .null, 10, 0, [], 513), (513, 0, .int 0, 0, 0, [], 514), (514, 52, .ref 4, 65, 2, [], 517),
  (517, 11, .null, 0, 0, [], 518), (518, 4, .null, 7, 0, [], 520), (520, 1, .null, 8, 0, [], 522), (522, 2, .null, 0, 0, [], 523), (523, 1, .null, 10, 0, [], 525), (525, 0, .int 5, 0, 0, [], 526), (526, 52, .ref 4, 65, 2, [], 529), (529, 11, .null, 0, 0, [], 530),
  (530, 4, .null, 8, 0, [], 532), (532, 6, .int 1, 10, 0, [], 535), (535, 9, .null, 0, 0, [], 340), (538, 2, .null, 0, 0, [], 539), (539, 0, .int 0, 0, 0, [], 540), (540, 52, .ref 4, 56, 1, [], 543), (543, 1, .null, 2, 0, [], 544), (544, 32, .null, 1, 681, [], 547),
  (547, 2, .null, 0, 0, [], 548), (548, 0, .int 2, 0, 0, [], 549), (549, 52, .ref 4, 56, 1, [], 552), (552, 1, .null, 3, 0, [], 553)]
set_option maxRecDepth 100000 in
theorem ckL_holds6 : axCk 6 false 2 method_5_code cdL_holds6 = true := by decide +kernel
def cdL_holds7 : List axE := [
  (553, 32, .null, 1, 681, [], 556), (556, 1, .null, 7, 0, [], 558), (558, 1, .null, 3, 0, [], 559), (559, 32, .null, 1, 681, [], 562), (562, 1, .null, 8, 0, [], 564), (564, 1, .null, 1, 0, [], 565), (565, 32, .null, 1, 681, [], 568), (568, 2, .null, 0, 0, [], 569),
  (569, 0, .int 4, 0, 0, [], 570), (570, 52, .ref 4, 56, 1, [], 573), (573, 1, .null, 5, 0, [], 575), (575, 32, .null, 1, 681, [], 578), (578, 2, .null, 0, 0, [], 579), (579, 0, .int 5, 0, 0, [], 580), (580, 52, .ref 4, 56, 1, [], 583), (583, 1, .null, 6, 0, [], 585),
  (585, 32, .null, 1, 681, [], 588), (588, 1, .null, 9, 0, [], 590), (590, 1, .null, 4, 0, [], 592), (592, 12, .null, 0, 0, [], 593), (593, 33, .null, 2, 681, [], 596), (596, 1, .null, 9, 0, [], 598), (598, 1, .null, 4, 0, [], 600), (600, 12, .null, 0, 0, [], 601),
  (601, 0, .int 1, 0, 0, [], 602), (602, 32, .null, 4, 681, [], 605), (605, 2, .null, 0, 0, [], 606), (606, 0, .int 3, 0, 0, [], 607), (607, 52, .ref 4, 56, 1, [], 610), (610, 2, .null, 0, 0, [], 611), (611, 0, .int 7, 0, 0, [], 613), (613, 52, .ref 4, 56, 1, [], 616),
  (616, 13, .null, 0, 0, [], 617), (617, 1, .null, 3, 0, [], 618), (618, 32, .null, 2, 681, [], 621), (621, 2, .null, 0, 0, [], 622), (622, 0, .int 3, 0, 0, [], 623), (623, 52, .ref 4, 56, 1, [], 626), (626, 0, .int 1, 0, 0, [], 627), (627, 12, .null, 0, 0, [], 628),
  (628, 2, .null, 0, 0, [], 629), (629, 0, .int 7, 0, 0, [], 631), (631, 52, .ref 4, 56, 1, [], 634), (634, 13, .null, 0, 0, [], 635)]
set_option maxRecDepth 100000 in
theorem ckL_holds7 : axCk 6 false 2 method_5_code cdL_holds7 = true := by decide +kernel
def cdL_holds8 : List axE := [
  (635, 1, .null, 3, 0, [], 636), (636, 32, .null, 3, 681, [], 639), (639, 1, .null, 1, 0, [], 640), (640, 33, .null, 1, 647, [], 643), (643, 0, .int 1, 0, 0, [], 644), (644, 9, .null, 0, 0, [], 648), (647, 0, .int 0, 0, 0, [], 648), (648, 2, .null, 0, 0, [], 649),
  (649, 0, .int 6, 0, 0, [], 651), (651, 52, .ref 4, 56, 1, [], 654), (654, 0, .int (-6), 0, 0, [], 656), (656, 32, .null, 1, 663, [], 659), (659, 0, .int 1, 0, 0, [], 660), (660, 9, .null, 0, 0, [], 664), (663, 0, .int 0, 0, 0, [], 664), (664, 32, .null, 1, 681, [], 667),
  (667, 2, .null, 0, 0, [], 668), (668, 1, .null, 3, 0, [], 669), (669, 52, .ref 4, 53, 1, [], 672), (672, 0, .int (-6), 0, 0, [], 674), (674, 32, .null, 1, 681, [], 677), (677, 0, .int 1, 0, 0, [], 678), (678, 9, .null, 0, 0, [], 682), (681, 0, .int 0, 0, 0, [], 682),
  (682, 49, .null, 2, 0, [], 682)]
set_option maxRecDepth 100000 in
theorem ckL_holds8 : axCk 6 false 2 method_5_code cdL_holds8 = true := by decide +kernel
def cdL_holds : List axE := cdL_holds0 ++ (cdL_holds1 ++ (cdL_holds2 ++ (cdL_holds3 ++ (cdL_holds4 ++ (cdL_holds5 ++ (cdL_holds6 ++ (cdL_holds7 ++ (cdL_holds8))))))))
def mtL_holds : axM := (⟨"BeatSlugsLaw", "holds", "(LBeatSlugs;)Z"⟩, method_5_code, 15, (some .boolean), 6, false, cdL_holds)
abbrev kL_holds : Nat := 38
theorem ckL_holds : axCk 6 false 2 method_5_code cdL_holds = true := axCk_app ckL_holds0 (axCk_app ckL_holds1 (axCk_app ckL_holds2 (axCk_app ckL_holds3 (axCk_app ckL_holds4 (axCk_app ckL_holds5 (axCk_app ckL_holds6 (axCk_app ckL_holds7 (ckL_holds8))))))))
def cdL_many : List axE := [
  (0, 0, .int 0, 0, 0, [], 1), (1, 4, .null, 1, 0, [], 2), (2, 2, .null, 0, 0, [], 3), (3, 1, .null, 1, 0, [], 4), (4, 52, .ref 4, 40, 1, [], 7), (7, 33, .null, 2, 16, [], 10), (10, 6, .int 1, 1, 0, [], 13), (13, 9, .null, 0, 0, [], 2),
  (16, 1, .null, 1, 0, [], 17), (17, 49, .null, 0, 0, [], 17)]
def mtL_many : axM := (⟨"BeatSlugsLaw", "many", "(LBeatSlugs;)I"⟩, method_4_code, 2, (some .int), 6, false, cdL_many)
abbrev kL_many : Nat := 39
set_option maxRecDepth 100000 in
theorem ckL_many : axCk 6 false 0 method_4_code cdL_many = true := by decide +kernel
