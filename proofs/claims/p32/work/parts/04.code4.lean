/-! The code of the methods as rows of the abstract machine. Written by wip/p32/gen2.py. -/
def cdL_low : List axE := [
  (0, 1, .null, 0, 0, [], 1), (1, 0, .int 2147483647, 0, 0, [], 3), (3, 14, .null, 0, 0, [], 4), (4, 1, .null, 1, 0, [], 5), (5, 48, .null, 0, 0, [], 6), (6, 49, .null, 0, 0, [], 6)]
def mtL_low : axM := (⟨"BeatSlugsLaw", "low", "(II)I"⟩, method_3_code, 2, (some .int), 6, false, cdL_low)
abbrev kL_low : Nat := 77
set_option maxRecDepth 100000 in
theorem ckL_low : axCk 6 false 0 method_3_code cdL_low = true := by decide +kernel
def cdX4_slug : List axE := [
  (0, 2, .null, 0, 0, [], 1), (1, 36, .null, 4, 1, [], 4), (4, 2, .null, 0, 0, [], 5), (5, 36, .null, 4, 0, [], 8), (8, 52, .ref 1, 68, 1, [], 11), (11, 2, .null, 0, 0, [], 12), (12, 36, .null, 4, 1, [], 15), (15, 2, .null, 0, 0, [], 16),
  (16, 36, .null, 4, 0, [], 19), (19, 1, .null, 1, 0, [], 20), (20, 1, .null, 2, 0, [], 21), (21, 1, .null, 3, 0, [], 22), (22, 52, .ref 0, 79, 3, [], 25), (25, 52, .ref 1, 73, 1, [], 28), (28, 49, .null, 0, 0, [], 28)]
def mtX4_slug : axM := (⟨"BeatSlugs", "slug", "(III)I"⟩, prog_1_method_4_code, 4, (some .int), 4, false, cdX4_slug)
abbrev kX4_slug : Nat := 78
set_option maxRecDepth 100000 in
theorem ckX4_slug : axCk 4 false 0 prog_1_method_4_code cdX4_slug = true := by decide +kernel
def cdX0_addSlug : List axE := [
  (0, 1, .null, 1, 0, [], 1), (1, 33, .null, 2, 12, [], 4), (4, 1, .null, 1, 0, [], 5), (5, 2, .null, 0, 0, [], 6), (6, 36, .null, 0, 8, [], 9), (9, 32, .null, 5, 14, [], 12), (12, 0, .int (-1), 0, 0, [], 13), (13, 49, .null, 0, 0, [], 13),
  (14, 1, .null, 2, 0, [], 15), (15, 0, .int 1, 0, 0, [], 16), (16, 32, .null, 2, 34, [], 19), (19, 1, .null, 2, 0, [], 20), (20, 0, .int 99, 0, 0, [], 22), (22, 32, .null, 4, 34, [], 25), (25, 1, .null, 3, 0, [], 26), (26, 33, .null, 2, 34, [], 29),
  (29, 1, .null, 3, 0, [], 30), (30, 0, .int 1, 0, 0, [], 31), (31, 32, .null, 5, 37, [], 34), (34, 0, .int (-2), 0, 0, [], 36), (36, 49, .null, 0, 0, [], 36), (37, 2, .null, 0, 0, [], 38), (38, 36, .null, 0, 8, [], 41), (41, 0, .int 24, 0, 0, [], 43),
  (43, 32, .null, 2, 49, [], 46), (46, 0, .int (-4), 0, 0, [], 48), (48, 49, .null, 0, 0, [], 48), (49, 2, .null, 0, 0, [], 50), (50, 1, .null, 1, 0, [], 51), (51, 1, .null, 2, 0, [], 52), (52, 52, .ref 0, 80, 2, [], 55), (55, 4, .null, 4, 0, [], 57),
  (57, 1, .null, 3, 0, [], 58), (58, 0, .int 1, 0, 0, [], 59), (59, 32, .null, 1, 76, [], 62), (62, 2, .null, 0, 0, [], 63), (63, 7, .null, 0, 0, [], 64), (64, 36, .null, 0, 7, [], 67), (67, 1, .null, 4, 0, [], 69), (69, 53, .null, 48, 1, [], 72),
  (72, 15, .null, 0, 0, [], 73), (73, 37, .null, 0, 7, [], 76), (76, 1, .null, 4, 0, [], 78), (78, 49, .null, 0, 0, [], 78)]
def mtX0_addSlug : axM := (⟨"BeatSlugs$Board", "addSlug", "(III)I"⟩, prog_2_method_5_code, 5, (some .int), 0, false, cdX0_addSlug)
abbrev kX0_addSlug : Nat := 79
set_option maxRecDepth 100000 in
theorem ckX0_addSlug : axCk 0 false 0 prog_2_method_5_code cdX0_addSlug = true := by decide +kernel
def cdX0_makeSlug : List axE := [
  (0, 2, .null, 0, 0, [], 1), (1, 52, .ref 0, 81, 0, [], 4), (4, 4, .null, 3, 0, [], 5), (5, 2, .null, 0, 0, [], 6), (6, 7, .null, 0, 0, [], 7), (7, 36, .null, 0, 6, [], 10), (10, 1, .null, 3, 0, [], 11), (11, 53, .null, 48, 1, [], 14),
  (14, 15, .null, 0, 0, [], 15), (15, 37, .null, 0, 6, [], 18), (18, 2, .null, 0, 0, [], 19), (19, 36, .null, 0, 3, [], 22), (22, 1, .null, 3, 0, [], 23), (23, 1, .null, 2, 0, [], 24), (24, 53, .null, 14, 3, [], 27), (27, 2, .null, 0, 0, [], 28),
  (28, 36, .null, 0, 4, [], 31), (31, 1, .null, 3, 0, [], 32), (32, 1, .null, 2, 0, [], 33), (33, 53, .null, 14, 3, [], 36), (36, 2, .null, 0, 0, [], 37), (37, 36, .null, 0, 5, [], 40), (40, 1, .null, 3, 0, [], 41), (41, 0, .int 0, 0, 0, [], 42),
  (42, 53, .null, 14, 3, [], 45), (45, 2, .null, 0, 0, [], 46), (46, 1, .null, 1, 0, [], 47), (47, 1, .null, 3, 0, [], 48), (48, 52, .ref 0, 82, 2, [], 51), (51, 1, .null, 3, 0, [], 52), (52, 49, .null, 0, 0, [], 52)]
def mtX0_makeSlug : axM := (⟨"BeatSlugs$Board", "makeSlug", "(II)I"⟩, prog_2_method_15_code, 4, (some .int), 0, false, cdX0_makeSlug)
abbrev kX0_makeSlug : Nat := 80
set_option maxRecDepth 100000 in
theorem ckX0_makeSlug : axCk 0 false 0 prog_2_method_15_code cdX0_makeSlug = true := by decide +kernel
def cdX0_lowestFree : List axE := [
  (0, 0, .int 0, 0, 0, [], 1), (1, 4, .null, 1, 0, [], 2), (2, 1, .null, 1, 0, [], 3), (3, 0, .int 24, 0, 0, [], 5), (5, 32, .null, 3, 27, [], 8), (8, 2, .null, 0, 0, [], 9), (9, 36, .null, 0, 6, [], 12), (12, 1, .null, 1, 0, [], 13),
  (13, 53, .null, 10, 2, [], 16), (16, 33, .null, 1, 21, [], 19), (19, 1, .null, 1, 0, [], 20), (20, 49, .null, 0, 0, [], 20), (21, 6, .int 1, 1, 0, [], 24), (24, 9, .null, 0, 0, [], 2), (27, 0, .int (-1), 0, 0, [], 28), (28, 49, .null, 0, 0, [], 28)]
def mtX0_lowestFree : axM := (⟨"BeatSlugs$Board", "lowestFree", "()I"⟩, prog_2_method_16_code, 2, (some .int), 0, false, cdX0_lowestFree)
abbrev kX0_lowestFree : Nat := 81
set_option maxRecDepth 100000 in
theorem ckX0_lowestFree : axCk 0 false 0 prog_2_method_16_code cdX0_lowestFree = true := by decide +kernel
def cdX0_putIn : List axE := [
  (0, 2, .null, 0, 0, [], 1), (1, 36, .null, 0, 8, [], 4), (4, 4, .null, 3, 0, [], 5), (5, 1, .null, 3, 0, [], 6), (6, 1, .null, 1, 0, [], 7), (7, 32, .null, 5, 34, [], 10), (10, 2, .null, 0, 0, [], 11), (11, 36, .null, 0, 2, [], 14),
  (14, 1, .null, 3, 0, [], 15), (15, 2, .null, 0, 0, [], 16), (16, 36, .null, 0, 2, [], 19), (19, 1, .null, 3, 0, [], 20), (20, 0, .int 1, 0, 0, [], 21), (21, 12, .null, 0, 0, [], 22), (22, 53, .null, 9, 2, [], 25), (25, 53, .null, 14, 3, [], 28),
  (28, 6, .int (-1), 3, 0, [], 31), (31, 9, .null, 0, 0, [], 5), (34, 2, .null, 0, 0, [], 35), (35, 36, .null, 0, 2, [], 38), (38, 1, .null, 1, 0, [], 39), (39, 1, .null, 2, 0, [], 40), (40, 53, .null, 14, 3, [], 43), (43, 2, .null, 0, 0, [], 44),
  (44, 7, .null, 0, 0, [], 45), (45, 36, .null, 0, 8, [], 48), (48, 0, .int 1, 0, 0, [], 49), (49, 11, .null, 0, 0, [], 50), (50, 37, .null, 0, 8, [], 53), (53, 50, .null, 0, 0, [], 53)]
def mtX0_putIn : axM := (⟨"BeatSlugs$Board", "putIn", "(II)V"⟩, prog_2_method_17_code, 4, none, 0, false, cdX0_putIn)
abbrev kX0_putIn : Nat := 82
set_option maxRecDepth 100000 in
theorem ckX0_putIn : axCk 0 false 0 prog_2_method_17_code cdX0_putIn = true := by decide +kernel
def cdX4_drop : List axE := [
  (0, 2, .null, 0, 0, [], 1), (1, 36, .null, 4, 1, [], 4), (4, 2, .null, 0, 0, [], 5), (5, 36, .null, 4, 0, [], 8), (8, 52, .ref 1, 68, 1, [], 11), (11, 2, .null, 0, 0, [], 12), (12, 36, .null, 4, 1, [], 15), (15, 2, .null, 0, 0, [], 16),
  (16, 36, .null, 4, 0, [], 19), (19, 1, .null, 1, 0, [], 20), (20, 52, .ref 0, 84, 1, [], 23), (23, 52, .ref 1, 73, 1, [], 26), (26, 49, .null, 0, 0, [], 26)]
def mtX4_drop : axM := (⟨"BeatSlugs", "drop", "(I)I"⟩, prog_1_method_5_code, 2, (some .int), 4, false, cdX4_drop)
abbrev kX4_drop : Nat := 83
set_option maxRecDepth 100000 in
theorem ckX4_drop : axCk 4 false 0 prog_1_method_5_code cdX4_drop = true := by decide +kernel
def cdX0_dropSlug : List axE := [
  (0, 2, .null, 0, 0, [], 1), (1, 1, .null, 1, 0, [], 2), (2, 52, .ref 0, 42, 1, [], 5), (5, 33, .null, 1, 10, [], 8), (8, 0, .int (-1), 0, 0, [], 9), (9, 49, .null, 0, 0, [], 9), (10, 2, .null, 0, 0, [], 11), (11, 2, .null, 0, 0, [], 12),
  (12, 1, .null, 1, 0, [], 13), (13, 52, .ref 0, 43, 1, [], 16), (16, 52, .ref 0, 85, 1, [], 19), (19, 2, .null, 0, 0, [], 20), (20, 7, .null, 0, 0, [], 21), (21, 36, .null, 0, 6, [], 24), (24, 1, .null, 1, 0, [], 25), (25, 53, .null, 48, 1, [], 28),
  (28, 0, .int (-1), 0, 0, [], 29), (29, 16, .null, 0, 0, [], 30), (30, 14, .null, 0, 0, [], 31), (31, 37, .null, 0, 6, [], 34), (34, 2, .null, 0, 0, [], 35), (35, 7, .null, 0, 0, [], 36), (36, 36, .null, 0, 7, [], 39), (39, 1, .null, 1, 0, [], 40),
  (40, 53, .null, 48, 1, [], 43), (43, 0, .int (-1), 0, 0, [], 44), (44, 16, .null, 0, 0, [], 45), (45, 14, .null, 0, 0, [], 46), (46, 37, .null, 0, 7, [], 49), (49, 0, .int 0, 0, 0, [], 50), (50, 4, .null, 2, 0, [], 51), (51, 1, .null, 2, 0, [], 52),
  (52, 2, .null, 0, 0, [], 53), (53, 36, .null, 0, 5, [], 56), (56, 39, .null, 0, 0, [], 57), (57, 32, .null, 3, 81, [], 60), (60, 2, .null, 0, 0, [], 61), (61, 36, .null, 0, 5, [], 64), (64, 1, .null, 2, 0, [], 65), (65, 10, .null, 0, 0, [], 66),
  (66, 40, .null, 0, 0, [], 67), (67, 1, .null, 1, 0, [], 68), (68, 53, .null, 48, 1, [], 71), (71, 0, .int (-1), 0, 0, [], 72), (72, 16, .null, 0, 0, [], 73), (73, 14, .null, 0, 0, [], 74), (74, 42, .null, 0, 0, [], 75), (75, 6, .int 1, 2, 0, [], 78),
  (78, 9, .null, 0, 0, [], 51), (81, 2, .null, 0, 0, [], 82), (82, 36, .null, 0, 8, [], 85), (85, 49, .null, 0, 0, [], 85)]
def mtX0_dropSlug : axM := (⟨"BeatSlugs$Board", "dropSlug", "(I)I"⟩, prog_2_method_6_code, 3, (some .int), 0, false, cdX0_dropSlug)
abbrev kX0_dropSlug : Nat := 84
set_option maxRecDepth 100000 in
theorem ckX0_dropSlug : axCk 0 false 0 prog_2_method_6_code cdX0_dropSlug = true := by decide +kernel
def cdX0_takeOut : List axE := [
  (0, 1, .null, 1, 0, [], 1), (1, 0, .int 1, 0, 0, [], 2), (2, 11, .null, 0, 0, [], 3), (3, 4, .null, 2, 0, [], 4), (4, 1, .null, 2, 0, [], 5), (5, 2, .null, 0, 0, [], 6), (6, 36, .null, 0, 8, [], 9), (9, 32, .null, 3, 36, [], 12),
  (12, 2, .null, 0, 0, [], 13), (13, 36, .null, 0, 2, [], 16), (16, 1, .null, 2, 0, [], 17), (17, 0, .int 1, 0, 0, [], 18), (18, 12, .null, 0, 0, [], 19), (19, 2, .null, 0, 0, [], 20), (20, 36, .null, 0, 2, [], 23), (23, 1, .null, 2, 0, [], 24),
  (24, 53, .null, 9, 2, [], 27), (27, 53, .null, 14, 3, [], 30), (30, 6, .int 1, 2, 0, [], 33), (33, 9, .null, 0, 0, [], 4), (36, 2, .null, 0, 0, [], 37), (37, 7, .null, 0, 0, [], 38), (38, 36, .null, 0, 8, [], 41), (41, 0, .int 1, 0, 0, [], 42),
  (42, 12, .null, 0, 0, [], 43), (43, 37, .null, 0, 8, [], 46), (46, 50, .null, 0, 0, [], 46)]
def mtX0_takeOut : axM := (⟨"BeatSlugs$Board", "takeOut", "(I)V"⟩, prog_2_method_18_code, 3, none, 0, false, cdX0_takeOut)
abbrev kX0_takeOut : Nat := 85
set_option maxRecDepth 100000 in
theorem ckX0_takeOut : axCk 0 false 0 prog_2_method_18_code cdX0_takeOut = true := by decide +kernel
def cdX4_ifTurned : List axE := [
  (0, 2, .null, 0, 0, [], 1), (1, 36, .null, 4, 0, [], 4), (4, 1, .null, 1, 0, [], 5), (5, 52, .ref 0, 42, 1, [], 8), (8, 33, .null, 0, 22, [], 11), (11, 2, .null, 0, 0, [], 12), (12, 36, .null, 4, 0, [], 15), (15, 1, .null, 1, 0, [], 16),
  (16, 52, .ref 0, 87, 1, [], 19), (19, 9, .null, 0, 0, [], 23), (22, 0, .int (-1), 0, 0, [], 23), (23, 49, .null, 0, 0, [], 23)]
def mtX4_ifTurned : axM := (⟨"BeatSlugs", "ifTurned", "(I)I"⟩, prog_1_method_22_code, 2, (some .int), 4, false, cdX4_ifTurned)
abbrev kX4_ifTurned : Nat := 86
set_option maxRecDepth 100000 in
theorem ckX4_ifTurned : axCk 4 false 0 prog_1_method_22_code cdX4_ifTurned = true := by decide +kernel
def cdX0_offIfTurned : List axE := [
  (0, 2, .null, 0, 0, [], 1), (1, 2, .null, 0, 0, [], 2), (2, 36, .null, 0, 2, [], 5), (5, 2, .null, 0, 0, [], 6), (6, 36, .null, 0, 7, [], 9), (9, 1, .null, 1, 0, [], 10), (10, 53, .null, 48, 1, [], 13), (13, 16, .null, 0, 0, [], 14),
  (14, 52, .ref 0, 8, 2, [], 17), (17, 49, .null, 0, 0, [], 17)]
def mtX0_offIfTurned : axM := (⟨"BeatSlugs$Board", "offIfTurned", "(I)I"⟩, prog_2_method_55_code, 2, (some .int), 0, false, cdX0_offIfTurned)
abbrev kX0_offIfTurned : Nat := 87
set_option maxRecDepth 100000 in
theorem ckX0_offIfTurned : axCk 0 false 0 prog_2_method_55_code cdX0_offIfTurned = true := by decide +kernel
def cdX4_turn : List axE := [
  (0, 2, .null, 0, 0, [], 1), (1, 36, .null, 4, 1, [], 4), (4, 2, .null, 0, 0, [], 5), (5, 36, .null, 4, 0, [], 8), (8, 52, .ref 1, 68, 1, [], 11), (11, 2, .null, 0, 0, [], 12), (12, 36, .null, 4, 1, [], 15), (15, 2, .null, 0, 0, [], 16),
  (16, 36, .null, 4, 0, [], 19), (19, 1, .null, 1, 0, [], 20), (20, 52, .ref 0, 89, 1, [], 23), (23, 52, .ref 1, 73, 1, [], 26), (26, 49, .null, 0, 0, [], 26)]
def mtX4_turn : axM := (⟨"BeatSlugs", "turn", "(I)I"⟩, prog_1_method_6_code, 2, (some .int), 4, false, cdX4_turn)
abbrev kX4_turn : Nat := 88
set_option maxRecDepth 100000 in
theorem ckX4_turn : axCk 4 false 0 prog_1_method_6_code cdX4_turn = true := by decide +kernel
def cdX0_flipTurn : List axE := [
  (0, 2, .null, 0, 0, [], 1), (1, 1, .null, 1, 0, [], 2), (2, 52, .ref 0, 42, 1, [], 5), (5, 33, .null, 1, 10, [], 8), (8, 0, .int (-1), 0, 0, [], 9), (9, 49, .null, 0, 0, [], 9), (10, 2, .null, 0, 0, [], 11), (11, 7, .null, 0, 0, [], 12),
  (12, 36, .null, 0, 7, [], 15), (15, 1, .null, 1, 0, [], 16), (16, 53, .null, 48, 1, [], 19), (19, 16, .null, 0, 0, [], 20), (20, 37, .null, 0, 7, [], 23), (23, 2, .null, 0, 0, [], 24), (24, 1, .null, 1, 0, [], 25), (25, 52, .ref 0, 46, 1, [], 28),
  (28, 33, .null, 0, 35, [], 31), (31, 0, .int 1, 0, 0, [], 32), (32, 9, .null, 0, 0, [], 36), (35, 0, .int 0, 0, 0, [], 36), (36, 49, .null, 0, 0, [], 36)]
def mtX0_flipTurn : axM := (⟨"BeatSlugs$Board", "flipTurn", "(I)I"⟩, prog_2_method_7_code, 2, (some .int), 0, false, cdX0_flipTurn)
abbrev kX0_flipTurn : Nat := 89
set_option maxRecDepth 100000 in
theorem ckX0_flipTurn : axCk 0 false 0 prog_2_method_7_code cdX0_flipTurn = true := by decide +kernel
def cdX4_need : List axE := [
  (0, 2, .null, 0, 0, [], 1), (1, 36, .null, 4, 1, [], 4), (4, 2, .null, 0, 0, [], 5), (5, 36, .null, 4, 0, [], 8), (8, 52, .ref 1, 68, 1, [], 11), (11, 2, .null, 0, 0, [], 12), (12, 36, .null, 4, 1, [], 15), (15, 2, .null, 0, 0, [], 16),
  (16, 36, .null, 4, 0, [], 19), (19, 1, .null, 1, 0, [], 20), (20, 1, .null, 2, 0, [], 21), (21, 52, .ref 0, 91, 2, [], 24), (24, 52, .ref 1, 73, 1, [], 27), (27, 49, .null, 0, 0, [], 27)]
def mtX4_need : axM := (⟨"BeatSlugs", "need", "(II)I"⟩, prog_1_method_7_code, 3, (some .int), 4, false, cdX4_need)
abbrev kX4_need : Nat := 90
set_option maxRecDepth 100000 in
theorem ckX4_need : axCk 4 false 0 prog_1_method_7_code cdX4_need = true := by decide +kernel
def cdX0_flipNeed : List axE := [
  (0, 2, .null, 0, 0, [], 1), (1, 1, .null, 1, 0, [], 2), (2, 52, .ref 0, 42, 1, [], 5), (5, 33, .null, 0, 16, [], 8), (8, 2, .null, 0, 0, [], 9), (9, 1, .null, 2, 0, [], 10), (10, 52, .ref 0, 42, 1, [], 13), (13, 33, .null, 1, 18, [], 16),
  (16, 0, .int (-1), 0, 0, [], 17), (17, 49, .null, 0, 0, [], 17), (18, 1, .null, 1, 0, [], 19), (19, 1, .null, 2, 0, [], 20), (20, 32, .null, 1, 26, [], 23), (23, 0, .int (-2), 0, 0, [], 25), (25, 49, .null, 0, 0, [], 25), (26, 2, .null, 0, 0, [], 27),
  (27, 1, .null, 1, 0, [], 28), (28, 52, .ref 0, 18, 1, [], 31), (31, 1, .null, 2, 0, [], 32), (32, 53, .null, 10, 2, [], 35), (35, 33, .null, 1, 54, [], 38), (38, 2, .null, 0, 0, [], 39), (39, 1, .null, 2, 0, [], 40), (40, 52, .ref 0, 43, 1, [], 43),
  (43, 2, .null, 0, 0, [], 44), (44, 1, .null, 1, 0, [], 45), (45, 52, .ref 0, 43, 1, [], 48), (48, 32, .null, 5, 54, [], 51), (51, 0, .int (-5), 0, 0, [], 53), (53, 49, .null, 0, 0, [], 53), (54, 2, .null, 0, 0, [], 55), (55, 36, .null, 0, 5, [], 58),
  (58, 1, .null, 1, 0, [], 59), (59, 2, .null, 0, 0, [], 60), (60, 1, .null, 1, 0, [], 61), (61, 52, .ref 0, 18, 1, [], 64), (64, 1, .null, 2, 0, [], 65), (65, 53, .null, 48, 1, [], 68), (68, 16, .null, 0, 0, [], 69), (69, 53, .null, 14, 3, [], 72),
  (72, 2, .null, 0, 0, [], 73), (73, 1, .null, 1, 0, [], 74), (74, 52, .ref 0, 18, 1, [], 77), (77, 53, .null, 30, 1, [], 80), (80, 49, .null, 0, 0, [], 80)]
def mtX0_flipNeed : axM := (⟨"BeatSlugs$Board", "flipNeed", "(II)I"⟩, prog_2_method_8_code, 3, (some .int), 0, false, cdX0_flipNeed)
abbrev kX0_flipNeed : Nat := 91
set_option maxRecDepth 100000 in
theorem ckX0_flipNeed : axCk 0 false 0 prog_2_method_8_code cdX0_flipNeed = true := by decide +kernel
def cdL_tale : List axE := [
  (0, 0, .long 19, 0, 0, [], 3), (3, 30, .null, 1, 0, [], 4), (4, 0, .int 0, 0, 0, [], 5), (5, 4, .null, 3, 0, [], 6), (6, 1, .null, 3, 0, [], 7), (7, 0, .int 10, 0, 0, [], 9), (9, 32, .null, 3, 31, [], 12), (12, 0, .long 31, 0, 0, [], 15),
  (15, 3, .null, 1, 0, [], 16), (16, 31, .null, 1, 0, [], 17), (17, 2, .null, 0, 0, [], 18), (18, 1, .null, 3, 0, [], 19), (19, 52, .ref 4, 56, 1, [], 22), (22, 22, .null, 0, 0, [], 23), (23, 31, .null, 0, 0, [], 24), (24, 30, .null, 1, 0, [], 25),
  (25, 6, .int 1, 3, 0, [], 28), (28, 9, .null, 0, 0, [], 6), (31, 0, .int 0, 0, 0, [], 32), (32, 4, .null, 3, 0, [], 33), (33, 1, .null, 3, 0, [], 34), (34, 0, .int 240, 0, 0, [], 37), (37, 32, .null, 3, 66, [], 40), (40, 0, .long 31, 0, 0, [], 43),
  (43, 3, .null, 1, 0, [], 44), (44, 31, .null, 1, 0, [], 45), (45, 2, .null, 0, 0, [], 46), (46, 1, .null, 3, 0, [], 47), (47, 0, .int 10, 0, 0, [], 49), (49, 47, .null, 0, 0, [], 50), (50, 1, .null, 3, 0, [], 51), (51, 0, .int 10, 0, 0, [], 53),
  (53, 48, .null, 0, 0, [], 54), (54, 52, .ref 4, 41, 2, [], 57), (57, 22, .null, 0, 0, [], 58), (58, 31, .null, 0, 0, [], 59), (59, 30, .null, 1, 0, [], 60), (60, 6, .int 1, 3, 0, [], 63), (63, 9, .null, 0, 0, [], 33), (66, 3, .null, 1, 0, [], 67),
  (67, 62, .null, 0, 0, [], 67)]
def mtL_tale : axM := (⟨"BeatSlugsLaw", "tale", "(LBeatSlugs;)J"⟩, method_6_code, 4, (some .long), 6, false, cdL_tale)
abbrev kL_tale : Nat := 92
set_option maxRecDepth 100000 in
theorem ckL_tale : axCk 6 false 0 method_6_code cdL_tale = true := by decide +kernel
def cdX4_trim : List axE := [
  (0, 2, .null, 0, 0, [], 1), (1, 36, .null, 4, 1, [], 4), (4, 2, .null, 0, 0, [], 5), (5, 36, .null, 4, 0, [], 8), (8, 52, .ref 1, 68, 1, [], 11), (11, 2, .null, 0, 0, [], 12), (12, 36, .null, 4, 1, [], 15), (15, 2, .null, 0, 0, [], 16),
  (16, 36, .null, 4, 0, [], 19), (19, 1, .null, 1, 0, [], 20), (20, 1, .null, 2, 0, [], 21), (21, 52, .ref 0, 94, 2, [], 24), (24, 52, .ref 1, 73, 1, [], 27), (27, 49, .null, 0, 0, [], 27)]
def mtX4_trim : axM := (⟨"BeatSlugs", "trim", "(II)I"⟩, prog_1_method_8_code, 3, (some .int), 4, false, cdX4_trim)
abbrev kX4_trim : Nat := 93
set_option maxRecDepth 100000 in
theorem ckX4_trim : axCk 4 false 0 prog_1_method_8_code cdX4_trim = true := by decide +kernel
def cdX0_trimSlug : List axE := [
  (0, 2, .null, 0, 0, [], 1), (1, 1, .null, 1, 0, [], 2), (2, 52, .ref 0, 42, 1, [], 5), (5, 33, .null, 1, 10, [], 8), (8, 0, .int (-1), 0, 0, [], 9), (9, 49, .null, 0, 0, [], 9), (10, 1, .null, 2, 0, [], 11), (11, 0, .int 1, 0, 0, [], 12),
  (12, 32, .null, 2, 21, [], 15), (15, 1, .null, 2, 0, [], 16), (16, 0, .int 98, 0, 0, [], 18), (18, 32, .null, 5, 24, [], 21), (21, 0, .int (-2), 0, 0, [], 23), (23, 49, .null, 0, 0, [], 23), (24, 1, .null, 2, 0, [], 25), (25, 2, .null, 0, 0, [], 26),
  (26, 1, .null, 1, 0, [], 27), (27, 52, .ref 0, 35, 1, [], 30), (30, 32, .null, 5, 36, [], 33), (33, 0, .int (-5), 0, 0, [], 35), (35, 49, .null, 0, 0, [], 35), (36, 2, .null, 0, 0, [], 37), (37, 36, .null, 0, 4, [], 40), (40, 1, .null, 1, 0, [], 41),
  (41, 2, .null, 0, 0, [], 42), (42, 1, .null, 1, 0, [], 43), (43, 52, .ref 0, 45, 1, [], 46), (46, 1, .null, 2, 0, [], 47), (47, 12, .null, 0, 0, [], 48), (48, 53, .null, 14, 3, [], 51), (51, 2, .null, 0, 0, [], 52), (52, 1, .null, 1, 0, [], 53),
  (53, 52, .ref 0, 45, 1, [], 56), (56, 49, .null, 0, 0, [], 56)]
def mtX0_trimSlug : axM := (⟨"BeatSlugs$Board", "trimSlug", "(II)I"⟩, prog_2_method_9_code, 3, (some .int), 0, false, cdX0_trimSlug)
abbrev kX0_trimSlug : Nat := 94
set_option maxRecDepth 100000 in
theorem ckX0_trimSlug : axCk 0 false 0 prog_2_method_9_code cdX0_trimSlug = true := by decide +kernel
def cdX4_restoreTail : List axE := [
  (0, 2, .null, 0, 0, [], 1), (1, 36, .null, 4, 1, [], 4), (4, 2, .null, 0, 0, [], 5), (5, 36, .null, 4, 0, [], 8), (8, 52, .ref 1, 68, 1, [], 11), (11, 2, .null, 0, 0, [], 12), (12, 36, .null, 4, 1, [], 15), (15, 2, .null, 0, 0, [], 16),
  (16, 36, .null, 4, 0, [], 19), (19, 1, .null, 1, 0, [], 20), (20, 52, .ref 0, 96, 1, [], 23), (23, 52, .ref 1, 73, 1, [], 26), (26, 49, .null, 0, 0, [], 26)]
def mtX4_restoreTail : axM := (⟨"BeatSlugs", "restoreTail", "(I)I"⟩, prog_1_method_9_code, 2, (some .int), 4, false, cdX4_restoreTail)
abbrev kX4_restoreTail : Nat := 95
set_option maxRecDepth 100000 in
theorem ckX4_restoreTail : axCk 4 false 0 prog_1_method_9_code cdX4_restoreTail = true := by decide +kernel
def cdX0_giveBack : List axE := [
  (0, 2, .null, 0, 0, [], 1), (1, 1, .null, 1, 0, [], 2), (2, 52, .ref 0, 42, 1, [], 5), (5, 33, .null, 1, 10, [], 8), (8, 0, .int (-1), 0, 0, [], 9), (9, 49, .null, 0, 0, [], 9), (10, 2, .null, 0, 0, [], 11), (11, 1, .null, 1, 0, [], 12),
  (12, 52, .ref 0, 44, 1, [], 15), (15, 2, .null, 0, 0, [], 16), (16, 1, .null, 1, 0, [], 17), (17, 52, .ref 0, 45, 1, [], 20), (20, 12, .null, 0, 0, [], 21), (21, 4, .null, 2, 0, [], 22), (22, 2, .null, 0, 0, [], 23), (23, 36, .null, 0, 4, [], 26),
  (26, 1, .null, 1, 0, [], 27), (27, 2, .null, 0, 0, [], 28), (28, 1, .null, 1, 0, [], 29), (29, 52, .ref 0, 44, 1, [], 32), (32, 53, .null, 14, 3, [], 35), (35, 1, .null, 2, 0, [], 36), (36, 49, .null, 0, 0, [], 36)]
def mtX0_giveBack : axM := (⟨"BeatSlugs$Board", "giveBack", "(I)I"⟩, prog_2_method_10_code, 3, (some .int), 0, false, cdX0_giveBack)
abbrev kX0_giveBack : Nat := 96
set_option maxRecDepth 100000 in
theorem ckX0_giveBack : axCk 0 false 0 prog_2_method_10_code cdX0_giveBack = true := by decide +kernel
def cdL_moves : List axE := [
  (0, 2, .null, 0, 0, [], 1), (1, 53, .null, 92, 1, [], 4), (4, 30, .null, 3, 0, [], 5), (5, 2, .null, 0, 0, [], 6), (6, 1, .null, 1, 0, [], 7), (7, 0, .int 0, 0, 0, [], 8), (8, 52, .ref 4, 41, 2, [], 11), (11, 4, .null, 5, 0, [], 13),
  (13, 2, .null, 0, 0, [], 14), (14, 1, .null, 1, 0, [], 15), (15, 52, .ref 4, 55, 1, [], 18), (18, 1, .null, 2, 0, [], 19), (19, 18, .null, 0, 0, [], 20), (20, 0, .int 1, 0, 0, [], 21), (21, 14, .null, 0, 0, [], 22), (22, 4, .null, 6, 0, [], 24),
  (24, 2, .null, 0, 0, [], 25), (25, 1, .null, 1, 0, [], 26), (26, 1, .null, 2, 0, [], 27), (27, 52, .ref 4, 98, 2, [], 30), (30, 4, .null, 7, 0, [], 32), (32, 1, .null, 6, 0, [], 34), (34, 33, .null, 1, 59, [], 37), (37, 1, .null, 7, 0, [], 39),
  (39, 0, .int (-5), 0, 0, [], 41), (41, 32, .null, 1, 57, [], 44), (44, 2, .null, 0, 0, [], 45), (45, 53, .null, 92, 1, [], 48), (48, 3, .null, 3, 0, [], 49), (49, 29, .null, 0, 0, [], 50), (50, 33, .null, 1, 57, [], 53), (53, 0, .int 1, 0, 0, [], 54),
  (54, 9, .null, 0, 0, [], 58), (57, 0, .int 0, 0, 0, [], 58), (58, 49, .null, 2, 0, [], 58), (59, 1, .null, 7, 0, [], 61), (61, 1, .null, 5, 0, [], 63), (63, 32, .null, 1, 106, [], 66), (66, 2, .null, 0, 0, [], 67), (67, 1, .null, 1, 0, [], 68),
  (68, 0, .int 0, 0, 0, [], 69), (69, 52, .ref 4, 41, 2, [], 72), (72, 1, .null, 2, 0, [], 73), (73, 32, .null, 1, 106, [], 76), (76, 1, .null, 2, 0, [], 77), (77, 0, .int 2, 0, 0, [], 78), (78, 48, .null, 0, 0, [], 79), (79, 33, .null, 0, 102, [], 82),
  (82, 2, .null, 0, 0, [], 83), (83, 1, .null, 1, 0, [], 84), (84, 1, .null, 5, 0, [], 86), (86, 52, .ref 4, 98, 2, [], 89), (89, 1, .null, 2, 0, [], 90), (90, 32, .null, 1, 106, [], 93), (93, 2, .null, 0, 0, [], 94), (94, 53, .null, 92, 1, [], 97),
  (97, 3, .null, 3, 0, [], 98), (98, 29, .null, 0, 0, [], 99), (99, 33, .null, 1, 106, [], 102), (102, 0, .int 1, 0, 0, [], 103), (103, 9, .null, 0, 0, [], 107), (106, 0, .int 0, 0, 0, [], 107), (107, 49, .null, 2, 0, [], 107)]
def mtL_moves : axM := (⟨"BeatSlugsLaw", "moves", "(LBeatSlugs;II)Z"⟩, method_8_code, 8, (some .boolean), 6, false, cdL_moves)
abbrev kL_moves : Nat := 97
set_option maxRecDepth 100000 in
theorem ckL_moves : axCk 6 false 2 method_8_code cdL_moves = true := by decide +kernel
def cdX4_move : List axE := [
  (0, 2, .null, 0, 0, [], 1), (1, 36, .null, 4, 1, [], 4), (4, 2, .null, 0, 0, [], 5), (5, 36, .null, 4, 0, [], 8), (8, 52, .ref 1, 68, 1, [], 11), (11, 2, .null, 0, 0, [], 12), (12, 36, .null, 4, 1, [], 15), (15, 2, .null, 0, 0, [], 16),
  (16, 36, .null, 4, 0, [], 19), (19, 1, .null, 1, 0, [], 20), (20, 1, .null, 2, 0, [], 21), (21, 52, .ref 0, 99, 2, [], 24), (24, 52, .ref 1, 73, 1, [], 27), (27, 49, .null, 0, 0, [], 27)]
def mtX4_move : axM := (⟨"BeatSlugs", "move", "(II)I"⟩, prog_1_method_10_code, 3, (some .int), 4, false, cdX4_move)
abbrev kX4_move : Nat := 98
set_option maxRecDepth 100000 in
theorem ckX4_move : axCk 4 false 0 prog_1_method_10_code cdX4_move = true := by decide +kernel
def cdX0_moveSlug : List axE := [
  (0, 2, .null, 0, 0, [], 1), (1, 1, .null, 1, 0, [], 2), (2, 52, .ref 0, 42, 1, [], 5), (5, 33, .null, 0, 20, [], 8), (8, 1, .null, 2, 0, [], 9), (9, 33, .null, 2, 20, [], 12), (12, 1, .null, 2, 0, [], 13), (13, 2, .null, 0, 0, [], 14),
  (14, 36, .null, 0, 8, [], 17), (17, 32, .null, 2, 22, [], 20), (20, 0, .int (-1), 0, 0, [], 21), (21, 49, .null, 0, 0, [], 21), (22, 2, .null, 0, 0, [], 23), (23, 1, .null, 1, 0, [], 24), (24, 1, .null, 2, 0, [], 25), (25, 52, .ref 0, 72, 2, [], 28),
  (28, 33, .null, 1, 34, [], 31), (31, 0, .int (-5), 0, 0, [], 33), (33, 49, .null, 0, 0, [], 33), (34, 2, .null, 0, 0, [], 35), (35, 1, .null, 1, 0, [], 36), (36, 52, .ref 0, 43, 1, [], 39), (39, 4, .null, 3, 0, [], 40), (40, 2, .null, 0, 0, [], 41),
  (41, 1, .null, 3, 0, [], 42), (42, 52, .ref 0, 85, 1, [], 45), (45, 2, .null, 0, 0, [], 46), (46, 1, .null, 2, 0, [], 47), (47, 1, .null, 1, 0, [], 48), (48, 52, .ref 0, 82, 2, [], 51), (51, 1, .null, 3, 0, [], 52), (52, 49, .null, 0, 0, [], 52)]
def mtX0_moveSlug : axM := (⟨"BeatSlugs$Board", "moveSlug", "(II)I"⟩, prog_2_method_11_code, 4, (some .int), 0, false, cdX0_moveSlug)
abbrev kX0_moveSlug : Nat := 99
set_option maxRecDepth 100000 in
theorem ckX0_moveSlug : axCk 0 false 0 prog_2_method_11_code cdX0_moveSlug = true := by decide +kernel
def cdX4_split : List axE := [
  (0, 2, .null, 0, 0, [], 1), (1, 36, .null, 4, 1, [], 4), (4, 2, .null, 0, 0, [], 5), (5, 36, .null, 4, 0, [], 8), (8, 52, .ref 1, 68, 1, [], 11), (11, 2, .null, 0, 0, [], 12), (12, 36, .null, 4, 1, [], 15), (15, 2, .null, 0, 0, [], 16),
  (16, 36, .null, 4, 0, [], 19), (19, 1, .null, 1, 0, [], 20), (20, 1, .null, 2, 0, [], 21), (21, 52, .ref 0, 101, 2, [], 24), (24, 52, .ref 1, 73, 1, [], 27), (27, 49, .null, 0, 0, [], 27)]
def mtX4_split : axM := (⟨"BeatSlugs", "split", "(II)I"⟩, prog_1_method_12_code, 3, (some .int), 4, false, cdX4_split)
abbrev kX4_split : Nat := 100
set_option maxRecDepth 100000 in
theorem ckX4_split : axCk 4 false 0 prog_1_method_12_code cdX4_split = true := by decide +kernel
def cdX0_splitSlug : List axE := [
  (0, 2, .null, 0, 0, [], 1), (1, 1, .null, 1, 0, [], 2), (2, 52, .ref 0, 42, 1, [], 5), (5, 33, .null, 1, 10, [], 8), (8, 0, .int (-1), 0, 0, [], 9), (9, 49, .null, 0, 0, [], 9), (10, 1, .null, 2, 0, [], 11), (11, 0, .int 1, 0, 0, [], 12),
  (12, 32, .null, 2, 21, [], 15), (15, 1, .null, 2, 0, [], 16), (16, 0, .int 98, 0, 0, [], 18), (18, 32, .null, 5, 24, [], 21), (21, 0, .int (-2), 0, 0, [], 23), (23, 49, .null, 0, 0, [], 23), (24, 2, .null, 0, 0, [], 25), (25, 1, .null, 1, 0, [], 26),
  (26, 52, .ref 0, 45, 1, [], 29), (29, 1, .null, 2, 0, [], 30), (30, 32, .null, 4, 36, [], 33), (33, 0, .int (-5), 0, 0, [], 35), (35, 49, .null, 0, 0, [], 35), (36, 2, .null, 0, 0, [], 37), (37, 36, .null, 0, 8, [], 40), (40, 0, .int 24, 0, 0, [], 42),
  (42, 32, .null, 2, 48, [], 45), (45, 0, .int (-4), 0, 0, [], 47), (47, 49, .null, 0, 0, [], 47), (48, 2, .null, 0, 0, [], 49), (49, 2, .null, 0, 0, [], 50), (50, 1, .null, 1, 0, [], 51), (51, 52, .ref 0, 43, 1, [], 54), (54, 0, .int 1, 0, 0, [], 55),
  (55, 11, .null, 0, 0, [], 56), (56, 2, .null, 0, 0, [], 57), (57, 1, .null, 1, 0, [], 58), (58, 52, .ref 0, 44, 1, [], 61), (61, 1, .null, 2, 0, [], 62), (62, 12, .null, 0, 0, [], 63), (63, 52, .ref 0, 80, 2, [], 66), (66, 4, .null, 3, 0, [], 67),
  (67, 2, .null, 0, 0, [], 68), (68, 36, .null, 0, 4, [], 71), (71, 1, .null, 3, 0, [], 72), (72, 2, .null, 0, 0, [], 73), (73, 1, .null, 1, 0, [], 74), (74, 52, .ref 0, 45, 1, [], 77), (77, 1, .null, 2, 0, [], 78), (78, 12, .null, 0, 0, [], 79),
  (79, 53, .null, 14, 3, [], 82), (82, 2, .null, 0, 0, [], 83), (83, 36, .null, 0, 3, [], 86), (86, 1, .null, 1, 0, [], 87), (87, 1, .null, 2, 0, [], 88), (88, 53, .null, 14, 3, [], 91), (91, 2, .null, 0, 0, [], 92), (92, 36, .null, 0, 4, [], 95),
  (95, 1, .null, 1, 0, [], 96), (96, 1, .null, 2, 0, [], 97), (97, 53, .null, 14, 3, [], 100), (100, 2, .null, 0, 0, [], 101), (101, 1, .null, 1, 0, [], 102), (102, 1, .null, 3, 0, [], 103), (103, 52, .ref 0, 102, 2, [], 106), (106, 2, .null, 0, 0, [], 107),
  (107, 1, .null, 1, 0, [], 108), (108, 1, .null, 3, 0, [], 109), (109, 52, .ref 0, 103, 2, [], 112), (112, 1, .null, 3, 0, [], 113), (113, 49, .null, 0, 0, [], 113)]
def mtX0_splitSlug : axM := (⟨"BeatSlugs$Board", "splitSlug", "(II)I"⟩, prog_2_method_13_code, 4, (some .int), 0, false, cdX0_splitSlug)
abbrev kX0_splitSlug : Nat := 101
set_option maxRecDepth 100000 in
theorem ckX0_splitSlug : axCk 0 false 0 prog_2_method_13_code cdX0_splitSlug = true := by decide +kernel
def cdX0_handOverNeeds : List axE := [
  (0, 0, .int 0, 0, 0, [], 1), (1, 4, .null, 3, 0, [], 2), (2, 1, .null, 3, 0, [], 3), (3, 2, .null, 0, 0, [], 4), (4, 36, .null, 0, 5, [], 7), (7, 39, .null, 0, 0, [], 8), (8, 32, .null, 3, 43, [], 11), (11, 2, .null, 0, 0, [], 12),
  (12, 36, .null, 0, 5, [], 15), (15, 1, .null, 3, 0, [], 16), (16, 40, .null, 0, 0, [], 17), (17, 1, .null, 1, 0, [], 18), (18, 53, .null, 10, 2, [], 21), (21, 33, .null, 0, 37, [], 24), (24, 2, .null, 0, 0, [], 25), (25, 36, .null, 0, 5, [], 28),
  (28, 1, .null, 3, 0, [], 29), (29, 10, .null, 0, 0, [], 30), (30, 40, .null, 0, 0, [], 31), (31, 1, .null, 2, 0, [], 32), (32, 53, .null, 48, 1, [], 35), (35, 15, .null, 0, 0, [], 36), (36, 42, .null, 0, 0, [], 37), (37, 6, .int 1, 3, 0, [], 40),
  (40, 9, .null, 0, 0, [], 2), (43, 2, .null, 0, 0, [], 44), (44, 36, .null, 0, 5, [], 47), (47, 1, .null, 2, 0, [], 48), (48, 1, .null, 1, 0, [], 49), (49, 53, .null, 48, 1, [], 52), (52, 53, .null, 14, 3, [], 55), (55, 50, .null, 0, 0, [], 55)]
def mtX0_handOverNeeds : axM := (⟨"BeatSlugs$Board", "handOverNeeds", "(II)V"⟩, prog_2_method_19_code, 4, none, 0, false, cdX0_handOverNeeds)
abbrev kX0_handOverNeeds : Nat := 102
set_option maxRecDepth 100000 in
theorem ckX0_handOverNeeds : axCk 0 false 0 prog_2_method_19_code cdX0_handOverNeeds = true := by decide +kernel
def cdX0_handOverTurn : List axE := [
  (0, 2, .null, 0, 0, [], 1), (1, 1, .null, 1, 0, [], 2), (2, 52, .ref 0, 46, 1, [], 5), (5, 33, .null, 0, 36, [], 8), (8, 2, .null, 0, 0, [], 9), (9, 7, .null, 0, 0, [], 10), (10, 36, .null, 0, 7, [], 13), (13, 1, .null, 1, 0, [], 14),
  (14, 53, .null, 48, 1, [], 17), (17, 0, .int (-1), 0, 0, [], 18), (18, 16, .null, 0, 0, [], 19), (19, 14, .null, 0, 0, [], 20), (20, 37, .null, 0, 7, [], 23), (23, 2, .null, 0, 0, [], 24), (24, 7, .null, 0, 0, [], 25), (25, 36, .null, 0, 7, [], 28),
  (28, 1, .null, 2, 0, [], 29), (29, 53, .null, 48, 1, [], 32), (32, 15, .null, 0, 0, [], 33), (33, 37, .null, 0, 7, [], 36), (36, 50, .null, 0, 0, [], 36)]
def mtX0_handOverTurn : axM := (⟨"BeatSlugs$Board", "handOverTurn", "(II)V"⟩, prog_2_method_20_code, 3, none, 0, false, cdX0_handOverTurn)
abbrev kX0_handOverTurn : Nat := 103
set_option maxRecDepth 100000 in
theorem ckX0_handOverTurn : axCk 0 false 0 prog_2_method_20_code cdX0_handOverTurn = true := by decide +kernel
def cdL_fits : List axE := [
  (0, 2, .null, 0, 0, [], 1), (1, 53, .null, 92, 1, [], 4), (4, 30, .null, 2, 0, [], 5), (5, 2, .null, 0, 0, [], 6), (6, 1, .null, 1, 0, [], 7), (7, 52, .ref 4, 26, 1, [], 10), (10, 4, .null, 4, 0, [], 12), (12, 2, .null, 0, 0, [], 13),
  (13, 0, .int 2, 0, 0, [], 14), (14, 52, .ref 4, 56, 1, [], 17), (17, 4, .null, 5, 0, [], 19), (19, 2, .null, 0, 0, [], 20), (20, 1, .null, 1, 0, [], 21), (21, 52, .ref 4, 105, 1, [], 24), (24, 4, .null, 6, 0, [], 26), (26, 1, .null, 6, 0, [], 28),
  (28, 33, .null, 3, 81, [], 31), (31, 1, .null, 6, 0, [], 33), (33, 1, .null, 4, 0, [], 35), (35, 32, .null, 1, 79, [], 38), (38, 2, .null, 0, 0, [], 39), (39, 53, .null, 92, 1, [], 42), (42, 3, .null, 2, 0, [], 43), (43, 29, .null, 0, 0, [], 44),
  (44, 33, .null, 1, 79, [], 47), (47, 1, .null, 6, 0, [], 49), (49, 0, .int (-1), 0, 0, [], 50), (50, 32, .null, 1, 57, [], 53), (53, 0, .int 1, 0, 0, [], 54), (54, 9, .null, 0, 0, [], 58), (57, 0, .int 0, 0, 0, [], 58), (58, 1, .null, 1, 0, [], 59),
  (59, 2, .null, 0, 0, [], 60), (60, 0, .int 1, 0, 0, [], 61), (61, 52, .ref 4, 56, 1, [], 64), (64, 32, .null, 2, 71, [], 67), (67, 0, .int 1, 0, 0, [], 68), (68, 9, .null, 0, 0, [], 72), (71, 0, .int 0, 0, 0, [], 72), (72, 32, .null, 1, 79, [], 75),
  (75, 0, .int 1, 0, 0, [], 76), (76, 9, .null, 0, 0, [], 80), (79, 0, .int 0, 0, 0, [], 80), (80, 49, .null, 2, 0, [], 80), (81, 1, .null, 6, 0, [], 83), (83, 1, .null, 4, 0, [], 85), (85, 32, .null, 1, 155, [], 88), (88, 2, .null, 0, 0, [], 89),
  (89, 0, .int 2, 0, 0, [], 90), (90, 52, .ref 4, 56, 1, [], 93), (93, 1, .null, 5, 0, [], 95), (95, 1, .null, 6, 0, [], 97), (97, 12, .null, 0, 0, [], 98), (98, 32, .null, 1, 155, [], 101), (101, 2, .null, 0, 0, [], 102), (102, 1, .null, 1, 0, [], 103),
  (103, 0, .int 0, 0, 0, [], 104), (104, 52, .ref 4, 65, 2, [], 107), (107, 2, .null, 0, 0, [], 108), (108, 1, .null, 1, 0, [], 109), (109, 0, .int 1, 0, 0, [], 110), (110, 52, .ref 4, 65, 2, [], 113), (113, 2, .null, 0, 0, [], 114), (114, 0, .int 8, 0, 0, [], 116),
  (116, 52, .ref 4, 56, 1, [], 119), (119, 11, .null, 0, 0, [], 120), (120, 32, .null, 4, 155, [], 123), (123, 1, .null, 6, 0, [], 125), (125, 33, .null, 0, 143, [], 128), (128, 2, .null, 0, 0, [], 129), (129, 1, .null, 1, 0, [], 130), (130, 0, .int 0, 0, 0, [], 131),
  (131, 52, .ref 4, 65, 2, [], 134), (134, 2, .null, 0, 0, [], 135), (135, 1, .null, 1, 0, [], 136), (136, 0, .int 1, 0, 0, [], 137), (137, 52, .ref 4, 65, 2, [], 140), (140, 32, .null, 2, 155, [], 143), (143, 2, .null, 0, 0, [], 144), (144, 1, .null, 1, 0, [], 145),
  (145, 52, .ref 4, 26, 1, [], 148), (148, 33, .null, 2, 155, [], 151), (151, 0, .int 1, 0, 0, [], 152), (152, 9, .null, 0, 0, [], 156), (155, 0, .int 0, 0, 0, [], 156), (156, 49, .null, 2, 0, [], 156)]
def mtL_fits : axM := (⟨"BeatSlugsLaw", "fits", "(LBeatSlugs;I)Z"⟩, method_9_code, 7, (some .boolean), 6, false, cdL_fits)
abbrev kL_fits : Nat := 104
set_option maxRecDepth 100000 in
theorem ckL_fits : axCk 6 false 2 method_9_code cdL_fits = true := by decide +kernel
def cdX4_fit : List axE := [
  (0, 2, .null, 0, 0, [], 1), (1, 36, .null, 4, 1, [], 4), (4, 2, .null, 0, 0, [], 5), (5, 36, .null, 4, 0, [], 8), (8, 52, .ref 1, 68, 1, [], 11), (11, 2, .null, 0, 0, [], 12), (12, 36, .null, 4, 1, [], 15), (15, 2, .null, 0, 0, [], 16),
  (16, 36, .null, 4, 0, [], 19), (19, 1, .null, 1, 0, [], 20), (20, 52, .ref 0, 106, 1, [], 23), (23, 52, .ref 1, 73, 1, [], 26), (26, 49, .null, 0, 0, [], 26)]
def mtX4_fit : axM := (⟨"BeatSlugs", "fit", "(I)I"⟩, prog_1_method_13_code, 2, (some .int), 4, false, cdX4_fit)
abbrev kX4_fit : Nat := 105
set_option maxRecDepth 100000 in
theorem ckX4_fit : axCk 4 false 0 prog_1_method_13_code cdX4_fit = true := by decide +kernel
def cdX0_fitAct : List axE := [
  (0, 2, .null, 0, 0, [], 1), (1, 1, .null, 1, 0, [], 2), (2, 52, .ref 0, 27, 1, [], 5), (5, 4, .null, 2, 0, [], 6), (6, 1, .null, 2, 0, [], 7), (7, 33, .null, 3, 12, [], 10), (10, 1, .null, 2, 0, [], 11), (11, 49, .null, 0, 0, [], 11),
  (12, 2, .null, 0, 0, [], 13), (13, 1, .null, 1, 0, [], 14), (14, 52, .ref 0, 32, 1, [], 17), (17, 4, .null, 3, 0, [], 18), (18, 1, .null, 2, 0, [], 19), (19, 4, .null, 4, 0, [], 21), (21, 2, .null, 0, 0, [], 22), (22, 1, .null, 1, 0, [], 23),
  (23, 0, .int 1, 0, 0, [], 24), (24, 11, .null, 0, 0, [], 25), (25, 52, .ref 0, 32, 1, [], 28), (28, 0, .int 1, 0, 0, [], 29), (29, 12, .null, 0, 0, [], 30), (30, 4, .null, 5, 0, [], 32), (32, 1, .null, 5, 0, [], 34), (34, 1, .null, 3, 0, [], 35),
  (35, 32, .null, 2, 98, [], 38), (38, 1, .null, 4, 0, [], 40), (40, 33, .null, 5, 98, [], 43), (43, 2, .null, 0, 0, [], 44), (44, 36, .null, 0, 2, [], 47), (47, 1, .null, 5, 0, [], 49), (49, 53, .null, 9, 2, [], 52), (52, 4, .null, 6, 0, [], 54),
  (54, 1, .null, 4, 0, [], 56), (56, 2, .null, 0, 0, [], 57), (57, 1, .null, 6, 0, [], 59), (59, 52, .ref 0, 35, 1, [], 62), (62, 58, .null, 0, 0, [], 65), (65, 4, .null, 7, 0, [], 67), (67, 2, .null, 0, 0, [], 68), (68, 36, .null, 0, 4, [], 71),
  (71, 1, .null, 6, 0, [], 73), (73, 2, .null, 0, 0, [], 74), (74, 1, .null, 6, 0, [], 76), (76, 52, .ref 0, 45, 1, [], 79), (79, 1, .null, 7, 0, [], 81), (81, 12, .null, 0, 0, [], 82), (82, 53, .null, 14, 3, [], 85), (85, 1, .null, 4, 0, [], 87),
  (87, 1, .null, 7, 0, [], 89), (89, 12, .null, 0, 0, [], 90), (90, 4, .null, 4, 0, [], 92), (92, 6, .int (-1), 5, 0, [], 95), (95, 9, .null, 0, 0, [], 32), (98, 1, .null, 2, 0, [], 99), (99, 49, .null, 0, 0, [], 99)]
def mtX0_fitAct : axM := (⟨"BeatSlugs$Board", "fitAct", "(I)I"⟩, prog_2_method_14_code, 8, (some .int), 0, false, cdX0_fitAct)
abbrev kX0_fitAct : Nat := 106
set_option maxRecDepth 100000 in
theorem ckX0_fitAct : axCk 0 false 0 prog_2_method_14_code cdX0_fitAct = true := by decide +kernel
def cdX4_target : List axE := [
  (0, 2, .null, 0, 0, [], 1), (1, 36, .null, 4, 1, [], 4), (4, 2, .null, 0, 0, [], 5), (5, 36, .null, 4, 0, [], 8), (8, 52, .ref 1, 68, 1, [], 11), (11, 2, .null, 0, 0, [], 12), (12, 36, .null, 4, 1, [], 15), (15, 2, .null, 0, 0, [], 16),
  (16, 36, .null, 4, 0, [], 19), (19, 1, .null, 1, 0, [], 20), (20, 1, .null, 2, 0, [], 21), (21, 52, .ref 0, 108, 2, [], 24), (24, 52, .ref 1, 73, 1, [], 27), (27, 49, .null, 0, 0, [], 27)]
def mtX4_target : axM := (⟨"BeatSlugs", "target", "(II)I"⟩, prog_1_method_3_code, 3, (some .int), 4, false, cdX4_target)
abbrev kX4_target : Nat := 107
set_option maxRecDepth 100000 in
theorem ckX4_target : axCk 4 false 0 prog_1_method_3_code cdX4_target = true := by decide +kernel
def cdX0_changeTarget : List axE := [
  (0, 1, .null, 1, 0, [], 1), (1, 33, .null, 2, 13, [], 4), (4, 1, .null, 1, 0, [], 5), (5, 2, .null, 0, 0, [], 6), (6, 36, .null, 0, 1, [], 9), (9, 39, .null, 0, 0, [], 10), (10, 32, .null, 2, 15, [], 13), (13, 0, .int (-1), 0, 0, [], 14),
  (14, 49, .null, 0, 0, [], 14), (15, 1, .null, 2, 0, [], 16), (16, 0, .int 1, 0, 0, [], 17), (17, 32, .null, 2, 27, [], 20), (20, 1, .null, 2, 0, [], 21), (21, 0, .int 999, 0, 0, [], 24), (24, 32, .null, 5, 30, [], 27), (27, 0, .int (-2), 0, 0, [], 29),
  (29, 49, .null, 0, 0, [], 29), (30, 2, .null, 0, 0, [], 31), (31, 36, .null, 0, 1, [], 34), (34, 1, .null, 1, 0, [], 35), (35, 40, .null, 0, 0, [], 36), (36, 4, .null, 3, 0, [], 37), (37, 2, .null, 0, 0, [], 38), (38, 36, .null, 0, 1, [], 41),
  (41, 1, .null, 1, 0, [], 42), (42, 1, .null, 2, 0, [], 43), (43, 42, .null, 0, 0, [], 44), (44, 1, .null, 3, 0, [], 45), (45, 49, .null, 0, 0, [], 45)]
def mtX0_changeTarget : axM := (⟨"BeatSlugs$Board", "changeTarget", "(II)I"⟩, prog_2_method_4_code, 4, (some .int), 0, false, cdX0_changeTarget)
abbrev kX0_changeTarget : Nat := 108
set_option maxRecDepth 100000 in
theorem ckX0_changeTarget : axCk 0 false 0 prog_2_method_4_code cdX0_changeTarget = true := by decide +kernel
def cdX4_set : List axE := [
  (0, 2, .null, 0, 0, [], 1), (1, 36, .null, 4, 1, [], 4), (4, 2, .null, 0, 0, [], 5), (5, 36, .null, 4, 0, [], 8), (8, 52, .ref 1, 68, 1, [], 11), (11, 2, .null, 0, 0, [], 12), (12, 36, .null, 4, 1, [], 15), (15, 2, .null, 0, 0, [], 16),
  (16, 36, .null, 4, 0, [], 19), (19, 1, .null, 1, 0, [], 20), (20, 1, .null, 2, 0, [], 21), (21, 52, .ref 0, 110, 2, [], 24), (24, 52, .ref 1, 73, 1, [], 27), (27, 49, .null, 0, 0, [], 27)]
def mtX4_set : axM := (⟨"BeatSlugs", "set", "(II)I"⟩, prog_1_method_2_code, 3, (some .int), 4, false, cdX4_set)
abbrev kX4_set : Nat := 109
set_option maxRecDepth 100000 in
theorem ckX4_set : axCk 4 false 0 prog_1_method_2_code cdX4_set = true := by decide +kernel
def cdX0_changeSetting : List axE := [
  (0, 1, .null, 1, 0, [], 1), (1, 33, .null, 2, 13, [], 4), (4, 1, .null, 1, 0, [], 5), (5, 2, .null, 0, 0, [], 6), (6, 36, .null, 0, 0, [], 9), (9, 39, .null, 0, 0, [], 10), (10, 32, .null, 2, 16, [], 13), (13, 0, .int (-2), 0, 0, [], 15),
  (15, 49, .null, 0, 0, [], 15), (16, 1, .null, 2, 0, [], 17), (17, 38, .null, 1, 0, [], 20), (20, 1, .null, 1, 0, [], 21), (21, 53, .null, 9, 2, [], 24), (24, 32, .null, 2, 38, [], 27), (27, 1, .null, 2, 0, [], 28), (28, 38, .null, 2, 0, [], 31),
  (31, 1, .null, 1, 0, [], 32), (32, 53, .null, 9, 2, [], 35), (35, 32, .null, 5, 41, [], 38), (38, 0, .int (-2), 0, 0, [], 40), (40, 49, .null, 0, 0, [], 40), (41, 2, .null, 0, 0, [], 42), (42, 36, .null, 0, 0, [], 45), (45, 1, .null, 1, 0, [], 46),
  (46, 40, .null, 0, 0, [], 47), (47, 4, .null, 3, 0, [], 48), (48, 2, .null, 0, 0, [], 49), (49, 36, .null, 0, 0, [], 52), (52, 1, .null, 1, 0, [], 53), (53, 1, .null, 2, 0, [], 54), (54, 42, .null, 0, 0, [], 55), (55, 1, .null, 3, 0, [], 56),
  (56, 49, .null, 0, 0, [], 56)]
def mtX0_changeSetting : axM := (⟨"BeatSlugs$Board", "changeSetting", "(II)I"⟩, prog_2_method_3_code, 4, (some .int), 0, false, cdX0_changeSetting)
abbrev kX0_changeSetting : Nat := 110
set_option maxRecDepth 100000 in
theorem ckX0_changeSetting : axCk 0 false 0 prog_2_method_3_code cdX0_changeSetting = true := by decide +kernel
