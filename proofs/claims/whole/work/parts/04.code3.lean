/-! The code of the methods as rows of the abstract machine. Written by wip/whole/gen2.py. -/
def cdX5_putIn : List axE := [
  (0, 2, .null, 0, 0, [], 1), (1, 36, .null, 5, 0, [], 4), (4, 0, .int 0, 0, 0, [], 5), (5, 40, .null, 0, 0, [], 6), (6, 4, .null, 3, 0, [], 7), (7, 1, .null, 3, 0, [], 8), (8, 1, .null, 1, 0, [], 9), (9, 32, .null, 5, 38, [], 12),
  (12, 2, .null, 0, 0, [], 13), (13, 36, .null, 5, 0, [], 16), (16, 0, .int 10, 0, 0, [], 18), (18, 1, .null, 3, 0, [], 19), (19, 11, .null, 0, 0, [], 20), (20, 2, .null, 0, 0, [], 21), (21, 36, .null, 5, 0, [], 24), (24, 0, .int 10, 0, 0, [], 26),
  (26, 1, .null, 3, 0, [], 27), (27, 11, .null, 0, 0, [], 28), (28, 0, .int 1, 0, 0, [], 29), (29, 12, .null, 0, 0, [], 30), (30, 40, .null, 0, 0, [], 31), (31, 42, .null, 0, 0, [], 32), (32, 6, .int (-1), 3, 0, [], 35), (35, 9, .null, 0, 0, [], 7),
  (38, 2, .null, 0, 0, [], 39), (39, 36, .null, 5, 0, [], 42), (42, 0, .int 10, 0, 0, [], 44), (44, 1, .null, 1, 0, [], 45), (45, 11, .null, 0, 0, [], 46), (46, 1, .null, 2, 0, [], 47), (47, 42, .null, 0, 0, [], 48), (48, 2, .null, 0, 0, [], 49),
  (49, 36, .null, 5, 0, [], 52), (52, 0, .int 0, 0, 0, [], 53), (53, 10, .null, 0, 0, [], 54), (54, 40, .null, 0, 0, [], 55), (55, 0, .int 1, 0, 0, [], 56), (56, 11, .null, 0, 0, [], 57), (57, 42, .null, 0, 0, [], 58), (58, 50, .null, 0, 0, [], 58)]
def mtX5_putIn : axM := (⟨"BeatSlugsModel", "putIn", "(II)V"⟩, prog_7_method_13_code, 4, none, 5, false, cdX5_putIn)
abbrev kX5_putIn : Nat := 140
set_option maxRecDepth 100000 in
theorem ckX5_putIn : axCk 5 false 0 prog_7_method_13_code cdX5_putIn = true := by decide +kernel
def cdX5_ends : List axE := [
  (0, 1, .null, 1, 0, [], 1), (1, 33, .null, 3, 20, [], 4), (4, 2, .null, 0, 0, [], 5), (5, 36, .null, 5, 5, [], 8), (8, 0, .int 0, 0, 0, [], 9), (9, 2, .null, 0, 0, [], 10), (10, 36, .null, 5, 0, [], 13), (13, 0, .int 0, 0, 0, [], 14),
  (14, 53, .null, 132, 4, [], 17), (17, 9, .null, 0, 0, [], 28), (20, 2, .null, 0, 0, [], 21), (21, 2, .null, 0, 0, [], 22), (22, 36, .null, 5, 5, [], 25), (25, 52, .ref 5, 131, 1, [], 28), (28, 1, .null, 1, 0, [], 29), (29, 49, .null, 0, 0, [], 29)]
def mtX5_ends : axM := (⟨"BeatSlugsModel", "ends", "(I)I"⟩, prog_7_method_38_code, 2, (some .int), 5, false, cdX5_ends)
abbrev kX5_ends : Nat := 141
set_option maxRecDepth 100000 in
theorem ckX5_ends : axCk 5 false 0 prog_7_method_38_code cdX5_ends = true := by decide +kernel
def cdX5_drop : List axE := [
  (0, 2, .null, 0, 0, [], 1), (1, 1, .null, 1, 0, [], 2), (2, 52, .ref 5, 143, 1, [], 5), (5, 33, .null, 1, 10, [], 8), (8, 0, .int (-1), 0, 0, [], 9), (9, 49, .null, 0, 0, [], 9), (10, 2, .null, 0, 0, [], 11), (11, 2, .null, 0, 0, [], 12),
  (12, 36, .null, 5, 0, [], 15), (15, 52, .ref 5, 131, 1, [], 18), (18, 2, .null, 0, 0, [], 19), (19, 2, .null, 0, 0, [], 20), (20, 1, .null, 1, 0, [], 21), (21, 52, .ref 5, 144, 1, [], 24), (24, 52, .ref 5, 145, 1, [], 27), (27, 2, .null, 0, 0, [], 28),
  (28, 1, .null, 1, 0, [], 29), (29, 0, .int 0, 0, 0, [], 30), (30, 0, .int 0, 0, 0, [], 31), (31, 52, .ref 5, 139, 3, [], 34), (34, 2, .null, 0, 0, [], 35), (35, 1, .null, 1, 0, [], 36), (36, 0, .int 4, 0, 0, [], 37), (37, 0, .int 0, 0, 0, [], 38),
  (38, 52, .ref 5, 139, 3, [], 41), (41, 0, .int 0, 0, 0, [], 42), (42, 4, .null, 2, 0, [], 43), (43, 1, .null, 2, 0, [], 44), (44, 0, .int 24, 0, 0, [], 46), (46, 32, .null, 3, 73, [], 49), (49, 2, .null, 0, 0, [], 50), (50, 1, .null, 2, 0, [], 51),
  (51, 0, .int 4, 0, 0, [], 52), (52, 2, .null, 0, 0, [], 53), (53, 1, .null, 2, 0, [], 54), (54, 0, .int 4, 0, 0, [], 55), (55, 52, .ref 5, 138, 2, [], 58), (58, 0, .int 1, 0, 0, [], 59), (59, 1, .null, 1, 0, [], 60), (60, 17, .null, 0, 0, [], 61),
  (61, 0, .int (-1), 0, 0, [], 62), (62, 16, .null, 0, 0, [], 63), (63, 14, .null, 0, 0, [], 64), (64, 52, .ref 5, 139, 3, [], 67), (67, 6, .int 1, 2, 0, [], 70), (70, 9, .null, 0, 0, [], 43), (73, 2, .null, 0, 0, [], 74), (74, 36, .null, 5, 0, [], 77),
  (77, 0, .int 0, 0, 0, [], 78), (78, 40, .null, 0, 0, [], 79), (79, 49, .null, 0, 0, [], 79)]
def mtX5_drop : axM := (⟨"BeatSlugsModel", "drop", "(I)I"⟩, prog_7_method_43_code, 3, (some .int), 5, false, cdX5_drop)
abbrev kX5_drop : Nat := 142
set_option maxRecDepth 100000 in
theorem ckX5_drop : axCk 5 false 0 prog_7_method_43_code cdX5_drop = true := by decide +kernel
def cdX5_isSlug : List axE := [
  (0, 1, .null, 1, 0, [], 1), (1, 0, .int 0, 0, 0, [], 2), (2, 0, .int 23, 0, 0, [], 4), (4, 53, .null, 129, 3, [], 7), (7, 33, .null, 0, 24, [], 10), (10, 2, .null, 0, 0, [], 11), (11, 1, .null, 1, 0, [], 12), (12, 0, .int 0, 0, 0, [], 13),
  (13, 52, .ref 5, 138, 2, [], 16), (16, 0, .int 1, 0, 0, [], 17), (17, 32, .null, 1, 24, [], 20), (20, 0, .int 1, 0, 0, [], 21), (21, 9, .null, 0, 0, [], 25), (24, 0, .int 0, 0, 0, [], 25), (25, 49, .null, 2, 0, [], 25)]
def mtX5_isSlug : axM := (⟨"BeatSlugsModel", "isSlug", "(I)Z"⟩, prog_7_method_8_code, 2, (some .boolean), 5, false, cdX5_isSlug)
abbrev kX5_isSlug : Nat := 143
set_option maxRecDepth 100000 in
theorem ckX5_isSlug : axCk 5 false 2 prog_7_method_8_code cdX5_isSlug = true := by decide +kernel
def cdX5_placeOf : List axE := [
  (0, 0, .int 0, 0, 0, [], 1), (1, 4, .null, 2, 0, [], 2), (2, 2, .null, 0, 0, [], 3), (3, 36, .null, 5, 0, [], 6), (6, 0, .int 10, 0, 0, [], 8), (8, 1, .null, 2, 0, [], 9), (9, 11, .null, 0, 0, [], 10), (10, 40, .null, 0, 0, [], 11),
  (11, 1, .null, 1, 0, [], 12), (12, 32, .null, 0, 21, [], 15), (15, 6, .int 1, 2, 0, [], 18), (18, 9, .null, 0, 0, [], 2), (21, 1, .null, 2, 0, [], 22), (22, 49, .null, 0, 0, [], 22)]
def mtX5_placeOf : axM := (⟨"BeatSlugsModel", "placeOf", "(I)I"⟩, prog_7_method_11_code, 3, (some .int), 5, false, cdX5_placeOf)
abbrev kX5_placeOf : Nat := 144
set_option maxRecDepth 100000 in
theorem ckX5_placeOf : axCk 5 false 0 prog_7_method_11_code cdX5_placeOf = true := by decide +kernel
def cdX5_takeOut : List axE := [
  (0, 2, .null, 0, 0, [], 1), (1, 36, .null, 5, 0, [], 4), (4, 0, .int 0, 0, 0, [], 5), (5, 10, .null, 0, 0, [], 6), (6, 40, .null, 0, 0, [], 7), (7, 0, .int 1, 0, 0, [], 8), (8, 12, .null, 0, 0, [], 9), (9, 42, .null, 0, 0, [], 10),
  (10, 1, .null, 1, 0, [], 11), (11, 4, .null, 2, 0, [], 12), (12, 1, .null, 2, 0, [], 13), (13, 2, .null, 0, 0, [], 14), (14, 36, .null, 5, 0, [], 17), (17, 0, .int 0, 0, 0, [], 18), (18, 40, .null, 0, 0, [], 19), (19, 32, .null, 3, 48, [], 22),
  (22, 2, .null, 0, 0, [], 23), (23, 36, .null, 5, 0, [], 26), (26, 0, .int 10, 0, 0, [], 28), (28, 1, .null, 2, 0, [], 29), (29, 11, .null, 0, 0, [], 30), (30, 2, .null, 0, 0, [], 31), (31, 36, .null, 5, 0, [], 34), (34, 0, .int 10, 0, 0, [], 36),
  (36, 1, .null, 2, 0, [], 37), (37, 11, .null, 0, 0, [], 38), (38, 0, .int 1, 0, 0, [], 39), (39, 11, .null, 0, 0, [], 40), (40, 40, .null, 0, 0, [], 41), (41, 42, .null, 0, 0, [], 42), (42, 6, .int 1, 2, 0, [], 45), (45, 9, .null, 0, 0, [], 12),
  (48, 50, .null, 0, 0, [], 48)]
def mtX5_takeOut : axM := (⟨"BeatSlugsModel", "takeOut", "(I)V"⟩, prog_7_method_12_code, 3, none, 5, false, cdX5_takeOut)
abbrev kX5_takeOut : Nat := 145
set_option maxRecDepth 100000 in
theorem ckX5_takeOut : axCk 5 false 0 prog_7_method_12_code cdX5_takeOut = true := by decide +kernel
def cdX5_turn : List axE := [
  (0, 2, .null, 0, 0, [], 1), (1, 1, .null, 1, 0, [], 2), (2, 52, .ref 5, 143, 1, [], 5), (5, 33, .null, 1, 10, [], 8), (8, 0, .int (-1), 0, 0, [], 9), (9, 49, .null, 0, 0, [], 9), (10, 2, .null, 0, 0, [], 11), (11, 2, .null, 0, 0, [], 12),
  (12, 36, .null, 5, 0, [], 15), (15, 52, .ref 5, 131, 1, [], 18), (18, 2, .null, 0, 0, [], 19), (19, 1, .null, 1, 0, [], 20), (20, 0, .int 3, 0, 0, [], 21), (21, 0, .int 1, 0, 0, [], 22), (22, 2, .null, 0, 0, [], 23), (23, 1, .null, 1, 0, [], 24),
  (24, 0, .int 3, 0, 0, [], 25), (25, 52, .ref 5, 138, 2, [], 28), (28, 12, .null, 0, 0, [], 29), (29, 52, .ref 5, 139, 3, [], 32), (32, 2, .null, 0, 0, [], 33), (33, 1, .null, 1, 0, [], 34), (34, 0, .int 3, 0, 0, [], 35), (35, 52, .ref 5, 138, 2, [], 38),
  (38, 49, .null, 0, 0, [], 38)]
def mtX5_turn : axM := (⟨"BeatSlugsModel", "turn", "(I)I"⟩, prog_7_method_44_code, 2, (some .int), 5, false, cdX5_turn)
abbrev kX5_turn : Nat := 146
set_option maxRecDepth 100000 in
theorem ckX5_turn : axCk 5 false 0 prog_7_method_44_code cdX5_turn = true := by decide +kernel
def cdX5_need : List axE := [
  (0, 2, .null, 0, 0, [], 1), (1, 52, .ref 5, 135, 0, [], 4), (4, 2, .null, 0, 0, [], 5), (5, 2, .null, 0, 0, [], 6), (6, 1, .null, 1, 0, [], 7), (7, 1, .null, 2, 0, [], 8), (8, 52, .ref 5, 148, 2, [], 11), (11, 52, .ref 5, 141, 1, [], 14),
  (14, 49, .null, 0, 0, [], 14)]
def mtX5_need : axM := (⟨"BeatSlugsModel", "need", "(II)I"⟩, prog_7_method_45_code, 3, (some .int), 5, false, cdX5_need)
abbrev kX5_need : Nat := 147
set_option maxRecDepth 100000 in
theorem ckX5_need : axCk 5 false 0 prog_7_method_45_code cdX5_need = true := by decide +kernel
def cdX5_doNeed : List axE := [
  (0, 2, .null, 0, 0, [], 1), (1, 1, .null, 1, 0, [], 2), (2, 52, .ref 5, 143, 1, [], 5), (5, 33, .null, 0, 16, [], 8), (8, 2, .null, 0, 0, [], 9), (9, 1, .null, 2, 0, [], 10), (10, 52, .ref 5, 143, 1, [], 13), (13, 33, .null, 1, 18, [], 16),
  (16, 0, .int (-1), 0, 0, [], 17), (17, 49, .null, 0, 0, [], 17), (18, 1, .null, 1, 0, [], 19), (19, 1, .null, 2, 0, [], 20), (20, 32, .null, 1, 26, [], 23), (23, 0, .int (-2), 0, 0, [], 25), (25, 49, .null, 0, 0, [], 25), (26, 2, .null, 0, 0, [], 27),
  (27, 1, .null, 1, 0, [], 28), (28, 0, .int 4, 0, 0, [], 29), (29, 52, .ref 5, 138, 2, [], 32), (32, 1, .null, 2, 0, [], 33), (33, 53, .null, 149, 2, [], 36), (36, 33, .null, 1, 55, [], 39), (39, 2, .null, 0, 0, [], 40), (40, 1, .null, 2, 0, [], 41),
  (41, 52, .ref 5, 144, 1, [], 44), (44, 2, .null, 0, 0, [], 45), (45, 1, .null, 1, 0, [], 46), (46, 52, .ref 5, 144, 1, [], 49), (49, 32, .null, 5, 55, [], 52), (52, 0, .int (-5), 0, 0, [], 54), (54, 49, .null, 0, 0, [], 54), (55, 2, .null, 0, 0, [], 56),
  (56, 1, .null, 1, 0, [], 57), (57, 0, .int 4, 0, 0, [], 58), (58, 2, .null, 0, 0, [], 59), (59, 1, .null, 1, 0, [], 60), (60, 0, .int 4, 0, 0, [], 61), (61, 52, .ref 5, 138, 2, [], 64), (64, 0, .int 1, 0, 0, [], 65), (65, 1, .null, 2, 0, [], 66),
  (66, 17, .null, 0, 0, [], 67), (67, 16, .null, 0, 0, [], 68), (68, 52, .ref 5, 139, 3, [], 71), (71, 2, .null, 0, 0, [], 72), (72, 1, .null, 1, 0, [], 73), (73, 0, .int 4, 0, 0, [], 74), (74, 52, .ref 5, 138, 2, [], 77), (77, 53, .null, 150, 1, [], 80),
  (80, 49, .null, 0, 0, [], 80)]
def mtX5_doNeed : axM := (⟨"BeatSlugsModel", "doNeed", "(II)I"⟩, prog_7_method_31_code, 3, (some .int), 5, false, cdX5_doNeed)
abbrev kX5_doNeed : Nat := 148
set_option maxRecDepth 100000 in
theorem ckX5_doNeed : axCk 5 false 0 prog_7_method_31_code cdX5_doNeed = true := by decide +kernel
def cdX5_has : List axE := [
  (0, 1, .null, 0, 0, [], 1), (1, 1, .null, 1, 0, [], 2), (2, 18, .null, 0, 0, [], 3), (3, 0, .int 1, 0, 0, [], 4), (4, 14, .null, 0, 0, [], 5), (5, 0, .int 1, 0, 0, [], 6), (6, 32, .null, 1, 13, [], 9), (9, 0, .int 1, 0, 0, [], 10),
  (10, 9, .null, 0, 0, [], 14), (13, 0, .int 0, 0, 0, [], 14), (14, 49, .null, 2, 0, [], 14)]
def mtX5_has : axM := (⟨"BeatSlugsModel", "has", "(II)Z"⟩, prog_7_method_4_code, 2, (some .boolean), 5, false, cdX5_has)
abbrev kX5_has : Nat := 149
set_option maxRecDepth 100000 in
theorem ckX5_has : axCk 5 false 2 prog_7_method_4_code cdX5_has = true := by decide +kernel
def cdX5_bits : List axE := [
  (0, 0, .int 0, 0, 0, [], 1), (1, 4, .null, 1, 0, [], 2), (2, 1, .null, 0, 0, [], 3), (3, 4, .null, 2, 0, [], 4), (4, 1, .null, 2, 0, [], 5), (5, 33, .null, 0, 20, [], 8), (8, 6, .int 1, 1, 0, [], 11), (11, 1, .null, 2, 0, [], 12),
  (12, 1, .null, 2, 0, [], 13), (13, 0, .int 1, 0, 0, [], 14), (14, 12, .null, 0, 0, [], 15), (15, 14, .null, 0, 0, [], 16), (16, 4, .null, 2, 0, [], 17), (17, 9, .null, 0, 0, [], 4), (20, 1, .null, 1, 0, [], 21), (21, 49, .null, 0, 0, [], 21)]
def mtX5_bits : axM := (⟨"BeatSlugsModel", "bits", "(I)I"⟩, prog_7_method_5_code, 3, (some .int), 5, false, cdX5_bits)
abbrev kX5_bits : Nat := 150
set_option maxRecDepth 100000 in
theorem ckX5_bits : axCk 5 false 0 prog_7_method_5_code cdX5_bits = true := by decide +kernel
def cdX5_trim : List axE := [
  (0, 2, .null, 0, 0, [], 1), (1, 52, .ref 5, 135, 0, [], 4), (4, 2, .null, 0, 0, [], 5), (5, 2, .null, 0, 0, [], 6), (6, 1, .null, 1, 0, [], 7), (7, 1, .null, 2, 0, [], 8), (8, 52, .ref 5, 152, 2, [], 11), (11, 52, .ref 5, 141, 1, [], 14),
  (14, 49, .null, 0, 0, [], 14)]
def mtX5_trim : axM := (⟨"BeatSlugsModel", "trim", "(II)I"⟩, prog_7_method_46_code, 3, (some .int), 5, false, cdX5_trim)
abbrev kX5_trim : Nat := 151
set_option maxRecDepth 100000 in
theorem ckX5_trim : axCk 5 false 0 prog_7_method_46_code cdX5_trim = true := by decide +kernel
def cdX5_doTrim : List axE := [
  (0, 2, .null, 0, 0, [], 1), (1, 1, .null, 1, 0, [], 2), (2, 52, .ref 5, 143, 1, [], 5), (5, 33, .null, 1, 10, [], 8), (8, 0, .int (-1), 0, 0, [], 9), (9, 49, .null, 0, 0, [], 9), (10, 1, .null, 2, 0, [], 11), (11, 0, .int 1, 0, 0, [], 12),
  (12, 0, .int 98, 0, 0, [], 14), (14, 53, .null, 129, 3, [], 17), (17, 33, .null, 1, 23, [], 20), (20, 0, .int (-2), 0, 0, [], 22), (22, 49, .null, 0, 0, [], 22), (23, 1, .null, 2, 0, [], 24), (24, 2, .null, 0, 0, [], 25), (25, 1, .null, 1, 0, [], 26),
  (26, 52, .ref 5, 153, 1, [], 29), (29, 32, .null, 5, 35, [], 32), (32, 0, .int (-5), 0, 0, [], 34), (34, 49, .null, 0, 0, [], 34), (35, 2, .null, 0, 0, [], 36), (36, 1, .null, 1, 0, [], 37), (37, 0, .int 2, 0, 0, [], 38), (38, 2, .null, 0, 0, [], 39),
  (39, 1, .null, 1, 0, [], 40), (40, 0, .int 2, 0, 0, [], 41), (41, 52, .ref 5, 138, 2, [], 44), (44, 1, .null, 2, 0, [], 45), (45, 12, .null, 0, 0, [], 46), (46, 52, .ref 5, 139, 3, [], 49), (49, 2, .null, 0, 0, [], 50), (50, 1, .null, 1, 0, [], 51),
  (51, 0, .int 2, 0, 0, [], 52), (52, 52, .ref 5, 138, 2, [], 55), (55, 49, .null, 0, 0, [], 55)]
def mtX5_doTrim : axM := (⟨"BeatSlugsModel", "doTrim", "(II)I"⟩, prog_7_method_32_code, 3, (some .int), 5, false, cdX5_doTrim)
abbrev kX5_doTrim : Nat := 152
set_option maxRecDepth 100000 in
theorem ckX5_doTrim : axCk 5 false 0 prog_7_method_32_code cdX5_doTrim = true := by decide +kernel
def cdX5_canTrim : List axE := [
  (0, 2, .null, 0, 0, [], 1), (1, 1, .null, 1, 0, [], 2), (2, 0, .int 2, 0, 0, [], 3), (3, 52, .ref 5, 138, 2, [], 6), (6, 2, .null, 0, 0, [], 7), (7, 1, .null, 1, 0, [], 8), (8, 52, .ref 5, 154, 1, [], 11), (11, 12, .null, 0, 0, [], 12),
  (12, 4, .null, 2, 0, [], 13), (13, 1, .null, 2, 0, [], 14), (14, 33, .null, 3, 21, [], 17), (17, 0, .int 0, 0, 0, [], 18), (18, 9, .null, 0, 0, [], 22), (21, 1, .null, 2, 0, [], 22), (22, 49, .null, 0, 0, [], 22)]
def mtX5_canTrim : axM := (⟨"BeatSlugsModel", "canTrim", "(I)I"⟩, prog_7_method_17_code, 3, (some .int), 5, false, cdX5_canTrim)
abbrev kX5_canTrim : Nat := 153
set_option maxRecDepth 100000 in
theorem ckX5_canTrim : axCk 5 false 0 prog_7_method_17_code cdX5_canTrim = true := by decide +kernel
def cdX5_leastBeats : List axE := [
  (0, 2, .null, 0, 0, [], 1), (1, 1, .null, 1, 0, [], 2), (2, 0, .int 1, 0, 0, [], 3), (3, 52, .ref 5, 138, 2, [], 6), (6, 2, .null, 0, 0, [], 7), (7, 1, .null, 1, 0, [], 8), (8, 0, .int 1, 0, 0, [], 9), (9, 52, .ref 5, 138, 2, [], 12),
  (12, 2, .null, 0, 0, [], 13), (13, 36, .null, 5, 0, [], 16), (16, 0, .int 3, 0, 0, [], 17), (17, 40, .null, 0, 0, [], 18), (18, 13, .null, 0, 0, [], 19), (19, 0, .int 100, 0, 0, [], 21), (21, 47, .null, 0, 0, [], 22), (22, 12, .null, 0, 0, [], 23),
  (23, 4, .null, 2, 0, [], 24), (24, 1, .null, 2, 0, [], 25), (25, 0, .int 1, 0, 0, [], 26), (26, 32, .null, 3, 33, [], 29), (29, 0, .int 1, 0, 0, [], 30), (30, 9, .null, 0, 0, [], 34), (33, 1, .null, 2, 0, [], 34), (34, 49, .null, 0, 0, [], 34)]
def mtX5_leastBeats : axM := (⟨"BeatSlugsModel", "leastBeats", "(I)I"⟩, prog_7_method_16_code, 3, (some .int), 5, false, cdX5_leastBeats)
abbrev kX5_leastBeats : Nat := 154
set_option maxRecDepth 100000 in
theorem ckX5_leastBeats : axCk 5 false 0 prog_7_method_16_code cdX5_leastBeats = true := by decide +kernel
def cdX5_restoreTail : List axE := [
  (0, 2, .null, 0, 0, [], 1), (1, 1, .null, 1, 0, [], 2), (2, 52, .ref 5, 143, 1, [], 5), (5, 33, .null, 1, 10, [], 8), (8, 0, .int (-1), 0, 0, [], 9), (9, 49, .null, 0, 0, [], 9), (10, 2, .null, 0, 0, [], 11), (11, 2, .null, 0, 0, [], 12),
  (12, 36, .null, 5, 0, [], 15), (15, 52, .ref 5, 131, 1, [], 18), (18, 2, .null, 0, 0, [], 19), (19, 1, .null, 1, 0, [], 20), (20, 0, .int 1, 0, 0, [], 21), (21, 52, .ref 5, 138, 2, [], 24), (24, 2, .null, 0, 0, [], 25), (25, 1, .null, 1, 0, [], 26),
  (26, 0, .int 2, 0, 0, [], 27), (27, 52, .ref 5, 138, 2, [], 30), (30, 12, .null, 0, 0, [], 31), (31, 4, .null, 2, 0, [], 32), (32, 2, .null, 0, 0, [], 33), (33, 1, .null, 1, 0, [], 34), (34, 0, .int 2, 0, 0, [], 35), (35, 2, .null, 0, 0, [], 36),
  (36, 1, .null, 1, 0, [], 37), (37, 0, .int 1, 0, 0, [], 38), (38, 52, .ref 5, 138, 2, [], 41), (41, 52, .ref 5, 139, 3, [], 44), (44, 1, .null, 2, 0, [], 45), (45, 49, .null, 0, 0, [], 45)]
def mtX5_restoreTail : axM := (⟨"BeatSlugsModel", "restoreTail", "(I)I"⟩, prog_7_method_47_code, 3, (some .int), 5, false, cdX5_restoreTail)
abbrev kX5_restoreTail : Nat := 155
set_option maxRecDepth 100000 in
theorem ckX5_restoreTail : axCk 5 false 0 prog_7_method_47_code cdX5_restoreTail = true := by decide +kernel
def cdX5_move : List axE := [
  (0, 2, .null, 0, 0, [], 1), (1, 52, .ref 5, 135, 0, [], 4), (4, 2, .null, 0, 0, [], 5), (5, 2, .null, 0, 0, [], 6), (6, 1, .null, 1, 0, [], 7), (7, 1, .null, 2, 0, [], 8), (8, 52, .ref 5, 157, 2, [], 11), (11, 52, .ref 5, 141, 1, [], 14),
  (14, 49, .null, 0, 0, [], 14)]
def mtX5_move : axM := (⟨"BeatSlugsModel", "move", "(II)I"⟩, prog_7_method_48_code, 3, (some .int), 5, false, cdX5_move)
abbrev kX5_move : Nat := 156
set_option maxRecDepth 100000 in
theorem ckX5_move : axCk 5 false 0 prog_7_method_48_code cdX5_move = true := by decide +kernel
def cdX5_doMove : List axE := [
  (0, 2, .null, 0, 0, [], 1), (1, 1, .null, 1, 0, [], 2), (2, 52, .ref 5, 143, 1, [], 5), (5, 33, .null, 0, 24, [], 8), (8, 1, .null, 2, 0, [], 9), (9, 0, .int 0, 0, 0, [], 10), (10, 2, .null, 0, 0, [], 11), (11, 36, .null, 5, 0, [], 14),
  (14, 0, .int 0, 0, 0, [], 15), (15, 40, .null, 0, 0, [], 16), (16, 0, .int 1, 0, 0, [], 17), (17, 12, .null, 0, 0, [], 18), (18, 53, .null, 129, 3, [], 21), (21, 33, .null, 1, 26, [], 24), (24, 0, .int (-1), 0, 0, [], 25), (25, 49, .null, 0, 0, [], 25),
  (26, 2, .null, 0, 0, [], 27), (27, 1, .null, 1, 0, [], 28), (28, 52, .ref 5, 144, 1, [], 31), (31, 4, .null, 3, 0, [], 32), (32, 2, .null, 0, 0, [], 33), (33, 1, .null, 3, 0, [], 34), (34, 52, .ref 5, 145, 1, [], 37), (37, 2, .null, 0, 0, [], 38),
  (38, 1, .null, 2, 0, [], 39), (39, 1, .null, 1, 0, [], 40), (40, 52, .ref 5, 140, 2, [], 43), (43, 2, .null, 0, 0, [], 44), (44, 52, .ref 5, 158, 0, [], 47), (47, 33, .null, 0, 54, [], 50), (50, 1, .null, 3, 0, [], 51), (51, 9, .null, 0, 0, [], 56),
  (54, 0, .int (-5), 0, 0, [], 56), (56, 49, .null, 0, 0, [], 56)]
def mtX5_doMove : axM := (⟨"BeatSlugsModel", "doMove", "(II)I"⟩, prog_7_method_33_code, 4, (some .int), 5, false, cdX5_doMove)
abbrev kX5_doMove : Nat := 157
set_option maxRecDepth 100000 in
theorem ckX5_doMove : axCk 5 false 0 prog_7_method_33_code cdX5_doMove = true := by decide +kernel
def cdX5_isOrdered : List axE := [
  (0, 0, .int 0, 0, 0, [], 1), (1, 4, .null, 1, 0, [], 2), (2, 0, .int 1, 0, 0, [], 3), (3, 4, .null, 2, 0, [], 4), (4, 0, .int 0, 0, 0, [], 5), (5, 4, .null, 3, 0, [], 6), (6, 1, .null, 3, 0, [], 7), (7, 2, .null, 0, 0, [], 8),
  (8, 36, .null, 5, 0, [], 11), (11, 0, .int 0, 0, 0, [], 12), (12, 40, .null, 0, 0, [], 13), (13, 32, .null, 3, 67, [], 16), (16, 1, .null, 2, 0, [], 17), (17, 33, .null, 0, 45, [], 20), (20, 2, .null, 0, 0, [], 21), (21, 2, .null, 0, 0, [], 22),
  (22, 36, .null, 5, 0, [], 25), (25, 0, .int 10, 0, 0, [], 27), (27, 1, .null, 3, 0, [], 28), (28, 11, .null, 0, 0, [], 29), (29, 40, .null, 0, 0, [], 30), (30, 0, .int 4, 0, 0, [], 31), (31, 52, .ref 5, 138, 2, [], 34), (34, 1, .null, 1, 0, [], 35),
  (35, 0, .int (-1), 0, 0, [], 36), (36, 16, .null, 0, 0, [], 37), (37, 14, .null, 0, 0, [], 38), (38, 33, .null, 1, 45, [], 41), (41, 0, .int 1, 0, 0, [], 42), (42, 9, .null, 0, 0, [], 46), (45, 0, .int 0, 0, 0, [], 46), (46, 4, .null, 2, 0, [], 47),
  (47, 1, .null, 1, 0, [], 48), (48, 0, .int 1, 0, 0, [], 49), (49, 2, .null, 0, 0, [], 50), (50, 36, .null, 5, 0, [], 53), (53, 0, .int 10, 0, 0, [], 55), (55, 1, .null, 3, 0, [], 56), (56, 11, .null, 0, 0, [], 57), (57, 40, .null, 0, 0, [], 58),
  (58, 17, .null, 0, 0, [], 59), (59, 15, .null, 0, 0, [], 60), (60, 4, .null, 1, 0, [], 61), (61, 6, .int 1, 3, 0, [], 64), (64, 9, .null, 0, 0, [], 6), (67, 1, .null, 2, 0, [], 68), (68, 49, .null, 2, 0, [], 68)]
def mtX5_isOrdered : axM := (⟨"BeatSlugsModel", "isOrdered", "()Z"⟩, prog_7_method_14_code, 4, (some .boolean), 5, false, cdX5_isOrdered)
abbrev kX5_isOrdered : Nat := 158
set_option maxRecDepth 100000 in
theorem ckX5_isOrdered : axCk 5 false 2 prog_7_method_14_code cdX5_isOrdered = true := by decide +kernel
def cdX5_swap : List axE := [
  (0, 2, .null, 0, 0, [], 1), (1, 52, .ref 5, 135, 0, [], 4), (4, 2, .null, 0, 0, [], 5), (5, 2, .null, 0, 0, [], 6), (6, 1, .null, 1, 0, [], 7), (7, 1, .null, 2, 0, [], 8), (8, 52, .ref 5, 160, 2, [], 11), (11, 52, .ref 5, 141, 1, [], 14),
  (14, 49, .null, 0, 0, [], 14)]
def mtX5_swap : axM := (⟨"BeatSlugsModel", "swap", "(II)I"⟩, prog_7_method_49_code, 3, (some .int), 5, false, cdX5_swap)
abbrev kX5_swap : Nat := 159
set_option maxRecDepth 100000 in
theorem ckX5_swap : axCk 5 false 0 prog_7_method_49_code cdX5_swap = true := by decide +kernel
def cdX5_doSwap : List axE := [
  (0, 2, .null, 0, 0, [], 1), (1, 1, .null, 1, 0, [], 2), (2, 52, .ref 5, 143, 1, [], 5), (5, 33, .null, 0, 16, [], 8), (8, 2, .null, 0, 0, [], 9), (9, 1, .null, 2, 0, [], 10), (10, 52, .ref 5, 143, 1, [], 13), (13, 33, .null, 1, 18, [], 16),
  (16, 0, .int (-1), 0, 0, [], 17), (17, 49, .null, 0, 0, [], 17), (18, 1, .null, 1, 0, [], 19), (19, 1, .null, 2, 0, [], 20), (20, 32, .null, 1, 26, [], 23), (23, 0, .int (-2), 0, 0, [], 25), (25, 49, .null, 0, 0, [], 25), (26, 2, .null, 0, 0, [], 27),
  (27, 1, .null, 1, 0, [], 28), (28, 52, .ref 5, 144, 1, [], 31), (31, 4, .null, 3, 0, [], 32), (32, 2, .null, 0, 0, [], 33), (33, 1, .null, 2, 0, [], 34), (34, 52, .ref 5, 144, 1, [], 37), (37, 4, .null, 4, 0, [], 39), (39, 2, .null, 0, 0, [], 40),
  (40, 36, .null, 5, 0, [], 43), (43, 0, .int 10, 0, 0, [], 45), (45, 1, .null, 3, 0, [], 46), (46, 11, .null, 0, 0, [], 47), (47, 1, .null, 2, 0, [], 48), (48, 42, .null, 0, 0, [], 49), (49, 2, .null, 0, 0, [], 50), (50, 36, .null, 5, 0, [], 53),
  (53, 0, .int 10, 0, 0, [], 55), (55, 1, .null, 4, 0, [], 57), (57, 11, .null, 0, 0, [], 58), (58, 1, .null, 1, 0, [], 59), (59, 42, .null, 0, 0, [], 60), (60, 2, .null, 0, 0, [], 61), (61, 52, .ref 5, 158, 0, [], 64), (64, 33, .null, 0, 79, [], 67),
  (67, 1, .null, 3, 0, [], 68), (68, 1, .null, 4, 0, [], 70), (70, 12, .null, 0, 0, [], 71), (71, 53, .null, 161, 1, [], 74), (74, 0, .int 1, 0, 0, [], 75), (75, 12, .null, 0, 0, [], 76), (76, 9, .null, 0, 0, [], 81), (79, 0, .int (-5), 0, 0, [], 81),
  (81, 49, .null, 0, 0, [], 81)]
def mtX5_doSwap : axM := (⟨"BeatSlugsModel", "doSwap", "(II)I"⟩, prog_7_method_34_code, 5, (some .int), 5, false, cdX5_doSwap)
abbrev kX5_doSwap : Nat := 160
set_option maxRecDepth 100000 in
theorem ckX5_doSwap : axCk 5 false 0 prog_7_method_34_code cdX5_doSwap = true := by decide +kernel
def cdX5_size : List axE := [
  (0, 1, .null, 0, 0, [], 1), (1, 33, .null, 3, 9, [], 4), (4, 1, .null, 0, 0, [], 5), (5, 20, .null, 0, 0, [], 6), (6, 9, .null, 0, 0, [], 10), (9, 1, .null, 0, 0, [], 10), (10, 49, .null, 0, 0, [], 10)]
def mtX5_size : axM := (⟨"BeatSlugsModel", "size", "(I)I"⟩, prog_7_method_26_code, 1, (some .int), 5, false, cdX5_size)
abbrev kX5_size : Nat := 161
set_option maxRecDepth 100000 in
theorem ckX5_size : axCk 5 false 0 prog_7_method_26_code cdX5_size = true := by decide +kernel
def cdX5_split : List axE := [
  (0, 2, .null, 0, 0, [], 1), (1, 52, .ref 5, 135, 0, [], 4), (4, 2, .null, 0, 0, [], 5), (5, 2, .null, 0, 0, [], 6), (6, 1, .null, 1, 0, [], 7), (7, 1, .null, 2, 0, [], 8), (8, 52, .ref 5, 163, 2, [], 11), (11, 52, .ref 5, 141, 1, [], 14),
  (14, 49, .null, 0, 0, [], 14)]
def mtX5_split : axM := (⟨"BeatSlugsModel", "split", "(II)I"⟩, prog_7_method_50_code, 3, (some .int), 5, false, cdX5_split)
abbrev kX5_split : Nat := 162
set_option maxRecDepth 100000 in
theorem ckX5_split : axCk 5 false 0 prog_7_method_50_code cdX5_split = true := by decide +kernel
def cdX5_doSplit : List axE := [
  (0, 2, .null, 0, 0, [], 1), (1, 1, .null, 1, 0, [], 2), (2, 52, .ref 5, 143, 1, [], 5), (5, 33, .null, 1, 10, [], 8), (8, 0, .int (-1), 0, 0, [], 9), (9, 49, .null, 0, 0, [], 9), (10, 1, .null, 2, 0, [], 11), (11, 0, .int 1, 0, 0, [], 12),
  (12, 0, .int 98, 0, 0, [], 14), (14, 53, .null, 129, 3, [], 17), (17, 33, .null, 1, 23, [], 20), (20, 0, .int (-2), 0, 0, [], 22), (22, 49, .null, 0, 0, [], 22), (23, 2, .null, 0, 0, [], 24), (24, 1, .null, 1, 0, [], 25), (25, 0, .int 2, 0, 0, [], 26),
  (26, 52, .ref 5, 138, 2, [], 29), (29, 1, .null, 2, 0, [], 30), (30, 32, .null, 4, 36, [], 33), (33, 0, .int (-5), 0, 0, [], 35), (35, 49, .null, 0, 0, [], 35), (36, 2, .null, 0, 0, [], 37), (37, 36, .null, 5, 0, [], 40), (40, 0, .int 0, 0, 0, [], 41),
  (41, 40, .null, 0, 0, [], 42), (42, 0, .int 24, 0, 0, [], 44), (44, 32, .null, 1, 50, [], 47), (47, 0, .int (-4), 0, 0, [], 49), (49, 49, .null, 0, 0, [], 49), (50, 2, .null, 0, 0, [], 51), (51, 2, .null, 0, 0, [], 52), (52, 1, .null, 1, 0, [], 53),
  (53, 52, .ref 5, 144, 1, [], 56), (56, 0, .int 1, 0, 0, [], 57), (57, 11, .null, 0, 0, [], 58), (58, 2, .null, 0, 0, [], 59), (59, 1, .null, 1, 0, [], 60), (60, 0, .int 1, 0, 0, [], 61), (61, 52, .ref 5, 138, 2, [], 64), (64, 1, .null, 2, 0, [], 65),
  (65, 12, .null, 0, 0, [], 66), (66, 2, .null, 0, 0, [], 67), (67, 1, .null, 1, 0, [], 68), (68, 0, .int 3, 0, 0, [], 69), (69, 52, .ref 5, 138, 2, [], 72), (72, 52, .ref 5, 136, 3, [], 75), (75, 4, .null, 3, 0, [], 76), (76, 2, .null, 0, 0, [], 77),
  (77, 1, .null, 3, 0, [], 78), (78, 0, .int 2, 0, 0, [], 79), (79, 2, .null, 0, 0, [], 80), (80, 1, .null, 1, 0, [], 81), (81, 0, .int 2, 0, 0, [], 82), (82, 52, .ref 5, 138, 2, [], 85), (85, 1, .null, 2, 0, [], 86), (86, 12, .null, 0, 0, [], 87),
  (87, 52, .ref 5, 139, 3, [], 90), (90, 0, .int 0, 0, 0, [], 91), (91, 4, .null, 4, 0, [], 93), (93, 1, .null, 4, 0, [], 95), (95, 0, .int 24, 0, 0, [], 97), (97, 32, .null, 3, 142, [], 100), (100, 2, .null, 0, 0, [], 101), (101, 1, .null, 4, 0, [], 103),
  (103, 0, .int 4, 0, 0, [], 104), (104, 2, .null, 0, 0, [], 105), (105, 1, .null, 4, 0, [], 107), (107, 0, .int 4, 0, 0, [], 108), (108, 52, .ref 5, 138, 2, [], 111), (111, 2, .null, 0, 0, [], 112), (112, 1, .null, 4, 0, [], 114), (114, 0, .int 4, 0, 0, [], 115),
  (115, 52, .ref 5, 138, 2, [], 118), (118, 1, .null, 1, 0, [], 119), (119, 53, .null, 149, 2, [], 122), (122, 33, .null, 0, 131, [], 125), (125, 0, .int 1, 0, 0, [], 126), (126, 1, .null, 3, 0, [], 127), (127, 17, .null, 0, 0, [], 128), (128, 9, .null, 0, 0, [], 132),
  (131, 0, .int 0, 0, 0, [], 132), (132, 15, .null, 0, 0, [], 133), (133, 52, .ref 5, 139, 3, [], 136), (136, 6, .int 1, 4, 0, [], 139), (139, 9, .null, 0, 0, [], 93), (142, 2, .null, 0, 0, [], 143), (143, 1, .null, 3, 0, [], 144), (144, 0, .int 4, 0, 0, [], 145),
  (145, 0, .int 1, 0, 0, [], 146), (146, 1, .null, 1, 0, [], 147), (147, 17, .null, 0, 0, [], 148), (148, 52, .ref 5, 139, 3, [], 151), (151, 2, .null, 0, 0, [], 152), (152, 1, .null, 1, 0, [], 153), (153, 0, .int 1, 0, 0, [], 154), (154, 1, .null, 2, 0, [], 155),
  (155, 52, .ref 5, 139, 3, [], 158), (158, 2, .null, 0, 0, [], 159), (159, 1, .null, 1, 0, [], 160), (160, 0, .int 2, 0, 0, [], 161), (161, 1, .null, 2, 0, [], 162), (162, 52, .ref 5, 139, 3, [], 165), (165, 2, .null, 0, 0, [], 166), (166, 1, .null, 1, 0, [], 167),
  (167, 0, .int 3, 0, 0, [], 168), (168, 0, .int 0, 0, 0, [], 169), (169, 52, .ref 5, 139, 3, [], 172), (172, 1, .null, 3, 0, [], 173), (173, 49, .null, 0, 0, [], 173)]
def mtX5_doSplit : axM := (⟨"BeatSlugsModel", "doSplit", "(II)I"⟩, prog_7_method_36_code, 5, (some .int), 5, false, cdX5_doSplit)
abbrev kX5_doSplit : Nat := 163
set_option maxRecDepth 100000 in
theorem ckX5_doSplit : axCk 5 false 0 prog_7_method_36_code cdX5_doSplit = true := by decide +kernel
def cdX5_fit : List axE := [
  (0, 2, .null, 0, 0, [], 1), (1, 52, .ref 5, 135, 0, [], 4), (4, 2, .null, 0, 0, [], 5), (5, 2, .null, 0, 0, [], 6), (6, 1, .null, 1, 0, [], 7), (7, 52, .ref 5, 165, 1, [], 10), (10, 52, .ref 5, 141, 1, [], 13), (13, 49, .null, 0, 0, [], 13)]
def mtX5_fit : axM := (⟨"BeatSlugsModel", "fit", "(I)I"⟩, prog_7_method_51_code, 2, (some .int), 5, false, cdX5_fit)
abbrev kX5_fit : Nat := 164
set_option maxRecDepth 100000 in
theorem ckX5_fit : axCk 5 false 0 prog_7_method_51_code cdX5_fit = true := by decide +kernel
def cdX5_doFit : List axE := [
  (0, 1, .null, 1, 0, [], 1), (1, 0, .int 0, 0, 0, [], 2), (2, 2, .null, 0, 0, [], 3), (3, 52, .ref 5, 166, 0, [], 6), (6, 0, .int 1, 0, 0, [], 7), (7, 12, .null, 0, 0, [], 8), (8, 53, .null, 129, 3, [], 11), (11, 33, .null, 1, 16, [], 14),
  (14, 0, .int (-1), 0, 0, [], 15), (15, 49, .null, 0, 0, [], 15), (16, 0, .int 0, 0, 0, [], 17), (17, 4, .null, 2, 0, [], 18), (18, 2, .null, 0, 0, [], 19), (19, 36, .null, 5, 0, [], 22), (22, 0, .int 0, 0, 0, [], 23), (23, 40, .null, 0, 0, [], 24),
  (24, 0, .int 1, 0, 0, [], 25), (25, 12, .null, 0, 0, [], 26), (26, 4, .null, 3, 0, [], 27), (27, 1, .null, 3, 0, [], 28), (28, 33, .null, 2, 117, [], 31), (31, 2, .null, 0, 0, [], 32), (32, 36, .null, 5, 0, [], 35), (35, 0, .int 10, 0, 0, [], 37),
  (37, 1, .null, 3, 0, [], 38), (38, 11, .null, 0, 0, [], 39), (39, 40, .null, 0, 0, [], 40), (40, 4, .null, 4, 0, [], 42), (42, 2, .null, 0, 0, [], 43), (43, 1, .null, 3, 0, [], 44), (44, 52, .ref 5, 167, 1, [], 47), (47, 1, .null, 1, 0, [], 48),
  (48, 32, .null, 1, 111, [], 51), (51, 2, .null, 0, 0, [], 52), (52, 1, .null, 1, 0, [], 53), (53, 52, .ref 5, 168, 1, [], 56), (56, 33, .null, 5, 111, [], 59), (59, 2, .null, 0, 0, [], 60), (60, 1, .null, 1, 0, [], 61), (61, 52, .ref 5, 168, 1, [], 64),
  (64, 2, .null, 0, 0, [], 65), (65, 1, .null, 4, 0, [], 67), (67, 52, .ref 5, 153, 1, [], 70), (70, 32, .null, 3, 81, [], 73), (73, 2, .null, 0, 0, [], 74), (74, 1, .null, 1, 0, [], 75), (75, 52, .ref 5, 168, 1, [], 78), (78, 9, .null, 0, 0, [], 87),
  (81, 2, .null, 0, 0, [], 82), (82, 1, .null, 4, 0, [], 84), (84, 52, .ref 5, 153, 1, [], 87), (87, 4, .null, 5, 0, [], 89), (89, 2, .null, 0, 0, [], 90), (90, 1, .null, 4, 0, [], 92), (92, 0, .int 2, 0, 0, [], 93), (93, 2, .null, 0, 0, [], 94),
  (94, 1, .null, 4, 0, [], 96), (96, 0, .int 2, 0, 0, [], 97), (97, 52, .ref 5, 138, 2, [], 100), (100, 1, .null, 5, 0, [], 102), (102, 12, .null, 0, 0, [], 103), (103, 52, .ref 5, 139, 3, [], 106), (106, 1, .null, 2, 0, [], 107), (107, 1, .null, 5, 0, [], 109),
  (109, 11, .null, 0, 0, [], 110), (110, 4, .null, 2, 0, [], 111), (111, 6, .int (-1), 3, 0, [], 114), (114, 9, .null, 0, 0, [], 27), (117, 2, .null, 0, 0, [], 118), (118, 1, .null, 1, 0, [], 119), (119, 52, .ref 5, 168, 1, [], 122), (122, 2, .null, 0, 0, [], 123),
  (123, 36, .null, 5, 0, [], 126), (126, 0, .int 2, 0, 0, [], 127), (127, 40, .null, 0, 0, [], 128), (128, 32, .null, 5, 136, [], 131), (131, 0, .int (-5), 0, 0, [], 133), (133, 9, .null, 0, 0, [], 137), (136, 1, .null, 2, 0, [], 137), (137, 49, .null, 0, 0, [], 137)]
def mtX5_doFit : axM := (⟨"BeatSlugsModel", "doFit", "(I)I"⟩, prog_7_method_35_code, 6, (some .int), 5, false, cdX5_doFit)
abbrev kX5_doFit : Nat := 165
set_option maxRecDepth 100000 in
theorem ckX5_doFit : axCk 5 false 0 prog_7_method_35_code cdX5_doFit = true := by decide +kernel
def cdX5_acts : List axE := [
  (0, 2, .null, 0, 0, [], 1), (1, 36, .null, 5, 0, [], 4), (4, 0, .int 0, 0, 0, [], 5), (5, 40, .null, 0, 0, [], 6), (6, 33, .null, 1, 13, [], 9), (9, 0, .int 0, 0, 0, [], 10), (10, 9, .null, 0, 0, [], 27), (13, 2, .null, 0, 0, [], 14),
  (14, 2, .null, 0, 0, [], 15), (15, 36, .null, 5, 0, [], 18), (18, 0, .int 0, 0, 0, [], 19), (19, 40, .null, 0, 0, [], 20), (20, 0, .int 1, 0, 0, [], 21), (21, 12, .null, 0, 0, [], 22), (22, 52, .ref 5, 167, 1, [], 25), (25, 0, .int 1, 0, 0, [], 26),
  (26, 11, .null, 0, 0, [], 27), (27, 49, .null, 0, 0, [], 27)]
def mtX5_acts : axM := (⟨"BeatSlugsModel", "acts", "()I"⟩, prog_7_method_20_code, 1, (some .int), 5, false, cdX5_acts)
abbrev kX5_acts : Nat := 166
set_option maxRecDepth 100000 in
theorem ckX5_acts : axCk 5 false 0 prog_7_method_20_code cdX5_acts = true := by decide +kernel
def cdX5_actAt : List axE := [
  (0, 0, .int 0, 0, 0, [], 1), (1, 4, .null, 2, 0, [], 2), (2, 0, .int 0, 0, 0, [], 3), (3, 4, .null, 3, 0, [], 4), (4, 1, .null, 3, 0, [], 5), (5, 1, .null, 1, 0, [], 6), (6, 32, .null, 3, 32, [], 9), (9, 1, .null, 2, 0, [], 10),
  (10, 2, .null, 0, 0, [], 11), (11, 2, .null, 0, 0, [], 12), (12, 36, .null, 5, 0, [], 15), (15, 0, .int 10, 0, 0, [], 17), (17, 1, .null, 3, 0, [], 18), (18, 11, .null, 0, 0, [], 19), (19, 40, .null, 0, 0, [], 20), (20, 0, .int 3, 0, 0, [], 21),
  (21, 52, .ref 5, 138, 2, [], 24), (24, 11, .null, 0, 0, [], 25), (25, 4, .null, 2, 0, [], 26), (26, 6, .int 1, 3, 0, [], 29), (29, 9, .null, 0, 0, [], 4), (32, 1, .null, 2, 0, [], 33), (33, 49, .null, 0, 0, [], 33)]
def mtX5_actAt : axM := (⟨"BeatSlugsModel", "actAt", "(I)I"⟩, prog_7_method_19_code, 4, (some .int), 5, false, cdX5_actAt)
abbrev kX5_actAt : Nat := 167
set_option maxRecDepth 100000 in
theorem ckX5_actAt : axCk 5 false 0 prog_7_method_19_code cdX5_actAt = true := by decide +kernel
def cdX5_off : List axE := [
  (0, 2, .null, 0, 0, [], 1), (1, 1, .null, 1, 0, [], 2), (2, 0, .int 0, 0, 0, [], 3), (3, 52, .ref 5, 169, 2, [], 6), (6, 2, .null, 0, 0, [], 7), (7, 1, .null, 1, 0, [], 8), (8, 52, .ref 5, 170, 1, [], 11), (11, 12, .null, 0, 0, [], 12),
  (12, 49, .null, 0, 0, [], 12)]
def mtX5_off : axM := (⟨"BeatSlugsModel", "off", "(I)I"⟩, prog_7_method_25_code, 2, (some .int), 5, false, cdX5_off)
abbrev kX5_off : Nat := 168
set_option maxRecDepth 100000 in
theorem ckX5_off : axCk 5 false 0 prog_7_method_25_code cdX5_off = true := by decide +kernel
def cdX5_sumOf : List axE := [
  (0, 0, .int 0, 0, 0, [], 1), (1, 4, .null, 3, 0, [], 2), (2, 0, .int 0, 0, 0, [], 3), (3, 4, .null, 4, 0, [], 5), (5, 1, .null, 4, 0, [], 7), (7, 2, .null, 0, 0, [], 8), (8, 36, .null, 5, 0, [], 11), (11, 0, .int 0, 0, 0, [], 12),
  (12, 40, .null, 0, 0, [], 13), (13, 32, .null, 3, 80, [], 16), (16, 2, .null, 0, 0, [], 17), (17, 1, .null, 4, 0, [], 19), (19, 52, .ref 5, 167, 1, [], 22), (22, 1, .null, 1, 0, [], 23), (23, 32, .null, 1, 74, [], 26), (26, 1, .null, 3, 0, [], 27),
  (27, 1, .null, 2, 0, [], 28), (28, 33, .null, 1, 49, [], 31), (31, 2, .null, 0, 0, [], 32), (32, 2, .null, 0, 0, [], 33), (33, 36, .null, 5, 0, [], 36), (36, 0, .int 10, 0, 0, [], 38), (38, 1, .null, 4, 0, [], 40), (40, 11, .null, 0, 0, [], 41),
  (41, 40, .null, 0, 0, [], 42), (42, 0, .int 2, 0, 0, [], 43), (43, 52, .ref 5, 138, 2, [], 46), (46, 9, .null, 0, 0, [], 72), (49, 1, .null, 2, 0, [], 50), (50, 0, .int 1, 0, 0, [], 51), (51, 32, .null, 1, 58, [], 54), (54, 0, .int 1, 0, 0, [], 55),
  (55, 9, .null, 0, 0, [], 72), (58, 2, .null, 0, 0, [], 59), (59, 2, .null, 0, 0, [], 60), (60, 36, .null, 5, 0, [], 63), (63, 0, .int 10, 0, 0, [], 65), (65, 1, .null, 4, 0, [], 67), (67, 11, .null, 0, 0, [], 68), (68, 40, .null, 0, 0, [], 69),
  (69, 52, .ref 5, 153, 1, [], 72), (72, 11, .null, 0, 0, [], 73), (73, 4, .null, 3, 0, [], 74), (74, 6, .int 1, 4, 0, [], 77), (77, 9, .null, 0, 0, [], 5), (80, 1, .null, 3, 0, [], 81), (81, 49, .null, 0, 0, [], 81)]
def mtX5_sumOf : axM := (⟨"BeatSlugsModel", "sumOf", "(II)I"⟩, prog_7_method_23_code, 5, (some .int), 5, false, cdX5_sumOf)
abbrev kX5_sumOf : Nat := 169
set_option maxRecDepth 100000 in
theorem ckX5_sumOf : axCk 5 false 0 prog_7_method_23_code cdX5_sumOf = true := by decide +kernel
def cdX5_targetOf : List axE := [
  (0, 2, .null, 0, 0, [], 1), (1, 36, .null, 5, 0, [], 4), (4, 0, .int 4, 0, 0, [], 5), (5, 1, .null, 1, 0, [], 6), (6, 0, .int 6, 0, 0, [], 8), (8, 32, .null, 3, 15, [], 11), (11, 1, .null, 1, 0, [], 12), (12, 9, .null, 0, 0, [], 16),
  (15, 0, .int 5, 0, 0, [], 16), (16, 11, .null, 0, 0, [], 17), (17, 40, .null, 0, 0, [], 18), (18, 49, .null, 0, 0, [], 18)]
def mtX5_targetOf : axM := (⟨"BeatSlugsModel", "targetOf", "(I)I"⟩, prog_7_method_22_code, 2, (some .int), 5, false, cdX5_targetOf)
abbrev kX5_targetOf : Nat := 170
set_option maxRecDepth 100000 in
theorem ckX5_targetOf : axCk 5 false 0 prog_7_method_22_code cdX5_targetOf = true := by decide +kernel
def cdX5_of : List axE := [
  (0, 2, .null, 0, 0, [], 1), (1, 1, .null, 1, 0, [], 2), (2, 52, .ref 5, 143, 1, [], 5), (5, 33, .null, 1, 10, [], 8), (8, 0, .int (-1), 0, 0, [], 9), (9, 49, .null, 0, 0, [], 9), (10, 1, .null, 2, 0, [], 11), (11, 35, .null, 0, 147, [(0, 64), (1, 70), (2, 77), (3, 84), (4, 91), (5, 98), (6, 104), (7, 114), (8, 131), (9, 141)], 11),
  (64, 2, .null, 0, 0, [], 65), (65, 1, .null, 1, 0, [], 66), (66, 52, .ref 5, 144, 1, [], 69), (69, 49, .null, 0, 0, [], 69), (70, 2, .null, 0, 0, [], 71), (71, 1, .null, 1, 0, [], 72), (72, 0, .int 1, 0, 0, [], 73), (73, 52, .ref 5, 138, 2, [], 76),
  (76, 49, .null, 0, 0, [], 76), (77, 2, .null, 0, 0, [], 78), (78, 1, .null, 1, 0, [], 79), (79, 0, .int 2, 0, 0, [], 80), (80, 52, .ref 5, 138, 2, [], 83), (83, 49, .null, 0, 0, [], 83), (84, 2, .null, 0, 0, [], 85), (85, 1, .null, 1, 0, [], 86),
  (86, 0, .int 3, 0, 0, [], 87), (87, 52, .ref 5, 138, 2, [], 90), (90, 49, .null, 0, 0, [], 90), (91, 2, .null, 0, 0, [], 92), (92, 1, .null, 1, 0, [], 93), (93, 0, .int 4, 0, 0, [], 94), (94, 52, .ref 5, 138, 2, [], 97), (97, 49, .null, 0, 0, [], 97),
  (98, 2, .null, 0, 0, [], 99), (99, 1, .null, 1, 0, [], 100), (100, 52, .ref 5, 172, 1, [], 103), (103, 49, .null, 0, 0, [], 103), (104, 2, .null, 0, 0, [], 105), (105, 2, .null, 0, 0, [], 106), (106, 1, .null, 1, 0, [], 107), (107, 52, .ref 5, 144, 1, [], 110),
  (110, 52, .ref 5, 173, 1, [], 113), (113, 49, .null, 0, 0, [], 113), (114, 2, .null, 0, 0, [], 115), (115, 2, .null, 0, 0, [], 116), (116, 1, .null, 1, 0, [], 117), (117, 52, .ref 5, 144, 1, [], 120), (120, 52, .ref 5, 173, 1, [], 123), (123, 2, .null, 0, 0, [], 124),
  (124, 36, .null, 5, 0, [], 127), (127, 0, .int 1, 0, 0, [], 128), (128, 40, .null, 0, 0, [], 129), (129, 47, .null, 0, 0, [], 130), (130, 49, .null, 0, 0, [], 130), (131, 2, .null, 0, 0, [], 132), (132, 2, .null, 0, 0, [], 133), (133, 1, .null, 1, 0, [], 134),
  (134, 52, .ref 5, 144, 1, [], 137), (137, 52, .ref 5, 167, 1, [], 140), (140, 49, .null, 0, 0, [], 140), (141, 2, .null, 0, 0, [], 142), (142, 1, .null, 1, 0, [], 143), (143, 52, .ref 5, 153, 1, [], 146), (146, 49, .null, 0, 0, [], 146), (147, 0, .int (-2), 0, 0, [], 149),
  (149, 49, .null, 0, 0, [], 149)]
def mtX5_of : axM := (⟨"BeatSlugsModel", "of", "(II)I"⟩, prog_7_method_53_code, 3, (some .int), 5, false, cdX5_of)
abbrev kX5_of : Nat := 171
set_option maxRecDepth 100000 in
theorem ckX5_of : axCk 5 false 0 prog_7_method_53_code cdX5_of = true := by decide +kernel
def cdX5_neededBy : List axE := [
  (0, 0, .int 0, 0, 0, [], 1), (1, 4, .null, 2, 0, [], 2), (2, 0, .int 0, 0, 0, [], 3), (3, 4, .null, 3, 0, [], 4), (4, 1, .null, 3, 0, [], 5), (5, 0, .int 24, 0, 0, [], 7), (7, 32, .null, 3, 49, [], 10), (10, 1, .null, 2, 0, [], 11),
  (11, 2, .null, 0, 0, [], 12), (12, 1, .null, 3, 0, [], 13), (13, 0, .int 0, 0, 0, [], 14), (14, 52, .ref 5, 138, 2, [], 17), (17, 0, .int 1, 0, 0, [], 18), (18, 32, .null, 1, 40, [], 21), (21, 2, .null, 0, 0, [], 22), (22, 1, .null, 3, 0, [], 23),
  (23, 0, .int 4, 0, 0, [], 24), (24, 52, .ref 5, 138, 2, [], 27), (27, 1, .null, 1, 0, [], 28), (28, 53, .null, 149, 2, [], 31), (31, 33, .null, 0, 40, [], 34), (34, 0, .int 1, 0, 0, [], 35), (35, 1, .null, 3, 0, [], 36), (36, 17, .null, 0, 0, [], 37),
  (37, 9, .null, 0, 0, [], 41), (40, 0, .int 0, 0, 0, [], 41), (41, 15, .null, 0, 0, [], 42), (42, 4, .null, 2, 0, [], 43), (43, 6, .int 1, 3, 0, [], 46), (46, 9, .null, 0, 0, [], 4), (49, 1, .null, 2, 0, [], 50), (50, 49, .null, 0, 0, [], 50)]
def mtX5_neededBy : axM := (⟨"BeatSlugsModel", "neededBy", "(I)I"⟩, prog_7_method_52_code, 4, (some .int), 5, false, cdX5_neededBy)
abbrev kX5_neededBy : Nat := 172
set_option maxRecDepth 100000 in
theorem ckX5_neededBy : axCk 5 false 0 prog_7_method_52_code cdX5_neededBy = true := by decide +kernel
def cdX5_begin : List axE := [
  (0, 0, .int 0, 0, 0, [], 1), (1, 4, .null, 2, 0, [], 2), (2, 0, .int 0, 0, 0, [], 3), (3, 4, .null, 3, 0, [], 4), (4, 1, .null, 3, 0, [], 5), (5, 1, .null, 1, 0, [], 6), (6, 32, .null, 3, 32, [], 9), (9, 1, .null, 2, 0, [], 10),
  (10, 2, .null, 0, 0, [], 11), (11, 2, .null, 0, 0, [], 12), (12, 36, .null, 5, 0, [], 15), (15, 0, .int 10, 0, 0, [], 17), (17, 1, .null, 3, 0, [], 18), (18, 11, .null, 0, 0, [], 19), (19, 40, .null, 0, 0, [], 20), (20, 0, .int 2, 0, 0, [], 21),
  (21, 52, .ref 5, 138, 2, [], 24), (24, 11, .null, 0, 0, [], 25), (25, 4, .null, 2, 0, [], 26), (26, 6, .int 1, 3, 0, [], 29), (29, 9, .null, 0, 0, [], 4), (32, 1, .null, 2, 0, [], 33), (33, 49, .null, 0, 0, [], 33)]
def mtX5_begin : axM := (⟨"BeatSlugsModel", "begin", "(I)I"⟩, prog_7_method_15_code, 4, (some .int), 5, false, cdX5_begin)
abbrev kX5_begin : Nat := 173
set_option maxRecDepth 100000 in
theorem ckX5_begin : axCk 5 false 0 prog_7_method_15_code cdX5_begin = true := by decide +kernel
def cdX5_at : List axE := [
  (0, 1, .null, 1, 0, [], 1), (1, 0, .int 0, 0, 0, [], 2), (2, 2, .null, 0, 0, [], 3), (3, 36, .null, 5, 0, [], 6), (6, 0, .int 0, 0, 0, [], 7), (7, 40, .null, 0, 0, [], 8), (8, 0, .int 1, 0, 0, [], 9), (9, 12, .null, 0, 0, [], 10),
  (10, 53, .null, 129, 3, [], 13), (13, 33, .null, 0, 28, [], 16), (16, 2, .null, 0, 0, [], 17), (17, 36, .null, 5, 0, [], 20), (20, 0, .int 10, 0, 0, [], 22), (22, 1, .null, 1, 0, [], 23), (23, 11, .null, 0, 0, [], 24), (24, 40, .null, 0, 0, [], 25),
  (25, 9, .null, 0, 0, [], 29), (28, 0, .int (-1), 0, 0, [], 29), (29, 49, .null, 0, 0, [], 29)]
def mtX5_at : axM := (⟨"BeatSlugsModel", "at", "(I)I"⟩, prog_7_method_54_code, 2, (some .int), 5, false, cdX5_at)
abbrev kX5_at : Nat := 174
set_option maxRecDepth 100000 in
theorem ckX5_at : axCk 5 false 0 prog_7_method_54_code cdX5_at = true := by decide +kernel
def cdX5_atBeat : List axE := [
  (0, 1, .null, 1, 0, [], 1), (1, 33, .null, 3, 7, [], 4), (4, 0, .int (-2), 0, 0, [], 6), (6, 49, .null, 0, 0, [], 6), (7, 0, .int 0, 0, 0, [], 8), (8, 4, .null, 2, 0, [], 9), (9, 1, .null, 2, 0, [], 10), (10, 2, .null, 0, 0, [], 11),
  (11, 36, .null, 5, 0, [], 14), (14, 0, .int 0, 0, 0, [], 15), (15, 40, .null, 0, 0, [], 16), (16, 32, .null, 3, 36, [], 19), (19, 2, .null, 0, 0, [], 20), (20, 1, .null, 2, 0, [], 21), (21, 0, .int 1, 0, 0, [], 22), (22, 11, .null, 0, 0, [], 23),
  (23, 52, .ref 5, 173, 1, [], 26), (26, 1, .null, 1, 0, [], 27), (27, 32, .null, 4, 36, [], 30), (30, 6, .int 1, 2, 0, [], 33), (33, 9, .null, 0, 0, [], 9), (36, 1, .null, 2, 0, [], 37), (37, 2, .null, 0, 0, [], 38), (38, 36, .null, 5, 0, [], 41),
  (41, 0, .int 0, 0, 0, [], 42), (42, 40, .null, 0, 0, [], 43), (43, 32, .null, 3, 58, [], 46), (46, 2, .null, 0, 0, [], 47), (47, 36, .null, 5, 0, [], 50), (50, 0, .int 10, 0, 0, [], 52), (52, 1, .null, 2, 0, [], 53), (53, 11, .null, 0, 0, [], 54),
  (54, 40, .null, 0, 0, [], 55), (55, 9, .null, 0, 0, [], 60), (58, 0, .int (-6), 0, 0, [], 60), (60, 49, .null, 0, 0, [], 60)]
def mtX5_atBeat : axM := (⟨"BeatSlugsModel", "atBeat", "(I)I"⟩, prog_7_method_55_code, 3, (some .int), 5, false, cdX5_atBeat)
abbrev kX5_atBeat : Nat := 175
set_option maxRecDepth 100000 in
theorem ckX5_atBeat : axCk 5 false 0 prog_7_method_55_code cdX5_atBeat = true := by decide +kernel
def cdX5_ofAct : List axE := [
  (0, 1, .null, 1, 0, [], 1), (1, 0, .int 0, 0, 0, [], 2), (2, 2, .null, 0, 0, [], 3), (3, 52, .ref 5, 166, 0, [], 6), (6, 0, .int 1, 0, 0, [], 7), (7, 12, .null, 0, 0, [], 8), (8, 53, .null, 129, 3, [], 11), (11, 33, .null, 1, 16, [], 14),
  (14, 0, .int (-1), 0, 0, [], 15), (15, 49, .null, 0, 0, [], 15), (16, 1, .null, 2, 0, [], 17), (17, 35, .null, 0, 135, [(0, 64), (1, 71), (2, 77), (3, 87), (4, 101), (5, 115), (6, 122), (7, 128)], 17), (64, 2, .null, 0, 0, [], 65), (65, 1, .null, 1, 0, [], 66), (66, 0, .int 0, 0, 0, [], 67), (67, 52, .ref 5, 169, 2, [], 70),
  (70, 49, .null, 0, 0, [], 70), (71, 2, .null, 0, 0, [], 72), (72, 1, .null, 1, 0, [], 73), (73, 52, .ref 5, 170, 1, [], 76), (76, 49, .null, 0, 0, [], 76), (77, 2, .null, 0, 0, [], 78), (78, 1, .null, 1, 0, [], 79), (79, 52, .ref 5, 168, 1, [], 82),
  (82, 0, .int 5000, 0, 0, [], 85), (85, 11, .null, 0, 0, [], 86), (86, 49, .null, 0, 0, [], 86), (87, 2, .null, 0, 0, [], 88), (88, 1, .null, 1, 0, [], 89), (89, 52, .ref 5, 177, 1, [], 92), (92, 33, .null, 0, 99, [], 95), (95, 0, .int 1, 0, 0, [], 96),
  (96, 9, .null, 0, 0, [], 100), (99, 0, .int 0, 0, 0, [], 100), (100, 49, .null, 0, 0, [], 100), (101, 2, .null, 0, 0, [], 102), (102, 1, .null, 1, 0, [], 103), (103, 52, .ref 5, 178, 1, [], 106), (106, 33, .null, 0, 113, [], 109), (109, 0, .int 1, 0, 0, [], 110),
  (110, 9, .null, 0, 0, [], 114), (113, 0, .int 0, 0, 0, [], 114), (114, 49, .null, 0, 0, [], 114), (115, 2, .null, 0, 0, [], 116), (116, 1, .null, 1, 0, [], 117), (117, 0, .int 1, 0, 0, [], 118), (118, 52, .ref 5, 169, 2, [], 121), (121, 49, .null, 0, 0, [], 121),
  (122, 2, .null, 0, 0, [], 123), (123, 1, .null, 1, 0, [], 124), (124, 52, .ref 5, 179, 1, [], 127), (127, 49, .null, 0, 0, [], 127), (128, 2, .null, 0, 0, [], 129), (129, 1, .null, 1, 0, [], 130), (130, 0, .int 2, 0, 0, [], 131), (131, 52, .ref 5, 169, 2, [], 134),
  (134, 49, .null, 0, 0, [], 134), (135, 0, .int (-2), 0, 0, [], 137), (137, 49, .null, 0, 0, [], 137)]
def mtX5_ofAct : axM := (⟨"BeatSlugsModel", "ofAct", "(II)I"⟩, prog_7_method_56_code, 3, (some .int), 5, false, cdX5_ofAct)
abbrev kX5_ofAct : Nat := 176
set_option maxRecDepth 100000 in
theorem ckX5_ofAct : axCk 5 false 0 prog_7_method_56_code cdX5_ofAct = true := by decide +kernel
def cdX5_fits : List axE := [
  (0, 2, .null, 0, 0, [], 1), (1, 1, .null, 1, 0, [], 2), (2, 52, .ref 5, 168, 1, [], 5), (5, 53, .null, 161, 1, [], 8), (8, 2, .null, 0, 0, [], 9), (9, 36, .null, 5, 0, [], 12), (12, 0, .int 2, 0, 0, [], 13), (13, 40, .null, 0, 0, [], 14),
  (14, 32, .null, 4, 29, [], 17), (17, 2, .null, 0, 0, [], 18), (18, 1, .null, 1, 0, [], 19), (19, 52, .ref 5, 178, 1, [], 22), (22, 33, .null, 1, 29, [], 25), (25, 0, .int 1, 0, 0, [], 26), (26, 9, .null, 0, 0, [], 30), (29, 0, .int 0, 0, 0, [], 30),
  (30, 49, .null, 2, 0, [], 30)]
def mtX5_fits : axM := (⟨"BeatSlugsModel", "fits", "(I)Z"⟩, prog_7_method_27_code, 2, (some .boolean), 5, false, cdX5_fits)
abbrev kX5_fits : Nat := 177
set_option maxRecDepth 100000 in
theorem ckX5_fits : axCk 5 false 2 prog_7_method_27_code cdX5_fits = true := by decide +kernel
def cdX5_isOpen : List axE := [
  (0, 2, .null, 0, 0, [], 1), (1, 2, .null, 0, 0, [], 2), (2, 36, .null, 5, 0, [], 5), (5, 0, .int 0, 0, 0, [], 6), (6, 40, .null, 0, 0, [], 7), (7, 52, .ref 5, 167, 1, [], 10), (10, 1, .null, 1, 0, [], 11), (11, 32, .null, 1, 18, [], 14),
  (14, 0, .int 1, 0, 0, [], 15), (15, 9, .null, 0, 0, [], 19), (18, 0, .int 0, 0, 0, [], 19), (19, 49, .null, 2, 0, [], 19)]
def mtX5_isOpen : axM := (⟨"BeatSlugsModel", "isOpen", "(I)Z"⟩, prog_7_method_21_code, 2, (some .boolean), 5, false, cdX5_isOpen)
abbrev kX5_isOpen : Nat := 178
set_option maxRecDepth 100000 in
theorem ckX5_isOpen : axCk 5 false 2 prog_7_method_21_code cdX5_isOpen = true := by decide +kernel
def cdX5_beginOfAct : List axE := [
  (0, 0, .int 0, 0, 0, [], 1), (1, 4, .null, 2, 0, [], 2), (2, 2, .null, 0, 0, [], 3), (3, 1, .null, 2, 0, [], 4), (4, 52, .ref 5, 167, 1, [], 7), (7, 1, .null, 1, 0, [], 8), (8, 32, .null, 3, 17, [], 11), (11, 6, .int 1, 2, 0, [], 14),
  (14, 9, .null, 0, 0, [], 2), (17, 2, .null, 0, 0, [], 18), (18, 1, .null, 2, 0, [], 19), (19, 52, .ref 5, 173, 1, [], 22), (22, 49, .null, 0, 0, [], 22)]
def mtX5_beginOfAct : axM := (⟨"BeatSlugsModel", "beginOfAct", "(I)I"⟩, prog_7_method_24_code, 3, (some .int), 5, false, cdX5_beginOfAct)
abbrev kX5_beginOfAct : Nat := 179
set_option maxRecDepth 100000 in
theorem ckX5_beginOfAct : axCk 5 false 0 prog_7_method_24_code cdX5_beginOfAct = true := by decide +kernel
def cdX5_count : List axE := [
  (0, 1, .null, 1, 0, [], 1), (1, 35, .null, 0, 149, [(0, 64), (1, 69), (2, 74), (3, 85), (4, 112), (5, 117), (6, 122), (7, 127), (8, 127), (9, 127), (10, 139), (11, 144)], 1), (64, 2, .null, 0, 0, [], 65), (65, 52, .ref 5, 181, 0, [], 68), (68, 49, .null, 0, 0, [], 68), (69, 2, .null, 0, 0, [], 70), (70, 52, .ref 5, 166, 0, [], 73), (73, 49, .null, 0, 0, [], 73),
  (74, 2, .null, 0, 0, [], 75), (75, 2, .null, 0, 0, [], 76), (76, 36, .null, 5, 0, [], 79), (79, 0, .int 0, 0, 0, [], 80), (80, 40, .null, 0, 0, [], 81), (81, 52, .ref 5, 173, 1, [], 84), (84, 49, .null, 0, 0, [], 84), (85, 2, .null, 0, 0, [], 86),
  (86, 2, .null, 0, 0, [], 87), (87, 36, .null, 5, 0, [], 90), (90, 0, .int 0, 0, 0, [], 91), (91, 40, .null, 0, 0, [], 92), (92, 52, .ref 5, 173, 1, [], 95), (95, 2, .null, 0, 0, [], 96), (96, 36, .null, 5, 0, [], 99), (99, 0, .int 1, 0, 0, [], 100),
  (100, 40, .null, 0, 0, [], 101), (101, 11, .null, 0, 0, [], 102), (102, 0, .int 1, 0, 0, [], 103), (103, 12, .null, 0, 0, [], 104), (104, 2, .null, 0, 0, [], 105), (105, 36, .null, 5, 0, [], 108), (108, 0, .int 1, 0, 0, [], 109), (109, 40, .null, 0, 0, [], 110),
  (110, 47, .null, 0, 0, [], 111), (111, 49, .null, 0, 0, [], 111), (112, 2, .null, 0, 0, [], 113), (113, 52, .ref 5, 182, 0, [], 116), (116, 49, .null, 0, 0, [], 116), (117, 2, .null, 0, 0, [], 118), (118, 52, .ref 5, 183, 0, [], 121), (121, 49, .null, 0, 0, [], 121),
  (122, 2, .null, 0, 0, [], 123), (123, 52, .ref 5, 184, 0, [], 126), (126, 49, .null, 0, 0, [], 126), (127, 2, .null, 0, 0, [], 128), (128, 36, .null, 5, 0, [], 131), (131, 0, .int 1, 0, 0, [], 132), (132, 1, .null, 1, 0, [], 133), (133, 11, .null, 0, 0, [], 134),
  (134, 0, .int 7, 0, 0, [], 136), (136, 12, .null, 0, 0, [], 137), (137, 40, .null, 0, 0, [], 138), (138, 49, .null, 0, 0, [], 138), (139, 2, .null, 0, 0, [], 140), (140, 36, .null, 5, 7, [], 143), (143, 49, .null, 0, 0, [], 143), (144, 2, .null, 0, 0, [], 145),
  (145, 36, .null, 5, 2, [], 148), (148, 49, .null, 0, 0, [], 148), (149, 0, .int (-2), 0, 0, [], 151), (151, 49, .null, 0, 0, [], 151)]
def mtX5_count : axM := (⟨"BeatSlugsModel", "count", "(I)I"⟩, prog_7_method_59_code, 2, (some .int), 5, false, cdX5_count)
abbrev kX5_count : Nat := 180
set_option maxRecDepth 100000 in
theorem ckX5_count : axCk 5 false 0 prog_7_method_59_code cdX5_count = true := by decide +kernel
def cdX5_slugs : List axE := [
  (0, 0, .int 0, 0, 0, [], 1), (1, 4, .null, 1, 0, [], 2), (2, 0, .int 0, 0, 0, [], 3), (3, 4, .null, 2, 0, [], 4), (4, 1, .null, 2, 0, [], 5), (5, 2, .null, 0, 0, [], 6), (6, 36, .null, 5, 0, [], 9), (9, 0, .int 0, 0, 0, [], 10),
  (10, 40, .null, 0, 0, [], 11), (11, 32, .null, 3, 34, [], 14), (14, 1, .null, 1, 0, [], 15), (15, 0, .int 1, 0, 0, [], 16), (16, 2, .null, 0, 0, [], 17), (17, 36, .null, 5, 0, [], 20), (20, 0, .int 10, 0, 0, [], 22), (22, 1, .null, 2, 0, [], 23),
  (23, 11, .null, 0, 0, [], 24), (24, 40, .null, 0, 0, [], 25), (25, 17, .null, 0, 0, [], 26), (26, 15, .null, 0, 0, [], 27), (27, 4, .null, 1, 0, [], 28), (28, 6, .int 1, 2, 0, [], 31), (31, 9, .null, 0, 0, [], 4), (34, 1, .null, 1, 0, [], 35),
  (35, 49, .null, 0, 0, [], 35)]
def mtX5_slugs : axM := (⟨"BeatSlugsModel", "slugs", "()I"⟩, prog_7_method_57_code, 3, (some .int), 5, false, cdX5_slugs)
abbrev kX5_slugs : Nat := 181
set_option maxRecDepth 100000 in
theorem ckX5_slugs : axCk 5 false 0 prog_7_method_57_code cdX5_slugs = true := by decide +kernel
def cdX5_allOff : List axE := [
  (0, 0, .int 0, 0, 0, [], 1), (1, 4, .null, 1, 0, [], 2), (2, 0, .int 0, 0, 0, [], 3), (3, 4, .null, 2, 0, [], 4), (4, 1, .null, 2, 0, [], 5), (5, 2, .null, 0, 0, [], 6), (6, 52, .ref 5, 166, 0, [], 9), (9, 32, .null, 3, 29, [], 12),
  (12, 1, .null, 1, 0, [], 13), (13, 2, .null, 0, 0, [], 14), (14, 1, .null, 2, 0, [], 15), (15, 52, .ref 5, 168, 1, [], 18), (18, 53, .null, 161, 1, [], 21), (21, 11, .null, 0, 0, [], 22), (22, 4, .null, 1, 0, [], 23), (23, 6, .int 1, 2, 0, [], 26),
  (26, 9, .null, 0, 0, [], 4), (29, 1, .null, 1, 0, [], 30), (30, 49, .null, 0, 0, [], 30)]
def mtX5_allOff : axM := (⟨"BeatSlugsModel", "allOff", "()I"⟩, prog_7_method_28_code, 3, (some .int), 5, false, cdX5_allOff)
abbrev kX5_allOff : Nat := 182
set_option maxRecDepth 100000 in
theorem ckX5_allOff : axCk 5 false 0 prog_7_method_28_code cdX5_allOff = true := by decide +kernel
def cdX5_fitting : List axE := [
  (0, 0, .int 0, 0, 0, [], 1), (1, 4, .null, 1, 0, [], 2), (2, 0, .int 0, 0, 0, [], 3), (3, 4, .null, 2, 0, [], 4), (4, 1, .null, 2, 0, [], 5), (5, 2, .null, 0, 0, [], 6), (6, 52, .ref 5, 166, 0, [], 9), (9, 32, .null, 3, 34, [], 12),
  (12, 1, .null, 1, 0, [], 13), (13, 2, .null, 0, 0, [], 14), (14, 1, .null, 2, 0, [], 15), (15, 52, .ref 5, 177, 1, [], 18), (18, 33, .null, 0, 25, [], 21), (21, 0, .int 1, 0, 0, [], 22), (22, 9, .null, 0, 0, [], 26), (25, 0, .int 0, 0, 0, [], 26),
  (26, 11, .null, 0, 0, [], 27), (27, 4, .null, 1, 0, [], 28), (28, 6, .int 1, 2, 0, [], 31), (31, 9, .null, 0, 0, [], 4), (34, 1, .null, 1, 0, [], 35), (35, 49, .null, 0, 0, [], 35)]
def mtX5_fitting : axM := (⟨"BeatSlugsModel", "fitting", "()I"⟩, prog_7_method_29_code, 3, (some .int), 5, false, cdX5_fitting)
abbrev kX5_fitting : Nat := 183
set_option maxRecDepth 100000 in
theorem ckX5_fitting : axCk 5 false 0 prog_7_method_29_code cdX5_fitting = true := by decide +kernel
def cdX5_longest : List axE := [
  (0, 0, .int (-6), 0, 0, [], 2), (2, 4, .null, 1, 0, [], 3), (3, 0, .int 0, 0, 0, [], 4), (4, 4, .null, 2, 0, [], 5), (5, 1, .null, 2, 0, [], 6), (6, 2, .null, 0, 0, [], 7), (7, 36, .null, 5, 0, [], 10), (10, 0, .int 0, 0, 0, [], 11),
  (11, 40, .null, 0, 0, [], 12), (12, 32, .null, 3, 64, [], 15), (15, 1, .null, 1, 0, [], 16), (16, 0, .int (-6), 0, 0, [], 18), (18, 32, .null, 0, 44, [], 21), (21, 2, .null, 0, 0, [], 22), (22, 2, .null, 0, 0, [], 23), (23, 36, .null, 5, 0, [], 26),
  (26, 0, .int 10, 0, 0, [], 28), (28, 1, .null, 2, 0, [], 29), (29, 11, .null, 0, 0, [], 30), (30, 40, .null, 0, 0, [], 31), (31, 0, .int 2, 0, 0, [], 32), (32, 52, .ref 5, 138, 2, [], 35), (35, 2, .null, 0, 0, [], 36), (36, 1, .null, 1, 0, [], 37),
  (37, 0, .int 2, 0, 0, [], 38), (38, 52, .ref 5, 138, 2, [], 41), (41, 32, .null, 5, 56, [], 44), (44, 2, .null, 0, 0, [], 45), (45, 36, .null, 5, 0, [], 48), (48, 0, .int 10, 0, 0, [], 50), (50, 1, .null, 2, 0, [], 51), (51, 11, .null, 0, 0, [], 52),
  (52, 40, .null, 0, 0, [], 53), (53, 9, .null, 0, 0, [], 57), (56, 1, .null, 1, 0, [], 57), (57, 4, .null, 1, 0, [], 58), (58, 6, .int 1, 2, 0, [], 61), (61, 9, .null, 0, 0, [], 5), (64, 1, .null, 1, 0, [], 65), (65, 49, .null, 0, 0, [], 65)]
def mtX5_longest : axM := (⟨"BeatSlugsModel", "longest", "()I"⟩, prog_7_method_58_code, 3, (some .int), 5, false, cdX5_longest)
abbrev kX5_longest : Nat := 184
set_option maxRecDepth 100000 in
theorem ckX5_longest : axCk 5 false 0 prog_7_method_58_code cdX5_longest = true := by decide +kernel
def cdX5_places : List axE := [
  (0, 2, .null, 0, 0, [], 1), (1, 1, .null, 1, 0, [], 2), (2, 52, .ref 5, 143, 1, [], 5), (5, 33, .null, 1, 10, [], 8), (8, 0, .int (-1), 0, 0, [], 9), (9, 49, .null, 0, 0, [], 9), (10, 0, .int 0, 0, 0, [], 11), (11, 4, .null, 2, 0, [], 12),
  (12, 2, .null, 0, 0, [], 13), (13, 36, .null, 5, 0, [], 16), (16, 0, .int 0, 0, 0, [], 17), (17, 2, .null, 0, 0, [], 18), (18, 36, .null, 5, 5, [], 21), (21, 0, .int 0, 0, 0, [], 22), (22, 53, .null, 132, 4, [], 25), (25, 0, .int 0, 0, 0, [], 26),
  (26, 4, .null, 3, 0, [], 27), (27, 1, .null, 3, 0, [], 28), (28, 2, .null, 0, 0, [], 29), (29, 36, .null, 5, 0, [], 32), (32, 0, .int 0, 0, 0, [], 33), (33, 40, .null, 0, 0, [], 34), (34, 32, .null, 3, 75, [], 37), (37, 1, .null, 2, 0, [], 38),
  (38, 2, .null, 0, 0, [], 39), (39, 1, .null, 1, 0, [], 40), (40, 1, .null, 3, 0, [], 41), (41, 52, .ref 5, 157, 2, [], 44), (44, 33, .null, 2, 53, [], 47), (47, 0, .int 1, 0, 0, [], 48), (48, 1, .null, 3, 0, [], 49), (49, 17, .null, 0, 0, [], 50),
  (50, 9, .null, 0, 0, [], 54), (53, 0, .int 0, 0, 0, [], 54), (54, 15, .null, 0, 0, [], 55), (55, 4, .null, 2, 0, [], 56), (56, 2, .null, 0, 0, [], 57), (57, 36, .null, 5, 5, [], 60), (60, 0, .int 0, 0, 0, [], 61), (61, 2, .null, 0, 0, [], 62),
  (62, 36, .null, 5, 0, [], 65), (65, 0, .int 0, 0, 0, [], 66), (66, 53, .null, 132, 4, [], 69), (69, 6, .int 1, 3, 0, [], 72), (72, 9, .null, 0, 0, [], 27), (75, 1, .null, 2, 0, [], 76), (76, 49, .null, 0, 0, [], 76)]
def mtX5_places : axM := (⟨"BeatSlugsModel", "places", "(I)I"⟩, prog_7_method_60_code, 4, (some .int), 5, false, cdX5_places)
abbrev kX5_places : Nat := 185
set_option maxRecDepth 100000 in
theorem ckX5_places : axCk 5 false 0 prog_7_method_60_code cdX5_places = true := by decide +kernel
def cdX5_bestSwap : List axE := [
  (0, 1, .null, 1, 0, [], 1), (1, 0, .int 0, 0, 0, [], 2), (2, 0, .int 2, 0, 0, [], 3), (3, 53, .null, 129, 3, [], 6), (6, 33, .null, 1, 12, [], 9), (9, 0, .int (-2), 0, 0, [], 11), (11, 49, .null, 0, 0, [], 11), (12, 2, .null, 0, 0, [], 13),
  (13, 52, .ref 5, 182, 0, [], 16), (16, 4, .null, 2, 0, [], 17), (17, 0, .int (-6), 0, 0, [], 19), (19, 4, .null, 3, 0, [], 20), (20, 2, .null, 0, 0, [], 21), (21, 36, .null, 5, 0, [], 24), (24, 0, .int 0, 0, 0, [], 25), (25, 2, .null, 0, 0, [], 26),
  (26, 36, .null, 5, 5, [], 29), (29, 0, .int 0, 0, 0, [], 30), (30, 53, .null, 132, 4, [], 33), (33, 0, .int 0, 0, 0, [], 34), (34, 4, .null, 4, 0, [], 36), (36, 1, .null, 4, 0, [], 38), (38, 0, .int 576, 0, 0, [], 41), (41, 32, .null, 3, 171, [], 44),
  (44, 1, .null, 4, 0, [], 46), (46, 0, .int 24, 0, 0, [], 48), (48, 47, .null, 0, 0, [], 49), (49, 4, .null, 5, 0, [], 51), (51, 1, .null, 4, 0, [], 53), (53, 0, .int 24, 0, 0, [], 55), (55, 48, .null, 0, 0, [], 56), (56, 4, .null, 6, 0, [], 58),
  (58, 1, .null, 5, 0, [], 60), (60, 1, .null, 6, 0, [], 62), (62, 32, .null, 3, 165, [], 65), (65, 1, .null, 6, 0, [], 67), (67, 2, .null, 0, 0, [], 68), (68, 36, .null, 5, 0, [], 71), (71, 0, .int 0, 0, 0, [], 72), (72, 40, .null, 0, 0, [], 73),
  (73, 32, .null, 3, 165, [], 76), (76, 2, .null, 0, 0, [], 77), (77, 2, .null, 0, 0, [], 78), (78, 36, .null, 5, 0, [], 81), (81, 0, .int 10, 0, 0, [], 83), (83, 1, .null, 5, 0, [], 85), (85, 11, .null, 0, 0, [], 86), (86, 40, .null, 0, 0, [], 87),
  (87, 2, .null, 0, 0, [], 88), (88, 36, .null, 5, 0, [], 91), (91, 0, .int 10, 0, 0, [], 93), (93, 1, .null, 6, 0, [], 95), (95, 11, .null, 0, 0, [], 96), (96, 40, .null, 0, 0, [], 97), (97, 52, .ref 5, 160, 2, [], 100), (100, 33, .null, 2, 107, [], 103),
  (103, 0, .int 1, 0, 0, [], 104), (104, 9, .null, 0, 0, [], 108), (107, 0, .int 0, 0, 0, [], 108), (108, 4, .null, 7, 0, [], 110), (110, 2, .null, 0, 0, [], 111), (111, 52, .ref 5, 182, 0, [], 114), (114, 4, .null, 8, 0, [], 116), (116, 1, .null, 7, 0, [], 118),
  (118, 33, .null, 0, 132, [], 121), (121, 1, .null, 8, 0, [], 123), (123, 1, .null, 2, 0, [], 124), (124, 32, .null, 3, 132, [], 127), (127, 1, .null, 4, 0, [], 129), (129, 9, .null, 0, 0, [], 133), (132, 1, .null, 3, 0, [], 133), (133, 4, .null, 3, 0, [], 134),
  (134, 1, .null, 7, 0, [], 136), (136, 33, .null, 0, 150, [], 139), (139, 1, .null, 8, 0, [], 141), (141, 1, .null, 2, 0, [], 142), (142, 32, .null, 3, 150, [], 145), (145, 1, .null, 8, 0, [], 147), (147, 9, .null, 0, 0, [], 151), (150, 1, .null, 2, 0, [], 151),
  (151, 4, .null, 2, 0, [], 152), (152, 2, .null, 0, 0, [], 153), (153, 36, .null, 5, 5, [], 156), (156, 0, .int 0, 0, 0, [], 157), (157, 2, .null, 0, 0, [], 158), (158, 36, .null, 5, 0, [], 161), (161, 0, .int 0, 0, 0, [], 162), (162, 53, .null, 132, 4, [], 165),
  (165, 6, .int 1, 4, 0, [], 168), (168, 9, .null, 0, 0, [], 36), (171, 1, .null, 3, 0, [], 172), (172, 0, .int (-6), 0, 0, [], 174), (174, 32, .null, 1, 182, [], 177), (177, 0, .int (-6), 0, 0, [], 179), (179, 9, .null, 0, 0, [], 222), (182, 1, .null, 1, 0, [], 183),
  (183, 33, .null, 1, 201, [], 186), (186, 2, .null, 0, 0, [], 187), (187, 36, .null, 5, 0, [], 190), (190, 0, .int 10, 0, 0, [], 192), (192, 1, .null, 3, 0, [], 193), (193, 0, .int 24, 0, 0, [], 195), (195, 47, .null, 0, 0, [], 196), (196, 11, .null, 0, 0, [], 197),
  (197, 40, .null, 0, 0, [], 198), (198, 9, .null, 0, 0, [], 222), (201, 1, .null, 1, 0, [], 202), (202, 0, .int 1, 0, 0, [], 203), (203, 32, .null, 1, 221, [], 206), (206, 2, .null, 0, 0, [], 207), (207, 36, .null, 5, 0, [], 210), (210, 0, .int 10, 0, 0, [], 212),
  (212, 1, .null, 3, 0, [], 213), (213, 0, .int 24, 0, 0, [], 215), (215, 48, .null, 0, 0, [], 216), (216, 11, .null, 0, 0, [], 217), (217, 40, .null, 0, 0, [], 218), (218, 9, .null, 0, 0, [], 222), (221, 1, .null, 2, 0, [], 222), (222, 49, .null, 0, 0, [], 222)]
def mtX5_bestSwap : axM := (⟨"BeatSlugsModel", "bestSwap", "(I)I"⟩, prog_7_method_61_code, 9, (some .int), 5, false, cdX5_bestSwap)
abbrev kX5_bestSwap : Nat := 186
set_option maxRecDepth 100000 in
theorem ckX5_bestSwap : axCk 5 false 0 prog_7_method_61_code cdX5_bestSwap = true := by decide +kernel
def cdX5_ifFitted : List axE := [
  (0, 2, .null, 0, 0, [], 1), (1, 36, .null, 5, 0, [], 4), (4, 0, .int 0, 0, 0, [], 5), (5, 2, .null, 0, 0, [], 6), (6, 36, .null, 5, 5, [], 9), (9, 0, .int 0, 0, 0, [], 10), (10, 53, .null, 132, 4, [], 13), (13, 2, .null, 0, 0, [], 14),
  (14, 1, .null, 1, 0, [], 15), (15, 52, .ref 5, 165, 1, [], 18), (18, 4, .null, 2, 0, [], 19), (19, 2, .null, 0, 0, [], 20), (20, 36, .null, 5, 5, [], 23), (23, 0, .int 0, 0, 0, [], 24), (24, 2, .null, 0, 0, [], 25), (25, 36, .null, 5, 0, [], 28),
  (28, 0, .int 0, 0, 0, [], 29), (29, 53, .null, 132, 4, [], 32), (32, 1, .null, 2, 0, [], 33), (33, 49, .null, 0, 0, [], 33)]
def mtX5_ifFitted : axM := (⟨"BeatSlugsModel", "ifFitted", "(I)I"⟩, prog_7_method_62_code, 3, (some .int), 5, false, cdX5_ifFitted)
abbrev kX5_ifFitted : Nat := 187
set_option maxRecDepth 100000 in
theorem ckX5_ifFitted : axCk 5 false 0 prog_7_method_62_code cdX5_ifFitted = true := by decide +kernel
def cdX5_ifTurned : List axE := [
  (0, 2, .null, 0, 0, [], 1), (1, 1, .null, 1, 0, [], 2), (2, 52, .ref 5, 143, 1, [], 5), (5, 33, .null, 1, 10, [], 8), (8, 0, .int (-1), 0, 0, [], 9), (9, 49, .null, 0, 0, [], 9), (10, 2, .null, 0, 0, [], 11), (11, 1, .null, 1, 0, [], 12),
  (12, 0, .int 3, 0, 0, [], 13), (13, 0, .int 1, 0, 0, [], 14), (14, 2, .null, 0, 0, [], 15), (15, 1, .null, 1, 0, [], 16), (16, 0, .int 3, 0, 0, [], 17), (17, 52, .ref 5, 138, 2, [], 20), (20, 12, .null, 0, 0, [], 21), (21, 52, .ref 5, 139, 3, [], 24),
  (24, 2, .null, 0, 0, [], 25), (25, 52, .ref 5, 182, 0, [], 28), (28, 4, .null, 2, 0, [], 29), (29, 2, .null, 0, 0, [], 30), (30, 1, .null, 1, 0, [], 31), (31, 0, .int 3, 0, 0, [], 32), (32, 0, .int 1, 0, 0, [], 33), (33, 2, .null, 0, 0, [], 34),
  (34, 1, .null, 1, 0, [], 35), (35, 0, .int 3, 0, 0, [], 36), (36, 52, .ref 5, 138, 2, [], 39), (39, 12, .null, 0, 0, [], 40), (40, 52, .ref 5, 139, 3, [], 43), (43, 1, .null, 2, 0, [], 44), (44, 49, .null, 0, 0, [], 44)]
def mtX5_ifTurned : axM := (⟨"BeatSlugsModel", "ifTurned", "(I)I"⟩, prog_7_method_63_code, 3, (some .int), 5, false, cdX5_ifTurned)
abbrev kX5_ifTurned : Nat := 188
set_option maxRecDepth 100000 in
theorem ckX5_ifTurned : axCk 5 false 0 prog_7_method_63_code cdX5_ifTurned = true := by decide +kernel
def cdX5_needs : List axE := [
  (0, 2, .null, 0, 0, [], 1), (1, 1, .null, 1, 0, [], 2), (2, 52, .ref 5, 143, 1, [], 5), (5, 33, .null, 1, 10, [], 8), (8, 0, .int (-1), 0, 0, [], 9), (9, 49, .null, 0, 0, [], 9), (10, 2, .null, 0, 0, [], 11), (11, 1, .null, 1, 0, [], 12),
  (12, 0, .int 4, 0, 0, [], 13), (13, 52, .ref 5, 138, 2, [], 16), (16, 4, .null, 2, 0, [], 17), (17, 2, .null, 0, 0, [], 18), (18, 36, .null, 5, 0, [], 21), (21, 0, .int 0, 0, 0, [], 22), (22, 40, .null, 0, 0, [], 23), (23, 0, .int 1, 0, 0, [], 24),
  (24, 12, .null, 0, 0, [], 25), (25, 4, .null, 3, 0, [], 26), (26, 1, .null, 3, 0, [], 27), (27, 33, .null, 2, 73, [], 30), (30, 1, .null, 2, 0, [], 31), (31, 1, .null, 2, 0, [], 32), (32, 2, .null, 0, 0, [], 33), (33, 36, .null, 5, 0, [], 36),
  (36, 0, .int 10, 0, 0, [], 38), (38, 1, .null, 3, 0, [], 39), (39, 11, .null, 0, 0, [], 40), (40, 40, .null, 0, 0, [], 41), (41, 53, .null, 149, 2, [], 44), (44, 33, .null, 0, 64, [], 47), (47, 2, .null, 0, 0, [], 48), (48, 2, .null, 0, 0, [], 49),
  (49, 36, .null, 5, 0, [], 52), (52, 0, .int 10, 0, 0, [], 54), (54, 1, .null, 3, 0, [], 55), (55, 11, .null, 0, 0, [], 56), (56, 40, .null, 0, 0, [], 57), (57, 0, .int 4, 0, 0, [], 58), (58, 52, .ref 5, 138, 2, [], 61), (61, 9, .null, 0, 0, [], 65),
  (64, 0, .int 0, 0, 0, [], 65), (65, 15, .null, 0, 0, [], 66), (66, 4, .null, 2, 0, [], 67), (67, 6, .int (-1), 3, 0, [], 70), (70, 9, .null, 0, 0, [], 26), (73, 1, .null, 2, 0, [], 74), (74, 49, .null, 0, 0, [], 74)]
def mtX5_needs : axM := (⟨"BeatSlugsModel", "needs", "(I)I"⟩, prog_7_method_64_code, 4, (some .int), 5, false, cdX5_needs)
abbrev kX5_needs : Nat := 189
set_option maxRecDepth 100000 in
theorem ckX5_needs : axCk 5 false 0 prog_7_method_64_code cdX5_needs = true := by decide +kernel
def cdX5_put : List axE := [
  (0, 0, .int 0, 0, 0, [], 1), (1, 4, .null, 3, 0, [], 2), (2, 3, .null, 1, 0, [], 3), (3, 0, .long 0, 0, 0, [], 4), (4, 29, .null, 0, 0, [], 5), (5, 33, .null, 0, 12, [], 8), (8, 0, .int 1, 0, 0, [], 9), (9, 9, .null, 0, 0, [], 13),
  (12, 0, .int 0, 0, 0, [], 13), (13, 4, .null, 4, 0, [], 15), (15, 0, .int 7, 0, 0, [], 17), (17, 4, .null, 5, 0, [], 19), (19, 1, .null, 5, 0, [], 21), (21, 33, .null, 2, 93, [], 24), (24, 3, .null, 1, 0, [], 25), (25, 0, .int 8, 0, 0, [], 27),
  (27, 1, .null, 5, 0, [], 29), (29, 13, .null, 0, 0, [], 30), (30, 27, .null, 0, 0, [], 31), (31, 0, .long 255, 0, 0, [], 34), (34, 24, .null, 0, 0, [], 35), (35, 23, .null, 0, 0, [], 36), (36, 4, .null, 6, 0, [], 38), (38, 1, .null, 4, 0, [], 40),
  (40, 33, .null, 0, 71, [], 43), (43, 1, .null, 6, 0, [], 45), (45, 33, .null, 1, 55, [], 48), (48, 1, .null, 3, 0, [], 49), (49, 33, .null, 1, 71, [], 52), (52, 9, .null, 0, 0, [], 67), (55, 1, .null, 6, 0, [], 57), (57, 0, .int 33, 0, 0, [], 59),
  (59, 0, .int 126, 0, 0, [], 61), (61, 53, .null, 129, 3, [], 64), (64, 33, .null, 0, 71, [], 67), (67, 0, .int 1, 0, 0, [], 68), (68, 9, .null, 0, 0, [], 72), (71, 0, .int 0, 0, 0, [], 72), (72, 4, .null, 4, 0, [], 74), (74, 1, .null, 3, 0, [], 75),
  (75, 1, .null, 6, 0, [], 77), (77, 33, .null, 1, 84, [], 80), (80, 0, .int 0, 0, 0, [], 81), (81, 9, .null, 0, 0, [], 85), (84, 0, .int 1, 0, 0, [], 85), (85, 11, .null, 0, 0, [], 86), (86, 4, .null, 3, 0, [], 87), (87, 6, .int (-1), 5, 0, [], 90),
  (90, 9, .null, 0, 0, [], 19), (93, 1, .null, 4, 0, [], 95), (95, 33, .null, 1, 101, [], 98), (98, 0, .int (-2), 0, 0, [], 100), (100, 49, .null, 0, 0, [], 100), (101, 2, .null, 0, 0, [], 102), (102, 36, .null, 5, 7, [], 105), (105, 1, .null, 3, 0, [], 106),
  (106, 11, .null, 0, 0, [], 107), (107, 0, .int 80, 0, 0, [], 109), (109, 32, .null, 5, 115, [], 112), (112, 0, .int (-4), 0, 0, [], 114), (114, 49, .null, 0, 0, [], 114), (115, 1, .null, 3, 0, [], 116), (116, 0, .int 1, 0, 0, [], 117), (117, 12, .null, 0, 0, [], 118),
  (118, 4, .null, 5, 0, [], 120), (120, 1, .null, 5, 0, [], 122), (122, 33, .null, 2, 162, [], 125), (125, 2, .null, 0, 0, [], 126), (126, 36, .null, 5, 6, [], 129), (129, 2, .null, 0, 0, [], 130), (130, 36, .null, 5, 7, [], 133), (133, 3, .null, 1, 0, [], 134),
  (134, 0, .int 8, 0, 0, [], 136), (136, 1, .null, 5, 0, [], 138), (138, 13, .null, 0, 0, [], 139), (139, 27, .null, 0, 0, [], 140), (140, 0, .long 255, 0, 0, [], 143), (143, 24, .null, 0, 0, [], 144), (144, 23, .null, 0, 0, [], 145), (145, 42, .null, 0, 0, [], 146),
  (146, 2, .null, 0, 0, [], 147), (147, 7, .null, 0, 0, [], 148), (148, 36, .null, 5, 7, [], 151), (151, 0, .int 1, 0, 0, [], 152), (152, 11, .null, 0, 0, [], 153), (153, 37, .null, 5, 7, [], 156), (156, 6, .int (-1), 5, 0, [], 159), (159, 9, .null, 0, 0, [], 120),
  (162, 2, .null, 0, 0, [], 163), (163, 36, .null, 5, 7, [], 166), (166, 49, .null, 0, 0, [], 166)]
def mtX5_put : axM := (⟨"BeatSlugsModel", "put", "(J)I"⟩, prog_7_method_65_code, 7, (some .int), 5, false, cdX5_put)
abbrev kX5_put : Nat := 190
set_option maxRecDepth 100000 in
theorem ckX5_put : axCk 5 false 0 prog_7_method_65_code cdX5_put = true := by decide +kernel
def cdX5_wipe : List axE := [
  (0, 2, .null, 0, 0, [], 1), (1, 36, .null, 5, 7, [], 4), (4, 4, .null, 1, 0, [], 5), (5, 2, .null, 0, 0, [], 6), (6, 0, .int 0, 0, 0, [], 7), (7, 37, .null, 5, 7, [], 10), (10, 1, .null, 1, 0, [], 11), (11, 49, .null, 0, 0, [], 11)]
def mtX5_wipe : axM := (⟨"BeatSlugsModel", "wipe", "()I"⟩, prog_7_method_66_code, 2, (some .int), 5, false, cdX5_wipe)
abbrev kX5_wipe : Nat := 191
set_option maxRecDepth 100000 in
theorem ckX5_wipe : axCk 5 false 0 prog_7_method_66_code cdX5_wipe = true := by decide +kernel
def cdX5_fault : List axE := [
  (0, 2, .null, 0, 0, [], 1), (1, 0, .int 0, 0, 0, [], 2), (2, 52, .ref 5, 193, 1, [], 5), (5, 33, .null, 0, 13, [], 8), (8, 0, .int (-6), 0, 0, [], 10), (10, 9, .null, 0, 0, [], 17), (13, 2, .null, 0, 0, [], 14), (14, 36, .null, 5, 8, [], 17),
  (17, 49, .null, 0, 0, [], 17)]
def mtX5_fault : axM := (⟨"BeatSlugsModel", "fault", "()I"⟩, prog_7_method_74_code, 1, (some .int), 5, false, cdX5_fault)
abbrev kX5_fault : Nat := 192
set_option maxRecDepth 100000 in
theorem ckX5_fault : axCk 5 false 0 prog_7_method_74_code cdX5_fault = true := by decide +kernel
def cdX5_readPad : List axE := [
  (0, 2, .null, 0, 0, [], 1), (1, 0, .int 0, 0, 0, [], 2), (2, 37, .null, 5, 8, [], 5), (5, 2, .null, 0, 0, [], 6), (6, 0, .int 0, 0, 0, [], 7), (7, 37, .null, 5, 13, [], 10), (10, 2, .null, 0, 0, [], 11), (11, 52, .ref 5, 194, 0, [], 14),
  (14, 4, .null, 2, 0, [], 15), (15, 1, .null, 2, 0, [], 16), (16, 33, .null, 0, 106, [], 19), (19, 1, .null, 1, 0, [], 20), (20, 33, .null, 0, 58, [], 23), (23, 2, .null, 0, 0, [], 24), (24, 36, .null, 5, 0, [], 27), (27, 0, .int 0, 0, 0, [], 28),
  (28, 2, .null, 0, 0, [], 29), (29, 36, .null, 5, 5, [], 32), (32, 0, .int 0, 0, 0, [], 33), (33, 53, .null, 132, 4, [], 36), (36, 2, .null, 0, 0, [], 37), (37, 52, .ref 5, 199, 0, [], 40), (40, 33, .null, 3, 58, [], 43), (43, 2, .null, 0, 0, [], 44),
  (44, 36, .null, 5, 5, [], 47), (47, 0, .int 0, 0, 0, [], 48), (48, 2, .null, 0, 0, [], 49), (49, 36, .null, 5, 0, [], 52), (52, 0, .int 0, 0, 0, [], 53), (53, 53, .null, 132, 4, [], 56), (56, 0, .int 1, 0, 0, [], 57), (57, 49, .null, 2, 0, [], 57),
  (58, 2, .null, 0, 0, [], 59), (59, 7, .null, 0, 0, [], 60), (60, 36, .null, 5, 13, [], 63), (63, 0, .int 1, 0, 0, [], 64), (64, 11, .null, 0, 0, [], 65), (65, 37, .null, 5, 13, [], 68), (68, 2, .null, 0, 0, [], 69), (69, 36, .null, 5, 8, [], 72),
  (72, 2, .null, 0, 0, [], 73), (73, 36, .null, 5, 7, [], 76), (76, 32, .null, 1, 81, [], 79), (79, 0, .int 1, 0, 0, [], 80), (80, 49, .null, 2, 0, [], 80), (81, 2, .null, 0, 0, [], 82), (82, 0, .int 59, 0, 0, [], 84), (84, 52, .ref 5, 197, 1, [], 87),
  (87, 33, .null, 0, 101, [], 90), (90, 2, .null, 0, 0, [], 91), (91, 52, .ref 5, 194, 0, [], 94), (94, 33, .null, 0, 101, [], 97), (97, 0, .int 1, 0, 0, [], 98), (98, 9, .null, 0, 0, [], 102), (101, 0, .int 0, 0, 0, [], 102), (102, 4, .null, 2, 0, [], 103),
  (103, 9, .null, 0, 0, [], 15), (106, 0, .int 0, 0, 0, [], 107), (107, 49, .null, 2, 0, [], 107)]
def mtX5_readPad : axM := (⟨"BeatSlugsModel", "readPad", "(Z)Z"⟩, prog_7_method_73_code, 3, (some .boolean), 5, false, cdX5_readPad)
abbrev kX5_readPad : Nat := 193
set_option maxRecDepth 100000 in
theorem ckX5_readPad : axCk 5 false 2 prog_7_method_73_code cdX5_readPad = true := by decide +kernel
def cdX5_readOrder : List axE := [
  (0, 2, .null, 0, 0, [], 1), (1, 2, .null, 0, 0, [], 2), (2, 36, .null, 5, 8, [], 5), (5, 2, .null, 0, 0, [], 6), (6, 36, .null, 5, 7, [], 9), (9, 32, .null, 3, 24, [], 12), (12, 2, .null, 0, 0, [], 13), (13, 36, .null, 5, 6, [], 16),
  (16, 2, .null, 0, 0, [], 17), (17, 36, .null, 5, 8, [], 20), (20, 40, .null, 0, 0, [], 21), (21, 9, .null, 0, 0, [], 25), (24, 0, .int 0, 0, 0, [], 25), (25, 37, .null, 5, 9, [], 28), (28, 2, .null, 0, 0, [], 29), (29, 36, .null, 5, 9, [], 32),
  (32, 0, .int 115, 0, 0, [], 34), (34, 32, .null, 0, 84, [], 37), (37, 2, .null, 0, 0, [], 38), (38, 36, .null, 5, 9, [], 41), (41, 0, .int 110, 0, 0, [], 43), (43, 32, .null, 0, 84, [], 46), (46, 2, .null, 0, 0, [], 47), (47, 36, .null, 5, 9, [], 50),
  (50, 0, .int 109, 0, 0, [], 52), (52, 32, .null, 0, 84, [], 55), (55, 2, .null, 0, 0, [], 56), (56, 36, .null, 5, 9, [], 59), (59, 0, .int 120, 0, 0, [], 61), (61, 32, .null, 0, 84, [], 64), (64, 2, .null, 0, 0, [], 65), (65, 36, .null, 5, 9, [], 68),
  (68, 0, .int 116, 0, 0, [], 70), (70, 32, .null, 0, 84, [], 73), (73, 2, .null, 0, 0, [], 74), (74, 36, .null, 5, 9, [], 77), (77, 0, .int 102, 0, 0, [], 79), (79, 32, .null, 0, 84, [], 82), (82, 0, .int 0, 0, 0, [], 83), (83, 49, .null, 2, 0, [], 83),
  (84, 2, .null, 0, 0, [], 85), (85, 7, .null, 0, 0, [], 86), (86, 36, .null, 5, 8, [], 89), (89, 0, .int 1, 0, 0, [], 90), (90, 11, .null, 0, 0, [], 91), (91, 37, .null, 5, 8, [], 94), (94, 2, .null, 0, 0, [], 95), (95, 36, .null, 5, 9, [], 98),
  (98, 0, .int 102, 0, 0, [], 100), (100, 32, .null, 1, 157, [], 103), (103, 2, .null, 0, 0, [], 104), (104, 0, .int 48, 0, 0, [], 106), (106, 0, .int 57, 0, 0, [], 108), (108, 52, .ref 5, 195, 2, [], 111), (111, 4, .null, 1, 0, [], 112), (112, 2, .null, 0, 0, [], 113),
  (113, 1, .null, 1, 0, [], 114), (114, 33, .null, 0, 132, [], 117), (117, 2, .null, 0, 0, [], 118), (118, 36, .null, 5, 6, [], 121), (121, 2, .null, 0, 0, [], 122), (122, 36, .null, 5, 8, [], 125), (125, 40, .null, 0, 0, [], 126), (126, 0, .int 48, 0, 0, [], 128),
  (128, 12, .null, 0, 0, [], 129), (129, 9, .null, 0, 0, [], 134), (132, 0, .int (-6), 0, 0, [], 134), (134, 37, .null, 5, 10, [], 137), (137, 2, .null, 0, 0, [], 138), (138, 7, .null, 0, 0, [], 139), (139, 36, .null, 5, 8, [], 142), (142, 1, .null, 1, 0, [], 143),
  (143, 33, .null, 0, 150, [], 146), (146, 0, .int 1, 0, 0, [], 147), (147, 9, .null, 0, 0, [], 151), (150, 0, .int 0, 0, 0, [], 151), (151, 11, .null, 0, 0, [], 152), (152, 37, .null, 5, 8, [], 155), (155, 1, .null, 1, 0, [], 156), (156, 49, .null, 2, 0, [], 156),
  (157, 2, .null, 0, 0, [], 158), (158, 2, .null, 0, 0, [], 159), (159, 52, .ref 5, 196, 0, [], 162), (162, 37, .null, 5, 10, [], 165), (165, 2, .null, 0, 0, [], 166), (166, 36, .null, 5, 10, [], 169), (169, 0, .int (-6), 0, 0, [], 171), (171, 32, .null, 1, 176, [], 174),
  (174, 0, .int 0, 0, 0, [], 175), (175, 49, .null, 2, 0, [], 175), (176, 2, .null, 0, 0, [], 177), (177, 36, .null, 5, 9, [], 180), (180, 0, .int 115, 0, 0, [], 182), (182, 32, .null, 1, 197, [], 185), (185, 2, .null, 0, 0, [], 186), (186, 2, .null, 0, 0, [], 187),
  (187, 0, .int 33, 0, 0, [], 189), (189, 52, .ref 5, 197, 1, [], 192), (192, 37, .null, 5, 12, [], 195), (195, 0, .int 1, 0, 0, [], 196), (196, 49, .null, 2, 0, [], 196), (197, 2, .null, 0, 0, [], 198), (198, 2, .null, 0, 0, [], 199), (199, 36, .null, 5, 9, [], 202),
  (202, 53, .null, 198, 1, [], 205), (205, 52, .ref 5, 197, 1, [], 208), (208, 33, .null, 1, 213, [], 211), (211, 0, .int 0, 0, 0, [], 212), (212, 49, .null, 2, 0, [], 212), (213, 2, .null, 0, 0, [], 214), (214, 2, .null, 0, 0, [], 215), (215, 52, .ref 5, 196, 0, [], 218),
  (218, 37, .null, 5, 11, [], 221), (221, 2, .null, 0, 0, [], 222), (222, 36, .null, 5, 11, [], 225), (225, 0, .int (-6), 0, 0, [], 227), (227, 32, .null, 0, 234, [], 230), (230, 0, .int 1, 0, 0, [], 231), (231, 9, .null, 0, 0, [], 235), (234, 0, .int 0, 0, 0, [], 235),
  (235, 49, .null, 2, 0, [], 235)]
def mtX5_readOrder : axM := (⟨"BeatSlugsModel", "readOrder", "()Z"⟩, prog_7_method_71_code, 2, (some .boolean), 5, false, cdX5_readOrder)
abbrev kX5_readOrder : Nat := 194
set_option maxRecDepth 100000 in
theorem ckX5_readOrder : axCk 5 false 2 prog_7_method_71_code cdX5_readOrder = true := by decide +kernel
def cdX5_isNext : List axE := [
  (0, 2, .null, 0, 0, [], 1), (1, 36, .null, 5, 8, [], 4), (4, 2, .null, 0, 0, [], 5), (5, 36, .null, 5, 7, [], 8), (8, 32, .null, 3, 32, [], 11), (11, 2, .null, 0, 0, [], 12), (12, 36, .null, 5, 6, [], 15), (15, 2, .null, 0, 0, [], 16),
  (16, 36, .null, 5, 8, [], 19), (19, 40, .null, 0, 0, [], 20), (20, 1, .null, 1, 0, [], 21), (21, 1, .null, 2, 0, [], 22), (22, 53, .null, 129, 3, [], 25), (25, 33, .null, 0, 32, [], 28), (28, 0, .int 1, 0, 0, [], 29), (29, 9, .null, 0, 0, [], 33),
  (32, 0, .int 0, 0, 0, [], 33), (33, 49, .null, 2, 0, [], 33)]
def mtX5_isNext : axM := (⟨"BeatSlugsModel", "isNext", "(II)Z"⟩, prog_7_method_67_code, 3, (some .boolean), 5, false, cdX5_isNext)
abbrev kX5_isNext : Nat := 195
set_option maxRecDepth 100000 in
theorem ckX5_isNext : axCk 5 false 2 prog_7_method_67_code cdX5_isNext = true := by decide +kernel
def cdX5_readNumber : List axE := [
  (0, 2, .null, 0, 0, [], 1), (1, 0, .int 48, 0, 0, [], 3), (3, 0, .int 57, 0, 0, [], 5), (5, 52, .ref 5, 195, 2, [], 8), (8, 33, .null, 1, 14, [], 11), (11, 0, .int (-6), 0, 0, [], 13), (13, 49, .null, 0, 0, [], 13), (14, 2, .null, 0, 0, [], 15),
  (15, 36, .null, 5, 6, [], 18), (18, 2, .null, 0, 0, [], 19), (19, 36, .null, 5, 8, [], 22), (22, 40, .null, 0, 0, [], 23), (23, 0, .int 48, 0, 0, [], 25), (25, 12, .null, 0, 0, [], 26), (26, 4, .null, 1, 0, [], 27), (27, 2, .null, 0, 0, [], 28),
  (28, 7, .null, 0, 0, [], 29), (29, 36, .null, 5, 8, [], 32), (32, 0, .int 1, 0, 0, [], 33), (33, 11, .null, 0, 0, [], 34), (34, 37, .null, 5, 8, [], 37), (37, 1, .null, 1, 0, [], 38), (38, 33, .null, 5, 80, [], 41), (41, 2, .null, 0, 0, [], 42),
  (42, 0, .int 48, 0, 0, [], 44), (44, 0, .int 57, 0, 0, [], 46), (46, 52, .ref 5, 195, 2, [], 49), (49, 33, .null, 0, 80, [], 52), (52, 0, .int 10, 0, 0, [], 54), (54, 1, .null, 1, 0, [], 55), (55, 13, .null, 0, 0, [], 56), (56, 2, .null, 0, 0, [], 57),
  (57, 36, .null, 5, 6, [], 60), (60, 2, .null, 0, 0, [], 61), (61, 36, .null, 5, 8, [], 64), (64, 40, .null, 0, 0, [], 65), (65, 11, .null, 0, 0, [], 66), (66, 0, .int 48, 0, 0, [], 68), (68, 12, .null, 0, 0, [], 69), (69, 4, .null, 1, 0, [], 70),
  (70, 2, .null, 0, 0, [], 71), (71, 7, .null, 0, 0, [], 72), (72, 36, .null, 5, 8, [], 75), (75, 0, .int 1, 0, 0, [], 76), (76, 11, .null, 0, 0, [], 77), (77, 37, .null, 5, 8, [], 80), (80, 1, .null, 1, 0, [], 81), (81, 49, .null, 0, 0, [], 81)]
def mtX5_readNumber : axM := (⟨"BeatSlugsModel", "readNumber", "()I"⟩, prog_7_method_69_code, 2, (some .int), 5, false, cdX5_readNumber)
abbrev kX5_readNumber : Nat := 196
set_option maxRecDepth 100000 in
theorem ckX5_readNumber : axCk 5 false 0 prog_7_method_69_code cdX5_readNumber = true := by decide +kernel
def cdX5_takes : List axE := [
  (0, 2, .null, 0, 0, [], 1), (1, 1, .null, 1, 0, [], 2), (2, 1, .null, 1, 0, [], 3), (3, 52, .ref 5, 195, 2, [], 6), (6, 4, .null, 2, 0, [], 7), (7, 2, .null, 0, 0, [], 8), (8, 7, .null, 0, 0, [], 9), (9, 36, .null, 5, 8, [], 12),
  (12, 1, .null, 2, 0, [], 13), (13, 33, .null, 0, 20, [], 16), (16, 0, .int 1, 0, 0, [], 17), (17, 9, .null, 0, 0, [], 21), (20, 0, .int 0, 0, 0, [], 21), (21, 11, .null, 0, 0, [], 22), (22, 37, .null, 5, 8, [], 25), (25, 1, .null, 2, 0, [], 26),
  (26, 49, .null, 2, 0, [], 26)]
def mtX5_takes : axM := (⟨"BeatSlugsModel", "takes", "(I)Z"⟩, prog_7_method_68_code, 3, (some .boolean), 5, false, cdX5_takes)
abbrev kX5_takes : Nat := 197
set_option maxRecDepth 100000 in
theorem ckX5_takes : axCk 5 false 2 prog_7_method_68_code cdX5_takes = true := by decide +kernel
def cdX5_signOf : List axE := [
  (0, 1, .null, 0, 0, [], 1), (1, 0, .int 110, 0, 0, [], 3), (3, 32, .null, 1, 11, [], 6), (6, 0, .int 62, 0, 0, [], 8), (8, 9, .null, 0, 0, [], 35), (11, 1, .null, 0, 0, [], 12), (12, 0, .int 109, 0, 0, [], 14), (14, 32, .null, 1, 22, [], 17),
  (17, 0, .int 64, 0, 0, [], 19), (19, 9, .null, 0, 0, [], 35), (22, 1, .null, 0, 0, [], 23), (23, 0, .int 120, 0, 0, [], 25), (25, 32, .null, 1, 33, [], 28), (28, 0, .int 126, 0, 0, [], 30), (30, 9, .null, 0, 0, [], 35), (33, 0, .int 45, 0, 0, [], 35),
  (35, 49, .null, 0, 0, [], 35)]
def mtX5_signOf : axM := (⟨"BeatSlugsModel", "signOf", "(I)I"⟩, prog_7_method_70_code, 1, (some .int), 5, false, cdX5_signOf)
abbrev kX5_signOf : Nat := 198
set_option maxRecDepth 100000 in
theorem ckX5_signOf : axCk 5 false 0 prog_7_method_70_code cdX5_signOf = true := by decide +kernel
def cdX5_does : List axE := [
  (0, 2, .null, 0, 0, [], 1), (1, 36, .null, 5, 9, [], 4), (4, 35, .null, 0, 147, [(109, 108), (110, 95), (111, 147), (112, 147), (113, 147), (114, 147), (115, 68), (116, 134), (117, 147), (118, 147), (119, 147), (120, 121)], 4), (68, 2, .null, 0, 0, [], 69), (69, 2, .null, 0, 0, [], 70), (70, 36, .null, 5, 0, [], 73), (73, 0, .int 0, 0, 0, [], 74), (74, 40, .null, 0, 0, [], 75),
  (75, 2, .null, 0, 0, [], 76), (76, 36, .null, 5, 10, [], 79), (79, 2, .null, 0, 0, [], 80), (80, 36, .null, 5, 12, [], 83), (83, 33, .null, 0, 90, [], 86), (86, 0, .int 1, 0, 0, [], 87), (87, 9, .null, 0, 0, [], 91), (90, 0, .int 0, 0, 0, [], 91),
  (91, 52, .ref 5, 136, 3, [], 94), (94, 49, .null, 0, 0, [], 94), (95, 2, .null, 0, 0, [], 96), (96, 2, .null, 0, 0, [], 97), (97, 36, .null, 5, 10, [], 100), (100, 2, .null, 0, 0, [], 101), (101, 36, .null, 5, 11, [], 104), (104, 52, .ref 5, 148, 2, [], 107),
  (107, 49, .null, 0, 0, [], 107), (108, 2, .null, 0, 0, [], 109), (109, 2, .null, 0, 0, [], 110), (110, 36, .null, 5, 10, [], 113), (113, 2, .null, 0, 0, [], 114), (114, 36, .null, 5, 11, [], 117), (117, 52, .ref 5, 157, 2, [], 120), (120, 49, .null, 0, 0, [], 120),
  (121, 2, .null, 0, 0, [], 122), (122, 2, .null, 0, 0, [], 123), (123, 36, .null, 5, 10, [], 126), (126, 2, .null, 0, 0, [], 127), (127, 36, .null, 5, 11, [], 130), (130, 52, .ref 5, 160, 2, [], 133), (133, 49, .null, 0, 0, [], 133), (134, 2, .null, 0, 0, [], 135),
  (135, 2, .null, 0, 0, [], 136), (136, 36, .null, 5, 10, [], 139), (139, 2, .null, 0, 0, [], 140), (140, 36, .null, 5, 11, [], 143), (143, 52, .ref 5, 152, 2, [], 146), (146, 49, .null, 0, 0, [], 146), (147, 2, .null, 0, 0, [], 148), (148, 2, .null, 0, 0, [], 149),
  (149, 36, .null, 5, 10, [], 152), (152, 52, .ref 5, 165, 1, [], 155), (155, 49, .null, 0, 0, [], 155)]
def mtX5_does : axM := (⟨"BeatSlugsModel", "does", "()I"⟩, prog_7_method_72_code, 1, (some .int), 5, false, cdX5_does)
abbrev kX5_does : Nat := 199
set_option maxRecDepth 100000 in
theorem ckX5_does : axCk 5 false 0 prog_7_method_72_code cdX5_does = true := by decide +kernel
def cdX5_carryOut : List axE := [
  (0, 2, .null, 0, 0, [], 1), (1, 0, .int 0, 0, 0, [], 2), (2, 52, .ref 5, 193, 1, [], 5), (5, 33, .null, 1, 11, [], 8), (8, 0, .int (-3), 0, 0, [], 10), (10, 49, .null, 0, 0, [], 10), (11, 2, .null, 0, 0, [], 12), (12, 2, .null, 0, 0, [], 13),
  (13, 36, .null, 5, 0, [], 16), (16, 52, .ref 5, 131, 1, [], 19), (19, 2, .null, 0, 0, [], 20), (20, 0, .int 1, 0, 0, [], 21), (21, 52, .ref 5, 193, 1, [], 24), (24, 4, .null, 1, 0, [], 25), (25, 2, .null, 0, 0, [], 26), (26, 0, .int 0, 0, 0, [], 27),
  (27, 37, .null, 5, 7, [], 30), (30, 1, .null, 1, 0, [], 31), (31, 33, .null, 0, 41, [], 34), (34, 2, .null, 0, 0, [], 35), (35, 36, .null, 5, 13, [], 38), (38, 9, .null, 0, 0, [], 42), (41, 0, .int 0, 0, 0, [], 42), (42, 49, .null, 0, 0, [], 42)]
def mtX5_carryOut : axM := (⟨"BeatSlugsModel", "carryOut", "()I"⟩, prog_7_method_75_code, 2, (some .int), 5, false, cdX5_carryOut)
abbrev kX5_carryOut : Nat := 200
set_option maxRecDepth 100000 in
theorem ckX5_carryOut : axCk 5 false 0 prog_7_method_75_code cdX5_carryOut = true := by decide +kernel
def cdX5_undo : List axE := [
  (0, 2, .null, 0, 0, [], 1), (1, 36, .null, 5, 2, [], 4), (4, 33, .null, 1, 10, [], 7), (7, 0, .int (-5), 0, 0, [], 9), (9, 49, .null, 0, 0, [], 9), (10, 2, .null, 0, 0, [], 11), (11, 7, .null, 0, 0, [], 12), (12, 36, .null, 5, 2, [], 15),
  (15, 0, .int 1, 0, 0, [], 16), (16, 12, .null, 0, 0, [], 17), (17, 37, .null, 5, 2, [], 20), (20, 2, .null, 0, 0, [], 21), (21, 36, .null, 5, 1, [], 24), (24, 0, .int 154, 0, 0, [], 27), (27, 2, .null, 0, 0, [], 28), (28, 36, .null, 5, 2, [], 31),
  (31, 13, .null, 0, 0, [], 32), (32, 2, .null, 0, 0, [], 33), (33, 36, .null, 5, 0, [], 36), (36, 0, .int 0, 0, 0, [], 37), (37, 53, .null, 132, 4, [], 40), (40, 2, .null, 0, 0, [], 41), (41, 36, .null, 5, 2, [], 44), (44, 49, .null, 0, 0, [], 44)]
def mtX5_undo : axM := (⟨"BeatSlugsModel", "undo", "()I"⟩, prog_7_method_76_code, 1, (some .int), 5, false, cdX5_undo)
abbrev kX5_undo : Nat := 201
set_option maxRecDepth 100000 in
theorem ckX5_undo : axCk 5 false 0 prog_7_method_76_code cdX5_undo = true := by decide +kernel
def cdX5_save : List axE := [
  (0, 1, .null, 1, 0, [], 1), (1, 0, .int 0, 0, 0, [], 2), (2, 0, .int 1, 0, 0, [], 3), (3, 53, .null, 129, 3, [], 6), (6, 33, .null, 1, 12, [], 9), (9, 0, .int (-2), 0, 0, [], 11), (11, 49, .null, 0, 0, [], 11), (12, 2, .null, 0, 0, [], 13),
  (13, 36, .null, 5, 0, [], 16), (16, 0, .int 0, 0, 0, [], 17), (17, 2, .null, 0, 0, [], 18), (18, 36, .null, 5, 3, [], 21), (21, 0, .int 154, 0, 0, [], 24), (24, 1, .null, 1, 0, [], 25), (25, 13, .null, 0, 0, [], 26), (26, 53, .null, 132, 4, [], 29),
  (29, 2, .null, 0, 0, [], 30), (30, 36, .null, 5, 4, [], 33), (33, 1, .null, 1, 0, [], 34), (34, 0, .int 1, 0, 0, [], 35), (35, 42, .null, 2, 0, [], 36), (36, 2, .null, 0, 0, [], 37), (37, 36, .null, 5, 0, [], 40), (40, 0, .int 0, 0, 0, [], 41),
  (41, 40, .null, 0, 0, [], 42), (42, 49, .null, 0, 0, [], 42)]
def mtX5_save : axM := (⟨"BeatSlugsModel", "save", "(I)I"⟩, prog_7_method_77_code, 2, (some .int), 5, false, cdX5_save)
abbrev kX5_save : Nat := 202
set_option maxRecDepth 100000 in
theorem ckX5_save : axCk 5 false 0 prog_7_method_77_code cdX5_save = true := by decide +kernel
def cdX5_restore : List axE := [
  (0, 1, .null, 1, 0, [], 1), (1, 0, .int 0, 0, 0, [], 2), (2, 0, .int 1, 0, 0, [], 3), (3, 53, .null, 129, 3, [], 6), (6, 33, .null, 1, 12, [], 9), (9, 0, .int (-2), 0, 0, [], 11), (11, 49, .null, 0, 0, [], 11), (12, 2, .null, 0, 0, [], 13),
  (13, 36, .null, 5, 4, [], 16), (16, 1, .null, 1, 0, [], 17), (17, 40, .null, 2, 0, [], 18), (18, 33, .null, 1, 24, [], 21), (21, 0, .int (-5), 0, 0, [], 23), (23, 49, .null, 0, 0, [], 23), (24, 2, .null, 0, 0, [], 25), (25, 2, .null, 0, 0, [], 26),
  (26, 36, .null, 5, 0, [], 29), (29, 52, .ref 5, 131, 1, [], 32), (32, 2, .null, 0, 0, [], 33), (33, 36, .null, 5, 3, [], 36), (36, 0, .int 154, 0, 0, [], 39), (39, 1, .null, 1, 0, [], 40), (40, 13, .null, 0, 0, [], 41), (41, 2, .null, 0, 0, [], 42),
  (42, 36, .null, 5, 0, [], 45), (45, 0, .int 0, 0, 0, [], 46), (46, 53, .null, 132, 4, [], 49), (49, 2, .null, 0, 0, [], 50), (50, 36, .null, 5, 0, [], 53), (53, 0, .int 0, 0, 0, [], 54), (54, 40, .null, 0, 0, [], 55), (55, 49, .null, 0, 0, [], 55)]
def mtX5_restore : axM := (⟨"BeatSlugsModel", "restore", "(I)I"⟩, prog_7_method_78_code, 2, (some .int), 5, false, cdX5_restore)
abbrev kX5_restore : Nat := 203
set_option maxRecDepth 100000 in
theorem ckX5_restore : axCk 5 false 0 prog_7_method_78_code cdX5_restore = true := by decide +kernel
