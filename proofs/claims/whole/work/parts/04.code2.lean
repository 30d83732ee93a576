/-! The code of the methods as rows of the abstract machine. Written by wip/whole/gen2.py. -/
def cdX0_slugAtBeat : List axE := [
  (0, 0, .int 0, 0, 0, [], 1), (1, 4, .null, 2, 0, [], 2), (2, 0, .int 0, 0, 0, [], 3), (3, 4, .null, 3, 0, [], 4), (4, 1, .null, 3, 0, [], 5), (5, 2, .null, 0, 0, [], 6), (6, 36, .null, 0, 8, [], 9), (9, 32, .null, 3, 45, [], 12),
  (12, 2, .null, 0, 0, [], 13), (13, 36, .null, 0, 2, [], 16), (16, 1, .null, 3, 0, [], 17), (17, 53, .null, 10, 2, [], 20), (20, 4, .null, 4, 0, [], 22), (22, 1, .null, 2, 0, [], 23), (23, 2, .null, 0, 0, [], 24), (24, 1, .null, 4, 0, [], 26),
  (26, 52, .ref 0, 37, 1, [], 29), (29, 11, .null, 0, 0, [], 30), (30, 4, .null, 2, 0, [], 31), (31, 1, .null, 1, 0, [], 32), (32, 1, .null, 2, 0, [], 33), (33, 32, .null, 3, 39, [], 36), (36, 1, .null, 4, 0, [], 38), (38, 49, .null, 0, 0, [], 38),
  (39, 6, .int 1, 3, 0, [], 42), (42, 9, .null, 0, 0, [], 4), (45, 0, .int (-6), 0, 0, [], 47), (47, 49, .null, 0, 0, [], 47)]
def mtX0_slugAtBeat : axM := (⟨"BeatSlugs$Board", "slugAtBeat", "(I)I"⟩, prog_2_method_43_code, 5, (some .int), 0, false, cdX0_slugAtBeat)
abbrev kX0_slugAtBeat : Nat := 70
set_option maxRecDepth 100000 in
theorem ckX0_slugAtBeat : axCk 0 false 0 prog_2_method_43_code cdX0_slugAtBeat = true := by decide +kernel
def cdX4_ofAct : List axE := [
  (0, 2, .null, 0, 0, [], 1), (1, 36, .null, 4, 0, [], 4), (4, 1, .null, 1, 0, [], 5), (5, 52, .ref 0, 55, 1, [], 8), (8, 33, .null, 1, 13, [], 11), (11, 0, .int (-1), 0, 0, [], 12), (12, 49, .null, 0, 0, [], 12), (13, 2, .null, 0, 0, [], 14),
  (14, 36, .null, 4, 0, [], 17), (17, 1, .null, 1, 0, [], 18), (18, 52, .ref 0, 58, 1, [], 21), (21, 4, .null, 3, 0, [], 22), (22, 2, .null, 0, 0, [], 23), (23, 36, .null, 4, 0, [], 26), (26, 1, .null, 1, 0, [], 27), (27, 0, .int 1, 0, 0, [], 28),
  (28, 11, .null, 0, 0, [], 29), (29, 52, .ref 0, 58, 1, [], 32), (32, 4, .null, 4, 0, [], 34), (34, 1, .null, 2, 0, [], 35), (35, 35, .null, 0, 173, [(0, 80), (1, 91), (2, 100), (3, 113), (4, 130), (5, 147), (6, 152), (7, 162)], 35), (80, 2, .null, 0, 0, [], 81), (81, 36, .null, 4, 0, [], 84), (84, 1, .null, 3, 0, [], 85),
  (85, 1, .null, 4, 0, [], 87), (87, 52, .ref 0, 59, 2, [], 90), (90, 49, .null, 0, 0, [], 90), (91, 2, .null, 0, 0, [], 92), (92, 36, .null, 4, 0, [], 95), (95, 1, .null, 1, 0, [], 96), (96, 52, .ref 0, 60, 1, [], 99), (99, 49, .null, 0, 0, [], 99),
  (100, 2, .null, 0, 0, [], 101), (101, 36, .null, 4, 0, [], 104), (104, 1, .null, 1, 0, [], 105), (105, 52, .ref 0, 57, 1, [], 108), (108, 0, .int 5000, 0, 0, [], 111), (111, 11, .null, 0, 0, [], 112), (112, 49, .null, 0, 0, [], 112), (113, 2, .null, 0, 0, [], 114),
  (114, 36, .null, 4, 0, [], 117), (117, 1, .null, 1, 0, [], 118), (118, 52, .ref 0, 72, 1, [], 121), (121, 33, .null, 0, 128, [], 124), (124, 0, .int 1, 0, 0, [], 125), (125, 9, .null, 0, 0, [], 129), (128, 0, .int 0, 0, 0, [], 129), (129, 49, .null, 0, 0, [], 129),
  (130, 2, .null, 0, 0, [], 131), (131, 36, .null, 4, 0, [], 134), (134, 1, .null, 1, 0, [], 135), (135, 52, .ref 0, 73, 1, [], 138), (138, 33, .null, 0, 145, [], 141), (141, 0, .int 1, 0, 0, [], 142), (142, 9, .null, 0, 0, [], 146), (145, 0, .int 0, 0, 0, [], 146),
  (146, 49, .null, 0, 0, [], 146), (147, 1, .null, 4, 0, [], 149), (149, 1, .null, 3, 0, [], 150), (150, 12, .null, 0, 0, [], 151), (151, 49, .null, 0, 0, [], 151), (152, 2, .null, 0, 0, [], 153), (153, 36, .null, 4, 0, [], 156), (156, 0, .int 0, 0, 0, [], 157),
  (157, 1, .null, 3, 0, [], 158), (158, 52, .ref 0, 59, 2, [], 161), (161, 49, .null, 0, 0, [], 161), (162, 2, .null, 0, 0, [], 163), (163, 36, .null, 4, 0, [], 166), (166, 1, .null, 3, 0, [], 167), (167, 1, .null, 4, 0, [], 169), (169, 52, .ref 0, 61, 2, [], 172),
  (172, 49, .null, 0, 0, [], 172), (173, 0, .int (-2), 0, 0, [], 175), (175, 49, .null, 0, 0, [], 175)]
def mtX4_ofAct : axM := (⟨"BeatSlugs", "ofAct", "(II)I"⟩, prog_1_method_17_code, 5, (some .int), 4, false, cdX4_ofAct)
abbrev kX4_ofAct : Nat := 71
set_option maxRecDepth 100000 in
theorem ckX4_ofAct : axCk 4 false 0 prog_1_method_17_code cdX4_ofAct = true := by decide +kernel
def cdX0_isFitting : List axE := [
  (0, 2, .null, 0, 0, [], 1), (1, 1, .null, 1, 0, [], 2), (2, 52, .ref 0, 73, 1, [], 5), (5, 33, .null, 1, 28, [], 8), (8, 2, .null, 0, 0, [], 9), (9, 1, .null, 1, 0, [], 10), (10, 52, .ref 0, 57, 1, [], 13), (13, 59, .null, 0, 0, [], 16),
  (16, 2, .null, 0, 0, [], 17), (17, 0, .int 1, 0, 0, [], 18), (18, 52, .ref 0, 62, 1, [], 21), (21, 32, .null, 4, 28, [], 24), (24, 0, .int 1, 0, 0, [], 25), (25, 9, .null, 0, 0, [], 29), (28, 0, .int 0, 0, 0, [], 29), (29, 49, .null, 2, 0, [], 29)]
def mtX0_isFitting : axM := (⟨"BeatSlugs$Board", "isFitting", "(I)Z"⟩, prog_2_method_51_code, 2, (some .boolean), 0, false, cdX0_isFitting)
abbrev kX0_isFitting : Nat := 72
set_option maxRecDepth 100000 in
theorem ckX0_isFitting : axCk 0 false 2 prog_2_method_51_code cdX0_isFitting = true := by decide +kernel
def cdX0_isOpen : List axE := [
  (0, 1, .null, 1, 0, [], 1), (1, 2, .null, 0, 0, [], 2), (2, 36, .null, 0, 7, [], 5), (5, 53, .null, 33, 1, [], 8), (8, 32, .null, 2, 15, [], 11), (11, 0, .int 1, 0, 0, [], 12), (12, 9, .null, 0, 0, [], 16), (15, 0, .int 0, 0, 0, [], 16),
  (16, 49, .null, 2, 0, [], 16)]
def mtX0_isOpen : axM := (⟨"BeatSlugs$Board", "isOpen", "(I)Z"⟩, prog_2_method_50_code, 2, (some .boolean), 0, false, cdX0_isOpen)
abbrev kX0_isOpen : Nat := 73
set_option maxRecDepth 100000 in
theorem ckX0_isOpen : axCk 0 false 2 prog_2_method_50_code cdX0_isOpen = true := by decide +kernel
def cdX4_count : List axE := [
  (0, 1, .null, 1, 0, [], 1), (1, 35, .null, 0, 181, [(0, 64), (1, 72), (2, 80), (3, 88), (4, 114), (5, 122), (6, 130), (7, 138), (8, 147), (9, 156), (10, 165), (11, 173)], 1), (64, 2, .null, 0, 0, [], 65), (65, 36, .null, 4, 0, [], 68), (68, 52, .ref 0, 75, 0, [], 71), (71, 49, .null, 0, 0, [], 71), (72, 2, .null, 0, 0, [], 73), (73, 36, .null, 4, 0, [], 76),
  (76, 52, .ref 0, 56, 0, [], 79), (79, 49, .null, 0, 0, [], 79), (80, 2, .null, 0, 0, [], 81), (81, 36, .null, 4, 0, [], 84), (84, 52, .ref 0, 76, 0, [], 87), (87, 49, .null, 0, 0, [], 87), (88, 2, .null, 0, 0, [], 89), (89, 36, .null, 4, 0, [], 92),
  (92, 52, .ref 0, 76, 0, [], 95), (95, 2, .null, 0, 0, [], 96), (96, 36, .null, 4, 0, [], 99), (99, 52, .ref 0, 65, 0, [], 102), (102, 11, .null, 0, 0, [], 103), (103, 0, .int 1, 0, 0, [], 104), (104, 12, .null, 0, 0, [], 105), (105, 2, .null, 0, 0, [], 106),
  (106, 36, .null, 4, 0, [], 109), (109, 52, .ref 0, 65, 0, [], 112), (112, 47, .null, 0, 0, [], 113), (113, 49, .null, 0, 0, [], 113), (114, 2, .null, 0, 0, [], 115), (115, 36, .null, 4, 0, [], 118), (118, 52, .ref 0, 77, 0, [], 121), (121, 49, .null, 0, 0, [], 121),
  (122, 2, .null, 0, 0, [], 123), (123, 36, .null, 4, 0, [], 126), (126, 52, .ref 0, 79, 0, [], 129), (129, 49, .null, 0, 0, [], 129), (130, 2, .null, 0, 0, [], 131), (131, 36, .null, 4, 0, [], 134), (134, 52, .ref 0, 80, 0, [], 137), (137, 49, .null, 0, 0, [], 137),
  (138, 2, .null, 0, 0, [], 139), (139, 36, .null, 4, 0, [], 142), (142, 0, .int 0, 0, 0, [], 143), (143, 52, .ref 0, 62, 1, [], 146), (146, 49, .null, 0, 0, [], 146), (147, 2, .null, 0, 0, [], 148), (148, 36, .null, 4, 0, [], 151), (151, 0, .int 1, 0, 0, [], 152),
  (152, 52, .ref 0, 62, 1, [], 155), (155, 49, .null, 0, 0, [], 155), (156, 2, .null, 0, 0, [], 157), (157, 36, .null, 4, 0, [], 160), (160, 0, .int 2, 0, 0, [], 161), (161, 52, .ref 0, 62, 1, [], 164), (164, 49, .null, 0, 0, [], 164), (165, 2, .null, 0, 0, [], 166),
  (166, 36, .null, 4, 3, [], 169), (169, 52, .ref 2, 81, 0, [], 172), (172, 49, .null, 0, 0, [], 172), (173, 2, .null, 0, 0, [], 174), (174, 36, .null, 4, 1, [], 177), (177, 52, .ref 1, 82, 0, [], 180), (180, 49, .null, 0, 0, [], 180), (181, 0, .int (-2), 0, 0, [], 183),
  (183, 49, .null, 0, 0, [], 183)]
def mtX4_count : axM := (⟨"BeatSlugs", "count", "(I)I"⟩, prog_1_method_18_code, 2, (some .int), 4, false, cdX4_count)
abbrev kX4_count : Nat := 74
set_option maxRecDepth 100000 in
theorem ckX4_count : axCk 4 false 0 prog_1_method_18_code cdX4_count = true := by decide +kernel
def cdX0_allSlugs : List axE := [
  (0, 2, .null, 0, 0, [], 1), (1, 36, .null, 0, 6, [], 4), (4, 49, .null, 0, 0, [], 4)]
def mtX0_allSlugs : axM := (⟨"BeatSlugs$Board", "allSlugs", "()I"⟩, prog_2_method_24_code, 1, (some .int), 0, false, cdX0_allSlugs)
abbrev kX0_allSlugs : Nat := 75
set_option maxRecDepth 100000 in
theorem ckX0_allSlugs : axCk 0 false 0 prog_2_method_24_code cdX0_allSlugs = true := by decide +kernel
def cdX0_allBeats : List axE := [
  (0, 2, .null, 0, 0, [], 1), (1, 0, .int 0, 0, 0, [], 2), (2, 2, .null, 0, 0, [], 3), (3, 36, .null, 0, 8, [], 6), (6, 52, .ref 0, 59, 2, [], 9), (9, 49, .null, 0, 0, [], 9)]
def mtX0_allBeats : axM := (⟨"BeatSlugs$Board", "allBeats", "()I"⟩, prog_2_method_41_code, 1, (some .int), 0, false, cdX0_allBeats)
abbrev kX0_allBeats : Nat := 76
set_option maxRecDepth 100000 in
theorem ckX0_allBeats : axCk 0 false 0 prog_2_method_41_code cdX0_allBeats = true := by decide +kernel
def cdX0_offTogether : List axE := [
  (0, 2, .null, 0, 0, [], 1), (1, 2, .null, 0, 0, [], 2), (2, 36, .null, 0, 2, [], 5), (5, 2, .null, 0, 0, [], 6), (6, 36, .null, 0, 7, [], 9), (9, 52, .ref 0, 78, 2, [], 12), (12, 49, .null, 0, 0, [], 12)]
def mtX0_offTogether : axM := (⟨"BeatSlugs$Board", "offTogether", "()I"⟩, prog_2_method_54_code, 1, (some .int), 0, false, cdX0_offTogether)
abbrev kX0_offTogether : Nat := 77
set_option maxRecDepth 100000 in
theorem ckX0_offTogether : axCk 0 false 0 prog_2_method_54_code cdX0_offTogether = true := by decide +kernel
def cdX0_offOfRow : List axE := [
  (0, 0, .int 0, 0, 0, [], 1), (1, 4, .null, 3, 0, [], 2), (2, 0, .int 0, 0, 0, [], 3), (3, 4, .null, 4, 0, [], 5), (5, 0, .int 0, 0, 0, [], 6), (6, 4, .null, 5, 0, [], 8), (8, 0, .int 0, 0, 0, [], 9), (9, 4, .null, 6, 0, [], 11),
  (11, 0, .int 0, 0, 0, [], 12), (12, 4, .null, 7, 0, [], 14), (14, 1, .null, 7, 0, [], 16), (16, 2, .null, 0, 0, [], 17), (17, 36, .null, 0, 8, [], 20), (20, 32, .null, 3, 93, [], 23), (23, 2, .null, 1, 0, [], 24), (24, 1, .null, 7, 0, [], 26),
  (26, 53, .null, 10, 2, [], 29), (29, 4, .null, 8, 0, [], 31), (31, 1, .null, 5, 0, [], 33), (33, 2, .null, 0, 0, [], 34), (34, 36, .null, 0, 4, [], 37), (37, 1, .null, 8, 0, [], 39), (39, 53, .null, 10, 2, [], 42), (42, 11, .null, 0, 0, [], 43),
  (43, 4, .null, 5, 0, [], 45), (45, 1, .null, 2, 0, [], 46), (46, 1, .null, 8, 0, [], 48), (48, 53, .null, 18, 2, [], 51), (51, 33, .null, 1, 58, [], 54), (54, 0, .int 1, 0, 0, [], 55), (55, 9, .null, 0, 0, [], 59), (58, 0, .int 0, 0, 0, [], 59),
  (59, 4, .null, 6, 0, [], 61), (61, 1, .null, 6, 0, [], 63), (63, 33, .null, 1, 87, [], 66), (66, 1, .null, 3, 0, [], 67), (67, 1, .null, 5, 0, [], 69), (69, 2, .null, 0, 0, [], 70), (70, 1, .null, 4, 0, [], 72), (72, 52, .ref 0, 60, 1, [], 75),
  (75, 12, .null, 0, 0, [], 76), (76, 59, .null, 0, 0, [], 79), (79, 11, .null, 0, 0, [], 80), (80, 4, .null, 3, 0, [], 81), (81, 6, .int 1, 4, 0, [], 84), (84, 0, .int 0, 0, 0, [], 85), (85, 4, .null, 5, 0, [], 87), (87, 6, .int 1, 7, 0, [], 90),
  (90, 9, .null, 0, 0, [], 14), (93, 1, .null, 6, 0, [], 95), (95, 33, .null, 0, 115, [], 98), (98, 1, .null, 3, 0, [], 99), (99, 1, .null, 5, 0, [], 101), (101, 2, .null, 0, 0, [], 102), (102, 1, .null, 4, 0, [], 104), (104, 52, .ref 0, 60, 1, [], 107),
  (107, 12, .null, 0, 0, [], 108), (108, 59, .null, 0, 0, [], 111), (111, 11, .null, 0, 0, [], 112), (112, 9, .null, 0, 0, [], 116), (115, 1, .null, 3, 0, [], 116), (116, 49, .null, 0, 0, [], 116)]
def mtX0_offOfRow : axM := (⟨"BeatSlugs$Board", "offOfRow", "([II)I"⟩, prog_2_method_56_code, 9, (some .int), 0, false, cdX0_offOfRow)
abbrev kX0_offOfRow : Nat := 78
set_option maxRecDepth 100000 in
theorem ckX0_offOfRow : axCk 0 false 0 prog_2_method_56_code cdX0_offOfRow = true := by decide +kernel
def cdX0_fittingActs : List axE := [
  (0, 0, .int 0, 0, 0, [], 1), (1, 4, .null, 1, 0, [], 2), (2, 2, .null, 0, 0, [], 3), (3, 52, .ref 0, 56, 0, [], 6), (6, 4, .null, 2, 0, [], 7), (7, 0, .int 0, 0, 0, [], 8), (8, 4, .null, 3, 0, [], 9), (9, 1, .null, 3, 0, [], 10),
  (10, 1, .null, 2, 0, [], 11), (11, 32, .null, 3, 31, [], 14), (14, 2, .null, 0, 0, [], 15), (15, 1, .null, 3, 0, [], 16), (16, 52, .ref 0, 72, 1, [], 19), (19, 33, .null, 0, 25, [], 22), (22, 6, .int 1, 1, 0, [], 25), (25, 6, .int 1, 3, 0, [], 28),
  (28, 9, .null, 0, 0, [], 9), (31, 1, .null, 1, 0, [], 32), (32, 49, .null, 0, 0, [], 32)]
def mtX0_fittingActs : axM := (⟨"BeatSlugs$Board", "fittingActs", "()I"⟩, prog_2_method_52_code, 4, (some .int), 0, false, cdX0_fittingActs)
abbrev kX0_fittingActs : Nat := 79
set_option maxRecDepth 100000 in
theorem ckX0_fittingActs : axCk 0 false 0 prog_2_method_52_code cdX0_fittingActs = true := by decide +kernel
def cdX0_longestSlug : List axE := [
  (0, 0, .int (-6), 0, 0, [], 2), (2, 4, .null, 1, 0, [], 3), (3, 0, .int 0, 0, 0, [], 4), (4, 4, .null, 2, 0, [], 5), (5, 0, .int 0, 0, 0, [], 6), (6, 4, .null, 3, 0, [], 7), (7, 1, .null, 3, 0, [], 8), (8, 2, .null, 0, 0, [], 9),
  (9, 36, .null, 0, 8, [], 12), (12, 32, .null, 3, 51, [], 15), (15, 2, .null, 0, 0, [], 16), (16, 36, .null, 0, 2, [], 19), (19, 1, .null, 3, 0, [], 20), (20, 53, .null, 10, 2, [], 23), (23, 4, .null, 4, 0, [], 25), (25, 2, .null, 0, 0, [], 26),
  (26, 1, .null, 4, 0, [], 28), (28, 52, .ref 0, 37, 1, [], 31), (31, 1, .null, 2, 0, [], 32), (32, 32, .null, 5, 45, [], 35), (35, 1, .null, 4, 0, [], 37), (37, 4, .null, 1, 0, [], 38), (38, 2, .null, 0, 0, [], 39), (39, 1, .null, 4, 0, [], 41),
  (41, 52, .ref 0, 37, 1, [], 44), (44, 4, .null, 2, 0, [], 45), (45, 6, .int 1, 3, 0, [], 48), (48, 9, .null, 0, 0, [], 7), (51, 1, .null, 1, 0, [], 52), (52, 49, .null, 0, 0, [], 52)]
def mtX0_longestSlug : axM := (⟨"BeatSlugs$Board", "longestSlug", "()I"⟩, prog_2_method_33_code, 5, (some .int), 0, false, cdX0_longestSlug)
abbrev kX0_longestSlug : Nat := 80
set_option maxRecDepth 100000 in
theorem ckX0_longestSlug : axCk 0 false 0 prog_2_method_33_code cdX0_longestSlug = true := by decide +kernel
def cdX2_size : List axE := [
  (0, 2, .null, 0, 0, [], 1), (1, 36, .null, 2, 1, [], 4), (4, 49, .null, 0, 0, [], 4)]
def mtX2_size : axM := (⟨"BeatSlugs$Pad", "size", "()I"⟩, prog_4_method_2_code, 1, (some .int), 2, false, cdX2_size)
abbrev kX2_size : Nat := 81
set_option maxRecDepth 100000 in
theorem ckX2_size : axCk 2 false 0 prog_4_method_2_code cdX2_size = true := by decide +kernel
def cdX1_size : List axE := [
  (0, 2, .null, 0, 0, [], 1), (1, 36, .null, 1, 2, [], 4), (4, 49, .null, 0, 0, [], 4)]
def mtX1_size : axM := (⟨"BeatSlugs$History", "size", "()I"⟩, prog_3_method_2_code, 1, (some .int), 1, false, cdX1_size)
abbrev kX1_size : Nat := 82
set_option maxRecDepth 100000 in
theorem ckX1_size : axCk 1 false 0 prog_3_method_2_code cdX1_size = true := by decide +kernel
def cdX4_places : List axE := [
  (0, 2, .null, 0, 0, [], 1), (1, 36, .null, 4, 0, [], 4), (4, 1, .null, 1, 0, [], 5), (5, 52, .ref 0, 24, 1, [], 8), (8, 33, .null, 1, 13, [], 11), (11, 0, .int (-1), 0, 0, [], 12), (12, 49, .null, 0, 0, [], 12), (13, 0, .int 0, 0, 0, [], 14),
  (14, 4, .null, 2, 0, [], 15), (15, 2, .null, 0, 0, [], 16), (16, 36, .null, 4, 0, [], 19), (19, 1, .null, 1, 0, [], 20), (20, 52, .ref 0, 45, 1, [], 23), (23, 4, .null, 3, 0, [], 24), (24, 2, .null, 0, 0, [], 25), (25, 36, .null, 4, 0, [], 28),
  (28, 1, .null, 1, 0, [], 29), (29, 52, .ref 0, 44, 1, [], 32), (32, 4, .null, 4, 0, [], 34), (34, 1, .null, 4, 0, [], 36), (36, 1, .null, 3, 0, [], 37), (37, 32, .null, 4, 54, [], 40), (40, 1, .null, 2, 0, [], 41), (41, 1, .null, 4, 0, [], 43),
  (43, 53, .null, 19, 1, [], 46), (46, 15, .null, 0, 0, [], 47), (47, 4, .null, 2, 0, [], 48), (48, 6, .int 1, 4, 0, [], 51), (51, 9, .null, 0, 0, [], 34), (54, 1, .null, 2, 0, [], 55), (55, 49, .null, 0, 0, [], 55)]
def mtX4_places : axM := (⟨"BeatSlugs", "places", "(I)I"⟩, prog_1_method_19_code, 5, (some .int), 4, false, cdX4_places)
abbrev kX4_places : Nat := 83
set_option maxRecDepth 100000 in
theorem ckX4_places : axCk 4 false 0 prog_1_method_19_code cdX4_places = true := by decide +kernel
def cdX4_bestSwap : List axE := [
  (0, 1, .null, 1, 0, [], 1), (1, 33, .null, 2, 9, [], 4), (4, 1, .null, 1, 0, [], 5), (5, 0, .int 2, 0, 0, [], 6), (6, 32, .null, 5, 12, [], 9), (9, 0, .int (-2), 0, 0, [], 11), (11, 49, .null, 0, 0, [], 11), (12, 2, .null, 0, 0, [], 13),
  (13, 36, .null, 4, 4, [], 16), (16, 2, .null, 0, 0, [], 17), (17, 36, .null, 4, 0, [], 20), (20, 52, .ref 3, 85, 1, [], 23), (23, 2, .null, 0, 0, [], 24), (24, 36, .null, 4, 4, [], 27), (27, 52, .ref 3, 91, 0, [], 30), (30, 33, .null, 1, 36, [], 33),
  (33, 0, .int (-6), 0, 0, [], 35), (35, 49, .null, 0, 0, [], 35), (36, 1, .null, 1, 0, [], 37), (37, 35, .null, 0, 94, [(0, 64), (1, 79)], 37), (64, 2, .null, 0, 0, [], 65), (65, 36, .null, 4, 0, [], 68), (68, 2, .null, 0, 0, [], 69), (69, 36, .null, 4, 4, [], 72),
  (72, 52, .ref 3, 92, 0, [], 75), (75, 52, .ref 0, 68, 1, [], 78), (78, 49, .null, 0, 0, [], 78), (79, 2, .null, 0, 0, [], 80), (80, 36, .null, 4, 0, [], 83), (83, 2, .null, 0, 0, [], 84), (84, 36, .null, 4, 4, [], 87), (87, 52, .ref 3, 93, 0, [], 90),
  (90, 52, .ref 0, 68, 1, [], 93), (93, 49, .null, 0, 0, [], 93), (94, 2, .null, 0, 0, [], 95), (95, 36, .null, 4, 4, [], 98), (98, 52, .ref 3, 94, 0, [], 101), (101, 49, .null, 0, 0, [], 101)]
def mtX4_bestSwap : axM := (⟨"BeatSlugs", "bestSwap", "(I)I"⟩, prog_1_method_20_code, 2, (some .int), 4, false, cdX4_bestSwap)
abbrev kX4_bestSwap : Nat := 84
set_option maxRecDepth 100000 in
theorem ckX4_bestSwap : axCk 4 false 0 prog_1_method_20_code cdX4_bestSwap = true := by decide +kernel
def cdX3_run : List axE := [
  (0, 2, .null, 0, 0, [], 1), (1, 0, .int 0, 0, 0, [], 2), (2, 37, .null, 3, 1, [], 5), (5, 2, .null, 0, 0, [], 6), (6, 0, .int 0, 0, 0, [], 7), (7, 37, .null, 3, 2, [], 10), (10, 2, .null, 0, 0, [], 11), (11, 2, .null, 1, 0, [], 12),
  (12, 52, .ref 0, 77, 0, [], 15), (15, 37, .null, 3, 3, [], 18), (18, 2, .null, 1, 0, [], 19), (19, 52, .ref 0, 86, 0, [], 22), (22, 4, .null, 2, 0, [], 23), (23, 0, .int 0, 0, 0, [], 24), (24, 4, .null, 3, 0, [], 25), (25, 1, .null, 3, 0, [], 26),
  (26, 1, .null, 2, 0, [], 27), (27, 32, .null, 3, 49, [], 30), (30, 2, .null, 0, 0, [], 31), (31, 36, .null, 3, 0, [], 34), (34, 1, .null, 3, 0, [], 35), (35, 2, .null, 1, 0, [], 36), (36, 1, .null, 3, 0, [], 37), (37, 52, .ref 0, 68, 1, [], 40),
  (40, 53, .null, 20, 3, [], 43), (43, 6, .int 1, 3, 0, [], 46), (46, 9, .null, 0, 0, [], 25), (49, 0, .int 0, 0, 0, [], 50), (50, 4, .null, 3, 0, [], 51), (51, 1, .null, 3, 0, [], 52), (52, 1, .null, 2, 0, [], 53), (53, 32, .null, 3, 68, [], 56),
  (56, 2, .null, 0, 0, [], 57), (57, 2, .null, 1, 0, [], 58), (58, 1, .null, 3, 0, [], 59), (59, 52, .ref 3, 87, 2, [], 62), (62, 6, .int 1, 3, 0, [], 65), (65, 9, .null, 0, 0, [], 51), (68, 50, .null, 0, 0, [], 68)]
def mtX3_run : axM := (⟨"BeatSlugs$SwapSearch", "run", "(LBeatSlugs$Board;)V"⟩, prog_5_method_6_code, 4, none, 3, false, cdX3_run)
abbrev kX3_run : Nat := 85
set_option maxRecDepth 100000 in
theorem ckX3_run : axCk 3 false 0 prog_5_method_6_code cdX3_run = true := by decide +kernel
def cdX0_size : List axE := [
  (0, 2, .null, 0, 0, [], 1), (1, 36, .null, 0, 8, [], 4), (4, 49, .null, 0, 0, [], 4)]
def mtX0_size : axM := (⟨"BeatSlugs$Board", "size", "()I"⟩, prog_2_method_23_code, 1, (some .int), 0, false, cdX0_size)
abbrev kX0_size : Nat := 86
set_option maxRecDepth 100000 in
theorem ckX0_size : axCk 0 false 0 prog_2_method_23_code cdX0_size = true := by decide +kernel
def cdX3_tryAllBehind : List axE := [
  (0, 2, .null, 1, 0, [], 1), (1, 2, .null, 1, 0, [], 2), (2, 1, .null, 2, 0, [], 3), (3, 52, .ref 0, 68, 1, [], 6), (6, 52, .ref 0, 45, 1, [], 9), (9, 4, .null, 3, 0, [], 10), (10, 1, .null, 2, 0, [], 11), (11, 0, .int 1, 0, 0, [], 12),
  (12, 11, .null, 0, 0, [], 13), (13, 4, .null, 4, 0, [], 15), (15, 1, .null, 4, 0, [], 17), (17, 1, .null, 3, 0, [], 18), (18, 32, .null, 4, 49, [], 21), (21, 2, .null, 1, 0, [], 22), (22, 2, .null, 1, 0, [], 23), (23, 1, .null, 4, 0, [], 25),
  (25, 52, .ref 0, 68, 1, [], 28), (28, 52, .ref 0, 44, 1, [], 31), (31, 1, .null, 2, 0, [], 32), (32, 32, .null, 4, 43, [], 35), (35, 2, .null, 0, 0, [], 36), (36, 2, .null, 1, 0, [], 37), (37, 1, .null, 2, 0, [], 38), (38, 1, .null, 4, 0, [], 40),
  (40, 52, .ref 3, 88, 3, [], 43), (43, 6, .int 1, 4, 0, [], 46), (46, 9, .null, 0, 0, [], 15), (49, 50, .null, 0, 0, [], 49)]
def mtX3_tryAllBehind : axM := (⟨"BeatSlugs$SwapSearch", "tryAllBehind", "(LBeatSlugs$Board;I)V"⟩, prog_5_method_7_code, 5, none, 3, false, cdX3_tryAllBehind)
abbrev kX3_tryAllBehind : Nat := 87
set_option maxRecDepth 100000 in
theorem ckX3_tryAllBehind : axCk 3 false 0 prog_5_method_7_code cdX3_tryAllBehind = true := by decide +kernel
def cdX3_tryOne : List axE := [
  (0, 2, .null, 0, 0, [], 1), (1, 1, .null, 2, 0, [], 2), (2, 1, .null, 3, 0, [], 3), (3, 52, .ref 3, 89, 2, [], 6), (6, 2, .null, 1, 0, [], 7), (7, 2, .null, 0, 0, [], 8), (8, 36, .null, 3, 0, [], 11), (11, 2, .null, 1, 0, [], 12),
  (12, 52, .ref 0, 90, 0, [], 15), (15, 52, .ref 0, 78, 2, [], 18), (18, 4, .null, 4, 0, [], 20), (20, 2, .null, 0, 0, [], 21), (21, 1, .null, 2, 0, [], 22), (22, 1, .null, 3, 0, [], 23), (23, 52, .ref 3, 89, 2, [], 26), (26, 1, .null, 4, 0, [], 28),
  (28, 2, .null, 0, 0, [], 29), (29, 36, .null, 3, 3, [], 32), (32, 32, .null, 3, 51, [], 35), (35, 2, .null, 0, 0, [], 36), (36, 1, .null, 4, 0, [], 38), (38, 37, .null, 3, 3, [], 41), (41, 2, .null, 0, 0, [], 42), (42, 1, .null, 2, 0, [], 43),
  (43, 37, .null, 3, 1, [], 46), (46, 2, .null, 0, 0, [], 47), (47, 1, .null, 3, 0, [], 48), (48, 37, .null, 3, 2, [], 51), (51, 50, .null, 0, 0, [], 51)]
def mtX3_tryOne : axM := (⟨"BeatSlugs$SwapSearch", "tryOne", "(LBeatSlugs$Board;II)V"⟩, prog_5_method_8_code, 5, none, 3, false, cdX3_tryOne)
abbrev kX3_tryOne : Nat := 88
set_option maxRecDepth 100000 in
theorem ckX3_tryOne : axCk 3 false 0 prog_5_method_8_code cdX3_tryOne = true := by decide +kernel
def cdX3_exchange : List axE := [
  (0, 2, .null, 0, 0, [], 1), (1, 36, .null, 3, 0, [], 4), (4, 1, .null, 1, 0, [], 5), (5, 53, .null, 10, 2, [], 8), (8, 4, .null, 3, 0, [], 9), (9, 2, .null, 0, 0, [], 10), (10, 36, .null, 3, 0, [], 13), (13, 1, .null, 1, 0, [], 14),
  (14, 2, .null, 0, 0, [], 15), (15, 36, .null, 3, 0, [], 18), (18, 1, .null, 2, 0, [], 19), (19, 53, .null, 10, 2, [], 22), (22, 53, .null, 20, 3, [], 25), (25, 2, .null, 0, 0, [], 26), (26, 36, .null, 3, 0, [], 29), (29, 1, .null, 2, 0, [], 30),
  (30, 1, .null, 3, 0, [], 31), (31, 53, .null, 20, 3, [], 34), (34, 50, .null, 0, 0, [], 34)]
def mtX3_exchange : axM := (⟨"BeatSlugs$SwapSearch", "exchange", "(II)V"⟩, prog_5_method_9_code, 4, none, 3, false, cdX3_exchange)
abbrev kX3_exchange : Nat := 89
set_option maxRecDepth 100000 in
theorem ckX3_exchange : axCk 3 false 0 prog_5_method_9_code cdX3_exchange = true := by decide +kernel
def cdX0_allTurns : List axE := [
  (0, 2, .null, 0, 0, [], 1), (1, 36, .null, 0, 7, [], 4), (4, 49, .null, 0, 0, [], 4)]
def mtX0_allTurns : axM := (⟨"BeatSlugs$Board", "allTurns", "()I"⟩, prog_2_method_25_code, 1, (some .int), 0, false, cdX0_allTurns)
abbrev kX0_allTurns : Nat := 90
set_option maxRecDepth 100000 in
theorem ckX0_allTurns : axCk 0 false 0 prog_2_method_25_code cdX0_allTurns = true := by decide +kernel
def cdX3_isFound : List axE := [
  (0, 2, .null, 0, 0, [], 1), (1, 36, .null, 3, 1, [], 4), (4, 2, .null, 0, 0, [], 5), (5, 36, .null, 3, 2, [], 8), (8, 32, .null, 3, 15, [], 11), (11, 0, .int 1, 0, 0, [], 12), (12, 9, .null, 0, 0, [], 16), (15, 0, .int 0, 0, 0, [], 16),
  (16, 49, .null, 2, 0, [], 16)]
def mtX3_isFound : axM := (⟨"BeatSlugs$SwapSearch", "isFound", "()Z"⟩, prog_5_method_2_code, 1, (some .boolean), 3, false, cdX3_isFound)
abbrev kX3_isFound : Nat := 91
set_option maxRecDepth 100000 in
theorem ckX3_isFound : axCk 3 false 2 prog_5_method_2_code cdX3_isFound = true := by decide +kernel
def cdX3_lowerPlace : List axE := [
  (0, 2, .null, 0, 0, [], 1), (1, 36, .null, 3, 1, [], 4), (4, 49, .null, 0, 0, [], 4)]
def mtX3_lowerPlace : axM := (⟨"BeatSlugs$SwapSearch", "lowerPlace", "()I"⟩, prog_5_method_3_code, 1, (some .int), 3, false, cdX3_lowerPlace)
abbrev kX3_lowerPlace : Nat := 92
set_option maxRecDepth 100000 in
theorem ckX3_lowerPlace : axCk 3 false 0 prog_5_method_3_code cdX3_lowerPlace = true := by decide +kernel
def cdX3_higherPlace : List axE := [
  (0, 2, .null, 0, 0, [], 1), (1, 36, .null, 3, 2, [], 4), (4, 49, .null, 0, 0, [], 4)]
def mtX3_higherPlace : axM := (⟨"BeatSlugs$SwapSearch", "higherPlace", "()I"⟩, prog_5_method_4_code, 1, (some .int), 3, false, cdX3_higherPlace)
abbrev kX3_higherPlace : Nat := 93
set_option maxRecDepth 100000 in
theorem ckX3_higherPlace : axCk 3 false 0 prog_5_method_4_code cdX3_higherPlace = true := by decide +kernel
def cdX3_leastOff : List axE := [
  (0, 2, .null, 0, 0, [], 1), (1, 36, .null, 3, 3, [], 4), (4, 49, .null, 0, 0, [], 4)]
def mtX3_leastOff : axM := (⟨"BeatSlugs$SwapSearch", "leastOff", "()I"⟩, prog_5_method_5_code, 1, (some .int), 3, false, cdX3_leastOff)
abbrev kX3_leastOff : Nat := 94
set_option maxRecDepth 100000 in
theorem ckX3_leastOff : axCk 3 false 0 prog_5_method_5_code cdX3_leastOff = true := by decide +kernel
def cdX4_ifFitted : List axE := [
  (0, 2, .null, 0, 0, [], 1), (1, 36, .null, 4, 0, [], 4), (4, 1, .null, 1, 0, [], 5), (5, 52, .ref 0, 54, 1, [], 8), (8, 49, .null, 0, 0, [], 8)]
def mtX4_ifFitted : axM := (⟨"BeatSlugs", "ifFitted", "(I)I"⟩, prog_1_method_21_code, 2, (some .int), 4, false, cdX4_ifFitted)
abbrev kX4_ifFitted : Nat := 95
set_option maxRecDepth 100000 in
theorem ckX4_ifFitted : axCk 4 false 0 prog_1_method_21_code cdX4_ifFitted = true := by decide +kernel
def cdX4_ifTurned : List axE := [
  (0, 2, .null, 0, 0, [], 1), (1, 36, .null, 4, 0, [], 4), (4, 1, .null, 1, 0, [], 5), (5, 52, .ref 0, 24, 1, [], 8), (8, 33, .null, 0, 22, [], 11), (11, 2, .null, 0, 0, [], 12), (12, 36, .null, 4, 0, [], 15), (15, 1, .null, 1, 0, [], 16),
  (16, 52, .ref 0, 97, 1, [], 19), (19, 9, .null, 0, 0, [], 23), (22, 0, .int (-1), 0, 0, [], 23), (23, 49, .null, 0, 0, [], 23)]
def mtX4_ifTurned : axM := (⟨"BeatSlugs", "ifTurned", "(I)I"⟩, prog_1_method_22_code, 2, (some .int), 4, false, cdX4_ifTurned)
abbrev kX4_ifTurned : Nat := 96
set_option maxRecDepth 100000 in
theorem ckX4_ifTurned : axCk 4 false 0 prog_1_method_22_code cdX4_ifTurned = true := by decide +kernel
def cdX0_offIfTurned : List axE := [
  (0, 2, .null, 0, 0, [], 1), (1, 2, .null, 0, 0, [], 2), (2, 36, .null, 0, 2, [], 5), (5, 2, .null, 0, 0, [], 6), (6, 36, .null, 0, 7, [], 9), (9, 1, .null, 1, 0, [], 10), (10, 53, .null, 19, 1, [], 13), (13, 16, .null, 0, 0, [], 14),
  (14, 52, .ref 0, 78, 2, [], 17), (17, 49, .null, 0, 0, [], 17)]
def mtX0_offIfTurned : axM := (⟨"BeatSlugs$Board", "offIfTurned", "(I)I"⟩, prog_2_method_55_code, 2, (some .int), 0, false, cdX0_offIfTurned)
abbrev kX0_offIfTurned : Nat := 97
set_option maxRecDepth 100000 in
theorem ckX0_offIfTurned : axCk 0 false 0 prog_2_method_55_code cdX0_offIfTurned = true := by decide +kernel
def cdX4_needs : List axE := [
  (0, 2, .null, 0, 0, [], 1), (1, 36, .null, 4, 0, [], 4), (4, 1, .null, 1, 0, [], 5), (5, 52, .ref 0, 24, 1, [], 8), (8, 33, .null, 0, 22, [], 11), (11, 2, .null, 0, 0, [], 12), (12, 36, .null, 4, 0, [], 15), (15, 1, .null, 1, 0, [], 16),
  (16, 52, .ref 0, 99, 1, [], 19), (19, 9, .null, 0, 0, [], 23), (22, 0, .int (-1), 0, 0, [], 23), (23, 49, .null, 0, 0, [], 23)]
def mtX4_needs : axM := (⟨"BeatSlugs", "needs", "(I)I"⟩, prog_1_method_23_code, 2, (some .int), 4, false, cdX4_needs)
abbrev kX4_needs : Nat := 98
set_option maxRecDepth 100000 in
theorem ckX4_needs : axCk 4 false 0 prog_1_method_23_code cdX4_needs = true := by decide +kernel
def cdX0_allNeedsOf : List axE := [
  (0, 2, .null, 0, 0, [], 1), (1, 1, .null, 1, 0, [], 2), (2, 52, .ref 0, 32, 1, [], 5), (5, 4, .null, 2, 0, [], 6), (6, 2, .null, 0, 0, [], 7), (7, 36, .null, 0, 8, [], 10), (10, 0, .int 1, 0, 0, [], 11), (11, 12, .null, 0, 0, [], 12),
  (12, 4, .null, 3, 0, [], 13), (13, 1, .null, 3, 0, [], 14), (14, 33, .null, 2, 51, [], 17), (17, 2, .null, 0, 0, [], 18), (18, 36, .null, 0, 2, [], 21), (21, 1, .null, 3, 0, [], 22), (22, 53, .null, 10, 2, [], 25), (25, 4, .null, 4, 0, [], 27),
  (27, 1, .null, 2, 0, [], 28), (28, 1, .null, 4, 0, [], 30), (30, 53, .null, 18, 2, [], 33), (33, 33, .null, 0, 45, [], 36), (36, 1, .null, 2, 0, [], 37), (37, 2, .null, 0, 0, [], 38), (38, 1, .null, 4, 0, [], 40), (40, 52, .ref 0, 32, 1, [], 43),
  (43, 15, .null, 0, 0, [], 44), (44, 4, .null, 2, 0, [], 45), (45, 6, .int (-1), 3, 0, [], 48), (48, 9, .null, 0, 0, [], 13), (51, 1, .null, 2, 0, [], 52), (52, 49, .null, 0, 0, [], 52)]
def mtX0_allNeedsOf : axM := (⟨"BeatSlugs$Board", "allNeedsOf", "(I)I"⟩, prog_2_method_36_code, 5, (some .int), 0, false, cdX0_allNeedsOf)
abbrev kX0_allNeedsOf : Nat := 99
set_option maxRecDepth 100000 in
theorem ckX0_allNeedsOf : axCk 0 false 0 prog_2_method_36_code cdX0_allNeedsOf = true := by decide +kernel
def cdX4_put : List axE := [
  (0, 2, .null, 0, 0, [], 1), (1, 36, .null, 4, 3, [], 4), (4, 3, .null, 1, 0, [], 5), (5, 52, .ref 2, 101, 1, [], 8), (8, 49, .null, 0, 0, [], 8)]
def mtX4_put : axM := (⟨"BeatSlugs", "put", "(J)I"⟩, prog_1_method_24_code, 3, (some .int), 4, false, cdX4_put)
abbrev kX4_put : Nat := 100
set_option maxRecDepth 100000 in
theorem ckX4_put : axCk 4 false 0 prog_1_method_24_code cdX4_put = true := by decide +kernel
def cdX2_append : List axE := [
  (0, 3, .null, 1, 0, [], 1), (1, 53, .null, 102, 1, [], 4), (4, 4, .null, 3, 0, [], 5), (5, 1, .null, 3, 0, [], 6), (6, 0, .int 1, 0, 0, [], 7), (7, 32, .null, 3, 13, [], 10), (10, 0, .int (-2), 0, 0, [], 12), (12, 49, .null, 0, 0, [], 12),
  (13, 2, .null, 0, 0, [], 14), (14, 36, .null, 2, 1, [], 17), (17, 1, .null, 3, 0, [], 18), (18, 11, .null, 0, 0, [], 19), (19, 0, .int 80, 0, 0, [], 21), (21, 32, .null, 5, 27, [], 24), (24, 0, .int (-4), 0, 0, [], 26), (26, 49, .null, 0, 0, [], 26),
  (27, 1, .null, 3, 0, [], 28), (28, 0, .int 1, 0, 0, [], 29), (29, 12, .null, 0, 0, [], 30), (30, 4, .null, 4, 0, [], 32), (32, 1, .null, 4, 0, [], 34), (34, 33, .null, 2, 54, [], 37), (37, 2, .null, 0, 0, [], 38), (38, 3, .null, 1, 0, [], 39),
  (39, 1, .null, 4, 0, [], 41), (41, 53, .null, 103, 2, [], 44), (44, 21, .null, 0, 0, [], 45), (45, 52, .ref 2, 104, 1, [], 48), (48, 6, .int (-1), 4, 0, [], 51), (51, 9, .null, 0, 0, [], 32), (54, 2, .null, 0, 0, [], 55), (55, 36, .null, 2, 1, [], 58),
  (58, 49, .null, 0, 0, [], 58)]
def mtX2_append : axM := (⟨"BeatSlugs$Pad", "append", "(J)I"⟩, prog_4_method_4_code, 5, (some .int), 2, false, cdX2_append)
abbrev kX2_append : Nat := 101
set_option maxRecDepth 100000 in
theorem ckX2_append : axCk 2 false 0 prog_4_method_4_code cdX2_append = true := by decide +kernel
def cdX2_signsOf : List axE := [
  (0, 0, .int 0, 0, 0, [], 1), (1, 4, .null, 2, 0, [], 2), (2, 1, .null, 2, 0, [], 3), (3, 0, .int 8, 0, 0, [], 5), (5, 32, .null, 3, 43, [], 8), (8, 3, .null, 0, 0, [], 9), (9, 1, .null, 2, 0, [], 10), (10, 53, .null, 103, 2, [], 13),
  (13, 33, .null, 0, 43, [], 16), (16, 3, .null, 0, 0, [], 17), (17, 1, .null, 2, 0, [], 18), (18, 53, .null, 103, 2, [], 21), (21, 4, .null, 3, 0, [], 22), (22, 1, .null, 3, 0, [], 23), (23, 0, .int 33, 0, 0, [], 25), (25, 32, .null, 2, 34, [], 28),
  (28, 1, .null, 3, 0, [], 29), (29, 0, .int 126, 0, 0, [], 31), (31, 32, .null, 5, 37, [], 34), (34, 0, .int (-2), 0, 0, [], 36), (36, 49, .null, 0, 0, [], 36), (37, 6, .int 1, 2, 0, [], 40), (40, 9, .null, 0, 0, [], 2), (43, 1, .null, 2, 0, [], 44),
  (44, 0, .int 8, 0, 0, [], 46), (46, 32, .null, 3, 63, [], 49), (49, 3, .null, 0, 0, [], 50), (50, 0, .int 8, 0, 0, [], 52), (52, 1, .null, 2, 0, [], 53), (53, 13, .null, 0, 0, [], 54), (54, 28, .null, 0, 0, [], 55), (55, 0, .long 0, 0, 0, [], 56),
  (56, 29, .null, 0, 0, [], 57), (57, 33, .null, 0, 63, [], 60), (60, 0, .int (-2), 0, 0, [], 62), (62, 49, .null, 0, 0, [], 62), (63, 1, .null, 2, 0, [], 64), (64, 49, .null, 0, 0, [], 64)]
def mtX2_signsOf : axM := (⟨"BeatSlugs$Pad", "signsOf", "(J)I"⟩, prog_4_method_5_code, 4, (some .int), 2, false, cdX2_signsOf)
abbrev kX2_signsOf : Nat := 102
set_option maxRecDepth 100000 in
theorem ckX2_signsOf : axCk 2 false 0 prog_4_method_5_code cdX2_signsOf = true := by decide +kernel
def cdX2_codeOf : List axE := [
  (0, 3, .null, 0, 0, [], 1), (1, 0, .int 8, 0, 0, [], 3), (3, 1, .null, 2, 0, [], 4), (4, 13, .null, 0, 0, [], 5), (5, 28, .null, 0, 0, [], 6), (6, 23, .null, 0, 0, [], 7), (7, 0, .int 255, 0, 0, [], 10), (10, 14, .null, 0, 0, [], 11),
  (11, 49, .null, 0, 0, [], 11)]
def mtX2_codeOf : axM := (⟨"BeatSlugs$Pad", "codeOf", "(JI)I"⟩, prog_4_method_6_code, 3, (some .int), 2, false, cdX2_codeOf)
abbrev kX2_codeOf : Nat := 103
set_option maxRecDepth 100000 in
theorem ckX2_codeOf : axCk 2 false 0 prog_4_method_6_code cdX2_codeOf = true := by decide +kernel
def cdX2_addSign : List axE := [
  (0, 2, .null, 0, 0, [], 1), (1, 36, .null, 2, 1, [], 4), (4, 33, .null, 2, 39, [], 7), (7, 2, .null, 0, 0, [], 8), (8, 36, .null, 2, 1, [], 11), (11, 2, .null, 0, 0, [], 12), (12, 36, .null, 2, 0, [], 15), (15, 39, .null, 0, 0, [], 16),
  (16, 32, .null, 3, 39, [], 19), (19, 2, .null, 0, 0, [], 20), (20, 36, .null, 2, 0, [], 23), (23, 2, .null, 0, 0, [], 24), (24, 36, .null, 2, 1, [], 27), (27, 1, .null, 1, 0, [], 28), (28, 42, .null, 1, 0, [], 29), (29, 2, .null, 0, 0, [], 30),
  (30, 7, .null, 0, 0, [], 31), (31, 36, .null, 2, 1, [], 34), (34, 0, .int 1, 0, 0, [], 35), (35, 11, .null, 0, 0, [], 36), (36, 37, .null, 2, 1, [], 39), (39, 50, .null, 0, 0, [], 39)]
def mtX2_addSign : axM := (⟨"BeatSlugs$Pad", "addSign", "(C)V"⟩, prog_4_method_7_code, 2, none, 2, false, cdX2_addSign)
abbrev kX2_addSign : Nat := 104
set_option maxRecDepth 100000 in
theorem ckX2_addSign : axCk 2 false 0 prog_4_method_7_code cdX2_addSign = true := by decide +kernel
def cdX4_wipe : List axE := [
  (0, 2, .null, 0, 0, [], 1), (1, 36, .null, 4, 3, [], 4), (4, 52, .ref 2, 106, 0, [], 7), (7, 49, .null, 0, 0, [], 7)]
def mtX4_wipe : axM := (⟨"BeatSlugs", "wipe", "()I"⟩, prog_1_method_25_code, 1, (some .int), 4, false, cdX4_wipe)
abbrev kX4_wipe : Nat := 105
set_option maxRecDepth 100000 in
theorem ckX4_wipe : axCk 4 false 0 prog_1_method_25_code cdX4_wipe = true := by decide +kernel
def cdX2_clear : List axE := [
  (0, 2, .null, 0, 0, [], 1), (1, 36, .null, 2, 1, [], 4), (4, 4, .null, 1, 0, [], 5), (5, 2, .null, 0, 0, [], 6), (6, 0, .int 0, 0, 0, [], 7), (7, 37, .null, 2, 1, [], 10), (10, 1, .null, 1, 0, [], 11), (11, 49, .null, 0, 0, [], 11)]
def mtX2_clear : axM := (⟨"BeatSlugs$Pad", "clear", "()I"⟩, prog_4_method_3_code, 2, (some .int), 2, false, cdX2_clear)
abbrev kX2_clear : Nat := 106
set_option maxRecDepth 100000 in
theorem ckX2_clear : axCk 2 false 0 prog_4_method_3_code cdX2_clear = true := by decide +kernel
def cdX4_fault : List axE := [
  (0, 2, .null, 0, 0, [], 1), (1, 36, .null, 4, 3, [], 4), (4, 52, .ref 2, 108, 0, [], 7), (7, 49, .null, 0, 0, [], 7)]
def mtX4_fault : axM := (⟨"BeatSlugs", "fault", "()I"⟩, prog_1_method_26_code, 1, (some .int), 4, false, cdX4_fault)
abbrev kX4_fault : Nat := 107
set_option maxRecDepth 100000 in
theorem ckX4_fault : axCk 4 false 0 prog_1_method_26_code cdX4_fault = true := by decide +kernel
def cdX2_firstFault : List axE := [
  (0, 2, .null, 0, 0, [], 1), (1, 52, .ref 2, 109, 0, [], 4), (4, 0, .int 0, 0, 0, [], 5), (5, 4, .null, 1, 0, [], 6), (6, 1, .null, 1, 0, [], 7), (7, 0, .int 80, 0, 0, [], 9), (9, 32, .null, 3, 40, [], 12), (12, 2, .null, 0, 0, [], 13),
  (13, 52, .ref 2, 110, 0, [], 16), (16, 33, .null, 1, 24, [], 19), (19, 2, .null, 0, 0, [], 20), (20, 36, .null, 2, 2, [], 23), (23, 49, .null, 0, 0, [], 23), (24, 2, .null, 0, 0, [], 25), (25, 36, .null, 2, 3, [], 28), (28, 33, .null, 0, 34, [], 31),
  (31, 0, .int (-6), 0, 0, [], 33), (33, 49, .null, 0, 0, [], 33), (34, 6, .int 1, 1, 0, [], 37), (37, 9, .null, 0, 0, [], 6), (40, 0, .int (-6), 0, 0, [], 42), (42, 49, .null, 0, 0, [], 42)]
def mtX2_firstFault : axM := (⟨"BeatSlugs$Pad", "firstFault", "()I"⟩, prog_4_method_8_code, 2, (some .int), 2, false, cdX2_firstFault)
abbrev kX2_firstFault : Nat := 108
set_option maxRecDepth 100000 in
theorem ckX2_firstFault : axCk 2 false 0 prog_4_method_8_code cdX2_firstFault = true := by decide +kernel
def cdX2_rewind : List axE := [
  (0, 2, .null, 0, 0, [], 1), (1, 0, .int 0, 0, 0, [], 2), (2, 37, .null, 2, 2, [], 5), (5, 50, .null, 0, 0, [], 5)]
def mtX2_rewind : axM := (⟨"BeatSlugs$Pad", "rewind", "()V"⟩, prog_4_method_9_code, 1, none, 2, false, cdX2_rewind)
abbrev kX2_rewind : Nat := 109
set_option maxRecDepth 100000 in
theorem ckX2_rewind : axCk 2 false 0 prog_4_method_9_code cdX2_rewind = true := by decide +kernel
def cdX2_readOrder : List axE := [
  (0, 2, .null, 0, 0, [], 1), (1, 2, .null, 0, 0, [], 2), (2, 2, .null, 0, 0, [], 3), (3, 36, .null, 2, 2, [], 6), (6, 52, .ref 2, 111, 1, [], 9), (9, 37, .null, 2, 4, [], 12), (12, 0, .int 0, 0, 0, [], 13), (13, 4, .null, 1, 0, [], 14),
  (14, 2, .null, 0, 0, [], 15), (15, 36, .null, 2, 4, [], 18), (18, 35, .null, 0, 164, [(102, 156), (103, 164), (104, 164), (105, 164), (106, 164), (107, 164), (108, 164), (109, 126), (110, 116), (111, 164), (112, 164), (113, 164), (114, 164), (115, 108), (116, 146), (117, 164), (118, 164), (119, 164), (120, 136)], 18), (108, 2, .null, 0, 0, [], 109), (109, 52, .ref 2, 112, 0, [], 112), (112, 4, .null, 1, 0, [], 113), (113, 9, .null, 0, 0, [], 164), (116, 2, .null, 0, 0, [], 117),
  (117, 0, .int 62, 0, 0, [], 119), (119, 52, .ref 2, 116, 1, [], 122), (122, 4, .null, 1, 0, [], 123), (123, 9, .null, 0, 0, [], 164), (126, 2, .null, 0, 0, [], 127), (127, 0, .int 64, 0, 0, [], 129), (129, 52, .ref 2, 116, 1, [], 132), (132, 4, .null, 1, 0, [], 133),
  (133, 9, .null, 0, 0, [], 164), (136, 2, .null, 0, 0, [], 137), (137, 0, .int 126, 0, 0, [], 139), (139, 52, .ref 2, 116, 1, [], 142), (142, 4, .null, 1, 0, [], 143), (143, 9, .null, 0, 0, [], 164), (146, 2, .null, 0, 0, [], 147), (147, 0, .int 45, 0, 0, [], 149),
  (149, 52, .ref 2, 116, 1, [], 152), (152, 4, .null, 1, 0, [], 153), (153, 9, .null, 0, 0, [], 164), (156, 2, .null, 0, 0, [], 157), (157, 52, .ref 2, 117, 0, [], 160), (160, 4, .null, 1, 0, [], 161), (161, 9, .null, 0, 0, [], 164), (164, 2, .null, 0, 0, [], 165),
  (165, 1, .null, 1, 0, [], 166), (166, 33, .null, 0, 184, [], 169), (169, 2, .null, 0, 0, [], 170), (170, 36, .null, 2, 2, [], 173), (173, 2, .null, 0, 0, [], 174), (174, 36, .null, 2, 1, [], 177), (177, 32, .null, 2, 184, [], 180), (180, 0, .int 1, 0, 0, [], 181),
  (181, 9, .null, 0, 0, [], 185), (184, 0, .int 0, 0, 0, [], 185), (185, 37, .null, 2, 3, [], 188), (188, 2, .null, 0, 0, [], 189), (189, 36, .null, 2, 3, [], 192), (192, 33, .null, 1, 208, [], 195), (195, 1, .null, 1, 0, [], 196), (196, 33, .null, 0, 212, [], 199),
  (199, 2, .null, 0, 0, [], 200), (200, 0, .int 59, 0, 0, [], 202), (202, 52, .ref 2, 115, 1, [], 205), (205, 33, .null, 0, 212, [], 208), (208, 0, .int 1, 0, 0, [], 209), (209, 9, .null, 0, 0, [], 213), (212, 0, .int 0, 0, 0, [], 213), (213, 49, .null, 2, 0, [], 213)]
def mtX2_readOrder : axM := (⟨"BeatSlugs$Pad", "readOrder", "()Z"⟩, prog_4_method_13_code, 2, (some .boolean), 2, false, cdX2_readOrder)
abbrev kX2_readOrder : Nat := 110
set_option maxRecDepth 100000 in
theorem ckX2_readOrder : axCk 2 false 2 prog_4_method_13_code cdX2_readOrder = true := by decide +kernel
def cdX2_signAt : List axE := [
  (0, 1, .null, 1, 0, [], 1), (1, 33, .null, 2, 30, [], 4), (4, 1, .null, 1, 0, [], 5), (5, 2, .null, 0, 0, [], 6), (6, 36, .null, 2, 1, [], 9), (9, 32, .null, 3, 30, [], 12), (12, 1, .null, 1, 0, [], 13), (13, 2, .null, 0, 0, [], 14),
  (14, 36, .null, 2, 0, [], 17), (17, 39, .null, 0, 0, [], 18), (18, 32, .null, 3, 30, [], 21), (21, 2, .null, 0, 0, [], 22), (22, 36, .null, 2, 0, [], 25), (25, 1, .null, 1, 0, [], 26), (26, 40, .null, 1, 0, [], 27), (27, 9, .null, 0, 0, [], 31),
  (30, 0, .int 0, 0, 0, [], 31), (31, 49, .null, 1, 0, [], 31)]
def mtX2_signAt : axM := (⟨"BeatSlugs$Pad", "signAt", "(I)C"⟩, prog_4_method_20_code, 2, (some .char), 2, false, cdX2_signAt)
abbrev kX2_signAt : Nat := 111
set_option maxRecDepth 100000 in
theorem ckX2_signAt : axCk 2 false 1 prog_4_method_20_code cdX2_signAt = true := by decide +kernel
def cdX2_readSlug : List axE := [
  (0, 2, .null, 0, 0, [], 1), (1, 7, .null, 0, 0, [], 2), (2, 36, .null, 2, 2, [], 5), (5, 0, .int 1, 0, 0, [], 6), (6, 11, .null, 0, 0, [], 7), (7, 37, .null, 2, 2, [], 10), (10, 2, .null, 0, 0, [], 11), (11, 2, .null, 0, 0, [], 12),
  (12, 52, .ref 2, 113, 0, [], 15), (15, 37, .null, 2, 5, [], 18), (18, 2, .null, 0, 0, [], 19), (19, 36, .null, 2, 5, [], 22), (22, 33, .null, 3, 27, [], 25), (25, 0, .int 0, 0, 0, [], 26), (26, 49, .null, 2, 0, [], 26), (27, 2, .null, 0, 0, [], 28),
  (28, 2, .null, 0, 0, [], 29), (29, 0, .int 33, 0, 0, [], 31), (31, 52, .ref 2, 115, 1, [], 34), (34, 33, .null, 0, 41, [], 37), (37, 0, .int 1, 0, 0, [], 38), (38, 9, .null, 0, 0, [], 42), (41, 0, .int 0, 0, 0, [], 42), (42, 37, .null, 2, 6, [], 45),
  (45, 0, .int 1, 0, 0, [], 46), (46, 49, .null, 2, 0, [], 46)]
def mtX2_readSlug : axM := (⟨"BeatSlugs$Pad", "readSlug", "()Z"⟩, prog_4_method_14_code, 1, (some .boolean), 2, false, cdX2_readSlug)
abbrev kX2_readSlug : Nat := 112
set_option maxRecDepth 100000 in
theorem ckX2_readSlug : axCk 2 false 2 prog_4_method_14_code cdX2_readSlug = true := by decide +kernel
def cdX2_readNumber : List axE := [
  (0, 2, .null, 0, 0, [], 1), (1, 52, .ref 2, 114, 0, [], 4), (4, 4, .null, 1, 0, [], 5), (5, 1, .null, 1, 0, [], 6), (6, 33, .null, 4, 11, [], 9), (9, 1, .null, 1, 0, [], 10), (10, 49, .null, 0, 0, [], 10), (11, 2, .null, 0, 0, [], 12),
  (12, 52, .ref 2, 114, 0, [], 15), (15, 4, .null, 2, 0, [], 16), (16, 1, .null, 2, 0, [], 17), (17, 33, .null, 3, 24, [], 20), (20, 1, .null, 1, 0, [], 21), (21, 9, .null, 0, 0, [], 30), (24, 0, .int 10, 0, 0, [], 26), (26, 1, .null, 1, 0, [], 27),
  (27, 13, .null, 0, 0, [], 28), (28, 1, .null, 2, 0, [], 29), (29, 11, .null, 0, 0, [], 30), (30, 49, .null, 0, 0, [], 30)]
def mtX2_readNumber : axM := (⟨"BeatSlugs$Pad", "readNumber", "()I"⟩, prog_4_method_17_code, 3, (some .int), 2, false, cdX2_readNumber)
abbrev kX2_readNumber : Nat := 113
set_option maxRecDepth 100000 in
theorem ckX2_readNumber : axCk 2 false 0 prog_4_method_17_code cdX2_readNumber = true := by decide +kernel
def cdX2_readDigit : List axE := [
  (0, 2, .null, 0, 0, [], 1), (1, 2, .null, 0, 0, [], 2), (2, 36, .null, 2, 2, [], 5), (5, 52, .ref 2, 111, 1, [], 8), (8, 4, .null, 1, 0, [], 9), (9, 1, .null, 1, 0, [], 10), (10, 0, .int 48, 0, 0, [], 12), (12, 32, .null, 2, 21, [], 15),
  (15, 1, .null, 1, 0, [], 16), (16, 0, .int 57, 0, 0, [], 18), (18, 32, .null, 5, 24, [], 21), (21, 0, .int (-6), 0, 0, [], 23), (23, 49, .null, 0, 0, [], 23), (24, 2, .null, 0, 0, [], 25), (25, 7, .null, 0, 0, [], 26), (26, 36, .null, 2, 2, [], 29),
  (29, 0, .int 1, 0, 0, [], 30), (30, 11, .null, 0, 0, [], 31), (31, 37, .null, 2, 2, [], 34), (34, 1, .null, 1, 0, [], 35), (35, 0, .int 48, 0, 0, [], 37), (37, 12, .null, 0, 0, [], 38), (38, 49, .null, 0, 0, [], 38)]
def mtX2_readDigit : axM := (⟨"BeatSlugs$Pad", "readDigit", "()I"⟩, prog_4_method_18_code, 2, (some .int), 2, false, cdX2_readDigit)
abbrev kX2_readDigit : Nat := 114
set_option maxRecDepth 100000 in
theorem ckX2_readDigit : axCk 2 false 0 prog_4_method_18_code cdX2_readDigit = true := by decide +kernel
def cdX2_skip : List axE := [
  (0, 2, .null, 0, 0, [], 1), (1, 2, .null, 0, 0, [], 2), (2, 36, .null, 2, 2, [], 5), (5, 52, .ref 2, 111, 1, [], 8), (8, 1, .null, 1, 0, [], 9), (9, 32, .null, 0, 14, [], 12), (12, 0, .int 0, 0, 0, [], 13), (13, 49, .null, 2, 0, [], 13),
  (14, 2, .null, 0, 0, [], 15), (15, 7, .null, 0, 0, [], 16), (16, 36, .null, 2, 2, [], 19), (19, 0, .int 1, 0, 0, [], 20), (20, 11, .null, 0, 0, [], 21), (21, 37, .null, 2, 2, [], 24), (24, 0, .int 1, 0, 0, [], 25), (25, 49, .null, 2, 0, [], 25)]
def mtX2_skip : axM := (⟨"BeatSlugs$Pad", "skip", "(C)Z"⟩, prog_4_method_19_code, 2, (some .boolean), 2, false, cdX2_skip)
abbrev kX2_skip : Nat := 115
set_option maxRecDepth 100000 in
theorem ckX2_skip : axCk 2 false 2 prog_4_method_19_code cdX2_skip = true := by decide +kernel
def cdX2_readPair : List axE := [
  (0, 2, .null, 0, 0, [], 1), (1, 7, .null, 0, 0, [], 2), (2, 36, .null, 2, 2, [], 5), (5, 0, .int 1, 0, 0, [], 6), (6, 11, .null, 0, 0, [], 7), (7, 37, .null, 2, 2, [], 10), (10, 2, .null, 0, 0, [], 11), (11, 2, .null, 0, 0, [], 12),
  (12, 52, .ref 2, 113, 0, [], 15), (15, 37, .null, 2, 5, [], 18), (18, 2, .null, 0, 0, [], 19), (19, 36, .null, 2, 5, [], 22), (22, 33, .null, 2, 33, [], 25), (25, 2, .null, 0, 0, [], 26), (26, 1, .null, 1, 0, [], 27), (27, 52, .ref 2, 115, 1, [], 30),
  (30, 33, .null, 1, 35, [], 33), (33, 0, .int 0, 0, 0, [], 34), (34, 49, .null, 2, 0, [], 34), (35, 2, .null, 0, 0, [], 36), (36, 2, .null, 0, 0, [], 37), (37, 52, .ref 2, 113, 0, [], 40), (40, 37, .null, 2, 6, [], 43), (43, 2, .null, 0, 0, [], 44),
  (44, 36, .null, 2, 6, [], 47), (47, 33, .null, 2, 54, [], 50), (50, 0, .int 1, 0, 0, [], 51), (51, 9, .null, 0, 0, [], 55), (54, 0, .int 0, 0, 0, [], 55), (55, 49, .null, 2, 0, [], 55)]
def mtX2_readPair : axM := (⟨"BeatSlugs$Pad", "readPair", "(C)Z"⟩, prog_4_method_15_code, 2, (some .boolean), 2, false, cdX2_readPair)
abbrev kX2_readPair : Nat := 116
set_option maxRecDepth 100000 in
theorem ckX2_readPair : axCk 2 false 2 prog_4_method_15_code cdX2_readPair = true := by decide +kernel
def cdX2_readAct : List axE := [
  (0, 2, .null, 0, 0, [], 1), (1, 7, .null, 0, 0, [], 2), (2, 36, .null, 2, 2, [], 5), (5, 0, .int 1, 0, 0, [], 6), (6, 11, .null, 0, 0, [], 7), (7, 37, .null, 2, 2, [], 10), (10, 2, .null, 0, 0, [], 11), (11, 2, .null, 0, 0, [], 12),
  (12, 52, .ref 2, 114, 0, [], 15), (15, 37, .null, 2, 5, [], 18), (18, 2, .null, 0, 0, [], 19), (19, 36, .null, 2, 5, [], 22), (22, 33, .null, 2, 29, [], 25), (25, 0, .int 1, 0, 0, [], 26), (26, 9, .null, 0, 0, [], 30), (29, 0, .int 0, 0, 0, [], 30),
  (30, 49, .null, 2, 0, [], 30)]
def mtX2_readAct : axM := (⟨"BeatSlugs$Pad", "readAct", "()Z"⟩, prog_4_method_16_code, 1, (some .boolean), 2, false, cdX2_readAct)
abbrev kX2_readAct : Nat := 117
set_option maxRecDepth 100000 in
theorem ckX2_readAct : axCk 2 false 2 prog_4_method_16_code cdX2_readAct = true := by decide +kernel
def cdX4_carryOut : List axE := [
  (0, 2, .null, 0, 0, [], 1), (1, 36, .null, 4, 3, [], 4), (4, 52, .ref 2, 108, 0, [], 7), (7, 0, .int (-6), 0, 0, [], 9), (9, 32, .null, 0, 15, [], 12), (12, 0, .int (-3), 0, 0, [], 14), (14, 49, .null, 0, 0, [], 14), (15, 2, .null, 0, 0, [], 16),
  (16, 36, .null, 4, 1, [], 19), (19, 2, .null, 0, 0, [], 20), (20, 36, .null, 4, 0, [], 23), (23, 52, .ref 1, 6, 1, [], 26), (26, 2, .null, 0, 0, [], 27), (27, 36, .null, 4, 3, [], 30), (30, 52, .ref 2, 109, 0, [], 33), (33, 0, .int 0, 0, 0, [], 34),
  (34, 4, .null, 1, 0, [], 35), (35, 1, .null, 1, 0, [], 36), (36, 0, .int 80, 0, 0, [], 38), (38, 32, .null, 3, 64, [], 41), (41, 2, .null, 0, 0, [], 42), (42, 36, .null, 4, 3, [], 45), (45, 52, .ref 2, 110, 0, [], 48), (48, 33, .null, 0, 64, [], 51),
  (51, 2, .null, 0, 0, [], 52), (52, 52, .ref 4, 119, 0, [], 55), (55, 33, .null, 2, 64, [], 58), (58, 6, .int 1, 1, 0, [], 61), (61, 9, .null, 0, 0, [], 35), (64, 2, .null, 0, 0, [], 65), (65, 36, .null, 4, 3, [], 68), (68, 52, .ref 2, 106, 0, [], 71),
  (71, 8, .null, 0, 0, [], 72), (72, 2, .null, 0, 0, [], 73), (73, 36, .null, 4, 1, [], 76), (76, 1, .null, 1, 0, [], 77), (77, 52, .ref 1, 11, 1, [], 80), (80, 49, .null, 0, 0, [], 80)]
def mtX4_carryOut : axM := (⟨"BeatSlugs", "carryOut", "()I"⟩, prog_1_method_27_code, 2, (some .int), 4, false, cdX4_carryOut)
abbrev kX4_carryOut : Nat := 118
set_option maxRecDepth 100000 in
theorem ckX4_carryOut : axCk 4 false 0 prog_1_method_27_code cdX4_carryOut = true := by decide +kernel
def cdX4_carryOrder : List axE := [
  (0, 2, .null, 0, 0, [], 1), (1, 36, .null, 4, 3, [], 4), (4, 52, .ref 2, 120, 0, [], 7), (7, 4, .null, 1, 0, [], 8), (8, 2, .null, 0, 0, [], 9), (9, 36, .null, 4, 3, [], 12), (12, 52, .ref 2, 121, 0, [], 15), (15, 4, .null, 2, 0, [], 16),
  (16, 2, .null, 0, 0, [], 17), (17, 36, .null, 4, 3, [], 20), (20, 52, .ref 2, 122, 0, [], 23), (23, 35, .null, 0, 178, [(102, 169), (103, 178), (104, 178), (105, 178), (106, 178), (107, 178), (108, 178), (109, 139), (110, 129), (111, 178), (112, 178), (113, 178), (114, 178), (115, 112), (116, 159), (117, 178), (118, 178), (119, 178), (120, 149)], 23), (112, 2, .null, 0, 0, [], 113), (113, 36, .null, 4, 0, [], 116), (116, 2, .null, 0, 0, [], 117), (117, 36, .null, 4, 0, [], 120),
  (120, 52, .ref 0, 86, 0, [], 123), (123, 1, .null, 1, 0, [], 124), (124, 1, .null, 2, 0, [], 125), (125, 52, .ref 0, 15, 3, [], 128), (128, 49, .null, 0, 0, [], 128), (129, 2, .null, 0, 0, [], 130), (130, 36, .null, 4, 0, [], 133), (133, 1, .null, 1, 0, [], 134),
  (134, 1, .null, 2, 0, [], 135), (135, 52, .ref 0, 31, 2, [], 138), (138, 49, .null, 0, 0, [], 138), (139, 2, .null, 0, 0, [], 140), (140, 36, .null, 4, 0, [], 143), (143, 1, .null, 1, 0, [], 144), (144, 1, .null, 2, 0, [], 145), (145, 52, .ref 0, 42, 2, [], 148),
  (148, 49, .null, 0, 0, [], 148), (149, 2, .null, 0, 0, [], 150), (150, 36, .null, 4, 0, [], 153), (153, 1, .null, 1, 0, [], 154), (154, 1, .null, 2, 0, [], 155), (155, 52, .ref 0, 47, 2, [], 158), (158, 49, .null, 0, 0, [], 158), (159, 2, .null, 0, 0, [], 160),
  (160, 36, .null, 4, 0, [], 163), (163, 1, .null, 1, 0, [], 164), (164, 1, .null, 2, 0, [], 165), (165, 52, .ref 0, 35, 2, [], 168), (168, 49, .null, 0, 0, [], 168), (169, 2, .null, 0, 0, [], 170), (170, 36, .null, 4, 0, [], 173), (173, 1, .null, 1, 0, [], 174),
  (174, 52, .ref 0, 53, 1, [], 177), (177, 49, .null, 0, 0, [], 177), (178, 0, .int (-3), 0, 0, [], 180), (180, 49, .null, 0, 0, [], 180)]
def mtX4_carryOrder : axM := (⟨"BeatSlugs", "carryOrder", "()I"⟩, prog_1_method_31_code, 3, (some .int), 4, false, cdX4_carryOrder)
abbrev kX4_carryOrder : Nat := 119
set_option maxRecDepth 100000 in
theorem ckX4_carryOrder : axCk 4 false 0 prog_1_method_31_code cdX4_carryOrder = true := by decide +kernel
def cdX2_firstNumber : List axE := [
  (0, 2, .null, 0, 0, [], 1), (1, 36, .null, 2, 5, [], 4), (4, 49, .null, 0, 0, [], 4)]
def mtX2_firstNumber : axM := (⟨"BeatSlugs$Pad", "firstNumber", "()I"⟩, prog_4_method_11_code, 1, (some .int), 2, false, cdX2_firstNumber)
abbrev kX2_firstNumber : Nat := 120
set_option maxRecDepth 100000 in
theorem ckX2_firstNumber : axCk 2 false 0 prog_4_method_11_code cdX2_firstNumber = true := by decide +kernel
def cdX2_secondNumber : List axE := [
  (0, 2, .null, 0, 0, [], 1), (1, 36, .null, 2, 6, [], 4), (4, 49, .null, 0, 0, [], 4)]
def mtX2_secondNumber : axM := (⟨"BeatSlugs$Pad", "secondNumber", "()I"⟩, prog_4_method_12_code, 1, (some .int), 2, false, cdX2_secondNumber)
abbrev kX2_secondNumber : Nat := 121
set_option maxRecDepth 100000 in
theorem ckX2_secondNumber : axCk 2 false 0 prog_4_method_12_code cdX2_secondNumber = true := by decide +kernel
def cdX2_kind : List axE := [
  (0, 2, .null, 0, 0, [], 1), (1, 36, .null, 2, 4, [], 4), (4, 49, .null, 1, 0, [], 4)]
def mtX2_kind : axM := (⟨"BeatSlugs$Pad", "kind", "()C"⟩, prog_4_method_10_code, 1, (some .char), 2, false, cdX2_kind)
abbrev kX2_kind : Nat := 122
set_option maxRecDepth 100000 in
theorem ckX2_kind : axCk 2 false 1 prog_4_method_10_code cdX2_kind = true := by decide +kernel
def cdX4_undo : List axE := [
  (0, 2, .null, 0, 0, [], 1), (1, 36, .null, 4, 1, [], 4), (4, 2, .null, 0, 0, [], 5), (5, 36, .null, 4, 0, [], 8), (8, 52, .ref 1, 124, 1, [], 11), (11, 49, .null, 0, 0, [], 11)]
def mtX4_undo : axM := (⟨"BeatSlugs", "undo", "()I"⟩, prog_1_method_28_code, 1, (some .int), 4, false, cdX4_undo)
abbrev kX4_undo : Nat := 123
set_option maxRecDepth 100000 in
theorem ckX4_undo : axCk 4 false 0 prog_1_method_28_code cdX4_undo = true := by decide +kernel
def cdX1_takeBack : List axE := [
  (0, 2, .null, 0, 0, [], 1), (1, 36, .null, 1, 1, [], 4), (4, 33, .null, 5, 16, [], 7), (7, 2, .null, 0, 0, [], 8), (8, 36, .null, 1, 1, [], 11), (11, 0, .int 1, 0, 0, [], 12), (12, 12, .null, 0, 0, [], 13), (13, 9, .null, 0, 0, [], 23),
  (16, 2, .null, 0, 0, [], 17), (17, 36, .null, 1, 0, [], 20), (20, 39, .null, 0, 0, [], 21), (21, 0, .int 1, 0, 0, [], 22), (22, 12, .null, 0, 0, [], 23), (23, 4, .null, 2, 0, [], 24), (24, 2, .null, 0, 0, [], 25), (25, 36, .null, 1, 2, [], 28),
  (28, 33, .null, 5, 40, [], 31), (31, 1, .null, 2, 0, [], 32), (32, 2, .null, 0, 0, [], 33), (33, 36, .null, 1, 0, [], 36), (36, 39, .null, 0, 0, [], 37), (37, 32, .null, 2, 43, [], 40), (40, 0, .int (-5), 0, 0, [], 42), (42, 49, .null, 0, 0, [], 42),
  (43, 2, .null, 0, 0, [], 44), (44, 36, .null, 1, 0, [], 47), (47, 1, .null, 2, 0, [], 48), (48, 41, .null, 0, 0, [], 49), (49, 5, .null, 3, 0, [], 50), (50, 2, .null, 3, 0, [], 51), (51, 34, .null, 0, 57, [], 54), (54, 0, .int (-5), 0, 0, [], 56),
  (56, 49, .null, 0, 0, [], 56), (57, 2, .null, 1, 0, [], 58), (58, 2, .null, 3, 0, [], 59), (59, 52, .ref 0, 8, 1, [], 62), (62, 2, .null, 0, 0, [], 63), (63, 1, .null, 2, 0, [], 64), (64, 37, .null, 1, 1, [], 67), (67, 2, .null, 0, 0, [], 68),
  (68, 7, .null, 0, 0, [], 69), (69, 36, .null, 1, 2, [], 72), (72, 0, .int 1, 0, 0, [], 73), (73, 12, .null, 0, 0, [], 74), (74, 37, .null, 1, 2, [], 77), (77, 2, .null, 0, 0, [], 78), (78, 36, .null, 1, 2, [], 81), (81, 49, .null, 0, 0, [], 81)]
def mtX1_takeBack : axM := (⟨"BeatSlugs$History", "takeBack", "(LBeatSlugs$Board;)I"⟩, prog_3_method_5_code, 4, (some .int), 1, false, cdX1_takeBack)
abbrev kX1_takeBack : Nat := 124
set_option maxRecDepth 100000 in
theorem ckX1_takeBack : axCk 1 false 0 prog_3_method_5_code cdX1_takeBack = true := by decide +kernel
def cdX4_save : List axE := [
  (0, 1, .null, 1, 0, [], 1), (1, 33, .null, 2, 13, [], 4), (4, 1, .null, 1, 0, [], 5), (5, 2, .null, 0, 0, [], 6), (6, 36, .null, 4, 2, [], 9), (9, 39, .null, 0, 0, [], 10), (10, 32, .null, 2, 16, [], 13), (13, 0, .int (-2), 0, 0, [], 15),
  (15, 49, .null, 0, 0, [], 15), (16, 2, .null, 0, 0, [], 17), (17, 36, .null, 4, 2, [], 20), (20, 1, .null, 1, 0, [], 21), (21, 2, .null, 0, 0, [], 22), (22, 36, .null, 4, 2, [], 25), (25, 1, .null, 1, 0, [], 26), (26, 41, .null, 0, 0, [], 27),
  (27, 2, .null, 0, 0, [], 28), (28, 36, .null, 4, 0, [], 31), (31, 53, .null, 7, 2, [], 34), (34, 43, .null, 0, 0, [], 35), (35, 2, .null, 0, 0, [], 36), (36, 36, .null, 4, 0, [], 39), (39, 52, .ref 0, 86, 0, [], 42), (42, 49, .null, 0, 0, [], 42)]
def mtX4_save : axM := (⟨"BeatSlugs", "save", "(I)I"⟩, prog_1_method_29_code, 2, (some .int), 4, false, cdX4_save)
abbrev kX4_save : Nat := 125
set_option maxRecDepth 100000 in
theorem ckX4_save : axCk 4 false 0 prog_1_method_29_code cdX4_save = true := by decide +kernel
def cdX4_restore : List axE := [
  (0, 1, .null, 1, 0, [], 1), (1, 33, .null, 2, 13, [], 4), (4, 1, .null, 1, 0, [], 5), (5, 2, .null, 0, 0, [], 6), (6, 36, .null, 4, 2, [], 9), (9, 39, .null, 0, 0, [], 10), (10, 32, .null, 2, 16, [], 13), (13, 0, .int (-2), 0, 0, [], 15),
  (15, 49, .null, 0, 0, [], 15), (16, 2, .null, 0, 0, [], 17), (17, 36, .null, 4, 2, [], 20), (20, 1, .null, 1, 0, [], 21), (21, 41, .null, 0, 0, [], 22), (22, 5, .null, 2, 0, [], 23), (23, 2, .null, 2, 0, [], 24), (24, 34, .null, 0, 30, [], 27),
  (27, 0, .int (-5), 0, 0, [], 29), (29, 49, .null, 0, 0, [], 29), (30, 2, .null, 0, 0, [], 31), (31, 36, .null, 4, 1, [], 34), (34, 2, .null, 0, 0, [], 35), (35, 36, .null, 4, 0, [], 38), (38, 52, .ref 1, 6, 1, [], 41), (41, 2, .null, 0, 0, [], 42),
  (42, 36, .null, 4, 0, [], 45), (45, 2, .null, 2, 0, [], 46), (46, 52, .ref 0, 8, 1, [], 49), (49, 2, .null, 0, 0, [], 50), (50, 36, .null, 4, 1, [], 53), (53, 2, .null, 0, 0, [], 54), (54, 36, .null, 4, 0, [], 57), (57, 52, .ref 0, 86, 0, [], 60),
  (60, 52, .ref 1, 11, 1, [], 63), (63, 49, .null, 0, 0, [], 63)]
def mtX4_restore : axM := (⟨"BeatSlugs", "restore", "(I)I"⟩, prog_1_method_30_code, 3, (some .int), 4, false, cdX4_restore)
abbrev kX4_restore : Nat := 126
set_option maxRecDepth 100000 in
theorem ckX4_restore : axCk 4 false 0 prog_1_method_30_code cdX4_restore = true := by decide +kernel
def cdX5_init : List axE := [
  (0, 2, .null, 0, 0, [], 1), (1, 55, .null, 0, 0, [], 4), (4, 2, .null, 0, 0, [], 5), (5, 0, .int 154, 0, 0, [], 8), (8, 44, .null, 0, 0, [], 10), (10, 60, .null, 5, 0, [], 13), (13, 2, .null, 0, 0, [], 14), (14, 0, .int 924, 0, 0, [], 17),
  (17, 44, .null, 0, 0, [], 19), (19, 60, .null, 5, 1, [], 22), (22, 2, .null, 0, 0, [], 23), (23, 0, .int 308, 0, 0, [], 26), (26, 44, .null, 0, 0, [], 28), (28, 60, .null, 5, 3, [], 31), (31, 2, .null, 0, 0, [], 32), (32, 0, .int 2, 0, 0, [], 33),
  (33, 44, .null, 2, 0, [], 35), (35, 60, .null, 5, 4, [], 38), (38, 2, .null, 0, 0, [], 39), (39, 0, .int 154, 0, 0, [], 42), (42, 44, .null, 0, 0, [], 44), (44, 60, .null, 5, 5, [], 47), (47, 2, .null, 0, 0, [], 48), (48, 0, .int 80, 0, 0, [], 50),
  (50, 44, .null, 0, 0, [], 52), (52, 60, .null, 5, 6, [], 55), (55, 2, .null, 0, 0, [], 56), (56, 36, .null, 5, 0, [], 59), (59, 0, .int 1, 0, 0, [], 60), (60, 0, .int 16, 0, 0, [], 62), (62, 42, .null, 0, 0, [], 63), (63, 2, .null, 0, 0, [], 64),
  (64, 36, .null, 5, 0, [], 67), (67, 0, .int 2, 0, 0, [], 68), (68, 0, .int 2, 0, 0, [], 69), (69, 42, .null, 0, 0, [], 70), (70, 2, .null, 0, 0, [], 71), (71, 36, .null, 5, 0, [], 74), (74, 0, .int 3, 0, 0, [], 75), (75, 0, .int 50, 0, 0, [], 77),
  (77, 42, .null, 0, 0, [], 78), (78, 0, .int 0, 0, 0, [], 79), (79, 4, .null, 1, 0, [], 80), (80, 1, .null, 1, 0, [], 81), (81, 0, .int 6, 0, 0, [], 83), (83, 32, .null, 3, 102, [], 86), (86, 2, .null, 0, 0, [], 87), (87, 36, .null, 5, 0, [], 90),
  (90, 0, .int 4, 0, 0, [], 91), (91, 1, .null, 1, 0, [], 92), (92, 11, .null, 0, 0, [], 93), (93, 0, .int 60, 0, 0, [], 95), (95, 42, .null, 0, 0, [], 96), (96, 6, .int 1, 1, 0, [], 99), (99, 9, .null, 0, 0, [], 80), (102, 50, .null, 0, 0, [], 102)]
def mtX5_init : axM := (⟨"BeatSlugsModel", "<init>", "()V"⟩, prog_7_method_1_code, 2, none, 5, true, cdX5_init)
abbrev kX5_init : Nat := 127
set_option maxRecDepth 100000 in
theorem ckX5_init : axCk 5 true 0 prog_7_method_1_code cdX5_init = true := by decide +kernel
def cdX5_set : List axE := [
  (0, 1, .null, 1, 0, [], 1), (1, 0, .int 0, 0, 0, [], 2), (2, 0, .int 2, 0, 0, [], 3), (3, 53, .null, 129, 3, [], 6), (6, 33, .null, 0, 17, [], 9), (9, 1, .null, 1, 0, [], 10), (10, 1, .null, 2, 0, [], 11), (11, 53, .null, 130, 2, [], 14),
  (14, 33, .null, 1, 20, [], 17), (17, 0, .int (-2), 0, 0, [], 19), (19, 49, .null, 0, 0, [], 19), (20, 2, .null, 0, 0, [], 21), (21, 2, .null, 0, 0, [], 22), (22, 36, .null, 5, 0, [], 25), (25, 52, .ref 5, 131, 1, [], 28), (28, 2, .null, 0, 0, [], 29),
  (29, 36, .null, 5, 0, [], 32), (32, 0, .int 1, 0, 0, [], 33), (33, 1, .null, 1, 0, [], 34), (34, 11, .null, 0, 0, [], 35), (35, 40, .null, 0, 0, [], 36), (36, 4, .null, 3, 0, [], 37), (37, 2, .null, 0, 0, [], 38), (38, 36, .null, 5, 0, [], 41),
  (41, 0, .int 1, 0, 0, [], 42), (42, 1, .null, 1, 0, [], 43), (43, 11, .null, 0, 0, [], 44), (44, 1, .null, 2, 0, [], 45), (45, 42, .null, 0, 0, [], 46), (46, 1, .null, 3, 0, [], 47), (47, 49, .null, 0, 0, [], 47)]
def mtX5_set : axM := (⟨"BeatSlugsModel", "set", "(II)I"⟩, prog_7_method_40_code, 4, (some .int), 5, false, cdX5_set)
abbrev kX5_set : Nat := 128
set_option maxRecDepth 100000 in
theorem ckX5_set : axCk 5 false 0 prog_7_method_40_code cdX5_set = true := by decide +kernel
def cdX5_in : List axE := [
  (0, 1, .null, 0, 0, [], 1), (1, 1, .null, 1, 0, [], 2), (2, 32, .null, 2, 14, [], 5), (5, 1, .null, 0, 0, [], 6), (6, 1, .null, 2, 0, [], 7), (7, 32, .null, 4, 14, [], 10), (10, 0, .int 1, 0, 0, [], 11), (11, 9, .null, 0, 0, [], 15),
  (14, 0, .int 0, 0, 0, [], 15), (15, 49, .null, 2, 0, [], 15)]
def mtX5_in : axM := (⟨"BeatSlugsModel", "in", "(III)Z"⟩, prog_7_method_3_code, 3, (some .boolean), 5, false, cdX5_in)
abbrev kX5_in : Nat := 129
set_option maxRecDepth 100000 in
theorem ckX5_in : axCk 5 false 2 prog_7_method_3_code cdX5_in = true := by decide +kernel
def cdX5_isValue : List axE := [
  (0, 1, .null, 0, 0, [], 1), (1, 33, .null, 1, 14, [], 4), (4, 1, .null, 1, 0, [], 5), (5, 0, .int 4, 0, 0, [], 6), (6, 0, .int 60, 0, 0, [], 8), (8, 53, .null, 129, 3, [], 11), (11, 9, .null, 0, 0, [], 36), (14, 1, .null, 0, 0, [], 15),
  (15, 0, .int 1, 0, 0, [], 16), (16, 32, .null, 1, 29, [], 19), (19, 1, .null, 1, 0, [], 20), (20, 0, .int 0, 0, 0, [], 21), (21, 0, .int 20, 0, 0, [], 23), (23, 53, .null, 129, 3, [], 26), (26, 9, .null, 0, 0, [], 36), (29, 1, .null, 1, 0, [], 30),
  (30, 0, .int 0, 0, 0, [], 31), (31, 0, .int 90, 0, 0, [], 33), (33, 53, .null, 129, 3, [], 36), (36, 49, .null, 2, 0, [], 36)]
def mtX5_isValue : axM := (⟨"BeatSlugsModel", "isValue", "(II)Z"⟩, prog_7_method_39_code, 2, (some .boolean), 5, false, cdX5_isValue)
abbrev kX5_isValue : Nat := 130
set_option maxRecDepth 100000 in
theorem ckX5_isValue : axCk 5 false 2 prog_7_method_39_code cdX5_isValue = true := by decide +kernel
def cdX5_record : List axE := [
  (0, 2, .null, 0, 0, [], 1), (1, 36, .null, 5, 2, [], 4), (4, 0, .int 6, 0, 0, [], 6), (6, 32, .null, 1, 50, [], 9), (9, 0, .int 0, 0, 0, [], 10), (10, 4, .null, 2, 0, [], 11), (11, 1, .null, 2, 0, [], 12), (12, 0, .int 770, 0, 0, [], 15),
  (15, 32, .null, 3, 40, [], 18), (18, 2, .null, 0, 0, [], 19), (19, 36, .null, 5, 1, [], 22), (22, 1, .null, 2, 0, [], 23), (23, 2, .null, 0, 0, [], 24), (24, 36, .null, 5, 1, [], 27), (27, 0, .int 154, 0, 0, [], 30), (30, 1, .null, 2, 0, [], 31),
  (31, 11, .null, 0, 0, [], 32), (32, 40, .null, 0, 0, [], 33), (33, 42, .null, 0, 0, [], 34), (34, 6, .int 1, 2, 0, [], 37), (37, 9, .null, 0, 0, [], 11), (40, 2, .null, 0, 0, [], 41), (41, 7, .null, 0, 0, [], 42), (42, 36, .null, 5, 2, [], 45),
  (45, 0, .int 1, 0, 0, [], 46), (46, 12, .null, 0, 0, [], 47), (47, 37, .null, 5, 2, [], 50), (50, 2, .null, 1, 0, [], 51), (51, 0, .int 0, 0, 0, [], 52), (52, 2, .null, 0, 0, [], 53), (53, 36, .null, 5, 1, [], 56), (56, 0, .int 154, 0, 0, [], 59),
  (59, 2, .null, 0, 0, [], 60), (60, 36, .null, 5, 2, [], 63), (63, 13, .null, 0, 0, [], 64), (64, 53, .null, 132, 4, [], 67), (67, 2, .null, 0, 0, [], 68), (68, 7, .null, 0, 0, [], 69), (69, 36, .null, 5, 2, [], 72), (72, 0, .int 1, 0, 0, [], 73),
  (73, 11, .null, 0, 0, [], 74), (74, 37, .null, 5, 2, [], 77), (77, 50, .null, 0, 0, [], 77)]
def mtX5_record : axM := (⟨"BeatSlugsModel", "record", "([I)V"⟩, prog_7_method_10_code, 3, none, 5, false, cdX5_record)
abbrev kX5_record : Nat := 131
set_option maxRecDepth 100000 in
theorem ckX5_record : axCk 5 false 0 prog_7_method_10_code cdX5_record = true := by decide +kernel
def cdX5_copy : List axE := [
  (0, 0, .int 0, 0, 0, [], 1), (1, 4, .null, 4, 0, [], 3), (3, 1, .null, 4, 0, [], 5), (5, 0, .int 154, 0, 0, [], 8), (8, 32, .null, 3, 29, [], 11), (11, 2, .null, 2, 0, [], 12), (12, 1, .null, 3, 0, [], 13), (13, 1, .null, 4, 0, [], 15),
  (15, 11, .null, 0, 0, [], 16), (16, 2, .null, 0, 0, [], 17), (17, 1, .null, 1, 0, [], 18), (18, 1, .null, 4, 0, [], 20), (20, 11, .null, 0, 0, [], 21), (21, 40, .null, 0, 0, [], 22), (22, 42, .null, 0, 0, [], 23), (23, 6, .int 1, 4, 0, [], 26),
  (26, 9, .null, 0, 0, [], 3), (29, 50, .null, 0, 0, [], 29)]
def mtX5_copy : axM := (⟨"BeatSlugsModel", "copy", "([II[II)V"⟩, prog_7_method_9_code, 5, none, 5, false, cdX5_copy)
abbrev kX5_copy : Nat := 132
set_option maxRecDepth 100000 in
theorem ckX5_copy : axCk 5 false 0 prog_7_method_9_code cdX5_copy = true := by decide +kernel
def cdX5_target : List axE := [
  (0, 1, .null, 1, 0, [], 1), (1, 0, .int 0, 0, 0, [], 2), (2, 0, .int 5, 0, 0, [], 3), (3, 53, .null, 129, 3, [], 6), (6, 33, .null, 1, 11, [], 9), (9, 0, .int (-1), 0, 0, [], 10), (10, 49, .null, 0, 0, [], 10), (11, 1, .null, 2, 0, [], 12),
  (12, 0, .int 1, 0, 0, [], 13), (13, 0, .int 999, 0, 0, [], 16), (16, 53, .null, 129, 3, [], 19), (19, 33, .null, 1, 25, [], 22), (22, 0, .int (-2), 0, 0, [], 24), (24, 49, .null, 0, 0, [], 24), (25, 2, .null, 0, 0, [], 26), (26, 2, .null, 0, 0, [], 27),
  (27, 36, .null, 5, 0, [], 30), (30, 52, .ref 5, 131, 1, [], 33), (33, 2, .null, 0, 0, [], 34), (34, 36, .null, 5, 0, [], 37), (37, 0, .int 4, 0, 0, [], 38), (38, 1, .null, 1, 0, [], 39), (39, 11, .null, 0, 0, [], 40), (40, 40, .null, 0, 0, [], 41),
  (41, 4, .null, 3, 0, [], 42), (42, 2, .null, 0, 0, [], 43), (43, 36, .null, 5, 0, [], 46), (46, 0, .int 4, 0, 0, [], 47), (47, 1, .null, 1, 0, [], 48), (48, 11, .null, 0, 0, [], 49), (49, 1, .null, 2, 0, [], 50), (50, 42, .null, 0, 0, [], 51),
  (51, 1, .null, 3, 0, [], 52), (52, 49, .null, 0, 0, [], 52)]
def mtX5_target : axM := (⟨"BeatSlugsModel", "target", "(II)I"⟩, prog_7_method_41_code, 4, (some .int), 5, false, cdX5_target)
abbrev kX5_target : Nat := 133
set_option maxRecDepth 100000 in
theorem ckX5_target : axCk 5 false 0 prog_7_method_41_code cdX5_target = true := by decide +kernel
def cdX5_slug : List axE := [
  (0, 2, .null, 0, 0, [], 1), (1, 52, .ref 5, 135, 0, [], 4), (4, 2, .null, 0, 0, [], 5), (5, 2, .null, 0, 0, [], 6), (6, 1, .null, 1, 0, [], 7), (7, 1, .null, 2, 0, [], 8), (8, 1, .null, 3, 0, [], 9), (9, 52, .ref 5, 136, 3, [], 12),
  (12, 52, .ref 5, 141, 1, [], 15), (15, 49, .null, 0, 0, [], 15)]
def mtX5_slug : axM := (⟨"BeatSlugsModel", "slug", "(III)I"⟩, prog_7_method_42_code, 4, (some .int), 5, false, cdX5_slug)
abbrev kX5_slug : Nat := 134
set_option maxRecDepth 100000 in
theorem ckX5_slug : axCk 5 false 0 prog_7_method_42_code cdX5_slug = true := by decide +kernel
def cdX5_begins : List axE := [
  (0, 2, .null, 0, 0, [], 1), (1, 36, .null, 5, 0, [], 4), (4, 0, .int 0, 0, 0, [], 5), (5, 2, .null, 0, 0, [], 6), (6, 36, .null, 5, 5, [], 9), (9, 0, .int 0, 0, 0, [], 10), (10, 53, .null, 132, 4, [], 13), (13, 50, .null, 0, 0, [], 13)]
def mtX5_begins : axM := (⟨"BeatSlugsModel", "begins", "()V"⟩, prog_7_method_37_code, 1, none, 5, false, cdX5_begins)
abbrev kX5_begins : Nat := 135
set_option maxRecDepth 100000 in
theorem ckX5_begins : axCk 5 false 0 prog_7_method_37_code cdX5_begins = true := by decide +kernel
def cdX5_doSlug : List axE := [
  (0, 1, .null, 1, 0, [], 1), (1, 0, .int 0, 0, 0, [], 2), (2, 2, .null, 0, 0, [], 3), (3, 36, .null, 5, 0, [], 6), (6, 0, .int 0, 0, 0, [], 7), (7, 40, .null, 0, 0, [], 8), (8, 53, .null, 129, 3, [], 11), (11, 33, .null, 1, 16, [], 14),
  (14, 0, .int (-1), 0, 0, [], 15), (15, 49, .null, 0, 0, [], 15), (16, 1, .null, 2, 0, [], 17), (17, 0, .int 1, 0, 0, [], 18), (18, 0, .int 99, 0, 0, [], 20), (20, 53, .null, 129, 3, [], 23), (23, 33, .null, 0, 35, [], 26), (26, 1, .null, 3, 0, [], 27),
  (27, 0, .int 0, 0, 0, [], 28), (28, 0, .int 1, 0, 0, [], 29), (29, 53, .null, 129, 3, [], 32), (32, 33, .null, 1, 38, [], 35), (35, 0, .int (-2), 0, 0, [], 37), (37, 49, .null, 0, 0, [], 37), (38, 2, .null, 0, 0, [], 39), (39, 36, .null, 5, 0, [], 42),
  (42, 0, .int 0, 0, 0, [], 43), (43, 40, .null, 0, 0, [], 44), (44, 0, .int 24, 0, 0, [], 46), (46, 32, .null, 1, 52, [], 49), (49, 0, .int (-4), 0, 0, [], 51), (51, 49, .null, 0, 0, [], 51), (52, 2, .null, 0, 0, [], 53), (53, 52, .ref 5, 137, 0, [], 56),
  (56, 4, .null, 4, 0, [], 58), (58, 2, .null, 0, 0, [], 59), (59, 1, .null, 4, 0, [], 61), (61, 0, .int 0, 0, 0, [], 62), (62, 0, .int 1, 0, 0, [], 63), (63, 52, .ref 5, 139, 3, [], 66), (66, 2, .null, 0, 0, [], 67), (67, 1, .null, 4, 0, [], 69),
  (69, 0, .int 1, 0, 0, [], 70), (70, 1, .null, 2, 0, [], 71), (71, 52, .ref 5, 139, 3, [], 74), (74, 2, .null, 0, 0, [], 75), (75, 1, .null, 4, 0, [], 77), (77, 0, .int 2, 0, 0, [], 78), (78, 1, .null, 2, 0, [], 79), (79, 52, .ref 5, 139, 3, [], 82),
  (82, 2, .null, 0, 0, [], 83), (83, 1, .null, 4, 0, [], 85), (85, 0, .int 3, 0, 0, [], 86), (86, 1, .null, 3, 0, [], 87), (87, 52, .ref 5, 139, 3, [], 90), (90, 2, .null, 0, 0, [], 91), (91, 1, .null, 4, 0, [], 93), (93, 0, .int 4, 0, 0, [], 94),
  (94, 0, .int 0, 0, 0, [], 95), (95, 52, .ref 5, 139, 3, [], 98), (98, 2, .null, 0, 0, [], 99), (99, 1, .null, 1, 0, [], 100), (100, 1, .null, 4, 0, [], 102), (102, 52, .ref 5, 140, 2, [], 105), (105, 1, .null, 4, 0, [], 107), (107, 49, .null, 0, 0, [], 107)]
def mtX5_doSlug : axM := (⟨"BeatSlugsModel", "doSlug", "(III)I"⟩, prog_7_method_30_code, 5, (some .int), 5, false, cdX5_doSlug)
abbrev kX5_doSlug : Nat := 136
set_option maxRecDepth 100000 in
theorem ckX5_doSlug : axCk 5 false 0 prog_7_method_30_code cdX5_doSlug = true := by decide +kernel
def cdX5_freeNumber : List axE := [
  (0, 0, .int 0, 0, 0, [], 1), (1, 4, .null, 1, 0, [], 2), (2, 2, .null, 0, 0, [], 3), (3, 1, .null, 1, 0, [], 4), (4, 0, .int 0, 0, 0, [], 5), (5, 52, .ref 5, 138, 2, [], 8), (8, 0, .int 1, 0, 0, [], 9), (9, 32, .null, 1, 18, [], 12),
  (12, 6, .int 1, 1, 0, [], 15), (15, 9, .null, 0, 0, [], 2), (18, 1, .null, 1, 0, [], 19), (19, 49, .null, 0, 0, [], 19)]
def mtX5_freeNumber : axM := (⟨"BeatSlugsModel", "freeNumber", "()I"⟩, prog_7_method_18_code, 2, (some .int), 5, false, cdX5_freeNumber)
abbrev kX5_freeNumber : Nat := 137
set_option maxRecDepth 100000 in
theorem ckX5_freeNumber : axCk 5 false 0 prog_7_method_18_code cdX5_freeNumber = true := by decide +kernel
def cdX5_get : List axE := [
  (0, 2, .null, 0, 0, [], 1), (1, 36, .null, 5, 0, [], 4), (4, 0, .int 34, 0, 0, [], 6), (6, 0, .int 5, 0, 0, [], 7), (7, 1, .null, 1, 0, [], 8), (8, 13, .null, 0, 0, [], 9), (9, 11, .null, 0, 0, [], 10), (10, 1, .null, 2, 0, [], 11),
  (11, 11, .null, 0, 0, [], 12), (12, 40, .null, 0, 0, [], 13), (13, 49, .null, 0, 0, [], 13)]
def mtX5_get : axM := (⟨"BeatSlugsModel", "get", "(II)I"⟩, prog_7_method_6_code, 3, (some .int), 5, false, cdX5_get)
abbrev kX5_get : Nat := 138
set_option maxRecDepth 100000 in
theorem ckX5_get : axCk 5 false 0 prog_7_method_6_code cdX5_get = true := by decide +kernel
def cdX5_lay : List axE := [
  (0, 2, .null, 0, 0, [], 1), (1, 36, .null, 5, 0, [], 4), (4, 0, .int 34, 0, 0, [], 6), (6, 0, .int 5, 0, 0, [], 7), (7, 1, .null, 1, 0, [], 8), (8, 13, .null, 0, 0, [], 9), (9, 11, .null, 0, 0, [], 10), (10, 1, .null, 2, 0, [], 11),
  (11, 11, .null, 0, 0, [], 12), (12, 1, .null, 3, 0, [], 13), (13, 42, .null, 0, 0, [], 14), (14, 50, .null, 0, 0, [], 14)]
def mtX5_lay : axM := (⟨"BeatSlugsModel", "lay", "(III)V"⟩, prog_7_method_7_code, 4, none, 5, false, cdX5_lay)
abbrev kX5_lay : Nat := 139
set_option maxRecDepth 100000 in
theorem ckX5_lay : axCk 5 false 0 prog_7_method_7_code cdX5_lay = true := by decide +kernel
