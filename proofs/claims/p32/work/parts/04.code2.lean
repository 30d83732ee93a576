/-! The code of the methods as rows of the abstract machine. Written by wip/p32/gen2.py. -/
def cdX4_at : List axE := [
  (0, 2, .null, 0, 0, [], 1), (1, 36, .null, 4, 0, [], 4), (4, 1, .null, 1, 0, [], 5), (5, 52, .ref 0, 13, 1, [], 8), (8, 49, .null, 0, 0, [], 8)]
def mtX4_at : axM := (⟨"BeatSlugs", "at", "(I)I"⟩, prog_1_method_15_code, 2, (some .int), 4, false, cdX4_at)
abbrev kX4_at : Nat := 40
set_option maxRecDepth 100000 in
theorem ckX4_at : axCk 4 false 0 prog_1_method_15_code cdX4_at = true := by decide +kernel
def cdX4_of : List axE := [
  (0, 2, .null, 0, 0, [], 1), (1, 36, .null, 4, 0, [], 4), (4, 1, .null, 1, 0, [], 5), (5, 52, .ref 0, 42, 1, [], 8), (8, 33, .null, 1, 13, [], 11), (11, 0, .int (-1), 0, 0, [], 12), (12, 49, .null, 0, 0, [], 12), (13, 2, .null, 0, 0, [], 14),
  (14, 36, .null, 4, 0, [], 17), (17, 1, .null, 1, 0, [], 18), (18, 52, .ref 0, 43, 1, [], 21), (21, 4, .null, 3, 0, [], 22), (22, 1, .null, 2, 0, [], 23), (23, 35, .null, 0, 177, [(0, 76), (1, 78), (2, 87), (3, 96), (4, 113), (5, 122), (6, 131), (7, 141), (8, 159), (9, 168)], 23), (76, 1, .null, 3, 0, [], 77), (77, 49, .null, 0, 0, [], 77),
  (78, 2, .null, 0, 0, [], 79), (79, 36, .null, 4, 0, [], 82), (82, 1, .null, 1, 0, [], 83), (83, 52, .ref 0, 44, 1, [], 86), (86, 49, .null, 0, 0, [], 86), (87, 2, .null, 0, 0, [], 88), (88, 36, .null, 4, 0, [], 91), (91, 1, .null, 1, 0, [], 92),
  (92, 52, .ref 0, 45, 1, [], 95), (95, 49, .null, 0, 0, [], 95), (96, 2, .null, 0, 0, [], 97), (97, 36, .null, 4, 0, [], 100), (100, 1, .null, 1, 0, [], 101), (101, 52, .ref 0, 46, 1, [], 104), (104, 33, .null, 0, 111, [], 107), (107, 0, .int 1, 0, 0, [], 108),
  (108, 9, .null, 0, 0, [], 112), (111, 0, .int 0, 0, 0, [], 112), (112, 49, .null, 0, 0, [], 112), (113, 2, .null, 0, 0, [], 114), (114, 36, .null, 4, 0, [], 117), (117, 1, .null, 1, 0, [], 118), (118, 52, .ref 0, 18, 1, [], 121), (121, 49, .null, 0, 0, [], 121),
  (122, 2, .null, 0, 0, [], 123), (123, 36, .null, 4, 0, [], 126), (126, 1, .null, 1, 0, [], 127), (127, 52, .ref 0, 47, 1, [], 130), (130, 49, .null, 0, 0, [], 130), (131, 2, .null, 0, 0, [], 132), (132, 36, .null, 4, 0, [], 135), (135, 0, .int 0, 0, 0, [], 136),
  (136, 1, .null, 3, 0, [], 137), (137, 52, .ref 0, 33, 2, [], 140), (140, 49, .null, 0, 0, [], 140), (141, 2, .null, 0, 0, [], 142), (142, 36, .null, 4, 0, [], 145), (145, 0, .int 0, 0, 0, [], 146), (146, 1, .null, 3, 0, [], 147), (147, 52, .ref 0, 33, 2, [], 150),
  (150, 2, .null, 0, 0, [], 151), (151, 36, .null, 4, 0, [], 154), (154, 52, .ref 0, 49, 0, [], 157), (157, 47, .null, 0, 0, [], 158), (158, 49, .null, 0, 0, [], 158), (159, 2, .null, 0, 0, [], 160), (160, 36, .null, 4, 0, [], 163), (163, 1, .null, 3, 0, [], 164),
  (164, 52, .ref 0, 50, 1, [], 167), (167, 49, .null, 0, 0, [], 167), (168, 2, .null, 0, 0, [], 169), (169, 36, .null, 4, 0, [], 172), (172, 1, .null, 1, 0, [], 173), (173, 52, .ref 0, 35, 1, [], 176), (176, 49, .null, 0, 0, [], 176), (177, 0, .int (-2), 0, 0, [], 179),
  (179, 49, .null, 0, 0, [], 179)]
def mtX4_of : axM := (⟨"BeatSlugs", "of", "(II)I"⟩, prog_1_method_14_code, 4, (some .int), 4, false, cdX4_of)
abbrev kX4_of : Nat := 41
set_option maxRecDepth 100000 in
theorem ckX4_of : axCk 4 false 0 prog_1_method_14_code cdX4_of = true := by decide +kernel
def cdX0_has : List axE := [
  (0, 2, .null, 0, 0, [], 1), (1, 36, .null, 0, 6, [], 4), (4, 1, .null, 1, 0, [], 5), (5, 53, .null, 10, 2, [], 8), (8, 49, .null, 2, 0, [], 8)]
def mtX0_has : axM := (⟨"BeatSlugs$Board", "has", "(I)Z"⟩, prog_2_method_26_code, 2, (some .boolean), 0, false, cdX0_has)
abbrev kX0_has : Nat := 42
set_option maxRecDepth 100000 in
theorem ckX0_has : axCk 0 false 2 prog_2_method_26_code cdX0_has = true := by decide +kernel
def cdX0_placeOf : List axE := [
  (0, 0, .int 0, 0, 0, [], 1), (1, 4, .null, 2, 0, [], 2), (2, 1, .null, 2, 0, [], 3), (3, 2, .null, 0, 0, [], 4), (4, 36, .null, 0, 8, [], 7), (7, 32, .null, 3, 30, [], 10), (10, 2, .null, 0, 0, [], 11), (11, 36, .null, 0, 2, [], 14),
  (14, 1, .null, 2, 0, [], 15), (15, 53, .null, 9, 2, [], 18), (18, 1, .null, 1, 0, [], 19), (19, 32, .null, 1, 24, [], 22), (22, 1, .null, 2, 0, [], 23), (23, 49, .null, 0, 0, [], 23), (24, 6, .int 1, 2, 0, [], 27), (27, 9, .null, 0, 0, [], 2),
  (30, 0, .int (-1), 0, 0, [], 31), (31, 49, .null, 0, 0, [], 31)]
def mtX0_placeOf : axM := (⟨"BeatSlugs$Board", "placeOf", "(I)I"⟩, prog_2_method_28_code, 3, (some .int), 0, false, cdX0_placeOf)
abbrev kX0_placeOf : Nat := 43
set_option maxRecDepth 100000 in
theorem ckX0_placeOf : axCk 0 false 0 prog_2_method_28_code cdX0_placeOf = true := by decide +kernel
def cdX0_writtenOf : List axE := [
  (0, 2, .null, 0, 0, [], 1), (1, 36, .null, 0, 3, [], 4), (4, 1, .null, 1, 0, [], 5), (5, 53, .null, 9, 2, [], 8), (8, 49, .null, 0, 0, [], 8)]
def mtX0_writtenOf : axM := (⟨"BeatSlugs$Board", "writtenOf", "(I)I"⟩, prog_2_method_29_code, 2, (some .int), 0, false, cdX0_writtenOf)
abbrev kX0_writtenOf : Nat := 44
set_option maxRecDepth 100000 in
theorem ckX0_writtenOf : axCk 0 false 0 prog_2_method_29_code cdX0_writtenOf = true := by decide +kernel
def cdX0_beatsOf : List axE := [
  (0, 2, .null, 0, 0, [], 1), (1, 36, .null, 0, 4, [], 4), (4, 1, .null, 1, 0, [], 5), (5, 53, .null, 9, 2, [], 8), (8, 49, .null, 0, 0, [], 8)]
def mtX0_beatsOf : axM := (⟨"BeatSlugs$Board", "beatsOf", "(I)I"⟩, prog_2_method_30_code, 2, (some .int), 0, false, cdX0_beatsOf)
abbrev kX0_beatsOf : Nat := 45
set_option maxRecDepth 100000 in
theorem ckX0_beatsOf : axCk 0 false 0 prog_2_method_30_code cdX0_beatsOf = true := by decide +kernel
def cdX0_isTurn : List axE := [
  (0, 2, .null, 0, 0, [], 1), (1, 36, .null, 0, 7, [], 4), (4, 1, .null, 1, 0, [], 5), (5, 53, .null, 10, 2, [], 8), (8, 49, .null, 2, 0, [], 8)]
def mtX0_isTurn : axM := (⟨"BeatSlugs$Board", "isTurn", "(I)Z"⟩, prog_2_method_31_code, 2, (some .boolean), 0, false, cdX0_isTurn)
abbrev kX0_isTurn : Nat := 46
set_option maxRecDepth 100000 in
theorem ckX0_isTurn : axCk 0 false 2 prog_2_method_31_code cdX0_isTurn = true := by decide +kernel
def cdX0_needersOf : List axE := [
  (0, 0, .int 0, 0, 0, [], 1), (1, 4, .null, 2, 0, [], 2), (2, 0, .int 0, 0, 0, [], 3), (3, 4, .null, 3, 0, [], 4), (4, 1, .null, 3, 0, [], 5), (5, 2, .null, 0, 0, [], 6), (6, 36, .null, 0, 8, [], 9), (9, 32, .null, 3, 49, [], 12),
  (12, 2, .null, 0, 0, [], 13), (13, 36, .null, 0, 2, [], 16), (16, 1, .null, 3, 0, [], 17), (17, 53, .null, 9, 2, [], 20), (20, 4, .null, 4, 0, [], 22), (22, 2, .null, 0, 0, [], 23), (23, 1, .null, 4, 0, [], 25), (25, 52, .ref 0, 18, 1, [], 28),
  (28, 1, .null, 1, 0, [], 29), (29, 53, .null, 10, 2, [], 32), (32, 33, .null, 0, 43, [], 35), (35, 1, .null, 2, 0, [], 36), (36, 1, .null, 4, 0, [], 38), (38, 53, .null, 48, 1, [], 41), (41, 15, .null, 0, 0, [], 42), (42, 4, .null, 2, 0, [], 43),
  (43, 6, .int 1, 3, 0, [], 46), (46, 9, .null, 0, 0, [], 4), (49, 1, .null, 2, 0, [], 50), (50, 49, .null, 0, 0, [], 50)]
def mtX0_needersOf : axM := (⟨"BeatSlugs$Board", "needersOf", "(I)I"⟩, prog_2_method_35_code, 5, (some .int), 0, false, cdX0_needersOf)
abbrev kX0_needersOf : Nat := 47
set_option maxRecDepth 100000 in
theorem ckX0_needersOf : axCk 0 false 0 prog_2_method_35_code cdX0_needersOf = true := by decide +kernel
def cdX4_bit : List axE := [
  (0, 1, .null, 0, 0, [], 1), (1, 33, .null, 2, 16, [], 4), (4, 1, .null, 0, 0, [], 5), (5, 0, .int 24, 0, 0, [], 7), (7, 32, .null, 3, 16, [], 10), (10, 0, .int 1, 0, 0, [], 11), (11, 1, .null, 0, 0, [], 12), (12, 17, .null, 0, 0, [], 13),
  (13, 9, .null, 0, 0, [], 17), (16, 0, .int 0, 0, 0, [], 17), (17, 49, .null, 0, 0, [], 17)]
def mtX4_bit : axM := (⟨"BeatSlugs", "bit", "(I)I"⟩, prog_1_method_35_code, 1, (some .int), 4, false, cdX4_bit)
abbrev kX4_bit : Nat := 48
set_option maxRecDepth 100000 in
theorem ckX4_bit : axCk 4 false 0 prog_1_method_35_code cdX4_bit = true := by decide +kernel
def cdX0_pageBeats : List axE := [
  (0, 0, .int 1, 0, 0, [], 1), (1, 2, .null, 0, 0, [], 2), (2, 0, .int 0, 0, 0, [], 3), (3, 52, .ref 0, 36, 1, [], 6), (6, 57, .null, 0, 0, [], 9), (9, 49, .null, 0, 0, [], 9)]
def mtX0_pageBeats : axM := (⟨"BeatSlugs$Board", "pageBeats", "()I"⟩, prog_2_method_22_code, 1, (some .int), 0, false, cdX0_pageBeats)
abbrev kX0_pageBeats : Nat := 49
set_option maxRecDepth 100000 in
theorem ckX0_pageBeats : axCk 0 false 0 prog_2_method_22_code cdX0_pageBeats = true := by decide +kernel
def cdX0_turnsAhead : List axE := [
  (0, 0, .int 0, 0, 0, [], 1), (1, 4, .null, 2, 0, [], 2), (2, 0, .int 0, 0, 0, [], 3), (3, 4, .null, 3, 0, [], 4), (4, 1, .null, 3, 0, [], 5), (5, 1, .null, 1, 0, [], 6), (6, 32, .null, 3, 36, [], 9), (9, 2, .null, 0, 0, [], 10),
  (10, 36, .null, 0, 7, [], 13), (13, 2, .null, 0, 0, [], 14), (14, 36, .null, 0, 2, [], 17), (17, 1, .null, 3, 0, [], 18), (18, 53, .null, 9, 2, [], 21), (21, 53, .null, 10, 2, [], 24), (24, 33, .null, 0, 30, [], 27), (27, 6, .int 1, 2, 0, [], 30),
  (30, 6, .int 1, 3, 0, [], 33), (33, 9, .null, 0, 0, [], 4), (36, 1, .null, 2, 0, [], 37), (37, 49, .null, 0, 0, [], 37)]
def mtX0_turnsAhead : axM := (⟨"BeatSlugs$Board", "turnsAhead", "(I)I"⟩, prog_2_method_44_code, 4, (some .int), 0, false, cdX0_turnsAhead)
abbrev kX0_turnsAhead : Nat := 50
set_option maxRecDepth 100000 in
theorem ckX0_turnsAhead : axCk 0 false 0 prog_2_method_44_code cdX0_turnsAhead = true := by decide +kernel
def cdX4_needs : List axE := [
  (0, 2, .null, 0, 0, [], 1), (1, 36, .null, 4, 0, [], 4), (4, 1, .null, 1, 0, [], 5), (5, 52, .ref 0, 42, 1, [], 8), (8, 33, .null, 0, 22, [], 11), (11, 2, .null, 0, 0, [], 12), (12, 36, .null, 4, 0, [], 15), (15, 1, .null, 1, 0, [], 16),
  (16, 52, .ref 0, 52, 1, [], 19), (19, 9, .null, 0, 0, [], 23), (22, 0, .int (-1), 0, 0, [], 23), (23, 49, .null, 0, 0, [], 23)]
def mtX4_needs : axM := (⟨"BeatSlugs", "needs", "(I)I"⟩, prog_1_method_23_code, 2, (some .int), 4, false, cdX4_needs)
abbrev kX4_needs : Nat := 51
set_option maxRecDepth 100000 in
theorem ckX4_needs : axCk 4 false 0 prog_1_method_23_code cdX4_needs = true := by decide +kernel
def cdX0_allNeedsOf : List axE := [
  (0, 2, .null, 0, 0, [], 1), (1, 1, .null, 1, 0, [], 2), (2, 52, .ref 0, 18, 1, [], 5), (5, 4, .null, 2, 0, [], 6), (6, 2, .null, 0, 0, [], 7), (7, 36, .null, 0, 8, [], 10), (10, 0, .int 1, 0, 0, [], 11), (11, 12, .null, 0, 0, [], 12),
  (12, 4, .null, 3, 0, [], 13), (13, 1, .null, 3, 0, [], 14), (14, 33, .null, 2, 51, [], 17), (17, 2, .null, 0, 0, [], 18), (18, 36, .null, 0, 2, [], 21), (21, 1, .null, 3, 0, [], 22), (22, 53, .null, 9, 2, [], 25), (25, 4, .null, 4, 0, [], 27),
  (27, 1, .null, 2, 0, [], 28), (28, 1, .null, 4, 0, [], 30), (30, 53, .null, 10, 2, [], 33), (33, 33, .null, 0, 45, [], 36), (36, 1, .null, 2, 0, [], 37), (37, 2, .null, 0, 0, [], 38), (38, 1, .null, 4, 0, [], 40), (40, 52, .ref 0, 18, 1, [], 43),
  (43, 15, .null, 0, 0, [], 44), (44, 4, .null, 2, 0, [], 45), (45, 6, .int (-1), 3, 0, [], 48), (48, 9, .null, 0, 0, [], 13), (51, 1, .null, 2, 0, [], 52), (52, 49, .null, 0, 0, [], 52)]
def mtX0_allNeedsOf : axM := (⟨"BeatSlugs$Board", "allNeedsOf", "(I)I"⟩, prog_2_method_36_code, 5, (some .int), 0, false, cdX0_allNeedsOf)
abbrev kX0_allNeedsOf : Nat := 52
set_option maxRecDepth 100000 in
theorem ckX0_allNeedsOf : axCk 0 false 0 prog_2_method_36_code cdX0_allNeedsOf = true := by decide +kernel
def cdX4_atBeat : List axE := [
  (0, 1, .null, 1, 0, [], 1), (1, 33, .null, 3, 9, [], 4), (4, 0, .int (-2), 0, 0, [], 6), (6, 9, .null, 0, 0, [], 17), (9, 2, .null, 0, 0, [], 10), (10, 36, .null, 4, 0, [], 13), (13, 1, .null, 1, 0, [], 14), (14, 52, .ref 0, 54, 1, [], 17),
  (17, 49, .null, 0, 0, [], 17)]
def mtX4_atBeat : axM := (⟨"BeatSlugs", "atBeat", "(I)I"⟩, prog_1_method_16_code, 2, (some .int), 4, false, cdX4_atBeat)
abbrev kX4_atBeat : Nat := 53
set_option maxRecDepth 100000 in
theorem ckX4_atBeat : axCk 4 false 0 prog_1_method_16_code cdX4_atBeat = true := by decide +kernel
def cdX0_slugAtBeat : List axE := [
  (0, 0, .int 0, 0, 0, [], 1), (1, 4, .null, 2, 0, [], 2), (2, 0, .int 0, 0, 0, [], 3), (3, 4, .null, 3, 0, [], 4), (4, 1, .null, 3, 0, [], 5), (5, 2, .null, 0, 0, [], 6), (6, 36, .null, 0, 8, [], 9), (9, 32, .null, 3, 45, [], 12),
  (12, 2, .null, 0, 0, [], 13), (13, 36, .null, 0, 2, [], 16), (16, 1, .null, 3, 0, [], 17), (17, 53, .null, 9, 2, [], 20), (20, 4, .null, 4, 0, [], 22), (22, 1, .null, 2, 0, [], 23), (23, 2, .null, 0, 0, [], 24), (24, 1, .null, 4, 0, [], 26),
  (26, 52, .ref 0, 45, 1, [], 29), (29, 11, .null, 0, 0, [], 30), (30, 4, .null, 2, 0, [], 31), (31, 1, .null, 1, 0, [], 32), (32, 1, .null, 2, 0, [], 33), (33, 32, .null, 3, 39, [], 36), (36, 1, .null, 4, 0, [], 38), (38, 49, .null, 0, 0, [], 38),
  (39, 6, .int 1, 3, 0, [], 42), (42, 9, .null, 0, 0, [], 4), (45, 0, .int (-6), 0, 0, [], 47), (47, 49, .null, 0, 0, [], 47)]
def mtX0_slugAtBeat : axM := (⟨"BeatSlugs$Board", "slugAtBeat", "(I)I"⟩, prog_2_method_43_code, 5, (some .int), 0, false, cdX0_slugAtBeat)
abbrev kX0_slugAtBeat : Nat := 54
set_option maxRecDepth 100000 in
theorem ckX0_slugAtBeat : axCk 0 false 0 prog_2_method_43_code cdX0_slugAtBeat = true := by decide +kernel
def cdX4_places : List axE := [
  (0, 2, .null, 0, 0, [], 1), (1, 36, .null, 4, 0, [], 4), (4, 1, .null, 1, 0, [], 5), (5, 52, .ref 0, 42, 1, [], 8), (8, 33, .null, 1, 13, [], 11), (11, 0, .int (-1), 0, 0, [], 12), (12, 49, .null, 0, 0, [], 12), (13, 0, .int 0, 0, 0, [], 14),
  (14, 4, .null, 2, 0, [], 15), (15, 2, .null, 0, 0, [], 16), (16, 36, .null, 4, 0, [], 19), (19, 1, .null, 1, 0, [], 20), (20, 52, .ref 0, 16, 1, [], 23), (23, 4, .null, 3, 0, [], 24), (24, 2, .null, 0, 0, [], 25), (25, 36, .null, 4, 0, [], 28),
  (28, 1, .null, 1, 0, [], 29), (29, 52, .ref 0, 17, 1, [], 32), (32, 4, .null, 4, 0, [], 34), (34, 1, .null, 4, 0, [], 36), (36, 1, .null, 3, 0, [], 37), (37, 32, .null, 4, 54, [], 40), (40, 1, .null, 2, 0, [], 41), (41, 1, .null, 4, 0, [], 43),
  (43, 53, .null, 48, 1, [], 46), (46, 15, .null, 0, 0, [], 47), (47, 4, .null, 2, 0, [], 48), (48, 6, .int 1, 4, 0, [], 51), (51, 9, .null, 0, 0, [], 34), (54, 1, .null, 2, 0, [], 55), (55, 49, .null, 0, 0, [], 55)]
def mtX4_places : axM := (⟨"BeatSlugs", "places", "(I)I"⟩, prog_1_method_19_code, 5, (some .int), 4, false, cdX4_places)
abbrev kX4_places : Nat := 55
set_option maxRecDepth 100000 in
theorem ckX4_places : axCk 4 false 0 prog_1_method_19_code cdX4_places = true := by decide +kernel
def cdX4_count : List axE := [
  (0, 1, .null, 1, 0, [], 1), (1, 35, .null, 0, 181, [(0, 64), (1, 72), (2, 80), (3, 88), (4, 114), (5, 122), (6, 130), (7, 138), (8, 147), (9, 156), (10, 165), (11, 173)], 1), (64, 2, .null, 0, 0, [], 65), (65, 36, .null, 4, 0, [], 68), (68, 52, .ref 0, 57, 0, [], 71), (71, 49, .null, 0, 0, [], 71), (72, 2, .null, 0, 0, [], 73), (73, 36, .null, 4, 0, [], 76),
  (76, 52, .ref 0, 29, 0, [], 79), (79, 49, .null, 0, 0, [], 79), (80, 2, .null, 0, 0, [], 81), (81, 36, .null, 4, 0, [], 84), (84, 52, .ref 0, 58, 0, [], 87), (87, 49, .null, 0, 0, [], 87), (88, 2, .null, 0, 0, [], 89), (89, 36, .null, 4, 0, [], 92),
  (92, 52, .ref 0, 58, 0, [], 95), (95, 2, .null, 0, 0, [], 96), (96, 36, .null, 4, 0, [], 99), (99, 52, .ref 0, 49, 0, [], 102), (102, 11, .null, 0, 0, [], 103), (103, 0, .int 1, 0, 0, [], 104), (104, 12, .null, 0, 0, [], 105), (105, 2, .null, 0, 0, [], 106),
  (106, 36, .null, 4, 0, [], 109), (109, 52, .ref 0, 49, 0, [], 112), (112, 47, .null, 0, 0, [], 113), (113, 49, .null, 0, 0, [], 113), (114, 2, .null, 0, 0, [], 115), (115, 36, .null, 4, 0, [], 118), (118, 52, .ref 0, 7, 0, [], 121), (121, 49, .null, 0, 0, [], 121),
  (122, 2, .null, 0, 0, [], 123), (123, 36, .null, 4, 0, [], 126), (126, 52, .ref 0, 59, 0, [], 129), (129, 49, .null, 0, 0, [], 129), (130, 2, .null, 0, 0, [], 131), (131, 36, .null, 4, 0, [], 134), (134, 52, .ref 0, 62, 0, [], 137), (137, 49, .null, 0, 0, [], 137),
  (138, 2, .null, 0, 0, [], 139), (139, 36, .null, 4, 0, [], 142), (142, 0, .int 0, 0, 0, [], 143), (143, 52, .ref 0, 36, 1, [], 146), (146, 49, .null, 0, 0, [], 146), (147, 2, .null, 0, 0, [], 148), (148, 36, .null, 4, 0, [], 151), (151, 0, .int 1, 0, 0, [], 152),
  (152, 52, .ref 0, 36, 1, [], 155), (155, 49, .null, 0, 0, [], 155), (156, 2, .null, 0, 0, [], 157), (157, 36, .null, 4, 0, [], 160), (160, 0, .int 2, 0, 0, [], 161), (161, 52, .ref 0, 36, 1, [], 164), (164, 49, .null, 0, 0, [], 164), (165, 2, .null, 0, 0, [], 166),
  (166, 36, .null, 4, 3, [], 169), (169, 52, .ref 2, 63, 0, [], 172), (172, 49, .null, 0, 0, [], 172), (173, 2, .null, 0, 0, [], 174), (174, 36, .null, 4, 1, [], 177), (177, 52, .ref 1, 64, 0, [], 180), (180, 49, .null, 0, 0, [], 180), (181, 0, .int (-2), 0, 0, [], 183),
  (183, 49, .null, 0, 0, [], 183)]
def mtX4_count : axM := (⟨"BeatSlugs", "count", "(I)I"⟩, prog_1_method_18_code, 2, (some .int), 4, false, cdX4_count)
abbrev kX4_count : Nat := 56
set_option maxRecDepth 100000 in
theorem ckX4_count : axCk 4 false 0 prog_1_method_18_code cdX4_count = true := by decide +kernel
def cdX0_allSlugs : List axE := [
  (0, 2, .null, 0, 0, [], 1), (1, 36, .null, 0, 6, [], 4), (4, 49, .null, 0, 0, [], 4)]
def mtX0_allSlugs : axM := (⟨"BeatSlugs$Board", "allSlugs", "()I"⟩, prog_2_method_24_code, 1, (some .int), 0, false, cdX0_allSlugs)
abbrev kX0_allSlugs : Nat := 57
set_option maxRecDepth 100000 in
theorem ckX0_allSlugs : axCk 0 false 0 prog_2_method_24_code cdX0_allSlugs = true := by decide +kernel
def cdX0_allBeats : List axE := [
  (0, 2, .null, 0, 0, [], 1), (1, 0, .int 0, 0, 0, [], 2), (2, 2, .null, 0, 0, [], 3), (3, 36, .null, 0, 8, [], 6), (6, 52, .ref 0, 33, 2, [], 9), (9, 49, .null, 0, 0, [], 9)]
def mtX0_allBeats : axM := (⟨"BeatSlugs$Board", "allBeats", "()I"⟩, prog_2_method_41_code, 1, (some .int), 0, false, cdX0_allBeats)
abbrev kX0_allBeats : Nat := 58
set_option maxRecDepth 100000 in
theorem ckX0_allBeats : axCk 0 false 0 prog_2_method_41_code cdX0_allBeats = true := by decide +kernel
def cdX0_fittingActs : List axE := [
  (0, 0, .int 0, 0, 0, [], 1), (1, 4, .null, 1, 0, [], 2), (2, 2, .null, 0, 0, [], 3), (3, 52, .ref 0, 29, 0, [], 6), (6, 4, .null, 2, 0, [], 7), (7, 0, .int 0, 0, 0, [], 8), (8, 4, .null, 3, 0, [], 9), (9, 1, .null, 3, 0, [], 10),
  (10, 1, .null, 2, 0, [], 11), (11, 32, .null, 3, 31, [], 14), (14, 2, .null, 0, 0, [], 15), (15, 1, .null, 3, 0, [], 16), (16, 52, .ref 0, 60, 1, [], 19), (19, 33, .null, 0, 25, [], 22), (22, 6, .int 1, 1, 0, [], 25), (25, 6, .int 1, 3, 0, [], 28),
  (28, 9, .null, 0, 0, [], 9), (31, 1, .null, 1, 0, [], 32), (32, 49, .null, 0, 0, [], 32)]
def mtX0_fittingActs : axM := (⟨"BeatSlugs$Board", "fittingActs", "()I"⟩, prog_2_method_52_code, 4, (some .int), 0, false, cdX0_fittingActs)
abbrev kX0_fittingActs : Nat := 59
set_option maxRecDepth 100000 in
theorem ckX0_fittingActs : axCk 0 false 0 prog_2_method_52_code cdX0_fittingActs = true := by decide +kernel
def cdX0_isFitting : List axE := [
  (0, 2, .null, 0, 0, [], 1), (1, 1, .null, 1, 0, [], 2), (2, 52, .ref 0, 61, 1, [], 5), (5, 33, .null, 1, 28, [], 8), (8, 2, .null, 0, 0, [], 9), (9, 1, .null, 1, 0, [], 10), (10, 52, .ref 0, 31, 1, [], 13), (13, 59, .null, 0, 0, [], 16),
  (16, 2, .null, 0, 0, [], 17), (17, 0, .int 1, 0, 0, [], 18), (18, 52, .ref 0, 36, 1, [], 21), (21, 32, .null, 4, 28, [], 24), (24, 0, .int 1, 0, 0, [], 25), (25, 9, .null, 0, 0, [], 29), (28, 0, .int 0, 0, 0, [], 29), (29, 49, .null, 2, 0, [], 29)]
def mtX0_isFitting : axM := (⟨"BeatSlugs$Board", "isFitting", "(I)Z"⟩, prog_2_method_51_code, 2, (some .boolean), 0, false, cdX0_isFitting)
abbrev kX0_isFitting : Nat := 60
set_option maxRecDepth 100000 in
theorem ckX0_isFitting : axCk 0 false 2 prog_2_method_51_code cdX0_isFitting = true := by decide +kernel
def cdX0_isOpen : List axE := [
  (0, 1, .null, 1, 0, [], 1), (1, 2, .null, 0, 0, [], 2), (2, 36, .null, 0, 7, [], 5), (5, 53, .null, 30, 1, [], 8), (8, 32, .null, 2, 15, [], 11), (11, 0, .int 1, 0, 0, [], 12), (12, 9, .null, 0, 0, [], 16), (15, 0, .int 0, 0, 0, [], 16),
  (16, 49, .null, 2, 0, [], 16)]
def mtX0_isOpen : axM := (⟨"BeatSlugs$Board", "isOpen", "(I)Z"⟩, prog_2_method_50_code, 2, (some .boolean), 0, false, cdX0_isOpen)
abbrev kX0_isOpen : Nat := 61
set_option maxRecDepth 100000 in
theorem ckX0_isOpen : axCk 0 false 2 prog_2_method_50_code cdX0_isOpen = true := by decide +kernel
def cdX0_longestSlug : List axE := [
  (0, 0, .int (-6), 0, 0, [], 2), (2, 4, .null, 1, 0, [], 3), (3, 0, .int 0, 0, 0, [], 4), (4, 4, .null, 2, 0, [], 5), (5, 0, .int 0, 0, 0, [], 6), (6, 4, .null, 3, 0, [], 7), (7, 1, .null, 3, 0, [], 8), (8, 2, .null, 0, 0, [], 9),
  (9, 36, .null, 0, 8, [], 12), (12, 32, .null, 3, 51, [], 15), (15, 2, .null, 0, 0, [], 16), (16, 36, .null, 0, 2, [], 19), (19, 1, .null, 3, 0, [], 20), (20, 53, .null, 9, 2, [], 23), (23, 4, .null, 4, 0, [], 25), (25, 2, .null, 0, 0, [], 26),
  (26, 1, .null, 4, 0, [], 28), (28, 52, .ref 0, 45, 1, [], 31), (31, 1, .null, 2, 0, [], 32), (32, 32, .null, 5, 45, [], 35), (35, 1, .null, 4, 0, [], 37), (37, 4, .null, 1, 0, [], 38), (38, 2, .null, 0, 0, [], 39), (39, 1, .null, 4, 0, [], 41),
  (41, 52, .ref 0, 45, 1, [], 44), (44, 4, .null, 2, 0, [], 45), (45, 6, .int 1, 3, 0, [], 48), (48, 9, .null, 0, 0, [], 7), (51, 1, .null, 1, 0, [], 52), (52, 49, .null, 0, 0, [], 52)]
def mtX0_longestSlug : axM := (⟨"BeatSlugs$Board", "longestSlug", "()I"⟩, prog_2_method_33_code, 5, (some .int), 0, false, cdX0_longestSlug)
abbrev kX0_longestSlug : Nat := 62
set_option maxRecDepth 100000 in
theorem ckX0_longestSlug : axCk 0 false 0 prog_2_method_33_code cdX0_longestSlug = true := by decide +kernel
def cdX2_size : List axE := [
  (0, 2, .null, 0, 0, [], 1), (1, 36, .null, 2, 1, [], 4), (4, 49, .null, 0, 0, [], 4)]
def mtX2_size : axM := (⟨"BeatSlugs$Pad", "size", "()I"⟩, prog_4_method_2_code, 1, (some .int), 2, false, cdX2_size)
abbrev kX2_size : Nat := 63
set_option maxRecDepth 100000 in
theorem ckX2_size : axCk 2 false 0 prog_4_method_2_code cdX2_size = true := by decide +kernel
def cdX1_size : List axE := [
  (0, 2, .null, 0, 0, [], 1), (1, 36, .null, 1, 2, [], 4), (4, 49, .null, 0, 0, [], 4)]
def mtX1_size : axM := (⟨"BeatSlugs$History", "size", "()I"⟩, prog_3_method_2_code, 1, (some .int), 1, false, cdX1_size)
abbrev kX1_size : Nat := 64
set_option maxRecDepth 100000 in
theorem ckX1_size : axCk 1 false 0 prog_3_method_2_code cdX1_size = true := by decide +kernel
def cdX4_ofAct : List axE := [
  (0, 2, .null, 0, 0, [], 1), (1, 36, .null, 4, 0, [], 4), (4, 1, .null, 1, 0, [], 5), (5, 52, .ref 0, 28, 1, [], 8), (8, 33, .null, 1, 13, [], 11), (11, 0, .int (-1), 0, 0, [], 12), (12, 49, .null, 0, 0, [], 12), (13, 2, .null, 0, 0, [], 14),
  (14, 36, .null, 4, 0, [], 17), (17, 1, .null, 1, 0, [], 18), (18, 52, .ref 0, 32, 1, [], 21), (21, 4, .null, 3, 0, [], 22), (22, 2, .null, 0, 0, [], 23), (23, 36, .null, 4, 0, [], 26), (26, 1, .null, 1, 0, [], 27), (27, 0, .int 1, 0, 0, [], 28),
  (28, 11, .null, 0, 0, [], 29), (29, 52, .ref 0, 32, 1, [], 32), (32, 4, .null, 4, 0, [], 34), (34, 1, .null, 2, 0, [], 35), (35, 35, .null, 0, 173, [(0, 80), (1, 91), (2, 100), (3, 113), (4, 130), (5, 147), (6, 152), (7, 162)], 35), (80, 2, .null, 0, 0, [], 81), (81, 36, .null, 4, 0, [], 84), (84, 1, .null, 3, 0, [], 85),
  (85, 1, .null, 4, 0, [], 87), (87, 52, .ref 0, 33, 2, [], 90), (90, 49, .null, 0, 0, [], 90), (91, 2, .null, 0, 0, [], 92), (92, 36, .null, 4, 0, [], 95), (95, 1, .null, 1, 0, [], 96), (96, 52, .ref 0, 11, 1, [], 99), (99, 49, .null, 0, 0, [], 99),
  (100, 2, .null, 0, 0, [], 101), (101, 36, .null, 4, 0, [], 104), (104, 1, .null, 1, 0, [], 105), (105, 52, .ref 0, 31, 1, [], 108), (108, 0, .int 5000, 0, 0, [], 111), (111, 11, .null, 0, 0, [], 112), (112, 49, .null, 0, 0, [], 112), (113, 2, .null, 0, 0, [], 114),
  (114, 36, .null, 4, 0, [], 117), (117, 1, .null, 1, 0, [], 118), (118, 52, .ref 0, 60, 1, [], 121), (121, 33, .null, 0, 128, [], 124), (124, 0, .int 1, 0, 0, [], 125), (125, 9, .null, 0, 0, [], 129), (128, 0, .int 0, 0, 0, [], 129), (129, 49, .null, 0, 0, [], 129),
  (130, 2, .null, 0, 0, [], 131), (131, 36, .null, 4, 0, [], 134), (134, 1, .null, 1, 0, [], 135), (135, 52, .ref 0, 61, 1, [], 138), (138, 33, .null, 0, 145, [], 141), (141, 0, .int 1, 0, 0, [], 142), (142, 9, .null, 0, 0, [], 146), (145, 0, .int 0, 0, 0, [], 146),
  (146, 49, .null, 0, 0, [], 146), (147, 1, .null, 4, 0, [], 149), (149, 1, .null, 3, 0, [], 150), (150, 12, .null, 0, 0, [], 151), (151, 49, .null, 0, 0, [], 151), (152, 2, .null, 0, 0, [], 153), (153, 36, .null, 4, 0, [], 156), (156, 0, .int 0, 0, 0, [], 157),
  (157, 1, .null, 3, 0, [], 158), (158, 52, .ref 0, 33, 2, [], 161), (161, 49, .null, 0, 0, [], 161), (162, 2, .null, 0, 0, [], 163), (163, 36, .null, 4, 0, [], 166), (166, 1, .null, 3, 0, [], 167), (167, 1, .null, 4, 0, [], 169), (169, 52, .ref 0, 34, 2, [], 172),
  (172, 49, .null, 0, 0, [], 172), (173, 0, .int (-2), 0, 0, [], 175), (175, 49, .null, 0, 0, [], 175)]
def mtX4_ofAct : axM := (⟨"BeatSlugs", "ofAct", "(II)I"⟩, prog_1_method_17_code, 5, (some .int), 4, false, cdX4_ofAct)
abbrev kX4_ofAct : Nat := 65
set_option maxRecDepth 100000 in
theorem ckX4_ofAct : axCk 4 false 0 prog_1_method_17_code cdX4_ofAct = true := by decide +kernel
def cdL_swapsBest : List axE := [
  (0, 2, .null, 0, 0, [], 1), (1, 0, .int 4, 0, 0, [], 2), (2, 52, .ref 4, 56, 1, [], 5), (5, 4, .null, 1, 0, [], 6), (6, 2, .null, 0, 0, [], 7), (7, 0, .int 0, 0, 0, [], 8), (8, 52, .ref 4, 5, 1, [], 11), (11, 4, .null, 2, 0, [], 12),
  (12, 2, .null, 0, 0, [], 13), (13, 0, .int 1, 0, 0, [], 14), (14, 52, .ref 4, 5, 1, [], 17), (17, 4, .null, 3, 0, [], 18), (18, 2, .null, 0, 0, [], 19), (19, 0, .int 2, 0, 0, [], 20), (20, 52, .ref 4, 5, 1, [], 23), (23, 4, .null, 4, 0, [], 25),
  (25, 2, .null, 0, 0, [], 26), (26, 53, .null, 39, 1, [], 29), (29, 4, .null, 5, 0, [], 31), (31, 0, .int 1, 0, 0, [], 32), (32, 4, .null, 6, 0, [], 34), (34, 0, .int 0, 0, 0, [], 35), (35, 4, .null, 7, 0, [], 37), (37, 1, .null, 7, 0, [], 39),
  (39, 1, .null, 5, 0, [], 41), (41, 32, .null, 3, 149, [], 44), (44, 1, .null, 6, 0, [], 46), (46, 33, .null, 0, 149, [], 49), (49, 1, .null, 7, 0, [], 51), (51, 0, .int 1, 0, 0, [], 52), (52, 11, .null, 0, 0, [], 53), (53, 4, .null, 8, 0, [], 55),
  (55, 1, .null, 8, 0, [], 57), (57, 1, .null, 5, 0, [], 59), (59, 32, .null, 3, 143, [], 62), (62, 1, .null, 6, 0, [], 64), (64, 33, .null, 0, 143, [], 67), (67, 2, .null, 0, 0, [], 68), (68, 2, .null, 0, 0, [], 69), (69, 1, .null, 7, 0, [], 71),
  (71, 52, .ref 4, 40, 1, [], 74), (74, 2, .null, 0, 0, [], 75), (75, 1, .null, 8, 0, [], 77), (77, 52, .ref 4, 40, 1, [], 80), (80, 52, .ref 4, 67, 2, [], 83), (83, 4, .null, 9, 0, [], 85), (85, 1, .null, 9, 0, [], 87), (87, 0, .int (-5), 0, 0, [], 89),
  (89, 32, .null, 0, 130, [], 92), (92, 1, .null, 9, 0, [], 94), (94, 1, .null, 8, 0, [], 96), (96, 1, .null, 7, 0, [], 98), (98, 12, .null, 0, 0, [], 99), (99, 0, .int 1, 0, 0, [], 100), (100, 12, .null, 0, 0, [], 101), (101, 32, .null, 1, 134, [], 104),
  (104, 2, .null, 0, 0, [], 105), (105, 0, .int 4, 0, 0, [], 106), (106, 52, .ref 4, 56, 1, [], 109), (109, 1, .null, 4, 0, [], 111), (111, 33, .null, 3, 118, [], 114), (114, 1, .null, 1, 0, [], 115), (115, 9, .null, 0, 0, [], 120), (118, 1, .null, 4, 0, [], 120),
  (120, 32, .null, 2, 134, [], 123), (123, 2, .null, 0, 0, [], 124), (124, 52, .ref 4, 74, 0, [], 127), (127, 33, .null, 2, 134, [], 130), (130, 0, .int 1, 0, 0, [], 131), (131, 9, .null, 0, 0, [], 135), (134, 0, .int 0, 0, 0, [], 135), (135, 4, .null, 6, 0, [], 137),
  (137, 6, .int 1, 8, 0, [], 140), (140, 9, .null, 0, 0, [], 55), (143, 6, .int 1, 7, 0, [], 146), (146, 9, .null, 0, 0, [], 37), (149, 1, .null, 6, 0, [], 151), (151, 33, .null, 0, 158, [], 154), (154, 1, .null, 2, 0, [], 155), (155, 33, .null, 3, 188, [], 158),
  (158, 1, .null, 6, 0, [], 160), (160, 33, .null, 0, 186, [], 163), (163, 1, .null, 2, 0, [], 164), (164, 0, .int (-6), 0, 0, [], 166), (166, 32, .null, 1, 186, [], 169), (169, 1, .null, 3, 0, [], 170), (170, 0, .int (-6), 0, 0, [], 172), (172, 32, .null, 1, 186, [], 175),
  (175, 1, .null, 4, 0, [], 177), (177, 0, .int (-6), 0, 0, [], 179), (179, 32, .null, 1, 186, [], 182), (182, 0, .int 1, 0, 0, [], 183), (183, 9, .null, 0, 0, [], 187), (186, 0, .int 0, 0, 0, [], 187), (187, 49, .null, 2, 0, [], 187), (188, 1, .null, 4, 0, [], 190),
  (190, 1, .null, 1, 0, [], 191), (191, 32, .null, 3, 232, [], 194), (194, 2, .null, 0, 0, [], 195), (195, 1, .null, 2, 0, [], 196), (196, 0, .int 0, 0, 0, [], 197), (197, 52, .ref 4, 41, 2, [], 200), (200, 2, .null, 0, 0, [], 201), (201, 1, .null, 3, 0, [], 202),
  (202, 0, .int 0, 0, 0, [], 203), (203, 52, .ref 4, 41, 2, [], 206), (206, 32, .null, 3, 232, [], 209), (209, 2, .null, 0, 0, [], 210), (210, 1, .null, 2, 0, [], 211), (211, 1, .null, 3, 0, [], 212), (212, 52, .ref 4, 67, 2, [], 215), (215, 33, .null, 2, 232, [], 218),
  (218, 2, .null, 0, 0, [], 219), (219, 0, .int 4, 0, 0, [], 220), (220, 52, .ref 4, 56, 1, [], 223), (223, 1, .null, 4, 0, [], 225), (225, 32, .null, 1, 232, [], 228), (228, 0, .int 1, 0, 0, [], 229), (229, 9, .null, 0, 0, [], 233), (232, 0, .int 0, 0, 0, [], 233),
  (233, 49, .null, 2, 0, [], 233)]
def mtL_swapsBest : axM := (⟨"BeatSlugsLaw", "swapsBest", "(LBeatSlugs;)Z"⟩, method_7_code, 10, (some .boolean), 6, false, cdL_swapsBest)
abbrev kL_swapsBest : Nat := 66
set_option maxRecDepth 100000 in
theorem ckL_swapsBest : axCk 6 false 2 method_7_code cdL_swapsBest = true := by decide +kernel
def cdX4_swap : List axE := [
  (0, 2, .null, 0, 0, [], 1), (1, 36, .null, 4, 1, [], 4), (4, 2, .null, 0, 0, [], 5), (5, 36, .null, 4, 0, [], 8), (8, 52, .ref 1, 68, 1, [], 11), (11, 2, .null, 0, 0, [], 12), (12, 36, .null, 4, 1, [], 15), (15, 2, .null, 0, 0, [], 16),
  (16, 36, .null, 4, 0, [], 19), (19, 1, .null, 1, 0, [], 20), (20, 1, .null, 2, 0, [], 21), (21, 52, .ref 0, 71, 2, [], 24), (24, 52, .ref 1, 73, 1, [], 27), (27, 49, .null, 0, 0, [], 27)]
def mtX4_swap : axM := (⟨"BeatSlugs", "swap", "(II)I"⟩, prog_1_method_11_code, 3, (some .int), 4, false, cdX4_swap)
abbrev kX4_swap : Nat := 67
set_option maxRecDepth 100000 in
theorem ckX4_swap : axCk 4 false 0 prog_1_method_11_code cdX4_swap = true := by decide +kernel
def cdX1_prepare : List axE := [
  (0, 2, .null, 0, 0, [], 1), (1, 36, .null, 1, 1, [], 4), (4, 33, .null, 2, 41, [], 7), (7, 2, .null, 0, 0, [], 8), (8, 36, .null, 1, 1, [], 11), (11, 2, .null, 0, 0, [], 12), (12, 36, .null, 1, 0, [], 15), (15, 39, .null, 0, 0, [], 16),
  (16, 32, .null, 3, 41, [], 19), (19, 2, .null, 0, 0, [], 20), (20, 36, .null, 1, 0, [], 23), (23, 2, .null, 0, 0, [], 24), (24, 36, .null, 1, 1, [], 27), (27, 2, .null, 0, 0, [], 28), (28, 36, .null, 1, 0, [], 31), (31, 2, .null, 0, 0, [], 32),
  (32, 36, .null, 1, 1, [], 35), (35, 41, .null, 0, 0, [], 36), (36, 2, .null, 1, 0, [], 37), (37, 53, .null, 69, 2, [], 40), (40, 43, .null, 0, 0, [], 41), (41, 50, .null, 0, 0, [], 41)]
def mtX1_prepare : axM := (⟨"BeatSlugs$History", "prepare", "(LBeatSlugs$Board;)V"⟩, prog_3_method_3_code, 2, none, 1, false, cdX1_prepare)
abbrev kX1_prepare : Nat := 68
set_option maxRecDepth 100000 in
theorem ckX1_prepare : axCk 1 false 0 prog_3_method_3_code cdX1_prepare = true := by decide +kernel
def cdX4_copyInto : List axE := [
  (0, 2, .null, 0, 0, [], 1), (1, 34, .null, 0, 14, [], 4), (4, 46, .null, 0, 0, [], 7), (7, 7, .null, 0, 0, [], 8), (8, 54, .null, 1, 0, [], 11), (11, 9, .null, 0, 0, [], 15), (14, 2, .null, 0, 0, [], 15), (15, 5, .null, 2, 0, [], 16),
  (16, 2, .null, 2, 0, [], 17), (17, 2, .null, 1, 0, [], 18), (18, 52, .ref 0, 70, 1, [], 21), (21, 2, .null, 2, 0, [], 22), (22, 51, .null, 0, 0, [], 22)]
def mtX4_copyInto : axM := (⟨"BeatSlugs", "copyInto", "(LBeatSlugs$Board;LBeatSlugs$Board;)LBeatSlugs$Board;"⟩, prog_1_method_32_code, 3, (some (.object "BeatSlugs$Board")), 4, false, cdX4_copyInto)
abbrev kX4_copyInto : Nat := 69
set_option maxRecDepth 100000 in
theorem ckX4_copyInto : axCk 4 false 0 prog_1_method_32_code cdX4_copyInto = true := by decide +kernel
def cdX0_takeOver : List axE := [
  (0, 2, .null, 1, 0, [], 1), (1, 36, .null, 0, 0, [], 4), (4, 0, .int 0, 0, 0, [], 5), (5, 2, .null, 0, 0, [], 6), (6, 36, .null, 0, 0, [], 9), (9, 0, .int 0, 0, 0, [], 10), (10, 2, .null, 0, 0, [], 11), (11, 36, .null, 0, 0, [], 14),
  (14, 39, .null, 0, 0, [], 15), (15, 56, .null, 0, 0, [], 18), (18, 2, .null, 1, 0, [], 19), (19, 36, .null, 0, 1, [], 22), (22, 0, .int 0, 0, 0, [], 23), (23, 2, .null, 0, 0, [], 24), (24, 36, .null, 0, 1, [], 27), (27, 0, .int 0, 0, 0, [], 28),
  (28, 2, .null, 0, 0, [], 29), (29, 36, .null, 0, 1, [], 32), (32, 39, .null, 0, 0, [], 33), (33, 56, .null, 0, 0, [], 36), (36, 2, .null, 1, 0, [], 37), (37, 36, .null, 0, 2, [], 40), (40, 0, .int 0, 0, 0, [], 41), (41, 2, .null, 0, 0, [], 42),
  (42, 36, .null, 0, 2, [], 45), (45, 0, .int 0, 0, 0, [], 46), (46, 2, .null, 0, 0, [], 47), (47, 36, .null, 0, 2, [], 50), (50, 39, .null, 0, 0, [], 51), (51, 56, .null, 0, 0, [], 54), (54, 2, .null, 1, 0, [], 55), (55, 36, .null, 0, 3, [], 58),
  (58, 0, .int 0, 0, 0, [], 59), (59, 2, .null, 0, 0, [], 60), (60, 36, .null, 0, 3, [], 63), (63, 0, .int 0, 0, 0, [], 64), (64, 2, .null, 0, 0, [], 65), (65, 36, .null, 0, 3, [], 68), (68, 39, .null, 0, 0, [], 69), (69, 56, .null, 0, 0, [], 72),
  (72, 2, .null, 1, 0, [], 73), (73, 36, .null, 0, 4, [], 76), (76, 0, .int 0, 0, 0, [], 77), (77, 2, .null, 0, 0, [], 78), (78, 36, .null, 0, 4, [], 81), (81, 0, .int 0, 0, 0, [], 82), (82, 2, .null, 0, 0, [], 83), (83, 36, .null, 0, 4, [], 86),
  (86, 39, .null, 0, 0, [], 87), (87, 56, .null, 0, 0, [], 90), (90, 2, .null, 1, 0, [], 91), (91, 36, .null, 0, 5, [], 94), (94, 0, .int 0, 0, 0, [], 95), (95, 2, .null, 0, 0, [], 96), (96, 36, .null, 0, 5, [], 99), (99, 0, .int 0, 0, 0, [], 100),
  (100, 2, .null, 0, 0, [], 101), (101, 36, .null, 0, 5, [], 104), (104, 39, .null, 0, 0, [], 105), (105, 56, .null, 0, 0, [], 108), (108, 2, .null, 0, 0, [], 109), (109, 2, .null, 1, 0, [], 110), (110, 36, .null, 0, 6, [], 113), (113, 37, .null, 0, 6, [], 116),
  (116, 2, .null, 0, 0, [], 117), (117, 2, .null, 1, 0, [], 118), (118, 36, .null, 0, 7, [], 121), (121, 37, .null, 0, 7, [], 124), (124, 2, .null, 0, 0, [], 125), (125, 2, .null, 1, 0, [], 126), (126, 36, .null, 0, 8, [], 129), (129, 37, .null, 0, 8, [], 132),
  (132, 50, .null, 0, 0, [], 132)]
def mtX0_takeOver : axM := (⟨"BeatSlugs$Board", "takeOver", "(LBeatSlugs$Board;)V"⟩, prog_2_method_2_code, 2, none, 0, false, cdX0_takeOver)
abbrev kX0_takeOver : Nat := 70
set_option maxRecDepth 100000 in
theorem ckX0_takeOver : axCk 0 false 0 prog_2_method_2_code cdX0_takeOver = true := by decide +kernel
def cdX0_swapSlugs : List axE := [
  (0, 2, .null, 0, 0, [], 1), (1, 1, .null, 1, 0, [], 2), (2, 52, .ref 0, 42, 1, [], 5), (5, 33, .null, 0, 16, [], 8), (8, 2, .null, 0, 0, [], 9), (9, 1, .null, 2, 0, [], 10), (10, 52, .ref 0, 42, 1, [], 13), (13, 33, .null, 1, 18, [], 16),
  (16, 0, .int (-1), 0, 0, [], 17), (17, 49, .null, 0, 0, [], 17), (18, 1, .null, 1, 0, [], 19), (19, 1, .null, 2, 0, [], 20), (20, 32, .null, 1, 26, [], 23), (23, 0, .int (-2), 0, 0, [], 25), (25, 49, .null, 0, 0, [], 25), (26, 2, .null, 0, 0, [], 27),
  (27, 1, .null, 1, 0, [], 28), (28, 52, .ref 0, 43, 1, [], 31), (31, 4, .null, 3, 0, [], 32), (32, 2, .null, 0, 0, [], 33), (33, 1, .null, 2, 0, [], 34), (34, 52, .ref 0, 43, 1, [], 37), (37, 4, .null, 4, 0, [], 39), (39, 2, .null, 0, 0, [], 40),
  (40, 1, .null, 1, 0, [], 41), (41, 1, .null, 4, 0, [], 43), (43, 52, .ref 0, 72, 2, [], 46), (46, 33, .null, 0, 58, [], 49), (49, 2, .null, 0, 0, [], 50), (50, 1, .null, 2, 0, [], 51), (51, 1, .null, 3, 0, [], 52), (52, 52, .ref 0, 72, 2, [], 55),
  (55, 33, .null, 1, 61, [], 58), (58, 0, .int (-5), 0, 0, [], 60), (60, 49, .null, 0, 0, [], 60), (61, 2, .null, 0, 0, [], 62), (62, 36, .null, 0, 2, [], 65), (65, 1, .null, 3, 0, [], 66), (66, 1, .null, 2, 0, [], 67), (67, 53, .null, 14, 3, [], 70),
  (70, 2, .null, 0, 0, [], 71), (71, 36, .null, 0, 2, [], 74), (74, 1, .null, 4, 0, [], 76), (76, 1, .null, 1, 0, [], 77), (77, 53, .null, 14, 3, [], 80), (80, 1, .null, 3, 0, [], 81), (81, 1, .null, 4, 0, [], 83), (83, 12, .null, 0, 0, [], 84),
  (84, 59, .null, 0, 0, [], 87), (87, 0, .int 1, 0, 0, [], 88), (88, 12, .null, 0, 0, [], 89), (89, 49, .null, 0, 0, [], 89)]
def mtX0_swapSlugs : axM := (⟨"BeatSlugs$Board", "swapSlugs", "(II)I"⟩, prog_2_method_12_code, 5, (some .int), 0, false, cdX0_swapSlugs)
abbrev kX0_swapSlugs : Nat := 71
set_option maxRecDepth 100000 in
theorem ckX0_swapSlugs : axCk 0 false 0 prog_2_method_12_code cdX0_swapSlugs = true := by decide +kernel
def cdX0_mayStandIn : List axE := [
  (0, 1, .null, 2, 0, [], 1), (1, 2, .null, 0, 0, [], 2), (2, 1, .null, 1, 0, [], 3), (3, 52, .ref 0, 17, 1, [], 6), (6, 32, .null, 2, 22, [], 9), (9, 1, .null, 2, 0, [], 10), (10, 2, .null, 0, 0, [], 11), (11, 1, .null, 1, 0, [], 12),
  (12, 52, .ref 0, 16, 1, [], 15), (15, 32, .null, 4, 22, [], 18), (18, 0, .int 1, 0, 0, [], 19), (19, 9, .null, 0, 0, [], 23), (22, 0, .int 0, 0, 0, [], 23), (23, 49, .null, 2, 0, [], 23)]
def mtX0_mayStandIn : axM := (⟨"BeatSlugs$Board", "mayStandIn", "(II)Z"⟩, prog_2_method_39_code, 3, (some .boolean), 0, false, cdX0_mayStandIn)
abbrev kX0_mayStandIn : Nat := 72
set_option maxRecDepth 100000 in
theorem ckX0_mayStandIn : axCk 0 false 2 prog_2_method_39_code cdX0_mayStandIn = true := by decide +kernel
def cdX1_settle : List axE := [
  (0, 1, .null, 1, 0, [], 1), (1, 33, .null, 2, 47, [], 4), (4, 2, .null, 0, 0, [], 5), (5, 2, .null, 0, 0, [], 6), (6, 36, .null, 1, 1, [], 9), (9, 0, .int 1, 0, 0, [], 10), (10, 11, .null, 0, 0, [], 11), (11, 2, .null, 0, 0, [], 12),
  (12, 36, .null, 1, 0, [], 15), (15, 39, .null, 0, 0, [], 16), (16, 32, .null, 3, 28, [], 19), (19, 2, .null, 0, 0, [], 20), (20, 36, .null, 1, 1, [], 23), (23, 0, .int 1, 0, 0, [], 24), (24, 11, .null, 0, 0, [], 25), (25, 9, .null, 0, 0, [], 29),
  (28, 0, .int 0, 0, 0, [], 29), (29, 37, .null, 1, 1, [], 32), (32, 2, .null, 0, 0, [], 33), (33, 2, .null, 0, 0, [], 34), (34, 36, .null, 1, 2, [], 37), (37, 0, .int 1, 0, 0, [], 38), (38, 11, .null, 0, 0, [], 39), (39, 0, .int 6, 0, 0, [], 41),
  (41, 58, .null, 0, 0, [], 44), (44, 37, .null, 1, 2, [], 47), (47, 1, .null, 1, 0, [], 48), (48, 49, .null, 0, 0, [], 48)]
def mtX1_settle : axM := (⟨"BeatSlugs$History", "settle", "(I)I"⟩, prog_3_method_4_code, 2, (some .int), 1, false, cdX1_settle)
abbrev kX1_settle : Nat := 73
set_option maxRecDepth 100000 in
theorem ckX1_settle : axCk 1 false 0 prog_3_method_4_code cdX1_settle = true := by decide +kernel
def cdX4_undo : List axE := [
  (0, 2, .null, 0, 0, [], 1), (1, 36, .null, 4, 1, [], 4), (4, 2, .null, 0, 0, [], 5), (5, 36, .null, 4, 0, [], 8), (8, 52, .ref 1, 75, 1, [], 11), (11, 49, .null, 0, 0, [], 11)]
def mtX4_undo : axM := (⟨"BeatSlugs", "undo", "()I"⟩, prog_1_method_28_code, 1, (some .int), 4, false, cdX4_undo)
abbrev kX4_undo : Nat := 74
set_option maxRecDepth 100000 in
theorem ckX4_undo : axCk 4 false 0 prog_1_method_28_code cdX4_undo = true := by decide +kernel
def cdX1_takeBack : List axE := [
  (0, 2, .null, 0, 0, [], 1), (1, 36, .null, 1, 1, [], 4), (4, 33, .null, 5, 16, [], 7), (7, 2, .null, 0, 0, [], 8), (8, 36, .null, 1, 1, [], 11), (11, 0, .int 1, 0, 0, [], 12), (12, 12, .null, 0, 0, [], 13), (13, 9, .null, 0, 0, [], 23),
  (16, 2, .null, 0, 0, [], 17), (17, 36, .null, 1, 0, [], 20), (20, 39, .null, 0, 0, [], 21), (21, 0, .int 1, 0, 0, [], 22), (22, 12, .null, 0, 0, [], 23), (23, 4, .null, 2, 0, [], 24), (24, 2, .null, 0, 0, [], 25), (25, 36, .null, 1, 2, [], 28),
  (28, 33, .null, 5, 40, [], 31), (31, 1, .null, 2, 0, [], 32), (32, 2, .null, 0, 0, [], 33), (33, 36, .null, 1, 0, [], 36), (36, 39, .null, 0, 0, [], 37), (37, 32, .null, 2, 43, [], 40), (40, 0, .int (-5), 0, 0, [], 42), (42, 49, .null, 0, 0, [], 42),
  (43, 2, .null, 0, 0, [], 44), (44, 36, .null, 1, 0, [], 47), (47, 1, .null, 2, 0, [], 48), (48, 41, .null, 0, 0, [], 49), (49, 5, .null, 3, 0, [], 50), (50, 2, .null, 3, 0, [], 51), (51, 34, .null, 0, 57, [], 54), (54, 0, .int (-5), 0, 0, [], 56),
  (56, 49, .null, 0, 0, [], 56), (57, 2, .null, 1, 0, [], 58), (58, 2, .null, 3, 0, [], 59), (59, 52, .ref 0, 70, 1, [], 62), (62, 2, .null, 0, 0, [], 63), (63, 1, .null, 2, 0, [], 64), (64, 37, .null, 1, 1, [], 67), (67, 2, .null, 0, 0, [], 68),
  (68, 7, .null, 0, 0, [], 69), (69, 36, .null, 1, 2, [], 72), (72, 0, .int 1, 0, 0, [], 73), (73, 12, .null, 0, 0, [], 74), (74, 37, .null, 1, 2, [], 77), (77, 2, .null, 0, 0, [], 78), (78, 36, .null, 1, 2, [], 81), (81, 49, .null, 0, 0, [], 81)]
def mtX1_takeBack : axM := (⟨"BeatSlugs$History", "takeBack", "(LBeatSlugs$Board;)I"⟩, prog_3_method_5_code, 4, (some .int), 1, false, cdX1_takeBack)
abbrev kX1_takeBack : Nat := 75
set_option maxRecDepth 100000 in
theorem ckX1_takeBack : axCk 1 false 0 prog_3_method_5_code cdX1_takeBack = true := by decide +kernel
