/-! ===== the law's table, the steps of both sides, the 32 cases ===== -/
def it_lh : List (Nat × Instr × Nat × Nat) := [(0, .new 7, 3, 3), (3, .dup, 1, 4), (4, .invokespecial 9, 3, 7), (7, .astore_n 1, 1, 8), (8, .new 10, 3, 11), (11, .dup, 1, 12), (12, .invokespecial 12, 3, 15), (15, .astore_n 2, 1, 16), (16, .iconst 0, 1, 17), (17, .istore_n 3, 1, 18), (18, .iload_n 3, 1, 19), (19, .aload_n 0, 1, 20), (20, .arraylength, 1, 21), (21, .bipush 6, 2, 23), (23, .isub, 1, 24), (24, .if_icmp .gt 1104, 3, 27), (27, .aload_n 0, 1, 28), (28, .iload_n 3, 1, 29), (29, .iaload, 1, 30), (30, .bipush 31, 2, 32), (32, .iand, 1, 33), (33, .tableswitch 1089 0 31 #[143, 206, 229, 242, 255, 278, 311, 344, 377, 390, 423, 456, 489, 512, 525, 568, 591, 624, 667, 700, 723, 756, 789, 822, 845, 888, 911, 944, 967, 1020, 1043, 1066], 143, 176), (1122, .iinc 3 6, 3, 1125), (1125, .goto (-1107), 3, 1128), (1128, .iconst 1, 1, 1129), (1129, .ireturn, 1, 1130)]
theorem id_lh : ∀ q ∈ it_lh, decode code q.1 = .ok (q.2.1, q.2.2.1) ∧ q.1 + q.2.2.1 = q.2.2.2 := by decide +kernel
theorem dc_lh {pc : Nat} {i : Instr} {n pc' : Nat} (j : Nat) (h : it_lh[j]? = some (pc, i, n, pc')) : Dc code pc i n pc' := dc_of id_lh j h
def it_l0 : List (Nat × Instr × Nat × Nat) := [(176, .aload_n 1, 1, 177), (177, .aload_n 0, 1, 178), (178, .iload_n 3, 1, 179), (179, .iconst 1, 1, 180), (180, .iadd, 1, 181), (181, .iaload, 1, 182), (182, .aload_n 0, 1, 183), (183, .iload_n 3, 1, 184), (184, .iconst 2, 1, 185), (185, .iadd, 1, 186), (186, .iaload, 1, 187), (187, .aload_n 0, 1, 188), (188, .iload_n 3, 1, 189), (189, .iconst 3, 1, 190), (190, .iadd, 1, 191), (191, .iaload, 1, 192), (192, .aload_n 0, 1, 193), (193, .iload_n 3, 1, 194), (194, .iconst 4, 1, 195), (195, .iadd, 1, 196), (196, .iaload, 1, 197), (197, .aload_n 0, 1, 198), (198, .iload_n 3, 1, 199), (199, .iconst 5, 1, 200), (200, .iadd, 1, 201), (201, .iaload, 1, 202), (202, .invokevirtual 13, 3, 205), (205, .aload_n 2, 1, 206), (206, .aload_n 0, 1, 207), (207, .iload_n 3, 1, 208), (208, .iconst 1, 1, 209), (209, .iadd, 1, 210), (210, .iaload, 1, 211), (211, .aload_n 0, 1, 212), (212, .iload_n 3, 1, 213), (213, .iconst 2, 1, 214), (214, .iadd, 1, 215), (215, .iaload, 1, 216), (216, .aload_n 0, 1, 217), (217, .iload_n 3, 1, 218), (218, .iconst 3, 1, 219), (219, .iadd, 1, 220), (220, .iaload, 1, 221), (221, .aload_n 0, 1, 222), (222, .iload_n 3, 1, 223), (223, .iconst 4, 1, 224), (224, .iadd, 1, 225), (225, .iaload, 1, 226), (226, .aload_n 0, 1, 227), (227, .iload_n 3, 1, 228), (228, .iconst 5, 1, 229), (229, .iadd, 1, 230), (230, .iaload, 1, 231), (231, .invokevirtual 17, 3, 234), (234, .if_icmp .eq 888, 3, 237), (237, .iconst 0, 1, 238), (238, .ireturn, 1, 239)]
theorem id_l0 : ∀ q ∈ it_l0, decode code q.1 = .ok (q.2.1, q.2.2.1) ∧ q.1 + q.2.2.1 = q.2.2.2 := by decide +kernel
theorem dc_l0 {pc : Nat} {i : Instr} {n pc' : Nat} (j : Nat) (h : it_l0[j]? = some (pc, i, n, pc')) : Dc code pc i n pc' := dc_of id_l0 j h
def it_l1 : List (Nat × Instr × Nat × Nat) := [(239, .aload_n 1, 1, 240), (240, .aload_n 0, 1, 241), (241, .iload_n 3, 1, 242), (242, .iconst 1, 1, 243), (243, .iadd, 1, 244), (244, .iaload, 1, 245), (245, .invokevirtual 18, 3, 248), (248, .aload_n 2, 1, 249), (249, .aload_n 0, 1, 250), (250, .iload_n 3, 1, 251), (251, .iconst 1, 1, 252), (252, .iadd, 1, 253), (253, .iaload, 1, 254), (254, .invokevirtual 22, 3, 257), (257, .if_icmp .eq 865, 3, 260), (260, .iconst 0, 1, 261), (261, .ireturn, 1, 262)]
theorem id_l1 : ∀ q ∈ it_l1, decode code q.1 = .ok (q.2.1, q.2.2.1) ∧ q.1 + q.2.2.1 = q.2.2.2 := by decide +kernel
theorem dc_l1 {pc : Nat} {i : Instr} {n pc' : Nat} (j : Nat) (h : it_l1[j]? = some (pc, i, n, pc')) : Dc code pc i n pc' := dc_of id_l1 j h
def it_l2 : List (Nat × Instr × Nat × Nat) := [(262, .aload_n 1, 1, 263), (263, .invokevirtual 23, 3, 266), (266, .aload_n 2, 1, 267), (267, .invokevirtual 27, 3, 270), (270, .if_icmp .eq 852, 3, 273), (273, .iconst 0, 1, 274), (274, .ireturn, 1, 275)]
theorem id_l2 : ∀ q ∈ it_l2, decode code q.1 = .ok (q.2.1, q.2.2.1) ∧ q.1 + q.2.2.1 = q.2.2.2 := by decide +kernel
theorem dc_l2 {pc : Nat} {i : Instr} {n pc' : Nat} (j : Nat) (h : it_l2[j]? = some (pc, i, n, pc')) : Dc code pc i n pc' := dc_of id_l2 j h
def it_l3 : List (Nat × Instr × Nat × Nat) := [(275, .aload_n 1, 1, 276), (276, .invokevirtual 28, 3, 279), (279, .aload_n 2, 1, 280), (280, .invokevirtual 31, 3, 283), (283, .if_icmp .eq 839, 3, 286), (286, .iconst 0, 1, 287), (287, .ireturn, 1, 288)]
theorem id_l3 : ∀ q ∈ it_l3, decode code q.1 = .ok (q.2.1, q.2.2.1) ∧ q.1 + q.2.2.1 = q.2.2.2 := by decide +kernel
theorem dc_l3 {pc : Nat} {i : Instr} {n pc' : Nat} (j : Nat) (h : it_l3[j]? = some (pc, i, n, pc')) : Dc code pc i n pc' := dc_of id_l3 j h
def it_l4 : List (Nat × Instr × Nat × Nat) := [(288, .aload_n 1, 1, 289), (289, .aload_n 0, 1, 290), (290, .iload_n 3, 1, 291), (291, .iconst 1, 1, 292), (292, .iadd, 1, 293), (293, .iaload, 1, 294), (294, .invokevirtual 32, 3, 297), (297, .aload_n 2, 1, 298), (298, .aload_n 0, 1, 299), (299, .iload_n 3, 1, 300), (300, .iconst 1, 1, 301), (301, .iadd, 1, 302), (302, .iaload, 1, 303), (303, .invokevirtual 35, 3, 306), (306, .if_icmp .eq 816, 3, 309), (309, .iconst 0, 1, 310), (310, .ireturn, 1, 311)]
theorem id_l4 : ∀ q ∈ it_l4, decode code q.1 = .ok (q.2.1, q.2.2.1) ∧ q.1 + q.2.2.1 = q.2.2.2 := by decide +kernel
theorem dc_l4 {pc : Nat} {i : Instr} {n pc' : Nat} (j : Nat) (h : it_l4[j]? = some (pc, i, n, pc')) : Dc code pc i n pc' := dc_of id_l4 j h
def it_l5 : List (Nat × Instr × Nat × Nat) := [(311, .aload_n 1, 1, 312), (312, .aload_n 0, 1, 313), (313, .iload_n 3, 1, 314), (314, .iconst 1, 1, 315), (315, .iadd, 1, 316), (316, .iaload, 1, 317), (317, .aload_n 0, 1, 318), (318, .iload_n 3, 1, 319), (319, .iconst 2, 1, 320), (320, .iadd, 1, 321), (321, .iaload, 1, 322), (322, .invokevirtual 36, 3, 325), (325, .aload_n 2, 1, 326), (326, .aload_n 0, 1, 327), (327, .iload_n 3, 1, 328), (328, .iconst 1, 1, 329), (329, .iadd, 1, 330), (330, .iaload, 1, 331), (331, .aload_n 0, 1, 332), (332, .iload_n 3, 1, 333), (333, .iconst 2, 1, 334), (334, .iadd, 1, 335), (335, .iaload, 1, 336), (336, .invokevirtual 40, 3, 339), (339, .if_icmp .eq 783, 3, 342), (342, .iconst 0, 1, 343), (343, .ireturn, 1, 344)]
theorem id_l5 : ∀ q ∈ it_l5, decode code q.1 = .ok (q.2.1, q.2.2.1) ∧ q.1 + q.2.2.1 = q.2.2.2 := by decide +kernel
theorem dc_l5 {pc : Nat} {i : Instr} {n pc' : Nat} (j : Nat) (h : it_l5[j]? = some (pc, i, n, pc')) : Dc code pc i n pc' := dc_of id_l5 j h
def it_l6 : List (Nat × Instr × Nat × Nat) := [(344, .aload_n 1, 1, 345), (345, .aload_n 0, 1, 346), (346, .iload_n 3, 1, 347), (347, .iconst 1, 1, 348), (348, .iadd, 1, 349), (349, .iaload, 1, 350), (350, .aload_n 0, 1, 351), (351, .iload_n 3, 1, 352), (352, .iconst 2, 1, 353), (353, .iadd, 1, 354), (354, .iaload, 1, 355), (355, .invokevirtual 41, 3, 358), (358, .aload_n 2, 1, 359), (359, .aload_n 0, 1, 360), (360, .iload_n 3, 1, 361), (361, .iconst 1, 1, 362), (362, .iadd, 1, 363), (363, .iaload, 1, 364), (364, .aload_n 0, 1, 365), (365, .iload_n 3, 1, 366), (366, .iconst 2, 1, 367), (367, .iadd, 1, 368), (368, .iaload, 1, 369), (369, .invokevirtual 44, 3, 372), (372, .if_icmp .eq 750, 3, 375), (375, .iconst 0, 1, 376), (376, .ireturn, 1, 377)]
theorem id_l6 : ∀ q ∈ it_l6, decode code q.1 = .ok (q.2.1, q.2.2.1) ∧ q.1 + q.2.2.1 = q.2.2.2 := by decide +kernel
theorem dc_l6 {pc : Nat} {i : Instr} {n pc' : Nat} (j : Nat) (h : it_l6[j]? = some (pc, i, n, pc')) : Dc code pc i n pc' := dc_of id_l6 j h
def it_l7 : List (Nat × Instr × Nat × Nat) := [(377, .aload_n 1, 1, 378), (378, .aload_n 0, 1, 379), (379, .iload_n 3, 1, 380), (380, .iconst 1, 1, 381), (381, .iadd, 1, 382), (382, .iaload, 1, 383), (383, .aload_n 0, 1, 384), (384, .iload_n 3, 1, 385), (385, .iconst 2, 1, 386), (386, .iadd, 1, 387), (387, .iaload, 1, 388), (388, .invokevirtual 45, 3, 391), (391, .aload_n 2, 1, 392), (392, .aload_n 0, 1, 393), (393, .iload_n 3, 1, 394), (394, .iconst 1, 1, 395), (395, .iadd, 1, 396), (396, .iaload, 1, 397), (397, .aload_n 0, 1, 398), (398, .iload_n 3, 1, 399), (399, .iconst 2, 1, 400), (400, .iadd, 1, 401), (401, .iaload, 1, 402), (402, .invokevirtual 48, 3, 405), (405, .if_icmp .eq 717, 3, 408), (408, .iconst 0, 1, 409), (409, .ireturn, 1, 410)]
theorem id_l7 : ∀ q ∈ it_l7, decode code q.1 = .ok (q.2.1, q.2.2.1) ∧ q.1 + q.2.2.1 = q.2.2.2 := by decide +kernel
theorem dc_l7 {pc : Nat} {i : Instr} {n pc' : Nat} (j : Nat) (h : it_l7[j]? = some (pc, i, n, pc')) : Dc code pc i n pc' := dc_of id_l7 j h
def it_l8 : List (Nat × Instr × Nat × Nat) := [(410, .aload_n 1, 1, 411), (411, .invokevirtual 49, 3, 414), (414, .aload_n 2, 1, 415), (415, .invokevirtual 52, 3, 418), (418, .if_icmp .eq 704, 3, 421), (421, .iconst 0, 1, 422), (422, .ireturn, 1, 423)]
theorem id_l8 : ∀ q ∈ it_l8, decode code q.1 = .ok (q.2.1, q.2.2.1) ∧ q.1 + q.2.2.1 = q.2.2.2 := by decide +kernel
theorem dc_l8 {pc : Nat} {i : Instr} {n pc' : Nat} (j : Nat) (h : it_l8[j]? = some (pc, i, n, pc')) : Dc code pc i n pc' := dc_of id_l8 j h
def it_l9 : List (Nat × Instr × Nat × Nat) := [(423, .aload_n 1, 1, 424), (424, .aload_n 0, 1, 425), (425, .iload_n 3, 1, 426), (426, .iconst 1, 1, 427), (427, .iadd, 1, 428), (428, .iaload, 1, 429), (429, .aload_n 0, 1, 430), (430, .iload_n 3, 1, 431), (431, .iconst 2, 1, 432), (432, .iadd, 1, 433), (433, .iaload, 1, 434), (434, .invokevirtual 53, 3, 437), (437, .aload_n 2, 1, 438), (438, .aload_n 0, 1, 439), (439, .iload_n 3, 1, 440), (440, .iconst 1, 1, 441), (441, .iadd, 1, 442), (442, .iaload, 1, 443), (443, .aload_n 0, 1, 444), (444, .iload_n 3, 1, 445), (445, .iconst 2, 1, 446), (446, .iadd, 1, 447), (447, .iaload, 1, 448), (448, .invokevirtual 56, 3, 451), (451, .if_icmp .eq 671, 3, 454), (454, .iconst 0, 1, 455), (455, .ireturn, 1, 456)]
theorem id_l9 : ∀ q ∈ it_l9, decode code q.1 = .ok (q.2.1, q.2.2.1) ∧ q.1 + q.2.2.1 = q.2.2.2 := by decide +kernel
theorem dc_l9 {pc : Nat} {i : Instr} {n pc' : Nat} (j : Nat) (h : it_l9[j]? = some (pc, i, n, pc')) : Dc code pc i n pc' := dc_of id_l9 j h
def it_l10 : List (Nat × Instr × Nat × Nat) := [(456, .aload_n 1, 1, 457), (457, .aload_n 0, 1, 458), (458, .iload_n 3, 1, 459), (459, .iconst 1, 1, 460), (460, .iadd, 1, 461), (461, .iaload, 1, 462), (462, .aload_n 0, 1, 463), (463, .iload_n 3, 1, 464), (464, .iconst 2, 1, 465), (465, .iadd, 1, 466), (466, .iaload, 1, 467), (467, .invokevirtual 57, 3, 470), (470, .aload_n 2, 1, 471), (471, .aload_n 0, 1, 472), (472, .iload_n 3, 1, 473), (473, .iconst 1, 1, 474), (474, .iadd, 1, 475), (475, .iaload, 1, 476), (476, .aload_n 0, 1, 477), (477, .iload_n 3, 1, 478), (478, .iconst 2, 1, 479), (479, .iadd, 1, 480), (480, .iaload, 1, 481), (481, .invokevirtual 60, 3, 484), (484, .if_icmp .eq 638, 3, 487), (487, .iconst 0, 1, 488), (488, .ireturn, 1, 489)]
theorem id_l10 : ∀ q ∈ it_l10, decode code q.1 = .ok (q.2.1, q.2.2.1) ∧ q.1 + q.2.2.1 = q.2.2.2 := by decide +kernel
theorem dc_l10 {pc : Nat} {i : Instr} {n pc' : Nat} (j : Nat) (h : it_l10[j]? = some (pc, i, n, pc')) : Dc code pc i n pc' := dc_of id_l10 j h
def it_l11 : List (Nat × Instr × Nat × Nat) := [(489, .aload_n 1, 1, 490), (490, .aload_n 0, 1, 491), (491, .iload_n 3, 1, 492), (492, .iconst 1, 1, 493), (493, .iadd, 1, 494), (494, .iaload, 1, 495), (495, .aload_n 0, 1, 496), (496, .iload_n 3, 1, 497), (497, .iconst 2, 1, 498), (498, .iadd, 1, 499), (499, .iaload, 1, 500), (500, .invokevirtual 61, 3, 503), (503, .aload_n 2, 1, 504), (504, .aload_n 0, 1, 505), (505, .iload_n 3, 1, 506), (506, .iconst 1, 1, 507), (507, .iadd, 1, 508), (508, .iaload, 1, 509), (509, .aload_n 0, 1, 510), (510, .iload_n 3, 1, 511), (511, .iconst 2, 1, 512), (512, .iadd, 1, 513), (513, .iaload, 1, 514), (514, .invokevirtual 64, 3, 517), (517, .if_icmp .eq 605, 3, 520), (520, .iconst 0, 1, 521), (521, .ireturn, 1, 522)]
theorem id_l11 : ∀ q ∈ it_l11, decode code q.1 = .ok (q.2.1, q.2.2.1) ∧ q.1 + q.2.2.1 = q.2.2.2 := by decide +kernel
theorem dc_l11 {pc : Nat} {i : Instr} {n pc' : Nat} (j : Nat) (h : it_l11[j]? = some (pc, i, n, pc')) : Dc code pc i n pc' := dc_of id_l11 j h
def it_l12 : List (Nat × Instr × Nat × Nat) := [(522, .aload_n 1, 1, 523), (523, .aload_n 0, 1, 524), (524, .iload_n 3, 1, 525), (525, .iconst 1, 1, 526), (526, .iadd, 1, 527), (527, .iaload, 1, 528), (528, .invokevirtual 65, 3, 531), (531, .aload_n 2, 1, 532), (532, .aload_n 0, 1, 533), (533, .iload_n 3, 1, 534), (534, .iconst 1, 1, 535), (535, .iadd, 1, 536), (536, .iaload, 1, 537), (537, .invokevirtual 68, 3, 540), (540, .if_icmp .eq 582, 3, 543), (543, .iconst 0, 1, 544), (544, .ireturn, 1, 545)]
theorem id_l12 : ∀ q ∈ it_l12, decode code q.1 = .ok (q.2.1, q.2.2.1) ∧ q.1 + q.2.2.1 = q.2.2.2 := by decide +kernel
theorem dc_l12 {pc : Nat} {i : Instr} {n pc' : Nat} (j : Nat) (h : it_l12[j]? = some (pc, i, n, pc')) : Dc code pc i n pc' := dc_of id_l12 j h
def it_l13 : List (Nat × Instr × Nat × Nat) := [(545, .aload_n 1, 1, 546), (546, .invokevirtual 69, 3, 549), (549, .aload_n 2, 1, 550), (550, .invokevirtual 72, 3, 553), (553, .if_icmp .eq 569, 3, 556), (556, .iconst 0, 1, 557), (557, .ireturn, 1, 558)]
theorem id_l13 : ∀ q ∈ it_l13, decode code q.1 = .ok (q.2.1, q.2.2.1) ∧ q.1 + q.2.2.1 = q.2.2.2 := by decide +kernel
theorem dc_l13 {pc : Nat} {i : Instr} {n pc' : Nat} (j : Nat) (h : it_l13[j]? = some (pc, i, n, pc')) : Dc code pc i n pc' := dc_of id_l13 j h
def it_l14 : List (Nat × Instr × Nat × Nat) := [(558, .aload_n 1, 1, 559), (559, .aload_n 0, 1, 560), (560, .iload_n 3, 1, 561), (561, .iconst 1, 1, 562), (562, .iadd, 1, 563), (563, .iaload, 1, 564), (564, .aload_n 0, 1, 565), (565, .iload_n 3, 1, 566), (566, .iconst 2, 1, 567), (567, .iadd, 1, 568), (568, .iaload, 1, 569), (569, .aload_n 0, 1, 570), (570, .iload_n 3, 1, 571), (571, .iconst 3, 1, 572), (572, .iadd, 1, 573), (573, .iaload, 1, 574), (574, .invokevirtual 73, 3, 577), (577, .aload_n 2, 1, 578), (578, .aload_n 0, 1, 579), (579, .iload_n 3, 1, 580), (580, .iconst 1, 1, 581), (581, .iadd, 1, 582), (582, .iaload, 1, 583), (583, .aload_n 0, 1, 584), (584, .iload_n 3, 1, 585), (585, .iconst 2, 1, 586), (586, .iadd, 1, 587), (587, .iaload, 1, 588), (588, .aload_n 0, 1, 589), (589, .iload_n 3, 1, 590), (590, .iconst 3, 1, 591), (591, .iadd, 1, 592), (592, .iaload, 1, 593), (593, .invokevirtual 77, 3, 596), (596, .if_icmp .eq 526, 3, 599), (599, .iconst 0, 1, 600), (600, .ireturn, 1, 601)]
theorem id_l14 : ∀ q ∈ it_l14, decode code q.1 = .ok (q.2.1, q.2.2.1) ∧ q.1 + q.2.2.1 = q.2.2.2 := by decide +kernel
theorem dc_l14 {pc : Nat} {i : Instr} {n pc' : Nat} (j : Nat) (h : it_l14[j]? = some (pc, i, n, pc')) : Dc code pc i n pc' := dc_of id_l14 j h
def it_l15 : List (Nat × Instr × Nat × Nat) := [(601, .aload_n 1, 1, 602), (602, .aload_n 0, 1, 603), (603, .iload_n 3, 1, 604), (604, .iconst 1, 1, 605), (605, .iadd, 1, 606), (606, .iaload, 1, 607), (607, .invokevirtual 78, 3, 610), (610, .aload_n 2, 1, 611), (611, .aload_n 0, 1, 612), (612, .iload_n 3, 1, 613), (613, .iconst 1, 1, 614), (614, .iadd, 1, 615), (615, .iaload, 1, 616), (616, .invokevirtual 81, 3, 619), (619, .if_icmp .eq 503, 3, 622), (622, .iconst 0, 1, 623), (623, .ireturn, 1, 624)]
theorem id_l15 : ∀ q ∈ it_l15, decode code q.1 = .ok (q.2.1, q.2.2.1) ∧ q.1 + q.2.2.1 = q.2.2.2 := by decide +kernel
theorem dc_l15 {pc : Nat} {i : Instr} {n pc' : Nat} (j : Nat) (h : it_l15[j]? = some (pc, i, n, pc')) : Dc code pc i n pc' := dc_of id_l15 j h
def it_l16 : List (Nat × Instr × Nat × Nat) := [(624, .aload_n 1, 1, 625), (625, .aload_n 0, 1, 626), (626, .iload_n 3, 1, 627), (627, .iconst 1, 1, 628), (628, .iadd, 1, 629), (629, .iaload, 1, 630), (630, .aload_n 0, 1, 631), (631, .iload_n 3, 1, 632), (632, .iconst 2, 1, 633), (633, .iadd, 1, 634), (634, .iaload, 1, 635), (635, .invokevirtual 82, 3, 638), (638, .aload_n 2, 1, 639), (639, .aload_n 0, 1, 640), (640, .iload_n 3, 1, 641), (641, .iconst 1, 1, 642), (642, .iadd, 1, 643), (643, .iaload, 1, 644), (644, .aload_n 0, 1, 645), (645, .iload_n 3, 1, 646), (646, .iconst 2, 1, 647), (647, .iadd, 1, 648), (648, .iaload, 1, 649), (649, .invokevirtual 85, 3, 652), (652, .if_icmp .eq 470, 3, 655), (655, .iconst 0, 1, 656), (656, .ireturn, 1, 657)]
theorem id_l16 : ∀ q ∈ it_l16, decode code q.1 = .ok (q.2.1, q.2.2.1) ∧ q.1 + q.2.2.1 = q.2.2.2 := by decide +kernel
theorem dc_l16 {pc : Nat} {i : Instr} {n pc' : Nat} (j : Nat) (h : it_l16[j]? = some (pc, i, n, pc')) : Dc code pc i n pc' := dc_of id_l16 j h
def it_l17 : List (Nat × Instr × Nat × Nat) := [(657, .aload_n 1, 1, 658), (658, .aload_n 0, 1, 659), (659, .iload_n 3, 1, 660), (660, .iconst 1, 1, 661), (661, .iadd, 1, 662), (662, .iaload, 1, 663), (663, .aload_n 0, 1, 664), (664, .iload_n 3, 1, 665), (665, .iconst 2, 1, 666), (666, .iadd, 1, 667), (667, .iaload, 1, 668), (668, .aload_n 0, 1, 669), (669, .iload_n 3, 1, 670), (670, .iconst 3, 1, 671), (671, .iadd, 1, 672), (672, .iaload, 1, 673), (673, .invokevirtual 86, 3, 676), (676, .aload_n 2, 1, 677), (677, .aload_n 0, 1, 678), (678, .iload_n 3, 1, 679), (679, .iconst 1, 1, 680), (680, .iadd, 1, 681), (681, .iaload, 1, 682), (682, .aload_n 0, 1, 683), (683, .iload_n 3, 1, 684), (684, .iconst 2, 1, 685), (685, .iadd, 1, 686), (686, .iaload, 1, 687), (687, .aload_n 0, 1, 688), (688, .iload_n 3, 1, 689), (689, .iconst 3, 1, 690), (690, .iadd, 1, 691), (691, .iaload, 1, 692), (692, .invokevirtual 89, 3, 695), (695, .if_icmp .eq 427, 3, 698), (698, .iconst 0, 1, 699), (699, .ireturn, 1, 700)]
theorem id_l17 : ∀ q ∈ it_l17, decode code q.1 = .ok (q.2.1, q.2.2.1) ∧ q.1 + q.2.2.1 = q.2.2.2 := by decide +kernel
theorem dc_l17 {pc : Nat} {i : Instr} {n pc' : Nat} (j : Nat) (h : it_l17[j]? = some (pc, i, n, pc')) : Dc code pc i n pc' := dc_of id_l17 j h
def it_l18 : List (Nat × Instr × Nat × Nat) := [(700, .aload_n 1, 1, 701), (701, .aload_n 0, 1, 702), (702, .iload_n 3, 1, 703), (703, .iconst 1, 1, 704), (704, .iadd, 1, 705), (705, .iaload, 1, 706), (706, .aload_n 0, 1, 707), (707, .iload_n 3, 1, 708), (708, .iconst 2, 1, 709), (709, .iadd, 1, 710), (710, .iaload, 1, 711), (711, .invokevirtual 90, 3, 714), (714, .aload_n 2, 1, 715), (715, .aload_n 0, 1, 716), (716, .iload_n 3, 1, 717), (717, .iconst 1, 1, 718), (718, .iadd, 1, 719), (719, .iaload, 1, 720), (720, .aload_n 0, 1, 721), (721, .iload_n 3, 1, 722), (722, .iconst 2, 1, 723), (723, .iadd, 1, 724), (724, .iaload, 1, 725), (725, .invokevirtual 93, 3, 728), (728, .if_icmp .eq 394, 3, 731), (731, .iconst 0, 1, 732), (732, .ireturn, 1, 733)]
theorem id_l18 : ∀ q ∈ it_l18, decode code q.1 = .ok (q.2.1, q.2.2.1) ∧ q.1 + q.2.2.1 = q.2.2.2 := by decide +kernel
theorem dc_l18 {pc : Nat} {i : Instr} {n pc' : Nat} (j : Nat) (h : it_l18[j]? = some (pc, i, n, pc')) : Dc code pc i n pc' := dc_of id_l18 j h
def it_l19 : List (Nat × Instr × Nat × Nat) := [(733, .aload_n 1, 1, 734), (734, .aload_n 0, 1, 735), (735, .iload_n 3, 1, 736), (736, .iconst 1, 1, 737), (737, .iadd, 1, 738), (738, .iaload, 1, 739), (739, .invokevirtual 94, 3, 742), (742, .aload_n 2, 1, 743), (743, .aload_n 0, 1, 744), (744, .iload_n 3, 1, 745), (745, .iconst 1, 1, 746), (746, .iadd, 1, 747), (747, .iaload, 1, 748), (748, .invokevirtual 97, 3, 751), (751, .if_icmp .eq 371, 3, 754), (754, .iconst 0, 1, 755), (755, .ireturn, 1, 756)]
theorem id_l19 : ∀ q ∈ it_l19, decode code q.1 = .ok (q.2.1, q.2.2.1) ∧ q.1 + q.2.2.1 = q.2.2.2 := by decide +kernel
theorem dc_l19 {pc : Nat} {i : Instr} {n pc' : Nat} (j : Nat) (h : it_l19[j]? = some (pc, i, n, pc')) : Dc code pc i n pc' := dc_of id_l19 j h
def it_l20 : List (Nat × Instr × Nat × Nat) := [(756, .aload_n 1, 1, 757), (757, .aload_n 0, 1, 758), (758, .iload_n 3, 1, 759), (759, .iconst 1, 1, 760), (760, .iadd, 1, 761), (761, .iaload, 1, 762), (762, .aload_n 0, 1, 763), (763, .iload_n 3, 1, 764), (764, .iconst 2, 1, 765), (765, .iadd, 1, 766), (766, .iaload, 1, 767), (767, .invokevirtual 98, 3, 770), (770, .aload_n 2, 1, 771), (771, .aload_n 0, 1, 772), (772, .iload_n 3, 1, 773), (773, .iconst 1, 1, 774), (774, .iadd, 1, 775), (775, .iaload, 1, 776), (776, .aload_n 0, 1, 777), (777, .iload_n 3, 1, 778), (778, .iconst 2, 1, 779), (779, .iadd, 1, 780), (780, .iaload, 1, 781), (781, .invokevirtual 101, 3, 784), (784, .if_icmp .eq 338, 3, 787), (787, .iconst 0, 1, 788), (788, .ireturn, 1, 789)]
theorem id_l20 : ∀ q ∈ it_l20, decode code q.1 = .ok (q.2.1, q.2.2.1) ∧ q.1 + q.2.2.1 = q.2.2.2 := by decide +kernel
theorem dc_l20 {pc : Nat} {i : Instr} {n pc' : Nat} (j : Nat) (h : it_l20[j]? = some (pc, i, n, pc')) : Dc code pc i n pc' := dc_of id_l20 j h
def it_l21 : List (Nat × Instr × Nat × Nat) := [(789, .aload_n 1, 1, 790), (790, .aload_n 0, 1, 791), (791, .iload_n 3, 1, 792), (792, .iconst 1, 1, 793), (793, .iadd, 1, 794), (794, .iaload, 1, 795), (795, .aload_n 0, 1, 796), (796, .iload_n 3, 1, 797), (797, .iconst 2, 1, 798), (798, .iadd, 1, 799), (799, .iaload, 1, 800), (800, .invokevirtual 102, 3, 803), (803, .aload_n 2, 1, 804), (804, .aload_n 0, 1, 805), (805, .iload_n 3, 1, 806), (806, .iconst 1, 1, 807), (807, .iadd, 1, 808), (808, .iaload, 1, 809), (809, .aload_n 0, 1, 810), (810, .iload_n 3, 1, 811), (811, .iconst 2, 1, 812), (812, .iadd, 1, 813), (813, .iaload, 1, 814), (814, .invokevirtual 105, 3, 817), (817, .if_icmp .eq 305, 3, 820), (820, .iconst 0, 1, 821), (821, .ireturn, 1, 822)]
theorem id_l21 : ∀ q ∈ it_l21, decode code q.1 = .ok (q.2.1, q.2.2.1) ∧ q.1 + q.2.2.1 = q.2.2.2 := by decide +kernel
theorem dc_l21 {pc : Nat} {i : Instr} {n pc' : Nat} (j : Nat) (h : it_l21[j]? = some (pc, i, n, pc')) : Dc code pc i n pc' := dc_of id_l21 j h
def it_l22 : List (Nat × Instr × Nat × Nat) := [(822, .aload_n 1, 1, 823), (823, .aload_n 0, 1, 824), (824, .iload_n 3, 1, 825), (825, .iconst 1, 1, 826), (826, .iadd, 1, 827), (827, .iaload, 1, 828), (828, .aload_n 0, 1, 829), (829, .iload_n 3, 1, 830), (830, .iconst 2, 1, 831), (831, .iadd, 1, 832), (832, .iaload, 1, 833), (833, .invokevirtual 106, 3, 836), (836, .aload_n 2, 1, 837), (837, .aload_n 0, 1, 838), (838, .iload_n 3, 1, 839), (839, .iconst 1, 1, 840), (840, .iadd, 1, 841), (841, .iaload, 1, 842), (842, .aload_n 0, 1, 843), (843, .iload_n 3, 1, 844), (844, .iconst 2, 1, 845), (845, .iadd, 1, 846), (846, .iaload, 1, 847), (847, .invokevirtual 109, 3, 850), (850, .if_icmp .eq 272, 3, 853), (853, .iconst 0, 1, 854), (854, .ireturn, 1, 855)]
theorem id_l22 : ∀ q ∈ it_l22, decode code q.1 = .ok (q.2.1, q.2.2.1) ∧ q.1 + q.2.2.1 = q.2.2.2 := by decide +kernel
theorem dc_l22 {pc : Nat} {i : Instr} {n pc' : Nat} (j : Nat) (h : it_l22[j]? = some (pc, i, n, pc')) : Dc code pc i n pc' := dc_of id_l22 j h
def it_l23 : List (Nat × Instr × Nat × Nat) := [(855, .aload_n 1, 1, 856), (856, .aload_n 0, 1, 857), (857, .iload_n 3, 1, 858), (858, .iconst 1, 1, 859), (859, .iadd, 1, 860), (860, .iaload, 1, 861), (861, .invokevirtual 110, 3, 864), (864, .aload_n 2, 1, 865), (865, .aload_n 0, 1, 866), (866, .iload_n 3, 1, 867), (867, .iconst 1, 1, 868), (868, .iadd, 1, 869), (869, .iaload, 1, 870), (870, .invokevirtual 113, 3, 873), (873, .if_icmp .eq 249, 3, 876), (876, .iconst 0, 1, 877), (877, .ireturn, 1, 878)]
theorem id_l23 : ∀ q ∈ it_l23, decode code q.1 = .ok (q.2.1, q.2.2.1) ∧ q.1 + q.2.2.1 = q.2.2.2 := by decide +kernel
theorem dc_l23 {pc : Nat} {i : Instr} {n pc' : Nat} (j : Nat) (h : it_l23[j]? = some (pc, i, n, pc')) : Dc code pc i n pc' := dc_of id_l23 j h
def it_l24 : List (Nat × Instr × Nat × Nat) := [(878, .aload_n 1, 1, 879), (879, .aload_n 0, 1, 880), (880, .iload_n 3, 1, 881), (881, .iconst 1, 1, 882), (882, .iadd, 1, 883), (883, .iaload, 1, 884), (884, .aload_n 0, 1, 885), (885, .iload_n 3, 1, 886), (886, .iconst 2, 1, 887), (887, .iadd, 1, 888), (888, .iaload, 1, 889), (889, .aload_n 0, 1, 890), (890, .iload_n 3, 1, 891), (891, .iconst 3, 1, 892), (892, .iadd, 1, 893), (893, .iaload, 1, 894), (894, .invokevirtual 114, 3, 897), (897, .aload_n 2, 1, 898), (898, .aload_n 0, 1, 899), (899, .iload_n 3, 1, 900), (900, .iconst 1, 1, 901), (901, .iadd, 1, 902), (902, .iaload, 1, 903), (903, .aload_n 0, 1, 904), (904, .iload_n 3, 1, 905), (905, .iconst 2, 1, 906), (906, .iadd, 1, 907), (907, .iaload, 1, 908), (908, .aload_n 0, 1, 909), (909, .iload_n 3, 1, 910), (910, .iconst 3, 1, 911), (911, .iadd, 1, 912), (912, .iaload, 1, 913), (913, .invokevirtual 117, 3, 916), (916, .if_icmp .eq 206, 3, 919), (919, .iconst 0, 1, 920), (920, .ireturn, 1, 921)]
theorem id_l24 : ∀ q ∈ it_l24, decode code q.1 = .ok (q.2.1, q.2.2.1) ∧ q.1 + q.2.2.1 = q.2.2.2 := by decide +kernel
theorem dc_l24 {pc : Nat} {i : Instr} {n pc' : Nat} (j : Nat) (h : it_l24[j]? = some (pc, i, n, pc')) : Dc code pc i n pc' := dc_of id_l24 j h
def it_l25 : List (Nat × Instr × Nat × Nat) := [(921, .aload_n 1, 1, 922), (922, .aload_n 0, 1, 923), (923, .iload_n 3, 1, 924), (924, .iconst 1, 1, 925), (925, .iadd, 1, 926), (926, .iaload, 1, 927), (927, .invokevirtual 118, 3, 930), (930, .aload_n 2, 1, 931), (931, .aload_n 0, 1, 932), (932, .iload_n 3, 1, 933), (933, .iconst 1, 1, 934), (934, .iadd, 1, 935), (935, .iaload, 1, 936), (936, .invokevirtual 121, 3, 939), (939, .if_icmp .eq 183, 3, 942), (942, .iconst 0, 1, 943), (943, .ireturn, 1, 944)]
theorem id_l25 : ∀ q ∈ it_l25, decode code q.1 = .ok (q.2.1, q.2.2.1) ∧ q.1 + q.2.2.1 = q.2.2.2 := by decide +kernel
theorem dc_l25 {pc : Nat} {i : Instr} {n pc' : Nat} (j : Nat) (h : it_l25[j]? = some (pc, i, n, pc')) : Dc code pc i n pc' := dc_of id_l25 j h
def it_l26 : List (Nat × Instr × Nat × Nat) := [(944, .aload_n 1, 1, 945), (945, .aload_n 0, 1, 946), (946, .iload_n 3, 1, 947), (947, .iconst 1, 1, 948), (948, .iadd, 1, 949), (949, .iaload, 1, 950), (950, .aload_n 0, 1, 951), (951, .iload_n 3, 1, 952), (952, .iconst 2, 1, 953), (953, .iadd, 1, 954), (954, .iaload, 1, 955), (955, .invokevirtual 122, 3, 958), (958, .aload_n 2, 1, 959), (959, .aload_n 0, 1, 960), (960, .iload_n 3, 1, 961), (961, .iconst 1, 1, 962), (962, .iadd, 1, 963), (963, .iaload, 1, 964), (964, .aload_n 0, 1, 965), (965, .iload_n 3, 1, 966), (966, .iconst 2, 1, 967), (967, .iadd, 1, 968), (968, .iaload, 1, 969), (969, .invokevirtual 125, 3, 972), (972, .if_icmp .eq 150, 3, 975), (975, .iconst 0, 1, 976), (976, .ireturn, 1, 977)]
theorem id_l26 : ∀ q ∈ it_l26, decode code q.1 = .ok (q.2.1, q.2.2.1) ∧ q.1 + q.2.2.1 = q.2.2.2 := by decide +kernel
theorem dc_l26 {pc : Nat} {i : Instr} {n pc' : Nat} (j : Nat) (h : it_l26[j]? = some (pc, i, n, pc')) : Dc code pc i n pc' := dc_of id_l26 j h
def it_l27 : List (Nat × Instr × Nat × Nat) := [(977, .aload_n 1, 1, 978), (978, .aload_n 0, 1, 979), (979, .iload_n 3, 1, 980), (980, .iconst 1, 1, 981), (981, .iadd, 1, 982), (982, .iaload, 1, 983), (983, .invokevirtual 126, 3, 986), (986, .aload_n 2, 1, 987), (987, .aload_n 0, 1, 988), (988, .iload_n 3, 1, 989), (989, .iconst 1, 1, 990), (990, .iadd, 1, 991), (991, .iaload, 1, 992), (992, .invokevirtual 129, 3, 995), (995, .if_icmp .eq 127, 3, 998), (998, .iconst 0, 1, 999), (999, .ireturn, 1, 1000)]
theorem id_l27 : ∀ q ∈ it_l27, decode code q.1 = .ok (q.2.1, q.2.2.1) ∧ q.1 + q.2.2.1 = q.2.2.2 := by decide +kernel
theorem dc_l27 {pc : Nat} {i : Instr} {n pc' : Nat} (j : Nat) (h : it_l27[j]? = some (pc, i, n, pc')) : Dc code pc i n pc' := dc_of id_l27 j h
def it_l28 : List (Nat × Instr × Nat × Nat) := [(1000, .aload_n 1, 1, 1001), (1001, .aload_n 0, 1, 1002), (1002, .iload_n 3, 1, 1003), (1003, .iconst 1, 1, 1004), (1004, .iadd, 1, 1005), (1005, .iaload, 1, 1006), (1006, .aload_n 0, 1, 1007), (1007, .iload_n 3, 1, 1008), (1008, .iconst 2, 1, 1009), (1009, .iadd, 1, 1010), (1010, .iaload, 1, 1011), (1011, .aload_n 0, 1, 1012), (1012, .iload_n 3, 1, 1013), (1013, .iconst 3, 1, 1014), (1014, .iadd, 1, 1015), (1015, .iaload, 1, 1016), (1016, .aload_n 0, 1, 1017), (1017, .iload_n 3, 1, 1018), (1018, .iconst 4, 1, 1019), (1019, .iadd, 1, 1020), (1020, .iaload, 1, 1021), (1021, .invokevirtual 130, 3, 1024), (1024, .aload_n 2, 1, 1025), (1025, .aload_n 0, 1, 1026), (1026, .iload_n 3, 1, 1027), (1027, .iconst 1, 1, 1028), (1028, .iadd, 1, 1029), (1029, .iaload, 1, 1030), (1030, .aload_n 0, 1, 1031), (1031, .iload_n 3, 1, 1032), (1032, .iconst 2, 1, 1033), (1033, .iadd, 1, 1034), (1034, .iaload, 1, 1035), (1035, .aload_n 0, 1, 1036), (1036, .iload_n 3, 1, 1037), (1037, .iconst 3, 1, 1038), (1038, .iadd, 1, 1039), (1039, .iaload, 1, 1040), (1040, .aload_n 0, 1, 1041), (1041, .iload_n 3, 1, 1042), (1042, .iconst 4, 1, 1043), (1043, .iadd, 1, 1044), (1044, .iaload, 1, 1045), (1045, .invokevirtual 134, 3, 1048), (1048, .if_icmp .eq 74, 3, 1051), (1051, .iconst 0, 1, 1052), (1052, .ireturn, 1, 1053)]
theorem id_l28 : ∀ q ∈ it_l28, decode code q.1 = .ok (q.2.1, q.2.2.1) ∧ q.1 + q.2.2.1 = q.2.2.2 := by decide +kernel
theorem dc_l28 {pc : Nat} {i : Instr} {n pc' : Nat} (j : Nat) (h : it_l28[j]? = some (pc, i, n, pc')) : Dc code pc i n pc' := dc_of id_l28 j h
def it_l29 : List (Nat × Instr × Nat × Nat) := [(1053, .aload_n 1, 1, 1054), (1054, .aload_n 0, 1, 1055), (1055, .iload_n 3, 1, 1056), (1056, .iconst 1, 1, 1057), (1057, .iadd, 1, 1058), (1058, .iaload, 1, 1059), (1059, .invokevirtual 135, 3, 1062), (1062, .aload_n 2, 1, 1063), (1063, .aload_n 0, 1, 1064), (1064, .iload_n 3, 1, 1065), (1065, .iconst 1, 1, 1066), (1066, .iadd, 1, 1067), (1067, .iaload, 1, 1068), (1068, .invokevirtual 138, 3, 1071), (1071, .if_icmp .eq 51, 3, 1074), (1074, .iconst 0, 1, 1075), (1075, .ireturn, 1, 1076)]
theorem id_l29 : ∀ q ∈ it_l29, decode code q.1 = .ok (q.2.1, q.2.2.1) ∧ q.1 + q.2.2.1 = q.2.2.2 := by decide +kernel
theorem dc_l29 {pc : Nat} {i : Instr} {n pc' : Nat} (j : Nat) (h : it_l29[j]? = some (pc, i, n, pc')) : Dc code pc i n pc' := dc_of id_l29 j h
def it_l30 : List (Nat × Instr × Nat × Nat) := [(1076, .aload_n 1, 1, 1077), (1077, .aload_n 0, 1, 1078), (1078, .iload_n 3, 1, 1079), (1079, .iconst 1, 1, 1080), (1080, .iadd, 1, 1081), (1081, .iaload, 1, 1082), (1082, .invokevirtual 139, 3, 1085), (1085, .aload_n 2, 1, 1086), (1086, .aload_n 0, 1, 1087), (1087, .iload_n 3, 1, 1088), (1088, .iconst 1, 1, 1089), (1089, .iadd, 1, 1090), (1090, .iaload, 1, 1091), (1091, .invokevirtual 142, 3, 1094), (1094, .if_icmp .eq 28, 3, 1097), (1097, .iconst 0, 1, 1098), (1098, .ireturn, 1, 1099)]
theorem id_l30 : ∀ q ∈ it_l30, decode code q.1 = .ok (q.2.1, q.2.2.1) ∧ q.1 + q.2.2.1 = q.2.2.2 := by decide +kernel
theorem dc_l30 {pc : Nat} {i : Instr} {n pc' : Nat} (j : Nat) (h : it_l30[j]? = some (pc, i, n, pc')) : Dc code pc i n pc' := dc_of id_l30 j h
def it_l31 : List (Nat × Instr × Nat × Nat) := [(1099, .aload_n 1, 1, 1100), (1100, .aload_n 0, 1, 1101), (1101, .iload_n 3, 1, 1102), (1102, .iconst 1, 1, 1103), (1103, .iadd, 1, 1104), (1104, .iaload, 1, 1105), (1105, .invokevirtual 143, 3, 1108), (1108, .aload_n 2, 1, 1109), (1109, .aload_n 0, 1, 1110), (1110, .iload_n 3, 1, 1111), (1111, .iconst 1, 1, 1112), (1112, .iadd, 1, 1113), (1113, .iaload, 1, 1114), (1114, .invokevirtual 146, 3, 1117), (1117, .if_icmp .eq 5, 3, 1120), (1120, .iconst 0, 1, 1121), (1121, .ireturn, 1, 1122)]
theorem id_l31 : ∀ q ∈ it_l31, decode code q.1 = .ok (q.2.1, q.2.2.1) ∧ q.1 + q.2.2.1 = q.2.2.2 := by decide +kernel
theorem dc_l31 {pc : Nat} {i : Instr} {n pc' : Nat} (j : Nat) (h : it_l31[j]? = some (pc, i, n, pc')) : Dc code pc i n pc' := dc_of id_l31 j h
def stepX : Nat → (Nat → Int32) → MS → Option (Int32 × MS)
  | 0, a, σ => f_X11_feed (a 1) (a 2) (a 3) (a 4) (a 5) σ
  | 1, a, σ => f_X11_end (a 1) σ
  | 2, a, σ => f_X11_duchy  σ
  | 3, a, σ => f_X11_rule  σ
  | 4, a, σ => f_X11_force (a 1) σ
  | 5, a, σ => (f_X11_kind (a 1) (a 2) σ).map (fun r => (r, σ))
  | 6, a, σ => (f_X11_person (a 1) (a 2) σ).map (fun r => (r, σ))
  | 7, a, σ => (f_X11_work (a 1) (a 2) σ).map (fun r => (r, σ))
  | 8, a, σ => f_X11_hour  σ
  | 9, a, σ => f_X11_begin (a 1) (a 2) σ
  | 10, a, σ => f_X11_sneak (a 1) (a 2) σ
  | 11, a, σ => f_X11_hand (a 1) (a 2) σ
  | 12, a, σ => f_X11_drop (a 1) σ
  | 13, a, σ => f_X11_undo  σ
  | 14, a, σ => f_X11_ahead (a 1) (a 2) (a 3) σ
  | 15, a, σ => f_X11_stops (a 1) σ
  | 16, a, σ => f_X11_save (a 1) (a 2) σ
  | 17, a, σ => f_X11_relay (a 1) (a 2) (a 3) σ
  | 18, a, σ => (f_X11_most (a 1) (a 2) σ).map (fun r => (r, σ))
  | 19, a, σ => f_X11_chains (a 1) σ
  | 20, a, σ => (f_X11_tariff (a 1) (a 2) σ).map (fun r => (r, σ))
  | 21, a, σ => f_X11_help (a 1) (a 2) σ
  | 22, a, σ => f_X11_value (a 1) (a 2) σ
  | 23, a, σ => (f_X11_watch (a 1) σ).map (fun r => (r, σ))
  | 24, a, σ => f_X11_log (a 1) (a 2) (a 3) σ
  | 25, a, σ => f_X11_ruled (a 1) σ
  | 26, a, σ => f_X11_look (a 1) (a 2) σ
  | 27, a, σ => f_X11_seed (a 1) σ
  | 28, a, σ => f_X11_nights (a 1) (a 2) (a 3) (a 4) σ
  | 29, a, σ => (f_X11_count (a 1) σ).map (fun r => (r, σ))
  | 30, a, σ => f_X11_image (a 1) σ
  | 31, a, σ => f_X11_back (a 1) σ
  | _, _, σ => some (0, σ)
def stepM : Nat → (Nat → Int32) → MS → Option (Int32 × MS)
  | 0, a, σ => f_X12_feed (a 1) (a 2) (a 3) (a 4) (a 5) σ
  | 1, a, σ => f_X12_end (a 1) σ
  | 2, a, σ => f_X12_duchy  σ
  | 3, a, σ => f_X12_rule  σ
  | 4, a, σ => f_X12_force (a 1) σ
  | 5, a, σ => (f_X12_kind (a 1) (a 2) σ).map (fun r => (r, σ))
  | 6, a, σ => (f_X12_person (a 1) (a 2) σ).map (fun r => (r, σ))
  | 7, a, σ => (f_X12_work (a 1) (a 2) σ).map (fun r => (r, σ))
  | 8, a, σ => f_X12_hour  σ
  | 9, a, σ => f_X12_begin (a 1) (a 2) σ
  | 10, a, σ => f_X12_sneak (a 1) (a 2) σ
  | 11, a, σ => f_X12_hand (a 1) (a 2) σ
  | 12, a, σ => f_X12_drop (a 1) σ
  | 13, a, σ => f_X12_undo  σ
  | 14, a, σ => f_X12_ahead (a 1) (a 2) (a 3) σ
  | 15, a, σ => f_X12_stops (a 1) σ
  | 16, a, σ => f_X12_save (a 1) (a 2) σ
  | 17, a, σ => f_X12_relay (a 1) (a 2) (a 3) σ
  | 18, a, σ => (f_X12_most (a 1) (a 2) σ).map (fun r => (r, σ))
  | 19, a, σ => f_X12_chains (a 1) σ
  | 20, a, σ => (f_X12_tariff (a 1) (a 2) σ).map (fun r => (r, σ))
  | 21, a, σ => f_X12_help (a 1) (a 2) σ
  | 22, a, σ => f_X12_value_ (a 1) (a 2) σ
  | 23, a, σ => (f_X12_watch (a 1) σ).map (fun r => (r, σ))
  | 24, a, σ => f_X12_log (a 1) (a 2) (a 3) σ
  | 25, a, σ => f_X12_ruled (a 1) σ
  | 26, a, σ => f_X12_look (a 1) (a 2) σ
  | 27, a, σ => f_X12_seed (a 1) σ
  | 28, a, σ => f_X12_nights (a 1) (a 2) (a 3) (a 4) σ
  | 29, a, σ => (f_X12_count (a 1) σ).map (fun r => (r, σ))
  | 30, a, σ => f_X12_image (a 1) σ
  | 31, a, σ => f_X12_back (a 1) σ
  | _, _, σ => some (0, σ)
def avs (xs : Nat → Int32) (i : Int32) : Nat → Int32 := fun j => xs (i + Int32.ofNat j).toNatClampNeg
section LS
variable {p : Program} {l : Launch} {e : Env} {s : State} {m : MethodId} {below : List Frame} {meth : Method} {c : Code} {b Ln : Nat} {xs : Nat → Int32} {dA : Nat → Nat} {D : va_G} {adK adV : Nat → Nat} {u v pc : Nat} {i : Int32} {st : List Value} {σx σm : MS}
theorem l_arg {j p1 p2 p3 p4 p5 : Nat} {n : Int} (hF : LF p s m meth c b Ln xs dA D adK adV) (h0 : Dc code pc (.aload_n 0) 1 p1) (h1 : Dc code p1 (.iload_n 3) 1 p2) (h2 : Dc code p2 (.iconst n) 1 p3) (h3 : Dc code p3 .iadd 1 p4) (h4 : Dc code p4 .iaload 1 p5) (hj : Int32.ofInt n = Int32.ofNat j) (hin : vp_in (i + Int32.ofNat j) Ln) (k : LG p l e s m below meth c b dA D adK adV u v p5 i (.int (avs xs i j) :: st) σx σm) : LG p l e s m below meth c b dA D adK adV u v pc i st σx σm :=
  l_aload0 hF h0 (l_iload3 hF h1 (l_iconst hF h2 hj (l_iadd hF h3 (l_sld hF h4 hin k))))
theorem lc_0 {r : Int32} {σx' σm' : MS} (hF : LF p s m meth c b Ln xs dA D adK adV) (hin : ∀ j, j < 6 → vp_in (i + Int32.ofNat j) Ln) (hX : stepX 0 (avs xs i) σx = some (r, σx')) (hM : stepM 0 (avs xs i) σm = some (r, σm')) (hc : u + 105 ≤ 600000 ∧ v + 614 ≤ 7302250) (kk : ∀ u' v', u' ≤ u + 105 → v' ≤ v + 614 → LG p l e s m below meth c b dA D adK adV u' v' 1122 i [] σx' σm') : LG p l e s m below meth c b dA D adK adV u v 176 i [] σx σm := by
  obtain ⟨hcu, hcv⟩ := hc
  refine l_aload1 hF (dc_l0 0 rfl) ?_
  refine l_arg (j := 1) hF (dc_l0 1 rfl) (dc_l0 2 rfl) (dc_l0 3 rfl) (dc_l0 4 rfl) (dc_l0 5 rfl) (by decide) (hin 1 (by decide)) ?_
  refine l_arg (j := 2) hF (dc_l0 6 rfl) (dc_l0 7 rfl) (dc_l0 8 rfl) (dc_l0 9 rfl) (dc_l0 10 rfl) (by decide) (hin 2 (by decide)) ?_
  refine l_arg (j := 3) hF (dc_l0 11 rfl) (dc_l0 12 rfl) (dc_l0 13 rfl) (dc_l0 14 rfl) (dc_l0 15 rfl) (by decide) (hin 3 (by decide)) ?_
  refine l_arg (j := 4) hF (dc_l0 16 rfl) (dc_l0 17 rfl) (dc_l0 18 rfl) (dc_l0 19 rfl) (dc_l0 20 rfl) (by decide) (hin 4 (by decide)) ?_
  refine l_arg (j := 5) hF (dc_l0 21 rfl) (dc_l0 22 rfl) (dc_l0 23 rfl) (dc_l0 24 rfl) (dc_l0 25 rfl) (by decide) (hin 5 (by decide)) ?_
  refine l_callX (As := [.int (avs xs i 1), .int (avs xs i 2), .int (avs xs i 3), .int (avs xs i 4), .int (avs xs i 5)]) (r := (r, σx')) hF (dc_l0 26 rfl) ml_L_13 (con_X11_feed (oX_ok dA D adK adV s.heap.size) rfl (avs xs i 1) (avs xs i 2) (avs xs i 3) (avs xs i 4) (avs xs i 5) σx) hX rfl rfl ⟨Nat.le_of_ble_eq_true rfl, Nat.le_of_ble_eq_true rfl⟩ ⟨by show u + 0 ≤ _; omega, by show v + 0 ≤ _; omega⟩ (Nat.le_of_ble_eq_true rfl) ?_
  refine l_aload2 hF (dc_l0 27 rfl) ?_
  refine l_arg (j := 1) hF (dc_l0 28 rfl) (dc_l0 29 rfl) (dc_l0 30 rfl) (dc_l0 31 rfl) (dc_l0 32 rfl) (by decide) (hin 1 (by decide)) ?_
  refine l_arg (j := 2) hF (dc_l0 33 rfl) (dc_l0 34 rfl) (dc_l0 35 rfl) (dc_l0 36 rfl) (dc_l0 37 rfl) (by decide) (hin 2 (by decide)) ?_
  refine l_arg (j := 3) hF (dc_l0 38 rfl) (dc_l0 39 rfl) (dc_l0 40 rfl) (dc_l0 41 rfl) (dc_l0 42 rfl) (by decide) (hin 3 (by decide)) ?_
  refine l_arg (j := 4) hF (dc_l0 43 rfl) (dc_l0 44 rfl) (dc_l0 45 rfl) (dc_l0 46 rfl) (dc_l0 47 rfl) (by decide) (hin 4 (by decide)) ?_
  refine l_arg (j := 5) hF (dc_l0 48 rfl) (dc_l0 49 rfl) (dc_l0 50 rfl) (dc_l0 51 rfl) (dc_l0 52 rfl) (by decide) (hin 5 (by decide)) ?_
  refine l_callM (As := [.int (avs xs i 1), .int (avs xs i 2), .int (avs xs i 3), .int (avs xs i 4), .int (avs xs i 5)]) (r := (r, σm')) hF (dc_l0 53 rfl) ml_L_17 (fun h => con_X12_feed (oM_ok dA D adK adV s.heap.size h) rfl (avs xs i 1) (avs xs i 2) (avs xs i 3) (avs xs i 4) (avs xs i 5) σm) (fun _ => hM) (fun _ => rfl) rfl ⟨Nat.le_of_ble_eq_true rfl, Nat.le_of_ble_eq_true rfl⟩ ⟨by show u + 0 + 0 ≤ _; omega, by show v + 0 + 0 ≤ _; omega⟩ (Nat.le_of_ble_eq_true rfl) ?_
  refine l_icmp (tgt := 1122) hF (dc_l0 54 rfl) (by decide) rfl ?_
  exact kk _ _ (by show u + 0 + 0 ≤ _; omega) (by show v + 0 + 0 ≤ _; omega)
theorem lc_1 {r : Int32} {σx' σm' : MS} (hF : LF p s m meth c b Ln xs dA D adK adV) (hin : ∀ j, j < 6 → vp_in (i + Int32.ofNat j) Ln) (hX : stepX 1 (avs xs i) σx = some (r, σx')) (hM : stepM 1 (avs xs i) σm = some (r, σm')) (hc : u + 105 ≤ 600000 ∧ v + 614 ≤ 7302250) (kk : ∀ u' v', u' ≤ u + 105 → v' ≤ v + 614 → LG p l e s m below meth c b dA D adK adV u' v' 1122 i [] σx' σm') : LG p l e s m below meth c b dA D adK adV u v 239 i [] σx σm := by
  obtain ⟨hcu, hcv⟩ := hc
  refine l_aload1 hF (dc_l1 0 rfl) ?_
  refine l_arg (j := 1) hF (dc_l1 1 rfl) (dc_l1 2 rfl) (dc_l1 3 rfl) (dc_l1 4 rfl) (dc_l1 5 rfl) (by decide) (hin 1 (by decide)) ?_
  refine l_callX (As := [.int (avs xs i 1)]) (r := (r, σx')) hF (dc_l1 6 rfl) ml_L_18 (con_X11_end (oX_ok dA D adK adV s.heap.size) rfl (avs xs i 1) σx) hX rfl rfl ⟨Nat.le_of_ble_eq_true rfl, Nat.le_of_ble_eq_true rfl⟩ ⟨by show u + 0 ≤ _; omega, by show v + 0 ≤ _; omega⟩ (Nat.le_of_ble_eq_true rfl) ?_
  refine l_aload2 hF (dc_l1 7 rfl) ?_
  refine l_arg (j := 1) hF (dc_l1 8 rfl) (dc_l1 9 rfl) (dc_l1 10 rfl) (dc_l1 11 rfl) (dc_l1 12 rfl) (by decide) (hin 1 (by decide)) ?_
  refine l_callM (As := [.int (avs xs i 1)]) (r := (r, σm')) hF (dc_l1 13 rfl) ml_L_22 (fun h => con_X12_end (oM_ok dA D adK adV s.heap.size h) rfl (avs xs i 1) σm) (fun _ => hM) (fun _ => rfl) rfl ⟨Nat.le_of_ble_eq_true rfl, Nat.le_of_ble_eq_true rfl⟩ ⟨by show u + 0 + 0 ≤ _; omega, by show v + 0 + 0 ≤ _; omega⟩ (Nat.le_of_ble_eq_true rfl) ?_
  refine l_icmp (tgt := 1122) hF (dc_l1 14 rfl) (by decide) rfl ?_
  exact kk _ _ (by show u + 0 + 0 ≤ _; omega) (by show v + 0 + 0 ≤ _; omega)
theorem lc_2 {r : Int32} {σx' σm' : MS} (hF : LF p s m meth c b Ln xs dA D adK adV) (hin : ∀ j, j < 6 → vp_in (i + Int32.ofNat j) Ln) (hX : stepX 2 (avs xs i) σx = some (r, σx')) (hM : stepM 2 (avs xs i) σm = some (r, σm')) (hc : u + 105 ≤ 600000 ∧ v + 614 ≤ 7302250) (kk : ∀ u' v', u' ≤ u + 105 → v' ≤ v + 614 → LG p l e s m below meth c b dA D adK adV u' v' 1122 i [] σx' σm') : LG p l e s m below meth c b dA D adK adV u v 262 i [] σx σm := by
  obtain ⟨hcu, hcv⟩ := hc
  refine l_aload1 hF (dc_l2 0 rfl) ?_
  refine l_callX (As := []) (r := (r, σx')) hF (dc_l2 1 rfl) ml_L_23 (con_X11_duchy (oX_ok dA D adK adV s.heap.size) rfl  σx) hX rfl rfl ⟨Nat.le_of_ble_eq_true rfl, Nat.le_of_ble_eq_true rfl⟩ ⟨by show u + 0 ≤ _; omega, by show v + 0 ≤ _; omega⟩ (Nat.le_of_ble_eq_true rfl) ?_
  refine l_aload2 hF (dc_l2 2 rfl) ?_
  refine l_callM (As := []) (r := (r, σm')) hF (dc_l2 3 rfl) ml_L_27 (fun h => con_X12_duchy (oM_ok dA D adK adV s.heap.size h) rfl  σm) (fun _ => hM) (fun _ => rfl) rfl ⟨Nat.le_of_ble_eq_true rfl, Nat.le_of_ble_eq_true rfl⟩ ⟨by show u + 0 + 0 ≤ _; omega, by show v + 0 + 0 ≤ _; omega⟩ (Nat.le_of_ble_eq_true rfl) ?_
  refine l_icmp (tgt := 1122) hF (dc_l2 4 rfl) (by decide) rfl ?_
  exact kk _ _ (by show u + 0 + 0 ≤ _; omega) (by show v + 0 + 0 ≤ _; omega)
theorem lc_3 {r : Int32} {σx' σm' : MS} (hF : LF p s m meth c b Ln xs dA D adK adV) (hin : ∀ j, j < 6 → vp_in (i + Int32.ofNat j) Ln) (hX : stepX 3 (avs xs i) σx = some (r, σx')) (hM : stepM 3 (avs xs i) σm = some (r, σm')) (hc : u + 105 ≤ 600000 ∧ v + 614 ≤ 7302250) (kk : ∀ u' v', u' ≤ u + 105 → v' ≤ v + 614 → LG p l e s m below meth c b dA D adK adV u' v' 1122 i [] σx' σm') : LG p l e s m below meth c b dA D adK adV u v 275 i [] σx σm := by
  obtain ⟨hcu, hcv⟩ := hc
  refine l_aload1 hF (dc_l3 0 rfl) ?_
  refine l_callX (As := []) (r := (r, σx')) hF (dc_l3 1 rfl) ml_L_28 (con_X11_rule (oX_ok dA D adK adV s.heap.size) trivial rfl  σx) hX rfl rfl ⟨Nat.le_of_ble_eq_true rfl, Nat.le_of_ble_eq_true rfl⟩ ⟨by show u + 2 ≤ _; omega, by show v + 402 ≤ _; omega⟩ (Nat.le_of_ble_eq_true rfl) ?_
  refine l_aload2 hF (dc_l3 2 rfl) ?_
  refine l_callM (As := []) (r := (r, σm')) hF (dc_l3 3 rfl) ml_L_31 (fun h => con_X12_rule (oM_ok dA D adK adV s.heap.size h) rfl  σm) (fun _ => hM) (fun _ => rfl) rfl ⟨Nat.le_of_ble_eq_true rfl, Nat.le_of_ble_eq_true rfl⟩ ⟨by show u + 2 + 0 ≤ _; omega, by show v + 402 + 0 ≤ _; omega⟩ (Nat.le_of_ble_eq_true rfl) ?_
  refine l_icmp (tgt := 1122) hF (dc_l3 4 rfl) (by decide) rfl ?_
  exact kk _ _ (by show u + 2 + 0 ≤ _; omega) (by show v + 402 + 0 ≤ _; omega)
theorem lc_4 {r : Int32} {σx' σm' : MS} (hF : LF p s m meth c b Ln xs dA D adK adV) (hin : ∀ j, j < 6 → vp_in (i + Int32.ofNat j) Ln) (hX : stepX 4 (avs xs i) σx = some (r, σx')) (hM : stepM 4 (avs xs i) σm = some (r, σm')) (hc : u + 105 ≤ 600000 ∧ v + 614 ≤ 7302250) (kk : ∀ u' v', u' ≤ u + 105 → v' ≤ v + 614 → LG p l e s m below meth c b dA D adK adV u' v' 1122 i [] σx' σm') : LG p l e s m below meth c b dA D adK adV u v 288 i [] σx σm := by
  obtain ⟨hcu, hcv⟩ := hc
  refine l_aload1 hF (dc_l4 0 rfl) ?_
  refine l_arg (j := 1) hF (dc_l4 1 rfl) (dc_l4 2 rfl) (dc_l4 3 rfl) (dc_l4 4 rfl) (dc_l4 5 rfl) (by decide) (hin 1 (by decide)) ?_
  refine l_callX (As := [.int (avs xs i 1)]) (r := (r, σx')) hF (dc_l4 6 rfl) ml_L_32 (con_X11_force (oX_ok dA D adK adV s.heap.size) rfl (avs xs i 1) σx) hX rfl rfl ⟨Nat.le_of_ble_eq_true rfl, Nat.le_of_ble_eq_true rfl⟩ ⟨by show u + 0 ≤ _; omega, by show v + 0 ≤ _; omega⟩ (Nat.le_of_ble_eq_true rfl) ?_
  refine l_aload2 hF (dc_l4 7 rfl) ?_
  refine l_arg (j := 1) hF (dc_l4 8 rfl) (dc_l4 9 rfl) (dc_l4 10 rfl) (dc_l4 11 rfl) (dc_l4 12 rfl) (by decide) (hin 1 (by decide)) ?_
  refine l_callM (As := [.int (avs xs i 1)]) (r := (r, σm')) hF (dc_l4 13 rfl) ml_L_35 (fun h => con_X12_force (oM_ok dA D adK adV s.heap.size h) rfl (avs xs i 1) σm) (fun _ => hM) (fun _ => rfl) rfl ⟨Nat.le_of_ble_eq_true rfl, Nat.le_of_ble_eq_true rfl⟩ ⟨by show u + 0 + 0 ≤ _; omega, by show v + 0 + 0 ≤ _; omega⟩ (Nat.le_of_ble_eq_true rfl) ?_
  refine l_icmp (tgt := 1122) hF (dc_l4 14 rfl) (by decide) rfl ?_
  exact kk _ _ (by show u + 0 + 0 ≤ _; omega) (by show v + 0 + 0 ≤ _; omega)
theorem lc_5 {r : Int32} {σx' σm' : MS} (hF : LF p s m meth c b Ln xs dA D adK adV) (hin : ∀ j, j < 6 → vp_in (i + Int32.ofNat j) Ln) (hX : stepX 5 (avs xs i) σx = some (r, σx')) (hM : stepM 5 (avs xs i) σm = some (r, σm')) (hc : u + 105 ≤ 600000 ∧ v + 614 ≤ 7302250) (kk : ∀ u' v', u' ≤ u + 105 → v' ≤ v + 614 → LG p l e s m below meth c b dA D adK adV u' v' 1122 i [] σx' σm') : LG p l e s m below meth c b dA D adK adV u v 311 i [] σx σm := by
  obtain ⟨hcu, hcv⟩ := hc
  refine l_aload1 hF (dc_l5 0 rfl) ?_
  refine l_arg (j := 1) hF (dc_l5 1 rfl) (dc_l5 2 rfl) (dc_l5 3 rfl) (dc_l5 4 rfl) (dc_l5 5 rfl) (by decide) (hin 1 (by decide)) ?_
  refine l_arg (j := 2) hF (dc_l5 6 rfl) (dc_l5 7 rfl) (dc_l5 8 rfl) (dc_l5 9 rfl) (dc_l5 10 rfl) (by decide) (hin 2 (by decide)) ?_
  refine l_callX (As := [.int (avs xs i 1), .int (avs xs i 2)]) (r := (r, σx')) hF (dc_l5 11 rfl) ml_L_36 (con_PW (con_X11_kind (oX_ok dA D adK adV s.heap.size) rfl (avs xs i 1) (avs xs i 2) σx)) hX rfl rfl ⟨Nat.le_of_ble_eq_true rfl, Nat.le_of_ble_eq_true rfl⟩ ⟨by show u + 0 ≤ _; omega, by show v + 0 ≤ _; omega⟩ (Nat.le_of_ble_eq_true rfl) ?_
  refine l_aload2 hF (dc_l5 12 rfl) ?_
  refine l_arg (j := 1) hF (dc_l5 13 rfl) (dc_l5 14 rfl) (dc_l5 15 rfl) (dc_l5 16 rfl) (dc_l5 17 rfl) (by decide) (hin 1 (by decide)) ?_
  refine l_arg (j := 2) hF (dc_l5 18 rfl) (dc_l5 19 rfl) (dc_l5 20 rfl) (dc_l5 21 rfl) (dc_l5 22 rfl) (by decide) (hin 2 (by decide)) ?_
  refine l_callM (As := [.int (avs xs i 1), .int (avs xs i 2)]) (r := (r, σm')) hF (dc_l5 23 rfl) ml_L_40 (fun h => con_PW (con_X12_kind (oM_ok dA D adK adV s.heap.size h) rfl (avs xs i 1) (avs xs i 2) σm)) (fun _ => hM) (fun _ => rfl) rfl ⟨Nat.le_of_ble_eq_true rfl, Nat.le_of_ble_eq_true rfl⟩ ⟨by show u + 0 + 0 ≤ _; omega, by show v + 0 + 0 ≤ _; omega⟩ (Nat.le_of_ble_eq_true rfl) ?_
  refine l_icmp (tgt := 1122) hF (dc_l5 24 rfl) (by decide) rfl ?_
  exact kk _ _ (by show u + 0 + 0 ≤ _; omega) (by show v + 0 + 0 ≤ _; omega)
theorem lc_6 {r : Int32} {σx' σm' : MS} (hF : LF p s m meth c b Ln xs dA D adK adV) (hin : ∀ j, j < 6 → vp_in (i + Int32.ofNat j) Ln) (hX : stepX 6 (avs xs i) σx = some (r, σx')) (hM : stepM 6 (avs xs i) σm = some (r, σm')) (hc : u + 105 ≤ 600000 ∧ v + 614 ≤ 7302250) (kk : ∀ u' v', u' ≤ u + 105 → v' ≤ v + 614 → LG p l e s m below meth c b dA D adK adV u' v' 1122 i [] σx' σm') : LG p l e s m below meth c b dA D adK adV u v 344 i [] σx σm := by
  obtain ⟨hcu, hcv⟩ := hc
  refine l_aload1 hF (dc_l6 0 rfl) ?_
  refine l_arg (j := 1) hF (dc_l6 1 rfl) (dc_l6 2 rfl) (dc_l6 3 rfl) (dc_l6 4 rfl) (dc_l6 5 rfl) (by decide) (hin 1 (by decide)) ?_
  refine l_arg (j := 2) hF (dc_l6 6 rfl) (dc_l6 7 rfl) (dc_l6 8 rfl) (dc_l6 9 rfl) (dc_l6 10 rfl) (by decide) (hin 2 (by decide)) ?_
  refine l_callX (As := [.int (avs xs i 1), .int (avs xs i 2)]) (r := (r, σx')) hF (dc_l6 11 rfl) ml_L_41 (con_PW (con_X11_person (oX_ok dA D adK adV s.heap.size) rfl (avs xs i 1) (avs xs i 2) σx)) hX rfl rfl ⟨Nat.le_of_ble_eq_true rfl, Nat.le_of_ble_eq_true rfl⟩ ⟨by show u + 0 ≤ _; omega, by show v + 0 ≤ _; omega⟩ (Nat.le_of_ble_eq_true rfl) ?_
  refine l_aload2 hF (dc_l6 12 rfl) ?_
  refine l_arg (j := 1) hF (dc_l6 13 rfl) (dc_l6 14 rfl) (dc_l6 15 rfl) (dc_l6 16 rfl) (dc_l6 17 rfl) (by decide) (hin 1 (by decide)) ?_
  refine l_arg (j := 2) hF (dc_l6 18 rfl) (dc_l6 19 rfl) (dc_l6 20 rfl) (dc_l6 21 rfl) (dc_l6 22 rfl) (by decide) (hin 2 (by decide)) ?_
  refine l_callM (As := [.int (avs xs i 1), .int (avs xs i 2)]) (r := (r, σm')) hF (dc_l6 23 rfl) ml_L_44 (fun h => con_PW (con_X12_person (oM_ok dA D adK adV s.heap.size h) rfl (avs xs i 1) (avs xs i 2) σm)) (fun _ => hM) (fun _ => rfl) rfl ⟨Nat.le_of_ble_eq_true rfl, Nat.le_of_ble_eq_true rfl⟩ ⟨by show u + 0 + 0 ≤ _; omega, by show v + 0 + 0 ≤ _; omega⟩ (Nat.le_of_ble_eq_true rfl) ?_
  refine l_icmp (tgt := 1122) hF (dc_l6 24 rfl) (by decide) rfl ?_
  exact kk _ _ (by show u + 0 + 0 ≤ _; omega) (by show v + 0 + 0 ≤ _; omega)
theorem lc_7 {r : Int32} {σx' σm' : MS} (hF : LF p s m meth c b Ln xs dA D adK adV) (hin : ∀ j, j < 6 → vp_in (i + Int32.ofNat j) Ln) (hX : stepX 7 (avs xs i) σx = some (r, σx')) (hM : stepM 7 (avs xs i) σm = some (r, σm')) (hc : u + 105 ≤ 600000 ∧ v + 614 ≤ 7302250) (kk : ∀ u' v', u' ≤ u + 105 → v' ≤ v + 614 → LG p l e s m below meth c b dA D adK adV u' v' 1122 i [] σx' σm') : LG p l e s m below meth c b dA D adK adV u v 377 i [] σx σm := by
  obtain ⟨hcu, hcv⟩ := hc
  refine l_aload1 hF (dc_l7 0 rfl) ?_
  refine l_arg (j := 1) hF (dc_l7 1 rfl) (dc_l7 2 rfl) (dc_l7 3 rfl) (dc_l7 4 rfl) (dc_l7 5 rfl) (by decide) (hin 1 (by decide)) ?_
  refine l_arg (j := 2) hF (dc_l7 6 rfl) (dc_l7 7 rfl) (dc_l7 8 rfl) (dc_l7 9 rfl) (dc_l7 10 rfl) (by decide) (hin 2 (by decide)) ?_
  refine l_callX (As := [.int (avs xs i 1), .int (avs xs i 2)]) (r := (r, σx')) hF (dc_l7 11 rfl) ml_L_45 (con_PW (con_X11_work (oX_ok dA D adK adV s.heap.size) rfl (avs xs i 1) (avs xs i 2) σx)) hX rfl rfl ⟨Nat.le_of_ble_eq_true rfl, Nat.le_of_ble_eq_true rfl⟩ ⟨by show u + 0 ≤ _; omega, by show v + 0 ≤ _; omega⟩ (Nat.le_of_ble_eq_true rfl) ?_
  refine l_aload2 hF (dc_l7 12 rfl) ?_
  refine l_arg (j := 1) hF (dc_l7 13 rfl) (dc_l7 14 rfl) (dc_l7 15 rfl) (dc_l7 16 rfl) (dc_l7 17 rfl) (by decide) (hin 1 (by decide)) ?_
  refine l_arg (j := 2) hF (dc_l7 18 rfl) (dc_l7 19 rfl) (dc_l7 20 rfl) (dc_l7 21 rfl) (dc_l7 22 rfl) (by decide) (hin 2 (by decide)) ?_
  refine l_callM (As := [.int (avs xs i 1), .int (avs xs i 2)]) (r := (r, σm')) hF (dc_l7 23 rfl) ml_L_48 (fun h => con_PW (con_X12_work (oM_ok dA D adK adV s.heap.size h) rfl (avs xs i 1) (avs xs i 2) σm)) (fun _ => hM) (fun _ => rfl) rfl ⟨Nat.le_of_ble_eq_true rfl, Nat.le_of_ble_eq_true rfl⟩ ⟨by show u + 0 + 0 ≤ _; omega, by show v + 0 + 0 ≤ _; omega⟩ (Nat.le_of_ble_eq_true rfl) ?_
  refine l_icmp (tgt := 1122) hF (dc_l7 24 rfl) (by decide) rfl ?_
  exact kk _ _ (by show u + 0 + 0 ≤ _; omega) (by show v + 0 + 0 ≤ _; omega)
theorem lc_8 {r : Int32} {σx' σm' : MS} (hF : LF p s m meth c b Ln xs dA D adK adV) (hin : ∀ j, j < 6 → vp_in (i + Int32.ofNat j) Ln) (hX : stepX 8 (avs xs i) σx = some (r, σx')) (hM : stepM 8 (avs xs i) σm = some (r, σm')) (hc : u + 105 ≤ 600000 ∧ v + 614 ≤ 7302250) (kk : ∀ u' v', u' ≤ u + 105 → v' ≤ v + 614 → LG p l e s m below meth c b dA D adK adV u' v' 1122 i [] σx' σm') : LG p l e s m below meth c b dA D adK adV u v 410 i [] σx σm := by
  obtain ⟨hcu, hcv⟩ := hc
  refine l_aload1 hF (dc_l8 0 rfl) ?_
  refine l_callX (As := []) (r := (r, σx')) hF (dc_l8 1 rfl) ml_L_49 (con_X11_hour (oX_ok dA D adK adV s.heap.size) trivial rfl  σx) hX rfl rfl ⟨Nat.le_of_ble_eq_true rfl, Nat.le_of_ble_eq_true rfl⟩ ⟨by show u + 4 ≤ _; omega, by show v + 22 ≤ _; omega⟩ (Nat.le_of_ble_eq_true rfl) ?_
  refine l_aload2 hF (dc_l8 2 rfl) ?_
  refine l_callM (As := []) (r := (r, σm')) hF (dc_l8 3 rfl) ml_L_52 (fun h => con_X12_hour (oM_ok dA D adK adV s.heap.size h) rfl  σm) (fun _ => hM) (fun _ => rfl) rfl ⟨Nat.le_of_ble_eq_true rfl, Nat.le_of_ble_eq_true rfl⟩ ⟨by show u + 4 + 0 ≤ _; omega, by show v + 22 + 0 ≤ _; omega⟩ (Nat.le_of_ble_eq_true rfl) ?_
  refine l_icmp (tgt := 1122) hF (dc_l8 4 rfl) (by decide) rfl ?_
  exact kk _ _ (by show u + 4 + 0 ≤ _; omega) (by show v + 22 + 0 ≤ _; omega)
theorem lc_9 {r : Int32} {σx' σm' : MS} (hF : LF p s m meth c b Ln xs dA D adK adV) (hin : ∀ j, j < 6 → vp_in (i + Int32.ofNat j) Ln) (hX : stepX 9 (avs xs i) σx = some (r, σx')) (hM : stepM 9 (avs xs i) σm = some (r, σm')) (hc : u + 105 ≤ 600000 ∧ v + 614 ≤ 7302250) (kk : ∀ u' v', u' ≤ u + 105 → v' ≤ v + 614 → LG p l e s m below meth c b dA D adK adV u' v' 1122 i [] σx' σm') : LG p l e s m below meth c b dA D adK adV u v 423 i [] σx σm := by
  obtain ⟨hcu, hcv⟩ := hc
  refine l_aload1 hF (dc_l9 0 rfl) ?_
  refine l_arg (j := 1) hF (dc_l9 1 rfl) (dc_l9 2 rfl) (dc_l9 3 rfl) (dc_l9 4 rfl) (dc_l9 5 rfl) (by decide) (hin 1 (by decide)) ?_
  refine l_arg (j := 2) hF (dc_l9 6 rfl) (dc_l9 7 rfl) (dc_l9 8 rfl) (dc_l9 9 rfl) (dc_l9 10 rfl) (by decide) (hin 2 (by decide)) ?_
  refine l_callX (As := [.int (avs xs i 1), .int (avs xs i 2)]) (r := (r, σx')) hF (dc_l9 11 rfl) ml_L_53 (con_X11_begin (oX_ok dA D adK adV s.heap.size) trivial rfl (avs xs i 1) (avs xs i 2) σx) hX rfl rfl ⟨Nat.le_of_ble_eq_true rfl, Nat.le_of_ble_eq_true rfl⟩ ⟨by show u + 4 ≤ _; omega, by show v + 22 ≤ _; omega⟩ (Nat.le_of_ble_eq_true rfl) ?_
  refine l_aload2 hF (dc_l9 12 rfl) ?_
  refine l_arg (j := 1) hF (dc_l9 13 rfl) (dc_l9 14 rfl) (dc_l9 15 rfl) (dc_l9 16 rfl) (dc_l9 17 rfl) (by decide) (hin 1 (by decide)) ?_
  refine l_arg (j := 2) hF (dc_l9 18 rfl) (dc_l9 19 rfl) (dc_l9 20 rfl) (dc_l9 21 rfl) (dc_l9 22 rfl) (by decide) (hin 2 (by decide)) ?_
  refine l_callM (As := [.int (avs xs i 1), .int (avs xs i 2)]) (r := (r, σm')) hF (dc_l9 23 rfl) ml_L_56 (fun h => con_X12_begin (oM_ok dA D adK adV s.heap.size h) rfl (avs xs i 1) (avs xs i 2) σm) (fun _ => hM) (fun _ => rfl) rfl ⟨Nat.le_of_ble_eq_true rfl, Nat.le_of_ble_eq_true rfl⟩ ⟨by show u + 4 + 0 ≤ _; omega, by show v + 22 + 0 ≤ _; omega⟩ (Nat.le_of_ble_eq_true rfl) ?_
  refine l_icmp (tgt := 1122) hF (dc_l9 24 rfl) (by decide) rfl ?_
  exact kk _ _ (by show u + 4 + 0 ≤ _; omega) (by show v + 22 + 0 ≤ _; omega)
theorem lc_10 {r : Int32} {σx' σm' : MS} (hF : LF p s m meth c b Ln xs dA D adK adV) (hin : ∀ j, j < 6 → vp_in (i + Int32.ofNat j) Ln) (hX : stepX 10 (avs xs i) σx = some (r, σx')) (hM : stepM 10 (avs xs i) σm = some (r, σm')) (hc : u + 105 ≤ 600000 ∧ v + 614 ≤ 7302250) (kk : ∀ u' v', u' ≤ u + 105 → v' ≤ v + 614 → LG p l e s m below meth c b dA D adK adV u' v' 1122 i [] σx' σm') : LG p l e s m below meth c b dA D adK adV u v 456 i [] σx σm := by
  obtain ⟨hcu, hcv⟩ := hc
  refine l_aload1 hF (dc_l10 0 rfl) ?_
  refine l_arg (j := 1) hF (dc_l10 1 rfl) (dc_l10 2 rfl) (dc_l10 3 rfl) (dc_l10 4 rfl) (dc_l10 5 rfl) (by decide) (hin 1 (by decide)) ?_
  refine l_arg (j := 2) hF (dc_l10 6 rfl) (dc_l10 7 rfl) (dc_l10 8 rfl) (dc_l10 9 rfl) (dc_l10 10 rfl) (by decide) (hin 2 (by decide)) ?_
  refine l_callX (As := [.int (avs xs i 1), .int (avs xs i 2)]) (r := (r, σx')) hF (dc_l10 11 rfl) ml_L_57 (con_X11_sneak (oX_ok dA D adK adV s.heap.size) trivial rfl (avs xs i 1) (avs xs i 2) σx) hX rfl rfl ⟨Nat.le_of_ble_eq_true rfl, Nat.le_of_ble_eq_true rfl⟩ ⟨by show u + 4 ≤ _; omega, by show v + 22 ≤ _; omega⟩ (Nat.le_of_ble_eq_true rfl) ?_
  refine l_aload2 hF (dc_l10 12 rfl) ?_
  refine l_arg (j := 1) hF (dc_l10 13 rfl) (dc_l10 14 rfl) (dc_l10 15 rfl) (dc_l10 16 rfl) (dc_l10 17 rfl) (by decide) (hin 1 (by decide)) ?_
  refine l_arg (j := 2) hF (dc_l10 18 rfl) (dc_l10 19 rfl) (dc_l10 20 rfl) (dc_l10 21 rfl) (dc_l10 22 rfl) (by decide) (hin 2 (by decide)) ?_
  refine l_callM (As := [.int (avs xs i 1), .int (avs xs i 2)]) (r := (r, σm')) hF (dc_l10 23 rfl) ml_L_60 (fun h => con_X12_sneak (oM_ok dA D adK adV s.heap.size h) rfl (avs xs i 1) (avs xs i 2) σm) (fun _ => hM) (fun _ => rfl) rfl ⟨Nat.le_of_ble_eq_true rfl, Nat.le_of_ble_eq_true rfl⟩ ⟨by show u + 4 + 0 ≤ _; omega, by show v + 22 + 0 ≤ _; omega⟩ (Nat.le_of_ble_eq_true rfl) ?_
  refine l_icmp (tgt := 1122) hF (dc_l10 24 rfl) (by decide) rfl ?_
  exact kk _ _ (by show u + 4 + 0 ≤ _; omega) (by show v + 22 + 0 ≤ _; omega)
theorem lc_11 {r : Int32} {σx' σm' : MS} (hF : LF p s m meth c b Ln xs dA D adK adV) (hin : ∀ j, j < 6 → vp_in (i + Int32.ofNat j) Ln) (hX : stepX 11 (avs xs i) σx = some (r, σx')) (hM : stepM 11 (avs xs i) σm = some (r, σm')) (hc : u + 105 ≤ 600000 ∧ v + 614 ≤ 7302250) (kk : ∀ u' v', u' ≤ u + 105 → v' ≤ v + 614 → LG p l e s m below meth c b dA D adK adV u' v' 1122 i [] σx' σm') : LG p l e s m below meth c b dA D adK adV u v 489 i [] σx σm := by
  obtain ⟨hcu, hcv⟩ := hc
  refine l_aload1 hF (dc_l11 0 rfl) ?_
  refine l_arg (j := 1) hF (dc_l11 1 rfl) (dc_l11 2 rfl) (dc_l11 3 rfl) (dc_l11 4 rfl) (dc_l11 5 rfl) (by decide) (hin 1 (by decide)) ?_
  refine l_arg (j := 2) hF (dc_l11 6 rfl) (dc_l11 7 rfl) (dc_l11 8 rfl) (dc_l11 9 rfl) (dc_l11 10 rfl) (by decide) (hin 2 (by decide)) ?_
  refine l_callX (As := [.int (avs xs i 1), .int (avs xs i 2)]) (r := (r, σx')) hF (dc_l11 11 rfl) ml_L_61 (con_X11_hand (oX_ok dA D adK adV s.heap.size) trivial rfl (avs xs i 1) (avs xs i 2) σx) hX rfl rfl ⟨Nat.le_of_ble_eq_true rfl, Nat.le_of_ble_eq_true rfl⟩ ⟨by show u + 4 ≤ _; omega, by show v + 22 ≤ _; omega⟩ (Nat.le_of_ble_eq_true rfl) ?_
  refine l_aload2 hF (dc_l11 12 rfl) ?_
  refine l_arg (j := 1) hF (dc_l11 13 rfl) (dc_l11 14 rfl) (dc_l11 15 rfl) (dc_l11 16 rfl) (dc_l11 17 rfl) (by decide) (hin 1 (by decide)) ?_
  refine l_arg (j := 2) hF (dc_l11 18 rfl) (dc_l11 19 rfl) (dc_l11 20 rfl) (dc_l11 21 rfl) (dc_l11 22 rfl) (by decide) (hin 2 (by decide)) ?_
  refine l_callM (As := [.int (avs xs i 1), .int (avs xs i 2)]) (r := (r, σm')) hF (dc_l11 23 rfl) ml_L_64 (fun h => con_X12_hand (oM_ok dA D adK adV s.heap.size h) rfl (avs xs i 1) (avs xs i 2) σm) (fun _ => hM) (fun _ => rfl) rfl ⟨Nat.le_of_ble_eq_true rfl, Nat.le_of_ble_eq_true rfl⟩ ⟨by show u + 4 + 0 ≤ _; omega, by show v + 22 + 0 ≤ _; omega⟩ (Nat.le_of_ble_eq_true rfl) ?_
  refine l_icmp (tgt := 1122) hF (dc_l11 24 rfl) (by decide) rfl ?_
  exact kk _ _ (by show u + 4 + 0 ≤ _; omega) (by show v + 22 + 0 ≤ _; omega)
theorem lc_12 {r : Int32} {σx' σm' : MS} (hF : LF p s m meth c b Ln xs dA D adK adV) (hin : ∀ j, j < 6 → vp_in (i + Int32.ofNat j) Ln) (hX : stepX 12 (avs xs i) σx = some (r, σx')) (hM : stepM 12 (avs xs i) σm = some (r, σm')) (hc : u + 105 ≤ 600000 ∧ v + 614 ≤ 7302250) (kk : ∀ u' v', u' ≤ u + 105 → v' ≤ v + 614 → LG p l e s m below meth c b dA D adK adV u' v' 1122 i [] σx' σm') : LG p l e s m below meth c b dA D adK adV u v 522 i [] σx σm := by
  obtain ⟨hcu, hcv⟩ := hc
  refine l_aload1 hF (dc_l12 0 rfl) ?_
  refine l_arg (j := 1) hF (dc_l12 1 rfl) (dc_l12 2 rfl) (dc_l12 3 rfl) (dc_l12 4 rfl) (dc_l12 5 rfl) (by decide) (hin 1 (by decide)) ?_
  refine l_callX (As := [.int (avs xs i 1)]) (r := (r, σx')) hF (dc_l12 6 rfl) ml_L_65 (con_X11_drop (oX_ok dA D adK adV s.heap.size) trivial rfl (avs xs i 1) σx) hX rfl rfl ⟨Nat.le_of_ble_eq_true rfl, Nat.le_of_ble_eq_true rfl⟩ ⟨by show u + 4 ≤ _; omega, by show v + 22 ≤ _; omega⟩ (Nat.le_of_ble_eq_true rfl) ?_
  refine l_aload2 hF (dc_l12 7 rfl) ?_
  refine l_arg (j := 1) hF (dc_l12 8 rfl) (dc_l12 9 rfl) (dc_l12 10 rfl) (dc_l12 11 rfl) (dc_l12 12 rfl) (by decide) (hin 1 (by decide)) ?_
  refine l_callM (As := [.int (avs xs i 1)]) (r := (r, σm')) hF (dc_l12 13 rfl) ml_L_68 (fun h => con_X12_drop (oM_ok dA D adK adV s.heap.size h) rfl (avs xs i 1) σm) (fun _ => hM) (fun _ => rfl) rfl ⟨Nat.le_of_ble_eq_true rfl, Nat.le_of_ble_eq_true rfl⟩ ⟨by show u + 4 + 0 ≤ _; omega, by show v + 22 + 0 ≤ _; omega⟩ (Nat.le_of_ble_eq_true rfl) ?_
  refine l_icmp (tgt := 1122) hF (dc_l12 14 rfl) (by decide) rfl ?_
  exact kk _ _ (by show u + 4 + 0 ≤ _; omega) (by show v + 22 + 0 ≤ _; omega)
theorem lc_13 {r : Int32} {σx' σm' : MS} (hF : LF p s m meth c b Ln xs dA D adK adV) (hin : ∀ j, j < 6 → vp_in (i + Int32.ofNat j) Ln) (hX : stepX 13 (avs xs i) σx = some (r, σx')) (hM : stepM 13 (avs xs i) σm = some (r, σm')) (hc : u + 105 ≤ 600000 ∧ v + 614 ≤ 7302250) (kk : ∀ u' v', u' ≤ u + 105 → v' ≤ v + 614 → LG p l e s m below meth c b dA D adK adV u' v' 1122 i [] σx' σm') : LG p l e s m below meth c b dA D adK adV u v 545 i [] σx σm := by
  obtain ⟨hcu, hcv⟩ := hc
  refine l_aload1 hF (dc_l13 0 rfl) ?_
  refine l_callX (As := []) (r := (r, σx')) hF (dc_l13 1 rfl) ml_L_69 (con_X11_undo (oX_ok dA D adK adV s.heap.size) rfl  σx) hX rfl rfl ⟨Nat.le_of_ble_eq_true rfl, Nat.le_of_ble_eq_true rfl⟩ ⟨by show u + 0 ≤ _; omega, by show v + 0 ≤ _; omega⟩ (Nat.le_of_ble_eq_true rfl) ?_
  refine l_aload2 hF (dc_l13 2 rfl) ?_
  refine l_callM (As := []) (r := (r, σm')) hF (dc_l13 3 rfl) ml_L_72 (fun h => con_X12_undo (oM_ok dA D adK adV s.heap.size h) rfl  σm) (fun _ => hM) (fun _ => rfl) rfl ⟨Nat.le_of_ble_eq_true rfl, Nat.le_of_ble_eq_true rfl⟩ ⟨by show u + 0 + 0 ≤ _; omega, by show v + 0 + 0 ≤ _; omega⟩ (Nat.le_of_ble_eq_true rfl) ?_
  refine l_icmp (tgt := 1122) hF (dc_l13 4 rfl) (by decide) rfl ?_
  exact kk _ _ (by show u + 0 + 0 ≤ _; omega) (by show v + 0 + 0 ≤ _; omega)
theorem lc_14 {r : Int32} {σx' σm' : MS} (hF : LF p s m meth c b Ln xs dA D adK adV) (hin : ∀ j, j < 6 → vp_in (i + Int32.ofNat j) Ln) (hX : stepX 14 (avs xs i) σx = some (r, σx')) (hM : stepM 14 (avs xs i) σm = some (r, σm')) (hc : u + 105 ≤ 600000 ∧ v + 614 ≤ 7302250) (kk : ∀ u' v', u' ≤ u + 105 → v' ≤ v + 614 → LG p l e s m below meth c b dA D adK adV u' v' 1122 i [] σx' σm') : LG p l e s m below meth c b dA D adK adV u v 558 i [] σx σm := by
  obtain ⟨hcu, hcv⟩ := hc
  refine l_aload1 hF (dc_l14 0 rfl) ?_
  refine l_arg (j := 1) hF (dc_l14 1 rfl) (dc_l14 2 rfl) (dc_l14 3 rfl) (dc_l14 4 rfl) (dc_l14 5 rfl) (by decide) (hin 1 (by decide)) ?_
  refine l_arg (j := 2) hF (dc_l14 6 rfl) (dc_l14 7 rfl) (dc_l14 8 rfl) (dc_l14 9 rfl) (dc_l14 10 rfl) (by decide) (hin 2 (by decide)) ?_
  refine l_arg (j := 3) hF (dc_l14 11 rfl) (dc_l14 12 rfl) (dc_l14 13 rfl) (dc_l14 14 rfl) (dc_l14 15 rfl) (by decide) (hin 3 (by decide)) ?_
  refine l_callX (As := [.int (avs xs i 1), .int (avs xs i 2), .int (avs xs i 3)]) (r := (r, σx')) hF (dc_l14 16 rfl) ml_L_73 (con_X11_ahead (oX_ok dA D adK adV s.heap.size) rfl (avs xs i 1) (avs xs i 2) (avs xs i 3) σx) hX rfl rfl ⟨Nat.le_of_ble_eq_true rfl, Nat.le_of_ble_eq_true rfl⟩ ⟨by show u + 0 ≤ _; omega, by show v + 0 ≤ _; omega⟩ (Nat.le_of_ble_eq_true rfl) ?_
  refine l_aload2 hF (dc_l14 17 rfl) ?_
  refine l_arg (j := 1) hF (dc_l14 18 rfl) (dc_l14 19 rfl) (dc_l14 20 rfl) (dc_l14 21 rfl) (dc_l14 22 rfl) (by decide) (hin 1 (by decide)) ?_
  refine l_arg (j := 2) hF (dc_l14 23 rfl) (dc_l14 24 rfl) (dc_l14 25 rfl) (dc_l14 26 rfl) (dc_l14 27 rfl) (by decide) (hin 2 (by decide)) ?_
  refine l_arg (j := 3) hF (dc_l14 28 rfl) (dc_l14 29 rfl) (dc_l14 30 rfl) (dc_l14 31 rfl) (dc_l14 32 rfl) (by decide) (hin 3 (by decide)) ?_
  refine l_callM (As := [.int (avs xs i 1), .int (avs xs i 2), .int (avs xs i 3)]) (r := (r, σm')) hF (dc_l14 33 rfl) ml_L_77 (fun h => con_X12_ahead (oM_ok dA D adK adV s.heap.size h) rfl (avs xs i 1) (avs xs i 2) (avs xs i 3) σm) (fun _ => hM) (fun _ => rfl) rfl ⟨Nat.le_of_ble_eq_true rfl, Nat.le_of_ble_eq_true rfl⟩ ⟨by show u + 0 + 0 ≤ _; omega, by show v + 0 + 0 ≤ _; omega⟩ (Nat.le_of_ble_eq_true rfl) ?_
  refine l_icmp (tgt := 1122) hF (dc_l14 34 rfl) (by decide) rfl ?_
  exact kk _ _ (by show u + 0 + 0 ≤ _; omega) (by show v + 0 + 0 ≤ _; omega)
theorem lc_15 {r : Int32} {σx' σm' : MS} (hF : LF p s m meth c b Ln xs dA D adK adV) (hin : ∀ j, j < 6 → vp_in (i + Int32.ofNat j) Ln) (hX : stepX 15 (avs xs i) σx = some (r, σx')) (hM : stepM 15 (avs xs i) σm = some (r, σm')) (hc : u + 105 ≤ 600000 ∧ v + 614 ≤ 7302250) (kk : ∀ u' v', u' ≤ u + 105 → v' ≤ v + 614 → LG p l e s m below meth c b dA D adK adV u' v' 1122 i [] σx' σm') : LG p l e s m below meth c b dA D adK adV u v 601 i [] σx σm := by
  obtain ⟨hcu, hcv⟩ := hc
  refine l_aload1 hF (dc_l15 0 rfl) ?_
  refine l_arg (j := 1) hF (dc_l15 1 rfl) (dc_l15 2 rfl) (dc_l15 3 rfl) (dc_l15 4 rfl) (dc_l15 5 rfl) (by decide) (hin 1 (by decide)) ?_
  refine l_callX (As := [.int (avs xs i 1)]) (r := (r, σx')) hF (dc_l15 6 rfl) ml_L_78 (con_X11_stops (oX_ok dA D adK adV s.heap.size) rfl (avs xs i 1) σx) hX rfl rfl ⟨Nat.le_of_ble_eq_true rfl, Nat.le_of_ble_eq_true rfl⟩ ⟨by show u + 0 ≤ _; omega, by show v + 0 ≤ _; omega⟩ (Nat.le_of_ble_eq_true rfl) ?_
  refine l_aload2 hF (dc_l15 7 rfl) ?_
  refine l_arg (j := 1) hF (dc_l15 8 rfl) (dc_l15 9 rfl) (dc_l15 10 rfl) (dc_l15 11 rfl) (dc_l15 12 rfl) (by decide) (hin 1 (by decide)) ?_
  refine l_callM (As := [.int (avs xs i 1)]) (r := (r, σm')) hF (dc_l15 13 rfl) ml_L_81 (fun h => con_X12_stops (oM_ok dA D adK adV s.heap.size h) rfl (avs xs i 1) σm) (fun _ => hM) (fun _ => rfl) rfl ⟨Nat.le_of_ble_eq_true rfl, Nat.le_of_ble_eq_true rfl⟩ ⟨by show u + 0 + 0 ≤ _; omega, by show v + 0 + 0 ≤ _; omega⟩ (Nat.le_of_ble_eq_true rfl) ?_
  refine l_icmp (tgt := 1122) hF (dc_l15 14 rfl) (by decide) rfl ?_
  exact kk _ _ (by show u + 0 + 0 ≤ _; omega) (by show v + 0 + 0 ≤ _; omega)
theorem lc_16 {r : Int32} {σx' σm' : MS} (hF : LF p s m meth c b Ln xs dA D adK adV) (hin : ∀ j, j < 6 → vp_in (i + Int32.ofNat j) Ln) (hX : stepX 16 (avs xs i) σx = some (r, σx')) (hM : stepM 16 (avs xs i) σm = some (r, σm')) (hc : u + 105 ≤ 600000 ∧ v + 614 ≤ 7302250) (kk : ∀ u' v', u' ≤ u + 105 → v' ≤ v + 614 → LG p l e s m below meth c b dA D adK adV u' v' 1122 i [] σx' σm') : LG p l e s m below meth c b dA D adK adV u v 624 i [] σx σm := by
  obtain ⟨hcu, hcv⟩ := hc
  refine l_aload1 hF (dc_l16 0 rfl) ?_
  refine l_arg (j := 1) hF (dc_l16 1 rfl) (dc_l16 2 rfl) (dc_l16 3 rfl) (dc_l16 4 rfl) (dc_l16 5 rfl) (by decide) (hin 1 (by decide)) ?_
  refine l_arg (j := 2) hF (dc_l16 6 rfl) (dc_l16 7 rfl) (dc_l16 8 rfl) (dc_l16 9 rfl) (dc_l16 10 rfl) (by decide) (hin 2 (by decide)) ?_
  refine l_callX (As := [.int (avs xs i 1), .int (avs xs i 2)]) (r := (r, σx')) hF (dc_l16 11 rfl) ml_L_82 (con_X11_save (oX_ok dA D adK adV s.heap.size) rfl (avs xs i 1) (avs xs i 2) σx) hX rfl rfl ⟨Nat.le_of_ble_eq_true rfl, Nat.le_of_ble_eq_true rfl⟩ ⟨by show u + 0 ≤ _; omega, by show v + 0 ≤ _; omega⟩ (Nat.le_of_ble_eq_true rfl) ?_
  refine l_aload2 hF (dc_l16 12 rfl) ?_
  refine l_arg (j := 1) hF (dc_l16 13 rfl) (dc_l16 14 rfl) (dc_l16 15 rfl) (dc_l16 16 rfl) (dc_l16 17 rfl) (by decide) (hin 1 (by decide)) ?_
  refine l_arg (j := 2) hF (dc_l16 18 rfl) (dc_l16 19 rfl) (dc_l16 20 rfl) (dc_l16 21 rfl) (dc_l16 22 rfl) (by decide) (hin 2 (by decide)) ?_
  refine l_callM (As := [.int (avs xs i 1), .int (avs xs i 2)]) (r := (r, σm')) hF (dc_l16 23 rfl) ml_L_85 (fun h => con_X12_save (oM_ok dA D adK adV s.heap.size h) rfl (avs xs i 1) (avs xs i 2) σm) (fun _ => hM) (fun _ => rfl) rfl ⟨Nat.le_of_ble_eq_true rfl, Nat.le_of_ble_eq_true rfl⟩ ⟨by show u + 0 + 0 ≤ _; omega, by show v + 0 + 0 ≤ _; omega⟩ (Nat.le_of_ble_eq_true rfl) ?_
  refine l_icmp (tgt := 1122) hF (dc_l16 24 rfl) (by decide) rfl ?_
  exact kk _ _ (by show u + 0 + 0 ≤ _; omega) (by show v + 0 + 0 ≤ _; omega)
theorem lc_17 {r : Int32} {σx' σm' : MS} (hF : LF p s m meth c b Ln xs dA D adK adV) (hin : ∀ j, j < 6 → vp_in (i + Int32.ofNat j) Ln) (hX : stepX 17 (avs xs i) σx = some (r, σx')) (hM : stepM 17 (avs xs i) σm = some (r, σm')) (hc : u + 105 ≤ 600000 ∧ v + 614 ≤ 7302250) (kk : ∀ u' v', u' ≤ u + 105 → v' ≤ v + 614 → LG p l e s m below meth c b dA D adK adV u' v' 1122 i [] σx' σm') : LG p l e s m below meth c b dA D adK adV u v 657 i [] σx σm := by
  obtain ⟨hcu, hcv⟩ := hc
  refine l_aload1 hF (dc_l17 0 rfl) ?_
  refine l_arg (j := 1) hF (dc_l17 1 rfl) (dc_l17 2 rfl) (dc_l17 3 rfl) (dc_l17 4 rfl) (dc_l17 5 rfl) (by decide) (hin 1 (by decide)) ?_
  refine l_arg (j := 2) hF (dc_l17 6 rfl) (dc_l17 7 rfl) (dc_l17 8 rfl) (dc_l17 9 rfl) (dc_l17 10 rfl) (by decide) (hin 2 (by decide)) ?_
  refine l_arg (j := 3) hF (dc_l17 11 rfl) (dc_l17 12 rfl) (dc_l17 13 rfl) (dc_l17 14 rfl) (dc_l17 15 rfl) (by decide) (hin 3 (by decide)) ?_
  refine l_callX (As := [.int (avs xs i 1), .int (avs xs i 2), .int (avs xs i 3)]) (r := (r, σx')) hF (dc_l17 16 rfl) ml_L_86 (con_X11_relay (oX_ok dA D adK adV s.heap.size) rfl (avs xs i 1) (avs xs i 2) (avs xs i 3) σx) hX rfl rfl ⟨Nat.le_of_ble_eq_true rfl, Nat.le_of_ble_eq_true rfl⟩ ⟨by show u + 0 ≤ _; omega, by show v + 0 ≤ _; omega⟩ (Nat.le_of_ble_eq_true rfl) ?_
  refine l_aload2 hF (dc_l17 17 rfl) ?_
  refine l_arg (j := 1) hF (dc_l17 18 rfl) (dc_l17 19 rfl) (dc_l17 20 rfl) (dc_l17 21 rfl) (dc_l17 22 rfl) (by decide) (hin 1 (by decide)) ?_
  refine l_arg (j := 2) hF (dc_l17 23 rfl) (dc_l17 24 rfl) (dc_l17 25 rfl) (dc_l17 26 rfl) (dc_l17 27 rfl) (by decide) (hin 2 (by decide)) ?_
  refine l_arg (j := 3) hF (dc_l17 28 rfl) (dc_l17 29 rfl) (dc_l17 30 rfl) (dc_l17 31 rfl) (dc_l17 32 rfl) (by decide) (hin 3 (by decide)) ?_
  refine l_callM (As := [.int (avs xs i 1), .int (avs xs i 2), .int (avs xs i 3)]) (r := (r, σm')) hF (dc_l17 33 rfl) ml_L_89 (fun h => con_X12_relay (oM_ok dA D adK adV s.heap.size h) rfl (avs xs i 1) (avs xs i 2) (avs xs i 3) σm) (fun _ => hM) (fun _ => rfl) rfl ⟨Nat.le_of_ble_eq_true rfl, Nat.le_of_ble_eq_true rfl⟩ ⟨by show u + 0 + 0 ≤ _; omega, by show v + 0 + 0 ≤ _; omega⟩ (Nat.le_of_ble_eq_true rfl) ?_
  refine l_icmp (tgt := 1122) hF (dc_l17 34 rfl) (by decide) rfl ?_
  exact kk _ _ (by show u + 0 + 0 ≤ _; omega) (by show v + 0 + 0 ≤ _; omega)
theorem lc_18 {r : Int32} {σx' σm' : MS} (hF : LF p s m meth c b Ln xs dA D adK adV) (hin : ∀ j, j < 6 → vp_in (i + Int32.ofNat j) Ln) (hX : stepX 18 (avs xs i) σx = some (r, σx')) (hM : stepM 18 (avs xs i) σm = some (r, σm')) (hc : u + 105 ≤ 600000 ∧ v + 614 ≤ 7302250) (kk : ∀ u' v', u' ≤ u + 105 → v' ≤ v + 614 → LG p l e s m below meth c b dA D adK adV u' v' 1122 i [] σx' σm') : LG p l e s m below meth c b dA D adK adV u v 700 i [] σx σm := by
  obtain ⟨hcu, hcv⟩ := hc
  refine l_aload1 hF (dc_l18 0 rfl) ?_
  refine l_arg (j := 1) hF (dc_l18 1 rfl) (dc_l18 2 rfl) (dc_l18 3 rfl) (dc_l18 4 rfl) (dc_l18 5 rfl) (by decide) (hin 1 (by decide)) ?_
  refine l_arg (j := 2) hF (dc_l18 6 rfl) (dc_l18 7 rfl) (dc_l18 8 rfl) (dc_l18 9 rfl) (dc_l18 10 rfl) (by decide) (hin 2 (by decide)) ?_
  refine l_callX (As := [.int (avs xs i 1), .int (avs xs i 2)]) (r := (r, σx')) hF (dc_l18 11 rfl) ml_L_90 (con_PW (con_X11_most (oX_ok dA D adK adV s.heap.size) rfl (avs xs i 1) (avs xs i 2) σx)) hX rfl rfl ⟨Nat.le_of_ble_eq_true rfl, Nat.le_of_ble_eq_true rfl⟩ ⟨by show u + 0 ≤ _; omega, by show v + 0 ≤ _; omega⟩ (Nat.le_of_ble_eq_true rfl) ?_
  refine l_aload2 hF (dc_l18 12 rfl) ?_
  refine l_arg (j := 1) hF (dc_l18 13 rfl) (dc_l18 14 rfl) (dc_l18 15 rfl) (dc_l18 16 rfl) (dc_l18 17 rfl) (by decide) (hin 1 (by decide)) ?_
  refine l_arg (j := 2) hF (dc_l18 18 rfl) (dc_l18 19 rfl) (dc_l18 20 rfl) (dc_l18 21 rfl) (dc_l18 22 rfl) (by decide) (hin 2 (by decide)) ?_
  refine l_callM (As := [.int (avs xs i 1), .int (avs xs i 2)]) (r := (r, σm')) hF (dc_l18 23 rfl) ml_L_93 (fun h => con_PW (con_X12_most (oM_ok dA D adK adV s.heap.size h) rfl (avs xs i 1) (avs xs i 2) σm)) (fun _ => hM) (fun _ => rfl) rfl ⟨Nat.le_of_ble_eq_true rfl, Nat.le_of_ble_eq_true rfl⟩ ⟨by show u + 0 + 0 ≤ _; omega, by show v + 0 + 0 ≤ _; omega⟩ (Nat.le_of_ble_eq_true rfl) ?_
  refine l_icmp (tgt := 1122) hF (dc_l18 24 rfl) (by decide) rfl ?_
  exact kk _ _ (by show u + 0 + 0 ≤ _; omega) (by show v + 0 + 0 ≤ _; omega)
theorem lc_19 {r : Int32} {σx' σm' : MS} (hF : LF p s m meth c b Ln xs dA D adK adV) (hin : ∀ j, j < 6 → vp_in (i + Int32.ofNat j) Ln) (hX : stepX 19 (avs xs i) σx = some (r, σx')) (hM : stepM 19 (avs xs i) σm = some (r, σm')) (hc : u + 105 ≤ 600000 ∧ v + 614 ≤ 7302250) (kk : ∀ u' v', u' ≤ u + 105 → v' ≤ v + 614 → LG p l e s m below meth c b dA D adK adV u' v' 1122 i [] σx' σm') : LG p l e s m below meth c b dA D adK adV u v 733 i [] σx σm := by
  obtain ⟨hcu, hcv⟩ := hc
  refine l_aload1 hF (dc_l19 0 rfl) ?_
  refine l_arg (j := 1) hF (dc_l19 1 rfl) (dc_l19 2 rfl) (dc_l19 3 rfl) (dc_l19 4 rfl) (dc_l19 5 rfl) (by decide) (hin 1 (by decide)) ?_
  refine l_callX (As := [.int (avs xs i 1)]) (r := (r, σx')) hF (dc_l19 6 rfl) ml_L_94 (con_X11_chains (oX_ok dA D adK adV s.heap.size) rfl (avs xs i 1) σx) hX rfl rfl ⟨Nat.le_of_ble_eq_true rfl, Nat.le_of_ble_eq_true rfl⟩ ⟨by show u + 0 ≤ _; omega, by show v + 0 ≤ _; omega⟩ (Nat.le_of_ble_eq_true rfl) ?_
  refine l_aload2 hF (dc_l19 7 rfl) ?_
  refine l_arg (j := 1) hF (dc_l19 8 rfl) (dc_l19 9 rfl) (dc_l19 10 rfl) (dc_l19 11 rfl) (dc_l19 12 rfl) (by decide) (hin 1 (by decide)) ?_
  refine l_callM (As := [.int (avs xs i 1)]) (r := (r, σm')) hF (dc_l19 13 rfl) ml_L_97 (fun h => con_X12_chains (oM_ok dA D adK adV s.heap.size h) rfl (avs xs i 1) σm) (fun _ => hM) (fun _ => rfl) rfl ⟨Nat.le_of_ble_eq_true rfl, Nat.le_of_ble_eq_true rfl⟩ ⟨by show u + 0 + 0 ≤ _; omega, by show v + 0 + 0 ≤ _; omega⟩ (Nat.le_of_ble_eq_true rfl) ?_
  refine l_icmp (tgt := 1122) hF (dc_l19 14 rfl) (by decide) rfl ?_
  exact kk _ _ (by show u + 0 + 0 ≤ _; omega) (by show v + 0 + 0 ≤ _; omega)
theorem lc_20 {r : Int32} {σx' σm' : MS} (hF : LF p s m meth c b Ln xs dA D adK adV) (hin : ∀ j, j < 6 → vp_in (i + Int32.ofNat j) Ln) (hX : stepX 20 (avs xs i) σx = some (r, σx')) (hM : stepM 20 (avs xs i) σm = some (r, σm')) (hc : u + 105 ≤ 600000 ∧ v + 614 ≤ 7302250) (kk : ∀ u' v', u' ≤ u + 105 → v' ≤ v + 614 → LG p l e s m below meth c b dA D adK adV u' v' 1122 i [] σx' σm') : LG p l e s m below meth c b dA D adK adV u v 756 i [] σx σm := by
  obtain ⟨hcu, hcv⟩ := hc
  refine l_aload1 hF (dc_l20 0 rfl) ?_
  refine l_arg (j := 1) hF (dc_l20 1 rfl) (dc_l20 2 rfl) (dc_l20 3 rfl) (dc_l20 4 rfl) (dc_l20 5 rfl) (by decide) (hin 1 (by decide)) ?_
  refine l_arg (j := 2) hF (dc_l20 6 rfl) (dc_l20 7 rfl) (dc_l20 8 rfl) (dc_l20 9 rfl) (dc_l20 10 rfl) (by decide) (hin 2 (by decide)) ?_
  refine l_callX (As := [.int (avs xs i 1), .int (avs xs i 2)]) (r := (r, σx')) hF (dc_l20 11 rfl) ml_L_98 (con_PW (con_X11_tariff (oX_ok dA D adK adV s.heap.size) rfl (avs xs i 1) (avs xs i 2) σx)) hX rfl rfl ⟨Nat.le_of_ble_eq_true rfl, Nat.le_of_ble_eq_true rfl⟩ ⟨by show u + 0 ≤ _; omega, by show v + 0 ≤ _; omega⟩ (Nat.le_of_ble_eq_true rfl) ?_
  refine l_aload2 hF (dc_l20 12 rfl) ?_
  refine l_arg (j := 1) hF (dc_l20 13 rfl) (dc_l20 14 rfl) (dc_l20 15 rfl) (dc_l20 16 rfl) (dc_l20 17 rfl) (by decide) (hin 1 (by decide)) ?_
  refine l_arg (j := 2) hF (dc_l20 18 rfl) (dc_l20 19 rfl) (dc_l20 20 rfl) (dc_l20 21 rfl) (dc_l20 22 rfl) (by decide) (hin 2 (by decide)) ?_
  refine l_callM (As := [.int (avs xs i 1), .int (avs xs i 2)]) (r := (r, σm')) hF (dc_l20 23 rfl) ml_L_101 (fun h => con_PW (con_X12_tariff (oM_ok dA D adK adV s.heap.size h) rfl (avs xs i 1) (avs xs i 2) σm)) (fun _ => hM) (fun _ => rfl) rfl ⟨Nat.le_of_ble_eq_true rfl, Nat.le_of_ble_eq_true rfl⟩ ⟨by show u + 0 + 0 ≤ _; omega, by show v + 0 + 0 ≤ _; omega⟩ (Nat.le_of_ble_eq_true rfl) ?_
  refine l_icmp (tgt := 1122) hF (dc_l20 24 rfl) (by decide) rfl ?_
  exact kk _ _ (by show u + 0 + 0 ≤ _; omega) (by show v + 0 + 0 ≤ _; omega)
theorem lc_21 {r : Int32} {σx' σm' : MS} (hF : LF p s m meth c b Ln xs dA D adK adV) (hin : ∀ j, j < 6 → vp_in (i + Int32.ofNat j) Ln) (hX : stepX 21 (avs xs i) σx = some (r, σx')) (hM : stepM 21 (avs xs i) σm = some (r, σm')) (hc : u + 105 ≤ 600000 ∧ v + 614 ≤ 7302250) (kk : ∀ u' v', u' ≤ u + 105 → v' ≤ v + 614 → LG p l e s m below meth c b dA D adK adV u' v' 1122 i [] σx' σm') : LG p l e s m below meth c b dA D adK adV u v 789 i [] σx σm := by
  obtain ⟨hcu, hcv⟩ := hc
  refine l_aload1 hF (dc_l21 0 rfl) ?_
  refine l_arg (j := 1) hF (dc_l21 1 rfl) (dc_l21 2 rfl) (dc_l21 3 rfl) (dc_l21 4 rfl) (dc_l21 5 rfl) (by decide) (hin 1 (by decide)) ?_
  refine l_arg (j := 2) hF (dc_l21 6 rfl) (dc_l21 7 rfl) (dc_l21 8 rfl) (dc_l21 9 rfl) (dc_l21 10 rfl) (by decide) (hin 2 (by decide)) ?_
  refine l_callX (As := [.int (avs xs i 1), .int (avs xs i 2)]) (r := (r, σx')) hF (dc_l21 11 rfl) ml_L_102 (con_X11_help (oX_ok dA D adK adV s.heap.size) rfl (avs xs i 1) (avs xs i 2) σx) hX rfl rfl ⟨Nat.le_of_ble_eq_true rfl, Nat.le_of_ble_eq_true rfl⟩ ⟨by show u + 0 ≤ _; omega, by show v + 0 ≤ _; omega⟩ (Nat.le_of_ble_eq_true rfl) ?_
  refine l_aload2 hF (dc_l21 12 rfl) ?_
  refine l_arg (j := 1) hF (dc_l21 13 rfl) (dc_l21 14 rfl) (dc_l21 15 rfl) (dc_l21 16 rfl) (dc_l21 17 rfl) (by decide) (hin 1 (by decide)) ?_
  refine l_arg (j := 2) hF (dc_l21 18 rfl) (dc_l21 19 rfl) (dc_l21 20 rfl) (dc_l21 21 rfl) (dc_l21 22 rfl) (by decide) (hin 2 (by decide)) ?_
  refine l_callM (As := [.int (avs xs i 1), .int (avs xs i 2)]) (r := (r, σm')) hF (dc_l21 23 rfl) ml_L_105 (fun h => con_X12_help (oM_ok dA D adK adV s.heap.size h) rfl (avs xs i 1) (avs xs i 2) σm) (fun _ => hM) (fun _ => rfl) rfl ⟨Nat.le_of_ble_eq_true rfl, Nat.le_of_ble_eq_true rfl⟩ ⟨by show u + 0 + 0 ≤ _; omega, by show v + 0 + 0 ≤ _; omega⟩ (Nat.le_of_ble_eq_true rfl) ?_
  refine l_icmp (tgt := 1122) hF (dc_l21 24 rfl) (by decide) rfl ?_
  exact kk _ _ (by show u + 0 + 0 ≤ _; omega) (by show v + 0 + 0 ≤ _; omega)
theorem lc_22 {r : Int32} {σx' σm' : MS} (hF : LF p s m meth c b Ln xs dA D adK adV) (hin : ∀ j, j < 6 → vp_in (i + Int32.ofNat j) Ln) (hX : stepX 22 (avs xs i) σx = some (r, σx')) (hM : stepM 22 (avs xs i) σm = some (r, σm')) (hc : u + 105 ≤ 600000 ∧ v + 614 ≤ 7302250) (kk : ∀ u' v', u' ≤ u + 105 → v' ≤ v + 614 → LG p l e s m below meth c b dA D adK adV u' v' 1122 i [] σx' σm') : LG p l e s m below meth c b dA D adK adV u v 822 i [] σx σm := by
  obtain ⟨hcu, hcv⟩ := hc
  refine l_aload1 hF (dc_l22 0 rfl) ?_
  refine l_arg (j := 1) hF (dc_l22 1 rfl) (dc_l22 2 rfl) (dc_l22 3 rfl) (dc_l22 4 rfl) (dc_l22 5 rfl) (by decide) (hin 1 (by decide)) ?_
  refine l_arg (j := 2) hF (dc_l22 6 rfl) (dc_l22 7 rfl) (dc_l22 8 rfl) (dc_l22 9 rfl) (dc_l22 10 rfl) (by decide) (hin 2 (by decide)) ?_
  refine l_callX (As := [.int (avs xs i 1), .int (avs xs i 2)]) (r := (r, σx')) hF (dc_l22 11 rfl) ml_L_106 (con_X11_value (oX_ok dA D adK adV s.heap.size) rfl (avs xs i 1) (avs xs i 2) σx) hX rfl rfl ⟨Nat.le_of_ble_eq_true rfl, Nat.le_of_ble_eq_true rfl⟩ ⟨by show u + 0 ≤ _; omega, by show v + 0 ≤ _; omega⟩ (Nat.le_of_ble_eq_true rfl) ?_
  refine l_aload2 hF (dc_l22 12 rfl) ?_
  refine l_arg (j := 1) hF (dc_l22 13 rfl) (dc_l22 14 rfl) (dc_l22 15 rfl) (dc_l22 16 rfl) (dc_l22 17 rfl) (by decide) (hin 1 (by decide)) ?_
  refine l_arg (j := 2) hF (dc_l22 18 rfl) (dc_l22 19 rfl) (dc_l22 20 rfl) (dc_l22 21 rfl) (dc_l22 22 rfl) (by decide) (hin 2 (by decide)) ?_
  refine l_callM (As := [.int (avs xs i 1), .int (avs xs i 2)]) (r := (r, σm')) hF (dc_l22 23 rfl) ml_L_109 (fun h => con_X12_value_ (oM_ok dA D adK adV s.heap.size h) rfl (avs xs i 1) (avs xs i 2) σm) (fun _ => hM) (fun _ => rfl) rfl ⟨Nat.le_of_ble_eq_true rfl, Nat.le_of_ble_eq_true rfl⟩ ⟨by show u + 0 + 0 ≤ _; omega, by show v + 0 + 0 ≤ _; omega⟩ (Nat.le_of_ble_eq_true rfl) ?_
  refine l_icmp (tgt := 1122) hF (dc_l22 24 rfl) (by decide) rfl ?_
  exact kk _ _ (by show u + 0 + 0 ≤ _; omega) (by show v + 0 + 0 ≤ _; omega)
theorem lc_23 {r : Int32} {σx' σm' : MS} (hF : LF p s m meth c b Ln xs dA D adK adV) (hin : ∀ j, j < 6 → vp_in (i + Int32.ofNat j) Ln) (hX : stepX 23 (avs xs i) σx = some (r, σx')) (hM : stepM 23 (avs xs i) σm = some (r, σm')) (hc : u + 105 ≤ 600000 ∧ v + 614 ≤ 7302250) (kk : ∀ u' v', u' ≤ u + 105 → v' ≤ v + 614 → LG p l e s m below meth c b dA D adK adV u' v' 1122 i [] σx' σm') : LG p l e s m below meth c b dA D adK adV u v 855 i [] σx σm := by
  obtain ⟨hcu, hcv⟩ := hc
  refine l_aload1 hF (dc_l23 0 rfl) ?_
  refine l_arg (j := 1) hF (dc_l23 1 rfl) (dc_l23 2 rfl) (dc_l23 3 rfl) (dc_l23 4 rfl) (dc_l23 5 rfl) (by decide) (hin 1 (by decide)) ?_
  refine l_callX (As := [.int (avs xs i 1)]) (r := (r, σx')) hF (dc_l23 6 rfl) ml_L_110 (con_PW (con_X11_watch (oX_ok dA D adK adV s.heap.size) rfl (avs xs i 1) σx)) hX rfl rfl ⟨Nat.le_of_ble_eq_true rfl, Nat.le_of_ble_eq_true rfl⟩ ⟨by show u + 0 ≤ _; omega, by show v + 0 ≤ _; omega⟩ (Nat.le_of_ble_eq_true rfl) ?_
  refine l_aload2 hF (dc_l23 7 rfl) ?_
  refine l_arg (j := 1) hF (dc_l23 8 rfl) (dc_l23 9 rfl) (dc_l23 10 rfl) (dc_l23 11 rfl) (dc_l23 12 rfl) (by decide) (hin 1 (by decide)) ?_
  refine l_callM (As := [.int (avs xs i 1)]) (r := (r, σm')) hF (dc_l23 13 rfl) ml_L_113 (fun h => con_PW (con_X12_watch (oM_ok dA D adK adV s.heap.size h) rfl (avs xs i 1) σm)) (fun _ => hM) (fun _ => rfl) rfl ⟨Nat.le_of_ble_eq_true rfl, Nat.le_of_ble_eq_true rfl⟩ ⟨by show u + 0 + 0 ≤ _; omega, by show v + 0 + 0 ≤ _; omega⟩ (Nat.le_of_ble_eq_true rfl) ?_
  refine l_icmp (tgt := 1122) hF (dc_l23 14 rfl) (by decide) rfl ?_
  exact kk _ _ (by show u + 0 + 0 ≤ _; omega) (by show v + 0 + 0 ≤ _; omega)
theorem lc_24 {r : Int32} {σx' σm' : MS} (hF : LF p s m meth c b Ln xs dA D adK adV) (hin : ∀ j, j < 6 → vp_in (i + Int32.ofNat j) Ln) (hX : stepX 24 (avs xs i) σx = some (r, σx')) (hM : stepM 24 (avs xs i) σm = some (r, σm')) (hc : u + 105 ≤ 600000 ∧ v + 614 ≤ 7302250) (kk : ∀ u' v', u' ≤ u + 105 → v' ≤ v + 614 → LG p l e s m below meth c b dA D adK adV u' v' 1122 i [] σx' σm') : LG p l e s m below meth c b dA D adK adV u v 878 i [] σx σm := by
  obtain ⟨hcu, hcv⟩ := hc
  refine l_aload1 hF (dc_l24 0 rfl) ?_
  refine l_arg (j := 1) hF (dc_l24 1 rfl) (dc_l24 2 rfl) (dc_l24 3 rfl) (dc_l24 4 rfl) (dc_l24 5 rfl) (by decide) (hin 1 (by decide)) ?_
  refine l_arg (j := 2) hF (dc_l24 6 rfl) (dc_l24 7 rfl) (dc_l24 8 rfl) (dc_l24 9 rfl) (dc_l24 10 rfl) (by decide) (hin 2 (by decide)) ?_
  refine l_arg (j := 3) hF (dc_l24 11 rfl) (dc_l24 12 rfl) (dc_l24 13 rfl) (dc_l24 14 rfl) (dc_l24 15 rfl) (by decide) (hin 3 (by decide)) ?_
  refine l_callX (As := [.int (avs xs i 1), .int (avs xs i 2), .int (avs xs i 3)]) (r := (r, σx')) hF (dc_l24 16 rfl) ml_L_114 (con_X11_log (oX_ok dA D adK adV s.heap.size) rfl (avs xs i 1) (avs xs i 2) (avs xs i 3) σx) hX rfl rfl ⟨Nat.le_of_ble_eq_true rfl, Nat.le_of_ble_eq_true rfl⟩ ⟨by show u + 0 ≤ _; omega, by show v + 0 ≤ _; omega⟩ (Nat.le_of_ble_eq_true rfl) ?_
  refine l_aload2 hF (dc_l24 17 rfl) ?_
  refine l_arg (j := 1) hF (dc_l24 18 rfl) (dc_l24 19 rfl) (dc_l24 20 rfl) (dc_l24 21 rfl) (dc_l24 22 rfl) (by decide) (hin 1 (by decide)) ?_
  refine l_arg (j := 2) hF (dc_l24 23 rfl) (dc_l24 24 rfl) (dc_l24 25 rfl) (dc_l24 26 rfl) (dc_l24 27 rfl) (by decide) (hin 2 (by decide)) ?_
  refine l_arg (j := 3) hF (dc_l24 28 rfl) (dc_l24 29 rfl) (dc_l24 30 rfl) (dc_l24 31 rfl) (dc_l24 32 rfl) (by decide) (hin 3 (by decide)) ?_
  refine l_callM (As := [.int (avs xs i 1), .int (avs xs i 2), .int (avs xs i 3)]) (r := (r, σm')) hF (dc_l24 33 rfl) ml_L_117 (fun h => con_X12_log (oM_ok dA D adK adV s.heap.size h) rfl (avs xs i 1) (avs xs i 2) (avs xs i 3) σm) (fun _ => hM) (fun _ => rfl) rfl ⟨Nat.le_of_ble_eq_true rfl, Nat.le_of_ble_eq_true rfl⟩ ⟨by show u + 0 + 0 ≤ _; omega, by show v + 0 + 0 ≤ _; omega⟩ (Nat.le_of_ble_eq_true rfl) ?_
  refine l_icmp (tgt := 1122) hF (dc_l24 34 rfl) (by decide) rfl ?_
  exact kk _ _ (by show u + 0 + 0 ≤ _; omega) (by show v + 0 + 0 ≤ _; omega)
theorem lc_25 {r : Int32} {σx' σm' : MS} (hF : LF p s m meth c b Ln xs dA D adK adV) (hin : ∀ j, j < 6 → vp_in (i + Int32.ofNat j) Ln) (hX : stepX 25 (avs xs i) σx = some (r, σx')) (hM : stepM 25 (avs xs i) σm = some (r, σm')) (hc : u + 105 ≤ 600000 ∧ v + 614 ≤ 7302250) (kk : ∀ u' v', u' ≤ u + 105 → v' ≤ v + 614 → LG p l e s m below meth c b dA D adK adV u' v' 1122 i [] σx' σm') : LG p l e s m below meth c b dA D adK adV u v 921 i [] σx σm := by
  obtain ⟨hcu, hcv⟩ := hc
  refine l_aload1 hF (dc_l25 0 rfl) ?_
  refine l_arg (j := 1) hF (dc_l25 1 rfl) (dc_l25 2 rfl) (dc_l25 3 rfl) (dc_l25 4 rfl) (dc_l25 5 rfl) (by decide) (hin 1 (by decide)) ?_
  refine l_callX (As := [.int (avs xs i 1)]) (r := (r, σx')) hF (dc_l25 6 rfl) ml_L_118 (con_X11_ruled (oX_ok dA D adK adV s.heap.size) rfl (avs xs i 1) σx) hX rfl rfl ⟨Nat.le_of_ble_eq_true rfl, Nat.le_of_ble_eq_true rfl⟩ ⟨by show u + 0 ≤ _; omega, by show v + 0 ≤ _; omega⟩ (Nat.le_of_ble_eq_true rfl) ?_
  refine l_aload2 hF (dc_l25 7 rfl) ?_
  refine l_arg (j := 1) hF (dc_l25 8 rfl) (dc_l25 9 rfl) (dc_l25 10 rfl) (dc_l25 11 rfl) (dc_l25 12 rfl) (by decide) (hin 1 (by decide)) ?_
  refine l_callM (As := [.int (avs xs i 1)]) (r := (r, σm')) hF (dc_l25 13 rfl) ml_L_121 (fun h => con_X12_ruled (oM_ok dA D adK adV s.heap.size h) rfl (avs xs i 1) σm) (fun _ => hM) (fun _ => rfl) rfl ⟨Nat.le_of_ble_eq_true rfl, Nat.le_of_ble_eq_true rfl⟩ ⟨by show u + 0 + 0 ≤ _; omega, by show v + 0 + 0 ≤ _; omega⟩ (Nat.le_of_ble_eq_true rfl) ?_
  refine l_icmp (tgt := 1122) hF (dc_l25 14 rfl) (by decide) rfl ?_
  exact kk _ _ (by show u + 0 + 0 ≤ _; omega) (by show v + 0 + 0 ≤ _; omega)
theorem lc_26 {r : Int32} {σx' σm' : MS} (hF : LF p s m meth c b Ln xs dA D adK adV) (hin : ∀ j, j < 6 → vp_in (i + Int32.ofNat j) Ln) (hX : stepX 26 (avs xs i) σx = some (r, σx')) (hM : stepM 26 (avs xs i) σm = some (r, σm')) (hc : u + 105 ≤ 600000 ∧ v + 614 ≤ 7302250) (kk : ∀ u' v', u' ≤ u + 105 → v' ≤ v + 614 → LG p l e s m below meth c b dA D adK adV u' v' 1122 i [] σx' σm') : LG p l e s m below meth c b dA D adK adV u v 944 i [] σx σm := by
  obtain ⟨hcu, hcv⟩ := hc
  refine l_aload1 hF (dc_l26 0 rfl) ?_
  refine l_arg (j := 1) hF (dc_l26 1 rfl) (dc_l26 2 rfl) (dc_l26 3 rfl) (dc_l26 4 rfl) (dc_l26 5 rfl) (by decide) (hin 1 (by decide)) ?_
  refine l_arg (j := 2) hF (dc_l26 6 rfl) (dc_l26 7 rfl) (dc_l26 8 rfl) (dc_l26 9 rfl) (dc_l26 10 rfl) (by decide) (hin 2 (by decide)) ?_
  refine l_callX (As := [.int (avs xs i 1), .int (avs xs i 2)]) (r := (r, σx')) hF (dc_l26 11 rfl) ml_L_122 (con_X11_look (oX_ok dA D adK adV s.heap.size) rfl (avs xs i 1) (avs xs i 2) σx) hX rfl rfl ⟨Nat.le_of_ble_eq_true rfl, Nat.le_of_ble_eq_true rfl⟩ ⟨by show u + 0 ≤ _; omega, by show v + 0 ≤ _; omega⟩ (Nat.le_of_ble_eq_true rfl) ?_
  refine l_aload2 hF (dc_l26 12 rfl) ?_
  refine l_arg (j := 1) hF (dc_l26 13 rfl) (dc_l26 14 rfl) (dc_l26 15 rfl) (dc_l26 16 rfl) (dc_l26 17 rfl) (by decide) (hin 1 (by decide)) ?_
  refine l_arg (j := 2) hF (dc_l26 18 rfl) (dc_l26 19 rfl) (dc_l26 20 rfl) (dc_l26 21 rfl) (dc_l26 22 rfl) (by decide) (hin 2 (by decide)) ?_
  refine l_callM (As := [.int (avs xs i 1), .int (avs xs i 2)]) (r := (r, σm')) hF (dc_l26 23 rfl) ml_L_125 (fun h => con_X12_look (oM_ok dA D adK adV s.heap.size h) rfl (avs xs i 1) (avs xs i 2) σm) (fun _ => hM) (fun _ => rfl) rfl ⟨Nat.le_of_ble_eq_true rfl, Nat.le_of_ble_eq_true rfl⟩ ⟨by show u + 0 + 0 ≤ _; omega, by show v + 0 + 0 ≤ _; omega⟩ (Nat.le_of_ble_eq_true rfl) ?_
  refine l_icmp (tgt := 1122) hF (dc_l26 24 rfl) (by decide) rfl ?_
  exact kk _ _ (by show u + 0 + 0 ≤ _; omega) (by show v + 0 + 0 ≤ _; omega)
theorem lc_27 {r : Int32} {σx' σm' : MS} (hF : LF p s m meth c b Ln xs dA D adK adV) (hin : ∀ j, j < 6 → vp_in (i + Int32.ofNat j) Ln) (hX : stepX 27 (avs xs i) σx = some (r, σx')) (hM : stepM 27 (avs xs i) σm = some (r, σm')) (hc : u + 105 ≤ 600000 ∧ v + 614 ≤ 7302250) (kk : ∀ u' v', u' ≤ u + 105 → v' ≤ v + 614 → LG p l e s m below meth c b dA D adK adV u' v' 1122 i [] σx' σm') : LG p l e s m below meth c b dA D adK adV u v 977 i [] σx σm := by
  obtain ⟨hcu, hcv⟩ := hc
  refine l_aload1 hF (dc_l27 0 rfl) ?_
  refine l_arg (j := 1) hF (dc_l27 1 rfl) (dc_l27 2 rfl) (dc_l27 3 rfl) (dc_l27 4 rfl) (dc_l27 5 rfl) (by decide) (hin 1 (by decide)) ?_
  refine l_callX (As := [.int (avs xs i 1)]) (r := (r, σx')) hF (dc_l27 6 rfl) ml_L_126 (con_X11_seed (oX_ok dA D adK adV s.heap.size) rfl (avs xs i 1) σx) hX rfl rfl ⟨Nat.le_of_ble_eq_true rfl, Nat.le_of_ble_eq_true rfl⟩ ⟨by show u + 0 ≤ _; omega, by show v + 0 ≤ _; omega⟩ (Nat.le_of_ble_eq_true rfl) ?_
  refine l_aload2 hF (dc_l27 7 rfl) ?_
  refine l_arg (j := 1) hF (dc_l27 8 rfl) (dc_l27 9 rfl) (dc_l27 10 rfl) (dc_l27 11 rfl) (dc_l27 12 rfl) (by decide) (hin 1 (by decide)) ?_
  refine l_callM (As := [.int (avs xs i 1)]) (r := (r, σm')) hF (dc_l27 13 rfl) ml_L_129 (fun h => con_X12_seed (oM_ok dA D adK adV s.heap.size h) rfl (avs xs i 1) σm) (fun _ => hM) (fun _ => rfl) rfl ⟨Nat.le_of_ble_eq_true rfl, Nat.le_of_ble_eq_true rfl⟩ ⟨by show u + 0 + 0 ≤ _; omega, by show v + 0 + 0 ≤ _; omega⟩ (Nat.le_of_ble_eq_true rfl) ?_
  refine l_icmp (tgt := 1122) hF (dc_l27 14 rfl) (by decide) rfl ?_
  exact kk _ _ (by show u + 0 + 0 ≤ _; omega) (by show v + 0 + 0 ≤ _; omega)
theorem lc_28 {r : Int32} {σx' σm' : MS} (hF : LF p s m meth c b Ln xs dA D adK adV) (hin : ∀ j, j < 6 → vp_in (i + Int32.ofNat j) Ln) (hX : stepX 28 (avs xs i) σx = some (r, σx')) (hM : stepM 28 (avs xs i) σm = some (r, σm')) (hc : u + 105 ≤ 600000 ∧ v + 614 ≤ 7302250) (kk : ∀ u' v', u' ≤ u + 105 → v' ≤ v + 614 → LG p l e s m below meth c b dA D adK adV u' v' 1122 i [] σx' σm') : LG p l e s m below meth c b dA D adK adV u v 1000 i [] σx σm := by
  obtain ⟨hcu, hcv⟩ := hc
  refine l_aload1 hF (dc_l28 0 rfl) ?_
  refine l_arg (j := 1) hF (dc_l28 1 rfl) (dc_l28 2 rfl) (dc_l28 3 rfl) (dc_l28 4 rfl) (dc_l28 5 rfl) (by decide) (hin 1 (by decide)) ?_
  refine l_arg (j := 2) hF (dc_l28 6 rfl) (dc_l28 7 rfl) (dc_l28 8 rfl) (dc_l28 9 rfl) (dc_l28 10 rfl) (by decide) (hin 2 (by decide)) ?_
  refine l_arg (j := 3) hF (dc_l28 11 rfl) (dc_l28 12 rfl) (dc_l28 13 rfl) (dc_l28 14 rfl) (dc_l28 15 rfl) (by decide) (hin 3 (by decide)) ?_
  refine l_arg (j := 4) hF (dc_l28 16 rfl) (dc_l28 17 rfl) (dc_l28 18 rfl) (dc_l28 19 rfl) (dc_l28 20 rfl) (by decide) (hin 4 (by decide)) ?_
  refine l_callX (As := [.int (avs xs i 1), .int (avs xs i 2), .int (avs xs i 3), .int (avs xs i 4)]) (r := (r, σx')) hF (dc_l28 21 rfl) ml_L_130 (con_X11_nights (oX_ok dA D adK adV s.heap.size) rfl (avs xs i 1) (avs xs i 2) (avs xs i 3) (avs xs i 4) σx) hX rfl rfl ⟨Nat.le_of_ble_eq_true rfl, Nat.le_of_ble_eq_true rfl⟩ ⟨by show u + 0 ≤ _; omega, by show v + 0 ≤ _; omega⟩ (Nat.le_of_ble_eq_true rfl) ?_
  refine l_aload2 hF (dc_l28 22 rfl) ?_
  refine l_arg (j := 1) hF (dc_l28 23 rfl) (dc_l28 24 rfl) (dc_l28 25 rfl) (dc_l28 26 rfl) (dc_l28 27 rfl) (by decide) (hin 1 (by decide)) ?_
  refine l_arg (j := 2) hF (dc_l28 28 rfl) (dc_l28 29 rfl) (dc_l28 30 rfl) (dc_l28 31 rfl) (dc_l28 32 rfl) (by decide) (hin 2 (by decide)) ?_
  refine l_arg (j := 3) hF (dc_l28 33 rfl) (dc_l28 34 rfl) (dc_l28 35 rfl) (dc_l28 36 rfl) (dc_l28 37 rfl) (by decide) (hin 3 (by decide)) ?_
  refine l_arg (j := 4) hF (dc_l28 38 rfl) (dc_l28 39 rfl) (dc_l28 40 rfl) (dc_l28 41 rfl) (dc_l28 42 rfl) (by decide) (hin 4 (by decide)) ?_
  refine l_callM (As := [.int (avs xs i 1), .int (avs xs i 2), .int (avs xs i 3), .int (avs xs i 4)]) (r := (r, σm')) hF (dc_l28 43 rfl) ml_L_134 (fun h => con_X12_nights (oM_ok dA D adK adV s.heap.size h) rfl (avs xs i 1) (avs xs i 2) (avs xs i 3) (avs xs i 4) σm) (fun _ => hM) (fun _ => rfl) rfl ⟨Nat.le_of_ble_eq_true rfl, Nat.le_of_ble_eq_true rfl⟩ ⟨by show u + 0 + 0 ≤ _; omega, by show v + 0 + 0 ≤ _; omega⟩ (Nat.le_of_ble_eq_true rfl) ?_
  refine l_icmp (tgt := 1122) hF (dc_l28 44 rfl) (by decide) rfl ?_
  exact kk _ _ (by show u + 0 + 0 ≤ _; omega) (by show v + 0 + 0 ≤ _; omega)
theorem lc_29 {r : Int32} {σx' σm' : MS} (hF : LF p s m meth c b Ln xs dA D adK adV) (hin : ∀ j, j < 6 → vp_in (i + Int32.ofNat j) Ln) (hX : stepX 29 (avs xs i) σx = some (r, σx')) (hM : stepM 29 (avs xs i) σm = some (r, σm')) (hc : u + 105 ≤ 600000 ∧ v + 614 ≤ 7302250) (kk : ∀ u' v', u' ≤ u + 105 → v' ≤ v + 614 → LG p l e s m below meth c b dA D adK adV u' v' 1122 i [] σx' σm') : LG p l e s m below meth c b dA D adK adV u v 1053 i [] σx σm := by
  obtain ⟨hcu, hcv⟩ := hc
  refine l_aload1 hF (dc_l29 0 rfl) ?_
  refine l_arg (j := 1) hF (dc_l29 1 rfl) (dc_l29 2 rfl) (dc_l29 3 rfl) (dc_l29 4 rfl) (dc_l29 5 rfl) (by decide) (hin 1 (by decide)) ?_
  refine l_callX (As := [.int (avs xs i 1)]) (r := (r, σx')) hF (dc_l29 6 rfl) ml_L_135 (con_PW (con_X11_count (oX_ok dA D adK adV s.heap.size) rfl (avs xs i 1) σx)) hX rfl rfl ⟨Nat.le_of_ble_eq_true rfl, Nat.le_of_ble_eq_true rfl⟩ ⟨by show u + 0 ≤ _; omega, by show v + 0 ≤ _; omega⟩ (Nat.le_of_ble_eq_true rfl) ?_
  refine l_aload2 hF (dc_l29 7 rfl) ?_
  refine l_arg (j := 1) hF (dc_l29 8 rfl) (dc_l29 9 rfl) (dc_l29 10 rfl) (dc_l29 11 rfl) (dc_l29 12 rfl) (by decide) (hin 1 (by decide)) ?_
  refine l_callM (As := [.int (avs xs i 1)]) (r := (r, σm')) hF (dc_l29 13 rfl) ml_L_138 (fun h => con_PW (con_X12_count (oM_ok dA D adK adV s.heap.size h) rfl (avs xs i 1) σm)) (fun _ => hM) (fun _ => rfl) rfl ⟨Nat.le_of_ble_eq_true rfl, Nat.le_of_ble_eq_true rfl⟩ ⟨by show u + 0 + 0 ≤ _; omega, by show v + 0 + 0 ≤ _; omega⟩ (Nat.le_of_ble_eq_true rfl) ?_
  refine l_icmp (tgt := 1122) hF (dc_l29 14 rfl) (by decide) rfl ?_
  exact kk _ _ (by show u + 0 + 0 ≤ _; omega) (by show v + 0 + 0 ≤ _; omega)
theorem lc_30 {r : Int32} {σx' σm' : MS} (hF : LF p s m meth c b Ln xs dA D adK adV) (hin : ∀ j, j < 6 → vp_in (i + Int32.ofNat j) Ln) (hX : stepX 30 (avs xs i) σx = some (r, σx')) (hM : stepM 30 (avs xs i) σm = some (r, σm')) (hc : u + 105 ≤ 600000 ∧ v + 614 ≤ 7302250) (kk : ∀ u' v', u' ≤ u + 105 → v' ≤ v + 614 → LG p l e s m below meth c b dA D adK adV u' v' 1122 i [] σx' σm') : LG p l e s m below meth c b dA D adK adV u v 1076 i [] σx σm := by
  obtain ⟨hcu, hcv⟩ := hc
  refine l_aload1 hF (dc_l30 0 rfl) ?_
  refine l_arg (j := 1) hF (dc_l30 1 rfl) (dc_l30 2 rfl) (dc_l30 3 rfl) (dc_l30 4 rfl) (dc_l30 5 rfl) (by decide) (hin 1 (by decide)) ?_
  refine l_callX (As := [.int (avs xs i 1)]) (r := (r, σx')) hF (dc_l30 6 rfl) ml_L_139 (con_X11_image (oX_ok dA D adK adV s.heap.size) trivial rfl (avs xs i 1) σx) hX rfl rfl ⟨Nat.le_of_ble_eq_true rfl, Nat.le_of_ble_eq_true rfl⟩ ⟨by show u + 105 ≤ _; omega, by show v + 614 ≤ _; omega⟩ (Nat.le_of_ble_eq_true rfl) ?_
  refine l_aload2 hF (dc_l30 7 rfl) ?_
  refine l_arg (j := 1) hF (dc_l30 8 rfl) (dc_l30 9 rfl) (dc_l30 10 rfl) (dc_l30 11 rfl) (dc_l30 12 rfl) (by decide) (hin 1 (by decide)) ?_
  refine l_callM (As := [.int (avs xs i 1)]) (r := (r, σm')) hF (dc_l30 13 rfl) ml_L_142 (fun h => con_X12_image (oM_ok dA D adK adV s.heap.size h) rfl (avs xs i 1) σm) (fun _ => hM) (fun _ => rfl) rfl ⟨Nat.le_of_ble_eq_true rfl, Nat.le_of_ble_eq_true rfl⟩ ⟨by show u + 105 + 0 ≤ _; omega, by show v + 614 + 0 ≤ _; omega⟩ (Nat.le_of_ble_eq_true rfl) ?_
  refine l_icmp (tgt := 1122) hF (dc_l30 14 rfl) (by decide) rfl ?_
  exact kk _ _ (by show u + 105 + 0 ≤ _; omega) (by show v + 614 + 0 ≤ _; omega)
theorem lc_31 {r : Int32} {σx' σm' : MS} (hF : LF p s m meth c b Ln xs dA D adK adV) (hin : ∀ j, j < 6 → vp_in (i + Int32.ofNat j) Ln) (hX : stepX 31 (avs xs i) σx = some (r, σx')) (hM : stepM 31 (avs xs i) σm = some (r, σm')) (hc : u + 105 ≤ 600000 ∧ v + 614 ≤ 7302250) (kk : ∀ u' v', u' ≤ u + 105 → v' ≤ v + 614 → LG p l e s m below meth c b dA D adK adV u' v' 1122 i [] σx' σm') : LG p l e s m below meth c b dA D adK adV u v 1099 i [] σx σm := by
  obtain ⟨hcu, hcv⟩ := hc
  refine l_aload1 hF (dc_l31 0 rfl) ?_
  refine l_arg (j := 1) hF (dc_l31 1 rfl) (dc_l31 2 rfl) (dc_l31 3 rfl) (dc_l31 4 rfl) (dc_l31 5 rfl) (by decide) (hin 1 (by decide)) ?_
  refine l_callX (As := [.int (avs xs i 1)]) (r := (r, σx')) hF (dc_l31 6 rfl) ml_L_143 (con_X11_back (oX_ok dA D adK adV s.heap.size) trivial rfl (avs xs i 1) σx) hX rfl rfl ⟨Nat.le_of_ble_eq_true rfl, Nat.le_of_ble_eq_true rfl⟩ ⟨by show u + 84 ≤ _; omega, by show v + 462 ≤ _; omega⟩ (Nat.le_of_ble_eq_true rfl) ?_
  refine l_aload2 hF (dc_l31 7 rfl) ?_
  refine l_arg (j := 1) hF (dc_l31 8 rfl) (dc_l31 9 rfl) (dc_l31 10 rfl) (dc_l31 11 rfl) (dc_l31 12 rfl) (by decide) (hin 1 (by decide)) ?_
  refine l_callM (As := [.int (avs xs i 1)]) (r := (r, σm')) hF (dc_l31 13 rfl) ml_L_146 (fun h => con_X12_back (oM_ok dA D adK adV s.heap.size h) rfl (avs xs i 1) σm) (fun _ => hM) (fun _ => rfl) rfl ⟨Nat.le_of_ble_eq_true rfl, Nat.le_of_ble_eq_true rfl⟩ ⟨by show u + 84 + 0 ≤ _; omega, by show v + 462 + 0 ≤ _; omega⟩ (Nat.le_of_ble_eq_true rfl) ?_
  refine l_icmp (tgt := 1122) hF (dc_l31 14 rfl) (by decide) rfl ?_
  exact kk _ _ (by show u + 84 + 0 ≤ _; omega) (by show v + 462 + 0 ≤ _; omega)
theorem and31 (y : Int32) : ∃ k : Nat, k < 32 ∧ y &&& 31 = Int32.ofNat k := by
  refine ⟨(y &&& 31).toBitVec.toNat, ?_, ?_⟩
  · have h : (y &&& 31).toBitVec.toNat = y.toBitVec.toNat &&& 31 := by
      rw [Int32.toBitVec_and, BitVec.toNat_and]
      rfl
    rw [h]
    exact Nat.lt_of_le_of_lt Nat.and_le_right (by decide)
  · apply Int32.toBitVec_inj.mp
    show (y &&& 31).toBitVec = BitVec.ofNat 32 _
    rw [BitVec.ofNat_toNat, BitVec.setWidth_eq]
theorem l_case {k : Nat} {r : Int32} {σx' σm' : MS} (hF : LF p s m meth c b Ln xs dA D adK adV) (hk : k < 32) (hin : ∀ j, j < 6 → vp_in (i + Int32.ofNat j) Ln) (hX : stepX k (avs xs i) σx = some (r, σx')) (hM : stepM k (avs xs i) σm = some (r, σm')) (hc : u + 105 ≤ 600000 ∧ v + 614 ≤ 7302250) (kk : ∀ u' v', u' ≤ u + 105 → v' ≤ v + 614 → LG p l e s m below meth c b dA D adK adV u' v' 1122 i [] σx' σm') : LG p l e s m below meth c b dA D adK adV u v 33 i [.int (Int32.ofNat k)] σx σm := by
  match k, hk, hX, hM with
  | 0, _, hX, hM => exact l_pure (pc' := 176) (fun H locs ls Q h => lv_tableIn (off := 143) (tgt := 176) hF.1 hF.2.1 (dc_lh 21 rfl).1 (by decide) (by decide) rfl (by decide) h) (lc_0 hF hin hX hM hc kk)
  | 1, _, hX, hM => exact l_pure (pc' := 239) (fun H locs ls Q h => lv_tableIn (off := 206) (tgt := 239) hF.1 hF.2.1 (dc_lh 21 rfl).1 (by decide) (by decide) rfl (by decide) h) (lc_1 hF hin hX hM hc kk)
  | 2, _, hX, hM => exact l_pure (pc' := 262) (fun H locs ls Q h => lv_tableIn (off := 229) (tgt := 262) hF.1 hF.2.1 (dc_lh 21 rfl).1 (by decide) (by decide) rfl (by decide) h) (lc_2 hF hin hX hM hc kk)
  | 3, _, hX, hM => exact l_pure (pc' := 275) (fun H locs ls Q h => lv_tableIn (off := 242) (tgt := 275) hF.1 hF.2.1 (dc_lh 21 rfl).1 (by decide) (by decide) rfl (by decide) h) (lc_3 hF hin hX hM hc kk)
  | 4, _, hX, hM => exact l_pure (pc' := 288) (fun H locs ls Q h => lv_tableIn (off := 255) (tgt := 288) hF.1 hF.2.1 (dc_lh 21 rfl).1 (by decide) (by decide) rfl (by decide) h) (lc_4 hF hin hX hM hc kk)
  | 5, _, hX, hM => exact l_pure (pc' := 311) (fun H locs ls Q h => lv_tableIn (off := 278) (tgt := 311) hF.1 hF.2.1 (dc_lh 21 rfl).1 (by decide) (by decide) rfl (by decide) h) (lc_5 hF hin hX hM hc kk)
  | 6, _, hX, hM => exact l_pure (pc' := 344) (fun H locs ls Q h => lv_tableIn (off := 311) (tgt := 344) hF.1 hF.2.1 (dc_lh 21 rfl).1 (by decide) (by decide) rfl (by decide) h) (lc_6 hF hin hX hM hc kk)
  | 7, _, hX, hM => exact l_pure (pc' := 377) (fun H locs ls Q h => lv_tableIn (off := 344) (tgt := 377) hF.1 hF.2.1 (dc_lh 21 rfl).1 (by decide) (by decide) rfl (by decide) h) (lc_7 hF hin hX hM hc kk)
  | 8, _, hX, hM => exact l_pure (pc' := 410) (fun H locs ls Q h => lv_tableIn (off := 377) (tgt := 410) hF.1 hF.2.1 (dc_lh 21 rfl).1 (by decide) (by decide) rfl (by decide) h) (lc_8 hF hin hX hM hc kk)
  | 9, _, hX, hM => exact l_pure (pc' := 423) (fun H locs ls Q h => lv_tableIn (off := 390) (tgt := 423) hF.1 hF.2.1 (dc_lh 21 rfl).1 (by decide) (by decide) rfl (by decide) h) (lc_9 hF hin hX hM hc kk)
  | 10, _, hX, hM => exact l_pure (pc' := 456) (fun H locs ls Q h => lv_tableIn (off := 423) (tgt := 456) hF.1 hF.2.1 (dc_lh 21 rfl).1 (by decide) (by decide) rfl (by decide) h) (lc_10 hF hin hX hM hc kk)
  | 11, _, hX, hM => exact l_pure (pc' := 489) (fun H locs ls Q h => lv_tableIn (off := 456) (tgt := 489) hF.1 hF.2.1 (dc_lh 21 rfl).1 (by decide) (by decide) rfl (by decide) h) (lc_11 hF hin hX hM hc kk)
  | 12, _, hX, hM => exact l_pure (pc' := 522) (fun H locs ls Q h => lv_tableIn (off := 489) (tgt := 522) hF.1 hF.2.1 (dc_lh 21 rfl).1 (by decide) (by decide) rfl (by decide) h) (lc_12 hF hin hX hM hc kk)
  | 13, _, hX, hM => exact l_pure (pc' := 545) (fun H locs ls Q h => lv_tableIn (off := 512) (tgt := 545) hF.1 hF.2.1 (dc_lh 21 rfl).1 (by decide) (by decide) rfl (by decide) h) (lc_13 hF hin hX hM hc kk)
  | 14, _, hX, hM => exact l_pure (pc' := 558) (fun H locs ls Q h => lv_tableIn (off := 525) (tgt := 558) hF.1 hF.2.1 (dc_lh 21 rfl).1 (by decide) (by decide) rfl (by decide) h) (lc_14 hF hin hX hM hc kk)
  | 15, _, hX, hM => exact l_pure (pc' := 601) (fun H locs ls Q h => lv_tableIn (off := 568) (tgt := 601) hF.1 hF.2.1 (dc_lh 21 rfl).1 (by decide) (by decide) rfl (by decide) h) (lc_15 hF hin hX hM hc kk)
  | 16, _, hX, hM => exact l_pure (pc' := 624) (fun H locs ls Q h => lv_tableIn (off := 591) (tgt := 624) hF.1 hF.2.1 (dc_lh 21 rfl).1 (by decide) (by decide) rfl (by decide) h) (lc_16 hF hin hX hM hc kk)
  | 17, _, hX, hM => exact l_pure (pc' := 657) (fun H locs ls Q h => lv_tableIn (off := 624) (tgt := 657) hF.1 hF.2.1 (dc_lh 21 rfl).1 (by decide) (by decide) rfl (by decide) h) (lc_17 hF hin hX hM hc kk)
  | 18, _, hX, hM => exact l_pure (pc' := 700) (fun H locs ls Q h => lv_tableIn (off := 667) (tgt := 700) hF.1 hF.2.1 (dc_lh 21 rfl).1 (by decide) (by decide) rfl (by decide) h) (lc_18 hF hin hX hM hc kk)
  | 19, _, hX, hM => exact l_pure (pc' := 733) (fun H locs ls Q h => lv_tableIn (off := 700) (tgt := 733) hF.1 hF.2.1 (dc_lh 21 rfl).1 (by decide) (by decide) rfl (by decide) h) (lc_19 hF hin hX hM hc kk)
  | 20, _, hX, hM => exact l_pure (pc' := 756) (fun H locs ls Q h => lv_tableIn (off := 723) (tgt := 756) hF.1 hF.2.1 (dc_lh 21 rfl).1 (by decide) (by decide) rfl (by decide) h) (lc_20 hF hin hX hM hc kk)
  | 21, _, hX, hM => exact l_pure (pc' := 789) (fun H locs ls Q h => lv_tableIn (off := 756) (tgt := 789) hF.1 hF.2.1 (dc_lh 21 rfl).1 (by decide) (by decide) rfl (by decide) h) (lc_21 hF hin hX hM hc kk)
  | 22, _, hX, hM => exact l_pure (pc' := 822) (fun H locs ls Q h => lv_tableIn (off := 789) (tgt := 822) hF.1 hF.2.1 (dc_lh 21 rfl).1 (by decide) (by decide) rfl (by decide) h) (lc_22 hF hin hX hM hc kk)
  | 23, _, hX, hM => exact l_pure (pc' := 855) (fun H locs ls Q h => lv_tableIn (off := 822) (tgt := 855) hF.1 hF.2.1 (dc_lh 21 rfl).1 (by decide) (by decide) rfl (by decide) h) (lc_23 hF hin hX hM hc kk)
  | 24, _, hX, hM => exact l_pure (pc' := 878) (fun H locs ls Q h => lv_tableIn (off := 845) (tgt := 878) hF.1 hF.2.1 (dc_lh 21 rfl).1 (by decide) (by decide) rfl (by decide) h) (lc_24 hF hin hX hM hc kk)
  | 25, _, hX, hM => exact l_pure (pc' := 921) (fun H locs ls Q h => lv_tableIn (off := 888) (tgt := 921) hF.1 hF.2.1 (dc_lh 21 rfl).1 (by decide) (by decide) rfl (by decide) h) (lc_25 hF hin hX hM hc kk)
  | 26, _, hX, hM => exact l_pure (pc' := 944) (fun H locs ls Q h => lv_tableIn (off := 911) (tgt := 944) hF.1 hF.2.1 (dc_lh 21 rfl).1 (by decide) (by decide) rfl (by decide) h) (lc_26 hF hin hX hM hc kk)
  | 27, _, hX, hM => exact l_pure (pc' := 977) (fun H locs ls Q h => lv_tableIn (off := 944) (tgt := 977) hF.1 hF.2.1 (dc_lh 21 rfl).1 (by decide) (by decide) rfl (by decide) h) (lc_27 hF hin hX hM hc kk)
  | 28, _, hX, hM => exact l_pure (pc' := 1000) (fun H locs ls Q h => lv_tableIn (off := 967) (tgt := 1000) hF.1 hF.2.1 (dc_lh 21 rfl).1 (by decide) (by decide) rfl (by decide) h) (lc_28 hF hin hX hM hc kk)
  | 29, _, hX, hM => exact l_pure (pc' := 1053) (fun H locs ls Q h => lv_tableIn (off := 1020) (tgt := 1053) hF.1 hF.2.1 (dc_lh 21 rfl).1 (by decide) (by decide) rfl (by decide) h) (lc_29 hF hin hX hM hc kk)
  | 30, _, hX, hM => exact l_pure (pc' := 1076) (fun H locs ls Q h => lv_tableIn (off := 1043) (tgt := 1076) hF.1 hF.2.1 (dc_lh 21 rfl).1 (by decide) (by decide) rfl (by decide) h) (lc_30 hF hin hX hM hc kk)
  | 31, _, hX, hM => exact l_pure (pc' := 1099) (fun H locs ls Q h => lv_tableIn (off := 1066) (tgt := 1099) hF.1 hF.2.1 (dc_lh 21 rfl).1 (by decide) (by decide) rfl (by decide) h) (lc_31 hF hin hX hM hc kk)
  | k + 32, hk, _, _ => exact absurd hk (by omega)
end LS
