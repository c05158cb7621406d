section
/-! the program as data: instructions by method, pools, shapes of the places (printed by wip/whole/gen_data.py) -/
abbrev jm_V : Type := Int ⊕ Int ⊕ Nat ⊕ Nat ⊕ Unit
abbrev jm_H : Type := Nat → Int → Int
abbrev jm_E : Type := Nat × Instr × Nat × Nat
abbrev jI (z : Int) : jm_V := .inl z
abbrev jL (z : Int) : jm_V := .inr (.inl z)
abbrev jF (b : Nat) : jm_V := .inr (.inr (.inl b))
abbrev jR (k : Nat) : jm_V := .inr (.inr (.inr (.inl k)))
abbrev jU : jm_V := .inr (.inr (.inr (.inr ())))
def jmt_0 : List (List jm_E) := [[(0, .iload_n 0, 1, 0), (1, .ifCond .ge 8, 4, 9), (4, .iload_n 0, 5, 0), (5, .ineg, 6, 0), (6, .goto 4, 9, 10), (9, .iload_n 0, 10, 0), (10, .ireturn, 11, 0)]]  -- J9_abs_0f7a4
def jmt_1 : List (List jm_E) := [[(0, .iload_n 0, 1, 0), (1, .iload_n 1, 2, 0), (2, .if_icmp .lt 7, 5, 9), (5, .iload_n 0, 6, 0), (6, .goto 4, 9, 10), (9, .iload_n 1, 10, 0), (10, .ireturn, 11, 0)]]  -- J9_max_7cf53
def jmt_2 : List (List jm_E) := [[(0, .iload_n 0, 1, 0), (1, .iload_n 1, 2, 0), (2, .if_icmp .gt 7, 5, 9), (5, .iload_n 0, 6, 0), (6, .goto 4, 9, 10), (9, .iload_n 1, 10, 0), (10, .ireturn, 11, 0)]]  -- J9_min_7cf53
def jmt_3 : List (List jm_E) := [[(0, .iload_n 0, 1, 0), (1, .iload_n 0, 2, 0), (2, .iconst 1, 3, 0), (3, .iushr, 4, 0), (4, .ldc_w 265, 7, 0), (7, .iand, 8, 0), (8, .isub, 9, 0), (9, .istore_n 0, 10, 0), (10, .iload_n 0, 11, 0), (11, .ldc_w 266, 14, 0), (14, .iand, 15, 0), (15, .iload_n 0, 16, 0), (16, .iconst 2, 17, 0), (17, .iushr, 18, 0), (18, .ldc_w 266, 21, 0), (21, .iand, 22, 0), (22, .iadd, 23, 0), (23, .istore_n 0, 24, 0), (24, .iload_n 0, 25, 0), (25, .iload_n 0, 26, 0), (26, .iconst 4, 27, 0), (27, .iushr, 28, 0), (28, .iadd, 29, 0), (29, .ldc_w 267, 32, 0)],
  [(32, .iand, 33, 0), (33, .istore_n 0, 34, 0), (34, .iload_n 0, 35, 0), (35, .iload_n 0, 36, 0), (36, .bipush 8, 38, 0), (38, .iushr, 39, 0), (39, .iadd, 40, 0), (40, .istore_n 0, 41, 0), (41, .iload_n 0, 42, 0), (42, .iload_n 0, 43, 0), (43, .bipush 16, 45, 0), (45, .iushr, 46, 0), (46, .iadd, 47, 0), (47, .istore_n 0, 48, 0), (48, .iload_n 0, 49, 0), (49, .bipush 63, 51, 0), (51, .iand, 52, 0), (52, .ireturn, 53, 0)]]  -- J6_bitCount_0f7a4
def jmt_4 : List (List jm_E) := [[(0, .aload_n 0, 1, 0), (1, .getfield 9, 4, 0), (4, .arraylength, 5, 0), (5, .aload_n 0, 6, 0), (6, .invokevirtual 335, 9, 0), (9, .ishr, 10, 0), (10, .ireturn, 11, 0)]]  -- J0_length_8abf5
def jmt_5 : List (List jm_E) := [[(0, .getstatic 38, 3, 0), (3, .ifCond .eq 10, 6, 13), (6, .aload_n 0, 7, 0), (7, .getfield 15, 10, 0), (10, .goto 4, 13, 14), (13, .iconst 1, 14, 0), (14, .ireturn, 15, 0)]]  -- J0_coder_7d493
def jmt_6 : List (List jm_E) := [[(0, .getstatic 38, 3, 0), (3, .ifCond .eq 14, 6, 17), (6, .aload_n 0, 7, 0), (7, .getfield 15, 10, 0), (10, .ifCond .ne 7, 13, 17), (13, .iconst 1, 14, 0), (14, .goto 4, 17, 18), (17, .iconst 0, 18, 0), (18, .ireturn, 19, 0)]]  -- J0_isLatin1_aae02
def jmt_7 : List (List jm_E) := [[(0, .iload_n 0, 1, 0), (1, .ifCond .lt 14, 4, 15), (4, .iload_n 0, 5, 0), (5, .sipush 255, 8, 0), (8, .if_icmp .gt 7, 11, 15), (11, .iconst 1, 12, 0), (12, .goto 4, 15, 16), (15, .iconst 0, 16, 0), (16, .ireturn, 17, 0)]]  -- J1_canEncode_9a6ad
def jmt_8 : List (List jm_E) := [[(0, .iload_n 1, 1, 0), (1, .i2b, 2, 0), (2, .istore 4, 4, 0), (4, .iload_n 2, 5, 0), (5, .istore 5, 7, 0), (7, .iload 5, 9, 0), (9, .iload_n 3, 10, 0), (10, .if_icmp .ge 21, 13, 31), (13, .aload_n 0, 14, 0), (14, .iload 5, 16, 0), (16, .baload, 17, 0), (17, .iload 4, 19, 0), (19, .if_icmp .ne 6, 22, 25), (22, .iload 5, 24, 0), (24, .ireturn, 25, 0), (25, .iinc 5 1, 28, 0), (28, .goto (-21), 31, 7), (31, .iconst (-1), 32, 0)],
  [(32, .ireturn, 33, 0)]]  -- J1_indexOfChar_4cfef
def jmt_9 : List (List jm_E) := [[(0, .iload_n 1, 1, 0), (1, .invokestatic 88, 4, 0), (4, .ifCond .ne 5, 7, 9), (7, .iconst (-1), 8, 0), (8, .ireturn, 9, 0), (9, .iload_n 2, 10, 0), (10, .iconst 0, 11, 0), (11, .invokestatic 92, 14, 0), (14, .istore_n 2, 15, 0), (15, .iload_n 3, 16, 0), (16, .aload_n 0, 17, 0), (17, .arraylength, 18, 0), (18, .invokestatic 38, 21, 0), (21, .istore_n 3, 22, 0), (22, .iload_n 2, 23, 0), (23, .iload_n 3, 24, 0), (24, .if_icmp .lt 5, 27, 29), (27, .iconst (-1), 28, 0), (28, .ireturn, 29, 0), (29, .aload_n 0, 30, 0), (30, .iload_n 1, 31, 0), (31, .iload_n 2, 32, 0)],
  [(32, .iload_n 3, 33, 0), (33, .invokestatic 95, 36, 0), (36, .ireturn, 37, 0)]]  -- J1_indexOf_4cfef
def jmt_10 : List (List jm_E) := [[(0, .aload_n 0, 1, 0), (1, .invokevirtual 492, 4, 0), (4, .ifCond .eq 19, 7, 23), (7, .aload_n 0, 8, 0), (8, .getfield 9, 11, 0), (11, .iload_n 1, 12, 0), (12, .iload_n 2, 13, 0), (13, .aload_n 0, 14, 0), (14, .invokevirtual 505, 17, 0), (17, .invokestatic 637, 20, 0), (20, .goto 16, 23, 36), (23, .aload_n 0, 24, 0), (24, .getfield 9, 27, 0), (27, .iload_n 1, 28, 0), (28, .iload_n 2, 29, 0), (29, .aload_n 0, 30, 0), (30, .invokevirtual 505, 33, 0)],
  [(33, .invokestatic 640, 36, 0), (36, .ireturn, 37, 0)]]  -- J0_indexOf_7cf53
def jmt_11 : List (List jm_E) := [[(0, .aload_n 0, 1, 0), (1, .iload_n 1, 2, 0), (2, .iconst 0, 3, 0), (3, .invokevirtual 633, 6, 0), (6, .ireturn, 7, 0)]]  -- J0_indexOf_0f7a4
def jmt_12 : List (List jm_E) := [[(0, .iconst 0, 1, 0), (1, .istore_n 1, 2, 0), (2, .iload_n 1, 3, 0), (3, .bipush 15, 5, 0), (5, .if_icmp .ge 23, 8, 28), (8, .aload_n 0, 9, 0), (9, .getfield 9, 12, 0), (12, .iload_n 1, 13, 0), (13, .iconst 0, 14, 0), (14, .iastore, 15, 0), (15, .aload_n 0, 16, 0), (16, .getfield 15, 19, 0), (19, .iload_n 1, 20, 0), (20, .iconst 0, 21, 0), (21, .bastore, 22, 0), (22, .iinc 1 1, 25, 0), (25, .goto (-23), 28, 2), (28, .return_, 29, 0)]]  -- X0_reset
def jmt_13 : List (List jm_E) := [[(0, .iload_n 1, 1, 0), (1, .ifCond .lt 9, 4, 10), (4, .iload_n 1, 5, 0), (5, .bipush 15, 7, 0), (7, .if_icmp .lt 5, 10, 12), (10, .iconst 0, 11, 0), (11, .ireturn, 12, 0), (12, .aload_n 0, 13, 0), (13, .getfield 9, 16, 0), (16, .iload_n 1, 17, 0), (17, .iaload, 18, 0), (18, .ifCond .ne 24, 21, 42), (21, .aload_n 0, 22, 0), (22, .getfield 52, 25, 0), (25, .iload_n 1, 26, 0), (26, .invokevirtual 56, 29, 0), (29, .aload_n 0, 30, 0), (30, .getfield 9, 33, 0)],
  [(33, .iload_n 1, 34, 0), (34, .aload_n 0, 35, 0), (35, .getfield 52, 38, 0), (38, .invokevirtual 62, 41, 0), (41, .iastore, 42, 0), (42, .aload_n 0, 43, 0), (43, .getfield 9, 46, 0), (46, .iload_n 1, 47, 0), (47, .iaload, 48, 0), (48, .ireturn, 49, 0)]]  -- X0_fewestOf
def jmt_14 : List (List jm_E) := [[(0, .iload_n 1, 1, 0), (1, .ifCond .lt 18, 4, 19), (4, .iload_n 1, 5, 0), (5, .bipush 15, 7, 0), (7, .if_icmp .ge 12, 10, 19), (10, .aload_n 0, 11, 0), (11, .getfield 15, 14, 0), (14, .iload_n 1, 15, 0), (15, .baload, 16, 0), (16, .ifCond .eq 4, 19, 20), (19, .return_, 20, 0), (20, .aload_n 0, 21, 0), (21, .getfield 15, 24, 0), (24, .iload_n 1, 25, 0), (25, .iconst 1, 26, 0), (26, .bastore, 27, 0), (27, .aload_n 0, 28, 0), (28, .getfield 52, 31, 0), (31, .iload_n 1, 32, 0)],
  [(32, .invokevirtual 56, 35, 0), (35, .aload_n 0, 36, 0), (36, .getfield 52, 39, 0), (39, .invokevirtual 62, 42, 0), (42, .istore_n 2, 43, 0), (43, .aload_n 0, 44, 0), (44, .getfield 48, 47, 0), (47, .iload_n 1, 48, 0), (48, .invokevirtual 65, 51, 0), (51, .istore_n 3, 52, 0), (52, .aload_n 0, 53, 0), (53, .aload_n 0, 54, 0), (54, .getfield 48, 57, 0), (57, .iload_n 1, 58, 0), (58, .invokevirtual 71, 61, 0), (61, .bipush 60, 63, 0), (63, .invokestatic 74, 66, 0)],
  [(66, .putfield 41, 69, 0), (69, .aload_n 0, 70, 0), (70, .iload_n 1, 71, 0), (71, .invokevirtual 80, 74, 0), (74, .ldc 83, 76, 0), (76, .fstore 4, 78, 0), (78, .iconst 0, 79, 0), (79, .istore 5, 81, 0), (81, .iload 5, 83, 0), (83, .aload_n 0, 84, 0), (84, .getfield 41, 87, 0), (87, .if_icmp .ge 71, 90, 158), (90, .aload_n 0, 91, 0), (91, .getfield 52, 94, 0), (94, .iload 5, 96, 0)],
  [(96, .invokevirtual 84, 99, 0), (99, .lconst 0, 100, 0), (100, .lcmp, 101, 0), (101, .ifCond .ne 6, 104, 107), (104, .goto 48, 107, 152), (107, .aload_n 0, 108, 0), (108, .iload 5, 110, 0), (110, .iload_n 2, 111, 0), (111, .invokevirtual 88, 114, 0), (114, .fstore 6, 116, 0), (116, .fload 6, 118, 0), (118, .ldc 83, 120, 0), (120, .fcmp .l, 121, 0), (121, .ifCond .eq 31, 124, 152), (124, .fload 4, 126, 0), (126, .ldc 83, 128, 0)],
  [(128, .fcmp .l, 129, 0), (129, .ifCond .eq 11, 132, 140), (132, .fload 6, 134, 0), (134, .fload 4, 136, 0), (136, .fcmp .g, 137, 0), (137, .ifCond .ge 15, 140, 152), (140, .fload 6, 142, 0), (142, .fstore 4, 144, 0), (144, .aload_n 0, 145, 0), (145, .iload_n 3, 146, 0), (146, .iload 5, 148, 0), (148, .iload_n 2, 149, 0), (149, .invokevirtual 92, 152, 0), (152, .iinc 5 1, 155, 0), (155, .goto (-74), 158, 81), (158, .aload_n 0, 159, 0), (159, .iload_n 3, 160, 0)],
  [(160, .iload_n 2, 161, 0), (161, .invokevirtual 96, 164, 0), (164, .aload_n 0, 165, 0), (165, .getfield 19, 168, 0), (168, .iload_n 1, 169, 0), (169, .fload 4, 171, 0), (171, .invokestatic 100, 174, 0), (174, .iastore, 175, 0), (175, .aload_n 0, 176, 0), (176, .getfield 22, 179, 0), (179, .iload_n 1, 180, 0), (180, .aload_n 0, 181, 0), (181, .iload_n 3, 182, 0), (182, .iload_n 2, 183, 0), (183, .invokevirtual 104, 186, 0), (186, .iastore, 187, 0), (187, .return_, 188, 0)]]  -- X0_solve
def jmt_15 : List (List jm_E) := [[(0, .iconst 0, 1, 0), (1, .istore_n 2, 2, 0), (2, .iload_n 2, 3, 0), (3, .aload_n 0, 4, 0), (4, .getfield 41, 7, 0), (7, .if_icmp .ge 72, 10, 79), (10, .iconst 0, 11, 0), (11, .istore_n 3, 12, 0), (12, .iload_n 3, 13, 0), (13, .aload_n 0, 14, 0), (14, .getfield 41, 17, 0), (17, .if_icmp .ge 56, 20, 73), (20, .iload_n 2, 21, 0), (21, .bipush 60, 23, 0), (23, .imul, 24, 0), (24, .iload_n 3, 25, 0), (25, .iadd, 26, 0), (26, .istore 4, 28, 0), (28, .iload 4, 30, 0), (30, .aload_n 0, 31, 0), (31, .getfield 31, 34, 0)],
  [(34, .arraylength, 35, 0), (35, .if_icmp .ge 32, 38, 67), (38, .aload_n 0, 39, 0), (39, .getfield 52, 42, 0), (42, .iload_n 2, 43, 0), (43, .iload_n 3, 44, 0), (44, .invokevirtual 107, 47, 0), (47, .ifCond .eq 20, 50, 67), (50, .aload_n 0, 51, 0), (51, .getfield 31, 54, 0), (54, .iload 4, 56, 0), (56, .aload_n 0, 57, 0), (57, .getfield 48, 60, 0), (60, .iload_n 1, 61, 0), (61, .iload_n 2, 62, 0), (62, .iload_n 3, 63, 0), (63, .invokevirtual 111, 66, 0)],
  [(66, .fastore, 67, 0), (67, .iinc 3 1, 70, 0), (70, .goto (-58), 73, 12), (73, .iinc 2 1, 76, 0), (76, .goto (-74), 79, 2), (79, .return_, 80, 0)]]  -- X0_fillPenalties
def jmt_16 : List (List jm_E) := [[(0, .iload_n 1, 1, 0), (1, .istore_n 3, 2, 0), (2, .iload_n 3, 3, 0), (3, .aload_n 0, 4, 0), (4, .getfield 41, 7, 0), (7, .if_icmp .ge 27, 10, 34), (10, .aload_n 0, 11, 0), (11, .iconst 0, 12, 0), (12, .iload_n 3, 13, 0), (13, .iload_n 3, 14, 0), (14, .iload_n 1, 15, 0), (15, .if_icmp .ne 7, 18, 22), (18, .fconst 0, 19, 0), (19, .goto 5, 22, 24), (22, .ldc 83, 24, 0), (24, .iconst (-1), 25, 0), (25, .invokevirtual 115, 28, 0), (28, .iinc 3 1, 31, 0), (31, .goto (-29), 34, 2)],
  [(34, .iconst 1, 35, 0), (35, .istore_n 3, 36, 0), (36, .iload_n 3, 37, 0), (37, .iload_n 2, 38, 0), (38, .if_icmp .ge 63, 41, 101), (41, .aload_n 0, 42, 0), (42, .iload_n 3, 43, 0), (43, .iload_n 1, 44, 0), (44, .ldc 83, 46, 0), (46, .iconst (-1), 47, 0), (47, .invokevirtual 115, 50, 0), (50, .iload_n 1, 51, 0), (51, .iconst 1, 52, 0), (52, .iadd, 53, 0), (53, .istore 4, 55, 0), (55, .iload 4, 57, 0), (57, .aload_n 0, 58, 0), (58, .getfield 41, 61, 0), (61, .if_icmp .ge 34, 64, 95)],
  [(64, .aload_n 0, 65, 0), (65, .iload 4, 67, 0), (67, .iload_n 3, 68, 0), (68, .iload_n 1, 69, 0), (69, .iload 4, 71, 0), (71, .invokevirtual 119, 74, 0), (74, .fstore 5, 76, 0), (76, .aload_n 0, 77, 0), (77, .iload_n 3, 78, 0), (78, .iload 4, 80, 0), (80, .fload 5, 82, 0), (82, .aload_n 0, 83, 0), (83, .getfield 45, 86, 0), (86, .invokevirtual 115, 89, 0), (89, .iinc 4 1, 92, 0), (92, .goto (-37), 95, 55), (95, .iinc 3 1, 98, 0)],
  [(98, .goto (-62), 101, 36), (101, .aload_n 0, 102, 0), (102, .iload_n 1, 103, 0), (103, .iload_n 2, 104, 0), (104, .iload_n 1, 105, 0), (105, .iconst 1, 106, 0), (106, .iadd, 107, 0), (107, .aload_n 0, 108, 0), (108, .getfield 41, 111, 0), (111, .invokevirtual 119, 114, 0), (114, .freturn, 115, 0)]]  -- X0_sumRound
def jmt_17 : List (List jm_E) := [[(0, .ldc 83, 2, 0), (2, .fstore 5, 4, 0), (4, .aload_n 0, 5, 0), (5, .iconst (-1), 6, 0), (6, .putfield 45, 9, 0), (9, .iload_n 3, 10, 0), (10, .istore 6, 12, 0), (12, .iload 6, 14, 0), (14, .iload 4, 16, 0), (16, .if_icmp .ge 82, 19, 98), (19, .aload_n 0, 20, 0), (20, .iload_n 2, 21, 0), (21, .iconst 1, 22, 0), (22, .isub, 23, 0), (23, .iload 6, 25, 0), (25, .invokevirtual 123, 28, 0), (28, .fstore 7, 30, 0), (30, .fload 7, 32, 0)],
  [(32, .ldc 83, 34, 0), (34, .fcmp .l, 35, 0), (35, .ifCond .eq 57, 38, 92), (38, .aload_n 0, 39, 0), (39, .getfield 52, 42, 0), (42, .iload 6, 44, 0), (44, .iload_n 1, 45, 0), (45, .invokevirtual 107, 48, 0), (48, .ifCond .ne 6, 51, 54), (51, .goto 41, 54, 92), (54, .fload 7, 56, 0), (56, .aload_n 0, 57, 0), (57, .iload 6, 59, 0), (59, .iload_n 1, 60, 0), (60, .invokevirtual 126, 63, 0), (63, .fadd, 64, 0)],
  [(64, .fstore 8, 66, 0), (66, .fload 5, 68, 0), (68, .ldc 83, 70, 0), (70, .fcmp .l, 71, 0), (71, .ifCond .eq 11, 74, 82), (74, .fload 8, 76, 0), (76, .fload 5, 78, 0), (78, .fcmp .g, 79, 0), (79, .ifCond .ge 13, 82, 92), (82, .fload 8, 84, 0), (84, .fstore 5, 86, 0), (86, .aload_n 0, 87, 0), (87, .iload 6, 89, 0), (89, .putfield 45, 92, 0), (92, .iinc 6 1, 95, 0), (95, .goto (-83), 98, 12)],
  [(98, .fload 5, 100, 0), (100, .freturn, 101, 0)]]  -- X0_leastInto
def jmt_18 : List (List jm_E) := [[(0, .iload_n 1, 1, 0), (1, .bipush 60, 3, 0), (3, .imul, 4, 0), (4, .iload_n 2, 5, 0), (5, .iadd, 6, 0), (6, .istore 5, 8, 0), (8, .iload 5, 10, 0), (10, .ifCond .lt 30, 13, 40), (13, .iload 5, 15, 0), (15, .aload_n 0, 16, 0), (16, .getfield 35, 19, 0), (19, .arraylength, 20, 0), (20, .if_icmp .ge 20, 23, 40), (23, .aload_n 0, 24, 0), (24, .getfield 35, 27, 0), (27, .iload 5, 29, 0), (29, .fload_n 3, 30, 0), (30, .fastore, 31, 0), (31, .aload_n 0, 32, 0)],
  [(32, .getfield 38, 35, 0), (35, .iload 5, 37, 0), (37, .iload 4, 39, 0), (39, .iastore, 40, 0), (40, .return_, 41, 0)]]  -- X0_setSum
def jmt_19 : List (List jm_E) := [[(0, .iload_n 1, 1, 0), (1, .bipush 60, 3, 0), (3, .imul, 4, 0), (4, .iload_n 2, 5, 0), (5, .iadd, 6, 0), (6, .istore_n 3, 7, 0), (7, .iload_n 3, 8, 0), (8, .ifCond .lt 21, 11, 29), (11, .iload_n 3, 12, 0), (12, .aload_n 0, 13, 0), (13, .getfield 35, 16, 0), (16, .arraylength, 17, 0), (17, .if_icmp .ge 12, 20, 29), (20, .aload_n 0, 21, 0), (21, .getfield 35, 24, 0), (24, .iload_n 3, 25, 0), (25, .faload, 26, 0), (26, .goto 5, 29, 31), (29, .ldc 83, 31, 0), (31, .freturn, 32, 0)]]  -- X0_sumAt
def jmt_20 : List (List jm_E) := [[(0, .iload_n 1, 1, 0), (1, .bipush 60, 3, 0), (3, .imul, 4, 0), (4, .iload_n 2, 5, 0), (5, .iadd, 6, 0), (6, .istore_n 3, 7, 0), (7, .iload_n 3, 8, 0), (8, .ifCond .lt 21, 11, 29), (11, .iload_n 3, 12, 0), (12, .aload_n 0, 13, 0), (13, .getfield 31, 16, 0), (16, .arraylength, 17, 0), (17, .if_icmp .ge 12, 20, 29), (20, .aload_n 0, 21, 0), (21, .getfield 31, 24, 0), (24, .iload_n 3, 25, 0), (25, .faload, 26, 0), (26, .goto 4, 29, 30), (29, .fconst 0, 30, 0), (30, .freturn, 31, 0)]]  -- X0_penaltyAt
def jmt_21 : List (List jm_E) := [[(0, .aload_n 0, 1, 0), (1, .getfield 45, 4, 0), (4, .istore 4, 6, 0), (6, .iload_n 3, 7, 0), (7, .iconst 1, 8, 0), (8, .isub, 9, 0), (9, .istore 5, 11, 0), (11, .iload 5, 13, 0), (13, .ifCond .lt 84, 16, 97), (16, .iload_n 1, 17, 0), (17, .iload 5, 19, 0), (19, .iadd, 20, 0), (20, .istore 6, 22, 0), (22, .iload 6, 24, 0), (24, .ifCond .lt 10, 27, 34), (27, .iload 6, 29, 0), (29, .bipush 60, 31, 0), (31, .if_icmp .lt 4, 34, 35)],
  [(34, .return_, 35, 0), (35, .aload_n 0, 36, 0), (36, .getfield 25, 39, 0), (39, .iload 6, 41, 0), (41, .iload 5, 43, 0), (43, .ifCond .ne 7, 46, 50), (46, .iload_n 2, 47, 0), (47, .goto 5, 50, 52), (50, .iload 4, 52, 0), (52, .iastore, 53, 0), (53, .iload 5, 55, 0), (55, .bipush 60, 57, 0), (57, .imul, 58, 0), (58, .iload 4, 60, 0), (60, .iadd, 61, 0), (61, .istore 7, 63, 0), (63, .iload 7, 65, 0)],
  [(65, .ifCond .lt 23, 68, 88), (68, .iload 7, 70, 0), (70, .aload_n 0, 71, 0), (71, .getfield 38, 74, 0), (74, .arraylength, 75, 0), (75, .if_icmp .ge 13, 78, 88), (78, .aload_n 0, 79, 0), (79, .getfield 38, 82, 0), (82, .iload 7, 84, 0), (84, .iaload, 85, 0), (85, .goto 4, 88, 89), (88, .iconst (-1), 89, 0), (89, .istore 4, 91, 0), (91, .iinc 5 (-1), 94, 0), (94, .goto (-83), 97, 11)],
  [(97, .return_, 98, 0)]]  -- X0_keepCorners
def jmt_22 : List (List jm_E) := [[(0, .iconst 0, 1, 0), (1, .istore_n 3, 2, 0), (2, .iload_n 3, 3, 0), (3, .aload_n 0, 4, 0), (4, .getfield 41, 7, 0), (7, .if_icmp .ge 26, 10, 33), (10, .iload_n 1, 11, 0), (11, .iload_n 3, 12, 0), (12, .iadd, 13, 0), (13, .bipush 60, 15, 0), (15, .if_icmp .ge 18, 18, 33), (18, .aload_n 0, 19, 0), (19, .getfield 28, 22, 0), (22, .iload_n 1, 23, 0), (23, .iload_n 3, 24, 0), (24, .iadd, 25, 0), (25, .iconst 0, 26, 0), (26, .bastore, 27, 0), (27, .iinc 3 1, 30, 0), (30, .goto (-28), 33, 2)],
  [(33, .iconst 0, 34, 0), (34, .istore_n 3, 35, 0), (35, .iload_n 3, 36, 0), (36, .iload_n 2, 37, 0), (37, .if_icmp .ge 40, 40, 77), (40, .iload_n 1, 41, 0), (41, .aload_n 0, 42, 0), (42, .iload_n 1, 43, 0), (43, .iload_n 3, 44, 0), (44, .iadd, 45, 0), (45, .invokevirtual 129, 48, 0), (48, .iadd, 49, 0), (49, .istore 4, 51, 0), (51, .iload 4, 53, 0), (53, .ifCond .lt 18, 56, 71), (56, .iload 4, 58, 0), (58, .bipush 60, 60, 0), (60, .if_icmp .ge 11, 63, 71), (63, .aload_n 0, 64, 0)],
  [(64, .getfield 28, 67, 0), (67, .iload 4, 69, 0), (69, .iconst 1, 70, 0), (70, .bastore, 71, 0), (71, .iinc 3 1, 74, 0), (74, .goto (-39), 77, 35), (77, .return_, 78, 0)]]  -- X0_markCorners
def jmt_23 : List (List jm_E) := [[(0, .iconst 0, 1, 0), (1, .istore_n 3, 2, 0), (2, .iconst 0, 3, 0), (3, .istore 4, 5, 0), (5, .iload 4, 7, 0), (7, .iload_n 2, 8, 0), (8, .if_icmp .ge 89, 11, 97), (11, .iload_n 1, 12, 0), (12, .aload_n 0, 13, 0), (13, .iload_n 1, 14, 0), (14, .iload 4, 16, 0), (16, .iadd, 17, 0), (17, .invokevirtual 129, 20, 0), (20, .iadd, 21, 0), (21, .istore 5, 23, 0), (23, .iload_n 1, 24, 0), (24, .aload_n 0, 25, 0), (25, .iload_n 1, 26, 0), (26, .iload 4, 28, 0), (28, .iconst 1, 29, 0), (29, .iadd, 30, 0), (30, .iload_n 2, 31, 0), (31, .if_icmp .ge 10, 34, 41)],
  [(34, .iload 4, 36, 0), (36, .iconst 1, 37, 0), (37, .iadd, 38, 0), (38, .goto 4, 41, 42), (41, .iconst 0, 42, 0), (42, .iadd, 43, 0), (43, .invokevirtual 129, 46, 0), (46, .iadd, 47, 0), (47, .istore 6, 49, 0), (49, .iload_n 3, 50, 0), (50, .aload_n 0, 51, 0), (51, .getfield 48, 54, 0), (54, .iload 5, 56, 0), (56, .invokevirtual 132, 59, 0), (59, .aload_n 0, 60, 0), (60, .getfield 48, 63, 0), (63, .iload 6, 65, 0)],
  [(65, .invokevirtual 135, 68, 0), (68, .imul, 69, 0), (69, .aload_n 0, 70, 0), (70, .getfield 48, 73, 0), (73, .iload 6, 75, 0), (75, .invokevirtual 132, 78, 0), (78, .aload_n 0, 79, 0), (79, .getfield 48, 82, 0), (82, .iload 5, 84, 0), (84, .invokevirtual 135, 87, 0), (87, .imul, 88, 0), (88, .isub, 89, 0), (89, .iadd, 90, 0), (90, .istore_n 3, 91, 0), (91, .iinc 4 1, 94, 0), (94, .goto (-89), 97, 5)],
  [(97, .iload_n 3, 98, 0), (98, .invokestatic 138, 101, 0), (101, .ireturn, 102, 0)]]  -- X0_polygonArea
def jmt_24 : List (List jm_E) := [[(0, .iload_n 1, 1, 0), (1, .ifCond .lt 18, 4, 19), (4, .iload_n 1, 5, 0), (5, .bipush 15, 7, 0), (7, .if_icmp .ge 12, 10, 19), (10, .aload_n 0, 11, 0), (11, .getfield 19, 14, 0), (14, .iload_n 1, 15, 0), (15, .iaload, 16, 0), (16, .goto 4, 19, 20), (19, .iconst 0, 20, 0), (20, .ireturn, 21, 0)]]  -- X0_bitsAt
def jmt_25 : List (List jm_E) := [[(0, .iload_n 1, 1, 0), (1, .ifCond .lt 18, 4, 19), (4, .iload_n 1, 5, 0), (5, .bipush 15, 7, 0), (7, .if_icmp .ge 12, 10, 19), (10, .aload_n 0, 11, 0), (11, .getfield 22, 14, 0), (14, .iload_n 1, 15, 0), (15, .iaload, 16, 0), (16, .goto 4, 19, 20), (19, .iconst 0, 20, 0), (20, .ireturn, 21, 0)]]  -- X0_areaAt
def jmt_26 : List (List jm_E) := [[(0, .iload_n 1, 1, 0), (1, .ifCond .lt 18, 4, 19), (4, .iload_n 1, 5, 0), (5, .bipush 60, 7, 0), (7, .if_icmp .ge 12, 10, 19), (10, .aload_n 0, 11, 0), (11, .getfield 25, 14, 0), (14, .iload_n 1, 15, 0), (15, .iaload, 16, 0), (16, .goto 4, 19, 20), (19, .iconst 0, 20, 0), (20, .ireturn, 21, 0)]]  -- X0_cornerAt
def jmt_27 : List (List jm_E) := [[(0, .iload_n 1, 1, 0), (1, .ifCond .lt 22, 4, 23), (4, .iload_n 1, 5, 0), (5, .bipush 60, 7, 0), (7, .if_icmp .ge 16, 10, 23), (10, .aload_n 0, 11, 0), (11, .getfield 28, 14, 0), (14, .iload_n 1, 15, 0), (15, .baload, 16, 0), (16, .ifCond .eq 7, 19, 23), (19, .iconst 1, 20, 0), (20, .goto 4, 23, 24), (23, .iconst 0, 24, 0), (24, .ireturn, 25, 0)]]  -- X0_isCornerAt
def jmt_28 : List (List jm_E) := [[(0, .aload_n 0, 1, 0), (1, .getfield 15, 4, 0), (4, .aload_n 0, 5, 0), (5, .getfield 19, 8, 0), (8, .imul, 9, 0), (9, .ireturn, 10, 0)]]  -- X1_places
def jmt_29 : List (List jm_E) := [[(0, .iload_n 1, 1, 0), (1, .ifCond .lt 26, 4, 27), (4, .iload_n 1, 5, 0), (5, .aload_n 0, 6, 0), (6, .getfield 15, 9, 0), (9, .aload_n 0, 10, 0), (10, .getfield 19, 13, 0), (13, .imul, 14, 0), (14, .if_icmp .ge 13, 17, 27), (17, .iload_n 1, 18, 0), (18, .bipush 25, 20, 0), (20, .if_icmp .ge 7, 23, 27), (23, .iconst 1, 24, 0), (24, .goto 4, 27, 28), (27, .iconst 0, 28, 0), (28, .ireturn, 29, 0)]]  -- X1_has
def jmt_30 : List (List jm_E) := [[(0, .aload_n 0, 1, 0), (1, .iload_n 1, 2, 0), (2, .invokevirtual 22, 5, 0), (5, .ifCond .eq 12, 8, 17), (8, .aload_n 0, 9, 0), (9, .getfield 9, 12, 0), (12, .iload_n 1, 13, 0), (13, .iaload, 14, 0), (14, .goto 4, 17, 18), (17, .iconst (-1), 18, 0), (18, .ireturn, 19, 0)]]  -- X1_kindAt
def jmt_31 : List (List jm_E) := [[(0, .iload_n 2, 1, 0), (1, .aload_n 0, 2, 0), (2, .getfield 15, 5, 0), (5, .imul, 6, 0), (6, .iload_n 1, 7, 0), (7, .iadd, 8, 0), (8, .istore_n 3, 9, 0), (9, .iload_n 1, 10, 0), (10, .ifCond .lt 38, 13, 48), (13, .iload_n 1, 14, 0), (14, .aload_n 0, 15, 0), (15, .getfield 15, 18, 0), (18, .if_icmp .ge 30, 21, 48), (21, .iload_n 2, 22, 0), (22, .ifCond .lt 26, 25, 48), (25, .iload_n 2, 26, 0), (26, .aload_n 0, 27, 0), (27, .getfield 19, 30, 0), (30, .if_icmp .ge 18, 33, 48)],
  [(33, .iload_n 3, 34, 0), (34, .bipush 25, 36, 0), (36, .if_icmp .ge 12, 39, 48), (39, .aload_n 0, 40, 0), (40, .getfield 9, 43, 0), (43, .iload_n 3, 44, 0), (44, .iaload, 45, 0), (45, .goto 4, 48, 49), (48, .iconst (-1), 49, 0), (49, .ireturn, 50, 0)]]  -- X1_kindAtCell
def jmt_32 : List (List jm_E) := [[(0, .aload_n 0, 1, 0), (1, .iload_n 1, 2, 0), (2, .iload_n 2, 3, 0), (3, .invokevirtual 26, 6, 0), (6, .iconst (-1), 7, 0), (7, .if_icmp .eq 7, 10, 14), (10, .iconst 1, 11, 0), (11, .goto 4, 14, 15), (14, .iconst 0, 15, 0), (15, .ireturn, 16, 0)]]  -- X1_hasDot
def jmt_33 : List (List jm_E) := [[(0, .iconst 0, 1, 0), (1, .istore_n 1, 2, 0), (2, .iconst 0, 3, 0), (3, .istore_n 2, 4, 0), (4, .iload_n 2, 5, 0), (5, .aload_n 0, 6, 0), (6, .invokevirtual 30, 9, 0), (9, .if_icmp .ge 21, 12, 30), (12, .aload_n 0, 13, 0), (13, .iload_n 2, 14, 0), (14, .invokevirtual 34, 17, 0), (17, .iconst (-1), 18, 0), (18, .if_icmp .eq 6, 21, 24), (21, .iinc 1 1, 24, 0), (24, .iinc 2 1, 27, 0), (27, .goto (-23), 30, 4), (30, .iload_n 1, 31, 0), (31, .ireturn, 32, 0)]]  -- X1_dots
def jmt_34 : List (List jm_E) := [[(0, .aload_n 0, 1, 0), (1, .iload_n 1, 2, 0), (2, .putfield 15, 5, 0), (5, .aload_n 0, 6, 0), (6, .iload_n 2, 7, 0), (7, .putfield 19, 10, 0), (10, .iconst 0, 11, 0), (11, .istore_n 3, 12, 0), (12, .iload_n 3, 13, 0), (13, .bipush 25, 15, 0), (15, .if_icmp .ge 16, 18, 31), (18, .aload_n 0, 19, 0), (19, .getfield 9, 22, 0), (22, .iload_n 3, 23, 0), (23, .iconst (-1), 24, 0), (24, .iastore, 25, 0), (25, .iinc 3 1, 28, 0), (28, .goto (-16), 31, 12), (31, .return_, 32, 0)]]  -- X1_clear
def jmt_35 : List (List jm_E) := [[(0, .aload_n 0, 1, 0), (1, .iload_n 1, 2, 0), (2, .invokevirtual 22, 5, 0), (5, .ifCond .eq 10, 8, 15), (8, .aload_n 0, 9, 0), (9, .getfield 9, 12, 0), (12, .iload_n 1, 13, 0), (13, .iload_n 2, 14, 0), (14, .iastore, 15, 0), (15, .return_, 16, 0)]]  -- X1_set
def jmt_36 : List (List jm_E) := [[(0, .aload_n 0, 1, 0), (1, .aload_n 1, 2, 0), (2, .getfield 15, 5, 0), (5, .putfield 15, 8, 0), (8, .aload_n 0, 9, 0), (9, .aload_n 1, 10, 0), (10, .getfield 19, 13, 0), (13, .putfield 19, 16, 0), (16, .iconst 0, 17, 0), (17, .istore_n 2, 18, 0), (18, .iload_n 2, 19, 0), (19, .bipush 25, 21, 0), (21, .if_icmp .ge 21, 24, 42), (24, .aload_n 0, 25, 0), (25, .getfield 9, 28, 0), (28, .iload_n 2, 29, 0), (29, .aload_n 1, 30, 0), (30, .getfield 9, 33, 0)],
  [(33, .iload_n 2, 34, 0), (34, .iaload, 35, 0), (35, .iastore, 36, 0), (36, .iinc 2 1, 39, 0), (39, .goto (-21), 42, 18), (42, .return_, 43, 0)]]  -- X1_copyFrom
def jmt_37 : List (List jm_E) := [[(0, .aload_n 0, 1, 0), (1, .aload_n 1, 2, 0), (2, .getfield 19, 5, 0), (5, .aload_n 1, 6, 0), (6, .getfield 15, 9, 0), (9, .invokevirtual 38, 12, 0), (12, .iconst 0, 13, 0), (13, .istore_n 2, 14, 0), (14, .iload_n 2, 15, 0), (15, .aload_n 0, 16, 0), (16, .getfield 19, 19, 0), (19, .if_icmp .ge 50, 22, 69), (22, .iconst 0, 23, 0), (23, .istore_n 3, 24, 0), (24, .iload_n 3, 25, 0), (25, .aload_n 0, 26, 0), (26, .getfield 15, 29, 0), (29, .if_icmp .ge 34, 32, 63)],
  [(32, .aload_n 0, 33, 0), (33, .iload_n 2, 34, 0), (34, .aload_n 0, 35, 0), (35, .getfield 15, 38, 0), (38, .imul, 39, 0), (39, .iload_n 3, 40, 0), (40, .iadd, 41, 0), (41, .aload_n 1, 42, 0), (42, .iload_n 2, 43, 0), (43, .aload_n 0, 44, 0), (44, .getfield 15, 47, 0), (47, .iconst 1, 48, 0), (48, .isub, 49, 0), (49, .iload_n 3, 50, 0), (50, .isub, 51, 0), (51, .invokevirtual 26, 54, 0), (54, .invokevirtual 42, 57, 0), (57, .iinc 3 1, 60, 0), (60, .goto (-36), 63, 24), (63, .iinc 2 1, 66, 0)],
  [(66, .goto (-52), 69, 14), (69, .return_, 70, 0)]]  -- X1_turnFrom
def jmt_38 : List (List jm_E) := [[(0, .aload_n 0, 1, 0), (1, .aload_n 1, 2, 0), (2, .getfield 15, 5, 0), (5, .aload_n 1, 6, 0), (6, .getfield 19, 9, 0), (9, .invokevirtual 38, 12, 0), (12, .iconst 0, 13, 0), (13, .istore_n 2, 14, 0), (14, .iload_n 2, 15, 0), (15, .aload_n 0, 16, 0), (16, .getfield 19, 19, 0), (19, .if_icmp .ge 50, 22, 69), (22, .iconst 0, 23, 0), (23, .istore_n 3, 24, 0), (24, .iload_n 3, 25, 0), (25, .aload_n 0, 26, 0), (26, .getfield 15, 29, 0), (29, .if_icmp .ge 34, 32, 63)],
  [(32, .aload_n 0, 33, 0), (33, .iload_n 2, 34, 0), (34, .aload_n 0, 35, 0), (35, .getfield 15, 38, 0), (38, .imul, 39, 0), (39, .iload_n 3, 40, 0), (40, .iadd, 41, 0), (41, .aload_n 1, 42, 0), (42, .aload_n 0, 43, 0), (43, .getfield 15, 46, 0), (46, .iconst 1, 47, 0), (47, .isub, 48, 0), (48, .iload_n 3, 49, 0), (49, .isub, 50, 0), (50, .iload_n 2, 51, 0), (51, .invokevirtual 26, 54, 0), (54, .invokevirtual 42, 57, 0), (57, .iinc 3 1, 60, 0), (60, .goto (-36), 63, 24), (63, .iinc 2 1, 66, 0)],
  [(66, .goto (-52), 69, 14), (69, .return_, 70, 0)]]  -- X1_mirrorFrom
def jmt_39 : List (List jm_E) := [[(0, .aload_n 0, 1, 0), (1, .iconst (-1), 2, 0), (2, .putfield 15, 5, 0), (5, .return_, 6, 0)]]  -- X2_reset
def jmt_40 : List (List jm_E) := [[(0, .aload_n 0, 1, 0), (1, .getfield 15, 4, 0), (4, .iload_n 1, 5, 0), (5, .if_icmp .ne 4, 8, 9), (8, .return_, 9, 0), (9, .aload_n 0, 10, 0), (10, .iload_n 1, 11, 0), (11, .putfield 15, 14, 0), (14, .aload_n 0, 15, 0), (15, .aload_n 0, 16, 0), (16, .getfield 22, 19, 0), (19, .iload_n 1, 20, 0), (20, .invokevirtual 26, 23, 0), (23, .bipush 60, 25, 0), (25, .invokestatic 32, 28, 0), (28, .putfield 19, 31, 0), (31, .iconst 0, 32, 0)],
  [(32, .istore_n 2, 33, 0), (33, .iload_n 2, 34, 0), (34, .aload_n 0, 35, 0), (35, .getfield 19, 38, 0), (38, .if_icmp .ge 21, 41, 59), (41, .aload_n 0, 42, 0), (42, .getfield 9, 45, 0), (45, .iload_n 2, 46, 0), (46, .aload_n 0, 47, 0), (47, .iload_n 1, 48, 0), (48, .iload_n 2, 49, 0), (49, .invokevirtual 38, 52, 0), (52, .lastore, 53, 0), (53, .iinc 2 1, 56, 0), (56, .goto (-23), 59, 33), (59, .return_, 60, 0)]]  -- X2_fill
def jmt_41 : List (List jm_E) := [[(0, .aload_n 0, 1, 0), (1, .getfield 22, 4, 0), (4, .iload_n 1, 5, 0), (5, .invokevirtual 42, 8, 0), (8, .istore_n 3, 9, 0), (9, .lconst 0, 10, 0), (10, .lstore 4, 12, 0), (12, .iconst 1, 13, 0), (13, .istore 6, 15, 0), (15, .iload 6, 17, 0), (17, .aload_n 0, 18, 0), (18, .getfield 19, 21, 0), (21, .if_icmp .ge 78, 24, 99), (24, .iload_n 2, 25, 0), (25, .iload 6, 27, 0), (27, .iadd, 28, 0), (28, .aload_n 0, 29, 0), (29, .getfield 19, 32, 0)],
  [(32, .if_icmp .ge 10, 35, 42), (35, .iload_n 2, 36, 0), (36, .iload 6, 38, 0), (38, .iadd, 39, 0), (39, .goto 12, 42, 51), (42, .iload_n 2, 43, 0), (43, .iload 6, 45, 0), (45, .iadd, 46, 0), (46, .aload_n 0, 47, 0), (47, .getfield 19, 50, 0), (50, .isub, 51, 0), (51, .istore 7, 53, 0), (53, .aload_n 0, 54, 0), (54, .getfield 22, 57, 0), (57, .iload_n 1, 58, 0), (58, .iload_n 2, 59, 0), (59, .iload 7, 61, 0), (61, .invokevirtual 45, 64, 0)],
  [(64, .ifCond .eq 12, 67, 76), (67, .lload 4, 69, 0), (69, .lconst 1, 70, 0), (70, .iload 7, 72, 0), (72, .lshl, 73, 0), (73, .lor, 74, 0), (74, .lstore 4, 76, 0), (76, .aload_n 0, 77, 0), (77, .getfield 22, 80, 0), (80, .iload_n 3, 81, 0), (81, .iload 7, 83, 0), (83, .iadd, 84, 0), (84, .invokevirtual 49, 87, 0), (87, .ifCond .eq 6, 90, 93), (90, .goto 9, 93, 99), (93, .iinc 6 1, 96, 0)],
  [(96, .goto (-81), 99, 15), (99, .lload 4, 101, 0), (101, .lreturn, 102, 0)]]  -- X2_jointsFrom
def jmt_42 : List (List jm_E) := [[(0, .iload_n 1, 1, 0), (1, .ifCond .lt 18, 4, 19), (4, .iload_n 1, 5, 0), (5, .bipush 60, 7, 0), (7, .if_icmp .ge 12, 10, 19), (10, .aload_n 0, 11, 0), (11, .getfield 9, 14, 0), (14, .iload_n 1, 15, 0), (15, .laload, 16, 0), (16, .goto 4, 19, 20), (19, .lconst 0, 20, 0), (20, .lreturn, 21, 0)]]  -- X2_from
def jmt_43 : List (List jm_E) := [[(0, .iload_n 1, 1, 0), (1, .ifCond .lt 28, 4, 29), (4, .iload_n 1, 5, 0), (5, .bipush 60, 7, 0), (7, .if_icmp .ge 22, 10, 29), (10, .aload_n 0, 11, 0), (11, .getfield 9, 14, 0), (14, .iload_n 1, 15, 0), (15, .laload, 16, 0), (16, .iload_n 2, 17, 0), (17, .lushr, 18, 0), (18, .lconst 1, 19, 0), (19, .land, 20, 0), (20, .lconst 1, 21, 0), (21, .lcmp, 22, 0), (22, .ifCond .ne 7, 25, 29), (25, .iconst 1, 26, 0), (26, .goto 4, 29, 30), (29, .iconst 0, 30, 0), (30, .ireturn, 31, 0)]]  -- X2_are
def jmt_44 : List (List jm_E) := [[(0, .lconst 0, 1, 0), (1, .lstore_n 2, 2, 0), (2, .iload_n 1, 3, 0), (3, .iconst 1, 4, 0), (4, .iadd, 5, 0), (5, .istore 4, 7, 0), (7, .iload 4, 9, 0), (9, .aload_n 0, 10, 0), (10, .getfield 19, 13, 0), (13, .if_icmp .ge 26, 16, 39), (16, .aload_n 0, 17, 0), (17, .iload 4, 19, 0), (19, .iload_n 1, 20, 0), (20, .invokevirtual 53, 23, 0), (23, .ifCond .eq 10, 26, 33), (26, .lload_n 2, 27, 0), (27, .lconst 1, 28, 0), (28, .iload 4, 30, 0), (30, .lshl, 31, 0), (31, .lor, 32, 0)],
  [(32, .lstore_n 2, 33, 0), (33, .iinc 4 1, 36, 0), (36, .goto (-29), 39, 7), (39, .lload_n 2, 40, 0), (40, .lreturn, 41, 0)]]  -- X2_lastOnes
def jmt_45 : List (List jm_E) := [[(0, .aload_n 0, 1, 0), (1, .getfield 19, 4, 0), (4, .istore_n 1, 5, 0), (5, .iconst 0, 6, 0), (6, .istore_n 2, 7, 0), (7, .iload_n 2, 8, 0), (8, .aload_n 0, 9, 0), (9, .getfield 19, 12, 0), (12, .if_icmp .ge 29, 15, 41), (15, .aload_n 0, 16, 0), (16, .iload_n 2, 17, 0), (17, .invokevirtual 57, 20, 0), (20, .lstore_n 3, 21, 0), (21, .lload_n 3, 22, 0), (22, .lconst 0, 23, 0), (23, .lcmp, 24, 0), (24, .ifCond .eq 11, 27, 35), (27, .aload_n 0, 28, 0), (28, .iload_n 2, 29, 0), (29, .lload_n 3, 30, 0), (30, .iload_n 1, 31, 0), (31, .invokevirtual 61, 34, 0)],
  [(34, .istore_n 1, 35, 0), (35, .iinc 2 1, 38, 0), (38, .goto (-31), 41, 7), (41, .iload_n 1, 42, 0), (42, .ireturn, 43, 0)]]  -- X2_fewest
def jmt_46 : List (List jm_E) := [[(0, .lconst 1, 1, 0), (1, .iload_n 1, 2, 0), (2, .lshl, 3, 0), (3, .lstore 5, 5, 0), (5, .iconst 1, 6, 0), (6, .istore 7, 8, 0), (8, .iload 7, 10, 0), (10, .iload 4, 12, 0), (12, .if_icmp .ge 36, 15, 48), (15, .iload 7, 17, 0), (17, .iconst 3, 18, 0), (18, .if_icmp .lt 15, 21, 33), (21, .lload 5, 23, 0), (23, .lload_n 2, 24, 0), (24, .land, 25, 0), (25, .lconst 0, 26, 0), (26, .lcmp, 27, 0), (27, .ifCond .eq 6, 30, 33), (30, .iload 7, 32, 0)],
  [(32, .ireturn, 33, 0), (33, .aload_n 0, 34, 0), (34, .lload 5, 36, 0), (36, .iload_n 1, 37, 0), (37, .invokevirtual 65, 40, 0), (40, .lstore 5, 42, 0), (42, .iinc 7 1, 45, 0), (45, .goto (-37), 48, 8), (48, .iload 4, 50, 0), (50, .ireturn, 51, 0)]]  -- X2_fewestFrom
def jmt_47 : List (List jm_E) := [[(0, .lconst 0, 1, 0), (1, .lstore 4, 3, 0), (3, .iload_n 3, 4, 0), (4, .istore 6, 6, 0), (6, .iload 6, 8, 0), (8, .aload_n 0, 9, 0), (9, .getfield 19, 12, 0), (12, .if_icmp .ge 38, 15, 50), (15, .lload_n 1, 16, 0), (16, .iload 6, 18, 0), (18, .lushr, 19, 0), (19, .lconst 1, 20, 0), (20, .land, 21, 0), (21, .lconst 1, 22, 0), (22, .lcmp, 23, 0), (23, .ifCond .ne 21, 26, 44), (26, .lload 4, 28, 0), (28, .aload_n 0, 29, 0), (29, .iload 6, 31, 0), (31, .invokevirtual 69, 34, 0)],
  [(34, .ldc2_w 72, 37, 0), (37, .iload 6, 39, 0), (39, .lshl, 40, 0), (40, .land, 41, 0), (41, .lor, 42, 0), (42, .lstore 4, 44, 0), (44, .iinc 6 1, 47, 0), (47, .goto (-41), 50, 6), (50, .lload 4, 52, 0), (52, .lreturn, 53, 0)]]  -- X2_next
def jmt_48 : List (List jm_E) := [[(0, .aload_n 0, 1, 0), (1, .iconst 0, 2, 0), (2, .putfield 9, 5, 0), (5, .aload_n 0, 6, 0), (6, .iconst 0, 7, 0), (7, .putfield 15, 10, 0), (10, .aload_n 0, 11, 0), (11, .aload_n 1, 12, 0), (12, .invokevirtual 50, 15, 0), (15, .iconst 0, 16, 0), (16, .istore_n 2, 17, 0), (17, .iload_n 2, 18, 0), (18, .aload_n 1, 19, 0), (19, .getfield 54, 22, 0), (22, .if_icmp .gt 84, 25, 106), (25, .iconst 0, 26, 0), (26, .istore_n 3, 27, 0), (27, .iload_n 3, 28, 0), (28, .aload_n 1, 29, 0), (29, .getfield 59, 32, 0)],
  [(32, .if_icmp .gt 68, 35, 100), (35, .iconst 0, 36, 0), (36, .istore 4, 38, 0), (38, .iload 4, 40, 0), (40, .iconst 4, 41, 0), (41, .if_icmp .ge 53, 44, 94), (44, .getstatic 62, 47, 0), (47, .iload 4, 49, 0), (49, .iaload, 50, 0), (50, .istore 5, 52, 0), (52, .aload_n 0, 53, 0), (53, .getfield 44, 56, 0), (56, .iload_n 2, 57, 0), (57, .iload_n 3, 58, 0), (58, .iload 5, 60, 0), (60, .invokestatic 65, 63, 0), (63, .ifCond .eq 25, 66, 88)],
  [(66, .aload_n 0, 67, 0), (67, .getfield 47, 70, 0), (70, .iload_n 2, 71, 0), (71, .iload_n 3, 72, 0), (72, .iload 5, 74, 0), (74, .invokestatic 65, 77, 0), (77, .ifCond .ne 11, 80, 88), (80, .aload_n 0, 81, 0), (81, .iload_n 2, 82, 0), (82, .iload_n 3, 83, 0), (83, .iload 5, 85, 0), (85, .invokevirtual 69, 88, 0), (88, .iinc 4 1, 91, 0), (91, .goto (-53), 94, 38), (94, .iinc 3 1, 97, 0)],
  [(97, .goto (-70), 100, 27), (100, .iinc 2 1, 103, 0), (103, .goto (-86), 106, 17), (106, .iconst 0, 107, 0), (107, .istore_n 2, 108, 0), (108, .iload_n 2, 109, 0), (109, .aload_n 0, 110, 0), (110, .getfield 9, 113, 0), (113, .if_icmp .ge 32, 116, 145), (116, .iload_n 2, 117, 0), (117, .bipush 15, 119, 0), (119, .if_icmp .ge 26, 122, 145), (122, .aload_n 0, 123, 0), (123, .getfield 25, 126, 0), (126, .iload_n 2, 127, 0), (127, .aload_n 0, 128, 0)],
  [(128, .iload_n 2, 129, 0), (129, .invokevirtual 73, 132, 0), (132, .iastore, 133, 0), (133, .aload_n 0, 134, 0), (134, .aload_n 1, 135, 0), (135, .iload_n 2, 136, 0), (136, .invokevirtual 77, 139, 0), (139, .iinc 2 1, 142, 0), (142, .goto (-34), 145, 108), (145, .return_, 146, 0)]]  -- X3_trace
def jmt_49 : List (List jm_E) := [[(0, .iconst 0, 1, 0), (1, .istore_n 2, 2, 0), (2, .iload_n 2, 3, 0), (3, .bipush 36, 5, 0), (5, .if_icmp .ge 163, 8, 168), (8, .iload_n 2, 9, 0), (9, .bipush 6, 11, 0), (11, .irem, 12, 0), (12, .istore_n 3, 13, 0), (13, .iload_n 2, 14, 0), (14, .bipush 6, 16, 0), (16, .idiv, 17, 0), (17, .istore 4, 19, 0), (19, .aload_n 1, 20, 0), (20, .iload_n 3, 21, 0), (21, .iconst 1, 22, 0), (22, .isub, 23, 0), (23, .iload 4, 25, 0), (25, .iconst 1, 26, 0), (26, .isub, 27, 0), (27, .invokevirtual 81, 30, 0), (30, .istore 5, 32, 0)],
  [(32, .aload_n 1, 33, 0), (33, .iload_n 3, 34, 0), (34, .iload 4, 36, 0), (36, .iconst 1, 37, 0), (37, .isub, 38, 0), (38, .invokevirtual 81, 41, 0), (41, .istore 6, 43, 0), (43, .aload_n 1, 44, 0), (44, .iload_n 3, 45, 0), (45, .iconst 1, 46, 0), (46, .isub, 47, 0), (47, .iload 4, 49, 0), (49, .invokevirtual 81, 52, 0), (52, .istore 7, 54, 0), (54, .aload_n 1, 55, 0), (55, .iload_n 3, 56, 0), (56, .iload 4, 58, 0), (58, .invokevirtual 81, 61, 0), (61, .istore 8, 63, 0), (63, .iconst 0, 64, 0)],
  [(64, .istore 9, 66, 0), (66, .iload 9, 68, 0), (68, .iload 8, 70, 0), (70, .ifCond .eq 12, 73, 82), (73, .iload 6, 75, 0), (75, .ifCond .ne 7, 78, 82), (78, .iconst 1, 79, 0), (79, .goto 4, 82, 83), (82, .iconst 0, 83, 0), (83, .ior, 84, 0), (84, .istore 9, 86, 0), (86, .iload 9, 88, 0), (88, .iload 7, 90, 0), (90, .ifCond .eq 12, 93, 102), (93, .iload 8, 95, 0), (95, .ifCond .ne 7, 98, 102)],
  [(98, .iconst 2, 99, 0), (99, .goto 4, 102, 103), (102, .iconst 0, 103, 0), (103, .ior, 104, 0), (104, .istore 9, 106, 0), (106, .iload 9, 108, 0), (108, .iload 5, 110, 0), (110, .ifCond .eq 12, 113, 122), (113, .iload 7, 115, 0), (115, .ifCond .ne 7, 118, 122), (118, .iconst 4, 119, 0), (119, .goto 4, 122, 123), (122, .iconst 0, 123, 0), (123, .ior, 124, 0), (124, .istore 9, 126, 0), (126, .iload 9, 128, 0)],
  [(128, .iload 6, 130, 0), (130, .ifCond .eq 13, 133, 143), (133, .iload 5, 135, 0), (135, .ifCond .ne 8, 138, 143), (138, .bipush 8, 140, 0), (140, .goto 4, 143, 144), (143, .iconst 0, 144, 0), (144, .ior, 145, 0), (145, .istore 9, 147, 0), (147, .aload_n 0, 148, 0), (148, .getfield 44, 151, 0), (151, .iload_n 2, 152, 0), (152, .iload 9, 154, 0), (154, .iastore, 155, 0), (155, .aload_n 0, 156, 0), (156, .getfield 47, 159, 0), (159, .iload_n 2, 160, 0)],
  [(160, .iconst 0, 161, 0), (161, .iastore, 162, 0), (162, .iinc 2 1, 165, 0), (165, .goto (-163), 168, 2), (168, .return_, 169, 0)]]  -- X3_findEdges
def jmt_50 : List (List jm_E) := [[(0, .iload_n 2, 1, 0), (1, .bipush 6, 3, 0), (3, .imul, 4, 0), (4, .iload_n 1, 5, 0), (5, .iadd, 6, 0), (6, .istore 4, 8, 0), (8, .iload_n 1, 9, 0), (9, .ifCond .lt 36, 12, 45), (12, .iload_n 2, 13, 0), (13, .ifCond .lt 32, 16, 45), (16, .iload_n 1, 17, 0), (17, .bipush 6, 19, 0), (19, .if_icmp .ge 26, 22, 45), (22, .iload 4, 24, 0), (24, .aload_n 0, 25, 0), (25, .arraylength, 26, 0), (26, .if_icmp .ge 19, 29, 45), (29, .aload_n 0, 30, 0), (30, .iload 4, 32, 0)],
  [(32, .iaload, 33, 0), (33, .iload_n 3, 34, 0), (34, .ishr, 35, 0), (35, .iconst 1, 36, 0), (36, .iand, 37, 0), (37, .iconst 1, 38, 0), (38, .if_icmp .ne 7, 41, 45), (41, .iconst 1, 42, 0), (42, .goto 4, 45, 46), (45, .iconst 0, 46, 0), (46, .ireturn, 47, 0)]]  -- X3_begins
def jmt_51 : List (List jm_E) := [[(0, .aload_n 0, 1, 0), (1, .getfield 9, 4, 0), (4, .ifCond .lt 12, 7, 16), (7, .aload_n 0, 8, 0), (8, .getfield 9, 11, 0), (11, .bipush 15, 13, 0), (13, .if_icmp .lt 4, 16, 17), (16, .return_, 17, 0), (17, .iload_n 1, 18, 0), (18, .istore 4, 20, 0), (20, .iload_n 2, 21, 0), (21, .istore 5, 23, 0), (23, .iload_n 3, 24, 0), (24, .istore 6, 26, 0), (26, .aload_n 0, 27, 0), (27, .getfield 18, 30, 0), (30, .aload_n 0, 31, 0), (31, .getfield 9, 34, 0)],
  [(34, .aload_n 0, 35, 0), (35, .getfield 15, 38, 0), (38, .iastore, 39, 0), (39, .iconst 0, 40, 0), (40, .istore 7, 42, 0), (42, .iload 7, 44, 0), (44, .bipush 60, 46, 0), (46, .if_icmp .ge 85, 49, 131), (49, .aload_n 0, 50, 0), (50, .iload 4, 52, 0), (52, .iload 5, 54, 0), (54, .iload 6, 56, 0), (56, .invokevirtual 85, 59, 0), (59, .iload 4, 61, 0), (61, .getstatic 88, 64, 0)],
  [(64, .iload 6, 66, 0), (66, .iaload, 67, 0), (67, .iadd, 68, 0), (68, .istore 4, 70, 0), (70, .iload 5, 72, 0), (72, .getstatic 91, 75, 0), (75, .iload 6, 77, 0), (77, .iaload, 78, 0), (78, .iadd, 79, 0), (79, .istore 5, 81, 0), (81, .aload_n 0, 82, 0), (82, .iload 4, 84, 0), (84, .iload 5, 86, 0), (86, .iload 6, 88, 0), (88, .invokevirtual 94, 91, 0), (91, .istore 6, 93, 0), (93, .iload 6, 95, 0), (95, .ifCond .lt 36, 98, 131)],
  [(98, .iload 6, 100, 0), (100, .iconst 4, 101, 0), (101, .if_icmp .ge 30, 104, 131), (104, .iload 4, 106, 0), (106, .iload_n 1, 107, 0), (107, .if_icmp .ne 18, 110, 125), (110, .iload 5, 112, 0), (112, .iload_n 2, 113, 0), (113, .if_icmp .ne 12, 116, 125), (116, .iload 6, 118, 0), (118, .iload_n 3, 119, 0), (119, .if_icmp .ne 6, 122, 125), (122, .goto 9, 125, 131), (125, .iinc 7 1, 128, 0)],
  [(128, .goto (-86), 131, 42), (131, .aload_n 0, 132, 0), (132, .getfield 22, 135, 0), (135, .aload_n 0, 136, 0), (136, .getfield 9, 139, 0), (139, .aload_n 0, 140, 0), (140, .getfield 15, 143, 0), (143, .aload_n 0, 144, 0), (144, .getfield 18, 147, 0), (147, .aload_n 0, 148, 0), (148, .getfield 9, 151, 0), (151, .iaload, 152, 0), (152, .isub, 153, 0), (153, .iastore, 154, 0), (154, .aload_n 0, 155, 0), (155, .dup, 156, 0), (156, .getfield 9, 159, 0), (159, .iconst 1, 160, 0)],
  [(160, .iadd, 161, 0), (161, .putfield 9, 164, 0), (164, .return_, 165, 0)]]  -- X3_follow
def jmt_52 : List (List jm_E) := [[(0, .iload_n 2, 1, 0), (1, .bipush 6, 3, 0), (3, .imul, 4, 0), (4, .iload_n 1, 5, 0), (5, .iadd, 6, 0), (6, .istore 4, 8, 0), (8, .aload_n 0, 9, 0), (9, .getfield 15, 12, 0), (12, .ifCond .lt 24, 15, 36), (15, .aload_n 0, 16, 0), (16, .getfield 15, 19, 0), (19, .bipush 60, 21, 0), (21, .if_icmp .ge 15, 24, 36), (24, .iload 4, 26, 0), (26, .ifCond .lt 10, 29, 36), (29, .iload 4, 31, 0), (31, .bipush 36, 33, 0)],
  [(33, .if_icmp .lt 4, 36, 37), (36, .return_, 37, 0), (37, .aload_n 0, 38, 0), (38, .getfield 28, 41, 0), (41, .aload_n 0, 42, 0), (42, .getfield 15, 45, 0), (45, .iload_n 1, 46, 0), (46, .iastore, 47, 0), (47, .aload_n 0, 48, 0), (48, .getfield 31, 51, 0), (51, .aload_n 0, 52, 0), (52, .getfield 15, 55, 0), (55, .iload_n 2, 56, 0), (56, .iastore, 57, 0), (57, .aload_n 0, 58, 0), (58, .getfield 34, 61, 0), (61, .aload_n 0, 62, 0), (62, .getfield 15, 65, 0)],
  [(65, .iload_n 3, 66, 0), (66, .iastore, 67, 0), (67, .aload_n 0, 68, 0), (68, .dup, 69, 0), (69, .getfield 15, 72, 0), (72, .iconst 1, 73, 0), (73, .iadd, 74, 0), (74, .putfield 15, 77, 0), (77, .aload_n 0, 78, 0), (78, .getfield 47, 81, 0), (81, .iload 4, 83, 0), (83, .dup2, 84, 0), (84, .iaload, 85, 0), (85, .iconst 1, 86, 0), (86, .iload_n 3, 87, 0), (87, .ishl, 88, 0), (88, .ior, 89, 0), (89, .iastore, 90, 0), (90, .return_, 91, 0)]]  -- X3_addPoint
def jmt_53 : List (List jm_E) := [[(0, .iload_n 3, 1, 0), (1, .iconst 1, 2, 0), (2, .iadd, 3, 0), (3, .iconst 4, 4, 0), (4, .irem, 5, 0), (5, .istore 4, 7, 0), (7, .iload_n 3, 8, 0), (8, .iconst 3, 9, 0), (9, .iadd, 10, 0), (10, .iconst 4, 11, 0), (11, .irem, 12, 0), (12, .istore 5, 14, 0), (14, .aload_n 0, 15, 0), (15, .getfield 44, 18, 0), (18, .iload_n 1, 19, 0), (19, .iload_n 2, 20, 0), (20, .iload 4, 22, 0), (22, .invokestatic 65, 25, 0), (25, .ifCond .eq 6, 28, 31), (28, .iload 4, 30, 0), (30, .ireturn, 31, 0), (31, .aload_n 0, 32, 0)],
  [(32, .getfield 44, 35, 0), (35, .iload_n 1, 36, 0), (36, .iload_n 2, 37, 0), (37, .iload_n 3, 38, 0), (38, .invokestatic 65, 41, 0), (41, .ifCond .eq 5, 44, 46), (44, .iload_n 3, 45, 0), (45, .ireturn, 46, 0), (46, .aload_n 0, 47, 0), (47, .getfield 44, 50, 0), (50, .iload_n 1, 51, 0), (51, .iload_n 2, 52, 0), (52, .iload 5, 54, 0), (54, .invokestatic 65, 57, 0), (57, .ifCond .eq 8, 60, 65), (60, .iload 5, 62, 0), (62, .goto 4, 65, 66)],
  [(65, .iconst (-1), 66, 0), (66, .ireturn, 67, 0)]]  -- X3_nextWay
def jmt_54 : List (List jm_E) := [[(0, .aload_n 0, 1, 0), (1, .iload_n 1, 2, 0), (2, .invokevirtual 98, 5, 0), (5, .istore_n 2, 6, 0), (6, .aload_n 0, 7, 0), (7, .iload_n 1, 8, 0), (8, .invokevirtual 101, 11, 0), (11, .istore_n 3, 12, 0), (12, .iconst 0, 13, 0), (13, .istore 4, 15, 0), (15, .iconst 0, 16, 0), (16, .istore 5, 18, 0), (18, .iload 5, 20, 0), (20, .iload_n 3, 21, 0), (21, .if_icmp .ge 67, 24, 88), (24, .iload_n 2, 25, 0), (25, .iload 5, 27, 0), (27, .iadd, 28, 0), (28, .istore 6, 30, 0), (30, .iload_n 2, 31, 0), (31, .iload 5, 33, 0)],
  [(33, .iconst 1, 34, 0), (34, .iadd, 35, 0), (35, .iload_n 3, 36, 0), (36, .if_icmp .ge 10, 39, 46), (39, .iload 5, 41, 0), (41, .iconst 1, 42, 0), (42, .iadd, 43, 0), (43, .goto 4, 46, 47), (46, .iconst 0, 47, 0), (47, .iadd, 48, 0), (48, .istore 7, 50, 0), (50, .iload 4, 52, 0), (52, .aload_n 0, 53, 0), (53, .iload 6, 55, 0), (55, .invokevirtual 104, 58, 0), (58, .aload_n 0, 59, 0), (59, .iload 7, 61, 0), (61, .invokevirtual 107, 64, 0)],
  [(64, .imul, 65, 0), (65, .aload_n 0, 66, 0), (66, .iload 7, 68, 0), (68, .invokevirtual 104, 71, 0), (71, .aload_n 0, 72, 0), (72, .iload 6, 74, 0), (74, .invokevirtual 107, 77, 0), (77, .imul, 78, 0), (78, .isub, 79, 0), (79, .iadd, 80, 0), (80, .istore 4, 82, 0), (82, .iinc 5 1, 85, 0), (85, .goto (-67), 88, 18), (88, .iload 4, 90, 0), (90, .ireturn, 91, 0)]]  -- X3_signedArea
def jmt_55 : List (List jm_E) := [[(0, .aload_n 0, 1, 0), (1, .iload_n 2, 2, 0), (2, .invokevirtual 98, 5, 0), (5, .istore_n 3, 6, 0), (6, .aload_n 0, 7, 0), (7, .iload_n 2, 8, 0), (8, .invokevirtual 101, 11, 0), (11, .istore 4, 13, 0), (13, .aload_n 0, 14, 0), (14, .iload_n 3, 15, 0), (15, .iload 4, 17, 0), (17, .iadd, 18, 0), (18, .iconst 1, 19, 0), (19, .isub, 20, 0), (20, .invokevirtual 110, 23, 0), (23, .istore 5, 25, 0), (25, .iload_n 3, 26, 0), (26, .istore 6, 28, 0), (28, .iload 6, 30, 0), (30, .iload_n 3, 31, 0), (31, .iload 4, 33, 0)],
  [(33, .iadd, 34, 0), (34, .if_icmp .ge 129, 37, 163), (37, .iload 6, 39, 0), (39, .bipush 60, 41, 0), (41, .if_icmp .ge 122, 44, 163), (44, .aload_n 1, 45, 0), (45, .aload_n 0, 46, 0), (46, .iload 6, 48, 0), (48, .invokevirtual 104, 51, 0), (51, .aload_n 0, 52, 0), (52, .iload 6, 54, 0), (54, .invokevirtual 107, 57, 0), (57, .invokestatic 113, 60, 0), (60, .istore 7, 62, 0), (62, .aload_n 0, 63, 0), (63, .iload 6, 65, 0)],
  [(65, .invokevirtual 110, 68, 0), (68, .iload 5, 70, 0), (70, .if_icmp .eq 7, 73, 77), (73, .iconst 1, 74, 0), (74, .goto 4, 77, 78), (77, .iconst 0, 78, 0), (78, .istore 8, 80, 0), (80, .aload_n 0, 81, 0), (81, .iload 6, 83, 0), (83, .invokevirtual 110, 86, 0), (86, .istore 5, 88, 0), (88, .aload_n 0, 89, 0), (89, .getfield 37, 92, 0), (92, .iload 6, 94, 0), (94, .iload 7, 96, 0)],
  [(96, .iconst 3, 97, 0), (97, .invokestatic 117, 100, 0), (100, .ifCond .eq 7, 103, 107), (103, .iconst 0, 104, 0), (104, .goto 17, 107, 121), (107, .iload 7, 109, 0), (109, .iconst 4, 110, 0), (110, .invokestatic 117, 113, 0), (113, .ifCond .eq 7, 116, 120), (116, .iconst 2, 117, 0), (117, .goto 4, 120, 121), (120, .iconst 1, 121, 0), (121, .iastore, 122, 0), (122, .aload_n 0, 123, 0), (123, .getfield 40, 126, 0), (126, .iload 6, 128, 0)],
  [(128, .iload 7, 130, 0), (130, .iconst 2, 131, 0), (131, .invokestatic 117, 134, 0), (134, .ifCond .ne 17, 137, 151), (137, .iload 8, 139, 0), (139, .ifCond .eq 16, 142, 155), (142, .iload 7, 144, 0), (144, .iconst 1, 145, 0), (145, .invokestatic 117, 148, 0), (148, .ifCond .eq 7, 151, 155), (151, .iconst 1, 152, 0), (152, .goto 4, 155, 156), (155, .iconst 0, 156, 0), (156, .bastore, 157, 0), (157, .iinc 6 1, 160, 0)],
  [(160, .goto (-132), 163, 28), (163, .return_, 164, 0)]]  -- X3_describePoints
def jmt_56 : List (List jm_E) := [[(0, .iconst 0, 1, 0), (1, .istore_n 3, 2, 0), (2, .iconst 0, 3, 0), (3, .istore 4, 5, 0), (5, .iload 4, 7, 0), (7, .iconst 4, 8, 0), (8, .if_icmp .ge 40, 11, 48), (11, .aload_n 0, 12, 0), (12, .iload_n 1, 13, 0), (13, .iload 4, 15, 0), (15, .iconst 2, 16, 0), (16, .irem, 17, 0), (17, .isub, 18, 0), (18, .iload_n 2, 19, 0), (19, .iload 4, 21, 0), (21, .iconst 2, 22, 0), (22, .idiv, 23, 0), (23, .isub, 24, 0), (24, .invokevirtual 120, 27, 0), (27, .istore 5, 29, 0), (29, .iload 5, 31, 0), (31, .iconst (-1), 32, 0)],
  [(32, .if_icmp .eq 10, 35, 42), (35, .iload_n 3, 36, 0), (36, .iconst 1, 37, 0), (37, .iload 5, 39, 0), (39, .ishl, 40, 0), (40, .ior, 41, 0), (41, .istore_n 3, 42, 0), (42, .iinc 4 1, 45, 0), (45, .goto (-40), 48, 5), (48, .iload_n 3, 49, 0), (49, .ireturn, 50, 0)]]  -- X3_touchedKinds
def jmt_57 : List (List jm_E) := [[(0, .iload_n 0, 1, 0), (1, .iload_n 1, 2, 0), (2, .ishr, 3, 0), (3, .iconst 1, 4, 0), (4, .iand, 5, 0), (5, .iconst 1, 6, 0), (6, .if_icmp .ne 7, 9, 13), (9, .iconst 1, 10, 0), (10, .goto 4, 13, 14), (13, .iconst 0, 14, 0), (14, .ireturn, 15, 0)]]  -- X3_hasKind
def jmt_58 : List (List jm_E) := [[(0, .iload_n 1, 1, 0), (1, .ifCond .lt 21, 4, 22), (4, .iload_n 1, 5, 0), (5, .aload_n 0, 6, 0), (6, .getfield 9, 9, 0), (9, .if_icmp .ge 13, 12, 22), (12, .iload_n 1, 13, 0), (13, .bipush 15, 15, 0), (15, .if_icmp .ge 7, 18, 22), (18, .iconst 1, 19, 0), (19, .goto 4, 22, 23), (22, .iconst 0, 23, 0), (23, .ireturn, 24, 0)]]  -- X3_has
def jmt_59 : List (List jm_E) := [[(0, .iload_n 2, 1, 0), (1, .ifCond .lt 16, 4, 17), (4, .iload_n 2, 5, 0), (5, .aload_n 0, 6, 0), (6, .iload_n 1, 7, 0), (7, .invokevirtual 101, 10, 0), (10, .if_icmp .ge 7, 13, 17), (13, .iconst 1, 14, 0), (14, .goto 4, 17, 18), (17, .iconst 0, 18, 0), (18, .ireturn, 19, 0)]]  -- X3_hasPoint
def jmt_60 : List (List jm_E) := [[(0, .aload_n 0, 1, 0), (1, .iload_n 1, 2, 0), (2, .iload_n 2, 3, 0), (3, .invokevirtual 124, 6, 0), (6, .ifCond .eq 21, 9, 27), (9, .aload_n 0, 10, 0), (10, .iload_n 1, 11, 0), (11, .iload_n 3, 12, 0), (12, .invokevirtual 124, 15, 0), (15, .ifCond .eq 12, 18, 27), (18, .iload_n 2, 19, 0), (19, .iload_n 3, 20, 0), (20, .if_icmp .eq 7, 23, 27), (23, .iconst 1, 24, 0), (24, .goto 4, 27, 28), (27, .iconst 0, 28, 0), (28, .ireturn, 29, 0)]]  -- X3_hasPair
def jmt_61 : List (List jm_E) := [[(0, .iload_n 1, 1, 0), (1, .ifCond .lt 18, 4, 19), (4, .iload_n 1, 5, 0), (5, .bipush 15, 7, 0), (7, .if_icmp .ge 12, 10, 19), (10, .aload_n 0, 11, 0), (11, .getfield 18, 14, 0), (14, .iload_n 1, 15, 0), (15, .iaload, 16, 0), (16, .goto 4, 19, 20), (19, .iconst 0, 20, 0), (20, .ireturn, 21, 0)]]  -- X3_startOf
def jmt_62 : List (List jm_E) := [[(0, .iload_n 1, 1, 0), (1, .ifCond .lt 26, 4, 27), (4, .iload_n 1, 5, 0), (5, .aload_n 0, 6, 0), (6, .getfield 9, 9, 0), (9, .if_icmp .ge 18, 12, 27), (12, .iload_n 1, 13, 0), (13, .bipush 15, 15, 0), (15, .if_icmp .ge 12, 18, 27), (18, .aload_n 0, 19, 0), (19, .getfield 22, 22, 0), (22, .iload_n 1, 23, 0), (23, .iaload, 24, 0), (24, .goto 4, 27, 28), (27, .iconst 0, 28, 0), (28, .ireturn, 29, 0)]]  -- X3_lengthOf
def jmt_63 : List (List jm_E) := [[(0, .aload_n 0, 1, 0), (1, .iload_n 1, 2, 0), (2, .invokevirtual 127, 5, 0), (5, .ifCond .eq 12, 8, 17), (8, .aload_n 0, 9, 0), (9, .getfield 25, 12, 0), (12, .iload_n 1, 13, 0), (13, .iaload, 14, 0), (14, .goto 4, 17, 18), (17, .iconst 0, 18, 0), (18, .ireturn, 19, 0)]]  -- X3_areaOf
def jmt_64 : List (List jm_E) := [[(0, .aload_n 0, 1, 0), (1, .iload_n 1, 2, 0), (2, .invokevirtual 131, 5, 0), (5, .ifCond .ge 7, 8, 12), (8, .iconst 1, 9, 0), (9, .goto 4, 12, 13), (12, .iconst 0, 13, 0), (13, .ireturn, 14, 0)]]  -- X3_isHole
def jmt_65 : List (List jm_E) := [[(0, .iload_n 1, 1, 0), (1, .ifCond .lt 18, 4, 19), (4, .iload_n 1, 5, 0), (5, .bipush 60, 7, 0), (7, .if_icmp .ge 12, 10, 19), (10, .aload_n 0, 11, 0), (11, .getfield 28, 14, 0), (14, .iload_n 1, 15, 0), (15, .iaload, 16, 0), (16, .goto 4, 19, 20), (19, .iconst 0, 20, 0), (20, .ireturn, 21, 0)]]  -- X3_xAt
def jmt_66 : List (List jm_E) := [[(0, .iload_n 1, 1, 0), (1, .ifCond .lt 18, 4, 19), (4, .iload_n 1, 5, 0), (5, .bipush 60, 7, 0), (7, .if_icmp .ge 12, 10, 19), (10, .aload_n 0, 11, 0), (11, .getfield 31, 14, 0), (14, .iload_n 1, 15, 0), (15, .iaload, 16, 0), (16, .goto 4, 19, 20), (19, .iconst 0, 20, 0), (20, .ireturn, 21, 0)]]  -- X3_yAt
def jmt_67 : List (List jm_E) := [[(0, .iload_n 1, 1, 0), (1, .ifCond .lt 18, 4, 19), (4, .iload_n 1, 5, 0), (5, .bipush 60, 7, 0), (7, .if_icmp .ge 12, 10, 19), (10, .aload_n 0, 11, 0), (11, .getfield 34, 14, 0), (14, .iload_n 1, 15, 0), (15, .iaload, 16, 0), (16, .goto 4, 19, 20), (19, .iconst 0, 20, 0), (20, .ireturn, 21, 0)]]  -- X3_wayAt
def jmt_68 : List (List jm_E) := [[(0, .iload_n 1, 1, 0), (1, .ifCond .lt 18, 4, 19), (4, .iload_n 1, 5, 0), (5, .bipush 60, 7, 0), (7, .if_icmp .ge 12, 10, 19), (10, .aload_n 0, 11, 0), (11, .getfield 37, 14, 0), (14, .iload_n 1, 15, 0), (15, .iaload, 16, 0), (16, .goto 4, 19, 20), (19, .iconst 0, 20, 0), (20, .ireturn, 21, 0)]]  -- X3_leewayAt
def jmt_69 : List (List jm_E) := [[(0, .iload_n 1, 1, 0), (1, .ifCond .lt 22, 4, 23), (4, .iload_n 1, 5, 0), (5, .bipush 60, 7, 0), (7, .if_icmp .ge 16, 10, 23), (10, .aload_n 0, 11, 0), (11, .getfield 40, 14, 0), (14, .iload_n 1, 15, 0), (15, .baload, 16, 0), (16, .ifCond .eq 7, 19, 23), (19, .iconst 1, 20, 0), (20, .goto 4, 23, 24), (23, .iconst 0, 24, 0), (24, .ireturn, 25, 0)]]  -- X3_mustAt
def jmt_70 : List (List jm_E) := [[(0, .iconst 0, 1, 0), (1, .istore_n 1, 2, 0), (2, .iconst 0, 3, 0), (3, .istore_n 2, 4, 0), (4, .iload_n 2, 5, 0), (5, .aload_n 0, 6, 0), (6, .getfield 9, 9, 0), (9, .if_icmp .ge 20, 12, 29), (12, .aload_n 0, 13, 0), (13, .iload_n 2, 14, 0), (14, .invokevirtual 134, 17, 0), (17, .ifCond .eq 6, 20, 23), (20, .iinc 1 1, 23, 0), (23, .iinc 2 1, 26, 0), (26, .goto (-22), 29, 4), (29, .iload_n 1, 30, 0), (30, .ireturn, 31, 0)]]  -- X3_holes
def jmt_71 : List (List jm_E) := [[(0, .aload_n 0, 1, 0), (1, .iload_n 1, 2, 0), (2, .invokevirtual 98, 5, 0), (5, .istore_n 2, 6, 0), (6, .iconst 0, 7, 0), (7, .istore_n 3, 8, 0), (8, .iconst 0, 9, 0), (9, .istore 4, 11, 0), (11, .iload 4, 13, 0), (13, .aload_n 0, 14, 0), (14, .iload_n 1, 15, 0), (15, .invokevirtual 101, 18, 0), (18, .if_icmp .ge 23, 21, 41), (21, .aload_n 0, 22, 0), (22, .iload_n 2, 23, 0), (23, .iload 4, 25, 0), (25, .iadd, 26, 0), (26, .invokevirtual 137, 29, 0), (29, .ifCond .eq 6, 32, 35)],
  [(32, .iinc 3 1, 35, 0), (35, .iinc 4 1, 38, 0), (38, .goto (-27), 41, 11), (41, .iload_n 3, 42, 0), (42, .ireturn, 43, 0)]]  -- X3_mustCount
def jmt_72 : List (List jm_E) := [[(0, .aload_n 0, 1, 0), (1, .iload_n 2, 2, 0), (2, .invokevirtual 104, 5, 0), (5, .aload_n 0, 6, 0), (6, .iload_n 1, 7, 0), (7, .invokevirtual 104, 10, 0), (10, .isub, 11, 0), (11, .aload_n 0, 12, 0), (12, .iload_n 3, 13, 0), (13, .invokevirtual 107, 16, 0), (16, .aload_n 0, 17, 0), (17, .iload_n 1, 18, 0), (18, .invokevirtual 107, 21, 0), (21, .isub, 22, 0), (22, .imul, 23, 0), (23, .aload_n 0, 24, 0), (24, .iload_n 2, 25, 0), (25, .invokevirtual 107, 28, 0), (28, .aload_n 0, 29, 0), (29, .iload_n 1, 30, 0), (30, .invokevirtual 107, 33, 0)],
  [(33, .isub, 34, 0), (34, .aload_n 0, 35, 0), (35, .iload_n 3, 36, 0), (36, .invokevirtual 104, 39, 0), (39, .aload_n 0, 40, 0), (40, .iload_n 1, 41, 0), (41, .invokevirtual 104, 44, 0), (44, .isub, 45, 0), (45, .imul, 46, 0), (46, .isub, 47, 0), (47, .ireturn, 48, 0)]]  -- X3_beside
def jmt_73 : List (List jm_E) := [[(0, .aload_n 0, 1, 0), (1, .iload_n 1, 2, 0), (2, .invokevirtual 98, 5, 0), (5, .istore 4, 7, 0), (7, .aload_n 0, 8, 0), (8, .iload_n 1, 9, 0), (9, .invokevirtual 101, 12, 0), (12, .istore 5, 14, 0), (14, .aload_n 0, 15, 0), (15, .iload 4, 17, 0), (17, .iload_n 2, 18, 0), (18, .iadd, 19, 0), (19, .invokevirtual 104, 22, 0), (22, .istore 6, 24, 0), (24, .aload_n 0, 25, 0), (25, .iload 4, 27, 0), (27, .iload_n 2, 28, 0), (28, .iadd, 29, 0), (29, .invokevirtual 107, 32, 0)],
  [(32, .istore 7, 34, 0), (34, .aload_n 0, 35, 0), (35, .iload 4, 37, 0), (37, .iload_n 3, 38, 0), (38, .iadd, 39, 0), (39, .invokevirtual 104, 42, 0), (42, .iload 6, 44, 0), (44, .isub, 45, 0), (45, .istore 8, 47, 0), (47, .aload_n 0, 48, 0), (48, .iload 4, 50, 0), (50, .iload_n 3, 51, 0), (51, .iadd, 52, 0), (52, .invokevirtual 107, 55, 0), (55, .iload 7, 57, 0), (57, .isub, 58, 0), (58, .istore 9, 60, 0), (60, .iload 8, 62, 0), (62, .invokestatic 140, 65, 0)],
  [(65, .iload 9, 67, 0), (67, .invokestatic 140, 70, 0), (70, .invokestatic 145, 73, 0), (73, .istore 10, 75, 0), (75, .iload 10, 77, 0), (77, .ifCond .ne 5, 80, 82), (80, .iconst 0, 81, 0), (81, .ireturn, 82, 0), (82, .iload_n 2, 83, 0), (83, .iload_n 3, 84, 0), (84, .iload 5, 86, 0), (86, .invokestatic 148, 89, 0), (89, .istore 11, 91, 0), (91, .iconst 1, 92, 0), (92, .istore 12, 94, 0), (94, .iload 12, 96, 0)],
  [(96, .iload 11, 98, 0), (98, .if_icmp .ge 112, 101, 210), (101, .iload 4, 103, 0), (103, .iload_n 2, 104, 0), (104, .iload 12, 106, 0), (106, .iadd, 107, 0), (107, .iload 5, 109, 0), (109, .if_icmp .ge 10, 112, 119), (112, .iload_n 2, 113, 0), (113, .iload 12, 115, 0), (115, .iadd, 116, 0), (116, .goto 10, 119, 126), (119, .iload_n 2, 120, 0), (120, .iload 12, 122, 0), (122, .iadd, 123, 0), (123, .iload 5, 125, 0), (125, .isub, 126, 0), (126, .iadd, 127, 0), (127, .istore 13, 129, 0)],
  [(129, .iload 13, 131, 0), (131, .ifCond .lt 20, 134, 151), (134, .iload 13, 136, 0), (136, .bipush 60, 138, 0), (138, .if_icmp .ge 13, 141, 151), (141, .aload_n 0, 142, 0), (142, .getfield 40, 145, 0), (145, .iload 13, 147, 0), (147, .baload, 148, 0), (148, .ifCond .eq 5, 151, 153), (151, .iconst 0, 152, 0), (152, .ireturn, 153, 0), (153, .aload_n 0, 154, 0), (154, .getfield 28, 157, 0), (157, .iload 13, 159, 0), (159, .iaload, 160, 0)],
  [(160, .iload 6, 162, 0), (162, .isub, 163, 0), (163, .iload 9, 165, 0), (165, .imul, 166, 0), (166, .aload_n 0, 167, 0), (167, .getfield 31, 170, 0), (170, .iload 13, 172, 0), (172, .iaload, 173, 0), (173, .iload 7, 175, 0), (175, .isub, 176, 0), (176, .iload 8, 178, 0), (178, .imul, 179, 0), (179, .isub, 180, 0), (180, .istore 14, 182, 0), (182, .iconst 2, 183, 0), (183, .iload 14, 185, 0), (185, .invokestatic 140, 188, 0), (188, .imul, 189, 0), (189, .aload_n 0, 190, 0), (190, .getfield 37, 193, 0)],
  [(193, .iload 13, 195, 0), (195, .iaload, 196, 0), (196, .iload 10, 198, 0), (198, .imul, 199, 0), (199, .if_icmp .le 5, 202, 204), (202, .iconst 0, 203, 0), (203, .ireturn, 204, 0), (204, .iinc 12 1, 207, 0), (207, .goto (-113), 210, 94), (210, .iconst 1, 211, 0), (211, .ireturn, 212, 0)]]  -- X3_canJoin
def jmt_74 : List (List jm_E) := [[(0, .aload_n 0, 1, 0), (1, .iload_n 1, 2, 0), (2, .invokevirtual 98, 5, 0), (5, .istore 4, 7, 0), (7, .aload_n 0, 8, 0), (8, .iload_n 1, 9, 0), (9, .invokevirtual 101, 12, 0), (12, .istore 5, 14, 0), (14, .iload 4, 16, 0), (16, .iload_n 2, 17, 0), (17, .iadd, 18, 0), (18, .istore 6, 20, 0), (20, .iload 4, 22, 0), (22, .iload_n 3, 23, 0), (23, .iadd, 24, 0), (24, .istore 7, 26, 0), (26, .aload_n 0, 27, 0), (27, .iload 7, 29, 0), (29, .invokevirtual 104, 32, 0)],
  [(32, .aload_n 0, 33, 0), (33, .iload 6, 35, 0), (35, .invokevirtual 104, 38, 0), (38, .isub, 39, 0), (39, .istore 8, 41, 0), (41, .aload_n 0, 42, 0), (42, .iload 7, 44, 0), (44, .invokevirtual 107, 47, 0), (47, .aload_n 0, 48, 0), (48, .iload 6, 50, 0), (50, .invokevirtual 107, 53, 0), (53, .isub, 54, 0), (54, .istore 9, 56, 0), (56, .iload 8, 58, 0), (58, .iload 8, 60, 0), (60, .imul, 61, 0), (61, .iload 9, 63, 0), (63, .iload 9, 65, 0)],
  [(65, .imul, 66, 0), (66, .iadd, 67, 0), (67, .istore 10, 69, 0), (69, .iload 10, 71, 0), (71, .ifCond .ne 5, 74, 76), (74, .fconst 0, 75, 0), (75, .freturn, 76, 0), (76, .iload_n 2, 77, 0), (77, .iload_n 3, 78, 0), (78, .iload 5, 80, 0), (80, .invokestatic 148, 83, 0), (83, .istore 11, 85, 0), (85, .iconst 0, 86, 0), (86, .istore 12, 88, 0), (88, .iconst 1, 89, 0), (89, .istore 13, 91, 0), (91, .iload 13, 93, 0), (93, .iload 11, 95, 0), (95, .if_icmp .ge 59, 98, 154)],
  [(98, .iload 4, 100, 0), (100, .iload_n 2, 101, 0), (101, .iload 13, 103, 0), (103, .iadd, 104, 0), (104, .iload 5, 106, 0), (106, .if_icmp .ge 10, 109, 116), (109, .iload_n 2, 110, 0), (110, .iload 13, 112, 0), (112, .iadd, 113, 0), (113, .goto 10, 116, 123), (116, .iload_n 2, 117, 0), (117, .iload 13, 119, 0), (119, .iadd, 120, 0), (120, .iload 5, 122, 0), (122, .isub, 123, 0), (123, .iadd, 124, 0), (124, .istore 14, 126, 0), (126, .aload_n 0, 127, 0), (127, .iload 6, 129, 0)],
  [(129, .iload 14, 131, 0), (131, .iload 7, 133, 0), (133, .invokevirtual 151, 136, 0), (136, .istore 15, 138, 0), (138, .iload 12, 140, 0), (140, .iload 15, 142, 0), (142, .iload 15, 144, 0), (144, .imul, 145, 0), (145, .iadd, 146, 0), (146, .istore 12, 148, 0), (148, .iinc 13 1, 151, 0), (151, .goto (-60), 154, 91), (154, .iload 12, 156, 0), (156, .i2f, 157, 0), (157, .iload 10, 159, 0), (159, .i2f, 160, 0)],
  [(160, .fdiv, 161, 0), (161, .freturn, 162, 0)]]  -- X3_penaltyOf
def jmt_75 : List (List jm_E) := [[(0, .iload_n 1, 1, 0), (1, .iload_n 0, 2, 0), (2, .if_icmp .le 9, 5, 11), (5, .iload_n 1, 6, 0), (6, .iload_n 0, 7, 0), (7, .isub, 8, 0), (8, .goto 8, 11, 16), (11, .iload_n 1, 12, 0), (12, .iload_n 0, 13, 0), (13, .isub, 14, 0), (14, .iload_n 2, 15, 0), (15, .iadd, 16, 0), (16, .ireturn, 17, 0)]]  -- X3_stepsBetween
def jmt_76 : List (List jm_E) := [[(0, .aload_n 0, 1, 0), (1, .iload_n 1, 2, 0), (2, .invokevirtual 101, 5, 0), (5, .istore_n 3, 6, 0), (6, .iconst 1, 7, 0), (7, .istore 4, 9, 0), (9, .iconst 2, 10, 0), (10, .istore 5, 12, 0), (12, .iload 5, 14, 0), (14, .iload_n 3, 15, 0), (15, .iconst 2, 16, 0), (16, .isub, 17, 0), (17, .if_icmp .gt 50, 20, 67), (20, .iload_n 2, 21, 0), (21, .iload 5, 23, 0), (23, .iadd, 24, 0), (24, .iload_n 3, 25, 0), (25, .if_icmp .ge 10, 28, 35), (28, .iload_n 2, 29, 0), (29, .iload 5, 31, 0), (31, .iadd, 32, 0)],
  [(32, .goto 9, 35, 41), (35, .iload_n 2, 36, 0), (36, .iload 5, 38, 0), (38, .iadd, 39, 0), (39, .iload_n 3, 40, 0), (40, .isub, 41, 0), (41, .istore 6, 43, 0), (43, .aload_n 0, 44, 0), (44, .iload_n 1, 45, 0), (45, .iload_n 2, 46, 0), (46, .iload 6, 48, 0), (48, .invokevirtual 154, 51, 0), (51, .ifCond .ne 6, 54, 57), (54, .goto 13, 57, 67), (57, .iload 5, 59, 0), (59, .istore 4, 61, 0), (61, .iinc 5 1, 64, 0)],
  [(64, .goto (-52), 67, 12), (67, .iload 4, 69, 0), (69, .ireturn, 70, 0)]]  -- X3_reachOf
def jmt_77 : List (List jm_E) := [[(0, .aload_n 0, 1, 0), (1, .getfield 15, 4, 0), (4, .ifCond .lt 12, 7, 16), (7, .aload_n 0, 8, 0), (8, .getfield 15, 11, 0), (11, .bipush 32, 13, 0), (13, .if_icmp .lt 5, 16, 18), (16, .iconst 0, 17, 0), (17, .ireturn, 18, 0), (18, .aload_n 0, 19, 0), (19, .getfield 11, 22, 0), (22, .aload_n 0, 23, 0), (23, .getfield 15, 26, 0), (26, .iload_n 1, 27, 0), (27, .iastore, 28, 0), (28, .aload_n 0, 29, 0), (29, .dup, 30, 0), (30, .getfield 15, 33, 0)],
  [(33, .iconst 1, 34, 0), (34, .iadd, 35, 0), (35, .putfield 15, 38, 0), (38, .iconst 1, 39, 0), (39, .ireturn, 40, 0)]]  -- X4_append
def jmt_78 : List (List jm_E) := [[(0, .iload_n 1, 1, 0), (1, .ifCond .lt 18, 4, 19), (4, .iload_n 1, 5, 0), (5, .bipush 32, 7, 0), (7, .if_icmp .ge 12, 10, 19), (10, .aload_n 0, 11, 0), (11, .getfield 11, 14, 0), (14, .iload_n 1, 15, 0), (15, .iaload, 16, 0), (16, .goto 4, 19, 20), (19, .iconst 0, 20, 0), (20, .ireturn, 21, 0)]]  -- X4_codeAt
def jmt_79 : List (List jm_E) := [[(0, .iconst 0, 1, 0), (1, .istore_n 1, 2, 0), (2, .iconst 0, 3, 0), (3, .istore_n 2, 4, 0), (4, .iconst 5, 5, 0), (5, .istore_n 3, 6, 0), (6, .iconst 0, 7, 0), (7, .istore 4, 9, 0), (9, .iload 4, 11, 0), (11, .aload_n 0, 12, 0), (12, .getfield 15, 15, 0), (15, .if_icmp .ge 94, 18, 109), (18, .aload_n 0, 19, 0), (19, .iload 4, 21, 0), (21, .invokevirtual 19, 24, 0), (24, .istore 5, 26, 0), (26, .iload 5, 28, 0), (28, .bipush 47, 30, 0), (30, .if_icmp .ne 54, 33, 84)],
  [(33, .iload_n 1, 34, 0), (34, .ifCond .ne 15, 37, 49), (37, .iload_n 2, 38, 0), (38, .ifCond .le 7, 41, 45), (41, .iconst 1, 42, 0), (42, .goto 17, 45, 59), (45, .iconst 0, 46, 0), (46, .goto 13, 49, 59), (49, .iload_n 2, 50, 0), (50, .iload_n 3, 51, 0), (51, .if_icmp .ne 7, 54, 58), (54, .iconst 1, 55, 0), (55, .goto 4, 58, 59), (58, .iconst 0, 59, 0), (59, .istore 6, 61, 0), (61, .iload 6, 63, 0), (63, .ifCond .eq 8, 66, 71)],
  [(66, .iload_n 1, 67, 0), (67, .iconst 4, 68, 0), (68, .if_icmp .ne 6, 71, 74), (71, .iload 4, 73, 0), (73, .ireturn, 74, 0), (74, .iload_n 2, 75, 0), (75, .istore_n 3, 76, 0), (76, .iinc 1 1, 79, 0), (79, .iconst 0, 80, 0), (80, .istore_n 2, 81, 0), (81, .goto 22, 84, 103), (84, .iload 5, 86, 0), (86, .invokestatic 23, 89, 0), (89, .ifCond .eq 8, 92, 97), (92, .iload_n 2, 93, 0), (93, .iload_n 3, 94, 0), (94, .if_icmp .ne 6, 97, 100)],
  [(97, .iload 4, 99, 0), (99, .ireturn, 100, 0), (100, .iinc 2 1, 103, 0), (103, .iinc 4 1, 106, 0), (106, .goto (-97), 109, 9), (109, .aload_n 0, 110, 0), (110, .getfield 15, 113, 0), (113, .ireturn, 114, 0)]]  -- X4_firstFault
def jmt_80 : List (List jm_E) := [[(0, .aload_n 0, 1, 0), (1, .getfield 15, 4, 0), (4, .ifCond .eq 14, 7, 18), (7, .aload_n 0, 8, 0), (8, .invokevirtual 27, 11, 0), (11, .aload_n 0, 12, 0), (12, .getfield 15, 15, 0), (15, .if_icmp .ge 5, 18, 20), (18, .iconst 0, 19, 0), (19, .ireturn, 20, 0), (20, .aload_n 0, 21, 0), (21, .invokevirtual 31, 24, 0), (24, .istore_n 2, 25, 0), (25, .iload_n 2, 26, 0), (26, .iconst 1, 27, 0), (27, .if_icmp .ge 5, 30, 32), (30, .iconst 0, 31, 0), (31, .ireturn, 32, 0)],
  [(32, .aload_n 0, 33, 0), (33, .getfield 15, 36, 0), (36, .iconst 1, 37, 0), (37, .iadd, 38, 0), (38, .iload_n 2, 39, 0), (39, .iconst 1, 40, 0), (40, .iadd, 41, 0), (41, .idiv, 42, 0), (42, .istore_n 3, 43, 0), (43, .iload_n 3, 44, 0), (44, .iload_n 2, 45, 0), (45, .iconst 1, 46, 0), (46, .iadd, 47, 0), (47, .imul, 48, 0), (48, .aload_n 0, 49, 0), (49, .getfield 15, 52, 0), (52, .iconst 1, 53, 0), (53, .iadd, 54, 0), (54, .if_icmp .eq 5, 57, 59), (57, .iconst 0, 58, 0), (58, .ireturn, 59, 0), (59, .aload_n 1, 60, 0), (60, .iload_n 2, 61, 0), (61, .iload_n 3, 62, 0), (62, .invokevirtual 34, 65, 0)],
  [(65, .iconst 0, 66, 0), (66, .istore 4, 68, 0), (68, .iload 4, 70, 0), (70, .iload_n 2, 71, 0), (71, .iload_n 3, 72, 0), (72, .imul, 73, 0), (73, .if_icmp .ge 47, 76, 120), (76, .aload_n 0, 77, 0), (77, .iload 4, 79, 0), (79, .iload 4, 81, 0), (81, .iload_n 2, 82, 0), (82, .idiv, 83, 0), (83, .iadd, 84, 0), (84, .invokevirtual 19, 87, 0), (87, .istore 5, 89, 0), (89, .aload_n 1, 90, 0), (90, .iload 4, 92, 0), (92, .iload 5, 94, 0), (94, .bipush 46, 96, 0)],
  [(96, .if_icmp .ne 7, 99, 103), (99, .iconst (-1), 100, 0), (100, .goto 11, 103, 111), (103, .ldc 40, 105, 0), (105, .iload 5, 107, 0), (107, .i2c, 108, 0), (108, .invokevirtual 42, 111, 0), (111, .invokevirtual 47, 114, 0), (114, .iinc 4 1, 117, 0), (117, .goto (-49), 120, 68), (120, .aload_n 1, 121, 0), (121, .invokevirtual 50, 124, 0), (124, .ifCond .le 7, 127, 131), (127, .iconst 1, 128, 0)],
  [(128, .goto 4, 131, 132), (131, .iconst 0, 132, 0), (132, .ireturn, 133, 0)]]  -- X4_readInto
def jmt_81 : List (List jm_E) := [[(0, .iconst 0, 1, 0), (1, .istore_n 1, 2, 0), (2, .iload_n 1, 3, 0), (3, .aload_n 0, 4, 0), (4, .getfield 15, 7, 0), (7, .if_icmp .ge 21, 10, 28), (10, .aload_n 0, 11, 0), (11, .iload_n 1, 12, 0), (12, .invokevirtual 19, 15, 0), (15, .bipush 47, 17, 0), (17, .if_icmp .ne 5, 20, 22), (20, .iload_n 1, 21, 0), (21, .ireturn, 22, 0), (22, .iinc 1 1, 25, 0), (25, .goto (-23), 28, 2), (28, .aload_n 0, 29, 0), (29, .getfield 15, 32, 0)],
  [(32, .ireturn, 33, 0)]]  -- X4_firstRowLength
def jmt_82 : List (List jm_E) := [[(0, .iload_n 0, 1, 0), (1, .bipush 46, 3, 0), (3, .if_icmp .eq 13, 6, 16), (6, .ldc 40, 8, 0), (8, .iload_n 0, 9, 0), (9, .i2c, 10, 0), (10, .invokevirtual 42, 13, 0), (13, .ifCond .lt 7, 16, 20), (16, .iconst 1, 17, 0), (17, .goto 4, 20, 21), (20, .iconst 0, 21, 0), (21, .ireturn, 22, 0)]]  -- X4_isSign
def jmt_83 : List (List jm_E) := [[(0, .iconst 0, 1, 0), (1, .istore_n 1, 2, 0), (2, .iload_n 1, 3, 0), (3, .iconst 5, 4, 0), (4, .if_icmp .ge 16, 7, 20), (7, .aload_n 0, 8, 0), (8, .getfield 15, 11, 0), (11, .iload_n 1, 12, 0), (12, .iconst 0, 13, 0), (13, .iastore, 14, 0), (14, .iinc 1 1, 17, 0), (17, .goto (-15), 20, 2), (20, .return_, 21, 0)]]  -- X5_clear
def jmt_84 : List (List jm_E) := [[(0, .iload_n 1, 1, 0), (1, .invokestatic 18, 4, 0), (4, .ifCond .eq 13, 7, 17), (7, .aload_n 0, 8, 0), (8, .getfield 15, 11, 0), (11, .iload_n 1, 12, 0), (12, .iaload, 13, 0), (13, .iconst 3, 14, 0), (14, .if_icmp .lt 7, 17, 21), (17, .iconst 1, 18, 0), (18, .goto 4, 21, 22), (21, .iconst 0, 22, 0), (22, .ireturn, 23, 0)]]  -- X5_isFull
def jmt_85 : List (List jm_E) := [[(0, .aload_n 0, 1, 0), (1, .iload_n 1, 2, 0), (2, .invokevirtual 22, 5, 0), (5, .ifCond .ne 12, 8, 17), (8, .aload_n 0, 9, 0), (9, .getfield 15, 12, 0), (12, .iload_n 1, 13, 0), (13, .iaload, 14, 0), (14, .ifCond .ge 6, 17, 20), (17, .bipush (-104), 19, 0), (19, .ireturn, 20, 0), (20, .aload_n 0, 21, 0), (21, .getfield 11, 24, 0), (24, .iload_n 1, 25, 0), (25, .iconst 3, 26, 0), (26, .imul, 27, 0), (27, .aload_n 0, 28, 0), (28, .getfield 15, 31, 0), (31, .iload_n 1, 32, 0)],
  [(32, .iaload, 33, 0), (33, .iadd, 34, 0), (34, .iload_n 2, 35, 0), (35, .iastore, 36, 0), (36, .aload_n 0, 37, 0), (37, .getfield 15, 40, 0), (40, .iload_n 1, 41, 0), (41, .dup2, 42, 0), (42, .iaload, 43, 0), (43, .iconst 1, 44, 0), (44, .iadd, 45, 0), (45, .iastore, 46, 0), (46, .aload_n 0, 47, 0), (47, .getfield 15, 50, 0), (50, .iload_n 1, 51, 0), (51, .iaload, 52, 0), (52, .ireturn, 53, 0)]]  -- X5_add
def jmt_86 : List (List jm_E) := [[(0, .iload_n 1, 1, 0), (1, .invokestatic 18, 4, 0), (4, .ifCond .eq 22, 7, 26), (7, .iload_n 2, 8, 0), (8, .ifCond .lt 18, 11, 26), (11, .iload_n 2, 12, 0), (12, .iconst 3, 13, 0), (13, .if_icmp .ge 13, 16, 26), (16, .iload_n 2, 17, 0), (17, .aload_n 0, 18, 0), (18, .getfield 15, 21, 0), (21, .iload_n 1, 22, 0), (22, .iaload, 23, 0), (23, .if_icmp .lt 5, 26, 28), (26, .iconst (-1), 27, 0), (27, .ireturn, 28, 0), (28, .aload_n 0, 29, 0), (29, .getfield 11, 32, 0)],
  [(32, .iload_n 1, 33, 0), (33, .iconst 3, 34, 0), (34, .imul, 35, 0), (35, .iload_n 2, 36, 0), (36, .iadd, 37, 0), (37, .iaload, 38, 0), (38, .ireturn, 39, 0)]]  -- X5_placeAt
def jmt_87 : List (List jm_E) := [[(0, .iconst 0, 1, 0), (1, .istore_n 1, 2, 0), (2, .iconst 0, 3, 0), (3, .istore_n 2, 4, 0), (4, .iload_n 2, 5, 0), (5, .iconst 5, 6, 0), (6, .if_icmp .ge 18, 9, 24), (9, .iload_n 1, 10, 0), (10, .aload_n 0, 11, 0), (11, .getfield 15, 14, 0), (14, .iload_n 2, 15, 0), (15, .iaload, 16, 0), (16, .iadd, 17, 0), (17, .istore_n 1, 18, 0), (18, .iinc 2 1, 21, 0), (21, .goto (-17), 24, 4), (24, .iload_n 1, 25, 0), (25, .ireturn, 26, 0)]]  -- X5_total
def jmt_88 : List (List jm_E) := [[(0, .aload_n 0, 1, 0), (1, .getfield 22, 4, 0), (4, .ifCond .lt 12, 7, 16), (7, .aload_n 0, 8, 0), (8, .getfield 22, 11, 0), (11, .bipush 6, 13, 0), (13, .if_icmp .lt 5, 16, 18), (16, .iconst 0, 17, 0), (17, .ireturn, 18, 0), (18, .aload_n 0, 19, 0), (19, .getfield 11, 22, 0), (22, .aload_n 0, 23, 0), (23, .getfield 22, 26, 0), (26, .iload_n 1, 27, 0), (27, .iastore, 28, 0), (28, .aload_n 0, 29, 0), (29, .getfield 15, 32, 0)],
  [(32, .aload_n 0, 33, 0), (33, .getfield 22, 36, 0), (36, .iload_n 2, 37, 0), (37, .iastore, 38, 0), (38, .aload_n 0, 39, 0), (39, .getfield 18, 42, 0), (42, .aload_n 0, 43, 0), (43, .getfield 22, 46, 0), (46, .iload_n 3, 47, 0), (47, .bastore, 48, 0), (48, .aload_n 0, 49, 0), (49, .dup, 50, 0), (50, .getfield 22, 53, 0), (53, .iconst 1, 54, 0), (54, .iadd, 55, 0), (55, .putfield 22, 58, 0), (58, .iconst 1, 59, 0), (59, .ireturn, 60, 0)]]  -- X6_add
def jmt_89 : List (List jm_E) := [[(0, .aload_n 0, 1, 0), (1, .aload_n 1, 2, 0), (2, .getfield 22, 5, 0), (5, .putfield 22, 8, 0), (8, .iconst 0, 9, 0), (9, .istore_n 2, 10, 0), (10, .iload_n 2, 11, 0), (11, .bipush 6, 13, 0), (13, .if_icmp .ge 45, 16, 58), (16, .aload_n 0, 17, 0), (17, .getfield 11, 20, 0), (20, .iload_n 2, 21, 0), (21, .aload_n 1, 22, 0), (22, .getfield 11, 25, 0), (25, .iload_n 2, 26, 0), (26, .iaload, 27, 0), (27, .iastore, 28, 0), (28, .aload_n 0, 29, 0), (29, .getfield 15, 32, 0)],
  [(32, .iload_n 2, 33, 0), (33, .aload_n 1, 34, 0), (34, .getfield 15, 37, 0), (37, .iload_n 2, 38, 0), (38, .iaload, 39, 0), (39, .iastore, 40, 0), (40, .aload_n 0, 41, 0), (41, .getfield 18, 44, 0), (44, .iload_n 2, 45, 0), (45, .aload_n 1, 46, 0), (46, .getfield 18, 49, 0), (49, .iload_n 2, 50, 0), (50, .baload, 51, 0), (51, .bastore, 52, 0), (52, .iinc 2 1, 55, 0), (55, .goto (-45), 58, 10), (58, .return_, 59, 0)]]  -- X6_copyFrom
def jmt_90 : List (List jm_E) := [[(0, .bipush 31, 2, 0), (2, .istore_n 2, 3, 0), (3, .iconst 0, 4, 0), (4, .istore_n 3, 5, 0), (5, .iload_n 3, 6, 0), (6, .aload_n 0, 7, 0), (7, .getfield 22, 10, 0), (10, .if_icmp .ge 57, 13, 67), (13, .iload_n 3, 14, 0), (14, .bipush 6, 16, 0), (16, .if_icmp .ge 51, 19, 67), (19, .aload_n 0, 20, 0), (20, .getfield 11, 23, 0), (23, .iload_n 3, 24, 0), (24, .iaload, 25, 0), (25, .iload_n 1, 26, 0), (26, .if_icmp .ne 35, 29, 61), (29, .aload_n 0, 30, 0), (30, .getfield 15, 33, 0)],
  [(33, .iload_n 3, 34, 0), (34, .iaload, 35, 0), (35, .invokestatic 26, 38, 0), (38, .istore 4, 40, 0), (40, .iload_n 2, 41, 0), (41, .aload_n 0, 42, 0), (42, .getfield 18, 45, 0), (45, .iload_n 3, 46, 0), (46, .baload, 47, 0), (47, .ifCond .eq 8, 50, 55), (50, .iload 4, 52, 0), (52, .goto 7, 55, 59), (55, .iload 4, 57, 0), (57, .iconst (-1), 58, 0), (58, .ixor, 59, 0), (59, .iand, 60, 0), (60, .istore_n 2, 61, 0), (61, .iinc 3 1, 64, 0)],
  [(64, .goto (-59), 67, 5), (67, .iload_n 2, 68, 0), (68, .ireturn, 69, 0)]]  -- X6_sortsOf
def jmt_91 : List (List jm_E) := [[(0, .iload_n 0, 1, 0), (1, .ifCond .ne 5, 4, 6), (4, .iconst (-1), 5, 0), (5, .ireturn, 6, 0), (6, .bipush 6, 8, 0), (8, .istore_n 1, 9, 0), (9, .iconst (-1), 10, 0), (10, .istore_n 2, 11, 0), (11, .iconst 0, 12, 0), (12, .istore_n 3, 13, 0), (13, .iload_n 3, 14, 0), (14, .iconst 4, 15, 0), (15, .if_icmp .ge 47, 18, 62), (18, .iload_n 3, 19, 0), (19, .invokestatic 26, 22, 0), (22, .istore 4, 24, 0), (24, .iload_n 0, 25, 0), (25, .iload 4, 27, 0), (27, .iand, 28, 0), (28, .invokestatic 30, 31, 0), (31, .iload_n 0, 32, 0)],
  [(32, .iload 4, 34, 0), (34, .iconst (-1), 35, 0), (35, .ixor, 36, 0), (36, .iand, 37, 0), (37, .invokestatic 30, 40, 0), (40, .invokestatic 35, 43, 0), (43, .istore 5, 45, 0), (45, .iload 5, 47, 0), (47, .iload_n 1, 48, 0), (48, .if_icmp .ge 8, 51, 56), (51, .iload 5, 53, 0), (53, .istore_n 1, 54, 0), (54, .iload_n 3, 55, 0), (55, .istore_n 2, 56, 0), (56, .iinc 3 1, 59, 0), (59, .goto (-46), 62, 13), (62, .iload_n 2, 63, 0), (63, .ireturn, 64, 0)]]  -- X6_nextQuestion
def jmt_92 : List (List jm_E) := [[(0, .iload_n 0, 1, 0), (1, .ifCond .lt 16, 4, 17), (4, .iload_n 0, 5, 0), (5, .iconst 4, 6, 0), (6, .if_icmp .ge 11, 9, 17), (9, .getstatic 41, 12, 0), (12, .iload_n 0, 13, 0), (13, .iaload, 14, 0), (14, .goto 5, 17, 19), (17, .bipush 31, 19, 0), (19, .ireturn, 20, 0)]]  -- X6_sortsThatAre
def jmt_93 : List (List jm_E) := [[(0, .iload_n 1, 1, 0), (1, .iconst 1, 2, 0), (2, .if_icmp .lt 9, 5, 11), (5, .iload_n 1, 6, 0), (6, .bipush 126, 8, 0), (8, .if_icmp .le 6, 11, 14), (11, .bipush (-102), 13, 0), (13, .ireturn, 14, 0), (14, .aload_n 0, 15, 0), (15, .getfield 10, 18, 0), (18, .iload_n 1, 19, 0), (19, .invokevirtual 88, 22, 0), (22, .ifCond .eq 13, 25, 35), (25, .aload_n 0, 26, 0), (26, .getfield 10, 29, 0), (29, .getfield 92, 32, 0)],
  [(32, .goto 5, 35, 37), (35, .bipush (-104), 37, 0), (37, .ireturn, 38, 0)]]  -- X7_letter
def jmt_94 : List (List jm_E) := [[(0, .aload_n 0, 1, 0), (1, .getfield 10, 4, 0), (4, .getfield 92, 7, 0), (7, .istore_n 1, 8, 0), (8, .aload_n 0, 9, 0), (9, .getfield 10, 12, 0), (12, .iconst 0, 13, 0), (13, .putfield 92, 16, 0), (16, .iload_n 1, 17, 0), (17, .ireturn, 18, 0)]]  -- X7_blank
def jmt_95 : List (List jm_E) := [[(0, .aload_n 0, 1, 0), (1, .getfield 10, 4, 0), (4, .invokevirtual 95, 7, 0), (7, .ireturn, 8, 0)]]  -- X7_fault
def jmt_96 : List (List jm_E) := [[(0, .aload_n 0, 1, 0), (1, .getfield 10, 4, 0), (4, .aload_n 0, 5, 0), (5, .getfield 23, 8, 0), (8, .invokevirtual 99, 11, 0), (11, .ifCond .ne 6, 14, 17), (14, .bipush (-103), 16, 0), (16, .ireturn, 17, 0), (17, .aload_n 0, 18, 0), (18, .getfield 19, 21, 0), (21, .aload_n 0, 22, 0), (22, .getfield 23, 25, 0), (25, .invokevirtual 103, 28, 0), (28, .aload_n 0, 29, 0), (29, .getfield 10, 32, 0)],
  [(32, .iconst 0, 33, 0), (33, .putfield 92, 36, 0), (36, .aload_n 0, 37, 0), (37, .dup, 38, 0), (38, .getfield 81, 41, 0), (41, .iconst 1, 42, 0), (42, .iadd, 43, 0), (43, .putfield 81, 46, 0), (46, .aload_n 0, 47, 0), (47, .getfield 32, 50, 0), (50, .iconst 0, 51, 0), (51, .putfield 107, 54, 0), (54, .aload_n 0, 55, 0), (55, .iconst 0, 56, 0), (56, .putfield 77, 59, 0), (59, .aload_n 0, 60, 0), (60, .invokevirtual 108, 63, 0), (63, .aload_n 0, 64, 0)],
  [(64, .getfield 19, 67, 0), (67, .invokevirtual 111, 70, 0), (70, .ireturn, 71, 0)]]  -- X7_blob
def jmt_97 : List (List jm_E) := [[(0, .aload_n 0, 1, 0), (1, .getfield 19, 4, 0), (4, .iload_n 1, 5, 0), (5, .invokevirtual 114, 8, 0), (8, .ifCond .ne 6, 11, 14), (11, .bipush (-101), 13, 0), (13, .ireturn, 14, 0), (14, .iload_n 2, 15, 0), (15, .ifCond .lt 8, 18, 23), (18, .iload_n 2, 19, 0), (19, .iconst 3, 20, 0), (20, .if_icmp .lt 6, 23, 26), (23, .bipush (-102), 25, 0), (25, .ireturn, 26, 0), (26, .aload_n 0, 27, 0), (27, .iload_n 1, 28, 0), (28, .iload_n 2, 29, 0), (29, .invokevirtual 117, 32, 0)],
  [(32, .ireturn, 33, 0)]]  -- X7_dot
def jmt_98 : List (List jm_E) := [[(0, .aload_n 0, 1, 0), (1, .getfield 19, 4, 0), (4, .iload_n 1, 5, 0), (5, .invokevirtual 121, 8, 0), (8, .iconst (-1), 9, 0), (9, .if_icmp .ne 6, 12, 15), (12, .bipush (-101), 14, 0), (14, .ireturn, 15, 0), (15, .iload_n 2, 16, 0), (16, .invokestatic 125, 19, 0), (19, .ifCond .ne 6, 22, 25), (22, .bipush (-102), 24, 0), (24, .ireturn, 25, 0), (25, .aload_n 0, 26, 0), (26, .getfield 19, 29, 0), (29, .iload_n 1, 30, 0), (30, .invokevirtual 121, 33, 0)],
  [(33, .iload_n 2, 34, 0), (34, .invokestatic 128, 37, 0), (37, .ifCond .eq 7, 40, 44), (40, .iload_n 1, 41, 0), (41, .goto 4, 44, 45), (44, .iconst (-1), 45, 0), (45, .ireturn, 46, 0)]]  -- X7_as
def jmt_99 : List (List jm_E) := [[(0, .aload_n 0, 1, 0), (1, .getfield 49, 4, 0), (4, .iload_n 1, 5, 0), (5, .invokevirtual 132, 8, 0), (8, .ifCond .ne 6, 11, 14), (11, .bipush (-101), 13, 0), (13, .ireturn, 14, 0), (14, .iload_n 2, 15, 0), (15, .ifCond .lt 9, 18, 24), (18, .iload_n 2, 19, 0), (19, .bipush 7, 21, 0), (21, .if_icmp .lt 6, 24, 27), (24, .bipush (-102), 26, 0), (26, .ireturn, 27, 0), (27, .aload_n 0, 28, 0), (28, .iload_n 1, 29, 0), (29, .iload_n 2, 30, 0), (30, .invokevirtual 133, 33, 0)],
  [(33, .ireturn, 34, 0)]]  -- X7_outline
def jmt_100 : List (List jm_E) := [[(0, .aload_n 0, 1, 0), (1, .getfield 49, 4, 0), (4, .iload_n 1, 5, 0), (5, .iload_n 2, 6, 0), (6, .invokevirtual 136, 9, 0), (9, .ifCond .ne 6, 12, 15), (12, .bipush (-101), 14, 0), (14, .ireturn, 15, 0), (15, .iload_n 3, 16, 0), (16, .ifCond .lt 8, 19, 24), (19, .iload_n 3, 20, 0), (20, .iconst 5, 21, 0), (21, .if_icmp .lt 6, 24, 27), (24, .bipush (-102), 26, 0), (26, .ireturn, 27, 0), (27, .aload_n 0, 28, 0), (28, .iload_n 1, 29, 0), (29, .iload_n 2, 30, 0), (30, .iload_n 3, 31, 0), (31, .invokevirtual 139, 34, 0)],
  [(34, .ireturn, 35, 0)]]  -- X7_point
def jmt_101 : List (List jm_E) := [[(0, .aload_n 0, 1, 0), (1, .getfield 49, 4, 0), (4, .iload_n 1, 5, 0), (5, .iload_n 2, 6, 0), (6, .iload_n 3, 7, 0), (7, .invokevirtual 143, 10, 0), (10, .ifCond .ne 6, 13, 16), (13, .bipush (-101), 15, 0), (15, .ireturn, 16, 0), (16, .aload_n 0, 17, 0), (17, .getfield 49, 20, 0), (20, .iload_n 1, 21, 0), (21, .iload_n 2, 22, 0), (22, .iload_n 3, 23, 0), (23, .invokevirtual 147, 26, 0), (26, .ifCond .eq 7, 29, 33), (29, .iconst 1, 30, 0), (30, .goto 4, 33, 34)],
  [(33, .iconst 0, 34, 0), (34, .ireturn, 35, 0)]]  -- X7_joined
def jmt_102 : List (List jm_E) := [[(0, .aload_n 0, 1, 0), (1, .getfield 49, 4, 0), (4, .iload_n 1, 5, 0), (5, .iload_n 2, 6, 0), (6, .iload_n 3, 7, 0), (7, .invokevirtual 143, 10, 0), (10, .ifCond .ne 6, 13, 16), (13, .bipush (-101), 15, 0), (15, .ireturn, 16, 0), (16, .aload_n 0, 17, 0), (17, .getfield 49, 20, 0), (20, .iload_n 1, 21, 0), (21, .iload_n 2, 22, 0), (22, .iload_n 3, 23, 0), (23, .invokevirtual 147, 26, 0), (26, .ifCond .ne 5, 29, 31), (29, .iconst (-1), 30, 0), (30, .ireturn, 31, 0), (31, .aload_n 0, 32, 0)],
  [(32, .getfield 49, 35, 0), (35, .iload_n 1, 36, 0), (36, .iload_n 2, 37, 0), (37, .iload_n 3, 38, 0), (38, .invokevirtual 150, 41, 0), (41, .invokestatic 154, 44, 0), (44, .ireturn, 45, 0)]]  -- X7_penalty
def jmt_103 : List (List jm_E) := [[(0, .aload_n 0, 1, 0), (1, .getfield 49, 4, 0), (4, .iload_n 1, 5, 0), (5, .invokevirtual 132, 8, 0), (8, .ifCond .eq 19, 11, 27), (11, .iload_n 2, 12, 0), (12, .ifCond .lt 15, 15, 27), (15, .iload_n 2, 16, 0), (16, .aload_n 0, 17, 0), (17, .getfield 67, 20, 0), (20, .iload_n 1, 21, 0), (21, .invokevirtual 158, 24, 0), (24, .if_icmp .lt 6, 27, 30), (27, .bipush (-101), 29, 0), (29, .ireturn, 30, 0), (30, .aload_n 0, 31, 0), (31, .getfield 67, 34, 0)],
  [(34, .iload_n 1, 35, 0), (35, .invokevirtual 161, 38, 0), (38, .aload_n 0, 39, 0), (39, .getfield 67, 42, 0), (42, .aload_n 0, 43, 0), (43, .getfield 49, 46, 0), (46, .iload_n 1, 47, 0), (47, .invokevirtual 165, 50, 0), (50, .iload_n 2, 51, 0), (51, .iadd, 52, 0), (52, .invokevirtual 168, 55, 0), (55, .ireturn, 56, 0)]]  -- X7_corner
def jmt_104 : List (List jm_E) := [[(0, .aload_n 0, 1, 0), (1, .getfield 19, 4, 0), (4, .iload_n 1, 5, 0), (5, .invokevirtual 114, 8, 0), (8, .ifCond .ne 6, 11, 14), (11, .bipush (-101), 13, 0), (13, .ireturn, 14, 0), (14, .iload_n 2, 15, 0), (15, .invokestatic 125, 18, 0), (18, .ifCond .ne 6, 21, 24), (21, .bipush (-102), 23, 0), (23, .ireturn, 24, 0), (24, .aload_n 0, 25, 0), (25, .getfield 19, 28, 0), (28, .iload_n 1, 29, 0), (29, .iload_n 2, 30, 0), (30, .invokevirtual 171, 33, 0)],
  [(33, .aload_n 0, 34, 0), (34, .invokevirtual 108, 37, 0), (37, .aload_n 0, 38, 0), (38, .getfield 49, 41, 0), (41, .getfield 175, 44, 0), (44, .ireturn, 45, 0)]]  -- X7_put
def jmt_105 : List (List jm_E) := [[(0, .aload_n 0, 1, 0), (1, .getfield 19, 4, 0), (4, .iload_n 1, 5, 0), (5, .invokevirtual 121, 8, 0), (8, .iconst (-1), 9, 0), (9, .if_icmp .ne 6, 12, 15), (12, .bipush (-101), 14, 0), (14, .ireturn, 15, 0), (15, .aload_n 0, 16, 0), (16, .getfield 19, 19, 0), (19, .invokevirtual 111, 22, 0), (22, .iconst 1, 23, 0), (23, .if_icmp .ne 6, 26, 29), (26, .bipush (-103), 28, 0), (28, .ireturn, 29, 0), (29, .aload_n 0, 30, 0), (30, .getfield 19, 33, 0)],
  [(33, .iload_n 1, 34, 0), (34, .iconst (-1), 35, 0), (35, .invokevirtual 171, 38, 0), (38, .aload_n 0, 39, 0), (39, .invokevirtual 108, 42, 0), (42, .aload_n 0, 43, 0), (43, .getfield 49, 46, 0), (46, .getfield 175, 49, 0), (49, .ireturn, 50, 0)]]  -- X7_take
def jmt_106 : List (List jm_E) := [[(0, .aload_n 0, 1, 0), (1, .getfield 81, 4, 0), (4, .ifCond .ne 6, 7, 10), (7, .bipush (-103), 9, 0), (9, .ireturn, 10, 0), (10, .aload_n 0, 11, 0), (11, .getfield 23, 14, 0), (14, .aload_n 0, 15, 0), (15, .getfield 19, 18, 0), (18, .invokevirtual 103, 21, 0), (21, .aload_n 0, 22, 0), (22, .getfield 19, 25, 0), (25, .aload_n 0, 26, 0), (26, .getfield 23, 29, 0), (29, .invokevirtual 178, 32, 0)],
  [(32, .aload_n 0, 33, 0), (33, .invokevirtual 108, 36, 0), (36, .aload_n 0, 37, 0), (37, .invokevirtual 181, 40, 0), (40, .ireturn, 41, 0)]]  -- X7_turn
def jmt_107 : List (List jm_E) := [[(0, .aload_n 0, 1, 0), (1, .getfield 81, 4, 0), (4, .ifCond .ne 6, 7, 10), (7, .bipush (-103), 9, 0), (9, .ireturn, 10, 0), (10, .aload_n 0, 11, 0), (11, .getfield 23, 14, 0), (14, .aload_n 0, 15, 0), (15, .getfield 19, 18, 0), (18, .invokevirtual 103, 21, 0), (21, .aload_n 0, 22, 0), (22, .getfield 19, 25, 0), (25, .aload_n 0, 26, 0), (26, .getfield 23, 29, 0), (29, .invokevirtual 184, 32, 0)],
  [(32, .aload_n 0, 33, 0), (33, .invokevirtual 108, 36, 0), (36, .aload_n 0, 37, 0), (37, .invokevirtual 181, 40, 0), (40, .ireturn, 41, 0)]]  -- X7_mirror
def jmt_108 : List (List jm_E) := [[(0, .aload_n 0, 1, 0), (1, .getfield 19, 4, 0), (4, .iload_n 1, 5, 0), (5, .invokevirtual 121, 8, 0), (8, .iconst (-1), 9, 0), (9, .if_icmp .ne 6, 12, 15), (12, .bipush (-101), 14, 0), (14, .ireturn, 15, 0), (15, .iload_n 2, 16, 0), (16, .invokestatic 125, 19, 0), (19, .ifCond .ne 6, 22, 25), (22, .bipush (-102), 24, 0), (24, .ireturn, 25, 0), (25, .aload_n 0, 26, 0), (26, .getfield 42, 29, 0), (29, .iload_n 2, 30, 0), (30, .invokevirtual 187, 33, 0)],
  [(33, .ifCond .eq 6, 36, 39), (36, .bipush (-104), 38, 0), (38, .ireturn, 39, 0), (39, .aload_n 0, 40, 0), (40, .getfield 19, 43, 0), (43, .iload_n 1, 44, 0), (44, .invokevirtual 121, 47, 0), (47, .iload_n 2, 48, 0), (48, .invokestatic 128, 51, 0), (51, .ifCond .eq 15, 54, 66), (54, .aload_n 0, 55, 0), (55, .getfield 42, 58, 0), (58, .iload_n 2, 59, 0), (59, .iload_n 1, 60, 0), (60, .invokevirtual 190, 63, 0), (63, .goto 4, 66, 67)],
  [(66, .iconst (-1), 67, 0), (67, .ireturn, 68, 0)]]  -- X7_rack
def jmt_109 : List (List jm_E) := [[(0, .iload_n 1, 1, 0), (1, .invokestatic 125, 4, 0), (4, .ifCond .eq 12, 7, 16), (7, .iload_n 2, 8, 0), (8, .ifCond .lt 8, 11, 16), (11, .iload_n 2, 12, 0), (12, .iconst 3, 13, 0), (13, .if_icmp .lt 6, 16, 19), (16, .bipush (-102), 18, 0), (18, .ireturn, 19, 0), (19, .aload_n 0, 20, 0), (20, .getfield 42, 23, 0), (23, .iload_n 1, 24, 0), (24, .iload_n 2, 25, 0), (25, .invokevirtual 193, 28, 0), (28, .ireturn, 29, 0)]]  -- X7_racked
def jmt_110 : List (List jm_E) := [[(0, .aload_n 0, 1, 0), (1, .getfield 81, 4, 0), (4, .ifCond .eq 11, 7, 15), (7, .aload_n 0, 8, 0), (8, .getfield 85, 11, 0), (11, .iconst 5, 12, 0), (12, .if_icmp .lt 6, 15, 18), (15, .bipush (-103), 17, 0), (17, .ireturn, 18, 0), (18, .aload_n 0, 19, 0), (19, .dup, 20, 0), (20, .getfield 85, 23, 0), (23, .iconst 1, 24, 0), (24, .iadd, 25, 0), (25, .putfield 85, 28, 0), (28, .aload_n 0, 29, 0), (29, .getfield 19, 32, 0)],
  [(32, .invokevirtual 111, 35, 0), (35, .iconst 1, 36, 0), (36, .if_icmp .ne 7, 39, 43), (39, .iconst (-1), 40, 0), (40, .goto 7, 43, 47), (43, .aload_n 0, 44, 0), (44, .invokevirtual 196, 47, 0), (47, .ireturn, 48, 0)]]  -- X7_weight
def jmt_111 : List (List jm_E) := [[(0, .aload_n 0, 1, 0), (1, .getfield 19, 4, 0), (4, .iload_n 1, 5, 0), (5, .invokevirtual 114, 8, 0), (8, .ifCond .ne 6, 11, 14), (11, .bipush (-101), 13, 0), (13, .ireturn, 14, 0), (14, .iload_n 2, 15, 0), (15, .ifCond .lt 8, 18, 23), (18, .iload_n 2, 19, 0), (19, .iconst 4, 20, 0), (20, .if_icmp .lt 6, 23, 26), (23, .bipush (-102), 25, 0), (25, .ireturn, 26, 0), (26, .aload_n 0, 27, 0), (27, .getfield 32, 30, 0), (30, .iload_n 1, 31, 0), (31, .iload_n 2, 32, 0)],
  [(32, .iload_n 3, 33, 0), (33, .invokevirtual 199, 36, 0), (36, .ifCond .eq 13, 39, 49), (39, .aload_n 0, 40, 0), (40, .getfield 32, 43, 0), (43, .getfield 107, 46, 0), (46, .goto 5, 49, 51), (49, .bipush (-104), 51, 0), (51, .ireturn, 52, 0)]]  -- X7_see
def jmt_112 : List (List jm_E) := [[(0, .aload_n 0, 1, 0), (1, .getfield 32, 4, 0), (4, .getfield 107, 7, 0), (7, .istore_n 1, 8, 0), (8, .aload_n 0, 9, 0), (9, .getfield 32, 12, 0), (12, .iconst 0, 13, 0), (13, .putfield 107, 16, 0), (16, .iload_n 1, 17, 0), (17, .ireturn, 18, 0)]]  -- X7_forget
def jmt_113 : List (List jm_E) := [[(0, .iload_n 1, 1, 0), (1, .iconst 1, 2, 0), (2, .if_icmp .lt 21, 5, 23), (5, .iload_n 1, 6, 0), (6, .iconst 3, 7, 0), (7, .if_icmp .gt 16, 10, 23), (10, .iload_n 2, 11, 0), (11, .ifCond .lt 12, 14, 23), (14, .iload_n 3, 15, 0), (15, .ifCond .lt 8, 18, 23), (18, .iload_n 3, 19, 0), (19, .iconst 2, 20, 0), (20, .if_icmp .le 6, 23, 26), (23, .bipush (-102), 25, 0), (25, .ireturn, 26, 0), (26, .iload_n 2, 27, 0), (27, .istore 4, 29, 0), (29, .iconst 0, 30, 0), (30, .istore 5, 32, 0)],
  [(32, .iconst 0, 33, 0), (33, .istore 6, 35, 0), (35, .iconst 0, 36, 0), (36, .istore 7, 38, 0), (38, .iload 7, 40, 0), (40, .iload_n 1, 41, 0), (41, .if_icmp .ge 56, 44, 97), (44, .aload_n 0, 45, 0), (45, .getfield 23, 48, 0), (48, .iload 4, 50, 0), (50, .invokestatic 202, 53, 0), (53, .istore 4, 55, 0), (55, .aload_n 0, 56, 0), (56, .getfield 71, 59, 0), (59, .aload_n 0, 60, 0), (60, .getfield 23, 63, 0), (63, .invokevirtual 206, 66, 0)],
  [(66, .iload 6, 68, 0), (68, .aload_n 0, 69, 0), (69, .getfield 71, 72, 0), (72, .getfield 175, 75, 0), (75, .iadd, 76, 0), (76, .istore 6, 78, 0), (78, .iload_n 3, 79, 0), (79, .ifCond .ne 12, 82, 91), (82, .iload 5, 84, 0), (84, .aload_n 0, 85, 0), (85, .invokevirtual 209, 88, 0), (88, .iadd, 89, 0), (89, .istore 5, 91, 0), (91, .iinc 7 1, 94, 0), (94, .goto (-56), 97, 38)],
  [(97, .iload_n 3, 98, 0), (98, .ifCond .ne 8, 101, 106), (101, .iload 5, 103, 0), (103, .goto 15, 106, 118), (106, .iload_n 3, 107, 0), (107, .iconst 1, 108, 0), (108, .if_icmp .ne 8, 111, 116), (111, .iload 6, 113, 0), (113, .goto 5, 116, 118), (116, .iload 4, 118, 0), (118, .ireturn, 119, 0)]]  -- X7_drawn
def jmt_114 : List (List jm_E) := [[(0, .aload_n 0, 1, 0), (1, .getfield 81, 4, 0), (4, .ifCond .ne 6, 7, 10), (7, .bipush (-103), 9, 0), (9, .ireturn, 10, 0), (10, .aload_n 0, 11, 0), (11, .getfield 26, 14, 0), (14, .aload_n 0, 15, 0), (15, .getfield 19, 18, 0), (18, .invokevirtual 103, 21, 0), (21, .aload_n 0, 22, 0), (22, .getfield 36, 25, 0), (25, .aload_n 0, 26, 0), (26, .getfield 32, 29, 0), (29, .invokevirtual 212, 32, 0)],
  [(32, .aload_n 0, 33, 0), (33, .iconst 1, 34, 0), (34, .putfield 77, 37, 0), (37, .aload_n 0, 38, 0), (38, .getfield 19, 41, 0), (41, .invokevirtual 111, 44, 0), (44, .ireturn, 45, 0)]]  -- X7_image
def jmt_115 : List (List jm_E) := [[(0, .aload_n 0, 1, 0), (1, .getfield 77, 4, 0), (4, .ifCond .ne 6, 7, 10), (7, .bipush (-103), 9, 0), (9, .ireturn, 10, 0), (10, .aload_n 0, 11, 0), (11, .getfield 19, 14, 0), (14, .aload_n 0, 15, 0), (15, .getfield 26, 18, 0), (18, .invokevirtual 103, 21, 0), (21, .aload_n 0, 22, 0), (22, .getfield 32, 25, 0), (25, .aload_n 0, 26, 0), (26, .getfield 36, 29, 0), (29, .invokevirtual 212, 32, 0)],
  [(32, .aload_n 0, 33, 0), (33, .invokevirtual 108, 36, 0), (36, .aload_n 0, 37, 0), (37, .getfield 19, 40, 0), (40, .invokevirtual 111, 43, 0), (43, .ireturn, 44, 0)]]  -- X7_restore
def jmt_116 : List (List jm_E) := [[(0, .iload_n 1, 1, 0), (1, .ifCond .lt 9, 4, 10), (4, .iload_n 1, 5, 0), (5, .bipush 11, 7, 0), (7, .if_icmp .lt 6, 10, 13), (10, .bipush (-102), 12, 0), (12, .ireturn, 13, 0), (13, .aload_n 0, 14, 0), (14, .iload_n 1, 15, 0), (15, .invokevirtual 215, 18, 0), (18, .ireturn, 19, 0)]]  -- X7_count
def jmt_117 : List (List jm_E) := [[(0, .ldc2_w 218, 3, 0), (3, .lstore_n 1, 4, 0), (4, .iconst 0, 5, 0), (5, .istore_n 3, 6, 0), (6, .iload_n 3, 7, 0), (7, .aload_n 0, 8, 0), (8, .getfield 19, 11, 0), (11, .invokevirtual 220, 14, 0), (14, .if_icmp .ge 39, 17, 53), (17, .iconst 0, 18, 0), (18, .istore 4, 20, 0), (20, .iload 4, 22, 0), (22, .iconst 3, 23, 0), (23, .if_icmp .ge 24, 26, 47), (26, .ldc2_w 223, 29, 0), (29, .lload_n 1, 30, 0), (30, .lmul, 31, 0), (31, .aload_n 0, 32, 0)],
  [(32, .iload_n 3, 33, 0), (33, .iload 4, 35, 0), (35, .invokevirtual 117, 38, 0), (38, .i2l, 39, 0), (39, .ladd, 40, 0), (40, .lstore_n 1, 41, 0), (41, .iinc 4 1, 44, 0), (44, .goto (-24), 47, 20), (47, .iinc 3 1, 50, 0), (50, .goto (-44), 53, 6), (53, .iconst 0, 54, 0), (54, .istore_n 3, 55, 0), (55, .iload_n 3, 56, 0), (56, .aload_n 0, 57, 0), (57, .getfield 49, 60, 0), (60, .getfield 175, 63, 0), (63, .if_icmp .ge 16, 66, 79)],
  [(66, .aload_n 0, 67, 0), (67, .lload_n 1, 68, 0), (68, .iload_n 3, 69, 0), (69, .invokevirtual 225, 72, 0), (72, .lstore_n 1, 73, 0), (73, .iinc 3 1, 76, 0), (76, .goto (-21), 79, 55), (79, .iconst 0, 80, 0), (80, .istore_n 3, 81, 0), (81, .iload_n 3, 82, 0), (82, .iconst 5, 83, 0), (83, .if_icmp .ge 42, 86, 125), (86, .iconst 0, 87, 0), (87, .istore 4, 89, 0), (89, .iload 4, 91, 0), (91, .iconst 3, 92, 0), (92, .if_icmp .ge 27, 95, 119), (95, .ldc2_w 223, 98, 0)],
  [(98, .lload_n 1, 99, 0), (99, .lmul, 100, 0), (100, .aload_n 0, 101, 0), (101, .getfield 42, 104, 0), (104, .iload_n 3, 105, 0), (105, .iload 4, 107, 0), (107, .invokevirtual 193, 110, 0), (110, .i2l, 111, 0), (111, .ladd, 112, 0), (112, .lstore_n 1, 113, 0), (113, .iinc 4 1, 116, 0), (116, .goto (-27), 119, 89), (119, .iinc 3 1, 122, 0), (122, .goto (-41), 125, 81), (125, .iconst 0, 126, 0), (126, .istore_n 3, 127, 0), (127, .iload_n 3, 128, 0)],
  [(128, .aload_n 0, 129, 0), (129, .getfield 10, 132, 0), (132, .getfield 92, 135, 0), (135, .if_icmp .ge 25, 138, 160), (138, .ldc2_w 223, 141, 0), (141, .lload_n 1, 142, 0), (142, .lmul, 143, 0), (143, .aload_n 0, 144, 0), (144, .getfield 10, 147, 0), (147, .iload_n 3, 148, 0), (148, .invokevirtual 229, 151, 0), (151, .i2l, 152, 0), (152, .ladd, 153, 0), (153, .lstore_n 1, 154, 0), (154, .iinc 3 1, 157, 0), (157, .goto (-30), 160, 127)],
  [(160, .iconst 0, 161, 0), (161, .istore_n 3, 162, 0), (162, .iload_n 3, 163, 0), (163, .bipush 11, 165, 0), (165, .if_icmp .ge 22, 168, 187), (168, .ldc2_w 223, 171, 0), (171, .lload_n 1, 172, 0), (172, .lmul, 173, 0), (173, .aload_n 0, 174, 0), (174, .iload_n 3, 175, 0), (175, .invokevirtual 215, 178, 0), (178, .i2l, 179, 0), (179, .ladd, 180, 0), (180, .lstore_n 1, 181, 0), (181, .iinc 3 1, 184, 0), (184, .goto (-22), 187, 162), (187, .lload_n 1, 188, 0), (188, .lreturn, 189, 0)]]  -- X7_digest
def jmt_118 : List (List jm_E) := [[(0, .iload_n 2, 1, 0), (1, .lookupswitch 45 #[(0, 27), (1, 36)], 28, 0), (28, .aload_n 0, 29, 0), (29, .getfield 19, 32, 0)],
  [(32, .iload_n 1, 33, 0), (33, .invokevirtual 121, 36, 0), (36, .ireturn, 37, 0), (37, .aload_n 0, 38, 0), (38, .getfield 32, 41, 0), (41, .iload_n 1, 42, 0), (42, .invokevirtual 232, 45, 0), (45, .ireturn, 46, 0), (46, .aload_n 0, 47, 0), (47, .getfield 32, 50, 0), (50, .iload_n 1, 51, 0), (51, .invokevirtual 232, 54, 0), (54, .invokestatic 235, 57, 0), (57, .ireturn, 58, 0)]]  -- X7_dotAnswer
def jmt_119 : List (List jm_E) := [[(0, .iload_n 2, 1, 0), (1, .tableswitch 120 0 5 #[39, 48, 65, 74, 91, 108], 40, 0)],
  [(40, .aload_n 0, 41, 0), (41, .getfield 49, 44, 0), (44, .iload_n 1, 45, 0), (45, .invokevirtual 238, 48, 0), (48, .ireturn, 49, 0), (49, .aload_n 0, 50, 0), (50, .getfield 49, 53, 0), (53, .iload_n 1, 54, 0), (54, .invokevirtual 241, 57, 0), (57, .ifCond .eq 7, 60, 64), (60, .iconst 1, 61, 0), (61, .goto 4, 64, 65)],
  [(64, .iconst 0, 65, 0), (65, .ireturn, 66, 0), (66, .aload_n 0, 67, 0), (67, .getfield 67, 70, 0), (70, .iload_n 1, 71, 0), (71, .invokevirtual 158, 74, 0), (74, .ireturn, 75, 0), (75, .aload_n 0, 76, 0), (76, .getfield 67, 79, 0), (79, .iload_n 1, 80, 0), (80, .invokevirtual 161, 83, 0), (83, .aload_n 0, 84, 0), (84, .getfield 67, 87, 0), (87, .iload_n 1, 88, 0), (88, .invokevirtual 244, 91, 0), (91, .ireturn, 92, 0), (92, .aload_n 0, 93, 0), (93, .getfield 67, 96, 0)],
  [(96, .iload_n 1, 97, 0), (97, .invokevirtual 161, 100, 0), (100, .aload_n 0, 101, 0), (101, .getfield 67, 104, 0), (104, .iload_n 1, 105, 0), (105, .invokevirtual 247, 108, 0), (108, .ireturn, 109, 0), (109, .aload_n 0, 110, 0), (110, .getfield 49, 113, 0), (113, .iload_n 1, 114, 0), (114, .invokevirtual 250, 117, 0), (117, .invokestatic 253, 120, 0), (120, .ireturn, 121, 0), (121, .aload_n 0, 122, 0), (122, .getfield 49, 125, 0), (125, .iload_n 1, 126, 0), (126, .invokevirtual 258, 129, 0)],
  [(129, .ireturn, 130, 0)]]  -- X7_outlineAnswer
def jmt_120 : List (List jm_E) := [[(0, .aload_n 0, 1, 0), (1, .getfield 49, 4, 0), (4, .iload_n 1, 5, 0), (5, .invokevirtual 165, 8, 0), (8, .iload_n 2, 9, 0), (9, .iadd, 10, 0), (10, .istore 4, 12, 0), (12, .iload_n 3, 13, 0), (13, .tableswitch 92 0 3 #[31, 54, 64, 82], 44, 0)],
  [(44, .bipush 10, 46, 0), (46, .aload_n 0, 47, 0), (47, .getfield 49, 50, 0), (50, .iload 4, 52, 0), (52, .invokevirtual 261, 55, 0), (55, .imul, 56, 0), (56, .aload_n 0, 57, 0), (57, .getfield 49, 60, 0), (60, .iload 4, 62, 0), (62, .invokevirtual 264, 65, 0)],
  [(65, .iadd, 66, 0), (66, .ireturn, 67, 0), (67, .aload_n 0, 68, 0), (68, .getfield 49, 71, 0), (71, .iload 4, 73, 0), (73, .invokevirtual 267, 76, 0), (76, .ireturn, 77, 0), (77, .aload_n 0, 78, 0), (78, .getfield 49, 81, 0), (81, .iload 4, 83, 0), (83, .invokevirtual 270, 86, 0), (86, .ifCond .eq 7, 89, 93), (89, .iconst 1, 90, 0), (90, .goto 4, 93, 94), (93, .iconst 0, 94, 0), (94, .ireturn, 95, 0), (95, .aload_n 0, 96, 0)],
  [(96, .getfield 49, 99, 0), (99, .iload_n 1, 100, 0), (100, .iload_n 2, 101, 0), (101, .invokevirtual 273, 104, 0), (104, .ireturn, 105, 0), (105, .aload_n 0, 106, 0), (106, .getfield 67, 109, 0), (109, .iload_n 1, 110, 0), (110, .invokevirtual 161, 113, 0), (113, .aload_n 0, 114, 0), (114, .getfield 67, 117, 0), (117, .iload 4, 119, 0), (119, .invokevirtual 276, 122, 0), (122, .ifCond .eq 7, 125, 129), (125, .iconst 1, 126, 0), (126, .goto 4, 129, 130)],
  [(129, .iconst 0, 130, 0), (130, .ireturn, 131, 0)]]  -- X7_pointAnswer
def jmt_121 : List (List jm_E) := [[(0, .iload_n 1, 1, 0), (1, .tableswitch 129 0 9 #[55, 63, 71, 79, 87, 95, 100, 108, 116, 124], 56, 0)],
  [(56, .aload_n 0, 57, 0), (57, .getfield 19, 60, 0), (60, .invokevirtual 111, 63, 0), (63, .ireturn, 64, 0)],
  [(64, .aload_n 0, 65, 0), (65, .getfield 19, 68, 0), (68, .getfield 279, 71, 0), (71, .ireturn, 72, 0), (72, .aload_n 0, 73, 0), (73, .getfield 19, 76, 0), (76, .getfield 282, 79, 0), (79, .ireturn, 80, 0), (80, .aload_n 0, 81, 0), (81, .getfield 49, 84, 0), (84, .getfield 175, 87, 0), (87, .ireturn, 88, 0), (88, .aload_n 0, 89, 0), (89, .getfield 49, 92, 0), (92, .invokevirtual 285, 95, 0), (95, .ireturn, 96, 0)],
  [(96, .aload_n 0, 97, 0), (97, .invokevirtual 181, 100, 0), (100, .ireturn, 101, 0), (101, .aload_n 0, 102, 0), (102, .getfield 42, 105, 0), (105, .invokevirtual 288, 108, 0), (108, .ireturn, 109, 0), (109, .aload_n 0, 110, 0), (110, .getfield 32, 113, 0), (113, .getfield 107, 116, 0), (116, .ireturn, 117, 0), (117, .aload_n 0, 118, 0), (118, .getfield 10, 121, 0), (121, .getfield 92, 124, 0), (124, .ireturn, 125, 0), (125, .aload_n 0, 126, 0), (126, .getfield 81, 129, 0)],
  [(129, .ireturn, 130, 0), (130, .aload_n 0, 131, 0), (131, .getfield 85, 134, 0), (134, .ireturn, 135, 0)]]  -- X7_countAnswer
def jmt_122 : List (List jm_E) := [[(0, .lload_n 1, 1, 0), (1, .lstore 4, 3, 0), (3, .iconst 0, 4, 0), (4, .istore 6, 6, 0), (6, .iload 6, 8, 0), (8, .bipush 7, 10, 0), (10, .if_icmp .ge 26, 13, 36), (13, .ldc2_w 223, 16, 0), (16, .lload 4, 18, 0), (18, .lmul, 19, 0), (19, .aload_n 0, 20, 0), (20, .iload_n 3, 21, 0), (21, .iload 6, 23, 0), (23, .invokevirtual 133, 26, 0), (26, .i2l, 27, 0), (27, .ladd, 28, 0), (28, .lstore 4, 30, 0), (30, .iinc 6 1, 33, 0)],
  [(33, .goto (-27), 36, 6), (36, .iconst 0, 37, 0), (37, .istore 6, 39, 0), (39, .iload 6, 41, 0), (41, .aload_n 0, 42, 0), (42, .getfield 49, 45, 0), (45, .iload_n 3, 46, 0), (46, .invokevirtual 238, 49, 0), (49, .if_icmp .ge 43, 52, 92), (52, .iconst 0, 53, 0), (53, .istore 7, 55, 0), (55, .iload 7, 57, 0), (57, .iconst 5, 58, 0), (58, .if_icmp .ge 28, 61, 86), (61, .ldc2_w 223, 64, 0)],
  [(64, .lload 4, 66, 0), (66, .lmul, 67, 0), (67, .aload_n 0, 68, 0), (68, .iload_n 3, 69, 0), (69, .iload 6, 71, 0), (71, .iload 7, 73, 0), (73, .invokevirtual 139, 76, 0), (76, .i2l, 77, 0), (77, .ladd, 78, 0), (78, .lstore 4, 80, 0), (80, .iinc 7 1, 83, 0), (83, .goto (-28), 86, 55), (86, .iinc 6 1, 89, 0), (89, .goto (-50), 92, 39), (92, .lload 4, 94, 0), (94, .lreturn, 95, 0)]]  -- X7_digestOutline
def jmt_123 : List (List jm_E) := [[(0, .aload_n 0, 1, 0), (1, .getfield 42, 4, 0), (4, .invokevirtual 291, 7, 0), (7, .aload_n 0, 8, 0), (8, .getfield 49, 11, 0), (11, .aload_n 0, 12, 0), (12, .getfield 19, 15, 0), (15, .invokevirtual 206, 18, 0), (18, .aload_n 0, 19, 0), (19, .getfield 58, 22, 0), (22, .invokevirtual 294, 25, 0), (25, .aload_n 0, 26, 0), (26, .getfield 67, 29, 0), (29, .invokevirtual 297, 32, 0)],
  [(32, .return_, 33, 0)]]  -- X7_dotsChanged
def jmt_124 : List (List jm_E) := [[(0, .iconst 0, 1, 0), (1, .istore_n 1, 2, 0), (2, .iconst 0, 3, 0), (3, .istore_n 2, 4, 0), (4, .iload_n 2, 5, 0), (5, .aload_n 0, 6, 0), (6, .getfield 49, 9, 0), (9, .getfield 175, 12, 0), (12, .if_icmp .ge 20, 15, 32), (15, .iload_n 1, 16, 0), (16, .aload_n 0, 17, 0), (17, .getfield 67, 20, 0), (20, .iload_n 2, 21, 0), (21, .invokevirtual 158, 24, 0), (24, .iadd, 25, 0), (25, .istore_n 1, 26, 0), (26, .iinc 2 1, 29, 0), (29, .goto (-25), 32, 4)],
  [(32, .iload_n 1, 33, 0), (33, .ireturn, 34, 0)]]  -- X7_allCorners
def jmt_125 : List (List jm_E) := [[(0, .iconst 0, 1, 0), (1, .istore_n 1, 2, 0), (2, .aload_n 0, 3, 0), (3, .getfield 74, 6, 0), (6, .invokevirtual 294, 9, 0), (9, .iconst 0, 10, 0), (10, .istore_n 2, 11, 0), (11, .iload_n 2, 12, 0), (12, .aload_n 0, 13, 0), (13, .getfield 71, 16, 0), (16, .getfield 175, 19, 0), (19, .if_icmp .ge 27, 22, 46), (22, .aload_n 0, 23, 0), (23, .getfield 74, 26, 0), (26, .iload_n 2, 27, 0), (27, .invokevirtual 298, 30, 0), (30, .iload_n 1, 31, 0), (31, .aload_n 0, 32, 0)],
  [(32, .getfield 74, 35, 0), (35, .invokevirtual 301, 38, 0), (38, .iadd, 39, 0), (39, .istore_n 1, 40, 0), (40, .iinc 2 1, 43, 0), (43, .goto (-32), 46, 11), (46, .iload_n 1, 47, 0), (47, .ireturn, 48, 0)]]  -- X7_triedCorners
def jmt_126 : List (List jm_E) := [[(0, .bipush 61, 2, 0), (2, .istore_n 1, 3, 0), (3, .iconst (-1), 4, 0), (4, .istore_n 2, 5, 0), (5, .iconst 0, 6, 0), (6, .istore_n 3, 7, 0), (7, .iload_n 3, 8, 0), (8, .aload_n 0, 9, 0), (9, .getfield 19, 12, 0), (12, .invokevirtual 220, 15, 0), (15, .if_icmp .ge 72, 18, 87), (18, .aload_n 0, 19, 0), (19, .getfield 19, 22, 0), (22, .iload_n 3, 23, 0), (23, .invokevirtual 121, 26, 0), (26, .iconst (-1), 27, 0), (27, .if_icmp .ne 6, 30, 33), (30, .goto 51, 33, 81)],
  [(33, .aload_n 0, 34, 0), (34, .getfield 23, 37, 0), (37, .aload_n 0, 38, 0), (38, .getfield 19, 41, 0), (41, .invokevirtual 103, 44, 0), (44, .aload_n 0, 45, 0), (45, .getfield 23, 48, 0), (48, .iload_n 3, 49, 0), (49, .iconst (-1), 50, 0), (50, .invokevirtual 171, 53, 0), (53, .aload_n 0, 54, 0), (54, .getfield 71, 57, 0), (57, .aload_n 0, 58, 0), (58, .getfield 23, 61, 0), (61, .invokevirtual 206, 64, 0)],
  [(64, .aload_n 0, 65, 0), (65, .invokevirtual 209, 68, 0), (68, .istore 4, 70, 0), (70, .iload 4, 72, 0), (72, .iload_n 1, 73, 0), (73, .if_icmp .ge 8, 76, 81), (76, .iload 4, 78, 0), (78, .istore_n 1, 79, 0), (79, .iload_n 3, 80, 0), (80, .istore_n 2, 81, 0), (81, .iinc 3 1, 84, 0), (84, .goto (-77), 87, 7), (87, .iload_n 2, 88, 0), (88, .ireturn, 89, 0)]]  -- X7_heaviestPlace
def jmt_127 : List (List jm_E) := [[(0, .iload_n 0, 1, 0), (1, .ifCond .lt 12, 4, 13), (4, .iload_n 0, 5, 0), (5, .iconst 5, 6, 0), (6, .if_icmp .ge 7, 9, 13), (9, .iconst 1, 10, 0), (10, .goto 4, 13, 14), (13, .iconst 0, 14, 0), (14, .ireturn, 15, 0)]]  -- X7_isKind
def jmt_128 : List (List jm_E) := [[(0, .iload_n 1, 1, 0), (1, .ifCond .eq 18, 4, 19), (4, .iload_n 0, 5, 0), (5, .iload_n 1, 6, 0), (6, .if_icmp .eq 13, 9, 19), (9, .iload_n 0, 10, 0), (10, .iconst 2, 11, 0), (11, .if_icmp .ne 12, 14, 23), (14, .iload_n 1, 15, 0), (15, .iconst 1, 16, 0), (16, .if_icmp .ne 7, 19, 23), (19, .iconst 1, 20, 0), (20, .goto 4, 23, 24), (23, .iconst 0, 24, 0), (24, .ireturn, 25, 0)]]  -- X7_isAlso
def jmt_129 : List (List jm_E) := [[(0, .iload_n 1, 1, 0), (1, .istore_n 2, 2, 0), (2, .aload_n 0, 3, 0), (3, .iconst 4, 4, 0), (4, .iconst 3, 5, 0), (5, .invokevirtual 304, 8, 0), (8, .iconst 0, 9, 0), (9, .istore_n 3, 10, 0), (10, .iload_n 3, 11, 0), (11, .bipush 12, 13, 0), (13, .if_icmp .ge 45, 16, 58), (16, .ldc2_w 306, 19, 0), (19, .iload_n 2, 20, 0), (20, .i2l, 21, 0), (21, .lmul, 22, 0), (22, .ldc2_w 308, 25, 0), (25, .ladd, 26, 0), (26, .ldc2_w 310, 29, 0), (29, .land, 30, 0), (30, .l2i, 31, 0), (31, .istore_n 2, 32, 0)],
  [(32, .aload_n 0, 33, 0), (33, .iload_n 3, 34, 0), (34, .iload_n 2, 35, 0), (35, .ldc_w 312, 38, 0), (38, .idiv, 39, 0), (39, .iconst 3, 40, 0), (40, .irem, 41, 0), (41, .ifCond .ne 7, 44, 48), (44, .iconst (-1), 45, 0), (45, .goto 4, 48, 49), (48, .iconst 0, 49, 0), (49, .invokevirtual 171, 52, 0), (52, .iinc 3 1, 55, 0), (55, .goto (-45), 58, 10), (58, .iload_n 2, 59, 0), (59, .ireturn, 60, 0)]]  -- X7_drawInto
def jmt_130 : List (List jm_E) := [[(0, .fload_n 0, 1, 0), (1, .fconst 0, 2, 0), (2, .fcmp .l, 3, 0), (3, .ifCond .gt 5, 6, 8), (6, .iconst 0, 7, 0), (7, .ireturn, 8, 0), (8, .fload_n 0, 9, 0), (9, .fstore_n 1, 10, 0), (10, .bipush 127, 12, 0), (12, .istore_n 2, 13, 0), (13, .iconst 0, 14, 0), (14, .istore_n 3, 15, 0), (15, .iload_n 3, 16, 0), (16, .bipush 127, 18, 0), (18, .if_icmp .ge 22, 21, 40), (21, .fload_n 1, 22, 0), (22, .fconst 2, 23, 0), (23, .fcmp .l, 24, 0), (24, .ifCond .lt 16, 27, 40), (27, .fload_n 1, 28, 0), (28, .fconst 2, 29, 0), (29, .fdiv, 30, 0), (30, .fstore_n 1, 31, 0), (31, .iinc 2 1, 34, 0)],
  [(34, .iinc 3 1, 37, 0), (37, .goto (-22), 40, 15), (40, .iconst 0, 41, 0), (41, .istore_n 3, 42, 0), (42, .iload_n 3, 43, 0), (43, .bipush 126, 45, 0), (45, .if_icmp .ge 22, 48, 67), (48, .fload_n 1, 49, 0), (49, .fconst 1, 50, 0), (50, .fcmp .g, 51, 0), (51, .ifCond .ge 16, 54, 67), (54, .fload_n 1, 55, 0), (55, .fconst 2, 56, 0), (56, .fmul, 57, 0), (57, .fstore_n 1, 58, 0), (58, .iinc 2 (-1), 61, 0), (61, .iinc 3 1, 64, 0)],
  [(64, .goto (-22), 67, 42), (67, .iload_n 2, 68, 0), (68, .bipush 23, 70, 0), (70, .ishl, 71, 0), (71, .fload_n 1, 72, 0), (72, .fconst 1, 73, 0), (73, .fsub, 74, 0), (74, .ldc_w 313, 77, 0), (77, .fmul, 78, 0), (78, .f2i, 79, 0), (79, .ior, 80, 0), (80, .ireturn, 81, 0)]]  -- X7_bitsOf
def jmt_131 : List (List jm_E) := [[(0, .lload_n 0, 1, 0), (1, .lload_n 2, 2, 0), (2, .lcmp, 3, 0), (3, .ifCond .lt 14, 6, 17), (6, .lload_n 0, 7, 0), (7, .lload 4, 9, 0), (9, .lcmp, 10, 0), (10, .ifCond .gt 7, 13, 17), (13, .iconst 1, 14, 0), (14, .goto 4, 17, 18), (17, .iconst 0, 18, 0), (18, .ireturn, 19, 0)]]  -- X8_in
def jmt_132 : List (List jm_E) := [[(0, .iload_n 0, 1, 0), (1, .ifCond .ge 9, 4, 10), (4, .iconst 0, 5, 0), (5, .iload_n 0, 6, 0), (6, .isub, 7, 0), (7, .goto 4, 10, 11), (10, .iload_n 0, 11, 0), (11, .ireturn, 12, 0)]]  -- X8_far
def jmt_133 : List (List jm_E) := [[(0, .iconst 0, 1, 0), (1, .istore_n 2, 2, 0), (2, .iload_n 2, 3, 0), (3, .aload_n 0, 4, 0), (4, .arraylength, 5, 0), (5, .if_icmp .ge 15, 8, 20), (8, .aload_n 1, 9, 0), (9, .iload_n 2, 10, 0), (10, .aload_n 0, 11, 0), (11, .iload_n 2, 12, 0), (12, .iaload, 13, 0), (13, .iastore, 14, 0), (14, .iinc 2 1, 17, 0), (17, .goto (-15), 20, 2), (20, .return_, 21, 0)]]  -- X8_copy
def jmt_134 : List (List jm_E) := [[(0, .iload_n 1, 1, 0), (1, .i2l, 2, 0), (2, .lconst 1, 3, 0), (3, .ldc2_w 77, 6, 0), (6, .invokestatic 79, 9, 0), (9, .ifCond .ne 6, 12, 15), (12, .bipush (-102), 14, 0), (14, .ireturn, 15, 0), (15, .aload_n 0, 16, 0), (16, .getfield 83, 19, 0), (19, .bipush 32, 21, 0), (21, .if_icmp .ne 6, 24, 27), (24, .bipush (-104), 26, 0), (26, .ireturn, 27, 0), (27, .aload_n 0, 28, 0), (28, .getfield 7, 31, 0), (31, .aload_n 0, 32, 0)],
  [(32, .getfield 83, 35, 0), (35, .iload_n 1, 36, 0), (36, .iastore, 37, 0), (37, .aload_n 0, 38, 0), (38, .dup, 39, 0), (39, .getfield 83, 42, 0), (42, .iconst 1, 43, 0), (43, .iadd, 44, 0), (44, .putfield 83, 47, 0), (47, .aload_n 0, 48, 0), (48, .getfield 83, 51, 0), (51, .ireturn, 52, 0)]]  -- X8_letter
def jmt_135 : List (List jm_E) := [[(0, .aload_n 0, 1, 0), (1, .getfield 83, 4, 0), (4, .istore_n 1, 5, 0), (5, .aload_n 0, 6, 0), (6, .iconst 0, 7, 0), (7, .putfield 83, 10, 0), (10, .iload_n 1, 11, 0), (11, .ireturn, 12, 0)]]  -- X8_blank
def jmt_136 : List (List jm_E) := [[(0, .iload_n 0, 1, 0), (1, .lookupswitch 61 #[(100, 51), (104, 53), (108, 59), (115, 55), (116, 57)], 52, 0)],
  [(52, .iconst 0, 53, 0), (53, .ireturn, 54, 0), (54, .iconst 1, 55, 0), (55, .ireturn, 56, 0), (56, .iconst 2, 57, 0), (57, .ireturn, 58, 0), (58, .iconst 3, 59, 0), (59, .ireturn, 60, 0), (60, .iconst 4, 61, 0), (61, .ireturn, 62, 0), (62, .iconst (-1), 63, 0), (63, .ireturn, 64, 0)]]  -- X8_kindBy
def jmt_137 : List (List jm_E) := [[(0, .aload_n 0, 1, 0), (1, .getfield 86, 4, 0), (4, .ifCond .le 33, 7, 37), (7, .aload_n 0, 8, 0), (8, .getfield 89, 11, 0), (11, .ifCond .eq 14, 14, 25), (14, .aload_n 0, 15, 0), (15, .getfield 86, 18, 0), (18, .aload_n 0, 19, 0), (19, .getfield 89, 22, 0), (22, .if_icmp .ne 15, 25, 37), (25, .aload_n 0, 26, 0), (26, .getfield 92, 29, 0), (29, .iconst 4, 30, 0), (30, .if_icmp .ge 7, 33, 37)],
  [(33, .iconst 1, 34, 0), (34, .goto 4, 37, 38), (37, .iconst 0, 38, 0), (38, .istore_n 1, 39, 0), (39, .aload_n 0, 40, 0), (40, .aload_n 0, 41, 0), (41, .getfield 89, 44, 0), (44, .ifCond .ne 10, 47, 54), (47, .aload_n 0, 48, 0), (48, .getfield 86, 51, 0), (51, .goto 7, 54, 58), (54, .aload_n 0, 55, 0), (55, .getfield 89, 58, 0), (58, .putfield 89, 61, 0), (61, .aload_n 0, 62, 0), (62, .dup, 63, 0), (63, .getfield 92, 66, 0)],
  [(66, .iconst 1, 67, 0), (67, .iadd, 68, 0), (68, .putfield 92, 71, 0), (71, .aload_n 0, 72, 0), (72, .iconst 0, 73, 0), (73, .putfield 86, 76, 0), (76, .iload_n 1, 77, 0), (77, .ireturn, 78, 0)]]  -- X8_isRowEnd
def jmt_138 : List (List jm_E) := [[(0, .iload_n 1, 1, 0), (1, .bipush 47, 3, 0), (3, .if_icmp .ne 8, 6, 11), (6, .aload_n 0, 7, 0), (7, .invokevirtual 95, 10, 0), (10, .ireturn, 11, 0), (11, .aload_n 0, 12, 0), (12, .dup, 13, 0), (13, .getfield 86, 16, 0), (16, .iconst 1, 17, 0), (17, .iadd, 18, 0), (18, .putfield 86, 21, 0), (21, .aload_n 0, 22, 0), (22, .dup, 23, 0), (23, .getfield 99, 26, 0), (26, .iload_n 1, 27, 0), (27, .invokestatic 102, 30, 0), (30, .iconst (-1), 31, 0), (31, .if_icmp .ne 7, 34, 38)],
  [(34, .iconst 0, 35, 0), (35, .goto 4, 38, 39), (38, .iconst 1, 39, 0), (39, .iadd, 40, 0), (40, .putfield 99, 43, 0), (43, .iload_n 1, 44, 0), (44, .bipush 46, 46, 0), (46, .if_icmp .eq 11, 49, 57), (49, .iload_n 1, 50, 0), (50, .invokestatic 102, 53, 0), (53, .iconst (-1), 54, 0), (54, .if_icmp .eq 29, 57, 83), (57, .aload_n 0, 58, 0), (58, .getfield 86, 61, 0), (61, .aload_n 0, 62, 0), (62, .getfield 89, 65, 0)],
  [(65, .ifCond .ne 7, 68, 72), (68, .iconst 5, 69, 0), (69, .goto 7, 72, 76), (72, .aload_n 0, 73, 0), (73, .getfield 89, 76, 0), (76, .if_icmp .gt 7, 79, 83), (79, .iconst 1, 80, 0), (80, .goto 4, 83, 84), (83, .iconst 0, 84, 0), (84, .ireturn, 85, 0)]]  -- X8_isGood
def jmt_139 : List (List jm_E) := [[(0, .aload_n 0, 1, 0), (1, .iconst 0, 2, 0), (2, .putfield 89, 5, 0), (5, .aload_n 0, 6, 0), (6, .iconst 0, 7, 0), (7, .putfield 92, 10, 0), (10, .aload_n 0, 11, 0), (11, .iconst 0, 12, 0), (12, .putfield 86, 15, 0), (15, .aload_n 0, 16, 0), (16, .iconst 0, 17, 0), (17, .putfield 99, 20, 0), (20, .iconst 0, 21, 0), (21, .istore_n 1, 22, 0), (22, .iload_n 1, 23, 0), (23, .aload_n 0, 24, 0), (24, .getfield 83, 27, 0), (27, .if_icmp .ge 22, 30, 49), (30, .aload_n 0, 31, 0), (31, .aload_n 0, 32, 0)],
  [(32, .getfield 7, 35, 0), (35, .iload_n 1, 36, 0), (36, .iaload, 37, 0), (37, .invokevirtual 106, 40, 0), (40, .ifCond .eq 9, 43, 49), (43, .iinc 1 1, 46, 0), (46, .goto (-24), 49, 22), (49, .iload_n 1, 50, 0), (50, .ireturn, 51, 0)]]  -- X8_faultOf
def jmt_140 : List (List jm_E) := [[(0, .aload_n 0, 1, 0), (1, .invokevirtual 110, 4, 0), (4, .ireturn, 5, 0)]]  -- X8_fault
def jmt_141 : List (List jm_E) := [[(0, .aload_n 0, 1, 0), (1, .invokevirtual 110, 4, 0), (4, .aload_n 0, 5, 0), (5, .getfield 83, 8, 0), (8, .if_icmp .ne 39, 11, 47), (11, .aload_n 0, 12, 0), (12, .getfield 86, 15, 0), (15, .ifCond .le 32, 18, 47), (18, .aload_n 0, 19, 0), (19, .getfield 89, 22, 0), (22, .ifCond .eq 14, 25, 36), (25, .aload_n 0, 26, 0), (26, .getfield 86, 29, 0), (29, .aload_n 0, 30, 0), (30, .getfield 89, 33, 0)],
  [(33, .if_icmp .ne 14, 36, 47), (36, .aload_n 0, 37, 0), (37, .getfield 99, 40, 0), (40, .ifCond .le 7, 43, 47), (43, .iconst 1, 44, 0), (44, .goto 4, 47, 48), (47, .iconst 0, 48, 0), (48, .istore_n 1, 49, 0), (49, .iload_n 1, 50, 0), (50, .ifCond .ne 6, 53, 56), (53, .bipush (-103), 55, 0), (55, .ireturn, 56, 0), (56, .aload_n 0, 57, 0), (57, .aload_n 0, 58, 0), (58, .getfield 86, 61, 0), (61, .putfield 114, 64, 0)],
  [(64, .aload_n 0, 65, 0), (65, .aload_n 0, 66, 0), (66, .getfield 92, 69, 0), (69, .iconst 1, 70, 0), (70, .iadd, 71, 0), (71, .putfield 117, 74, 0), (74, .iconst 0, 75, 0), (75, .istore_n 2, 76, 0), (76, .iconst 0, 77, 0), (77, .istore_n 3, 78, 0), (78, .iload_n 3, 79, 0), (79, .aload_n 0, 80, 0), (80, .getfield 83, 83, 0), (83, .if_icmp .ge 38, 86, 121), (86, .aload_n 0, 87, 0), (87, .getfield 7, 90, 0), (90, .iload_n 3, 91, 0), (91, .iaload, 92, 0), (92, .bipush 47, 94, 0), (94, .if_icmp .eq 21, 97, 115)],
  [(97, .aload_n 0, 98, 0), (98, .getfield 13, 101, 0), (101, .iload_n 2, 102, 0), (102, .aload_n 0, 103, 0), (103, .getfield 7, 106, 0), (106, .iload_n 3, 107, 0), (107, .iaload, 108, 0), (108, .invokestatic 102, 111, 0), (111, .iastore, 112, 0), (112, .iinc 2 1, 115, 0), (115, .iinc 3 1, 118, 0), (118, .goto (-40), 121, 78), (121, .aload_n 0, 122, 0), (122, .iconst 0, 123, 0), (123, .putfield 120, 126, 0), (126, .aload_n 0, 127, 0), (127, .dup, 128, 0)],
  [(128, .getfield 123, 131, 0), (131, .iconst 1, 132, 0), (132, .iadd, 133, 0), (133, .putfield 123, 136, 0), (136, .aload_n 0, 137, 0), (137, .iconst 0, 138, 0), (138, .putfield 83, 141, 0), (141, .aload_n 0, 142, 0), (142, .invokevirtual 126, 145, 0), (145, .aload_n 0, 146, 0), (146, .invokevirtual 129, 149, 0), (149, .ireturn, 150, 0)]]  -- X8_blob
def jmt_142 : List (List jm_E) := [[(0, .aload_n 0, 1, 0), (1, .iconst 1, 2, 0), (2, .putfield 132, 5, 0), (5, .iconst 0, 6, 0), (6, .istore_n 1, 7, 0), (7, .iload_n 1, 8, 0), (8, .bipush 15, 10, 0), (10, .if_icmp .ge 16, 13, 26), (13, .aload_n 0, 14, 0), (14, .getfield 61, 17, 0), (17, .iload_n 1, 18, 0), (18, .iconst (-1), 19, 0), (19, .iastore, 20, 0), (20, .iinc 1 1, 23, 0), (23, .goto (-16), 26, 7), (26, .return_, 27, 0)]]  -- X8_changed
def jmt_143 : List (List jm_E) := [[(0, .aload_n 0, 1, 0), (1, .getfield 114, 4, 0), (4, .ifCond .ne 7, 7, 11), (7, .iconst 1, 8, 0), (8, .goto 4, 11, 12), (11, .iconst 0, 12, 0), (12, .ireturn, 13, 0)]]  -- X8_lacks
def jmt_144 : List (List jm_E) := [[(0, .iload_n 1, 1, 0), (1, .i2l, 2, 0), (2, .lconst 0, 3, 0), (3, .aload_n 0, 4, 0), (4, .getfield 114, 7, 0), (7, .aload_n 0, 8, 0), (8, .getfield 117, 11, 0), (11, .imul, 12, 0), (12, .iconst 1, 13, 0), (13, .isub, 14, 0), (14, .i2l, 15, 0), (15, .invokestatic 79, 18, 0), (18, .ireturn, 19, 0)]]  -- X8_isPlace
def jmt_145 : List (List jm_E) := [[(0, .aload_n 0, 1, 0), (1, .iload_n 1, 2, 0), (2, .invokevirtual 136, 5, 0), (5, .ifCond .eq 17, 8, 22), (8, .aload_n 0, 9, 0), (9, .getfield 13, 12, 0), (12, .iload_n 1, 13, 0), (13, .iaload, 14, 0), (14, .iconst (-1), 15, 0), (15, .if_icmp .eq 7, 18, 22), (18, .iconst 1, 19, 0), (19, .goto 4, 22, 23), (22, .iconst 0, 23, 0), (23, .ireturn, 24, 0)]]  -- X8_hasDot
def jmt_146 : List (List jm_E) := [[(0, .iload_n 1, 1, 0), (1, .i2l, 2, 0), (2, .lconst 0, 3, 0), (3, .aload_n 0, 4, 0), (4, .getfield 114, 7, 0), (7, .iconst 1, 8, 0), (8, .isub, 9, 0), (9, .i2l, 10, 0), (10, .invokestatic 79, 13, 0), (13, .ifCond .eq 35, 16, 48), (16, .iload_n 2, 17, 0), (17, .i2l, 18, 0), (18, .lconst 0, 19, 0), (19, .aload_n 0, 20, 0), (20, .getfield 117, 23, 0), (23, .iconst 1, 24, 0), (24, .isub, 25, 0), (25, .i2l, 26, 0), (26, .invokestatic 79, 29, 0), (29, .ifCond .eq 19, 32, 48)],
  [(32, .aload_n 0, 33, 0), (33, .getfield 13, 36, 0), (36, .iload_n 2, 37, 0), (37, .aload_n 0, 38, 0), (38, .getfield 114, 41, 0), (41, .imul, 42, 0), (42, .iload_n 1, 43, 0), (43, .iadd, 44, 0), (44, .iaload, 45, 0), (45, .goto 4, 48, 49), (48, .iconst (-1), 49, 0), (49, .ireturn, 50, 0)]]  -- X8_kindAt
def jmt_147 : List (List jm_E) := [[(0, .iconst 0, 1, 0), (1, .istore_n 1, 2, 0), (2, .iconst 0, 3, 0), (3, .istore_n 2, 4, 0), (4, .iload_n 2, 5, 0), (5, .aload_n 0, 6, 0), (6, .getfield 114, 9, 0), (9, .aload_n 0, 10, 0), (10, .getfield 117, 13, 0), (13, .imul, 14, 0), (14, .if_icmp .ge 27, 17, 41), (17, .iload_n 1, 18, 0), (18, .aload_n 0, 19, 0), (19, .getfield 13, 22, 0), (22, .iload_n 2, 23, 0), (23, .iaload, 24, 0), (24, .iconst (-1), 25, 0), (25, .if_icmp .ne 7, 28, 32), (28, .iconst 0, 29, 0), (29, .goto 4, 32, 33)],
  [(32, .iconst 1, 33, 0), (33, .iadd, 34, 0), (34, .istore_n 1, 35, 0), (35, .iinc 2 1, 38, 0), (38, .goto (-34), 41, 4), (41, .iload_n 1, 42, 0), (42, .ireturn, 43, 0)]]  -- X8_dotMany
def jmt_148 : List (List jm_E) := [[(0, .iload_n 3, 1, 0), (1, .tableswitch 115 0 2 #[27, 55, 83], 28, 0), (28, .aload_n 0, 29, 0), (29, .iload_n 1, 30, 0), (30, .iload_n 2, 31, 0), (31, .invokevirtual 139, 34, 0)],
  [(34, .iconst (-1), 35, 0), (35, .if_icmp .eq 19, 38, 54), (38, .aload_n 0, 39, 0), (39, .iload_n 1, 40, 0), (40, .iload_n 2, 41, 0), (41, .iconst 1, 42, 0), (42, .isub, 43, 0), (43, .invokevirtual 139, 46, 0), (46, .iconst (-1), 47, 0), (47, .if_icmp .ne 7, 50, 54), (50, .iconst 1, 51, 0), (51, .goto 4, 54, 55), (54, .iconst 0, 55, 0), (55, .ireturn, 56, 0), (56, .aload_n 0, 57, 0), (57, .iload_n 1, 58, 0), (58, .iconst 1, 59, 0), (59, .isub, 60, 0), (60, .iload_n 2, 61, 0), (61, .invokevirtual 139, 64, 0)],
  [(64, .iconst (-1), 65, 0), (65, .if_icmp .eq 17, 68, 82), (68, .aload_n 0, 69, 0), (69, .iload_n 1, 70, 0), (70, .iload_n 2, 71, 0), (71, .invokevirtual 139, 74, 0), (74, .iconst (-1), 75, 0), (75, .if_icmp .ne 7, 78, 82), (78, .iconst 1, 79, 0), (79, .goto 4, 82, 83), (82, .iconst 0, 83, 0), (83, .ireturn, 84, 0), (84, .aload_n 0, 85, 0), (85, .iload_n 1, 86, 0), (86, .iconst 1, 87, 0), (87, .isub, 88, 0), (88, .iload_n 2, 89, 0), (89, .iconst 1, 90, 0), (90, .isub, 91, 0), (91, .invokevirtual 139, 94, 0), (94, .iconst (-1), 95, 0), (95, .if_icmp .eq 19, 98, 114)],
  [(98, .aload_n 0, 99, 0), (99, .iload_n 1, 100, 0), (100, .iconst 1, 101, 0), (101, .isub, 102, 0), (102, .iload_n 2, 103, 0), (103, .invokevirtual 139, 106, 0), (106, .iconst (-1), 107, 0), (107, .if_icmp .ne 7, 110, 114), (110, .iconst 1, 111, 0), (111, .goto 4, 114, 115), (114, .iconst 0, 115, 0), (115, .ireturn, 116, 0), (116, .aload_n 0, 117, 0), (117, .iload_n 1, 118, 0), (118, .iload_n 2, 119, 0), (119, .iconst 1, 120, 0), (120, .isub, 121, 0), (121, .invokevirtual 139, 124, 0), (124, .iconst (-1), 125, 0), (125, .if_icmp .eq 21, 128, 146)],
  [(128, .aload_n 0, 129, 0), (129, .iload_n 1, 130, 0), (130, .iconst 1, 131, 0), (131, .isub, 132, 0), (132, .iload_n 2, 133, 0), (133, .iconst 1, 134, 0), (134, .isub, 135, 0), (135, .invokevirtual 139, 138, 0), (138, .iconst (-1), 139, 0), (139, .if_icmp .ne 7, 142, 146), (142, .iconst 1, 143, 0), (143, .goto 4, 146, 147), (146, .iconst 0, 147, 0), (147, .ireturn, 148, 0)]]  -- X8_isEdge
def jmt_149 : List (List jm_E) := [[(0, .iload_n 0, 1, 0), (1, .ifCond .ne 7, 4, 8), (4, .iconst 1, 5, 0), (5, .goto 13, 8, 18), (8, .iload_n 0, 9, 0), (9, .iconst 2, 10, 0), (10, .if_icmp .ne 7, 13, 17), (13, .iconst (-1), 14, 0), (14, .goto 4, 17, 18), (17, .iconst 0, 18, 0), (18, .ireturn, 19, 0)]]  -- X8_stepX
def jmt_150 : List (List jm_E) := [[(0, .iload_n 0, 1, 0), (1, .iconst 1, 2, 0), (2, .if_icmp .ne 7, 5, 9), (5, .iconst 1, 6, 0), (6, .goto 13, 9, 19), (9, .iload_n 0, 10, 0), (10, .iconst 3, 11, 0), (11, .if_icmp .ne 7, 14, 18), (14, .iconst (-1), 15, 0), (15, .goto 4, 18, 19), (18, .iconst 0, 19, 0), (19, .ireturn, 20, 0)]]  -- X8_stepY
def jmt_151 : List (List jm_E) := [[(0, .iload_n 3, 1, 0), (1, .iconst 1, 2, 0), (2, .iadd, 3, 0), (3, .iconst 4, 4, 0), (4, .irem, 5, 0), (5, .istore 4, 7, 0), (7, .iload_n 3, 8, 0), (8, .iconst 3, 9, 0), (9, .iadd, 10, 0), (10, .iconst 4, 11, 0), (11, .irem, 12, 0), (12, .istore 5, 14, 0), (14, .aload_n 0, 15, 0), (15, .iload_n 1, 16, 0), (16, .iload_n 2, 17, 0), (17, .iload 4, 19, 0), (19, .invokevirtual 143, 22, 0), (22, .ifCond .eq 8, 25, 30), (25, .iload 4, 27, 0), (27, .goto 19, 30, 46), (30, .aload_n 0, 31, 0), (31, .iload_n 1, 32, 0)],
  [(32, .iload_n 2, 33, 0), (33, .iload_n 3, 34, 0), (34, .invokevirtual 143, 37, 0), (37, .ifCond .eq 7, 40, 44), (40, .iload_n 3, 41, 0), (41, .goto 5, 44, 46), (44, .iload 5, 46, 0), (46, .ireturn, 47, 0)]]  -- X8_nextWay
def jmt_152 : List (List jm_E) := [[(0, .iconst 0, 1, 0), (1, .istore 4, 3, 0), (3, .iconst 0, 4, 0), (4, .istore 5, 6, 0), (6, .iload 5, 8, 0), (8, .iconst 4, 9, 0), (9, .if_icmp .ge 39, 12, 48), (12, .iload 4, 14, 0), (14, .aload_n 0, 15, 0), (15, .iload_n 1, 16, 0), (16, .iload 5, 18, 0), (18, .iconst 2, 19, 0), (19, .irem, 20, 0), (20, .isub, 21, 0), (21, .iload_n 2, 22, 0), (22, .iload 5, 24, 0), (24, .iconst 2, 25, 0), (25, .idiv, 26, 0), (26, .isub, 27, 0), (27, .invokevirtual 139, 30, 0), (30, .iload_n 3, 31, 0), (31, .if_icmp .ne 7, 34, 38)],
  [(34, .iconst 1, 35, 0), (35, .goto 4, 38, 39), (38, .iconst 0, 39, 0), (39, .iadd, 40, 0), (40, .istore 4, 42, 0), (42, .iinc 5 1, 45, 0), (45, .goto (-39), 48, 6), (48, .iload 4, 50, 0), (50, .ireturn, 51, 0)]]  -- X8_touches
def jmt_153 : List (List jm_E) := [[(0, .aload_n 0, 1, 0), (1, .getfield 22, 4, 0), (4, .iload_n 1, 5, 0), (5, .iload_n 2, 6, 0), (6, .iastore, 7, 0), (7, .aload_n 0, 8, 0), (8, .getfield 25, 11, 0), (11, .iload_n 1, 12, 0), (12, .iload_n 3, 13, 0), (13, .iastore, 14, 0), (14, .aload_n 0, 15, 0), (15, .getfield 28, 18, 0), (18, .iload_n 1, 19, 0), (19, .aload_n 0, 20, 0), (20, .iload_n 2, 21, 0), (21, .iload_n 3, 22, 0), (22, .iconst 3, 23, 0), (23, .invokevirtual 147, 26, 0), (26, .ifCond .le 7, 29, 33), (29, .iconst 0, 30, 0), (30, .goto 18, 33, 48)],
  [(33, .aload_n 0, 34, 0), (34, .iload_n 2, 35, 0), (35, .iload_n 3, 36, 0), (36, .iconst 4, 37, 0), (37, .invokevirtual 147, 40, 0), (40, .ifCond .le 7, 43, 47), (43, .iconst 2, 44, 0), (44, .goto 4, 47, 48), (47, .iconst 1, 48, 0), (48, .iastore, 49, 0), (49, .aload_n 0, 50, 0), (50, .getfield 31, 53, 0), (53, .iload_n 1, 54, 0), (54, .aload_n 0, 55, 0), (55, .iload_n 2, 56, 0), (56, .iload_n 3, 57, 0), (57, .iconst 2, 58, 0), (58, .invokevirtual 147, 61, 0), (61, .ifCond .gt 18, 64, 79)],
  [(64, .iload 4, 66, 0), (66, .ifCond .eq 17, 69, 83), (69, .aload_n 0, 70, 0), (70, .iload_n 2, 71, 0), (71, .iload_n 3, 72, 0), (72, .iconst 1, 73, 0), (73, .invokevirtual 147, 76, 0), (76, .ifCond .le 7, 79, 83), (79, .iconst 1, 80, 0), (80, .goto 4, 83, 84), (83, .iconst 0, 84, 0), (84, .iastore, 85, 0), (85, .return_, 86, 0)]]  -- X8_layPoint
def jmt_154 : List (List jm_E) := [[(0, .aload_n 0, 1, 0), (1, .getfield 151, 4, 0), (4, .ifCond .ne 7, 7, 11), (7, .iconst 0, 8, 0), (8, .goto 26, 11, 34), (11, .aload_n 0, 12, 0), (12, .getfield 16, 15, 0), (15, .aload_n 0, 16, 0), (16, .getfield 151, 19, 0), (19, .iconst 1, 20, 0), (20, .isub, 21, 0), (21, .iaload, 22, 0), (22, .aload_n 0, 23, 0), (23, .getfield 19, 26, 0), (26, .aload_n 0, 27, 0), (27, .getfield 151, 30, 0), (30, .iconst 1, 31, 0), (31, .isub, 32, 0)],
  [(32, .iaload, 33, 0), (33, .iadd, 34, 0), (34, .istore 4, 36, 0), (36, .aload_n 0, 37, 0), (37, .getfield 16, 40, 0), (40, .aload_n 0, 41, 0), (41, .getfield 151, 44, 0), (44, .iload 4, 46, 0), (46, .iastore, 47, 0), (47, .iload_n 1, 48, 0), (48, .istore 5, 50, 0), (50, .iload_n 2, 51, 0), (51, .istore 6, 53, 0), (53, .iload_n 3, 54, 0), (54, .istore 7, 56, 0), (56, .iconst 0, 57, 0), (57, .istore 8, 59, 0), (59, .aload_n 0, 60, 0), (60, .getfield 37, 63, 0), (63, .iconst 4, 64, 0)],
  [(64, .bipush 6, 66, 0), (66, .iload 5, 68, 0), (68, .imul, 69, 0), (69, .iload 6, 71, 0), (71, .iadd, 72, 0), (72, .imul, 73, 0), (73, .iload 7, 75, 0), (75, .iadd, 76, 0), (76, .iaload, 77, 0), (77, .ifCond .ne 84, 80, 161), (80, .aload_n 0, 81, 0), (81, .getfield 37, 84, 0), (84, .iconst 4, 85, 0), (85, .bipush 6, 87, 0), (87, .iload 5, 89, 0), (89, .imul, 90, 0), (90, .iload 6, 92, 0), (92, .iadd, 93, 0), (93, .imul, 94, 0), (94, .iload 7, 96, 0)],
  [(96, .iadd, 97, 0), (97, .iconst 1, 98, 0), (98, .iastore, 99, 0), (99, .aload_n 0, 100, 0), (100, .getfield 22, 103, 0), (103, .iload 4, 105, 0), (105, .iload 8, 107, 0), (107, .iadd, 108, 0), (108, .iload 5, 110, 0), (110, .iastore, 111, 0), (111, .aload_n 0, 112, 0), (112, .getfield 25, 115, 0), (115, .iload 4, 117, 0), (117, .iload 8, 119, 0), (119, .iadd, 120, 0), (120, .iload 6, 122, 0), (122, .iastore, 123, 0), (123, .iinc 8 1, 126, 0), (126, .iload 5, 128, 0)],
  [(128, .iload 7, 130, 0), (130, .invokestatic 154, 133, 0), (133, .iadd, 134, 0), (134, .istore 5, 136, 0), (136, .iload 6, 138, 0), (138, .iload 7, 140, 0), (140, .invokestatic 157, 143, 0), (143, .iadd, 144, 0), (144, .istore 6, 146, 0), (146, .aload_n 0, 147, 0), (147, .iload 5, 149, 0), (149, .iload 6, 151, 0), (151, .iload 7, 153, 0), (153, .invokevirtual 160, 156, 0), (156, .istore 7, 158, 0), (158, .goto (-99), 161, 59)],
  [(161, .aload_n 0, 162, 0), (162, .getfield 19, 165, 0), (165, .aload_n 0, 166, 0), (166, .getfield 151, 169, 0), (169, .iload 8, 171, 0), (171, .iastore, 172, 0), (172, .iconst 0, 173, 0), (173, .istore 9, 175, 0), (175, .iload 9, 177, 0), (177, .iload 8, 179, 0), (179, .if_icmp .ge 152, 182, 331), (182, .iload 4, 184, 0), (184, .iload 9, 186, 0), (186, .iload 8, 188, 0), (188, .iadd, 189, 0), (189, .iconst 1, 190, 0), (190, .isub, 191, 0), (191, .iload 8, 193, 0)],
  [(193, .irem, 194, 0), (194, .iadd, 195, 0), (195, .istore 10, 197, 0), (197, .iload 4, 199, 0), (199, .iload 9, 201, 0), (201, .iconst 1, 202, 0), (202, .iadd, 203, 0), (203, .iload 8, 205, 0), (205, .irem, 206, 0), (206, .iadd, 207, 0), (207, .istore 11, 209, 0), (209, .aload_n 0, 210, 0), (210, .getfield 22, 213, 0), (213, .iload 11, 215, 0), (215, .iaload, 216, 0), (216, .aload_n 0, 217, 0), (217, .getfield 22, 220, 0), (220, .iload 4, 222, 0), (222, .iload 9, 224, 0)],
  [(224, .iadd, 225, 0), (225, .iaload, 226, 0), (226, .isub, 227, 0), (227, .aload_n 0, 228, 0), (228, .getfield 22, 231, 0), (231, .iload 4, 233, 0), (233, .iload 9, 235, 0), (235, .iadd, 236, 0), (236, .iaload, 237, 0), (237, .aload_n 0, 238, 0), (238, .getfield 22, 241, 0), (241, .iload 10, 243, 0), (243, .iaload, 244, 0), (244, .isub, 245, 0), (245, .if_icmp .ne 42, 248, 287), (248, .aload_n 0, 249, 0), (249, .getfield 25, 252, 0), (252, .iload 11, 254, 0), (254, .iaload, 255, 0), (255, .aload_n 0, 256, 0)],
  [(256, .getfield 25, 259, 0), (259, .iload 4, 261, 0), (261, .iload 9, 263, 0), (263, .iadd, 264, 0), (264, .iaload, 265, 0), (265, .isub, 266, 0), (266, .aload_n 0, 267, 0), (267, .getfield 25, 270, 0), (270, .iload 4, 272, 0), (272, .iload 9, 274, 0), (274, .iadd, 275, 0), (275, .iaload, 276, 0), (276, .aload_n 0, 277, 0), (277, .getfield 25, 280, 0), (280, .iload 10, 282, 0), (282, .iaload, 283, 0), (283, .isub, 284, 0), (284, .if_icmp .eq 7, 287, 291), (287, .iconst 1, 288, 0)],
  [(288, .goto 4, 291, 292), (291, .iconst 0, 292, 0), (292, .istore 12, 294, 0), (294, .aload_n 0, 295, 0), (295, .iload 4, 297, 0), (297, .iload 9, 299, 0), (299, .iadd, 300, 0), (300, .aload_n 0, 301, 0), (301, .getfield 22, 304, 0), (304, .iload 4, 306, 0), (306, .iload 9, 308, 0), (308, .iadd, 309, 0), (309, .iaload, 310, 0), (310, .aload_n 0, 311, 0), (311, .getfield 25, 314, 0), (314, .iload 4, 316, 0), (316, .iload 9, 318, 0), (318, .iadd, 319, 0), (319, .iaload, 320, 0)],
  [(320, .iload 12, 322, 0), (322, .invokevirtual 163, 325, 0), (325, .iinc 9 1, 328, 0), (328, .goto (-153), 331, 175), (331, .aload_n 0, 332, 0), (332, .dup, 333, 0), (333, .getfield 151, 336, 0), (336, .iconst 1, 337, 0), (337, .iadd, 338, 0), (338, .putfield 151, 341, 0), (341, .return_, 342, 0)]]  -- X8_walk
def jmt_155 : List (List jm_E) := [[(0, .aload_n 0, 1, 0), (1, .iconst 0, 2, 0), (2, .putfield 151, 5, 0), (5, .iconst 0, 6, 0), (6, .istore_n 1, 7, 0), (7, .iload_n 1, 8, 0), (8, .sipush 144, 11, 0), (11, .if_icmp .ge 16, 14, 27), (14, .aload_n 0, 15, 0), (15, .getfield 37, 18, 0), (18, .iload_n 1, 19, 0), (19, .iconst 0, 20, 0), (20, .iastore, 21, 0), (21, .iinc 1 1, 24, 0), (24, .goto (-17), 27, 7), (27, .iconst 0, 28, 0), (28, .istore_n 1, 29, 0), (29, .iload_n 1, 30, 0), (30, .bipush 36, 32, 0)],
  [(32, .if_icmp .ge 114, 35, 146), (35, .iconst 0, 36, 0), (36, .istore_n 2, 37, 0), (37, .iload_n 2, 38, 0), (38, .iconst 4, 39, 0), (39, .if_icmp .ge 101, 42, 140), (42, .iload_n 2, 43, 0), (43, .ifCond .ne 7, 46, 50), (46, .iconst 2, 47, 0), (47, .goto 22, 50, 69), (50, .iload_n 2, 51, 0), (51, .iconst 1, 52, 0), (52, .if_icmp .ne 7, 55, 59), (55, .iconst 3, 56, 0), (56, .goto 13, 59, 69), (59, .iload_n 2, 60, 0), (60, .iconst 2, 61, 0), (61, .if_icmp .ne 7, 64, 68)],
  [(64, .iconst 1, 65, 0), (65, .goto 4, 68, 69), (68, .iconst 0, 69, 0), (69, .istore_n 3, 70, 0), (70, .iload_n 1, 71, 0), (71, .bipush 6, 73, 0), (73, .idiv, 74, 0), (74, .istore 4, 76, 0), (76, .iload_n 1, 77, 0), (77, .bipush 6, 79, 0), (79, .irem, 80, 0), (80, .istore 5, 82, 0), (82, .iload 4, 84, 0), (84, .aload_n 0, 85, 0), (85, .getfield 114, 88, 0), (88, .if_icmp .gt 46, 91, 134), (91, .iload 5, 93, 0), (93, .aload_n 0, 94, 0), (94, .getfield 117, 97, 0)],
  [(97, .if_icmp .gt 37, 100, 134), (100, .aload_n 0, 101, 0), (101, .iload 4, 103, 0), (103, .iload 5, 105, 0), (105, .iload_n 3, 106, 0), (106, .invokevirtual 143, 109, 0), (109, .ifCond .eq 25, 112, 134), (112, .aload_n 0, 113, 0), (113, .getfield 37, 116, 0), (116, .iconst 4, 117, 0), (117, .iload_n 1, 118, 0), (118, .imul, 119, 0), (119, .iload_n 3, 120, 0), (120, .iadd, 121, 0), (121, .iaload, 122, 0), (122, .ifCond .ne 12, 125, 134), (125, .aload_n 0, 126, 0), (126, .iload 4, 128, 0)],
  [(128, .iload 5, 130, 0), (130, .iload_n 3, 131, 0), (131, .invokevirtual 167, 134, 0), (134, .iinc 2 1, 137, 0), (137, .goto (-100), 140, 37), (140, .iinc 1 1, 143, 0), (143, .goto (-114), 146, 29), (146, .return_, 147, 0)]]  -- X8_layOutlines
def jmt_156 : List (List jm_E) := [[(0, .aload_n 0, 1, 0), (1, .getfield 22, 4, 0), (4, .iload_n 3, 5, 0), (5, .iaload, 6, 0), (6, .aload_n 0, 7, 0), (7, .getfield 22, 10, 0), (10, .iload_n 1, 11, 0), (11, .iaload, 12, 0), (12, .isub, 13, 0), (13, .aload_n 0, 14, 0), (14, .getfield 25, 17, 0), (17, .iload_n 2, 18, 0), (18, .iaload, 19, 0), (19, .aload_n 0, 20, 0), (20, .getfield 25, 23, 0), (23, .iload_n 1, 24, 0), (24, .iaload, 25, 0), (25, .isub, 26, 0), (26, .imul, 27, 0), (27, .aload_n 0, 28, 0), (28, .getfield 25, 31, 0), (31, .iload_n 3, 32, 0)],
  [(32, .iaload, 33, 0), (33, .aload_n 0, 34, 0), (34, .getfield 25, 37, 0), (37, .iload_n 1, 38, 0), (38, .iaload, 39, 0), (39, .isub, 40, 0), (40, .aload_n 0, 41, 0), (41, .getfield 22, 44, 0), (44, .iload_n 2, 45, 0), (45, .iaload, 46, 0), (46, .aload_n 0, 47, 0), (47, .getfield 22, 50, 0), (50, .iload_n 1, 51, 0), (51, .iaload, 52, 0), (52, .isub, 53, 0), (53, .imul, 54, 0), (54, .isub, 55, 0), (55, .ireturn, 56, 0)]]  -- X8_cross
def jmt_157 : List (List jm_E) := [[(0, .aload_n 0, 1, 0), (1, .getfield 16, 4, 0), (4, .iload_n 1, 5, 0), (5, .iaload, 6, 0), (6, .istore 4, 8, 0), (8, .aload_n 0, 9, 0), (9, .getfield 19, 12, 0), (12, .iload_n 1, 13, 0), (13, .iaload, 14, 0), (14, .istore 5, 16, 0), (16, .iload 4, 18, 0), (18, .iload_n 2, 19, 0), (19, .iadd, 20, 0), (20, .istore 6, 22, 0), (22, .iload 4, 24, 0), (24, .iload_n 3, 25, 0), (25, .iadd, 26, 0), (26, .istore 7, 28, 0), (28, .aload_n 0, 29, 0), (29, .getfield 22, 32, 0)],
  [(32, .iload 7, 34, 0), (34, .iaload, 35, 0), (35, .aload_n 0, 36, 0), (36, .getfield 22, 39, 0), (39, .iload 6, 41, 0), (41, .iaload, 42, 0), (42, .isub, 43, 0), (43, .invokestatic 171, 46, 0), (46, .istore 8, 48, 0), (48, .aload_n 0, 49, 0), (49, .getfield 25, 52, 0), (52, .iload 7, 54, 0), (54, .iaload, 55, 0), (55, .aload_n 0, 56, 0), (56, .getfield 25, 59, 0), (59, .iload 6, 61, 0), (61, .iaload, 62, 0), (62, .isub, 63, 0), (63, .invokestatic 171, 66, 0)],
  [(66, .istore 9, 68, 0), (68, .iload 8, 70, 0), (70, .iload 9, 72, 0), (72, .iadd, 73, 0), (73, .ifCond .ne 5, 76, 78), (76, .iconst (-1), 77, 0), (77, .ireturn, 78, 0), (78, .lconst 0, 79, 0), (79, .lstore 10, 81, 0), (81, .iload_n 2, 82, 0), (82, .iconst 1, 83, 0), (83, .iadd, 84, 0), (84, .iload 5, 86, 0), (86, .irem, 87, 0), (87, .istore 12, 89, 0), (89, .iload 12, 91, 0), (91, .iload_n 3, 92, 0), (92, .if_icmp .eq 90, 95, 182), (95, .iload 4, 97, 0)],
  [(97, .iload 12, 99, 0), (99, .iadd, 100, 0), (100, .istore 13, 102, 0), (102, .aload_n 0, 103, 0), (103, .iload 6, 105, 0), (105, .iload 7, 107, 0), (107, .iload 13, 109, 0), (109, .invokevirtual 174, 112, 0), (112, .istore 14, 114, 0), (114, .aload_n 0, 115, 0), (115, .getfield 31, 118, 0), (118, .iload 13, 120, 0), (120, .iaload, 121, 0), (121, .iconst 1, 122, 0), (122, .if_icmp .eq 35, 125, 157), (125, .iconst 2, 126, 0), (126, .iload 14, 128, 0)],
  [(128, .invokestatic 171, 131, 0), (131, .imul, 132, 0), (132, .aload_n 0, 133, 0), (133, .getfield 28, 136, 0), (136, .iload 13, 138, 0), (138, .iaload, 139, 0), (139, .iload 8, 141, 0), (141, .iload 9, 143, 0), (143, .if_icmp .le 8, 146, 151), (146, .iload 8, 148, 0), (148, .goto 5, 151, 153), (151, .iload 9, 153, 0), (153, .imul, 154, 0), (154, .if_icmp .le 5, 157, 159), (157, .iconst (-1), 158, 0), (158, .ireturn, 159, 0), (159, .lload 10, 161, 0)],
  [(161, .iload 14, 163, 0), (163, .iload 14, 165, 0), (165, .imul, 166, 0), (166, .i2l, 167, 0), (167, .ladd, 168, 0), (168, .lstore 10, 170, 0), (170, .iload 12, 172, 0), (172, .iconst 1, 173, 0), (173, .iadd, 174, 0), (174, .iload 5, 176, 0), (176, .irem, 177, 0), (177, .istore 12, 179, 0), (179, .goto (-90), 182, 89), (182, .lload 10, 184, 0), (184, .iload 8, 186, 0), (186, .iload 8, 188, 0), (188, .imul, 189, 0), (189, .iload 9, 191, 0), (191, .iload 9, 193, 0)],
  [(193, .imul, 194, 0), (194, .iadd, 195, 0), (195, .i2l, 196, 0), (196, .invokestatic 177, 199, 0), (199, .ireturn, 200, 0)]]  -- X8_bitsBetween
def jmt_158 : List (List jm_E) := [[(0, .lload_n 0, 1, 0), (1, .lconst 0, 2, 0), (2, .lcmp, 3, 0), (3, .ifCond .ne 5, 6, 8), (6, .iconst 0, 7, 0), (7, .ireturn, 8, 0), (8, .lload_n 0, 9, 0), (9, .lstore 4, 11, 0), (11, .iconst 0, 12, 0), (12, .istore 6, 14, 0), (14, .lload 4, 16, 0), (16, .lload_n 2, 17, 0), (17, .ldc2_w 181, 20, 0), (20, .lmul, 21, 0), (21, .lcmp, 22, 0), (22, .ifCond .ge 17, 25, 39), (25, .lload 4, 27, 0), (27, .ldc2_w 183, 30, 0), (30, .lmul, 31, 0), (31, .lstore 4, 33, 0)],
  [(33, .iinc 6 (-1), 36, 0), (36, .goto (-22), 39, 14), (39, .lload 4, 41, 0), (41, .lload_n 2, 42, 0), (42, .ldiv, 43, 0), (43, .iload 6, 45, 0), (45, .lload 4, 47, 0), (47, .lload_n 2, 48, 0), (48, .lrem, 49, 0), (49, .lconst 0, 50, 0), (50, .lcmp, 51, 0), (51, .ifCond .eq 7, 54, 58), (54, .iconst 1, 55, 0), (55, .goto 4, 58, 59), (58, .iconst 0, 59, 0), (59, .invokestatic 185, 62, 0), (62, .ireturn, 63, 0)]]  -- X8_fraction
def jmt_159 : List (List jm_E) := [[(0, .lload_n 0, 1, 0), (1, .lstore 4, 3, 0), (3, .iload_n 2, 4, 0), (4, .istore 6, 6, 0), (6, .lconst 1, 7, 0), (7, .lstore 7, 9, 0), (9, .lload 4, 11, 0), (11, .lload 7, 13, 0), (13, .ldiv, 14, 0), (14, .ldc2_w 189, 17, 0), (17, .lcmp, 18, 0), (18, .ifCond .lt 17, 21, 35), (21, .lload 7, 23, 0), (23, .ldc2_w 183, 26, 0), (26, .lmul, 27, 0), (27, .lstore 7, 29, 0), (29, .iinc 6 1, 32, 0)],
  [(32, .goto (-23), 35, 9), (35, .lload 4, 37, 0), (37, .lload 7, 39, 0), (39, .lrem, 40, 0), (40, .lstore 9, 42, 0), (42, .lload 4, 44, 0), (44, .lload 7, 46, 0), (46, .ldiv, 47, 0), (47, .lstore 11, 49, 0), (49, .ldc2_w 183, 52, 0), (52, .lload 9, 54, 0), (54, .lmul, 55, 0), (55, .lstore 13, 57, 0), (57, .lload 7, 59, 0), (59, .lconst 1, 60, 0), (60, .lcmp, 61, 0), (61, .ifCond .le 38, 64, 99)],
  [(64, .lload 13, 66, 0), (66, .lload 7, 68, 0), (68, .lcmp, 69, 0), (69, .ifCond .gt 26, 72, 95), (72, .lload 13, 74, 0), (74, .lload 7, 76, 0), (76, .lcmp, 77, 0), (77, .ifCond .ne 22, 80, 99), (80, .iload_n 3, 81, 0), (81, .ifCond .ne 14, 84, 95), (84, .lload 11, 86, 0), (86, .ldc2_w 183, 89, 0), (89, .lrem, 90, 0), (90, .lconst 1, 91, 0), (91, .lcmp, 92, 0), (92, .ifCond .ne 7, 95, 99), (95, .iconst 1, 96, 0)],
  [(96, .goto 4, 99, 100), (99, .iconst 0, 100, 0), (100, .istore 15, 102, 0), (102, .lload 11, 104, 0), (104, .iload 15, 106, 0), (106, .ifCond .eq 7, 109, 113), (109, .lconst 1, 110, 0), (110, .goto 4, 113, 114), (113, .lconst 0, 114, 0), (114, .ladd, 115, 0), (115, .lstore 11, 117, 0), (117, .lload 11, 119, 0), (119, .ldc2_w 189, 122, 0), (122, .lcmp, 123, 0), (123, .ifCond .ne 11, 126, 134), (126, .ldc2_w 191, 129, 0)],
  [(129, .lstore 11, 131, 0), (131, .iinc 6 1, 134, 0), (134, .iload 6, 136, 0), (136, .i2l, 137, 0), (137, .ldc2_w 193, 140, 0), (140, .ladd, 141, 0), (141, .ldc2_w 191, 144, 0), (144, .lmul, 145, 0), (145, .lload 11, 147, 0), (147, .ladd, 148, 0), (148, .ldc2_w 191, 151, 0), (151, .lsub, 152, 0), (152, .l2i, 153, 0), (153, .ireturn, 154, 0)]]  -- X8_near
def jmt_160 : List (List jm_E) := [[(0, .ldc2_w 191, 3, 0), (3, .iload_n 0, 4, 0), (4, .ldc 195, 6, 0), (6, .irem, 7, 0), (7, .i2l, 8, 0), (8, .ladd, 9, 0), (9, .lreturn, 10, 0)]]  -- X8_wholeOf
def jmt_161 : List (List jm_E) := [[(0, .iload_n 0, 1, 0), (1, .ifCond .eq 7, 4, 8), (4, .iload_n 1, 5, 0), (5, .ifCond .ne 7, 8, 12), (8, .iload_n 0, 9, 0), (9, .iload_n 1, 10, 0), (10, .iadd, 11, 0), (11, .ireturn, 12, 0), (12, .iload_n 0, 13, 0), (13, .iload_n 1, 14, 0), (14, .if_icmp .ge 7, 17, 21), (17, .iload_n 0, 18, 0), (18, .goto 4, 21, 22), (21, .iload_n 1, 22, 0), (22, .istore_n 2, 23, 0), (23, .iload_n 0, 24, 0), (24, .iload_n 1, 25, 0), (25, .if_icmp .ge 7, 28, 32), (28, .iload_n 1, 29, 0), (29, .goto 4, 32, 33)],
  [(32, .iload_n 0, 33, 0), (33, .istore_n 3, 34, 0), (34, .iload_n 3, 35, 0), (35, .ldc 195, 37, 0), (37, .idiv, 38, 0), (38, .iload_n 2, 39, 0), (39, .ldc 195, 41, 0), (41, .idiv, 42, 0), (42, .isub, 43, 0), (43, .istore 4, 45, 0), (45, .iload 4, 47, 0), (47, .bipush 30, 49, 0), (49, .if_icmp .le 5, 52, 54), (52, .iload_n 3, 53, 0), (53, .ireturn, 54, 0), (54, .iload_n 3, 55, 0), (55, .invokestatic 196, 58, 0), (58, .lstore 5, 60, 0), (60, .iconst 0, 61, 0), (61, .istore 7, 63, 0), (63, .iload 7, 65, 0)],
  [(65, .iload 4, 67, 0), (67, .if_icmp .ge 17, 70, 84), (70, .lload 5, 72, 0), (72, .ldc2_w 183, 75, 0), (75, .lmul, 76, 0), (76, .lstore 5, 78, 0), (78, .iinc 7 1, 81, 0), (81, .goto (-18), 84, 63), (84, .lload 5, 86, 0), (86, .iload_n 2, 87, 0), (87, .invokestatic 196, 90, 0), (90, .ladd, 91, 0), (91, .lstore 5, 93, 0), (93, .lload 5, 95, 0), (95, .iload_n 2, 96, 0)],
  [(96, .ldc 195, 98, 0), (98, .idiv, 99, 0), (99, .sipush 150, 102, 0), (102, .isub, 103, 0), (103, .iconst 0, 104, 0), (104, .invokestatic 185, 107, 0), (107, .ireturn, 108, 0)]]  -- X8_added
def jmt_162 : List (List jm_E) := [[(0, .aload_n 0, 1, 0), (1, .getfield 19, 4, 0), (4, .iload_n 1, 5, 0), (5, .iaload, 6, 0), (6, .istore_n 2, 7, 0), (7, .iconst 0, 8, 0), (8, .istore_n 3, 9, 0), (9, .iload_n 3, 10, 0), (10, .iload_n 2, 11, 0), (11, .if_icmp .ge 55, 14, 66), (14, .iconst 0, 15, 0), (15, .istore 4, 17, 0), (17, .iload 4, 19, 0), (19, .iload_n 2, 20, 0), (20, .if_icmp .ge 40, 23, 60), (23, .aload_n 0, 24, 0), (24, .getfield 40, 27, 0), (27, .sipush 128, 30, 0), (30, .iload_n 3, 31, 0), (31, .imul, 32, 0)],
  [(32, .iload 4, 34, 0), (34, .iadd, 35, 0), (35, .iload_n 3, 36, 0), (36, .iload 4, 38, 0), (38, .if_icmp .ne 7, 41, 45), (41, .iconst (-1), 42, 0), (42, .goto 11, 45, 53), (45, .aload_n 0, 46, 0), (46, .iload_n 1, 47, 0), (47, .iload_n 3, 48, 0), (48, .iload 4, 50, 0), (50, .invokevirtual 200, 53, 0), (53, .iastore, 54, 0), (54, .iinc 4 1, 57, 0), (57, .goto (-40), 60, 17), (60, .iinc 3 1, 63, 0), (63, .goto (-54), 66, 9)],
  [(66, .return_, 67, 0)]]  -- X8_layPens
def jmt_163 : List (List jm_E) := [[(0, .iload_n 1, 1, 0), (1, .iconst 1, 2, 0), (2, .iadd, 3, 0), (3, .istore 4, 5, 0), (5, .iload 4, 7, 0), (7, .iload_n 2, 8, 0), (8, .if_icmp .ge 135, 11, 143), (11, .aload_n 0, 12, 0), (12, .getfield 46, 15, 0), (15, .iload 4, 17, 0), (17, .iconst (-1), 18, 0), (18, .iastore, 19, 0), (19, .iload_n 1, 20, 0), (20, .istore 5, 22, 0), (22, .iload 5, 24, 0), (24, .iload 4, 26, 0), (26, .if_icmp .ge 111, 29, 137), (29, .aload_n 0, 30, 0), (30, .getfield 43, 33, 0)],
  [(33, .iload 5, 35, 0), (35, .iaload, 36, 0), (36, .iconst (-1), 37, 0), (37, .if_icmp .eq 94, 40, 131), (40, .aload_n 0, 41, 0), (41, .getfield 40, 44, 0), (44, .sipush 128, 47, 0), (47, .iload 5, 49, 0), (49, .imul, 50, 0), (50, .iload 4, 52, 0), (52, .iadd, 53, 0), (53, .iaload, 54, 0), (54, .iconst (-1), 55, 0), (55, .if_icmp .eq 76, 58, 131), (58, .aload_n 0, 59, 0), (59, .getfield 43, 62, 0), (62, .iload 5, 64, 0)],
  [(64, .iaload, 65, 0), (65, .aload_n 0, 66, 0), (66, .getfield 40, 69, 0), (69, .sipush 128, 72, 0), (72, .iload 5, 74, 0), (74, .imul, 75, 0), (75, .iload 4, 77, 0), (77, .iadd, 78, 0), (78, .iaload, 79, 0), (79, .invokestatic 203, 82, 0), (82, .istore 6, 84, 0), (84, .aload_n 0, 85, 0), (85, .getfield 46, 88, 0), (88, .iload 4, 90, 0), (90, .iaload, 91, 0), (91, .iconst (-1), 92, 0), (92, .if_icmp .eq 15, 95, 107), (95, .iload 6, 97, 0)],
  [(97, .aload_n 0, 98, 0), (98, .getfield 46, 101, 0), (101, .iload 4, 103, 0), (103, .iaload, 104, 0), (104, .if_icmp .ge 27, 107, 131), (107, .aload_n 0, 108, 0), (108, .getfield 46, 111, 0), (111, .iload 4, 113, 0), (113, .iload 6, 115, 0), (115, .iastore, 116, 0), (116, .aload_n 0, 117, 0), (117, .getfield 49, 120, 0), (120, .sipush 128, 123, 0), (123, .iload_n 3, 124, 0), (124, .imul, 125, 0), (125, .iload 4, 127, 0), (127, .iadd, 128, 0)],
  [(128, .iload 5, 130, 0), (130, .iastore, 131, 0), (131, .iinc 5 1, 134, 0), (134, .goto (-112), 137, 22), (137, .iinc 4 1, 140, 0), (140, .goto (-135), 143, 5), (143, .iload_n 1, 144, 0), (144, .iconst 1, 145, 0), (145, .iadd, 146, 0), (146, .istore 4, 148, 0), (148, .iload 4, 150, 0), (150, .iload_n 2, 151, 0), (151, .if_icmp .ge 23, 154, 174), (154, .aload_n 0, 155, 0), (155, .getfield 43, 158, 0), (158, .iload 4, 160, 0)],
  [(160, .aload_n 0, 161, 0), (161, .getfield 46, 164, 0), (164, .iload 4, 166, 0), (166, .iaload, 167, 0), (167, .iastore, 168, 0), (168, .iinc 4 1, 171, 0), (171, .goto (-23), 174, 148), (174, .aload_n 0, 175, 0), (175, .getfield 43, 178, 0), (178, .iload_n 1, 179, 0), (179, .iconst (-1), 180, 0), (180, .iastore, 181, 0), (181, .return_, 182, 0)]]  -- X8_step
def jmt_164 : List (List jm_E) := [[(0, .iconst (-1), 1, 0), (1, .istore_n 3, 2, 0), (2, .iload_n 1, 3, 0), (3, .iconst 1, 4, 0), (4, .iadd, 5, 0), (5, .istore 4, 7, 0), (7, .iload 4, 9, 0), (9, .iload_n 2, 10, 0), (10, .if_icmp .ge 82, 13, 92), (13, .aload_n 0, 14, 0), (14, .getfield 43, 17, 0), (17, .iload 4, 19, 0), (19, .iaload, 20, 0), (20, .iconst (-1), 21, 0), (21, .if_icmp .eq 65, 24, 86), (24, .aload_n 0, 25, 0), (25, .getfield 40, 28, 0), (28, .sipush 128, 31, 0), (31, .iload 4, 33, 0)],
  [(33, .imul, 34, 0), (34, .iload_n 1, 35, 0), (35, .iadd, 36, 0), (36, .iaload, 37, 0), (37, .iconst (-1), 38, 0), (38, .if_icmp .eq 48, 41, 86), (41, .aload_n 0, 42, 0), (42, .getfield 43, 45, 0), (45, .iload 4, 47, 0), (47, .iaload, 48, 0), (48, .aload_n 0, 49, 0), (49, .getfield 40, 52, 0), (52, .sipush 128, 55, 0), (55, .iload 4, 57, 0), (57, .imul, 58, 0), (58, .iload_n 1, 59, 0), (59, .iadd, 60, 0), (60, .iaload, 61, 0), (61, .invokestatic 203, 64, 0)],
  [(64, .istore 5, 66, 0), (66, .iload_n 3, 67, 0), (67, .iconst (-1), 68, 0), (68, .if_icmp .eq 9, 71, 77), (71, .iload 5, 73, 0), (73, .iload_n 3, 74, 0), (74, .if_icmp .ge 12, 77, 86), (77, .iload 5, 79, 0), (79, .istore_n 3, 80, 0), (80, .aload_n 0, 81, 0), (81, .iload 4, 83, 0), (83, .putfield 206, 86, 0), (86, .iinc 4 1, 89, 0), (89, .goto (-82), 92, 7), (92, .iload_n 3, 93, 0), (93, .ireturn, 94, 0)]]  -- X8_closed
def jmt_165 : List (List jm_E) := [[(0, .iconst 0, 1, 0), (1, .istore_n 3, 2, 0), (2, .iload_n 3, 3, 0), (3, .iload_n 2, 4, 0), (4, .if_icmp .ge 25, 7, 29), (7, .aload_n 0, 8, 0), (8, .getfield 43, 11, 0), (11, .iload_n 3, 12, 0), (12, .iload_n 3, 13, 0), (13, .iload_n 1, 14, 0), (14, .if_icmp .ne 7, 17, 21), (17, .iconst 0, 18, 0), (18, .goto 4, 21, 22), (21, .iconst (-1), 22, 0), (22, .iastore, 23, 0), (23, .iinc 3 1, 26, 0), (26, .goto (-24), 29, 2), (29, .return_, 30, 0)]]  -- X8_begin
def jmt_166 : List (List jm_E) := [[(0, .aload_n 0, 1, 0), (1, .getfield 19, 4, 0), (4, .iload_n 1, 5, 0), (5, .iaload, 6, 0), (6, .istore_n 2, 7, 0), (7, .iload_n 2, 8, 0), (8, .iconst 1, 9, 0), (9, .iadd, 10, 0), (10, .istore_n 3, 11, 0), (11, .iconst (-1), 12, 0), (12, .istore 4, 14, 0), (14, .iconst 0, 15, 0), (15, .istore 5, 17, 0), (17, .iconst 0, 18, 0), (18, .istore 6, 20, 0), (20, .iload 6, 22, 0), (22, .iload_n 2, 23, 0), (23, .if_icmp .ge 101, 26, 124), (26, .aload_n 0, 27, 0), (27, .iload 6, 29, 0), (29, .iload_n 2, 30, 0), (30, .invokevirtual 209, 33, 0)],
  [(33, .iconst 1, 34, 0), (34, .istore 7, 36, 0), (36, .iload 7, 38, 0), (38, .iload_n 3, 39, 0), (39, .if_icmp .gt 79, 42, 118), (42, .iload 7, 44, 0), (44, .iload_n 2, 45, 0), (45, .if_icmp .gt 73, 48, 118), (48, .iload 7, 50, 0), (50, .iconst 3, 51, 0), (51, .if_icmp .ge 7, 54, 58), (54, .iconst (-1), 55, 0), (55, .goto 10, 58, 65), (58, .aload_n 0, 59, 0), (59, .iload 6, 61, 0), (61, .iload_n 2, 62, 0), (62, .invokevirtual 213, 65, 0)],
  [(65, .istore 8, 67, 0), (67, .iload 8, 69, 0), (69, .iconst (-1), 70, 0), (70, .if_icmp .eq 33, 73, 103), (73, .iload 7, 75, 0), (75, .iload_n 3, 76, 0), (76, .if_icmp .lt 16, 79, 92), (79, .iload 4, 81, 0), (81, .iconst (-1), 82, 0), (82, .if_icmp .eq 10, 85, 92), (85, .iload 8, 87, 0), (87, .iload 4, 89, 0), (89, .if_icmp .ge 14, 92, 103), (92, .iload 7, 94, 0), (94, .istore_n 3, 95, 0), (95, .iload 8, 97, 0)],
  [(97, .istore 4, 99, 0), (99, .iload 6, 101, 0), (101, .istore 5, 103, 0), (103, .aload_n 0, 104, 0), (104, .iload 6, 106, 0), (106, .iload_n 2, 107, 0), (107, .iload 7, 109, 0), (109, .invokevirtual 216, 112, 0), (112, .iinc 7 1, 115, 0), (115, .goto (-79), 118, 36), (118, .iinc 6 1, 121, 0), (121, .goto (-101), 124, 20), (124, .aload_n 0, 125, 0), (125, .getfield 52, 128, 0)],
  [(128, .iload_n 1, 129, 0), (129, .iload_n 3, 130, 0), (130, .iastore, 131, 0), (131, .aload_n 0, 132, 0), (132, .getfield 55, 135, 0), (135, .iload_n 1, 136, 0), (136, .iload 4, 138, 0), (138, .iastore, 139, 0), (139, .aload_n 0, 140, 0), (140, .iload_n 1, 141, 0), (141, .iload 5, 143, 0), (143, .iload_n 3, 144, 0), (144, .invokevirtual 219, 147, 0), (147, .return_, 148, 0)]]  -- X8_layBest
def jmt_167 : List (List jm_E) := [[(0, .aload_n 0, 1, 0), (1, .getfield 19, 4, 0), (4, .iload_n 1, 5, 0), (5, .iaload, 6, 0), (6, .istore 4, 8, 0), (8, .iconst 0, 9, 0), (9, .istore 5, 11, 0), (11, .iload 5, 13, 0), (13, .iload 4, 15, 0), (15, .if_icmp .ge 24, 18, 39), (18, .aload_n 0, 19, 0), (19, .getfield 34, 22, 0), (22, .aload_n 0, 23, 0), (23, .getfield 16, 26, 0), (26, .iload_n 1, 27, 0), (27, .iaload, 28, 0), (28, .iload 5, 30, 0), (30, .iadd, 31, 0), (31, .iconst 0, 32, 0)],
  [(32, .iastore, 33, 0), (33, .iinc 5 1, 36, 0), (36, .goto (-25), 39, 11), (39, .aload_n 0, 40, 0), (40, .iload_n 2, 41, 0), (41, .iload 4, 43, 0), (43, .invokevirtual 209, 46, 0), (46, .iconst 1, 47, 0), (47, .istore 5, 49, 0), (49, .iload 5, 51, 0), (51, .iload_n 3, 52, 0), (52, .if_icmp .ge 18, 55, 70), (55, .aload_n 0, 56, 0), (56, .iload_n 2, 57, 0), (57, .iload 4, 59, 0), (59, .iload 5, 61, 0), (61, .invokevirtual 216, 64, 0)],
  [(64, .iinc 5 1, 67, 0), (67, .goto (-18), 70, 49), (70, .aload_n 0, 71, 0), (71, .iload_n 2, 72, 0), (72, .iload 4, 74, 0), (74, .invokevirtual 213, 77, 0), (77, .pop, 78, 0), (78, .aload_n 0, 79, 0), (79, .getfield 206, 82, 0), (82, .istore 5, 84, 0), (84, .iload_n 3, 85, 0), (85, .iconst 1, 86, 0), (86, .isub, 87, 0), (87, .istore 6, 89, 0), (89, .iload 6, 91, 0), (91, .ifCond .le 40, 94, 131), (94, .aload_n 0, 95, 0), (95, .getfield 34, 98, 0)],
  [(98, .aload_n 0, 99, 0), (99, .getfield 16, 102, 0), (102, .iload_n 1, 103, 0), (103, .iaload, 104, 0), (104, .iload 5, 106, 0), (106, .iadd, 107, 0), (107, .iconst 1, 108, 0), (108, .iastore, 109, 0), (109, .aload_n 0, 110, 0), (110, .getfield 49, 113, 0), (113, .sipush 128, 116, 0), (116, .iload 6, 118, 0), (118, .imul, 119, 0), (119, .iload 5, 121, 0), (121, .iadd, 122, 0), (122, .iaload, 123, 0), (123, .istore 5, 125, 0), (125, .iinc 6 (-1), 128, 0)],
  [(128, .goto (-39), 131, 89), (131, .aload_n 0, 132, 0), (132, .getfield 34, 135, 0), (135, .aload_n 0, 136, 0), (136, .getfield 16, 139, 0), (139, .iload_n 1, 140, 0), (140, .iaload, 141, 0), (141, .iload_n 2, 142, 0), (142, .iadd, 143, 0), (143, .iconst 1, 144, 0), (144, .iastore, 145, 0), (145, .return_, 146, 0)]]  -- X8_mark
def jmt_168 : List (List jm_E) := [[(0, .aload_n 0, 1, 0), (1, .invokevirtual 222, 4, 0), (4, .iconst 0, 5, 0), (5, .istore_n 1, 6, 0), (6, .iload_n 1, 7, 0), (7, .aload_n 0, 8, 0), (8, .getfield 151, 11, 0), (11, .if_icmp .ge 19, 14, 30), (14, .aload_n 0, 15, 0), (15, .iload_n 1, 16, 0), (16, .invokevirtual 225, 19, 0), (19, .aload_n 0, 20, 0), (20, .iload_n 1, 21, 0), (21, .invokevirtual 229, 24, 0), (24, .iinc 1 1, 27, 0), (27, .goto (-21), 30, 6), (30, .return_, 31, 0)]]  -- X8_layAll
def jmt_169 : List (List jm_E) := [[(0, .aload_n 0, 1, 0), (1, .getfield 132, 4, 0), (4, .ifCond .eq 12, 7, 16), (7, .aload_n 0, 8, 0), (8, .invokevirtual 232, 11, 0), (11, .aload_n 0, 12, 0), (12, .iconst 0, 13, 0), (13, .putfield 132, 16, 0), (16, .return_, 17, 0)]]  -- X8_freshen
def jmt_170 : List (List jm_E) := [[(0, .iconst 0, 1, 0), (1, .istore_n 1, 2, 0), (2, .iconst 0, 3, 0), (3, .istore_n 2, 4, 0), (4, .iload_n 2, 5, 0), (5, .aload_n 0, 6, 0), (6, .getfield 151, 9, 0), (9, .if_icmp .ge 18, 12, 27), (12, .iload_n 1, 13, 0), (13, .aload_n 0, 14, 0), (14, .getfield 52, 17, 0), (17, .iload_n 2, 18, 0), (18, .iaload, 19, 0), (19, .iadd, 20, 0), (20, .istore_n 1, 21, 0), (21, .iinc 2 1, 24, 0), (24, .goto (-20), 27, 4), (27, .iload_n 1, 28, 0), (28, .ireturn, 29, 0)]]  -- X8_cornersAll
def jmt_171 : List (List jm_E) := [[(0, .aload_n 0, 1, 0), (1, .invokevirtual 235, 4, 0), (4, .ifCond .eq 5, 7, 9), (7, .iconst 0, 8, 0), (8, .ireturn, 9, 0), (9, .aload_n 0, 10, 0), (10, .invokevirtual 238, 13, 0), (13, .iload_n 1, 14, 0), (14, .i2l, 15, 0), (15, .lconst 0, 16, 0), (16, .aload_n 0, 17, 0), (17, .getfield 151, 20, 0), (20, .iconst 1, 21, 0), (21, .isub, 22, 0), (22, .i2l, 23, 0), (23, .invokestatic 79, 26, 0), (26, .ireturn, 27, 0)]]  -- X8_isOutline
def jmt_172 : List (List jm_E) := [[(0, .aload_n 0, 1, 0), (1, .iload_n 1, 2, 0), (2, .invokevirtual 241, 5, 0), (5, .ifCond .eq 25, 8, 30), (8, .iload_n 2, 9, 0), (9, .i2l, 10, 0), (10, .lconst 0, 11, 0), (11, .aload_n 0, 12, 0), (12, .getfield 19, 15, 0), (15, .iload_n 1, 16, 0), (16, .iaload, 17, 0), (17, .iconst 1, 18, 0), (18, .isub, 19, 0), (19, .i2l, 20, 0), (20, .invokestatic 79, 23, 0), (23, .ifCond .eq 7, 26, 30), (26, .iconst 1, 27, 0), (27, .goto 4, 30, 31), (30, .iconst 0, 31, 0), (31, .ireturn, 32, 0)]]  -- X8_isPoint
def jmt_173 : List (List jm_E) := [[(0, .aload_n 0, 1, 0), (1, .getfield 16, 4, 0), (4, .iload_n 1, 5, 0), (5, .iaload, 6, 0), (6, .istore_n 3, 7, 0), (7, .aload_n 0, 8, 0), (8, .getfield 19, 11, 0), (11, .iload_n 1, 12, 0), (12, .iaload, 13, 0), (13, .istore 4, 15, 0), (15, .iconst (-1), 16, 0), (16, .istore 5, 18, 0), (18, .iconst 0, 19, 0), (19, .istore 6, 21, 0), (21, .iload 6, 23, 0), (23, .iload 4, 25, 0), (25, .if_icmp .ge 37, 28, 62), (28, .iload_n 2, 29, 0), (29, .ifCond .ne 16, 32, 45)],
  [(32, .aload_n 0, 33, 0), (33, .getfield 34, 36, 0), (36, .iload_n 3, 37, 0), (37, .iload 6, 39, 0), (39, .iadd, 40, 0), (40, .iaload, 41, 0), (41, .iconst 1, 42, 0), (42, .if_icmp .ne 10, 45, 52), (45, .iload_n 3, 46, 0), (46, .iload 6, 48, 0), (48, .iadd, 49, 0), (49, .goto 5, 52, 54), (52, .iload 5, 54, 0), (54, .istore 5, 56, 0), (56, .iinc 6 1, 59, 0), (59, .goto (-38), 62, 21), (62, .iconst 0, 63, 0), (63, .istore 6, 65, 0)],
  [(65, .iconst 0, 66, 0), (66, .istore 7, 68, 0), (68, .iload 7, 70, 0), (70, .iload 4, 72, 0), (72, .if_icmp .ge 72, 75, 144), (75, .iload_n 2, 76, 0), (76, .ifCond .ne 16, 79, 92), (79, .aload_n 0, 80, 0), (80, .getfield 34, 83, 0), (83, .iload_n 3, 84, 0), (84, .iload 7, 86, 0), (86, .iadd, 87, 0), (87, .iaload, 88, 0), (88, .iconst 1, 89, 0), (89, .if_icmp .ne 49, 92, 138), (92, .iload 6, 94, 0), (94, .aload_n 0, 95, 0), (95, .getfield 22, 98, 0)],
  [(98, .iload 5, 100, 0), (100, .iaload, 101, 0), (101, .aload_n 0, 102, 0), (102, .getfield 25, 105, 0), (105, .iload_n 3, 106, 0), (106, .iload 7, 108, 0), (108, .iadd, 109, 0), (109, .iaload, 110, 0), (110, .imul, 111, 0), (111, .aload_n 0, 112, 0), (112, .getfield 22, 115, 0), (115, .iload_n 3, 116, 0), (116, .iload 7, 118, 0), (118, .iadd, 119, 0), (119, .iaload, 120, 0), (120, .aload_n 0, 121, 0), (121, .getfield 25, 124, 0), (124, .iload 5, 126, 0), (126, .iaload, 127, 0), (127, .imul, 128, 0)],
  [(128, .isub, 129, 0), (129, .iadd, 130, 0), (130, .istore 6, 132, 0), (132, .iload_n 3, 133, 0), (133, .iload 7, 135, 0), (135, .iadd, 136, 0), (136, .istore 5, 138, 0), (138, .iinc 7 1, 141, 0), (141, .goto (-73), 144, 68), (144, .iload 6, 146, 0), (146, .ireturn, 147, 0)]]  -- X8_areaOf
def jmt_174 : List (List jm_E) := [[(0, .iconst 0, 1, 0), (1, .istore_n 2, 2, 0), (2, .iconst 0, 3, 0), (3, .istore_n 3, 4, 0), (4, .iload_n 3, 5, 0), (5, .aload_n 0, 6, 0), (6, .getfield 19, 9, 0), (9, .iload_n 1, 10, 0), (10, .iaload, 11, 0), (11, .if_icmp .ge 25, 14, 36), (14, .iload_n 2, 15, 0), (15, .aload_n 0, 16, 0), (16, .getfield 31, 19, 0), (19, .aload_n 0, 20, 0), (20, .getfield 16, 23, 0), (23, .iload_n 1, 24, 0), (24, .iaload, 25, 0), (25, .iload_n 3, 26, 0), (26, .iadd, 27, 0), (27, .iaload, 28, 0), (28, .iadd, 29, 0), (29, .istore_n 2, 30, 0), (30, .iinc 3 1, 33, 0)],
  [(33, .goto (-29), 36, 4), (36, .iload_n 2, 37, 0), (37, .ireturn, 38, 0)]]  -- X8_mustMany
def jmt_175 : List (List jm_E) := [[(0, .iload_n 2, 1, 0), (1, .tableswitch 105 0 6 #[43, 50, 65, 72, 79, 89, 99], 44, 0)],
  [(44, .aload_n 0, 45, 0), (45, .getfield 19, 48, 0), (48, .iload_n 1, 49, 0), (49, .iaload, 50, 0), (50, .ireturn, 51, 0), (51, .aload_n 0, 52, 0), (52, .iload_n 1, 53, 0), (53, .iconst 1, 54, 0), (54, .invokevirtual 244, 57, 0), (57, .ifCond .ge 7, 60, 64), (60, .iconst 1, 61, 0), (61, .goto 4, 64, 65)],
  [(64, .iconst 0, 65, 0), (65, .ireturn, 66, 0), (66, .aload_n 0, 67, 0), (67, .getfield 52, 70, 0), (70, .iload_n 1, 71, 0), (71, .iaload, 72, 0), (72, .ireturn, 73, 0), (73, .aload_n 0, 74, 0), (74, .getfield 55, 77, 0), (77, .iload_n 1, 78, 0), (78, .iaload, 79, 0), (79, .ireturn, 80, 0), (80, .aload_n 0, 81, 0), (81, .iload_n 1, 82, 0), (82, .iconst 0, 83, 0), (83, .invokevirtual 244, 86, 0), (86, .invokestatic 171, 89, 0), (89, .ireturn, 90, 0), (90, .aload_n 0, 91, 0), (91, .iload_n 1, 92, 0), (92, .iconst 1, 93, 0), (93, .invokevirtual 244, 96, 0)],
  [(96, .invokestatic 171, 99, 0), (99, .ireturn, 100, 0), (100, .aload_n 0, 101, 0), (101, .iload_n 1, 102, 0), (102, .invokevirtual 248, 105, 0), (105, .ireturn, 106, 0), (106, .bipush (-102), 108, 0), (108, .ireturn, 109, 0)]]  -- X8_tellOutline
def jmt_176 : List (List jm_E) := [[(0, .aload_n 0, 1, 0), (1, .iload_n 1, 2, 0), (2, .invokevirtual 241, 5, 0), (5, .ifCond .eq 12, 8, 17), (8, .aload_n 0, 9, 0), (9, .iload_n 1, 10, 0), (10, .iload_n 2, 11, 0), (11, .invokevirtual 251, 14, 0), (14, .goto 5, 17, 19), (17, .bipush (-101), 19, 0), (19, .ireturn, 20, 0)]]  -- X8_outline
def jmt_177 : List (List jm_E) := [[(0, .aload_n 0, 1, 0), (1, .getfield 19, 4, 0), (4, .iload_n 1, 5, 0), (5, .iaload, 6, 0), (6, .istore_n 3, 7, 0), (7, .iconst 1, 8, 0), (8, .istore 4, 10, 0), (10, .iload 4, 12, 0), (12, .iload_n 3, 13, 0), (13, .iconst 2, 14, 0), (14, .isub, 15, 0), (15, .if_icmp .ge 27, 18, 42), (18, .aload_n 0, 19, 0), (19, .iload_n 1, 20, 0), (20, .iload_n 2, 21, 0), (21, .iload_n 2, 22, 0), (22, .iload 4, 24, 0), (24, .iadd, 25, 0), (25, .iconst 1, 26, 0), (26, .iadd, 27, 0), (27, .iload_n 3, 28, 0), (28, .irem, 29, 0), (29, .invokevirtual 200, 32, 0)],
  [(32, .iconst (-1), 33, 0), (33, .if_icmp .eq 9, 36, 42), (36, .iinc 4 1, 39, 0), (39, .goto (-29), 42, 10), (42, .iload 4, 44, 0), (44, .ireturn, 45, 0)]]  -- X8_reachOf
def jmt_178 : List (List jm_E) := [[(0, .aload_n 0, 1, 0), (1, .getfield 16, 4, 0), (4, .iload_n 1, 5, 0), (5, .iaload, 6, 0), (6, .iload_n 2, 7, 0), (7, .iadd, 8, 0), (8, .istore 4, 10, 0), (10, .iload_n 3, 11, 0), (11, .tableswitch 83 0 4 #[33, 52, 60, 68, 75], 44, 0)],
  [(44, .bipush 10, 46, 0), (46, .aload_n 0, 47, 0), (47, .getfield 22, 50, 0), (50, .iload 4, 52, 0), (52, .iaload, 53, 0), (53, .imul, 54, 0), (54, .aload_n 0, 55, 0), (55, .getfield 25, 58, 0), (58, .iload 4, 60, 0), (60, .iaload, 61, 0), (61, .iadd, 62, 0), (62, .ireturn, 63, 0), (63, .aload_n 0, 64, 0)],
  [(64, .getfield 28, 67, 0), (67, .iload 4, 69, 0), (69, .iaload, 70, 0), (70, .ireturn, 71, 0), (71, .aload_n 0, 72, 0), (72, .getfield 31, 75, 0), (75, .iload 4, 77, 0), (77, .iaload, 78, 0), (78, .ireturn, 79, 0), (79, .aload_n 0, 80, 0), (80, .iload_n 1, 81, 0), (81, .iload_n 2, 82, 0), (82, .invokevirtual 254, 85, 0), (85, .ireturn, 86, 0), (86, .aload_n 0, 87, 0), (87, .getfield 34, 90, 0), (90, .iload 4, 92, 0), (92, .iaload, 93, 0), (93, .ireturn, 94, 0), (94, .bipush (-102), 96, 0)],
  [(96, .ireturn, 97, 0)]]  -- X8_tellPoint
def jmt_179 : List (List jm_E) := [[(0, .aload_n 0, 1, 0), (1, .iload_n 1, 2, 0), (2, .iload_n 2, 3, 0), (3, .invokevirtual 257, 6, 0), (6, .ifCond .eq 13, 9, 19), (9, .aload_n 0, 10, 0), (10, .iload_n 1, 11, 0), (11, .iload_n 2, 12, 0), (12, .iload_n 3, 13, 0), (13, .invokevirtual 261, 16, 0), (16, .goto 5, 19, 21), (19, .bipush (-101), 21, 0), (21, .ireturn, 22, 0)]]  -- X8_point
def jmt_180 : List (List jm_E) := [[(0, .aload_n 0, 1, 0), (1, .iload_n 1, 2, 0), (2, .iload_n 2, 3, 0), (3, .invokevirtual 257, 6, 0), (6, .ifCond .eq 21, 9, 27), (9, .aload_n 0, 10, 0), (10, .iload_n 1, 11, 0), (11, .iload_n 3, 12, 0), (12, .invokevirtual 257, 15, 0), (15, .ifCond .eq 12, 18, 27), (18, .iload_n 2, 19, 0), (19, .iload_n 3, 20, 0), (20, .if_icmp .eq 7, 23, 27), (23, .iconst 1, 24, 0), (24, .goto 4, 27, 28), (27, .iconst 0, 28, 0), (28, .ireturn, 29, 0)]]  -- X8_areTwo
def jmt_181 : List (List jm_E) := [[(0, .aload_n 0, 1, 0), (1, .iload_n 1, 2, 0), (2, .iload_n 2, 3, 0), (3, .iload_n 3, 4, 0), (4, .invokevirtual 264, 7, 0), (7, .ifCond .ne 6, 10, 13), (10, .bipush (-101), 12, 0), (12, .ireturn, 13, 0), (13, .aload_n 0, 14, 0), (14, .iload_n 1, 15, 0), (15, .iload_n 2, 16, 0), (16, .iload_n 3, 17, 0), (17, .invokevirtual 200, 20, 0), (20, .iconst (-1), 21, 0), (21, .if_icmp .ne 7, 24, 28), (24, .iconst 0, 25, 0), (25, .goto 4, 28, 29), (28, .iconst 1, 29, 0), (29, .ireturn, 30, 0)]]  -- X8_joined
def jmt_182 : List (List jm_E) := [[(0, .aload_n 0, 1, 0), (1, .iload_n 1, 2, 0), (2, .iload_n 2, 3, 0), (3, .iload_n 3, 4, 0), (4, .invokevirtual 264, 7, 0), (7, .ifCond .eq 13, 10, 20), (10, .aload_n 0, 11, 0), (11, .iload_n 1, 12, 0), (12, .iload_n 2, 13, 0), (13, .iload_n 3, 14, 0), (14, .invokevirtual 200, 17, 0), (17, .goto 5, 20, 22), (20, .bipush (-101), 22, 0), (22, .ireturn, 23, 0)]]  -- X8_penalty
def jmt_183 : List (List jm_E) := [[(0, .iload_n 2, 1, 0), (1, .istore_n 3, 2, 0), (2, .iconst 0, 3, 0), (3, .istore 4, 5, 0), (5, .iload_n 3, 6, 0), (6, .ifCond .gt 20, 9, 26), (9, .aload_n 0, 10, 0), (10, .getfield 34, 13, 0), (13, .aload_n 0, 14, 0), (14, .getfield 16, 17, 0), (17, .iload_n 1, 18, 0), (18, .iaload, 19, 0), (19, .iload 4, 21, 0), (21, .iadd, 22, 0), (22, .iaload, 23, 0), (23, .ifCond .ne 26, 26, 49), (26, .iload_n 3, 27, 0), (27, .aload_n 0, 28, 0), (28, .getfield 34, 31, 0), (31, .aload_n 0, 32, 0)],
  [(32, .getfield 16, 35, 0), (35, .iload_n 1, 36, 0), (36, .iaload, 37, 0), (37, .iload 4, 39, 0), (39, .iadd, 40, 0), (40, .iaload, 41, 0), (41, .isub, 42, 0), (42, .istore_n 3, 43, 0), (43, .iinc 4 1, 46, 0), (46, .goto (-41), 49, 5), (49, .iload 4, 51, 0), (51, .ireturn, 52, 0)]]  -- X8_cornerOf
def jmt_184 : List (List jm_E) := [[(0, .aload_n 0, 1, 0), (1, .iload_n 1, 2, 0), (2, .invokevirtual 241, 5, 0), (5, .ifCond .ne 6, 8, 11), (8, .bipush (-101), 10, 0), (10, .ireturn, 11, 0), (11, .iload_n 2, 12, 0), (12, .i2l, 13, 0), (13, .lconst 0, 14, 0), (14, .aload_n 0, 15, 0), (15, .getfield 52, 18, 0), (18, .iload_n 1, 19, 0), (19, .iaload, 20, 0), (20, .iconst 1, 21, 0), (21, .isub, 22, 0), (22, .i2l, 23, 0), (23, .invokestatic 79, 26, 0), (26, .ifCond .eq 12, 29, 38), (29, .aload_n 0, 30, 0), (30, .iload_n 1, 31, 0), (31, .iload_n 2, 32, 0)],
  [(32, .invokevirtual 267, 35, 0), (35, .goto 5, 38, 40), (38, .bipush (-101), 40, 0), (40, .ireturn, 41, 0)]]  -- X8_corner
def jmt_185 : List (List jm_E) := [[(0, .iload_n 2, 1, 0), (1, .tableswitch 46 0 2 #[27, 34, 40], 28, 0), (28, .aload_n 0, 29, 0), (29, .getfield 13, 32, 0)],
  [(32, .iload_n 1, 33, 0), (33, .iaload, 34, 0), (34, .ireturn, 35, 0), (35, .aload_n 0, 36, 0), (36, .iload_n 1, 37, 0), (37, .invokevirtual 270, 40, 0), (40, .ireturn, 41, 0), (41, .aload_n 0, 42, 0), (42, .iload_n 1, 43, 0), (43, .invokevirtual 273, 46, 0), (46, .ireturn, 47, 0), (47, .bipush (-102), 49, 0), (49, .ireturn, 50, 0)]]  -- X8_tellDot
def jmt_186 : List (List jm_E) := [[(0, .aload_n 0, 1, 0), (1, .iload_n 1, 2, 0), (2, .invokevirtual 136, 5, 0), (5, .ifCond .eq 12, 8, 17), (8, .aload_n 0, 9, 0), (9, .iload_n 1, 10, 0), (10, .iload_n 2, 11, 0), (11, .invokevirtual 276, 14, 0), (14, .goto 5, 17, 19), (17, .bipush (-101), 19, 0), (19, .ireturn, 20, 0)]]  -- X8_dot
def jmt_187 : List (List jm_E) := [[(0, .iload_n 1, 1, 0), (1, .ifCond .eq 18, 4, 19), (4, .iload_n 1, 5, 0), (5, .iload_n 0, 6, 0), (6, .if_icmp .eq 13, 9, 19), (9, .iload_n 1, 10, 0), (10, .iconst 1, 11, 0), (11, .if_icmp .ne 12, 14, 23), (14, .iload_n 0, 15, 0), (15, .iconst 2, 16, 0), (16, .if_icmp .ne 7, 19, 23), (19, .iconst 1, 20, 0), (20, .goto 4, 23, 24), (23, .iconst 0, 24, 0), (24, .ireturn, 25, 0)]]  -- X8_isOf
def jmt_188 : List (List jm_E) := [[(0, .aload_n 0, 1, 0), (1, .iload_n 1, 2, 0), (2, .invokevirtual 279, 5, 0), (5, .ifCond .ne 6, 8, 11), (8, .bipush (-101), 10, 0), (10, .ireturn, 11, 0), (11, .iload_n 2, 12, 0), (12, .i2l, 13, 0), (13, .lconst 0, 14, 0), (14, .ldc2_w 282, 17, 0), (17, .invokestatic 79, 20, 0), (20, .ifCond .ne 6, 23, 26), (23, .bipush (-102), 25, 0), (25, .ireturn, 26, 0), (26, .aload_n 0, 27, 0), (27, .getfield 13, 30, 0), (30, .iload_n 1, 31, 0), (31, .iaload, 32, 0)],
  [(32, .iload_n 2, 33, 0), (33, .invokestatic 284, 36, 0), (36, .ifCond .eq 7, 39, 43), (39, .iload_n 1, 40, 0), (40, .goto 4, 43, 44), (43, .iconst (-1), 44, 0), (44, .ireturn, 45, 0)]]  -- X8_as
def jmt_189 : List (List jm_E) := [[(0, .aload_n 0, 1, 0), (1, .invokevirtual 126, 4, 0), (4, .aload_n 0, 5, 0), (5, .invokevirtual 238, 8, 0), (8, .aload_n 0, 9, 0), (9, .getfield 151, 12, 0), (12, .ireturn, 13, 0)]]  -- X8_outlinesNow
def jmt_190 : List (List jm_E) := [[(0, .aload_n 0, 1, 0), (1, .iload_n 1, 2, 0), (2, .invokevirtual 136, 5, 0), (5, .ifCond .ne 6, 8, 11), (8, .bipush (-101), 10, 0), (10, .ireturn, 11, 0), (11, .iload_n 2, 12, 0), (12, .i2l, 13, 0), (13, .lconst 0, 14, 0), (14, .ldc2_w 282, 17, 0), (17, .invokestatic 79, 20, 0), (20, .ifCond .ne 6, 23, 26), (23, .bipush (-102), 25, 0), (25, .ireturn, 26, 0), (26, .aload_n 0, 27, 0), (27, .getfield 13, 30, 0), (30, .iload_n 1, 31, 0), (31, .iload_n 2, 32, 0)],
  [(32, .iastore, 33, 0), (33, .aload_n 0, 34, 0), (34, .invokevirtual 287, 37, 0), (37, .ireturn, 38, 0)]]  -- X8_put
def jmt_191 : List (List jm_E) := [[(0, .aload_n 0, 1, 0), (1, .iload_n 1, 2, 0), (2, .invokevirtual 279, 5, 0), (5, .ifCond .ne 6, 8, 11), (8, .bipush (-101), 10, 0), (10, .ireturn, 11, 0), (11, .aload_n 0, 12, 0), (12, .invokevirtual 129, 15, 0), (15, .iconst 1, 16, 0), (16, .if_icmp .ne 6, 19, 22), (19, .bipush (-103), 21, 0), (21, .ireturn, 22, 0), (22, .aload_n 0, 23, 0), (23, .getfield 13, 26, 0), (26, .iload_n 1, 27, 0), (27, .iconst (-1), 28, 0), (28, .iastore, 29, 0), (29, .aload_n 0, 30, 0), (30, .invokevirtual 287, 33, 0)],
  [(33, .ireturn, 34, 0)]]  -- X8_take
def jmt_192 : List (List jm_E) := [[(0, .aload_n 0, 1, 0), (1, .invokevirtual 126, 4, 0), (4, .aload_n 0, 5, 0), (5, .invokevirtual 238, 8, 0), (8, .aload_n 0, 9, 0), (9, .invokevirtual 290, 12, 0), (12, .ireturn, 13, 0)]]  -- X8_cornersNow
def jmt_193 : List (List jm_E) := [[(0, .aload_n 0, 1, 0), (1, .invokevirtual 235, 4, 0), (4, .ifCond .eq 6, 7, 10), (7, .bipush (-103), 9, 0), (9, .ireturn, 10, 0), (10, .aload_n 0, 11, 0), (11, .getfield 13, 14, 0), (14, .aload_n 0, 15, 0), (15, .getfield 58, 18, 0), (18, .invokestatic 293, 21, 0), (21, .aload_n 0, 22, 0), (22, .getfield 114, 25, 0), (25, .istore_n 1, 26, 0), (26, .aload_n 0, 27, 0), (27, .getfield 117, 30, 0), (30, .istore_n 2, 31, 0), (31, .aload_n 0, 32, 0)],
  [(32, .iload_n 2, 33, 0), (33, .putfield 114, 36, 0), (36, .aload_n 0, 37, 0), (37, .iload_n 1, 38, 0), (38, .putfield 117, 41, 0), (41, .iconst 0, 42, 0), (42, .istore_n 3, 43, 0), (43, .iload_n 3, 44, 0), (44, .iload_n 1, 45, 0), (45, .iload_n 2, 46, 0), (46, .imul, 47, 0), (47, .if_icmp .ge 36, 50, 83), (50, .aload_n 0, 51, 0), (51, .getfield 13, 54, 0), (54, .iload_n 3, 55, 0), (55, .iload_n 1, 56, 0), (56, .irem, 57, 0), (57, .aload_n 0, 58, 0), (58, .getfield 114, 61, 0), (61, .imul, 62, 0), (62, .iload_n 2, 63, 0), (63, .iadd, 64, 0)],
  [(64, .iconst 1, 65, 0), (65, .isub, 66, 0), (66, .iload_n 3, 67, 0), (67, .iload_n 1, 68, 0), (68, .idiv, 69, 0), (69, .isub, 70, 0), (70, .aload_n 0, 71, 0), (71, .getfield 58, 74, 0), (74, .iload_n 3, 75, 0), (75, .iaload, 76, 0), (76, .iastore, 77, 0), (77, .iinc 3 1, 80, 0), (80, .goto (-37), 83, 43), (83, .aload_n 0, 84, 0), (84, .invokevirtual 297, 87, 0), (87, .ireturn, 88, 0)]]  -- X8_turn
def jmt_194 : List (List jm_E) := [[(0, .aload_n 0, 1, 0), (1, .invokevirtual 235, 4, 0), (4, .ifCond .eq 6, 7, 10), (7, .bipush (-103), 9, 0), (9, .ireturn, 10, 0), (10, .aload_n 0, 11, 0), (11, .getfield 13, 14, 0), (14, .aload_n 0, 15, 0), (15, .getfield 58, 18, 0), (18, .invokestatic 293, 21, 0), (21, .iconst 0, 22, 0), (22, .istore_n 1, 23, 0), (23, .iload_n 1, 24, 0), (24, .aload_n 0, 25, 0), (25, .getfield 114, 28, 0), (28, .aload_n 0, 29, 0), (29, .getfield 117, 32, 0)],
  [(32, .imul, 33, 0), (33, .if_icmp .ge 45, 36, 78), (36, .aload_n 0, 37, 0), (37, .getfield 13, 40, 0), (40, .iload_n 1, 41, 0), (41, .aload_n 0, 42, 0), (42, .getfield 114, 45, 0), (45, .idiv, 46, 0), (46, .aload_n 0, 47, 0), (47, .getfield 114, 50, 0), (50, .imul, 51, 0), (51, .aload_n 0, 52, 0), (52, .getfield 114, 55, 0), (55, .iadd, 56, 0), (56, .iconst 1, 57, 0), (57, .isub, 58, 0), (58, .iload_n 1, 59, 0), (59, .aload_n 0, 60, 0), (60, .getfield 114, 63, 0), (63, .irem, 64, 0)],
  [(64, .isub, 65, 0), (65, .aload_n 0, 66, 0), (66, .getfield 58, 69, 0), (69, .iload_n 1, 70, 0), (70, .iaload, 71, 0), (71, .iastore, 72, 0), (72, .iinc 1 1, 75, 0), (75, .goto (-52), 78, 23), (78, .aload_n 0, 79, 0), (79, .invokevirtual 297, 82, 0), (82, .ireturn, 83, 0)]]  -- X8_mirror
def jmt_195 : List (List jm_E) := [[(0, .iconst 0, 1, 0), (1, .istore_n 2, 2, 0), (2, .iload_n 2, 3, 0), (3, .iconst 3, 4, 0), (4, .if_icmp .ge 23, 7, 27), (7, .aload_n 0, 8, 0), (8, .getfield 61, 11, 0), (11, .iconst 3, 12, 0), (12, .iload_n 1, 13, 0), (13, .imul, 14, 0), (14, .iload_n 2, 15, 0), (15, .iadd, 16, 0), (16, .iaload, 17, 0), (17, .iconst (-1), 18, 0), (18, .if_icmp .eq 9, 21, 27), (21, .iinc 2 1, 24, 0), (24, .goto (-22), 27, 2), (27, .iload_n 2, 28, 0), (28, .ireturn, 29, 0)]]  -- X8_rackedOf
def jmt_196 : List (List jm_E) := [[(0, .aload_n 0, 1, 0), (1, .iload_n 1, 2, 0), (2, .invokevirtual 279, 5, 0), (5, .ifCond .ne 6, 8, 11), (8, .bipush (-101), 10, 0), (10, .ireturn, 11, 0), (11, .iload_n 2, 12, 0), (12, .i2l, 13, 0), (13, .lconst 0, 14, 0), (14, .ldc2_w 282, 17, 0), (17, .invokestatic 79, 20, 0), (20, .ifCond .ne 6, 23, 26), (23, .bipush (-102), 25, 0), (25, .ireturn, 26, 0), (26, .aload_n 0, 27, 0), (27, .iload_n 2, 28, 0), (28, .invokevirtual 300, 31, 0), (31, .istore_n 3, 32, 0)],
  [(32, .iload_n 3, 33, 0), (33, .iconst 3, 34, 0), (34, .if_icmp .ne 6, 37, 40), (37, .bipush (-104), 39, 0), (39, .ireturn, 40, 0), (40, .aload_n 0, 41, 0), (41, .getfield 13, 44, 0), (44, .iload_n 1, 45, 0), (45, .iaload, 46, 0), (46, .iload_n 2, 47, 0), (47, .invokestatic 284, 50, 0), (50, .ifCond .ne 5, 53, 55), (53, .iconst (-1), 54, 0), (54, .ireturn, 55, 0), (55, .aload_n 0, 56, 0), (56, .getfield 61, 59, 0), (59, .iconst 3, 60, 0), (60, .iload_n 2, 61, 0), (61, .imul, 62, 0), (62, .iload_n 3, 63, 0), (63, .iadd, 64, 0)],
  [(64, .iload_n 1, 65, 0), (65, .iastore, 66, 0), (66, .iload_n 3, 67, 0), (67, .iconst 1, 68, 0), (68, .iadd, 69, 0), (69, .ireturn, 70, 0)]]  -- X8_rack
def jmt_197 : List (List jm_E) := [[(0, .iload_n 1, 1, 0), (1, .i2l, 2, 0), (2, .lconst 0, 3, 0), (3, .ldc2_w 282, 6, 0), (6, .invokestatic 79, 9, 0), (9, .ifCond .eq 28, 12, 37), (12, .iload_n 2, 13, 0), (13, .i2l, 14, 0), (14, .lconst 0, 15, 0), (15, .ldc2_w 183, 18, 0), (18, .invokestatic 79, 21, 0), (21, .ifCond .eq 16, 24, 37), (24, .aload_n 0, 25, 0), (25, .getfield 61, 28, 0), (28, .iconst 3, 29, 0), (29, .iload_n 1, 30, 0), (30, .imul, 31, 0), (31, .iload_n 2, 32, 0)],
  [(32, .iadd, 33, 0), (33, .iaload, 34, 0), (34, .goto 5, 37, 39), (37, .bipush (-102), 39, 0), (39, .ireturn, 40, 0)]]  -- X8_racked
def jmt_198 : List (List jm_E) := [[(0, .aload_n 0, 1, 0), (1, .invokevirtual 235, 4, 0), (4, .ifCond .ne 11, 7, 15), (7, .aload_n 0, 8, 0), (8, .getfield 303, 11, 0), (11, .iconst 5, 12, 0), (12, .if_icmp .ne 6, 15, 18), (15, .bipush (-103), 17, 0), (17, .ireturn, 18, 0), (18, .aload_n 0, 19, 0), (19, .dup, 20, 0), (20, .getfield 303, 23, 0), (23, .iconst 1, 24, 0), (24, .iadd, 25, 0), (25, .putfield 303, 28, 0), (28, .iconst (-1), 29, 0), (29, .istore_n 1, 30, 0), (30, .iconst 0, 31, 0), (31, .istore_n 2, 32, 0)],
  [(32, .iconst 0, 33, 0), (33, .istore_n 3, 34, 0), (34, .iload_n 3, 35, 0), (35, .aload_n 0, 36, 0), (36, .getfield 114, 39, 0), (39, .aload_n 0, 40, 0), (40, .getfield 117, 43, 0), (43, .imul, 44, 0), (44, .if_icmp .ge 87, 47, 131), (47, .aload_n 0, 48, 0), (48, .invokevirtual 129, 51, 0), (51, .iconst 1, 52, 0), (52, .if_icmp .le 79, 55, 131), (55, .aload_n 0, 56, 0), (56, .getfield 13, 59, 0), (59, .iload_n 3, 60, 0), (60, .iaload, 61, 0), (61, .iconst (-1), 62, 0), (62, .if_icmp .eq 63, 65, 125)],
  [(65, .aload_n 0, 66, 0), (66, .getfield 13, 69, 0), (69, .iload_n 3, 70, 0), (70, .iaload, 71, 0), (71, .istore 4, 73, 0), (73, .aload_n 0, 74, 0), (74, .getfield 13, 77, 0), (77, .iload_n 3, 78, 0), (78, .iconst (-1), 79, 0), (79, .iastore, 80, 0), (80, .aload_n 0, 81, 0), (81, .invokevirtual 232, 84, 0), (84, .aload_n 0, 85, 0), (85, .getfield 13, 88, 0), (88, .iload_n 3, 89, 0), (89, .iload 4, 91, 0), (91, .iastore, 92, 0), (92, .iload_n 1, 93, 0), (93, .iconst (-1), 94, 0), (94, .if_icmp .eq 11, 97, 105)],
  [(97, .aload_n 0, 98, 0), (98, .invokevirtual 290, 101, 0), (101, .iload_n 2, 102, 0), (102, .if_icmp .ge 7, 105, 109), (105, .iload_n 3, 106, 0), (106, .goto 4, 109, 110), (109, .iload_n 1, 110, 0), (110, .istore_n 1, 111, 0), (111, .iload_n 1, 112, 0), (112, .iload_n 3, 113, 0), (113, .if_icmp .ne 10, 116, 123), (116, .aload_n 0, 117, 0), (117, .invokevirtual 290, 120, 0), (120, .goto 4, 123, 124), (123, .iload_n 2, 124, 0), (124, .istore_n 2, 125, 0), (125, .iinc 3 1, 128, 0)],
  [(128, .goto (-94), 131, 34), (131, .aload_n 0, 132, 0), (132, .iconst 1, 133, 0), (133, .putfield 132, 136, 0), (136, .iload_n 1, 137, 0), (137, .ireturn, 138, 0)]]  -- X8_weight
def jmt_199 : List (List jm_E) := [[(0, .aload_n 0, 1, 0), (1, .iload_n 1, 2, 0), (2, .invokevirtual 136, 5, 0), (5, .ifCond .ne 6, 8, 11), (8, .bipush (-101), 10, 0), (10, .ireturn, 11, 0), (11, .iload_n 2, 12, 0), (12, .i2l, 13, 0), (13, .lconst 0, 14, 0), (14, .ldc2_w 306, 17, 0), (17, .invokestatic 79, 20, 0), (20, .ifCond .ne 6, 23, 26), (23, .bipush (-102), 25, 0), (25, .ireturn, 26, 0), (26, .aload_n 0, 27, 0), (27, .getfield 120, 30, 0), (30, .bipush 6, 32, 0)],
  [(32, .if_icmp .ne 6, 35, 38), (35, .bipush (-104), 37, 0), (37, .ireturn, 38, 0), (38, .aload_n 0, 39, 0), (39, .getfield 64, 42, 0), (42, .iconst 3, 43, 0), (43, .aload_n 0, 44, 0), (44, .getfield 120, 47, 0), (47, .imul, 48, 0), (48, .iload_n 1, 49, 0), (49, .iastore, 50, 0), (50, .aload_n 0, 51, 0), (51, .getfield 64, 54, 0), (54, .iconst 3, 55, 0), (55, .aload_n 0, 56, 0), (56, .getfield 120, 59, 0), (59, .imul, 60, 0), (60, .iconst 1, 61, 0), (61, .iadd, 62, 0), (62, .iload_n 2, 63, 0), (63, .iastore, 64, 0)],
  [(64, .aload_n 0, 65, 0), (65, .getfield 64, 68, 0), (68, .iconst 3, 69, 0), (69, .aload_n 0, 70, 0), (70, .getfield 120, 73, 0), (73, .imul, 74, 0), (74, .iconst 2, 75, 0), (75, .iadd, 76, 0), (76, .iload_n 3, 77, 0), (77, .ifCond .eq 7, 80, 84), (80, .iconst 1, 81, 0), (81, .goto 4, 84, 85), (84, .iconst 0, 85, 0), (85, .iastore, 86, 0), (86, .aload_n 0, 87, 0), (87, .dup, 88, 0), (88, .getfield 120, 91, 0), (91, .iconst 1, 92, 0), (92, .iadd, 93, 0), (93, .putfield 120, 96, 0)],
  [(96, .aload_n 0, 97, 0), (97, .getfield 120, 100, 0), (100, .ireturn, 101, 0)]]  -- X8_see
def jmt_200 : List (List jm_E) := [[(0, .aload_n 0, 1, 0), (1, .getfield 120, 4, 0), (4, .istore_n 1, 5, 0), (5, .aload_n 0, 6, 0), (6, .iconst 0, 7, 0), (7, .putfield 120, 10, 0), (10, .iload_n 1, 11, 0), (11, .ireturn, 12, 0)]]  -- X8_forget
def jmt_201 : List (List jm_E) := [[(0, .iload_n 0, 1, 0), (1, .tableswitch 35 0 2 #[27, 30, 32], 28, 0), (28, .bipush 6, 30, 0), (30, .ireturn, 31, 0), (31, .iconst 4, 32, 0)],
  [(32, .ireturn, 33, 0), (33, .bipush 23, 35, 0), (35, .ireturn, 36, 0), (36, .bipush 16, 38, 0), (38, .ireturn, 39, 0)]]  -- X8_sortsBy
def jmt_202 : List (List jm_E) := [[(0, .bipush 31, 2, 0), (2, .istore_n 2, 3, 0), (3, .iconst 0, 4, 0), (4, .istore_n 3, 5, 0), (5, .iload_n 3, 6, 0), (6, .iconst 3, 7, 0), (7, .aload_n 0, 8, 0), (8, .getfield 120, 11, 0), (11, .imul, 12, 0), (12, .if_icmp .ge 57, 15, 69), (15, .aload_n 0, 16, 0), (16, .getfield 64, 19, 0), (19, .iload_n 3, 20, 0), (20, .iaload, 21, 0), (21, .iload_n 1, 22, 0), (22, .if_icmp .ne 41, 25, 63), (25, .aload_n 0, 26, 0), (26, .getfield 64, 29, 0), (29, .iload_n 3, 30, 0), (30, .iconst 1, 31, 0), (31, .iadd, 32, 0)],
  [(32, .iaload, 33, 0), (33, .invokestatic 308, 36, 0), (36, .istore 4, 38, 0), (38, .iload_n 2, 39, 0), (39, .aload_n 0, 40, 0), (40, .getfield 64, 43, 0), (43, .iload_n 3, 44, 0), (44, .iconst 2, 45, 0), (45, .iadd, 46, 0), (46, .iaload, 47, 0), (47, .iconst 1, 48, 0), (48, .if_icmp .ne 8, 51, 56), (51, .iload 4, 53, 0), (53, .goto 8, 56, 61), (56, .bipush 31, 58, 0), (58, .iload 4, 60, 0), (60, .isub, 61, 0), (61, .iand, 62, 0), (62, .istore_n 2, 63, 0), (63, .iinc 3 3, 66, 0)],
  [(66, .goto (-61), 69, 5), (69, .iload_n 2, 70, 0), (70, .ireturn, 71, 0)]]  -- X8_sortsOf
def jmt_203 : List (List jm_E) := [[(0, .iconst 0, 1, 0), (1, .istore_n 1, 2, 0), (2, .iconst 0, 3, 0), (3, .istore_n 2, 4, 0), (4, .iload_n 2, 5, 0), (5, .iconst 5, 6, 0), (6, .if_icmp .ge 17, 9, 23), (9, .iload_n 1, 10, 0), (10, .iload_n 0, 11, 0), (11, .iload_n 2, 12, 0), (12, .ishr, 13, 0), (13, .iconst 1, 14, 0), (14, .iand, 15, 0), (15, .iadd, 16, 0), (16, .istore_n 1, 17, 0), (17, .iinc 2 1, 20, 0), (20, .goto (-16), 23, 4), (23, .iload_n 1, 24, 0), (24, .ireturn, 25, 0)]]  -- X8_ones
def jmt_204 : List (List jm_E) := [[(0, .aload_n 0, 1, 0), (1, .iload_n 1, 2, 0), (2, .invokevirtual 270, 5, 0), (5, .istore_n 2, 6, 0), (6, .iconst (-1), 7, 0), (7, .istore_n 3, 8, 0), (8, .bipush 6, 10, 0), (10, .istore 4, 12, 0), (12, .iconst 0, 13, 0), (13, .istore 5, 15, 0), (15, .iload 5, 17, 0), (17, .iconst 4, 18, 0), (18, .if_icmp .ge 80, 21, 98), (21, .iload_n 2, 22, 0), (22, .ifCond .eq 76, 25, 98), (25, .iload_n 2, 26, 0), (26, .iload 5, 28, 0), (28, .invokestatic 308, 31, 0), (31, .iand, 32, 0)],
  [(32, .invokestatic 311, 35, 0), (35, .istore 6, 37, 0), (37, .iload_n 2, 38, 0), (38, .invokestatic 311, 41, 0), (41, .iload 6, 43, 0), (43, .isub, 44, 0), (44, .istore 7, 46, 0), (46, .iload 6, 48, 0), (48, .iload 7, 50, 0), (50, .if_icmp .le 8, 53, 58), (53, .iload 6, 55, 0), (55, .goto 5, 58, 60), (58, .iload 7, 60, 0), (60, .istore 8, 62, 0), (62, .iload 8, 64, 0)],
  [(64, .iload 4, 66, 0), (66, .if_icmp .ge 8, 69, 74), (69, .iload 5, 71, 0), (71, .goto 4, 74, 75), (74, .iload_n 3, 75, 0), (75, .istore_n 3, 76, 0), (76, .iload 8, 78, 0), (78, .iload 4, 80, 0), (80, .if_icmp .ge 8, 83, 88), (83, .iload 8, 85, 0), (85, .goto 5, 88, 90), (88, .iload 4, 90, 0), (90, .istore 4, 92, 0), (92, .iinc 5 1, 95, 0), (95, .goto (-80), 98, 15)],
  [(98, .iload_n 3, 99, 0), (99, .ireturn, 100, 0)]]  -- X8_askOf
def jmt_205 : List (List jm_E) := [[(0, .aload_n 0, 1, 0), (1, .ldc2_w 314, 4, 0), (4, .aload_n 0, 5, 0), (5, .getfield 316, 8, 0), (8, .i2l, 9, 0), (9, .lmul, 10, 0), (10, .ldc2_w 319, 13, 0), (13, .ladd, 14, 0), (14, .ldc2_w 321, 17, 0), (17, .land, 18, 0), (18, .l2i, 19, 0), (19, .putfield 316, 22, 0), (22, .aload_n 0, 23, 0), (23, .getfield 316, 26, 0), (26, .ldc_w 323, 29, 0), (29, .idiv, 30, 0), (30, .iload_n 1, 31, 0), (31, .irem, 32, 0)],
  [(32, .ireturn, 33, 0)]]  -- X8_draw
def jmt_206 : List (List jm_E) := [[(0, .iload_n 1, 1, 0), (1, .i2l, 2, 0), (2, .lconst 1, 3, 0), (3, .ldc2_w 306, 6, 0), (6, .invokestatic 79, 9, 0), (9, .ifCond .eq 19, 12, 28), (12, .iload_n 2, 13, 0), (13, .ifCond .lt 15, 16, 28), (16, .iload_n 3, 17, 0), (17, .i2l, 18, 0), (18, .lconst 0, 19, 0), (19, .ldc2_w 183, 22, 0), (22, .invokestatic 79, 25, 0), (25, .ifCond .ne 6, 28, 31), (28, .bipush (-102), 30, 0), (30, .ireturn, 31, 0), (31, .aload_n 0, 32, 0)],
  [(32, .getfield 13, 35, 0), (35, .aload_n 0, 36, 0), (36, .getfield 58, 39, 0), (39, .invokestatic 293, 42, 0), (42, .aload_n 0, 43, 0), (43, .getfield 114, 46, 0), (46, .istore 4, 48, 0), (48, .aload_n 0, 49, 0), (49, .getfield 117, 52, 0), (52, .istore 5, 54, 0), (54, .aload_n 0, 55, 0), (55, .iconst 4, 56, 0), (56, .putfield 114, 59, 0), (59, .aload_n 0, 60, 0), (60, .iconst 3, 61, 0), (61, .putfield 117, 64, 0)],
  [(64, .aload_n 0, 65, 0), (65, .iload_n 2, 66, 0), (66, .putfield 316, 69, 0), (69, .iconst 0, 70, 0), (70, .istore 6, 72, 0), (72, .iconst 0, 73, 0), (73, .istore 7, 75, 0), (75, .iconst 0, 76, 0), (76, .istore 8, 78, 0), (78, .iload 8, 80, 0), (80, .iload_n 1, 81, 0), (81, .if_icmp .ge 67, 84, 148), (84, .iconst 0, 85, 0), (85, .istore 9, 87, 0), (87, .iload 9, 89, 0), (89, .bipush 12, 91, 0), (91, .if_icmp .ge 29, 94, 120), (94, .aload_n 0, 95, 0), (95, .getfield 13, 98, 0)],
  [(98, .iload 9, 100, 0), (100, .aload_n 0, 101, 0), (101, .iconst 3, 102, 0), (102, .invokevirtual 324, 105, 0), (105, .ifCond .ne 7, 108, 112), (108, .iconst (-1), 109, 0), (109, .goto 4, 112, 113), (112, .iconst 0, 113, 0), (113, .iastore, 114, 0), (114, .iinc 9 1, 117, 0), (117, .goto (-30), 120, 87), (120, .aload_n 0, 121, 0), (121, .invokevirtual 232, 124, 0), (124, .iload 6, 126, 0), (126, .aload_n 0, 127, 0), (127, .invokevirtual 290, 130, 0)],
  [(130, .iadd, 131, 0), (131, .istore 6, 133, 0), (133, .iload 7, 135, 0), (135, .aload_n 0, 136, 0), (136, .getfield 151, 139, 0), (139, .iadd, 140, 0), (140, .istore 7, 142, 0), (142, .iinc 8 1, 145, 0), (145, .goto (-67), 148, 78), (148, .aload_n 0, 149, 0), (149, .getfield 58, 152, 0), (152, .aload_n 0, 153, 0), (153, .getfield 13, 156, 0), (156, .invokestatic 293, 159, 0), (159, .aload_n 0, 160, 0)],
  [(160, .iload 4, 162, 0), (162, .putfield 114, 165, 0), (165, .aload_n 0, 166, 0), (166, .iload 5, 168, 0), (168, .putfield 117, 171, 0), (171, .aload_n 0, 172, 0), (172, .iconst 1, 173, 0), (173, .putfield 132, 176, 0), (176, .iload_n 3, 177, 0), (177, .ifCond .ne 8, 180, 185), (180, .iload 6, 182, 0), (182, .goto 17, 185, 199), (185, .iload_n 3, 186, 0), (186, .iconst 1, 187, 0), (187, .if_icmp .ne 8, 190, 195), (190, .iload 7, 192, 0)],
  [(192, .goto 7, 195, 199), (195, .aload_n 0, 196, 0), (196, .getfield 316, 199, 0), (199, .ireturn, 200, 0)]]  -- X8_drawn
def jmt_207 : List (List jm_E) := [[(0, .aload_n 0, 1, 0), (1, .invokevirtual 235, 4, 0), (4, .ifCond .eq 6, 7, 10), (7, .bipush (-103), 9, 0), (9, .ireturn, 10, 0), (10, .aload_n 0, 11, 0), (11, .getfield 13, 14, 0), (14, .aload_n 0, 15, 0), (15, .getfield 67, 18, 0), (18, .invokestatic 293, 21, 0), (21, .aload_n 0, 22, 0), (22, .getfield 64, 25, 0), (25, .aload_n 0, 26, 0), (26, .getfield 70, 29, 0), (29, .invokestatic 293, 32, 0)],
  [(32, .aload_n 0, 33, 0), (33, .aload_n 0, 34, 0), (34, .getfield 114, 37, 0), (37, .putfield 327, 40, 0), (40, .aload_n 0, 41, 0), (41, .aload_n 0, 42, 0), (42, .getfield 117, 45, 0), (45, .putfield 330, 48, 0), (48, .aload_n 0, 49, 0), (49, .aload_n 0, 50, 0), (50, .getfield 120, 53, 0), (53, .putfield 333, 56, 0), (56, .aload_n 0, 57, 0), (57, .aload_n 0, 58, 0), (58, .getfield 123, 61, 0), (61, .putfield 73, 64, 0)],
  [(64, .aload_n 0, 65, 0), (65, .invokevirtual 129, 68, 0), (68, .ireturn, 69, 0)]]  -- X8_image
def jmt_208 : List (List jm_E) := [[(0, .aload_n 0, 1, 0), (1, .getfield 73, 4, 0), (4, .aload_n 0, 5, 0), (5, .getfield 123, 8, 0), (8, .if_icmp .eq 6, 11, 14), (11, .bipush (-103), 13, 0), (13, .ireturn, 14, 0), (14, .aload_n 0, 15, 0), (15, .getfield 67, 18, 0), (18, .aload_n 0, 19, 0), (19, .getfield 13, 22, 0), (22, .invokestatic 293, 25, 0), (25, .aload_n 0, 26, 0), (26, .getfield 70, 29, 0), (29, .aload_n 0, 30, 0), (30, .getfield 64, 33, 0)],
  [(33, .invokestatic 293, 36, 0), (36, .aload_n 0, 37, 0), (37, .aload_n 0, 38, 0), (38, .getfield 327, 41, 0), (41, .putfield 114, 44, 0), (44, .aload_n 0, 45, 0), (45, .aload_n 0, 46, 0), (46, .getfield 330, 49, 0), (49, .putfield 117, 52, 0), (52, .aload_n 0, 53, 0), (53, .aload_n 0, 54, 0), (54, .getfield 333, 57, 0), (57, .putfield 120, 60, 0), (60, .aload_n 0, 61, 0), (61, .invokevirtual 126, 64, 0)],
  [(64, .aload_n 0, 65, 0), (65, .invokevirtual 129, 68, 0), (68, .ireturn, 69, 0)]]  -- X8_restore
def jmt_209 : List (List jm_E) := [[(0, .iconst 0, 1, 0), (1, .istore_n 1, 2, 0), (2, .iconst 0, 3, 0), (3, .istore_n 2, 4, 0), (4, .iload_n 2, 5, 0), (5, .aload_n 0, 6, 0), (6, .getfield 151, 9, 0), (9, .if_icmp .ge 18, 12, 27), (12, .iload_n 1, 13, 0), (13, .aload_n 0, 14, 0), (14, .iload_n 2, 15, 0), (15, .iconst 1, 16, 0), (16, .invokevirtual 251, 19, 0), (19, .iadd, 20, 0), (20, .istore_n 1, 21, 0), (21, .iinc 2 1, 24, 0), (24, .goto (-20), 27, 4), (27, .iload_n 1, 28, 0), (28, .ireturn, 29, 0)]]  -- X8_holes
def jmt_210 : List (List jm_E) := [[(0, .iconst 0, 1, 0), (1, .istore_n 1, 2, 0), (2, .iconst 0, 3, 0), (3, .istore_n 2, 4, 0), (4, .iload_n 2, 5, 0), (5, .iconst 5, 6, 0), (6, .if_icmp .ge 17, 9, 23), (9, .iload_n 1, 10, 0), (10, .aload_n 0, 11, 0), (11, .iload_n 2, 12, 0), (12, .invokevirtual 300, 15, 0), (15, .iadd, 16, 0), (16, .istore_n 1, 17, 0), (17, .iinc 2 1, 20, 0), (20, .goto (-16), 23, 4), (23, .iload_n 1, 24, 0), (24, .ireturn, 25, 0)]]  -- X8_rackedAll
def jmt_211 : List (List jm_E) := [[(0, .aload_n 0, 1, 0), (1, .invokevirtual 235, 4, 0), (4, .ifCond .eq 5, 7, 9), (7, .iconst 0, 8, 0), (8, .ireturn, 9, 0), (9, .aload_n 0, 10, 0), (10, .invokevirtual 238, 13, 0), (13, .iload_n 1, 14, 0), (14, .iconst 3, 15, 0), (15, .if_icmp .ne 10, 18, 25), (18, .aload_n 0, 19, 0), (19, .getfield 151, 22, 0), (22, .goto 19, 25, 41), (25, .iload_n 1, 26, 0), (26, .iconst 4, 27, 0), (27, .if_icmp .ne 10, 30, 37), (30, .aload_n 0, 31, 0), (31, .invokevirtual 336, 34, 0)],
  [(34, .goto 7, 37, 41), (37, .aload_n 0, 38, 0), (38, .invokevirtual 290, 41, 0), (41, .ireturn, 42, 0)]]  -- X8_countOutlines
def jmt_212 : List (List jm_E) := [[(0, .iload_n 1, 1, 0), (1, .tableswitch 105 0 10 #[59, 64, 69, 74, 74, 74, 80, 85, 90, 95, 100], 60, 0)],
  [(60, .aload_n 0, 61, 0), (61, .invokevirtual 129, 64, 0)],
  [(64, .ireturn, 65, 0), (65, .aload_n 0, 66, 0), (66, .getfield 114, 69, 0), (69, .ireturn, 70, 0), (70, .aload_n 0, 71, 0), (71, .getfield 117, 74, 0), (74, .ireturn, 75, 0), (75, .aload_n 0, 76, 0), (76, .iload_n 1, 77, 0), (77, .invokevirtual 339, 80, 0), (80, .ireturn, 81, 0), (81, .aload_n 0, 82, 0), (82, .invokevirtual 342, 85, 0), (85, .ireturn, 86, 0), (86, .aload_n 0, 87, 0), (87, .getfield 120, 90, 0), (90, .ireturn, 91, 0), (91, .aload_n 0, 92, 0), (92, .getfield 83, 95, 0), (95, .ireturn, 96, 0)],
  [(96, .aload_n 0, 97, 0), (97, .getfield 123, 100, 0), (100, .ireturn, 101, 0), (101, .aload_n 0, 102, 0), (102, .getfield 303, 105, 0), (105, .ireturn, 106, 0), (106, .bipush (-102), 108, 0), (108, .ireturn, 109, 0)]]  -- X8_countOf
def jmt_213 : List (List jm_E) := [[(0, .aload_n 0, 1, 0), (1, .iload_n 1, 2, 0), (2, .invokevirtual 345, 5, 0), (5, .ireturn, 6, 0)]]  -- X8_count
def jmt_214 : List (List jm_E) := [[(0, .aload_n 0, 1, 0), (1, .ldc2_w 348, 4, 0), (4, .aload_n 0, 5, 0), (5, .getfield 350, 8, 0), (8, .lmul, 9, 0), (9, .lload_n 1, 10, 0), (10, .ladd, 11, 0), (11, .putfield 350, 14, 0), (14, .return_, 15, 0)]]  -- X8_say
def jmt_215 : List (List jm_E) := [[(0, .iconst 0, 1, 0), (1, .istore_n 2, 2, 0), (2, .iload_n 2, 3, 0), (3, .bipush 7, 5, 0), (5, .if_icmp .ge 20, 8, 25), (8, .aload_n 0, 9, 0), (9, .aload_n 0, 10, 0), (10, .iload_n 1, 11, 0), (11, .iload_n 2, 12, 0), (12, .invokevirtual 251, 15, 0), (15, .i2l, 16, 0), (16, .invokevirtual 354, 19, 0), (19, .iinc 2 1, 22, 0), (22, .goto (-20), 25, 2), (25, .iconst 0, 26, 0), (26, .istore_n 2, 27, 0), (27, .iload_n 2, 28, 0), (28, .aload_n 0, 29, 0), (29, .getfield 19, 32, 0)],
  [(32, .iload_n 1, 33, 0), (33, .iaload, 34, 0), (34, .if_icmp .ge 34, 37, 68), (37, .iconst 0, 38, 0), (38, .istore_n 3, 39, 0), (39, .iload_n 3, 40, 0), (40, .iconst 5, 41, 0), (41, .if_icmp .ge 21, 44, 62), (44, .aload_n 0, 45, 0), (45, .aload_n 0, 46, 0), (46, .iload_n 1, 47, 0), (47, .iload_n 2, 48, 0), (48, .iload_n 3, 49, 0), (49, .invokevirtual 261, 52, 0), (52, .i2l, 53, 0), (53, .invokevirtual 354, 56, 0), (56, .iinc 3 1, 59, 0), (59, .goto (-20), 62, 39), (62, .iinc 2 1, 65, 0)],
  [(65, .goto (-38), 68, 27), (68, .return_, 69, 0)]]  -- X8_sayOutline
def jmt_216 : List (List jm_E) := [[(0, .aload_n 0, 1, 0), (1, .ldc2_w 358, 4, 0), (4, .putfield 350, 7, 0), (7, .iconst 0, 8, 0), (8, .istore_n 1, 9, 0), (9, .iload_n 1, 10, 0), (10, .aload_n 0, 11, 0), (11, .getfield 114, 14, 0), (14, .aload_n 0, 15, 0), (15, .getfield 117, 18, 0), (18, .imul, 19, 0), (19, .if_icmp .ge 33, 22, 52), (22, .iconst 0, 23, 0), (23, .istore_n 2, 24, 0), (24, .iload_n 2, 25, 0), (25, .iconst 3, 26, 0), (26, .if_icmp .ge 20, 29, 46), (29, .aload_n 0, 30, 0), (30, .aload_n 0, 31, 0), (31, .iload_n 1, 32, 0)],
  [(32, .iload_n 2, 33, 0), (33, .invokevirtual 276, 36, 0), (36, .i2l, 37, 0), (37, .invokevirtual 354, 40, 0), (40, .iinc 2 1, 43, 0), (43, .goto (-19), 46, 24), (46, .iinc 1 1, 49, 0), (49, .goto (-40), 52, 9), (52, .aload_n 0, 53, 0), (53, .invokevirtual 235, 56, 0), (56, .ifCond .ne 28, 59, 84), (59, .aload_n 0, 60, 0), (60, .invokevirtual 238, 63, 0), (63, .iconst 0, 64, 0)],
  [(64, .istore_n 1, 65, 0), (65, .iload_n 1, 66, 0), (66, .aload_n 0, 67, 0), (67, .getfield 151, 70, 0), (70, .if_icmp .ge 14, 73, 84), (73, .aload_n 0, 74, 0), (74, .iload_n 1, 75, 0), (75, .invokevirtual 360, 78, 0), (78, .iinc 1 1, 81, 0), (81, .goto (-16), 84, 65), (84, .iconst 0, 85, 0), (85, .istore_n 1, 86, 0), (86, .iload_n 1, 87, 0), (87, .bipush 15, 89, 0), (89, .if_icmp .ge 20, 92, 109), (92, .aload_n 0, 93, 0), (93, .aload_n 0, 94, 0), (94, .getfield 61, 97, 0)],
  [(97, .iload_n 1, 98, 0), (98, .iaload, 99, 0), (99, .i2l, 100, 0), (100, .invokevirtual 354, 103, 0), (103, .iinc 1 1, 106, 0), (106, .goto (-20), 109, 86), (109, .iconst 0, 110, 0), (110, .istore_n 1, 111, 0), (111, .iload_n 1, 112, 0), (112, .aload_n 0, 113, 0), (113, .getfield 83, 116, 0), (116, .if_icmp .ge 20, 119, 136), (119, .aload_n 0, 120, 0), (120, .aload_n 0, 121, 0), (121, .getfield 7, 124, 0), (124, .iload_n 1, 125, 0), (125, .iaload, 126, 0), (126, .i2l, 127, 0), (127, .invokevirtual 354, 130, 0)],
  [(130, .iinc 1 1, 133, 0), (133, .goto (-22), 136, 111), (136, .iconst 0, 137, 0), (137, .istore_n 1, 138, 0), (138, .iload_n 1, 139, 0), (139, .bipush 11, 141, 0), (141, .if_icmp .ge 19, 144, 160), (144, .aload_n 0, 145, 0), (145, .aload_n 0, 146, 0), (146, .iload_n 1, 147, 0), (147, .invokevirtual 345, 150, 0), (150, .i2l, 151, 0), (151, .invokevirtual 354, 154, 0), (154, .iinc 1 1, 157, 0), (157, .goto (-19), 160, 138)],
  [(160, .aload_n 0, 161, 0), (161, .getfield 350, 164, 0), (164, .lreturn, 165, 0)]]  -- X8_digest
def jmu_0 : List jm_E := [(16, .iconst 0, 17, 0), (17, .istore_n 3, 18, 0), (18, .iload_n 3, 19, 0), (19, .aload_n 0, 20, 0), (20, .arraylength, 21, 0), (21, .iconst 4, 22, 0), (22, .isub, 23, 0), (23, .if_icmp .gt 793, 26, 816), (26, .aload_n 0, 27, 0), (27, .iload_n 3, 28, 0), (28, .iaload, 29, 0), (29, .bipush 31, 31, 0), (31, .iand, 32, 0)]
def jmu_1 : List jm_E := [(32, .tableswitch 778 0 24 #[116, 139, 152, 165, 178, 211, 244, 277, 320, 363, 406, 439, 472, 495, 508, 521, 554, 587, 600, 659, 672, 715, 728, 741, 764], 148, 0)]
def jmu_2 : List jm_E := []
def jmu_3 : List jm_E := []
def jmu_4 : List jm_E := [(148, .aload_n 1, 149, 0), (149, .aload_n 0, 150, 0), (150, .iload_n 3, 151, 0), (151, .iconst 1, 152, 0), (152, .iadd, 153, 0), (153, .iaload, 154, 0), (154, .invokevirtual 13, 157, 0), (157, .aload_n 2, 158, 0), (158, .aload_n 0, 159, 0), (159, .iload_n 3, 160, 0)]
def jmu_5 : List jm_E := [(160, .iconst 1, 161, 0), (161, .iadd, 162, 0), (162, .iaload, 163, 0), (163, .invokevirtual 17, 166, 0), (166, .if_icmp .eq 644, 169, 810), (169, .iconst 0, 170, 0), (170, .ireturn, 171, 0), (171, .aload_n 1, 172, 0), (172, .invokevirtual 18, 175, 0), (175, .aload_n 2, 176, 0), (176, .invokevirtual 22, 179, 0), (179, .if_icmp .eq 631, 182, 810), (182, .iconst 0, 183, 0), (183, .ireturn, 184, 0), (184, .aload_n 1, 185, 0), (185, .invokevirtual 23, 188, 0), (188, .aload_n 2, 189, 0), (189, .invokevirtual 26, 192, 0)]
def jmu_6 : List jm_E := [(192, .if_icmp .eq 618, 195, 810), (195, .iconst 0, 196, 0), (196, .ireturn, 197, 0), (197, .aload_n 1, 198, 0), (198, .invokevirtual 27, 201, 0), (201, .aload_n 2, 202, 0), (202, .invokevirtual 30, 205, 0), (205, .if_icmp .eq 605, 208, 810), (208, .iconst 0, 209, 0), (209, .ireturn, 210, 0), (210, .aload_n 1, 211, 0), (211, .aload_n 0, 212, 0), (212, .iload_n 3, 213, 0), (213, .iconst 1, 214, 0), (214, .iadd, 215, 0), (215, .iaload, 216, 0), (216, .aload_n 0, 217, 0), (217, .iload_n 3, 218, 0), (218, .iconst 2, 219, 0), (219, .iadd, 220, 0), (220, .iaload, 221, 0), (221, .invokevirtual 31, 224, 0)]
def jmu_7 : List jm_E := [(224, .aload_n 2, 225, 0), (225, .aload_n 0, 226, 0), (226, .iload_n 3, 227, 0), (227, .iconst 1, 228, 0), (228, .iadd, 229, 0), (229, .iaload, 230, 0), (230, .aload_n 0, 231, 0), (231, .iload_n 3, 232, 0), (232, .iconst 2, 233, 0), (233, .iadd, 234, 0), (234, .iaload, 235, 0), (235, .invokevirtual 35, 238, 0), (238, .if_icmp .eq 572, 241, 810), (241, .iconst 0, 242, 0), (242, .ireturn, 243, 0), (243, .aload_n 1, 244, 0), (244, .aload_n 0, 245, 0), (245, .iload_n 3, 246, 0), (246, .iconst 1, 247, 0), (247, .iadd, 248, 0), (248, .iaload, 249, 0), (249, .aload_n 0, 250, 0), (250, .iload_n 3, 251, 0), (251, .iconst 2, 252, 0), (252, .iadd, 253, 0), (253, .iaload, 254, 0), (254, .invokevirtual 36, 257, 0)]
def jmu_8 : List jm_E := [(257, .aload_n 2, 258, 0), (258, .aload_n 0, 259, 0), (259, .iload_n 3, 260, 0), (260, .iconst 1, 261, 0), (261, .iadd, 262, 0), (262, .iaload, 263, 0), (263, .aload_n 0, 264, 0), (264, .iload_n 3, 265, 0), (265, .iconst 2, 266, 0), (266, .iadd, 267, 0), (267, .iaload, 268, 0), (268, .invokevirtual 39, 271, 0), (271, .if_icmp .eq 539, 274, 810), (274, .iconst 0, 275, 0), (275, .ireturn, 276, 0), (276, .aload_n 1, 277, 0), (277, .aload_n 0, 278, 0), (278, .iload_n 3, 279, 0), (279, .iconst 1, 280, 0), (280, .iadd, 281, 0), (281, .iaload, 282, 0), (282, .aload_n 0, 283, 0), (283, .iload_n 3, 284, 0), (284, .iconst 2, 285, 0), (285, .iadd, 286, 0), (286, .iaload, 287, 0), (287, .invokevirtual 40, 290, 0)]
def jmu_9 : List jm_E := [(290, .aload_n 2, 291, 0), (291, .aload_n 0, 292, 0), (292, .iload_n 3, 293, 0), (293, .iconst 1, 294, 0), (294, .iadd, 295, 0), (295, .iaload, 296, 0), (296, .aload_n 0, 297, 0), (297, .iload_n 3, 298, 0), (298, .iconst 2, 299, 0), (299, .iadd, 300, 0), (300, .iaload, 301, 0), (301, .invokevirtual 43, 304, 0), (304, .if_icmp .eq 506, 307, 810), (307, .iconst 0, 308, 0), (308, .ireturn, 309, 0), (309, .aload_n 1, 310, 0), (310, .aload_n 0, 311, 0), (311, .iload_n 3, 312, 0), (312, .iconst 1, 313, 0), (313, .iadd, 314, 0), (314, .iaload, 315, 0), (315, .aload_n 0, 316, 0), (316, .iload_n 3, 317, 0), (317, .iconst 2, 318, 0), (318, .iadd, 319, 0), (319, .iaload, 320, 0)]
def jmu_10 : List jm_E := [(320, .aload_n 0, 321, 0), (321, .iload_n 3, 322, 0), (322, .iconst 3, 323, 0), (323, .iadd, 324, 0), (324, .iaload, 325, 0), (325, .invokevirtual 44, 328, 0), (328, .aload_n 2, 329, 0), (329, .aload_n 0, 330, 0), (330, .iload_n 3, 331, 0), (331, .iconst 1, 332, 0), (332, .iadd, 333, 0), (333, .iaload, 334, 0), (334, .aload_n 0, 335, 0), (335, .iload_n 3, 336, 0), (336, .iconst 2, 337, 0), (337, .iadd, 338, 0), (338, .iaload, 339, 0), (339, .aload_n 0, 340, 0), (340, .iload_n 3, 341, 0), (341, .iconst 3, 342, 0), (342, .iadd, 343, 0), (343, .iaload, 344, 0), (344, .invokevirtual 48, 347, 0), (347, .if_icmp .eq 463, 350, 810), (350, .iconst 0, 351, 0), (351, .ireturn, 352, 0)]
def jmu_11 : List jm_E := [(352, .aload_n 1, 353, 0), (353, .aload_n 0, 354, 0), (354, .iload_n 3, 355, 0), (355, .iconst 1, 356, 0), (356, .iadd, 357, 0), (357, .iaload, 358, 0), (358, .aload_n 0, 359, 0), (359, .iload_n 3, 360, 0), (360, .iconst 2, 361, 0), (361, .iadd, 362, 0), (362, .iaload, 363, 0), (363, .aload_n 0, 364, 0), (364, .iload_n 3, 365, 0), (365, .iconst 3, 366, 0), (366, .iadd, 367, 0), (367, .iaload, 368, 0), (368, .invokevirtual 49, 371, 0), (371, .aload_n 2, 372, 0), (372, .aload_n 0, 373, 0), (373, .iload_n 3, 374, 0), (374, .iconst 1, 375, 0), (375, .iadd, 376, 0), (376, .iaload, 377, 0), (377, .aload_n 0, 378, 0), (378, .iload_n 3, 379, 0), (379, .iconst 2, 380, 0), (380, .iadd, 381, 0), (381, .iaload, 382, 0), (382, .aload_n 0, 383, 0), (383, .iload_n 3, 384, 0)]
def jmu_12 : List jm_E := [(384, .iconst 3, 385, 0), (385, .iadd, 386, 0), (386, .iaload, 387, 0), (387, .invokevirtual 52, 390, 0), (390, .if_icmp .eq 420, 393, 810), (393, .iconst 0, 394, 0), (394, .ireturn, 395, 0), (395, .aload_n 1, 396, 0), (396, .aload_n 0, 397, 0), (397, .iload_n 3, 398, 0), (398, .iconst 1, 399, 0), (399, .iadd, 400, 0), (400, .iaload, 401, 0), (401, .aload_n 0, 402, 0), (402, .iload_n 3, 403, 0), (403, .iconst 2, 404, 0), (404, .iadd, 405, 0), (405, .iaload, 406, 0), (406, .aload_n 0, 407, 0), (407, .iload_n 3, 408, 0), (408, .iconst 3, 409, 0), (409, .iadd, 410, 0), (410, .iaload, 411, 0), (411, .invokevirtual 53, 414, 0), (414, .aload_n 2, 415, 0), (415, .aload_n 0, 416, 0)]
def jmu_13 : List jm_E := [(416, .iload_n 3, 417, 0), (417, .iconst 1, 418, 0), (418, .iadd, 419, 0), (419, .iaload, 420, 0), (420, .aload_n 0, 421, 0), (421, .iload_n 3, 422, 0), (422, .iconst 2, 423, 0), (423, .iadd, 424, 0), (424, .iaload, 425, 0), (425, .aload_n 0, 426, 0), (426, .iload_n 3, 427, 0), (427, .iconst 3, 428, 0), (428, .iadd, 429, 0), (429, .iaload, 430, 0), (430, .invokevirtual 56, 433, 0), (433, .if_icmp .eq 377, 436, 810), (436, .iconst 0, 437, 0), (437, .ireturn, 438, 0), (438, .aload_n 1, 439, 0), (439, .aload_n 0, 440, 0), (440, .iload_n 3, 441, 0), (441, .iconst 1, 442, 0), (442, .iadd, 443, 0), (443, .iaload, 444, 0), (444, .aload_n 0, 445, 0), (445, .iload_n 3, 446, 0), (446, .iconst 2, 447, 0), (447, .iadd, 448, 0)]
def jmu_14 : List jm_E := [(448, .iaload, 449, 0), (449, .invokevirtual 57, 452, 0), (452, .aload_n 2, 453, 0), (453, .aload_n 0, 454, 0), (454, .iload_n 3, 455, 0), (455, .iconst 1, 456, 0), (456, .iadd, 457, 0), (457, .iaload, 458, 0), (458, .aload_n 0, 459, 0), (459, .iload_n 3, 460, 0), (460, .iconst 2, 461, 0), (461, .iadd, 462, 0), (462, .iaload, 463, 0), (463, .invokevirtual 60, 466, 0), (466, .if_icmp .eq 344, 469, 810), (469, .iconst 0, 470, 0), (470, .ireturn, 471, 0), (471, .aload_n 1, 472, 0), (472, .aload_n 0, 473, 0), (473, .iload_n 3, 474, 0), (474, .iconst 1, 475, 0), (475, .iadd, 476, 0), (476, .iaload, 477, 0), (477, .aload_n 0, 478, 0), (478, .iload_n 3, 479, 0), (479, .iconst 2, 480, 0)]
def jmu_15 : List jm_E := [(480, .iadd, 481, 0), (481, .iaload, 482, 0), (482, .invokevirtual 61, 485, 0), (485, .aload_n 2, 486, 0), (486, .aload_n 0, 487, 0), (487, .iload_n 3, 488, 0), (488, .iconst 1, 489, 0), (489, .iadd, 490, 0), (490, .iaload, 491, 0), (491, .aload_n 0, 492, 0), (492, .iload_n 3, 493, 0), (493, .iconst 2, 494, 0), (494, .iadd, 495, 0), (495, .iaload, 496, 0), (496, .invokevirtual 64, 499, 0), (499, .if_icmp .eq 311, 502, 810), (502, .iconst 0, 503, 0), (503, .ireturn, 504, 0), (504, .aload_n 1, 505, 0), (505, .aload_n 0, 506, 0), (506, .iload_n 3, 507, 0), (507, .iconst 1, 508, 0), (508, .iadd, 509, 0), (509, .iaload, 510, 0), (510, .invokevirtual 65, 513, 0)]
def jmu_16 : List jm_E := [(513, .aload_n 2, 514, 0), (514, .aload_n 0, 515, 0), (515, .iload_n 3, 516, 0), (516, .iconst 1, 517, 0), (517, .iadd, 518, 0), (518, .iaload, 519, 0), (519, .invokevirtual 68, 522, 0), (522, .if_icmp .eq 288, 525, 810), (525, .iconst 0, 526, 0), (526, .ireturn, 527, 0), (527, .aload_n 1, 528, 0), (528, .invokevirtual 69, 531, 0), (531, .aload_n 2, 532, 0), (532, .invokevirtual 72, 535, 0), (535, .if_icmp .eq 275, 538, 810), (538, .iconst 0, 539, 0), (539, .ireturn, 540, 0), (540, .aload_n 1, 541, 0), (541, .invokevirtual 73, 544, 0)]
def jmu_17 : List jm_E := [(544, .aload_n 2, 545, 0), (545, .invokevirtual 76, 548, 0), (548, .if_icmp .eq 262, 551, 810), (551, .iconst 0, 552, 0), (552, .ireturn, 553, 0), (553, .aload_n 1, 554, 0), (554, .aload_n 0, 555, 0), (555, .iload_n 3, 556, 0), (556, .iconst 1, 557, 0), (557, .iadd, 558, 0), (558, .iaload, 559, 0), (559, .aload_n 0, 560, 0), (560, .iload_n 3, 561, 0), (561, .iconst 2, 562, 0), (562, .iadd, 563, 0), (563, .iaload, 564, 0), (564, .invokevirtual 77, 567, 0), (567, .aload_n 2, 568, 0), (568, .aload_n 0, 569, 0), (569, .iload_n 3, 570, 0), (570, .iconst 1, 571, 0), (571, .iadd, 572, 0), (572, .iaload, 573, 0), (573, .aload_n 0, 574, 0), (574, .iload_n 3, 575, 0), (575, .iconst 2, 576, 0)]
def jmu_18 : List jm_E := [(576, .iadd, 577, 0), (577, .iaload, 578, 0), (578, .invokevirtual 80, 581, 0), (581, .if_icmp .eq 229, 584, 810), (584, .iconst 0, 585, 0), (585, .ireturn, 586, 0), (586, .aload_n 1, 587, 0), (587, .aload_n 0, 588, 0), (588, .iload_n 3, 589, 0), (589, .iconst 1, 590, 0), (590, .iadd, 591, 0), (591, .iaload, 592, 0), (592, .aload_n 0, 593, 0), (593, .iload_n 3, 594, 0), (594, .iconst 2, 595, 0), (595, .iadd, 596, 0), (596, .iaload, 597, 0), (597, .invokevirtual 81, 600, 0), (600, .aload_n 2, 601, 0), (601, .aload_n 0, 602, 0), (602, .iload_n 3, 603, 0), (603, .iconst 1, 604, 0), (604, .iadd, 605, 0), (605, .iaload, 606, 0), (606, .aload_n 0, 607, 0), (607, .iload_n 3, 608, 0)]
def jmu_19 : List jm_E := [(608, .iconst 2, 609, 0), (609, .iadd, 610, 0), (610, .iaload, 611, 0), (611, .invokevirtual 84, 614, 0), (614, .if_icmp .eq 196, 617, 810), (617, .iconst 0, 618, 0), (618, .ireturn, 619, 0), (619, .aload_n 1, 620, 0), (620, .invokevirtual 85, 623, 0), (623, .aload_n 2, 624, 0), (624, .invokevirtual 88, 627, 0), (627, .if_icmp .eq 183, 630, 810), (630, .iconst 0, 631, 0), (631, .ireturn, 632, 0), (632, .aload_n 1, 633, 0), (633, .aload_n 0, 634, 0), (634, .iload_n 3, 635, 0), (635, .iconst 1, 636, 0), (636, .iadd, 637, 0), (637, .iaload, 638, 0), (638, .aload_n 0, 639, 0), (639, .iload_n 3, 640, 0)]
def jmu_20 : List jm_E := [(640, .iconst 2, 641, 0), (641, .iadd, 642, 0), (642, .iaload, 643, 0), (643, .aload_n 0, 644, 0), (644, .iload_n 3, 645, 0), (645, .iconst 3, 646, 0), (646, .iadd, 647, 0), (647, .iaload, 648, 0), (648, .ifCond .eq 7, 651, 655), (651, .iconst 1, 652, 0), (652, .goto 4, 655, 656), (655, .iconst 0, 656, 0), (656, .invokevirtual 89, 659, 0), (659, .aload_n 2, 660, 0), (660, .aload_n 0, 661, 0), (661, .iload_n 3, 662, 0), (662, .iconst 1, 663, 0), (663, .iadd, 664, 0), (664, .iaload, 665, 0), (665, .aload_n 0, 666, 0), (666, .iload_n 3, 667, 0), (667, .iconst 2, 668, 0), (668, .iadd, 669, 0), (669, .iaload, 670, 0), (670, .aload_n 0, 671, 0), (671, .iload_n 3, 672, 0)]
def jmu_21 : List jm_E := [(672, .iconst 3, 673, 0), (673, .iadd, 674, 0), (674, .iaload, 675, 0), (675, .ifCond .eq 7, 678, 682), (678, .iconst 1, 679, 0), (679, .goto 4, 682, 683), (682, .iconst 0, 683, 0), (683, .invokevirtual 93, 686, 0), (686, .if_icmp .eq 124, 689, 810), (689, .iconst 0, 690, 0), (690, .ireturn, 691, 0), (691, .aload_n 1, 692, 0), (692, .invokevirtual 94, 695, 0), (695, .aload_n 2, 696, 0), (696, .invokevirtual 97, 699, 0), (699, .if_icmp .eq 111, 702, 810), (702, .iconst 0, 703, 0), (703, .ireturn, 704, 0)]
def jmu_22 : List jm_E := [(704, .aload_n 1, 705, 0), (705, .aload_n 0, 706, 0), (706, .iload_n 3, 707, 0), (707, .iconst 1, 708, 0), (708, .iadd, 709, 0), (709, .iaload, 710, 0), (710, .aload_n 0, 711, 0), (711, .iload_n 3, 712, 0), (712, .iconst 2, 713, 0), (713, .iadd, 714, 0), (714, .iaload, 715, 0), (715, .aload_n 0, 716, 0), (716, .iload_n 3, 717, 0), (717, .iconst 3, 718, 0), (718, .iadd, 719, 0), (719, .iaload, 720, 0), (720, .invokevirtual 98, 723, 0), (723, .aload_n 2, 724, 0), (724, .aload_n 0, 725, 0), (725, .iload_n 3, 726, 0), (726, .iconst 1, 727, 0), (727, .iadd, 728, 0), (728, .iaload, 729, 0), (729, .aload_n 0, 730, 0), (730, .iload_n 3, 731, 0), (731, .iconst 2, 732, 0), (732, .iadd, 733, 0), (733, .iaload, 734, 0), (734, .aload_n 0, 735, 0), (735, .iload_n 3, 736, 0)]
def jmu_23 : List jm_E := [(736, .iconst 3, 737, 0), (737, .iadd, 738, 0), (738, .iaload, 739, 0), (739, .invokevirtual 101, 742, 0), (742, .if_icmp .eq 68, 745, 810), (745, .iconst 0, 746, 0), (746, .ireturn, 747, 0), (747, .aload_n 1, 748, 0), (748, .invokevirtual 102, 751, 0), (751, .aload_n 2, 752, 0), (752, .invokevirtual 105, 755, 0), (755, .if_icmp .eq 55, 758, 810), (758, .iconst 0, 759, 0), (759, .ireturn, 760, 0), (760, .aload_n 1, 761, 0), (761, .invokevirtual 106, 764, 0), (764, .aload_n 2, 765, 0), (765, .invokevirtual 109, 768, 0)]
def jmu_24 : List jm_E := [(768, .if_icmp .eq 42, 771, 810), (771, .iconst 0, 772, 0), (772, .ireturn, 773, 0), (773, .aload_n 1, 774, 0), (774, .aload_n 0, 775, 0), (775, .iload_n 3, 776, 0), (776, .iconst 1, 777, 0), (777, .iadd, 778, 0), (778, .iaload, 779, 0), (779, .invokevirtual 110, 782, 0), (782, .aload_n 2, 783, 0), (783, .aload_n 0, 784, 0), (784, .iload_n 3, 785, 0), (785, .iconst 1, 786, 0), (786, .iadd, 787, 0), (787, .iaload, 788, 0), (788, .invokevirtual 113, 791, 0), (791, .if_icmp .eq 19, 794, 810), (794, .iconst 0, 795, 0), (795, .ireturn, 796, 0), (796, .aload_n 1, 797, 0), (797, .invokevirtual 114, 800, 0)]
def jmu_25 : List jm_E := [(800, .aload_n 2, 801, 0), (801, .invokevirtual 118, 804, 0), (804, .lcmp, 805, 0), (805, .ifCond .eq 5, 808, 810), (808, .iconst 0, 809, 0), (809, .ireturn, 810, 0), (810, .iinc 3 4, 813, 0), (813, .goto (-795), 816, 18), (816, .iconst 1, 817, 0), (817, .ireturn, 818, 0)]
def jmt_217 : List (List jm_E) := [jmu_0, jmu_1, jmu_2, jmu_3, jmu_4, jmu_5, jmu_6, jmu_7, jmu_8, jmu_9, jmu_10, jmu_11, jmu_12, jmu_13, jmu_14, jmu_15, jmu_16, jmu_17, jmu_18, jmu_19, jmu_20, jmu_21, jmu_22, jmu_23, jmu_24, jmu_25]
def jm_TBL : List (List (List (List jm_E))) := [[jmt_0, jmt_1, jmt_2, jmt_3, jmt_4, jmt_5, jmt_6, jmt_7, jmt_8, jmt_9, jmt_10, jmt_11, jmt_12, jmt_13, jmt_14, jmt_15],
  [jmt_16, jmt_17, jmt_18, jmt_19, jmt_20, jmt_21, jmt_22, jmt_23, jmt_24, jmt_25, jmt_26, jmt_27, jmt_28, jmt_29, jmt_30, jmt_31],
  [jmt_32, jmt_33, jmt_34, jmt_35, jmt_36, jmt_37, jmt_38, jmt_39, jmt_40, jmt_41, jmt_42, jmt_43, jmt_44, jmt_45, jmt_46, jmt_47],
  [jmt_48, jmt_49, jmt_50, jmt_51, jmt_52, jmt_53, jmt_54, jmt_55, jmt_56, jmt_57, jmt_58, jmt_59, jmt_60, jmt_61, jmt_62, jmt_63],
  [jmt_64, jmt_65, jmt_66, jmt_67, jmt_68, jmt_69, jmt_70, jmt_71, jmt_72, jmt_73, jmt_74, jmt_75, jmt_76, jmt_77, jmt_78, jmt_79],
  [jmt_80, jmt_81, jmt_82, jmt_83, jmt_84, jmt_85, jmt_86, jmt_87, jmt_88, jmt_89, jmt_90, jmt_91, jmt_92, jmt_93, jmt_94, jmt_95],
  [jmt_96, jmt_97, jmt_98, jmt_99, jmt_100, jmt_101, jmt_102, jmt_103, jmt_104, jmt_105, jmt_106, jmt_107, jmt_108, jmt_109, jmt_110, jmt_111],
  [jmt_112, jmt_113, jmt_114, jmt_115, jmt_116, jmt_117, jmt_118, jmt_119, jmt_120, jmt_121, jmt_122, jmt_123, jmt_124, jmt_125, jmt_126, jmt_127],
  [jmt_128, jmt_129, jmt_130, jmt_131, jmt_132, jmt_133, jmt_134, jmt_135, jmt_136, jmt_137, jmt_138, jmt_139, jmt_140, jmt_141, jmt_142, jmt_143],
  [jmt_144, jmt_145, jmt_146, jmt_147, jmt_148, jmt_149, jmt_150, jmt_151, jmt_152, jmt_153, jmt_154, jmt_155, jmt_156, jmt_157, jmt_158, jmt_159],
  [jmt_160, jmt_161, jmt_162, jmt_163, jmt_164, jmt_165, jmt_166, jmt_167, jmt_168, jmt_169, jmt_170, jmt_171, jmt_172, jmt_173, jmt_174, jmt_175],
  [jmt_176, jmt_177, jmt_178, jmt_179, jmt_180, jmt_181, jmt_182, jmt_183, jmt_184, jmt_185, jmt_186, jmt_187, jmt_188, jmt_189, jmt_190, jmt_191],
  [jmt_192, jmt_193, jmt_194, jmt_195, jmt_196, jmt_197, jmt_198, jmt_199, jmt_200, jmt_201, jmt_202, jmt_203, jmt_204, jmt_205, jmt_206, jmt_207],
  [jmt_208, jmt_209, jmt_210, jmt_211, jmt_212, jmt_213, jmt_214, jmt_215, jmt_216, jmt_217]]
abbrev jm_M : Type := Nat × Nat × Bool × Nat × Nat × Nat × Nat
def jm_MET : List (List jm_M) := [[(12, 1, true, 1, 1, 0, 0), (12, 2, true, 2, 1, 0, 0), (12, 2, true, 2, 1, 0, 0), (13, 1, true, 1, 1, 0, 0), (10, 1, false, 1, 1, 1, 20), (10, 1, false, 1, 5, 0, 0), (10, 1, false, 1, 2, 0, 0), (11, 1, true, 1, 2, 0, 0), (11, 4, true, 6, 1, 0, 0), (11, 4, true, 4, 1, 1, 25), (10, 3, false, 3, 1, 2, 48), (10, 2, false, 2, 1, 3, 70), (0, 1, false, 2, 0, 0, 0), (0, 2, false, 2, 1, 4, 105), (0, 2, false, 7, 0, 4, 105), (0, 2, false, 5, 0, 3, 79)],
  [(0, 3, false, 6, 4, 2, 51), (0, 5, false, 9, 4, 1, 23), (0, 5, false, 6, 0, 0, 0), (0, 3, false, 4, 4, 0, 0), (0, 3, false, 4, 4, 0, 0), (0, 4, false, 8, 0, 0, 0), (0, 3, false, 5, 0, 1, 21), (0, 3, false, 7, 1, 1, 21), (0, 2, false, 2, 1, 0, 0), (0, 2, false, 2, 1, 0, 0), (0, 2, false, 2, 1, 0, 0), (0, 2, false, 2, 2, 0, 0), (1, 1, false, 1, 1, 0, 0), (1, 2, false, 2, 2, 0, 0), (1, 2, false, 2, 1, 1, 21), (1, 3, false, 4, 1, 0, 0)],
  [(1, 3, false, 3, 2, 1, 23), (1, 1, false, 3, 1, 2, 42), (1, 3, false, 4, 0, 0, 0), (1, 3, false, 3, 0, 1, 21), (1, 2, false, 3, 0, 0, 0), (1, 2, false, 4, 0, 2, 43), (1, 2, false, 4, 0, 2, 43), (2, 1, false, 1, 0, 0, 0), (2, 2, false, 3, 0, 3, 83), (2, 3, false, 8, 3, 2, 56), (2, 2, false, 2, 3, 0, 0), (2, 3, false, 3, 2, 0, 0), (2, 2, false, 5, 3, 1, 22), (2, 1, false, 5, 1, 3, 74), (2, 4, false, 8, 1, 2, 47), (2, 3, false, 7, 3, 1, 21)],
  [(3, 2, false, 6, 0, 3, 76), (3, 2, false, 10, 0, 2, 45), (3, 4, true, 5, 2, 0, 0), (3, 4, false, 8, 0, 2, 49), (3, 4, false, 5, 0, 0, 0), (3, 4, false, 6, 1, 1, 24), (3, 2, false, 8, 1, 1, 21), (3, 3, false, 9, 0, 2, 48), (3, 3, true, 6, 1, 1, 23), (3, 2, true, 2, 2, 0, 0), (3, 2, false, 2, 2, 0, 0), (3, 3, false, 3, 2, 1, 21), (3, 4, false, 4, 2, 2, 43), (3, 2, false, 2, 1, 0, 0), (3, 2, false, 2, 1, 0, 0), (3, 2, false, 2, 1, 1, 21)],
  [(3, 2, false, 2, 2, 2, 42), (3, 2, false, 2, 1, 0, 0), (3, 2, false, 2, 1, 0, 0), (3, 2, false, 2, 1, 0, 0), (3, 2, false, 2, 1, 0, 0), (3, 2, false, 2, 2, 0, 0), (3, 1, false, 3, 1, 3, 63), (3, 2, false, 5, 1, 1, 21), (3, 4, false, 4, 1, 1, 21), (3, 4, false, 15, 2, 1, 22), (3, 4, false, 16, 4, 2, 44), (3, 3, true, 3, 1, 0, 0), (3, 3, false, 7, 1, 2, 56), (4, 2, false, 2, 2, 0, 0), (4, 2, false, 2, 1, 0, 0), (4, 1, false, 7, 1, 5, 111)],
  [(4, 2, false, 6, 2, 6, 137), (4, 1, false, 2, 1, 1, 21), (4, 1, true, 1, 2, 4, 91), (5, 1, false, 2, 0, 0, 0), (5, 2, false, 2, 2, 1, 20), (5, 3, false, 3, 1, 2, 41), (5, 3, false, 3, 1, 1, 20), (5, 1, false, 3, 1, 0, 0), (6, 4, false, 4, 2, 0, 0), (6, 2, false, 3, 0, 0, 0), (6, 2, false, 5, 1, 1, 20), (6, 1, true, 6, 1, 1, 21), (6, 1, true, 1, 1, 0, 0), (7, 2, false, 2, 1, 1, 21), (7, 1, false, 2, 1, 0, 0), (7, 1, false, 1, 1, 6, 137)],
  [(7, 1, false, 1, 1, 7, 162), (7, 3, false, 3, 1, 3, 68), (7, 3, false, 3, 1, 2, 42), (7, 3, false, 3, 1, 6, 153), (7, 4, false, 4, 1, 6, 155), (7, 4, false, 4, 1, 3, 66), (7, 4, false, 4, 1, 3, 79), (7, 3, false, 3, 1, 5, 131), (7, 3, false, 3, 1, 5, 121), (7, 2, false, 2, 1, 5, 121), (7, 1, false, 1, 1, 6, 148), (7, 1, false, 1, 1, 6, 148), (7, 3, false, 3, 1, 3, 63), (7, 3, false, 3, 1, 2, 42), (7, 1, false, 1, 1, 6, 151), (7, 4, false, 4, 1, 1, 23)],
  [(7, 1, false, 2, 1, 0, 0), (7, 4, false, 8, 1, 5, 127), (7, 1, false, 1, 1, 3, 64), (7, 1, false, 1, 1, 5, 121), (7, 2, false, 2, 1, 7, 169), (7, 1, false, 5, 3, 7, 182), (7, 3, false, 3, 1, 2, 46), (7, 3, false, 3, 1, 5, 131), (7, 4, false, 5, 1, 5, 131), (7, 2, false, 2, 1, 6, 148), (7, 3, false, 8, 3, 6, 155), (7, 1, false, 1, 0, 4, 101), (7, 1, false, 3, 1, 5, 126), (7, 1, false, 3, 1, 4, 105), (7, 1, false, 5, 1, 5, 127), (7, 1, true, 1, 2, 0, 0)],
  [(7, 2, true, 2, 2, 0, 0), (7, 2, true, 4, 1, 2, 43), (7, 1, true, 4, 1, 0, 0), (8, 3, true, 6, 2, 0, 0), (8, 1, true, 1, 1, 0, 0), (8, 2, true, 3, 0, 0, 0), (8, 2, false, 2, 1, 1, 25), (8, 1, false, 2, 1, 0, 0), (8, 1, true, 1, 1, 0, 0), (8, 1, false, 2, 2, 0, 0), (8, 2, false, 2, 2, 1, 21), (8, 1, false, 2, 1, 2, 42), (8, 1, false, 1, 1, 3, 63), (8, 1, false, 4, 1, 3, 63), (8, 1, false, 2, 0, 0, 0), (8, 1, false, 1, 2, 0, 0)],
  [(8, 2, false, 2, 2, 1, 25), (8, 2, false, 2, 2, 2, 46), (8, 3, false, 3, 1, 1, 25), (8, 1, false, 3, 1, 0, 0), (8, 4, false, 4, 2, 2, 47), (8, 1, true, 1, 1, 0, 0), (8, 1, true, 1, 1, 0, 0), (8, 4, false, 6, 1, 3, 70), (8, 4, false, 6, 1, 2, 47), (8, 5, false, 5, 0, 3, 72), (8, 4, false, 13, 0, 4, 96), (8, 1, false, 6, 0, 5, 128), (8, 4, false, 4, 1, 0, 0), (8, 4, false, 15, 1, 2, 61), (8, 2, true, 7, 1, 1, 35), (8, 3, true, 16, 1, 0, 0)],
  [(8, 1, true, 1, 3, 0, 0), (8, 2, true, 8, 1, 1, 35), (8, 2, false, 5, 0, 3, 95), (8, 4, false, 7, 0, 2, 62), (8, 3, false, 6, 1, 2, 62), (8, 3, false, 4, 0, 0, 0), (8, 2, false, 9, 0, 4, 114), (8, 4, false, 7, 0, 3, 88), (8, 1, false, 2, 0, 6, 153), (8, 1, false, 1, 0, 7, 174), (8, 1, false, 3, 1, 0, 0), (8, 2, false, 2, 2, 8, 194), (8, 3, false, 3, 2, 9, 215), (8, 3, false, 8, 1, 0, 0), (8, 2, false, 4, 1, 0, 0), (8, 3, false, 3, 1, 1, 27)],
  [(8, 3, false, 3, 1, 9, 215), (8, 3, false, 5, 1, 3, 95), (8, 4, false, 5, 1, 4, 119), (8, 4, false, 4, 1, 10, 237), (8, 4, false, 4, 2, 10, 237), (8, 4, false, 4, 1, 11, 260), (8, 4, false, 4, 1, 11, 260), (8, 3, false, 5, 1, 0, 0), (8, 3, false, 3, 1, 9, 215), (8, 3, false, 3, 1, 3, 72), (8, 3, false, 3, 1, 4, 94), (8, 2, true, 2, 2, 0, 0), (8, 3, false, 3, 1, 3, 67), (8, 1, false, 1, 1, 8, 194), (8, 3, false, 3, 1, 9, 214), (8, 2, false, 2, 1, 9, 214)],
  [(8, 1, false, 1, 1, 8, 194), (8, 1, false, 4, 1, 9, 214), (8, 1, false, 2, 1, 9, 214), (8, 2, false, 3, 1, 0, 0), (8, 3, false, 4, 1, 3, 67), (8, 3, false, 3, 1, 1, 25), (8, 1, false, 5, 1, 7, 174), (8, 4, false, 4, 1, 2, 46), (8, 1, false, 2, 1, 0, 0), (8, 1, true, 1, 1, 0, 0), (8, 2, false, 5, 1, 1, 20), (8, 1, true, 3, 1, 0, 0), (8, 2, false, 9, 1, 2, 44), (8, 2, false, 2, 1, 0, 0), (8, 4, false, 10, 1, 7, 174), (8, 1, false, 1, 1, 1, 22)],
  [(8, 1, false, 1, 1, 1, 22), (8, 1, false, 3, 1, 2, 49), (8, 1, false, 3, 1, 1, 22), (8, 2, false, 2, 1, 8, 194), (8, 2, false, 2, 1, 9, 215), (8, 2, false, 2, 1, 10, 236), (8, 2, false, 3, 0, 0, 0), (8, 2, false, 4, 0, 5, 143), (8, 1, false, 3, 3, 10, 236), (9, 1, true, 4, 2, 12, 283)]]
def jm_FL : List (List (Nat × Nat × Nat)) := [[(9, 0, 2), (15, 0, 3), (19, 0, 4), (22, 0, 5), (25, 0, 6), (28, 0, 7), (31, 0, 8), (35, 0, 9), (38, 0, 10), (41, 0, 11), (45, 0, 12), (48, 0, 0), (52, 0, 1)],
  [(9, 1, 0), (15, 1, 1), (19, 1, 2)],
  [(9, 2, 1), (15, 2, 2), (19, 2, 3), (22, 2, 0)],
  [(9, 3, 0), (15, 3, 1), (18, 3, 2), (22, 3, 3), (25, 3, 4), (28, 3, 5), (31, 3, 6), (34, 3, 7), (37, 3, 8), (40, 3, 9), (44, 3, 10), (47, 3, 11), (54, 1, 1), (59, 1, 2)],
  [(11, 4, 0), (15, 4, 1)],
  [(11, 5, 0), (15, 5, 1)],
  [(11, 6, 0), (15, 6, 1), (18, 6, 2), (22, 6, 3)],
  [(10, 7, 0), (19, 7, 1), (23, 7, 2), (26, 7, 3), (32, 7, 4), (36, 7, 5), (42, 7, 6), (49, 7, 7), (58, 7, 8), (67, 7, 9), (71, 7, 10), (74, 7, 11), (77, 7, 12), (81, 7, 13), (85, 7, 14), (92, 4, 1), (107, 6, 3), (175, 3, 0), (279, 1, 1), (282, 1, 2)],
  [(7, 8, 0), (13, 8, 9), (16, 8, 12), (19, 8, 13), (22, 8, 14), (25, 8, 15), (28, 8, 16), (31, 8, 17), (34, 8, 18), (37, 8, 19), (40, 8, 20), (43, 8, 21), (46, 8, 22), (49, 8, 23), (52, 8, 24), (55, 8, 25), (58, 8, 27), (61, 8, 28), (64, 8, 31), (67, 8, 37), (70, 8, 38), (73, 8, 33), (83, 8, 1), (86, 8, 4), (89, 8, 2), (92, 8, 3), (99, 8, 5), (114, 8, 6), (117, 8, 7), (120, 8, 30), (123, 8, 8), (132, 8, 10), (151, 8, 11), (206, 8, 26), (303, 8, 29), (316, 8, 32), (327, 8, 34), (330, 8, 35), (333, 8, 36), (350, 8, 39)],
  [],
  [(9, 10, 1), (15, 10, 0)],
  [],
  [],
  []]
def jm_ML : List (List (Nat × Nat)) := [[(56, 40), (62, 45), (65, 61), (71, 62), (74, 2), (80, 15), (84, 44), (88, 16), (92, 21), (96, 22), (100, 130), (104, 23), (107, 43), (111, 74), (115, 18), (119, 17), (123, 19), (126, 20), (129, 26), (132, 65), (135, 66), (138, 0)],
  [(22, 29), (26, 31), (30, 28), (34, 30), (38, 34), (42, 35)],
  [(26, 62), (32, 2), (38, 41), (42, 61), (45, 73), (49, 69), (53, 43), (57, 44), (61, 46), (65, 47), (69, 42)],
  [(50, 49), (65, 50), (69, 51), (73, 54), (77, 55), (81, 32), (85, 52), (94, 53), (98, 61), (101, 62), (104, 65), (107, 66), (110, 67), (113, 56), (117, 57), (120, 31), (124, 59), (127, 58), (131, 63), (134, 64), (137, 69), (140, 0), (145, 1), (148, 75), (151, 72), (154, 73)],
  [(19, 78), (23, 82), (27, 79), (31, 81), (34, 34), (42, 11), (47, 35), (50, 33)],
  [(18, 127), (22, 84)],
  [(26, 92), (30, 3), (35, 1)],
  [(88, 77), (95, 79), (99, 80), (103, 36), (108, 123), (111, 33), (114, 29), (117, 118), (121, 30), (125, 127), (128, 128), (132, 58), (133, 119), (136, 59), (139, 120), (143, 60), (147, 73), (150, 74), (154, 130), (158, 13), (161, 14), (165, 61), (168, 26), (171, 35), (178, 37), (181, 124), (184, 38), (187, 84), (190, 85), (193, 86), (196, 126), (199, 88), (202, 129), (206, 48), (209, 125), (212, 89), (215, 121), (220, 28), (225, 122), (229, 78), (232, 90), (235, 91), (238, 62), (241, 64), (244, 24), (247, 25), (250, 63), (253, 0), (258, 71), (261, 65), (264, 66), (267, 68), (270, 69), (273, 76), (276, 27), (285, 70), (288, 87), (291, 83), (294, 39), (297, 12), (298, 40), (301, 45), (304, 34)],
  [(79, 131), (95, 137), (102, 136), (106, 138), (110, 139), (126, 142), (129, 147), (136, 144), (139, 146), (143, 148), (147, 152), (154, 149), (157, 150), (160, 151), (163, 153), (167, 154), (171, 132), (174, 156), (177, 158), (185, 159), (196, 160), (200, 157), (203, 161), (209, 165), (213, 164), (216, 163), (219, 167), (222, 155), (225, 162), (229, 166), (232, 168), (235, 143), (238, 169), (241, 171), (244, 173), (248, 174), (251, 175), (254, 177), (257, 172), (261, 178), (264, 180), (267, 183), (270, 202), (273, 204), (276, 185), (279, 145), (284, 187), (287, 189), (290, 170), (293, 133), (297, 192), (300, 195), (308, 201), (311, 203), (324, 205), (336, 209), (339, 211), (342, 210), (345, 212), (354, 214), (360, 215)],
  [(13, 93), (17, 134), (18, 94), (22, 135), (23, 95), (26, 140), (27, 96), (30, 141), (31, 97), (35, 186), (36, 98), (39, 188), (40, 99), (43, 176), (44, 100), (48, 179), (49, 101), (52, 181), (53, 102), (56, 182), (57, 103), (60, 184), (61, 104), (64, 190), (65, 105), (68, 191), (69, 106), (72, 193), (73, 107), (76, 194), (77, 108), (80, 196), (81, 109), (84, 197), (85, 110), (88, 198), (89, 111), (93, 199), (94, 112), (97, 200), (98, 113), (101, 206), (102, 114), (105, 207), (106, 115), (109, 208), (110, 116), (113, 213), (114, 117), (118, 216)],
  [(335, 5), (492, 6), (505, 4), (633, 10), (637, 9)],
  [(38, 2), (88, 7), (92, 1), (95, 8)],
  [],
  []]
def jm_CS : List (List (Nat × jm_V)) := [[(83, jF 3212836864)],
  [],
  [(72, jL (-2))],
  [],
  [(40, jR 83)],
  [],
  [],
  [(218, jL (1439)), (223, jL (31)), (306, jL (1103515245)), (308, jL (12345)), (310, jL (2147483647)), (312, jI (65536)), (313, jF 1258291200)],
  [(77, jL (126)), (181, jL (268435456)), (183, jL (2)), (189, jL (16777216)), (191, jL (8388608)), (193, jL (150)), (195, jI (8388608)), (282, jL (4)), (306, jL (3)), (314, jL (1103515245)), (319, jL (12345)), (321, jL (2147483647)), (323, jI (65536)), (348, jL (31)), (358, jL (1439))],
  [],
  [],
  [],
  [],
  [(265, jI (1431655765)), (266, jI (858993459)), (267, jI (252645135))]]
def jm_ST : List (List (Nat × jm_V)) := [[],
  [],
  [],
  [(62, jR 80), (88, jR 78), (91, jR 79)],
  [],
  [],
  [(41, jR 81)],
  [],
  [],
  [],
  [(38, jI 1)],
  [],
  [],
  []]
abbrev jm_S : Type := (Nat × List (Nat ⊕ Nat)) ⊕ (Nat × Int)
def jm_SH : List jm_S := [.inl (7, [.inr 1, .inr 3, .inr 5, .inr 7, .inr 9, .inr 13, .inr 17, .inr 20, .inr 31, .inr 33, .inr 43, .inr 54, .inl 3, .inl 0, .inl 0]),
  .inl (4, [.inr 2, .inl 0]),
  .inr (0, 32),
  .inl (1, [.inr 4, .inl 0, .inl 0]),
  .inr (0, 25),
  .inl (1, [.inr 6, .inl 0, .inl 0]),
  .inr (0, 25),
  .inl (1, [.inr 8, .inl 0, .inl 0]),
  .inr (0, 25),
  .inl (6, [.inr 10, .inr 11, .inr 12, .inl 0]),
  .inr (0, 6),
  .inr (0, 6),
  .inr (3, 6),
  .inl (6, [.inr 14, .inr 15, .inr 16, .inl 0]),
  .inr (0, 6),
  .inr (0, 6),
  .inr (3, 6),
  .inl (5, [.inr 18, .inr 19]),
  .inr (0, 15),
  .inr (0, 5),
  .inl (3, [.inl 0, .inl 0, .inr 21, .inr 22, .inr 23, .inr 24, .inr 25, .inr 26, .inr 27, .inr 28, .inr 29, .inr 30]),
  .inr (0, 15),
  .inr (0, 15),
  .inr (0, 15),
  .inr (0, 60),
  .inr (0, 60),
  .inr (0, 60),
  .inr (0, 60),
  .inr (3, 60),
  .inr (0, 36),
  .inr (0, 36),
  .inl (2, [.inr 20, .inr 32, .inl 0, .inl 0]),
  .inr (1, 60),
  .inl (0, [.inr 20, .inr 31, .inr 34, .inr 35, .inr 36, .inr 37, .inr 38, .inr 39, .inr 40, .inr 41, .inr 42, .inl 0, .inl 0]),
  .inr (0, 15),
  .inr (3, 15),
  .inr (0, 15),
  .inr (0, 15),
  .inr (0, 60),
  .inr (3, 60),
  .inr (2, 3600),
  .inr (2, 3600),
  .inr (0, 3600),
  .inl (3, [.inl 0, .inl 0, .inr 44, .inr 45, .inr 46, .inr 47, .inr 48, .inr 49, .inr 50, .inr 51, .inr 52, .inr 53]),
  .inr (0, 15),
  .inr (0, 15),
  .inr (0, 15),
  .inr (0, 60),
  .inr (0, 60),
  .inr (0, 60),
  .inr (0, 60),
  .inr (3, 60),
  .inr (0, 36),
  .inr (0, 36),
  .inl (2, [.inr 43, .inr 55, .inl 0, .inl 0]),
  .inr (1, 60),
  .inl (8, [.inr 57, .inl 0, .inl 0, .inl 0, .inl 0, .inl 0, .inl 0, .inl 0, .inl 0, .inr 58, .inl 3, .inl 0, .inr 59, .inr 60, .inr 61, .inr 62, .inr 63, .inr 64, .inr 65, .inr 66, .inr 67, .inr 68, .inr 69, .inr 70, .inr 71, .inr 72, .inl 0, .inr 73, .inr 74, .inl 0, .inl 0, .inr 75, .inl 0, .inl 0, .inl 0, .inl 0, .inl 0, .inr 76, .inr 77, .inl 1]),
  .inr (0, 32),
  .inr (0, 25),
  .inr (0, 32),
  .inr (0, 32),
  .inr (0, 160),
  .inr (0, 160),
  .inr (0, 160),
  .inr (0, 160),
  .inr (0, 160),
  .inr (0, 144),
  .inr (0, 16384),
  .inr (0, 128),
  .inr (0, 128),
  .inr (0, 16384),
  .inr (0, 32),
  .inr (0, 32),
  .inr (0, 25),
  .inr (0, 15),
  .inr (0, 18),
  .inr (0, 25),
  .inr (0, 18),
  .inr (10, 4),
  .inr (10, 4),
  .inr (10, 4),
  .inr (10, 4),
  .inr (11, 0),
  .inl (10, [.inl 10, .inr 84]),
  .inr (14, 5)]
def jm_SC (k : Nat) (j : Int) : Int := (([[1, 0, -1, 0], [0, 1, 0, -1], [2, 3, 1, 0], [6, 4, 23, 16], [], [], [100, 104, 115, 116, 108]] : List (List Int)).getD (k - 78) []).getD j.toNat 0
def jm_fl (L : List (List jm_E)) (pc : Nat) : Option (Instr × Nat × Nat) :=
  match (L.getD (pc / 32) []).find? (fun e => Nat.beq e.1 pc) with
  | some e => some e.2
  | none => none
def jm_TB (x : Nat) : List (List jm_E) := (jm_TBL.getD (x / 16) []).getD (x % 16) []
def jm_me (x : Nat) : jm_M := (jm_MET.getD (x / 16) []).getD (x % 16) (0, 0, false, 0, 0, 0, 0)
def jm_fe (x pc : Nat) : Option (Instr × Nat × Nat) := jm_fl (jm_TB x) pc
def jm_pf {α : Type} (L : List (List (Nat × α))) (c i : Nat) : Option α :=
  match (L.getD c []).find? (fun e => Nat.beq e.1 i) with
  | some e => some e.2
  | none => none
def jm_sh (k : Nat) : jm_S := jm_SH.getD k (.inr (99, 0))
end
section
-- ===== PART A: goes FIRST, ahead of the names: the tables' words, and 'selects' of the private methods out of them =====
/-- a private method of a class that the tables say can be made, by its rows of tables_1 -/
def lw_okq (q : MethodName × Nat) : Prop := (q.1.cls ≠ "java/lang/invoke/MethodHandle" ∧ q.1.cls ≠ "java/lang/invoke/VarHandle") ∧ Cond.instantiable q.1.cls q.2 ∈ tables_1 ∧ Cond.privateMethod q.1 ∈ tables_1 ∧ Cond.instanceMethod q.1 ∈ tables_1
theorem lw_p0 : lw_okq (⟨"BlobCorners$Page", "append", "(I)Z"⟩, 2) := ⟨⟨by decide +kernel, by decide +kernel⟩, List.mem_of_getElem? (i := 26) (by decide +kernel), List.mem_of_getElem? (i := 256) (by decide +kernel), List.mem_of_getElem? (i := 257) (by decide +kernel)⟩
theorem lw_p1 : lw_okq (⟨"BlobCorners$Page", "firstFault", "()I"⟩, 2) := ⟨⟨by decide +kernel, by decide +kernel⟩, List.mem_of_getElem? (i := 26) (by decide +kernel), List.mem_of_getElem? (i := 268) (by decide +kernel), List.mem_of_getElem? (i := 269) (by decide +kernel)⟩
theorem lw_p2 : lw_okq (⟨"BlobCorners$Page", "codeAt", "(I)I"⟩, 2) := ⟨⟨by decide +kernel, by decide +kernel⟩, List.mem_of_getElem? (i := 26) (by decide +kernel), List.mem_of_getElem? (i := 272) (by decide +kernel), List.mem_of_getElem? (i := 273) (by decide +kernel)⟩
theorem lw_p3 : lw_okq (⟨"BlobCorners$Page", "readInto", "(LBlobCorners$Grid;)Z"⟩, 2) := ⟨⟨by decide +kernel, by decide +kernel⟩, List.mem_of_getElem? (i := 26) (by decide +kernel), List.mem_of_getElem? (i := 371) (by decide +kernel), List.mem_of_getElem? (i := 372) (by decide +kernel)⟩
theorem lw_p4 : lw_okq (⟨"BlobCorners$Page", "firstRowLength", "()I"⟩, 2) := ⟨⟨by decide +kernel, by decide +kernel⟩, List.mem_of_getElem? (i := 26) (by decide +kernel), List.mem_of_getElem? (i := 376) (by decide +kernel), List.mem_of_getElem? (i := 377) (by decide +kernel)⟩
theorem lw_p5 : lw_okq (⟨"BlobCorners$Grid", "clear", "(II)V"⟩, 3) := ⟨⟨by decide +kernel, by decide +kernel⟩, List.mem_of_getElem? (i := 41) (by decide +kernel), List.mem_of_getElem? (i := 380) (by decide +kernel), List.mem_of_getElem? (i := 381) (by decide +kernel)⟩
theorem lw_p6 : lw_okq (⟨"BlobCorners$Grid", "set", "(II)V"⟩, 3) := ⟨⟨by decide +kernel, by decide +kernel⟩, List.mem_of_getElem? (i := 41) (by decide +kernel), List.mem_of_getElem? (i := 384) (by decide +kernel), List.mem_of_getElem? (i := 385) (by decide +kernel)⟩
theorem lw_p7 : lw_okq (⟨"BlobCorners$Grid", "has", "(I)Z"⟩, 3) := ⟨⟨by decide +kernel, by decide +kernel⟩, List.mem_of_getElem? (i := 41) (by decide +kernel), List.mem_of_getElem? (i := 388) (by decide +kernel), List.mem_of_getElem? (i := 389) (by decide +kernel)⟩
theorem lw_p8 : lw_okq (⟨"BlobCorners$Grid", "dots", "()I"⟩, 3) := ⟨⟨by decide +kernel, by decide +kernel⟩, List.mem_of_getElem? (i := 41) (by decide +kernel), List.mem_of_getElem? (i := 392) (by decide +kernel), List.mem_of_getElem? (i := 393) (by decide +kernel)⟩
theorem lw_p9 : lw_okq (⟨"BlobCorners$Grid", "places", "()I"⟩, 3) := ⟨⟨by decide +kernel, by decide +kernel⟩, List.mem_of_getElem? (i := 41) (by decide +kernel), List.mem_of_getElem? (i := 396) (by decide +kernel), List.mem_of_getElem? (i := 397) (by decide +kernel)⟩
theorem lw_p10 : lw_okq (⟨"BlobCorners$Grid", "kindAt", "(I)I"⟩, 3) := ⟨⟨by decide +kernel, by decide +kernel⟩, List.mem_of_getElem? (i := 41) (by decide +kernel), List.mem_of_getElem? (i := 400) (by decide +kernel), List.mem_of_getElem? (i := 401) (by decide +kernel)⟩
theorem lw_p11 : lw_okq (⟨"BlobCorners$Grid", "copyFrom", "(LBlobCorners$Grid;)V"⟩, 3) := ⟨⟨by decide +kernel, by decide +kernel⟩, List.mem_of_getElem? (i := 41) (by decide +kernel), List.mem_of_getElem? (i := 404) (by decide +kernel), List.mem_of_getElem? (i := 405) (by decide +kernel)⟩
theorem lw_p12 : lw_okq (⟨"BlobCorners", "dotsChanged", "()V"⟩, 15) := ⟨⟨by decide +kernel, by decide +kernel⟩, List.mem_of_getElem? (i := 18) (by decide +kernel), List.mem_of_getElem? (i := 408) (by decide +kernel), List.mem_of_getElem? (i := 409) (by decide +kernel)⟩
theorem lw_p13 : lw_okq (⟨"BlobCorners$Racks", "clear", "()V"⟩, 2) := ⟨⟨by decide +kernel, by decide +kernel⟩, List.mem_of_getElem? (i := 82) (by decide +kernel), List.mem_of_getElem? (i := 412) (by decide +kernel), List.mem_of_getElem? (i := 413) (by decide +kernel)⟩
theorem lw_p14 : lw_okq (⟨"BlobCorners$Outlines", "trace", "(LBlobCorners$Grid;)V"⟩, 12) := ⟨⟨by decide +kernel, by decide +kernel⟩, List.mem_of_getElem? (i := 95) (by decide +kernel), List.mem_of_getElem? (i := 416) (by decide +kernel), List.mem_of_getElem? (i := 417) (by decide +kernel)⟩
theorem lw_p15 : lw_okq (⟨"BlobCorners$Outlines", "findEdges", "(LBlobCorners$Grid;)V"⟩, 12) := ⟨⟨by decide +kernel, by decide +kernel⟩, List.mem_of_getElem? (i := 95) (by decide +kernel), List.mem_of_getElem? (i := 420) (by decide +kernel), List.mem_of_getElem? (i := 421) (by decide +kernel)⟩
def lw_privs_1 : List (MethodName × Nat) := [(⟨"BlobCorners$Page", "append", "(I)Z"⟩, 2), (⟨"BlobCorners$Page", "firstFault", "()I"⟩, 2), (⟨"BlobCorners$Page", "codeAt", "(I)I"⟩, 2), (⟨"BlobCorners$Page", "readInto", "(LBlobCorners$Grid;)Z"⟩, 2), (⟨"BlobCorners$Page", "firstRowLength", "()I"⟩, 2), (⟨"BlobCorners$Grid", "clear", "(II)V"⟩, 3), (⟨"BlobCorners$Grid", "set", "(II)V"⟩, 3), (⟨"BlobCorners$Grid", "has", "(I)Z"⟩, 3), (⟨"BlobCorners$Grid", "dots", "()I"⟩, 3), (⟨"BlobCorners$Grid", "places", "()I"⟩, 3), (⟨"BlobCorners$Grid", "kindAt", "(I)I"⟩, 3), (⟨"BlobCorners$Grid", "copyFrom", "(LBlobCorners$Grid;)V"⟩, 3), (⟨"BlobCorners", "dotsChanged", "()V"⟩, 15), (⟨"BlobCorners$Racks", "clear", "()V"⟩, 2), (⟨"BlobCorners$Outlines", "trace", "(LBlobCorners$Grid;)V"⟩, 12), (⟨"BlobCorners$Outlines", "findEdges", "(LBlobCorners$Grid;)V"⟩, 12)]
theorem lw_r1 : ∀ q ∈ lw_privs_1, lw_okq q := List.forall_mem_cons.mpr ⟨lw_p0, List.forall_mem_cons.mpr ⟨lw_p1, List.forall_mem_cons.mpr ⟨lw_p2, List.forall_mem_cons.mpr ⟨lw_p3, List.forall_mem_cons.mpr ⟨lw_p4, List.forall_mem_cons.mpr ⟨lw_p5, List.forall_mem_cons.mpr ⟨lw_p6, List.forall_mem_cons.mpr ⟨lw_p7, List.forall_mem_cons.mpr ⟨lw_p8, List.forall_mem_cons.mpr ⟨lw_p9, List.forall_mem_cons.mpr ⟨lw_p10, List.forall_mem_cons.mpr ⟨lw_p11, List.forall_mem_cons.mpr ⟨lw_p12, List.forall_mem_cons.mpr ⟨lw_p13, List.forall_mem_cons.mpr ⟨lw_p14, List.forall_mem_cons.mpr ⟨lw_p15, fun _ h => absurd h List.not_mem_nil⟩⟩⟩⟩⟩⟩⟩⟩⟩⟩⟩⟩⟩⟩⟩⟩
theorem lw_p16 : lw_okq (⟨"BlobCorners$Grid", "hasDot", "(II)Z"⟩, 3) := ⟨⟨by decide +kernel, by decide +kernel⟩, List.mem_of_getElem? (i := 41) (by decide +kernel), List.mem_of_getElem? (i := 424) (by decide +kernel), List.mem_of_getElem? (i := 425) (by decide +kernel)⟩
theorem lw_p17 : lw_okq (⟨"BlobCorners$Grid", "kindAtCell", "(II)I"⟩, 3) := ⟨⟨by decide +kernel, by decide +kernel⟩, List.mem_of_getElem? (i := 41) (by decide +kernel), List.mem_of_getElem? (i := 428) (by decide +kernel), List.mem_of_getElem? (i := 429) (by decide +kernel)⟩
theorem lw_p18 : lw_okq (⟨"BlobCorners$Outlines", "follow", "(III)V"⟩, 12) := ⟨⟨by decide +kernel, by decide +kernel⟩, List.mem_of_getElem? (i := 95) (by decide +kernel), List.mem_of_getElem? (i := 437) (by decide +kernel), List.mem_of_getElem? (i := 438) (by decide +kernel)⟩
theorem lw_p19 : lw_okq (⟨"BlobCorners$Outlines", "addPoint", "(III)V"⟩, 12) := ⟨⟨by decide +kernel, by decide +kernel⟩, List.mem_of_getElem? (i := 95) (by decide +kernel), List.mem_of_getElem? (i := 441) (by decide +kernel), List.mem_of_getElem? (i := 442) (by decide +kernel)⟩
theorem lw_p20 : lw_okq (⟨"BlobCorners$Outlines", "nextWay", "(III)I"⟩, 12) := ⟨⟨by decide +kernel, by decide +kernel⟩, List.mem_of_getElem? (i := 95) (by decide +kernel), List.mem_of_getElem? (i := 449) (by decide +kernel), List.mem_of_getElem? (i := 450) (by decide +kernel)⟩
theorem lw_p21 : lw_okq (⟨"BlobCorners$Outlines", "signedArea", "(I)I"⟩, 12) := ⟨⟨by decide +kernel, by decide +kernel⟩, List.mem_of_getElem? (i := 95) (by decide +kernel), List.mem_of_getElem? (i := 453) (by decide +kernel), List.mem_of_getElem? (i := 454) (by decide +kernel)⟩
theorem lw_p22 : lw_okq (⟨"BlobCorners$Outlines", "startOf", "(I)I"⟩, 12) := ⟨⟨by decide +kernel, by decide +kernel⟩, List.mem_of_getElem? (i := 95) (by decide +kernel), List.mem_of_getElem? (i := 457) (by decide +kernel), List.mem_of_getElem? (i := 458) (by decide +kernel)⟩
theorem lw_p23 : lw_okq (⟨"BlobCorners$Outlines", "lengthOf", "(I)I"⟩, 12) := ⟨⟨by decide +kernel, by decide +kernel⟩, List.mem_of_getElem? (i := 95) (by decide +kernel), List.mem_of_getElem? (i := 461) (by decide +kernel), List.mem_of_getElem? (i := 462) (by decide +kernel)⟩
theorem lw_p24 : lw_okq (⟨"BlobCorners$Outlines", "xAt", "(I)I"⟩, 12) := ⟨⟨by decide +kernel, by decide +kernel⟩, List.mem_of_getElem? (i := 95) (by decide +kernel), List.mem_of_getElem? (i := 465) (by decide +kernel), List.mem_of_getElem? (i := 466) (by decide +kernel)⟩
theorem lw_p25 : lw_okq (⟨"BlobCorners$Outlines", "yAt", "(I)I"⟩, 12) := ⟨⟨by decide +kernel, by decide +kernel⟩, List.mem_of_getElem? (i := 95) (by decide +kernel), List.mem_of_getElem? (i := 469) (by decide +kernel), List.mem_of_getElem? (i := 470) (by decide +kernel)⟩
theorem lw_p26 : lw_okq (⟨"BlobCorners$Outlines", "describePoints", "(LBlobCorners$Grid;I)V"⟩, 12) := ⟨⟨by decide +kernel, by decide +kernel⟩, List.mem_of_getElem? (i := 95) (by decide +kernel), List.mem_of_getElem? (i := 473) (by decide +kernel), List.mem_of_getElem? (i := 474) (by decide +kernel)⟩
theorem lw_p27 : lw_okq (⟨"BlobCorners$Outlines", "wayAt", "(I)I"⟩, 12) := ⟨⟨by decide +kernel, by decide +kernel⟩, List.mem_of_getElem? (i := 95) (by decide +kernel), List.mem_of_getElem? (i := 477) (by decide +kernel), List.mem_of_getElem? (i := 478) (by decide +kernel)⟩
theorem lw_p28 : lw_okq (⟨"BlobCorners$Joints", "reset", "()V"⟩, 4) := ⟨⟨by decide +kernel, by decide +kernel⟩, List.mem_of_getElem? (i := 139) (by decide +kernel), List.mem_of_getElem? (i := 488) (by decide +kernel), List.mem_of_getElem? (i := 489) (by decide +kernel)⟩
theorem lw_p29 : lw_okq (⟨"BlobCorners$BestPolygons", "reset", "()V"⟩, 13) := ⟨⟨by decide +kernel, by decide +kernel⟩, List.mem_of_getElem? (i := 159) (by decide +kernel), List.mem_of_getElem? (i := 492) (by decide +kernel), List.mem_of_getElem? (i := 493) (by decide +kernel)⟩
theorem lw_p30 : lw_okq (⟨"BlobCorners", "dotAnswer", "(II)I"⟩, 15) := ⟨⟨by decide +kernel, by decide +kernel⟩, List.mem_of_getElem? (i := 18) (by decide +kernel), List.mem_of_getElem? (i := 502) (by decide +kernel), List.mem_of_getElem? (i := 503) (by decide +kernel)⟩
theorem lw_p31 : lw_okq (⟨"BlobCorners$Seen", "sortsOf", "(I)I"⟩, 4) := ⟨⟨by decide +kernel, by decide +kernel⟩, List.mem_of_getElem? (i := 61) (by decide +kernel), List.mem_of_getElem? (i := 507) (by decide +kernel), List.mem_of_getElem? (i := 508) (by decide +kernel)⟩
def lw_privs_2 : List (MethodName × Nat) := [(⟨"BlobCorners$Grid", "hasDot", "(II)Z"⟩, 3), (⟨"BlobCorners$Grid", "kindAtCell", "(II)I"⟩, 3), (⟨"BlobCorners$Outlines", "follow", "(III)V"⟩, 12), (⟨"BlobCorners$Outlines", "addPoint", "(III)V"⟩, 12), (⟨"BlobCorners$Outlines", "nextWay", "(III)I"⟩, 12), (⟨"BlobCorners$Outlines", "signedArea", "(I)I"⟩, 12), (⟨"BlobCorners$Outlines", "startOf", "(I)I"⟩, 12), (⟨"BlobCorners$Outlines", "lengthOf", "(I)I"⟩, 12), (⟨"BlobCorners$Outlines", "xAt", "(I)I"⟩, 12), (⟨"BlobCorners$Outlines", "yAt", "(I)I"⟩, 12), (⟨"BlobCorners$Outlines", "describePoints", "(LBlobCorners$Grid;I)V"⟩, 12), (⟨"BlobCorners$Outlines", "wayAt", "(I)I"⟩, 12), (⟨"BlobCorners$Joints", "reset", "()V"⟩, 4), (⟨"BlobCorners$BestPolygons", "reset", "()V"⟩, 13), (⟨"BlobCorners", "dotAnswer", "(II)I"⟩, 15), (⟨"BlobCorners$Seen", "sortsOf", "(I)I"⟩, 4)]
theorem lw_r2 : ∀ q ∈ lw_privs_2, lw_okq q := List.forall_mem_cons.mpr ⟨lw_p16, List.forall_mem_cons.mpr ⟨lw_p17, List.forall_mem_cons.mpr ⟨lw_p18, List.forall_mem_cons.mpr ⟨lw_p19, List.forall_mem_cons.mpr ⟨lw_p20, List.forall_mem_cons.mpr ⟨lw_p21, List.forall_mem_cons.mpr ⟨lw_p22, List.forall_mem_cons.mpr ⟨lw_p23, List.forall_mem_cons.mpr ⟨lw_p24, List.forall_mem_cons.mpr ⟨lw_p25, List.forall_mem_cons.mpr ⟨lw_p26, List.forall_mem_cons.mpr ⟨lw_p27, List.forall_mem_cons.mpr ⟨lw_p28, List.forall_mem_cons.mpr ⟨lw_p29, List.forall_mem_cons.mpr ⟨lw_p30, List.forall_mem_cons.mpr ⟨lw_p31, fun _ h => absurd h List.not_mem_nil⟩⟩⟩⟩⟩⟩⟩⟩⟩⟩⟩⟩⟩⟩⟩⟩
theorem lw_p32 : lw_okq (⟨"BlobCorners$Outlines", "has", "(I)Z"⟩, 12) := ⟨⟨by decide +kernel, by decide +kernel⟩, List.mem_of_getElem? (i := 95) (by decide +kernel), List.mem_of_getElem? (i := 540) (by decide +kernel), List.mem_of_getElem? (i := 541) (by decide +kernel)⟩
theorem lw_p33 : lw_okq (⟨"BlobCorners", "outlineAnswer", "(II)I"⟩, 15) := ⟨⟨by decide +kernel, by decide +kernel⟩, List.mem_of_getElem? (i := 18) (by decide +kernel), List.mem_of_getElem? (i := 544) (by decide +kernel), List.mem_of_getElem? (i := 545) (by decide +kernel)⟩
theorem lw_p34 : lw_okq (⟨"BlobCorners$Outlines", "isHole", "(I)Z"⟩, 12) := ⟨⟨by decide +kernel, by decide +kernel⟩, List.mem_of_getElem? (i := 95) (by decide +kernel), List.mem_of_getElem? (i := 549) (by decide +kernel), List.mem_of_getElem? (i := 550) (by decide +kernel)⟩
theorem lw_p35 : lw_okq (⟨"BlobCorners$Outlines", "areaOf", "(I)I"⟩, 12) := ⟨⟨by decide +kernel, by decide +kernel⟩, List.mem_of_getElem? (i := 95) (by decide +kernel), List.mem_of_getElem? (i := 553) (by decide +kernel), List.mem_of_getElem? (i := 554) (by decide +kernel)⟩
theorem lw_p36 : lw_okq (⟨"BlobCorners$BestPolygons", "fewestOf", "(I)I"⟩, 13) := ⟨⟨by decide +kernel, by decide +kernel⟩, List.mem_of_getElem? (i := 159) (by decide +kernel), List.mem_of_getElem? (i := 558) (by decide +kernel), List.mem_of_getElem? (i := 559) (by decide +kernel)⟩
theorem lw_p37 : lw_okq (⟨"BlobCorners$Joints", "fill", "(I)V"⟩, 4) := ⟨⟨by decide +kernel, by decide +kernel⟩, List.mem_of_getElem? (i := 139) (by decide +kernel), List.mem_of_getElem? (i := 562) (by decide +kernel), List.mem_of_getElem? (i := 563) (by decide +kernel)⟩
theorem lw_p38 : lw_okq (⟨"BlobCorners$Joints", "jointsFrom", "(II)J"⟩, 4) := ⟨⟨by decide +kernel, by decide +kernel⟩, List.mem_of_getElem? (i := 139) (by decide +kernel), List.mem_of_getElem? (i := 568) (by decide +kernel), List.mem_of_getElem? (i := 569) (by decide +kernel)⟩
theorem lw_p39 : lw_okq (⟨"BlobCorners$Outlines", "canJoin", "(III)Z"⟩, 12) := ⟨⟨by decide +kernel, by decide +kernel⟩, List.mem_of_getElem? (i := 95) (by decide +kernel), List.mem_of_getElem? (i := 573) (by decide +kernel), List.mem_of_getElem? (i := 574) (by decide +kernel)⟩
theorem lw_p40 : lw_okq (⟨"BlobCorners$Outlines", "mustAt", "(I)Z"⟩, 12) := ⟨⟨by decide +kernel, by decide +kernel⟩, List.mem_of_getElem? (i := 95) (by decide +kernel), List.mem_of_getElem? (i := 584) (by decide +kernel), List.mem_of_getElem? (i := 585) (by decide +kernel)⟩
theorem lw_p41 : lw_okq (⟨"BlobCorners$Joints", "fewest", "()I"⟩, 4) := ⟨⟨by decide +kernel, by decide +kernel⟩, List.mem_of_getElem? (i := 139) (by decide +kernel), List.mem_of_getElem? (i := 588) (by decide +kernel), List.mem_of_getElem? (i := 589) (by decide +kernel)⟩
theorem lw_p42 : lw_okq (⟨"BlobCorners$Joints", "lastOnes", "(I)J"⟩, 4) := ⟨⟨by decide +kernel, by decide +kernel⟩, List.mem_of_getElem? (i := 139) (by decide +kernel), List.mem_of_getElem? (i := 592) (by decide +kernel), List.mem_of_getElem? (i := 593) (by decide +kernel)⟩
theorem lw_p43 : lw_okq (⟨"BlobCorners$Joints", "are", "(II)Z"⟩, 4) := ⟨⟨by decide +kernel, by decide +kernel⟩, List.mem_of_getElem? (i := 139) (by decide +kernel), List.mem_of_getElem? (i := 596) (by decide +kernel), List.mem_of_getElem? (i := 597) (by decide +kernel)⟩
theorem lw_p44 : lw_okq (⟨"BlobCorners$Joints", "fewestFrom", "(IJI)I"⟩, 4) := ⟨⟨by decide +kernel, by decide +kernel⟩, List.mem_of_getElem? (i := 139) (by decide +kernel), List.mem_of_getElem? (i := 600) (by decide +kernel), List.mem_of_getElem? (i := 601) (by decide +kernel)⟩
theorem lw_p45 : lw_okq (⟨"BlobCorners$Joints", "next", "(JI)J"⟩, 4) := ⟨⟨by decide +kernel, by decide +kernel⟩, List.mem_of_getElem? (i := 139) (by decide +kernel), List.mem_of_getElem? (i := 604) (by decide +kernel), List.mem_of_getElem? (i := 605) (by decide +kernel)⟩
theorem lw_p46 : lw_okq (⟨"BlobCorners$Joints", "from", "(I)J"⟩, 4) := ⟨⟨by decide +kernel, by decide +kernel⟩, List.mem_of_getElem? (i := 139) (by decide +kernel), List.mem_of_getElem? (i := 608) (by decide +kernel), List.mem_of_getElem? (i := 609) (by decide +kernel)⟩
theorem lw_p47 : lw_okq (⟨"BlobCorners$BestPolygons", "solve", "(I)V"⟩, 13) := ⟨⟨by decide +kernel, by decide +kernel⟩, List.mem_of_getElem? (i := 159) (by decide +kernel), List.mem_of_getElem? (i := 613) (by decide +kernel), List.mem_of_getElem? (i := 614) (by decide +kernel)⟩
def lw_privs_3 : List (MethodName × Nat) := [(⟨"BlobCorners$Outlines", "has", "(I)Z"⟩, 12), (⟨"BlobCorners", "outlineAnswer", "(II)I"⟩, 15), (⟨"BlobCorners$Outlines", "isHole", "(I)Z"⟩, 12), (⟨"BlobCorners$Outlines", "areaOf", "(I)I"⟩, 12), (⟨"BlobCorners$BestPolygons", "fewestOf", "(I)I"⟩, 13), (⟨"BlobCorners$Joints", "fill", "(I)V"⟩, 4), (⟨"BlobCorners$Joints", "jointsFrom", "(II)J"⟩, 4), (⟨"BlobCorners$Outlines", "canJoin", "(III)Z"⟩, 12), (⟨"BlobCorners$Outlines", "mustAt", "(I)Z"⟩, 12), (⟨"BlobCorners$Joints", "fewest", "()I"⟩, 4), (⟨"BlobCorners$Joints", "lastOnes", "(I)J"⟩, 4), (⟨"BlobCorners$Joints", "are", "(II)Z"⟩, 4), (⟨"BlobCorners$Joints", "fewestFrom", "(IJI)I"⟩, 4), (⟨"BlobCorners$Joints", "next", "(JI)J"⟩, 4), (⟨"BlobCorners$Joints", "from", "(I)J"⟩, 4), (⟨"BlobCorners$BestPolygons", "solve", "(I)V"⟩, 13)]
theorem lw_r3 : ∀ q ∈ lw_privs_3, lw_okq q := List.forall_mem_cons.mpr ⟨lw_p32, List.forall_mem_cons.mpr ⟨lw_p33, List.forall_mem_cons.mpr ⟨lw_p34, List.forall_mem_cons.mpr ⟨lw_p35, List.forall_mem_cons.mpr ⟨lw_p36, List.forall_mem_cons.mpr ⟨lw_p37, List.forall_mem_cons.mpr ⟨lw_p38, List.forall_mem_cons.mpr ⟨lw_p39, List.forall_mem_cons.mpr ⟨lw_p40, List.forall_mem_cons.mpr ⟨lw_p41, List.forall_mem_cons.mpr ⟨lw_p42, List.forall_mem_cons.mpr ⟨lw_p43, List.forall_mem_cons.mpr ⟨lw_p44, List.forall_mem_cons.mpr ⟨lw_p45, List.forall_mem_cons.mpr ⟨lw_p46, List.forall_mem_cons.mpr ⟨lw_p47, fun _ h => absurd h List.not_mem_nil⟩⟩⟩⟩⟩⟩⟩⟩⟩⟩⟩⟩⟩⟩⟩⟩
theorem lw_p48 : lw_okq (⟨"BlobCorners$BestPolygons", "fillPenalties", "(I)V"⟩, 13) := ⟨⟨by decide +kernel, by decide +kernel⟩, List.mem_of_getElem? (i := 159) (by decide +kernel), List.mem_of_getElem? (i := 620) (by decide +kernel), List.mem_of_getElem? (i := 621) (by decide +kernel)⟩
theorem lw_p49 : lw_okq (⟨"BlobCorners$Outlines", "penaltyOf", "(III)F"⟩, 12) := ⟨⟨by decide +kernel, by decide +kernel⟩, List.mem_of_getElem? (i := 95) (by decide +kernel), List.mem_of_getElem? (i := 625) (by decide +kernel), List.mem_of_getElem? (i := 626) (by decide +kernel)⟩
theorem lw_p50 : lw_okq (⟨"BlobCorners$Outlines", "beside", "(III)I"⟩, 12) := ⟨⟨by decide +kernel, by decide +kernel⟩, List.mem_of_getElem? (i := 95) (by decide +kernel), List.mem_of_getElem? (i := 629) (by decide +kernel), List.mem_of_getElem? (i := 630) (by decide +kernel)⟩
theorem lw_p51 : lw_okq (⟨"BlobCorners$BestPolygons", "sumRound", "(II)F"⟩, 13) := ⟨⟨by decide +kernel, by decide +kernel⟩, List.mem_of_getElem? (i := 159) (by decide +kernel), List.mem_of_getElem? (i := 635) (by decide +kernel), List.mem_of_getElem? (i := 636) (by decide +kernel)⟩
theorem lw_p52 : lw_okq (⟨"BlobCorners$BestPolygons", "setSum", "(IIFI)V"⟩, 13) := ⟨⟨by decide +kernel, by decide +kernel⟩, List.mem_of_getElem? (i := 159) (by decide +kernel), List.mem_of_getElem? (i := 639) (by decide +kernel), List.mem_of_getElem? (i := 640) (by decide +kernel)⟩
theorem lw_p53 : lw_okq (⟨"BlobCorners$BestPolygons", "leastInto", "(IIII)F"⟩, 13) := ⟨⟨by decide +kernel, by decide +kernel⟩, List.mem_of_getElem? (i := 159) (by decide +kernel), List.mem_of_getElem? (i := 643) (by decide +kernel), List.mem_of_getElem? (i := 644) (by decide +kernel)⟩
theorem lw_p54 : lw_okq (⟨"BlobCorners$BestPolygons", "sumAt", "(II)F"⟩, 13) := ⟨⟨by decide +kernel, by decide +kernel⟩, List.mem_of_getElem? (i := 159) (by decide +kernel), List.mem_of_getElem? (i := 647) (by decide +kernel), List.mem_of_getElem? (i := 648) (by decide +kernel)⟩
theorem lw_p55 : lw_okq (⟨"BlobCorners$BestPolygons", "penaltyAt", "(II)F"⟩, 13) := ⟨⟨by decide +kernel, by decide +kernel⟩, List.mem_of_getElem? (i := 159) (by decide +kernel), List.mem_of_getElem? (i := 651) (by decide +kernel), List.mem_of_getElem? (i := 652) (by decide +kernel)⟩
theorem lw_p56 : lw_okq (⟨"BlobCorners$BestPolygons", "keepCorners", "(III)V"⟩, 13) := ⟨⟨by decide +kernel, by decide +kernel⟩, List.mem_of_getElem? (i := 159) (by decide +kernel), List.mem_of_getElem? (i := 655) (by decide +kernel), List.mem_of_getElem? (i := 656) (by decide +kernel)⟩
theorem lw_p57 : lw_okq (⟨"BlobCorners$BestPolygons", "markCorners", "(II)V"⟩, 13) := ⟨⟨by decide +kernel, by decide +kernel⟩, List.mem_of_getElem? (i := 159) (by decide +kernel), List.mem_of_getElem? (i := 659) (by decide +kernel), List.mem_of_getElem? (i := 660) (by decide +kernel)⟩
theorem lw_p58 : lw_okq (⟨"BlobCorners$BestPolygons", "cornerAt", "(I)I"⟩, 13) := ⟨⟨by decide +kernel, by decide +kernel⟩, List.mem_of_getElem? (i := 159) (by decide +kernel), List.mem_of_getElem? (i := 663) (by decide +kernel), List.mem_of_getElem? (i := 664) (by decide +kernel)⟩
theorem lw_p59 : lw_okq (⟨"BlobCorners$BestPolygons", "polygonArea", "(II)I"⟩, 13) := ⟨⟨by decide +kernel, by decide +kernel⟩, List.mem_of_getElem? (i := 159) (by decide +kernel), List.mem_of_getElem? (i := 671) (by decide +kernel), List.mem_of_getElem? (i := 672) (by decide +kernel)⟩
theorem lw_p60 : lw_okq (⟨"BlobCorners$BestPolygons", "bitsAt", "(I)I"⟩, 13) := ⟨⟨by decide +kernel, by decide +kernel⟩, List.mem_of_getElem? (i := 159) (by decide +kernel), List.mem_of_getElem? (i := 678) (by decide +kernel), List.mem_of_getElem? (i := 679) (by decide +kernel)⟩
theorem lw_p61 : lw_okq (⟨"BlobCorners$BestPolygons", "areaAt", "(I)I"⟩, 13) := ⟨⟨by decide +kernel, by decide +kernel⟩, List.mem_of_getElem? (i := 159) (by decide +kernel), List.mem_of_getElem? (i := 682) (by decide +kernel), List.mem_of_getElem? (i := 683) (by decide +kernel)⟩
theorem lw_p62 : lw_okq (⟨"BlobCorners$Outlines", "mustCount", "(I)I"⟩, 12) := ⟨⟨by decide +kernel, by decide +kernel⟩, List.mem_of_getElem? (i := 95) (by decide +kernel), List.mem_of_getElem? (i := 688) (by decide +kernel), List.mem_of_getElem? (i := 689) (by decide +kernel)⟩
theorem lw_p63 : lw_okq (⟨"BlobCorners$Outlines", "hasPoint", "(II)Z"⟩, 12) := ⟨⟨by decide +kernel, by decide +kernel⟩, List.mem_of_getElem? (i := 95) (by decide +kernel), List.mem_of_getElem? (i := 697) (by decide +kernel), List.mem_of_getElem? (i := 698) (by decide +kernel)⟩
def lw_privs_4 : List (MethodName × Nat) := [(⟨"BlobCorners$BestPolygons", "fillPenalties", "(I)V"⟩, 13), (⟨"BlobCorners$Outlines", "penaltyOf", "(III)F"⟩, 12), (⟨"BlobCorners$Outlines", "beside", "(III)I"⟩, 12), (⟨"BlobCorners$BestPolygons", "sumRound", "(II)F"⟩, 13), (⟨"BlobCorners$BestPolygons", "setSum", "(IIFI)V"⟩, 13), (⟨"BlobCorners$BestPolygons", "leastInto", "(IIII)F"⟩, 13), (⟨"BlobCorners$BestPolygons", "sumAt", "(II)F"⟩, 13), (⟨"BlobCorners$BestPolygons", "penaltyAt", "(II)F"⟩, 13), (⟨"BlobCorners$BestPolygons", "keepCorners", "(III)V"⟩, 13), (⟨"BlobCorners$BestPolygons", "markCorners", "(II)V"⟩, 13), (⟨"BlobCorners$BestPolygons", "cornerAt", "(I)I"⟩, 13), (⟨"BlobCorners$BestPolygons", "polygonArea", "(II)I"⟩, 13), (⟨"BlobCorners$BestPolygons", "bitsAt", "(I)I"⟩, 13), (⟨"BlobCorners$BestPolygons", "areaAt", "(I)I"⟩, 13), (⟨"BlobCorners$Outlines", "mustCount", "(I)I"⟩, 12), (⟨"BlobCorners$Outlines", "hasPoint", "(II)Z"⟩, 12)]
theorem lw_r4 : ∀ q ∈ lw_privs_4, lw_okq q := List.forall_mem_cons.mpr ⟨lw_p48, List.forall_mem_cons.mpr ⟨lw_p49, List.forall_mem_cons.mpr ⟨lw_p50, List.forall_mem_cons.mpr ⟨lw_p51, List.forall_mem_cons.mpr ⟨lw_p52, List.forall_mem_cons.mpr ⟨lw_p53, List.forall_mem_cons.mpr ⟨lw_p54, List.forall_mem_cons.mpr ⟨lw_p55, List.forall_mem_cons.mpr ⟨lw_p56, List.forall_mem_cons.mpr ⟨lw_p57, List.forall_mem_cons.mpr ⟨lw_p58, List.forall_mem_cons.mpr ⟨lw_p59, List.forall_mem_cons.mpr ⟨lw_p60, List.forall_mem_cons.mpr ⟨lw_p61, List.forall_mem_cons.mpr ⟨lw_p62, List.forall_mem_cons.mpr ⟨lw_p63, fun _ h => absurd h List.not_mem_nil⟩⟩⟩⟩⟩⟩⟩⟩⟩⟩⟩⟩⟩⟩⟩⟩
theorem lw_p64 : lw_okq (⟨"BlobCorners", "pointAnswer", "(III)I"⟩, 15) := ⟨⟨by decide +kernel, by decide +kernel⟩, List.mem_of_getElem? (i := 18) (by decide +kernel), List.mem_of_getElem? (i := 701) (by decide +kernel), List.mem_of_getElem? (i := 702) (by decide +kernel)⟩
theorem lw_p65 : lw_okq (⟨"BlobCorners$Outlines", "leewayAt", "(I)I"⟩, 12) := ⟨⟨by decide +kernel, by decide +kernel⟩, List.mem_of_getElem? (i := 95) (by decide +kernel), List.mem_of_getElem? (i := 708) (by decide +kernel), List.mem_of_getElem? (i := 709) (by decide +kernel)⟩
theorem lw_p66 : lw_okq (⟨"BlobCorners$Outlines", "reachOf", "(II)I"⟩, 12) := ⟨⟨by decide +kernel, by decide +kernel⟩, List.mem_of_getElem? (i := 95) (by decide +kernel), List.mem_of_getElem? (i := 713) (by decide +kernel), List.mem_of_getElem? (i := 714) (by decide +kernel)⟩
theorem lw_p67 : lw_okq (⟨"BlobCorners$BestPolygons", "isCornerAt", "(I)Z"⟩, 13) := ⟨⟨by decide +kernel, by decide +kernel⟩, List.mem_of_getElem? (i := 159) (by decide +kernel), List.mem_of_getElem? (i := 718) (by decide +kernel), List.mem_of_getElem? (i := 719) (by decide +kernel)⟩
theorem lw_p68 : lw_okq (⟨"BlobCorners$Outlines", "hasPair", "(III)Z"⟩, 12) := ⟨⟨by decide +kernel, by decide +kernel⟩, List.mem_of_getElem? (i := 95) (by decide +kernel), List.mem_of_getElem? (i := 726) (by decide +kernel), List.mem_of_getElem? (i := 727) (by decide +kernel)⟩
theorem lw_p69 : lw_okq (⟨"BlobCorners$Grid", "turnFrom", "(LBlobCorners$Grid;)V"⟩, 3) := ⟨⟨by decide +kernel, by decide +kernel⟩, List.mem_of_getElem? (i := 41) (by decide +kernel), List.mem_of_getElem? (i := 756) (by decide +kernel), List.mem_of_getElem? (i := 757) (by decide +kernel)⟩
theorem lw_p70 : lw_okq (⟨"BlobCorners", "allCorners", "()I"⟩, 15) := ⟨⟨by decide +kernel, by decide +kernel⟩, List.mem_of_getElem? (i := 18) (by decide +kernel), List.mem_of_getElem? (i := 762) (by decide +kernel), List.mem_of_getElem? (i := 763) (by decide +kernel)⟩
theorem lw_p71 : lw_okq (⟨"BlobCorners$Grid", "mirrorFrom", "(LBlobCorners$Grid;)V"⟩, 3) := ⟨⟨by decide +kernel, by decide +kernel⟩, List.mem_of_getElem? (i := 41) (by decide +kernel), List.mem_of_getElem? (i := 770) (by decide +kernel), List.mem_of_getElem? (i := 771) (by decide +kernel)⟩
theorem lw_p72 : lw_okq (⟨"BlobCorners$Racks", "isFull", "(I)Z"⟩, 2) := ⟨⟨by decide +kernel, by decide +kernel⟩, List.mem_of_getElem? (i := 82) (by decide +kernel), List.mem_of_getElem? (i := 778) (by decide +kernel), List.mem_of_getElem? (i := 779) (by decide +kernel)⟩
theorem lw_p73 : lw_okq (⟨"BlobCorners$Racks", "add", "(II)I"⟩, 2) := ⟨⟨by decide +kernel, by decide +kernel⟩, List.mem_of_getElem? (i := 82) (by decide +kernel), List.mem_of_getElem? (i := 783) (by decide +kernel), List.mem_of_getElem? (i := 784) (by decide +kernel)⟩
theorem lw_p74 : lw_okq (⟨"BlobCorners$Racks", "placeAt", "(II)I"⟩, 2) := ⟨⟨by decide +kernel, by decide +kernel⟩, List.mem_of_getElem? (i := 82) (by decide +kernel), List.mem_of_getElem? (i := 792) (by decide +kernel), List.mem_of_getElem? (i := 793) (by decide +kernel)⟩
theorem lw_p75 : lw_okq (⟨"BlobCorners", "heaviestPlace", "()I"⟩, 15) := ⟨⟨by decide +kernel, by decide +kernel⟩, List.mem_of_getElem? (i := 18) (by decide +kernel), List.mem_of_getElem? (i := 800) (by decide +kernel), List.mem_of_getElem? (i := 801) (by decide +kernel)⟩
theorem lw_p76 : lw_okq (⟨"BlobCorners", "triedCorners", "()I"⟩, 15) := ⟨⟨by decide +kernel, by decide +kernel⟩, List.mem_of_getElem? (i := 18) (by decide +kernel), List.mem_of_getElem? (i := 805) (by decide +kernel), List.mem_of_getElem? (i := 806) (by decide +kernel)⟩
theorem lw_p77 : lw_okq (⟨"BlobCorners$Seen", "add", "(IIZ)Z"⟩, 4) := ⟨⟨by decide +kernel, by decide +kernel⟩, List.mem_of_getElem? (i := 61) (by decide +kernel), List.mem_of_getElem? (i := 815) (by decide +kernel), List.mem_of_getElem? (i := 816) (by decide +kernel)⟩
theorem lw_p78 : lw_okq (⟨"BlobCorners$Seen", "copyFrom", "(LBlobCorners$Seen;)V"⟩, 4) := ⟨⟨by decide +kernel, by decide +kernel⟩, List.mem_of_getElem? (i := 61) (by decide +kernel), List.mem_of_getElem? (i := 839) (by decide +kernel), List.mem_of_getElem? (i := 840) (by decide +kernel)⟩
theorem lw_p79 : lw_okq (⟨"BlobCorners", "countAnswer", "(I)I"⟩, 15) := ⟨⟨by decide +kernel, by decide +kernel⟩, List.mem_of_getElem? (i := 18) (by decide +kernel), List.mem_of_getElem? (i := 851) (by decide +kernel), List.mem_of_getElem? (i := 852) (by decide +kernel)⟩
def lw_privs_5 : List (MethodName × Nat) := [(⟨"BlobCorners", "pointAnswer", "(III)I"⟩, 15), (⟨"BlobCorners$Outlines", "leewayAt", "(I)I"⟩, 12), (⟨"BlobCorners$Outlines", "reachOf", "(II)I"⟩, 12), (⟨"BlobCorners$BestPolygons", "isCornerAt", "(I)Z"⟩, 13), (⟨"BlobCorners$Outlines", "hasPair", "(III)Z"⟩, 12), (⟨"BlobCorners$Grid", "turnFrom", "(LBlobCorners$Grid;)V"⟩, 3), (⟨"BlobCorners", "allCorners", "()I"⟩, 15), (⟨"BlobCorners$Grid", "mirrorFrom", "(LBlobCorners$Grid;)V"⟩, 3), (⟨"BlobCorners$Racks", "isFull", "(I)Z"⟩, 2), (⟨"BlobCorners$Racks", "add", "(II)I"⟩, 2), (⟨"BlobCorners$Racks", "placeAt", "(II)I"⟩, 2), (⟨"BlobCorners", "heaviestPlace", "()I"⟩, 15), (⟨"BlobCorners", "triedCorners", "()I"⟩, 15), (⟨"BlobCorners$Seen", "add", "(IIZ)Z"⟩, 4), (⟨"BlobCorners$Seen", "copyFrom", "(LBlobCorners$Seen;)V"⟩, 4), (⟨"BlobCorners", "countAnswer", "(I)I"⟩, 15)]
theorem lw_r5 : ∀ q ∈ lw_privs_5, lw_okq q := List.forall_mem_cons.mpr ⟨lw_p64, List.forall_mem_cons.mpr ⟨lw_p65, List.forall_mem_cons.mpr ⟨lw_p66, List.forall_mem_cons.mpr ⟨lw_p67, List.forall_mem_cons.mpr ⟨lw_p68, List.forall_mem_cons.mpr ⟨lw_p69, List.forall_mem_cons.mpr ⟨lw_p70, List.forall_mem_cons.mpr ⟨lw_p71, List.forall_mem_cons.mpr ⟨lw_p72, List.forall_mem_cons.mpr ⟨lw_p73, List.forall_mem_cons.mpr ⟨lw_p74, List.forall_mem_cons.mpr ⟨lw_p75, List.forall_mem_cons.mpr ⟨lw_p76, List.forall_mem_cons.mpr ⟨lw_p77, List.forall_mem_cons.mpr ⟨lw_p78, List.forall_mem_cons.mpr ⟨lw_p79, fun _ h => absurd h List.not_mem_nil⟩⟩⟩⟩⟩⟩⟩⟩⟩⟩⟩⟩⟩⟩⟩⟩
theorem lw_p80 : lw_okq (⟨"BlobCorners$Outlines", "holes", "()I"⟩, 12) := ⟨⟨by decide +kernel, by decide +kernel⟩, List.mem_of_getElem? (i := 95) (by decide +kernel), List.mem_of_getElem? (i := 855) (by decide +kernel), List.mem_of_getElem? (i := 856) (by decide +kernel)⟩
theorem lw_p81 : lw_okq (⟨"BlobCorners$Racks", "total", "()I"⟩, 2) := ⟨⟨by decide +kernel, by decide +kernel⟩, List.mem_of_getElem? (i := 82) (by decide +kernel), List.mem_of_getElem? (i := 860) (by decide +kernel), List.mem_of_getElem? (i := 861) (by decide +kernel)⟩
theorem lw_p82 : lw_okq (⟨"BlobCorners", "digestOutline", "(JI)J"⟩, 15) := ⟨⟨by decide +kernel, by decide +kernel⟩, List.mem_of_getElem? (i := 18) (by decide +kernel), List.mem_of_getElem? (i := 870) (by decide +kernel), List.mem_of_getElem? (i := 871) (by decide +kernel)⟩
theorem lw_p83 : lw_okq (⟨"BlobCornersModel", "faultOf", "()I"⟩, 40) := ⟨⟨by decide +kernel, by decide +kernel⟩, List.mem_of_getElem? (i := 875) (by decide +kernel), List.mem_of_getElem? (i := 1018) (by decide +kernel), List.mem_of_getElem? (i := 1019) (by decide +kernel)⟩
theorem lw_p84 : lw_okq (⟨"BlobCornersModel", "isGood", "(I)Z"⟩, 40) := ⟨⟨by decide +kernel, by decide +kernel⟩, List.mem_of_getElem? (i := 875) (by decide +kernel), List.mem_of_getElem? (i := 1022) (by decide +kernel), List.mem_of_getElem? (i := 1023) (by decide +kernel)⟩
theorem lw_p85 : lw_okq (⟨"BlobCornersModel", "isRowEnd", "()Z"⟩, 40) := ⟨⟨by decide +kernel, by decide +kernel⟩, List.mem_of_getElem? (i := 875) (by decide +kernel), List.mem_of_getElem? (i := 1026) (by decide +kernel), List.mem_of_getElem? (i := 1027) (by decide +kernel)⟩
theorem lw_p86 : lw_okq (⟨"BlobCornersModel", "changed", "()V"⟩, 40) := ⟨⟨by decide +kernel, by decide +kernel⟩, List.mem_of_getElem? (i := 875) (by decide +kernel), List.mem_of_getElem? (i := 1037) (by decide +kernel), List.mem_of_getElem? (i := 1038) (by decide +kernel)⟩
theorem lw_p87 : lw_okq (⟨"BlobCornersModel", "dotMany", "()I"⟩, 40) := ⟨⟨by decide +kernel, by decide +kernel⟩, List.mem_of_getElem? (i := 875) (by decide +kernel), List.mem_of_getElem? (i := 1041) (by decide +kernel), List.mem_of_getElem? (i := 1042) (by decide +kernel)⟩
theorem lw_p88 : lw_okq (⟨"BlobCornersModel", "isOutline", "(I)Z"⟩, 40) := ⟨⟨by decide +kernel, by decide +kernel⟩, List.mem_of_getElem? (i := 875) (by decide +kernel), List.mem_of_getElem? (i := 1049) (by decide +kernel), List.mem_of_getElem? (i := 1050) (by decide +kernel)⟩
theorem lw_p89 : lw_okq (⟨"BlobCornersModel", "lacks", "()Z"⟩, 40) := ⟨⟨by decide +kernel, by decide +kernel⟩, List.mem_of_getElem? (i := 875) (by decide +kernel), List.mem_of_getElem? (i := 1053) (by decide +kernel), List.mem_of_getElem? (i := 1054) (by decide +kernel)⟩
theorem lw_p90 : lw_okq (⟨"BlobCornersModel", "freshen", "()V"⟩, 40) := ⟨⟨by decide +kernel, by decide +kernel⟩, List.mem_of_getElem? (i := 875) (by decide +kernel), List.mem_of_getElem? (i := 1057) (by decide +kernel), List.mem_of_getElem? (i := 1058) (by decide +kernel)⟩
theorem lw_p91 : lw_okq (⟨"BlobCornersModel", "layAll", "()V"⟩, 40) := ⟨⟨by decide +kernel, by decide +kernel⟩, List.mem_of_getElem? (i := 875) (by decide +kernel), List.mem_of_getElem? (i := 1061) (by decide +kernel), List.mem_of_getElem? (i := 1062) (by decide +kernel)⟩
theorem lw_p92 : lw_okq (⟨"BlobCornersModel", "layOutlines", "()V"⟩, 40) := ⟨⟨by decide +kernel, by decide +kernel⟩, List.mem_of_getElem? (i := 875) (by decide +kernel), List.mem_of_getElem? (i := 1065) (by decide +kernel), List.mem_of_getElem? (i := 1066) (by decide +kernel)⟩
theorem lw_p93 : lw_okq (⟨"BlobCornersModel", "isEdge", "(III)Z"⟩, 40) := ⟨⟨by decide +kernel, by decide +kernel⟩, List.mem_of_getElem? (i := 875) (by decide +kernel), List.mem_of_getElem? (i := 1069) (by decide +kernel), List.mem_of_getElem? (i := 1070) (by decide +kernel)⟩
theorem lw_p94 : lw_okq (⟨"BlobCornersModel", "kindAt", "(II)I"⟩, 40) := ⟨⟨by decide +kernel, by decide +kernel⟩, List.mem_of_getElem? (i := 875) (by decide +kernel), List.mem_of_getElem? (i := 1073) (by decide +kernel), List.mem_of_getElem? (i := 1074) (by decide +kernel)⟩
theorem lw_p95 : lw_okq (⟨"BlobCornersModel", "walk", "(III)V"⟩, 40) := ⟨⟨by decide +kernel, by decide +kernel⟩, List.mem_of_getElem? (i := 875) (by decide +kernel), List.mem_of_getElem? (i := 1077) (by decide +kernel), List.mem_of_getElem? (i := 1078) (by decide +kernel)⟩
def lw_privs_6 : List (MethodName × Nat) := [(⟨"BlobCorners$Outlines", "holes", "()I"⟩, 12), (⟨"BlobCorners$Racks", "total", "()I"⟩, 2), (⟨"BlobCorners", "digestOutline", "(JI)J"⟩, 15), (⟨"BlobCornersModel", "faultOf", "()I"⟩, 40), (⟨"BlobCornersModel", "isGood", "(I)Z"⟩, 40), (⟨"BlobCornersModel", "isRowEnd", "()Z"⟩, 40), (⟨"BlobCornersModel", "changed", "()V"⟩, 40), (⟨"BlobCornersModel", "dotMany", "()I"⟩, 40), (⟨"BlobCornersModel", "isOutline", "(I)Z"⟩, 40), (⟨"BlobCornersModel", "lacks", "()Z"⟩, 40), (⟨"BlobCornersModel", "freshen", "()V"⟩, 40), (⟨"BlobCornersModel", "layAll", "()V"⟩, 40), (⟨"BlobCornersModel", "layOutlines", "()V"⟩, 40), (⟨"BlobCornersModel", "isEdge", "(III)Z"⟩, 40), (⟨"BlobCornersModel", "kindAt", "(II)I"⟩, 40), (⟨"BlobCornersModel", "walk", "(III)V"⟩, 40)]
theorem lw_r6 : ∀ q ∈ lw_privs_6, lw_okq q := List.forall_mem_cons.mpr ⟨lw_p80, List.forall_mem_cons.mpr ⟨lw_p81, List.forall_mem_cons.mpr ⟨lw_p82, List.forall_mem_cons.mpr ⟨lw_p83, List.forall_mem_cons.mpr ⟨lw_p84, List.forall_mem_cons.mpr ⟨lw_p85, List.forall_mem_cons.mpr ⟨lw_p86, List.forall_mem_cons.mpr ⟨lw_p87, List.forall_mem_cons.mpr ⟨lw_p88, List.forall_mem_cons.mpr ⟨lw_p89, List.forall_mem_cons.mpr ⟨lw_p90, List.forall_mem_cons.mpr ⟨lw_p91, List.forall_mem_cons.mpr ⟨lw_p92, List.forall_mem_cons.mpr ⟨lw_p93, List.forall_mem_cons.mpr ⟨lw_p94, List.forall_mem_cons.mpr ⟨lw_p95, fun _ h => absurd h List.not_mem_nil⟩⟩⟩⟩⟩⟩⟩⟩⟩⟩⟩⟩⟩⟩⟩⟩
theorem lw_p96 : lw_okq (⟨"BlobCornersModel", "nextWay", "(III)I"⟩, 40) := ⟨⟨by decide +kernel, by decide +kernel⟩, List.mem_of_getElem? (i := 875) (by decide +kernel), List.mem_of_getElem? (i := 1087) (by decide +kernel), List.mem_of_getElem? (i := 1088) (by decide +kernel)⟩
theorem lw_p97 : lw_okq (⟨"BlobCornersModel", "layPoint", "(IIIZ)V"⟩, 40) := ⟨⟨by decide +kernel, by decide +kernel⟩, List.mem_of_getElem? (i := 875) (by decide +kernel), List.mem_of_getElem? (i := 1091) (by decide +kernel), List.mem_of_getElem? (i := 1092) (by decide +kernel)⟩
theorem lw_p98 : lw_okq (⟨"BlobCornersModel", "touches", "(III)I"⟩, 40) := ⟨⟨by decide +kernel, by decide +kernel⟩, List.mem_of_getElem? (i := 875) (by decide +kernel), List.mem_of_getElem? (i := 1095) (by decide +kernel), List.mem_of_getElem? (i := 1096) (by decide +kernel)⟩
theorem lw_p99 : lw_okq (⟨"BlobCornersModel", "layPens", "(I)V"⟩, 40) := ⟨⟨by decide +kernel, by decide +kernel⟩, List.mem_of_getElem? (i := 875) (by decide +kernel), List.mem_of_getElem? (i := 1099) (by decide +kernel), List.mem_of_getElem? (i := 1100) (by decide +kernel)⟩
theorem lw_p100 : lw_okq (⟨"BlobCornersModel", "bitsBetween", "(III)I"⟩, 40) := ⟨⟨by decide +kernel, by decide +kernel⟩, List.mem_of_getElem? (i := 875) (by decide +kernel), List.mem_of_getElem? (i := 1103) (by decide +kernel), List.mem_of_getElem? (i := 1104) (by decide +kernel)⟩
theorem lw_p101 : lw_okq (⟨"BlobCornersModel", "cross", "(III)I"⟩, 40) := ⟨⟨by decide +kernel, by decide +kernel⟩, List.mem_of_getElem? (i := 875) (by decide +kernel), List.mem_of_getElem? (i := 1110) (by decide +kernel), List.mem_of_getElem? (i := 1111) (by decide +kernel)⟩
theorem lw_p102 : lw_okq (⟨"BlobCornersModel", "layBest", "(I)V"⟩, 40) := ⟨⟨by decide +kernel, by decide +kernel⟩, List.mem_of_getElem? (i := 875) (by decide +kernel), List.mem_of_getElem? (i := 1125) (by decide +kernel), List.mem_of_getElem? (i := 1126) (by decide +kernel)⟩
theorem lw_p103 : lw_okq (⟨"BlobCornersModel", "begin", "(II)V"⟩, 40) := ⟨⟨by decide +kernel, by decide +kernel⟩, List.mem_of_getElem? (i := 875) (by decide +kernel), List.mem_of_getElem? (i := 1129) (by decide +kernel), List.mem_of_getElem? (i := 1130) (by decide +kernel)⟩
theorem lw_p104 : lw_okq (⟨"BlobCornersModel", "closed", "(II)I"⟩, 40) := ⟨⟨by decide +kernel, by decide +kernel⟩, List.mem_of_getElem? (i := 875) (by decide +kernel), List.mem_of_getElem? (i := 1133) (by decide +kernel), List.mem_of_getElem? (i := 1134) (by decide +kernel)⟩
theorem lw_p105 : lw_okq (⟨"BlobCornersModel", "step", "(III)V"⟩, 40) := ⟨⟨by decide +kernel, by decide +kernel⟩, List.mem_of_getElem? (i := 875) (by decide +kernel), List.mem_of_getElem? (i := 1144) (by decide +kernel), List.mem_of_getElem? (i := 1145) (by decide +kernel)⟩
theorem lw_p106 : lw_okq (⟨"BlobCornersModel", "mark", "(III)V"⟩, 40) := ⟨⟨by decide +kernel, by decide +kernel⟩, List.mem_of_getElem? (i := 875) (by decide +kernel), List.mem_of_getElem? (i := 1148) (by decide +kernel), List.mem_of_getElem? (i := 1149) (by decide +kernel)⟩
theorem lw_p107 : lw_okq (⟨"BlobCornersModel", "tellOutline", "(II)I"⟩, 40) := ⟨⟨by decide +kernel, by decide +kernel⟩, List.mem_of_getElem? (i := 875) (by decide +kernel), List.mem_of_getElem? (i := 1152) (by decide +kernel), List.mem_of_getElem? (i := 1153) (by decide +kernel)⟩
theorem lw_p108 : lw_okq (⟨"BlobCornersModel", "areaOf", "(IZ)I"⟩, 40) := ⟨⟨by decide +kernel, by decide +kernel⟩, List.mem_of_getElem? (i := 875) (by decide +kernel), List.mem_of_getElem? (i := 1156) (by decide +kernel), List.mem_of_getElem? (i := 1157) (by decide +kernel)⟩
theorem lw_p109 : lw_okq (⟨"BlobCornersModel", "mustMany", "(I)I"⟩, 40) := ⟨⟨by decide +kernel, by decide +kernel⟩, List.mem_of_getElem? (i := 875) (by decide +kernel), List.mem_of_getElem? (i := 1160) (by decide +kernel), List.mem_of_getElem? (i := 1161) (by decide +kernel)⟩
theorem lw_p110 : lw_okq (⟨"BlobCornersModel", "isPoint", "(II)Z"⟩, 40) := ⟨⟨by decide +kernel, by decide +kernel⟩, List.mem_of_getElem? (i := 875) (by decide +kernel), List.mem_of_getElem? (i := 1168) (by decide +kernel), List.mem_of_getElem? (i := 1169) (by decide +kernel)⟩
theorem lw_p111 : lw_okq (⟨"BlobCornersModel", "tellPoint", "(III)I"⟩, 40) := ⟨⟨by decide +kernel, by decide +kernel⟩, List.mem_of_getElem? (i := 875) (by decide +kernel), List.mem_of_getElem? (i := 1172) (by decide +kernel), List.mem_of_getElem? (i := 1173) (by decide +kernel)⟩
def lw_privs_7 : List (MethodName × Nat) := [(⟨"BlobCornersModel", "nextWay", "(III)I"⟩, 40), (⟨"BlobCornersModel", "layPoint", "(IIIZ)V"⟩, 40), (⟨"BlobCornersModel", "touches", "(III)I"⟩, 40), (⟨"BlobCornersModel", "layPens", "(I)V"⟩, 40), (⟨"BlobCornersModel", "bitsBetween", "(III)I"⟩, 40), (⟨"BlobCornersModel", "cross", "(III)I"⟩, 40), (⟨"BlobCornersModel", "layBest", "(I)V"⟩, 40), (⟨"BlobCornersModel", "begin", "(II)V"⟩, 40), (⟨"BlobCornersModel", "closed", "(II)I"⟩, 40), (⟨"BlobCornersModel", "step", "(III)V"⟩, 40), (⟨"BlobCornersModel", "mark", "(III)V"⟩, 40), (⟨"BlobCornersModel", "tellOutline", "(II)I"⟩, 40), (⟨"BlobCornersModel", "areaOf", "(IZ)I"⟩, 40), (⟨"BlobCornersModel", "mustMany", "(I)I"⟩, 40), (⟨"BlobCornersModel", "isPoint", "(II)Z"⟩, 40), (⟨"BlobCornersModel", "tellPoint", "(III)I"⟩, 40)]
theorem lw_r7 : ∀ q ∈ lw_privs_7, lw_okq q := List.forall_mem_cons.mpr ⟨lw_p96, List.forall_mem_cons.mpr ⟨lw_p97, List.forall_mem_cons.mpr ⟨lw_p98, List.forall_mem_cons.mpr ⟨lw_p99, List.forall_mem_cons.mpr ⟨lw_p100, List.forall_mem_cons.mpr ⟨lw_p101, List.forall_mem_cons.mpr ⟨lw_p102, List.forall_mem_cons.mpr ⟨lw_p103, List.forall_mem_cons.mpr ⟨lw_p104, List.forall_mem_cons.mpr ⟨lw_p105, List.forall_mem_cons.mpr ⟨lw_p106, List.forall_mem_cons.mpr ⟨lw_p107, List.forall_mem_cons.mpr ⟨lw_p108, List.forall_mem_cons.mpr ⟨lw_p109, List.forall_mem_cons.mpr ⟨lw_p110, List.forall_mem_cons.mpr ⟨lw_p111, fun _ h => absurd h List.not_mem_nil⟩⟩⟩⟩⟩⟩⟩⟩⟩⟩⟩⟩⟩⟩⟩⟩
theorem lw_p112 : lw_okq (⟨"BlobCornersModel", "reachOf", "(II)I"⟩, 40) := ⟨⟨by decide +kernel, by decide +kernel⟩, List.mem_of_getElem? (i := 875) (by decide +kernel), List.mem_of_getElem? (i := 1176) (by decide +kernel), List.mem_of_getElem? (i := 1177) (by decide +kernel)⟩
theorem lw_p113 : lw_okq (⟨"BlobCornersModel", "areTwo", "(III)Z"⟩, 40) := ⟨⟨by decide +kernel, by decide +kernel⟩, List.mem_of_getElem? (i := 875) (by decide +kernel), List.mem_of_getElem? (i := 1184) (by decide +kernel), List.mem_of_getElem? (i := 1185) (by decide +kernel)⟩
theorem lw_p114 : lw_okq (⟨"BlobCornersModel", "cornerOf", "(II)I"⟩, 40) := ⟨⟨by decide +kernel, by decide +kernel⟩, List.mem_of_getElem? (i := 875) (by decide +kernel), List.mem_of_getElem? (i := 1196) (by decide +kernel), List.mem_of_getElem? (i := 1197) (by decide +kernel)⟩
theorem lw_p115 : lw_okq (⟨"BlobCornersModel", "isPlace", "(I)Z"⟩, 40) := ⟨⟨by decide +kernel, by decide +kernel⟩, List.mem_of_getElem? (i := 875) (by decide +kernel), List.mem_of_getElem? (i := 1204) (by decide +kernel), List.mem_of_getElem? (i := 1205) (by decide +kernel)⟩
theorem lw_p116 : lw_okq (⟨"BlobCornersModel", "tellDot", "(II)I"⟩, 40) := ⟨⟨by decide +kernel, by decide +kernel⟩, List.mem_of_getElem? (i := 875) (by decide +kernel), List.mem_of_getElem? (i := 1208) (by decide +kernel), List.mem_of_getElem? (i := 1209) (by decide +kernel)⟩
theorem lw_p117 : lw_okq (⟨"BlobCornersModel", "sortsOf", "(I)I"⟩, 40) := ⟨⟨by decide +kernel, by decide +kernel⟩, List.mem_of_getElem? (i := 875) (by decide +kernel), List.mem_of_getElem? (i := 1212) (by decide +kernel), List.mem_of_getElem? (i := 1213) (by decide +kernel)⟩
theorem lw_p118 : lw_okq (⟨"BlobCornersModel", "askOf", "(I)I"⟩, 40) := ⟨⟨by decide +kernel, by decide +kernel⟩, List.mem_of_getElem? (i := 875) (by decide +kernel), List.mem_of_getElem? (i := 1219) (by decide +kernel), List.mem_of_getElem? (i := 1220) (by decide +kernel)⟩
theorem lw_p119 : lw_okq (⟨"BlobCornersModel", "hasDot", "(I)Z"⟩, 40) := ⟨⟨by decide +kernel, by decide +kernel⟩, List.mem_of_getElem? (i := 875) (by decide +kernel), List.mem_of_getElem? (i := 1230) (by decide +kernel), List.mem_of_getElem? (i := 1231) (by decide +kernel)⟩
theorem lw_p120 : lw_okq (⟨"BlobCornersModel", "outlinesNow", "()I"⟩, 40) := ⟨⟨by decide +kernel, by decide +kernel⟩, List.mem_of_getElem? (i := 875) (by decide +kernel), List.mem_of_getElem? (i := 1242) (by decide +kernel), List.mem_of_getElem? (i := 1243) (by decide +kernel)⟩
theorem lw_p121 : lw_okq (⟨"BlobCornersModel", "cornersNow", "()I"⟩, 40) := ⟨⟨by decide +kernel, by decide +kernel⟩, List.mem_of_getElem? (i := 875) (by decide +kernel), List.mem_of_getElem? (i := 1257) (by decide +kernel), List.mem_of_getElem? (i := 1258) (by decide +kernel)⟩
theorem lw_p122 : lw_okq (⟨"BlobCornersModel", "cornersAll", "()I"⟩, 40) := ⟨⟨by decide +kernel, by decide +kernel⟩, List.mem_of_getElem? (i := 875) (by decide +kernel), List.mem_of_getElem? (i := 1261) (by decide +kernel), List.mem_of_getElem? (i := 1262) (by decide +kernel)⟩
theorem lw_p123 : lw_okq (⟨"BlobCornersModel", "rackedOf", "(I)I"⟩, 40) := ⟨⟨by decide +kernel, by decide +kernel⟩, List.mem_of_getElem? (i := 875) (by decide +kernel), List.mem_of_getElem? (i := 1273) (by decide +kernel), List.mem_of_getElem? (i := 1274) (by decide +kernel)⟩
theorem lw_p124 : lw_okq (⟨"BlobCornersModel", "draw", "(I)I"⟩, 40) := ⟨⟨by decide +kernel, by decide +kernel⟩, List.mem_of_getElem? (i := 875) (by decide +kernel), List.mem_of_getElem? (i := 1298) (by decide +kernel), List.mem_of_getElem? (i := 1299) (by decide +kernel)⟩
theorem lw_p125 : lw_okq (⟨"BlobCornersModel", "countOf", "(I)I"⟩, 40) := ⟨⟨by decide +kernel, by decide +kernel⟩, List.mem_of_getElem? (i := 875) (by decide +kernel), List.mem_of_getElem? (i := 1318) (by decide +kernel), List.mem_of_getElem? (i := 1319) (by decide +kernel)⟩
theorem lw_p126 : lw_okq (⟨"BlobCornersModel", "countOutlines", "(I)I"⟩, 40) := ⟨⟨by decide +kernel, by decide +kernel⟩, List.mem_of_getElem? (i := 875) (by decide +kernel), List.mem_of_getElem? (i := 1322) (by decide +kernel), List.mem_of_getElem? (i := 1323) (by decide +kernel)⟩
theorem lw_p127 : lw_okq (⟨"BlobCornersModel", "holes", "()I"⟩, 40) := ⟨⟨by decide +kernel, by decide +kernel⟩, List.mem_of_getElem? (i := 875) (by decide +kernel), List.mem_of_getElem? (i := 1326) (by decide +kernel), List.mem_of_getElem? (i := 1327) (by decide +kernel)⟩
def lw_privs_8 : List (MethodName × Nat) := [(⟨"BlobCornersModel", "reachOf", "(II)I"⟩, 40), (⟨"BlobCornersModel", "areTwo", "(III)Z"⟩, 40), (⟨"BlobCornersModel", "cornerOf", "(II)I"⟩, 40), (⟨"BlobCornersModel", "isPlace", "(I)Z"⟩, 40), (⟨"BlobCornersModel", "tellDot", "(II)I"⟩, 40), (⟨"BlobCornersModel", "sortsOf", "(I)I"⟩, 40), (⟨"BlobCornersModel", "askOf", "(I)I"⟩, 40), (⟨"BlobCornersModel", "hasDot", "(I)Z"⟩, 40), (⟨"BlobCornersModel", "outlinesNow", "()I"⟩, 40), (⟨"BlobCornersModel", "cornersNow", "()I"⟩, 40), (⟨"BlobCornersModel", "cornersAll", "()I"⟩, 40), (⟨"BlobCornersModel", "rackedOf", "(I)I"⟩, 40), (⟨"BlobCornersModel", "draw", "(I)I"⟩, 40), (⟨"BlobCornersModel", "countOf", "(I)I"⟩, 40), (⟨"BlobCornersModel", "countOutlines", "(I)I"⟩, 40), (⟨"BlobCornersModel", "holes", "()I"⟩, 40)]
theorem lw_r8 : ∀ q ∈ lw_privs_8, lw_okq q := List.forall_mem_cons.mpr ⟨lw_p112, List.forall_mem_cons.mpr ⟨lw_p113, List.forall_mem_cons.mpr ⟨lw_p114, List.forall_mem_cons.mpr ⟨lw_p115, List.forall_mem_cons.mpr ⟨lw_p116, List.forall_mem_cons.mpr ⟨lw_p117, List.forall_mem_cons.mpr ⟨lw_p118, List.forall_mem_cons.mpr ⟨lw_p119, List.forall_mem_cons.mpr ⟨lw_p120, List.forall_mem_cons.mpr ⟨lw_p121, List.forall_mem_cons.mpr ⟨lw_p122, List.forall_mem_cons.mpr ⟨lw_p123, List.forall_mem_cons.mpr ⟨lw_p124, List.forall_mem_cons.mpr ⟨lw_p125, List.forall_mem_cons.mpr ⟨lw_p126, List.forall_mem_cons.mpr ⟨lw_p127, fun _ h => absurd h List.not_mem_nil⟩⟩⟩⟩⟩⟩⟩⟩⟩⟩⟩⟩⟩⟩⟩⟩
theorem lw_p128 : lw_okq (⟨"BlobCornersModel", "rackedAll", "()I"⟩, 40) := ⟨⟨by decide +kernel, by decide +kernel⟩, List.mem_of_getElem? (i := 875) (by decide +kernel), List.mem_of_getElem? (i := 1330) (by decide +kernel), List.mem_of_getElem? (i := 1331) (by decide +kernel)⟩
theorem lw_p129 : lw_okq (⟨"BlobCornersModel", "say", "(J)V"⟩, 40) := ⟨⟨by decide +kernel, by decide +kernel⟩, List.mem_of_getElem? (i := 875) (by decide +kernel), List.mem_of_getElem? (i := 1339) (by decide +kernel), List.mem_of_getElem? (i := 1340) (by decide +kernel)⟩
theorem lw_p130 : lw_okq (⟨"BlobCornersModel", "sayOutline", "(I)V"⟩, 40) := ⟨⟨by decide +kernel, by decide +kernel⟩, List.mem_of_getElem? (i := 875) (by decide +kernel), List.mem_of_getElem? (i := 1344) (by decide +kernel), List.mem_of_getElem? (i := 1345) (by decide +kernel)⟩
def lw_privs_9 : List (MethodName × Nat) := [(⟨"BlobCornersModel", "rackedAll", "()I"⟩, 40), (⟨"BlobCornersModel", "say", "(J)V"⟩, 40), (⟨"BlobCornersModel", "sayOutline", "(I)V"⟩, 40)]
theorem lw_r9 : ∀ q ∈ lw_privs_9, lw_okq q := List.forall_mem_cons.mpr ⟨lw_p128, List.forall_mem_cons.mpr ⟨lw_p129, List.forall_mem_cons.mpr ⟨lw_p130, fun _ h => absurd h List.not_mem_nil⟩⟩⟩
def lw_privs : List (MethodName × Nat) := lw_privs_1 ++ (lw_privs_2 ++ (lw_privs_3 ++ (lw_privs_4 ++ (lw_privs_5 ++ (lw_privs_6 ++ (lw_privs_7 ++ (lw_privs_8 ++ (lw_privs_9))))))))
def lw_tbl : List Cond := k2_sels lw_privs ++ tables_1
theorem lw_privs_ok : ∀ q ∈ lw_privs, lw_okq q := by
  show ∀ q ∈ lw_privs_1 ++ (lw_privs_2 ++ (lw_privs_3 ++ (lw_privs_4 ++ (lw_privs_5 ++ (lw_privs_6 ++ (lw_privs_7 ++ (lw_privs_8 ++ (lw_privs_9)))))))), lw_okq q
  exact List.forall_mem_append.mpr ⟨lw_r1, List.forall_mem_append.mpr ⟨lw_r2, List.forall_mem_append.mpr ⟨lw_r3, List.forall_mem_append.mpr ⟨lw_r4, List.forall_mem_append.mpr ⟨lw_r5, List.forall_mem_append.mpr ⟨lw_r6, List.forall_mem_append.mpr ⟨lw_r7, List.forall_mem_append.mpr ⟨lw_r8, lw_r9⟩⟩⟩⟩⟩⟩⟩⟩
/-- the streams that the claim lets the run draw from -/
abbrev lw_cs : List Choice := [Jvm.Choice.named "NaN.bits"]
theorem lw_bits : nanBits ∈ lw_cs := by first | decide | exact List.mem_cons_self | simp [lw_cs, nanBits]
end
section
def jn_T0 : u_T := fun k => match k with
  | 0 => ("BlobCorners$BestPolygons", "outlines", "LBlobCorners$Outlines;", true)
  | 1 => ("BlobCorners$BestPolygons", "joints", "LBlobCorners$Joints;", true)
  | 2 => ("BlobCorners$BestPolygons", "fewest", "[I", true)
  | 3 => ("BlobCorners$BestPolygons", "isSolved", "[Z", true)
  | 4 => ("BlobCorners$BestPolygons", "bits", "[I", true)
  | 5 => ("BlobCorners$BestPolygons", "areas", "[I", true)
  | 6 => ("BlobCorners$BestPolygons", "corners", "[I", true)
  | 7 => ("BlobCorners$BestPolygons", "isCorner", "[Z", true)
  | 8 => ("BlobCorners$BestPolygons", "penalties", "[F", true)
  | 9 => ("BlobCorners$BestPolygons", "sums", "[F", true)
  | 10 => ("BlobCorners$BestPolygons", "aheads", "[I", true)
  | 11 => ("BlobCorners$BestPolygons", "length", "I", false)
  | _ => ("BlobCorners$BestPolygons", "lastAhead", "I", false)
def jn_ty0 : Nat → FieldType := fun k => match k with
  | 0 => .object "BlobCorners$Outlines"
  | 1 => .object "BlobCorners$Joints"
  | 2 => .array .int
  | 3 => .array .boolean
  | 4 => .array .int
  | 5 => .array .int
  | 6 => .array .int
  | 7 => .array .boolean
  | 8 => .array .float
  | 9 => .array .float
  | 10 => .array .int
  | 11 => .int
  | _ => .int
theorem jn_nm0 : ∀ a, a < 13 → ∀ b, b < 13 → a ≠ b → (jn_T0 a).2.1 ≠ (jn_T0 b).2.1 := by decide +kernel
theorem jn_tyok0 : ∀ k, k < 13 → parseFieldDescriptor (jn_T0 k).2.2.1 = some (jn_ty0 k) := by decide +kernel
def jn_T1 : u_T := fun k => match k with
  | 0 => ("BlobCorners$Grid", "kinds", "[I", true)
  | 1 => ("BlobCorners$Grid", "width", "I", false)
  | _ => ("BlobCorners$Grid", "height", "I", false)
def jn_ty1 : Nat → FieldType := fun k => match k with
  | 0 => .array .int
  | 1 => .int
  | _ => .int
theorem jn_nm1 : ∀ a, a < 3 → ∀ b, b < 3 → a ≠ b → (jn_T1 a).2.1 ≠ (jn_T1 b).2.1 := by decide +kernel
theorem jn_tyok1 : ∀ k, k < 3 → parseFieldDescriptor (jn_T1 k).2.2.1 = some (jn_ty1 k) := by decide +kernel
def jn_T2 : u_T := fun k => match k with
  | 0 => ("BlobCorners$Joints", "outlines", "LBlobCorners$Outlines;", true)
  | 1 => ("BlobCorners$Joints", "joints", "[J", true)
  | 2 => ("BlobCorners$Joints", "filledFor", "I", false)
  | _ => ("BlobCorners$Joints", "length", "I", false)
def jn_ty2 : Nat → FieldType := fun k => match k with
  | 0 => .object "BlobCorners$Outlines"
  | 1 => .array .long
  | 2 => .int
  | _ => .int
theorem jn_nm2 : ∀ a, a < 4 → ∀ b, b < 4 → a ≠ b → (jn_T2 a).2.1 ≠ (jn_T2 b).2.1 := by decide +kernel
theorem jn_tyok2 : ∀ k, k < 4 → parseFieldDescriptor (jn_T2 k).2.2.1 = some (jn_ty2 k) := by decide +kernel
def jn_T3 : u_T := fun k => match k with
  | 0 => ("BlobCorners$Outlines", "count", "I", false)
  | 1 => ("BlobCorners$Outlines", "total", "I", false)
  | 2 => ("BlobCorners$Outlines", "starts", "[I", true)
  | 3 => ("BlobCorners$Outlines", "lengths", "[I", true)
  | 4 => ("BlobCorners$Outlines", "areas", "[I", true)
  | 5 => ("BlobCorners$Outlines", "xs", "[I", true)
  | 6 => ("BlobCorners$Outlines", "ys", "[I", true)
  | 7 => ("BlobCorners$Outlines", "ways", "[I", true)
  | 8 => ("BlobCorners$Outlines", "leeways", "[I", true)
  | 9 => ("BlobCorners$Outlines", "musts", "[Z", true)
  | 10 => ("BlobCorners$Outlines", "edges", "[I", true)
  | _ => ("BlobCorners$Outlines", "gone", "[I", true)
def jn_ty3 : Nat → FieldType := fun k => match k with
  | 0 => .int
  | 1 => .int
  | 2 => .array .int
  | 3 => .array .int
  | 4 => .array .int
  | 5 => .array .int
  | 6 => .array .int
  | 7 => .array .int
  | 8 => .array .int
  | 9 => .array .boolean
  | 10 => .array .int
  | _ => .array .int
theorem jn_nm3 : ∀ a, a < 12 → ∀ b, b < 12 → a ≠ b → (jn_T3 a).2.1 ≠ (jn_T3 b).2.1 := by decide +kernel
theorem jn_tyok3 : ∀ k, k < 12 → parseFieldDescriptor (jn_T3 k).2.2.1 = some (jn_ty3 k) := by decide +kernel
def jn_T4 : u_T := fun k => match k with
  | 0 => ("BlobCorners$Page", "codes", "[I", true)
  | _ => ("BlobCorners$Page", "size", "I", false)
def jn_ty4 : Nat → FieldType := fun k => match k with
  | 0 => .array .int
  | _ => .int
theorem jn_nm4 : ∀ a, a < 2 → ∀ b, b < 2 → a ≠ b → (jn_T4 a).2.1 ≠ (jn_T4 b).2.1 := by decide +kernel
theorem jn_tyok4 : ∀ k, k < 2 → parseFieldDescriptor (jn_T4 k).2.2.1 = some (jn_ty4 k) := by decide +kernel
def jn_T5 : u_T := fun k => match k with
  | 0 => ("BlobCorners$Racks", "places", "[I", true)
  | _ => ("BlobCorners$Racks", "sizes", "[I", true)
def jn_ty5 : Nat → FieldType := fun k => match k with
  | 0 => .array .int
  | _ => .array .int
theorem jn_nm5 : ∀ a, a < 2 → ∀ b, b < 2 → a ≠ b → (jn_T5 a).2.1 ≠ (jn_T5 b).2.1 := by decide +kernel
theorem jn_tyok5 : ∀ k, k < 2 → parseFieldDescriptor (jn_T5 k).2.2.1 = some (jn_ty5 k) := by decide +kernel
def jn_T6 : u_T := fun k => match k with
  | 0 => ("BlobCorners$Seen", "places", "[I", true)
  | 1 => ("BlobCorners$Seen", "questions", "[I", true)
  | 2 => ("BlobCorners$Seen", "answers", "[Z", true)
  | _ => ("BlobCorners$Seen", "size", "I", false)
def jn_ty6 : Nat → FieldType := fun k => match k with
  | 0 => .array .int
  | 1 => .array .int
  | 2 => .array .boolean
  | _ => .int
theorem jn_nm6 : ∀ a, a < 4 → ∀ b, b < 4 → a ≠ b → (jn_T6 a).2.1 ≠ (jn_T6 b).2.1 := by decide +kernel
theorem jn_tyok6 : ∀ k, k < 4 → parseFieldDescriptor (jn_T6 k).2.2.1 = some (jn_ty6 k) := by decide +kernel
def jn_T7 : u_T := fun k => match k with
  | 0 => ("BlobCorners", "page", "LBlobCorners$Page;", true)
  | 1 => ("BlobCorners", "grid", "LBlobCorners$Grid;", true)
  | 2 => ("BlobCorners", "spare", "LBlobCorners$Grid;", true)
  | 3 => ("BlobCorners", "kept", "LBlobCorners$Grid;", true)
  | 4 => ("BlobCorners", "seen", "LBlobCorners$Seen;", true)
  | 5 => ("BlobCorners", "keptSeen", "LBlobCorners$Seen;", true)
  | 6 => ("BlobCorners", "racks", "LBlobCorners$Racks;", true)
  | 7 => ("BlobCorners", "outlines", "LBlobCorners$Outlines;", true)
  | 8 => ("BlobCorners", "joints", "LBlobCorners$Joints;", true)
  | 9 => ("BlobCorners", "best", "LBlobCorners$BestPolygons;", true)
  | 10 => ("BlobCorners", "tried", "LBlobCorners$Outlines;", true)
  | 11 => ("BlobCorners", "triedJoints", "LBlobCorners$Joints;", true)
  | 12 => ("BlobCorners", "isKept", "Z", false)
  | 13 => ("BlobCorners", "blobsRead", "I", false)
  | _ => ("BlobCorners", "weightsAsked", "I", false)
def jn_ty7 : Nat → FieldType := fun k => match k with
  | 0 => .object "BlobCorners$Page"
  | 1 => .object "BlobCorners$Grid"
  | 2 => .object "BlobCorners$Grid"
  | 3 => .object "BlobCorners$Grid"
  | 4 => .object "BlobCorners$Seen"
  | 5 => .object "BlobCorners$Seen"
  | 6 => .object "BlobCorners$Racks"
  | 7 => .object "BlobCorners$Outlines"
  | 8 => .object "BlobCorners$Joints"
  | 9 => .object "BlobCorners$BestPolygons"
  | 10 => .object "BlobCorners$Outlines"
  | 11 => .object "BlobCorners$Joints"
  | 12 => .boolean
  | 13 => .int
  | _ => .int
theorem jn_nm7 : ∀ a, a < 15 → ∀ b, b < 15 → a ≠ b → (jn_T7 a).2.1 ≠ (jn_T7 b).2.1 := by decide +kernel
theorem jn_tyok7 : ∀ k, k < 15 → parseFieldDescriptor (jn_T7 k).2.2.1 = some (jn_ty7 k) := by decide +kernel
def jn_T8 : u_T := fun k => match k with
  | 0 => ("BlobCornersModel", "page", "[I", true)
  | 1 => ("BlobCornersModel", "pageMany", "I", false)
  | 2 => ("BlobCornersModel", "readWidth", "I", false)
  | 3 => ("BlobCornersModel", "readRows", "I", false)
  | 4 => ("BlobCornersModel", "readHere", "I", false)
  | 5 => ("BlobCornersModel", "readDots", "I", false)
  | 6 => ("BlobCornersModel", "width", "I", false)
  | 7 => ("BlobCornersModel", "height", "I", false)
  | 8 => ("BlobCornersModel", "blobsRead", "I", false)
  | 9 => ("BlobCornersModel", "dots", "[I", true)
  | 10 => ("BlobCornersModel", "old", "Z", false)
  | 11 => ("BlobCornersModel", "outlines", "I", false)
  | 12 => ("BlobCornersModel", "startOf", "[I", true)
  | 13 => ("BlobCornersModel", "longOf", "[I", true)
  | 14 => ("BlobCornersModel", "xs", "[I", true)
  | 15 => ("BlobCornersModel", "ys", "[I", true)
  | 16 => ("BlobCornersModel", "leeways", "[I", true)
  | 17 => ("BlobCornersModel", "musts", "[I", true)
  | 18 => ("BlobCornersModel", "chosen", "[I", true)
  | 19 => ("BlobCornersModel", "gone", "[I", true)
  | 20 => ("BlobCornersModel", "pens", "[I", true)
  | 21 => ("BlobCornersModel", "sums", "[I", true)
  | 22 => ("BlobCornersModel", "sumsThen", "[I", true)
  | 23 => ("BlobCornersModel", "ahead", "[I", true)
  | 24 => ("BlobCornersModel", "corners", "[I", true)
  | 25 => ("BlobCornersModel", "penalties", "[I", true)
  | 26 => ("BlobCornersModel", "lastAhead", "I", false)
  | 27 => ("BlobCornersModel", "dotsThen", "[I", true)
  | 28 => ("BlobCornersModel", "racks", "[I", true)
  | 29 => ("BlobCornersModel", "weightsAsked", "I", false)
  | 30 => ("BlobCornersModel", "seenMany", "I", false)
  | 31 => ("BlobCornersModel", "sights", "[I", true)
  | 32 => ("BlobCornersModel", "seedNow", "I", false)
  | 33 => ("BlobCornersModel", "keptBlob", "I", false)
  | 34 => ("BlobCornersModel", "keptWidth", "I", false)
  | 35 => ("BlobCornersModel", "keptHeight", "I", false)
  | 36 => ("BlobCornersModel", "keptSeen", "I", false)
  | 37 => ("BlobCornersModel", "keptDots", "[I", true)
  | 38 => ("BlobCornersModel", "keptSights", "[I", true)
  | _ => ("BlobCornersModel", "hash", "J", false)
def jn_ty8 : Nat → FieldType := fun k => match k with
  | 0 => .array .int
  | 1 => .int
  | 2 => .int
  | 3 => .int
  | 4 => .int
  | 5 => .int
  | 6 => .int
  | 7 => .int
  | 8 => .int
  | 9 => .array .int
  | 10 => .boolean
  | 11 => .int
  | 12 => .array .int
  | 13 => .array .int
  | 14 => .array .int
  | 15 => .array .int
  | 16 => .array .int
  | 17 => .array .int
  | 18 => .array .int
  | 19 => .array .int
  | 20 => .array .int
  | 21 => .array .int
  | 22 => .array .int
  | 23 => .array .int
  | 24 => .array .int
  | 25 => .array .int
  | 26 => .int
  | 27 => .array .int
  | 28 => .array .int
  | 29 => .int
  | 30 => .int
  | 31 => .array .int
  | 32 => .int
  | 33 => .int
  | 34 => .int
  | 35 => .int
  | 36 => .int
  | 37 => .array .int
  | 38 => .array .int
  | _ => .long
theorem jn_nm8 : ∀ a, a < 40 → ∀ b, b < 40 → a ≠ b → (jn_T8 a).2.1 ≠ (jn_T8 b).2.1 := by decide +kernel
theorem jn_tyok8 : ∀ k, k < 40 → parseFieldDescriptor (jn_T8 k).2.2.1 = some (jn_ty8 k) := by decide +kernel
abbrev jn_cl : List vw_C := [("BlobCorners$BestPolygons", jn_T0, 13), ("BlobCorners$Grid", jn_T1, 3), ("BlobCorners$Joints", jn_T2, 4), ("BlobCorners$Outlines", jn_T3, 12), ("BlobCorners$Page", jn_T4, 2), ("BlobCorners$Racks", jn_T5, 2), ("BlobCorners$Seen", jn_T6, 4), ("BlobCorners", jn_T7, 15), ("BlobCornersModel", jn_T8, 40)]
def jn_own (c : Nat) : String := (["BlobCorners$BestPolygons", "BlobCorners$Grid", "BlobCorners$Joints", "BlobCorners$Outlines", "BlobCorners$Page", "BlobCorners$Racks", "BlobCorners$Seen", "BlobCorners", "BlobCornersModel", "BlobCornersLaw", "java/lang/String", "java/lang/StringLatin1", "java/lang/Math", "java/lang/Integer"] : List String).getD c ""
abbrev jn_Y : Type := MethodName × ByteArray × Option FieldType
def jny_0 : jn_Y := (⟨"java/lang/Math", "abs", "(I)I"⟩, prog_13_method_59_code, some .int)
def jny_1 : jn_Y := (⟨"java/lang/Math", "max", "(II)I"⟩, prog_13_method_65_code, some .int)
def jny_2 : jn_Y := (⟨"java/lang/Math", "min", "(II)I"⟩, prog_13_method_69_code, some .int)
def jny_3 : jn_Y := (⟨"java/lang/Integer", "bitCount", "(I)I"⟩, prog_12_method_49_code, some .int)
def jny_4 : jn_Y := (⟨"java/lang/String", "length", "()I"⟩, prog_14_method_54_code, some .int)
def jny_5 : jn_Y := (⟨"java/lang/String", "coder", "()B"⟩, prog_14_method_152_code, some .byte)
def jny_6 : jn_Y := (⟨"java/lang/String", "isLatin1", "()Z"⟩, prog_14_method_154_code, some .boolean)
def jny_7 : jn_Y := (⟨"java/lang/StringLatin1", "canEncode", "(I)Z"⟩, prog_15_method_4_code, some .boolean)
def jny_8 : jn_Y := (⟨"java/lang/StringLatin1", "indexOfChar", "([BIII)I"⟩, prog_15_method_23_code, some .int)
def jny_9 : jn_Y := (⟨"java/lang/StringLatin1", "indexOf", "([BIII)I"⟩, prog_15_method_22_code, some .int)
def jny_10 : jn_Y := (⟨"java/lang/String", "indexOf", "(II)I"⟩, prog_14_method_80_code, some .int)
def jny_11 : jn_Y := (⟨"java/lang/String", "indexOf", "(I)I"⟩, prog_14_method_79_code, some .int)
def jny_12 : jn_Y := (⟨"BlobCorners$BestPolygons", "reset", "()V"⟩, prog_2_method_2_code, none)
def jny_13 : jn_Y := (⟨"BlobCorners$BestPolygons", "fewestOf", "(I)I"⟩, prog_2_method_3_code, some .int)
def jny_14 : jn_Y := (⟨"BlobCorners$BestPolygons", "solve", "(I)V"⟩, prog_2_method_4_code, none)
def jny_15 : jn_Y := (⟨"BlobCorners$BestPolygons", "fillPenalties", "(I)V"⟩, prog_2_method_5_code, none)
def jny_16 : jn_Y := (⟨"BlobCorners$BestPolygons", "sumRound", "(II)F"⟩, prog_2_method_6_code, some .float)
def jny_17 : jn_Y := (⟨"BlobCorners$BestPolygons", "leastInto", "(IIII)F"⟩, prog_2_method_7_code, some .float)
def jny_18 : jn_Y := (⟨"BlobCorners$BestPolygons", "setSum", "(IIFI)V"⟩, prog_2_method_8_code, none)
def jny_19 : jn_Y := (⟨"BlobCorners$BestPolygons", "sumAt", "(II)F"⟩, prog_2_method_9_code, some .float)
def jny_20 : jn_Y := (⟨"BlobCorners$BestPolygons", "penaltyAt", "(II)F"⟩, prog_2_method_10_code, some .float)
def jny_21 : jn_Y := (⟨"BlobCorners$BestPolygons", "keepCorners", "(III)V"⟩, prog_2_method_11_code, none)
def jny_22 : jn_Y := (⟨"BlobCorners$BestPolygons", "markCorners", "(II)V"⟩, prog_2_method_12_code, none)
def jny_23 : jn_Y := (⟨"BlobCorners$BestPolygons", "polygonArea", "(II)I"⟩, prog_2_method_13_code, some .int)
def jny_24 : jn_Y := (⟨"BlobCorners$BestPolygons", "bitsAt", "(I)I"⟩, prog_2_method_14_code, some .int)
def jny_25 : jn_Y := (⟨"BlobCorners$BestPolygons", "areaAt", "(I)I"⟩, prog_2_method_15_code, some .int)
def jny_26 : jn_Y := (⟨"BlobCorners$BestPolygons", "cornerAt", "(I)I"⟩, prog_2_method_16_code, some .int)
def jny_27 : jn_Y := (⟨"BlobCorners$BestPolygons", "isCornerAt", "(I)Z"⟩, prog_2_method_17_code, some .boolean)
def jny_28 : jn_Y := (⟨"BlobCorners$Grid", "places", "()I"⟩, prog_3_method_2_code, some .int)
def jny_29 : jn_Y := (⟨"BlobCorners$Grid", "has", "(I)Z"⟩, prog_3_method_3_code, some .boolean)
def jny_30 : jn_Y := (⟨"BlobCorners$Grid", "kindAt", "(I)I"⟩, prog_3_method_4_code, some .int)
def jny_31 : jn_Y := (⟨"BlobCorners$Grid", "kindAtCell", "(II)I"⟩, prog_3_method_5_code, some .int)
def jny_32 : jn_Y := (⟨"BlobCorners$Grid", "hasDot", "(II)Z"⟩, prog_3_method_6_code, some .boolean)
def jny_33 : jn_Y := (⟨"BlobCorners$Grid", "dots", "()I"⟩, prog_3_method_7_code, some .int)
def jny_34 : jn_Y := (⟨"BlobCorners$Grid", "clear", "(II)V"⟩, prog_3_method_8_code, none)
def jny_35 : jn_Y := (⟨"BlobCorners$Grid", "set", "(II)V"⟩, prog_3_method_9_code, none)
def jny_36 : jn_Y := (⟨"BlobCorners$Grid", "copyFrom", "(LBlobCorners$Grid;)V"⟩, prog_3_method_10_code, none)
def jny_37 : jn_Y := (⟨"BlobCorners$Grid", "turnFrom", "(LBlobCorners$Grid;)V"⟩, prog_3_method_11_code, none)
def jny_38 : jn_Y := (⟨"BlobCorners$Grid", "mirrorFrom", "(LBlobCorners$Grid;)V"⟩, prog_3_method_12_code, none)
def jny_39 : jn_Y := (⟨"BlobCorners$Joints", "reset", "()V"⟩, prog_4_method_2_code, none)
def jny_40 : jn_Y := (⟨"BlobCorners$Joints", "fill", "(I)V"⟩, prog_4_method_3_code, none)
def jny_41 : jn_Y := (⟨"BlobCorners$Joints", "jointsFrom", "(II)J"⟩, prog_4_method_4_code, some .long)
def jny_42 : jn_Y := (⟨"BlobCorners$Joints", "from", "(I)J"⟩, prog_4_method_5_code, some .long)
def jny_43 : jn_Y := (⟨"BlobCorners$Joints", "are", "(II)Z"⟩, prog_4_method_6_code, some .boolean)
def jny_44 : jn_Y := (⟨"BlobCorners$Joints", "lastOnes", "(I)J"⟩, prog_4_method_7_code, some .long)
def jny_45 : jn_Y := (⟨"BlobCorners$Joints", "fewest", "()I"⟩, prog_4_method_8_code, some .int)
def jny_46 : jn_Y := (⟨"BlobCorners$Joints", "fewestFrom", "(IJI)I"⟩, prog_4_method_9_code, some .int)
def jny_47 : jn_Y := (⟨"BlobCorners$Joints", "next", "(JI)J"⟩, prog_4_method_10_code, some .long)
def jny_48 : jn_Y := (⟨"BlobCorners$Outlines", "trace", "(LBlobCorners$Grid;)V"⟩, prog_5_method_2_code, none)
def jny_49 : jn_Y := (⟨"BlobCorners$Outlines", "findEdges", "(LBlobCorners$Grid;)V"⟩, prog_5_method_3_code, none)
def jny_50 : jn_Y := (⟨"BlobCorners$Outlines", "begins", "([IIII)Z"⟩, prog_5_method_4_code, some .boolean)
def jny_51 : jn_Y := (⟨"BlobCorners$Outlines", "follow", "(III)V"⟩, prog_5_method_5_code, none)
def jny_52 : jn_Y := (⟨"BlobCorners$Outlines", "addPoint", "(III)V"⟩, prog_5_method_6_code, none)
def jny_53 : jn_Y := (⟨"BlobCorners$Outlines", "nextWay", "(III)I"⟩, prog_5_method_7_code, some .int)
def jny_54 : jn_Y := (⟨"BlobCorners$Outlines", "signedArea", "(I)I"⟩, prog_5_method_8_code, some .int)
def jny_55 : jn_Y := (⟨"BlobCorners$Outlines", "describePoints", "(LBlobCorners$Grid;I)V"⟩, prog_5_method_9_code, none)
def jny_56 : jn_Y := (⟨"BlobCorners$Outlines", "touchedKinds", "(LBlobCorners$Grid;II)I"⟩, prog_5_method_10_code, some .int)
def jny_57 : jn_Y := (⟨"BlobCorners$Outlines", "hasKind", "(II)Z"⟩, prog_5_method_11_code, some .boolean)
def jny_58 : jn_Y := (⟨"BlobCorners$Outlines", "has", "(I)Z"⟩, prog_5_method_12_code, some .boolean)
def jny_59 : jn_Y := (⟨"BlobCorners$Outlines", "hasPoint", "(II)Z"⟩, prog_5_method_13_code, some .boolean)
def jny_60 : jn_Y := (⟨"BlobCorners$Outlines", "hasPair", "(III)Z"⟩, prog_5_method_14_code, some .boolean)
def jny_61 : jn_Y := (⟨"BlobCorners$Outlines", "startOf", "(I)I"⟩, prog_5_method_15_code, some .int)
def jny_62 : jn_Y := (⟨"BlobCorners$Outlines", "lengthOf", "(I)I"⟩, prog_5_method_16_code, some .int)
def jny_63 : jn_Y := (⟨"BlobCorners$Outlines", "areaOf", "(I)I"⟩, prog_5_method_17_code, some .int)
def jny_64 : jn_Y := (⟨"BlobCorners$Outlines", "isHole", "(I)Z"⟩, prog_5_method_18_code, some .boolean)
def jny_65 : jn_Y := (⟨"BlobCorners$Outlines", "xAt", "(I)I"⟩, prog_5_method_19_code, some .int)
def jny_66 : jn_Y := (⟨"BlobCorners$Outlines", "yAt", "(I)I"⟩, prog_5_method_20_code, some .int)
def jny_67 : jn_Y := (⟨"BlobCorners$Outlines", "wayAt", "(I)I"⟩, prog_5_method_21_code, some .int)
def jny_68 : jn_Y := (⟨"BlobCorners$Outlines", "leewayAt", "(I)I"⟩, prog_5_method_22_code, some .int)
def jny_69 : jn_Y := (⟨"BlobCorners$Outlines", "mustAt", "(I)Z"⟩, prog_5_method_23_code, some .boolean)
def jny_70 : jn_Y := (⟨"BlobCorners$Outlines", "holes", "()I"⟩, prog_5_method_24_code, some .int)
def jny_71 : jn_Y := (⟨"BlobCorners$Outlines", "mustCount", "(I)I"⟩, prog_5_method_25_code, some .int)
def jny_72 : jn_Y := (⟨"BlobCorners$Outlines", "beside", "(III)I"⟩, prog_5_method_26_code, some .int)
def jny_73 : jn_Y := (⟨"BlobCorners$Outlines", "canJoin", "(III)Z"⟩, prog_5_method_27_code, some .boolean)
def jny_74 : jn_Y := (⟨"BlobCorners$Outlines", "penaltyOf", "(III)F"⟩, prog_5_method_28_code, some .float)
def jny_75 : jn_Y := (⟨"BlobCorners$Outlines", "stepsBetween", "(III)I"⟩, prog_5_method_29_code, some .int)
def jny_76 : jn_Y := (⟨"BlobCorners$Outlines", "reachOf", "(II)I"⟩, prog_5_method_30_code, some .int)
def jny_77 : jn_Y := (⟨"BlobCorners$Page", "append", "(I)Z"⟩, prog_6_method_2_code, some .boolean)
def jny_78 : jn_Y := (⟨"BlobCorners$Page", "codeAt", "(I)I"⟩, prog_6_method_3_code, some .int)
def jny_79 : jn_Y := (⟨"BlobCorners$Page", "firstFault", "()I"⟩, prog_6_method_4_code, some .int)
def jny_80 : jn_Y := (⟨"BlobCorners$Page", "readInto", "(LBlobCorners$Grid;)Z"⟩, prog_6_method_5_code, some .boolean)
def jny_81 : jn_Y := (⟨"BlobCorners$Page", "firstRowLength", "()I"⟩, prog_6_method_6_code, some .int)
def jny_82 : jn_Y := (⟨"BlobCorners$Page", "isSign", "(I)Z"⟩, prog_6_method_7_code, some .boolean)
def jny_83 : jn_Y := (⟨"BlobCorners$Racks", "clear", "()V"⟩, prog_7_method_2_code, none)
def jny_84 : jn_Y := (⟨"BlobCorners$Racks", "isFull", "(I)Z"⟩, prog_7_method_3_code, some .boolean)
def jny_85 : jn_Y := (⟨"BlobCorners$Racks", "add", "(II)I"⟩, prog_7_method_4_code, some .int)
def jny_86 : jn_Y := (⟨"BlobCorners$Racks", "placeAt", "(II)I"⟩, prog_7_method_5_code, some .int)
def jny_87 : jn_Y := (⟨"BlobCorners$Racks", "total", "()I"⟩, prog_7_method_6_code, some .int)
def jny_88 : jn_Y := (⟨"BlobCorners$Seen", "add", "(IIZ)Z"⟩, prog_8_method_2_code, some .boolean)
def jny_89 : jn_Y := (⟨"BlobCorners$Seen", "copyFrom", "(LBlobCorners$Seen;)V"⟩, prog_8_method_3_code, none)
def jny_90 : jn_Y := (⟨"BlobCorners$Seen", "sortsOf", "(I)I"⟩, prog_8_method_4_code, some .int)
def jny_91 : jn_Y := (⟨"BlobCorners$Seen", "nextQuestion", "(I)I"⟩, prog_8_method_5_code, some .int)
def jny_92 : jn_Y := (⟨"BlobCorners$Seen", "sortsThatAre", "(I)I"⟩, prog_8_method_6_code, some .int)
def jny_93 : jn_Y := (⟨"BlobCorners", "letter", "(I)I"⟩, prog_1_method_2_code, some .int)
def jny_94 : jn_Y := (⟨"BlobCorners", "blank", "()I"⟩, prog_1_method_3_code, some .int)
def jny_95 : jn_Y := (⟨"BlobCorners", "fault", "()I"⟩, prog_1_method_4_code, some .int)
def jny_96 : jn_Y := (⟨"BlobCorners", "blob", "()I"⟩, prog_1_method_5_code, some .int)
def jny_97 : jn_Y := (⟨"BlobCorners", "dot", "(II)I"⟩, prog_1_method_6_code, some .int)
def jny_98 : jn_Y := (⟨"BlobCorners", "as", "(II)I"⟩, prog_1_method_7_code, some .int)
def jny_99 : jn_Y := (⟨"BlobCorners", "outline", "(II)I"⟩, prog_1_method_8_code, some .int)
def jny_100 : jn_Y := (⟨"BlobCorners", "point", "(III)I"⟩, prog_1_method_9_code, some .int)
def jny_101 : jn_Y := (⟨"BlobCorners", "joined", "(III)I"⟩, prog_1_method_10_code, some .int)
def jny_102 : jn_Y := (⟨"BlobCorners", "penalty", "(III)I"⟩, prog_1_method_11_code, some .int)
def jny_103 : jn_Y := (⟨"BlobCorners", "corner", "(II)I"⟩, prog_1_method_12_code, some .int)
def jny_104 : jn_Y := (⟨"BlobCorners", "put", "(II)I"⟩, prog_1_method_13_code, some .int)
def jny_105 : jn_Y := (⟨"BlobCorners", "take", "(I)I"⟩, prog_1_method_14_code, some .int)
def jny_106 : jn_Y := (⟨"BlobCorners", "turn", "()I"⟩, prog_1_method_15_code, some .int)
def jny_107 : jn_Y := (⟨"BlobCorners", "mirror", "()I"⟩, prog_1_method_16_code, some .int)
def jny_108 : jn_Y := (⟨"BlobCorners", "rack", "(II)I"⟩, prog_1_method_17_code, some .int)
def jny_109 : jn_Y := (⟨"BlobCorners", "racked", "(II)I"⟩, prog_1_method_18_code, some .int)
def jny_110 : jn_Y := (⟨"BlobCorners", "weight", "()I"⟩, prog_1_method_19_code, some .int)
def jny_111 : jn_Y := (⟨"BlobCorners", "see", "(IIZ)I"⟩, prog_1_method_20_code, some .int)
def jny_112 : jn_Y := (⟨"BlobCorners", "forget", "()I"⟩, prog_1_method_21_code, some .int)
def jny_113 : jn_Y := (⟨"BlobCorners", "drawn", "(III)I"⟩, prog_1_method_22_code, some .int)
def jny_114 : jn_Y := (⟨"BlobCorners", "image", "()I"⟩, prog_1_method_23_code, some .int)
def jny_115 : jn_Y := (⟨"BlobCorners", "restore", "()I"⟩, prog_1_method_24_code, some .int)
def jny_116 : jn_Y := (⟨"BlobCorners", "count", "(I)I"⟩, prog_1_method_25_code, some .int)
def jny_117 : jn_Y := (⟨"BlobCorners", "digest", "()J"⟩, prog_1_method_26_code, some .long)
def jny_118 : jn_Y := (⟨"BlobCorners", "dotAnswer", "(II)I"⟩, prog_1_method_27_code, some .int)
def jny_119 : jn_Y := (⟨"BlobCorners", "outlineAnswer", "(II)I"⟩, prog_1_method_28_code, some .int)
def jny_120 : jn_Y := (⟨"BlobCorners", "pointAnswer", "(III)I"⟩, prog_1_method_29_code, some .int)
def jny_121 : jn_Y := (⟨"BlobCorners", "countAnswer", "(I)I"⟩, prog_1_method_30_code, some .int)
def jny_122 : jn_Y := (⟨"BlobCorners", "digestOutline", "(JI)J"⟩, prog_1_method_31_code, some .long)
def jny_123 : jn_Y := (⟨"BlobCorners", "dotsChanged", "()V"⟩, prog_1_method_32_code, none)
def jny_124 : jn_Y := (⟨"BlobCorners", "allCorners", "()I"⟩, prog_1_method_33_code, some .int)
def jny_125 : jn_Y := (⟨"BlobCorners", "triedCorners", "()I"⟩, prog_1_method_34_code, some .int)
def jny_126 : jn_Y := (⟨"BlobCorners", "heaviestPlace", "()I"⟩, prog_1_method_35_code, some .int)
def jny_127 : jn_Y := (⟨"BlobCorners", "isKind", "(I)Z"⟩, prog_1_method_36_code, some .boolean)
def jny_128 : jn_Y := (⟨"BlobCorners", "isAlso", "(II)Z"⟩, prog_1_method_37_code, some .boolean)
def jny_129 : jn_Y := (⟨"BlobCorners", "drawInto", "(LBlobCorners$Grid;I)I"⟩, prog_1_method_38_code, some .int)
def jny_130 : jn_Y := (⟨"BlobCorners", "bitsOf", "(F)I"⟩, prog_1_method_39_code, some .int)
def jny_131 : jn_Y := (⟨"BlobCornersModel", "in", "(JJJ)Z"⟩, prog_10_method_2_code, some .boolean)
def jny_132 : jn_Y := (⟨"BlobCornersModel", "far", "(I)I"⟩, prog_10_method_3_code, some .int)
def jny_133 : jn_Y := (⟨"BlobCornersModel", "copy", "([I[I)V"⟩, prog_10_method_4_code, none)
def jny_134 : jn_Y := (⟨"BlobCornersModel", "letter", "(I)I"⟩, prog_10_method_5_code, some .int)
def jny_135 : jn_Y := (⟨"BlobCornersModel", "blank", "()I"⟩, prog_10_method_6_code, some .int)
def jny_136 : jn_Y := (⟨"BlobCornersModel", "kindBy", "(I)I"⟩, prog_10_method_7_code, some .int)
def jny_137 : jn_Y := (⟨"BlobCornersModel", "isRowEnd", "()Z"⟩, prog_10_method_8_code, some .boolean)
def jny_138 : jn_Y := (⟨"BlobCornersModel", "isGood", "(I)Z"⟩, prog_10_method_9_code, some .boolean)
def jny_139 : jn_Y := (⟨"BlobCornersModel", "faultOf", "()I"⟩, prog_10_method_10_code, some .int)
def jny_140 : jn_Y := (⟨"BlobCornersModel", "fault", "()I"⟩, prog_10_method_11_code, some .int)
def jny_141 : jn_Y := (⟨"BlobCornersModel", "blob", "()I"⟩, prog_10_method_12_code, some .int)
def jny_142 : jn_Y := (⟨"BlobCornersModel", "changed", "()V"⟩, prog_10_method_13_code, none)
def jny_143 : jn_Y := (⟨"BlobCornersModel", "lacks", "()Z"⟩, prog_10_method_14_code, some .boolean)
def jny_144 : jn_Y := (⟨"BlobCornersModel", "isPlace", "(I)Z"⟩, prog_10_method_15_code, some .boolean)
def jny_145 : jn_Y := (⟨"BlobCornersModel", "hasDot", "(I)Z"⟩, prog_10_method_16_code, some .boolean)
def jny_146 : jn_Y := (⟨"BlobCornersModel", "kindAt", "(II)I"⟩, prog_10_method_17_code, some .int)
def jny_147 : jn_Y := (⟨"BlobCornersModel", "dotMany", "()I"⟩, prog_10_method_18_code, some .int)
def jny_148 : jn_Y := (⟨"BlobCornersModel", "isEdge", "(III)Z"⟩, prog_10_method_19_code, some .boolean)
def jny_149 : jn_Y := (⟨"BlobCornersModel", "stepX", "(I)I"⟩, prog_10_method_20_code, some .int)
def jny_150 : jn_Y := (⟨"BlobCornersModel", "stepY", "(I)I"⟩, prog_10_method_21_code, some .int)
def jny_151 : jn_Y := (⟨"BlobCornersModel", "nextWay", "(III)I"⟩, prog_10_method_22_code, some .int)
def jny_152 : jn_Y := (⟨"BlobCornersModel", "touches", "(III)I"⟩, prog_10_method_23_code, some .int)
def jny_153 : jn_Y := (⟨"BlobCornersModel", "layPoint", "(IIIZ)V"⟩, prog_10_method_24_code, none)
def jny_154 : jn_Y := (⟨"BlobCornersModel", "walk", "(III)V"⟩, prog_10_method_25_code, none)
def jny_155 : jn_Y := (⟨"BlobCornersModel", "layOutlines", "()V"⟩, prog_10_method_26_code, none)
def jny_156 : jn_Y := (⟨"BlobCornersModel", "cross", "(III)I"⟩, prog_10_method_27_code, some .int)
def jny_157 : jn_Y := (⟨"BlobCornersModel", "bitsBetween", "(III)I"⟩, prog_10_method_28_code, some .int)
def jny_158 : jn_Y := (⟨"BlobCornersModel", "fraction", "(JJ)I"⟩, prog_10_method_29_code, some .int)
def jny_159 : jn_Y := (⟨"BlobCornersModel", "near", "(JIZ)I"⟩, prog_10_method_30_code, some .int)
def jny_160 : jn_Y := (⟨"BlobCornersModel", "wholeOf", "(I)J"⟩, prog_10_method_31_code, some .long)
def jny_161 : jn_Y := (⟨"BlobCornersModel", "added", "(II)I"⟩, prog_10_method_32_code, some .int)
def jny_162 : jn_Y := (⟨"BlobCornersModel", "layPens", "(I)V"⟩, prog_10_method_33_code, none)
def jny_163 : jn_Y := (⟨"BlobCornersModel", "step", "(III)V"⟩, prog_10_method_34_code, none)
def jny_164 : jn_Y := (⟨"BlobCornersModel", "closed", "(II)I"⟩, prog_10_method_35_code, some .int)
def jny_165 : jn_Y := (⟨"BlobCornersModel", "begin", "(II)V"⟩, prog_10_method_36_code, none)
def jny_166 : jn_Y := (⟨"BlobCornersModel", "layBest", "(I)V"⟩, prog_10_method_37_code, none)
def jny_167 : jn_Y := (⟨"BlobCornersModel", "mark", "(III)V"⟩, prog_10_method_38_code, none)
def jny_168 : jn_Y := (⟨"BlobCornersModel", "layAll", "()V"⟩, prog_10_method_39_code, none)
def jny_169 : jn_Y := (⟨"BlobCornersModel", "freshen", "()V"⟩, prog_10_method_40_code, none)
def jny_170 : jn_Y := (⟨"BlobCornersModel", "cornersAll", "()I"⟩, prog_10_method_41_code, some .int)
def jny_171 : jn_Y := (⟨"BlobCornersModel", "isOutline", "(I)Z"⟩, prog_10_method_42_code, some .boolean)
def jny_172 : jn_Y := (⟨"BlobCornersModel", "isPoint", "(II)Z"⟩, prog_10_method_43_code, some .boolean)
def jny_173 : jn_Y := (⟨"BlobCornersModel", "areaOf", "(IZ)I"⟩, prog_10_method_44_code, some .int)
def jny_174 : jn_Y := (⟨"BlobCornersModel", "mustMany", "(I)I"⟩, prog_10_method_45_code, some .int)
def jny_175 : jn_Y := (⟨"BlobCornersModel", "tellOutline", "(II)I"⟩, prog_10_method_46_code, some .int)
def jny_176 : jn_Y := (⟨"BlobCornersModel", "outline", "(II)I"⟩, prog_10_method_47_code, some .int)
def jny_177 : jn_Y := (⟨"BlobCornersModel", "reachOf", "(II)I"⟩, prog_10_method_48_code, some .int)
def jny_178 : jn_Y := (⟨"BlobCornersModel", "tellPoint", "(III)I"⟩, prog_10_method_49_code, some .int)
def jny_179 : jn_Y := (⟨"BlobCornersModel", "point", "(III)I"⟩, prog_10_method_50_code, some .int)
def jny_180 : jn_Y := (⟨"BlobCornersModel", "areTwo", "(III)Z"⟩, prog_10_method_51_code, some .boolean)
def jny_181 : jn_Y := (⟨"BlobCornersModel", "joined", "(III)I"⟩, prog_10_method_52_code, some .int)
def jny_182 : jn_Y := (⟨"BlobCornersModel", "penalty", "(III)I"⟩, prog_10_method_53_code, some .int)
def jny_183 : jn_Y := (⟨"BlobCornersModel", "cornerOf", "(II)I"⟩, prog_10_method_54_code, some .int)
def jny_184 : jn_Y := (⟨"BlobCornersModel", "corner", "(II)I"⟩, prog_10_method_55_code, some .int)
def jny_185 : jn_Y := (⟨"BlobCornersModel", "tellDot", "(II)I"⟩, prog_10_method_56_code, some .int)
def jny_186 : jn_Y := (⟨"BlobCornersModel", "dot", "(II)I"⟩, prog_10_method_57_code, some .int)
def jny_187 : jn_Y := (⟨"BlobCornersModel", "isOf", "(II)Z"⟩, prog_10_method_58_code, some .boolean)
def jny_188 : jn_Y := (⟨"BlobCornersModel", "as", "(II)I"⟩, prog_10_method_59_code, some .int)
def jny_189 : jn_Y := (⟨"BlobCornersModel", "outlinesNow", "()I"⟩, prog_10_method_60_code, some .int)
def jny_190 : jn_Y := (⟨"BlobCornersModel", "put", "(II)I"⟩, prog_10_method_61_code, some .int)
def jny_191 : jn_Y := (⟨"BlobCornersModel", "take", "(I)I"⟩, prog_10_method_62_code, some .int)
def jny_192 : jn_Y := (⟨"BlobCornersModel", "cornersNow", "()I"⟩, prog_10_method_63_code, some .int)
def jny_193 : jn_Y := (⟨"BlobCornersModel", "turn", "()I"⟩, prog_10_method_64_code, some .int)
def jny_194 : jn_Y := (⟨"BlobCornersModel", "mirror", "()I"⟩, prog_10_method_65_code, some .int)
def jny_195 : jn_Y := (⟨"BlobCornersModel", "rackedOf", "(I)I"⟩, prog_10_method_66_code, some .int)
def jny_196 : jn_Y := (⟨"BlobCornersModel", "rack", "(II)I"⟩, prog_10_method_67_code, some .int)
def jny_197 : jn_Y := (⟨"BlobCornersModel", "racked", "(II)I"⟩, prog_10_method_68_code, some .int)
def jny_198 : jn_Y := (⟨"BlobCornersModel", "weight", "()I"⟩, prog_10_method_69_code, some .int)
def jny_199 : jn_Y := (⟨"BlobCornersModel", "see", "(IIZ)I"⟩, prog_10_method_70_code, some .int)
def jny_200 : jn_Y := (⟨"BlobCornersModel", "forget", "()I"⟩, prog_10_method_71_code, some .int)
def jny_201 : jn_Y := (⟨"BlobCornersModel", "sortsBy", "(I)I"⟩, prog_10_method_72_code, some .int)
def jny_202 : jn_Y := (⟨"BlobCornersModel", "sortsOf", "(I)I"⟩, prog_10_method_73_code, some .int)
def jny_203 : jn_Y := (⟨"BlobCornersModel", "ones", "(I)I"⟩, prog_10_method_74_code, some .int)
def jny_204 : jn_Y := (⟨"BlobCornersModel", "askOf", "(I)I"⟩, prog_10_method_75_code, some .int)
def jny_205 : jn_Y := (⟨"BlobCornersModel", "draw", "(I)I"⟩, prog_10_method_76_code, some .int)
def jny_206 : jn_Y := (⟨"BlobCornersModel", "drawn", "(III)I"⟩, prog_10_method_77_code, some .int)
def jny_207 : jn_Y := (⟨"BlobCornersModel", "image", "()I"⟩, prog_10_method_78_code, some .int)
def jny_208 : jn_Y := (⟨"BlobCornersModel", "restore", "()I"⟩, prog_10_method_79_code, some .int)
def jny_209 : jn_Y := (⟨"BlobCornersModel", "holes", "()I"⟩, prog_10_method_80_code, some .int)
def jny_210 : jn_Y := (⟨"BlobCornersModel", "rackedAll", "()I"⟩, prog_10_method_81_code, some .int)
def jny_211 : jn_Y := (⟨"BlobCornersModel", "countOutlines", "(I)I"⟩, prog_10_method_82_code, some .int)
def jny_212 : jn_Y := (⟨"BlobCornersModel", "countOf", "(I)I"⟩, prog_10_method_83_code, some .int)
def jny_213 : jn_Y := (⟨"BlobCornersModel", "count", "(I)I"⟩, prog_10_method_84_code, some .int)
def jny_214 : jn_Y := (⟨"BlobCornersModel", "say", "(J)V"⟩, prog_10_method_85_code, none)
def jny_215 : jn_Y := (⟨"BlobCornersModel", "sayOutline", "(I)V"⟩, prog_10_method_86_code, none)
def jny_216 : jn_Y := (⟨"BlobCornersModel", "digest", "()J"⟩, prog_10_method_87_code, some .long)
def jny_217 : jn_Y := (⟨"BlobCornersLaw", "law", "([I)Z"⟩, code, some .boolean)
def jn_YL : List (List jn_Y) := [[jny_0, jny_1, jny_2, jny_3, jny_4, jny_5, jny_6, jny_7, jny_8, jny_9, jny_10, jny_11, jny_12, jny_13, jny_14, jny_15],
  [jny_16, jny_17, jny_18, jny_19, jny_20, jny_21, jny_22, jny_23, jny_24, jny_25, jny_26, jny_27, jny_28, jny_29, jny_30, jny_31],
  [jny_32, jny_33, jny_34, jny_35, jny_36, jny_37, jny_38, jny_39, jny_40, jny_41, jny_42, jny_43, jny_44, jny_45, jny_46, jny_47],
  [jny_48, jny_49, jny_50, jny_51, jny_52, jny_53, jny_54, jny_55, jny_56, jny_57, jny_58, jny_59, jny_60, jny_61, jny_62, jny_63],
  [jny_64, jny_65, jny_66, jny_67, jny_68, jny_69, jny_70, jny_71, jny_72, jny_73, jny_74, jny_75, jny_76, jny_77, jny_78, jny_79],
  [jny_80, jny_81, jny_82, jny_83, jny_84, jny_85, jny_86, jny_87, jny_88, jny_89, jny_90, jny_91, jny_92, jny_93, jny_94, jny_95],
  [jny_96, jny_97, jny_98, jny_99, jny_100, jny_101, jny_102, jny_103, jny_104, jny_105, jny_106, jny_107, jny_108, jny_109, jny_110, jny_111],
  [jny_112, jny_113, jny_114, jny_115, jny_116, jny_117, jny_118, jny_119, jny_120, jny_121, jny_122, jny_123, jny_124, jny_125, jny_126, jny_127],
  [jny_128, jny_129, jny_130, jny_131, jny_132, jny_133, jny_134, jny_135, jny_136, jny_137, jny_138, jny_139, jny_140, jny_141, jny_142, jny_143],
  [jny_144, jny_145, jny_146, jny_147, jny_148, jny_149, jny_150, jny_151, jny_152, jny_153, jny_154, jny_155, jny_156, jny_157, jny_158, jny_159],
  [jny_160, jny_161, jny_162, jny_163, jny_164, jny_165, jny_166, jny_167, jny_168, jny_169, jny_170, jny_171, jny_172, jny_173, jny_174, jny_175],
  [jny_176, jny_177, jny_178, jny_179, jny_180, jny_181, jny_182, jny_183, jny_184, jny_185, jny_186, jny_187, jny_188, jny_189, jny_190, jny_191],
  [jny_192, jny_193, jny_194, jny_195, jny_196, jny_197, jny_198, jny_199, jny_200, jny_201, jny_202, jny_203, jny_204, jny_205, jny_206, jny_207],
  [jny_208, jny_209, jny_210, jny_211, jny_212, jny_213, jny_214, jny_215, jny_216, jny_217]]
def jn_y (x : Nat) : jn_Y := (jn_YL.getD (x / 16) []).getD (x % 16) (⟨"", "", ""⟩, ⟨#[]⟩, none)
end
section
/-! words of the tables by their places -/
theorem jn_m1 {w : Cond} (i : Nat) (e : tables_1_1[i]? = some w) : w ∈ lw_tbl := List.mem_append_right _ (have h := List.mem_of_getElem? e; List.mem_append_left _ h)
theorem jn_m2 {w : Cond} (i : Nat) (e : tables_1_2[i]? = some w) : w ∈ lw_tbl := List.mem_append_right _ (have h := List.mem_of_getElem? e; List.mem_append_right _ (List.mem_append_left _ h))
theorem jn_m3 {w : Cond} (i : Nat) (e : tables_1_3[i]? = some w) : w ∈ lw_tbl := List.mem_append_right _ (have h := List.mem_of_getElem? e; List.mem_append_right _ (List.mem_append_right _ (List.mem_append_left _ h)))
theorem jn_m4 {w : Cond} (i : Nat) (e : tables_1_4[i]? = some w) : w ∈ lw_tbl := List.mem_append_right _ (have h := List.mem_of_getElem? e; List.mem_append_right _ (List.mem_append_right _ (List.mem_append_right _ (List.mem_append_left _ h))))
theorem jn_m5 {w : Cond} (i : Nat) (e : tables_1_5[i]? = some w) : w ∈ lw_tbl := List.mem_append_right _ (have h := List.mem_of_getElem? e; List.mem_append_right _ (List.mem_append_right _ (List.mem_append_right _ (List.mem_append_right _ (List.mem_append_left _ h)))))
theorem jn_m6 {w : Cond} (i : Nat) (e : tables_1_6[i]? = some w) : w ∈ lw_tbl := List.mem_append_right _ (have h := List.mem_of_getElem? e; List.mem_append_right _ (List.mem_append_right _ (List.mem_append_right _ (List.mem_append_right _ (List.mem_append_right _ (h))))))
theorem jn_s1 {y : MethodName} {n : Nat} (i : Nat) (e : lw_privs_1[i]? = some (y, n)) : Cond.selects y.cls y y ∈ lw_tbl := List.mem_append_left _ (List.mem_map.mpr ⟨(y, n), (have h := List.mem_of_getElem? e; List.mem_append_left _ h), rfl⟩)
theorem jn_s2 {y : MethodName} {n : Nat} (i : Nat) (e : lw_privs_2[i]? = some (y, n)) : Cond.selects y.cls y y ∈ lw_tbl := List.mem_append_left _ (List.mem_map.mpr ⟨(y, n), (have h := List.mem_of_getElem? e; List.mem_append_right _ (List.mem_append_left _ h)), rfl⟩)
theorem jn_s3 {y : MethodName} {n : Nat} (i : Nat) (e : lw_privs_3[i]? = some (y, n)) : Cond.selects y.cls y y ∈ lw_tbl := List.mem_append_left _ (List.mem_map.mpr ⟨(y, n), (have h := List.mem_of_getElem? e; List.mem_append_right _ (List.mem_append_right _ (List.mem_append_left _ h))), rfl⟩)
theorem jn_s4 {y : MethodName} {n : Nat} (i : Nat) (e : lw_privs_4[i]? = some (y, n)) : Cond.selects y.cls y y ∈ lw_tbl := List.mem_append_left _ (List.mem_map.mpr ⟨(y, n), (have h := List.mem_of_getElem? e; List.mem_append_right _ (List.mem_append_right _ (List.mem_append_right _ (List.mem_append_left _ h)))), rfl⟩)
theorem jn_s5 {y : MethodName} {n : Nat} (i : Nat) (e : lw_privs_5[i]? = some (y, n)) : Cond.selects y.cls y y ∈ lw_tbl := List.mem_append_left _ (List.mem_map.mpr ⟨(y, n), (have h := List.mem_of_getElem? e; List.mem_append_right _ (List.mem_append_right _ (List.mem_append_right _ (List.mem_append_right _ (List.mem_append_left _ h))))), rfl⟩)
theorem jn_s6 {y : MethodName} {n : Nat} (i : Nat) (e : lw_privs_6[i]? = some (y, n)) : Cond.selects y.cls y y ∈ lw_tbl := List.mem_append_left _ (List.mem_map.mpr ⟨(y, n), (have h := List.mem_of_getElem? e; List.mem_append_right _ (List.mem_append_right _ (List.mem_append_right _ (List.mem_append_right _ (List.mem_append_right _ (List.mem_append_left _ h)))))), rfl⟩)
theorem jn_s7 {y : MethodName} {n : Nat} (i : Nat) (e : lw_privs_7[i]? = some (y, n)) : Cond.selects y.cls y y ∈ lw_tbl := List.mem_append_left _ (List.mem_map.mpr ⟨(y, n), (have h := List.mem_of_getElem? e; List.mem_append_right _ (List.mem_append_right _ (List.mem_append_right _ (List.mem_append_right _ (List.mem_append_right _ (List.mem_append_right _ (List.mem_append_left _ h))))))), rfl⟩)
theorem jn_s8 {y : MethodName} {n : Nat} (i : Nat) (e : lw_privs_8[i]? = some (y, n)) : Cond.selects y.cls y y ∈ lw_tbl := List.mem_append_left _ (List.mem_map.mpr ⟨(y, n), (have h := List.mem_of_getElem? e; List.mem_append_right _ (List.mem_append_right _ (List.mem_append_right _ (List.mem_append_right _ (List.mem_append_right _ (List.mem_append_right _ (List.mem_append_right _ (List.mem_append_left _ h)))))))), rfl⟩)
theorem jn_s9 {y : MethodName} {n : Nat} (i : Nat) (e : lw_privs_9[i]? = some (y, n)) : Cond.selects y.cls y y ∈ lw_tbl := List.mem_append_left _ (List.mem_map.mpr ⟨(y, n), (have h := List.mem_of_getElem? e; List.mem_append_right _ (List.mem_append_right _ (List.mem_append_right _ (List.mem_append_right _ (List.mem_append_right _ (List.mem_append_right _ (List.mem_append_right _ (List.mem_append_right _ (h))))))))), rfl⟩)
theorem jn_ws0 : ∀ w ∈ u_ws "BlobCorners$BestPolygons" jn_T0 13, w ∈ lw_tbl := by
  intro w hw
  obtain ⟨k, hk, rfl⟩ := List.mem_map.mp hw
  have hk := List.mem_range.mp hk
  match k, hk with
  | 0, _ => exact (jn_m1 177 rfl)
  | 1, _ => exact (jn_m1 179 rfl)
  | 2, _ => exact (jn_m1 181 rfl)
  | 3, _ => exact (jn_m1 183 rfl)
  | 4, _ => exact (jn_m1 185 rfl)
  | 5, _ => exact (jn_m1 187 rfl)
  | 6, _ => exact (jn_m1 189 rfl)
  | 7, _ => exact (jn_m1 191 rfl)
  | 8, _ => exact (jn_m1 193 rfl)
  | 9, _ => exact (jn_m1 195 rfl)
  | 10, _ => exact (jn_m1 197 rfl)
  | 11, _ => exact (jn_m1 199 rfl)
  | 12, _ => exact (jn_m1 201 rfl)
  | k + 13, h => exact absurd h (by omega)
theorem jn_ws1 : ∀ w ∈ u_ws "BlobCorners$Grid" jn_T1 3, w ∈ lw_tbl := by
  intro w hw
  obtain ⟨k, hk, rfl⟩ := List.mem_map.mp hw
  have hk := List.mem_range.mp hk
  match k, hk with
  | 0, _ => exact (jn_m1 53 rfl)
  | 1, _ => exact (jn_m1 55 rfl)
  | 2, _ => exact (jn_m1 57 rfl)
  | k + 3, h => exact absurd h (by omega)
theorem jn_ws2 : ∀ w ∈ u_ws "BlobCorners$Joints" jn_T2 4, w ∈ lw_tbl := by
  intro w hw
  obtain ⟨k, hk, rfl⟩ := List.mem_map.mp hw
  have hk := List.mem_range.mp hk
  match k, hk with
  | 0, _ => exact (jn_m1 148 rfl)
  | 1, _ => exact (jn_m1 150 rfl)
  | 2, _ => exact (jn_m1 152 rfl)
  | 3, _ => exact (jn_m1 154 rfl)
  | k + 4, h => exact absurd h (by omega)
theorem jn_ws3 : ∀ w ∈ u_ws "BlobCorners$Outlines" jn_T3 12, w ∈ lw_tbl := by
  intro w hw
  obtain ⟨k, hk, rfl⟩ := List.mem_map.mp hw
  have hk := List.mem_range.mp hk
  match k, hk with
  | 0, _ => exact (jn_m1 113 rfl)
  | 1, _ => exact (jn_m1 115 rfl)
  | 2, _ => exact (jn_m1 117 rfl)
  | 3, _ => exact (jn_m1 119 rfl)
  | 4, _ => exact (jn_m1 121 rfl)
  | 5, _ => exact (jn_m1 123 rfl)
  | 6, _ => exact (jn_m1 125 rfl)
  | 7, _ => exact (jn_m1 127 rfl)
  | 8, _ => exact (jn_m1 129 rfl)
  | 9, _ => exact (jn_m1 131 rfl)
  | 10, _ => exact (jn_m1 133 rfl)
  | 11, _ => exact (jn_m1 135 rfl)
  | k + 12, h => exact absurd h (by omega)
theorem jn_ws4 : ∀ w ∈ u_ws "BlobCorners$Page" jn_T4 2, w ∈ lw_tbl := by
  intro w hw
  obtain ⟨k, hk, rfl⟩ := List.mem_map.mp hw
  have hk := List.mem_range.mp hk
  match k, hk with
  | 0, _ => exact (jn_m1 34 rfl)
  | 1, _ => exact (jn_m1 36 rfl)
  | k + 2, h => exact absurd h (by omega)
theorem jn_ws5 : ∀ w ∈ u_ws "BlobCorners$Racks" jn_T5 2, w ∈ lw_tbl := by
  intro w hw
  obtain ⟨k, hk, rfl⟩ := List.mem_map.mp hw
  have hk := List.mem_range.mp hk
  match k, hk with
  | 0, _ => exact (jn_m1 89 rfl)
  | 1, _ => exact (jn_m1 91 rfl)
  | k + 2, h => exact absurd h (by omega)
theorem jn_ws6 : ∀ w ∈ u_ws "BlobCorners$Seen" jn_T6 4, w ∈ lw_tbl := by
  intro w hw
  obtain ⟨k, hk, rfl⟩ := List.mem_map.mp hw
  have hk := List.mem_range.mp hk
  match k, hk with
  | 0, _ => exact (jn_m1 71 rfl)
  | 1, _ => exact (jn_m1 73 rfl)
  | 2, _ => exact (jn_m1 75 rfl)
  | 3, _ => exact (jn_m1 77 rfl)
  | k + 4, h => exact absurd h (by omega)
theorem jn_ws7 : ∀ w ∈ u_ws "BlobCorners" jn_T7 15, w ∈ lw_tbl := by
  intro w hw
  obtain ⟨k, hk, rfl⟩ := List.mem_map.mp hw
  have hk := List.mem_range.mp hk
  match k, hk with
  | 0, _ => exact (jn_m1 220 rfl)
  | 1, _ => exact (jn_m1 222 rfl)
  | 2, _ => exact (jn_m1 224 rfl)
  | 3, _ => exact (jn_m1 226 rfl)
  | 4, _ => exact (jn_m1 228 rfl)
  | 5, _ => exact (jn_m1 230 rfl)
  | 6, _ => exact (jn_m1 232 rfl)
  | 7, _ => exact (jn_m1 234 rfl)
  | 8, _ => exact (jn_m1 236 rfl)
  | 9, _ => exact (jn_m1 238 rfl)
  | 10, _ => exact (jn_m2 0 rfl)
  | 11, _ => exact (jn_m2 2 rfl)
  | 12, _ => exact (jn_m2 4 rfl)
  | 13, _ => exact (jn_m2 6 rfl)
  | 14, _ => exact (jn_m2 8 rfl)
  | k + 15, h => exact absurd h (by omega)
theorem jn_ws8 : ∀ w ∈ u_ws "BlobCornersModel" jn_T8 40, w ∈ lw_tbl := by
  intro w hw
  obtain ⟨k, hk, rfl⟩ := List.mem_map.mp hw
  have hk := List.mem_range.mp hk
  match k, hk with
  | 0, _ => exact (jn_m4 200 rfl)
  | 1, _ => exact (jn_m4 202 rfl)
  | 2, _ => exact (jn_m4 204 rfl)
  | 3, _ => exact (jn_m4 206 rfl)
  | 4, _ => exact (jn_m4 208 rfl)
  | 5, _ => exact (jn_m4 210 rfl)
  | 6, _ => exact (jn_m4 212 rfl)
  | 7, _ => exact (jn_m4 214 rfl)
  | 8, _ => exact (jn_m4 216 rfl)
  | 9, _ => exact (jn_m4 218 rfl)
  | 10, _ => exact (jn_m4 220 rfl)
  | 11, _ => exact (jn_m4 222 rfl)
  | 12, _ => exact (jn_m4 224 rfl)
  | 13, _ => exact (jn_m4 226 rfl)
  | 14, _ => exact (jn_m4 228 rfl)
  | 15, _ => exact (jn_m4 230 rfl)
  | 16, _ => exact (jn_m4 232 rfl)
  | 17, _ => exact (jn_m4 234 rfl)
  | 18, _ => exact (jn_m4 236 rfl)
  | 19, _ => exact (jn_m4 238 rfl)
  | 20, _ => exact (jn_m5 0 rfl)
  | 21, _ => exact (jn_m5 2 rfl)
  | 22, _ => exact (jn_m5 4 rfl)
  | 23, _ => exact (jn_m5 6 rfl)
  | 24, _ => exact (jn_m5 8 rfl)
  | 25, _ => exact (jn_m5 10 rfl)
  | 26, _ => exact (jn_m5 12 rfl)
  | 27, _ => exact (jn_m5 14 rfl)
  | 28, _ => exact (jn_m5 16 rfl)
  | 29, _ => exact (jn_m5 18 rfl)
  | 30, _ => exact (jn_m5 20 rfl)
  | 31, _ => exact (jn_m5 22 rfl)
  | 32, _ => exact (jn_m5 24 rfl)
  | 33, _ => exact (jn_m5 26 rfl)
  | 34, _ => exact (jn_m5 28 rfl)
  | 35, _ => exact (jn_m5 30 rfl)
  | 36, _ => exact (jn_m5 32 rfl)
  | 37, _ => exact (jn_m5 34 rfl)
  | 38, _ => exact (jn_m5 36 rfl)
  | 39, _ => exact (jn_m5 38 rfl)
  | k + 40, h => exact absurd h (by omega)
/-- what the tables say of a method -/
def jn_okM (x : Nat) : Prop := (Cond.code (jn_y x).1 (jn_y x).2.1 (jm_me x).2.2.2.1 (jn_y x).2.2 ∈ lw_tbl ∧ Cond.initialized (jn_y x).1.cls ∈ lw_tbl ∧ (jn_y x).1.cls = jn_own (jm_me x).1 ∧ plainName (jn_y x).1.cls = true ∧ ((jn_y x).1.cls ≠ "java/lang/invoke/MethodHandle" ∧ (jn_y x).1.cls ≠ "java/lang/invoke/VarHandle")) ∧ (if (jm_me x).2.2.1 = true then Cond.static (jn_y x).1 ∈ lw_tbl ∧ (parseMethodDescriptor (jn_y x).1.desc).map (fun d => d.parameters.length) = some (jm_me x).2.1 else (Cond.instanceMethod (jn_y x).1 ∈ lw_tbl ∧ Cond.selects (jn_y x).1.cls (jn_y x).1 (jn_y x).1 ∈ lw_tbl) ∧ (parseMethodDescriptor (jn_y x).1.desc).map (fun d => d.parameters.length + 1) = some (jm_me x).2.1)
theorem jn_o3 : jn_okM 3 := ⟨⟨(jn_m3 40 rfl), (jn_m1 16 rfl), rfl, by decide +kernel, by decide +kernel, by decide +kernel⟩, ⟨(jn_m3 39 rfl), by decide +kernel⟩⟩
theorem jn_o4 : jn_okM 4 := ⟨⟨(jn_m2 56 rfl), (jn_m1 10 rfl), rfl, by decide +kernel, by decide +kernel, by decide +kernel⟩, ⟨⟨(jn_m2 54 rfl), (jn_m2 55 rfl)⟩, by decide +kernel⟩⟩
theorem jn_o5 : jn_okM 5 := ⟨⟨(jn_m2 60 rfl), (jn_m1 10 rfl), rfl, by decide +kernel, by decide +kernel, by decide +kernel⟩, ⟨⟨(jn_m2 58 rfl), (jn_m2 59 rfl)⟩, by decide +kernel⟩⟩
theorem jn_o6 : jn_okM 6 := ⟨⟨(jn_m2 50 rfl), (jn_m1 10 rfl), rfl, by decide +kernel, by decide +kernel, by decide +kernel⟩, ⟨⟨(jn_m2 48 rfl), (jn_m2 49 rfl)⟩, by decide +kernel⟩⟩
theorem jn_o7 : jn_okM 7 := ⟨⟨(jn_m2 66 rfl), (jn_m1 11 rfl), rfl, by decide +kernel, by decide +kernel, by decide +kernel⟩, ⟨(jn_m2 65 rfl), by decide +kernel⟩⟩
theorem jn_o8 : jn_okM 8 := ⟨⟨(jn_m2 75 rfl), (jn_m1 11 rfl), rfl, by decide +kernel, by decide +kernel, by decide +kernel⟩, ⟨(jn_m2 74 rfl), by decide +kernel⟩⟩
theorem jn_o9 : jn_okM 9 := ⟨⟨(jn_m2 63 rfl), (jn_m1 11 rfl), rfl, by decide +kernel, by decide +kernel, by decide +kernel⟩, ⟨(jn_m2 62 rfl), by decide +kernel⟩⟩
theorem jn_o10 : jn_okM 10 := ⟨⟨(jn_m2 46 rfl), (jn_m1 10 rfl), rfl, by decide +kernel, by decide +kernel, by decide +kernel⟩, ⟨⟨(jn_m2 44 rfl), (jn_m2 45 rfl)⟩, by decide +kernel⟩⟩
theorem jn_o11 : jn_okM 11 := ⟨⟨(jn_m2 42 rfl), (jn_m1 10 rfl), rfl, by decide +kernel, by decide +kernel, by decide +kernel⟩, ⟨⟨(jn_m2 40 rfl), (jn_m2 41 rfl)⟩, by decide +kernel⟩⟩
theorem jn_o12 : jn_okM 12 := ⟨⟨(jn_m3 14 rfl), (jn_m1 8 rfl), rfl, by decide +kernel, by decide +kernel, by decide +kernel⟩, ⟨⟨(jn_m3 13 rfl), (jn_s2 13 rfl)⟩, by decide +kernel⟩⟩
theorem jn_o13 : jn_okM 13 := ⟨⟨(jn_m3 80 rfl), (jn_m1 8 rfl), rfl, by decide +kernel, by decide +kernel, by decide +kernel⟩, ⟨⟨(jn_m3 79 rfl), (jn_s3 4 rfl)⟩, by decide +kernel⟩⟩
theorem jn_o14 : jn_okM 14 := ⟨⟨(jn_m3 135 rfl), (jn_m1 8 rfl), rfl, by decide +kernel, by decide +kernel, by decide +kernel⟩, ⟨⟨(jn_m3 134 rfl), (jn_s3 15 rfl)⟩, by decide +kernel⟩⟩
theorem jn_o15 : jn_okM 15 := ⟨⟨(jn_m3 142 rfl), (jn_m1 8 rfl), rfl, by decide +kernel, by decide +kernel, by decide +kernel⟩, ⟨⟨(jn_m3 141 rfl), (jn_s4 0 rfl)⟩, by decide +kernel⟩⟩
theorem jn_o16 : jn_okM 16 := ⟨⟨(jn_m3 157 rfl), (jn_m1 8 rfl), rfl, by decide +kernel, by decide +kernel, by decide +kernel⟩, ⟨⟨(jn_m3 156 rfl), (jn_s4 3 rfl)⟩, by decide +kernel⟩⟩
theorem jn_o17 : jn_okM 17 := ⟨⟨(jn_m3 165 rfl), (jn_m1 8 rfl), rfl, by decide +kernel, by decide +kernel, by decide +kernel⟩, ⟨⟨(jn_m3 164 rfl), (jn_s4 5 rfl)⟩, by decide +kernel⟩⟩
theorem jn_o18 : jn_okM 18 := ⟨⟨(jn_m3 161 rfl), (jn_m1 8 rfl), rfl, by decide +kernel, by decide +kernel, by decide +kernel⟩, ⟨⟨(jn_m3 160 rfl), (jn_s4 4 rfl)⟩, by decide +kernel⟩⟩
theorem jn_o19 : jn_okM 19 := ⟨⟨(jn_m3 169 rfl), (jn_m1 8 rfl), rfl, by decide +kernel, by decide +kernel, by decide +kernel⟩, ⟨⟨(jn_m3 168 rfl), (jn_s4 6 rfl)⟩, by decide +kernel⟩⟩
theorem jn_o20 : jn_okM 20 := ⟨⟨(jn_m3 173 rfl), (jn_m1 8 rfl), rfl, by decide +kernel, by decide +kernel, by decide +kernel⟩, ⟨⟨(jn_m3 172 rfl), (jn_s4 7 rfl)⟩, by decide +kernel⟩⟩
theorem jn_o21 : jn_okM 21 := ⟨⟨(jn_m3 177 rfl), (jn_m1 8 rfl), rfl, by decide +kernel, by decide +kernel, by decide +kernel⟩, ⟨⟨(jn_m3 176 rfl), (jn_s4 8 rfl)⟩, by decide +kernel⟩⟩
theorem jn_o22 : jn_okM 22 := ⟨⟨(jn_m3 181 rfl), (jn_m1 8 rfl), rfl, by decide +kernel, by decide +kernel, by decide +kernel⟩, ⟨⟨(jn_m3 180 rfl), (jn_s4 9 rfl)⟩, by decide +kernel⟩⟩
theorem jn_o23 : jn_okM 23 := ⟨⟨(jn_m3 193 rfl), (jn_m1 8 rfl), rfl, by decide +kernel, by decide +kernel, by decide +kernel⟩, ⟨⟨(jn_m3 192 rfl), (jn_s4 11 rfl)⟩, by decide +kernel⟩⟩
theorem jn_o24 : jn_okM 24 := ⟨⟨(jn_m3 200 rfl), (jn_m1 8 rfl), rfl, by decide +kernel, by decide +kernel, by decide +kernel⟩, ⟨⟨(jn_m3 199 rfl), (jn_s4 12 rfl)⟩, by decide +kernel⟩⟩
theorem jn_o25 : jn_okM 25 := ⟨⟨(jn_m3 204 rfl), (jn_m1 8 rfl), rfl, by decide +kernel, by decide +kernel, by decide +kernel⟩, ⟨⟨(jn_m3 203 rfl), (jn_s4 13 rfl)⟩, by decide +kernel⟩⟩
theorem jn_o26 : jn_okM 26 := ⟨⟨(jn_m3 185 rfl), (jn_m1 8 rfl), rfl, by decide +kernel, by decide +kernel, by decide +kernel⟩, ⟨⟨(jn_m3 184 rfl), (jn_s4 10 rfl)⟩, by decide +kernel⟩⟩
theorem jn_o27 : jn_okM 27 := ⟨⟨(jn_m4 0 rfl), (jn_m1 8 rfl), rfl, by decide +kernel, by decide +kernel, by decide +kernel⟩, ⟨⟨(jn_m3 239 rfl), (jn_s5 3 rfl)⟩, by decide +kernel⟩⟩
theorem jn_o28 : jn_okM 28 := ⟨⟨(jn_m2 158 rfl), (jn_m1 3 rfl), rfl, by decide +kernel, by decide +kernel, by decide +kernel⟩, ⟨⟨(jn_m2 157 rfl), (jn_s1 9 rfl)⟩, by decide +kernel⟩⟩
theorem jn_o29 : jn_okM 29 := ⟨⟨(jn_m2 150 rfl), (jn_m1 3 rfl), rfl, by decide +kernel, by decide +kernel, by decide +kernel⟩, ⟨⟨(jn_m2 149 rfl), (jn_s1 7 rfl)⟩, by decide +kernel⟩⟩
theorem jn_o30 : jn_okM 30 := ⟨⟨(jn_m2 162 rfl), (jn_m1 3 rfl), rfl, by decide +kernel, by decide +kernel, by decide +kernel⟩, ⟨⟨(jn_m2 161 rfl), (jn_s1 10 rfl)⟩, by decide +kernel⟩⟩
theorem jn_o31 : jn_okM 31 := ⟨⟨(jn_m2 190 rfl), (jn_m1 3 rfl), rfl, by decide +kernel, by decide +kernel, by decide +kernel⟩, ⟨⟨(jn_m2 189 rfl), (jn_s2 1 rfl)⟩, by decide +kernel⟩⟩
theorem jn_o32 : jn_okM 32 := ⟨⟨(jn_m2 186 rfl), (jn_m1 3 rfl), rfl, by decide +kernel, by decide +kernel, by decide +kernel⟩, ⟨⟨(jn_m2 185 rfl), (jn_s2 0 rfl)⟩, by decide +kernel⟩⟩
theorem jn_o33 : jn_okM 33 := ⟨⟨(jn_m2 154 rfl), (jn_m1 3 rfl), rfl, by decide +kernel, by decide +kernel, by decide +kernel⟩, ⟨⟨(jn_m2 153 rfl), (jn_s1 8 rfl)⟩, by decide +kernel⟩⟩
theorem jn_o34 : jn_okM 34 := ⟨⟨(jn_m2 142 rfl), (jn_m1 3 rfl), rfl, by decide +kernel, by decide +kernel, by decide +kernel⟩, ⟨⟨(jn_m2 141 rfl), (jn_s1 5 rfl)⟩, by decide +kernel⟩⟩
theorem jn_o35 : jn_okM 35 := ⟨⟨(jn_m2 146 rfl), (jn_m1 3 rfl), rfl, by decide +kernel, by decide +kernel, by decide +kernel⟩, ⟨⟨(jn_m2 145 rfl), (jn_s1 6 rfl)⟩, by decide +kernel⟩⟩
theorem jn_o36 : jn_okM 36 := ⟨⟨(jn_m2 166 rfl), (jn_m1 3 rfl), rfl, by decide +kernel, by decide +kernel, by decide +kernel⟩, ⟨⟨(jn_m2 165 rfl), (jn_s1 11 rfl)⟩, by decide +kernel⟩⟩
theorem jn_o37 : jn_okM 37 := ⟨⟨(jn_m4 38 rfl), (jn_m1 3 rfl), rfl, by decide +kernel, by decide +kernel, by decide +kernel⟩, ⟨⟨(jn_m4 37 rfl), (jn_s5 5 rfl)⟩, by decide +kernel⟩⟩
theorem jn_o38 : jn_okM 38 := ⟨⟨(jn_m4 52 rfl), (jn_m1 3 rfl), rfl, by decide +kernel, by decide +kernel, by decide +kernel⟩, ⟨⟨(jn_m4 51 rfl), (jn_s5 7 rfl)⟩, by decide +kernel⟩⟩
theorem jn_o39 : jn_okM 39 := ⟨⟨(jn_m3 10 rfl), (jn_m1 7 rfl), rfl, by decide +kernel, by decide +kernel, by decide +kernel⟩, ⟨⟨(jn_m3 9 rfl), (jn_s2 12 rfl)⟩, by decide +kernel⟩⟩
theorem jn_o40 : jn_okM 40 := ⟨⟨(jn_m3 84 rfl), (jn_m1 7 rfl), rfl, by decide +kernel, by decide +kernel, by decide +kernel⟩, ⟨⟨(jn_m3 83 rfl), (jn_s3 5 rfl)⟩, by decide +kernel⟩⟩
theorem jn_o41 : jn_okM 41 := ⟨⟨(jn_m3 90 rfl), (jn_m1 7 rfl), rfl, by decide +kernel, by decide +kernel, by decide +kernel⟩, ⟨⟨(jn_m3 89 rfl), (jn_s3 6 rfl)⟩, by decide +kernel⟩⟩
theorem jn_o42 : jn_okM 42 := ⟨⟨(jn_m3 130 rfl), (jn_m1 7 rfl), rfl, by decide +kernel, by decide +kernel, by decide +kernel⟩, ⟨⟨(jn_m3 129 rfl), (jn_s3 14 rfl)⟩, by decide +kernel⟩⟩
theorem jn_o43 : jn_okM 43 := ⟨⟨(jn_m3 118 rfl), (jn_m1 7 rfl), rfl, by decide +kernel, by decide +kernel, by decide +kernel⟩, ⟨⟨(jn_m3 117 rfl), (jn_s3 11 rfl)⟩, by decide +kernel⟩⟩
theorem jn_o44 : jn_okM 44 := ⟨⟨(jn_m3 114 rfl), (jn_m1 7 rfl), rfl, by decide +kernel, by decide +kernel, by decide +kernel⟩, ⟨⟨(jn_m3 113 rfl), (jn_s3 10 rfl)⟩, by decide +kernel⟩⟩
theorem jn_o45 : jn_okM 45 := ⟨⟨(jn_m3 110 rfl), (jn_m1 7 rfl), rfl, by decide +kernel, by decide +kernel, by decide +kernel⟩, ⟨⟨(jn_m3 109 rfl), (jn_s3 9 rfl)⟩, by decide +kernel⟩⟩
theorem jn_o46 : jn_okM 46 := ⟨⟨(jn_m3 122 rfl), (jn_m1 7 rfl), rfl, by decide +kernel, by decide +kernel, by decide +kernel⟩, ⟨⟨(jn_m3 121 rfl), (jn_s3 12 rfl)⟩, by decide +kernel⟩⟩
theorem jn_o47 : jn_okM 47 := ⟨⟨(jn_m3 126 rfl), (jn_m1 7 rfl), rfl, by decide +kernel, by decide +kernel, by decide +kernel⟩, ⟨⟨(jn_m3 125 rfl), (jn_s3 13 rfl)⟩, by decide +kernel⟩⟩
theorem jn_o48 : jn_okM 48 := ⟨⟨(jn_m2 178 rfl), (jn_m1 6 rfl), rfl, by decide +kernel, by decide +kernel, by decide +kernel⟩, ⟨⟨(jn_m2 177 rfl), (jn_s1 14 rfl)⟩, by decide +kernel⟩⟩
theorem jn_o49 : jn_okM 49 := ⟨⟨(jn_m2 182 rfl), (jn_m1 6 rfl), rfl, by decide +kernel, by decide +kernel, by decide +kernel⟩, ⟨⟨(jn_m2 181 rfl), (jn_s1 15 rfl)⟩, by decide +kernel⟩⟩
theorem jn_o50 : jn_okM 50 := ⟨⟨(jn_m2 195 rfl), (jn_m1 6 rfl), rfl, by decide +kernel, by decide +kernel, by decide +kernel⟩, ⟨(jn_m2 194 rfl), by decide +kernel⟩⟩
theorem jn_o51 : jn_okM 51 := ⟨⟨(jn_m2 199 rfl), (jn_m1 6 rfl), rfl, by decide +kernel, by decide +kernel, by decide +kernel⟩, ⟨⟨(jn_m2 198 rfl), (jn_s2 2 rfl)⟩, by decide +kernel⟩⟩
theorem jn_o52 : jn_okM 52 := ⟨⟨(jn_m2 203 rfl), (jn_m1 6 rfl), rfl, by decide +kernel, by decide +kernel, by decide +kernel⟩, ⟨⟨(jn_m2 202 rfl), (jn_s2 3 rfl)⟩, by decide +kernel⟩⟩
theorem jn_o53 : jn_okM 53 := ⟨⟨(jn_m2 211 rfl), (jn_m1 6 rfl), rfl, by decide +kernel, by decide +kernel, by decide +kernel⟩, ⟨⟨(jn_m2 210 rfl), (jn_s2 4 rfl)⟩, by decide +kernel⟩⟩
theorem jn_o54 : jn_okM 54 := ⟨⟨(jn_m2 215 rfl), (jn_m1 6 rfl), rfl, by decide +kernel, by decide +kernel, by decide +kernel⟩, ⟨⟨(jn_m2 214 rfl), (jn_s2 5 rfl)⟩, by decide +kernel⟩⟩
theorem jn_o55 : jn_okM 55 := ⟨⟨(jn_m2 235 rfl), (jn_m1 6 rfl), rfl, by decide +kernel, by decide +kernel, by decide +kernel⟩, ⟨⟨(jn_m2 234 rfl), (jn_s2 10 rfl)⟩, by decide +kernel⟩⟩
theorem jn_o56 : jn_okM 56 := ⟨⟨(jn_m3 2 rfl), (jn_m1 6 rfl), rfl, by decide +kernel, by decide +kernel, by decide +kernel⟩, ⟨(jn_m3 1 rfl), by decide +kernel⟩⟩
theorem jn_o57 : jn_okM 57 := ⟨⟨(jn_m3 6 rfl), (jn_m1 6 rfl), rfl, by decide +kernel, by decide +kernel, by decide +kernel⟩, ⟨(jn_m3 5 rfl), by decide +kernel⟩⟩
theorem jn_o58 : jn_okM 58 := ⟨⟨(jn_m3 62 rfl), (jn_m1 6 rfl), rfl, by decide +kernel, by decide +kernel, by decide +kernel⟩, ⟨⟨(jn_m3 61 rfl), (jn_s3 0 rfl)⟩, by decide +kernel⟩⟩
theorem jn_o59 : jn_okM 59 := ⟨⟨(jn_m3 219 rfl), (jn_m1 6 rfl), rfl, by decide +kernel, by decide +kernel, by decide +kernel⟩, ⟨⟨(jn_m3 218 rfl), (jn_s4 15 rfl)⟩, by decide +kernel⟩⟩
theorem jn_o60 : jn_okM 60 := ⟨⟨(jn_m4 8 rfl), (jn_m1 6 rfl), rfl, by decide +kernel, by decide +kernel, by decide +kernel⟩, ⟨⟨(jn_m4 7 rfl), (jn_s5 4 rfl)⟩, by decide +kernel⟩⟩
theorem jn_o61 : jn_okM 61 := ⟨⟨(jn_m2 219 rfl), (jn_m1 6 rfl), rfl, by decide +kernel, by decide +kernel, by decide +kernel⟩, ⟨⟨(jn_m2 218 rfl), (jn_s2 6 rfl)⟩, by decide +kernel⟩⟩
theorem jn_o62 : jn_okM 62 := ⟨⟨(jn_m2 223 rfl), (jn_m1 6 rfl), rfl, by decide +kernel, by decide +kernel, by decide +kernel⟩, ⟨⟨(jn_m2 222 rfl), (jn_s2 7 rfl)⟩, by decide +kernel⟩⟩
theorem jn_o63 : jn_okM 63 := ⟨⟨(jn_m3 75 rfl), (jn_m1 6 rfl), rfl, by decide +kernel, by decide +kernel, by decide +kernel⟩, ⟨⟨(jn_m3 74 rfl), (jn_s3 3 rfl)⟩, by decide +kernel⟩⟩
theorem jn_o64 : jn_okM 64 := ⟨⟨(jn_m3 71 rfl), (jn_m1 6 rfl), rfl, by decide +kernel, by decide +kernel, by decide +kernel⟩, ⟨⟨(jn_m3 70 rfl), (jn_s3 2 rfl)⟩, by decide +kernel⟩⟩
theorem jn_o65 : jn_okM 65 := ⟨⟨(jn_m2 227 rfl), (jn_m1 6 rfl), rfl, by decide +kernel, by decide +kernel, by decide +kernel⟩, ⟨⟨(jn_m2 226 rfl), (jn_s2 8 rfl)⟩, by decide +kernel⟩⟩
theorem jn_o66 : jn_okM 66 := ⟨⟨(jn_m2 231 rfl), (jn_m1 6 rfl), rfl, by decide +kernel, by decide +kernel, by decide +kernel⟩, ⟨⟨(jn_m2 230 rfl), (jn_s2 9 rfl)⟩, by decide +kernel⟩⟩
theorem jn_o67 : jn_okM 67 := ⟨⟨(jn_m2 239 rfl), (jn_m1 6 rfl), rfl, by decide +kernel, by decide +kernel, by decide +kernel⟩, ⟨⟨(jn_m2 238 rfl), (jn_s2 11 rfl)⟩, by decide +kernel⟩⟩
theorem jn_o68 : jn_okM 68 := ⟨⟨(jn_m3 230 rfl), (jn_m1 6 rfl), rfl, by decide +kernel, by decide +kernel, by decide +kernel⟩, ⟨⟨(jn_m3 229 rfl), (jn_s5 1 rfl)⟩, by decide +kernel⟩⟩
theorem jn_o69 : jn_okM 69 := ⟨⟨(jn_m3 106 rfl), (jn_m1 6 rfl), rfl, by decide +kernel, by decide +kernel, by decide +kernel⟩, ⟨⟨(jn_m3 105 rfl), (jn_s3 8 rfl)⟩, by decide +kernel⟩⟩
theorem jn_o70 : jn_okM 70 := ⟨⟨(jn_m4 137 rfl), (jn_m1 6 rfl), rfl, by decide +kernel, by decide +kernel, by decide +kernel⟩, ⟨⟨(jn_m4 136 rfl), (jn_s6 0 rfl)⟩, by decide +kernel⟩⟩
theorem jn_o71 : jn_okM 71 := ⟨⟨(jn_m3 210 rfl), (jn_m1 6 rfl), rfl, by decide +kernel, by decide +kernel, by decide +kernel⟩, ⟨⟨(jn_m3 209 rfl), (jn_s4 14 rfl)⟩, by decide +kernel⟩⟩
theorem jn_o72 : jn_okM 72 := ⟨⟨(jn_m3 151 rfl), (jn_m1 6 rfl), rfl, by decide +kernel, by decide +kernel, by decide +kernel⟩, ⟨⟨(jn_m3 150 rfl), (jn_s4 2 rfl)⟩, by decide +kernel⟩⟩
theorem jn_o73 : jn_okM 73 := ⟨⟨(jn_m3 95 rfl), (jn_m1 6 rfl), rfl, by decide +kernel, by decide +kernel, by decide +kernel⟩, ⟨⟨(jn_m3 94 rfl), (jn_s3 7 rfl)⟩, by decide +kernel⟩⟩
theorem jn_o74 : jn_okM 74 := ⟨⟨(jn_m3 147 rfl), (jn_m1 6 rfl), rfl, by decide +kernel, by decide +kernel, by decide +kernel⟩, ⟨⟨(jn_m3 146 rfl), (jn_s4 1 rfl)⟩, by decide +kernel⟩⟩
theorem jn_o75 : jn_okM 75 := ⟨⟨(jn_m3 102 rfl), (jn_m1 6 rfl), rfl, by decide +kernel, by decide +kernel, by decide +kernel⟩, ⟨(jn_m3 101 rfl), by decide +kernel⟩⟩
theorem jn_o76 : jn_okM 76 := ⟨⟨(jn_m3 235 rfl), (jn_m1 6 rfl), rfl, by decide +kernel, by decide +kernel, by decide +kernel⟩, ⟨⟨(jn_m3 234 rfl), (jn_s5 2 rfl)⟩, by decide +kernel⟩⟩
theorem jn_o77 : jn_okM 77 := ⟨⟨(jn_m2 18 rfl), (jn_m1 2 rfl), rfl, by decide +kernel, by decide +kernel, by decide +kernel⟩, ⟨⟨(jn_m2 17 rfl), (jn_s1 0 rfl)⟩, by decide +kernel⟩⟩
theorem jn_o78 : jn_okM 78 := ⟨⟨(jn_m2 34 rfl), (jn_m1 2 rfl), rfl, by decide +kernel, by decide +kernel, by decide +kernel⟩, ⟨⟨(jn_m2 33 rfl), (jn_s1 2 rfl)⟩, by decide +kernel⟩⟩
theorem jn_o79 : jn_okM 79 := ⟨⟨(jn_m2 30 rfl), (jn_m1 2 rfl), rfl, by decide +kernel, by decide +kernel, by decide +kernel⟩, ⟨⟨(jn_m2 29 rfl), (jn_s1 1 rfl)⟩, by decide +kernel⟩⟩
theorem jn_o80 : jn_okM 80 := ⟨⟨(jn_m2 133 rfl), (jn_m1 2 rfl), rfl, by decide +kernel, by decide +kernel, by decide +kernel⟩, ⟨⟨(jn_m2 132 rfl), (jn_s1 3 rfl)⟩, by decide +kernel⟩⟩
theorem jn_o81 : jn_okM 81 := ⟨⟨(jn_m2 138 rfl), (jn_m1 2 rfl), rfl, by decide +kernel, by decide +kernel, by decide +kernel⟩, ⟨⟨(jn_m2 137 rfl), (jn_s1 4 rfl)⟩, by decide +kernel⟩⟩
theorem jn_o82 : jn_okM 82 := ⟨⟨(jn_m2 37 rfl), (jn_m1 2 rfl), rfl, by decide +kernel, by decide +kernel, by decide +kernel⟩, ⟨(jn_m2 36 rfl), by decide +kernel⟩⟩
theorem jn_o83 : jn_okM 83 := ⟨⟨(jn_m2 174 rfl), (jn_m1 5 rfl), rfl, by decide +kernel, by decide +kernel, by decide +kernel⟩, ⟨⟨(jn_m2 173 rfl), (jn_s1 13 rfl)⟩, by decide +kernel⟩⟩
theorem jn_o84 : jn_okM 84 := ⟨⟨(jn_m4 60 rfl), (jn_m1 5 rfl), rfl, by decide +kernel, by decide +kernel, by decide +kernel⟩, ⟨⟨(jn_m4 59 rfl), (jn_s5 8 rfl)⟩, by decide +kernel⟩⟩
theorem jn_o85 : jn_okM 85 := ⟨⟨(jn_m4 65 rfl), (jn_m1 5 rfl), rfl, by decide +kernel, by decide +kernel, by decide +kernel⟩, ⟨⟨(jn_m4 64 rfl), (jn_s5 9 rfl)⟩, by decide +kernel⟩⟩
theorem jn_o86 : jn_okM 86 := ⟨⟨(jn_m4 74 rfl), (jn_m1 5 rfl), rfl, by decide +kernel, by decide +kernel, by decide +kernel⟩, ⟨⟨(jn_m4 73 rfl), (jn_s5 10 rfl)⟩, by decide +kernel⟩⟩
theorem jn_o87 : jn_okM 87 := ⟨⟨(jn_m4 142 rfl), (jn_m1 5 rfl), rfl, by decide +kernel, by decide +kernel, by decide +kernel⟩, ⟨⟨(jn_m4 141 rfl), (jn_s6 1 rfl)⟩, by decide +kernel⟩⟩
theorem jn_o88 : jn_okM 88 := ⟨⟨(jn_m4 97 rfl), (jn_m1 4 rfl), rfl, by decide +kernel, by decide +kernel, by decide +kernel⟩, ⟨⟨(jn_m4 96 rfl), (jn_s5 13 rfl)⟩, by decide +kernel⟩⟩
theorem jn_o89 : jn_okM 89 := ⟨⟨(jn_m4 121 rfl), (jn_m1 4 rfl), rfl, by decide +kernel, by decide +kernel, by decide +kernel⟩, ⟨⟨(jn_m4 120 rfl), (jn_s5 14 rfl)⟩, by decide +kernel⟩⟩
theorem jn_o90 : jn_okM 90 := ⟨⟨(jn_m3 29 rfl), (jn_m1 4 rfl), rfl, by decide +kernel, by decide +kernel, by decide +kernel⟩, ⟨⟨(jn_m3 28 rfl), (jn_s2 15 rfl)⟩, by decide +kernel⟩⟩
theorem jn_o91 : jn_okM 91 := ⟨⟨(jn_m3 37 rfl), (jn_m1 4 rfl), rfl, by decide +kernel, by decide +kernel, by decide +kernel⟩, ⟨(jn_m3 36 rfl), by decide +kernel⟩⟩
theorem jn_o92 : jn_okM 92 := ⟨⟨(jn_m3 32 rfl), (jn_m1 4 rfl), rfl, by decide +kernel, by decide +kernel, by decide +kernel⟩, ⟨(jn_m3 31 rfl), by decide +kernel⟩⟩
theorem jn_o93 : jn_okM 93 := ⟨⟨(jn_m2 14 rfl), (jn_m1 1 rfl), rfl, by decide +kernel, by decide +kernel, by decide +kernel⟩, ⟨⟨(jn_m2 12 rfl), (jn_m2 13 rfl)⟩, by decide +kernel⟩⟩
theorem jn_o94 : jn_okM 94 := ⟨⟨(jn_m2 22 rfl), (jn_m1 1 rfl), rfl, by decide +kernel, by decide +kernel, by decide +kernel⟩, ⟨⟨(jn_m2 20 rfl), (jn_m2 21 rfl)⟩, by decide +kernel⟩⟩
theorem jn_o95 : jn_okM 95 := ⟨⟨(jn_m2 26 rfl), (jn_m1 1 rfl), rfl, by decide +kernel, by decide +kernel, by decide +kernel⟩, ⟨⟨(jn_m2 24 rfl), (jn_m2 25 rfl)⟩, by decide +kernel⟩⟩
theorem jn_o96 : jn_okM 96 := ⟨⟨(jn_m2 129 rfl), (jn_m1 1 rfl), rfl, by decide +kernel, by decide +kernel, by decide +kernel⟩, ⟨⟨(jn_m2 127 rfl), (jn_m2 128 rfl)⟩, by decide +kernel⟩⟩
theorem jn_o97 : jn_okM 97 := ⟨⟨(jn_m3 19 rfl), (jn_m1 1 rfl), rfl, by decide +kernel, by decide +kernel, by decide +kernel⟩, ⟨⟨(jn_m3 17 rfl), (jn_m3 18 rfl)⟩, by decide +kernel⟩⟩
theorem jn_o98 : jn_okM 98 := ⟨⟨(jn_m3 48 rfl), (jn_m1 1 rfl), rfl, by decide +kernel, by decide +kernel, by decide +kernel⟩, ⟨⟨(jn_m3 46 rfl), (jn_m3 47 rfl)⟩, by decide +kernel⟩⟩
theorem jn_o99 : jn_okM 99 := ⟨⟨(jn_m3 58 rfl), (jn_m1 1 rfl), rfl, by decide +kernel, by decide +kernel, by decide +kernel⟩, ⟨⟨(jn_m3 56 rfl), (jn_m3 57 rfl)⟩, by decide +kernel⟩⟩
theorem jn_o100 : jn_okM 100 := ⟨⟨(jn_m3 215 rfl), (jn_m1 1 rfl), rfl, by decide +kernel, by decide +kernel, by decide +kernel⟩, ⟨⟨(jn_m3 213 rfl), (jn_m3 214 rfl)⟩, by decide +kernel⟩⟩
theorem jn_o101 : jn_okM 101 := ⟨⟨(jn_m4 4 rfl), (jn_m1 1 rfl), rfl, by decide +kernel, by decide +kernel, by decide +kernel⟩, ⟨⟨(jn_m4 2 rfl), (jn_m4 3 rfl)⟩, by decide +kernel⟩⟩
theorem jn_o102 : jn_okM 102 := ⟨⟨(jn_m4 14 rfl), (jn_m1 1 rfl), rfl, by decide +kernel, by decide +kernel, by decide +kernel⟩, ⟨⟨(jn_m4 12 rfl), (jn_m4 13 rfl)⟩, by decide +kernel⟩⟩
theorem jn_o103 : jn_okM 103 := ⟨⟨(jn_m4 20 rfl), (jn_m1 1 rfl), rfl, by decide +kernel, by decide +kernel, by decide +kernel⟩, ⟨⟨(jn_m4 18 rfl), (jn_m4 19 rfl)⟩, by decide +kernel⟩⟩
theorem jn_o104 : jn_okM 104 := ⟨⟨(jn_m4 25 rfl), (jn_m1 1 rfl), rfl, by decide +kernel, by decide +kernel, by decide +kernel⟩, ⟨⟨(jn_m4 23 rfl), (jn_m4 24 rfl)⟩, by decide +kernel⟩⟩
theorem jn_o105 : jn_okM 105 := ⟨⟨(jn_m4 30 rfl), (jn_m1 1 rfl), rfl, by decide +kernel, by decide +kernel, by decide +kernel⟩, ⟨⟨(jn_m4 28 rfl), (jn_m4 29 rfl)⟩, by decide +kernel⟩⟩
theorem jn_o106 : jn_okM 106 := ⟨⟨(jn_m4 34 rfl), (jn_m1 1 rfl), rfl, by decide +kernel, by decide +kernel, by decide +kernel⟩, ⟨⟨(jn_m4 32 rfl), (jn_m4 33 rfl)⟩, by decide +kernel⟩⟩
theorem jn_o107 : jn_okM 107 := ⟨⟨(jn_m4 48 rfl), (jn_m1 1 rfl), rfl, by decide +kernel, by decide +kernel, by decide +kernel⟩, ⟨⟨(jn_m4 46 rfl), (jn_m4 47 rfl)⟩, by decide +kernel⟩⟩
theorem jn_o108 : jn_okM 108 := ⟨⟨(jn_m4 56 rfl), (jn_m1 1 rfl), rfl, by decide +kernel, by decide +kernel, by decide +kernel⟩, ⟨⟨(jn_m4 54 rfl), (jn_m4 55 rfl)⟩, by decide +kernel⟩⟩
theorem jn_o109 : jn_okM 109 := ⟨⟨(jn_m4 70 rfl), (jn_m1 1 rfl), rfl, by decide +kernel, by decide +kernel, by decide +kernel⟩, ⟨⟨(jn_m4 68 rfl), (jn_m4 69 rfl)⟩, by decide +kernel⟩⟩
theorem jn_o110 : jn_okM 110 := ⟨⟨(jn_m4 78 rfl), (jn_m1 1 rfl), rfl, by decide +kernel, by decide +kernel, by decide +kernel⟩, ⟨⟨(jn_m4 76 rfl), (jn_m4 77 rfl)⟩, by decide +kernel⟩⟩
theorem jn_o111 : jn_okM 111 := ⟨⟨(jn_m4 93 rfl), (jn_m1 1 rfl), rfl, by decide +kernel, by decide +kernel, by decide +kernel⟩, ⟨⟨(jn_m4 91 rfl), (jn_m4 92 rfl)⟩, by decide +kernel⟩⟩
theorem jn_o112 : jn_okM 112 := ⟨⟨(jn_m4 101 rfl), (jn_m1 1 rfl), rfl, by decide +kernel, by decide +kernel, by decide +kernel⟩, ⟨⟨(jn_m4 99 rfl), (jn_m4 100 rfl)⟩, by decide +kernel⟩⟩
theorem jn_o113 : jn_okM 113 := ⟨⟨(jn_m4 105 rfl), (jn_m1 1 rfl), rfl, by decide +kernel, by decide +kernel, by decide +kernel⟩, ⟨⟨(jn_m4 103 rfl), (jn_m4 104 rfl)⟩, by decide +kernel⟩⟩
theorem jn_o114 : jn_okM 114 := ⟨⟨(jn_m4 117 rfl), (jn_m1 1 rfl), rfl, by decide +kernel, by decide +kernel, by decide +kernel⟩, ⟨⟨(jn_m4 115 rfl), (jn_m4 116 rfl)⟩, by decide +kernel⟩⟩
theorem jn_o115 : jn_okM 115 := ⟨⟨(jn_m4 125 rfl), (jn_m1 1 rfl), rfl, by decide +kernel, by decide +kernel, by decide +kernel⟩, ⟨⟨(jn_m4 123 rfl), (jn_m4 124 rfl)⟩, by decide +kernel⟩⟩
theorem jn_o116 : jn_okM 116 := ⟨⟨(jn_m4 129 rfl), (jn_m1 1 rfl), rfl, by decide +kernel, by decide +kernel, by decide +kernel⟩, ⟨⟨(jn_m4 127 rfl), (jn_m4 128 rfl)⟩, by decide +kernel⟩⟩
theorem jn_o117 : jn_okM 117 := ⟨⟨(jn_m4 146 rfl), (jn_m1 1 rfl), rfl, by decide +kernel, by decide +kernel, by decide +kernel⟩, ⟨⟨(jn_m4 144 rfl), (jn_m4 145 rfl)⟩, by decide +kernel⟩⟩
theorem jn_o118 : jn_okM 118 := ⟨⟨(jn_m3 24 rfl), (jn_m1 1 rfl), rfl, by decide +kernel, by decide +kernel, by decide +kernel⟩, ⟨⟨(jn_m3 23 rfl), (jn_s2 14 rfl)⟩, by decide +kernel⟩⟩
theorem jn_o119 : jn_okM 119 := ⟨⟨(jn_m3 66 rfl), (jn_m1 1 rfl), rfl, by decide +kernel, by decide +kernel, by decide +kernel⟩, ⟨⟨(jn_m3 65 rfl), (jn_s3 1 rfl)⟩, by decide +kernel⟩⟩
theorem jn_o120 : jn_okM 120 := ⟨⟨(jn_m3 223 rfl), (jn_m1 1 rfl), rfl, by decide +kernel, by decide +kernel, by decide +kernel⟩, ⟨⟨(jn_m3 222 rfl), (jn_s5 0 rfl)⟩, by decide +kernel⟩⟩
theorem jn_o121 : jn_okM 121 := ⟨⟨(jn_m4 133 rfl), (jn_m1 1 rfl), rfl, by decide +kernel, by decide +kernel, by decide +kernel⟩, ⟨⟨(jn_m4 132 rfl), (jn_s5 15 rfl)⟩, by decide +kernel⟩⟩
theorem jn_o122 : jn_okM 122 := ⟨⟨(jn_m4 152 rfl), (jn_m1 1 rfl), rfl, by decide +kernel, by decide +kernel, by decide +kernel⟩, ⟨⟨(jn_m4 151 rfl), (jn_s6 2 rfl)⟩, by decide +kernel⟩⟩
theorem jn_o123 : jn_okM 123 := ⟨⟨(jn_m2 170 rfl), (jn_m1 1 rfl), rfl, by decide +kernel, by decide +kernel, by decide +kernel⟩, ⟨⟨(jn_m2 169 rfl), (jn_s1 12 rfl)⟩, by decide +kernel⟩⟩
theorem jn_o124 : jn_okM 124 := ⟨⟨(jn_m4 44 rfl), (jn_m1 1 rfl), rfl, by decide +kernel, by decide +kernel, by decide +kernel⟩, ⟨⟨(jn_m4 43 rfl), (jn_s5 6 rfl)⟩, by decide +kernel⟩⟩
theorem jn_o125 : jn_okM 125 := ⟨⟨(jn_m4 87 rfl), (jn_m1 1 rfl), rfl, by decide +kernel, by decide +kernel, by decide +kernel⟩, ⟨⟨(jn_m4 86 rfl), (jn_s5 12 rfl)⟩, by decide +kernel⟩⟩
theorem jn_o126 : jn_okM 126 := ⟨⟨(jn_m4 82 rfl), (jn_m1 1 rfl), rfl, by decide +kernel, by decide +kernel, by decide +kernel⟩, ⟨⟨(jn_m4 81 rfl), (jn_s5 11 rfl)⟩, by decide +kernel⟩⟩
theorem jn_o127 : jn_okM 127 := ⟨⟨(jn_m3 51 rfl), (jn_m1 1 rfl), rfl, by decide +kernel, by decide +kernel, by decide +kernel⟩, ⟨(jn_m3 50 rfl), by decide +kernel⟩⟩
theorem jn_o128 : jn_okM 128 := ⟨⟨(jn_m3 54 rfl), (jn_m1 1 rfl), rfl, by decide +kernel, by decide +kernel, by decide +kernel⟩, ⟨(jn_m3 53 rfl), by decide +kernel⟩⟩
theorem jn_o129 : jn_okM 129 := ⟨⟨(jn_m4 108 rfl), (jn_m1 1 rfl), rfl, by decide +kernel, by decide +kernel, by decide +kernel⟩, ⟨(jn_m4 107 rfl), by decide +kernel⟩⟩
theorem jn_o130 : jn_okM 130 := ⟨⟨(jn_m3 188 rfl), (jn_m1 1 rfl), rfl, by decide +kernel, by decide +kernel, by decide +kernel⟩, ⟨(jn_m3 187 rfl), by decide +kernel⟩⟩
theorem jn_o131 : jn_okM 131 := ⟨⟨(jn_m5 48 rfl), (jn_m1 9 rfl), rfl, by decide +kernel, by decide +kernel, by decide +kernel⟩, ⟨(jn_m5 47 rfl), by decide +kernel⟩⟩
theorem jn_o132 : jn_okM 132 := ⟨⟨(jn_m5 148 rfl), (jn_m1 9 rfl), rfl, by decide +kernel, by decide +kernel, by decide +kernel⟩, ⟨(jn_m5 147 rfl), by decide +kernel⟩⟩
theorem jn_o133 : jn_okM 133 := ⟨⟨(jn_m6 55 rfl), (jn_m1 9 rfl), rfl, by decide +kernel, by decide +kernel, by decide +kernel⟩, ⟨(jn_m6 54 rfl), by decide +kernel⟩⟩
theorem jn_o134 : jn_okM 134 := ⟨⟨(jn_m5 44 rfl), (jn_m1 9 rfl), rfl, by decide +kernel, by decide +kernel, by decide +kernel⟩, ⟨⟨(jn_m5 42 rfl), (jn_m5 43 rfl)⟩, by decide +kernel⟩⟩
theorem jn_o135 : jn_okM 135 := ⟨⟨(jn_m5 52 rfl), (jn_m1 9 rfl), rfl, by decide +kernel, by decide +kernel, by decide +kernel⟩, ⟨⟨(jn_m5 50 rfl), (jn_m5 51 rfl)⟩, by decide +kernel⟩⟩
theorem jn_o136 : jn_okM 136 := ⟨⟨(jn_m5 71 rfl), (jn_m1 9 rfl), rfl, by decide +kernel, by decide +kernel, by decide +kernel⟩, ⟨(jn_m5 70 rfl), by decide +kernel⟩⟩
theorem jn_o137 : jn_okM 137 := ⟨⟨(jn_m5 68 rfl), (jn_m1 9 rfl), rfl, by decide +kernel, by decide +kernel, by decide +kernel⟩, ⟨⟨(jn_m5 67 rfl), (jn_s6 5 rfl)⟩, by decide +kernel⟩⟩
theorem jn_o138 : jn_okM 138 := ⟨⟨(jn_m5 64 rfl), (jn_m1 9 rfl), rfl, by decide +kernel, by decide +kernel, by decide +kernel⟩, ⟨⟨(jn_m5 63 rfl), (jn_s6 4 rfl)⟩, by decide +kernel⟩⟩
theorem jn_o139 : jn_okM 139 := ⟨⟨(jn_m5 60 rfl), (jn_m1 9 rfl), rfl, by decide +kernel, by decide +kernel, by decide +kernel⟩, ⟨⟨(jn_m5 59 rfl), (jn_s6 3 rfl)⟩, by decide +kernel⟩⟩
theorem jn_o140 : jn_okM 140 := ⟨⟨(jn_m5 56 rfl), (jn_m1 9 rfl), rfl, by decide +kernel, by decide +kernel, by decide +kernel⟩, ⟨⟨(jn_m5 54 rfl), (jn_m5 55 rfl)⟩, by decide +kernel⟩⟩
theorem jn_o141 : jn_okM 141 := ⟨⟨(jn_m5 75 rfl), (jn_m1 9 rfl), rfl, by decide +kernel, by decide +kernel, by decide +kernel⟩, ⟨⟨(jn_m5 73 rfl), (jn_m5 74 rfl)⟩, by decide +kernel⟩⟩
theorem jn_o142 : jn_okM 142 := ⟨⟨(jn_m5 79 rfl), (jn_m1 9 rfl), rfl, by decide +kernel, by decide +kernel, by decide +kernel⟩, ⟨⟨(jn_m5 78 rfl), (jn_s6 6 rfl)⟩, by decide +kernel⟩⟩
theorem jn_o143 : jn_okM 143 := ⟨⟨(jn_m5 95 rfl), (jn_m1 9 rfl), rfl, by decide +kernel, by decide +kernel, by decide +kernel⟩, ⟨⟨(jn_m5 94 rfl), (jn_s6 9 rfl)⟩, by decide +kernel⟩⟩
theorem jn_o144 : jn_okM 144 := ⟨⟨(jn_m6 6 rfl), (jn_m1 9 rfl), rfl, by decide +kernel, by decide +kernel, by decide +kernel⟩, ⟨⟨(jn_m6 5 rfl), (jn_s8 3 rfl)⟩, by decide +kernel⟩⟩
theorem jn_o145 : jn_okM 145 := ⟨⟨(jn_m6 32 rfl), (jn_m1 9 rfl), rfl, by decide +kernel, by decide +kernel, by decide +kernel⟩, ⟨⟨(jn_m6 31 rfl), (jn_s8 7 rfl)⟩, by decide +kernel⟩⟩
theorem jn_o146 : jn_okM 146 := ⟨⟨(jn_m5 115 rfl), (jn_m1 9 rfl), rfl, by decide +kernel, by decide +kernel, by decide +kernel⟩, ⟨⟨(jn_m5 114 rfl), (jn_s6 14 rfl)⟩, by decide +kernel⟩⟩
theorem jn_o147 : jn_okM 147 := ⟨⟨(jn_m5 83 rfl), (jn_m1 9 rfl), rfl, by decide +kernel, by decide +kernel, by decide +kernel⟩, ⟨⟨(jn_m5 82 rfl), (jn_s6 7 rfl)⟩, by decide +kernel⟩⟩
theorem jn_o148 : jn_okM 148 := ⟨⟨(jn_m5 111 rfl), (jn_m1 9 rfl), rfl, by decide +kernel, by decide +kernel, by decide +kernel⟩, ⟨⟨(jn_m5 110 rfl), (jn_s6 13 rfl)⟩, by decide +kernel⟩⟩
theorem jn_o149 : jn_okM 149 := ⟨⟨(jn_m5 122 rfl), (jn_m1 9 rfl), rfl, by decide +kernel, by decide +kernel, by decide +kernel⟩, ⟨(jn_m5 121 rfl), by decide +kernel⟩⟩
theorem jn_o150 : jn_okM 150 := ⟨⟨(jn_m5 125 rfl), (jn_m1 9 rfl), rfl, by decide +kernel, by decide +kernel, by decide +kernel⟩, ⟨(jn_m5 124 rfl), by decide +kernel⟩⟩
theorem jn_o151 : jn_okM 151 := ⟨⟨(jn_m5 129 rfl), (jn_m1 9 rfl), rfl, by decide +kernel, by decide +kernel, by decide +kernel⟩, ⟨⟨(jn_m5 128 rfl), (jn_s7 0 rfl)⟩, by decide +kernel⟩⟩
theorem jn_o152 : jn_okM 152 := ⟨⟨(jn_m5 137 rfl), (jn_m1 9 rfl), rfl, by decide +kernel, by decide +kernel, by decide +kernel⟩, ⟨⟨(jn_m5 136 rfl), (jn_s7 2 rfl)⟩, by decide +kernel⟩⟩
theorem jn_o153 : jn_okM 153 := ⟨⟨(jn_m5 133 rfl), (jn_m1 9 rfl), rfl, by decide +kernel, by decide +kernel, by decide +kernel⟩, ⟨⟨(jn_m5 132 rfl), (jn_s7 1 rfl)⟩, by decide +kernel⟩⟩
theorem jn_o154 : jn_okM 154 := ⟨⟨(jn_m5 119 rfl), (jn_m1 9 rfl), rfl, by decide +kernel, by decide +kernel, by decide +kernel⟩, ⟨⟨(jn_m5 118 rfl), (jn_s6 15 rfl)⟩, by decide +kernel⟩⟩
theorem jn_o155 : jn_okM 155 := ⟨⟨(jn_m5 107 rfl), (jn_m1 9 rfl), rfl, by decide +kernel, by decide +kernel, by decide +kernel⟩, ⟨⟨(jn_m5 106 rfl), (jn_s6 12 rfl)⟩, by decide +kernel⟩⟩
theorem jn_o156 : jn_okM 156 := ⟨⟨(jn_m5 152 rfl), (jn_m1 9 rfl), rfl, by decide +kernel, by decide +kernel, by decide +kernel⟩, ⟨⟨(jn_m5 151 rfl), (jn_s7 5 rfl)⟩, by decide +kernel⟩⟩
theorem jn_o157 : jn_okM 157 := ⟨⟨(jn_m5 145 rfl), (jn_m1 9 rfl), rfl, by decide +kernel, by decide +kernel, by decide +kernel⟩, ⟨⟨(jn_m5 144 rfl), (jn_s7 4 rfl)⟩, by decide +kernel⟩⟩
theorem jn_o158 : jn_okM 158 := ⟨⟨(jn_m5 155 rfl), (jn_m1 9 rfl), rfl, by decide +kernel, by decide +kernel, by decide +kernel⟩, ⟨(jn_m5 154 rfl), by decide +kernel⟩⟩
theorem jn_o159 : jn_okM 159 := ⟨⟨(jn_m5 160 rfl), (jn_m1 9 rfl), rfl, by decide +kernel, by decide +kernel, by decide +kernel⟩, ⟨(jn_m5 159 rfl), by decide +kernel⟩⟩
theorem jn_o160 : jn_okM 160 := ⟨⟨(jn_m5 182 rfl), (jn_m1 9 rfl), rfl, by decide +kernel, by decide +kernel, by decide +kernel⟩, ⟨(jn_m5 181 rfl), by decide +kernel⟩⟩
theorem jn_o161 : jn_okM 161 := ⟨⟨(jn_m5 178 rfl), (jn_m1 9 rfl), rfl, by decide +kernel, by decide +kernel, by decide +kernel⟩, ⟨(jn_m5 177 rfl), by decide +kernel⟩⟩
theorem jn_o162 : jn_okM 162 := ⟨⟨(jn_m5 141 rfl), (jn_m1 9 rfl), rfl, by decide +kernel, by decide +kernel, by decide +kernel⟩, ⟨⟨(jn_m5 140 rfl), (jn_s7 3 rfl)⟩, by decide +kernel⟩⟩
theorem jn_o163 : jn_okM 163 := ⟨⟨(jn_m5 186 rfl), (jn_m1 9 rfl), rfl, by decide +kernel, by decide +kernel, by decide +kernel⟩, ⟨⟨(jn_m5 185 rfl), (jn_s7 9 rfl)⟩, by decide +kernel⟩⟩
theorem jn_o164 : jn_okM 164 := ⟨⟨(jn_m5 175 rfl), (jn_m1 9 rfl), rfl, by decide +kernel, by decide +kernel, by decide +kernel⟩, ⟨⟨(jn_m5 174 rfl), (jn_s7 8 rfl)⟩, by decide +kernel⟩⟩
theorem jn_o165 : jn_okM 165 := ⟨⟨(jn_m5 171 rfl), (jn_m1 9 rfl), rfl, by decide +kernel, by decide +kernel, by decide +kernel⟩, ⟨⟨(jn_m5 170 rfl), (jn_s7 7 rfl)⟩, by decide +kernel⟩⟩
theorem jn_o166 : jn_okM 166 := ⟨⟨(jn_m5 167 rfl), (jn_m1 9 rfl), rfl, by decide +kernel, by decide +kernel, by decide +kernel⟩, ⟨⟨(jn_m5 166 rfl), (jn_s7 6 rfl)⟩, by decide +kernel⟩⟩
theorem jn_o167 : jn_okM 167 := ⟨⟨(jn_m5 190 rfl), (jn_m1 9 rfl), rfl, by decide +kernel, by decide +kernel, by decide +kernel⟩, ⟨⟨(jn_m5 189 rfl), (jn_s7 10 rfl)⟩, by decide +kernel⟩⟩
theorem jn_o168 : jn_okM 168 := ⟨⟨(jn_m5 103 rfl), (jn_m1 9 rfl), rfl, by decide +kernel, by decide +kernel, by decide +kernel⟩, ⟨⟨(jn_m5 102 rfl), (jn_s6 11 rfl)⟩, by decide +kernel⟩⟩
theorem jn_o169 : jn_okM 169 := ⟨⟨(jn_m5 99 rfl), (jn_m1 9 rfl), rfl, by decide +kernel, by decide +kernel, by decide +kernel⟩, ⟨⟨(jn_m5 98 rfl), (jn_s6 10 rfl)⟩, by decide +kernel⟩⟩
theorem jn_o170 : jn_okM 170 := ⟨⟨(jn_m6 63 rfl), (jn_m1 9 rfl), rfl, by decide +kernel, by decide +kernel, by decide +kernel⟩, ⟨⟨(jn_m6 62 rfl), (jn_s8 10 rfl)⟩, by decide +kernel⟩⟩
theorem jn_o171 : jn_okM 171 := ⟨⟨(jn_m5 91 rfl), (jn_m1 9 rfl), rfl, by decide +kernel, by decide +kernel, by decide +kernel⟩, ⟨⟨(jn_m5 90 rfl), (jn_s6 8 rfl)⟩, by decide +kernel⟩⟩
theorem jn_o172 : jn_okM 172 := ⟨⟨(jn_m5 210 rfl), (jn_m1 9 rfl), rfl, by decide +kernel, by decide +kernel, by decide +kernel⟩, ⟨⟨(jn_m5 209 rfl), (jn_s7 14 rfl)⟩, by decide +kernel⟩⟩
theorem jn_o173 : jn_okM 173 := ⟨⟨(jn_m5 198 rfl), (jn_m1 9 rfl), rfl, by decide +kernel, by decide +kernel, by decide +kernel⟩, ⟨⟨(jn_m5 197 rfl), (jn_s7 12 rfl)⟩, by decide +kernel⟩⟩
theorem jn_o174 : jn_okM 174 := ⟨⟨(jn_m5 202 rfl), (jn_m1 9 rfl), rfl, by decide +kernel, by decide +kernel, by decide +kernel⟩, ⟨⟨(jn_m5 201 rfl), (jn_s7 13 rfl)⟩, by decide +kernel⟩⟩
theorem jn_o175 : jn_okM 175 := ⟨⟨(jn_m5 194 rfl), (jn_m1 9 rfl), rfl, by decide +kernel, by decide +kernel, by decide +kernel⟩, ⟨⟨(jn_m5 193 rfl), (jn_s7 11 rfl)⟩, by decide +kernel⟩⟩
theorem jn_o176 : jn_okM 176 := ⟨⟨(jn_m5 87 rfl), (jn_m1 9 rfl), rfl, by decide +kernel, by decide +kernel, by decide +kernel⟩, ⟨⟨(jn_m5 85 rfl), (jn_m5 86 rfl)⟩, by decide +kernel⟩⟩
theorem jn_o177 : jn_okM 177 := ⟨⟨(jn_m5 218 rfl), (jn_m1 9 rfl), rfl, by decide +kernel, by decide +kernel, by decide +kernel⟩, ⟨⟨(jn_m5 217 rfl), (jn_s8 0 rfl)⟩, by decide +kernel⟩⟩
theorem jn_o178 : jn_okM 178 := ⟨⟨(jn_m5 214 rfl), (jn_m1 9 rfl), rfl, by decide +kernel, by decide +kernel, by decide +kernel⟩, ⟨⟨(jn_m5 213 rfl), (jn_s7 15 rfl)⟩, by decide +kernel⟩⟩
theorem jn_o179 : jn_okM 179 := ⟨⟨(jn_m5 206 rfl), (jn_m1 9 rfl), rfl, by decide +kernel, by decide +kernel, by decide +kernel⟩, ⟨⟨(jn_m5 204 rfl), (jn_m5 205 rfl)⟩, by decide +kernel⟩⟩
theorem jn_o180 : jn_okM 180 := ⟨⟨(jn_m5 226 rfl), (jn_m1 9 rfl), rfl, by decide +kernel, by decide +kernel, by decide +kernel⟩, ⟨⟨(jn_m5 225 rfl), (jn_s8 1 rfl)⟩, by decide +kernel⟩⟩
theorem jn_o181 : jn_okM 181 := ⟨⟨(jn_m5 222 rfl), (jn_m1 9 rfl), rfl, by decide +kernel, by decide +kernel, by decide +kernel⟩, ⟨⟨(jn_m5 220 rfl), (jn_m5 221 rfl)⟩, by decide +kernel⟩⟩
theorem jn_o182 : jn_okM 182 := ⟨⟨(jn_m5 230 rfl), (jn_m1 9 rfl), rfl, by decide +kernel, by decide +kernel, by decide +kernel⟩, ⟨⟨(jn_m5 228 rfl), (jn_m5 229 rfl)⟩, by decide +kernel⟩⟩
theorem jn_o183 : jn_okM 183 := ⟨⟨(jn_m5 238 rfl), (jn_m1 9 rfl), rfl, by decide +kernel, by decide +kernel, by decide +kernel⟩, ⟨⟨(jn_m5 237 rfl), (jn_s8 2 rfl)⟩, by decide +kernel⟩⟩
theorem jn_o184 : jn_okM 184 := ⟨⟨(jn_m5 234 rfl), (jn_m1 9 rfl), rfl, by decide +kernel, by decide +kernel, by decide +kernel⟩, ⟨⟨(jn_m5 232 rfl), (jn_m5 233 rfl)⟩, by decide +kernel⟩⟩
theorem jn_o185 : jn_okM 185 := ⟨⟨(jn_m6 10 rfl), (jn_m1 9 rfl), rfl, by decide +kernel, by decide +kernel, by decide +kernel⟩, ⟨⟨(jn_m6 9 rfl), (jn_s8 4 rfl)⟩, by decide +kernel⟩⟩
theorem jn_o186 : jn_okM 186 := ⟨⟨(jn_m6 2 rfl), (jn_m1 9 rfl), rfl, by decide +kernel, by decide +kernel, by decide +kernel⟩, ⟨⟨(jn_m6 0 rfl), (jn_m6 1 rfl)⟩, by decide +kernel⟩⟩
theorem jn_o187 : jn_okM 187 := ⟨⟨(jn_m6 36 rfl), (jn_m1 9 rfl), rfl, by decide +kernel, by decide +kernel, by decide +kernel⟩, ⟨(jn_m6 35 rfl), by decide +kernel⟩⟩
theorem jn_o188 : jn_okM 188 := ⟨⟨(jn_m6 28 rfl), (jn_m1 9 rfl), rfl, by decide +kernel, by decide +kernel, by decide +kernel⟩, ⟨⟨(jn_m6 26 rfl), (jn_m6 27 rfl)⟩, by decide +kernel⟩⟩
theorem jn_o189 : jn_okM 189 := ⟨⟨(jn_m6 44 rfl), (jn_m1 9 rfl), rfl, by decide +kernel, by decide +kernel, by decide +kernel⟩, ⟨⟨(jn_m6 43 rfl), (jn_s8 8 rfl)⟩, by decide +kernel⟩⟩
theorem jn_o190 : jn_okM 190 := ⟨⟨(jn_m6 40 rfl), (jn_m1 9 rfl), rfl, by decide +kernel, by decide +kernel, by decide +kernel⟩, ⟨⟨(jn_m6 38 rfl), (jn_m6 39 rfl)⟩, by decide +kernel⟩⟩
theorem jn_o191 : jn_okM 191 := ⟨⟨(jn_m6 48 rfl), (jn_m1 9 rfl), rfl, by decide +kernel, by decide +kernel, by decide +kernel⟩, ⟨⟨(jn_m6 46 rfl), (jn_m6 47 rfl)⟩, by decide +kernel⟩⟩
theorem jn_o192 : jn_okM 192 := ⟨⟨(jn_m6 59 rfl), (jn_m1 9 rfl), rfl, by decide +kernel, by decide +kernel, by decide +kernel⟩, ⟨⟨(jn_m6 58 rfl), (jn_s8 9 rfl)⟩, by decide +kernel⟩⟩
theorem jn_o193 : jn_okM 193 := ⟨⟨(jn_m6 52 rfl), (jn_m1 9 rfl), rfl, by decide +kernel, by decide +kernel, by decide +kernel⟩, ⟨⟨(jn_m6 50 rfl), (jn_m6 51 rfl)⟩, by decide +kernel⟩⟩
theorem jn_o194 : jn_okM 194 := ⟨⟨(jn_m6 67 rfl), (jn_m1 9 rfl), rfl, by decide +kernel, by decide +kernel, by decide +kernel⟩, ⟨⟨(jn_m6 65 rfl), (jn_m6 66 rfl)⟩, by decide +kernel⟩⟩
theorem jn_o195 : jn_okM 195 := ⟨⟨(jn_m6 75 rfl), (jn_m1 9 rfl), rfl, by decide +kernel, by decide +kernel, by decide +kernel⟩, ⟨⟨(jn_m6 74 rfl), (jn_s8 11 rfl)⟩, by decide +kernel⟩⟩
theorem jn_o196 : jn_okM 196 := ⟨⟨(jn_m6 71 rfl), (jn_m1 9 rfl), rfl, by decide +kernel, by decide +kernel, by decide +kernel⟩, ⟨⟨(jn_m6 69 rfl), (jn_m6 70 rfl)⟩, by decide +kernel⟩⟩
theorem jn_o197 : jn_okM 197 := ⟨⟨(jn_m6 79 rfl), (jn_m1 9 rfl), rfl, by decide +kernel, by decide +kernel, by decide +kernel⟩, ⟨⟨(jn_m6 77 rfl), (jn_m6 78 rfl)⟩, by decide +kernel⟩⟩
theorem jn_o198 : jn_okM 198 := ⟨⟨(jn_m6 83 rfl), (jn_m1 9 rfl), rfl, by decide +kernel, by decide +kernel, by decide +kernel⟩, ⟨⟨(jn_m6 81 rfl), (jn_m6 82 rfl)⟩, by decide +kernel⟩⟩
theorem jn_o199 : jn_okM 199 := ⟨⟨(jn_m6 87 rfl), (jn_m1 9 rfl), rfl, by decide +kernel, by decide +kernel, by decide +kernel⟩, ⟨⟨(jn_m6 85 rfl), (jn_m6 86 rfl)⟩, by decide +kernel⟩⟩
theorem jn_o200 : jn_okM 200 := ⟨⟨(jn_m6 92 rfl), (jn_m1 9 rfl), rfl, by decide +kernel, by decide +kernel, by decide +kernel⟩, ⟨⟨(jn_m6 90 rfl), (jn_m6 91 rfl)⟩, by decide +kernel⟩⟩
theorem jn_o201 : jn_okM 201 := ⟨⟨(jn_m6 17 rfl), (jn_m1 9 rfl), rfl, by decide +kernel, by decide +kernel, by decide +kernel⟩, ⟨(jn_m6 16 rfl), by decide +kernel⟩⟩
theorem jn_o202 : jn_okM 202 := ⟨⟨(jn_m6 14 rfl), (jn_m1 9 rfl), rfl, by decide +kernel, by decide +kernel, by decide +kernel⟩, ⟨⟨(jn_m6 13 rfl), (jn_s8 5 rfl)⟩, by decide +kernel⟩⟩
theorem jn_o203 : jn_okM 203 := ⟨⟨(jn_m6 24 rfl), (jn_m1 9 rfl), rfl, by decide +kernel, by decide +kernel, by decide +kernel⟩, ⟨(jn_m6 23 rfl), by decide +kernel⟩⟩
theorem jn_o204 : jn_okM 204 := ⟨⟨(jn_m6 21 rfl), (jn_m1 9 rfl), rfl, by decide +kernel, by decide +kernel, by decide +kernel⟩, ⟨⟨(jn_m6 20 rfl), (jn_s8 6 rfl)⟩, by decide +kernel⟩⟩
theorem jn_o205 : jn_okM 205 := ⟨⟨(jn_m6 100 rfl), (jn_m1 9 rfl), rfl, by decide +kernel, by decide +kernel, by decide +kernel⟩, ⟨⟨(jn_m6 99 rfl), (jn_s8 12 rfl)⟩, by decide +kernel⟩⟩
theorem jn_o206 : jn_okM 206 := ⟨⟨(jn_m6 96 rfl), (jn_m1 9 rfl), rfl, by decide +kernel, by decide +kernel, by decide +kernel⟩, ⟨⟨(jn_m6 94 rfl), (jn_m6 95 rfl)⟩, by decide +kernel⟩⟩
theorem jn_o207 : jn_okM 207 := ⟨⟨(jn_m6 108 rfl), (jn_m1 9 rfl), rfl, by decide +kernel, by decide +kernel, by decide +kernel⟩, ⟨⟨(jn_m6 106 rfl), (jn_m6 107 rfl)⟩, by decide +kernel⟩⟩
theorem jn_o208 : jn_okM 208 := ⟨⟨(jn_m6 112 rfl), (jn_m1 9 rfl), rfl, by decide +kernel, by decide +kernel, by decide +kernel⟩, ⟨⟨(jn_m6 110 rfl), (jn_m6 111 rfl)⟩, by decide +kernel⟩⟩
theorem jn_o209 : jn_okM 209 := ⟨⟨(jn_m6 128 rfl), (jn_m1 9 rfl), rfl, by decide +kernel, by decide +kernel, by decide +kernel⟩, ⟨⟨(jn_m6 127 rfl), (jn_s8 15 rfl)⟩, by decide +kernel⟩⟩
theorem jn_o210 : jn_okM 210 := ⟨⟨(jn_m6 132 rfl), (jn_m1 9 rfl), rfl, by decide +kernel, by decide +kernel, by decide +kernel⟩, ⟨⟨(jn_m6 131 rfl), (jn_s9 0 rfl)⟩, by decide +kernel⟩⟩
theorem jn_o211 : jn_okM 211 := ⟨⟨(jn_m6 124 rfl), (jn_m1 9 rfl), rfl, by decide +kernel, by decide +kernel, by decide +kernel⟩, ⟨⟨(jn_m6 123 rfl), (jn_s8 14 rfl)⟩, by decide +kernel⟩⟩
theorem jn_o212 : jn_okM 212 := ⟨⟨(jn_m6 120 rfl), (jn_m1 9 rfl), rfl, by decide +kernel, by decide +kernel, by decide +kernel⟩, ⟨⟨(jn_m6 119 rfl), (jn_s8 13 rfl)⟩, by decide +kernel⟩⟩
theorem jn_o213 : jn_okM 213 := ⟨⟨(jn_m6 116 rfl), (jn_m1 9 rfl), rfl, by decide +kernel, by decide +kernel, by decide +kernel⟩, ⟨⟨(jn_m6 114 rfl), (jn_m6 115 rfl)⟩, by decide +kernel⟩⟩
theorem jn_o214 : jn_okM 214 := ⟨⟨(jn_m6 141 rfl), (jn_m1 9 rfl), rfl, by decide +kernel, by decide +kernel, by decide +kernel⟩, ⟨⟨(jn_m6 140 rfl), (jn_s9 1 rfl)⟩, by decide +kernel⟩⟩
theorem jn_o215 : jn_okM 215 := ⟨⟨(jn_m6 146 rfl), (jn_m1 9 rfl), rfl, by decide +kernel, by decide +kernel, by decide +kernel⟩, ⟨⟨(jn_m6 145 rfl), (jn_s9 2 rfl)⟩, by decide +kernel⟩⟩
theorem jn_o216 : jn_okM 216 := ⟨⟨(jn_m6 136 rfl), (jn_m1 9 rfl), rfl, by decide +kernel, by decide +kernel, by decide +kernel⟩, ⟨⟨(jn_m6 134 rfl), (jn_m6 135 rfl)⟩, by decide +kernel⟩⟩
end
section
/-- how many bytes an instruction has; 0: a switch -/
def jn_len (i : Instr) : Nat :=
  match i with
  | .bipush _ => 2 | .iload _ => 2 | .lload _ => 2 | .fload _ => 2 | .aload _ => 2 | .istore _ => 2 | .lstore _ => 2 | .fstore _ => 2 | .ldc _ => 2
  | .sipush _ => 3 | .iinc _ _ => 3 | .goto _ => 3 | .if_icmp _ _ => 3 | .ifCond _ _ => 3 | .getfield _ => 3 | .putfield _ => 3 | .getstatic _ => 3 | .invokevirtual _ => 3 | .invokestatic _ => 3 | .ldc_w _ => 3 | .ldc2_w _ => 3
  | .tableswitch _ _ _ _ => 0 | .lookupswitch _ _ => 0
  | _ => 1
def jn_tgt (i : Instr) (pc tg : Nat) : Bool :=
  match i with
  | .goto o => decide ((pc : Int) + o = tg)
  | .if_icmp _ o => decide ((pc : Int) + o = tg)
  | .ifCond _ o => decide ((pc : Int) + o = tg)
  | .bipush n => decide (-128 ≤ n ∧ n < 128)
  | .sipush n => decide (-32768 ≤ n ∧ n < 32768)
  | .tableswitch d lo hi offs => decide (lo ≤ hi ∧ -2147483648 ≤ lo ∧ hi ≤ 2147483647 ∧ 0 ≤ (pc : Int) + d) && offs.toList.all (fun o => decide (0 ≤ (pc : Int) + o))
  | .lookupswitch d ps => (ps.toList.zip (ps.toList.drop 1)).all (fun (a, next) => a.1 < next.1) && decide (0 ≤ (pc : Int) + d) && ps.toList.all (fun o => decide (0 ≤ (pc : Int) + o.2))
  | _ => true
def jn_chk (b : ByteArray) (e : jm_E) : Bool := decide (decode b e.1 = .ok (e.2.1, e.2.2.1 - e.1)) && Nat.blt e.1 e.2.2.1 && (Nat.beq (jn_len e.2.1) 0 || Nat.beq (e.1 + jn_len e.2.1) e.2.2.1) && jn_tgt e.2.1 e.1 e.2.2.2
def jn_okD (x : Nat) : Prop := ((jm_TB x).all (fun l => l.all (jn_chk (jn_y x).2.1))) = true
theorem jn_d0 : jn_okD 0 := by unfold jn_okD; decide +kernel
theorem jn_d1 : jn_okD 1 := by unfold jn_okD; decide +kernel
theorem jn_d2 : jn_okD 2 := by unfold jn_okD; decide +kernel
theorem jn_d3 : jn_okD 3 := by unfold jn_okD; decide +kernel
theorem jn_d4 : jn_okD 4 := by unfold jn_okD; decide +kernel
theorem jn_d5 : jn_okD 5 := by unfold jn_okD; decide +kernel
theorem jn_d6 : jn_okD 6 := by unfold jn_okD; decide +kernel
theorem jn_d7 : jn_okD 7 := by unfold jn_okD; decide +kernel
theorem jn_d8 : jn_okD 8 := by unfold jn_okD; decide +kernel
theorem jn_d9 : jn_okD 9 := by unfold jn_okD; decide +kernel
theorem jn_d10 : jn_okD 10 := by unfold jn_okD; decide +kernel
theorem jn_d11 : jn_okD 11 := by unfold jn_okD; decide +kernel
theorem jn_d12 : jn_okD 12 := by unfold jn_okD; decide +kernel
theorem jn_d13 : jn_okD 13 := by unfold jn_okD; decide +kernel
theorem jn_d14 : jn_okD 14 := by unfold jn_okD; decide +kernel
theorem jn_d15 : jn_okD 15 := by unfold jn_okD; decide +kernel
theorem jn_d16 : jn_okD 16 := by unfold jn_okD; decide +kernel
theorem jn_d17 : jn_okD 17 := by unfold jn_okD; decide +kernel
theorem jn_d18 : jn_okD 18 := by unfold jn_okD; decide +kernel
theorem jn_d19 : jn_okD 19 := by unfold jn_okD; decide +kernel
theorem jn_d20 : jn_okD 20 := by unfold jn_okD; decide +kernel
theorem jn_d21 : jn_okD 21 := by unfold jn_okD; decide +kernel
theorem jn_d22 : jn_okD 22 := by unfold jn_okD; decide +kernel
theorem jn_d23 : jn_okD 23 := by unfold jn_okD; decide +kernel
theorem jn_d24 : jn_okD 24 := by unfold jn_okD; decide +kernel
theorem jn_d25 : jn_okD 25 := by unfold jn_okD; decide +kernel
theorem jn_d26 : jn_okD 26 := by unfold jn_okD; decide +kernel
theorem jn_d27 : jn_okD 27 := by unfold jn_okD; decide +kernel
theorem jn_d28 : jn_okD 28 := by unfold jn_okD; decide +kernel
theorem jn_d29 : jn_okD 29 := by unfold jn_okD; decide +kernel
theorem jn_d30 : jn_okD 30 := by unfold jn_okD; decide +kernel
theorem jn_d31 : jn_okD 31 := by unfold jn_okD; decide +kernel
theorem jn_d32 : jn_okD 32 := by unfold jn_okD; decide +kernel
theorem jn_d33 : jn_okD 33 := by unfold jn_okD; decide +kernel
theorem jn_d34 : jn_okD 34 := by unfold jn_okD; decide +kernel
theorem jn_d35 : jn_okD 35 := by unfold jn_okD; decide +kernel
theorem jn_d36 : jn_okD 36 := by unfold jn_okD; decide +kernel
theorem jn_d37 : jn_okD 37 := by unfold jn_okD; decide +kernel
theorem jn_d38 : jn_okD 38 := by unfold jn_okD; decide +kernel
theorem jn_d39 : jn_okD 39 := by unfold jn_okD; decide +kernel
theorem jn_d40 : jn_okD 40 := by unfold jn_okD; decide +kernel
theorem jn_d41 : jn_okD 41 := by unfold jn_okD; decide +kernel
theorem jn_d42 : jn_okD 42 := by unfold jn_okD; decide +kernel
theorem jn_d43 : jn_okD 43 := by unfold jn_okD; decide +kernel
theorem jn_d44 : jn_okD 44 := by unfold jn_okD; decide +kernel
theorem jn_d45 : jn_okD 45 := by unfold jn_okD; decide +kernel
theorem jn_d46 : jn_okD 46 := by unfold jn_okD; decide +kernel
theorem jn_d47 : jn_okD 47 := by unfold jn_okD; decide +kernel
theorem jn_d48 : jn_okD 48 := by unfold jn_okD; decide +kernel
theorem jn_d49 : jn_okD 49 := by unfold jn_okD; decide +kernel
theorem jn_d50 : jn_okD 50 := by unfold jn_okD; decide +kernel
theorem jn_d51 : jn_okD 51 := by unfold jn_okD; decide +kernel
theorem jn_d52 : jn_okD 52 := by unfold jn_okD; decide +kernel
theorem jn_d53 : jn_okD 53 := by unfold jn_okD; decide +kernel
theorem jn_d54 : jn_okD 54 := by unfold jn_okD; decide +kernel
theorem jn_d55 : jn_okD 55 := by unfold jn_okD; decide +kernel
theorem jn_d56 : jn_okD 56 := by unfold jn_okD; decide +kernel
theorem jn_d57 : jn_okD 57 := by unfold jn_okD; decide +kernel
theorem jn_d58 : jn_okD 58 := by unfold jn_okD; decide +kernel
theorem jn_d59 : jn_okD 59 := by unfold jn_okD; decide +kernel
theorem jn_d60 : jn_okD 60 := by unfold jn_okD; decide +kernel
theorem jn_d61 : jn_okD 61 := by unfold jn_okD; decide +kernel
theorem jn_d62 : jn_okD 62 := by unfold jn_okD; decide +kernel
theorem jn_d63 : jn_okD 63 := by unfold jn_okD; decide +kernel
theorem jn_d64 : jn_okD 64 := by unfold jn_okD; decide +kernel
theorem jn_d65 : jn_okD 65 := by unfold jn_okD; decide +kernel
theorem jn_d66 : jn_okD 66 := by unfold jn_okD; decide +kernel
theorem jn_d67 : jn_okD 67 := by unfold jn_okD; decide +kernel
theorem jn_d68 : jn_okD 68 := by unfold jn_okD; decide +kernel
theorem jn_d69 : jn_okD 69 := by unfold jn_okD; decide +kernel
theorem jn_d70 : jn_okD 70 := by unfold jn_okD; decide +kernel
theorem jn_d71 : jn_okD 71 := by unfold jn_okD; decide +kernel
theorem jn_d72 : jn_okD 72 := by unfold jn_okD; decide +kernel
theorem jn_d73 : jn_okD 73 := by unfold jn_okD; decide +kernel
theorem jn_d74 : jn_okD 74 := by unfold jn_okD; decide +kernel
theorem jn_d75 : jn_okD 75 := by unfold jn_okD; decide +kernel
theorem jn_d76 : jn_okD 76 := by unfold jn_okD; decide +kernel
theorem jn_d77 : jn_okD 77 := by unfold jn_okD; decide +kernel
theorem jn_d78 : jn_okD 78 := by unfold jn_okD; decide +kernel
theorem jn_d79 : jn_okD 79 := by unfold jn_okD; decide +kernel
theorem jn_d80 : jn_okD 80 := by unfold jn_okD; decide +kernel
theorem jn_d81 : jn_okD 81 := by unfold jn_okD; decide +kernel
theorem jn_d82 : jn_okD 82 := by unfold jn_okD; decide +kernel
theorem jn_d83 : jn_okD 83 := by unfold jn_okD; decide +kernel
theorem jn_d84 : jn_okD 84 := by unfold jn_okD; decide +kernel
theorem jn_d85 : jn_okD 85 := by unfold jn_okD; decide +kernel
theorem jn_d86 : jn_okD 86 := by unfold jn_okD; decide +kernel
theorem jn_d87 : jn_okD 87 := by unfold jn_okD; decide +kernel
theorem jn_d88 : jn_okD 88 := by unfold jn_okD; decide +kernel
theorem jn_d89 : jn_okD 89 := by unfold jn_okD; decide +kernel
theorem jn_d90 : jn_okD 90 := by unfold jn_okD; decide +kernel
theorem jn_d91 : jn_okD 91 := by unfold jn_okD; decide +kernel
theorem jn_d92 : jn_okD 92 := by unfold jn_okD; decide +kernel
theorem jn_d93 : jn_okD 93 := by unfold jn_okD; decide +kernel
theorem jn_d94 : jn_okD 94 := by unfold jn_okD; decide +kernel
theorem jn_d95 : jn_okD 95 := by unfold jn_okD; decide +kernel
theorem jn_d96 : jn_okD 96 := by unfold jn_okD; decide +kernel
theorem jn_d97 : jn_okD 97 := by unfold jn_okD; decide +kernel
theorem jn_d98 : jn_okD 98 := by unfold jn_okD; decide +kernel
theorem jn_d99 : jn_okD 99 := by unfold jn_okD; decide +kernel
theorem jn_d100 : jn_okD 100 := by unfold jn_okD; decide +kernel
theorem jn_d101 : jn_okD 101 := by unfold jn_okD; decide +kernel
theorem jn_d102 : jn_okD 102 := by unfold jn_okD; decide +kernel
theorem jn_d103 : jn_okD 103 := by unfold jn_okD; decide +kernel
theorem jn_d104 : jn_okD 104 := by unfold jn_okD; decide +kernel
theorem jn_d105 : jn_okD 105 := by unfold jn_okD; decide +kernel
theorem jn_d106 : jn_okD 106 := by unfold jn_okD; decide +kernel
theorem jn_d107 : jn_okD 107 := by unfold jn_okD; decide +kernel
theorem jn_d108 : jn_okD 108 := by unfold jn_okD; decide +kernel
theorem jn_d109 : jn_okD 109 := by unfold jn_okD; decide +kernel
theorem jn_d110 : jn_okD 110 := by unfold jn_okD; decide +kernel
theorem jn_d111 : jn_okD 111 := by unfold jn_okD; decide +kernel
theorem jn_d112 : jn_okD 112 := by unfold jn_okD; decide +kernel
theorem jn_d113 : jn_okD 113 := by unfold jn_okD; decide +kernel
theorem jn_d114 : jn_okD 114 := by unfold jn_okD; decide +kernel
theorem jn_d115 : jn_okD 115 := by unfold jn_okD; decide +kernel
theorem jn_d116 : jn_okD 116 := by unfold jn_okD; decide +kernel
theorem jn_d117 : jn_okD 117 := by unfold jn_okD; decide +kernel
theorem jn_d118 : jn_okD 118 := by unfold jn_okD; decide +kernel
theorem jn_d119 : jn_okD 119 := by unfold jn_okD; decide +kernel
theorem jn_d120 : jn_okD 120 := by unfold jn_okD; decide +kernel
theorem jn_d121 : jn_okD 121 := by unfold jn_okD; decide +kernel
theorem jn_d122 : jn_okD 122 := by unfold jn_okD; decide +kernel
theorem jn_d123 : jn_okD 123 := by unfold jn_okD; decide +kernel
theorem jn_d124 : jn_okD 124 := by unfold jn_okD; decide +kernel
theorem jn_d125 : jn_okD 125 := by unfold jn_okD; decide +kernel
theorem jn_d126 : jn_okD 126 := by unfold jn_okD; decide +kernel
theorem jn_d127 : jn_okD 127 := by unfold jn_okD; decide +kernel
theorem jn_d128 : jn_okD 128 := by unfold jn_okD; decide +kernel
theorem jn_d129 : jn_okD 129 := by unfold jn_okD; decide +kernel
theorem jn_d130 : jn_okD 130 := by unfold jn_okD; decide +kernel
theorem jn_d131 : jn_okD 131 := by unfold jn_okD; decide +kernel
theorem jn_d132 : jn_okD 132 := by unfold jn_okD; decide +kernel
theorem jn_d133 : jn_okD 133 := by unfold jn_okD; decide +kernel
theorem jn_d134 : jn_okD 134 := by unfold jn_okD; decide +kernel
theorem jn_d135 : jn_okD 135 := by unfold jn_okD; decide +kernel
theorem jn_d136 : jn_okD 136 := by unfold jn_okD; decide +kernel
theorem jn_d137 : jn_okD 137 := by unfold jn_okD; decide +kernel
theorem jn_d138 : jn_okD 138 := by unfold jn_okD; decide +kernel
theorem jn_d139 : jn_okD 139 := by unfold jn_okD; decide +kernel
theorem jn_d140 : jn_okD 140 := by unfold jn_okD; decide +kernel
theorem jn_d141 : jn_okD 141 := by unfold jn_okD; decide +kernel
theorem jn_d142 : jn_okD 142 := by unfold jn_okD; decide +kernel
theorem jn_d143 : jn_okD 143 := by unfold jn_okD; decide +kernel
theorem jn_d144 : jn_okD 144 := by unfold jn_okD; decide +kernel
theorem jn_d145 : jn_okD 145 := by unfold jn_okD; decide +kernel
theorem jn_d146 : jn_okD 146 := by unfold jn_okD; decide +kernel
theorem jn_d147 : jn_okD 147 := by unfold jn_okD; decide +kernel
theorem jn_d148 : jn_okD 148 := by unfold jn_okD; decide +kernel
theorem jn_d149 : jn_okD 149 := by unfold jn_okD; decide +kernel
theorem jn_d150 : jn_okD 150 := by unfold jn_okD; decide +kernel
theorem jn_d151 : jn_okD 151 := by unfold jn_okD; decide +kernel
theorem jn_d152 : jn_okD 152 := by unfold jn_okD; decide +kernel
theorem jn_d153 : jn_okD 153 := by unfold jn_okD; decide +kernel
theorem jn_d154 : jn_okD 154 := by unfold jn_okD; decide +kernel
theorem jn_d155 : jn_okD 155 := by unfold jn_okD; decide +kernel
theorem jn_d156 : jn_okD 156 := by unfold jn_okD; decide +kernel
theorem jn_d157 : jn_okD 157 := by unfold jn_okD; decide +kernel
theorem jn_d158 : jn_okD 158 := by unfold jn_okD; decide +kernel
theorem jn_d159 : jn_okD 159 := by unfold jn_okD; decide +kernel
theorem jn_d160 : jn_okD 160 := by unfold jn_okD; decide +kernel
theorem jn_d161 : jn_okD 161 := by unfold jn_okD; decide +kernel
theorem jn_d162 : jn_okD 162 := by unfold jn_okD; decide +kernel
theorem jn_d163 : jn_okD 163 := by unfold jn_okD; decide +kernel
theorem jn_d164 : jn_okD 164 := by unfold jn_okD; decide +kernel
theorem jn_d165 : jn_okD 165 := by unfold jn_okD; decide +kernel
theorem jn_d166 : jn_okD 166 := by unfold jn_okD; decide +kernel
theorem jn_d167 : jn_okD 167 := by unfold jn_okD; decide +kernel
theorem jn_d168 : jn_okD 168 := by unfold jn_okD; decide +kernel
theorem jn_d169 : jn_okD 169 := by unfold jn_okD; decide +kernel
theorem jn_d170 : jn_okD 170 := by unfold jn_okD; decide +kernel
theorem jn_d171 : jn_okD 171 := by unfold jn_okD; decide +kernel
theorem jn_d172 : jn_okD 172 := by unfold jn_okD; decide +kernel
theorem jn_d173 : jn_okD 173 := by unfold jn_okD; decide +kernel
theorem jn_d174 : jn_okD 174 := by unfold jn_okD; decide +kernel
theorem jn_d175 : jn_okD 175 := by unfold jn_okD; decide +kernel
theorem jn_d176 : jn_okD 176 := by unfold jn_okD; decide +kernel
theorem jn_d177 : jn_okD 177 := by unfold jn_okD; decide +kernel
theorem jn_d178 : jn_okD 178 := by unfold jn_okD; decide +kernel
theorem jn_d179 : jn_okD 179 := by unfold jn_okD; decide +kernel
theorem jn_d180 : jn_okD 180 := by unfold jn_okD; decide +kernel
theorem jn_d181 : jn_okD 181 := by unfold jn_okD; decide +kernel
theorem jn_d182 : jn_okD 182 := by unfold jn_okD; decide +kernel
theorem jn_d183 : jn_okD 183 := by unfold jn_okD; decide +kernel
theorem jn_d184 : jn_okD 184 := by unfold jn_okD; decide +kernel
theorem jn_d185 : jn_okD 185 := by unfold jn_okD; decide +kernel
theorem jn_d186 : jn_okD 186 := by unfold jn_okD; decide +kernel
theorem jn_d187 : jn_okD 187 := by unfold jn_okD; decide +kernel
theorem jn_d188 : jn_okD 188 := by unfold jn_okD; decide +kernel
theorem jn_d189 : jn_okD 189 := by unfold jn_okD; decide +kernel
theorem jn_d190 : jn_okD 190 := by unfold jn_okD; decide +kernel
theorem jn_d191 : jn_okD 191 := by unfold jn_okD; decide +kernel
theorem jn_d192 : jn_okD 192 := by unfold jn_okD; decide +kernel
theorem jn_d193 : jn_okD 193 := by unfold jn_okD; decide +kernel
theorem jn_d194 : jn_okD 194 := by unfold jn_okD; decide +kernel
theorem jn_d195 : jn_okD 195 := by unfold jn_okD; decide +kernel
theorem jn_d196 : jn_okD 196 := by unfold jn_okD; decide +kernel
theorem jn_d197 : jn_okD 197 := by unfold jn_okD; decide +kernel
theorem jn_d198 : jn_okD 198 := by unfold jn_okD; decide +kernel
theorem jn_d199 : jn_okD 199 := by unfold jn_okD; decide +kernel
theorem jn_d200 : jn_okD 200 := by unfold jn_okD; decide +kernel
theorem jn_d201 : jn_okD 201 := by unfold jn_okD; decide +kernel
theorem jn_d202 : jn_okD 202 := by unfold jn_okD; decide +kernel
theorem jn_d203 : jn_okD 203 := by unfold jn_okD; decide +kernel
theorem jn_d204 : jn_okD 204 := by unfold jn_okD; decide +kernel
theorem jn_d205 : jn_okD 205 := by unfold jn_okD; decide +kernel
theorem jn_d206 : jn_okD 206 := by unfold jn_okD; decide +kernel
theorem jn_d207 : jn_okD 207 := by unfold jn_okD; decide +kernel
theorem jn_d208 : jn_okD 208 := by unfold jn_okD; decide +kernel
theorem jn_d209 : jn_okD 209 := by unfold jn_okD; decide +kernel
theorem jn_d210 : jn_okD 210 := by unfold jn_okD; decide +kernel
theorem jn_d211 : jn_okD 211 := by unfold jn_okD; decide +kernel
theorem jn_d212 : jn_okD 212 := by unfold jn_okD; decide +kernel
theorem jn_d213 : jn_okD 213 := by unfold jn_okD; decide +kernel
theorem jn_d214 : jn_okD 214 := by unfold jn_okD; decide +kernel
theorem jn_d215 : jn_okD 215 := by unfold jn_okD; decide +kernel
theorem jn_d216 : jn_okD 216 := by unfold jn_okD; decide +kernel
theorem jn_du0 : jmu_0.all (jn_chk code) = true := by decide +kernel
theorem jn_du1 : jmu_1.all (jn_chk code) = true := by decide +kernel
theorem jn_du2 : jmu_2.all (jn_chk code) = true := by decide +kernel
theorem jn_du3 : jmu_3.all (jn_chk code) = true := by decide +kernel
theorem jn_du4 : jmu_4.all (jn_chk code) = true := by decide +kernel
theorem jn_du5 : jmu_5.all (jn_chk code) = true := by decide +kernel
theorem jn_du6 : jmu_6.all (jn_chk code) = true := by decide +kernel
theorem jn_du7 : jmu_7.all (jn_chk code) = true := by decide +kernel
theorem jn_du8 : jmu_8.all (jn_chk code) = true := by decide +kernel
theorem jn_du9 : jmu_9.all (jn_chk code) = true := by decide +kernel
theorem jn_du10 : jmu_10.all (jn_chk code) = true := by decide +kernel
theorem jn_du11 : jmu_11.all (jn_chk code) = true := by decide +kernel
theorem jn_du12 : jmu_12.all (jn_chk code) = true := by decide +kernel
theorem jn_du13 : jmu_13.all (jn_chk code) = true := by decide +kernel
theorem jn_du14 : jmu_14.all (jn_chk code) = true := by decide +kernel
theorem jn_du15 : jmu_15.all (jn_chk code) = true := by decide +kernel
theorem jn_du16 : jmu_16.all (jn_chk code) = true := by decide +kernel
theorem jn_du17 : jmu_17.all (jn_chk code) = true := by decide +kernel
theorem jn_du18 : jmu_18.all (jn_chk code) = true := by decide +kernel
theorem jn_du19 : jmu_19.all (jn_chk code) = true := by decide +kernel
theorem jn_du20 : jmu_20.all (jn_chk code) = true := by decide +kernel
theorem jn_du21 : jmu_21.all (jn_chk code) = true := by decide +kernel
theorem jn_du22 : jmu_22.all (jn_chk code) = true := by decide +kernel
theorem jn_du23 : jmu_23.all (jn_chk code) = true := by decide +kernel
theorem jn_du24 : jmu_24.all (jn_chk code) = true := by decide +kernel
theorem jn_du25 : jmu_25.all (jn_chk code) = true := by decide +kernel
theorem jn_d217 : jn_okD 217 := by
  show List.all [jmu_0, jmu_1, jmu_2, jmu_3, jmu_4, jmu_5, jmu_6, jmu_7, jmu_8, jmu_9, jmu_10, jmu_11, jmu_12, jmu_13, jmu_14, jmu_15, jmu_16, jmu_17, jmu_18, jmu_19, jmu_20, jmu_21, jmu_22, jmu_23, jmu_24, jmu_25] (fun l => l.all (jn_chk code)) = true
  simp only [List.all_cons, List.all_nil, jn_du0, jn_du1, jn_du2, jn_du3, jn_du4, jn_du5, jn_du6, jn_du7, jn_du8, jn_du9, jn_du10, jn_du11, jn_du12, jn_du13, jn_du14, jn_du15, jn_du16, jn_du17, jn_du18, jn_du19, jn_du20, jn_du21, jn_du22, jn_du23, jn_du24, jn_du25, Bool.and_true]
end
section
/-! the machine of these rows: ints and longs are any representative of their class modulo 2^32, 2^64; floats are their bits; references are places -/
def jm_w32 (z : Int) : Int := (Int32.ofInt z).toInt
def jm_w64 (z : Int) : Int := (Int64.ofInt z).toInt
def jm_hs (hp : jm_H) (k : Nat) (j v : Int) : jm_H := fun a => bif Nat.beq a k then (fun b => bif decide (b = j) then v else hp k b) else hp a
/-- the length and the contents of an array that holds elements of a tag -/
def jm_ar (hp : jm_H) (k t : Nat) : Option (Int × (Int → Int)) :=
  match jm_sh k with
  | .inl _ => none
  | .inr (u, n) =>
    bif Nat.beq u t then some (n, hp k)
    else bif Nat.beq t 0 && Nat.beq u 10 then some (n, jm_SC k)
    else bif Nat.beq t 0 && Nat.beq u 11 then some (hp 85 0, hp 82)
    else bif Nat.beq t 4 && Nat.beq u 14 then some (n, jm_SC k)
    else none
/-- the length of any array -/
def jm_le (hp : jm_H) (k : Nat) : Option Int :=
  match jm_sh k with
  | .inl _ => none
  | .inr (u, n) => bif Nat.beq u 11 then some (hp 85 0) else bif Nat.blt u 50 then some n else none
def jm_cl (A : List jm_V) (k : Nat) : List jm_V :=
  match k with
  | 0 => A
  | k + 1 => match A[k]? with
    | some (.inr (.inl _)) => A.set k jU
    | _ => A
def jm_so (A : List jm_V) (k : Nat) (v : jm_V) : Option (List jm_V) := bif Nat.blt k A.length then some ((jm_cl A k).set k v) else none
def jm_so2 (A : List jm_V) (k : Nat) (v : jm_V) : Option (List jm_V) := bif Nat.blt (k + 1) A.length then some (((jm_cl A k).set k v).set (k + 1) jU) else none
def jm_cmp (c : ClassFile.Cond) (a b : Int) : Bool :=
  match c with
  | .eq => decide (a = b)
  | .ne => decide (a ≠ b)
  | .lt => decide (a < b)
  | .ge => decide (b ≤ a)
  | .gt => decide (b < a)
  | .le => decide (a ≤ b)
def jm_lc (a b : Int) : Int := if a < b then -1 else if a = b then 0 else 1
abbrev jm_C : Type := Nat × List jm_V × List jm_V × jm_H
abbrev jm_O : Type := jm_C ⊕ Option jm_V ⊕ (Nat × List jm_V × List jm_V × Nat)
def jm_cat (v : jm_V) : Nat :=
  match v with
  | .inr (.inl _) => 2
  | _ => 1
def jm_lay (vs : List jm_V) : List jm_V := vs.flatMap (fun v => match v with
  | .inr (.inl z) => [jL z, jU]
  | v => [v])
def jm_en (y : Nat) (vs : List jm_V) : List jm_V := jm_lay vs ++ List.replicate ((jm_me y).2.2.2.1 - (jm_lay vs).length) jU
def jm_ps (rv : Option jm_V) (st : List jm_V) : List jm_V :=
  match rv with
  | none => st
  | some v => v :: st
/-- may x call y: frames and words -/
def jm_ro (x y : Nat) : Bool := Nat.ble ((jm_me y).2.2.2.2.2.1 + 1) (jm_me x).2.2.2.2.2.1 && Nat.ble (8 + ((jm_me y).2.2.2.1 + 11) + (jm_me y).2.2.2.2.2.2) (jm_me x).2.2.2.2.2.2
def jm_call (x y : Nat) (st : List jm_V) (nx : Nat) : Option jm_O :=
  bif Nat.ble (jm_me y).2.1 st.length && jm_ro x y && Nat.ble ((st.drop (jm_me y).2.1).map jm_cat).sum 8 && Nat.ble (jm_lay (st.take (jm_me y).2.1).reverse).length (jm_me y).2.2.2.1
  then some (.inr (.inr (y, (st.take (jm_me y).2.1).reverse, st.drop (jm_me y).2.1, nx))) else none
/-- is the receiver an object of y's class -/
def jm_rc (y : Nat) (st : List jm_V) : Bool :=
  match st[(jm_me y).2.1 - 1]? with
  | some (.inr (.inr (.inr (.inl k)))) => match jm_sh k with
    | .inl (c, _) => Nat.beq c (jm_me y).1
    | .inr _ => false
  | _ => false
def jm_i2 (i : Instr) (a b : Int) : Option Int :=
  match i with
  | .iadd => some (a + b)
  | .isub => some (a - b)
  | .imul => some (a * b)
  | .iand => some (Int32.ofInt a &&& Int32.ofInt b).toInt
  | .ior => some (Int32.ofInt a ||| Int32.ofInt b).toInt
  | .ixor => some (Int32.ofInt a ^^^ Int32.ofInt b).toInt
  | .ishl => some (Int32.ofInt a <<< (Int32.ofInt b &&& 31)).toInt
  | .ishr => some (Int32.ofInt a >>> (Int32.ofInt b &&& 31)).toInt
  | .iushr => some ((Int32.ofInt a).toUInt32 >>> ((Int32.ofInt b).toUInt32 &&& Int32.toUInt32 31)).toInt32.toInt
  | .idiv => bif decide (jm_w32 b = 0) then none else some (Int32.ofInt a / Int32.ofInt b).toInt
  | .irem => bif decide (jm_w32 b = 0) then none else some (Int32.ofInt a - Int32.ofInt a / Int32.ofInt b * Int32.ofInt b).toInt
  | _ => none
def jm_l2 (i : Instr) (a b : Int) : Option Int :=
  match i with
  | .ladd => some (a + b)
  | .lsub => some (a - b)
  | .lmul => some (a * b)
  | .land => some (Int64.ofInt a &&& Int64.ofInt b).toInt
  | .lor => some (Int64.ofInt a ||| Int64.ofInt b).toInt
  | .ldiv => bif decide (jm_w64 b = 0) then none else some (Int64.ofInt a / Int64.ofInt b).toInt
  | .lrem => bif decide (jm_w64 b = 0) then none else some (Int64.ofInt a - Int64.ofInt a / Int64.ofInt b * Int64.ofInt b).toInt
  | _ => none
def jm_f2 (i : Instr) (a b : Nat) : Option Nat :=
  match i with
  | .fadd => bif decide ((FP.fadd (UInt32.ofNat a) (UInt32.ofNat b)) &&& 0x7fffffff ≤ 0x7f800000) then some (FP.fadd (UInt32.ofNat a) (UInt32.ofNat b)).toNat else none
  | .fsub => bif decide ((FP.fsub (UInt32.ofNat a) (UInt32.ofNat b)) &&& 0x7fffffff ≤ 0x7f800000) then some (FP.fsub (UInt32.ofNat a) (UInt32.ofNat b)).toNat else none
  | .fmul => bif decide ((FP.fmul (UInt32.ofNat a) (UInt32.ofNat b)) &&& 0x7fffffff ≤ 0x7f800000) then some (FP.fmul (UInt32.ofNat a) (UInt32.ofNat b)).toNat else none
  | .fdiv => bif decide ((FP.fdiv (UInt32.ofNat a) (UInt32.ofNat b)) &&& 0x7fffffff ≤ 0x7f800000) then some (FP.fdiv (UInt32.ofNat a) (UInt32.ofNat b)).toNat else none
  | _ => none
/-- a load of a local -/
def jm_ld (t : Nat) (A : List jm_V) (k : Nat) (nx : Nat) (st : List jm_V) (hp : jm_H) : Option jm_O :=
  match A[k]? with
  | some (.inl z) => bif Nat.beq t 0 then some (.inl (nx, A, jI z :: st, hp)) else none
  | some (.inr (.inl z)) => bif Nat.beq t 1 then some (.inl (nx, A, jL z :: st, hp)) else none
  | some (.inr (.inr (.inl b))) => bif Nat.beq t 2 then some (.inl (nx, A, jF b :: st, hp)) else none
  | some (.inr (.inr (.inr (.inl r)))) => bif Nat.beq t 3 then some (.inl (nx, A, jR r :: st, hp)) else none
  | _ => none
/-- a store to a local -/
def jm_sv (t : Nat) (A : List jm_V) (k : Nat) (nx : Nat) (st : List jm_V) (hp : jm_H) : Option jm_O :=
  match st with
  | .inl z :: r => bif Nat.beq t 0 then (match jm_so A k (jI z) with
    | some B => some (.inl (nx, B, r, hp))
    | none => none) else none
  | .inr (.inl z) :: r => bif Nat.beq t 1 then (match jm_so2 A k (jL z) with
    | some B => some (.inl (nx, B, r, hp))
    | none => none) else none
  | .inr (.inr (.inl z)) :: r => bif Nat.beq t 2 then (match jm_so A k (jF z) with
    | some B => some (.inl (nx, B, r, hp))
    | none => none) else none
  | _ => none
def jm_getf (f : Option (Nat × Nat)) (nx : Nat) (A st : List jm_V) (hp : jm_H) : Option jm_O :=
  match f with
  | none => none
  | some (ci, j) => match st with
    | .inr (.inr (.inr (.inl k))) :: r => match jm_sh k with
      | .inl (c, fs) => bif Nat.beq c ci then (match fs[j]? with
        | some (.inr q) => some (.inl (nx, A, jR q :: r, hp))
        | some (.inl t) => bif Nat.beq t 1 then some (.inl (nx, A, jL (hp k j) :: r, hp)) else bif Nat.beq t 10 then some (.inl (nx, A, jI 0 :: r, hp)) else some (.inl (nx, A, jI (hp k j) :: r, hp))
        | none => none) else none
      | .inr _ => none
    | _ => none
def jm_putf (f : Option (Nat × Nat)) (nx : Nat) (A st : List jm_V) (hp : jm_H) : Option jm_O :=
  match f with
  | none => none
  | some (ci, j) => match st with
    | v :: .inr (.inr (.inr (.inl k))) :: r => match jm_sh k with
      | .inl (c, fs) => bif Nat.beq c ci then (match fs[j]? with
        | some (.inl t) => (match v with
          | .inl z => bif Nat.beq t 0 || (Nat.beq t 3 && (decide (z = 0) || decide (z = 1))) then some (.inl (nx, A, r, jm_hs hp k j z)) else none
          | .inr (.inl z) => bif Nat.beq t 1 then some (.inl (nx, A, r, jm_hs hp k j z)) else none
          | _ => none)
        | _ => none) else none
      | .inr _ => none
    | _ => none
/-- an array's element is read: tag of the elements, what is made of it -/
def jm_ald (t : Nat) (mk : Int → jm_V) (nx : Nat) (A st : List jm_V) (hp : jm_H) : Option jm_O :=
  match st with
  | .inl i :: .inr (.inr (.inr (.inl k))) :: r => match jm_ar hp k t with
    | some (n, f) => bif decide (0 ≤ jm_w32 i ∧ jm_w32 i < n) then some (.inl (nx, A, mk (f (jm_w32 i)) :: r, hp)) else none
    | none => none
  | _ => none
/-- an array's element is written -/
def jm_ast (t : Nat) (ok : jm_V → Option Int) (nx : Nat) (A st : List jm_V) (hp : jm_H) : Option jm_O :=
  match st with
  | v :: .inl i :: .inr (.inr (.inr (.inl k))) :: r => match jm_sh k, ok v with
    | .inr (u, n), some z => bif Nat.beq u t && decide (0 ≤ jm_w32 i ∧ jm_w32 i < n) then some (.inl (nx, A, r, jm_hs hp k (jm_w32 i) z)) else none
    | _, _ => none
  | _ => none
def jm_okI (v : jm_V) : Option Int := match v with
  | .inl z => some z
  | _ => none
def jm_okZ (v : jm_V) : Option Int := match v with
  | .inl z => bif decide (z = 0) || decide (z = 1) then some z else none
  | _ => none
def jm_okL (v : jm_V) : Option Int := match v with
  | .inr (.inl z) => some z
  | _ => none
def jm_okF (v : jm_V) : Option Int := match v with
  | .inr (.inr (.inl b)) => some (b : Int)
  | _ => none
def jm_retI (rk : Nat) (st : List jm_V) : Option jm_O :=
  match st with
  | [.inl z] => bif Nat.beq rk 1 || (Nat.beq rk 2 && (decide (z = 0) || decide (z = 1))) || (Nat.beq rk 5 && decide (z = 0)) then some (.inr (.inl (some (jI z)))) else none
  | _ => none
def jm_kV (v : Option jm_V) (nx : Nat) (A st : List jm_V) (hp : jm_H) : Option jm_O := match v with
  | some v => some (.inl (nx, A, v :: st, hp))
  | none => none
def jm_k1 (v : Option jm_V) : Option jm_V := match v with
  | some (.inl z) => some (jI z)
  | some (.inr (.inr (.inl b))) => some (jF b)
  | some (.inr (.inr (.inr (.inl k)))) => some (jR k)
  | _ => none
def jm_k2 (v : Option jm_V) : Option jm_V := match v with
  | some (.inr (.inl z)) => some (jL z)
  | _ => none
def jm_k3 (v : Option jm_V) : Option jm_V := match v with
  | some (.inl z) => some (jI z)
  | some (.inr (.inr (.inl b))) => some (jF b)
  | _ => none
def jm_tsw (dflt lo hi : Int) (offs : Array Int) (pc : Nat) (x : Int) : Option Nat :=
  if x < lo ∨ hi < x then some ((pc : Int) + dflt).toNat else match offs[(x - lo).toNat]? with
    | some o => some ((pc : Int) + o).toNat
    | none => none
/-- Math.abs, max, min, as one step -/
def jm_mth (x y nx : Nat) (A st : List jm_V) (hp : jm_H) : Option jm_O :=
  match st with
  | .inl b :: r => bif Nat.beq y 0 then (bif Nat.ble 1 (jm_me x).2.2.2.2.2.1 && Nat.ble ((r.map jm_cat).sum + 13) (jm_me x).2.2.2.2.2.2 then some (.inl (nx, A, jI (bif decide (0 ≤ jm_w32 b) then b else 0 - b) :: r, hp)) else none)
    else (match r with
      | .inl a :: r => bif Nat.ble 1 (jm_me x).2.2.2.2.2.1 && Nat.ble ((r.map jm_cat).sum + 13) (jm_me x).2.2.2.2.2.2 then (bif Nat.beq y 1 then some (.inl (nx, A, jI (bif decide (jm_w32 a < jm_w32 b) then b else a) :: r, hp)) else bif Nat.beq y 2 then some (.inl (nx, A, jI (bif decide (jm_w32 b < jm_w32 a) then b else a) :: r, hp)) else none) else none
      | _ => none)
  | _ => none
/-- two operands of one kind -/
def jm_ar2 (i : Instr) (nx : Nat) (A st : List jm_V) (hp : jm_H) : Option jm_O :=
  match st with
  | .inl b :: .inl a :: r => match jm_i2 i a b with
    | some z => some (.inl (nx, A, jI z :: r, hp))
    | none => none
  | .inr (.inl b) :: .inr (.inl a) :: r => match jm_l2 i a b with
    | some z => some (.inl (nx, A, jL z :: r, hp))
    | none => none
  | .inr (.inr (.inl b)) :: .inr (.inr (.inl a)) :: r => match jm_f2 i a b with
    | some z => some (.inl (nx, A, jF z :: r, hp))
    | none => none
  | _ => none
/-- one step, x: the method, c: its class -/
def jm_in (x c rk pc : Nat) (i : Instr) (nx tg : Nat) (A st : List jm_V) (hp : jm_H) : Option jm_O :=
  match i with
  | .iconst n => some (.inl (nx, A, jI n :: st, hp))
  | .bipush n => some (.inl (nx, A, jI n :: st, hp))
  | .sipush n => some (.inl (nx, A, jI n :: st, hp))
  | .lconst n => some (.inl (nx, A, jL ((n : Nat) : Int) :: st, hp))
  | .fconst n => some (.inl (nx, A, jF (match (n : Nat) with | 0 => 0 | 1 => 0x3f800000 | _ => 0x40000000) :: st, hp))
  | .iload k => jm_ld 0 A k nx st hp
  | .iload_n k => jm_ld 0 A k nx st hp
  | .lload k => jm_ld 1 A k nx st hp
  | .lload_n k => jm_ld 1 A k nx st hp
  | .fload k => jm_ld 2 A k nx st hp
  | .fload_n k => jm_ld 2 A k nx st hp
  | .aload k => jm_ld 3 A k nx st hp
  | .aload_n k => jm_ld 3 A k nx st hp
  | .istore k => jm_sv 0 A k nx st hp
  | .istore_n k => jm_sv 0 A k nx st hp
  | .lstore k => jm_sv 1 A k nx st hp
  | .lstore_n k => jm_sv 1 A k nx st hp
  | .fstore k => jm_sv 2 A k nx st hp
  | .fstore_n k => jm_sv 2 A k nx st hp
  | .iinc k n => match A[k]? with
    | some (.inl z) => match jm_so A k (jI (z + n)) with
      | some B => some (.inl (nx, B, st, hp))
      | none => none
    | _ => none
  | .goto _ => some (.inl (tg, A, st, hp))
  | .if_icmp cd _ => match st with
    | .inl b :: .inl a :: r => some (.inl (bif jm_cmp cd (jm_w32 a) (jm_w32 b) then tg else nx, A, r, hp))
    | _ => none
  | .ifCond cd _ => match st with
    | .inl a :: r => some (.inl (bif jm_cmp cd (jm_w32 a) 0 then tg else nx, A, r, hp))
    | _ => none
  | .tableswitch d lo hi offs => match st with
    | .inl a :: r => match jm_tsw d lo hi offs pc (jm_w32 a) with
      | some q => some (.inl (q, A, r, hp))
      | none => none
    | _ => none
  | .lookupswitch d ps => match st with
    | .inl a :: r => some (.inl (((pc : Int) + Op.lookupswitch.offset ps.toList d (jm_w32 a)).toNat, A, r, hp))
    | _ => none
  | .lcmp => match st with
    | .inr (.inl b) :: .inr (.inl a) :: r => some (.inl (nx, A, jI (jm_lc (jm_w64 a) (jm_w64 b)) :: r, hp))
    | _ => none
  | .fcmp op => match st with
    | .inr (.inr (.inl b)) :: .inr (.inr (.inl a)) :: r => some (.inl (nx, A, jI (Op.cmpValue (FP.fcmp (UInt32.ofNat a) (UInt32.ofNat b)) op).toInt :: r, hp))
    | _ => none
  | .i2l => match st with
    | .inl a :: r => some (.inl (nx, A, jL (jm_w32 a) :: r, hp))
    | _ => none
  | .l2i => match st with
    | .inr (.inl a) :: r => some (.inl (nx, A, jI a :: r, hp))
    | _ => none
  | .i2c => match st with
    | .inl a :: r => some (.inl (nx, A, jI ((Int32.ofInt a).toUInt32 % 65536).toInt32.toInt :: r, hp))
    | _ => none
  | .i2b => match st with
    | .inl a :: r => some (.inl (nx, A, jI (Int32.ofInt a).toInt8.toInt32.toInt :: r, hp))
    | _ => none
  | .i2f => match st with
    | .inl a :: r => some (.inl (nx, A, jF (FP.i2f (Int32.ofInt a)).toNat :: r, hp))
    | _ => none
  | .f2i => match st with
    | .inr (.inr (.inl a)) :: r => some (.inl (nx, A, jI (FP.f2i (UInt32.ofNat a)).toInt :: r, hp))
    | _ => none
  | .ineg => match st with
    | .inl a :: r => some (.inl (nx, A, jI (-a) :: r, hp))
    | _ => none
  | .lshl => match st with
    | .inl b :: .inr (.inl a) :: r => some (.inl (nx, A, jL (Int64.ofInt a <<< ((Int32.ofInt b).toInt64 &&& 63)).toInt :: r, hp))
    | _ => none
  | .lushr => match st with
    | .inl b :: .inr (.inl a) :: r => some (.inl (nx, A, jL ((Int64.ofInt a).toUInt64 >>> ((Int32.ofInt b).toInt64.toUInt64 &&& Int64.toUInt64 63)).toInt64.toInt :: r, hp))
    | _ => none
  | .dup => match st with
    | v :: r => bif Nat.beq (jm_cat v) 1 then some (.inl (nx, A, v :: v :: r, hp)) else none
    | _ => none
  | .dup2 => match st with
    | v :: w :: r => bif Nat.beq (jm_cat v) 1 && Nat.beq (jm_cat w) 1 then some (.inl (nx, A, v :: w :: v :: w :: r, hp)) else none
    | _ => none
  | .pop => match st with
    | v :: r => bif Nat.beq (jm_cat v) 1 then some (.inl (nx, A, r, hp)) else none
    | _ => none
  | .arraylength => match st with
    | .inr (.inr (.inr (.inl k))) :: r => match jm_le hp k with
      | some n => some (.inl (nx, A, jI n :: r, hp))
      | none => none
    | _ => none
  | .getfield k => jm_getf (jm_pf jm_FL c k) nx A st hp
  | .putfield k => jm_putf (jm_pf jm_FL c k) nx A st hp
  | .getstatic k => jm_kV (jm_pf jm_ST c k) nx A st hp
  | .ldc k => jm_kV (jm_k1 (jm_pf jm_CS c k)) nx A st hp
  | .ldc_w k => jm_kV (jm_k3 (jm_pf jm_CS c k)) nx A st hp
  | .ldc2_w k => jm_kV (jm_k2 (jm_pf jm_CS c k)) nx A st hp
  | .iaload => jm_ald 0 (fun z => jI z) nx A st hp
  | .laload => jm_ald 1 (fun z => jL z) nx A st hp
  | .faload => jm_ald 2 (fun z => jF z.toNat) nx A st hp
  | .baload => match jm_ald 3 (fun z => jI z) nx A st hp with
    | some o => some o
    | none => jm_ald 4 (fun z => jI z) nx A st hp
  | .iastore => jm_ast 0 jm_okI nx A st hp
  | .lastore => jm_ast 1 jm_okL nx A st hp
  | .fastore => jm_ast 2 jm_okF nx A st hp
  | .bastore => jm_ast 3 jm_okZ nx A st hp
  | .invokevirtual k => match jm_pf jm_ML c k with
    | some y => bif jm_rc y st && !(jm_me y).2.2.1 then jm_call x y st nx else none
    | none => none
  | .invokestatic k => match jm_pf jm_ML c k with
    | some y => bif Nat.ble y 2 then jm_mth x y nx A st hp else bif (jm_me y).2.2.1 then jm_call x y st nx else none
    | none => none
  | .ireturn => jm_retI rk st
  | .lreturn => match st with
    | [.inr (.inl z)] => bif Nat.beq rk 3 then some (.inr (.inl (some (jL z)))) else none
    | _ => none
  | .freturn => match st with
    | [.inr (.inr (.inl z))] => bif Nat.beq rk 4 then some (.inr (.inl (some (jF z)))) else none
    | _ => none
  | .return_ => match st with
    | [] => bif Nat.beq rk 0 then some (.inr (.inl none)) else none
    | _ => none
  | i => jm_ar2 i nx A st hp
def jm_go (x pc : Nat) (A st : List jm_V) (hp : jm_H) : Option jm_O :=
  match jm_fe x pc with
  | some (i, nx, tg) => jm_in x (jm_me x).1 (jm_me x).2.2.2.2.1 pc i nx tg A st hp
  | none => none
def jm_run : Nat → Nat → Nat → List jm_V → List jm_V → jm_H → Option (Option jm_V × jm_H)
  | 0, _, _, _, _, _ => none
  | n + 1, x, pc, A, st, hp => match jm_go x pc A st hp with
    | some (.inl (pc', A', st', hp')) => jm_run n x pc' A' st' hp'
    | some (.inr (.inl rv)) => some (rv, hp)
    | some (.inr (.inr (y, vs, r, nx))) => match jm_run n y 0 (jm_en y vs) [] hp with
      | some (rv, hp') => jm_run n x nx A (jm_ps rv r) hp'
      | none => none
    | none => none
theorem jm_mono : ∀ (n x pc : Nat) (A st : List jm_V) (hp : jm_H) (r : Option jm_V × jm_H), jm_run n x pc A st hp = some r → jm_run (n + 1) x pc A st hp = some r := by
  intro n
  induction n with
  | zero => intro x pc A st hp r h; exact absurd h (by simp [jm_run])
  | succ n ih =>
    intro x pc A st hp r h
    rw [jm_run] at h ⊢
    cases hg : jm_go x pc A st hp with
    | none => rw [hg] at h; exact absurd h (by simp)
    | some o =>
      rw [hg] at h
      rcases o with ⟨pc', A', st', hp'⟩ | rv | ⟨y, vs, r', nx⟩
      · exact ih _ _ _ _ _ _ h
      · exact h
      · simp only at h ⊢
        cases hc : jm_run n y 0 (jm_en y vs) [] hp with
        | none => rw [hc] at h; exact absurd h (by simp)
        | some q =>
          rw [hc] at h
          rw [ih _ _ _ _ _ _ hc]
          exact ih _ _ _ _ _ _ h
theorem jm_mono_le {n m x pc : Nat} {A st : List jm_V} {hp : jm_H} {r : Option jm_V × jm_H} (hle : n ≤ m) (h : jm_run n x pc A st hp = some r) : jm_run m x pc A st hp = some r := by
  induction hle with
  | refl => exact h
  | step _ ih => exact jm_mono _ _ _ _ _ _ _ ih
/-- from here the method comes to its end with Q -/
def jm_Ev (x pc : Nat) (A st : List jm_V) (hp : jm_H) (Q : Option jm_V → jm_H → Prop) : Prop := ∃ n rv hp', jm_run n x pc A st hp = some (rv, hp') ∧ Q rv hp'
theorem jm_Ev.go {x pc pc' : Nat} {A st A' st' : List jm_V} {hp hp' : jm_H} {Q : Option jm_V → jm_H → Prop} (h : jm_go x pc A st hp = some (.inl (pc', A', st', hp'))) (k : jm_Ev x pc' A' st' hp' Q) : jm_Ev x pc A st hp Q := by
  obtain ⟨n, rv, h2, e, q⟩ := k
  exact ⟨n + 1, rv, h2, by rw [jm_run, h]; exact e, q⟩
theorem jm_Ev.ret {x pc : Nat} {A st : List jm_V} {hp : jm_H} {rv : Option jm_V} {Q : Option jm_V → jm_H → Prop} (h : jm_go x pc A st hp = some (.inr (.inl rv))) (q : Q rv hp) : jm_Ev x pc A st hp Q := ⟨1, rv, hp, by rw [jm_run, h], q⟩
theorem jm_Ev.call {x pc y nx : Nat} {A st vs r : List jm_V} {hp : jm_H} {Q Q1 : Option jm_V → jm_H → Prop} (h : jm_go x pc A st hp = some (.inr (.inr (y, vs, r, nx)))) (hc : jm_Ev y 0 (jm_en y vs) [] hp Q1) (k : ∀ rv hp', Q1 rv hp' → jm_Ev x nx A (jm_ps rv r) hp' Q) : jm_Ev x pc A st hp Q := by
  obtain ⟨n, rv, h1, e1, q1⟩ := hc
  obtain ⟨m, rv2, h2, e2, q2⟩ := k rv h1 q1
  refine ⟨max n m + 1, rv2, h2, ?_, q2⟩
  rw [jm_run, h]
  simp only [jm_mono_le (Nat.le_max_left n m) e1]
  exact jm_mono_le (Nat.le_max_right n m) e2
theorem jm_Ev.mono {x pc : Nat} {A st : List jm_V} {hp : jm_H} {Q Q2 : Option jm_V → jm_H → Prop} (h : jm_Ev x pc A st hp Q) (q : ∀ rv hp', Q rv hp' → Q2 rv hp') : jm_Ev x pc A st hp Q2 := by
  obtain ⟨n, rv, h2, e, k⟩ := h
  exact ⟨n, rv, h2, e, q _ _ k⟩
/-- n steps, none of them a call or a return -/
def jm_bl : Nat → Nat → jm_C → Option jm_C
  | 0, _, c => some c
  | n + 1, x, (pc, A, st, hp) => match jm_go x pc A st hp with
    | some (.inl c) => jm_bl n x c
    | _ => none
theorem jm_Ev.bl {x : Nat} {Q : Option jm_V → jm_H → Prop} : ∀ (n : Nat) {pc pc' : Nat} {A st A' st' : List jm_V} {hp hp' : jm_H}, jm_bl n x (pc, A, st, hp) = some (pc', A', st', hp') → jm_Ev x pc' A' st' hp' Q → jm_Ev x pc A st hp Q := by
  intro n
  induction n with
  | zero => intro pc pc' A st A' st' hp hp' h k; simp only [jm_bl, Option.some.injEq, Prod.mk.injEq] at h; obtain ⟨rfl, rfl, rfl, rfl⟩ := h; exact k
  | succ n ih =>
    intro pc pc' A st A' st' hp hp' h k
    rw [jm_bl] at h
    cases hg : jm_go x pc A st hp with
    | none => rw [hg] at h; exact absurd h (by simp)
    | some o =>
      rw [hg] at h
      rcases o with ⟨p1, A1, s1, h1⟩ | o
      · exact jm_Ev.go hg (ih h k)
      · exact absurd h (by simp)
end
section
/-- what the tables say of the pools' entries -/
def jn_okF (c : Nat) (e : Nat × Nat × Nat) : Prop :=
  match jn_cl[e.2.1]? with
  | some q => e.2.2 < q.2.2 ∧ (q.2.1 e.2.2).1 = q.1 ∧ ((Cond.fieldLink (jn_own c) e.1 q.1 (q.2.1 e.2.2).2.1 (q.2.1 e.2.2).2.2.1 ∈ lw_tbl) ∨ ∃ host, Cond.fieldLinkNest (jn_own c) e.1 q.1 (q.2.1 e.2.2).2.1 (q.2.1 e.2.2).2.2.1 host ∈ lw_tbl)
  | none => e.2.1 = 10 ∧ ((e.2.2 = 0 ∧ Cond.fieldLink (jn_own c) e.1 "java/lang/String" "coder" "B" ∈ lw_tbl) ∨ (e.2.2 = 1 ∧ Cond.fieldLink (jn_own c) e.1 "java/lang/String" "value" "[B" ∈ lw_tbl))
def jn_okL (c : Nat) (e : Nat × Nat) : Prop := (Cond.methodLink (jn_own c) e.1 (jn_y e.2).1 ∈ lw_tbl ∨ ∃ host, Cond.methodLinkNest (jn_own c) e.1 (jn_y e.2).1 host ∈ lw_tbl) ∧ (e.2 ≤ 2 ∨ (3 ≤ e.2 ∧ jn_okM e.2 ∧ jn_okD e.2)) ∧ (e.2 ≤ 2 → Cond.methodLink (jn_own c) e.1 (jn_y e.2).1 ∈ lw_tbl)
def jn_okC (c : Nat) (e : Nat × jm_V) : Prop :=
  match e.2 with
  | .inl z => Cond.constant (jn_own c) e.1 (Int32.ofInt z) ∈ lw_tbl
  | .inr (.inl z) => Cond.constantLong (jn_own c) e.1 (Int64.ofInt z) ∈ lw_tbl
  | .inr (.inr (.inl b)) => Cond.constantFloat (jn_own c) e.1 (UInt32.ofNat b) ∈ lw_tbl
  | .inr (.inr (.inr (.inl k))) => c = 4 ∧ e.1 = 40 ∧ k = 83
  | _ => False
abbrev jn_SF : List (String × String × String × jm_V) := [("BlobCorners$Outlines", "STEP_X", "[I", jR 78), ("BlobCorners$Outlines", "STEP_Y", "[I", jR 79), ("BlobCorners$Outlines", "START_ORDER", "[I", jR 80), ("BlobCorners$Seen", "SORTS_THAT_ARE", "[I", jR 81), ("java/lang/String", "COMPACT_STRINGS", "Z", jI 1)]
def jn_okS (c : Nat) (e : Nat × jm_V) : Prop := ∃ C n d, Cond.fieldLink (jn_own c) e.1 C n d ∈ lw_tbl ∧ (C, n, d, e.2) ∈ jn_SF
theorem jn_pF0 : ∀ e ∈ jm_FL.getD 0 [], jn_okF 0 e := by
  show ∀ e ∈ (_ : List _), _
  exact List.forall_mem_cons.mpr ⟨⟨by decide, rfl, Or.inl (jn_m1 166 rfl)⟩, List.forall_mem_cons.mpr ⟨⟨by decide, rfl, Or.inl (jn_m1 167 rfl)⟩, List.forall_mem_cons.mpr ⟨⟨by decide, rfl, Or.inl (jn_m1 168 rfl)⟩, List.forall_mem_cons.mpr ⟨⟨by decide, rfl, Or.inl (jn_m1 169 rfl)⟩, List.forall_mem_cons.mpr ⟨⟨by decide, rfl, Or.inl (jn_m1 170 rfl)⟩, List.forall_mem_cons.mpr ⟨⟨by decide, rfl, Or.inl (jn_m1 171 rfl)⟩, List.forall_mem_cons.mpr ⟨⟨by decide, rfl, Or.inl (jn_m1 172 rfl)⟩, List.forall_mem_cons.mpr ⟨⟨by decide, rfl, Or.inl (jn_m1 173 rfl)⟩, List.forall_mem_cons.mpr ⟨⟨by decide, rfl, Or.inl (jn_m1 174 rfl)⟩, List.forall_mem_cons.mpr ⟨⟨by decide, rfl, Or.inl (jn_m1 175 rfl)⟩, List.forall_mem_cons.mpr ⟨⟨by decide, rfl, Or.inl (jn_m1 176 rfl)⟩, List.forall_mem_cons.mpr ⟨⟨by decide, rfl, Or.inl (jn_m1 164 rfl)⟩, List.forall_mem_cons.mpr ⟨⟨by decide, rfl, Or.inl (jn_m1 165 rfl)⟩, fun _ h => absurd h List.not_mem_nil⟩⟩⟩⟩⟩⟩⟩⟩⟩⟩⟩⟩⟩
theorem jn_pF1 : ∀ e ∈ jm_FL.getD 1 [], jn_okF 1 e := by
  show ∀ e ∈ (_ : List _), _
  exact List.forall_mem_cons.mpr ⟨⟨by decide, rfl, Or.inl (jn_m1 46 rfl)⟩, List.forall_mem_cons.mpr ⟨⟨by decide, rfl, Or.inl (jn_m1 47 rfl)⟩, List.forall_mem_cons.mpr ⟨⟨by decide, rfl, Or.inl (jn_m1 50 rfl)⟩, fun _ h => absurd h List.not_mem_nil⟩⟩⟩
theorem jn_pF2 : ∀ e ∈ jm_FL.getD 2 [], jn_okF 2 e := by
  show ∀ e ∈ (_ : List _), _
  exact List.forall_mem_cons.mpr ⟨⟨by decide, rfl, Or.inl (jn_m1 145 rfl)⟩, List.forall_mem_cons.mpr ⟨⟨by decide, rfl, Or.inl (jn_m1 146 rfl)⟩, List.forall_mem_cons.mpr ⟨⟨by decide, rfl, Or.inl (jn_m1 147 rfl)⟩, List.forall_mem_cons.mpr ⟨⟨by decide, rfl, Or.inl (jn_m1 144 rfl)⟩, fun _ h => absurd h List.not_mem_nil⟩⟩⟩⟩
theorem jn_pF3 : ∀ e ∈ jm_FL.getD 3 [], jn_okF 3 e := by
  show ∀ e ∈ (_ : List _), _
  exact List.forall_mem_cons.mpr ⟨⟨by decide, rfl, Or.inl (jn_m1 100 rfl)⟩, List.forall_mem_cons.mpr ⟨⟨by decide, rfl, Or.inl (jn_m1 102 rfl)⟩, List.forall_mem_cons.mpr ⟨⟨by decide, rfl, Or.inl (jn_m1 103 rfl)⟩, List.forall_mem_cons.mpr ⟨⟨by decide, rfl, Or.inl (jn_m1 104 rfl)⟩, List.forall_mem_cons.mpr ⟨⟨by decide, rfl, Or.inl (jn_m1 105 rfl)⟩, List.forall_mem_cons.mpr ⟨⟨by decide, rfl, Or.inl (jn_m1 106 rfl)⟩, List.forall_mem_cons.mpr ⟨⟨by decide, rfl, Or.inl (jn_m1 107 rfl)⟩, List.forall_mem_cons.mpr ⟨⟨by decide, rfl, Or.inl (jn_m1 108 rfl)⟩, List.forall_mem_cons.mpr ⟨⟨by decide, rfl, Or.inl (jn_m1 109 rfl)⟩, List.forall_mem_cons.mpr ⟨⟨by decide, rfl, Or.inl (jn_m1 110 rfl)⟩, List.forall_mem_cons.mpr ⟨⟨by decide, rfl, Or.inl (jn_m1 111 rfl)⟩, List.forall_mem_cons.mpr ⟨⟨by decide, rfl, Or.inl (jn_m1 112 rfl)⟩, List.forall_mem_cons.mpr ⟨⟨by decide, rfl, Or.inr ⟨"BlobCorners", (jn_m1 48 rfl)⟩⟩, List.forall_mem_cons.mpr ⟨⟨by decide, rfl, Or.inr ⟨"BlobCorners", (jn_m1 51 rfl)⟩⟩, fun _ h => absurd h List.not_mem_nil⟩⟩⟩⟩⟩⟩⟩⟩⟩⟩⟩⟩⟩⟩
theorem jn_pF4 : ∀ e ∈ jm_FL.getD 4 [], jn_okF 4 e := by
  show ∀ e ∈ (_ : List _), _
  exact List.forall_mem_cons.mpr ⟨⟨by decide, rfl, Or.inl (jn_m1 31 rfl)⟩, List.forall_mem_cons.mpr ⟨⟨by decide, rfl, Or.inl (jn_m1 32 rfl)⟩, fun _ h => absurd h List.not_mem_nil⟩⟩
theorem jn_pF5 : ∀ e ∈ jm_FL.getD 5 [], jn_okF 5 e := by
  show ∀ e ∈ (_ : List _), _
  exact List.forall_mem_cons.mpr ⟨⟨by decide, rfl, Or.inl (jn_m1 87 rfl)⟩, List.forall_mem_cons.mpr ⟨⟨by decide, rfl, Or.inl (jn_m1 88 rfl)⟩, fun _ h => absurd h List.not_mem_nil⟩⟩
theorem jn_pF6 : ∀ e ∈ jm_FL.getD 6 [], jn_okF 6 e := by
  show ∀ e ∈ (_ : List _), _
  exact List.forall_mem_cons.mpr ⟨⟨by decide, rfl, Or.inl (jn_m1 66 rfl)⟩, List.forall_mem_cons.mpr ⟨⟨by decide, rfl, Or.inl (jn_m1 67 rfl)⟩, List.forall_mem_cons.mpr ⟨⟨by decide, rfl, Or.inl (jn_m1 68 rfl)⟩, List.forall_mem_cons.mpr ⟨⟨by decide, rfl, Or.inl (jn_m1 69 rfl)⟩, fun _ h => absurd h List.not_mem_nil⟩⟩⟩⟩
theorem jn_pF7 : ∀ e ∈ jm_FL.getD 7 [], jn_okF 7 e := by
  show ∀ e ∈ (_ : List _), _
  exact List.forall_mem_cons.mpr ⟨⟨by decide, rfl, Or.inl (jn_m1 205 rfl)⟩, List.forall_mem_cons.mpr ⟨⟨by decide, rfl, Or.inl (jn_m1 206 rfl)⟩, List.forall_mem_cons.mpr ⟨⟨by decide, rfl, Or.inl (jn_m1 207 rfl)⟩, List.forall_mem_cons.mpr ⟨⟨by decide, rfl, Or.inl (jn_m1 208 rfl)⟩, List.forall_mem_cons.mpr ⟨⟨by decide, rfl, Or.inl (jn_m1 209 rfl)⟩, List.forall_mem_cons.mpr ⟨⟨by decide, rfl, Or.inl (jn_m1 210 rfl)⟩, List.forall_mem_cons.mpr ⟨⟨by decide, rfl, Or.inl (jn_m1 211 rfl)⟩, List.forall_mem_cons.mpr ⟨⟨by decide, rfl, Or.inl (jn_m1 212 rfl)⟩, List.forall_mem_cons.mpr ⟨⟨by decide, rfl, Or.inl (jn_m1 213 rfl)⟩, List.forall_mem_cons.mpr ⟨⟨by decide, rfl, Or.inl (jn_m1 214 rfl)⟩, List.forall_mem_cons.mpr ⟨⟨by decide, rfl, Or.inl (jn_m1 215 rfl)⟩, List.forall_mem_cons.mpr ⟨⟨by decide, rfl, Or.inl (jn_m1 216 rfl)⟩, List.forall_mem_cons.mpr ⟨⟨by decide, rfl, Or.inl (jn_m1 217 rfl)⟩, List.forall_mem_cons.mpr ⟨⟨by decide, rfl, Or.inl (jn_m1 218 rfl)⟩, List.forall_mem_cons.mpr ⟨⟨by decide, rfl, Or.inl (jn_m1 219 rfl)⟩, List.forall_mem_cons.mpr ⟨⟨by decide, rfl, Or.inr ⟨"BlobCorners", (jn_m1 33 rfl)⟩⟩, List.forall_mem_cons.mpr ⟨⟨by decide, rfl, Or.inr ⟨"BlobCorners", (jn_m1 70 rfl)⟩⟩, List.forall_mem_cons.mpr ⟨⟨by decide, rfl, Or.inr ⟨"BlobCorners", (jn_m1 101 rfl)⟩⟩, List.forall_mem_cons.mpr ⟨⟨by decide, rfl, Or.inr ⟨"BlobCorners", (jn_m1 49 rfl)⟩⟩, List.forall_mem_cons.mpr ⟨⟨by decide, rfl, Or.inr ⟨"BlobCorners", (jn_m1 52 rfl)⟩⟩, fun _ h => absurd h List.not_mem_nil⟩⟩⟩⟩⟩⟩⟩⟩⟩⟩⟩⟩⟩⟩⟩⟩⟩⟩⟩⟩
theorem jn_pF8 : ∀ e ∈ jm_FL.getD 8 [], jn_okF 8 e := by
  show ∀ e ∈ (_ : List _), _
  exact List.forall_mem_cons.mpr ⟨⟨by decide, rfl, Or.inl (jn_m4 160 rfl)⟩, List.forall_mem_cons.mpr ⟨⟨by decide, rfl, Or.inl (jn_m4 169 rfl)⟩, List.forall_mem_cons.mpr ⟨⟨by decide, rfl, Or.inl (jn_m4 172 rfl)⟩, List.forall_mem_cons.mpr ⟨⟨by decide, rfl, Or.inl (jn_m4 173 rfl)⟩, List.forall_mem_cons.mpr ⟨⟨by decide, rfl, Or.inl (jn_m4 174 rfl)⟩, List.forall_mem_cons.mpr ⟨⟨by decide, rfl, Or.inl (jn_m4 175 rfl)⟩, List.forall_mem_cons.mpr ⟨⟨by decide, rfl, Or.inl (jn_m4 176 rfl)⟩, List.forall_mem_cons.mpr ⟨⟨by decide, rfl, Or.inl (jn_m4 177 rfl)⟩, List.forall_mem_cons.mpr ⟨⟨by decide, rfl, Or.inl (jn_m4 178 rfl)⟩, List.forall_mem_cons.mpr ⟨⟨by decide, rfl, Or.inl (jn_m4 179 rfl)⟩, List.forall_mem_cons.mpr ⟨⟨by decide, rfl, Or.inl (jn_m4 180 rfl)⟩, List.forall_mem_cons.mpr ⟨⟨by decide, rfl, Or.inl (jn_m4 181 rfl)⟩, List.forall_mem_cons.mpr ⟨⟨by decide, rfl, Or.inl (jn_m4 182 rfl)⟩, List.forall_mem_cons.mpr ⟨⟨by decide, rfl, Or.inl (jn_m4 183 rfl)⟩, List.forall_mem_cons.mpr ⟨⟨by decide, rfl, Or.inl (jn_m4 184 rfl)⟩, List.forall_mem_cons.mpr ⟨⟨by decide, rfl, Or.inl (jn_m4 185 rfl)⟩, List.forall_mem_cons.mpr ⟨⟨by decide, rfl, Or.inl (jn_m4 187 rfl)⟩, List.forall_mem_cons.mpr ⟨⟨by decide, rfl, Or.inl (jn_m4 188 rfl)⟩, List.forall_mem_cons.mpr ⟨⟨by decide, rfl, Or.inl (jn_m4 191 rfl)⟩, List.forall_mem_cons.mpr ⟨⟨by decide, rfl, Or.inl (jn_m4 197 rfl)⟩, List.forall_mem_cons.mpr ⟨⟨by decide, rfl, Or.inl (jn_m4 198 rfl)⟩, List.forall_mem_cons.mpr ⟨⟨by decide, rfl, Or.inl (jn_m4 193 rfl)⟩, List.forall_mem_cons.mpr ⟨⟨by decide, rfl, Or.inl (jn_m4 161 rfl)⟩, List.forall_mem_cons.mpr ⟨⟨by decide, rfl, Or.inl (jn_m4 164 rfl)⟩, List.forall_mem_cons.mpr ⟨⟨by decide, rfl, Or.inl (jn_m4 162 rfl)⟩, List.forall_mem_cons.mpr ⟨⟨by decide, rfl, Or.inl (jn_m4 163 rfl)⟩, List.forall_mem_cons.mpr ⟨⟨by decide, rfl, Or.inl (jn_m4 165 rfl)⟩, List.forall_mem_cons.mpr ⟨⟨by decide, rfl, Or.inl (jn_m4 166 rfl)⟩, List.forall_mem_cons.mpr ⟨⟨by decide, rfl, Or.inl (jn_m4 167 rfl)⟩, List.forall_mem_cons.mpr ⟨⟨by decide, rfl, Or.inl (jn_m4 190 rfl)⟩, List.forall_mem_cons.mpr ⟨⟨by decide, rfl, Or.inl (jn_m4 168 rfl)⟩, List.forall_mem_cons.mpr ⟨⟨by decide, rfl, Or.inl (jn_m4 170 rfl)⟩, List.forall_mem_cons.mpr ⟨⟨by decide, rfl, Or.inl (jn_m4 171 rfl)⟩, List.forall_mem_cons.mpr ⟨⟨by decide, rfl, Or.inl (jn_m4 186 rfl)⟩, List.forall_mem_cons.mpr ⟨⟨by decide, rfl, Or.inl (jn_m4 189 rfl)⟩, List.forall_mem_cons.mpr ⟨⟨by decide, rfl, Or.inl (jn_m4 192 rfl)⟩, List.forall_mem_cons.mpr ⟨⟨by decide, rfl, Or.inl (jn_m4 194 rfl)⟩, List.forall_mem_cons.mpr ⟨⟨by decide, rfl, Or.inl (jn_m4 195 rfl)⟩, List.forall_mem_cons.mpr ⟨⟨by decide, rfl, Or.inl (jn_m4 196 rfl)⟩, List.forall_mem_cons.mpr ⟨⟨by decide, rfl, Or.inl (jn_m4 199 rfl)⟩, fun _ h => absurd h List.not_mem_nil⟩⟩⟩⟩⟩⟩⟩⟩⟩⟩⟩⟩⟩⟩⟩⟩⟩⟩⟩⟩⟩⟩⟩⟩⟩⟩⟩⟩⟩⟩⟩⟩⟩⟩⟩⟩⟩⟩⟩⟩
theorem jn_pF9 : ∀ e ∈ jm_FL.getD 9 [], jn_okF 9 e := fun _ h => absurd h List.not_mem_nil
theorem jn_pF10 : ∀ e ∈ jm_FL.getD 10 [], jn_okF 10 e := by
  show ∀ e ∈ (_ : List _), _
  exact List.forall_mem_cons.mpr ⟨⟨rfl, Or.inr ⟨rfl, (jn_m6 148 rfl)⟩⟩, List.forall_mem_cons.mpr ⟨⟨rfl, Or.inl ⟨rfl, (jn_m6 147 rfl)⟩⟩, fun _ h => absurd h List.not_mem_nil⟩⟩
theorem jn_pF11 : ∀ e ∈ jm_FL.getD 11 [], jn_okF 11 e := fun _ h => absurd h List.not_mem_nil
theorem jn_pF12 : ∀ e ∈ jm_FL.getD 12 [], jn_okF 12 e := fun _ h => absurd h List.not_mem_nil
theorem jn_pF13 : ∀ e ∈ jm_FL.getD 13 [], jn_okF 13 e := fun _ h => absurd h List.not_mem_nil
theorem jn_pF (c : Nat) : ∀ e ∈ jm_FL.getD c [], jn_okF c e := by
  match c with
  | 0 => exact jn_pF0
  | 1 => exact jn_pF1
  | 2 => exact jn_pF2
  | 3 => exact jn_pF3
  | 4 => exact jn_pF4
  | 5 => exact jn_pF5
  | 6 => exact jn_pF6
  | 7 => exact jn_pF7
  | 8 => exact jn_pF8
  | 9 => exact jn_pF9
  | 10 => exact jn_pF10
  | 11 => exact jn_pF11
  | 12 => exact jn_pF12
  | 13 => exact jn_pF13
  | c + 14 => exact fun _ h => absurd h List.not_mem_nil
theorem jn_pL0 : ∀ e ∈ jm_ML.getD 0 [], jn_okL 0 e := by
  show ∀ e ∈ (_ : List _), _
  exact List.forall_mem_cons.mpr ⟨⟨Or.inr ⟨"BlobCorners", (jn_m3 81 rfl)⟩, Or.inr ⟨by decide, jn_o40, jn_d40⟩, fun h => absurd h (by decide)⟩, List.forall_mem_cons.mpr ⟨⟨Or.inr ⟨"BlobCorners", (jn_m3 107 rfl)⟩, Or.inr ⟨by decide, jn_o45, jn_d45⟩, fun h => absurd h (by decide)⟩, List.forall_mem_cons.mpr ⟨⟨Or.inr ⟨"BlobCorners", (jn_m3 136 rfl)⟩, Or.inr ⟨by decide, jn_o61, jn_d61⟩, fun h => absurd h (by decide)⟩, List.forall_mem_cons.mpr ⟨⟨Or.inr ⟨"BlobCorners", (jn_m3 137 rfl)⟩, Or.inr ⟨by decide, jn_o62, jn_d62⟩, fun h => absurd h (by decide)⟩, List.forall_mem_cons.mpr ⟨⟨Or.inl (jn_m3 138 rfl), Or.inl (by decide), fun _ => (jn_m3 138 rfl)⟩, List.forall_mem_cons.mpr ⟨⟨Or.inl (jn_m3 139 rfl), Or.inr ⟨by decide, jn_o15, jn_d15⟩, fun h => absurd h (by decide)⟩, List.forall_mem_cons.mpr ⟨⟨Or.inr ⟨"BlobCorners", (jn_m3 153 rfl)⟩, Or.inr ⟨by decide, jn_o44, jn_d44⟩, fun h => absurd h (by decide)⟩, List.forall_mem_cons.mpr ⟨⟨Or.inl (jn_m3 154 rfl), Or.inr ⟨by decide, jn_o16, jn_d16⟩, fun h => absurd h (by decide)⟩, List.forall_mem_cons.mpr ⟨⟨Or.inl (jn_m3 174 rfl), Or.inr ⟨by decide, jn_o21, jn_d21⟩, fun h => absurd h (by decide)⟩, List.forall_mem_cons.mpr ⟨⟨Or.inl (jn_m3 178 rfl), Or.inr ⟨by decide, jn_o22, jn_d22⟩, fun h => absurd h (by decide)⟩, List.forall_mem_cons.mpr ⟨⟨Or.inr ⟨"BlobCorners", (jn_m3 186 rfl)⟩, Or.inr ⟨by decide, jn_o130, jn_d130⟩, fun h => absurd h (by decide)⟩, List.forall_mem_cons.mpr ⟨⟨Or.inl (jn_m3 190 rfl), Or.inr ⟨by decide, jn_o23, jn_d23⟩, fun h => absurd h (by decide)⟩, List.forall_mem_cons.mpr ⟨⟨Or.inr ⟨"BlobCorners", (jn_m3 143 rfl)⟩, Or.inr ⟨by decide, jn_o43, jn_d43⟩, fun h => absurd h (by decide)⟩, List.forall_mem_cons.mpr ⟨⟨Or.inr ⟨"BlobCorners", (jn_m3 144 rfl)⟩, Or.inr ⟨by decide, jn_o74, jn_d74⟩, fun h => absurd h (by decide)⟩, List.forall_mem_cons.mpr ⟨⟨Or.inl (jn_m3 158 rfl), Or.inr ⟨by decide, jn_o18, jn_d18⟩, fun h => absurd h (by decide)⟩, List.forall_mem_cons.mpr ⟨⟨Or.inl (jn_m3 162 rfl), Or.inr ⟨by decide, jn_o17, jn_d17⟩, fun h => absurd h (by decide)⟩, List.forall_mem_cons.mpr ⟨⟨Or.inl (jn_m3 166 rfl), Or.inr ⟨by decide, jn_o19, jn_d19⟩, fun h => absurd h (by decide)⟩, List.forall_mem_cons.mpr ⟨⟨Or.inl (jn_m3 170 rfl), Or.inr ⟨by decide, jn_o20, jn_d20⟩, fun h => absurd h (by decide)⟩, List.forall_mem_cons.mpr ⟨⟨Or.inl (jn_m3 182 rfl), Or.inr ⟨by decide, jn_o26, jn_d26⟩, fun h => absurd h (by decide)⟩, List.forall_mem_cons.mpr ⟨⟨Or.inr ⟨"BlobCorners", (jn_m3 194 rfl)⟩, Or.inr ⟨by decide, jn_o65, jn_d65⟩, fun h => absurd h (by decide)⟩, List.forall_mem_cons.mpr ⟨⟨Or.inr ⟨"BlobCorners", (jn_m3 195 rfl)⟩, Or.inr ⟨by decide, jn_o66, jn_d66⟩, fun h => absurd h (by decide)⟩, List.forall_mem_cons.mpr ⟨⟨Or.inl (jn_m3 196 rfl), Or.inl (by decide), fun _ => (jn_m3 196 rfl)⟩, fun _ h => absurd h List.not_mem_nil⟩⟩⟩⟩⟩⟩⟩⟩⟩⟩⟩⟩⟩⟩⟩⟩⟩⟩⟩⟩⟩⟩
theorem jn_pL1 : ∀ e ∈ jm_ML.getD 1 [], jn_okL 1 e := by
  show ∀ e ∈ (_ : List _), _
  exact List.forall_mem_cons.mpr ⟨⟨Or.inl (jn_m2 147 rfl), Or.inr ⟨by decide, jn_o29, jn_d29⟩, fun h => absurd h (by decide)⟩, List.forall_mem_cons.mpr ⟨⟨Or.inl (jn_m2 187 rfl), Or.inr ⟨by decide, jn_o31, jn_d31⟩, fun h => absurd h (by decide)⟩, List.forall_mem_cons.mpr ⟨⟨Or.inl (jn_m2 155 rfl), Or.inr ⟨by decide, jn_o28, jn_d28⟩, fun h => absurd h (by decide)⟩, List.forall_mem_cons.mpr ⟨⟨Or.inl (jn_m2 159 rfl), Or.inr ⟨by decide, jn_o30, jn_d30⟩, fun h => absurd h (by decide)⟩, List.forall_mem_cons.mpr ⟨⟨Or.inl (jn_m4 39 rfl), Or.inr ⟨by decide, jn_o34, jn_d34⟩, fun h => absurd h (by decide)⟩, List.forall_mem_cons.mpr ⟨⟨Or.inl (jn_m4 40 rfl), Or.inr ⟨by decide, jn_o35, jn_d35⟩, fun h => absurd h (by decide)⟩, fun _ h => absurd h List.not_mem_nil⟩⟩⟩⟩⟩⟩
theorem jn_pL2 : ∀ e ∈ jm_ML.getD 2 [], jn_okL 2 e := by
  show ∀ e ∈ (_ : List _), _
  exact List.forall_mem_cons.mpr ⟨⟨Or.inr ⟨"BlobCorners", (jn_m3 85 rfl)⟩, Or.inr ⟨by decide, jn_o62, jn_d62⟩, fun h => absurd h (by decide)⟩, List.forall_mem_cons.mpr ⟨⟨Or.inl (jn_m3 86 rfl), Or.inl (by decide), fun _ => (jn_m3 86 rfl)⟩, List.forall_mem_cons.mpr ⟨⟨Or.inl (jn_m3 87 rfl), Or.inr ⟨by decide, jn_o41, jn_d41⟩, fun h => absurd h (by decide)⟩, List.forall_mem_cons.mpr ⟨⟨Or.inr ⟨"BlobCorners", (jn_m3 91 rfl)⟩, Or.inr ⟨by decide, jn_o61, jn_d61⟩, fun h => absurd h (by decide)⟩, List.forall_mem_cons.mpr ⟨⟨Or.inr ⟨"BlobCorners", (jn_m3 92 rfl)⟩, Or.inr ⟨by decide, jn_o73, jn_d73⟩, fun h => absurd h (by decide)⟩, List.forall_mem_cons.mpr ⟨⟨Or.inr ⟨"BlobCorners", (jn_m3 103 rfl)⟩, Or.inr ⟨by decide, jn_o69, jn_d69⟩, fun h => absurd h (by decide)⟩, List.forall_mem_cons.mpr ⟨⟨Or.inl (jn_m3 115 rfl), Or.inr ⟨by decide, jn_o43, jn_d43⟩, fun h => absurd h (by decide)⟩, List.forall_mem_cons.mpr ⟨⟨Or.inl (jn_m3 111 rfl), Or.inr ⟨by decide, jn_o44, jn_d44⟩, fun h => absurd h (by decide)⟩, List.forall_mem_cons.mpr ⟨⟨Or.inl (jn_m3 119 rfl), Or.inr ⟨by decide, jn_o46, jn_d46⟩, fun h => absurd h (by decide)⟩, List.forall_mem_cons.mpr ⟨⟨Or.inl (jn_m3 123 rfl), Or.inr ⟨by decide, jn_o47, jn_d47⟩, fun h => absurd h (by decide)⟩, List.forall_mem_cons.mpr ⟨⟨Or.inl (jn_m3 127 rfl), Or.inr ⟨by decide, jn_o42, jn_d42⟩, fun h => absurd h (by decide)⟩, fun _ h => absurd h List.not_mem_nil⟩⟩⟩⟩⟩⟩⟩⟩⟩⟩⟩
theorem jn_pL3 : ∀ e ∈ jm_ML.getD 3 [], jn_okL 3 e := by
  show ∀ e ∈ (_ : List _), _
  exact List.forall_mem_cons.mpr ⟨⟨Or.inl (jn_m2 179 rfl), Or.inr ⟨by decide, jn_o49, jn_d49⟩, fun h => absurd h (by decide)⟩, List.forall_mem_cons.mpr ⟨⟨Or.inl (jn_m2 193 rfl), Or.inr ⟨by decide, jn_o50, jn_d50⟩, fun h => absurd h (by decide)⟩, List.forall_mem_cons.mpr ⟨⟨Or.inl (jn_m2 196 rfl), Or.inr ⟨by decide, jn_o51, jn_d51⟩, fun h => absurd h (by decide)⟩, List.forall_mem_cons.mpr ⟨⟨Or.inl (jn_m2 212 rfl), Or.inr ⟨by decide, jn_o54, jn_d54⟩, fun h => absurd h (by decide)⟩, List.forall_mem_cons.mpr ⟨⟨Or.inl (jn_m2 232 rfl), Or.inr ⟨by decide, jn_o55, jn_d55⟩, fun h => absurd h (by decide)⟩, List.forall_mem_cons.mpr ⟨⟨Or.inr ⟨"BlobCorners", (jn_m2 183 rfl)⟩, Or.inr ⟨by decide, jn_o32, jn_d32⟩, fun h => absurd h (by decide)⟩, List.forall_mem_cons.mpr ⟨⟨Or.inl (jn_m2 200 rfl), Or.inr ⟨by decide, jn_o52, jn_d52⟩, fun h => absurd h (by decide)⟩, List.forall_mem_cons.mpr ⟨⟨Or.inl (jn_m2 208 rfl), Or.inr ⟨by decide, jn_o53, jn_d53⟩, fun h => absurd h (by decide)⟩, List.forall_mem_cons.mpr ⟨⟨Or.inl (jn_m2 216 rfl), Or.inr ⟨by decide, jn_o61, jn_d61⟩, fun h => absurd h (by decide)⟩, List.forall_mem_cons.mpr ⟨⟨Or.inl (jn_m2 220 rfl), Or.inr ⟨by decide, jn_o62, jn_d62⟩, fun h => absurd h (by decide)⟩, List.forall_mem_cons.mpr ⟨⟨Or.inl (jn_m2 224 rfl), Or.inr ⟨by decide, jn_o65, jn_d65⟩, fun h => absurd h (by decide)⟩, List.forall_mem_cons.mpr ⟨⟨Or.inl (jn_m2 228 rfl), Or.inr ⟨by decide, jn_o66, jn_d66⟩, fun h => absurd h (by decide)⟩, List.forall_mem_cons.mpr ⟨⟨Or.inl (jn_m2 236 rfl), Or.inr ⟨by decide, jn_o67, jn_d67⟩, fun h => absurd h (by decide)⟩, List.forall_mem_cons.mpr ⟨⟨Or.inl (jn_m3 0 rfl), Or.inr ⟨by decide, jn_o56, jn_d56⟩, fun h => absurd h (by decide)⟩, List.forall_mem_cons.mpr ⟨⟨Or.inl (jn_m3 4 rfl), Or.inr ⟨by decide, jn_o57, jn_d57⟩, fun h => absurd h (by decide)⟩, List.forall_mem_cons.mpr ⟨⟨Or.inr ⟨"BlobCorners", (jn_m3 3 rfl)⟩, Or.inr ⟨by decide, jn_o31, jn_d31⟩, fun h => absurd h (by decide)⟩, List.forall_mem_cons.mpr ⟨⟨Or.inl (jn_m4 9 rfl), Or.inr ⟨by decide, jn_o59, jn_d59⟩, fun h => absurd h (by decide)⟩, List.forall_mem_cons.mpr ⟨⟨Or.inl (jn_m3 76 rfl), Or.inr ⟨by decide, jn_o58, jn_d58⟩, fun h => absurd h (by decide)⟩, List.forall_mem_cons.mpr ⟨⟨Or.inl (jn_m3 72 rfl), Or.inr ⟨by decide, jn_o63, jn_d63⟩, fun h => absurd h (by decide)⟩, List.forall_mem_cons.mpr ⟨⟨Or.inl (jn_m4 138 rfl), Or.inr ⟨by decide, jn_o64, jn_d64⟩, fun h => absurd h (by decide)⟩, List.forall_mem_cons.mpr ⟨⟨Or.inl (jn_m3 211 rfl), Or.inr ⟨by decide, jn_o69, jn_d69⟩, fun h => absurd h (by decide)⟩, List.forall_mem_cons.mpr ⟨⟨Or.inl (jn_m3 96 rfl), Or.inl (by decide), fun _ => (jn_m3 96 rfl)⟩, List.forall_mem_cons.mpr ⟨⟨Or.inl (jn_m3 99 rfl), Or.inl (by decide), fun _ => (jn_m3 99 rfl)⟩, List.forall_mem_cons.mpr ⟨⟨Or.inl (jn_m3 100 rfl), Or.inr ⟨by decide, jn_o75, jn_d75⟩, fun h => absurd h (by decide)⟩, List.forall_mem_cons.mpr ⟨⟨Or.inl (jn_m3 148 rfl), Or.inr ⟨by decide, jn_o72, jn_d72⟩, fun h => absurd h (by decide)⟩, List.forall_mem_cons.mpr ⟨⟨Or.inl (jn_m3 236 rfl), Or.inr ⟨by decide, jn_o73, jn_d73⟩, fun h => absurd h (by decide)⟩, fun _ h => absurd h List.not_mem_nil⟩⟩⟩⟩⟩⟩⟩⟩⟩⟩⟩⟩⟩⟩⟩⟩⟩⟩⟩⟩⟩⟩⟩⟩⟩⟩
theorem jn_pL4 : ∀ e ∈ jm_ML.getD 4 [], jn_okL 4 e := by
  show ∀ e ∈ (_ : List _), _
  exact List.forall_mem_cons.mpr ⟨⟨Or.inl (jn_m2 31 rfl), Or.inr ⟨by decide, jn_o78, jn_d78⟩, fun h => absurd h (by decide)⟩, List.forall_mem_cons.mpr ⟨⟨Or.inl (jn_m2 35 rfl), Or.inr ⟨by decide, jn_o82, jn_d82⟩, fun h => absurd h (by decide)⟩, List.forall_mem_cons.mpr ⟨⟨Or.inl (jn_m2 134 rfl), Or.inr ⟨by decide, jn_o79, jn_d79⟩, fun h => absurd h (by decide)⟩, List.forall_mem_cons.mpr ⟨⟨Or.inl (jn_m2 135 rfl), Or.inr ⟨by decide, jn_o81, jn_d81⟩, fun h => absurd h (by decide)⟩, List.forall_mem_cons.mpr ⟨⟨Or.inr ⟨"BlobCorners", (jn_m2 139 rfl)⟩, Or.inr ⟨by decide, jn_o34, jn_d34⟩, fun h => absurd h (by decide)⟩, List.forall_mem_cons.mpr ⟨⟨Or.inl (jn_m2 39 rfl), Or.inr ⟨by decide, jn_o11, jn_d11⟩, fun h => absurd h (by decide)⟩, List.forall_mem_cons.mpr ⟨⟨Or.inr ⟨"BlobCorners", (jn_m2 143 rfl)⟩, Or.inr ⟨by decide, jn_o35, jn_d35⟩, fun h => absurd h (by decide)⟩, List.forall_mem_cons.mpr ⟨⟨Or.inr ⟨"BlobCorners", (jn_m2 151 rfl)⟩, Or.inr ⟨by decide, jn_o33, jn_d33⟩, fun h => absurd h (by decide)⟩, fun _ h => absurd h List.not_mem_nil⟩⟩⟩⟩⟩⟩⟩⟩
theorem jn_pL5 : ∀ e ∈ jm_ML.getD 5 [], jn_okL 5 e := by
  show ∀ e ∈ (_ : List _), _
  exact List.forall_mem_cons.mpr ⟨⟨Or.inr ⟨"BlobCorners", (jn_m4 61 rfl)⟩, Or.inr ⟨by decide, jn_o127, jn_d127⟩, fun h => absurd h (by decide)⟩, List.forall_mem_cons.mpr ⟨⟨Or.inl (jn_m4 66 rfl), Or.inr ⟨by decide, jn_o84, jn_d84⟩, fun h => absurd h (by decide)⟩, fun _ h => absurd h List.not_mem_nil⟩⟩
theorem jn_pL6 : ∀ e ∈ jm_ML.getD 6 [], jn_okL 6 e := by
  show ∀ e ∈ (_ : List _), _
  exact List.forall_mem_cons.mpr ⟨⟨Or.inl (jn_m3 30 rfl), Or.inr ⟨by decide, jn_o92, jn_d92⟩, fun h => absurd h (by decide)⟩, List.forall_mem_cons.mpr ⟨⟨Or.inl (jn_m3 38 rfl), Or.inr ⟨by decide, jn_o3, jn_d3⟩, fun h => absurd h (by decide)⟩, List.forall_mem_cons.mpr ⟨⟨Or.inl (jn_m3 44 rfl), Or.inl (by decide), fun _ => (jn_m3 44 rfl)⟩, fun _ h => absurd h List.not_mem_nil⟩⟩⟩
theorem jn_pL7 : ∀ e ∈ jm_ML.getD 7 [], jn_okL 7 e := by
  show ∀ e ∈ (_ : List _), _
  exact List.forall_mem_cons.mpr ⟨⟨Or.inr ⟨"BlobCorners", (jn_m2 15 rfl)⟩, Or.inr ⟨by decide, jn_o77, jn_d77⟩, fun h => absurd h (by decide)⟩, List.forall_mem_cons.mpr ⟨⟨Or.inr ⟨"BlobCorners", (jn_m2 27 rfl)⟩, Or.inr ⟨by decide, jn_o79, jn_d79⟩, fun h => absurd h (by decide)⟩, List.forall_mem_cons.mpr ⟨⟨Or.inr ⟨"BlobCorners", (jn_m2 130 rfl)⟩, Or.inr ⟨by decide, jn_o80, jn_d80⟩, fun h => absurd h (by decide)⟩, List.forall_mem_cons.mpr ⟨⟨Or.inr ⟨"BlobCorners", (jn_m2 163 rfl)⟩, Or.inr ⟨by decide, jn_o36, jn_d36⟩, fun h => absurd h (by decide)⟩, List.forall_mem_cons.mpr ⟨⟨Or.inl (jn_m2 167 rfl), Or.inr ⟨by decide, jn_o123, jn_d123⟩, fun h => absurd h (by decide)⟩, List.forall_mem_cons.mpr ⟨⟨Or.inr ⟨"BlobCorners", (jn_m3 15 rfl)⟩, Or.inr ⟨by decide, jn_o33, jn_d33⟩, fun h => absurd h (by decide)⟩, List.forall_mem_cons.mpr ⟨⟨Or.inr ⟨"BlobCorners", (jn_m3 20 rfl)⟩, Or.inr ⟨by decide, jn_o29, jn_d29⟩, fun h => absurd h (by decide)⟩, List.forall_mem_cons.mpr ⟨⟨Or.inl (jn_m3 21 rfl), Or.inr ⟨by decide, jn_o118, jn_d118⟩, fun h => absurd h (by decide)⟩, List.forall_mem_cons.mpr ⟨⟨Or.inr ⟨"BlobCorners", (jn_m3 25 rfl)⟩, Or.inr ⟨by decide, jn_o30, jn_d30⟩, fun h => absurd h (by decide)⟩, List.forall_mem_cons.mpr ⟨⟨Or.inl (jn_m3 49 rfl), Or.inr ⟨by decide, jn_o127, jn_d127⟩, fun h => absurd h (by decide)⟩, List.forall_mem_cons.mpr ⟨⟨Or.inl (jn_m3 52 rfl), Or.inr ⟨by decide, jn_o128, jn_d128⟩, fun h => absurd h (by decide)⟩, List.forall_mem_cons.mpr ⟨⟨Or.inr ⟨"BlobCorners", (jn_m3 59 rfl)⟩, Or.inr ⟨by decide, jn_o58, jn_d58⟩, fun h => absurd h (by decide)⟩, List.forall_mem_cons.mpr ⟨⟨Or.inl (jn_m3 63 rfl), Or.inr ⟨by decide, jn_o119, jn_d119⟩, fun h => absurd h (by decide)⟩, List.forall_mem_cons.mpr ⟨⟨Or.inr ⟨"BlobCorners", (jn_m3 216 rfl)⟩, Or.inr ⟨by decide, jn_o59, jn_d59⟩, fun h => absurd h (by decide)⟩, List.forall_mem_cons.mpr ⟨⟨Or.inl (jn_m3 220 rfl), Or.inr ⟨by decide, jn_o120, jn_d120⟩, fun h => absurd h (by decide)⟩, List.forall_mem_cons.mpr ⟨⟨Or.inr ⟨"BlobCorners", (jn_m4 5 rfl)⟩, Or.inr ⟨by decide, jn_o60, jn_d60⟩, fun h => absurd h (by decide)⟩, List.forall_mem_cons.mpr ⟨⟨Or.inr ⟨"BlobCorners", (jn_m4 10 rfl)⟩, Or.inr ⟨by decide, jn_o73, jn_d73⟩, fun h => absurd h (by decide)⟩, List.forall_mem_cons.mpr ⟨⟨Or.inr ⟨"BlobCorners", (jn_m4 15 rfl)⟩, Or.inr ⟨by decide, jn_o74, jn_d74⟩, fun h => absurd h (by decide)⟩, List.forall_mem_cons.mpr ⟨⟨Or.inl (jn_m4 16 rfl), Or.inr ⟨by decide, jn_o130, jn_d130⟩, fun h => absurd h (by decide)⟩, List.forall_mem_cons.mpr ⟨⟨Or.inr ⟨"BlobCorners", (jn_m3 77 rfl)⟩, Or.inr ⟨by decide, jn_o13, jn_d13⟩, fun h => absurd h (by decide)⟩, List.forall_mem_cons.mpr ⟨⟨Or.inr ⟨"BlobCorners", (jn_m3 132 rfl)⟩, Or.inr ⟨by decide, jn_o14, jn_d14⟩, fun h => absurd h (by decide)⟩, List.forall_mem_cons.mpr ⟨⟨Or.inr ⟨"BlobCorners", (jn_m3 224 rfl)⟩, Or.inr ⟨by decide, jn_o61, jn_d61⟩, fun h => absurd h (by decide)⟩, List.forall_mem_cons.mpr ⟨⟨Or.inr ⟨"BlobCorners", (jn_m4 21 rfl)⟩, Or.inr ⟨by decide, jn_o26, jn_d26⟩, fun h => absurd h (by decide)⟩, List.forall_mem_cons.mpr ⟨⟨Or.inr ⟨"BlobCorners", (jn_m4 26 rfl)⟩, Or.inr ⟨by decide, jn_o35, jn_d35⟩, fun h => absurd h (by decide)⟩, List.forall_mem_cons.mpr ⟨⟨Or.inr ⟨"BlobCorners", (jn_m4 35 rfl)⟩, Or.inr ⟨by decide, jn_o37, jn_d37⟩, fun h => absurd h (by decide)⟩, List.forall_mem_cons.mpr ⟨⟨Or.inl (jn_m4 41 rfl), Or.inr ⟨by decide, jn_o124, jn_d124⟩, fun h => absurd h (by decide)⟩, List.forall_mem_cons.mpr ⟨⟨Or.inr ⟨"BlobCorners", (jn_m4 49 rfl)⟩, Or.inr ⟨by decide, jn_o38, jn_d38⟩, fun h => absurd h (by decide)⟩, List.forall_mem_cons.mpr ⟨⟨Or.inr ⟨"BlobCorners", (jn_m4 57 rfl)⟩, Or.inr ⟨by decide, jn_o84, jn_d84⟩, fun h => absurd h (by decide)⟩, List.forall_mem_cons.mpr ⟨⟨Or.inr ⟨"BlobCorners", (jn_m4 62 rfl)⟩, Or.inr ⟨by decide, jn_o85, jn_d85⟩, fun h => absurd h (by decide)⟩, List.forall_mem_cons.mpr ⟨⟨Or.inr ⟨"BlobCorners", (jn_m4 71 rfl)⟩, Or.inr ⟨by decide, jn_o86, jn_d86⟩, fun h => absurd h (by decide)⟩, List.forall_mem_cons.mpr ⟨⟨Or.inl (jn_m4 79 rfl), Or.inr ⟨by decide, jn_o126, jn_d126⟩, fun h => absurd h (by decide)⟩, List.forall_mem_cons.mpr ⟨⟨Or.inr ⟨"BlobCorners", (jn_m4 94 rfl)⟩, Or.inr ⟨by decide, jn_o88, jn_d88⟩, fun h => absurd h (by decide)⟩, List.forall_mem_cons.mpr ⟨⟨Or.inl (jn_m4 106 rfl), Or.inr ⟨by decide, jn_o129, jn_d129⟩, fun h => absurd h (by decide)⟩, List.forall_mem_cons.mpr ⟨⟨Or.inr ⟨"BlobCorners", (jn_m2 175 rfl)⟩, Or.inr ⟨by decide, jn_o48, jn_d48⟩, fun h => absurd h (by decide)⟩, List.forall_mem_cons.mpr ⟨⟨Or.inl (jn_m4 84 rfl), Or.inr ⟨by decide, jn_o125, jn_d125⟩, fun h => absurd h (by decide)⟩, List.forall_mem_cons.mpr ⟨⟨Or.inr ⟨"BlobCorners", (jn_m4 118 rfl)⟩, Or.inr ⟨by decide, jn_o89, jn_d89⟩, fun h => absurd h (by decide)⟩, List.forall_mem_cons.mpr ⟨⟨Or.inl (jn_m4 130 rfl), Or.inr ⟨by decide, jn_o121, jn_d121⟩, fun h => absurd h (by decide)⟩, List.forall_mem_cons.mpr ⟨⟨Or.inr ⟨"BlobCorners", (jn_m4 83 rfl)⟩, Or.inr ⟨by decide, jn_o28, jn_d28⟩, fun h => absurd h (by decide)⟩, List.forall_mem_cons.mpr ⟨⟨Or.inl (jn_m4 149 rfl), Or.inr ⟨by decide, jn_o122, jn_d122⟩, fun h => absurd h (by decide)⟩, List.forall_mem_cons.mpr ⟨⟨Or.inr ⟨"BlobCorners", (jn_m4 153 rfl)⟩, Or.inr ⟨by decide, jn_o78, jn_d78⟩, fun h => absurd h (by decide)⟩, List.forall_mem_cons.mpr ⟨⟨Or.inr ⟨"BlobCorners", (jn_m3 26 rfl)⟩, Or.inr ⟨by decide, jn_o90, jn_d90⟩, fun h => absurd h (by decide)⟩, List.forall_mem_cons.mpr ⟨⟨Or.inr ⟨"BlobCorners", (jn_m3 35 rfl)⟩, Or.inr ⟨by decide, jn_o91, jn_d91⟩, fun h => absurd h (by decide)⟩, List.forall_mem_cons.mpr ⟨⟨Or.inr ⟨"BlobCorners", (jn_m3 67 rfl)⟩, Or.inr ⟨by decide, jn_o62, jn_d62⟩, fun h => absurd h (by decide)⟩, List.forall_mem_cons.mpr ⟨⟨Or.inr ⟨"BlobCorners", (jn_m3 68 rfl)⟩, Or.inr ⟨by decide, jn_o64, jn_d64⟩, fun h => absurd h (by decide)⟩, List.forall_mem_cons.mpr ⟨⟨Or.inr ⟨"BlobCorners", (jn_m3 197 rfl)⟩, Or.inr ⟨by decide, jn_o24, jn_d24⟩, fun h => absurd h (by decide)⟩, List.forall_mem_cons.mpr ⟨⟨Or.inr ⟨"BlobCorners", (jn_m3 201 rfl)⟩, Or.inr ⟨by decide, jn_o25, jn_d25⟩, fun h => absurd h (by decide)⟩, List.forall_mem_cons.mpr ⟨⟨Or.inr ⟨"BlobCorners", (jn_m3 205 rfl)⟩, Or.inr ⟨by decide, jn_o63, jn_d63⟩, fun h => absurd h (by decide)⟩, List.forall_mem_cons.mpr ⟨⟨Or.inl (jn_m3 206 rfl), Or.inl (by decide), fun _ => (jn_m3 206 rfl)⟩, List.forall_mem_cons.mpr ⟨⟨Or.inr ⟨"BlobCorners", (jn_m3 207 rfl)⟩, Or.inr ⟨by decide, jn_o71, jn_d71⟩, fun h => absurd h (by decide)⟩, List.forall_mem_cons.mpr ⟨⟨Or.inr ⟨"BlobCorners", (jn_m3 225 rfl)⟩, Or.inr ⟨by decide, jn_o65, jn_d65⟩, fun h => absurd h (by decide)⟩, List.forall_mem_cons.mpr ⟨⟨Or.inr ⟨"BlobCorners", (jn_m3 226 rfl)⟩, Or.inr ⟨by decide, jn_o66, jn_d66⟩, fun h => absurd h (by decide)⟩, List.forall_mem_cons.mpr ⟨⟨Or.inr ⟨"BlobCorners", (jn_m3 227 rfl)⟩, Or.inr ⟨by decide, jn_o68, jn_d68⟩, fun h => absurd h (by decide)⟩, List.forall_mem_cons.mpr ⟨⟨Or.inr ⟨"BlobCorners", (jn_m3 231 rfl)⟩, Or.inr ⟨by decide, jn_o69, jn_d69⟩, fun h => absurd h (by decide)⟩, List.forall_mem_cons.mpr ⟨⟨Or.inr ⟨"BlobCorners", (jn_m3 232 rfl)⟩, Or.inr ⟨by decide, jn_o76, jn_d76⟩, fun h => absurd h (by decide)⟩, List.forall_mem_cons.mpr ⟨⟨Or.inr ⟨"BlobCorners", (jn_m3 237 rfl)⟩, Or.inr ⟨by decide, jn_o27, jn_d27⟩, fun h => absurd h (by decide)⟩, List.forall_mem_cons.mpr ⟨⟨Or.inr ⟨"BlobCorners", (jn_m4 134 rfl)⟩, Or.inr ⟨by decide, jn_o70, jn_d70⟩, fun h => absurd h (by decide)⟩, List.forall_mem_cons.mpr ⟨⟨Or.inr ⟨"BlobCorners", (jn_m4 139 rfl)⟩, Or.inr ⟨by decide, jn_o87, jn_d87⟩, fun h => absurd h (by decide)⟩, List.forall_mem_cons.mpr ⟨⟨Or.inr ⟨"BlobCorners", (jn_m2 171 rfl)⟩, Or.inr ⟨by decide, jn_o83, jn_d83⟩, fun h => absurd h (by decide)⟩, List.forall_mem_cons.mpr ⟨⟨Or.inr ⟨"BlobCorners", (jn_m3 7 rfl)⟩, Or.inr ⟨by decide, jn_o39, jn_d39⟩, fun h => absurd h (by decide)⟩, List.forall_mem_cons.mpr ⟨⟨Or.inr ⟨"BlobCorners", (jn_m3 11 rfl)⟩, Or.inr ⟨by decide, jn_o12, jn_d12⟩, fun h => absurd h (by decide)⟩, List.forall_mem_cons.mpr ⟨⟨Or.inr ⟨"BlobCorners", (jn_m4 88 rfl)⟩, Or.inr ⟨by decide, jn_o40, jn_d40⟩, fun h => absurd h (by decide)⟩, List.forall_mem_cons.mpr ⟨⟨Or.inr ⟨"BlobCorners", (jn_m4 89 rfl)⟩, Or.inr ⟨by decide, jn_o45, jn_d45⟩, fun h => absurd h (by decide)⟩, List.forall_mem_cons.mpr ⟨⟨Or.inr ⟨"BlobCorners", (jn_m4 109 rfl)⟩, Or.inr ⟨by decide, jn_o34, jn_d34⟩, fun h => absurd h (by decide)⟩, fun _ h => absurd h List.not_mem_nil⟩⟩⟩⟩⟩⟩⟩⟩⟩⟩⟩⟩⟩⟩⟩⟩⟩⟩⟩⟩⟩⟩⟩⟩⟩⟩⟩⟩⟩⟩⟩⟩⟩⟩⟩⟩⟩⟩⟩⟩⟩⟩⟩⟩⟩⟩⟩⟩⟩⟩⟩⟩⟩⟩⟩⟩⟩⟩⟩⟩⟩⟩⟩
theorem jn_pL8 : ∀ e ∈ jm_ML.getD 8 [], jn_okL 8 e := by
  show ∀ e ∈ (_ : List _), _
  exact List.forall_mem_cons.mpr ⟨⟨Or.inl (jn_m5 46 rfl), Or.inr ⟨by decide, jn_o131, jn_d131⟩, fun h => absurd h (by decide)⟩, List.forall_mem_cons.mpr ⟨⟨Or.inl (jn_m5 65 rfl), Or.inr ⟨by decide, jn_o137, jn_d137⟩, fun h => absurd h (by decide)⟩, List.forall_mem_cons.mpr ⟨⟨Or.inl (jn_m5 69 rfl), Or.inr ⟨by decide, jn_o136, jn_d136⟩, fun h => absurd h (by decide)⟩, List.forall_mem_cons.mpr ⟨⟨Or.inl (jn_m5 61 rfl), Or.inr ⟨by decide, jn_o138, jn_d138⟩, fun h => absurd h (by decide)⟩, List.forall_mem_cons.mpr ⟨⟨Or.inl (jn_m5 57 rfl), Or.inr ⟨by decide, jn_o139, jn_d139⟩, fun h => absurd h (by decide)⟩, List.forall_mem_cons.mpr ⟨⟨Or.inl (jn_m5 76 rfl), Or.inr ⟨by decide, jn_o142, jn_d142⟩, fun h => absurd h (by decide)⟩, List.forall_mem_cons.mpr ⟨⟨Or.inl (jn_m5 80 rfl), Or.inr ⟨by decide, jn_o147, jn_d147⟩, fun h => absurd h (by decide)⟩, List.forall_mem_cons.mpr ⟨⟨Or.inl (jn_m6 3 rfl), Or.inr ⟨by decide, jn_o144, jn_d144⟩, fun h => absurd h (by decide)⟩, List.forall_mem_cons.mpr ⟨⟨Or.inl (jn_m5 112 rfl), Or.inr ⟨by decide, jn_o146, jn_d146⟩, fun h => absurd h (by decide)⟩, List.forall_mem_cons.mpr ⟨⟨Or.inl (jn_m5 108 rfl), Or.inr ⟨by decide, jn_o148, jn_d148⟩, fun h => absurd h (by decide)⟩, List.forall_mem_cons.mpr ⟨⟨Or.inl (jn_m5 134 rfl), Or.inr ⟨by decide, jn_o152, jn_d152⟩, fun h => absurd h (by decide)⟩, List.forall_mem_cons.mpr ⟨⟨Or.inl (jn_m5 120 rfl), Or.inr ⟨by decide, jn_o149, jn_d149⟩, fun h => absurd h (by decide)⟩, List.forall_mem_cons.mpr ⟨⟨Or.inl (jn_m5 123 rfl), Or.inr ⟨by decide, jn_o150, jn_d150⟩, fun h => absurd h (by decide)⟩, List.forall_mem_cons.mpr ⟨⟨Or.inl (jn_m5 126 rfl), Or.inr ⟨by decide, jn_o151, jn_d151⟩, fun h => absurd h (by decide)⟩, List.forall_mem_cons.mpr ⟨⟨Or.inl (jn_m5 130 rfl), Or.inr ⟨by decide, jn_o153, jn_d153⟩, fun h => absurd h (by decide)⟩, List.forall_mem_cons.mpr ⟨⟨Or.inl (jn_m5 116 rfl), Or.inr ⟨by decide, jn_o154, jn_d154⟩, fun h => absurd h (by decide)⟩, List.forall_mem_cons.mpr ⟨⟨Or.inl (jn_m5 146 rfl), Or.inr ⟨by decide, jn_o132, jn_d132⟩, fun h => absurd h (by decide)⟩, List.forall_mem_cons.mpr ⟨⟨Or.inl (jn_m5 149 rfl), Or.inr ⟨by decide, jn_o156, jn_d156⟩, fun h => absurd h (by decide)⟩, List.forall_mem_cons.mpr ⟨⟨Or.inl (jn_m5 153 rfl), Or.inr ⟨by decide, jn_o158, jn_d158⟩, fun h => absurd h (by decide)⟩, List.forall_mem_cons.mpr ⟨⟨Or.inl (jn_m5 158 rfl), Or.inr ⟨by decide, jn_o159, jn_d159⟩, fun h => absurd h (by decide)⟩, List.forall_mem_cons.mpr ⟨⟨Or.inl (jn_m5 180 rfl), Or.inr ⟨by decide, jn_o160, jn_d160⟩, fun h => absurd h (by decide)⟩, List.forall_mem_cons.mpr ⟨⟨Or.inl (jn_m5 142 rfl), Or.inr ⟨by decide, jn_o157, jn_d157⟩, fun h => absurd h (by decide)⟩, List.forall_mem_cons.mpr ⟨⟨Or.inl (jn_m5 176 rfl), Or.inr ⟨by decide, jn_o161, jn_d161⟩, fun h => absurd h (by decide)⟩, List.forall_mem_cons.mpr ⟨⟨Or.inl (jn_m5 168 rfl), Or.inr ⟨by decide, jn_o165, jn_d165⟩, fun h => absurd h (by decide)⟩, List.forall_mem_cons.mpr ⟨⟨Or.inl (jn_m5 172 rfl), Or.inr ⟨by decide, jn_o164, jn_d164⟩, fun h => absurd h (by decide)⟩, List.forall_mem_cons.mpr ⟨⟨Or.inl (jn_m5 183 rfl), Or.inr ⟨by decide, jn_o163, jn_d163⟩, fun h => absurd h (by decide)⟩, List.forall_mem_cons.mpr ⟨⟨Or.inl (jn_m5 187 rfl), Or.inr ⟨by decide, jn_o167, jn_d167⟩, fun h => absurd h (by decide)⟩, List.forall_mem_cons.mpr ⟨⟨Or.inl (jn_m5 104 rfl), Or.inr ⟨by decide, jn_o155, jn_d155⟩, fun h => absurd h (by decide)⟩, List.forall_mem_cons.mpr ⟨⟨Or.inl (jn_m5 138 rfl), Or.inr ⟨by decide, jn_o162, jn_d162⟩, fun h => absurd h (by decide)⟩, List.forall_mem_cons.mpr ⟨⟨Or.inl (jn_m5 164 rfl), Or.inr ⟨by decide, jn_o166, jn_d166⟩, fun h => absurd h (by decide)⟩, List.forall_mem_cons.mpr ⟨⟨Or.inl (jn_m5 100 rfl), Or.inr ⟨by decide, jn_o168, jn_d168⟩, fun h => absurd h (by decide)⟩, List.forall_mem_cons.mpr ⟨⟨Or.inl (jn_m5 92 rfl), Or.inr ⟨by decide, jn_o143, jn_d143⟩, fun h => absurd h (by decide)⟩, List.forall_mem_cons.mpr ⟨⟨Or.inl (jn_m5 96 rfl), Or.inr ⟨by decide, jn_o169, jn_d169⟩, fun h => absurd h (by decide)⟩, List.forall_mem_cons.mpr ⟨⟨Or.inl (jn_m5 88 rfl), Or.inr ⟨by decide, jn_o171, jn_d171⟩, fun h => absurd h (by decide)⟩, List.forall_mem_cons.mpr ⟨⟨Or.inl (jn_m5 195 rfl), Or.inr ⟨by decide, jn_o173, jn_d173⟩, fun h => absurd h (by decide)⟩, List.forall_mem_cons.mpr ⟨⟨Or.inl (jn_m5 199 rfl), Or.inr ⟨by decide, jn_o174, jn_d174⟩, fun h => absurd h (by decide)⟩, List.forall_mem_cons.mpr ⟨⟨Or.inl (jn_m5 191 rfl), Or.inr ⟨by decide, jn_o175, jn_d175⟩, fun h => absurd h (by decide)⟩, List.forall_mem_cons.mpr ⟨⟨Or.inl (jn_m5 215 rfl), Or.inr ⟨by decide, jn_o177, jn_d177⟩, fun h => absurd h (by decide)⟩, List.forall_mem_cons.mpr ⟨⟨Or.inl (jn_m5 207 rfl), Or.inr ⟨by decide, jn_o172, jn_d172⟩, fun h => absurd h (by decide)⟩, List.forall_mem_cons.mpr ⟨⟨Or.inl (jn_m5 211 rfl), Or.inr ⟨by decide, jn_o178, jn_d178⟩, fun h => absurd h (by decide)⟩, List.forall_mem_cons.mpr ⟨⟨Or.inl (jn_m5 223 rfl), Or.inr ⟨by decide, jn_o180, jn_d180⟩, fun h => absurd h (by decide)⟩, List.forall_mem_cons.mpr ⟨⟨Or.inl (jn_m5 235 rfl), Or.inr ⟨by decide, jn_o183, jn_d183⟩, fun h => absurd h (by decide)⟩, List.forall_mem_cons.mpr ⟨⟨Or.inl (jn_m6 11 rfl), Or.inr ⟨by decide, jn_o202, jn_d202⟩, fun h => absurd h (by decide)⟩, List.forall_mem_cons.mpr ⟨⟨Or.inl (jn_m6 18 rfl), Or.inr ⟨by decide, jn_o204, jn_d204⟩, fun h => absurd h (by decide)⟩, List.forall_mem_cons.mpr ⟨⟨Or.inl (jn_m6 7 rfl), Or.inr ⟨by decide, jn_o185, jn_d185⟩, fun h => absurd h (by decide)⟩, List.forall_mem_cons.mpr ⟨⟨Or.inl (jn_m6 29 rfl), Or.inr ⟨by decide, jn_o145, jn_d145⟩, fun h => absurd h (by decide)⟩, List.forall_mem_cons.mpr ⟨⟨Or.inl (jn_m6 34 rfl), Or.inr ⟨by decide, jn_o187, jn_d187⟩, fun h => absurd h (by decide)⟩, List.forall_mem_cons.mpr ⟨⟨Or.inl (jn_m6 41 rfl), Or.inr ⟨by decide, jn_o189, jn_d189⟩, fun h => absurd h (by decide)⟩, List.forall_mem_cons.mpr ⟨⟨Or.inl (jn_m6 60 rfl), Or.inr ⟨by decide, jn_o170, jn_d170⟩, fun h => absurd h (by decide)⟩, List.forall_mem_cons.mpr ⟨⟨Or.inl (jn_m6 53 rfl), Or.inr ⟨by decide, jn_o133, jn_d133⟩, fun h => absurd h (by decide)⟩, List.forall_mem_cons.mpr ⟨⟨Or.inl (jn_m6 56 rfl), Or.inr ⟨by decide, jn_o192, jn_d192⟩, fun h => absurd h (by decide)⟩, List.forall_mem_cons.mpr ⟨⟨Or.inl (jn_m6 72 rfl), Or.inr ⟨by decide, jn_o195, jn_d195⟩, fun h => absurd h (by decide)⟩, List.forall_mem_cons.mpr ⟨⟨Or.inl (jn_m6 15 rfl), Or.inr ⟨by decide, jn_o201, jn_d201⟩, fun h => absurd h (by decide)⟩, List.forall_mem_cons.mpr ⟨⟨Or.inl (jn_m6 22 rfl), Or.inr ⟨by decide, jn_o203, jn_d203⟩, fun h => absurd h (by decide)⟩, List.forall_mem_cons.mpr ⟨⟨Or.inl (jn_m6 97 rfl), Or.inr ⟨by decide, jn_o205, jn_d205⟩, fun h => absurd h (by decide)⟩, List.forall_mem_cons.mpr ⟨⟨Or.inl (jn_m6 125 rfl), Or.inr ⟨by decide, jn_o209, jn_d209⟩, fun h => absurd h (by decide)⟩, List.forall_mem_cons.mpr ⟨⟨Or.inl (jn_m6 121 rfl), Or.inr ⟨by decide, jn_o211, jn_d211⟩, fun h => absurd h (by decide)⟩, List.forall_mem_cons.mpr ⟨⟨Or.inl (jn_m6 129 rfl), Or.inr ⟨by decide, jn_o210, jn_d210⟩, fun h => absurd h (by decide)⟩, List.forall_mem_cons.mpr ⟨⟨Or.inl (jn_m6 117 rfl), Or.inr ⟨by decide, jn_o212, jn_d212⟩, fun h => absurd h (by decide)⟩, List.forall_mem_cons.mpr ⟨⟨Or.inl (jn_m6 138 rfl), Or.inr ⟨by decide, jn_o214, jn_d214⟩, fun h => absurd h (by decide)⟩, List.forall_mem_cons.mpr ⟨⟨Or.inl (jn_m6 143 rfl), Or.inr ⟨by decide, jn_o215, jn_d215⟩, fun h => absurd h (by decide)⟩, fun _ h => absurd h List.not_mem_nil⟩⟩⟩⟩⟩⟩⟩⟩⟩⟩⟩⟩⟩⟩⟩⟩⟩⟩⟩⟩⟩⟩⟩⟩⟩⟩⟩⟩⟩⟩⟩⟩⟩⟩⟩⟩⟩⟩⟩⟩⟩⟩⟩⟩⟩⟩⟩⟩⟩⟩⟩⟩⟩⟩⟩⟩⟩⟩⟩⟩⟩
theorem jn_pL9 : ∀ e ∈ jm_ML.getD 9 [], jn_okL 9 e := by
  show ∀ e ∈ (_ : List _), _
  exact List.forall_mem_cons.mpr ⟨⟨Or.inl (jn_m2 11 rfl), Or.inr ⟨by decide, jn_o93, jn_d93⟩, fun h => absurd h (by decide)⟩, List.forall_mem_cons.mpr ⟨⟨Or.inl (jn_m5 41 rfl), Or.inr ⟨by decide, jn_o134, jn_d134⟩, fun h => absurd h (by decide)⟩, List.forall_mem_cons.mpr ⟨⟨Or.inl (jn_m2 19 rfl), Or.inr ⟨by decide, jn_o94, jn_d94⟩, fun h => absurd h (by decide)⟩, List.forall_mem_cons.mpr ⟨⟨Or.inl (jn_m5 49 rfl), Or.inr ⟨by decide, jn_o135, jn_d135⟩, fun h => absurd h (by decide)⟩, List.forall_mem_cons.mpr ⟨⟨Or.inl (jn_m2 23 rfl), Or.inr ⟨by decide, jn_o95, jn_d95⟩, fun h => absurd h (by decide)⟩, List.forall_mem_cons.mpr ⟨⟨Or.inl (jn_m5 53 rfl), Or.inr ⟨by decide, jn_o140, jn_d140⟩, fun h => absurd h (by decide)⟩, List.forall_mem_cons.mpr ⟨⟨Or.inl (jn_m2 126 rfl), Or.inr ⟨by decide, jn_o96, jn_d96⟩, fun h => absurd h (by decide)⟩, List.forall_mem_cons.mpr ⟨⟨Or.inl (jn_m5 72 rfl), Or.inr ⟨by decide, jn_o141, jn_d141⟩, fun h => absurd h (by decide)⟩, List.forall_mem_cons.mpr ⟨⟨Or.inl (jn_m3 16 rfl), Or.inr ⟨by decide, jn_o97, jn_d97⟩, fun h => absurd h (by decide)⟩, List.forall_mem_cons.mpr ⟨⟨Or.inl (jn_m5 239 rfl), Or.inr ⟨by decide, jn_o186, jn_d186⟩, fun h => absurd h (by decide)⟩, List.forall_mem_cons.mpr ⟨⟨Or.inl (jn_m3 45 rfl), Or.inr ⟨by decide, jn_o98, jn_d98⟩, fun h => absurd h (by decide)⟩, List.forall_mem_cons.mpr ⟨⟨Or.inl (jn_m6 25 rfl), Or.inr ⟨by decide, jn_o188, jn_d188⟩, fun h => absurd h (by decide)⟩, List.forall_mem_cons.mpr ⟨⟨Or.inl (jn_m3 55 rfl), Or.inr ⟨by decide, jn_o99, jn_d99⟩, fun h => absurd h (by decide)⟩, List.forall_mem_cons.mpr ⟨⟨Or.inl (jn_m5 84 rfl), Or.inr ⟨by decide, jn_o176, jn_d176⟩, fun h => absurd h (by decide)⟩, List.forall_mem_cons.mpr ⟨⟨Or.inl (jn_m3 212 rfl), Or.inr ⟨by decide, jn_o100, jn_d100⟩, fun h => absurd h (by decide)⟩, List.forall_mem_cons.mpr ⟨⟨Or.inl (jn_m5 203 rfl), Or.inr ⟨by decide, jn_o179, jn_d179⟩, fun h => absurd h (by decide)⟩, List.forall_mem_cons.mpr ⟨⟨Or.inl (jn_m4 1 rfl), Or.inr ⟨by decide, jn_o101, jn_d101⟩, fun h => absurd h (by decide)⟩, List.forall_mem_cons.mpr ⟨⟨Or.inl (jn_m5 219 rfl), Or.inr ⟨by decide, jn_o181, jn_d181⟩, fun h => absurd h (by decide)⟩, List.forall_mem_cons.mpr ⟨⟨Or.inl (jn_m4 11 rfl), Or.inr ⟨by decide, jn_o102, jn_d102⟩, fun h => absurd h (by decide)⟩, List.forall_mem_cons.mpr ⟨⟨Or.inl (jn_m5 227 rfl), Or.inr ⟨by decide, jn_o182, jn_d182⟩, fun h => absurd h (by decide)⟩, List.forall_mem_cons.mpr ⟨⟨Or.inl (jn_m4 17 rfl), Or.inr ⟨by decide, jn_o103, jn_d103⟩, fun h => absurd h (by decide)⟩, List.forall_mem_cons.mpr ⟨⟨Or.inl (jn_m5 231 rfl), Or.inr ⟨by decide, jn_o184, jn_d184⟩, fun h => absurd h (by decide)⟩, List.forall_mem_cons.mpr ⟨⟨Or.inl (jn_m4 22 rfl), Or.inr ⟨by decide, jn_o104, jn_d104⟩, fun h => absurd h (by decide)⟩, List.forall_mem_cons.mpr ⟨⟨Or.inl (jn_m6 37 rfl), Or.inr ⟨by decide, jn_o190, jn_d190⟩, fun h => absurd h (by decide)⟩, List.forall_mem_cons.mpr ⟨⟨Or.inl (jn_m4 27 rfl), Or.inr ⟨by decide, jn_o105, jn_d105⟩, fun h => absurd h (by decide)⟩, List.forall_mem_cons.mpr ⟨⟨Or.inl (jn_m6 45 rfl), Or.inr ⟨by decide, jn_o191, jn_d191⟩, fun h => absurd h (by decide)⟩, List.forall_mem_cons.mpr ⟨⟨Or.inl (jn_m4 31 rfl), Or.inr ⟨by decide, jn_o106, jn_d106⟩, fun h => absurd h (by decide)⟩, List.forall_mem_cons.mpr ⟨⟨Or.inl (jn_m6 49 rfl), Or.inr ⟨by decide, jn_o193, jn_d193⟩, fun h => absurd h (by decide)⟩, List.forall_mem_cons.mpr ⟨⟨Or.inl (jn_m4 45 rfl), Or.inr ⟨by decide, jn_o107, jn_d107⟩, fun h => absurd h (by decide)⟩, List.forall_mem_cons.mpr ⟨⟨Or.inl (jn_m6 64 rfl), Or.inr ⟨by decide, jn_o194, jn_d194⟩, fun h => absurd h (by decide)⟩, List.forall_mem_cons.mpr ⟨⟨Or.inl (jn_m4 53 rfl), Or.inr ⟨by decide, jn_o108, jn_d108⟩, fun h => absurd h (by decide)⟩, List.forall_mem_cons.mpr ⟨⟨Or.inl (jn_m6 68 rfl), Or.inr ⟨by decide, jn_o196, jn_d196⟩, fun h => absurd h (by decide)⟩, List.forall_mem_cons.mpr ⟨⟨Or.inl (jn_m4 67 rfl), Or.inr ⟨by decide, jn_o109, jn_d109⟩, fun h => absurd h (by decide)⟩, List.forall_mem_cons.mpr ⟨⟨Or.inl (jn_m6 76 rfl), Or.inr ⟨by decide, jn_o197, jn_d197⟩, fun h => absurd h (by decide)⟩, List.forall_mem_cons.mpr ⟨⟨Or.inl (jn_m4 75 rfl), Or.inr ⟨by decide, jn_o110, jn_d110⟩, fun h => absurd h (by decide)⟩, List.forall_mem_cons.mpr ⟨⟨Or.inl (jn_m6 80 rfl), Or.inr ⟨by decide, jn_o198, jn_d198⟩, fun h => absurd h (by decide)⟩, List.forall_mem_cons.mpr ⟨⟨Or.inl (jn_m4 90 rfl), Or.inr ⟨by decide, jn_o111, jn_d111⟩, fun h => absurd h (by decide)⟩, List.forall_mem_cons.mpr ⟨⟨Or.inl (jn_m6 84 rfl), Or.inr ⟨by decide, jn_o199, jn_d199⟩, fun h => absurd h (by decide)⟩, List.forall_mem_cons.mpr ⟨⟨Or.inl (jn_m4 98 rfl), Or.inr ⟨by decide, jn_o112, jn_d112⟩, fun h => absurd h (by decide)⟩, List.forall_mem_cons.mpr ⟨⟨Or.inl (jn_m6 89 rfl), Or.inr ⟨by decide, jn_o200, jn_d200⟩, fun h => absurd h (by decide)⟩, List.forall_mem_cons.mpr ⟨⟨Or.inl (jn_m4 102 rfl), Or.inr ⟨by decide, jn_o113, jn_d113⟩, fun h => absurd h (by decide)⟩, List.forall_mem_cons.mpr ⟨⟨Or.inl (jn_m6 93 rfl), Or.inr ⟨by decide, jn_o206, jn_d206⟩, fun h => absurd h (by decide)⟩, List.forall_mem_cons.mpr ⟨⟨Or.inl (jn_m4 114 rfl), Or.inr ⟨by decide, jn_o114, jn_d114⟩, fun h => absurd h (by decide)⟩, List.forall_mem_cons.mpr ⟨⟨Or.inl (jn_m6 105 rfl), Or.inr ⟨by decide, jn_o207, jn_d207⟩, fun h => absurd h (by decide)⟩, List.forall_mem_cons.mpr ⟨⟨Or.inl (jn_m4 122 rfl), Or.inr ⟨by decide, jn_o115, jn_d115⟩, fun h => absurd h (by decide)⟩, List.forall_mem_cons.mpr ⟨⟨Or.inl (jn_m6 109 rfl), Or.inr ⟨by decide, jn_o208, jn_d208⟩, fun h => absurd h (by decide)⟩, List.forall_mem_cons.mpr ⟨⟨Or.inl (jn_m4 126 rfl), Or.inr ⟨by decide, jn_o116, jn_d116⟩, fun h => absurd h (by decide)⟩, List.forall_mem_cons.mpr ⟨⟨Or.inl (jn_m6 113 rfl), Or.inr ⟨by decide, jn_o213, jn_d213⟩, fun h => absurd h (by decide)⟩, List.forall_mem_cons.mpr ⟨⟨Or.inl (jn_m4 143 rfl), Or.inr ⟨by decide, jn_o117, jn_d117⟩, fun h => absurd h (by decide)⟩, List.forall_mem_cons.mpr ⟨⟨Or.inl (jn_m6 133 rfl), Or.inr ⟨by decide, jn_o216, jn_d216⟩, fun h => absurd h (by decide)⟩, fun _ h => absurd h List.not_mem_nil⟩⟩⟩⟩⟩⟩⟩⟩⟩⟩⟩⟩⟩⟩⟩⟩⟩⟩⟩⟩⟩⟩⟩⟩⟩⟩⟩⟩⟩⟩⟩⟩⟩⟩⟩⟩⟩⟩⟩⟩⟩⟩⟩⟩⟩⟩⟩⟩⟩⟩
theorem jn_pL10 : ∀ e ∈ jm_ML.getD 10 [], jn_okL 10 e := by
  show ∀ e ∈ (_ : List _), _
  exact List.forall_mem_cons.mpr ⟨⟨Or.inl (jn_m2 57 rfl), Or.inr ⟨by decide, jn_o5, jn_d5⟩, fun h => absurd h (by decide)⟩, List.forall_mem_cons.mpr ⟨⟨Or.inl (jn_m2 47 rfl), Or.inr ⟨by decide, jn_o6, jn_d6⟩, fun h => absurd h (by decide)⟩, List.forall_mem_cons.mpr ⟨⟨Or.inl (jn_m2 53 rfl), Or.inr ⟨by decide, jn_o4, jn_d4⟩, fun h => absurd h (by decide)⟩, List.forall_mem_cons.mpr ⟨⟨Or.inl (jn_m2 43 rfl), Or.inr ⟨by decide, jn_o10, jn_d10⟩, fun h => absurd h (by decide)⟩, List.forall_mem_cons.mpr ⟨⟨Or.inl (jn_m2 61 rfl), Or.inr ⟨by decide, jn_o9, jn_d9⟩, fun h => absurd h (by decide)⟩, fun _ h => absurd h List.not_mem_nil⟩⟩⟩⟩⟩
theorem jn_pL11 : ∀ e ∈ jm_ML.getD 11 [], jn_okL 11 e := by
  show ∀ e ∈ (_ : List _), _
  exact List.forall_mem_cons.mpr ⟨⟨Or.inl (jn_m2 70 rfl), Or.inl (by decide), fun _ => (jn_m2 70 rfl)⟩, List.forall_mem_cons.mpr ⟨⟨Or.inl (jn_m2 64 rfl), Or.inr ⟨by decide, jn_o7, jn_d7⟩, fun h => absurd h (by decide)⟩, List.forall_mem_cons.mpr ⟨⟨Or.inl (jn_m2 67 rfl), Or.inl (by decide), fun _ => (jn_m2 67 rfl)⟩, List.forall_mem_cons.mpr ⟨⟨Or.inl (jn_m2 73 rfl), Or.inr ⟨by decide, jn_o8, jn_d8⟩, fun h => absurd h (by decide)⟩, fun _ h => absurd h List.not_mem_nil⟩⟩⟩⟩
theorem jn_pL12 : ∀ e ∈ jm_ML.getD 12 [], jn_okL 12 e := fun _ h => absurd h List.not_mem_nil
theorem jn_pL13 : ∀ e ∈ jm_ML.getD 13 [], jn_okL 13 e := fun _ h => absurd h List.not_mem_nil
theorem jn_pL (c : Nat) : ∀ e ∈ jm_ML.getD c [], jn_okL c e := by
  match c with
  | 0 => exact jn_pL0
  | 1 => exact jn_pL1
  | 2 => exact jn_pL2
  | 3 => exact jn_pL3
  | 4 => exact jn_pL4
  | 5 => exact jn_pL5
  | 6 => exact jn_pL6
  | 7 => exact jn_pL7
  | 8 => exact jn_pL8
  | 9 => exact jn_pL9
  | 10 => exact jn_pL10
  | 11 => exact jn_pL11
  | 12 => exact jn_pL12
  | 13 => exact jn_pL13
  | c + 14 => exact fun _ h => absurd h List.not_mem_nil
theorem jn_pC0 : ∀ e ∈ jm_CS.getD 0 [], jn_okC 0 e := by
  show ∀ e ∈ (_ : List _), _
  exact List.forall_mem_cons.mpr ⟨(jn_m3 152 (by decide +kernel)), fun _ h => absurd h List.not_mem_nil⟩
theorem jn_pC1 : ∀ e ∈ jm_CS.getD 1 [], jn_okC 1 e := fun _ h => absurd h List.not_mem_nil
theorem jn_pC2 : ∀ e ∈ jm_CS.getD 2 [], jn_okC 2 e := by
  show ∀ e ∈ (_ : List _), _
  exact List.forall_mem_cons.mpr ⟨(jn_m3 131 (by decide +kernel)), fun _ h => absurd h List.not_mem_nil⟩
theorem jn_pC3 : ∀ e ∈ jm_CS.getD 3 [], jn_okC 3 e := fun _ h => absurd h List.not_mem_nil
theorem jn_pC4 : ∀ e ∈ jm_CS.getD 4 [], jn_okC 4 e := by
  show ∀ e ∈ (_ : List _), _
  exact List.forall_mem_cons.mpr ⟨⟨rfl, rfl, rfl⟩, fun _ h => absurd h List.not_mem_nil⟩
theorem jn_pC5 : ∀ e ∈ jm_CS.getD 5 [], jn_okC 5 e := fun _ h => absurd h List.not_mem_nil
theorem jn_pC6 : ∀ e ∈ jm_CS.getD 6 [], jn_okC 6 e := fun _ h => absurd h List.not_mem_nil
theorem jn_pC7 : ∀ e ∈ jm_CS.getD 7 [], jn_okC 7 e := by
  show ∀ e ∈ (_ : List _), _
  exact List.forall_mem_cons.mpr ⟨(jn_m4 147 (by decide +kernel)), List.forall_mem_cons.mpr ⟨(jn_m4 148 (by decide +kernel)), List.forall_mem_cons.mpr ⟨(jn_m4 110 (by decide +kernel)), List.forall_mem_cons.mpr ⟨(jn_m4 111 (by decide +kernel)), List.forall_mem_cons.mpr ⟨(jn_m4 112 (by decide +kernel)), List.forall_mem_cons.mpr ⟨(jn_m4 113 (by decide +kernel)), List.forall_mem_cons.mpr ⟨(jn_m3 189 (by decide +kernel)), fun _ h => absurd h List.not_mem_nil⟩⟩⟩⟩⟩⟩⟩
theorem jn_pC8 : ∀ e ∈ jm_CS.getD 8 [], jn_okC 8 e := by
  show ∀ e ∈ (_ : List _), _
  exact List.forall_mem_cons.mpr ⟨(jn_m5 45 (by decide +kernel)), List.forall_mem_cons.mpr ⟨(jn_m5 156 (by decide +kernel)), List.forall_mem_cons.mpr ⟨(jn_m5 157 (by decide +kernel)), List.forall_mem_cons.mpr ⟨(jn_m5 161 (by decide +kernel)), List.forall_mem_cons.mpr ⟨(jn_m5 162 (by decide +kernel)), List.forall_mem_cons.mpr ⟨(jn_m5 163 (by decide +kernel)), List.forall_mem_cons.mpr ⟨(jn_m5 179 (by decide +kernel)), List.forall_mem_cons.mpr ⟨(jn_m6 33 (by decide +kernel)), List.forall_mem_cons.mpr ⟨(jn_m6 88 (by decide +kernel)), List.forall_mem_cons.mpr ⟨(jn_m6 101 (by decide +kernel)), List.forall_mem_cons.mpr ⟨(jn_m6 102 (by decide +kernel)), List.forall_mem_cons.mpr ⟨(jn_m6 103 (by decide +kernel)), List.forall_mem_cons.mpr ⟨(jn_m6 104 (by decide +kernel)), List.forall_mem_cons.mpr ⟨(jn_m6 142 (by decide +kernel)), List.forall_mem_cons.mpr ⟨(jn_m6 137 (by decide +kernel)), fun _ h => absurd h List.not_mem_nil⟩⟩⟩⟩⟩⟩⟩⟩⟩⟩⟩⟩⟩⟩⟩
theorem jn_pC9 : ∀ e ∈ jm_CS.getD 9 [], jn_okC 9 e := fun _ h => absurd h List.not_mem_nil
theorem jn_pC10 : ∀ e ∈ jm_CS.getD 10 [], jn_okC 10 e := fun _ h => absurd h List.not_mem_nil
theorem jn_pC11 : ∀ e ∈ jm_CS.getD 11 [], jn_okC 11 e := fun _ h => absurd h List.not_mem_nil
theorem jn_pC12 : ∀ e ∈ jm_CS.getD 12 [], jn_okC 12 e := fun _ h => absurd h List.not_mem_nil
theorem jn_pC13 : ∀ e ∈ jm_CS.getD 13 [], jn_okC 13 e := by
  show ∀ e ∈ (_ : List _), _
  exact List.forall_mem_cons.mpr ⟨(jn_m3 41 (by decide +kernel)), List.forall_mem_cons.mpr ⟨(jn_m3 42 (by decide +kernel)), List.forall_mem_cons.mpr ⟨(jn_m3 43 (by decide +kernel)), fun _ h => absurd h List.not_mem_nil⟩⟩⟩
theorem jn_pC (c : Nat) : ∀ e ∈ jm_CS.getD c [], jn_okC c e := by
  match c with
  | 0 => exact jn_pC0
  | 1 => exact jn_pC1
  | 2 => exact jn_pC2
  | 3 => exact jn_pC3
  | 4 => exact jn_pC4
  | 5 => exact jn_pC5
  | 6 => exact jn_pC6
  | 7 => exact jn_pC7
  | 8 => exact jn_pC8
  | 9 => exact jn_pC9
  | 10 => exact jn_pC10
  | 11 => exact jn_pC11
  | 12 => exact jn_pC12
  | 13 => exact jn_pC13
  | c + 14 => exact fun _ h => absurd h List.not_mem_nil
theorem jn_pS0 : ∀ e ∈ jm_ST.getD 0 [], jn_okS 0 e := fun _ h => absurd h List.not_mem_nil
theorem jn_pS1 : ∀ e ∈ jm_ST.getD 1 [], jn_okS 1 e := fun _ h => absurd h List.not_mem_nil
theorem jn_pS2 : ∀ e ∈ jm_ST.getD 2 [], jn_okS 2 e := fun _ h => absurd h List.not_mem_nil
theorem jn_pS3 : ∀ e ∈ jm_ST.getD 3 [], jn_okS 3 e := by
  show ∀ e ∈ (_ : List _), _
  exact List.forall_mem_cons.mpr ⟨⟨_, _, _, (jn_m2 191 rfl), List.mem_of_getElem? (i := 2) rfl⟩, List.forall_mem_cons.mpr ⟨⟨_, _, _, (jn_m2 204 rfl), List.mem_of_getElem? (i := 0) rfl⟩, List.forall_mem_cons.mpr ⟨⟨_, _, _, (jn_m2 206 rfl), List.mem_of_getElem? (i := 1) rfl⟩, fun _ h => absurd h List.not_mem_nil⟩⟩⟩
theorem jn_pS4 : ∀ e ∈ jm_ST.getD 4 [], jn_okS 4 e := fun _ h => absurd h List.not_mem_nil
theorem jn_pS5 : ∀ e ∈ jm_ST.getD 5 [], jn_okS 5 e := fun _ h => absurd h List.not_mem_nil
theorem jn_pS6 : ∀ e ∈ jm_ST.getD 6 [], jn_okS 6 e := by
  show ∀ e ∈ (_ : List _), _
  exact List.forall_mem_cons.mpr ⟨⟨_, _, _, (jn_m3 33 rfl), List.mem_of_getElem? (i := 3) rfl⟩, fun _ h => absurd h List.not_mem_nil⟩
theorem jn_pS7 : ∀ e ∈ jm_ST.getD 7 [], jn_okS 7 e := fun _ h => absurd h List.not_mem_nil
theorem jn_pS8 : ∀ e ∈ jm_ST.getD 8 [], jn_okS 8 e := fun _ h => absurd h List.not_mem_nil
theorem jn_pS9 : ∀ e ∈ jm_ST.getD 9 [], jn_okS 9 e := fun _ h => absurd h List.not_mem_nil
theorem jn_pS10 : ∀ e ∈ jm_ST.getD 10 [], jn_okS 10 e := by
  show ∀ e ∈ (_ : List _), _
  exact List.forall_mem_cons.mpr ⟨⟨_, _, _, (jn_m2 51 rfl), List.mem_of_getElem? (i := 4) rfl⟩, fun _ h => absurd h List.not_mem_nil⟩
theorem jn_pS11 : ∀ e ∈ jm_ST.getD 11 [], jn_okS 11 e := fun _ h => absurd h List.not_mem_nil
theorem jn_pS12 : ∀ e ∈ jm_ST.getD 12 [], jn_okS 12 e := fun _ h => absurd h List.not_mem_nil
theorem jn_pS13 : ∀ e ∈ jm_ST.getD 13 [], jn_okS 13 e := fun _ h => absurd h List.not_mem_nil
theorem jn_pS (c : Nat) : ∀ e ∈ jm_ST.getD c [], jn_okS c e := by
  match c with
  | 0 => exact jn_pS0
  | 1 => exact jn_pS1
  | 2 => exact jn_pS2
  | 3 => exact jn_pS3
  | 4 => exact jn_pS4
  | 5 => exact jn_pS5
  | 6 => exact jn_pS6
  | 7 => exact jn_pS7
  | 8 => exact jn_pS8
  | 9 => exact jn_pS9
  | 10 => exact jn_pS10
  | 11 => exact jn_pS11
  | 12 => exact jn_pS12
  | 13 => exact jn_pS13
  | c + 14 => exact fun _ h => absurd h List.not_mem_nil
theorem jn_pf_mem {α : Type} {L : List (List (Nat × α))} {c i : Nat} {v : α} (h : jm_pf L c i = some v) : (i, v) ∈ L.getD c [] := by
  unfold jm_pf at h
  cases hf : (L.getD c []).find? (fun e => Nat.beq e.1 i) with
  | none => rw [hf] at h; cases h
  | some e =>
    rw [hf] at h
    have h1 := List.find?_some hf
    have h2 := List.mem_of_find?_eq_some hf
    have h3 : e.1 = i := Nat.eq_of_beq_eq_true h1
    cases h
    rw [← h3]
    exact h2
theorem jn_fe {x pc : Nat} {i : Instr} {nx tg : Nat} (hD : jn_okD x) (h : jm_fe x pc = some (i, nx, tg)) : decode (jn_y x).2.1 pc = .ok (i, nx - pc) ∧ pc < nx ∧ (jn_len i = 0 ∨ pc + jn_len i = nx) ∧ jn_tgt i pc tg = true := by
  unfold jm_fe jm_fl at h
  cases hf : ((jm_TB x).getD (pc / 32) []).find? (fun e => Nat.beq e.1 pc) with
  | none => rw [hf] at h; cases h
  | some e =>
    rw [hf] at h
    have h1 := List.find?_some hf
    have h2 := List.mem_of_find?_eq_some hf
    have h3 : e.1 = pc := Nat.eq_of_beq_eq_true h1
    have h4 : (jm_TB x).getD (pc / 32) [] ∈ jm_TB x ∨ (jm_TB x).getD (pc / 32) [] = [] := by
      rw [List.getD_eq_getElem?_getD]
      cases hq : (jm_TB x)[pc / 32]? with
      | none => exact Or.inr rfl
      | some q => exact Or.inl (List.mem_of_getElem? hq)
    rcases h4 with h4 | h4
    · have h5 := List.all_eq_true.mp (List.all_eq_true.mp hD _ h4) e h2
      obtain ⟨p1, i1, n1, t1⟩ := e
      cases h
      dsimp only at h3
      subst h3
      simp only [jn_chk, Bool.and_eq_true, Bool.or_eq_true, decide_eq_true_eq, Nat.blt_eq, Nat.beq_eq_true_eq] at h5
      exact ⟨h5.1.1.1, h5.1.1.2, h5.1.2.imp Nat.eq_of_beq_eq_true Nat.eq_of_beq_eq_true, h5.2⟩
    · rw [h4] at h2; cases h2
end
section
/-! the real machine's world that a heap of places stands for -/
def js_v (ad : Nat → Nat) (v : jm_V) : Value :=
  match v with
  | .inl z => .int (Int32.ofInt z)
  | .inr (.inl z) => .long (Int64.ofInt z)
  | .inr (.inr (.inl b)) => .float (UInt32.ofNat b)
  | .inr (.inr (.inr (.inl k))) => .ref (ad k)
  | .inr (.inr (.inr (.inr _))) => .null
def js_fv (ad : Nat → Nat) (hp : jm_H) (k j : Nat) (t : Nat ⊕ Nat) : Value :=
  match t with
  | .inr q => .ref (ad q)
  | .inl t => if t = 1 then .long (Int64.ofInt (hp k j)) else .int (Int32.ofInt (hp k j))
def js_fs (ad : Nat → Nat) (hp : jm_H) (k : Nat) (fs : List (Nat ⊕ Nat)) : List Value := (List.range fs.length).map (fun j => js_fv ad hp k j (fs.getD j (.inl 0)))
abbrev js_AT : Type := (Nat → Int32) ⊕ (Nat → Int64) ⊕ (Nat → UInt32) ⊕ (Nat → UInt64) ⊕ (Nat → Option Nat)
def js_ar (hp : jm_H) (k t : Nat) : js_AT :=
  if t = 1 then .inr (.inl (fun j => Int64.ofInt (hp k j))) else if t = 2 then .inr (.inr (.inl (fun j => UInt32.ofNat (hp k j).toNat))) else .inl (fun j => Int32.ofInt (hp k j))
def js_ce (cy : Nat → ClassId) (ad : Nat → Nat) (hp : jm_H) (k : Nat) : va_E :=
  match jm_sh k with
  | .inl (c, fs) => .inr (c, js_fs ad hp k fs)
  | .inr (t, n) => .inl (cy t, n.toNat, js_ar hp k t)
def js_ws (cy : Nat → ClassId) (ad : Nat → Nat) (hp : jm_H) : va_W := (List.range 78).map (fun k => (ad k, js_ce cy ad hp k))
abbrev js_ty (cy : Nat → ClassId) : List (ClassId × FieldType) := [(cy 0, .int), (cy 1, .long), (cy 2, .float), (cy 3, .boolean)]
def js_A (ad : Nat → Nat) : Nat → Prop := fun q => ∃ k, k < 78 ∧ q = ad k
def js_inj (ad : Nat → Nat) : Prop := ∀ i j, i < 78 → j < 78 → ad i = ad j → i = j
theorem js_ws_at {cy : Nat → ClassId} {ad : Nat → Nat} {hp : jm_H} {k : Nat} (h : k < 78) : (js_ws cy ad hp)[k]? = some (ad k, js_ce cy ad hp k) := by
  unfold js_ws
  rw [List.getElem?_map, List.getElem?_range h]
  rfl
theorem js_ws_len {cy : Nat → ClassId} {ad : Nat → Nat} {hp : jm_H} : (js_ws cy ad hp).length = 78 := by simp [js_ws]
theorem js_ws_inv {cy : Nat → ClassId} {ad : Nat → Nat} {hp : jm_H} {k : Nat} {q : Nat × va_E} (h : (js_ws cy ad hp)[k]? = some q) : k < 78 ∧ q = (ad k, js_ce cy ad hp k) := by
  have h1 : k < 78 := by
    have := (List.getElem?_eq_some_iff.mp h).1
    rwa [js_ws_len] at this
  rw [js_ws_at h1] at h
  exact ⟨h1, (Option.some.inj h).symm⟩
theorem js_D {cy : Nat → ClassId} {ad : Nat → Nat} {hp : jm_H} (hi : js_inj ad) : va_D (js_A ad) (js_ws cy ad hp) := by
  refine ⟨fun i j p q h1 h2 e => ?_, fun k q h => ?_⟩
  · obtain ⟨a1, rfl⟩ := js_ws_inv h1
    obtain ⟨a2, rfl⟩ := js_ws_inv h2
    exact hi i j a1 a2 e
  · obtain ⟨a1, rfl⟩ := js_ws_inv h
    exact ⟨k, a1, rfl⟩
theorem js_hs_ne {hp : jm_H} {k a : Nat} {j v : Int} (h : a ≠ k) : jm_hs hp k j v a = hp a := by
  unfold jm_hs
  have : Nat.beq a k = false := by
    cases hb : Nat.beq a k with
    | false => rfl
    | true => exact absurd (Nat.eq_of_beq_eq_true hb) h
  rw [this]; rfl
theorem js_hs_eq {hp : jm_H} {k : Nat} {j v b : Int} : jm_hs hp k j v k b = if b = j then v else hp k b := by
  unfold jm_hs
  have : Nat.beq k k = true := Nat.beq_refl k
  rw [this]
  by_cases h : b = j <;> simp [h]
theorem js_ws_set {cy : Nat → ClassId} {ad : Nat → Nat} {hp : jm_H} {k : Nat} {j v : Int} {x : va_E} (h : x = js_ce cy ad (jm_hs hp k j v) k) : (js_ws cy ad hp).set k (ad k, x) = js_ws cy ad (jm_hs hp k j v) := by
  apply List.ext_getElem?
  intro i
  by_cases hi : i < 78
  · by_cases hk : i = k
    · subst hk
      rw [List.getElem?_set_self (by rw [js_ws_len]; exact hi), js_ws_at hi, h]
    · rw [List.getElem?_set_ne (fun e => hk e.symm), js_ws_at hi, js_ws_at hi]
      unfold js_ce js_fs js_fv js_ar
      rw [js_hs_ne hk]
  · rw [List.getElem?_eq_none (by rw [List.length_set, js_ws_len]; omega), List.getElem?_eq_none (by rw [js_ws_len]; omega)]
/-- small places are those of the world -/
theorem js_lt_o {k c : Nat} {fs : List (Nat ⊕ Nat)} (h : jm_sh k = .inl (c, fs)) : k < 78 ∨ k = 83 := by
  by_cases hk : k < 78
  · exact Or.inl hk
  · by_cases h2 : k < 85
    · have : k = 78 ∨ k = 79 ∨ k = 80 ∨ k = 81 ∨ k = 82 ∨ k = 83 ∨ k = 84 := by omega
      rcases this with rfl | rfl | rfl | rfl | rfl | rfl | rfl <;> first | exact Or.inr rfl | cases h
    · have : jm_sh k = .inr (99, 0) := by
        unfold jm_sh
        rw [List.getD_eq_getElem?_getD, List.getElem?_eq_none (by show 85 ≤ k; omega)]
        rfl
      rw [this] at h; cases h
theorem js_lt_a {k t : Nat} {n : Int} (h : jm_sh k = .inr (t, n)) (ht : t < 10) : k < 78 := by
  by_cases hk : k < 78
  · exact hk
  · by_cases h2 : k < 85
    · have : k = 78 ∨ k = 79 ∨ k = 80 ∨ k = 81 ∨ k = 82 ∨ k = 83 ∨ k = 84 := by omega
      rcases this with rfl | rfl | rfl | rfl | rfl | rfl | rfl <;> first | (cases h; done) | (cases h; omega)
    · have : jm_sh k = .inr (99, 0) := by
        unfold jm_sh
        rw [List.getD_eq_getElem?_getD, List.getElem?_eq_none (by show 85 ≤ k; omega)]
        rfl
      rw [this] at h; cases h; omega
/-- the static arrays: places, lengths, tags -/
theorem js_st_a {k t : Nat} {n : Int} (h : jm_sh k = .inr (t, n)) (ht : 10 ≤ t) (h99 : t < 99) : (t = 10 ∧ n = 4 ∧ (k = 78 ∨ k = 79 ∨ k = 80 ∨ k = 81)) ∨ (t = 11 ∧ k = 82) ∨ (t = 14 ∧ n = 5 ∧ k = 84) := by
  by_cases hk : k < 85
  · have key : ∀ k, k < 85 → ∀ t n, jm_sh k = .inr (t, n) → 10 ≤ t → (t = 10 ∧ n = 4 ∧ (k = 78 ∨ k = 79 ∨ k = 80 ∨ k = 81)) ∨ (t = 11 ∧ k = 82) ∨ (t = 14 ∧ n = 5 ∧ k = 84) := by
      intro k hk t n h ht
      by_cases h7 : k < 78
      · exfalso
        have hall : (List.range 78).all (fun k => match jm_sh k with | .inr (t, _) => Nat.blt t 10 | _ => true) = true := by decide +kernel
        have h1 := List.all_eq_true.mp hall k (List.mem_range.mpr h7)
        rw [h] at h1
        simp only [Nat.blt_eq] at h1
        omega
      · have : k = 78 ∨ k = 79 ∨ k = 80 ∨ k = 81 ∨ k = 82 ∨ k = 83 ∨ k = 84 := by omega
        rcases this with rfl | rfl | rfl | rfl | rfl | rfl | rfl <;> (cases h <;> simp)
    exact key k hk t n h ht
  · have : jm_sh k = .inr (99, 0) := by
      unfold jm_sh
      rw [List.getD_eq_getElem?_getD, List.getElem?_eq_none (by show 85 ≤ k; omega)]
      rfl
    rw [this] at h; cases h; omega
/-! locals -/
def js_lv (ad : Nat → Nat) (A : List jm_V) : List (Nat × Value) := A.zipIdx.filterMap (fun q => match q.1 with
  | .inr (.inr (.inr (.inr _))) => none
  | v => some (q.2, js_v ad v))
def js_set (v : jm_V) : Prop := v ≠ jU
theorem js_lv_mem {ad : Nat → Nat} {A : List jm_V} {j : Nat} {v : jm_V} (h : A[j]? = some v) (hs : v ≠ jU) : (j, js_v ad v) ∈ js_lv ad A := by
  unfold js_lv
  refine List.mem_filterMap.mpr ⟨(v, j), List.mem_zipIdx_iff_getElem?.mpr h, ?_⟩
  rcases v with z | z | z | z | z
  · rfl
  · rfl
  · rfl
  · rfl
  · exact absurd rfl hs
theorem js_lv_inv {ad : Nat → Nat} {A : List jm_V} {q : Nat × Value} (h : q ∈ js_lv ad A) : ∃ v, A[q.1]? = some v ∧ v ≠ jU ∧ q.2 = js_v ad v := by
  unfold js_lv at h
  obtain ⟨⟨v, j⟩, h1, h2⟩ := List.mem_filterMap.mp h
  have h3 := List.mem_zipIdx_iff_getElem?.mp h1
  rcases v with z | z | z | z | z
  · cases h2; exact ⟨_, h3, (fun e => by cases e), rfl⟩
  · cases h2; exact ⟨_, h3, (fun e => by cases e), rfl⟩
  · cases h2; exact ⟨_, h3, (fun e => by cases e), rfl⟩
  · cases h2; exact ⟨_, h3, (fun e => by cases e), rfl⟩
  · cases h2
theorem js_has_of {ad : Nat → Nat} {ls : Array Slot} {nL : Nat} {A : List jm_V} {L : List (Nat × Value)} (h : lv_has ls nL L) (hm : ∀ j v, A[j]? = some v → v ≠ jU → (j, js_v ad v) ∈ L) : lv_has ls nL (js_lv ad A) :=
  ⟨h.1, h.2.1, fun q hq => by
    obtain ⟨v, h1, h2, h3⟩ := js_lv_inv hq
    have := h.2.2 _ (hm _ _ h1 h2)
    rw [h3]; exact this⟩
theorem js_load {ad : Nat → Nat} {ls : Array Slot} {nL : Nat} {A : List jm_V} {k : Nat} {v : jm_V} (h : lv_has ls nL (js_lv ad A)) (hk : A[k]? = some v) (hs : v ≠ jU) : ls[k]? = some (.val (js_v ad v)) := h.2.2 _ (js_lv_mem hk hs)
theorem js_cl_get {A : List jm_V} {k j : Nat} {v : jm_V} (hj : j ≠ k) (h : (jm_cl A k)[j]? = some v) (hs : v ≠ jU) : A[j]? = some v ∧ ¬ (j + 1 = k ∧ jm_cat v = 2) := by
  unfold jm_cl at h
  cases k with
  | zero => exact ⟨h, fun e => by omega⟩
  | succ k =>
    dsimp only at h
    cases hA : A[k]? with
    | none => rw [hA] at h; dsimp only at h; exact ⟨h, fun e => by obtain ⟨e1, -⟩ := e; rw [show j = k by omega, hA] at h; cases h⟩
    | some w =>
      rw [hA] at h
      by_cases hjk : j = k
      · subst hjk
        rcases w with z | z | z | z | z
        · dsimp only at h; rw [hA] at h; cases h; exact ⟨hA, fun e => by cases e.2⟩
        · dsimp only at h
          rw [List.getElem?_set_self (List.getElem?_eq_some_iff.mp hA).1] at h
          exact absurd (Option.some.inj h).symm hs
        · dsimp only at h; rw [hA] at h; cases h; exact ⟨hA, fun e => by cases e.2⟩
        · dsimp only at h; rw [hA] at h; cases h; exact ⟨hA, fun e => by cases e.2⟩
        · dsimp only at h; rw [hA] at h; cases h; exact ⟨hA, fun e => by cases e.2⟩
      · refine ⟨?_, fun e => hjk (by omega)⟩
        rcases w with z | z | z | z | z
        · exact h
        · dsimp only at h; rw [List.getElem?_set_ne (fun e => hjk e.symm)] at h; exact h
        · exact h
        · exact h
        · exact h
theorem js_cl_len {A : List jm_V} {k : Nat} : (jm_cl A k).length = A.length := by
  unfold jm_cl
  cases k with
  | zero => rfl
  | succ k =>
    dsimp only
    cases hA : A[k]? with
    | none => rfl
    | some w => rcases w with z | z | z | z | z <;> simp
theorem js_cat (ad : Nat → Nat) (v : jm_V) : (js_v ad v).category = jm_cat v := by
  rcases v with z | z | z | z | z <;> rfl
theorem js_store1 {ad : Nat → Nat} {ls : Array Slot} {nL : Nat} {A B : List jm_V} {k : Nat} {v : jm_V} (hB : jm_so A k v = some B) (h : lv_has ls nL ((k, js_v ad v) :: (js_lv ad A).filter (fun q => !(q.1 == k) && !(q.1 + 1 == k && q.2.category == 2)))) : lv_has ls nL (js_lv ad B) ∧ B.length = A.length ∧ k < A.length := by
  unfold jm_so at hB
  cases hk : Nat.blt k A.length with
  | false => rw [hk] at hB; cases hB
  | true =>
    rw [hk] at hB
    have hk' : k < A.length := by simpa using hk
    cases hB
    refine ⟨js_has_of h fun j w hw hs => ?_, by rw [List.length_set, js_cl_len], hk'⟩
    by_cases hj : j = k
    · subst hj
      rw [List.getElem?_set_self (by rw [js_cl_len]; exact hk')] at hw
      cases hw
      exact List.mem_cons_self
    · rw [List.getElem?_set_ne (fun e => hj e.symm)] at hw
      obtain ⟨h1, h2⟩ := js_cl_get hj hw hs
      refine List.mem_cons_of_mem _ (List.mem_filter.mpr ⟨js_lv_mem h1 hs, ?_⟩)
      simp only [js_cat]
      simp [hj]
      omega
theorem js_store2 {ad : Nat → Nat} {ls : Array Slot} {nL : Nat} {A B : List jm_V} {k : Nat} {v : jm_V} (hB : jm_so2 A k v = some B) (h : lv_has ls nL ((k, js_v ad v) :: (js_lv ad A).filter (fun q => !(q.1 == k) && (!(q.1 == k + 1) && !(q.1 + 1 == k && q.2.category == 2))))) : lv_has ls nL (js_lv ad B) ∧ B.length = A.length ∧ k + 1 < A.length := by
  unfold jm_so2 at hB
  cases hk : Nat.blt (k + 1) A.length with
  | false => rw [hk] at hB; cases hB
  | true =>
    rw [hk] at hB
    have hk' : k + 1 < A.length := by simpa using hk
    cases hB
    refine ⟨js_has_of h fun j w hw hs => ?_, by rw [List.length_set, List.length_set, js_cl_len], hk'⟩
    by_cases hj1 : j = k + 1
    · subst hj1
      rw [List.getElem?_set_self (by rw [List.length_set, js_cl_len]; exact hk')] at hw
      exact absurd (Option.some.inj hw).symm hs
    · rw [List.getElem?_set_ne (fun e => hj1 e.symm)] at hw
      by_cases hj : j = k
      · subst hj
        rw [List.getElem?_set_self (by rw [js_cl_len]; omega)] at hw
        cases hw
        exact List.mem_cons_self
      · rw [List.getElem?_set_ne (fun e => hj e.symm)] at hw
        obtain ⟨h1, h2⟩ := js_cl_get hj hw hs
        refine List.mem_cons_of_mem _ (List.mem_filter.mpr ⟨js_lv_mem h1 hs, ?_⟩)
        simp only [js_cat]
        simp [hj, hj1]
        omega
/-! the words that are handed on over calls: those of the tables, and those of nest mates -/
def jn_nest (w : Cond) : Bool := match w with
  | .fieldLinkNest _ _ _ _ _ _ => true
  | .methodLinkNest _ _ _ _ => true
  | _ => false
def js_T : List Cond := lw_tbl.filter (fun w => goodWord w || jn_nest w)
def js_Tg : List Cond := lw_tbl.filter goodWord
theorem js_t {w : Cond} (h : w ∈ lw_tbl) (g : (goodWord w || jn_nest w) = true) : w ∈ js_T := List.mem_filter.mpr ⟨h, g⟩
theorem js_tg {w : Cond} (h : w ∈ lw_tbl) (g : goodWord w = true) : w ∈ js_Tg := List.mem_filter.mpr ⟨h, g⟩
def js_N (U : State) : Prop := ∀ w ∈ lw_tbl, jn_nest w = true → va_Nw w U
end
section
/-! a row an instruction: the machine of these rows is the real one -/
/-- what nobody writes: static fields and arrays, the text of the signs -/
def js_S0 (ad : Nat → Nat) (U : State) : Prop :=
  (∀ q ∈ jn_SF, va_Z q.1 q.2.1 q.2.2.1 (js_v ad q.2.2.2) (js_A ad) U U.heap) ∧
  (∀ k, 78 ≤ k → k < 82 → va_T .int (ad k) 4 (fun j => .int (Int32.ofInt (jm_SC k j))) (js_A ad) U U.heap) ∧
  (vk_R "BlobCorners$Page" 40 "dhstl" (ad 83) U ∧ va_O "java/lang/String" (ad 83) (js_A ad) U U.heap ∧ va_OF "java/lang/String" "coder" "B" (.int 0) (ad 83) (js_A ad) U U.heap ∧ va_OF "java/lang/String" "value" "[B" (.ref (ad 84)) (ad 83) (js_A ad) U U.heap ∧ va_T .byte (ad 84) 5 (fun j => .int (Int32.ofInt (jm_SC 84 j))) (js_A ad) U U.heap)
/-- the script -/
def js_Sc (ad : Nat → Nat) (hp : jm_H) (U : State) : Prop := 0 ≤ hp 85 0 ∧ hp 85 0 ≤ 2147483647 ∧ va_T .int (ad 82) (hp 85 0).toNat (fun j => .int (Int32.ofInt (hp 82 j))) (js_A ad) U U.heap
def js_Cx (p : Program) (R : Room) (s : State) (m : MethodId) (args : Array Value) (c : Code) (cells slots : Nat) (D : va_G) (cy : Nat → ClassId) (ad : Nat → Nat) (x : Nat) : Prop :=
  p.tables.exec = Jvm.exec ∧ c.code = (jn_y x).2.1 ∧ c.maxLocals = (jm_me x).2.2.2.1 ∧ s.vm.findClass (jn_own (jm_me x).1) = some m.cls ∧ (∀ w ∈ js_T, w.before args s = true) ∧ va_K D jn_cl (js_ty cy) s ∧ js_inj ad ∧ (js_S0 ad s ∧ js_N s) ∧ (jm_me x).2.2.2.2.2.1 ≤ R.frames ∧ (jm_me x).2.2.2.2.2.2 ≤ R.locals ∧ cells ≤ R.cells ∧ slots ≤ R.slots
def js_G (p : Program) (l : Launch) (e : Env) (R : Room) (s : State) (m : MethodId) (args : Array Value) (below : List Frame) (meth : Method) (c : Code) (cells slots : Nat) (Q : State → Prop) (D : va_G) (cy : Nat → ClassId) (ad : Nat → Nat) (x pc : Nat) (A st : List jm_V) (hp : jm_H) : Prop :=
  ∀ (H : Heap) (locs : List Loc) (ls : Array Slot), lv_has ls (jm_me x).2.2.2.1 (js_lv ad A) → A.length = (jm_me x).2.2.2.1 → va_P D jn_cl (js_ws cy ad hp) H → va_S (js_A ad) s.heap H locs → js_Sc ad hp s → W p l e R s m args below meth c H locs cells slots Q (F0 m pc ls (st.map (js_v ad)))
section Rows
variable {p : Program} {l : Launch} {e : Env} {R : Room} {s : State} {m : MethodId} {args : Array Value} {below : List Frame} {meth : Method} {c : Code} {cells slots : Nat} {Q : State → Prop} {D : va_G} {cy : Nat → ClassId} {ad : Nat → Nat} {x pc : Nat} {A : List jm_V} {hp : jm_H}
theorem js_addI (a b : Int) : Int32.ofInt (a + b) = Int32.ofInt a + Int32.ofInt b := Int32.ofInt_add a b
theorem js_iconst {r : List jm_V} {n : Int} (C : js_Cx p R s m args c cells slots D cy ad x) (hd : decode (jn_y x).2.1 pc = .ok (.iconst n, 1)) (k : js_G p l e R s m args below meth c cells slots Q D cy ad x (pc + 1) A (jI n :: r) hp) : js_G p l e R s m args below meth c cells slots Q D cy ad x pc A r hp :=
  fun H locs ls h1 h2 h3 h4 h5 => lv_iconst C.1 C.2.1 hd rfl (k H locs ls h1 h2 h3 h4 h5)
theorem js_b8 {n : Int} (h : -128 ≤ n ∧ n < 128) : (Int8.ofInt n).toInt32 = Int32.ofInt n := by
  apply Int32.toInt_inj.mp
  rw [Int8.toInt_toInt32, Int8.toInt_ofInt_of_le (by omega) (by omega), Int32.toInt_ofInt_of_le (by omega) (by omega)]
theorem js_b16 {n : Int} (h : -32768 ≤ n ∧ n < 32768) : (Int16.ofInt n).toInt32 = Int32.ofInt n := by
  apply Int32.toInt_inj.mp
  rw [Int16.toInt_toInt32, Int16.toInt_ofInt_of_le (by omega) (by omega), Int32.toInt_ofInt_of_le (by omega) (by omega)]
theorem js_bipush {r : List jm_V} {n : Int} (C : js_Cx p R s m args c cells slots D cy ad x) (hd : decode (jn_y x).2.1 pc = .ok (.bipush n, 2)) (hn : -128 ≤ n ∧ n < 128) (k : js_G p l e R s m args below meth c cells slots Q D cy ad x (pc + 2) A (jI n :: r) hp) : js_G p l e R s m args below meth c cells slots Q D cy ad x pc A r hp :=
  fun H locs ls h1 h2 h3 h4 h5 => lv_bipush C.1 C.2.1 hd (js_b8 hn) (k H locs ls h1 h2 h3 h4 h5)
theorem js_sipush {r : List jm_V} {n : Int} (C : js_Cx p R s m args c cells slots D cy ad x) (hd : decode (jn_y x).2.1 pc = .ok (.sipush n, 3)) (hn : -32768 ≤ n ∧ n < 32768) (k : js_G p l e R s m args below meth c cells slots Q D cy ad x (pc + 3) A (jI n :: r) hp) : js_G p l e R s m args below meth c cells slots Q D cy ad x pc A r hp :=
  fun H locs ls h1 h2 h3 h4 h5 => lv_sipush C.1 C.2.1 hd (js_b16 hn) (k H locs ls h1 h2 h3 h4 h5)
theorem js_lconst {r : List jm_V} {n : Fin 2} (C : js_Cx p R s m args c cells slots D cy ad x) (hd : decode (jn_y x).2.1 pc = .ok (.lconst n, 1)) (k : js_G p l e R s m args below meth c cells slots Q D cy ad x (pc + 1) A (jL ((n : Nat) : Int) :: r) hp) : js_G p l e R s m args below meth c cells slots Q D cy ad x pc A r hp :=
  fun H locs ls h1 h2 h3 h4 h5 => lv_lconst C.1 C.2.1 hd (by show Int64.ofNat n = Int64.ofInt ((n : Nat) : Int); rw [Int64.ofInt_eq_ofNat]) (k H locs ls h1 h2 h3 h4 h5)
theorem js_fconst {r : List jm_V} {n : Fin 3} (C : js_Cx p R s m args c cells slots D cy ad x) (hd : decode (jn_y x).2.1 pc = .ok (.fconst n, 1)) (k : js_G p l e R s m args below meth c cells slots Q D cy ad x (pc + 1) A (jF (match (n : Nat) with | 0 => 0 | 1 => 0x3f800000 | _ => 0x40000000) :: r) hp) : js_G p l e R s m args below meth c cells slots Q D cy ad x pc A r hp := by
  intro H locs ls h1 h2 h3 h4 h5
  match n, hd, k with
  | 0, hd, k => exact lv_fconst0 C.1 C.2.1 hd (k H locs ls h1 h2 h3 h4 h5)
  | 1, hd, k => exact lv_fconst1 C.1 C.2.1 hd (k H locs ls h1 h2 h3 h4 h5)
  | 2, hd, k => exact lv_fconst2 C.1 C.2.1 hd (k H locs ls h1 h2 h3 h4 h5)
theorem js_iload {r : List jm_V} {z : Int} {i : Nat} (C : js_Cx p R s m args c cells slots D cy ad x) (hd : decode (jn_y x).2.1 pc = .ok (.iload i, 2)) (hA : A[i]? = some (jI z)) (k : js_G p l e R s m args below meth c cells slots Q D cy ad x (pc + 2) A (jI z :: r) hp) : js_G p l e R s m args below meth c cells slots Q D cy ad x pc A r hp :=
  fun H locs ls h1 h2 h3 h4 h5 => lv_iload C.1 C.2.1 hd (js_load h1 hA (fun e => by cases e)) (k H locs ls h1 h2 h3 h4 h5)
theorem js_iload_n {r : List jm_V} {z : Int} {i : Fin 4} (C : js_Cx p R s m args c cells slots D cy ad x) (hd : decode (jn_y x).2.1 pc = .ok (.iload_n i, 1)) (hA : A[(i : Nat)]? = some (jI z)) (k : js_G p l e R s m args below meth c cells slots Q D cy ad x (pc + 1) A (jI z :: r) hp) : js_G p l e R s m args below meth c cells slots Q D cy ad x pc A r hp :=
  fun H locs ls h1 h2 h3 h4 h5 => lv_iload_n C.1 C.2.1 hd rfl (js_load h1 hA (fun e => by cases e)) (k H locs ls h1 h2 h3 h4 h5)
theorem js_lload {r : List jm_V} {z : Int} {i : Nat} (C : js_Cx p R s m args c cells slots D cy ad x) (hd : decode (jn_y x).2.1 pc = .ok (.lload i, 2)) (hA : A[i]? = some (jL z)) (k : js_G p l e R s m args below meth c cells slots Q D cy ad x (pc + 2) A (jL z :: r) hp) : js_G p l e R s m args below meth c cells slots Q D cy ad x pc A r hp :=
  fun H locs ls h1 h2 h3 h4 h5 => lv_lload C.1 C.2.1 hd (js_load h1 hA (fun e => by cases e)) (k H locs ls h1 h2 h3 h4 h5)
theorem js_lload_n {r : List jm_V} {z : Int} {i : Fin 4} (C : js_Cx p R s m args c cells slots D cy ad x) (hd : decode (jn_y x).2.1 pc = .ok (.lload_n i, 1)) (hA : A[(i : Nat)]? = some (jL z)) (k : js_G p l e R s m args below meth c cells slots Q D cy ad x (pc + 1) A (jL z :: r) hp) : js_G p l e R s m args below meth c cells slots Q D cy ad x pc A r hp :=
  fun H locs ls h1 h2 h3 h4 h5 => lv_lload_n C.1 C.2.1 hd rfl (js_load h1 hA (fun e => by cases e)) (k H locs ls h1 h2 h3 h4 h5)
theorem js_fload {r : List jm_V} {z : Nat} {i : Nat} (C : js_Cx p R s m args c cells slots D cy ad x) (hd : decode (jn_y x).2.1 pc = .ok (.fload i, 2)) (hA : A[i]? = some (jF z)) (k : js_G p l e R s m args below meth c cells slots Q D cy ad x (pc + 2) A (jF z :: r) hp) : js_G p l e R s m args below meth c cells slots Q D cy ad x pc A r hp :=
  fun H locs ls h1 h2 h3 h4 h5 => lv_fload C.1 C.2.1 hd (js_load h1 hA (fun e => by cases e)) (k H locs ls h1 h2 h3 h4 h5)
theorem js_fload_n {r : List jm_V} {z : Nat} {i : Fin 4} (C : js_Cx p R s m args c cells slots D cy ad x) (hd : decode (jn_y x).2.1 pc = .ok (.fload_n i, 1)) (hA : A[(i : Nat)]? = some (jF z)) (k : js_G p l e R s m args below meth c cells slots Q D cy ad x (pc + 1) A (jF z :: r) hp) : js_G p l e R s m args below meth c cells slots Q D cy ad x pc A r hp :=
  fun H locs ls h1 h2 h3 h4 h5 => lv_fload_n C.1 C.2.1 hd rfl (js_load h1 hA (fun e => by cases e)) (k H locs ls h1 h2 h3 h4 h5)
theorem js_aload {r : List jm_V} {z : Nat} {i : Nat} (C : js_Cx p R s m args c cells slots D cy ad x) (hd : decode (jn_y x).2.1 pc = .ok (.aload i, 2)) (hA : A[i]? = some (jR z)) (k : js_G p l e R s m args below meth c cells slots Q D cy ad x (pc + 2) A (jR z :: r) hp) : js_G p l e R s m args below meth c cells slots Q D cy ad x pc A r hp :=
  fun H locs ls h1 h2 h3 h4 h5 => lv_aload C.1 C.2.1 hd (js_load h1 hA (fun e => by cases e)) (k H locs ls h1 h2 h3 h4 h5)
theorem js_aload_n {r : List jm_V} {z : Nat} {i : Fin 4} (C : js_Cx p R s m args c cells slots D cy ad x) (hd : decode (jn_y x).2.1 pc = .ok (.aload_n i, 1)) (hA : A[(i : Nat)]? = some (jR z)) (k : js_G p l e R s m args below meth c cells slots Q D cy ad x (pc + 1) A (jR z :: r) hp) : js_G p l e R s m args below meth c cells slots Q D cy ad x pc A r hp :=
  fun H locs ls h1 h2 h3 h4 h5 => lv_aload_n C.1 C.2.1 hd rfl (js_load h1 hA (fun e => by cases e)) (k H locs ls h1 h2 h3 h4 h5)
theorem js_so_lt {A B : List jm_V} {k : Nat} {v : jm_V} (h : jm_so A k v = some B) : k < A.length := by
  unfold jm_so at h
  cases hk : Nat.blt k A.length with
  | false => rw [hk] at h; cases h
  | true => simpa using hk
theorem js_so2_lt {A B : List jm_V} {k : Nat} {v : jm_V} (h : jm_so2 A k v = some B) : k + 1 < A.length := by
  unfold jm_so2 at h
  cases hk : Nat.blt (k + 1) A.length with
  | false => rw [hk] at h; cases h
  | true => simpa using hk
theorem js_istore {r B : List jm_V} {z : Int} {i : Nat} (C : js_Cx p R s m args c cells slots D cy ad x) (hd : decode (jn_y x).2.1 pc = .ok (.istore i, 2)) (hB : jm_so A i (jI z) = some B) (k : js_G p l e R s m args below meth c cells slots Q D cy ad x (pc + 2) B r hp) : js_G p l e R s m args below meth c cells slots Q D cy ad x pc A (jI z :: r) hp :=
  fun H locs ls h1 h2 h3 h4 h5 => lv_istore C.1 C.2.1 hd h1 (h2 ▸ js_so_lt hB) rfl (fun ls' h' => (have q := js_store1 (v := jI z) hB h'; k H locs ls' q.1 (q.2.1.trans h2) h3 h4 h5))
theorem js_istore_n {r B : List jm_V} {z : Int} {i : Fin 4} (C : js_Cx p R s m args c cells slots D cy ad x) (hd : decode (jn_y x).2.1 pc = .ok (.istore_n i, 1)) (hB : jm_so A i (jI z) = some B) (k : js_G p l e R s m args below meth c cells slots Q D cy ad x (pc + 1) B r hp) : js_G p l e R s m args below meth c cells slots Q D cy ad x pc A (jI z :: r) hp :=
  fun H locs ls h1 h2 h3 h4 h5 => lv_istore_n C.1 C.2.1 hd rfl h1 (h2 ▸ js_so_lt hB) rfl (fun ls' h' => (have q := js_store1 (v := jI z) hB h'; k H locs ls' q.1 (q.2.1.trans h2) h3 h4 h5))
theorem js_fstore {r B : List jm_V} {z : Nat} {i : Nat} (C : js_Cx p R s m args c cells slots D cy ad x) (hd : decode (jn_y x).2.1 pc = .ok (.fstore i, 2)) (hB : jm_so A i (jF z) = some B) (k : js_G p l e R s m args below meth c cells slots Q D cy ad x (pc + 2) B r hp) : js_G p l e R s m args below meth c cells slots Q D cy ad x pc A (jF z :: r) hp :=
  fun H locs ls h1 h2 h3 h4 h5 => lv_fstore C.1 C.2.1 hd h1 (h2 ▸ js_so_lt hB) rfl (fun ls' h' => (have q := js_store1 (v := jF z) hB h'; k H locs ls' q.1 (q.2.1.trans h2) h3 h4 h5))
theorem js_fstore_n {r B : List jm_V} {z : Nat} {i : Fin 4} (C : js_Cx p R s m args c cells slots D cy ad x) (hd : decode (jn_y x).2.1 pc = .ok (.fstore_n i, 1)) (hB : jm_so A i (jF z) = some B) (k : js_G p l e R s m args below meth c cells slots Q D cy ad x (pc + 1) B r hp) : js_G p l e R s m args below meth c cells slots Q D cy ad x pc A (jF z :: r) hp :=
  fun H locs ls h1 h2 h3 h4 h5 => lv_fstore_n C.1 C.2.1 hd rfl h1 (h2 ▸ js_so_lt hB) rfl (fun ls' h' => (have q := js_store1 (v := jF z) hB h'; k H locs ls' q.1 (q.2.1.trans h2) h3 h4 h5))
theorem js_lstore {r B : List jm_V} {z : Int} {i : Nat} (C : js_Cx p R s m args c cells slots D cy ad x) (hd : decode (jn_y x).2.1 pc = .ok (.lstore i, 2)) (hB : jm_so2 A i (jL z) = some B) (k : js_G p l e R s m args below meth c cells slots Q D cy ad x (pc + 2) B r hp) : js_G p l e R s m args below meth c cells slots Q D cy ad x pc A (jL z :: r) hp :=
  fun H locs ls h1 h2 h3 h4 h5 => lv_lstore C.1 C.2.1 hd h1 (h2 ▸ js_so2_lt hB) rfl (fun ls' h' => (have q := js_store2 (v := jL z) hB h'; k H locs ls' q.1 (q.2.1.trans h2) h3 h4 h5))
theorem js_lstore_n {r B : List jm_V} {z : Int} {i : Fin 4} (C : js_Cx p R s m args c cells slots D cy ad x) (hd : decode (jn_y x).2.1 pc = .ok (.lstore_n i, 1)) (hB : jm_so2 A i (jL z) = some B) (k : js_G p l e R s m args below meth c cells slots Q D cy ad x (pc + 1) B r hp) : js_G p l e R s m args below meth c cells slots Q D cy ad x pc A (jL z :: r) hp :=
  fun H locs ls h1 h2 h3 h4 h5 => lv_lstore_n C.1 C.2.1 hd rfl h1 (h2 ▸ js_so2_lt hB) rfl (fun ls' h' => (have q := js_store2 (v := jL z) hB h'; k H locs ls' q.1 (q.2.1.trans h2) h3 h4 h5))
theorem js_iinc {r B : List jm_V} {z n : Int} {i : Nat} (C : js_Cx p R s m args c cells slots D cy ad x) (hd : decode (jn_y x).2.1 pc = .ok (.iinc i n, 3)) (hA : A[i]? = some (jI z)) (hB : jm_so A i (jI (z + n)) = some B) (k : js_G p l e R s m args below meth c cells slots Q D cy ad x (pc + 3) B r hp) : js_G p l e R s m args below meth c cells slots Q D cy ad x pc A r hp := by
  intro H locs ls h1 h2 h3 h4 h5
  obtain ⟨kk, hkk⟩ := List.getElem?_of_mem (js_lv_mem (ad := ad) hA (fun e => by cases e))
  exact lv_iinc C.1 C.2.1 hd h1 hkk (Int32.ofInt_add z n).symm (h2 ▸ js_so_lt hB) rfl (fun ls' h' => (have q := js_store1 (v := jI (z + n)) hB h'; k H locs ls' q.1 (q.2.1.trans h2) h3 h4 h5))
theorem js_goto {r : List jm_V} {o : Int} {tg : Nat} (C : js_Cx p R s m args c cells slots D cy ad x) (hd : decode (jn_y x).2.1 pc = .ok (.goto o, 3)) (ht : (pc : Int) + o = (tg : Int)) (k : js_G p l e R s m args below meth c cells slots Q D cy ad x tg A r hp) : js_G p l e R s m args below meth c cells slots Q D cy ad x pc A r hp :=
  fun H locs ls h1 h2 h3 h4 h5 => lv_goto C.1 C.2.1 hd ht (k H locs ls h1 h2 h3 h4 h5)
theorem js_w32 (z : Int) : (Int32.ofInt z).toInt = jm_w32 z := rfl
theorem js_eq0 (a : Int) : Int32.ofInt a = 0 ↔ jm_w32 a = 0 := by
  rw [← Int32.toInt_inj]; rfl
theorem js_lt0 (a : Int) : Int32.ofInt a < 0 ↔ jm_w32 a < 0 := Int32.lt_iff_toInt_lt
theorem js_eqI (a b : Int) : Int32.ofInt a = Int32.ofInt b ↔ jm_w32 a = jm_w32 b := by
  rw [← Int32.toInt_inj]; rfl
theorem js_ltI (a b : Int) : Int32.ofInt a < Int32.ofInt b ↔ jm_w32 a < jm_w32 b := Int32.lt_iff_toInt_lt
theorem js_leI (a b : Int) : Int32.ofInt a ≤ Int32.ofInt b ↔ jm_w32 a ≤ jm_w32 b := Int32.le_iff_toInt_le
end Rows
end
section
section Rows2
variable {p : Program} {l : Launch} {e : Env} {R : Room} {s : State} {m : MethodId} {args : Array Value} {below : List Frame} {meth : Method} {c : Code} {cells slots : Nat} {Q : State → Prop} {D : va_G} {cy : Nat → ClassId} {ad : Nat → Nat} {x pc : Nat} {A : List jm_V} {hp : jm_H}
theorem js_bif_t {α : Type} {P : Prop} {a b : α} (i : Decidable P) (h : P) : (bif @decide P i then a else b) = a := by simp [h]
theorem js_bif_f {α : Type} {P : Prop} {a b : α} (i : Decidable P) (h : ¬ P) : (bif @decide P i then a else b) = b := by simp [h]
theorem js_icmp {r : List jm_V} {a b o : Int} {tg : Nat} {cd : ClassFile.Cond} (C : js_Cx p R s m args c cells slots D cy ad x) (hd : decode (jn_y x).2.1 pc = .ok (.if_icmp cd o, 3)) (ht : (pc : Int) + o = (tg : Int)) (k : js_G p l e R s m args below meth c cells slots Q D cy ad x (bif jm_cmp cd (jm_w32 a) (jm_w32 b) then tg else pc + 3) A r hp) : js_G p l e R s m args below meth c cells slots Q D cy ad x pc A (jI b :: jI a :: r) hp := by
  intro H locs ls h1 h2 h3 h4 h5
  have K := k H locs ls h1 h2 h3 h4 h5
  cases cd with
  | eq => exact lv_icmp_eq C.1 C.2.1 hd ht (fun q => by rwa [show (bif jm_cmp .eq (jm_w32 a) (jm_w32 b) then tg else pc + 3) = tg from js_bif_t _ ((js_eqI a b).mp q)] at K) (fun q => by rwa [show (bif jm_cmp .eq (jm_w32 a) (jm_w32 b) then tg else pc + 3) = pc + 3 from js_bif_f _ (fun w => q ((js_eqI a b).mpr w))] at K)
  | ne => exact lv_icmp_ne C.1 C.2.1 hd ht (fun q => by rwa [show (bif jm_cmp .ne (jm_w32 a) (jm_w32 b) then tg else pc + 3) = tg from js_bif_t _ (fun w => q ((js_eqI a b).mpr w))] at K) (fun q => by rwa [show (bif jm_cmp .ne (jm_w32 a) (jm_w32 b) then tg else pc + 3) = pc + 3 from js_bif_f _ (fun w => w ((js_eqI a b).mp q))] at K)
  | lt => exact lv_icmp_lt C.1 C.2.1 hd ht (fun q => by rwa [show (bif jm_cmp .lt (jm_w32 a) (jm_w32 b) then tg else pc + 3) = tg from js_bif_t _ ((js_ltI a b).mp q)] at K) (fun q => by rwa [show (bif jm_cmp .lt (jm_w32 a) (jm_w32 b) then tg else pc + 3) = pc + 3 from js_bif_f _ (fun w => q ((js_ltI a b).mpr w))] at K)
  | ge => exact lv_icmp_ge C.1 C.2.1 hd ht (fun q => by rwa [show (bif jm_cmp .ge (jm_w32 a) (jm_w32 b) then tg else pc + 3) = tg from js_bif_t _ ((js_leI b a).mp q)] at K) (fun q => by rwa [show (bif jm_cmp .ge (jm_w32 a) (jm_w32 b) then tg else pc + 3) = pc + 3 from js_bif_f _ (fun w => q ((js_leI b a).mpr w))] at K)
  | gt => exact lv_icmp_gt C.1 C.2.1 hd ht (fun q => by rwa [show (bif jm_cmp .gt (jm_w32 a) (jm_w32 b) then tg else pc + 3) = tg from js_bif_t _ ((js_ltI b a).mp q)] at K) (fun q => by rwa [show (bif jm_cmp .gt (jm_w32 a) (jm_w32 b) then tg else pc + 3) = pc + 3 from js_bif_f _ (fun w => q ((js_ltI b a).mpr w))] at K)
  | le => exact lv_icmp_le C.1 C.2.1 hd ht (fun q => by rwa [show (bif jm_cmp .le (jm_w32 a) (jm_w32 b) then tg else pc + 3) = tg from js_bif_t _ ((js_leI a b).mp q)] at K) (fun q => by rwa [show (bif jm_cmp .le (jm_w32 a) (jm_w32 b) then tg else pc + 3) = pc + 3 from js_bif_f _ (fun w => q ((js_leI a b).mpr w))] at K)
theorem js_w32_0 : jm_w32 0 = 0 := rfl
theorem js_ifc {r : List jm_V} {a o : Int} {tg : Nat} {cd : ClassFile.Cond} (C : js_Cx p R s m args c cells slots D cy ad x) (hd : decode (jn_y x).2.1 pc = .ok (.ifCond cd o, 3)) (ht : (pc : Int) + o = (tg : Int)) (k : js_G p l e R s m args below meth c cells slots Q D cy ad x (bif jm_cmp cd (jm_w32 a) 0 then tg else pc + 3) A r hp) : js_G p l e R s m args below meth c cells slots Q D cy ad x pc A (jI a :: r) hp := by
  intro H locs ls h1 h2 h3 h4 h5
  have K := k H locs ls h1 h2 h3 h4 h5
  cases cd with
  | eq => exact lv_if_eq C.1 C.2.1 hd ht (fun q => by rwa [show (bif jm_cmp .eq (jm_w32 a) 0 then tg else pc + 3) = tg from js_bif_t _ ((js_eqI a 0).mp q)] at K) (fun q => by rwa [show (bif jm_cmp .eq (jm_w32 a) 0 then tg else pc + 3) = pc + 3 from js_bif_f _ (fun w => q ((js_eqI a 0).mpr w))] at K)
  | ne => exact lv_if_ne C.1 C.2.1 hd ht (fun q => by rwa [show (bif jm_cmp .ne (jm_w32 a) 0 then tg else pc + 3) = tg from js_bif_t _ (fun w => q ((js_eqI a 0).mpr w))] at K) (fun q => by rwa [show (bif jm_cmp .ne (jm_w32 a) 0 then tg else pc + 3) = pc + 3 from js_bif_f _ (fun w => w ((js_eqI a 0).mp q))] at K)
  | lt => exact lv_if_lt C.1 C.2.1 hd ht (fun q => by rwa [show (bif jm_cmp .lt (jm_w32 a) 0 then tg else pc + 3) = tg from js_bif_t _ ((js_ltI a 0).mp q)] at K) (fun q => by rwa [show (bif jm_cmp .lt (jm_w32 a) 0 then tg else pc + 3) = pc + 3 from js_bif_f _ (fun w => q ((js_ltI a 0).mpr w))] at K)
  | ge => exact lv_if_ge C.1 C.2.1 hd ht (fun q => by rwa [show (bif jm_cmp .ge (jm_w32 a) 0 then tg else pc + 3) = tg from js_bif_t _ ((js_leI 0 a).mp q)] at K) (fun q => by rwa [show (bif jm_cmp .ge (jm_w32 a) 0 then tg else pc + 3) = pc + 3 from js_bif_f _ (fun w => q ((js_leI 0 a).mpr w))] at K)
  | gt => exact lv_if_gt C.1 C.2.1 hd ht (fun q => by rwa [show (bif jm_cmp .gt (jm_w32 a) 0 then tg else pc + 3) = tg from js_bif_t _ ((js_ltI 0 a).mp q)] at K) (fun q => by rwa [show (bif jm_cmp .gt (jm_w32 a) 0 then tg else pc + 3) = pc + 3 from js_bif_f _ (fun w => q ((js_ltI 0 a).mpr w))] at K)
  | le => exact lv_if_le C.1 C.2.1 hd ht (fun q => by rwa [show (bif jm_cmp .le (jm_w32 a) 0 then tg else pc + 3) = tg from js_bif_t _ ((js_leI a 0).mp q)] at K) (fun q => by rwa [show (bif jm_cmp .le (jm_w32 a) 0 then tg else pc + 3) = pc + 3 from js_bif_f _ (fun w => q ((js_leI a 0).mpr w))] at K)
theorem js_tsw {r : List jm_V} {a d lo hi : Int} {offs : Array Int} {len q : Nat} (C : js_Cx p R s m args c cells slots D cy ad x) (hd : decode (jn_y x).2.1 pc = .ok (.tableswitch d lo hi offs, len)) (ht : jn_tgt (.tableswitch d lo hi offs) pc 0 = true) (hq : jm_tsw d lo hi offs pc (jm_w32 a) = some q) (k : js_G p l e R s m args below meth c cells slots Q D cy ad x q A r hp) : js_G p l e R s m args below meth c cells slots Q D cy ad x pc A (jI a :: r) hp := by
  intro H locs ls h1 h2 h3 h4 h5
  have K := k H locs ls h1 h2 h3 h4 h5
  simp only [jn_tgt, Bool.and_eq_true, decide_eq_true_eq, List.all_eq_true] at ht
  unfold jm_tsw at hq
  by_cases hc : jm_w32 a < lo ∨ hi < jm_w32 a
  · rw [if_pos hc] at hq
    cases hq
    exact lv_tableOut C.1 C.2.1 hd hc (by omega) K
  · rw [if_neg hc] at hq
    cases ho : offs[(jm_w32 a - lo).toNat]? with
    | none => rw [ho] at hq; cases hq
    | some o =>
      rw [ho] at hq
      cases hq
      have hm : o ∈ offs.toList := by
        rw [← Array.getElem?_toList] at ho
        exact List.mem_of_getElem? ho
      have h0 := ht.2 o hm
      exact lv_tableIn C.1 C.2.1 hd (fun w => hc (Or.inl w)) (fun w => hc (Or.inr w)) ho (by omega) K
theorem js_off {l : List (Int × Int)} {d z : Int} (P : Int → Prop) (hd : P d) (hl : ∀ o ∈ l, P o.2) : P (Op.lookupswitch.offset l d z) := by
  induction l with
  | nil => exact hd
  | cons o l ih =>
    obtain ⟨a, b⟩ := o
    rw [Op.lookupswitch.offset_cons]
    by_cases h : a = z
    · rw [if_pos h]; exact hl (a, b) List.mem_cons_self
    · rw [if_neg h]; exact ih (fun o ho => hl o (List.mem_cons_of_mem _ ho))
theorem js_lsw {r : List jm_V} {a d : Int} {ps : Array (Int × Int)} {len : Nat} (C : js_Cx p R s m args c cells slots D cy ad x) (hd : decode (jn_y x).2.1 pc = .ok (.lookupswitch d ps, len)) (ht : jn_tgt (.lookupswitch d ps) pc 0 = true) (k : js_G p l e R s m args below meth c cells slots Q D cy ad x (((pc : Int) + Op.lookupswitch.offset ps.toList d (jm_w32 a)).toNat) A r hp) : js_G p l e R s m args below meth c cells slots Q D cy ad x pc A (jI a :: r) hp := by
  intro H locs ls h1 h2 h3 h4 h5
  have K := k H locs ls h1 h2 h3 h4 h5
  simp only [jn_tgt, Bool.and_eq_true, decide_eq_true_eq] at ht
  have h0 : 0 ≤ (pc : Int) + Op.lookupswitch.offset ps.toList d (jm_w32 a) := js_off (fun o => 0 ≤ (pc : Int) + o) ht.1.2 (fun o ho => by simpa using List.all_eq_true.mp ht.2 o ho)
  exact lv_lookup C.1 C.2.1 hd ht.1.1 rfl (by show (pc : Int) + Op.lookupswitch.offset ps.toList d (jm_w32 a) = _; omega) K
theorem js_lcmp {r : List jm_V} {a b : Int} (C : js_Cx p R s m args c cells slots D cy ad x) (hd : decode (jn_y x).2.1 pc = .ok (.lcmp, 1)) (k : js_G p l e R s m args below meth c cells slots Q D cy ad x (pc + 1) A (jI (jm_lc (jm_w64 a) (jm_w64 b)) :: r) hp) : js_G p l e R s m args below meth c cells slots Q D cy ad x pc A (jL b :: jL a :: r) hp := by
  intro H locs ls h1 h2 h3 h4 h5
  have K := k H locs ls h1 h2 h3 h4 h5
  have e : lg_cmp (Int64.ofInt a) (Int64.ofInt b) = Int32.ofInt (jm_lc (jm_w64 a) (jm_w64 b)) := by
    by_cases q1 : jm_w64 b < jm_w64 a
    · have q2 : Int64.ofInt b < Int64.ofInt a := Int64.lt_iff_toInt_lt.mpr q1
      have e1 : lg_cmp (Int64.ofInt a) (Int64.ofInt b) = 1 := by simp [lg_cmp, q2]
      have e2 : jm_lc (jm_w64 a) (jm_w64 b) = 1 := by unfold jm_lc; rw [if_neg (by omega), if_neg (by omega)]
      rw [e1, e2]; rfl
    · have q2 : ¬ Int64.ofInt b < Int64.ofInt a := fun w => q1 (Int64.lt_iff_toInt_lt.mp w)
      by_cases q3 : jm_w64 a = jm_w64 b
      · have q4 : Int64.ofInt a = Int64.ofInt b := Int64.toInt_inj.mp q3
        have e1 : lg_cmp (Int64.ofInt a) (Int64.ofInt b) = 0 := by rw [q4]; simp [lg_cmp]
        have e2 : jm_lc (jm_w64 a) (jm_w64 b) = 0 := by unfold jm_lc; rw [if_neg (by omega), if_pos q3]
        rw [e1, e2]; rfl
      · have q4 : ¬ Int64.ofInt a = Int64.ofInt b := fun w => q3 (congrArg Int64.toInt w)
        have e1 : lg_cmp (Int64.ofInt a) (Int64.ofInt b) = -1 := by simp [lg_cmp, q2, q4]
        have e2 : jm_lc (jm_w64 a) (jm_w64 b) = -1 := by unfold jm_lc; rw [if_pos (by omega)]
        rw [e1, e2]; rfl
  refine W.lcmp C.1 C.2.1 hd ?_
  rw [e]
  exact K
theorem js_fcmp {r : List jm_V} {a b : Nat} {op : CmpOp} (C : js_Cx p R s m args c cells slots D cy ad x) (hd : decode (jn_y x).2.1 pc = .ok (.fcmp op, 1)) (k : js_G p l e R s m args below meth c cells slots Q D cy ad x (pc + 1) A (jI (Op.cmpValue (FP.fcmp (UInt32.ofNat a) (UInt32.ofNat b)) op).toInt :: r) hp) : js_G p l e R s m args below meth c cells slots Q D cy ad x pc A (jF b :: jF a :: r) hp := by
  intro H locs ls h1 h2 h3 h4 h5
  have K := k H locs ls h1 h2 h3 h4 h5
  refine lv_fcmp C.1 C.2.1 hd ?_
  have e : js_v ad (jI (Op.cmpValue (FP.fcmp (UInt32.ofNat a) (UInt32.ofNat b)) op).toInt) = .int (Op.cmpValue (FP.fcmp (UInt32.ofNat a) (UInt32.ofNat b)) op) := by show Value.int (Int32.ofInt _) = _; rw [Int32.ofInt_toInt]
  rw [List.map_cons, e] at K
  exact K
/-- a row whose answer is an int that the machine knows as the Int32 v -/
theorem js_topI {r : List jm_V} {q : Nat} {v : Int32} {H : Heap} {locs : List Loc} {ls : Array Slot} (K : W p l e R s m args below meth c H locs cells slots Q (F0 m q ls (List.map (js_v ad) (jI v.toInt :: r)))) : W p l e R s m args below meth c H locs cells slots Q (F0 m q ls (.int v :: r.map (js_v ad))) := by
  have e : js_v ad (jI v.toInt) = .int v := by show Value.int (Int32.ofInt _) = _; rw [Int32.ofInt_toInt]
  rw [List.map_cons, e] at K
  exact K
theorem js_topL {r : List jm_V} {q : Nat} {v : Int64} {H : Heap} {locs : List Loc} {ls : Array Slot} (K : W p l e R s m args below meth c H locs cells slots Q (F0 m q ls (List.map (js_v ad) (jL v.toInt :: r)))) : W p l e R s m args below meth c H locs cells slots Q (F0 m q ls (.long v :: r.map (js_v ad))) := by
  have e : js_v ad (jL v.toInt) = .long v := by show Value.long (Int64.ofInt _) = _; rw [Int64.ofInt_toInt]
  rw [List.map_cons, e] at K
  exact K
theorem js_topF {r : List jm_V} {q : Nat} {v : UInt32} {H : Heap} {locs : List Loc} {ls : Array Slot} (K : W p l e R s m args below meth c H locs cells slots Q (F0 m q ls (List.map (js_v ad) (jF v.toNat :: r)))) : W p l e R s m args below meth c H locs cells slots Q (F0 m q ls (.float v :: r.map (js_v ad))) := by
  have e : js_v ad (jF v.toNat) = .float v := by show Value.float (UInt32.ofNat _) = _; rw [UInt32.ofNat_toNat]
  rw [List.map_cons, e] at K
  exact K
theorem js_i2l {r : List jm_V} {a : Int} (C : js_Cx p R s m args c cells slots D cy ad x) (hd : decode (jn_y x).2.1 pc = .ok (.i2l, 1)) (k : js_G p l e R s m args below meth c cells slots Q D cy ad x (pc + 1) A (jL (jm_w32 a) :: r) hp) : js_G p l e R s m args below meth c cells slots Q D cy ad x pc A (jI a :: r) hp :=
  fun H locs ls h1 h2 h3 h4 h5 => lv_i2l C.1 C.2.1 hd (Int64.ofInt_int32ToInt (Int32.ofInt a)).symm (k H locs ls h1 h2 h3 h4 h5)
theorem js_l2i {r : List jm_V} {a : Int} (C : js_Cx p R s m args c cells slots D cy ad x) (hd : decode (jn_y x).2.1 pc = .ok (.l2i, 1)) (k : js_G p l e R s m args below meth c cells slots Q D cy ad x (pc + 1) A (jI a :: r) hp) : js_G p l e R s m args below meth c cells slots Q D cy ad x pc A (jL a :: r) hp :=
  fun H locs ls h1 h2 h3 h4 h5 => lv_l2i C.1 C.2.1 hd Int64.toInt32_ofInt (k H locs ls h1 h2 h3 h4 h5)
theorem js_i2c {r : List jm_V} {a : Int} (C : js_Cx p R s m args c cells slots D cy ad x) (hd : decode (jn_y x).2.1 pc = .ok (.i2c, 1)) (k : js_G p l e R s m args below meth c cells slots Q D cy ad x (pc + 1) A (jI ((Int32.ofInt a).toUInt32 % 65536).toInt32.toInt :: r) hp) : js_G p l e R s m args below meth c cells slots Q D cy ad x pc A (jI a :: r) hp :=
  fun H locs ls h1 h2 h3 h4 h5 => lv_i2c C.1 C.2.1 hd rfl (js_topI (k H locs ls h1 h2 h3 h4 h5))
theorem js_i2b {r : List jm_V} {a : Int} (C : js_Cx p R s m args c cells slots D cy ad x) (hd : decode (jn_y x).2.1 pc = .ok (.i2b, 1)) (k : js_G p l e R s m args below meth c cells slots Q D cy ad x (pc + 1) A (jI (Int32.ofInt a).toInt8.toInt32.toInt :: r) hp) : js_G p l e R s m args below meth c cells slots Q D cy ad x pc A (jI a :: r) hp :=
  fun H locs ls h1 h2 h3 h4 h5 => lv_i2b C.1 C.2.1 hd rfl (js_topI (k H locs ls h1 h2 h3 h4 h5))
theorem js_i2f {r : List jm_V} {a : Int} (C : js_Cx p R s m args c cells slots D cy ad x) (hd : decode (jn_y x).2.1 pc = .ok (.i2f, 1)) (k : js_G p l e R s m args below meth c cells slots Q D cy ad x (pc + 1) A (jF (FP.i2f (Int32.ofInt a)).toNat :: r) hp) : js_G p l e R s m args below meth c cells slots Q D cy ad x pc A (jI a :: r) hp :=
  fun H locs ls h1 h2 h3 h4 h5 => lv_i2f C.1 C.2.1 hd (js_topF (k H locs ls h1 h2 h3 h4 h5))
theorem js_f2i {r : List jm_V} {a : Nat} (C : js_Cx p R s m args c cells slots D cy ad x) (hd : decode (jn_y x).2.1 pc = .ok (.f2i, 1)) (k : js_G p l e R s m args below meth c cells slots Q D cy ad x (pc + 1) A (jI (FP.f2i (UInt32.ofNat a)).toInt :: r) hp) : js_G p l e R s m args below meth c cells slots Q D cy ad x pc A (jF a :: r) hp :=
  fun H locs ls h1 h2 h3 h4 h5 => lv_f2i C.1 C.2.1 hd (js_topI (k H locs ls h1 h2 h3 h4 h5))
theorem js_ineg {r : List jm_V} {a : Int} (C : js_Cx p R s m args c cells slots D cy ad x) (hd : decode (jn_y x).2.1 pc = .ok (.ineg, 1)) (k : js_G p l e R s m args below meth c cells slots Q D cy ad x (pc + 1) A (jI (-a) :: r) hp) : js_G p l e R s m args below meth c cells slots Q D cy ad x pc A (jI a :: r) hp := by
  intro H locs ls h1 h2 h3 h4 h5
  have K := k H locs ls h1 h2 h3 h4 h5
  refine lv_ineg C.1 C.2.1 hd ?_
  have e : js_v ad (jI (-a)) = .int (-Int32.ofInt a) := by show Value.int (Int32.ofInt _) = _; rw [Int32.ofInt_neg]
  rw [List.map_cons, e] at K
  first | exact K | simpa using K
theorem js_lshl {r : List jm_V} {a b : Int} (C : js_Cx p R s m args c cells slots D cy ad x) (hd : decode (jn_y x).2.1 pc = .ok (.lshl, 1)) (k : js_G p l e R s m args below meth c cells slots Q D cy ad x (pc + 1) A (jL (Int64.ofInt a <<< ((Int32.ofInt b).toInt64 &&& 63)).toInt :: r) hp) : js_G p l e R s m args below meth c cells slots Q D cy ad x pc A (jI b :: jL a :: r) hp :=
  fun H locs ls h1 h2 h3 h4 h5 => lv_lshl C.1 C.2.1 hd rfl (js_topL (k H locs ls h1 h2 h3 h4 h5))
theorem js_lushr {r : List jm_V} {a b : Int} (C : js_Cx p R s m args c cells slots D cy ad x) (hd : decode (jn_y x).2.1 pc = .ok (.lushr, 1)) (k : js_G p l e R s m args below meth c cells slots Q D cy ad x (pc + 1) A (jL ((Int64.ofInt a).toUInt64 >>> ((Int32.ofInt b).toInt64.toUInt64 &&& Int64.toUInt64 63)).toInt64.toInt :: r) hp) : js_G p l e R s m args below meth c cells slots Q D cy ad x pc A (jI b :: jL a :: r) hp :=
  fun H locs ls h1 h2 h3 h4 h5 => lv_lushr C.1 C.2.1 hd rfl (js_topL (k H locs ls h1 h2 h3 h4 h5))
theorem js_dup {r : List jm_V} {v : jm_V} (C : js_Cx p R s m args c cells slots D cy ad x) (hd : decode (jn_y x).2.1 pc = .ok (.dup, 1)) (hv : jm_cat v = 1) (k : js_G p l e R s m args below meth c cells slots Q D cy ad x (pc + 1) A (v :: v :: r) hp) : js_G p l e R s m args below meth c cells slots Q D cy ad x pc A (v :: r) hp :=
  fun H locs ls h1 h2 h3 h4 h5 => lv_dup C.1 C.2.1 hd ((js_cat ad v).trans hv) (k H locs ls h1 h2 h3 h4 h5)
theorem js_pop {r : List jm_V} {v : jm_V} (C : js_Cx p R s m args c cells slots D cy ad x) (hd : decode (jn_y x).2.1 pc = .ok (.pop, 1)) (hv : jm_cat v = 1) (k : js_G p l e R s m args below meth c cells slots Q D cy ad x (pc + 1) A r hp) : js_G p l e R s m args below meth c cells slots Q D cy ad x pc A (v :: r) hp :=
  fun H locs ls h1 h2 h3 h4 h5 => lv_pop C.1 C.2.1 hd ((js_cat ad v).trans hv) (k H locs ls h1 h2 h3 h4 h5)
theorem js_dup2 {r : List jm_V} {v w : jm_V} (C : js_Cx p R s m args c cells slots D cy ad x) (hd : decode (jn_y x).2.1 pc = .ok (.dup2, 1)) (hv : jm_cat v = 1) (hw : jm_cat w = 1) (k : js_G p l e R s m args below meth c cells slots Q D cy ad x (pc + 1) A (v :: w :: v :: w :: r) hp) : js_G p l e R s m args below meth c cells slots Q D cy ad x pc A (v :: w :: r) hp :=
  fun H locs ls h1 h2 h3 h4 h5 => lv_dup2_11 C.1 C.2.1 hd ((js_cat ad v).trans hv) ((js_cat ad w).trans hw) (k H locs ls h1 h2 h3 h4 h5)
end Rows2
end
section
section Rows3
variable {p : Program} {l : Launch} {e : Env} {R : Room} {s : State} {m : MethodId} {args : Array Value} {below : List Frame} {meth : Method} {c : Code} {cells slots : Nat} {Q : State → Prop} {D : va_G} {cy : Nat → ClassId} {ad : Nat → Nat} {x pc : Nat} {A : List jm_V} {hp : jm_H}
theorem js_ne0 {b : Int} (h : ¬ jm_w32 b = 0) : ¬ Int32.ofInt b = 0 := fun w => h ((js_eq0 b).mp w)
theorem js_ne0L {b : Int} (h : ¬ jm_w64 b = 0) : ¬ Int64.ofInt b = 0 := fun w => h (by unfold jm_w64; rw [w]; rfl)
set_option maxHeartbeats 4000000 in
theorem js_i2 {r : List jm_V} {a b z : Int} {i : Instr} (C : js_Cx p R s m args c cells slots D cy ad x) (hd : decode (jn_y x).2.1 pc = .ok (i, 1)) (hz : jm_i2 i a b = some z) (k : js_G p l e R s m args below meth c cells slots Q D cy ad x (pc + 1) A (jI z :: r) hp) : js_G p l e R s m args below meth c cells slots Q D cy ad x pc A (jI b :: jI a :: r) hp := by
  intro H locs ls h1 h2 h3 h4 h5
  have K := k H locs ls h1 h2 h3 h4 h5
  cases i
  case iadd =>
    cases hz
    rw [List.map_cons, show js_v ad (jI (a + b)) = .int (Int32.ofInt a + Int32.ofInt b) from congrArg Value.int (Int32.ofInt_add a b)] at K
    exact lv_iadd C.1 C.2.1 hd K
  case isub =>
    cases hz
    rw [List.map_cons, show js_v ad (jI (a - b)) = .int (Int32.ofInt a - Int32.ofInt b) from congrArg Value.int (Int32.ofInt_sub a b)] at K
    exact lv_isub C.1 C.2.1 hd K
  case imul =>
    cases hz
    rw [List.map_cons, show js_v ad (jI (a * b)) = .int (Int32.ofInt a * Int32.ofInt b) from congrArg Value.int (Int32.ofInt_mul a b)] at K
    exact lv_imul C.1 C.2.1 hd K
  case iand => cases hz; exact lv_iand C.1 C.2.1 hd (js_topI K)
  case ior => cases hz; exact lv_ior C.1 C.2.1 hd (js_topI K)
  case ixor => cases hz; exact lv_ixor C.1 C.2.1 hd (js_topI K)
  case ishl => cases hz; exact lv_ishl C.1 C.2.1 hd (js_topI K)
  case ishr => cases hz; exact lv_ishr C.1 C.2.1 hd (js_topI K)
  case iushr => cases hz; exact lv_iushr C.1 C.2.1 hd rfl (js_topI K)
  case idiv =>
    by_cases h0 : jm_w32 b = 0
    · rw [show jm_i2 .idiv a b = none from js_bif_t _ h0] at hz; cases hz
    · rw [show jm_i2 .idiv a b = some (Int32.ofInt a / Int32.ofInt b).toInt from js_bif_f _ h0] at hz
      cases hz
      exact lv_idiv C.1 C.2.1 hd (js_ne0 h0) (js_topI K)
  case irem =>
    by_cases h0 : jm_w32 b = 0
    · rw [show jm_i2 .irem a b = none from js_bif_t _ h0] at hz; cases hz
    · rw [show jm_i2 .irem a b = some (Int32.ofInt a - Int32.ofInt a / Int32.ofInt b * Int32.ofInt b).toInt from js_bif_f _ h0] at hz
      cases hz
      exact lv_irem C.1 C.2.1 hd (js_ne0 h0) (js_topI K)
  all_goals (cases hz)
set_option maxHeartbeats 4000000 in
theorem js_l2 {r : List jm_V} {a b z : Int} {i : Instr} (C : js_Cx p R s m args c cells slots D cy ad x) (hd : decode (jn_y x).2.1 pc = .ok (i, 1)) (hz : jm_l2 i a b = some z) (k : js_G p l e R s m args below meth c cells slots Q D cy ad x (pc + 1) A (jL z :: r) hp) : js_G p l e R s m args below meth c cells slots Q D cy ad x pc A (jL b :: jL a :: r) hp := by
  intro H locs ls h1 h2 h3 h4 h5
  have K := k H locs ls h1 h2 h3 h4 h5
  cases i
  case ladd =>
    cases hz
    rw [List.map_cons, show js_v ad (jL (a + b)) = .long (Int64.ofInt a + Int64.ofInt b) from congrArg Value.long (Int64.ofInt_add a b)] at K
    exact lv_ladd C.1 C.2.1 hd K
  case lsub =>
    cases hz
    rw [List.map_cons, show js_v ad (jL (a - b)) = .long (Int64.ofInt a - Int64.ofInt b) from congrArg Value.long (Int64.ofInt_sub a b)] at K
    exact lv_lsub C.1 C.2.1 hd K
  case lmul =>
    cases hz
    rw [List.map_cons, show js_v ad (jL (a * b)) = .long (Int64.ofInt a * Int64.ofInt b) from congrArg Value.long (Int64.ofInt_mul a b)] at K
    exact lv_lmul C.1 C.2.1 hd K
  case land => cases hz; exact lv_land C.1 C.2.1 hd (js_topL K)
  case lor => cases hz; exact lv_lor C.1 C.2.1 hd (js_topL K)
  case ldiv =>
    by_cases h0 : jm_w64 b = 0
    · rw [show jm_l2 .ldiv a b = none from js_bif_t _ h0] at hz; cases hz
    · rw [show jm_l2 .ldiv a b = some (Int64.ofInt a / Int64.ofInt b).toInt from js_bif_f _ h0] at hz
      cases hz
      exact lv_ldiv C.1 C.2.1 hd (js_ne0L h0) (js_topL K)
  case lrem =>
    by_cases h0 : jm_w64 b = 0
    · rw [show jm_l2 .lrem a b = none from js_bif_t _ h0] at hz; cases hz
    · rw [show jm_l2 .lrem a b = some (Int64.ofInt a - Int64.ofInt a / Int64.ofInt b * Int64.ofInt b).toInt from js_bif_f _ h0] at hz
      cases hz
      exact lv_lrem C.1 C.2.1 hd (js_ne0L h0) (js_topL K)
  all_goals (cases hz)
set_option maxHeartbeats 4000000 in
theorem js_f2 {r : List jm_V} {a b z : Nat} {i : Instr} (C : js_Cx p R s m args c cells slots D cy ad x) (hd : decode (jn_y x).2.1 pc = .ok (i, 1)) (hz : jm_f2 i a b = some z) (k : js_G p l e R s m args below meth c cells slots Q D cy ad x (pc + 1) A (jF z :: r) hp) : js_G p l e R s m args below meth c cells slots Q D cy ad x pc A (jF b :: jF a :: r) hp := by
  intro H locs ls h1 h2 h3 h4 h5
  have K := k H locs ls h1 h2 h3 h4 h5
  cases i
  case fadd =>
    by_cases h0 : FP.fadd (UInt32.ofNat a) (UInt32.ofNat b) &&& 0x7fffffff ≤ 0x7f800000
    · rw [show jm_f2 .fadd a b = some (FP.fadd (UInt32.ofNat a) (UInt32.ofNat b)).toNat from js_bif_t _ h0] at hz
      cases hz
      exact lv_fadd C.1 C.2.1 hd h0 (js_topF K)
    · rw [show jm_f2 .fadd a b = none from js_bif_f _ h0] at hz; cases hz
  case fsub =>
    by_cases h0 : FP.fsub (UInt32.ofNat a) (UInt32.ofNat b) &&& 0x7fffffff ≤ 0x7f800000
    · rw [show jm_f2 .fsub a b = some (FP.fsub (UInt32.ofNat a) (UInt32.ofNat b)).toNat from js_bif_t _ h0] at hz
      cases hz
      exact lv_fsub C.1 C.2.1 hd h0 (js_topF K)
    · rw [show jm_f2 .fsub a b = none from js_bif_f _ h0] at hz; cases hz
  case fmul =>
    by_cases h0 : FP.fmul (UInt32.ofNat a) (UInt32.ofNat b) &&& 0x7fffffff ≤ 0x7f800000
    · rw [show jm_f2 .fmul a b = some (FP.fmul (UInt32.ofNat a) (UInt32.ofNat b)).toNat from js_bif_t _ h0] at hz
      cases hz
      exact lv_fmul C.1 C.2.1 hd h0 (js_topF K)
    · rw [show jm_f2 .fmul a b = none from js_bif_f _ h0] at hz; cases hz
  case fdiv =>
    by_cases h0 : FP.fdiv (UInt32.ofNat a) (UInt32.ofNat b) &&& 0x7fffffff ≤ 0x7f800000
    · rw [show jm_f2 .fdiv a b = some (FP.fdiv (UInt32.ofNat a) (UInt32.ofNat b)).toNat from js_bif_t _ h0] at hz
      cases hz
      exact lv_fdiv C.1 C.2.1 hd h0 (js_topF K)
    · rw [show jm_f2 .fdiv a b = none from js_bif_f _ h0] at hz; cases hz
  all_goals (cases hz)
theorem js_in {i : Int} {n : Nat} (h : 0 ≤ jm_w32 i ∧ jm_w32 i < n) : vp_in (Int32.ofInt i) n := vp_in_iff.mpr h
theorem js_ix {i : Int} (h : 0 ≤ jm_w32 i) : (((Int32.ofInt i).toNatClampNeg : Nat) : Int) = jm_w32 i := by
  show (((Int32.ofInt i).toInt.toNat : Nat) : Int) = _
  unfold jm_w32 at *
  omega
theorem js_ce_i {cy : Nat → ClassId} {ad : Nat → Nat} {hp : jm_H} {k : Nat} {n : Int} (h : jm_sh k = .inr (0, n)) : js_ce cy ad hp k = .inl (cy 0, n.toNat, .inl (fun j => Int32.ofInt (hp k j))) := by
  unfold js_ce; rw [h]; rfl
theorem js_ce_z {cy : Nat → ClassId} {ad : Nat → Nat} {hp : jm_H} {k : Nat} {n : Int} (h : jm_sh k = .inr (3, n)) : js_ce cy ad hp k = .inl (cy 3, n.toNat, .inl (fun j => Int32.ofInt (hp k j))) := by
  unfold js_ce; rw [h]; rfl
theorem js_ce_l {cy : Nat → ClassId} {ad : Nat → Nat} {hp : jm_H} {k : Nat} {n : Int} (h : jm_sh k = .inr (1, n)) : js_ce cy ad hp k = .inl (cy 1, n.toNat, .inr (.inl (fun j => Int64.ofInt (hp k j)))) := by
  unfold js_ce; rw [h]; rfl
theorem js_ce_f {cy : Nat → ClassId} {ad : Nat → Nat} {hp : jm_H} {k : Nat} {n : Int} (h : jm_sh k = .inr (2, n)) : js_ce cy ad hp k = .inl (cy 2, n.toNat, .inr (.inr (.inl (fun j => UInt32.ofNat (hp k j).toNat)))) := by
  unfold js_ce; rw [h]; rfl
theorem js_ce_o {cy : Nat → ClassId} {ad : Nat → Nat} {hp : jm_H} {k ci : Nat} {fs : List (Nat ⊕ Nat)} (h : jm_sh k = .inl (ci, fs)) : js_ce cy ad hp k = .inr (ci, js_fs ad hp k fs) := by
  unfold js_ce; rw [h]
theorem js_rng {i n : Int} (h : 0 ≤ jm_w32 i ∧ jm_w32 i < n) : 0 ≤ jm_w32 i ∧ jm_w32 i < (n.toNat : Int) := by omega
/-- what an array is, by its tag -/
theorem js_ar_inv {hp : jm_H} {k t : Nat} {n : Int} {f : Int → Int} (ht : t < 5) (h : jm_ar hp k t = some (n, f)) : (jm_sh k = .inr (t, n) ∧ f = hp k) ∨ (t = 0 ∧ jm_sh k = .inr (10, n) ∧ f = jm_SC k) ∨ (t = 0 ∧ (∃ n0, jm_sh k = .inr (11, n0)) ∧ n = hp 85 0 ∧ f = hp 82) ∨ (t = 4 ∧ jm_sh k = .inr (14, n) ∧ f = jm_SC k) := by
  unfold jm_ar at h
  cases hs : jm_sh k with
  | inl q => rw [hs] at h; cases h
  | inr q =>
    obtain ⟨u, n0⟩ := q
    rw [hs] at h
    dsimp only at h
    cases h1 : Nat.beq u t with
    | true =>
      rw [h1] at h; cases h
      exact Or.inl ⟨by rw [Nat.eq_of_beq_eq_true h1], rfl⟩
    | false =>
      rw [h1] at h
      cases h2 : (Nat.beq t 0 && Nat.beq u 10) with
      | true =>
        rw [h2] at h; cases h
        obtain ⟨a1, a2⟩ := (Bool.and_eq_true _ _).mp h2
        exact Or.inr (Or.inl ⟨Nat.eq_of_beq_eq_true a1, by rw [Nat.eq_of_beq_eq_true a2], rfl⟩)
      | false =>
        rw [h2] at h
        cases h3 : (Nat.beq t 0 && Nat.beq u 11) with
        | true =>
          rw [h3] at h; cases h
          obtain ⟨a1, a2⟩ := (Bool.and_eq_true _ _).mp h3
          exact Or.inr (Or.inr (Or.inl ⟨Nat.eq_of_beq_eq_true a1, ⟨n0, by rw [Nat.eq_of_beq_eq_true a2]⟩, rfl, rfl⟩))
        | false =>
          rw [h3] at h
          cases h4 : (Nat.beq t 4 && Nat.beq u 14) with
          | true =>
            rw [h4] at h; cases h
            obtain ⟨a1, a2⟩ := (Bool.and_eq_true _ _).mp h4
            exact Or.inr (Or.inr (Or.inr ⟨Nat.eq_of_beq_eq_true a1, by rw [Nat.eq_of_beq_eq_true a2], rfl⟩))
          | false => rw [h4] at h; cases h
theorem js_iald {r : List jm_V} {i n : Int} {f : Int → Int} {q : Nat} (C : js_Cx p R s m args c cells slots D cy ad x) (hd : decode (jn_y x).2.1 pc = .ok (.iaload, 1)) (hk : jm_ar hp q 0 = some (n, f)) (hr : 0 ≤ jm_w32 i ∧ jm_w32 i < n) (k : js_G p l e R s m args below meth c cells slots Q D cy ad x (pc + 1) A (jI (f (jm_w32 i)) :: r) hp) : js_G p l e R s m args below meth c cells slots Q D cy ad x pc A (jI i :: jR q :: r) hp := by
  intro H locs ls h1 h2 h3 h4 h5
  have K := k H locs ls h1 h2 h3 h4 h5
  obtain ⟨hx, hb, hml, hown, hts, hK, hinj, ⟨hS0, hN⟩, hR⟩ := C
  rcases js_ar_inv (by decide) hk with ⟨hs, rfl⟩ | ⟨-, hs, rfl⟩ | ⟨-, ⟨n0, hs⟩, rfl, rfl⟩ | ⟨h9, -⟩
  · have hq : q < 78 := js_lt_a hs (by decide)
    have ha : (js_ws cy ad hp)[q]? = some (ad q, .inl (cy 0, n.toNat, .inl (fun j => Int32.ofInt (hp q j)))) := by rw [js_ws_at hq, js_ce_i hs]
    refine va_iald hx hb hK h3 q 0 ha rfl (js_in (js_rng hr)) hd ?_
    rw [js_ix hr.1]
    exact K
  · rcases js_st_a hs (by decide) (by decide) with ⟨-, rfl, hq⟩ | ⟨h9, -⟩ | ⟨h9, -⟩
    · refine va_ti hx hb (hS0.2.1 q (by omega) (by omega)) h4 (js_in (n := 4) hr) rfl hd ?_
      rw [js_ix hr.1]
      exact K
    · cases h9
    · cases h9
  · rcases js_st_a hs (by decide) (by decide) with ⟨h9, -⟩ | ⟨-, rfl⟩ | ⟨h9, -⟩
    · cases h9
    · obtain ⟨z1, z2, z3⟩ := h5
      refine va_ti hx hb z3 h4 (js_in (js_rng hr)) rfl hd ?_
      rw [js_ix hr.1]
      exact K
    · cases h9
  · cases h9
theorem js_zald {r : List jm_V} {i n : Int} {f : Int → Int} {q : Nat} (C : js_Cx p R s m args c cells slots D cy ad x) (hd : decode (jn_y x).2.1 pc = .ok (.baload, 1)) (hk : jm_ar hp q 3 = some (n, f)) (hr : 0 ≤ jm_w32 i ∧ jm_w32 i < n) (k : js_G p l e R s m args below meth c cells slots Q D cy ad x (pc + 1) A (jI (f (jm_w32 i)) :: r) hp) : js_G p l e R s m args below meth c cells slots Q D cy ad x pc A (jI i :: jR q :: r) hp := by
  intro H locs ls h1 h2 h3 h4 h5
  have K := k H locs ls h1 h2 h3 h4 h5
  obtain ⟨hx, hb, hml, hown, hts, hK, hinj, ⟨hS0, hN⟩, hR⟩ := C
  rcases js_ar_inv (by decide) hk with ⟨hs, rfl⟩ | ⟨h9, -⟩ | ⟨h9, -⟩ | ⟨h9, -⟩
  · have hq : q < 78 := js_lt_a hs (by decide)
    have ha : (js_ws cy ad hp)[q]? = some (ad q, .inl (cy 3, n.toNat, .inl (fun j => Int32.ofInt (hp q j)))) := by rw [js_ws_at hq, js_ce_z hs]
    refine va_zald hx hb hK h3 q 3 ha rfl (js_in (js_rng hr)) hd ?_
    rw [js_ix hr.1]
    exact K
  all_goals (cases h9)
theorem js_bald {r : List jm_V} {i n : Int} {f : Int → Int} {q : Nat} (C : js_Cx p R s m args c cells slots D cy ad x) (hd : decode (jn_y x).2.1 pc = .ok (.baload, 1)) (hk : jm_ar hp q 4 = some (n, f)) (hr : 0 ≤ jm_w32 i ∧ jm_w32 i < n) (k : js_G p l e R s m args below meth c cells slots Q D cy ad x (pc + 1) A (jI (f (jm_w32 i)) :: r) hp) : js_G p l e R s m args below meth c cells slots Q D cy ad x pc A (jI i :: jR q :: r) hp := by
  intro H locs ls h1 h2 h3 h4 h5
  have K := k H locs ls h1 h2 h3 h4 h5
  obtain ⟨hx, hb, hml, hown, hts, hK, hinj, ⟨hS0, hN⟩, hR⟩ := C
  rcases js_ar_inv (by decide) hk with ⟨hs, rfl⟩ | ⟨h9, -⟩ | ⟨h9, -⟩ | ⟨-, hs, rfl⟩
  · exfalso
    have hq : q < 78 := js_lt_a hs (by decide)
    have hall : (List.range 78).all (fun k => match jm_sh k with | .inr (t, _) => !(Nat.beq t 4) | _ => true) = true := by decide +kernel
    have h9 := List.all_eq_true.mp hall q (List.mem_range.mpr hq)
    rw [hs] at h9
    cases h9
  · cases h9
  · cases h9
  · rcases js_st_a hs (by decide) (by decide) with ⟨h9, -⟩ | ⟨h9, -⟩ | ⟨-, rfl, rfl⟩
    · cases h9
    · cases h9
    · refine va_tb hx hb hS0.2.2.2.2.2.2 h4 (js_in (n := 5) hr) rfl hd ?_
      rw [js_ix hr.1]
      exact K
theorem js_lald {r : List jm_V} {i n : Int} {f : Int → Int} {q : Nat} (C : js_Cx p R s m args c cells slots D cy ad x) (hd : decode (jn_y x).2.1 pc = .ok (.laload, 1)) (hk : jm_ar hp q 1 = some (n, f)) (hr : 0 ≤ jm_w32 i ∧ jm_w32 i < n) (k : js_G p l e R s m args below meth c cells slots Q D cy ad x (pc + 1) A (jL (f (jm_w32 i)) :: r) hp) : js_G p l e R s m args below meth c cells slots Q D cy ad x pc A (jI i :: jR q :: r) hp := by
  intro H locs ls h1 h2 h3 h4 h5
  have K := k H locs ls h1 h2 h3 h4 h5
  obtain ⟨hx, hb, hml, hown, hts, hK, hinj, ⟨hS0, hN⟩, hR⟩ := C
  rcases js_ar_inv (by decide) hk with ⟨hs, rfl⟩ | ⟨h9, -⟩ | ⟨h9, -⟩ | ⟨h9, -⟩
  · have hq : q < 78 := js_lt_a hs (by decide)
    have ha : (js_ws cy ad hp)[q]? = some (ad q, .inl (cy 1, n.toNat, .inr (.inl (fun j => Int64.ofInt (hp q j))))) := by rw [js_ws_at hq, js_ce_l hs]
    refine va_lald hx hb hK h3 q 1 ha rfl (js_in (js_rng hr)) hd ?_
    rw [js_ix hr.1]
    exact K
  all_goals (cases h9)
theorem js_fald {r : List jm_V} {i n : Int} {f : Int → Int} {q : Nat} (C : js_Cx p R s m args c cells slots D cy ad x) (hd : decode (jn_y x).2.1 pc = .ok (.faload, 1)) (hk : jm_ar hp q 2 = some (n, f)) (hr : 0 ≤ jm_w32 i ∧ jm_w32 i < n) (k : js_G p l e R s m args below meth c cells slots Q D cy ad x (pc + 1) A (jF (f (jm_w32 i)).toNat :: r) hp) : js_G p l e R s m args below meth c cells slots Q D cy ad x pc A (jI i :: jR q :: r) hp := by
  intro H locs ls h1 h2 h3 h4 h5
  have K := k H locs ls h1 h2 h3 h4 h5
  obtain ⟨hx, hb, hml, hown, hts, hK, hinj, ⟨hS0, hN⟩, hR⟩ := C
  rcases js_ar_inv (by decide) hk with ⟨hs, rfl⟩ | ⟨h9, -⟩ | ⟨h9, -⟩ | ⟨h9, -⟩
  · have hq : q < 78 := js_lt_a hs (by decide)
    have ha : (js_ws cy ad hp)[q]? = some (ad q, .inl (cy 2, n.toNat, .inr (.inr (.inl (fun j => UInt32.ofNat (hp q j).toNat))))) := by rw [js_ws_at hq, js_ce_f hs]
    refine va_fald hx hb hK h3 q 2 ha rfl (js_in (js_rng hr)) hd ?_
    rw [js_ix hr.1]
    exact K
  all_goals (cases h9)
end Rows3
end
section
section Rows4
variable {p : Program} {l : Launch} {e : Env} {R : Room} {s : State} {m : MethodId} {args : Array Value} {below : List Frame} {meth : Method} {c : Code} {cells slots : Nat} {Q : State → Prop} {D : va_G} {cy : Nat → ClassId} {ad : Nat → Nat} {x pc : Nat} {A : List jm_V} {hp : jm_H}
theorem js_Sc_hs {k : Nat} {j v : Int} (hk : k < 78) (h : js_Sc ad hp s) : js_Sc ad (jm_hs hp k j v) s := by
  unfold js_Sc at *
  rw [js_hs_ne (show 85 ≠ k by omega), js_hs_ne (show 82 ≠ k by omega)]
  exact h
theorem js_upd {α : Type} {i : Int} {g : Int → α} {v : α} (h0 : 0 ≤ jm_w32 i) : (fun j : Nat => if j = (Int32.ofInt i).toNatClampNeg then v else g j) = (fun j : Nat => if (j : Int) = jm_w32 i then v else g j) := by
  have h1 := js_ix h0
  funext j
  by_cases hj : (j : Int) = jm_w32 i
  · rw [if_pos (by omega), if_pos hj]
  · rw [if_neg (by omega), if_neg hj]
theorem js_hsf {α : Type} (mk : Int → α) {q : Nat} {i z : Int} : (fun j : Nat => mk (jm_hs hp q i z q j)) = (fun j : Nat => if (j : Int) = i then mk z else mk (hp q j)) := by
  funext j
  rw [js_hs_eq]
  by_cases h : (j : Int) = i <;> simp [h]
theorem js_iast {r : List jm_V} {i n z : Int} {q : Nat} (C : js_Cx p R s m args c cells slots D cy ad x) (hd : decode (jn_y x).2.1 pc = .ok (.iastore, 1)) (hs : jm_sh q = .inr (0, n)) (hr : 0 ≤ jm_w32 i ∧ jm_w32 i < n) (k : js_G p l e R s m args below meth c cells slots Q D cy ad x (pc + 1) A r (jm_hs hp q (jm_w32 i) z)) : js_G p l e R s m args below meth c cells slots Q D cy ad x pc A (jI z :: jI i :: jR q :: r) hp := by
  intro H locs ls h1 h2 h3 h4 h5
  obtain ⟨hx, hb, hml, hown, hts, hK, hinj, ⟨hS0, hN⟩, hR⟩ := C
  have hq : q < 78 := js_lt_a hs (by decide)
  have ha : (js_ws cy ad hp)[q]? = some (ad q, .inl (cy 0, n.toNat, .inl (fun j => Int32.ofInt (hp q j)))) := by rw [js_ws_at hq, js_ce_i hs]
  refine va_iast hx hb hK h3 (js_D hinj) h4 q 0 ha rfl (js_in (js_rng hr)) hd (fun H1 locs1 g1 g2 g3 => ?_)
  rw [js_ws_set (j := jm_w32 i) (v := z) (by
    rw [js_ce_i hs, js_hsf (fun z => Int32.ofInt z)]
    unfold upd
    rw [js_upd (g := fun z => Int32.ofInt (hp q z)) hr.1])] at g1
  exact k H1 locs1 ls h1 h2 g1 g3 (js_Sc_hs hq h5)
theorem js_nz {z : Int} (h : z = 0 ∨ z = 1) : vp_nar .boolean (Int32.ofInt z) = Int32.ofInt z := by
  rcases h with rfl | rfl <;> rfl
theorem js_zast {r : List jm_V} {i n z : Int} {q : Nat} (C : js_Cx p R s m args c cells slots D cy ad x) (hd : decode (jn_y x).2.1 pc = .ok (.bastore, 1)) (hs : jm_sh q = .inr (3, n)) (hz : z = 0 ∨ z = 1) (hr : 0 ≤ jm_w32 i ∧ jm_w32 i < n) (k : js_G p l e R s m args below meth c cells slots Q D cy ad x (pc + 1) A r (jm_hs hp q (jm_w32 i) z)) : js_G p l e R s m args below meth c cells slots Q D cy ad x pc A (jI z :: jI i :: jR q :: r) hp := by
  intro H locs ls h1 h2 h3 h4 h5
  obtain ⟨hx, hb, hml, hown, hts, hK, hinj, ⟨hS0, hN⟩, hR⟩ := C
  have hq : q < 78 := js_lt_a hs (by decide)
  have ha : (js_ws cy ad hp)[q]? = some (ad q, .inl (cy 3, n.toNat, .inl (fun j => Int32.ofInt (hp q j)))) := by rw [js_ws_at hq, js_ce_z hs]
  refine va_zast hx hb hK h3 (js_D hinj) h4 q 3 ha rfl (js_in (js_rng hr)) hd (fun H1 locs1 g1 g2 g3 => ?_)
  rw [js_ws_set (j := jm_w32 i) (v := z) (by
    rw [js_ce_z hs, js_hsf (fun z => Int32.ofInt z), js_nz hz]
    unfold upd
    rw [js_upd (g := fun z => Int32.ofInt (hp q z)) hr.1])] at g1
  exact k H1 locs1 ls h1 h2 g1 g3 (js_Sc_hs hq h5)
theorem js_last {r : List jm_V} {i n z : Int} {q : Nat} (C : js_Cx p R s m args c cells slots D cy ad x) (hd : decode (jn_y x).2.1 pc = .ok (.lastore, 1)) (hs : jm_sh q = .inr (1, n)) (hr : 0 ≤ jm_w32 i ∧ jm_w32 i < n) (k : js_G p l e R s m args below meth c cells slots Q D cy ad x (pc + 1) A r (jm_hs hp q (jm_w32 i) z)) : js_G p l e R s m args below meth c cells slots Q D cy ad x pc A (jL z :: jI i :: jR q :: r) hp := by
  intro H locs ls h1 h2 h3 h4 h5
  obtain ⟨hx, hb, hml, hown, hts, hK, hinj, ⟨hS0, hN⟩, hR⟩ := C
  have hq : q < 78 := js_lt_a hs (by decide)
  have ha : (js_ws cy ad hp)[q]? = some (ad q, .inl (cy 1, n.toNat, .inr (.inl (fun j => Int64.ofInt (hp q j))))) := by rw [js_ws_at hq, js_ce_l hs]
  refine va_last hx hb hK h3 (js_D hinj) h4 q 1 ha rfl (js_in (js_rng hr)) hd (fun H1 locs1 g1 g2 g3 => ?_)
  rw [js_ws_set (j := jm_w32 i) (v := z) (by
    rw [js_ce_l hs, js_hsf (fun z => Int64.ofInt z)]
    first | unfold vp_updL | unfold vf_upd
    rw [js_upd (g := fun z => Int64.ofInt (hp q z)) hr.1])] at g1
  exact k H1 locs1 ls h1 h2 g1 g3 (js_Sc_hs hq h5)
theorem js_fast {r : List jm_V} {i n : Int} {z : Nat} {q : Nat} (C : js_Cx p R s m args c cells slots D cy ad x) (hd : decode (jn_y x).2.1 pc = .ok (.fastore, 1)) (hs : jm_sh q = .inr (2, n)) (hr : 0 ≤ jm_w32 i ∧ jm_w32 i < n) (k : js_G p l e R s m args below meth c cells slots Q D cy ad x (pc + 1) A r (jm_hs hp q (jm_w32 i) (z : Int))) : js_G p l e R s m args below meth c cells slots Q D cy ad x pc A (jF z :: jI i :: jR q :: r) hp := by
  intro H locs ls h1 h2 h3 h4 h5
  obtain ⟨hx, hb, hml, hown, hts, hK, hinj, ⟨hS0, hN⟩, hR⟩ := C
  have hq : q < 78 := js_lt_a hs (by decide)
  have ha : (js_ws cy ad hp)[q]? = some (ad q, .inl (cy 2, n.toNat, .inr (.inr (.inl (fun j => UInt32.ofNat (hp q j).toNat))))) := by rw [js_ws_at hq, js_ce_f hs]
  refine va_fast hx hb hK h3 (js_D hinj) h4 q 2 ha rfl (js_in (js_rng hr)) hd (fun H1 locs1 g1 g2 g3 => ?_)
  rw [js_ws_set (j := jm_w32 i) (v := (z : Int)) (by
    rw [js_ce_f hs, js_hsf (fun z => UInt32.ofNat z.toNat)]
    unfold vf_upd
    rw [js_upd (g := fun z => UInt32.ofNat (hp q z).toNat) hr.1]
    rfl)] at g1
  exact k H1 locs1 ls h1 h2 g1 g3 (js_Sc_hs hq h5)
/-- lengths of the world's arrays are no negative ones, tags are four -/
theorem js_tag {q t : Nat} {n : Int} (hq : q < 78) (hs : jm_sh q = .inr (t, n)) : t < 4 ∧ 0 ≤ n := by
  have hall : (List.range 78).all (fun k => match jm_sh k with | .inr (t, n) => Nat.blt t 4 && decide (0 ≤ n) | _ => true) = true := by decide +kernel
  have h9 := List.all_eq_true.mp hall q (List.mem_range.mpr hq)
  rw [hs] at h9
  simpa using h9
theorem js_ofNat {n : Int} (h : 0 ≤ n) : Int32.ofNat n.toNat = Int32.ofInt n := by
  rw [← Int32.ofInt_eq_ofNat]
  congr 1
  omega
theorem js_alen {r : List jm_V} {n : Int} {q : Nat} (C : js_Cx p R s m args c cells slots D cy ad x) (hd : decode (jn_y x).2.1 pc = .ok (.arraylength, 1)) (hk : jm_le hp q = some n) (k : js_G p l e R s m args below meth c cells slots Q D cy ad x (pc + 1) A (jI n :: r) hp) : js_G p l e R s m args below meth c cells slots Q D cy ad x pc A (jR q :: r) hp := by
  intro H locs ls h1 h2 h3 h4 h5
  have K := k H locs ls h1 h2 h3 h4 h5
  obtain ⟨hx, hb, hml, hown, hts, hK, hinj, ⟨hS0, hN⟩, hR⟩ := C
  unfold jm_le at hk
  cases hs : jm_sh q with
  | inl o => rw [hs] at hk; cases hk
  | inr o =>
    obtain ⟨u, n0⟩ := o
    rw [hs] at hk
    dsimp only at hk
    by_cases hq : q < 78
    · obtain ⟨ht, hn⟩ := js_tag hq hs
      have hu : Nat.beq u 11 = false := by
        cases hb : Nat.beq u 11 with
        | false => rfl
        | true => have := Nat.eq_of_beq_eq_true hb; omega
      have hv : Nat.blt u 50 = true := by simp only [Nat.blt_eq]; omega
      rw [hu, hv] at hk
      cases hk
      have hce : js_ce cy ad hp q = .inl (cy u, n.toNat, js_ar hp q u) := by unfold js_ce; rw [hs]
      have ha : (js_ws cy ad hp)[q]? = some (ad q, .inl (cy u, n.toNat, js_ar hp q u)) := by rw [js_ws_at hq, hce]
      have : u = 0 ∨ u = 1 ∨ u = 2 ∨ u = 3 := by omega
      rcases this with rfl | rfl | rfl | rfl
      · exact va_alen hx hb hK h3 q 0 ha (ty := .int) rfl (js_ofNat hn) hd K
      · exact va_alen hx hb hK h3 q 1 ha (ty := .long) rfl (js_ofNat hn) hd K
      · exact va_alen hx hb hK h3 q 2 ha (ty := .float) rfl (js_ofNat hn) hd K
      · exact va_alen hx hb hK h3 q 3 ha (ty := .boolean) rfl (js_ofNat hn) hd K
    · have : q = 78 ∨ q = 79 ∨ q = 80 ∨ q = 81 ∨ q = 82 ∨ q = 83 ∨ q = 84 := by
        by_cases h85 : q < 85
        · omega
        · have h9 : jm_sh q = .inr (99, 0) := by
            unfold jm_sh
            rw [List.getD_eq_getElem?_getD, List.getElem?_eq_none (by show 85 ≤ q; omega)]
            rfl
          rw [h9] at hs; cases hs; cases hk
      rcases this with rfl | rfl | rfl | rfl | rfl | rfl | rfl
      · cases hs; cases hk; exact va_tlen hx hb (hS0.2.1 78 (by omega) (by omega)) h4 rfl hd K
      · cases hs; cases hk; exact va_tlen hx hb (hS0.2.1 79 (by omega) (by omega)) h4 rfl hd K
      · cases hs; cases hk; exact va_tlen hx hb (hS0.2.1 80 (by omega) (by omega)) h4 rfl hd K
      · cases hs; cases hk; exact va_tlen hx hb (hS0.2.1 81 (by omega) (by omega)) h4 rfl hd K
      · cases hs; cases hk; obtain ⟨z1, z2, z3⟩ := h5; exact va_tlen hx hb z3 h4 (js_ofNat z1) hd K
      · cases hs
      · cases hs; cases hk; exact va_tlen hx hb hS0.2.2.2.2.2.2 h4 rfl hd K
/-- the shapes' objects are those of the classes -/
def js_shk : Bool := (List.range 78).all (fun k => match jm_sh k with
  | .inl (c, fs) => (match jn_cl[c]? with
    | some q => Nat.beq fs.length q.2.2 && (List.range fs.length).all (fun j => match fs[j]? with
      | some (.inl t) => decide (parseFieldDescriptor (q.2.1 j).2.2.1 = some (if t = 1 then .long else if t = 3 then .boolean else .int)) && !((q.2.1 j).2.2.2) && (Nat.beq t 0 || Nat.beq t 1 || Nat.beq t 3)
      | some (.inr _) => true
      | none => false)
    | none => false)
  | .inr _ => true)
theorem js_shk_ok : js_shk = true := by decide +kernel
theorem js_shape {k ci : Nat} {fs : List (Nat ⊕ Nat)} (hk : k < 78) (hs : jm_sh k = .inl (ci, fs)) : ∃ q, jn_cl[ci]? = some q ∧ fs.length = q.2.2 ∧ ∀ j t, fs[j]? = some (.inl t) → parseFieldDescriptor (q.2.1 j).2.2.1 = some (if t = 1 then .long else if t = 3 then .boolean else .int) ∧ (q.2.1 j).2.2.2 = false ∧ (t = 0 ∨ t = 1 ∨ t = 3) := by
  have h9 := List.all_eq_true.mp js_shk_ok k (List.mem_range.mpr hk)
  rw [hs] at h9
  dsimp only at h9
  cases hq : jn_cl[ci]? with
  | none => rw [hq] at h9; cases h9
  | some q =>
    rw [hq] at h9
    dsimp only at h9
    obtain ⟨a1, a2⟩ := (Bool.and_eq_true _ _).mp h9
    refine ⟨q, rfl, Nat.eq_of_beq_eq_true a1, fun j t hj => ?_⟩
    have hl : j < fs.length := (List.getElem?_eq_some_iff.mp hj).1
    have a3 := List.all_eq_true.mp a2 j (List.mem_range.mpr hl)
    rw [hj] at a3
    dsimp only at a3
    simp only [Bool.and_eq_true, decide_eq_true_eq, Bool.not_eq_true', Bool.or_eq_true] at a3
    refine ⟨a3.1.1, a3.1.2, ?_⟩
    rcases a3.2 with (b | b) | b
    · exact Or.inl (Nat.eq_of_beq_eq_true b)
    · exact Or.inr (Or.inl (Nat.eq_of_beq_eq_true b))
    · exact Or.inr (Or.inr (Nat.eq_of_beq_eq_true b))
theorem js_fs_at {k j : Nat} {fs : List (Nat ⊕ Nat)} {t : Nat ⊕ Nat} (h : fs[j]? = some t) : (js_fs ad hp k fs)[j]? = some (js_fv ad hp k j t) := by
  have hl : j < fs.length := (List.getElem?_eq_some_iff.mp h).1
  unfold js_fs
  rw [List.getElem?_map, List.getElem?_range hl]
  show some (js_fv ad hp k j (fs.getD j (.inl 0))) = _
  rw [List.getD_eq_getElem?_getD, h]
  rfl
theorem js_fs_len {k : Nat} {fs : List (Nat ⊕ Nat)} : (js_fs ad hp k fs).length = fs.length := by simp [js_fs]
theorem js_wsall (ci : Nat) (q : vw_C) (h : jn_cl[ci]? = some q) : ∀ w ∈ u_ws q.1 q.2.1 q.2.2, w ∈ lw_tbl := by
  match ci, h with
  | 0, h => cases h; exact jn_ws0
  | 1, h => cases h; exact jn_ws1
  | 2, h => cases h; exact jn_ws2
  | 3, h => cases h; exact jn_ws3
  | 4, h => cases h; exact jn_ws4
  | 5, h => cases h; exact jn_ws5
  | 6, h => cases h; exact jn_ws6
  | 7, h => cases h; exact jn_ws7
  | 8, h => cases h; exact jn_ws8
  | n + 9, h => simp [jn_cl] at h
theorem js_wsT (ci : Nat) (q : vw_C) (h : jn_cl[ci]? = some q) : ∀ w ∈ u_ws q.1 q.2.1 q.2.2, w ∈ js_T := by
  intro w hw
  refine js_t (js_wsall ci q h w hw) ?_
  obtain ⟨k, -, rfl⟩ := List.mem_map.mp hw
  unfold u_lay
  split <;> rfl
theorem js_tyall (ci : Nat) (q : vw_C) (h : jn_cl[ci]? = some q) : ∃ ty : Nat → FieldType, (∀ k, k < q.2.2 → parseFieldDescriptor (q.2.1 k).2.2.1 = some (ty k)) ∧ (∀ a, a < q.2.2 → ∀ b, b < q.2.2 → a ≠ b → (q.2.1 a).2.1 ≠ (q.2.1 b).2.1) := by
  match ci, h with
  | 0, h => cases h; exact ⟨_, jn_tyok0, jn_nm0⟩
  | 1, h => cases h; exact ⟨_, jn_tyok1, jn_nm1⟩
  | 2, h => cases h; exact ⟨_, jn_tyok2, jn_nm2⟩
  | 3, h => cases h; exact ⟨_, jn_tyok3, jn_nm3⟩
  | 4, h => cases h; exact ⟨_, jn_tyok4, jn_nm4⟩
  | 5, h => cases h; exact ⟨_, jn_tyok5, jn_nm5⟩
  | 6, h => cases h; exact ⟨_, jn_tyok6, jn_nm6⟩
  | 7, h => cases h; exact ⟨_, jn_tyok7, jn_nm7⟩
  | 8, h => cases h; exact ⟨_, jn_tyok8, jn_nm8⟩
  | n + 9, h => simp [jn_cl] at h
/-- a field of an object of the world is read -/
theorem js_getf {r : List jm_V} {idx ci j k : Nat} {fs : List (Nat ⊕ Nat)} {t : Nat ⊕ Nat} {v : jm_V} (C : js_Cx p R s m args c cells slots D cy ad x) (hd : decode (jn_y x).2.1 pc = .ok (.getfield idx, 3)) (hf : jm_pf jm_FL (jm_me x).1 idx = some (ci, j)) (hk : k < 78) (hs : jm_sh k = .inl (ci, fs)) (ht : fs[j]? = some t) (hv : js_fv ad hp k j t = js_v ad v) (kk : js_G p l e R s m args below meth c cells slots Q D cy ad x (pc + 3) A (v :: r) hp) : js_G p l e R s m args below meth c cells slots Q D cy ad x pc A (jR k :: r) hp := by
  intro H locs ls h1 h2 h3 h4 h5
  have K := kk H locs ls h1 h2 h3 h4 h5
  obtain ⟨hx, hb, hml, hown, hts, hK, hinj, ⟨hS0, hN⟩, hR⟩ := C
  have hF := jn_pF (jm_me x).1 _ (jn_pf_mem hf)
  obtain ⟨⟨Cn, T, N⟩, hcl, hlen, -⟩ := js_shape hk hs
  unfold jn_okF at hF
  rw [hcl] at hF
  obtain ⟨hj, hdecl, hl⟩ := hF
  dsimp only at hj hdecl hl
  have ha : (js_ws cy ad hp)[k]? = some (ad k, .inr (ci, js_fs ad hp k fs)) := by rw [js_ws_at hk, js_ce_o hs]
  have hat : (js_fs ad hp k fs)[j]? = some (js_v ad v) := by rw [js_fs_at ht, hv]
  rcases hl with hl | ⟨host, hl⟩
  · exact va_get hx hb hts (js_wsT ci _ hcl) hown hK h3 k ha hcl j hj (hts _ (js_t hl rfl)) (fun y hy => by rw [hdecl] at hy; exact hy) hat hd K
  · exact va_getN hx hb hts (js_wsT ci _ hcl) hown hK h3 k ha hcl j hj (hts _ (js_t hl rfl)) (fun y hy => by rw [hdecl] at hy; exact hy) hat hd K
theorem js_getS {r : List jm_V} {idx j : Nat} {v : jm_V} (C : js_Cx p R s m args c cells slots D cy ad x) (hd : decode (jn_y x).2.1 pc = .ok (.getfield idx, 3)) (hf : jm_pf jm_FL (jm_me x).1 idx = some (10, j)) (hv : (j = 0 ∧ v = jI 0) ∨ (j = 1 ∧ v = jR 84)) (kk : js_G p l e R s m args below meth c cells slots Q D cy ad x (pc + 3) A (v :: r) hp) : js_G p l e R s m args below meth c cells slots Q D cy ad x pc A (jR 83 :: r) hp := by
  intro H locs ls h1 h2 h3 h4 h5
  have K := kk H locs ls h1 h2 h3 h4 h5
  obtain ⟨hx, hb, hml, hown, hts, hK, hinj, ⟨hS0, hN⟩, hR⟩ := C
  have hF := jn_pF (jm_me x).1 _ (jn_pf_mem hf)
  obtain ⟨-, hF⟩ : (10 : Nat) = 10 ∧ ((j = 0 ∧ Cond.fieldLink (jn_own (jm_me x).1) idx "java/lang/String" "coder" "B" ∈ lw_tbl) ∨ (j = 1 ∧ Cond.fieldLink (jn_own (jm_me x).1) idx "java/lang/String" "value" "[B" ∈ lw_tbl)) := hF
  rcases hv with ⟨rfl, rfl⟩ | ⟨rfl, rfl⟩
  · rcases hF with ⟨-, hF⟩ | ⟨h9, -⟩
    · exact vk_getf hx hb hS0.2.2.2.2.1 h4 hown (hts _ (js_t hF rfl)) (fun _ h => h) hd K
    · cases h9
  · rcases hF with ⟨h9, -⟩ | ⟨-, hF⟩
    · cases h9
    · exact vk_getf hx hb hS0.2.2.2.2.2.1 h4 hown (hts _ (js_t hF rfl)) (fun _ h => h) hd K
theorem js_fs_set {k j : Nat} {fs : List (Nat ⊕ Nat)} {t : Nat} {z : Int} (h : fs[j]? = some (.inl t)) : (js_fs ad hp k fs).set j (if t = 1 then .long (Int64.ofInt z) else .int (Int32.ofInt z)) = js_fs ad (jm_hs hp k j z) k fs := by
  have hl : j < fs.length := (List.getElem?_eq_some_iff.mp h).1
  apply List.ext_getElem?
  intro i
  by_cases hi : i < fs.length
  · obtain ⟨u, hu⟩ : ∃ u, fs[i]? = some u := ⟨fs[i], List.getElem?_eq_getElem hi⟩
    rw [js_fs_at hu]
    by_cases hij : i = j
    · subst hij
      rw [List.getElem?_set_self (by rw [js_fs_len]; exact hi)]
      rw [h] at hu
      cases hu
      unfold js_fv
      dsimp only
      rw [js_hs_eq, if_pos rfl]
    · rw [List.getElem?_set_ne (fun e => hij e.symm), js_fs_at hu]
      rcases u with u | u
      · unfold js_fv
        dsimp only
        rw [js_hs_eq, if_neg (show ¬ ((i : Int) = (j : Int)) by omega)]
      · rfl
  · rw [List.getElem?_eq_none (by rw [List.length_set, js_fs_len]; omega), List.getElem?_eq_none (by rw [js_fs_len]; omega)]
/-- a field of an object of the world is written -/
theorem js_putf {r : List jm_V} {idx ci j k t : Nat} {fs : List (Nat ⊕ Nat)} {z : Int} {v : jm_V} (C : js_Cx p R s m args c cells slots D cy ad x) (hd : decode (jn_y x).2.1 pc = .ok (.putfield idx, 3)) (hf : jm_pf jm_FL (jm_me x).1 idx = some (ci, j)) (hk : k < 78) (hs : jm_sh k = .inl (ci, fs)) (ht : fs[j]? = some (.inl t)) (hv : (t = 0 ∧ v = jI z) ∨ (t = 3 ∧ v = jI z ∧ (z = 0 ∨ z = 1)) ∨ (t = 1 ∧ v = jL z)) (kk : js_G p l e R s m args below meth c cells slots Q D cy ad x (pc + 3) A r (jm_hs hp k j z)) : js_G p l e R s m args below meth c cells slots Q D cy ad x pc A (v :: jR k :: r) hp := by
  intro H locs ls h1 h2 h3 h4 h5
  obtain ⟨hx, hb, hml, hown, hts, hK, hinj, ⟨hS0, hN⟩, hR⟩ := C
  have hF := jn_pF (jm_me x).1 _ (jn_pf_mem hf)
  obtain ⟨⟨Cn, T, N⟩, hcl, hlen, hty⟩ := js_shape hk hs
  obtain ⟨d1, d2, -⟩ := hty j t ht
  dsimp only at d1 d2
  unfold jn_okF at hF
  rw [hcl] at hF
  obtain ⟨hj, hdecl, hl⟩ := hF
  dsimp only at hj hdecl hl
  obtain ⟨ty0, hty0, hnm⟩ := js_tyall ci _ hcl
  have ha : (js_ws cy ad hp)[k]? = some (ad k, .inr (ci, js_fs ad hp k fs)) := by rw [js_ws_at hk, js_ce_o hs]
  have hval : js_v ad v = (if t = 1 then .long (Int64.ofInt z) else .int (Int32.ofInt z)) := by
    rcases hv with ⟨rfl, rfl⟩ | ⟨rfl, rfl, -⟩ | ⟨rfl, rfl⟩ <;> rfl
  have hn : narrow (if t = 1 then .long else if t = 3 then .boolean else .int) (js_v ad v) = js_v ad v := by
    rcases hv with ⟨rfl, rfl⟩ | ⟨rfl, rfl, rfl | rfl⟩ | ⟨rfl, rfl⟩ <;> rfl
  have hfit : fits (if t = 1 then .long else if t = 3 then .boolean else .int) (js_v ad v) = true := by
    rcases hv with ⟨rfl, rfl⟩ | ⟨rfl, rfl, rfl | rfl⟩ | ⟨rfl, rfl⟩ <;> rfl
  have hlj : j < (js_fs ad hp k fs).length := by rw [js_fs_len]; exact (List.getElem?_eq_some_iff.mp ht).1
  have fin : ∀ (H1 : Heap) (locs1 : List Loc), va_P D jn_cl ((js_ws cy ad hp).set k (ad k, .inr (ci, (js_fs ad hp k fs).set j (js_v ad v)))) H1 → va_S (js_A ad) s.heap H1 locs1 → W p l e R s m args below meth c H1 locs1 cells slots Q (F0 m (pc + 3) ls (r.map (js_v ad))) := by
    intro H1 locs1 g1 g3
    rw [js_ws_set (j := (j : Int)) (v := z) (by rw [js_ce_o hs, hval, js_fs_set ht])] at g1
    exact kk H1 locs1 ls h1 h2 g1 g3 (js_Sc_hs hk h5)
  rcases hl with hl | ⟨host, hl⟩
  · exact va_put hx hb hts (js_wsT ci _ hcl) ty0 hty0 hnm hown hK h3 (js_D hinj) h4 k ha hcl j hj (hts _ (js_t hl rfl)) (fun y hy => by rw [hdecl] at hy; exact hy) d2 d1 hn hfit hlj hd (fun H1 locs1 g1 g2 g3 => fin H1 locs1 g1 g3)
  · exact va_putN hx hb hts (js_wsT ci _ hcl) ty0 hty0 hnm hown hK h3 (js_D hinj) h4 k ha hcl j hj (hts _ (js_t hl rfl)) (fun y hy => by rw [hdecl] at hy; exact hy) d2 d1 hn hfit hlj hd (fun H1 locs1 g1 g2 g3 => fin H1 locs1 g1 g3)
/-- statics -/
theorem js_gets {r : List jm_V} {idx : Nat} {v : jm_V} (C : js_Cx p R s m args c cells slots D cy ad x) (hd : decode (jn_y x).2.1 pc = .ok (.getstatic idx, 3)) (hf : jm_pf jm_ST (jm_me x).1 idx = some v) (kk : js_G p l e R s m args below meth c cells slots Q D cy ad x (pc + 3) A (v :: r) hp) : js_G p l e R s m args below meth c cells slots Q D cy ad x pc A r hp := by
  intro H locs ls h1 h2 h3 h4 h5
  have K := kk H locs ls h1 h2 h3 h4 h5
  obtain ⟨hx, hb, hml, hown, hts, hK, hinj, ⟨hS0, hN⟩, hR⟩ := C
  obtain ⟨Cn, n, d, hl, hm⟩ := jn_pS (jm_me x).1 _ (jn_pf_mem hf)
  exact va_gets hx hb (hS0.1 _ hm) h4 hown (hts _ (js_t hl rfl)) (fun _ h => h) hd K
/-- ldc_w of a float constant -/
theorem js_ldcwF {T : State} {locs : List Loc} (X : Stand p l e R s m args below meth c T locs cells slots) (hexec : p.tables.exec = Jvm.exec) {own : String} {index : Nat} {v : UInt32} (hown : s.vm.findClass own = some m.cls)
    (hconst : (Cond.constantFloat own index v).before args s = true) {g : JFrame} (hg : g.method = m) (hdg : decode c.code g.pc = .ok (.ldc_w index, 3)) :
    ∀ target, Steps p.tables e below (T.setTop { g with pc := g.pc + 3, stack := .float v :: g.stack }) target → Steps p.tables e below (T.setTop g) target := by
  obtain ⟨k, cf, hk, hcf, hcp⟩ := Cond.constantFloat_spec hown hconst
  obtain ⟨k', hk', he⟩ := X.warmed.alike.2.2 _ _ hk
  intro target hrest
  subst hg
  jvm_step X.here [hexec, hdg, ldc_w.wp_float (s := T) (f := g) X.here.top hk' (by rw [he]; exact hcf) hcp]
  exact hrest
theorem js_ldc {r : List jm_V} {idx : Nat} {v : jm_V} (C : js_Cx p R s m args c cells slots D cy ad x) (hd : decode (jn_y x).2.1 pc = .ok (.ldc idx, 2)) (hf : jm_k1 (jm_pf jm_CS (jm_me x).1 idx) = some v) (kk : js_G p l e R s m args below meth c cells slots Q D cy ad x (pc + 2) A (v :: r) hp) : js_G p l e R s m args below meth c cells slots Q D cy ad x pc A r hp := by
  intro H locs ls h1 h2 h3 h4 h5
  have K := kk H locs ls h1 h2 h3 h4 h5
  obtain ⟨hx, hb, hml, hown, hts, hK, hinj, ⟨hS0, hN⟩, hR⟩ := C
  cases hq : jm_pf jm_CS (jm_me x).1 idx with
  | none => rw [hq] at hf; cases hf
  | some w =>
    rw [hq] at hf
    have hc := jn_pC (jm_me x).1 _ (jn_pf_mem hq)
    rcases w with z | z | z | z | z
    · cases hf; exact lv_ldc hx hb hown (hts _ (js_t hc rfl)) hd K
    · cases hf
    · cases hf; exact lv_ldcf hx hb hown (hts _ (js_t hc rfl)) hd K
    · cases hf
      obtain ⟨c1, c2, c3⟩ := hc
      dsimp only at c2 c3
      subst c2; subst c3
      rw [c1] at hown
      exact va_ldcS hx hb hown hS0.2.2.1 hd K
    · cases hf
theorem js_ldc_w {r : List jm_V} {idx : Nat} {v : jm_V} (C : js_Cx p R s m args c cells slots D cy ad x) (hd : decode (jn_y x).2.1 pc = .ok (.ldc_w idx, 3)) (hf : jm_k3 (jm_pf jm_CS (jm_me x).1 idx) = some v) (kk : js_G p l e R s m args below meth c cells slots Q D cy ad x (pc + 3) A (v :: r) hp) : js_G p l e R s m args below meth c cells slots Q D cy ad x pc A r hp := by
  intro H locs ls h1 h2 h3 h4 h5
  have K := kk H locs ls h1 h2 h3 h4 h5
  obtain ⟨hx, hb, hml, hown, hts, hK, hinj, ⟨hS0, hN⟩, hR⟩ := C
  cases hq : jm_pf jm_CS (jm_me x).1 idx with
  | none => rw [hq] at hf; cases hf
  | some w =>
    rw [hq] at hf
    have hc := jn_pC (jm_me x).1 _ (jn_pf_mem hq)
    rcases w with z | z | z | z | z
    · cases hf; exact lv_ldcw hx hb hown (hts _ (js_t hc rfl)) hd K
    · cases hf
    · cases hf
      intro T hT X
      obtain ⟨t, a1, b1⟩ := K T hT X
      exact ⟨t, js_ldcwF X hx hown (hts _ (js_t hc rfl)) (g := F0 m pc ls (r.map (js_v ad))) rfl (by rw [hb]; exact hd) t a1, b1⟩
    · cases hf
    · cases hf
theorem js_ldc2 {r : List jm_V} {idx : Nat} {v : jm_V} (C : js_Cx p R s m args c cells slots D cy ad x) (hd : decode (jn_y x).2.1 pc = .ok (.ldc2_w idx, 3)) (hf : jm_k2 (jm_pf jm_CS (jm_me x).1 idx) = some v) (kk : js_G p l e R s m args below meth c cells slots Q D cy ad x (pc + 3) A (v :: r) hp) : js_G p l e R s m args below meth c cells slots Q D cy ad x pc A r hp := by
  intro H locs ls h1 h2 h3 h4 h5
  have K := kk H locs ls h1 h2 h3 h4 h5
  obtain ⟨hx, hb, hml, hown, hts, hK, hinj, ⟨hS0, hN⟩, hR⟩ := C
  cases hq : jm_pf jm_CS (jm_me x).1 idx with
  | none => rw [hq] at hf; cases hf
  | some w =>
    rw [hq] at hf
    have hc := jn_pC (jm_me x).1 _ (jn_pf_mem hq)
    rcases w with z | z | z | z | z
    · cases hf
    · cases hf; exact lv_ldc2 hx hb hown (hts _ (js_t hc rfl)) hd K
    · cases hf
    · cases hf
    · cases hf
end Rows4
end
section
section Snd
variable {p : Program} {l : Launch} {e : Env} {R : Room} {s : State} {m : MethodId} {args : Array Value} {below : List Frame} {meth : Method} {c : Code} {cells slots : Nat} {Q : State → Prop} {D : va_G} {cy : Nat → ClassId} {ad : Nat → Nat} {x pc : Nat} {A : List jm_V} {hp : jm_H}
theorem js_sum (r : List jm_V) : ((r.map (js_v ad)).map fun v => v.category).sum = (r.map jm_cat).sum := by
  rw [List.map_map]
  congr 1
  apply List.map_congr_left
  intro v _
  exact js_cat ad v
theorem js_mabs {r : List jm_V} {b : Int} {idx : Nat} (C : js_Cx p R s m args c cells slots D cy ad x) (hd : decode (jn_y x).2.1 pc = .ok (.invokestatic idx, 3)) (hl : Cond.methodLink (jn_own (jm_me x).1) idx (jn_y 0).1 ∈ lw_tbl) (h1 : 1 ≤ (jm_me x).2.2.2.2.2.1) (h2 : (r.map jm_cat).sum + 13 ≤ (jm_me x).2.2.2.2.2.2) (k : js_G p l e R s m args below meth c cells slots Q D cy ad x (pc + 3) A (jI (bif decide (0 ≤ jm_w32 b) then b else 0 - b) :: r) hp) : js_G p l e R s m args below meth c cells slots Q D cy ad x pc A (jI b :: r) hp := by
  intro H locs ls g1 g2 g3 g4 g5
  have K := k H locs ls g1 g2 g3 g4 g5
  obtain ⟨hx, hb, hml, hown, hts, hK, hinj, ⟨hS0, hN⟩, hR1, hR2, hR3, hR4⟩ := C
  refine va_mabs hx hb (by rw [hml]; exact g1.1.symm) hown (hts _ (js_t hl rfl)) (hts _ (js_t (jn_m3 97 rfl) rfl)) (hts _ (js_t (jn_m1 12 rfl) rfl)) (hts _ (js_t (jn_m3 98 (by first | rfl | decide +kernel)) rfl)) (by omega) (by rw [js_sum]; omega) hR3 hR4 hd ?_
  have e1 : js_v ad (jI (bif decide (0 ≤ jm_w32 b) then b else 0 - b)) = .int (if 0 ≤ Int32.ofInt b then Int32.ofInt b else 0 - Int32.ofInt b) := by
    by_cases q : 0 ≤ jm_w32 b
    · rw [js_bif_t _ q, if_pos (show (0 : Int32) ≤ Int32.ofInt b from (js_leI 0 b).mpr q)]; rfl
    · rw [js_bif_f _ q, if_neg (show ¬ (0 : Int32) ≤ Int32.ofInt b from fun w => q ((js_leI 0 b).mp w))]; exact congrArg Value.int (Int32.ofInt_sub 0 b)
  rw [List.map_cons, e1] at K
  exact K
theorem js_mmax {r : List jm_V} {a b : Int} {idx : Nat} (C : js_Cx p R s m args c cells slots D cy ad x) (hd : decode (jn_y x).2.1 pc = .ok (.invokestatic idx, 3)) (hl : Cond.methodLink (jn_own (jm_me x).1) idx (jn_y 1).1 ∈ lw_tbl) (h1 : 1 ≤ (jm_me x).2.2.2.2.2.1) (h2 : (r.map jm_cat).sum + 13 ≤ (jm_me x).2.2.2.2.2.2) (k : js_G p l e R s m args below meth c cells slots Q D cy ad x (pc + 3) A (jI (bif decide (jm_w32 a < jm_w32 b) then b else a) :: r) hp) : js_G p l e R s m args below meth c cells slots Q D cy ad x pc A (jI b :: jI a :: r) hp := by
  intro H locs ls g1 g2 g3 g4 g5
  have K := k H locs ls g1 g2 g3 g4 g5
  obtain ⟨hx, hb, hml, hown, hts, hK, hinj, ⟨hS0, hN⟩, hR1, hR2, hR3, hR4⟩ := C
  refine va_mmax hx hb (by rw [hml]; exact g1.1.symm) hown (hts _ (js_t hl rfl)) (hts _ (js_t (jn_m2 68 rfl) rfl)) (hts _ (js_t (jn_m1 12 rfl) rfl)) (hts _ (js_t (jn_m2 69 (by first | rfl | decide +kernel)) rfl)) (by omega) (by rw [js_sum]; omega) hR3 hR4 hd ?_
  have e1 : js_v ad (jI (bif decide (jm_w32 a < jm_w32 b) then b else a)) = .int (if Int32.ofInt a < Int32.ofInt b then Int32.ofInt b else Int32.ofInt a) := by
    by_cases q : jm_w32 a < jm_w32 b
    · rw [js_bif_t _ q, if_pos ((js_ltI a b).mpr q)]; rfl
    · rw [js_bif_f _ q, if_neg (fun w => q ((js_ltI a b).mp w))]; rfl
  rw [List.map_cons, e1] at K
  exact K
theorem js_mmin {r : List jm_V} {a b : Int} {idx : Nat} (C : js_Cx p R s m args c cells slots D cy ad x) (hd : decode (jn_y x).2.1 pc = .ok (.invokestatic idx, 3)) (hl : Cond.methodLink (jn_own (jm_me x).1) idx (jn_y 2).1 ∈ lw_tbl) (h1 : 1 ≤ (jm_me x).2.2.2.2.2.1) (h2 : (r.map jm_cat).sum + 13 ≤ (jm_me x).2.2.2.2.2.2) (k : js_G p l e R s m args below meth c cells slots Q D cy ad x (pc + 3) A (jI (bif decide (jm_w32 b < jm_w32 a) then b else a) :: r) hp) : js_G p l e R s m args below meth c cells slots Q D cy ad x pc A (jI b :: jI a :: r) hp := by
  intro H locs ls g1 g2 g3 g4 g5
  have K := k H locs ls g1 g2 g3 g4 g5
  obtain ⟨hx, hb, hml, hown, hts, hK, hinj, ⟨hS0, hN⟩, hR1, hR2, hR3, hR4⟩ := C
  refine va_mmin hx hb (by rw [hml]; exact g1.1.symm) hown (hts _ (js_t hl rfl)) (hts _ (js_t (jn_m2 71 rfl) rfl)) (hts _ (js_t (jn_m1 12 rfl) rfl)) (hts _ (js_t (jn_m2 72 (by first | rfl | decide +kernel)) rfl)) (by omega) (by rw [js_sum]; omega) hR3 hR4 hd ?_
  have e1 : js_v ad (jI (bif decide (jm_w32 b < jm_w32 a) then b else a)) = .int (if Int32.ofInt b < Int32.ofInt a then Int32.ofInt b else Int32.ofInt a) := by
    by_cases q : jm_w32 b < jm_w32 a
    · rw [js_bif_t _ q, if_pos ((js_ltI b a).mpr q)]; rfl
    · rw [js_bif_f _ q, if_neg (fun w => q ((js_ltI b a).mp w))]; rfl
  rw [List.map_cons, e1] at K
  exact K
theorem js_ar2 {i : Instr} {nx pc' : Nat} {A' st st' : List jm_V} {hp' : jm_H} (C : js_Cx p R s m args c cells slots D cy ad x) (hd : decode (jn_y x).2.1 pc = .ok (i, 1)) (hnx : nx = pc + 1) (hg : jm_ar2 i nx A st hp = some (.inl (pc', A', st', hp'))) (k : js_G p l e R s m args below meth c cells slots Q D cy ad x pc' A' st' hp') : js_G p l e R s m args below meth c cells slots Q D cy ad x pc A st hp := by
  subst hnx
  unfold jm_ar2 at hg
  split at hg
  · rename_i b a r
    cases hz : jm_i2 i a b with
    | none => rw [hz] at hg; cases hg
    | some z => rw [hz] at hg; cases hg; exact js_i2 C hd hz k
  · rename_i b a r
    cases hz : jm_l2 i a b with
    | none => rw [hz] at hg; cases hg
    | some z => rw [hz] at hg; cases hg; exact js_l2 C hd hz k
  · rename_i b a r
    cases hz : jm_f2 i a b with
    | none => rw [hz] at hg; cases hg
    | some z => rw [hz] at hg; cases hg; exact js_f2 C hd hz k
  · cases hg
theorem js_ar2_no {i : Instr} {nx : Nat} {st : List jm_V} {o : Option jm_V ⊕ (Nat × List jm_V × List jm_V × Nat)} (hg : jm_ar2 i nx A st hp = some (.inr o)) : False := by
  unfold jm_ar2 at hg
  split at hg
  · split at hg <;> cases hg
  · split at hg <;> cases hg
  · split at hg <;> cases hg
  · cases hg
theorem js_ld_inv {t j nx : Nat} {st : List jm_V} {o : jm_O} (h : jm_ld t A j nx st hp = some o) : ∃ v, A[j]? = some v ∧ v ≠ jU ∧ o = .inl (nx, A, v :: st, hp) ∧ ((t = 0 ∧ ∃ z, v = jI z) ∨ (t = 1 ∧ ∃ z, v = jL z) ∨ (t = 2 ∧ ∃ z, v = jF z) ∨ (t = 3 ∧ ∃ z, v = jR z)) := by
  unfold jm_ld at h
  split at h
  · rename_i z hA
    cases hb : Nat.beq t 0 with
    | false => rw [hb] at h; cases h
    | true => rw [hb] at h; cases h; exact ⟨_, hA, (fun e => by cases e), rfl, Or.inl ⟨Nat.eq_of_beq_eq_true hb, _, rfl⟩⟩
  · rename_i z hA
    cases hb : Nat.beq t 1 with
    | false => rw [hb] at h; cases h
    | true => rw [hb] at h; cases h; exact ⟨_, hA, (fun e => by cases e), rfl, Or.inr (Or.inl ⟨Nat.eq_of_beq_eq_true hb, _, rfl⟩)⟩
  · rename_i z hA
    cases hb : Nat.beq t 2 with
    | false => rw [hb] at h; cases h
    | true => rw [hb] at h; cases h; exact ⟨_, hA, (fun e => by cases e), rfl, Or.inr (Or.inr (Or.inl ⟨Nat.eq_of_beq_eq_true hb, _, rfl⟩))⟩
  · rename_i z hA
    cases hb : Nat.beq t 3 with
    | false => rw [hb] at h; cases h
    | true => rw [hb] at h; cases h; exact ⟨_, hA, (fun e => by cases e), rfl, Or.inr (Or.inr (Or.inr ⟨Nat.eq_of_beq_eq_true hb, _, rfl⟩))⟩
  · cases h
theorem js_sv_inv {t j nx : Nat} {st : List jm_V} {o : jm_O} (h : jm_sv t A j nx st hp = some o) : ∃ v B r, st = v :: r ∧ o = .inl (nx, B, r, hp) ∧ ((t = 0 ∧ (∃ z, v = jI z) ∧ jm_so A j v = some B) ∨ (t = 1 ∧ (∃ z, v = jL z) ∧ jm_so2 A j v = some B) ∨ (t = 2 ∧ (∃ z, v = jF z) ∧ jm_so A j v = some B)) := by
  unfold jm_sv at h
  split at h
  · rename_i z r
    cases hb : Nat.beq t 0 with
    | false => rw [hb] at h; cases h
    | true =>
      rw [hb] at h
      cases hs : jm_so A j (jI z) with
      | none => rw [hs] at h; cases h
      | some B => rw [hs] at h; cases h; exact ⟨_, B, r, rfl, rfl, Or.inl ⟨Nat.eq_of_beq_eq_true hb, ⟨_, rfl⟩, hs⟩⟩
  · rename_i z r
    cases hb : Nat.beq t 1 with
    | false => rw [hb] at h; cases h
    | true =>
      rw [hb] at h
      cases hs : jm_so2 A j (jL z) with
      | none => rw [hs] at h; cases h
      | some B => rw [hs] at h; cases h; exact ⟨_, B, r, rfl, rfl, Or.inr (Or.inl ⟨Nat.eq_of_beq_eq_true hb, ⟨_, rfl⟩, hs⟩)⟩
  · rename_i z r
    cases hb : Nat.beq t 2 with
    | false => rw [hb] at h; cases h
    | true =>
      rw [hb] at h
      cases hs : jm_so A j (jF z) with
      | none => rw [hs] at h; cases h
      | some B => rw [hs] at h; cases h; exact ⟨_, B, r, rfl, rfl, Or.inr (Or.inr ⟨Nat.eq_of_beq_eq_true hb, ⟨_, rfl⟩, hs⟩)⟩
  · cases h
theorem js_ald_inv {t nx : Nat} {mk : Int → jm_V} {st : List jm_V} {o : jm_O} (h : jm_ald t mk nx A st hp = some o) : ∃ i q r n f, st = jI i :: jR q :: r ∧ jm_ar hp q t = some (n, f) ∧ (0 ≤ jm_w32 i ∧ jm_w32 i < n) ∧ o = .inl (nx, A, mk (f (jm_w32 i)) :: r, hp) := by
  unfold jm_ald at h
  split at h
  · rename_i i q r
    cases hs : jm_ar hp q t with
    | none => rw [hs] at h; cases h
    | some w =>
      obtain ⟨n, f⟩ := w
      rw [hs] at h
      dsimp only at h
      by_cases hr : 0 ≤ jm_w32 i ∧ jm_w32 i < n
      · rw [js_bif_t _ hr] at h; cases h; exact ⟨i, q, r, n, f, rfl, hs, hr, rfl⟩
      · rw [js_bif_f _ hr] at h; cases h
  · cases h
theorem js_ast_inv {t nx : Nat} {ok : jm_V → Option Int} {st : List jm_V} {o : jm_O} (h : jm_ast t ok nx A st hp = some o) : ∃ v i q r n z, st = v :: jI i :: jR q :: r ∧ jm_sh q = .inr (t, n) ∧ ok v = some z ∧ (0 ≤ jm_w32 i ∧ jm_w32 i < n) ∧ o = .inl (nx, A, r, jm_hs hp q (jm_w32 i) z) := by
  unfold jm_ast at h
  split at h
  · rename_i v i q r
    split at h
    · rename_i u n z hs hz
      cases hb : Nat.beq u t with
      | false => rw [hb] at h; cases h
      | true =>
        rw [hb, Bool.true_and] at h
        by_cases hr : 0 ≤ jm_w32 i ∧ jm_w32 i < n
        · rw [js_bif_t _ hr] at h; cases h; exact ⟨v, i, q, r, n, z, rfl, by rw [hs, Nat.eq_of_beq_eq_true hb], hz, hr, rfl⟩
        · rw [js_bif_f _ hr] at h; cases h
    · cases h
  · cases h
theorem js_kV_inv {nx : Nat} {v : Option jm_V} {st : List jm_V} {o : jm_O} (h : jm_kV v nx A st hp = some o) : ∃ w, v = some w ∧ o = .inl (nx, A, w :: st, hp) := by
  unfold jm_kV at h
  cases v with
  | none => cases h
  | some w => cases h; exact ⟨w, rfl, rfl⟩
theorem js_getf_inv {nx : Nat} {f : Option (Nat × Nat)} {st : List jm_V} {o : jm_O} (h : jm_getf f nx A st hp = some o) : ∃ ci j k r fs t v, f = some (ci, j) ∧ st = jR k :: r ∧ jm_sh k = .inl (ci, fs) ∧ fs[j]? = some t ∧ o = .inl (nx, A, v :: r, hp) ∧ ((∃ q, t = .inr q ∧ v = jR q) ∨ (t = .inl 1 ∧ v = jL (hp k j)) ∨ (t = .inl 10 ∧ v = jI 0) ∨ (∃ u, t = .inl u ∧ u ≠ 1 ∧ u ≠ 10 ∧ v = jI (hp k j))) := by
  unfold jm_getf at h
  cases f with
  | none => cases h
  | some f =>
    obtain ⟨ci, j⟩ := f
    dsimp only at h
    split at h
    · rename_i k r
      cases hs : jm_sh k with
      | inr w => rw [hs] at h; cases h
      | inl w =>
        obtain ⟨c0, fs⟩ := w
        rw [hs] at h
        dsimp only at h
        cases hb : Nat.beq c0 ci with
        | false => rw [hb] at h; cases h
        | true =>
          have hc := Nat.eq_of_beq_eq_true hb
          subst hc
          rw [hb] at h
          cases hj : fs[j]? with
          | none => rw [hj] at h; cases h
          | some t =>
            rw [hj] at h
            rcases t with u | q
            · dsimp only [cond] at h
              cases h1 : Nat.beq u 1 with
              | true =>
                rw [h1] at h; cases h
                have := Nat.eq_of_beq_eq_true h1
                subst this
                exact ⟨c0, j, k, r, fs, _, _, rfl, rfl, hs, hj, rfl, Or.inr (Or.inl ⟨rfl, rfl⟩)⟩
              | false =>
                rw [h1] at h
                cases h2 : Nat.beq u 10 with
                | true =>
                  rw [h2] at h; cases h
                  have := Nat.eq_of_beq_eq_true h2
                  subst this
                  exact ⟨c0, j, k, r, fs, _, _, rfl, rfl, hs, hj, rfl, Or.inr (Or.inr (Or.inl ⟨rfl, rfl⟩))⟩
                | false =>
                  rw [h2] at h; cases h
                  exact ⟨c0, j, k, r, fs, _, _, rfl, rfl, hs, hj, rfl, Or.inr (Or.inr (Or.inr ⟨u, rfl, (fun e => by rw [e] at h1; cases h1), (fun e => by rw [e] at h2; cases h2), rfl⟩))⟩
            · cases h; exact ⟨c0, j, k, r, fs, _, _, rfl, rfl, hs, hj, rfl, Or.inl ⟨q, rfl, rfl⟩⟩
    · cases h
theorem js_putf_inv {nx : Nat} {f : Option (Nat × Nat)} {st : List jm_V} {o : jm_O} (h : jm_putf f nx A st hp = some o) : ∃ ci j k r fs t v z, f = some (ci, j) ∧ st = v :: jR k :: r ∧ jm_sh k = .inl (ci, fs) ∧ fs[j]? = some (.inl t) ∧ o = .inl (nx, A, r, jm_hs hp k j z) ∧ ((t = 0 ∧ v = jI z) ∨ (t = 3 ∧ v = jI z ∧ (z = 0 ∨ z = 1)) ∨ (t = 1 ∧ v = jL z)) := by
  unfold jm_putf at h
  cases f with
  | none => cases h
  | some f =>
    obtain ⟨ci, j⟩ := f
    dsimp only at h
    split at h
    · rename_i v k r
      cases hs : jm_sh k with
      | inr w => rw [hs] at h; cases h
      | inl w =>
        obtain ⟨c0, fs⟩ := w
        rw [hs] at h
        dsimp only at h
        cases hb : Nat.beq c0 ci with
        | false => rw [hb] at h; cases h
        | true =>
          have hc := Nat.eq_of_beq_eq_true hb
          subst hc
          rw [hb] at h
          cases hj : fs[j]? with
          | none => rw [hj] at h; cases h
          | some t =>
            rw [hj] at h
            rcases t with u | q
            · rcases v with z | z | z | z | z
              · dsimp only [cond] at h
                cases h1 : (Nat.beq u 0 || (Nat.beq u 3 && (decide (z = 0) || decide (z = 1)))) with
                | false => rw [h1] at h; cases h
                | true =>
                  rw [h1] at h; cases h
                  refine ⟨c0, j, k, r, fs, u, _, z, rfl, rfl, hs, hj, rfl, ?_⟩
                  rcases (Bool.or_eq_true _ _).mp h1 with a | a
                  · exact Or.inl ⟨Nat.eq_of_beq_eq_true a, rfl⟩
                  · obtain ⟨a1, a2⟩ := (Bool.and_eq_true _ _).mp a
                    exact Or.inr (Or.inl ⟨Nat.eq_of_beq_eq_true a1, rfl, by simpa using a2⟩)
              · dsimp only [cond] at h
                cases h1 : Nat.beq u 1 with
                | false => rw [h1] at h; cases h
                | true =>
                  rw [h1] at h; cases h
                  exact ⟨c0, j, k, r, fs, u, _, z, rfl, rfl, hs, hj, rfl, Or.inr (Or.inr ⟨Nat.eq_of_beq_eq_true h1, rfl⟩)⟩
              · cases h
              · cases h
              · cases h
            · cases h
    · cases h
end Snd
end
section
section Stp
variable {p : Program} {l : Launch} {e : Env} {R : Room} {s : State} {m : MethodId} {args : Array Value} {below : List Frame} {meth : Method} {c : Code} {cells slots : Nat} {Q : State → Prop} {D : va_G} {cy : Nat → ClassId} {ad : Nat → Nat} {x pc : Nat} {A : List jm_V} {hp : jm_H}
theorem js_bif_n {α : Type} {b : Bool} {o : Option α} {w : α} (h : (bif b then o else none) = some w) : b = true ∧ o = some w := by
  cases b with
  | false => cases h
  | true => exact ⟨rfl, h⟩
theorem js_mth {idx y nx pc' : Nat} {A' st st' : List jm_V} {hp' : jm_H} (C : js_Cx p R s m args c cells slots D cy ad x) (hd : decode (jn_y x).2.1 pc = .ok (.invokestatic idx, 3)) (hnx : nx = pc + 3) (hl : Cond.methodLink (jn_own (jm_me x).1) idx (jn_y y).1 ∈ lw_tbl) (hg : jm_mth x y nx A st hp = some (.inl (pc', A', st', hp'))) (k : js_G p l e R s m args below meth c cells slots Q D cy ad x pc' A' st' hp') : js_G p l e R s m args below meth c cells slots Q D cy ad x pc A st hp := by
  subst hnx
  unfold jm_mth at hg
  split at hg
  · rename_i b r
    cases h0 : Nat.beq y 0 with
    | true =>
      have := Nat.eq_of_beq_eq_true h0
      subst this
      rw [h0] at hg
      obtain ⟨hc, hg⟩ := js_bif_n (show (bif _ then _ else none) = some _ from hg)
      obtain ⟨c1, c2⟩ := (Bool.and_eq_true _ _).mp hc
      cases hg
      exact js_mabs C hd hl (Nat.le_of_ble_eq_true c1) (Nat.le_of_ble_eq_true c2) k
    | false =>
      rw [h0] at hg
      dsimp only [cond_false] at hg
      split at hg
      · rename_i a r3
        obtain ⟨hc, hg⟩ := js_bif_n hg
        obtain ⟨c1, c2⟩ := (Bool.and_eq_true _ _).mp hc
        cases h1 : Nat.beq y 1 with
        | true =>
          have := Nat.eq_of_beq_eq_true h1
          subst this
          rw [h1] at hg
          cases hg
          exact js_mmax C hd hl (Nat.le_of_ble_eq_true c1) (Nat.le_of_ble_eq_true c2) k
        | false =>
          rw [h1] at hg
          obtain ⟨h2, hg⟩ := js_bif_n (show (bif Nat.beq y 2 then _ else none) = some _ from hg)
          have := Nat.eq_of_beq_eq_true h2
          subst this
          cases hg
          exact js_mmin C hd hl (Nat.le_of_ble_eq_true c1) (Nat.le_of_ble_eq_true c2) k
      · cases hg
  · cases hg
theorem js_okF_inv {v : jm_V} {z : Int} (h : jm_okF v = some z) : ∃ b : Nat, v = jF b ∧ z = (b : Int) := by
  rcases v with a | a | a | a | a
  · cases h
  · cases h
  · cases h; exact ⟨a, rfl, rfl⟩
  · cases h
  · cases h
theorem js_okI_inv {v : jm_V} {z : Int} (h : jm_okI v = some z) : v = jI z := by
  rcases v with a | a | a | a | a
  · cases h; rfl
  all_goals (cases h)
theorem js_okL_inv {v : jm_V} {z : Int} (h : jm_okL v = some z) : v = jL z := by
  rcases v with a | a | a | a | a
  · cases h
  · cases h; rfl
  all_goals (cases h)
theorem js_okZ_inv {v : jm_V} {z : Int} (h : jm_okZ v = some z) : v = jI z ∧ (z = 0 ∨ z = 1) := by
  rcases v with a | a | a | a | a
  · unfold jm_okZ at h
    dsimp only at h
    cases hc : (decide (a = 0) || decide (a = 1)) with
    | false => rw [hc] at h; cases h
    | true => rw [hc] at h; cases h; exact ⟨rfl, by simpa using hc⟩
  all_goals (cases h)
theorem js_call_no {y nx : Nat} {st : List jm_V} {o : jm_C} (h : jm_call x y st nx = some (.inl o)) : False := by
  unfold jm_call at h
  cases (js_bif_n h).2
set_option maxHeartbeats 8000000 in
theorem js_step {i : Instr} {nx tg rk pc' : Nat} {A' st st' : List jm_V} {hp' : jm_H} (C : js_Cx p R s m args c cells slots D cy ad x) (hD : jn_okD x) (hf : jm_fe x pc = some (i, nx, tg)) (hg : jm_in x (jm_me x).1 rk pc i nx tg A st hp = some (.inl (pc', A', st', hp'))) (k : js_G p l e R s m args below meth c cells slots Q D cy ad x pc' A' st' hp') : js_G p l e R s m args below meth c cells slots Q D cy ad x pc A st hp := by
  obtain ⟨hdec, hlt, hlen, htg⟩ := jn_fe hD hf
  have hdl : jn_len i ≠ 0 → decode (jn_y x).2.1 pc = .ok (i, jn_len i) ∧ nx = pc + jn_len i := by
    intro h0
    rcases hlen with h | h
    · exact absurd h h0
    · refine ⟨?_, h.symm⟩
      rw [hdec, ← h, Nat.add_sub_cancel_left]
  cases i
  case iconst n => obtain ⟨hd, rfl⟩ := hdl (Nat.succ_ne_zero _); cases hg; exact js_iconst C hd k
  case bipush n => obtain ⟨hd, rfl⟩ := hdl (Nat.succ_ne_zero _); cases hg; exact js_bipush C hd (by simpa [jn_tgt] using htg) k
  case sipush n => obtain ⟨hd, rfl⟩ := hdl (Nat.succ_ne_zero _); cases hg; exact js_sipush C hd (by simpa [jn_tgt] using htg) k
  case lconst n => obtain ⟨hd, rfl⟩ := hdl (Nat.succ_ne_zero _); cases hg; exact js_lconst C hd k
  case fconst n => obtain ⟨hd, rfl⟩ := hdl (Nat.succ_ne_zero _); cases hg; exact js_fconst C hd k
  case iload j =>
    obtain ⟨hd, rfl⟩ := hdl (Nat.succ_ne_zero _)
    obtain ⟨v, hA, hs, ho, hv⟩ := js_ld_inv hg
    cases ho
    rcases hv with ⟨-, z, rfl⟩ | ⟨h, -⟩ | ⟨h, -⟩ | ⟨h, -⟩
    · exact js_iload C hd hA k
    all_goals (cases h)
  case iload_n j =>
    obtain ⟨hd, rfl⟩ := hdl (Nat.succ_ne_zero _)
    obtain ⟨v, hA, hs, ho, hv⟩ := js_ld_inv hg
    cases ho
    rcases hv with ⟨-, z, rfl⟩ | ⟨h, -⟩ | ⟨h, -⟩ | ⟨h, -⟩
    · exact js_iload_n C hd hA k
    all_goals (cases h)
  case lload j =>
    obtain ⟨hd, rfl⟩ := hdl (Nat.succ_ne_zero _)
    obtain ⟨v, hA, hs, ho, hv⟩ := js_ld_inv hg
    cases ho
    rcases hv with ⟨h, -⟩ | ⟨-, z, rfl⟩ | ⟨h, -⟩ | ⟨h, -⟩
    · cases h
    · exact js_lload C hd hA k
    all_goals (cases h)
  case lload_n j =>
    obtain ⟨hd, rfl⟩ := hdl (Nat.succ_ne_zero _)
    obtain ⟨v, hA, hs, ho, hv⟩ := js_ld_inv hg
    cases ho
    rcases hv with ⟨h, -⟩ | ⟨-, z, rfl⟩ | ⟨h, -⟩ | ⟨h, -⟩
    · cases h
    · exact js_lload_n C hd hA k
    all_goals (cases h)
  case fload j =>
    obtain ⟨hd, rfl⟩ := hdl (Nat.succ_ne_zero _)
    obtain ⟨v, hA, hs, ho, hv⟩ := js_ld_inv hg
    cases ho
    rcases hv with ⟨h, -⟩ | ⟨h, -⟩ | ⟨-, z, rfl⟩ | ⟨h, -⟩
    · cases h
    · cases h
    · exact js_fload C hd hA k
    · cases h
  case fload_n j =>
    obtain ⟨hd, rfl⟩ := hdl (Nat.succ_ne_zero _)
    obtain ⟨v, hA, hs, ho, hv⟩ := js_ld_inv hg
    cases ho
    rcases hv with ⟨h, -⟩ | ⟨h, -⟩ | ⟨-, z, rfl⟩ | ⟨h, -⟩
    · cases h
    · cases h
    · exact js_fload_n C hd hA k
    · cases h
  case aload j =>
    obtain ⟨hd, rfl⟩ := hdl (Nat.succ_ne_zero _)
    obtain ⟨v, hA, hs, ho, hv⟩ := js_ld_inv hg
    cases ho
    rcases hv with ⟨h, -⟩ | ⟨h, -⟩ | ⟨h, -⟩ | ⟨-, z, rfl⟩
    · cases h
    · cases h
    · cases h
    · exact js_aload C hd hA k
  case aload_n j =>
    obtain ⟨hd, rfl⟩ := hdl (Nat.succ_ne_zero _)
    obtain ⟨v, hA, hs, ho, hv⟩ := js_ld_inv hg
    cases ho
    rcases hv with ⟨h, -⟩ | ⟨h, -⟩ | ⟨h, -⟩ | ⟨-, z, rfl⟩
    · cases h
    · cases h
    · cases h
    · exact js_aload_n C hd hA k
  case istore j =>
    obtain ⟨hd, rfl⟩ := hdl (Nat.succ_ne_zero _)
    obtain ⟨v, B, r, rfl, ho, hv⟩ := js_sv_inv hg
    cases ho
    rcases hv with ⟨-, ⟨z, rfl⟩, hB⟩ | ⟨h, -⟩ | ⟨h, -⟩
    · exact js_istore C hd hB k
    all_goals (cases h)
  case istore_n j =>
    obtain ⟨hd, rfl⟩ := hdl (Nat.succ_ne_zero _)
    obtain ⟨v, B, r, rfl, ho, hv⟩ := js_sv_inv hg
    cases ho
    rcases hv with ⟨-, ⟨z, rfl⟩, hB⟩ | ⟨h, -⟩ | ⟨h, -⟩
    · exact js_istore_n C hd hB k
    all_goals (cases h)
  case lstore j =>
    obtain ⟨hd, rfl⟩ := hdl (Nat.succ_ne_zero _)
    obtain ⟨v, B, r, rfl, ho, hv⟩ := js_sv_inv hg
    cases ho
    rcases hv with ⟨h, -⟩ | ⟨-, ⟨z, rfl⟩, hB⟩ | ⟨h, -⟩
    · cases h
    · exact js_lstore C hd hB k
    · cases h
  case lstore_n j =>
    obtain ⟨hd, rfl⟩ := hdl (Nat.succ_ne_zero _)
    obtain ⟨v, B, r, rfl, ho, hv⟩ := js_sv_inv hg
    cases ho
    rcases hv with ⟨h, -⟩ | ⟨-, ⟨z, rfl⟩, hB⟩ | ⟨h, -⟩
    · cases h
    · exact js_lstore_n C hd hB k
    · cases h
  case fstore j =>
    obtain ⟨hd, rfl⟩ := hdl (Nat.succ_ne_zero _)
    obtain ⟨v, B, r, rfl, ho, hv⟩ := js_sv_inv hg
    cases ho
    rcases hv with ⟨h, -⟩ | ⟨h, -⟩ | ⟨-, ⟨z, rfl⟩, hB⟩
    · cases h
    · cases h
    · exact js_fstore C hd hB k
  case fstore_n j =>
    obtain ⟨hd, rfl⟩ := hdl (Nat.succ_ne_zero _)
    obtain ⟨v, B, r, rfl, ho, hv⟩ := js_sv_inv hg
    cases ho
    rcases hv with ⟨h, -⟩ | ⟨h, -⟩ | ⟨-, ⟨z, rfl⟩, hB⟩
    · cases h
    · cases h
    · exact js_fstore_n C hd hB k
  case iinc j n =>
    obtain ⟨hd, rfl⟩ := hdl (Nat.succ_ne_zero _)
    dsimp only [jm_in] at hg
    split at hg
    · rename_i z hA
      cases hB : jm_so A j (jI (z + n)) with
      | none => rw [hB] at hg; cases hg
      | some B => rw [hB] at hg; cases hg; exact js_iinc C hd hA hB k
    · cases hg
  case goto o => obtain ⟨hd, rfl⟩ := hdl (Nat.succ_ne_zero _); cases hg; exact js_goto C hd (by simpa [jn_tgt] using htg) k
  case if_icmp cd o =>
    obtain ⟨hd, rfl⟩ := hdl (Nat.succ_ne_zero _)
    dsimp only [jm_in] at hg
    split at hg
    · cases hg; exact js_icmp C hd (by simpa [jn_tgt] using htg) k
    · cases hg
  case ifCond cd o =>
    obtain ⟨hd, rfl⟩ := hdl (Nat.succ_ne_zero _)
    dsimp only [jm_in] at hg
    split at hg
    · cases hg; exact js_ifc C hd (by simpa [jn_tgt] using htg) k
    · cases hg
  case tableswitch d lo hi offs =>
    dsimp only [jm_in] at hg
    split at hg
    · rename_i a r
      cases hq : jm_tsw d lo hi offs pc (jm_w32 a) with
      | none => rw [hq] at hg; cases hg
      | some q => rw [hq] at hg; cases hg; exact js_tsw C hdec htg hq k
    · cases hg
  case lookupswitch d ps =>
    dsimp only [jm_in] at hg
    split at hg
    · cases hg; exact js_lsw C hdec htg k
    · cases hg
  case lcmp => obtain ⟨hd, rfl⟩ := hdl (Nat.succ_ne_zero _); dsimp only [jm_in] at hg; split at hg <;> cases hg; exact js_lcmp C hd k
  case fcmp op => obtain ⟨hd, rfl⟩ := hdl (Nat.succ_ne_zero _); dsimp only [jm_in] at hg; split at hg <;> cases hg; exact js_fcmp C hd k
  case i2l => obtain ⟨hd, rfl⟩ := hdl (Nat.succ_ne_zero _); dsimp only [jm_in] at hg; split at hg <;> cases hg; exact js_i2l C hd k
  case l2i => obtain ⟨hd, rfl⟩ := hdl (Nat.succ_ne_zero _); dsimp only [jm_in] at hg; split at hg <;> cases hg; exact js_l2i C hd k
  case i2c => obtain ⟨hd, rfl⟩ := hdl (Nat.succ_ne_zero _); dsimp only [jm_in] at hg; split at hg <;> cases hg; exact js_i2c C hd k
  case i2b => obtain ⟨hd, rfl⟩ := hdl (Nat.succ_ne_zero _); dsimp only [jm_in] at hg; split at hg <;> cases hg; exact js_i2b C hd k
  case i2f => obtain ⟨hd, rfl⟩ := hdl (Nat.succ_ne_zero _); dsimp only [jm_in] at hg; split at hg <;> cases hg; exact js_i2f C hd k
  case f2i => obtain ⟨hd, rfl⟩ := hdl (Nat.succ_ne_zero _); dsimp only [jm_in] at hg; split at hg <;> cases hg; exact js_f2i C hd k
  case ineg => obtain ⟨hd, rfl⟩ := hdl (Nat.succ_ne_zero _); dsimp only [jm_in] at hg; split at hg <;> cases hg; exact js_ineg C hd k
  case lshl => obtain ⟨hd, rfl⟩ := hdl (Nat.succ_ne_zero _); dsimp only [jm_in] at hg; split at hg <;> cases hg; exact js_lshl C hd k
  case lushr => obtain ⟨hd, rfl⟩ := hdl (Nat.succ_ne_zero _); dsimp only [jm_in] at hg; split at hg <;> cases hg; exact js_lushr C hd k
  case dup =>
    obtain ⟨hd, rfl⟩ := hdl (Nat.succ_ne_zero _)
    dsimp only [jm_in] at hg
    split at hg
    · rename_i v r
      cases hb : Nat.beq (jm_cat v) 1 with
      | false => rw [hb] at hg; cases hg
      | true => rw [hb] at hg; cases hg; exact js_dup C hd (Nat.eq_of_beq_eq_true hb) k
    · cases hg
  case dup2 =>
    obtain ⟨hd, rfl⟩ := hdl (Nat.succ_ne_zero _)
    dsimp only [jm_in] at hg
    split at hg
    · rename_i v w r
      cases hb : (Nat.beq (jm_cat v) 1 && Nat.beq (jm_cat w) 1) with
      | false => rw [hb] at hg; cases hg
      | true =>
        rw [hb] at hg; cases hg
        obtain ⟨b1, b2⟩ := (Bool.and_eq_true _ _).mp hb
        exact js_dup2 C hd (Nat.eq_of_beq_eq_true b1) (Nat.eq_of_beq_eq_true b2) k
    · cases hg
  case pop =>
    obtain ⟨hd, rfl⟩ := hdl (Nat.succ_ne_zero _)
    dsimp only [jm_in] at hg
    split at hg
    · rename_i v r
      cases hb : Nat.beq (jm_cat v) 1 with
      | false => rw [hb] at hg; cases hg
      | true => rw [hb] at hg; cases hg; exact js_pop C hd (Nat.eq_of_beq_eq_true hb) k
    · cases hg
  case arraylength =>
    obtain ⟨hd, rfl⟩ := hdl (Nat.succ_ne_zero _)
    dsimp only [jm_in] at hg
    split at hg
    · rename_i q r
      cases hb : jm_le hp q with
      | none => rw [hb] at hg; cases hg
      | some n =>
        rw [hb] at hg; cases hg
        exact js_alen C hd hb k
    · cases hg
  case getfield idx =>
    obtain ⟨hd, rfl⟩ := hdl (Nat.succ_ne_zero _)
    obtain ⟨ci, j, q, r, fs, t, v, hF, rfl, hs, ht, ho, hv⟩ := js_getf_inv hg
    cases ho
    rcases js_lt_o hs with hk | rfl
    · refine js_getf C hd hF hk hs ht ?_ k
      rcases hv with ⟨q, rfl, rfl⟩ | ⟨rfl, rfl⟩ | ⟨rfl, rfl⟩ | ⟨u, rfl, h1, h10, rfl⟩
      · rfl
      · rfl
      · exfalso
        obtain ⟨q, -, -, h9⟩ := js_shape hk hs
        have := (h9 j 10 ht).2.2
        omega
      · unfold js_fv; dsimp only; rw [if_neg h1]; rfl
    · cases hs
      refine js_getS C hd hF ?_ k
      match j, ht with
      | 0, ht =>
        cases ht
        rcases hv with ⟨q, h, -⟩ | ⟨h, -⟩ | ⟨-, rfl⟩ | ⟨u, h, -, h10, -⟩
        · cases h
        · cases h
        · exact Or.inl ⟨rfl, rfl⟩
        · cases h; exact absurd rfl h10
      | 1, ht =>
        cases ht
        rcases hv with ⟨q, h, rfl⟩ | ⟨h, -⟩ | ⟨h, -⟩ | ⟨u, h, -⟩
        · cases h; exact Or.inr ⟨rfl, rfl⟩
        · cases h
        · cases h
        · cases h
      | j + 2, ht => cases ht
  case putfield idx =>
    obtain ⟨hd, rfl⟩ := hdl (Nat.succ_ne_zero _)
    obtain ⟨ci, j, q, r, fs, t, v, z, hF, rfl, hs, ht, ho, hv⟩ := js_putf_inv hg
    cases ho
    rcases js_lt_o hs with hk | rfl
    · exact js_putf C hd hF hk hs ht hv k
    · exfalso
      cases hs
      match j, ht with
      | 0, ht => cases ht; rcases hv with ⟨h, -⟩ | ⟨h, -⟩ | ⟨h, -⟩ <;> cases h
      | 1, ht => cases ht
      | j + 2, ht => cases ht
  case getstatic idx =>
    obtain ⟨hd, rfl⟩ := hdl (Nat.succ_ne_zero _)
    obtain ⟨w, hw, ho⟩ := js_kV_inv hg
    cases ho
    exact js_gets C hd hw k
  case ldc idx =>
    obtain ⟨hd, rfl⟩ := hdl (Nat.succ_ne_zero _)
    obtain ⟨w, hw, ho⟩ := js_kV_inv hg
    cases ho
    exact js_ldc C hd hw k
  case ldc_w idx =>
    obtain ⟨hd, rfl⟩ := hdl (Nat.succ_ne_zero _)
    obtain ⟨w, hw, ho⟩ := js_kV_inv hg
    cases ho
    exact js_ldc_w C hd hw k
  case ldc2_w idx =>
    obtain ⟨hd, rfl⟩ := hdl (Nat.succ_ne_zero _)
    obtain ⟨w, hw, ho⟩ := js_kV_inv hg
    cases ho
    exact js_ldc2 C hd hw k
  case iaload =>
    obtain ⟨hd, rfl⟩ := hdl (Nat.succ_ne_zero _)
    obtain ⟨i, q, r, n, f, rfl, ha, hr, ho⟩ := js_ald_inv hg
    cases ho
    exact js_iald C hd ha hr k
  case laload =>
    obtain ⟨hd, rfl⟩ := hdl (Nat.succ_ne_zero _)
    obtain ⟨i, q, r, n, f, rfl, ha, hr, ho⟩ := js_ald_inv hg
    cases ho
    exact js_lald C hd ha hr k
  case faload =>
    obtain ⟨hd, rfl⟩ := hdl (Nat.succ_ne_zero _)
    obtain ⟨i, q, r, n, f, rfl, ha, hr, ho⟩ := js_ald_inv (t := 2) (mk := fun z => jF z.toNat) hg
    cases ho
    exact js_fald C hd ha hr k
  case baload =>
    obtain ⟨hd, rfl⟩ := hdl (Nat.succ_ne_zero _)
    dsimp only [jm_in] at hg
    split at hg
    · rename_i o h1
      cases hg
      obtain ⟨i, q, r, n, f, rfl, ha, hr, ho⟩ := js_ald_inv h1
      cases ho
      exact js_zald C hd ha hr k
    · obtain ⟨i, q, r, n, f, rfl, ha, hr, ho⟩ := js_ald_inv hg
      cases ho
      exact js_bald C hd ha hr k
  case iastore =>
    obtain ⟨hd, rfl⟩ := hdl (Nat.succ_ne_zero _)
    obtain ⟨v, i, q, r, n, z, rfl, hs, hz, hr, ho⟩ := js_ast_inv hg
    cases ho
    rw [js_okI_inv hz]
    exact js_iast C hd hs hr k
  case lastore =>
    obtain ⟨hd, rfl⟩ := hdl (Nat.succ_ne_zero _)
    obtain ⟨v, i, q, r, n, z, rfl, hs, hz, hr, ho⟩ := js_ast_inv hg
    cases ho
    rw [js_okL_inv hz]
    exact js_last C hd hs hr k
  case fastore =>
    obtain ⟨hd, rfl⟩ := hdl (Nat.succ_ne_zero _)
    obtain ⟨v, i, q, r, n, z, rfl, hs, hz, hr, ho⟩ := js_ast_inv hg
    cases ho
    obtain ⟨b, rfl, rfl⟩ := js_okF_inv hz
    exact js_fast C hd hs hr k
  case bastore =>
    obtain ⟨hd, rfl⟩ := hdl (Nat.succ_ne_zero _)
    obtain ⟨v, i, q, r, n, z, rfl, hs, hz, hr, ho⟩ := js_ast_inv hg
    cases ho
    obtain ⟨rfl, h01⟩ := js_okZ_inv hz
    exact js_zast C hd hs h01 hr k
  case invokevirtual idx =>
    exfalso
    dsimp only [jm_in] at hg
    split at hg
    · exact js_call_no (js_bif_n hg).2
    · cases hg
  case invokestatic idx =>
    obtain ⟨hd, rfl⟩ := hdl (Nat.succ_ne_zero _)
    dsimp only [jm_in] at hg
    split at hg
    · rename_i y hy
      cases hb : Nat.ble y 2 with
      | true =>
        rw [hb] at hg
        have hL := jn_pL (jm_me x).1 _ (jn_pf_mem hy)
        exact js_mth C hd rfl (hL.2.2 (Nat.le_of_ble_eq_true hb)) hg k
      | false =>
        rw [hb] at hg
        exact absurd (js_bif_n (show (bif _ then _ else none) = some _ from hg)).2 js_call_no
    · cases hg
  case ireturn =>
    exfalso
    dsimp only [jm_in] at hg
    unfold jm_retI at hg
    split at hg
    · cases (js_bif_n hg).2
    · cases hg
  case lreturn =>
    exfalso
    dsimp only [jm_in] at hg
    split at hg
    · cases (js_bif_n hg).2
    · cases hg
  case freturn =>
    exfalso
    dsimp only [jm_in] at hg
    split at hg
    · cases (js_bif_n hg).2
    · cases hg
  case return_ =>
    exfalso
    dsimp only [jm_in] at hg
    split at hg
    · cases (js_bif_n hg).2
    · cases hg
  all_goals (obtain ⟨hd, rfl⟩ := hdl (Nat.succ_ne_zero _); exact js_ar2 C hd rfl hg k)
end Stp
end
section
/-! the run of the machine of these rows is a run of the real one -/
theorem js_lay_len (ad : Nat → Nat) (vs : List jm_V) : (lg_sl (vs.map (js_v ad))).length = (jm_lay vs).length := by
  induction vs with
  | nil => rfl
  | cons v vs ih =>
    unfold lg_sl jm_lay at *
    rw [List.map_cons, List.flatMap_cons, List.flatMap_cons, List.length_append, List.length_append, ih]
    rcases v with z | z | z | z | z <;> rfl
theorem js_en_mem (ad : Nat → Nat) (n : Nat) : ∀ (vs : List jm_V) (i j : Nat) (v : jm_V), (jm_lay vs ++ List.replicate n jU)[j]? = some v → v ≠ jU → (i + j, js_v ad v) ∈ lv_args i (vs.map (js_v ad)) := by
  intro vs
  induction vs with
  | nil =>
    intro i j v h hs
    have h2 : (List.replicate n jU)[j]? = some v := h
    obtain ⟨h3, h4⟩ := List.getElem?_eq_some_iff.mp h2
    rw [List.getElem_replicate] at h4
    exact absurd h4.symm hs
  | cons w vs ih =>
    intro i j v h hs
    rcases w with z | z | z | z | z
    · cases j with
      | zero => cases h; exact List.mem_cons_self
      | succ j => exact List.mem_cons_of_mem _ (by have := ih (i + 1) j v h hs; rwa [show i + 1 + j = i + (j + 1) by omega] at this)
    · match j, h with
      | 0, h => cases h; exact List.mem_cons_self
      | 1, h => cases h; exact absurd rfl hs
      | j + 2, h => exact List.mem_cons_of_mem _ (by have := ih (i + 2) j v h hs; rwa [show i + 2 + j = i + (j + 2) by omega] at this)
    · cases j with
      | zero => cases h; exact List.mem_cons_self
      | succ j => exact List.mem_cons_of_mem _ (by have := ih (i + 1) j v h hs; rwa [show i + 1 + j = i + (j + 1) by omega] at this)
    · cases j with
      | zero => cases h; exact List.mem_cons_self
      | succ j => exact List.mem_cons_of_mem _ (by have := ih (i + 1) j v h hs; rwa [show i + 1 + j = i + (j + 1) by omega] at this)
    · cases j with
      | zero => cases h; exact absurd rfl hs
      | succ j => exact List.mem_cons_of_mem _ (by have := ih (i + 1) j v h hs; rwa [show i + 1 + j = i + (j + 1) by omega] at this)
/-- what a method returns, by its kind -/
def js_rt (rk : Nat) : Option FieldType := if rk = 1 then some .int else if rk = 2 then some .boolean else if rk = 3 then some .long else if rk = 4 then some .float else if rk = 5 then some .byte else none
theorem js_rt_ok (x : Nat) : (jn_y x).2.2 = js_rt (jm_me x).2.2.2.2.1 := by
  by_cases h : x < 224
  · have hall : (List.range 224).all (fun x => decide ((jn_y x).2.2 = js_rt (jm_me x).2.2.2.2.1)) = true := by decide +kernel
    simpa using List.all_eq_true.mp hall x (List.mem_range.mpr h)
  · have h1 : jn_YL.getD (x / 16) [] = [] := by rw [List.getD_eq_getElem?_getD, List.getElem?_eq_none (by show 14 ≤ x / 16; omega)]; rfl
    have h2 : jm_MET.getD (x / 16) [] = [] := by rw [List.getD_eq_getElem?_getD, List.getElem?_eq_none (by show 14 ≤ x / 16; omega)]; rfl
    unfold jn_y jm_me
    rw [h1, h2]
    rfl
def js_wd (y : Nat) : List Cond := Cond.code (jn_y y).1 (jn_y y).2.1 (jm_me y).2.2.2.1 (jn_y y).2.2 :: js_Tg
def js_rm (y : Nat) : Room := { frames := (jm_me y).2.2.2.2.2.1, cells := 0, slots := 0, locals := (jm_me y).2.2.2.2.2.2 }
def js_B (D : va_G) (cy : Nat → ClassId) (ad : Nat → Nat) (hp : jm_H) (U : State) : Prop := va_P D jn_cl (js_ws cy ad hp) U.heap ∧ va_K D jn_cl (js_ty cy) U ∧ (js_S0 ad U ∧ js_N U) ∧ js_Sc ad hp U
def js_Qc (D : va_G) (cy : Nat → ClassId) (ad : Nat → Nat) (rv : Option jm_V) (hp' : jm_H) : Array Value → State → Outcome → State → Prop := fun _ st o t => o = .returned (rv.map (js_v ad)) ∧ va_P D jn_cl (js_ws cy ad hp') t.heap ∧ va_F (js_A ad) st t
theorem js_good {y : Nat} (h : jn_okM y) : GoodIn js_T (js_wd y) := by
  intro w hw
  rcases List.mem_cons.mp hw with rfl | hw
  · exact ⟨js_t h.1.1 rfl, good_of_word rfl⟩
  · obtain ⟨h1, h2⟩ := List.mem_filter.mp hw
    exact ⟨js_t h1 (by rw [h2]; rfl), good_of_word h2⟩
theorem js_N_at {s U : State} (hW : s.WarmedH U.vm) (h : js_N s) : js_N U := by
  intro w hw hn
  have h1 := h w hw hn
  cases w with
  | fieldLinkNest a i b n d g => exact h1.warmF hW
  | methodLinkNest a i x g => exact h1.warmM hW
  | _ => cases hn
/-- statics stay, over a call and within a method -/
theorem js_S0_at {ad : Nat → Nat} {s U : State} {H : Heap} (hU : U.heap = H) (hW : s.WarmedH U.vm) (hq : ∀ a : Nat, a < s.heap.size → ¬ js_A ad a → H[a]? = s.heap[a]?) (h : js_S0 ad s) : js_S0 ad U := by
  subst hU
  refine ⟨fun q hm => ((h.1 q hm).moved hW.alike).kept hq, fun k h1 h2 => ((h.2.1 k h1 h2).moved hW.alike).kept hq, h.2.2.1.warm hW, (h.2.2.2.1.moved hW.alike).kept hq, (h.2.2.2.2.1.moved hW.alike).kept hq, (h.2.2.2.2.2.1.moved hW.alike).kept hq, (h.2.2.2.2.2.2.moved hW.alike).kept hq⟩
theorem js_Sc_at {ad : Nat → Nat} {hp : jm_H} {s U : State} {H : Heap} (hU : U.heap = H) (hv : s.vm.Alike U.vm) (hq : ∀ a : Nat, a < s.heap.size → ¬ js_A ad a → H[a]? = s.heap[a]?) (h : js_Sc ad hp s) : js_Sc ad hp U := by
  subst hU
  exact ⟨h.1, h.2.1, (h.2.2.moved hv).kept hq⟩
theorem js_blind {D : va_G} {cy : Nat → ClassId} {ad : Nat → Nat} {hp : jm_H} {vs : List Value} : FrameBlind (va_Pc vs (js_B D cy ad hp)) := by
  intro a U g mk q
  obtain ⟨q0, qP, qK, ⟨qS, qN⟩, qC⟩ := q
  refine ⟨q0, qP, va_K.moved (u := U) (U := U.calling g mk a) (Vm.Alike.refl U.vm) qK, ⟨?_, fun w hw hn => va_Nw.same (u := U) (U := U.calling g mk a) (by cases w <;> first | rfl | cases hn) rfl (qN w hw hn)⟩, ?_⟩
  · refine ⟨fun q hm => va_Z.moved (u := U) (U := U.calling g mk a) (Vm.Alike.refl U.vm) (qS.1 q hm), fun k h1 h2 => va_T.moved (u := U) (U := U.calling g mk a) (Vm.Alike.refl U.vm) (qS.2.1 k h1 h2), vk_R.same (u := U) (U := U.calling g mk a) rfl qS.2.2.1, va_O.moved (u := U) (U := U.calling g mk a) (Vm.Alike.refl U.vm) qS.2.2.2.1, va_OF.moved (u := U) (U := U.calling g mk a) (Vm.Alike.refl U.vm) qS.2.2.2.2.1, va_OF.moved (u := U) (U := U.calling g mk a) (Vm.Alike.refl U.vm) qS.2.2.2.2.2.1, va_T.moved (u := U) (U := U.calling g mk a) (Vm.Alike.refl U.vm) qS.2.2.2.2.2.2⟩
  · exact ⟨qC.1, qC.2.1, va_T.moved (u := U) (U := U.calling g mk a) (Vm.Alike.refl U.vm) qC.2.2⟩
/-- behind a call -/
theorem js_cont {p : Program} {l : Launch} {e : Env} {R : Room} {s : State} {m : MethodId} {args : Array Value} {below : List Frame} {meth : Method} {c : Code} {cells slots : Nat} {Q : State → Prop} {D : va_G} {cy : Nat → ClassId} {ad : Nat → Nat} {pc : Nat} {H : Heap} {locs : List Loc} {ls : Array Slot} {st0 rest : List Value} {a : Array Value} {rv : Option jm_V} {hp' : jm_H}
    (hr : va_Run p l e R s m args below meth c H locs cells slots 0 0 (F0 m pc ls st0) rest (js_Qc D cy ad rv hp' a) (js_A ad)) (hS : va_S (js_A ad) s.heap H locs)
    (kk : ∀ (H1 : Heap) (locs1 : List Loc), va_P D jn_cl (js_ws cy ad hp') H1 → va_S (js_A ad) s.heap H1 locs1 → W p l e R s m args below meth c H1 locs1 cells slots Q (F0 m (pc + 3) ls ((rv.map (js_v ad)).toList ++ rest))) : W p l e R s m args below meth c H locs cells slots Q (F0 m pc ls st0) := by
  intro T hT X
  obtain ⟨v, st₀, t, T', L, h0, X', hL, e1, e2, ⟨hv, hb, hz, hk⟩, st⟩ := hr T hT X
  cases hv
  rw [h0] at hz hk
  obtain ⟨t2, a1, b1⟩ := kk T'.heap (locs ++ L) (by rw [e1]; exact hb)
    ⟨Nat.le_trans hS.1 (by rw [e1]; exact hz), fun q h1 h2 => by rw [e1, hk q (Nat.lt_of_lt_of_le h1 hS.1) h2]; exact hS.2.1 q h1 h2, fun q hq => by
      rcases List.mem_append.mp hq with h | h
      · exact hS.2.2 q h
      · exact hL q h⟩ T' rfl X'
  exact ⟨t2, st t2 a1, b1⟩
/-- what is shown by induction on the steps -/
def js_P (l : Launch) (D : va_G) (cy : Nat → ClassId) (ad : Nat → Nat) (n : Nat) : Prop :=
  ∀ (x pc : Nat) (A st : List jm_V) (hp : jm_H) (rv : Option jm_V) (hp' : jm_H), jm_run n x pc A st hp = some (rv, hp') → jn_okD x →
    ∀ (p : Program) (e : Env) (R : Room) (s : State) (m : MethodId) (args : Array Value) (below : List Frame) (meth : Method) (c : Code) (cells slots : Nat) (Q : State → Prop), js_Cx p R s m args c cells slots D cy ad x →
      (∀ (pc' : Nat) (A' st' : List jm_V) (H' : Heap) (locs' : List Loc) (ls' : Array Slot), jm_go x pc' A' st' hp' = some (.inr (.inl rv)) → va_P D jn_cl (js_ws cy ad hp') H' → va_S (js_A ad) s.heap H' locs' → W p l e R s m args below meth c H' locs' cells slots Q (F0 m pc' ls' (st'.map (js_v ad)))) →
      js_G p l e R s m args below meth c cells slots Q D cy ad x pc A st hp
theorem js_bif_n2 {α : Type} {b : Bool} {o : Option α} {w : α} (h : (bif b then o else none) = some w) : b = true ∧ o = some w := by
  cases b with
  | false => cases h
  | true => exact ⟨rfl, h⟩
theorem js_ar2_no2 {x pc nx tg : Nat} {i : Instr} {A st : List jm_V} {hp : jm_H} {o : Option jm_V ⊕ (Nat × List jm_V × List jm_V × Nat)} (_ : jm_fe x pc = some (i, nx, tg)) (hg : jm_ar2 i nx A st hp = some (.inr o)) : False := js_ar2_no hg
theorem js_ar2_keep {x pc nx tg pc' : Nat} {i : Instr} {A st A' st' : List jm_V} {hp hp' : jm_H} (_ : jm_fe x pc = some (i, nx, tg)) (hg : jm_ar2 i nx A st hp = some (.inl (pc', A', st', hp'))) (q : Nat) : hp' q = hp q := by
  unfold jm_ar2 at hg
  split at hg
  · split at hg <;> cases hg; rfl
  · split at hg <;> cases hg; rfl
  · split at hg <;> cases hg; rfl
  · cases hg
theorem js_call_inv {x y y' nx nx' : Nat} {st vs r : List jm_V} (h : jm_call x y st nx = some (.inr (.inr (y', vs, r, nx')))) : y' = y ∧ nx' = nx ∧ (jm_me y).2.1 ≤ st.length ∧ jm_ro x y = true ∧ (r.map jm_cat).sum ≤ 8 ∧ (jm_lay vs).length ≤ (jm_me y).2.2.2.1 ∧ vs = (st.take (jm_me y).2.1).reverse ∧ r = st.drop (jm_me y).2.1 := by
  unfold jm_call at h
  obtain ⟨hc, h⟩ := js_bif_n2 h
  cases h
  simp only [Bool.and_eq_true] at hc
  exact ⟨rfl, rfl, Nat.le_of_ble_eq_true hc.1.1.1, hc.1.1.2, Nat.le_of_ble_eq_true hc.1.2, Nat.le_of_ble_eq_true hc.2, rfl, rfl⟩
theorem js_call_ret {x y nx : Nat} {st : List jm_V} {rv : Option jm_V} (h : jm_call x y st nx = some (.inr (.inl rv))) : False := by
  unfold jm_call at h
  cases (js_bif_n2 h).2
theorem js_mth_no {x y nx : Nat} {A st : List jm_V} {hp : jm_H} {o : Option jm_V ⊕ (Nat × List jm_V × List jm_V × Nat)} (h : jm_mth x y nx A st hp = some (.inr o)) : False := by
  unfold jm_mth at h
  split at h
  · rename_i b r
    cases h0 : Nat.beq y 0 with
    | true => rw [h0] at h; cases (js_bif_n2 (show (bif _ then _ else none) = some _ from h)).2
    | false =>
      rw [h0] at h
      dsimp only [cond_false] at h
      split at h
      · obtain ⟨-, h⟩ := js_bif_n2 h
        cases h1 : Nat.beq y 1 with
        | true => rw [h1] at h; cases h
        | false => rw [h1] at h; cases (js_bif_n2 (show (bif Nat.beq y 2 then _ else none) = some _ from h)).2
      · cases h
  · cases h
set_option maxHeartbeats 8000000 in
theorem js_ends {p : Program} {l : Launch} {e : Env} {R : Room} {s : State} {m : MethodId} {args : Array Value} {below : List Frame} {meth : Method} {c : Code} {D : va_G} {cy : Nat → ClassId} {ad : Nat → Nat} {x pc' : Nat} {A' st' : List jm_V} {hp' : jm_H} {H' : Heap} {locs' : List Loc} {ls' : Array Slot} {rv : Option jm_V}
    (hD : jn_okD x) (hx : p.tables.exec = Jvm.exec) (hb : c.code = (jn_y x).2.1) (hr : meth.sig.returnType = (jn_y x).2.2) (hlocks : meth.locks = false) (hg : jm_go x pc' A' st' hp' = some (.inr (.inl rv))) (hP : va_P D jn_cl (js_ws cy ad hp') H') (hS : va_S (js_A ad) s.heap H' locs') :
    W p l e R s m args below meth c H' locs' 0 0 (MQ below (js_Qc D cy ad rv hp') args s 0 0 (js_A ad)) (F0 m pc' ls' (st'.map (js_v ad))) := by
  unfold jm_go at hg
  cases hf : jm_fe x pc' with
  | none => rw [hf] at hg; cases hg
  | some o =>
    obtain ⟨i, nx, tg⟩ := o
    rw [hf] at hg
    dsimp only at hg
    obtain ⟨hdec, hlt, hlen, htg⟩ := jn_fe hD hf
    have hdl : jn_len i ≠ 0 → decode (jn_y x).2.1 pc' = .ok (i, jn_len i) := by
      intro h0
      rcases hlen with h | h
      · exact absurd h h0
      · rw [hdec, ← h, Nat.add_sub_cancel_left]
    rw [js_rt_ok] at hr
    have hq : ∀ t : State, t.heap = H' → s.WarmedH t.vm → js_Qc D cy ad rv hp' args s (.returned (rv.map (js_v ad))) t := fun t ht _ => ⟨rfl, by rw [ht]; exact hP, hS.F ht⟩
    cases i
    case ireturn =>
      have hd := hdl (Nat.succ_ne_zero _)
      have hg : jm_retI (jm_me x).2.2.2.2.1 st' = some (.inr (.inl rv)) := hg
      unfold jm_retI at hg
      split at hg
      · rename_i z
        obtain ⟨hc, hg⟩ := js_bif_n2 hg
        cases hg
        simp only [Bool.or_eq_true, Bool.and_eq_true, decide_eq_true_eq] at hc
        rcases hc with (hc | ⟨hc, h01⟩) | ⟨hc, h0⟩
        · rw [Nat.eq_of_beq_eq_true hc] at hr
          exact W.iret hx hb hr hq hS.2.2 hd
        · rw [Nat.eq_of_beq_eq_true hc] at hr
          exact W.zret (ty := .boolean) hx hb hr (by rcases h01 with rfl | rfl <;> rfl) hq hS.2.2 hd
        · rw [Nat.eq_of_beq_eq_true hc] at hr
          exact W.zret (ty := .byte) hx hb hr (by subst h0; rfl) hq hS.2.2 hd
      · cases hg
    case lreturn =>
      have hd := hdl (Nat.succ_ne_zero _)
      dsimp only [jm_in] at hg
      split at hg
      · obtain ⟨hc, hg⟩ := js_bif_n2 hg
        cases hg
        rw [Nat.eq_of_beq_eq_true hc] at hr
        exact W.lret hx hb hr hq hS.2.2 hd
      · cases hg
    case freturn =>
      have hd := hdl (Nat.succ_ne_zero _)
      dsimp only [jm_in] at hg
      split at hg
      · obtain ⟨hc, hg⟩ := js_bif_n2 hg
        cases hg
        rw [Nat.eq_of_beq_eq_true hc] at hr
        exact W.fret hx hb hr hq hS.2.2 hd
      · cases hg
    case return_ =>
      have hd := hdl (Nat.succ_ne_zero _)
      dsimp only [jm_in] at hg
      split at hg
      · obtain ⟨hc, hg⟩ := js_bif_n2 hg
        cases hg
        rw [Nat.eq_of_beq_eq_true hc] at hr
        exact W.vret hx hb hr hq hS.2.2 hd
      · cases hg
    all_goals first
      | (cases hg; done)
      | (exact False.elim (js_ar2_no2 (A := A') (st := st') (hp := hp') hf hg))
      | (obtain ⟨_, _, _, ho, _⟩ := js_ld_inv hg; cases ho; done)
      | (obtain ⟨_, _, _, _, ho, _⟩ := js_sv_inv hg; cases ho; done)
      | (obtain ⟨_, _, ho⟩ := js_kV_inv hg; cases ho; done)
      | (obtain ⟨_, _, _, _, _, _, _, _, ho⟩ := js_ald_inv hg; cases ho; done)
      | (obtain ⟨_, _, _, _, _, _, _, _, ho⟩ := js_ald_inv (t := 2) (mk := fun z => jF z.toNat) hg; cases ho; done)
      | (obtain ⟨_, _, _, _, _, _, _, _, _, _, ho⟩ := js_ast_inv hg; cases ho; done)
      | (obtain ⟨_, _, _, _, _, _, _, _, _, _, _, ho, _⟩ := js_getf_inv hg; cases ho; done)
      | (obtain ⟨_, _, _, _, _, _, _, _, _, _, _, _, ho, _⟩ := js_putf_inv hg; cases ho; done)
      | (dsimp only [jm_in] at hg; split at hg <;> first | (cases hg; done) | (cases (js_bif_n2 hg).2; done) | (split at hg <;> cases hg; done))
      | skip
    case baload =>
      dsimp only [jm_in] at hg
      split at hg
      · rename_i o h1
        cases hg
        obtain ⟨_, _, _, _, _, _, _, _, ho⟩ := js_ald_inv h1
        cases ho
      · obtain ⟨_, _, _, _, _, _, _, _, ho⟩ := js_ald_inv hg
        cases ho
    case invokevirtual idx =>
      dsimp only [jm_in] at hg
      split at hg
      · exact absurd (js_bif_n2 hg).2 js_call_ret
      · cases hg
    case invokestatic idx =>
      dsimp only [jm_in] at hg
      split at hg
      · rename_i y hy
        cases hb2 : Nat.ble y 2 with
        | true => rw [hb2] at hg; exact absurd hg js_mth_no
        | false => rw [hb2] at hg; exact absurd (js_bif_n2 (show (bif _ then _ else none) = some _ from hg)).2 js_call_ret
      · cases hg
end
section
set_option maxHeartbeats 16000000 in
theorem js_keep {x pc nx tg pc' rk : Nat} {i : Instr} {A st A' st' : List jm_V} {hp hp' : jm_H} (hf : jm_fe x pc = some (i, nx, tg)) (hg : jm_in x (jm_me x).1 rk pc i nx tg A st hp = some (.inl (pc', A', st', hp'))) : ∀ q, 78 ≤ q → hp' q = hp q := by
  intro q hq
  cases i
  case putfield idx =>
    obtain ⟨ci, j, k, r, fs, t, v, z, hF, rfl, hs, ht, ho, hv⟩ := js_putf_inv hg
    cases ho
    rcases js_lt_o hs with hk | rfl
    · exact js_hs_ne (by omega)
    · exfalso
      cases hs
      match j, ht with
      | 0, ht => cases ht; rcases hv with ⟨h, -⟩ | ⟨h, -⟩ | ⟨h, -⟩ <;> cases h
      | 1, ht => cases ht
      | j + 2, ht => cases ht
  case iastore => obtain ⟨v, i, k, r, n, z, rfl, hs, hz, hr, ho⟩ := js_ast_inv hg; cases ho; have := js_lt_a hs (by decide); exact js_hs_ne (by omega)
  case lastore => obtain ⟨v, i, k, r, n, z, rfl, hs, hz, hr, ho⟩ := js_ast_inv hg; cases ho; have := js_lt_a hs (by decide); exact js_hs_ne (by omega)
  case fastore => obtain ⟨v, i, k, r, n, z, rfl, hs, hz, hr, ho⟩ := js_ast_inv hg; cases ho; have := js_lt_a hs (by decide); exact js_hs_ne (by omega)
  case bastore => obtain ⟨v, i, k, r, n, z, rfl, hs, hz, hr, ho⟩ := js_ast_inv hg; cases ho; have := js_lt_a hs (by decide); exact js_hs_ne (by omega)
  case baload =>
    dsimp only [jm_in] at hg
    split at hg
    · rename_i o h1
      cases hg
      obtain ⟨_, _, _, _, _, _, _, _, ho⟩ := js_ald_inv h1
      cases ho; rfl
    · obtain ⟨_, _, _, _, _, _, _, _, ho⟩ := js_ald_inv hg
      cases ho; rfl
  case faload => obtain ⟨_, _, _, _, _, _, _, _, ho⟩ := js_ald_inv (t := 2) (mk := fun z => jF z.toNat) hg; cases ho; rfl
  case iaload => obtain ⟨_, _, _, _, _, _, _, _, ho⟩ := js_ald_inv hg; cases ho; rfl
  case laload => obtain ⟨_, _, _, _, _, _, _, _, ho⟩ := js_ald_inv hg; cases ho; rfl
  case getfield idx => obtain ⟨_, _, _, _, _, _, _, _, _, _, _, ho, _⟩ := js_getf_inv hg; cases ho; rfl
  case invokevirtual idx =>
    exfalso
    dsimp only [jm_in] at hg
    split at hg
    · exact js_call_no (js_bif_n hg).2
    · cases hg
  case invokestatic idx =>
    dsimp only [jm_in] at hg
    split at hg
    · rename_i y hy
      cases hb : Nat.ble y 2 with
      | true =>
        rw [hb] at hg
        have hg : jm_mth x y nx A st hp = some (.inl (pc', A', st', hp')) := hg
        unfold jm_mth at hg
        split at hg
        · rename_i b r
          cases h0 : Nat.beq y 0 with
          | true => rw [h0] at hg; cases (js_bif_n2 (show (bif _ then _ else none) = some _ from hg)).2; rfl
          | false =>
            rw [h0] at hg
            dsimp only [cond_false] at hg
            split at hg
            · obtain ⟨-, hg⟩ := js_bif_n2 hg
              cases h1 : Nat.beq y 1 with
              | true => rw [h1] at hg; cases hg; rfl
              | false => rw [h1] at hg; cases (js_bif_n2 (show (bif Nat.beq y 2 then _ else none) = some _ from hg)).2; rfl
            · cases hg
        · cases hg
      | false =>
        rw [hb] at hg
        exact absurd (js_bif_n (show (bif _ then _ else none) = some _ from hg)).2 js_call_no
    · cases hg
  case ireturn =>
    exfalso
    have hg : jm_retI rk st = some (.inl (pc', A', st', hp')) := hg
    unfold jm_retI at hg
    split at hg
    · cases (js_bif_n hg).2
    · cases hg
  all_goals first
    | (cases hg <;> rfl)
    | (obtain ⟨_, _, _, ho, _⟩ := js_ld_inv hg; cases ho; rfl)
    | (obtain ⟨_, _, _, _, ho, _⟩ := js_sv_inv hg; cases ho; rfl)
    | (obtain ⟨_, _, ho⟩ := js_kV_inv hg; cases ho; rfl)
    | (exact js_ar2_keep (A := A) (st := st) (hp := hp) hf hg q)
    | (dsimp only [jm_in] at hg; split at hg <;> first | (cases hg <;> rfl) | (cases (js_bif_n2 hg).2 <;> rfl) | (split at hg <;> (cases hg <;> rfl)))
theorem js_run_keep : ∀ (n x pc : Nat) (A st : List jm_V) (hp : jm_H) (rv : Option jm_V) (hp' : jm_H), jm_run n x pc A st hp = some (rv, hp') → ∀ q, 78 ≤ q → hp' q = hp q := by
  intro n
  induction n with
  | zero => intro x pc A st hp rv hp' h; cases h
  | succ n ih =>
    intro x pc A st hp rv hp' h q hq
    rw [jm_run] at h
    cases hg : jm_go x pc A st hp with
    | none => rw [hg] at h; cases h
    | some o =>
      rw [hg] at h
      rcases o with ⟨p1, A1, s1, h1⟩ | rv1 | ⟨y, vs, r, nx⟩
      · rw [ih _ _ _ _ _ _ _ h q hq]
        unfold jm_go at hg
        cases hf : jm_fe x pc with
        | none => rw [hf] at hg; cases hg
        | some w =>
          obtain ⟨i, nx, tg⟩ := w
          rw [hf] at hg
          exact js_keep hf hg q hq
      · cases h; rfl
      · dsimp only at h
        cases hc : jm_run n y 0 (jm_en y vs) [] hp with
        | none => rw [hc] at h; cases h
        | some w =>
          obtain ⟨rv1, h1⟩ := w
          rw [hc] at h
          rw [ih _ _ _ _ _ _ _ h q hq, ih _ _ _ _ _ _ _ hc q hq]
theorem js_Sc_eq {ad : Nat → Nat} {hp hp' : jm_H} {s : State} (h82 : hp' 82 = hp 82) (h85 : hp' 85 = hp 85) (h : js_Sc ad hp s) : js_Sc ad hp' s := by
  unfold js_Sc at *
  rw [h82, h85]
  exact h
/-- a method's contract out of its run -/
theorem js_met {l : Launch} {D : va_G} {cy : Nat → ClassId} {ad : Nat → Nat} {n y : Nat} {vs : List jm_V} {hp : jm_H} {rv : Option jm_V} {hp' : jm_H} (hPn : js_P l D cy ad n) (hinj : js_inj ad) (hM : jn_okM y) (hD : jn_okD y) (hl : (jm_lay vs).length ≤ (jm_me y).2.2.2.1) (hr : jm_run n y 0 (jm_en y vs) [] hp = some (rv, hp')) :
    Met l (jn_y y).1 (js_wd y) (js_rm y) (va_Pc (vs.map (js_v ad)) (js_B D cy ad hp)) (js_Qc D cy ad rv hp') 0 0 (js_A ad) := by
  refine Met.ofW (cc := (jn_y y).2.1) (maxL := (jm_me y).2.2.2.1) (ret := (jn_y y).2.2) hM.1.2.2.2.1 rfl ?_
  intro p e s m args below meth c s₁ B hml hv
  obtain ⟨rfl, hP, hK, ⟨hS0, hN⟩, hSc⟩ := hv
  have hx := B.exec
  have hb := B.bytes
  have hret := B.returns
  have hts := atoms_spec (ws := js_wd y) B.pre
  have hown : s.vm.findClass (jn_y y).1.cls = some m.cls := findClass_of_methodNamed B.named
  have hlocks := B.notSynchronized
  have hT : ∀ w ∈ js_T, w.before (vs.map (js_v ad)).toArray s = true := by
    intro w hw
    obtain ⟨h1, h2⟩ := List.mem_filter.mp hw
    rcases (Bool.or_eq_true _ _).mp h2 with h3 | h3
    · exact hts w (List.mem_cons_of_mem _ (js_tg h1 h3))
    · exact va_Nw.use (by cases w <;> first | rfl | cases h3) (hN w h1 h3)
  rw [hM.1.2.2.1] at hown
  have C : js_Cx p (js_rm y) s m (vs.map (js_v ad)).toArray c 0 0 D cy ad y := ⟨hx, hb, hml, hown, hT, hK, hinj, ⟨hS0, hN⟩, Nat.le_refl _, Nat.le_refl _, Nat.le_refl _, Nat.le_refl _⟩
  have hl2 : (lg_sl (vs.map (js_v ad))).length ≤ (jm_me y).2.2.2.1 := by rw [js_lay_len]; exact hl
  have hlv := lv_entry (vs.map (js_v ad)) hl2
  rw [lg_entry_eq]
  generalize (lg_sl (vs.map (js_v ad)) ++ List.replicate ((jm_me y).2.2.2.1 - (lg_sl (vs.map (js_v ad))).length) Slot.unset).toArray = ls at hlv ⊢
  have hh : lv_has ls (jm_me y).2.2.2.1 (js_lv ad (jm_en y vs)) := js_has_of hlv (fun j v hj hs => by
    have := js_en_mem ad _ vs 0 j v hj hs
    rwa [Nat.zero_add] at this)
  have hlen : (jm_en y vs).length = (jm_me y).2.2.2.1 := by
    unfold jm_en
    rw [List.length_append, List.length_replicate]
    omega
  exact hPn y 0 (jm_en y vs) [] hp rv hp' hr hD p e _ s m _ below meth c 0 0 _ C (fun pc' A' st' H' locs' ls' g1 g2 g3 => js_ends hD hx hb hret hlocks g1 g2 g3) s.heap [] ls hh hlen hP va_S.rf hSc
end
section
/-- class names by number -/
theorem js_ownT (ci : Nat) (q : vw_C) (h : jn_cl[ci]? = some q) : q.1 = jn_own ci := by
  match ci, h with
  | 0, h => cases h; rfl
  | 1, h => cases h; rfl
  | 2, h => cases h; rfl
  | 3, h => cases h; rfl
  | 4, h => cases h; rfl
  | 5, h => cases h; rfl
  | 6, h => cases h; rfl
  | 7, h => cases h; rfl
  | 8, h => cases h; rfl
  | n + 9, h => simp [jn_cl] at h
section All
variable {p : Program} {l : Launch} {e : Env} {R : Room} {s : State} {m : MethodId} {args : Array Value} {below : List Frame} {meth : Method} {c : Code} {cells slots : Nat} {Q : State → Prop} {D : va_G} {cy : Nat → ClassId} {ad : Nat → Nat} {x pc : Nat} {A : List jm_V} {hp : jm_H}
/-- the receiver's cell -/
theorem js_recv {H : Heap} {locs : List Loc} {k y : Nat} {fs : List (Nat ⊕ Nat)} (C : js_Cx p R s m args c cells slots D cy ad x) (hP : va_P D jn_cl (js_ws cy ad hp) H) (hS : va_S (js_A ad) s.heap H locs) (hs : jm_sh k = .inl ((jm_me y).1, fs)) (hy : (jn_y y).1.cls = jn_own (jm_me y).1) : ∃ cell : Cell, H[ad k]? = some cell ∧ cell.vm.isStatics = false ∧ s.vm.findClass (jn_y y).1.cls = some cell.cls := by
  obtain ⟨hx, hb, hml, hown, hts, hK, hinj, ⟨hS0, hN⟩, hR⟩ := C
  rcases js_lt_o hs with hk | rfl
  · obtain ⟨q, hcl, -⟩ := js_shape hk hs
    have ha : (js_ws cy ad hp)[k]? = some (ad k, .inr ((jm_me y).1, js_fs ad hp k fs)) := by rw [js_ws_at hk, js_ce_o hs]
    have := va_recv hK hP hcl ha
    rw [hy, ← js_ownT _ _ hcl]
    exact this
  · have h10 : (jm_me y).1 = 10 := by have h := hs; generalize (jm_me y).1 = z at h; cases h; rfl
    obtain ⟨cell, h1, h2, h3, -⟩ := hS0.2.2.2.1.kept hS.2.1
    exact ⟨cell, h1, h2, by rw [hy, h10]; exact h3⟩
theorem js_ro_inv {x y : Nat} (h : jm_ro x y = true) : (jm_me y).2.2.2.2.2.1 + 1 ≤ (jm_me x).2.2.2.2.2.1 ∧ 8 + ((jm_me y).2.2.2.1 + 11) + (jm_me y).2.2.2.2.2.2 ≤ (jm_me x).2.2.2.2.2.2 := by
  unfold jm_ro at h
  obtain ⟨h1, h2⟩ := (Bool.and_eq_true _ _).mp h
  exact ⟨Nat.le_of_ble_eq_true h1, Nat.le_of_ble_eq_true h2⟩
theorem js_map_some {α : Type} {o : Option α} {f : α → Nat} {n : Nat} (h : o.map (fun d => f d + 1) = some n) : o.map (fun d => f d) = some (n - 1) := by
  cases o with
  | none => cases h
  | some a => cases h; rfl
/-- a call of an instance method -/
theorem js_callV {n y idx : Nat} {st vs r : List jm_V} {nx : Nat} {rv : Option jm_V} {hp1 : jm_H} (hPn : js_P l D cy ad n) (C : js_Cx p R s m args c cells slots D cy ad x) (hd : decode (jn_y x).2.1 pc = .ok (.invokevirtual idx, 3)) (hy : jm_pf jm_ML (jm_me x).1 idx = some y) (hrc : jm_rc y st = true) (hst : (jm_me y).2.2.1 = false) (hc : jm_call x y st (pc + 3) = some (.inr (.inr (y, vs, r, nx)))) (hr : jm_run n y 0 (jm_en y vs) [] hp = some (rv, hp1)) (k : js_G p l e R s m args below meth c cells slots Q D cy ad x (pc + 3) A (jm_ps rv r) hp1) : js_G p l e R s m args below meth c cells slots Q D cy ad x pc A st hp := by
  intro H locs ls h1 h2 h3 h4 h5
  obtain ⟨-, -, hnp, hro, hsum, hlay, hvs, hrr⟩ := js_call_inv hc
  have hL := jn_pL (jm_me x).1 _ (jn_pf_mem hy)
  obtain ⟨hlink, hok, hmth⟩ := hL
  dsimp only at hlink hok hmth
  have h3y : 3 ≤ y ∧ jn_okM y ∧ jn_okD y := by
    rcases hok with h | h
    · exfalso
      have : y = 0 ∨ y = 1 ∨ y = 2 := by omega
      rcases this with rfl | rfl | rfl <;> cases hst
    · exact h
  obtain ⟨-, hM, hDy⟩ := h3y
  have hroom := js_ro_inv hro
  have hM2 := hM.2
  rw [hst] at hM2
  rw [if_neg (by decide)] at hM2
  obtain ⟨⟨hinst, hsel⟩, hpar⟩ := hM2
  -- the receiver
  unfold jm_rc at hrc
  split at hrc
  · rename_i k0 hk0
    split at hrc
    · rename_i c0 fs hs
      have hce := Nat.eq_of_beq_eq_true hrc
      subst hce
      have hpos : 1 ≤ (jm_me y).2.1 := by
        cases hn : (jm_me y).2.1 with
        | zero =>
          exfalso
          rw [hn] at hpar
          cases hq : parseMethodDescriptor (jn_y y).1.desc with
          | none => rw [hq] at hpar; cases hpar
          | some d => rw [hq] at hpar; cases hpar
        | succ n => omega
      have hv0 : ∃ As, vs = jR k0 :: As ∧ As.length = (jm_me y).2.1 - 1 ∧ st = As.reverse ++ jR k0 :: r := by
        have htake : st.take (jm_me y).2.1 = st.take ((jm_me y).2.1 - 1) ++ [jR k0] := by
          have : (jm_me y).2.1 = ((jm_me y).2.1 - 1) + 1 := by omega
          rw [this, List.take_succ, Nat.add_sub_cancel, hk0]
          rfl
        refine ⟨(st.take ((jm_me y).2.1 - 1)).reverse, ?_, ?_, ?_⟩
        · rw [hvs, htake, List.reverse_append]; rfl
        · rw [List.length_reverse, List.length_take]; omega
        · rw [List.reverse_reverse, hrr]
          have e1 : st = st.take (jm_me y).2.1 ++ st.drop (jm_me y).2.1 := (List.take_append_drop _ _).symm
          rw [htake] at e1
          rw [List.append_assoc] at e1
          exact e1
      obtain ⟨As, rfl, hAs, hstk⟩ := hv0
      have hMet := js_met hPn C.2.2.2.2.2.2.1 hM hDy hlay hr
      have hCx := C
      obtain ⟨hx, hb, hml, hown, hts, hK, hinj, ⟨hS0, hN⟩, hR1, hR2, hR3, hR4⟩ := C
      have hd9 : (jn_y y).1.cls ≠ "java/lang/invoke/MethodHandle" ∧ (jn_y y).1.cls ≠ "java/lang/invoke/VarHandle" ∧ (parseMethodDescriptor (jn_y y).1.desc).map (fun d => d.parameters.length) = some ((jm_me y).2.1 - 1) := ⟨hM.1.2.2.2.2.1, hM.1.2.2.2.2.2, js_map_some hpar⟩
      have hRm : (js_rm y).frames + 1 ≤ R.frames ∧ 8 + ((jm_me y).2.2.2.1 + 11) + (js_rm y).locals ≤ R.locals := ⟨Nat.le_trans hroom.1 hR1, Nat.le_trans hroom.2 hR2⟩
      have hpre : PreV s H (jn_y y).1.cls (ad k0) (va_Pc ((jR k0 :: As).map (js_v ad)) (js_B D cy ad hp)) (As.map (js_v ad)) :=
        ⟨js_blind, js_recv hCx h3 h4 hs hM.1.2.2.1, fun U hU hW => ⟨rfl, by rw [hU]; exact h3, va_K.moved hW.alike hK, ⟨js_S0_at hU hW h4.2.1 hS0, js_N_at hW hN⟩, js_Sc_at hU hW.alike h4.2.1 h5⟩⟩
      have hstack : (F0 m pc ls (st.map (js_v ad))).stack = (As.map (js_v ad)).reverse ++ .ref (ad k0) :: r.map (js_v ad) := by
        show st.map (js_v ad) = _
        rw [hstk, List.map_append, List.map_reverse]
        rfl
      have hWd : 2 * (F0 m pc ls (st.map (js_v ad))).monitorRoom + ((r.map (js_v ad)).map fun v => v.category).sum ≤ 8 := by
        rw [js_sum]
        show 2 * 0 + _ ≤ 8
        omega
      have hAl : (As.map (js_v ad)).length = (jm_me y).2.1 - 1 := by rw [List.length_map]; exact hAs
      have hkk : ∀ (H1 : Heap) (locs1 : List Loc), va_P D jn_cl (js_ws cy ad hp1) H1 → va_S (js_A ad) s.heap H1 locs1 → W p l e R s m args below meth c H1 locs1 cells slots Q (F0 m (pc + 3) ls ((rv.map (js_v ad)).toList ++ r.map (js_v ad))) := by
        intro H1 locs1 g1 g2
        have hk := js_run_keep _ _ _ _ _ _ _ _ hr
        have K := k H1 locs1 ls h1 h2 g1 g2 (js_Sc_eq (hk 82 (by omega)) (hk 85 (by omega)) h5)
        cases rv with
        | none => exact K
        | some v => exact K
      rcases hlink with hl | ⟨host, hl⟩
      · exact js_cont (va_runV (As := As.map (js_v ad)) (rest := r.map (js_v ad)) (g := F0 m pc ls (st.map (js_v ad))) (bytes := (jn_y y).2.1) (maxL := (jm_me y).2.2.2.1) (ret := (jn_y y).2.2) (n := (jm_me y).2.1 - 1) ⟨hx, hb, hml, hown, hts⟩ hMet ⟨callB_of _ hts (js_good hM) rfl rfl rfl (hts _ (js_t hM.1.2.1 rfl)) (hts _ (js_t hl rfl)) hd9 hRm, hts _ (js_t hinst rfl), hts _ (js_t hsel rfl)⟩ hpre rfl hAl h1.1 hstack hWd hd ⟨hR3, hR4⟩) h4 hkk
      · exact js_cont (va_runVN (As := As.map (js_v ad)) (rest := r.map (js_v ad)) (g := F0 m pc ls (st.map (js_v ad))) (bytes := (jn_y y).2.1) (maxL := (jm_me y).2.2.2.1) (ret := (jn_y y).2.2) (n := (jm_me y).2.1 - 1) ⟨hx, hb, hml, hown, hts⟩ hMet ⟨va_cnB _ hts (js_good hM) rfl rfl rfl (hN _ hl rfl) (hts _ (js_t hM.1.2.1 rfl)) hd9 hRm, hts _ (js_t hinst rfl), hts _ (js_t hsel rfl)⟩ hpre rfl hAl h1.1 hstack hWd hd ⟨hR3, hR4⟩) h4 hkk
    · cases hrc
  · cases hrc
/-- a call of a static method -/
theorem js_callS {n y idx : Nat} {st vs r : List jm_V} {nx : Nat} {rv : Option jm_V} {hp1 : jm_H} (hPn : js_P l D cy ad n) (C : js_Cx p R s m args c cells slots D cy ad x) (hd : decode (jn_y x).2.1 pc = .ok (.invokestatic idx, 3)) (hy : jm_pf jm_ML (jm_me x).1 idx = some y) (hb2 : Nat.ble y 2 = false) (hst : (jm_me y).2.2.1 = true) (hc : jm_call x y st (pc + 3) = some (.inr (.inr (y, vs, r, nx)))) (hr : jm_run n y 0 (jm_en y vs) [] hp = some (rv, hp1)) (k : js_G p l e R s m args below meth c cells slots Q D cy ad x (pc + 3) A (jm_ps rv r) hp1) : js_G p l e R s m args below meth c cells slots Q D cy ad x pc A st hp := by
  intro H locs ls h1 h2 h3 h4 h5
  obtain ⟨-, -, hnp, hro, hsum, hlay, hvs, hrr⟩ := js_call_inv hc
  have hL := jn_pL (jm_me x).1 _ (jn_pf_mem hy)
  obtain ⟨hlink, hok, hmth⟩ := hL
  dsimp only at hlink hok hmth
  have h3y : 3 ≤ y ∧ jn_okM y ∧ jn_okD y := by
    rcases hok with h | h
    · exfalso
      rw [Nat.ble_eq_true_of_le h] at hb2
      cases hb2
    · exact h
  obtain ⟨-, hM, hDy⟩ := h3y
  have hroom := js_ro_inv hro
  have hM2 := hM.2
  rw [hst] at hM2
  rw [if_pos rfl] at hM2
  obtain ⟨hstat, hpar⟩ := hM2
  have hMet := js_met hPn C.2.2.2.2.2.2.1 hM hDy hlay hr
  obtain ⟨hx, hb, hml, hown, hts, hK, hinj, ⟨hS0, hN⟩, hR1, hR2, hR3, hR4⟩ := C
  have hd9 : (jn_y y).1.cls ≠ "java/lang/invoke/MethodHandle" ∧ (jn_y y).1.cls ≠ "java/lang/invoke/VarHandle" ∧ (parseMethodDescriptor (jn_y y).1.desc).map (fun d => d.parameters.length) = some ((jm_me y).2.1) := ⟨hM.1.2.2.2.2.1, hM.1.2.2.2.2.2, hpar⟩
  have hRm : (js_rm y).frames + 1 ≤ R.frames ∧ 8 + ((jm_me y).2.2.2.1 + 11) + (js_rm y).locals ≤ R.locals := ⟨Nat.le_trans hroom.1 hR1, Nat.le_trans hroom.2 hR2⟩
  have hpre : PreS s H (va_Pc (vs.map (js_v ad)) (js_B D cy ad hp)) (vs.map (js_v ad)) :=
    ⟨js_blind, fun U hU hW => ⟨rfl, by rw [hU]; exact h3, va_K.moved hW.alike hK, ⟨js_S0_at hU hW h4.2.1 hS0, js_N_at hW hN⟩, js_Sc_at hU hW.alike h4.2.1 h5⟩⟩
  have hstk : st = vs.reverse ++ r := by rw [hvs, hrr, List.reverse_reverse, List.take_append_drop]
  have hstack : (F0 m pc ls (st.map (js_v ad))).stack = (vs.map (js_v ad)).reverse ++ r.map (js_v ad) := by
    show st.map (js_v ad) = _
    rw [hstk, List.map_append, List.map_reverse]
  have hWd : 2 * (F0 m pc ls (st.map (js_v ad))).monitorRoom + ((r.map (js_v ad)).map fun v => v.category).sum ≤ 8 := by
    rw [js_sum]
    show 2 * 0 + _ ≤ 8
    omega
  have hAl : (vs.map (js_v ad)).length = (jm_me y).2.1 := by
    rw [List.length_map, hvs, List.length_reverse, List.length_take]
    omega
  have hkk : ∀ (H1 : Heap) (locs1 : List Loc), va_P D jn_cl (js_ws cy ad hp1) H1 → va_S (js_A ad) s.heap H1 locs1 → W p l e R s m args below meth c H1 locs1 cells slots Q (F0 m (pc + 3) ls ((rv.map (js_v ad)).toList ++ r.map (js_v ad))) := by
    intro H1 locs1 g1 g2
    have hk := js_run_keep _ _ _ _ _ _ _ _ hr
    have K := k H1 locs1 ls h1 h2 g1 g2 (js_Sc_eq (hk 82 (by omega)) (hk 85 (by omega)) h5)
    cases rv with
    | none => exact K
    | some v => exact K
  rcases hlink with hl | ⟨host, hl⟩
  · exact js_cont (va_runS (As := vs.map (js_v ad)) (rest := r.map (js_v ad)) (g := F0 m pc ls (st.map (js_v ad))) (bytes := (jn_y y).2.1) (maxL := (jm_me y).2.2.2.1) (ret := (jn_y y).2.2) (n := (jm_me y).2.1) ⟨hx, hb, hml, hown, hts⟩ hMet ⟨callB_of _ hts (js_good hM) rfl rfl rfl (hts _ (js_t hM.1.2.1 rfl)) (hts _ (js_t hl rfl)) hd9 hRm, hts _ (js_t hstat rfl)⟩ hpre rfl hAl h1.1 hstack hWd hd ⟨hR3, hR4⟩) h4 hkk
  · exact js_cont (va_runSN (As := vs.map (js_v ad)) (rest := r.map (js_v ad)) (g := F0 m pc ls (st.map (js_v ad))) (bytes := (jn_y y).2.1) (maxL := (jm_me y).2.2.2.1) (ret := (jn_y y).2.2) (n := (jm_me y).2.1) ⟨hx, hb, hml, hown, hts⟩ hMet ⟨va_cnB _ hts (js_good hM) rfl rfl rfl (hN _ hl rfl) (hts _ (js_t hM.1.2.1 rfl)) hd9 hRm, hts _ (js_t hstat rfl), trivial⟩ hpre rfl hAl h1.1 hstack hWd hd ⟨hR3, hR4⟩) h4 hkk
end All

set_option maxHeartbeats 16000000 in
theorem js_calls {x pc nx tg rk : Nat} {i : Instr} {A st vs r : List jm_V} {hp : jm_H} {y nx' : Nat} (hf : jm_fe x pc = some (i, nx, tg)) (hg : jm_in x (jm_me x).1 rk pc i nx tg A st hp = some (.inr (.inr (y, vs, r, nx')))) : (∃ idx, i = .invokevirtual idx ∧ jm_pf jm_ML (jm_me x).1 idx = some y ∧ jm_rc y st = true ∧ (jm_me y).2.2.1 = false ∧ jm_call x y st nx = some (.inr (.inr (y, vs, r, nx')))) ∨ (∃ idx, i = .invokestatic idx ∧ jm_pf jm_ML (jm_me x).1 idx = some y ∧ Nat.ble y 2 = false ∧ (jm_me y).2.2.1 = true ∧ jm_call x y st nx = some (.inr (.inr (y, vs, r, nx')))) := by
  cases i
  case invokevirtual idx =>
    dsimp only [jm_in] at hg
    split at hg
    · rename_i y0 hy0
      obtain ⟨h1, h2⟩ := js_bif_n2 hg
      obtain ⟨h3, h4⟩ := (Bool.and_eq_true _ _).mp h1
      have h5 := js_call_inv h2
      obtain ⟨rfl, -⟩ := h5
      exact Or.inl ⟨idx, rfl, hy0, h3, by simpa using h4, h2⟩
    · cases hg
  case invokestatic idx =>
    dsimp only [jm_in] at hg
    split at hg
    · rename_i y0 hy0
      cases hb : Nat.ble y0 2 with
      | true => rw [hb] at hg; exact (js_mth_no hg).elim
      | false =>
        rw [hb] at hg
        obtain ⟨h1, h2⟩ := js_bif_n2 (show (bif _ then _ else none) = some _ from hg)
        have h5 := js_call_inv h2
        obtain ⟨rfl, -⟩ := h5
        exact Or.inr ⟨idx, rfl, hy0, hb, h1, h2⟩
    · cases hg
  case baload =>
    exfalso
    dsimp only [jm_in] at hg
    split at hg
    · rename_i o h1
      cases hg
      obtain ⟨_, _, _, _, _, _, _, _, ho⟩ := js_ald_inv h1
      cases ho
    · obtain ⟨_, _, _, _, _, _, _, _, ho⟩ := js_ald_inv hg
      cases ho
  case ireturn =>
    exfalso
    have hg : jm_retI rk st = some (.inr (.inr (y, vs, r, nx'))) := hg
    unfold jm_retI at hg
    split at hg
    · cases (js_bif_n hg).2
    · cases hg
  all_goals (exfalso; first
    | (cases hg; done)
    | (exact js_ar2_no2 (A := A) (st := st) (hp := hp) hf hg)
    | (obtain ⟨_, _, _, ho, _⟩ := js_ld_inv hg; cases ho; done)
    | (obtain ⟨_, _, _, _, ho, _⟩ := js_sv_inv hg; cases ho; done)
    | (obtain ⟨_, _, ho⟩ := js_kV_inv hg; cases ho; done)
    | (obtain ⟨_, _, _, _, _, _, _, _, ho⟩ := js_ald_inv hg; cases ho; done)
    | (obtain ⟨_, _, _, _, _, _, _, _, ho⟩ := js_ald_inv (t := 2) (mk := fun z => jF z.toNat) hg; cases ho; done)
    | (obtain ⟨_, _, _, _, _, _, _, _, _, _, ho⟩ := js_ast_inv hg; cases ho; done)
    | (obtain ⟨_, _, _, _, _, _, _, _, _, _, _, ho, _⟩ := js_getf_inv hg; cases ho; done)
    | (obtain ⟨_, _, _, _, _, _, _, _, _, _, _, _, ho, _⟩ := js_putf_inv hg; cases ho; done)
    | (dsimp only [jm_in] at hg; split at hg <;> first | (cases hg; done) | (cases (js_bif_n2 hg).2; done) | (split at hg <;> cases hg; done)))
/-- SOUND: every run of the machine of these rows is one of the real machine -/
theorem js_sound (l : Launch) (D : va_G) (cy : Nat → ClassId) (ad : Nat → Nat) : ∀ n, js_P l D cy ad n := by
  intro n
  induction n with
  | zero => intro x pc A st hp rv hp' h; cases h
  | succ n ih =>
    intro x pc A st hp rv hp' h hD p e R s m args below meth c cells slots Q C hend
    rw [jm_run] at h
    cases hg : jm_go x pc A st hp with
    | none => rw [hg] at h; cases h
    | some o =>
      rw [hg] at h
      have hg0 := hg
      unfold jm_go at hg
      cases hf : jm_fe x pc with
      | none => rw [hf] at hg; cases hg
      | some w =>
        obtain ⟨i, nx, tg⟩ := w
        rw [hf] at hg
        dsimp only at hg
        rcases o with ⟨p1, A1, s1, h1⟩ | rv1 | ⟨y, vs, r, nx1⟩
        · exact js_step C hD hf hg (ih _ _ _ _ _ _ _ h hD _ _ _ _ _ _ _ _ _ _ _ _ C hend)
        · cases h
          exact fun H locs ls h1 h2 h3 h4 h5 => hend pc A st H locs ls hg0 h3 h4
        · dsimp only at h
          cases hc : jm_run n y 0 (jm_en y vs) [] hp with
          | none => rw [hc] at h; cases h
          | some w =>
            obtain ⟨rv1, h1⟩ := w
            rw [hc] at h
            dsimp only at h
            have hk := ih _ _ _ _ _ _ _ h hD _ _ _ _ _ _ _ _ _ _ _ _ C hend
            obtain ⟨hdec, hlt, hlen, htg⟩ := jn_fe hD hf
            rcases js_calls hf hg with ⟨idx, rfl, hy, hrc, hst, hcall⟩ | ⟨idx, rfl, hy, hb2, hst, hcall⟩
            · have hnx : pc + 3 = nx := by
                rcases hlen with h9 | h9
                · cases h9
                · exact h9
              subst hnx
              obtain ⟨-, rfl, -⟩ := js_call_inv hcall
              exact js_callV ih C (by rw [hdec, Nat.add_sub_cancel_left]) hy hrc hst hcall hc hk
            · have hnx : pc + 3 = nx := by
                rcases hlen with h9 | h9
                · cases h9
                · exact h9
              subst hnx
              obtain ⟨-, rfl, -⟩ := js_call_inv hcall
              exact js_callS ih C (by rw [hdec, Nat.add_sub_cancel_left]) hy hb2 hst hcall hc hk
end
section
/-! the constructors, over the kit's rows -/
theorem jc_blind {D : va_G} {av : List Value} {ws : va_W} {sz : Nat} {tys : List (ClassId × FieldType)} {E : Nat → Prop} : FrameBlind (va_Pc av (fun U => U.heap.size = sz ∧ va_P D jn_cl ws U.heap ∧ va_K D jn_cl tys U ∧ va_D E ws ∧ js_N U)) := by
  intro a U g mk q
  obtain ⟨q0, q1, qP, qK, qD, qN⟩ := q
  exact ⟨q0, q1, qP, va_K.moved (u := U) (U := U.calling g mk a) (Vm.Alike.refl U.vm) qK, qD, fun w hw hn => va_Nw.same (u := U) (U := U.calling g mk a) (by cases w <;> first | rfl | cases hn) rfl (qN w hw hn)⟩
theorem js_wsg0 : ∀ w ∈ u_ws "BlobCorners$BestPolygons" jn_T0 13, w ∈ js_Tg := by
  intro w hw
  refine js_tg (jn_ws0 w hw) ?_
  obtain ⟨k, -, rfl⟩ := List.mem_map.mp hw
  unfold u_lay
  split <;> rfl
theorem jc_df0 {fs : List Value} (h : fs = [.null, .null, .null, .null, .null, .null, .null, .null, .null, .null, .null, .int 0, .int 0]) : ∀ j, j < 13 → defaultValue (jn_ty0 j) = vp_V fs j := by
  subst h
  intro j hj
  match j, hj with
  | 0, _ => rfl
  | 1, _ => rfl
  | 2, _ => rfl
  | 3, _ => rfl
  | 4, _ => rfl
  | 5, _ => rfl
  | 6, _ => rfl
  | 7, _ => rfl
  | 8, _ => rfl
  | 9, _ => rfl
  | 10, _ => rfl
  | 11, _ => rfl
  | 12, _ => rfl
  | j + 13, h => exact absurd h (by omega)
theorem js_wsg1 : ∀ w ∈ u_ws "BlobCorners$Grid" jn_T1 3, w ∈ js_Tg := by
  intro w hw
  refine js_tg (jn_ws1 w hw) ?_
  obtain ⟨k, -, rfl⟩ := List.mem_map.mp hw
  unfold u_lay
  split <;> rfl
theorem jc_df1 {fs : List Value} (h : fs = [.null, .int 0, .int 0]) : ∀ j, j < 3 → defaultValue (jn_ty1 j) = vp_V fs j := by
  subst h
  intro j hj
  match j, hj with
  | 0, _ => rfl
  | 1, _ => rfl
  | 2, _ => rfl
  | j + 3, h => exact absurd h (by omega)
theorem js_wsg2 : ∀ w ∈ u_ws "BlobCorners$Joints" jn_T2 4, w ∈ js_Tg := by
  intro w hw
  refine js_tg (jn_ws2 w hw) ?_
  obtain ⟨k, -, rfl⟩ := List.mem_map.mp hw
  unfold u_lay
  split <;> rfl
theorem jc_df2 {fs : List Value} (h : fs = [.null, .null, .int 0, .int 0]) : ∀ j, j < 4 → defaultValue (jn_ty2 j) = vp_V fs j := by
  subst h
  intro j hj
  match j, hj with
  | 0, _ => rfl
  | 1, _ => rfl
  | 2, _ => rfl
  | 3, _ => rfl
  | j + 4, h => exact absurd h (by omega)
theorem js_wsg3 : ∀ w ∈ u_ws "BlobCorners$Outlines" jn_T3 12, w ∈ js_Tg := by
  intro w hw
  refine js_tg (jn_ws3 w hw) ?_
  obtain ⟨k, -, rfl⟩ := List.mem_map.mp hw
  unfold u_lay
  split <;> rfl
theorem jc_df3 {fs : List Value} (h : fs = [.int 0, .int 0, .null, .null, .null, .null, .null, .null, .null, .null, .null, .null]) : ∀ j, j < 12 → defaultValue (jn_ty3 j) = vp_V fs j := by
  subst h
  intro j hj
  match j, hj with
  | 0, _ => rfl
  | 1, _ => rfl
  | 2, _ => rfl
  | 3, _ => rfl
  | 4, _ => rfl
  | 5, _ => rfl
  | 6, _ => rfl
  | 7, _ => rfl
  | 8, _ => rfl
  | 9, _ => rfl
  | 10, _ => rfl
  | 11, _ => rfl
  | j + 12, h => exact absurd h (by omega)
theorem js_wsg4 : ∀ w ∈ u_ws "BlobCorners$Page" jn_T4 2, w ∈ js_Tg := by
  intro w hw
  refine js_tg (jn_ws4 w hw) ?_
  obtain ⟨k, -, rfl⟩ := List.mem_map.mp hw
  unfold u_lay
  split <;> rfl
theorem jc_df4 {fs : List Value} (h : fs = [.null, .int 0]) : ∀ j, j < 2 → defaultValue (jn_ty4 j) = vp_V fs j := by
  subst h
  intro j hj
  match j, hj with
  | 0, _ => rfl
  | 1, _ => rfl
  | j + 2, h => exact absurd h (by omega)
theorem js_wsg5 : ∀ w ∈ u_ws "BlobCorners$Racks" jn_T5 2, w ∈ js_Tg := by
  intro w hw
  refine js_tg (jn_ws5 w hw) ?_
  obtain ⟨k, -, rfl⟩ := List.mem_map.mp hw
  unfold u_lay
  split <;> rfl
theorem jc_df5 {fs : List Value} (h : fs = [.null, .null]) : ∀ j, j < 2 → defaultValue (jn_ty5 j) = vp_V fs j := by
  subst h
  intro j hj
  match j, hj with
  | 0, _ => rfl
  | 1, _ => rfl
  | j + 2, h => exact absurd h (by omega)
theorem js_wsg6 : ∀ w ∈ u_ws "BlobCorners$Seen" jn_T6 4, w ∈ js_Tg := by
  intro w hw
  refine js_tg (jn_ws6 w hw) ?_
  obtain ⟨k, -, rfl⟩ := List.mem_map.mp hw
  unfold u_lay
  split <;> rfl
theorem jc_df6 {fs : List Value} (h : fs = [.null, .null, .null, .int 0]) : ∀ j, j < 4 → defaultValue (jn_ty6 j) = vp_V fs j := by
  subst h
  intro j hj
  match j, hj with
  | 0, _ => rfl
  | 1, _ => rfl
  | 2, _ => rfl
  | 3, _ => rfl
  | j + 4, h => exact absurd h (by omega)
theorem js_wsg7 : ∀ w ∈ u_ws "BlobCorners" jn_T7 15, w ∈ js_Tg := by
  intro w hw
  refine js_tg (jn_ws7 w hw) ?_
  obtain ⟨k, -, rfl⟩ := List.mem_map.mp hw
  unfold u_lay
  split <;> rfl
theorem jc_df7 {fs : List Value} (h : fs = [.null, .null, .null, .null, .null, .null, .null, .null, .null, .null, .null, .null, .int 0, .int 0, .int 0]) : ∀ j, j < 15 → defaultValue (jn_ty7 j) = vp_V fs j := by
  subst h
  intro j hj
  match j, hj with
  | 0, _ => rfl
  | 1, _ => rfl
  | 2, _ => rfl
  | 3, _ => rfl
  | 4, _ => rfl
  | 5, _ => rfl
  | 6, _ => rfl
  | 7, _ => rfl
  | 8, _ => rfl
  | 9, _ => rfl
  | 10, _ => rfl
  | 11, _ => rfl
  | 12, _ => rfl
  | 13, _ => rfl
  | 14, _ => rfl
  | j + 15, h => exact absurd h (by omega)
theorem js_wsg8 : ∀ w ∈ u_ws "BlobCornersModel" jn_T8 40, w ∈ js_Tg := by
  intro w hw
  refine js_tg (jn_ws8 w hw) ?_
  obtain ⟨k, -, rfl⟩ := List.mem_map.mp hw
  unfold u_lay
  split <;> rfl
theorem jc_df8 {fs : List Value} (h : fs = [.null, .int 0, .int 0, .int 0, .int 0, .int 0, .int 0, .int 0, .int 0, .null, .int 0, .int 0, .null, .null, .null, .null, .null, .null, .null, .null, .null, .null, .null, .null, .null, .null, .int 0, .null, .null, .int 0, .int 0, .null, .int 0, .int 0, .int 0, .int 0, .int 0, .null, .null, .long 0]) : ∀ j, j < 40 → defaultValue (jn_ty8 j) = vp_V fs j := by
  subst h
  intro j hj
  match j, hj with
  | 0, _ => rfl
  | 1, _ => rfl
  | 2, _ => rfl
  | 3, _ => rfl
  | 4, _ => rfl
  | 5, _ => rfl
  | 6, _ => rfl
  | 7, _ => rfl
  | 8, _ => rfl
  | 9, _ => rfl
  | 10, _ => rfl
  | 11, _ => rfl
  | 12, _ => rfl
  | 13, _ => rfl
  | 14, _ => rfl
  | 15, _ => rfl
  | 16, _ => rfl
  | 17, _ => rfl
  | 18, _ => rfl
  | 19, _ => rfl
  | 20, _ => rfl
  | 21, _ => rfl
  | 22, _ => rfl
  | 23, _ => rfl
  | 24, _ => rfl
  | 25, _ => rfl
  | 26, _ => rfl
  | 27, _ => rfl
  | 28, _ => rfl
  | 29, _ => rfl
  | 30, _ => rfl
  | 31, _ => rfl
  | 32, _ => rfl
  | 33, _ => rfl
  | 34, _ => rfl
  | 35, _ => rfl
  | 36, _ => rfl
  | 37, _ => rfl
  | 38, _ => rfl
  | 39, _ => rfl
  | j + 40, h => exact absurd h (by omega)
theorem dc_4_0 : decode prog_6_method_1_code 0 = .ok (.aload_n 0, 1) := by decide +kernel
theorem dc_4_1 : decode prog_6_method_1_code 1 = .ok (.invokespecial 3, 3) := by decide +kernel
theorem dc_4_4 : decode prog_6_method_1_code 4 = .ok (.aload_n 0, 1) := by decide +kernel
theorem dc_4_5 : decode prog_6_method_1_code 5 = .ok (.bipush 32, 2) := by decide +kernel
theorem dc_4_7 : decode prog_6_method_1_code 7 = .ok (.newarray .int, 2) := by decide +kernel
theorem dc_4_9 : decode prog_6_method_1_code 9 = .ok (.putfield 11, 3) := by decide +kernel
theorem dc_4_12 : decode prog_6_method_1_code 12 = .ok (.aload_n 0, 1) := by decide +kernel
theorem dc_4_13 : decode prog_6_method_1_code 13 = .ok (.iconst 0, 1) := by decide +kernel
theorem dc_4_14 : decode prog_6_method_1_code 14 = .ok (.putfield 15, 3) := by decide +kernel
theorem dc_4_17 : decode prog_6_method_1_code 17 = .ok (.return_, 1) := by decide +kernel
def jc_w4 : List Cond := .code ⟨"BlobCorners$Page", "<init>", "()V"⟩ prog_6_method_1_code 1 none :: js_Tg
set_option maxHeartbeats 8000000 in
set_option maxRecDepth 100000 in
theorem c_ini4 (l : Launch) (dC : Nat → ClassId) (dI : Nat → Nat → Nat) (cy : Nat → ClassId) (h0 sz : Nat) : Met l ⟨"BlobCorners$Page", "<init>", "()V"⟩ jc_w4 ({ frames := 1, cells := 1, slots := 32, locals := 12 }) (va_Pc [.ref h0] (fun U => U.heap.size = sz ∧ va_P (dC, dI) jn_cl [(h0, .inr (4, [.null, .int 0]))] U.heap ∧ va_K (dC, dI) jn_cl (js_ty cy) U ∧ va_D (fun _ => True) [(h0, .inr (4, [.null, .int 0]))] ∧ js_N U)) (va_Qv (fun _ : Unit => True) (fun _ t => ∃ q1 : Nat, va_P (dC, dI) jn_cl [(h0, .inr (4, [.ref q1, .int 0])), (q1, .inl (cy 0, (32, .inl (fun _ => 0))))] t.heap ∧ va_K (dC, dI) jn_cl (js_ty cy) t ∧ va_D (va_A [(h0, .inr (4, [.null, .int 0]))] sz) [(h0, .inr (4, [.ref q1, .int 0])), (q1, .inl (cy 0, (32, .inl (fun _ => 0))))]) (va_A [(h0, .inr (4, [.null, .int 0]))] sz)) 1 32 (va_A [(h0, .inr (4, [.null, .int 0]))] sz) := by
  refine Met.ofW (cc := prog_6_method_1_code) (maxL := 1) (ret := none) (by decide) rfl ?_
  intro p e s m args below meth c s₁ B hml hv
  obtain ⟨rfl, hsz, hP, hK, hD0, hN⟩ := hv
  have hx := B.exec
  have hb := B.bytes
  have hr := B.returns
  have hts := atoms_spec (ws := jc_w4) B.pre
  have hown : s.vm.findClass "BlobCorners$Page" = some m.cls := findClass_of_methodNamed B.named
  have hlocks := B.notSynchronized
  have hin2 : meth.name = "<init>" := (name_of_methodNamed B.named B.method).1
  subst hsz
  have hD := hD0.self (sz := s.heap.size)
  generalize hAe : va_A [(h0, .inr (4, [.null, .int 0]))] s.heap.size = A at hD ⊢
  have hA : ∀ q : Nat, s.heap.size ≤ q → A q := fun q h => by rw [← hAe]; exact Or.inr h
  have hS : va_S A s.heap s.heap [] := va_S.rf
  have hP : va_P (dC, dI) jn_cl [(h0, .inr (4, [.null, .int 0]))] s.heap := hP
  have hl := lv_entry ([.ref h0]) (n := 1) (Nat.le_of_ble_eq_true rfl)
  rw [lg_entry_eq]
  generalize (lg_sl ([.ref h0]) ++ List.replicate (1 - (lg_sl ([.ref h0])).length) Slot.unset).toArray = ls at hl ⊢
  have hl : lv_has ls 1 [(0, .ref h0)] := hl
  refine lv_aload_n hx hb dc_4_0 rfl (lv_at hl 0 rfl) ?_
  refine W.objInit hx hb hown (hts _ (List.mem_cons_of_mem _ (js_tg (jn_m1 30 rfl) rfl))) (hts _ (List.mem_cons_of_mem _ (js_tg (jn_m1 23 rfl) rfl))) (hts _ (List.mem_cons_of_mem _ (js_tg (jn_m1 24 rfl) rfl))) rfl (by rw [hml]; exact hl.1) rfl dc_4_1 (Nat.le_of_ble_eq_true rfl) (Nat.le_of_ble_eq_true rfl) ?_
  refine W.eq (g2 := F0 m 4 ls []) rfl ?_
  refine lv_aload_n hx hb dc_4_4 rfl (lv_at hl 0 rfl) ?_
  refine lv_bipush (v := 32) hx hb dc_4_5 (by decide) ?_
  refine va_newa (atype := .int) (ty := .int) (a0 := (32, .inl (fun _ => 0))) hx hb (hts _ (List.mem_cons_of_mem _ (js_tg (jn_m1 39 rfl) rfl))) rfl hK hP hD hS hA (fun cA => rfl) (by decide) (N' := 32) rfl (Nat.le_of_ble_eq_true rfl) (Nat.le_of_ble_eq_true rfl) (Nat.le_of_ble_eq_true rfl) dc_4_7 (fun q1 cA H hK1 hP hD hS => ?_)
  have hcA : cA = cy 0 := Option.some.inj ((hK1.2 4 _ rfl).2.symm.trans (hK.2 0 _ rfl).2)
  subst hcA
  have hP : va_P (dC, dI) jn_cl [(h0, .inr (4, [.null, .int 0])), (q1, .inl (cy 0, (32, .inl (fun _ => 0))))] H := hP
  have hD : va_D A [(h0, .inr (4, [.null, .int 0])), (q1, .inl (cy 0, (32, .inl (fun _ => 0))))] := hD
  refine W.widen (k := 1) (n := 32) (Nat.le_refl _) (Nat.le_refl _) ?_
  refine va_putF (D := (dC, dI)) (ci := 4) (v := .ref q1) (ty := .array .int) (C := "BlobCorners$Page") (T := jn_T4) (N := 2) hx hb hts (fun w h => List.mem_cons_of_mem _ (js_wsg4 w h)) jn_ty4 jn_tyok4 jn_nm4 hown hK hP hD hS 0 rfl rfl 0 (by decide) (hts _ (List.mem_cons_of_mem _ (js_tg (jn_m1 31 rfl) rfl))) (fun _ h9 => h9) rfl hin2 rfl (by decide +kernel) rfl rfl (Nat.le_of_ble_eq_true rfl) dc_4_9 (fun H locs hP hD hS => ?_)
  have hP : va_P (dC, dI) jn_cl [(h0, .inr (4, [.ref q1, .int 0])), (q1, .inl (cy 0, (32, .inl (fun _ => 0))))] H := hP
  have hD : va_D A [(h0, .inr (4, [.ref q1, .int 0])), (q1, .inl (cy 0, (32, .inl (fun _ => 0))))] := hD
  refine lv_aload_n hx hb dc_4_12 rfl (lv_at hl 0 rfl) ?_
  refine lv_iconst (v := 0) hx hb dc_4_13 (by decide) ?_
  refine va_put (D := (dC, dI)) (ci := 4) (v := .int 0) (ty := .int) (C := "BlobCorners$Page") (T := jn_T4) (N := 2) hx hb hts (fun w h => List.mem_cons_of_mem _ (js_wsg4 w h)) jn_ty4 jn_tyok4 jn_nm4 hown hK hP hD hS 0 rfl rfl 1 (by decide) (hts _ (List.mem_cons_of_mem _ (js_tg (jn_m1 32 rfl) rfl))) (fun _ h9 => h9) rfl (by decide +kernel) rfl rfl (Nat.le_of_ble_eq_true rfl) dc_4_14 (fun H locs hP hD hS => ?_)
  have hP : va_P (dC, dI) jn_cl [(h0, .inr (4, [.ref q1, .int 0])), (q1, .inl (cy 0, (32, .inl (fun _ => 0))))] H := hP
  have hD : va_D A [(h0, .inr (4, [.ref q1, .int 0])), (q1, .inl (cy 0, (32, .inl (fun _ => 0))))] := hD
  have hP9 := hP.sub (ws' := [(h0, .inr (4, [.ref q1, .int 0])), (q1, .inl (cy 0, (32, .inl (fun _ => 0))))]) [0, 1] rfl
  have hD9 := hD.sub (ws' := [(h0, .inr (4, [.ref q1, .int 0])), (q1, .inl (cy 0, (32, .inl (fun _ => 0))))]) [0, 1] (by decide) rfl
  exact W.vret hx hb hr (fun t ht hW => ⟨⟨(), rfl, trivial, q1, by rw [ht]; exact hP9, va_K.moved hW.alike hK, hD9⟩, hS.F ht⟩) hS.2.2 dc_4_17
theorem dc_1_0 : decode prog_3_method_1_code 0 = .ok (.aload_n 0, 1) := by decide +kernel
theorem dc_1_1 : decode prog_3_method_1_code 1 = .ok (.invokespecial 3, 3) := by decide +kernel
theorem dc_1_4 : decode prog_3_method_1_code 4 = .ok (.aload_n 0, 1) := by decide +kernel
theorem dc_1_5 : decode prog_3_method_1_code 5 = .ok (.bipush 25, 2) := by decide +kernel
theorem dc_1_7 : decode prog_3_method_1_code 7 = .ok (.newarray .int, 2) := by decide +kernel
theorem dc_1_9 : decode prog_3_method_1_code 9 = .ok (.putfield 9, 3) := by decide +kernel
theorem dc_1_12 : decode prog_3_method_1_code 12 = .ok (.aload_n 0, 1) := by decide +kernel
theorem dc_1_13 : decode prog_3_method_1_code 13 = .ok (.iconst 0, 1) := by decide +kernel
theorem dc_1_14 : decode prog_3_method_1_code 14 = .ok (.putfield 15, 3) := by decide +kernel
theorem dc_1_17 : decode prog_3_method_1_code 17 = .ok (.aload_n 0, 1) := by decide +kernel
theorem dc_1_18 : decode prog_3_method_1_code 18 = .ok (.iconst 0, 1) := by decide +kernel
theorem dc_1_19 : decode prog_3_method_1_code 19 = .ok (.putfield 19, 3) := by decide +kernel
theorem dc_1_22 : decode prog_3_method_1_code 22 = .ok (.return_, 1) := by decide +kernel
def jc_w1 : List Cond := .code ⟨"BlobCorners$Grid", "<init>", "()V"⟩ prog_3_method_1_code 1 none :: js_Tg
set_option maxHeartbeats 8000000 in
set_option maxRecDepth 100000 in
theorem c_ini1 (l : Launch) (dC : Nat → ClassId) (dI : Nat → Nat → Nat) (cy : Nat → ClassId) (h0 sz : Nat) : Met l ⟨"BlobCorners$Grid", "<init>", "()V"⟩ jc_w1 ({ frames := 1, cells := 1, slots := 25, locals := 12 }) (va_Pc [.ref h0] (fun U => U.heap.size = sz ∧ va_P (dC, dI) jn_cl [(h0, .inr (1, [.null, .int 0, .int 0]))] U.heap ∧ va_K (dC, dI) jn_cl (js_ty cy) U ∧ va_D (fun _ => True) [(h0, .inr (1, [.null, .int 0, .int 0]))] ∧ js_N U)) (va_Qv (fun _ : Unit => True) (fun _ t => ∃ q1 : Nat, va_P (dC, dI) jn_cl [(h0, .inr (1, [.ref q1, .int 0, .int 0])), (q1, .inl (cy 0, (25, .inl (fun _ => 0))))] t.heap ∧ va_K (dC, dI) jn_cl (js_ty cy) t ∧ va_D (va_A [(h0, .inr (1, [.null, .int 0, .int 0]))] sz) [(h0, .inr (1, [.ref q1, .int 0, .int 0])), (q1, .inl (cy 0, (25, .inl (fun _ => 0))))]) (va_A [(h0, .inr (1, [.null, .int 0, .int 0]))] sz)) 1 25 (va_A [(h0, .inr (1, [.null, .int 0, .int 0]))] sz) := by
  refine Met.ofW (cc := prog_3_method_1_code) (maxL := 1) (ret := none) (by decide) rfl ?_
  intro p e s m args below meth c s₁ B hml hv
  obtain ⟨rfl, hsz, hP, hK, hD0, hN⟩ := hv
  have hx := B.exec
  have hb := B.bytes
  have hr := B.returns
  have hts := atoms_spec (ws := jc_w1) B.pre
  have hown : s.vm.findClass "BlobCorners$Grid" = some m.cls := findClass_of_methodNamed B.named
  have hlocks := B.notSynchronized
  have hin2 : meth.name = "<init>" := (name_of_methodNamed B.named B.method).1
  subst hsz
  have hD := hD0.self (sz := s.heap.size)
  generalize hAe : va_A [(h0, .inr (1, [.null, .int 0, .int 0]))] s.heap.size = A at hD ⊢
  have hA : ∀ q : Nat, s.heap.size ≤ q → A q := fun q h => by rw [← hAe]; exact Or.inr h
  have hS : va_S A s.heap s.heap [] := va_S.rf
  have hP : va_P (dC, dI) jn_cl [(h0, .inr (1, [.null, .int 0, .int 0]))] s.heap := hP
  have hl := lv_entry ([.ref h0]) (n := 1) (Nat.le_of_ble_eq_true rfl)
  rw [lg_entry_eq]
  generalize (lg_sl ([.ref h0]) ++ List.replicate (1 - (lg_sl ([.ref h0])).length) Slot.unset).toArray = ls at hl ⊢
  have hl : lv_has ls 1 [(0, .ref h0)] := hl
  refine lv_aload_n hx hb dc_1_0 rfl (lv_at hl 0 rfl) ?_
  refine W.objInit hx hb hown (hts _ (List.mem_cons_of_mem _ (js_tg (jn_m1 45 rfl) rfl))) (hts _ (List.mem_cons_of_mem _ (js_tg (jn_m1 23 rfl) rfl))) (hts _ (List.mem_cons_of_mem _ (js_tg (jn_m1 24 rfl) rfl))) rfl (by rw [hml]; exact hl.1) rfl dc_1_1 (Nat.le_of_ble_eq_true rfl) (Nat.le_of_ble_eq_true rfl) ?_
  refine W.eq (g2 := F0 m 4 ls []) rfl ?_
  refine lv_aload_n hx hb dc_1_4 rfl (lv_at hl 0 rfl) ?_
  refine lv_bipush (v := 25) hx hb dc_1_5 (by decide) ?_
  refine va_newa (atype := .int) (ty := .int) (a0 := (25, .inl (fun _ => 0))) hx hb (hts _ (List.mem_cons_of_mem _ (js_tg (jn_m1 39 rfl) rfl))) rfl hK hP hD hS hA (fun cA => rfl) (by decide) (N' := 25) rfl (Nat.le_of_ble_eq_true rfl) (Nat.le_of_ble_eq_true rfl) (Nat.le_of_ble_eq_true rfl) dc_1_7 (fun q1 cA H hK1 hP hD hS => ?_)
  have hcA : cA = cy 0 := Option.some.inj ((hK1.2 4 _ rfl).2.symm.trans (hK.2 0 _ rfl).2)
  subst hcA
  have hP : va_P (dC, dI) jn_cl [(h0, .inr (1, [.null, .int 0, .int 0])), (q1, .inl (cy 0, (25, .inl (fun _ => 0))))] H := hP
  have hD : va_D A [(h0, .inr (1, [.null, .int 0, .int 0])), (q1, .inl (cy 0, (25, .inl (fun _ => 0))))] := hD
  refine W.widen (k := 1) (n := 25) (Nat.le_refl _) (Nat.le_refl _) ?_
  refine va_putF (D := (dC, dI)) (ci := 1) (v := .ref q1) (ty := .array .int) (C := "BlobCorners$Grid") (T := jn_T1) (N := 3) hx hb hts (fun w h => List.mem_cons_of_mem _ (js_wsg1 w h)) jn_ty1 jn_tyok1 jn_nm1 hown hK hP hD hS 0 rfl rfl 0 (by decide) (hts _ (List.mem_cons_of_mem _ (js_tg (jn_m1 46 rfl) rfl))) (fun _ h9 => h9) rfl hin2 rfl (by decide +kernel) rfl rfl (Nat.le_of_ble_eq_true rfl) dc_1_9 (fun H locs hP hD hS => ?_)
  have hP : va_P (dC, dI) jn_cl [(h0, .inr (1, [.ref q1, .int 0, .int 0])), (q1, .inl (cy 0, (25, .inl (fun _ => 0))))] H := hP
  have hD : va_D A [(h0, .inr (1, [.ref q1, .int 0, .int 0])), (q1, .inl (cy 0, (25, .inl (fun _ => 0))))] := hD
  refine lv_aload_n hx hb dc_1_12 rfl (lv_at hl 0 rfl) ?_
  refine lv_iconst (v := 0) hx hb dc_1_13 (by decide) ?_
  refine va_put (D := (dC, dI)) (ci := 1) (v := .int 0) (ty := .int) (C := "BlobCorners$Grid") (T := jn_T1) (N := 3) hx hb hts (fun w h => List.mem_cons_of_mem _ (js_wsg1 w h)) jn_ty1 jn_tyok1 jn_nm1 hown hK hP hD hS 0 rfl rfl 1 (by decide) (hts _ (List.mem_cons_of_mem _ (js_tg (jn_m1 47 rfl) rfl))) (fun _ h9 => h9) rfl (by decide +kernel) rfl rfl (Nat.le_of_ble_eq_true rfl) dc_1_14 (fun H locs hP hD hS => ?_)
  have hP : va_P (dC, dI) jn_cl [(h0, .inr (1, [.ref q1, .int 0, .int 0])), (q1, .inl (cy 0, (25, .inl (fun _ => 0))))] H := hP
  have hD : va_D A [(h0, .inr (1, [.ref q1, .int 0, .int 0])), (q1, .inl (cy 0, (25, .inl (fun _ => 0))))] := hD
  refine lv_aload_n hx hb dc_1_17 rfl (lv_at hl 0 rfl) ?_
  refine lv_iconst (v := 0) hx hb dc_1_18 (by decide) ?_
  refine va_put (D := (dC, dI)) (ci := 1) (v := .int 0) (ty := .int) (C := "BlobCorners$Grid") (T := jn_T1) (N := 3) hx hb hts (fun w h => List.mem_cons_of_mem _ (js_wsg1 w h)) jn_ty1 jn_tyok1 jn_nm1 hown hK hP hD hS 0 rfl rfl 2 (by decide) (hts _ (List.mem_cons_of_mem _ (js_tg (jn_m1 50 rfl) rfl))) (fun _ h9 => h9) rfl (by decide +kernel) rfl rfl (Nat.le_of_ble_eq_true rfl) dc_1_19 (fun H locs hP hD hS => ?_)
  have hP : va_P (dC, dI) jn_cl [(h0, .inr (1, [.ref q1, .int 0, .int 0])), (q1, .inl (cy 0, (25, .inl (fun _ => 0))))] H := hP
  have hD : va_D A [(h0, .inr (1, [.ref q1, .int 0, .int 0])), (q1, .inl (cy 0, (25, .inl (fun _ => 0))))] := hD
  have hP9 := hP.sub (ws' := [(h0, .inr (1, [.ref q1, .int 0, .int 0])), (q1, .inl (cy 0, (25, .inl (fun _ => 0))))]) [0, 1] rfl
  have hD9 := hD.sub (ws' := [(h0, .inr (1, [.ref q1, .int 0, .int 0])), (q1, .inl (cy 0, (25, .inl (fun _ => 0))))]) [0, 1] (by decide) rfl
  exact W.vret hx hb hr (fun t ht hW => ⟨⟨(), rfl, trivial, q1, by rw [ht]; exact hP9, va_K.moved hW.alike hK, hD9⟩, hS.F ht⟩) hS.2.2 dc_1_22
theorem dc_6_0 : decode prog_8_method_1_code 0 = .ok (.aload_n 0, 1) := by decide +kernel
theorem dc_6_1 : decode prog_8_method_1_code 1 = .ok (.invokespecial 3, 3) := by decide +kernel
theorem dc_6_4 : decode prog_8_method_1_code 4 = .ok (.aload_n 0, 1) := by decide +kernel
theorem dc_6_5 : decode prog_8_method_1_code 5 = .ok (.bipush 6, 2) := by decide +kernel
theorem dc_6_7 : decode prog_8_method_1_code 7 = .ok (.newarray .int, 2) := by decide +kernel
theorem dc_6_9 : decode prog_8_method_1_code 9 = .ok (.putfield 11, 3) := by decide +kernel
theorem dc_6_12 : decode prog_8_method_1_code 12 = .ok (.aload_n 0, 1) := by decide +kernel
theorem dc_6_13 : decode prog_8_method_1_code 13 = .ok (.bipush 6, 2) := by decide +kernel
theorem dc_6_15 : decode prog_8_method_1_code 15 = .ok (.newarray .int, 2) := by decide +kernel
theorem dc_6_17 : decode prog_8_method_1_code 17 = .ok (.putfield 15, 3) := by decide +kernel
theorem dc_6_20 : decode prog_8_method_1_code 20 = .ok (.aload_n 0, 1) := by decide +kernel
theorem dc_6_21 : decode prog_8_method_1_code 21 = .ok (.bipush 6, 2) := by decide +kernel
theorem dc_6_23 : decode prog_8_method_1_code 23 = .ok (.newarray .boolean, 2) := by decide +kernel
theorem dc_6_25 : decode prog_8_method_1_code 25 = .ok (.putfield 18, 3) := by decide +kernel
theorem dc_6_28 : decode prog_8_method_1_code 28 = .ok (.aload_n 0, 1) := by decide +kernel
theorem dc_6_29 : decode prog_8_method_1_code 29 = .ok (.iconst 0, 1) := by decide +kernel
theorem dc_6_30 : decode prog_8_method_1_code 30 = .ok (.putfield 22, 3) := by decide +kernel
theorem dc_6_33 : decode prog_8_method_1_code 33 = .ok (.return_, 1) := by decide +kernel
def jc_w6 : List Cond := .code ⟨"BlobCorners$Seen", "<init>", "()V"⟩ prog_8_method_1_code 1 none :: js_Tg
set_option maxHeartbeats 8000000 in
set_option maxRecDepth 100000 in
theorem c_ini6 (l : Launch) (dC : Nat → ClassId) (dI : Nat → Nat → Nat) (cy : Nat → ClassId) (h0 sz : Nat) : Met l ⟨"BlobCorners$Seen", "<init>", "()V"⟩ jc_w6 ({ frames := 1, cells := 3, slots := 18, locals := 12 }) (va_Pc [.ref h0] (fun U => U.heap.size = sz ∧ va_P (dC, dI) jn_cl [(h0, .inr (6, [.null, .null, .null, .int 0]))] U.heap ∧ va_K (dC, dI) jn_cl (js_ty cy) U ∧ va_D (fun _ => True) [(h0, .inr (6, [.null, .null, .null, .int 0]))] ∧ js_N U)) (va_Qv (fun _ : Unit => True) (fun _ t => ∃ q1 q2 q3 : Nat, va_P (dC, dI) jn_cl [(h0, .inr (6, [.ref q1, .ref q2, .ref q3, .int 0])), (q1, .inl (cy 0, (6, .inl (fun _ => 0)))), (q2, .inl (cy 0, (6, .inl (fun _ => 0)))), (q3, .inl (cy 3, (6, .inl (fun _ => 0))))] t.heap ∧ va_K (dC, dI) jn_cl (js_ty cy) t ∧ va_D (va_A [(h0, .inr (6, [.null, .null, .null, .int 0]))] sz) [(h0, .inr (6, [.ref q1, .ref q2, .ref q3, .int 0])), (q1, .inl (cy 0, (6, .inl (fun _ => 0)))), (q2, .inl (cy 0, (6, .inl (fun _ => 0)))), (q3, .inl (cy 3, (6, .inl (fun _ => 0))))]) (va_A [(h0, .inr (6, [.null, .null, .null, .int 0]))] sz)) 3 18 (va_A [(h0, .inr (6, [.null, .null, .null, .int 0]))] sz) := by
  refine Met.ofW (cc := prog_8_method_1_code) (maxL := 1) (ret := none) (by decide) rfl ?_
  intro p e s m args below meth c s₁ B hml hv
  obtain ⟨rfl, hsz, hP, hK, hD0, hN⟩ := hv
  have hx := B.exec
  have hb := B.bytes
  have hr := B.returns
  have hts := atoms_spec (ws := jc_w6) B.pre
  have hown : s.vm.findClass "BlobCorners$Seen" = some m.cls := findClass_of_methodNamed B.named
  have hlocks := B.notSynchronized
  have hin2 : meth.name = "<init>" := (name_of_methodNamed B.named B.method).1
  subst hsz
  have hD := hD0.self (sz := s.heap.size)
  generalize hAe : va_A [(h0, .inr (6, [.null, .null, .null, .int 0]))] s.heap.size = A at hD ⊢
  have hA : ∀ q : Nat, s.heap.size ≤ q → A q := fun q h => by rw [← hAe]; exact Or.inr h
  have hS : va_S A s.heap s.heap [] := va_S.rf
  have hP : va_P (dC, dI) jn_cl [(h0, .inr (6, [.null, .null, .null, .int 0]))] s.heap := hP
  have hl := lv_entry ([.ref h0]) (n := 1) (Nat.le_of_ble_eq_true rfl)
  rw [lg_entry_eq]
  generalize (lg_sl ([.ref h0]) ++ List.replicate (1 - (lg_sl ([.ref h0])).length) Slot.unset).toArray = ls at hl ⊢
  have hl : lv_has ls 1 [(0, .ref h0)] := hl
  refine lv_aload_n hx hb dc_6_0 rfl (lv_at hl 0 rfl) ?_
  refine W.objInit hx hb hown (hts _ (List.mem_cons_of_mem _ (js_tg (jn_m1 65 rfl) rfl))) (hts _ (List.mem_cons_of_mem _ (js_tg (jn_m1 23 rfl) rfl))) (hts _ (List.mem_cons_of_mem _ (js_tg (jn_m1 24 rfl) rfl))) rfl (by rw [hml]; exact hl.1) rfl dc_6_1 (Nat.le_of_ble_eq_true rfl) (Nat.le_of_ble_eq_true rfl) ?_
  refine W.eq (g2 := F0 m 4 ls []) rfl ?_
  refine lv_aload_n hx hb dc_6_4 rfl (lv_at hl 0 rfl) ?_
  refine lv_bipush (v := 6) hx hb dc_6_5 (by decide) ?_
  refine va_newa (atype := .int) (ty := .int) (a0 := (6, .inl (fun _ => 0))) hx hb (hts _ (List.mem_cons_of_mem _ (js_tg (jn_m1 39 rfl) rfl))) rfl hK hP hD hS hA (fun cA => rfl) (by decide) (N' := 6) rfl (Nat.le_of_ble_eq_true rfl) (Nat.le_of_ble_eq_true rfl) (Nat.le_of_ble_eq_true rfl) dc_6_7 (fun q1 cA H hK1 hP hD hS => ?_)
  have hcA : cA = cy 0 := Option.some.inj ((hK1.2 4 _ rfl).2.symm.trans (hK.2 0 _ rfl).2)
  subst hcA
  have hP : va_P (dC, dI) jn_cl [(h0, .inr (6, [.null, .null, .null, .int 0])), (q1, .inl (cy 0, (6, .inl (fun _ => 0))))] H := hP
  have hD : va_D A [(h0, .inr (6, [.null, .null, .null, .int 0])), (q1, .inl (cy 0, (6, .inl (fun _ => 0))))] := hD
  refine W.widen (k := 1) (n := 6) (Nat.le_refl _) (Nat.le_refl _) ?_
  refine va_putF (D := (dC, dI)) (ci := 6) (v := .ref q1) (ty := .array .int) (C := "BlobCorners$Seen") (T := jn_T6) (N := 4) hx hb hts (fun w h => List.mem_cons_of_mem _ (js_wsg6 w h)) jn_ty6 jn_tyok6 jn_nm6 hown hK hP hD hS 0 rfl rfl 0 (by decide) (hts _ (List.mem_cons_of_mem _ (js_tg (jn_m1 66 rfl) rfl))) (fun _ h9 => h9) rfl hin2 rfl (by decide +kernel) rfl rfl (Nat.le_of_ble_eq_true rfl) dc_6_9 (fun H locs hP hD hS => ?_)
  have hP : va_P (dC, dI) jn_cl [(h0, .inr (6, [.ref q1, .null, .null, .int 0])), (q1, .inl (cy 0, (6, .inl (fun _ => 0))))] H := hP
  have hD : va_D A [(h0, .inr (6, [.ref q1, .null, .null, .int 0])), (q1, .inl (cy 0, (6, .inl (fun _ => 0))))] := hD
  refine lv_aload_n hx hb dc_6_12 rfl (lv_at hl 0 rfl) ?_
  refine lv_bipush (v := 6) hx hb dc_6_13 (by decide) ?_
  refine va_newa (atype := .int) (ty := .int) (a0 := (6, .inl (fun _ => 0))) hx hb (hts _ (List.mem_cons_of_mem _ (js_tg (jn_m1 39 rfl) rfl))) rfl hK hP hD hS hA (fun cA => rfl) (by decide) (N' := 6) rfl (Nat.le_of_ble_eq_true rfl) (Nat.le_of_ble_eq_true rfl) (Nat.le_of_ble_eq_true rfl) dc_6_15 (fun q2 cA H hK1 hP hD hS => ?_)
  have hcA : cA = cy 0 := Option.some.inj ((hK1.2 4 _ rfl).2.symm.trans (hK.2 0 _ rfl).2)
  subst hcA
  have hP : va_P (dC, dI) jn_cl [(h0, .inr (6, [.ref q1, .null, .null, .int 0])), (q1, .inl (cy 0, (6, .inl (fun _ => 0)))), (q2, .inl (cy 0, (6, .inl (fun _ => 0))))] H := hP
  have hD : va_D A [(h0, .inr (6, [.ref q1, .null, .null, .int 0])), (q1, .inl (cy 0, (6, .inl (fun _ => 0)))), (q2, .inl (cy 0, (6, .inl (fun _ => 0))))] := hD
  refine W.widen (k := 2) (n := 12) (Nat.le_refl _) (Nat.le_refl _) ?_
  refine va_putF (D := (dC, dI)) (ci := 6) (v := .ref q2) (ty := .array .int) (C := "BlobCorners$Seen") (T := jn_T6) (N := 4) hx hb hts (fun w h => List.mem_cons_of_mem _ (js_wsg6 w h)) jn_ty6 jn_tyok6 jn_nm6 hown hK hP hD hS 0 rfl rfl 1 (by decide) (hts _ (List.mem_cons_of_mem _ (js_tg (jn_m1 67 rfl) rfl))) (fun _ h9 => h9) rfl hin2 rfl (by decide +kernel) rfl rfl (Nat.le_of_ble_eq_true rfl) dc_6_17 (fun H locs hP hD hS => ?_)
  have hP : va_P (dC, dI) jn_cl [(h0, .inr (6, [.ref q1, .ref q2, .null, .int 0])), (q1, .inl (cy 0, (6, .inl (fun _ => 0)))), (q2, .inl (cy 0, (6, .inl (fun _ => 0))))] H := hP
  have hD : va_D A [(h0, .inr (6, [.ref q1, .ref q2, .null, .int 0])), (q1, .inl (cy 0, (6, .inl (fun _ => 0)))), (q2, .inl (cy 0, (6, .inl (fun _ => 0))))] := hD
  refine lv_aload_n hx hb dc_6_20 rfl (lv_at hl 0 rfl) ?_
  refine lv_bipush (v := 6) hx hb dc_6_21 (by decide) ?_
  refine va_newa (atype := .boolean) (ty := .boolean) (a0 := (6, .inl (fun _ => 0))) hx hb (hts _ (List.mem_cons_of_mem _ (js_tg (jn_m1 80 rfl) rfl))) rfl hK hP hD hS hA (fun cA => rfl) (by decide) (N' := 6) rfl (Nat.le_of_ble_eq_true rfl) (Nat.le_of_ble_eq_true rfl) (Nat.le_of_ble_eq_true rfl) dc_6_23 (fun q3 cA H hK1 hP hD hS => ?_)
  have hcA : cA = cy 3 := Option.some.inj ((hK1.2 4 _ rfl).2.symm.trans (hK.2 3 _ rfl).2)
  subst hcA
  have hP : va_P (dC, dI) jn_cl [(h0, .inr (6, [.ref q1, .ref q2, .null, .int 0])), (q1, .inl (cy 0, (6, .inl (fun _ => 0)))), (q2, .inl (cy 0, (6, .inl (fun _ => 0)))), (q3, .inl (cy 3, (6, .inl (fun _ => 0))))] H := hP
  have hD : va_D A [(h0, .inr (6, [.ref q1, .ref q2, .null, .int 0])), (q1, .inl (cy 0, (6, .inl (fun _ => 0)))), (q2, .inl (cy 0, (6, .inl (fun _ => 0)))), (q3, .inl (cy 3, (6, .inl (fun _ => 0))))] := hD
  refine W.widen (k := 3) (n := 18) (Nat.le_refl _) (Nat.le_refl _) ?_
  refine va_putF (D := (dC, dI)) (ci := 6) (v := .ref q3) (ty := .array .boolean) (C := "BlobCorners$Seen") (T := jn_T6) (N := 4) hx hb hts (fun w h => List.mem_cons_of_mem _ (js_wsg6 w h)) jn_ty6 jn_tyok6 jn_nm6 hown hK hP hD hS 0 rfl rfl 2 (by decide) (hts _ (List.mem_cons_of_mem _ (js_tg (jn_m1 68 rfl) rfl))) (fun _ h9 => h9) rfl hin2 rfl (by decide +kernel) rfl rfl (Nat.le_of_ble_eq_true rfl) dc_6_25 (fun H locs hP hD hS => ?_)
  have hP : va_P (dC, dI) jn_cl [(h0, .inr (6, [.ref q1, .ref q2, .ref q3, .int 0])), (q1, .inl (cy 0, (6, .inl (fun _ => 0)))), (q2, .inl (cy 0, (6, .inl (fun _ => 0)))), (q3, .inl (cy 3, (6, .inl (fun _ => 0))))] H := hP
  have hD : va_D A [(h0, .inr (6, [.ref q1, .ref q2, .ref q3, .int 0])), (q1, .inl (cy 0, (6, .inl (fun _ => 0)))), (q2, .inl (cy 0, (6, .inl (fun _ => 0)))), (q3, .inl (cy 3, (6, .inl (fun _ => 0))))] := hD
  refine lv_aload_n hx hb dc_6_28 rfl (lv_at hl 0 rfl) ?_
  refine lv_iconst (v := 0) hx hb dc_6_29 (by decide) ?_
  refine va_put (D := (dC, dI)) (ci := 6) (v := .int 0) (ty := .int) (C := "BlobCorners$Seen") (T := jn_T6) (N := 4) hx hb hts (fun w h => List.mem_cons_of_mem _ (js_wsg6 w h)) jn_ty6 jn_tyok6 jn_nm6 hown hK hP hD hS 0 rfl rfl 3 (by decide) (hts _ (List.mem_cons_of_mem _ (js_tg (jn_m1 69 rfl) rfl))) (fun _ h9 => h9) rfl (by decide +kernel) rfl rfl (Nat.le_of_ble_eq_true rfl) dc_6_30 (fun H locs hP hD hS => ?_)
  have hP : va_P (dC, dI) jn_cl [(h0, .inr (6, [.ref q1, .ref q2, .ref q3, .int 0])), (q1, .inl (cy 0, (6, .inl (fun _ => 0)))), (q2, .inl (cy 0, (6, .inl (fun _ => 0)))), (q3, .inl (cy 3, (6, .inl (fun _ => 0))))] H := hP
  have hD : va_D A [(h0, .inr (6, [.ref q1, .ref q2, .ref q3, .int 0])), (q1, .inl (cy 0, (6, .inl (fun _ => 0)))), (q2, .inl (cy 0, (6, .inl (fun _ => 0)))), (q3, .inl (cy 3, (6, .inl (fun _ => 0))))] := hD
  have hP9 := hP.sub (ws' := [(h0, .inr (6, [.ref q1, .ref q2, .ref q3, .int 0])), (q1, .inl (cy 0, (6, .inl (fun _ => 0)))), (q2, .inl (cy 0, (6, .inl (fun _ => 0)))), (q3, .inl (cy 3, (6, .inl (fun _ => 0))))]) [0, 1, 2, 3] rfl
  have hD9 := hD.sub (ws' := [(h0, .inr (6, [.ref q1, .ref q2, .ref q3, .int 0])), (q1, .inl (cy 0, (6, .inl (fun _ => 0)))), (q2, .inl (cy 0, (6, .inl (fun _ => 0)))), (q3, .inl (cy 3, (6, .inl (fun _ => 0))))]) [0, 1, 2, 3] (by decide) rfl
  exact W.vret hx hb hr (fun t ht hW => ⟨⟨(), rfl, trivial, q1, q2, q3, by rw [ht]; exact hP9, va_K.moved hW.alike hK, hD9⟩, hS.F ht⟩) hS.2.2 dc_6_33
theorem dc_5_0 : decode prog_7_method_1_code 0 = .ok (.aload_n 0, 1) := by decide +kernel
theorem dc_5_1 : decode prog_7_method_1_code 1 = .ok (.invokespecial 3, 3) := by decide +kernel
theorem dc_5_4 : decode prog_7_method_1_code 4 = .ok (.aload_n 0, 1) := by decide +kernel
theorem dc_5_5 : decode prog_7_method_1_code 5 = .ok (.bipush 15, 2) := by decide +kernel
theorem dc_5_7 : decode prog_7_method_1_code 7 = .ok (.newarray .int, 2) := by decide +kernel
theorem dc_5_9 : decode prog_7_method_1_code 9 = .ok (.putfield 11, 3) := by decide +kernel
theorem dc_5_12 : decode prog_7_method_1_code 12 = .ok (.aload_n 0, 1) := by decide +kernel
theorem dc_5_13 : decode prog_7_method_1_code 13 = .ok (.iconst 5, 1) := by decide +kernel
theorem dc_5_14 : decode prog_7_method_1_code 14 = .ok (.newarray .int, 2) := by decide +kernel
theorem dc_5_16 : decode prog_7_method_1_code 16 = .ok (.putfield 15, 3) := by decide +kernel
theorem dc_5_19 : decode prog_7_method_1_code 19 = .ok (.return_, 1) := by decide +kernel
def jc_w5 : List Cond := .code ⟨"BlobCorners$Racks", "<init>", "()V"⟩ prog_7_method_1_code 1 none :: js_Tg
set_option maxHeartbeats 8000000 in
set_option maxRecDepth 100000 in
theorem c_ini5 (l : Launch) (dC : Nat → ClassId) (dI : Nat → Nat → Nat) (cy : Nat → ClassId) (h0 sz : Nat) : Met l ⟨"BlobCorners$Racks", "<init>", "()V"⟩ jc_w5 ({ frames := 1, cells := 2, slots := 20, locals := 12 }) (va_Pc [.ref h0] (fun U => U.heap.size = sz ∧ va_P (dC, dI) jn_cl [(h0, .inr (5, [.null, .null]))] U.heap ∧ va_K (dC, dI) jn_cl (js_ty cy) U ∧ va_D (fun _ => True) [(h0, .inr (5, [.null, .null]))] ∧ js_N U)) (va_Qv (fun _ : Unit => True) (fun _ t => ∃ q1 q2 : Nat, va_P (dC, dI) jn_cl [(h0, .inr (5, [.ref q1, .ref q2])), (q1, .inl (cy 0, (15, .inl (fun _ => 0)))), (q2, .inl (cy 0, (5, .inl (fun _ => 0))))] t.heap ∧ va_K (dC, dI) jn_cl (js_ty cy) t ∧ va_D (va_A [(h0, .inr (5, [.null, .null]))] sz) [(h0, .inr (5, [.ref q1, .ref q2])), (q1, .inl (cy 0, (15, .inl (fun _ => 0)))), (q2, .inl (cy 0, (5, .inl (fun _ => 0))))]) (va_A [(h0, .inr (5, [.null, .null]))] sz)) 2 20 (va_A [(h0, .inr (5, [.null, .null]))] sz) := by
  refine Met.ofW (cc := prog_7_method_1_code) (maxL := 1) (ret := none) (by decide) rfl ?_
  intro p e s m args below meth c s₁ B hml hv
  obtain ⟨rfl, hsz, hP, hK, hD0, hN⟩ := hv
  have hx := B.exec
  have hb := B.bytes
  have hr := B.returns
  have hts := atoms_spec (ws := jc_w5) B.pre
  have hown : s.vm.findClass "BlobCorners$Racks" = some m.cls := findClass_of_methodNamed B.named
  have hlocks := B.notSynchronized
  have hin2 : meth.name = "<init>" := (name_of_methodNamed B.named B.method).1
  subst hsz
  have hD := hD0.self (sz := s.heap.size)
  generalize hAe : va_A [(h0, .inr (5, [.null, .null]))] s.heap.size = A at hD ⊢
  have hA : ∀ q : Nat, s.heap.size ≤ q → A q := fun q h => by rw [← hAe]; exact Or.inr h
  have hS : va_S A s.heap s.heap [] := va_S.rf
  have hP : va_P (dC, dI) jn_cl [(h0, .inr (5, [.null, .null]))] s.heap := hP
  have hl := lv_entry ([.ref h0]) (n := 1) (Nat.le_of_ble_eq_true rfl)
  rw [lg_entry_eq]
  generalize (lg_sl ([.ref h0]) ++ List.replicate (1 - (lg_sl ([.ref h0])).length) Slot.unset).toArray = ls at hl ⊢
  have hl : lv_has ls 1 [(0, .ref h0)] := hl
  refine lv_aload_n hx hb dc_5_0 rfl (lv_at hl 0 rfl) ?_
  refine W.objInit hx hb hown (hts _ (List.mem_cons_of_mem _ (js_tg (jn_m1 86 rfl) rfl))) (hts _ (List.mem_cons_of_mem _ (js_tg (jn_m1 23 rfl) rfl))) (hts _ (List.mem_cons_of_mem _ (js_tg (jn_m1 24 rfl) rfl))) rfl (by rw [hml]; exact hl.1) rfl dc_5_1 (Nat.le_of_ble_eq_true rfl) (Nat.le_of_ble_eq_true rfl) ?_
  refine W.eq (g2 := F0 m 4 ls []) rfl ?_
  refine lv_aload_n hx hb dc_5_4 rfl (lv_at hl 0 rfl) ?_
  refine lv_bipush (v := 15) hx hb dc_5_5 (by decide) ?_
  refine va_newa (atype := .int) (ty := .int) (a0 := (15, .inl (fun _ => 0))) hx hb (hts _ (List.mem_cons_of_mem _ (js_tg (jn_m1 39 rfl) rfl))) rfl hK hP hD hS hA (fun cA => rfl) (by decide) (N' := 15) rfl (Nat.le_of_ble_eq_true rfl) (Nat.le_of_ble_eq_true rfl) (Nat.le_of_ble_eq_true rfl) dc_5_7 (fun q1 cA H hK1 hP hD hS => ?_)
  have hcA : cA = cy 0 := Option.some.inj ((hK1.2 4 _ rfl).2.symm.trans (hK.2 0 _ rfl).2)
  subst hcA
  have hP : va_P (dC, dI) jn_cl [(h0, .inr (5, [.null, .null])), (q1, .inl (cy 0, (15, .inl (fun _ => 0))))] H := hP
  have hD : va_D A [(h0, .inr (5, [.null, .null])), (q1, .inl (cy 0, (15, .inl (fun _ => 0))))] := hD
  refine W.widen (k := 1) (n := 15) (Nat.le_refl _) (Nat.le_refl _) ?_
  refine va_putF (D := (dC, dI)) (ci := 5) (v := .ref q1) (ty := .array .int) (C := "BlobCorners$Racks") (T := jn_T5) (N := 2) hx hb hts (fun w h => List.mem_cons_of_mem _ (js_wsg5 w h)) jn_ty5 jn_tyok5 jn_nm5 hown hK hP hD hS 0 rfl rfl 0 (by decide) (hts _ (List.mem_cons_of_mem _ (js_tg (jn_m1 87 rfl) rfl))) (fun _ h9 => h9) rfl hin2 rfl (by decide +kernel) rfl rfl (Nat.le_of_ble_eq_true rfl) dc_5_9 (fun H locs hP hD hS => ?_)
  have hP : va_P (dC, dI) jn_cl [(h0, .inr (5, [.ref q1, .null])), (q1, .inl (cy 0, (15, .inl (fun _ => 0))))] H := hP
  have hD : va_D A [(h0, .inr (5, [.ref q1, .null])), (q1, .inl (cy 0, (15, .inl (fun _ => 0))))] := hD
  refine lv_aload_n hx hb dc_5_12 rfl (lv_at hl 0 rfl) ?_
  refine lv_iconst (v := 5) hx hb dc_5_13 (by decide) ?_
  refine va_newa (atype := .int) (ty := .int) (a0 := (5, .inl (fun _ => 0))) hx hb (hts _ (List.mem_cons_of_mem _ (js_tg (jn_m1 39 rfl) rfl))) rfl hK hP hD hS hA (fun cA => rfl) (by decide) (N' := 5) rfl (Nat.le_of_ble_eq_true rfl) (Nat.le_of_ble_eq_true rfl) (Nat.le_of_ble_eq_true rfl) dc_5_14 (fun q2 cA H hK1 hP hD hS => ?_)
  have hcA : cA = cy 0 := Option.some.inj ((hK1.2 4 _ rfl).2.symm.trans (hK.2 0 _ rfl).2)
  subst hcA
  have hP : va_P (dC, dI) jn_cl [(h0, .inr (5, [.ref q1, .null])), (q1, .inl (cy 0, (15, .inl (fun _ => 0)))), (q2, .inl (cy 0, (5, .inl (fun _ => 0))))] H := hP
  have hD : va_D A [(h0, .inr (5, [.ref q1, .null])), (q1, .inl (cy 0, (15, .inl (fun _ => 0)))), (q2, .inl (cy 0, (5, .inl (fun _ => 0))))] := hD
  refine W.widen (k := 2) (n := 20) (Nat.le_refl _) (Nat.le_refl _) ?_
  refine va_putF (D := (dC, dI)) (ci := 5) (v := .ref q2) (ty := .array .int) (C := "BlobCorners$Racks") (T := jn_T5) (N := 2) hx hb hts (fun w h => List.mem_cons_of_mem _ (js_wsg5 w h)) jn_ty5 jn_tyok5 jn_nm5 hown hK hP hD hS 0 rfl rfl 1 (by decide) (hts _ (List.mem_cons_of_mem _ (js_tg (jn_m1 88 rfl) rfl))) (fun _ h9 => h9) rfl hin2 rfl (by decide +kernel) rfl rfl (Nat.le_of_ble_eq_true rfl) dc_5_16 (fun H locs hP hD hS => ?_)
  have hP : va_P (dC, dI) jn_cl [(h0, .inr (5, [.ref q1, .ref q2])), (q1, .inl (cy 0, (15, .inl (fun _ => 0)))), (q2, .inl (cy 0, (5, .inl (fun _ => 0))))] H := hP
  have hD : va_D A [(h0, .inr (5, [.ref q1, .ref q2])), (q1, .inl (cy 0, (15, .inl (fun _ => 0)))), (q2, .inl (cy 0, (5, .inl (fun _ => 0))))] := hD
  have hP9 := hP.sub (ws' := [(h0, .inr (5, [.ref q1, .ref q2])), (q1, .inl (cy 0, (15, .inl (fun _ => 0)))), (q2, .inl (cy 0, (5, .inl (fun _ => 0))))]) [0, 1, 2] rfl
  have hD9 := hD.sub (ws' := [(h0, .inr (5, [.ref q1, .ref q2])), (q1, .inl (cy 0, (15, .inl (fun _ => 0)))), (q2, .inl (cy 0, (5, .inl (fun _ => 0))))]) [0, 1, 2] (by decide) rfl
  exact W.vret hx hb hr (fun t ht hW => ⟨⟨(), rfl, trivial, q1, q2, by rw [ht]; exact hP9, va_K.moved hW.alike hK, hD9⟩, hS.F ht⟩) hS.2.2 dc_5_19
theorem dc_3_0 : decode prog_5_method_1_code 0 = .ok (.aload_n 0, 1) := by decide +kernel
theorem dc_3_1 : decode prog_5_method_1_code 1 = .ok (.invokespecial 3, 3) := by decide +kernel
theorem dc_3_4 : decode prog_5_method_1_code 4 = .ok (.aload_n 0, 1) := by decide +kernel
theorem dc_3_5 : decode prog_5_method_1_code 5 = .ok (.iconst 0, 1) := by decide +kernel
theorem dc_3_6 : decode prog_5_method_1_code 6 = .ok (.putfield 9, 3) := by decide +kernel
theorem dc_3_9 : decode prog_5_method_1_code 9 = .ok (.aload_n 0, 1) := by decide +kernel
theorem dc_3_10 : decode prog_5_method_1_code 10 = .ok (.iconst 0, 1) := by decide +kernel
theorem dc_3_11 : decode prog_5_method_1_code 11 = .ok (.putfield 15, 3) := by decide +kernel
theorem dc_3_14 : decode prog_5_method_1_code 14 = .ok (.aload_n 0, 1) := by decide +kernel
theorem dc_3_15 : decode prog_5_method_1_code 15 = .ok (.bipush 15, 2) := by decide +kernel
theorem dc_3_17 : decode prog_5_method_1_code 17 = .ok (.newarray .int, 2) := by decide +kernel
theorem dc_3_19 : decode prog_5_method_1_code 19 = .ok (.putfield 18, 3) := by decide +kernel
theorem dc_3_22 : decode prog_5_method_1_code 22 = .ok (.aload_n 0, 1) := by decide +kernel
theorem dc_3_23 : decode prog_5_method_1_code 23 = .ok (.bipush 15, 2) := by decide +kernel
theorem dc_3_25 : decode prog_5_method_1_code 25 = .ok (.newarray .int, 2) := by decide +kernel
theorem dc_3_27 : decode prog_5_method_1_code 27 = .ok (.putfield 22, 3) := by decide +kernel
theorem dc_3_30 : decode prog_5_method_1_code 30 = .ok (.aload_n 0, 1) := by decide +kernel
theorem dc_3_31 : decode prog_5_method_1_code 31 = .ok (.bipush 15, 2) := by decide +kernel
theorem dc_3_33 : decode prog_5_method_1_code 33 = .ok (.newarray .int, 2) := by decide +kernel
theorem dc_3_35 : decode prog_5_method_1_code 35 = .ok (.putfield 25, 3) := by decide +kernel
theorem dc_3_38 : decode prog_5_method_1_code 38 = .ok (.aload_n 0, 1) := by decide +kernel
theorem dc_3_39 : decode prog_5_method_1_code 39 = .ok (.bipush 60, 2) := by decide +kernel
theorem dc_3_41 : decode prog_5_method_1_code 41 = .ok (.newarray .int, 2) := by decide +kernel
theorem dc_3_43 : decode prog_5_method_1_code 43 = .ok (.putfield 28, 3) := by decide +kernel
theorem dc_3_46 : decode prog_5_method_1_code 46 = .ok (.aload_n 0, 1) := by decide +kernel
theorem dc_3_47 : decode prog_5_method_1_code 47 = .ok (.bipush 60, 2) := by decide +kernel
theorem dc_3_49 : decode prog_5_method_1_code 49 = .ok (.newarray .int, 2) := by decide +kernel
theorem dc_3_51 : decode prog_5_method_1_code 51 = .ok (.putfield 31, 3) := by decide +kernel
theorem dc_3_54 : decode prog_5_method_1_code 54 = .ok (.aload_n 0, 1) := by decide +kernel
theorem dc_3_55 : decode prog_5_method_1_code 55 = .ok (.bipush 60, 2) := by decide +kernel
theorem dc_3_57 : decode prog_5_method_1_code 57 = .ok (.newarray .int, 2) := by decide +kernel
theorem dc_3_59 : decode prog_5_method_1_code 59 = .ok (.putfield 34, 3) := by decide +kernel
theorem dc_3_62 : decode prog_5_method_1_code 62 = .ok (.aload_n 0, 1) := by decide +kernel
theorem dc_3_63 : decode prog_5_method_1_code 63 = .ok (.bipush 60, 2) := by decide +kernel
theorem dc_3_65 : decode prog_5_method_1_code 65 = .ok (.newarray .int, 2) := by decide +kernel
theorem dc_3_67 : decode prog_5_method_1_code 67 = .ok (.putfield 37, 3) := by decide +kernel
theorem dc_3_70 : decode prog_5_method_1_code 70 = .ok (.aload_n 0, 1) := by decide +kernel
theorem dc_3_71 : decode prog_5_method_1_code 71 = .ok (.bipush 60, 2) := by decide +kernel
theorem dc_3_73 : decode prog_5_method_1_code 73 = .ok (.newarray .boolean, 2) := by decide +kernel
theorem dc_3_75 : decode prog_5_method_1_code 75 = .ok (.putfield 40, 3) := by decide +kernel
theorem dc_3_78 : decode prog_5_method_1_code 78 = .ok (.aload_n 0, 1) := by decide +kernel
theorem dc_3_79 : decode prog_5_method_1_code 79 = .ok (.bipush 36, 2) := by decide +kernel
theorem dc_3_81 : decode prog_5_method_1_code 81 = .ok (.newarray .int, 2) := by decide +kernel
theorem dc_3_83 : decode prog_5_method_1_code 83 = .ok (.putfield 44, 3) := by decide +kernel
theorem dc_3_86 : decode prog_5_method_1_code 86 = .ok (.aload_n 0, 1) := by decide +kernel
theorem dc_3_87 : decode prog_5_method_1_code 87 = .ok (.bipush 36, 2) := by decide +kernel
theorem dc_3_89 : decode prog_5_method_1_code 89 = .ok (.newarray .int, 2) := by decide +kernel
theorem dc_3_91 : decode prog_5_method_1_code 91 = .ok (.putfield 47, 3) := by decide +kernel
theorem dc_3_94 : decode prog_5_method_1_code 94 = .ok (.return_, 1) := by decide +kernel
def jc_w3 : List Cond := .code ⟨"BlobCorners$Outlines", "<init>", "()V"⟩ prog_5_method_1_code 1 none :: js_Tg
set_option maxHeartbeats 8000000 in
set_option maxRecDepth 100000 in
theorem c_ini3 (l : Launch) (dC : Nat → ClassId) (dI : Nat → Nat → Nat) (cy : Nat → ClassId) (h0 sz : Nat) : Met l ⟨"BlobCorners$Outlines", "<init>", "()V"⟩ jc_w3 ({ frames := 1, cells := 10, slots := 417, locals := 12 }) (va_Pc [.ref h0] (fun U => U.heap.size = sz ∧ va_P (dC, dI) jn_cl [(h0, .inr (3, [.int 0, .int 0, .null, .null, .null, .null, .null, .null, .null, .null, .null, .null]))] U.heap ∧ va_K (dC, dI) jn_cl (js_ty cy) U ∧ va_D (fun _ => True) [(h0, .inr (3, [.int 0, .int 0, .null, .null, .null, .null, .null, .null, .null, .null, .null, .null]))] ∧ js_N U)) (va_Qv (fun _ : Unit => True) (fun _ t => ∃ q1 q2 q3 q4 q5 q6 q7 q8 q9 q10 : Nat, va_P (dC, dI) jn_cl [(h0, .inr (3, [.int 0, .int 0, .ref q1, .ref q2, .ref q3, .ref q4, .ref q5, .ref q6, .ref q7, .ref q8, .ref q9, .ref q10])), (q1, .inl (cy 0, (15, .inl (fun _ => 0)))), (q2, .inl (cy 0, (15, .inl (fun _ => 0)))), (q3, .inl (cy 0, (15, .inl (fun _ => 0)))), (q4, .inl (cy 0, (60, .inl (fun _ => 0)))), (q5, .inl (cy 0, (60, .inl (fun _ => 0)))), (q6, .inl (cy 0, (60, .inl (fun _ => 0)))), (q7, .inl (cy 0, (60, .inl (fun _ => 0)))), (q8, .inl (cy 3, (60, .inl (fun _ => 0)))), (q9, .inl (cy 0, (36, .inl (fun _ => 0)))), (q10, .inl (cy 0, (36, .inl (fun _ => 0))))] t.heap ∧ va_K (dC, dI) jn_cl (js_ty cy) t ∧ va_D (va_A [(h0, .inr (3, [.int 0, .int 0, .null, .null, .null, .null, .null, .null, .null, .null, .null, .null]))] sz) [(h0, .inr (3, [.int 0, .int 0, .ref q1, .ref q2, .ref q3, .ref q4, .ref q5, .ref q6, .ref q7, .ref q8, .ref q9, .ref q10])), (q1, .inl (cy 0, (15, .inl (fun _ => 0)))), (q2, .inl (cy 0, (15, .inl (fun _ => 0)))), (q3, .inl (cy 0, (15, .inl (fun _ => 0)))), (q4, .inl (cy 0, (60, .inl (fun _ => 0)))), (q5, .inl (cy 0, (60, .inl (fun _ => 0)))), (q6, .inl (cy 0, (60, .inl (fun _ => 0)))), (q7, .inl (cy 0, (60, .inl (fun _ => 0)))), (q8, .inl (cy 3, (60, .inl (fun _ => 0)))), (q9, .inl (cy 0, (36, .inl (fun _ => 0)))), (q10, .inl (cy 0, (36, .inl (fun _ => 0))))]) (va_A [(h0, .inr (3, [.int 0, .int 0, .null, .null, .null, .null, .null, .null, .null, .null, .null, .null]))] sz)) 10 417 (va_A [(h0, .inr (3, [.int 0, .int 0, .null, .null, .null, .null, .null, .null, .null, .null, .null, .null]))] sz) := by
  refine Met.ofW (cc := prog_5_method_1_code) (maxL := 1) (ret := none) (by decide) rfl ?_
  intro p e s m args below meth c s₁ B hml hv
  obtain ⟨rfl, hsz, hP, hK, hD0, hN⟩ := hv
  have hx := B.exec
  have hb := B.bytes
  have hr := B.returns
  have hts := atoms_spec (ws := jc_w3) B.pre
  have hown : s.vm.findClass "BlobCorners$Outlines" = some m.cls := findClass_of_methodNamed B.named
  have hlocks := B.notSynchronized
  have hin2 : meth.name = "<init>" := (name_of_methodNamed B.named B.method).1
  subst hsz
  have hD := hD0.self (sz := s.heap.size)
  generalize hAe : va_A [(h0, .inr (3, [.int 0, .int 0, .null, .null, .null, .null, .null, .null, .null, .null, .null, .null]))] s.heap.size = A at hD ⊢
  have hA : ∀ q : Nat, s.heap.size ≤ q → A q := fun q h => by rw [← hAe]; exact Or.inr h
  have hS : va_S A s.heap s.heap [] := va_S.rf
  have hP : va_P (dC, dI) jn_cl [(h0, .inr (3, [.int 0, .int 0, .null, .null, .null, .null, .null, .null, .null, .null, .null, .null]))] s.heap := hP
  have hl := lv_entry ([.ref h0]) (n := 1) (Nat.le_of_ble_eq_true rfl)
  rw [lg_entry_eq]
  generalize (lg_sl ([.ref h0]) ++ List.replicate (1 - (lg_sl ([.ref h0])).length) Slot.unset).toArray = ls at hl ⊢
  have hl : lv_has ls 1 [(0, .ref h0)] := hl
  refine lv_aload_n hx hb dc_3_0 rfl (lv_at hl 0 rfl) ?_
  refine W.objInit hx hb hown (hts _ (List.mem_cons_of_mem _ (js_tg (jn_m1 99 rfl) rfl))) (hts _ (List.mem_cons_of_mem _ (js_tg (jn_m1 23 rfl) rfl))) (hts _ (List.mem_cons_of_mem _ (js_tg (jn_m1 24 rfl) rfl))) rfl (by rw [hml]; exact hl.1) rfl dc_3_1 (Nat.le_of_ble_eq_true rfl) (Nat.le_of_ble_eq_true rfl) ?_
  refine W.eq (g2 := F0 m 4 ls []) rfl ?_
  refine lv_aload_n hx hb dc_3_4 rfl (lv_at hl 0 rfl) ?_
  refine lv_iconst (v := 0) hx hb dc_3_5 (by decide) ?_
  refine va_put (D := (dC, dI)) (ci := 3) (v := .int 0) (ty := .int) (C := "BlobCorners$Outlines") (T := jn_T3) (N := 12) hx hb hts (fun w h => List.mem_cons_of_mem _ (js_wsg3 w h)) jn_ty3 jn_tyok3 jn_nm3 hown hK hP hD hS 0 rfl rfl 0 (by decide) (hts _ (List.mem_cons_of_mem _ (js_tg (jn_m1 100 rfl) rfl))) (fun _ h9 => h9) rfl (by decide +kernel) rfl rfl (Nat.le_of_ble_eq_true rfl) dc_3_6 (fun H locs hP hD hS => ?_)
  have hP : va_P (dC, dI) jn_cl [(h0, .inr (3, [.int 0, .int 0, .null, .null, .null, .null, .null, .null, .null, .null, .null, .null]))] H := hP
  have hD : va_D A [(h0, .inr (3, [.int 0, .int 0, .null, .null, .null, .null, .null, .null, .null, .null, .null, .null]))] := hD
  refine lv_aload_n hx hb dc_3_9 rfl (lv_at hl 0 rfl) ?_
  refine lv_iconst (v := 0) hx hb dc_3_10 (by decide) ?_
  refine va_put (D := (dC, dI)) (ci := 3) (v := .int 0) (ty := .int) (C := "BlobCorners$Outlines") (T := jn_T3) (N := 12) hx hb hts (fun w h => List.mem_cons_of_mem _ (js_wsg3 w h)) jn_ty3 jn_tyok3 jn_nm3 hown hK hP hD hS 0 rfl rfl 1 (by decide) (hts _ (List.mem_cons_of_mem _ (js_tg (jn_m1 102 rfl) rfl))) (fun _ h9 => h9) rfl (by decide +kernel) rfl rfl (Nat.le_of_ble_eq_true rfl) dc_3_11 (fun H locs hP hD hS => ?_)
  have hP : va_P (dC, dI) jn_cl [(h0, .inr (3, [.int 0, .int 0, .null, .null, .null, .null, .null, .null, .null, .null, .null, .null]))] H := hP
  have hD : va_D A [(h0, .inr (3, [.int 0, .int 0, .null, .null, .null, .null, .null, .null, .null, .null, .null, .null]))] := hD
  refine lv_aload_n hx hb dc_3_14 rfl (lv_at hl 0 rfl) ?_
  refine lv_bipush (v := 15) hx hb dc_3_15 (by decide) ?_
  refine va_newa (atype := .int) (ty := .int) (a0 := (15, .inl (fun _ => 0))) hx hb (hts _ (List.mem_cons_of_mem _ (js_tg (jn_m1 39 rfl) rfl))) rfl hK hP hD hS hA (fun cA => rfl) (by decide) (N' := 15) rfl (Nat.le_of_ble_eq_true rfl) (Nat.le_of_ble_eq_true rfl) (Nat.le_of_ble_eq_true rfl) dc_3_17 (fun q1 cA H hK1 hP hD hS => ?_)
  have hcA : cA = cy 0 := Option.some.inj ((hK1.2 4 _ rfl).2.symm.trans (hK.2 0 _ rfl).2)
  subst hcA
  have hP : va_P (dC, dI) jn_cl [(h0, .inr (3, [.int 0, .int 0, .null, .null, .null, .null, .null, .null, .null, .null, .null, .null])), (q1, .inl (cy 0, (15, .inl (fun _ => 0))))] H := hP
  have hD : va_D A [(h0, .inr (3, [.int 0, .int 0, .null, .null, .null, .null, .null, .null, .null, .null, .null, .null])), (q1, .inl (cy 0, (15, .inl (fun _ => 0))))] := hD
  refine W.widen (k := 1) (n := 15) (Nat.le_refl _) (Nat.le_refl _) ?_
  refine va_putF (D := (dC, dI)) (ci := 3) (v := .ref q1) (ty := .array .int) (C := "BlobCorners$Outlines") (T := jn_T3) (N := 12) hx hb hts (fun w h => List.mem_cons_of_mem _ (js_wsg3 w h)) jn_ty3 jn_tyok3 jn_nm3 hown hK hP hD hS 0 rfl rfl 2 (by decide) (hts _ (List.mem_cons_of_mem _ (js_tg (jn_m1 103 rfl) rfl))) (fun _ h9 => h9) rfl hin2 rfl (by decide +kernel) rfl rfl (Nat.le_of_ble_eq_true rfl) dc_3_19 (fun H locs hP hD hS => ?_)
  have hP : va_P (dC, dI) jn_cl [(h0, .inr (3, [.int 0, .int 0, .ref q1, .null, .null, .null, .null, .null, .null, .null, .null, .null])), (q1, .inl (cy 0, (15, .inl (fun _ => 0))))] H := hP
  have hD : va_D A [(h0, .inr (3, [.int 0, .int 0, .ref q1, .null, .null, .null, .null, .null, .null, .null, .null, .null])), (q1, .inl (cy 0, (15, .inl (fun _ => 0))))] := hD
  refine lv_aload_n hx hb dc_3_22 rfl (lv_at hl 0 rfl) ?_
  refine lv_bipush (v := 15) hx hb dc_3_23 (by decide) ?_
  refine va_newa (atype := .int) (ty := .int) (a0 := (15, .inl (fun _ => 0))) hx hb (hts _ (List.mem_cons_of_mem _ (js_tg (jn_m1 39 rfl) rfl))) rfl hK hP hD hS hA (fun cA => rfl) (by decide) (N' := 15) rfl (Nat.le_of_ble_eq_true rfl) (Nat.le_of_ble_eq_true rfl) (Nat.le_of_ble_eq_true rfl) dc_3_25 (fun q2 cA H hK1 hP hD hS => ?_)
  have hcA : cA = cy 0 := Option.some.inj ((hK1.2 4 _ rfl).2.symm.trans (hK.2 0 _ rfl).2)
  subst hcA
  have hP : va_P (dC, dI) jn_cl [(h0, .inr (3, [.int 0, .int 0, .ref q1, .null, .null, .null, .null, .null, .null, .null, .null, .null])), (q1, .inl (cy 0, (15, .inl (fun _ => 0)))), (q2, .inl (cy 0, (15, .inl (fun _ => 0))))] H := hP
  have hD : va_D A [(h0, .inr (3, [.int 0, .int 0, .ref q1, .null, .null, .null, .null, .null, .null, .null, .null, .null])), (q1, .inl (cy 0, (15, .inl (fun _ => 0)))), (q2, .inl (cy 0, (15, .inl (fun _ => 0))))] := hD
  refine W.widen (k := 2) (n := 30) (Nat.le_refl _) (Nat.le_refl _) ?_
  refine va_putF (D := (dC, dI)) (ci := 3) (v := .ref q2) (ty := .array .int) (C := "BlobCorners$Outlines") (T := jn_T3) (N := 12) hx hb hts (fun w h => List.mem_cons_of_mem _ (js_wsg3 w h)) jn_ty3 jn_tyok3 jn_nm3 hown hK hP hD hS 0 rfl rfl 3 (by decide) (hts _ (List.mem_cons_of_mem _ (js_tg (jn_m1 104 rfl) rfl))) (fun _ h9 => h9) rfl hin2 rfl (by decide +kernel) rfl rfl (Nat.le_of_ble_eq_true rfl) dc_3_27 (fun H locs hP hD hS => ?_)
  have hP : va_P (dC, dI) jn_cl [(h0, .inr (3, [.int 0, .int 0, .ref q1, .ref q2, .null, .null, .null, .null, .null, .null, .null, .null])), (q1, .inl (cy 0, (15, .inl (fun _ => 0)))), (q2, .inl (cy 0, (15, .inl (fun _ => 0))))] H := hP
  have hD : va_D A [(h0, .inr (3, [.int 0, .int 0, .ref q1, .ref q2, .null, .null, .null, .null, .null, .null, .null, .null])), (q1, .inl (cy 0, (15, .inl (fun _ => 0)))), (q2, .inl (cy 0, (15, .inl (fun _ => 0))))] := hD
  refine lv_aload_n hx hb dc_3_30 rfl (lv_at hl 0 rfl) ?_
  refine lv_bipush (v := 15) hx hb dc_3_31 (by decide) ?_
  refine va_newa (atype := .int) (ty := .int) (a0 := (15, .inl (fun _ => 0))) hx hb (hts _ (List.mem_cons_of_mem _ (js_tg (jn_m1 39 rfl) rfl))) rfl hK hP hD hS hA (fun cA => rfl) (by decide) (N' := 15) rfl (Nat.le_of_ble_eq_true rfl) (Nat.le_of_ble_eq_true rfl) (Nat.le_of_ble_eq_true rfl) dc_3_33 (fun q3 cA H hK1 hP hD hS => ?_)
  have hcA : cA = cy 0 := Option.some.inj ((hK1.2 4 _ rfl).2.symm.trans (hK.2 0 _ rfl).2)
  subst hcA
  have hP : va_P (dC, dI) jn_cl [(h0, .inr (3, [.int 0, .int 0, .ref q1, .ref q2, .null, .null, .null, .null, .null, .null, .null, .null])), (q1, .inl (cy 0, (15, .inl (fun _ => 0)))), (q2, .inl (cy 0, (15, .inl (fun _ => 0)))), (q3, .inl (cy 0, (15, .inl (fun _ => 0))))] H := hP
  have hD : va_D A [(h0, .inr (3, [.int 0, .int 0, .ref q1, .ref q2, .null, .null, .null, .null, .null, .null, .null, .null])), (q1, .inl (cy 0, (15, .inl (fun _ => 0)))), (q2, .inl (cy 0, (15, .inl (fun _ => 0)))), (q3, .inl (cy 0, (15, .inl (fun _ => 0))))] := hD
  refine W.widen (k := 3) (n := 45) (Nat.le_refl _) (Nat.le_refl _) ?_
  refine va_putF (D := (dC, dI)) (ci := 3) (v := .ref q3) (ty := .array .int) (C := "BlobCorners$Outlines") (T := jn_T3) (N := 12) hx hb hts (fun w h => List.mem_cons_of_mem _ (js_wsg3 w h)) jn_ty3 jn_tyok3 jn_nm3 hown hK hP hD hS 0 rfl rfl 4 (by decide) (hts _ (List.mem_cons_of_mem _ (js_tg (jn_m1 105 rfl) rfl))) (fun _ h9 => h9) rfl hin2 rfl (by decide +kernel) rfl rfl (Nat.le_of_ble_eq_true rfl) dc_3_35 (fun H locs hP hD hS => ?_)
  have hP : va_P (dC, dI) jn_cl [(h0, .inr (3, [.int 0, .int 0, .ref q1, .ref q2, .ref q3, .null, .null, .null, .null, .null, .null, .null])), (q1, .inl (cy 0, (15, .inl (fun _ => 0)))), (q2, .inl (cy 0, (15, .inl (fun _ => 0)))), (q3, .inl (cy 0, (15, .inl (fun _ => 0))))] H := hP
  have hD : va_D A [(h0, .inr (3, [.int 0, .int 0, .ref q1, .ref q2, .ref q3, .null, .null, .null, .null, .null, .null, .null])), (q1, .inl (cy 0, (15, .inl (fun _ => 0)))), (q2, .inl (cy 0, (15, .inl (fun _ => 0)))), (q3, .inl (cy 0, (15, .inl (fun _ => 0))))] := hD
  refine lv_aload_n hx hb dc_3_38 rfl (lv_at hl 0 rfl) ?_
  refine lv_bipush (v := 60) hx hb dc_3_39 (by decide) ?_
  refine va_newa (atype := .int) (ty := .int) (a0 := (60, .inl (fun _ => 0))) hx hb (hts _ (List.mem_cons_of_mem _ (js_tg (jn_m1 39 rfl) rfl))) rfl hK hP hD hS hA (fun cA => rfl) (by decide) (N' := 60) rfl (Nat.le_of_ble_eq_true rfl) (Nat.le_of_ble_eq_true rfl) (Nat.le_of_ble_eq_true rfl) dc_3_41 (fun q4 cA H hK1 hP hD hS => ?_)
  have hcA : cA = cy 0 := Option.some.inj ((hK1.2 4 _ rfl).2.symm.trans (hK.2 0 _ rfl).2)
  subst hcA
  have hP : va_P (dC, dI) jn_cl [(h0, .inr (3, [.int 0, .int 0, .ref q1, .ref q2, .ref q3, .null, .null, .null, .null, .null, .null, .null])), (q1, .inl (cy 0, (15, .inl (fun _ => 0)))), (q2, .inl (cy 0, (15, .inl (fun _ => 0)))), (q3, .inl (cy 0, (15, .inl (fun _ => 0)))), (q4, .inl (cy 0, (60, .inl (fun _ => 0))))] H := hP
  have hD : va_D A [(h0, .inr (3, [.int 0, .int 0, .ref q1, .ref q2, .ref q3, .null, .null, .null, .null, .null, .null, .null])), (q1, .inl (cy 0, (15, .inl (fun _ => 0)))), (q2, .inl (cy 0, (15, .inl (fun _ => 0)))), (q3, .inl (cy 0, (15, .inl (fun _ => 0)))), (q4, .inl (cy 0, (60, .inl (fun _ => 0))))] := hD
  refine W.widen (k := 4) (n := 105) (Nat.le_refl _) (Nat.le_refl _) ?_
  refine va_putF (D := (dC, dI)) (ci := 3) (v := .ref q4) (ty := .array .int) (C := "BlobCorners$Outlines") (T := jn_T3) (N := 12) hx hb hts (fun w h => List.mem_cons_of_mem _ (js_wsg3 w h)) jn_ty3 jn_tyok3 jn_nm3 hown hK hP hD hS 0 rfl rfl 5 (by decide) (hts _ (List.mem_cons_of_mem _ (js_tg (jn_m1 106 rfl) rfl))) (fun _ h9 => h9) rfl hin2 rfl (by decide +kernel) rfl rfl (Nat.le_of_ble_eq_true rfl) dc_3_43 (fun H locs hP hD hS => ?_)
  have hP : va_P (dC, dI) jn_cl [(h0, .inr (3, [.int 0, .int 0, .ref q1, .ref q2, .ref q3, .ref q4, .null, .null, .null, .null, .null, .null])), (q1, .inl (cy 0, (15, .inl (fun _ => 0)))), (q2, .inl (cy 0, (15, .inl (fun _ => 0)))), (q3, .inl (cy 0, (15, .inl (fun _ => 0)))), (q4, .inl (cy 0, (60, .inl (fun _ => 0))))] H := hP
  have hD : va_D A [(h0, .inr (3, [.int 0, .int 0, .ref q1, .ref q2, .ref q3, .ref q4, .null, .null, .null, .null, .null, .null])), (q1, .inl (cy 0, (15, .inl (fun _ => 0)))), (q2, .inl (cy 0, (15, .inl (fun _ => 0)))), (q3, .inl (cy 0, (15, .inl (fun _ => 0)))), (q4, .inl (cy 0, (60, .inl (fun _ => 0))))] := hD
  refine lv_aload_n hx hb dc_3_46 rfl (lv_at hl 0 rfl) ?_
  refine lv_bipush (v := 60) hx hb dc_3_47 (by decide) ?_
  refine va_newa (atype := .int) (ty := .int) (a0 := (60, .inl (fun _ => 0))) hx hb (hts _ (List.mem_cons_of_mem _ (js_tg (jn_m1 39 rfl) rfl))) rfl hK hP hD hS hA (fun cA => rfl) (by decide) (N' := 60) rfl (Nat.le_of_ble_eq_true rfl) (Nat.le_of_ble_eq_true rfl) (Nat.le_of_ble_eq_true rfl) dc_3_49 (fun q5 cA H hK1 hP hD hS => ?_)
  have hcA : cA = cy 0 := Option.some.inj ((hK1.2 4 _ rfl).2.symm.trans (hK.2 0 _ rfl).2)
  subst hcA
  have hP : va_P (dC, dI) jn_cl [(h0, .inr (3, [.int 0, .int 0, .ref q1, .ref q2, .ref q3, .ref q4, .null, .null, .null, .null, .null, .null])), (q1, .inl (cy 0, (15, .inl (fun _ => 0)))), (q2, .inl (cy 0, (15, .inl (fun _ => 0)))), (q3, .inl (cy 0, (15, .inl (fun _ => 0)))), (q4, .inl (cy 0, (60, .inl (fun _ => 0)))), (q5, .inl (cy 0, (60, .inl (fun _ => 0))))] H := hP
  have hD : va_D A [(h0, .inr (3, [.int 0, .int 0, .ref q1, .ref q2, .ref q3, .ref q4, .null, .null, .null, .null, .null, .null])), (q1, .inl (cy 0, (15, .inl (fun _ => 0)))), (q2, .inl (cy 0, (15, .inl (fun _ => 0)))), (q3, .inl (cy 0, (15, .inl (fun _ => 0)))), (q4, .inl (cy 0, (60, .inl (fun _ => 0)))), (q5, .inl (cy 0, (60, .inl (fun _ => 0))))] := hD
  refine W.widen (k := 5) (n := 165) (Nat.le_refl _) (Nat.le_refl _) ?_
  refine va_putF (D := (dC, dI)) (ci := 3) (v := .ref q5) (ty := .array .int) (C := "BlobCorners$Outlines") (T := jn_T3) (N := 12) hx hb hts (fun w h => List.mem_cons_of_mem _ (js_wsg3 w h)) jn_ty3 jn_tyok3 jn_nm3 hown hK hP hD hS 0 rfl rfl 6 (by decide) (hts _ (List.mem_cons_of_mem _ (js_tg (jn_m1 107 rfl) rfl))) (fun _ h9 => h9) rfl hin2 rfl (by decide +kernel) rfl rfl (Nat.le_of_ble_eq_true rfl) dc_3_51 (fun H locs hP hD hS => ?_)
  have hP : va_P (dC, dI) jn_cl [(h0, .inr (3, [.int 0, .int 0, .ref q1, .ref q2, .ref q3, .ref q4, .ref q5, .null, .null, .null, .null, .null])), (q1, .inl (cy 0, (15, .inl (fun _ => 0)))), (q2, .inl (cy 0, (15, .inl (fun _ => 0)))), (q3, .inl (cy 0, (15, .inl (fun _ => 0)))), (q4, .inl (cy 0, (60, .inl (fun _ => 0)))), (q5, .inl (cy 0, (60, .inl (fun _ => 0))))] H := hP
  have hD : va_D A [(h0, .inr (3, [.int 0, .int 0, .ref q1, .ref q2, .ref q3, .ref q4, .ref q5, .null, .null, .null, .null, .null])), (q1, .inl (cy 0, (15, .inl (fun _ => 0)))), (q2, .inl (cy 0, (15, .inl (fun _ => 0)))), (q3, .inl (cy 0, (15, .inl (fun _ => 0)))), (q4, .inl (cy 0, (60, .inl (fun _ => 0)))), (q5, .inl (cy 0, (60, .inl (fun _ => 0))))] := hD
  refine lv_aload_n hx hb dc_3_54 rfl (lv_at hl 0 rfl) ?_
  refine lv_bipush (v := 60) hx hb dc_3_55 (by decide) ?_
  refine va_newa (atype := .int) (ty := .int) (a0 := (60, .inl (fun _ => 0))) hx hb (hts _ (List.mem_cons_of_mem _ (js_tg (jn_m1 39 rfl) rfl))) rfl hK hP hD hS hA (fun cA => rfl) (by decide) (N' := 60) rfl (Nat.le_of_ble_eq_true rfl) (Nat.le_of_ble_eq_true rfl) (Nat.le_of_ble_eq_true rfl) dc_3_57 (fun q6 cA H hK1 hP hD hS => ?_)
  have hcA : cA = cy 0 := Option.some.inj ((hK1.2 4 _ rfl).2.symm.trans (hK.2 0 _ rfl).2)
  subst hcA
  have hP : va_P (dC, dI) jn_cl [(h0, .inr (3, [.int 0, .int 0, .ref q1, .ref q2, .ref q3, .ref q4, .ref q5, .null, .null, .null, .null, .null])), (q1, .inl (cy 0, (15, .inl (fun _ => 0)))), (q2, .inl (cy 0, (15, .inl (fun _ => 0)))), (q3, .inl (cy 0, (15, .inl (fun _ => 0)))), (q4, .inl (cy 0, (60, .inl (fun _ => 0)))), (q5, .inl (cy 0, (60, .inl (fun _ => 0)))), (q6, .inl (cy 0, (60, .inl (fun _ => 0))))] H := hP
  have hD : va_D A [(h0, .inr (3, [.int 0, .int 0, .ref q1, .ref q2, .ref q3, .ref q4, .ref q5, .null, .null, .null, .null, .null])), (q1, .inl (cy 0, (15, .inl (fun _ => 0)))), (q2, .inl (cy 0, (15, .inl (fun _ => 0)))), (q3, .inl (cy 0, (15, .inl (fun _ => 0)))), (q4, .inl (cy 0, (60, .inl (fun _ => 0)))), (q5, .inl (cy 0, (60, .inl (fun _ => 0)))), (q6, .inl (cy 0, (60, .inl (fun _ => 0))))] := hD
  refine W.widen (k := 6) (n := 225) (Nat.le_refl _) (Nat.le_refl _) ?_
  refine va_putF (D := (dC, dI)) (ci := 3) (v := .ref q6) (ty := .array .int) (C := "BlobCorners$Outlines") (T := jn_T3) (N := 12) hx hb hts (fun w h => List.mem_cons_of_mem _ (js_wsg3 w h)) jn_ty3 jn_tyok3 jn_nm3 hown hK hP hD hS 0 rfl rfl 7 (by decide) (hts _ (List.mem_cons_of_mem _ (js_tg (jn_m1 108 rfl) rfl))) (fun _ h9 => h9) rfl hin2 rfl (by decide +kernel) rfl rfl (Nat.le_of_ble_eq_true rfl) dc_3_59 (fun H locs hP hD hS => ?_)
  have hP : va_P (dC, dI) jn_cl [(h0, .inr (3, [.int 0, .int 0, .ref q1, .ref q2, .ref q3, .ref q4, .ref q5, .ref q6, .null, .null, .null, .null])), (q1, .inl (cy 0, (15, .inl (fun _ => 0)))), (q2, .inl (cy 0, (15, .inl (fun _ => 0)))), (q3, .inl (cy 0, (15, .inl (fun _ => 0)))), (q4, .inl (cy 0, (60, .inl (fun _ => 0)))), (q5, .inl (cy 0, (60, .inl (fun _ => 0)))), (q6, .inl (cy 0, (60, .inl (fun _ => 0))))] H := hP
  have hD : va_D A [(h0, .inr (3, [.int 0, .int 0, .ref q1, .ref q2, .ref q3, .ref q4, .ref q5, .ref q6, .null, .null, .null, .null])), (q1, .inl (cy 0, (15, .inl (fun _ => 0)))), (q2, .inl (cy 0, (15, .inl (fun _ => 0)))), (q3, .inl (cy 0, (15, .inl (fun _ => 0)))), (q4, .inl (cy 0, (60, .inl (fun _ => 0)))), (q5, .inl (cy 0, (60, .inl (fun _ => 0)))), (q6, .inl (cy 0, (60, .inl (fun _ => 0))))] := hD
  refine lv_aload_n hx hb dc_3_62 rfl (lv_at hl 0 rfl) ?_
  refine lv_bipush (v := 60) hx hb dc_3_63 (by decide) ?_
  refine va_newa (atype := .int) (ty := .int) (a0 := (60, .inl (fun _ => 0))) hx hb (hts _ (List.mem_cons_of_mem _ (js_tg (jn_m1 39 rfl) rfl))) rfl hK hP hD hS hA (fun cA => rfl) (by decide) (N' := 60) rfl (Nat.le_of_ble_eq_true rfl) (Nat.le_of_ble_eq_true rfl) (Nat.le_of_ble_eq_true rfl) dc_3_65 (fun q7 cA H hK1 hP hD hS => ?_)
  have hcA : cA = cy 0 := Option.some.inj ((hK1.2 4 _ rfl).2.symm.trans (hK.2 0 _ rfl).2)
  subst hcA
  have hP : va_P (dC, dI) jn_cl [(h0, .inr (3, [.int 0, .int 0, .ref q1, .ref q2, .ref q3, .ref q4, .ref q5, .ref q6, .null, .null, .null, .null])), (q1, .inl (cy 0, (15, .inl (fun _ => 0)))), (q2, .inl (cy 0, (15, .inl (fun _ => 0)))), (q3, .inl (cy 0, (15, .inl (fun _ => 0)))), (q4, .inl (cy 0, (60, .inl (fun _ => 0)))), (q5, .inl (cy 0, (60, .inl (fun _ => 0)))), (q6, .inl (cy 0, (60, .inl (fun _ => 0)))), (q7, .inl (cy 0, (60, .inl (fun _ => 0))))] H := hP
  have hD : va_D A [(h0, .inr (3, [.int 0, .int 0, .ref q1, .ref q2, .ref q3, .ref q4, .ref q5, .ref q6, .null, .null, .null, .null])), (q1, .inl (cy 0, (15, .inl (fun _ => 0)))), (q2, .inl (cy 0, (15, .inl (fun _ => 0)))), (q3, .inl (cy 0, (15, .inl (fun _ => 0)))), (q4, .inl (cy 0, (60, .inl (fun _ => 0)))), (q5, .inl (cy 0, (60, .inl (fun _ => 0)))), (q6, .inl (cy 0, (60, .inl (fun _ => 0)))), (q7, .inl (cy 0, (60, .inl (fun _ => 0))))] := hD
  refine W.widen (k := 7) (n := 285) (Nat.le_refl _) (Nat.le_refl _) ?_
  refine va_putF (D := (dC, dI)) (ci := 3) (v := .ref q7) (ty := .array .int) (C := "BlobCorners$Outlines") (T := jn_T3) (N := 12) hx hb hts (fun w h => List.mem_cons_of_mem _ (js_wsg3 w h)) jn_ty3 jn_tyok3 jn_nm3 hown hK hP hD hS 0 rfl rfl 8 (by decide) (hts _ (List.mem_cons_of_mem _ (js_tg (jn_m1 109 rfl) rfl))) (fun _ h9 => h9) rfl hin2 rfl (by decide +kernel) rfl rfl (Nat.le_of_ble_eq_true rfl) dc_3_67 (fun H locs hP hD hS => ?_)
  have hP : va_P (dC, dI) jn_cl [(h0, .inr (3, [.int 0, .int 0, .ref q1, .ref q2, .ref q3, .ref q4, .ref q5, .ref q6, .ref q7, .null, .null, .null])), (q1, .inl (cy 0, (15, .inl (fun _ => 0)))), (q2, .inl (cy 0, (15, .inl (fun _ => 0)))), (q3, .inl (cy 0, (15, .inl (fun _ => 0)))), (q4, .inl (cy 0, (60, .inl (fun _ => 0)))), (q5, .inl (cy 0, (60, .inl (fun _ => 0)))), (q6, .inl (cy 0, (60, .inl (fun _ => 0)))), (q7, .inl (cy 0, (60, .inl (fun _ => 0))))] H := hP
  have hD : va_D A [(h0, .inr (3, [.int 0, .int 0, .ref q1, .ref q2, .ref q3, .ref q4, .ref q5, .ref q6, .ref q7, .null, .null, .null])), (q1, .inl (cy 0, (15, .inl (fun _ => 0)))), (q2, .inl (cy 0, (15, .inl (fun _ => 0)))), (q3, .inl (cy 0, (15, .inl (fun _ => 0)))), (q4, .inl (cy 0, (60, .inl (fun _ => 0)))), (q5, .inl (cy 0, (60, .inl (fun _ => 0)))), (q6, .inl (cy 0, (60, .inl (fun _ => 0)))), (q7, .inl (cy 0, (60, .inl (fun _ => 0))))] := hD
  refine lv_aload_n hx hb dc_3_70 rfl (lv_at hl 0 rfl) ?_
  refine lv_bipush (v := 60) hx hb dc_3_71 (by decide) ?_
  refine va_newa (atype := .boolean) (ty := .boolean) (a0 := (60, .inl (fun _ => 0))) hx hb (hts _ (List.mem_cons_of_mem _ (js_tg (jn_m1 80 rfl) rfl))) rfl hK hP hD hS hA (fun cA => rfl) (by decide) (N' := 60) rfl (Nat.le_of_ble_eq_true rfl) (Nat.le_of_ble_eq_true rfl) (Nat.le_of_ble_eq_true rfl) dc_3_73 (fun q8 cA H hK1 hP hD hS => ?_)
  have hcA : cA = cy 3 := Option.some.inj ((hK1.2 4 _ rfl).2.symm.trans (hK.2 3 _ rfl).2)
  subst hcA
  have hP : va_P (dC, dI) jn_cl [(h0, .inr (3, [.int 0, .int 0, .ref q1, .ref q2, .ref q3, .ref q4, .ref q5, .ref q6, .ref q7, .null, .null, .null])), (q1, .inl (cy 0, (15, .inl (fun _ => 0)))), (q2, .inl (cy 0, (15, .inl (fun _ => 0)))), (q3, .inl (cy 0, (15, .inl (fun _ => 0)))), (q4, .inl (cy 0, (60, .inl (fun _ => 0)))), (q5, .inl (cy 0, (60, .inl (fun _ => 0)))), (q6, .inl (cy 0, (60, .inl (fun _ => 0)))), (q7, .inl (cy 0, (60, .inl (fun _ => 0)))), (q8, .inl (cy 3, (60, .inl (fun _ => 0))))] H := hP
  have hD : va_D A [(h0, .inr (3, [.int 0, .int 0, .ref q1, .ref q2, .ref q3, .ref q4, .ref q5, .ref q6, .ref q7, .null, .null, .null])), (q1, .inl (cy 0, (15, .inl (fun _ => 0)))), (q2, .inl (cy 0, (15, .inl (fun _ => 0)))), (q3, .inl (cy 0, (15, .inl (fun _ => 0)))), (q4, .inl (cy 0, (60, .inl (fun _ => 0)))), (q5, .inl (cy 0, (60, .inl (fun _ => 0)))), (q6, .inl (cy 0, (60, .inl (fun _ => 0)))), (q7, .inl (cy 0, (60, .inl (fun _ => 0)))), (q8, .inl (cy 3, (60, .inl (fun _ => 0))))] := hD
  refine W.widen (k := 8) (n := 345) (Nat.le_refl _) (Nat.le_refl _) ?_
  refine va_putF (D := (dC, dI)) (ci := 3) (v := .ref q8) (ty := .array .boolean) (C := "BlobCorners$Outlines") (T := jn_T3) (N := 12) hx hb hts (fun w h => List.mem_cons_of_mem _ (js_wsg3 w h)) jn_ty3 jn_tyok3 jn_nm3 hown hK hP hD hS 0 rfl rfl 9 (by decide) (hts _ (List.mem_cons_of_mem _ (js_tg (jn_m1 110 rfl) rfl))) (fun _ h9 => h9) rfl hin2 rfl (by decide +kernel) rfl rfl (Nat.le_of_ble_eq_true rfl) dc_3_75 (fun H locs hP hD hS => ?_)
  have hP : va_P (dC, dI) jn_cl [(h0, .inr (3, [.int 0, .int 0, .ref q1, .ref q2, .ref q3, .ref q4, .ref q5, .ref q6, .ref q7, .ref q8, .null, .null])), (q1, .inl (cy 0, (15, .inl (fun _ => 0)))), (q2, .inl (cy 0, (15, .inl (fun _ => 0)))), (q3, .inl (cy 0, (15, .inl (fun _ => 0)))), (q4, .inl (cy 0, (60, .inl (fun _ => 0)))), (q5, .inl (cy 0, (60, .inl (fun _ => 0)))), (q6, .inl (cy 0, (60, .inl (fun _ => 0)))), (q7, .inl (cy 0, (60, .inl (fun _ => 0)))), (q8, .inl (cy 3, (60, .inl (fun _ => 0))))] H := hP
  have hD : va_D A [(h0, .inr (3, [.int 0, .int 0, .ref q1, .ref q2, .ref q3, .ref q4, .ref q5, .ref q6, .ref q7, .ref q8, .null, .null])), (q1, .inl (cy 0, (15, .inl (fun _ => 0)))), (q2, .inl (cy 0, (15, .inl (fun _ => 0)))), (q3, .inl (cy 0, (15, .inl (fun _ => 0)))), (q4, .inl (cy 0, (60, .inl (fun _ => 0)))), (q5, .inl (cy 0, (60, .inl (fun _ => 0)))), (q6, .inl (cy 0, (60, .inl (fun _ => 0)))), (q7, .inl (cy 0, (60, .inl (fun _ => 0)))), (q8, .inl (cy 3, (60, .inl (fun _ => 0))))] := hD
  refine lv_aload_n hx hb dc_3_78 rfl (lv_at hl 0 rfl) ?_
  refine lv_bipush (v := 36) hx hb dc_3_79 (by decide) ?_
  refine va_newa (atype := .int) (ty := .int) (a0 := (36, .inl (fun _ => 0))) hx hb (hts _ (List.mem_cons_of_mem _ (js_tg (jn_m1 39 rfl) rfl))) rfl hK hP hD hS hA (fun cA => rfl) (by decide) (N' := 36) rfl (Nat.le_of_ble_eq_true rfl) (Nat.le_of_ble_eq_true rfl) (Nat.le_of_ble_eq_true rfl) dc_3_81 (fun q9 cA H hK1 hP hD hS => ?_)
  have hcA : cA = cy 0 := Option.some.inj ((hK1.2 4 _ rfl).2.symm.trans (hK.2 0 _ rfl).2)
  subst hcA
  have hP : va_P (dC, dI) jn_cl [(h0, .inr (3, [.int 0, .int 0, .ref q1, .ref q2, .ref q3, .ref q4, .ref q5, .ref q6, .ref q7, .ref q8, .null, .null])), (q1, .inl (cy 0, (15, .inl (fun _ => 0)))), (q2, .inl (cy 0, (15, .inl (fun _ => 0)))), (q3, .inl (cy 0, (15, .inl (fun _ => 0)))), (q4, .inl (cy 0, (60, .inl (fun _ => 0)))), (q5, .inl (cy 0, (60, .inl (fun _ => 0)))), (q6, .inl (cy 0, (60, .inl (fun _ => 0)))), (q7, .inl (cy 0, (60, .inl (fun _ => 0)))), (q8, .inl (cy 3, (60, .inl (fun _ => 0)))), (q9, .inl (cy 0, (36, .inl (fun _ => 0))))] H := hP
  have hD : va_D A [(h0, .inr (3, [.int 0, .int 0, .ref q1, .ref q2, .ref q3, .ref q4, .ref q5, .ref q6, .ref q7, .ref q8, .null, .null])), (q1, .inl (cy 0, (15, .inl (fun _ => 0)))), (q2, .inl (cy 0, (15, .inl (fun _ => 0)))), (q3, .inl (cy 0, (15, .inl (fun _ => 0)))), (q4, .inl (cy 0, (60, .inl (fun _ => 0)))), (q5, .inl (cy 0, (60, .inl (fun _ => 0)))), (q6, .inl (cy 0, (60, .inl (fun _ => 0)))), (q7, .inl (cy 0, (60, .inl (fun _ => 0)))), (q8, .inl (cy 3, (60, .inl (fun _ => 0)))), (q9, .inl (cy 0, (36, .inl (fun _ => 0))))] := hD
  refine W.widen (k := 9) (n := 381) (Nat.le_refl _) (Nat.le_refl _) ?_
  refine va_putF (D := (dC, dI)) (ci := 3) (v := .ref q9) (ty := .array .int) (C := "BlobCorners$Outlines") (T := jn_T3) (N := 12) hx hb hts (fun w h => List.mem_cons_of_mem _ (js_wsg3 w h)) jn_ty3 jn_tyok3 jn_nm3 hown hK hP hD hS 0 rfl rfl 10 (by decide) (hts _ (List.mem_cons_of_mem _ (js_tg (jn_m1 111 rfl) rfl))) (fun _ h9 => h9) rfl hin2 rfl (by decide +kernel) rfl rfl (Nat.le_of_ble_eq_true rfl) dc_3_83 (fun H locs hP hD hS => ?_)
  have hP : va_P (dC, dI) jn_cl [(h0, .inr (3, [.int 0, .int 0, .ref q1, .ref q2, .ref q3, .ref q4, .ref q5, .ref q6, .ref q7, .ref q8, .ref q9, .null])), (q1, .inl (cy 0, (15, .inl (fun _ => 0)))), (q2, .inl (cy 0, (15, .inl (fun _ => 0)))), (q3, .inl (cy 0, (15, .inl (fun _ => 0)))), (q4, .inl (cy 0, (60, .inl (fun _ => 0)))), (q5, .inl (cy 0, (60, .inl (fun _ => 0)))), (q6, .inl (cy 0, (60, .inl (fun _ => 0)))), (q7, .inl (cy 0, (60, .inl (fun _ => 0)))), (q8, .inl (cy 3, (60, .inl (fun _ => 0)))), (q9, .inl (cy 0, (36, .inl (fun _ => 0))))] H := hP
  have hD : va_D A [(h0, .inr (3, [.int 0, .int 0, .ref q1, .ref q2, .ref q3, .ref q4, .ref q5, .ref q6, .ref q7, .ref q8, .ref q9, .null])), (q1, .inl (cy 0, (15, .inl (fun _ => 0)))), (q2, .inl (cy 0, (15, .inl (fun _ => 0)))), (q3, .inl (cy 0, (15, .inl (fun _ => 0)))), (q4, .inl (cy 0, (60, .inl (fun _ => 0)))), (q5, .inl (cy 0, (60, .inl (fun _ => 0)))), (q6, .inl (cy 0, (60, .inl (fun _ => 0)))), (q7, .inl (cy 0, (60, .inl (fun _ => 0)))), (q8, .inl (cy 3, (60, .inl (fun _ => 0)))), (q9, .inl (cy 0, (36, .inl (fun _ => 0))))] := hD
  refine lv_aload_n hx hb dc_3_86 rfl (lv_at hl 0 rfl) ?_
  refine lv_bipush (v := 36) hx hb dc_3_87 (by decide) ?_
  refine va_newa (atype := .int) (ty := .int) (a0 := (36, .inl (fun _ => 0))) hx hb (hts _ (List.mem_cons_of_mem _ (js_tg (jn_m1 39 rfl) rfl))) rfl hK hP hD hS hA (fun cA => rfl) (by decide) (N' := 36) rfl (Nat.le_of_ble_eq_true rfl) (Nat.le_of_ble_eq_true rfl) (Nat.le_of_ble_eq_true rfl) dc_3_89 (fun q10 cA H hK1 hP hD hS => ?_)
  have hcA : cA = cy 0 := Option.some.inj ((hK1.2 4 _ rfl).2.symm.trans (hK.2 0 _ rfl).2)
  subst hcA
  have hP : va_P (dC, dI) jn_cl [(h0, .inr (3, [.int 0, .int 0, .ref q1, .ref q2, .ref q3, .ref q4, .ref q5, .ref q6, .ref q7, .ref q8, .ref q9, .null])), (q1, .inl (cy 0, (15, .inl (fun _ => 0)))), (q2, .inl (cy 0, (15, .inl (fun _ => 0)))), (q3, .inl (cy 0, (15, .inl (fun _ => 0)))), (q4, .inl (cy 0, (60, .inl (fun _ => 0)))), (q5, .inl (cy 0, (60, .inl (fun _ => 0)))), (q6, .inl (cy 0, (60, .inl (fun _ => 0)))), (q7, .inl (cy 0, (60, .inl (fun _ => 0)))), (q8, .inl (cy 3, (60, .inl (fun _ => 0)))), (q9, .inl (cy 0, (36, .inl (fun _ => 0)))), (q10, .inl (cy 0, (36, .inl (fun _ => 0))))] H := hP
  have hD : va_D A [(h0, .inr (3, [.int 0, .int 0, .ref q1, .ref q2, .ref q3, .ref q4, .ref q5, .ref q6, .ref q7, .ref q8, .ref q9, .null])), (q1, .inl (cy 0, (15, .inl (fun _ => 0)))), (q2, .inl (cy 0, (15, .inl (fun _ => 0)))), (q3, .inl (cy 0, (15, .inl (fun _ => 0)))), (q4, .inl (cy 0, (60, .inl (fun _ => 0)))), (q5, .inl (cy 0, (60, .inl (fun _ => 0)))), (q6, .inl (cy 0, (60, .inl (fun _ => 0)))), (q7, .inl (cy 0, (60, .inl (fun _ => 0)))), (q8, .inl (cy 3, (60, .inl (fun _ => 0)))), (q9, .inl (cy 0, (36, .inl (fun _ => 0)))), (q10, .inl (cy 0, (36, .inl (fun _ => 0))))] := hD
  refine W.widen (k := 10) (n := 417) (Nat.le_refl _) (Nat.le_refl _) ?_
  refine va_putF (D := (dC, dI)) (ci := 3) (v := .ref q10) (ty := .array .int) (C := "BlobCorners$Outlines") (T := jn_T3) (N := 12) hx hb hts (fun w h => List.mem_cons_of_mem _ (js_wsg3 w h)) jn_ty3 jn_tyok3 jn_nm3 hown hK hP hD hS 0 rfl rfl 11 (by decide) (hts _ (List.mem_cons_of_mem _ (js_tg (jn_m1 112 rfl) rfl))) (fun _ h9 => h9) rfl hin2 rfl (by decide +kernel) rfl rfl (Nat.le_of_ble_eq_true rfl) dc_3_91 (fun H locs hP hD hS => ?_)
  have hP : va_P (dC, dI) jn_cl [(h0, .inr (3, [.int 0, .int 0, .ref q1, .ref q2, .ref q3, .ref q4, .ref q5, .ref q6, .ref q7, .ref q8, .ref q9, .ref q10])), (q1, .inl (cy 0, (15, .inl (fun _ => 0)))), (q2, .inl (cy 0, (15, .inl (fun _ => 0)))), (q3, .inl (cy 0, (15, .inl (fun _ => 0)))), (q4, .inl (cy 0, (60, .inl (fun _ => 0)))), (q5, .inl (cy 0, (60, .inl (fun _ => 0)))), (q6, .inl (cy 0, (60, .inl (fun _ => 0)))), (q7, .inl (cy 0, (60, .inl (fun _ => 0)))), (q8, .inl (cy 3, (60, .inl (fun _ => 0)))), (q9, .inl (cy 0, (36, .inl (fun _ => 0)))), (q10, .inl (cy 0, (36, .inl (fun _ => 0))))] H := hP
  have hD : va_D A [(h0, .inr (3, [.int 0, .int 0, .ref q1, .ref q2, .ref q3, .ref q4, .ref q5, .ref q6, .ref q7, .ref q8, .ref q9, .ref q10])), (q1, .inl (cy 0, (15, .inl (fun _ => 0)))), (q2, .inl (cy 0, (15, .inl (fun _ => 0)))), (q3, .inl (cy 0, (15, .inl (fun _ => 0)))), (q4, .inl (cy 0, (60, .inl (fun _ => 0)))), (q5, .inl (cy 0, (60, .inl (fun _ => 0)))), (q6, .inl (cy 0, (60, .inl (fun _ => 0)))), (q7, .inl (cy 0, (60, .inl (fun _ => 0)))), (q8, .inl (cy 3, (60, .inl (fun _ => 0)))), (q9, .inl (cy 0, (36, .inl (fun _ => 0)))), (q10, .inl (cy 0, (36, .inl (fun _ => 0))))] := hD
  have hP9 := hP.sub (ws' := [(h0, .inr (3, [.int 0, .int 0, .ref q1, .ref q2, .ref q3, .ref q4, .ref q5, .ref q6, .ref q7, .ref q8, .ref q9, .ref q10])), (q1, .inl (cy 0, (15, .inl (fun _ => 0)))), (q2, .inl (cy 0, (15, .inl (fun _ => 0)))), (q3, .inl (cy 0, (15, .inl (fun _ => 0)))), (q4, .inl (cy 0, (60, .inl (fun _ => 0)))), (q5, .inl (cy 0, (60, .inl (fun _ => 0)))), (q6, .inl (cy 0, (60, .inl (fun _ => 0)))), (q7, .inl (cy 0, (60, .inl (fun _ => 0)))), (q8, .inl (cy 3, (60, .inl (fun _ => 0)))), (q9, .inl (cy 0, (36, .inl (fun _ => 0)))), (q10, .inl (cy 0, (36, .inl (fun _ => 0))))]) [0, 1, 2, 3, 4, 5, 6, 7, 8, 9, 10] rfl
  have hD9 := hD.sub (ws' := [(h0, .inr (3, [.int 0, .int 0, .ref q1, .ref q2, .ref q3, .ref q4, .ref q5, .ref q6, .ref q7, .ref q8, .ref q9, .ref q10])), (q1, .inl (cy 0, (15, .inl (fun _ => 0)))), (q2, .inl (cy 0, (15, .inl (fun _ => 0)))), (q3, .inl (cy 0, (15, .inl (fun _ => 0)))), (q4, .inl (cy 0, (60, .inl (fun _ => 0)))), (q5, .inl (cy 0, (60, .inl (fun _ => 0)))), (q6, .inl (cy 0, (60, .inl (fun _ => 0)))), (q7, .inl (cy 0, (60, .inl (fun _ => 0)))), (q8, .inl (cy 3, (60, .inl (fun _ => 0)))), (q9, .inl (cy 0, (36, .inl (fun _ => 0)))), (q10, .inl (cy 0, (36, .inl (fun _ => 0))))]) [0, 1, 2, 3, 4, 5, 6, 7, 8, 9, 10] (by decide) rfl
  exact W.vret hx hb hr (fun t ht hW => ⟨⟨(), rfl, trivial, q1, q2, q3, q4, q5, q6, q7, q8, q9, q10, by rw [ht]; exact hP9, va_K.moved hW.alike hK, hD9⟩, hS.F ht⟩) hS.2.2 dc_3_94
theorem dc_2_0 : decode prog_4_method_1_code 0 = .ok (.aload_n 0, 1) := by decide +kernel
theorem dc_2_1 : decode prog_4_method_1_code 1 = .ok (.invokespecial 3, 3) := by decide +kernel
theorem dc_2_4 : decode prog_4_method_1_code 4 = .ok (.aload_n 0, 1) := by decide +kernel
theorem dc_2_5 : decode prog_4_method_1_code 5 = .ok (.bipush 60, 2) := by decide +kernel
theorem dc_2_7 : decode prog_4_method_1_code 7 = .ok (.newarray .long, 2) := by decide +kernel
theorem dc_2_9 : decode prog_4_method_1_code 9 = .ok (.putfield 9, 3) := by decide +kernel
theorem dc_2_12 : decode prog_4_method_1_code 12 = .ok (.aload_n 0, 1) := by decide +kernel
theorem dc_2_13 : decode prog_4_method_1_code 13 = .ok (.iconst (-1), 1) := by decide +kernel
theorem dc_2_14 : decode prog_4_method_1_code 14 = .ok (.putfield 15, 3) := by decide +kernel
theorem dc_2_17 : decode prog_4_method_1_code 17 = .ok (.aload_n 0, 1) := by decide +kernel
theorem dc_2_18 : decode prog_4_method_1_code 18 = .ok (.iconst 0, 1) := by decide +kernel
theorem dc_2_19 : decode prog_4_method_1_code 19 = .ok (.putfield 19, 3) := by decide +kernel
theorem dc_2_22 : decode prog_4_method_1_code 22 = .ok (.aload_n 0, 1) := by decide +kernel
theorem dc_2_23 : decode prog_4_method_1_code 23 = .ok (.aload_n 1, 1) := by decide +kernel
theorem dc_2_24 : decode prog_4_method_1_code 24 = .ok (.putfield 22, 3) := by decide +kernel
theorem dc_2_27 : decode prog_4_method_1_code 27 = .ok (.return_, 1) := by decide +kernel
def jc_w2 : List Cond := .code ⟨"BlobCorners$Joints", "<init>", "(LBlobCorners$Outlines;)V"⟩ prog_4_method_1_code 2 none :: js_Tg
set_option maxHeartbeats 8000000 in
set_option maxRecDepth 100000 in
theorem c_ini2 (l : Launch) (dC : Nat → ClassId) (dI : Nat → Nat → Nat) (cy : Nat → ClassId) (h0 sz : Nat) (x1 : Nat) : Met l ⟨"BlobCorners$Joints", "<init>", "(LBlobCorners$Outlines;)V"⟩ jc_w2 ({ frames := 1, cells := 1, slots := 60, locals := 12 }) (va_Pc [.ref h0, .ref x1] (fun U => U.heap.size = sz ∧ va_P (dC, dI) jn_cl [(h0, .inr (2, [.null, .null, .int 0, .int 0]))] U.heap ∧ va_K (dC, dI) jn_cl (js_ty cy) U ∧ va_D (fun _ => True) [(h0, .inr (2, [.null, .null, .int 0, .int 0]))] ∧ js_N U)) (va_Qv (fun _ : Unit => True) (fun _ t => ∃ q1 : Nat, va_P (dC, dI) jn_cl [(h0, .inr (2, [.ref x1, .ref q1, .int (-1), .int 0])), (q1, .inl (cy 1, (60, .inr (.inl (fun _ => 0)))))] t.heap ∧ va_K (dC, dI) jn_cl (js_ty cy) t ∧ va_D (va_A [(h0, .inr (2, [.null, .null, .int 0, .int 0]))] sz) [(h0, .inr (2, [.ref x1, .ref q1, .int (-1), .int 0])), (q1, .inl (cy 1, (60, .inr (.inl (fun _ => 0)))))]) (va_A [(h0, .inr (2, [.null, .null, .int 0, .int 0]))] sz)) 1 60 (va_A [(h0, .inr (2, [.null, .null, .int 0, .int 0]))] sz) := by
  refine Met.ofW (cc := prog_4_method_1_code) (maxL := 2) (ret := none) (by decide) rfl ?_
  intro p e s m args below meth c s₁ B hml hv
  obtain ⟨rfl, hsz, hP, hK, hD0, hN⟩ := hv
  have hx := B.exec
  have hb := B.bytes
  have hr := B.returns
  have hts := atoms_spec (ws := jc_w2) B.pre
  have hown : s.vm.findClass "BlobCorners$Joints" = some m.cls := findClass_of_methodNamed B.named
  have hlocks := B.notSynchronized
  have hin2 : meth.name = "<init>" := (name_of_methodNamed B.named B.method).1
  subst hsz
  have hD := hD0.self (sz := s.heap.size)
  generalize hAe : va_A [(h0, .inr (2, [.null, .null, .int 0, .int 0]))] s.heap.size = A at hD ⊢
  have hA : ∀ q : Nat, s.heap.size ≤ q → A q := fun q h => by rw [← hAe]; exact Or.inr h
  have hS : va_S A s.heap s.heap [] := va_S.rf
  have hP : va_P (dC, dI) jn_cl [(h0, .inr (2, [.null, .null, .int 0, .int 0]))] s.heap := hP
  have hl := lv_entry ([.ref h0, .ref x1]) (n := 2) (Nat.le_of_ble_eq_true rfl)
  rw [lg_entry_eq]
  generalize (lg_sl ([.ref h0, .ref x1]) ++ List.replicate (2 - (lg_sl ([.ref h0, .ref x1])).length) Slot.unset).toArray = ls at hl ⊢
  have hl : lv_has ls 2 [(0, .ref h0), (1, .ref x1)] := hl
  refine lv_aload_n hx hb dc_2_0 rfl (lv_at hl 0 rfl) ?_
  refine W.objInit hx hb hown (hts _ (List.mem_cons_of_mem _ (js_tg (jn_m1 143 rfl) rfl))) (hts _ (List.mem_cons_of_mem _ (js_tg (jn_m1 23 rfl) rfl))) (hts _ (List.mem_cons_of_mem _ (js_tg (jn_m1 24 rfl) rfl))) rfl (by rw [hml]; exact hl.1) rfl dc_2_1 (Nat.le_of_ble_eq_true rfl) (Nat.le_of_ble_eq_true rfl) ?_
  refine W.eq (g2 := F0 m 4 ls []) rfl ?_
  refine lv_aload_n hx hb dc_2_4 rfl (lv_at hl 0 rfl) ?_
  refine lv_bipush (v := 60) hx hb dc_2_5 (by decide) ?_
  refine va_newa (atype := .long) (ty := .long) (a0 := (60, .inr (.inl (fun _ => 0)))) hx hb (hts _ (List.mem_cons_of_mem _ (js_tg (jn_m1 157 rfl) rfl))) rfl hK hP hD hS hA (fun cA => rfl) (by decide) (N' := 60) rfl (Nat.le_of_ble_eq_true rfl) (Nat.le_of_ble_eq_true rfl) (Nat.le_of_ble_eq_true rfl) dc_2_7 (fun q1 cA H hK1 hP hD hS => ?_)
  have hcA : cA = cy 1 := Option.some.inj ((hK1.2 4 _ rfl).2.symm.trans (hK.2 1 _ rfl).2)
  subst hcA
  have hP : va_P (dC, dI) jn_cl [(h0, .inr (2, [.null, .null, .int 0, .int 0])), (q1, .inl (cy 1, (60, .inr (.inl (fun _ => 0)))))] H := hP
  have hD : va_D A [(h0, .inr (2, [.null, .null, .int 0, .int 0])), (q1, .inl (cy 1, (60, .inr (.inl (fun _ => 0)))))] := hD
  refine W.widen (k := 1) (n := 60) (Nat.le_refl _) (Nat.le_refl _) ?_
  refine va_putF (D := (dC, dI)) (ci := 2) (v := .ref q1) (ty := .array .long) (C := "BlobCorners$Joints") (T := jn_T2) (N := 4) hx hb hts (fun w h => List.mem_cons_of_mem _ (js_wsg2 w h)) jn_ty2 jn_tyok2 jn_nm2 hown hK hP hD hS 0 rfl rfl 1 (by decide) (hts _ (List.mem_cons_of_mem _ (js_tg (jn_m1 145 rfl) rfl))) (fun _ h9 => h9) rfl hin2 rfl (by decide +kernel) rfl rfl (Nat.le_of_ble_eq_true rfl) dc_2_9 (fun H locs hP hD hS => ?_)
  have hP : va_P (dC, dI) jn_cl [(h0, .inr (2, [.null, .ref q1, .int 0, .int 0])), (q1, .inl (cy 1, (60, .inr (.inl (fun _ => 0)))))] H := hP
  have hD : va_D A [(h0, .inr (2, [.null, .ref q1, .int 0, .int 0])), (q1, .inl (cy 1, (60, .inr (.inl (fun _ => 0)))))] := hD
  refine lv_aload_n hx hb dc_2_12 rfl (lv_at hl 0 rfl) ?_
  refine lv_iconst (v := -1) hx hb dc_2_13 (by decide) ?_
  refine va_put (D := (dC, dI)) (ci := 2) (v := .int (-1)) (ty := .int) (C := "BlobCorners$Joints") (T := jn_T2) (N := 4) hx hb hts (fun w h => List.mem_cons_of_mem _ (js_wsg2 w h)) jn_ty2 jn_tyok2 jn_nm2 hown hK hP hD hS 0 rfl rfl 2 (by decide) (hts _ (List.mem_cons_of_mem _ (js_tg (jn_m1 146 rfl) rfl))) (fun _ h9 => h9) rfl (by decide +kernel) rfl rfl (Nat.le_of_ble_eq_true rfl) dc_2_14 (fun H locs hP hD hS => ?_)
  have hP : va_P (dC, dI) jn_cl [(h0, .inr (2, [.null, .ref q1, .int (-1), .int 0])), (q1, .inl (cy 1, (60, .inr (.inl (fun _ => 0)))))] H := hP
  have hD : va_D A [(h0, .inr (2, [.null, .ref q1, .int (-1), .int 0])), (q1, .inl (cy 1, (60, .inr (.inl (fun _ => 0)))))] := hD
  refine lv_aload_n hx hb dc_2_17 rfl (lv_at hl 0 rfl) ?_
  refine lv_iconst (v := 0) hx hb dc_2_18 (by decide) ?_
  refine va_put (D := (dC, dI)) (ci := 2) (v := .int 0) (ty := .int) (C := "BlobCorners$Joints") (T := jn_T2) (N := 4) hx hb hts (fun w h => List.mem_cons_of_mem _ (js_wsg2 w h)) jn_ty2 jn_tyok2 jn_nm2 hown hK hP hD hS 0 rfl rfl 3 (by decide) (hts _ (List.mem_cons_of_mem _ (js_tg (jn_m1 147 rfl) rfl))) (fun _ h9 => h9) rfl (by decide +kernel) rfl rfl (Nat.le_of_ble_eq_true rfl) dc_2_19 (fun H locs hP hD hS => ?_)
  have hP : va_P (dC, dI) jn_cl [(h0, .inr (2, [.null, .ref q1, .int (-1), .int 0])), (q1, .inl (cy 1, (60, .inr (.inl (fun _ => 0)))))] H := hP
  have hD : va_D A [(h0, .inr (2, [.null, .ref q1, .int (-1), .int 0])), (q1, .inl (cy 1, (60, .inr (.inl (fun _ => 0)))))] := hD
  refine lv_aload_n hx hb dc_2_22 rfl (lv_at hl 0 rfl) ?_
  refine lv_aload_n hx hb dc_2_23 rfl (lv_at hl 1 rfl) ?_
  refine va_putF (D := (dC, dI)) (ci := 2) (v := .ref x1) (ty := .object "BlobCorners$Outlines") (C := "BlobCorners$Joints") (T := jn_T2) (N := 4) hx hb hts (fun w h => List.mem_cons_of_mem _ (js_wsg2 w h)) jn_ty2 jn_tyok2 jn_nm2 hown hK hP hD hS 0 rfl rfl 0 (by decide) (hts _ (List.mem_cons_of_mem _ (js_tg (jn_m1 144 rfl) rfl))) (fun _ h9 => h9) rfl hin2 rfl (by decide +kernel) rfl rfl (Nat.le_of_ble_eq_true rfl) dc_2_24 (fun H locs hP hD hS => ?_)
  have hP : va_P (dC, dI) jn_cl [(h0, .inr (2, [.ref x1, .ref q1, .int (-1), .int 0])), (q1, .inl (cy 1, (60, .inr (.inl (fun _ => 0)))))] H := hP
  have hD : va_D A [(h0, .inr (2, [.ref x1, .ref q1, .int (-1), .int 0])), (q1, .inl (cy 1, (60, .inr (.inl (fun _ => 0)))))] := hD
  have hP9 := hP.sub (ws' := [(h0, .inr (2, [.ref x1, .ref q1, .int (-1), .int 0])), (q1, .inl (cy 1, (60, .inr (.inl (fun _ => 0)))))]) [0, 1] rfl
  have hD9 := hD.sub (ws' := [(h0, .inr (2, [.ref x1, .ref q1, .int (-1), .int 0])), (q1, .inl (cy 1, (60, .inr (.inl (fun _ => 0)))))]) [0, 1] (by decide) rfl
  exact W.vret hx hb hr (fun t ht hW => ⟨⟨(), rfl, trivial, q1, by rw [ht]; exact hP9, va_K.moved hW.alike hK, hD9⟩, hS.F ht⟩) hS.2.2 dc_2_27
theorem dc_0_0 : decode prog_2_method_1_code 0 = .ok (.aload_n 0, 1) := by decide +kernel
theorem dc_0_1 : decode prog_2_method_1_code 1 = .ok (.invokespecial 3, 3) := by decide +kernel
theorem dc_0_4 : decode prog_2_method_1_code 4 = .ok (.aload_n 0, 1) := by decide +kernel
theorem dc_0_5 : decode prog_2_method_1_code 5 = .ok (.bipush 15, 2) := by decide +kernel
theorem dc_0_7 : decode prog_2_method_1_code 7 = .ok (.newarray .int, 2) := by decide +kernel
theorem dc_0_9 : decode prog_2_method_1_code 9 = .ok (.putfield 9, 3) := by decide +kernel
theorem dc_0_12 : decode prog_2_method_1_code 12 = .ok (.aload_n 0, 1) := by decide +kernel
theorem dc_0_13 : decode prog_2_method_1_code 13 = .ok (.bipush 15, 2) := by decide +kernel
theorem dc_0_15 : decode prog_2_method_1_code 15 = .ok (.newarray .boolean, 2) := by decide +kernel
theorem dc_0_17 : decode prog_2_method_1_code 17 = .ok (.putfield 15, 3) := by decide +kernel
theorem dc_0_20 : decode prog_2_method_1_code 20 = .ok (.aload_n 0, 1) := by decide +kernel
theorem dc_0_21 : decode prog_2_method_1_code 21 = .ok (.bipush 15, 2) := by decide +kernel
theorem dc_0_23 : decode prog_2_method_1_code 23 = .ok (.newarray .int, 2) := by decide +kernel
theorem dc_0_25 : decode prog_2_method_1_code 25 = .ok (.putfield 19, 3) := by decide +kernel
theorem dc_0_28 : decode prog_2_method_1_code 28 = .ok (.aload_n 0, 1) := by decide +kernel
theorem dc_0_29 : decode prog_2_method_1_code 29 = .ok (.bipush 15, 2) := by decide +kernel
theorem dc_0_31 : decode prog_2_method_1_code 31 = .ok (.newarray .int, 2) := by decide +kernel
theorem dc_0_33 : decode prog_2_method_1_code 33 = .ok (.putfield 22, 3) := by decide +kernel
theorem dc_0_36 : decode prog_2_method_1_code 36 = .ok (.aload_n 0, 1) := by decide +kernel
theorem dc_0_37 : decode prog_2_method_1_code 37 = .ok (.bipush 60, 2) := by decide +kernel
theorem dc_0_39 : decode prog_2_method_1_code 39 = .ok (.newarray .int, 2) := by decide +kernel
theorem dc_0_41 : decode prog_2_method_1_code 41 = .ok (.putfield 25, 3) := by decide +kernel
theorem dc_0_44 : decode prog_2_method_1_code 44 = .ok (.aload_n 0, 1) := by decide +kernel
theorem dc_0_45 : decode prog_2_method_1_code 45 = .ok (.bipush 60, 2) := by decide +kernel
theorem dc_0_47 : decode prog_2_method_1_code 47 = .ok (.newarray .boolean, 2) := by decide +kernel
theorem dc_0_49 : decode prog_2_method_1_code 49 = .ok (.putfield 28, 3) := by decide +kernel
theorem dc_0_52 : decode prog_2_method_1_code 52 = .ok (.aload_n 0, 1) := by decide +kernel
theorem dc_0_53 : decode prog_2_method_1_code 53 = .ok (.sipush 3600, 3) := by decide +kernel
theorem dc_0_56 : decode prog_2_method_1_code 56 = .ok (.newarray .float, 2) := by decide +kernel
theorem dc_0_58 : decode prog_2_method_1_code 58 = .ok (.putfield 31, 3) := by decide +kernel
theorem dc_0_61 : decode prog_2_method_1_code 61 = .ok (.aload_n 0, 1) := by decide +kernel
theorem dc_0_62 : decode prog_2_method_1_code 62 = .ok (.sipush 3600, 3) := by decide +kernel
theorem dc_0_65 : decode prog_2_method_1_code 65 = .ok (.newarray .float, 2) := by decide +kernel
theorem dc_0_67 : decode prog_2_method_1_code 67 = .ok (.putfield 35, 3) := by decide +kernel
theorem dc_0_70 : decode prog_2_method_1_code 70 = .ok (.aload_n 0, 1) := by decide +kernel
theorem dc_0_71 : decode prog_2_method_1_code 71 = .ok (.sipush 3600, 3) := by decide +kernel
theorem dc_0_74 : decode prog_2_method_1_code 74 = .ok (.newarray .int, 2) := by decide +kernel
theorem dc_0_76 : decode prog_2_method_1_code 76 = .ok (.putfield 38, 3) := by decide +kernel
theorem dc_0_79 : decode prog_2_method_1_code 79 = .ok (.aload_n 0, 1) := by decide +kernel
theorem dc_0_80 : decode prog_2_method_1_code 80 = .ok (.iconst 0, 1) := by decide +kernel
theorem dc_0_81 : decode prog_2_method_1_code 81 = .ok (.putfield 41, 3) := by decide +kernel
theorem dc_0_84 : decode prog_2_method_1_code 84 = .ok (.aload_n 0, 1) := by decide +kernel
theorem dc_0_85 : decode prog_2_method_1_code 85 = .ok (.iconst 0, 1) := by decide +kernel
theorem dc_0_86 : decode prog_2_method_1_code 86 = .ok (.putfield 45, 3) := by decide +kernel
theorem dc_0_89 : decode prog_2_method_1_code 89 = .ok (.aload_n 0, 1) := by decide +kernel
theorem dc_0_90 : decode prog_2_method_1_code 90 = .ok (.aload_n 1, 1) := by decide +kernel
theorem dc_0_91 : decode prog_2_method_1_code 91 = .ok (.putfield 48, 3) := by decide +kernel
theorem dc_0_94 : decode prog_2_method_1_code 94 = .ok (.aload_n 0, 1) := by decide +kernel
theorem dc_0_95 : decode prog_2_method_1_code 95 = .ok (.aload_n 2, 1) := by decide +kernel
theorem dc_0_96 : decode prog_2_method_1_code 96 = .ok (.putfield 52, 3) := by decide +kernel
theorem dc_0_99 : decode prog_2_method_1_code 99 = .ok (.return_, 1) := by decide +kernel
def jc_w0 : List Cond := .code ⟨"BlobCorners$BestPolygons", "<init>", "(LBlobCorners$Outlines;LBlobCorners$Joints;)V"⟩ prog_2_method_1_code 3 none :: js_Tg
set_option maxHeartbeats 8000000 in
set_option maxRecDepth 100000 in
theorem c_ini0 (l : Launch) (dC : Nat → ClassId) (dI : Nat → Nat → Nat) (cy : Nat → ClassId) (h0 sz : Nat) (x1 x2 : Nat) : Met l ⟨"BlobCorners$BestPolygons", "<init>", "(LBlobCorners$Outlines;LBlobCorners$Joints;)V"⟩ jc_w0 ({ frames := 1, cells := 9, slots := 10980, locals := 12 }) (va_Pc [.ref h0, .ref x1, .ref x2] (fun U => U.heap.size = sz ∧ va_P (dC, dI) jn_cl [(h0, .inr (0, [.null, .null, .null, .null, .null, .null, .null, .null, .null, .null, .null, .int 0, .int 0]))] U.heap ∧ va_K (dC, dI) jn_cl (js_ty cy) U ∧ va_D (fun _ => True) [(h0, .inr (0, [.null, .null, .null, .null, .null, .null, .null, .null, .null, .null, .null, .int 0, .int 0]))] ∧ js_N U)) (va_Qv (fun _ : Unit => True) (fun _ t => ∃ q1 q2 q3 q4 q5 q6 q7 q8 q9 : Nat, va_P (dC, dI) jn_cl [(h0, .inr (0, [.ref x1, .ref x2, .ref q1, .ref q2, .ref q3, .ref q4, .ref q5, .ref q6, .ref q7, .ref q8, .ref q9, .int 0, .int 0])), (q1, .inl (cy 0, (15, .inl (fun _ => 0)))), (q2, .inl (cy 3, (15, .inl (fun _ => 0)))), (q3, .inl (cy 0, (15, .inl (fun _ => 0)))), (q4, .inl (cy 0, (15, .inl (fun _ => 0)))), (q5, .inl (cy 0, (60, .inl (fun _ => 0)))), (q6, .inl (cy 3, (60, .inl (fun _ => 0)))), (q7, .inl (cy 2, (3600, .inr (.inr (.inl (fun _ => 0)))))), (q8, .inl (cy 2, (3600, .inr (.inr (.inl (fun _ => 0)))))), (q9, .inl (cy 0, (3600, .inl (fun _ => 0))))] t.heap ∧ va_K (dC, dI) jn_cl (js_ty cy) t ∧ va_D (va_A [(h0, .inr (0, [.null, .null, .null, .null, .null, .null, .null, .null, .null, .null, .null, .int 0, .int 0]))] sz) [(h0, .inr (0, [.ref x1, .ref x2, .ref q1, .ref q2, .ref q3, .ref q4, .ref q5, .ref q6, .ref q7, .ref q8, .ref q9, .int 0, .int 0])), (q1, .inl (cy 0, (15, .inl (fun _ => 0)))), (q2, .inl (cy 3, (15, .inl (fun _ => 0)))), (q3, .inl (cy 0, (15, .inl (fun _ => 0)))), (q4, .inl (cy 0, (15, .inl (fun _ => 0)))), (q5, .inl (cy 0, (60, .inl (fun _ => 0)))), (q6, .inl (cy 3, (60, .inl (fun _ => 0)))), (q7, .inl (cy 2, (3600, .inr (.inr (.inl (fun _ => 0)))))), (q8, .inl (cy 2, (3600, .inr (.inr (.inl (fun _ => 0)))))), (q9, .inl (cy 0, (3600, .inl (fun _ => 0))))]) (va_A [(h0, .inr (0, [.null, .null, .null, .null, .null, .null, .null, .null, .null, .null, .null, .int 0, .int 0]))] sz)) 9 10980 (va_A [(h0, .inr (0, [.null, .null, .null, .null, .null, .null, .null, .null, .null, .null, .null, .int 0, .int 0]))] sz) := by
  refine Met.ofW (cc := prog_2_method_1_code) (maxL := 3) (ret := none) (by decide) rfl ?_
  intro p e s m args below meth c s₁ B hml hv
  obtain ⟨rfl, hsz, hP, hK, hD0, hN⟩ := hv
  have hx := B.exec
  have hb := B.bytes
  have hr := B.returns
  have hts := atoms_spec (ws := jc_w0) B.pre
  have hown : s.vm.findClass "BlobCorners$BestPolygons" = some m.cls := findClass_of_methodNamed B.named
  have hlocks := B.notSynchronized
  have hin2 : meth.name = "<init>" := (name_of_methodNamed B.named B.method).1
  subst hsz
  have hD := hD0.self (sz := s.heap.size)
  generalize hAe : va_A [(h0, .inr (0, [.null, .null, .null, .null, .null, .null, .null, .null, .null, .null, .null, .int 0, .int 0]))] s.heap.size = A at hD ⊢
  have hA : ∀ q : Nat, s.heap.size ≤ q → A q := fun q h => by rw [← hAe]; exact Or.inr h
  have hS : va_S A s.heap s.heap [] := va_S.rf
  have hP : va_P (dC, dI) jn_cl [(h0, .inr (0, [.null, .null, .null, .null, .null, .null, .null, .null, .null, .null, .null, .int 0, .int 0]))] s.heap := hP
  have hl := lv_entry ([.ref h0, .ref x1, .ref x2]) (n := 3) (Nat.le_of_ble_eq_true rfl)
  rw [lg_entry_eq]
  generalize (lg_sl ([.ref h0, .ref x1, .ref x2]) ++ List.replicate (3 - (lg_sl ([.ref h0, .ref x1, .ref x2])).length) Slot.unset).toArray = ls at hl ⊢
  have hl : lv_has ls 3 [(0, .ref h0), (1, .ref x1), (2, .ref x2)] := hl
  refine lv_aload_n hx hb dc_0_0 rfl (lv_at hl 0 rfl) ?_
  refine W.objInit hx hb hown (hts _ (List.mem_cons_of_mem _ (js_tg (jn_m1 163 rfl) rfl))) (hts _ (List.mem_cons_of_mem _ (js_tg (jn_m1 23 rfl) rfl))) (hts _ (List.mem_cons_of_mem _ (js_tg (jn_m1 24 rfl) rfl))) rfl (by rw [hml]; exact hl.1) rfl dc_0_1 (Nat.le_of_ble_eq_true rfl) (Nat.le_of_ble_eq_true rfl) ?_
  refine W.eq (g2 := F0 m 4 ls []) rfl ?_
  refine lv_aload_n hx hb dc_0_4 rfl (lv_at hl 0 rfl) ?_
  refine lv_bipush (v := 15) hx hb dc_0_5 (by decide) ?_
  refine va_newa (atype := .int) (ty := .int) (a0 := (15, .inl (fun _ => 0))) hx hb (hts _ (List.mem_cons_of_mem _ (js_tg (jn_m1 39 rfl) rfl))) rfl hK hP hD hS hA (fun cA => rfl) (by decide) (N' := 15) rfl (Nat.le_of_ble_eq_true rfl) (Nat.le_of_ble_eq_true rfl) (Nat.le_of_ble_eq_true rfl) dc_0_7 (fun q1 cA H hK1 hP hD hS => ?_)
  have hcA : cA = cy 0 := Option.some.inj ((hK1.2 4 _ rfl).2.symm.trans (hK.2 0 _ rfl).2)
  subst hcA
  have hP : va_P (dC, dI) jn_cl [(h0, .inr (0, [.null, .null, .null, .null, .null, .null, .null, .null, .null, .null, .null, .int 0, .int 0])), (q1, .inl (cy 0, (15, .inl (fun _ => 0))))] H := hP
  have hD : va_D A [(h0, .inr (0, [.null, .null, .null, .null, .null, .null, .null, .null, .null, .null, .null, .int 0, .int 0])), (q1, .inl (cy 0, (15, .inl (fun _ => 0))))] := hD
  refine W.widen (k := 1) (n := 15) (Nat.le_refl _) (Nat.le_refl _) ?_
  refine va_putF (D := (dC, dI)) (ci := 0) (v := .ref q1) (ty := .array .int) (C := "BlobCorners$BestPolygons") (T := jn_T0) (N := 13) hx hb hts (fun w h => List.mem_cons_of_mem _ (js_wsg0 w h)) jn_ty0 jn_tyok0 jn_nm0 hown hK hP hD hS 0 rfl rfl 2 (by decide) (hts _ (List.mem_cons_of_mem _ (js_tg (jn_m1 166 rfl) rfl))) (fun _ h9 => h9) rfl hin2 rfl (by decide +kernel) rfl rfl (Nat.le_of_ble_eq_true rfl) dc_0_9 (fun H locs hP hD hS => ?_)
  have hP : va_P (dC, dI) jn_cl [(h0, .inr (0, [.null, .null, .ref q1, .null, .null, .null, .null, .null, .null, .null, .null, .int 0, .int 0])), (q1, .inl (cy 0, (15, .inl (fun _ => 0))))] H := hP
  have hD : va_D A [(h0, .inr (0, [.null, .null, .ref q1, .null, .null, .null, .null, .null, .null, .null, .null, .int 0, .int 0])), (q1, .inl (cy 0, (15, .inl (fun _ => 0))))] := hD
  refine lv_aload_n hx hb dc_0_12 rfl (lv_at hl 0 rfl) ?_
  refine lv_bipush (v := 15) hx hb dc_0_13 (by decide) ?_
  refine va_newa (atype := .boolean) (ty := .boolean) (a0 := (15, .inl (fun _ => 0))) hx hb (hts _ (List.mem_cons_of_mem _ (js_tg (jn_m1 80 rfl) rfl))) rfl hK hP hD hS hA (fun cA => rfl) (by decide) (N' := 15) rfl (Nat.le_of_ble_eq_true rfl) (Nat.le_of_ble_eq_true rfl) (Nat.le_of_ble_eq_true rfl) dc_0_15 (fun q2 cA H hK1 hP hD hS => ?_)
  have hcA : cA = cy 3 := Option.some.inj ((hK1.2 4 _ rfl).2.symm.trans (hK.2 3 _ rfl).2)
  subst hcA
  have hP : va_P (dC, dI) jn_cl [(h0, .inr (0, [.null, .null, .ref q1, .null, .null, .null, .null, .null, .null, .null, .null, .int 0, .int 0])), (q1, .inl (cy 0, (15, .inl (fun _ => 0)))), (q2, .inl (cy 3, (15, .inl (fun _ => 0))))] H := hP
  have hD : va_D A [(h0, .inr (0, [.null, .null, .ref q1, .null, .null, .null, .null, .null, .null, .null, .null, .int 0, .int 0])), (q1, .inl (cy 0, (15, .inl (fun _ => 0)))), (q2, .inl (cy 3, (15, .inl (fun _ => 0))))] := hD
  refine W.widen (k := 2) (n := 30) (Nat.le_refl _) (Nat.le_refl _) ?_
  refine va_putF (D := (dC, dI)) (ci := 0) (v := .ref q2) (ty := .array .boolean) (C := "BlobCorners$BestPolygons") (T := jn_T0) (N := 13) hx hb hts (fun w h => List.mem_cons_of_mem _ (js_wsg0 w h)) jn_ty0 jn_tyok0 jn_nm0 hown hK hP hD hS 0 rfl rfl 3 (by decide) (hts _ (List.mem_cons_of_mem _ (js_tg (jn_m1 167 rfl) rfl))) (fun _ h9 => h9) rfl hin2 rfl (by decide +kernel) rfl rfl (Nat.le_of_ble_eq_true rfl) dc_0_17 (fun H locs hP hD hS => ?_)
  have hP : va_P (dC, dI) jn_cl [(h0, .inr (0, [.null, .null, .ref q1, .ref q2, .null, .null, .null, .null, .null, .null, .null, .int 0, .int 0])), (q1, .inl (cy 0, (15, .inl (fun _ => 0)))), (q2, .inl (cy 3, (15, .inl (fun _ => 0))))] H := hP
  have hD : va_D A [(h0, .inr (0, [.null, .null, .ref q1, .ref q2, .null, .null, .null, .null, .null, .null, .null, .int 0, .int 0])), (q1, .inl (cy 0, (15, .inl (fun _ => 0)))), (q2, .inl (cy 3, (15, .inl (fun _ => 0))))] := hD
  refine lv_aload_n hx hb dc_0_20 rfl (lv_at hl 0 rfl) ?_
  refine lv_bipush (v := 15) hx hb dc_0_21 (by decide) ?_
  refine va_newa (atype := .int) (ty := .int) (a0 := (15, .inl (fun _ => 0))) hx hb (hts _ (List.mem_cons_of_mem _ (js_tg (jn_m1 39 rfl) rfl))) rfl hK hP hD hS hA (fun cA => rfl) (by decide) (N' := 15) rfl (Nat.le_of_ble_eq_true rfl) (Nat.le_of_ble_eq_true rfl) (Nat.le_of_ble_eq_true rfl) dc_0_23 (fun q3 cA H hK1 hP hD hS => ?_)
  have hcA : cA = cy 0 := Option.some.inj ((hK1.2 4 _ rfl).2.symm.trans (hK.2 0 _ rfl).2)
  subst hcA
  have hP : va_P (dC, dI) jn_cl [(h0, .inr (0, [.null, .null, .ref q1, .ref q2, .null, .null, .null, .null, .null, .null, .null, .int 0, .int 0])), (q1, .inl (cy 0, (15, .inl (fun _ => 0)))), (q2, .inl (cy 3, (15, .inl (fun _ => 0)))), (q3, .inl (cy 0, (15, .inl (fun _ => 0))))] H := hP
  have hD : va_D A [(h0, .inr (0, [.null, .null, .ref q1, .ref q2, .null, .null, .null, .null, .null, .null, .null, .int 0, .int 0])), (q1, .inl (cy 0, (15, .inl (fun _ => 0)))), (q2, .inl (cy 3, (15, .inl (fun _ => 0)))), (q3, .inl (cy 0, (15, .inl (fun _ => 0))))] := hD
  refine W.widen (k := 3) (n := 45) (Nat.le_refl _) (Nat.le_refl _) ?_
  refine va_putF (D := (dC, dI)) (ci := 0) (v := .ref q3) (ty := .array .int) (C := "BlobCorners$BestPolygons") (T := jn_T0) (N := 13) hx hb hts (fun w h => List.mem_cons_of_mem _ (js_wsg0 w h)) jn_ty0 jn_tyok0 jn_nm0 hown hK hP hD hS 0 rfl rfl 4 (by decide) (hts _ (List.mem_cons_of_mem _ (js_tg (jn_m1 168 rfl) rfl))) (fun _ h9 => h9) rfl hin2 rfl (by decide +kernel) rfl rfl (Nat.le_of_ble_eq_true rfl) dc_0_25 (fun H locs hP hD hS => ?_)
  have hP : va_P (dC, dI) jn_cl [(h0, .inr (0, [.null, .null, .ref q1, .ref q2, .ref q3, .null, .null, .null, .null, .null, .null, .int 0, .int 0])), (q1, .inl (cy 0, (15, .inl (fun _ => 0)))), (q2, .inl (cy 3, (15, .inl (fun _ => 0)))), (q3, .inl (cy 0, (15, .inl (fun _ => 0))))] H := hP
  have hD : va_D A [(h0, .inr (0, [.null, .null, .ref q1, .ref q2, .ref q3, .null, .null, .null, .null, .null, .null, .int 0, .int 0])), (q1, .inl (cy 0, (15, .inl (fun _ => 0)))), (q2, .inl (cy 3, (15, .inl (fun _ => 0)))), (q3, .inl (cy 0, (15, .inl (fun _ => 0))))] := hD
  refine lv_aload_n hx hb dc_0_28 rfl (lv_at hl 0 rfl) ?_
  refine lv_bipush (v := 15) hx hb dc_0_29 (by decide) ?_
  refine va_newa (atype := .int) (ty := .int) (a0 := (15, .inl (fun _ => 0))) hx hb (hts _ (List.mem_cons_of_mem _ (js_tg (jn_m1 39 rfl) rfl))) rfl hK hP hD hS hA (fun cA => rfl) (by decide) (N' := 15) rfl (Nat.le_of_ble_eq_true rfl) (Nat.le_of_ble_eq_true rfl) (Nat.le_of_ble_eq_true rfl) dc_0_31 (fun q4 cA H hK1 hP hD hS => ?_)
  have hcA : cA = cy 0 := Option.some.inj ((hK1.2 4 _ rfl).2.symm.trans (hK.2 0 _ rfl).2)
  subst hcA
  have hP : va_P (dC, dI) jn_cl [(h0, .inr (0, [.null, .null, .ref q1, .ref q2, .ref q3, .null, .null, .null, .null, .null, .null, .int 0, .int 0])), (q1, .inl (cy 0, (15, .inl (fun _ => 0)))), (q2, .inl (cy 3, (15, .inl (fun _ => 0)))), (q3, .inl (cy 0, (15, .inl (fun _ => 0)))), (q4, .inl (cy 0, (15, .inl (fun _ => 0))))] H := hP
  have hD : va_D A [(h0, .inr (0, [.null, .null, .ref q1, .ref q2, .ref q3, .null, .null, .null, .null, .null, .null, .int 0, .int 0])), (q1, .inl (cy 0, (15, .inl (fun _ => 0)))), (q2, .inl (cy 3, (15, .inl (fun _ => 0)))), (q3, .inl (cy 0, (15, .inl (fun _ => 0)))), (q4, .inl (cy 0, (15, .inl (fun _ => 0))))] := hD
  refine W.widen (k := 4) (n := 60) (Nat.le_refl _) (Nat.le_refl _) ?_
  refine va_putF (D := (dC, dI)) (ci := 0) (v := .ref q4) (ty := .array .int) (C := "BlobCorners$BestPolygons") (T := jn_T0) (N := 13) hx hb hts (fun w h => List.mem_cons_of_mem _ (js_wsg0 w h)) jn_ty0 jn_tyok0 jn_nm0 hown hK hP hD hS 0 rfl rfl 5 (by decide) (hts _ (List.mem_cons_of_mem _ (js_tg (jn_m1 169 rfl) rfl))) (fun _ h9 => h9) rfl hin2 rfl (by decide +kernel) rfl rfl (Nat.le_of_ble_eq_true rfl) dc_0_33 (fun H locs hP hD hS => ?_)
  have hP : va_P (dC, dI) jn_cl [(h0, .inr (0, [.null, .null, .ref q1, .ref q2, .ref q3, .ref q4, .null, .null, .null, .null, .null, .int 0, .int 0])), (q1, .inl (cy 0, (15, .inl (fun _ => 0)))), (q2, .inl (cy 3, (15, .inl (fun _ => 0)))), (q3, .inl (cy 0, (15, .inl (fun _ => 0)))), (q4, .inl (cy 0, (15, .inl (fun _ => 0))))] H := hP
  have hD : va_D A [(h0, .inr (0, [.null, .null, .ref q1, .ref q2, .ref q3, .ref q4, .null, .null, .null, .null, .null, .int 0, .int 0])), (q1, .inl (cy 0, (15, .inl (fun _ => 0)))), (q2, .inl (cy 3, (15, .inl (fun _ => 0)))), (q3, .inl (cy 0, (15, .inl (fun _ => 0)))), (q4, .inl (cy 0, (15, .inl (fun _ => 0))))] := hD
  refine lv_aload_n hx hb dc_0_36 rfl (lv_at hl 0 rfl) ?_
  refine lv_bipush (v := 60) hx hb dc_0_37 (by decide) ?_
  refine va_newa (atype := .int) (ty := .int) (a0 := (60, .inl (fun _ => 0))) hx hb (hts _ (List.mem_cons_of_mem _ (js_tg (jn_m1 39 rfl) rfl))) rfl hK hP hD hS hA (fun cA => rfl) (by decide) (N' := 60) rfl (Nat.le_of_ble_eq_true rfl) (Nat.le_of_ble_eq_true rfl) (Nat.le_of_ble_eq_true rfl) dc_0_39 (fun q5 cA H hK1 hP hD hS => ?_)
  have hcA : cA = cy 0 := Option.some.inj ((hK1.2 4 _ rfl).2.symm.trans (hK.2 0 _ rfl).2)
  subst hcA
  have hP : va_P (dC, dI) jn_cl [(h0, .inr (0, [.null, .null, .ref q1, .ref q2, .ref q3, .ref q4, .null, .null, .null, .null, .null, .int 0, .int 0])), (q1, .inl (cy 0, (15, .inl (fun _ => 0)))), (q2, .inl (cy 3, (15, .inl (fun _ => 0)))), (q3, .inl (cy 0, (15, .inl (fun _ => 0)))), (q4, .inl (cy 0, (15, .inl (fun _ => 0)))), (q5, .inl (cy 0, (60, .inl (fun _ => 0))))] H := hP
  have hD : va_D A [(h0, .inr (0, [.null, .null, .ref q1, .ref q2, .ref q3, .ref q4, .null, .null, .null, .null, .null, .int 0, .int 0])), (q1, .inl (cy 0, (15, .inl (fun _ => 0)))), (q2, .inl (cy 3, (15, .inl (fun _ => 0)))), (q3, .inl (cy 0, (15, .inl (fun _ => 0)))), (q4, .inl (cy 0, (15, .inl (fun _ => 0)))), (q5, .inl (cy 0, (60, .inl (fun _ => 0))))] := hD
  refine W.widen (k := 5) (n := 120) (Nat.le_refl _) (Nat.le_refl _) ?_
  refine va_putF (D := (dC, dI)) (ci := 0) (v := .ref q5) (ty := .array .int) (C := "BlobCorners$BestPolygons") (T := jn_T0) (N := 13) hx hb hts (fun w h => List.mem_cons_of_mem _ (js_wsg0 w h)) jn_ty0 jn_tyok0 jn_nm0 hown hK hP hD hS 0 rfl rfl 6 (by decide) (hts _ (List.mem_cons_of_mem _ (js_tg (jn_m1 170 rfl) rfl))) (fun _ h9 => h9) rfl hin2 rfl (by decide +kernel) rfl rfl (Nat.le_of_ble_eq_true rfl) dc_0_41 (fun H locs hP hD hS => ?_)
  have hP : va_P (dC, dI) jn_cl [(h0, .inr (0, [.null, .null, .ref q1, .ref q2, .ref q3, .ref q4, .ref q5, .null, .null, .null, .null, .int 0, .int 0])), (q1, .inl (cy 0, (15, .inl (fun _ => 0)))), (q2, .inl (cy 3, (15, .inl (fun _ => 0)))), (q3, .inl (cy 0, (15, .inl (fun _ => 0)))), (q4, .inl (cy 0, (15, .inl (fun _ => 0)))), (q5, .inl (cy 0, (60, .inl (fun _ => 0))))] H := hP
  have hD : va_D A [(h0, .inr (0, [.null, .null, .ref q1, .ref q2, .ref q3, .ref q4, .ref q5, .null, .null, .null, .null, .int 0, .int 0])), (q1, .inl (cy 0, (15, .inl (fun _ => 0)))), (q2, .inl (cy 3, (15, .inl (fun _ => 0)))), (q3, .inl (cy 0, (15, .inl (fun _ => 0)))), (q4, .inl (cy 0, (15, .inl (fun _ => 0)))), (q5, .inl (cy 0, (60, .inl (fun _ => 0))))] := hD
  refine lv_aload_n hx hb dc_0_44 rfl (lv_at hl 0 rfl) ?_
  refine lv_bipush (v := 60) hx hb dc_0_45 (by decide) ?_
  refine va_newa (atype := .boolean) (ty := .boolean) (a0 := (60, .inl (fun _ => 0))) hx hb (hts _ (List.mem_cons_of_mem _ (js_tg (jn_m1 80 rfl) rfl))) rfl hK hP hD hS hA (fun cA => rfl) (by decide) (N' := 60) rfl (Nat.le_of_ble_eq_true rfl) (Nat.le_of_ble_eq_true rfl) (Nat.le_of_ble_eq_true rfl) dc_0_47 (fun q6 cA H hK1 hP hD hS => ?_)
  have hcA : cA = cy 3 := Option.some.inj ((hK1.2 4 _ rfl).2.symm.trans (hK.2 3 _ rfl).2)
  subst hcA
  have hP : va_P (dC, dI) jn_cl [(h0, .inr (0, [.null, .null, .ref q1, .ref q2, .ref q3, .ref q4, .ref q5, .null, .null, .null, .null, .int 0, .int 0])), (q1, .inl (cy 0, (15, .inl (fun _ => 0)))), (q2, .inl (cy 3, (15, .inl (fun _ => 0)))), (q3, .inl (cy 0, (15, .inl (fun _ => 0)))), (q4, .inl (cy 0, (15, .inl (fun _ => 0)))), (q5, .inl (cy 0, (60, .inl (fun _ => 0)))), (q6, .inl (cy 3, (60, .inl (fun _ => 0))))] H := hP
  have hD : va_D A [(h0, .inr (0, [.null, .null, .ref q1, .ref q2, .ref q3, .ref q4, .ref q5, .null, .null, .null, .null, .int 0, .int 0])), (q1, .inl (cy 0, (15, .inl (fun _ => 0)))), (q2, .inl (cy 3, (15, .inl (fun _ => 0)))), (q3, .inl (cy 0, (15, .inl (fun _ => 0)))), (q4, .inl (cy 0, (15, .inl (fun _ => 0)))), (q5, .inl (cy 0, (60, .inl (fun _ => 0)))), (q6, .inl (cy 3, (60, .inl (fun _ => 0))))] := hD
  refine W.widen (k := 6) (n := 180) (Nat.le_refl _) (Nat.le_refl _) ?_
  refine va_putF (D := (dC, dI)) (ci := 0) (v := .ref q6) (ty := .array .boolean) (C := "BlobCorners$BestPolygons") (T := jn_T0) (N := 13) hx hb hts (fun w h => List.mem_cons_of_mem _ (js_wsg0 w h)) jn_ty0 jn_tyok0 jn_nm0 hown hK hP hD hS 0 rfl rfl 7 (by decide) (hts _ (List.mem_cons_of_mem _ (js_tg (jn_m1 171 rfl) rfl))) (fun _ h9 => h9) rfl hin2 rfl (by decide +kernel) rfl rfl (Nat.le_of_ble_eq_true rfl) dc_0_49 (fun H locs hP hD hS => ?_)
  have hP : va_P (dC, dI) jn_cl [(h0, .inr (0, [.null, .null, .ref q1, .ref q2, .ref q3, .ref q4, .ref q5, .ref q6, .null, .null, .null, .int 0, .int 0])), (q1, .inl (cy 0, (15, .inl (fun _ => 0)))), (q2, .inl (cy 3, (15, .inl (fun _ => 0)))), (q3, .inl (cy 0, (15, .inl (fun _ => 0)))), (q4, .inl (cy 0, (15, .inl (fun _ => 0)))), (q5, .inl (cy 0, (60, .inl (fun _ => 0)))), (q6, .inl (cy 3, (60, .inl (fun _ => 0))))] H := hP
  have hD : va_D A [(h0, .inr (0, [.null, .null, .ref q1, .ref q2, .ref q3, .ref q4, .ref q5, .ref q6, .null, .null, .null, .int 0, .int 0])), (q1, .inl (cy 0, (15, .inl (fun _ => 0)))), (q2, .inl (cy 3, (15, .inl (fun _ => 0)))), (q3, .inl (cy 0, (15, .inl (fun _ => 0)))), (q4, .inl (cy 0, (15, .inl (fun _ => 0)))), (q5, .inl (cy 0, (60, .inl (fun _ => 0)))), (q6, .inl (cy 3, (60, .inl (fun _ => 0))))] := hD
  refine lv_aload_n hx hb dc_0_52 rfl (lv_at hl 0 rfl) ?_
  refine lv_sipush (v := 3600) hx hb dc_0_53 (by decide) ?_
  refine va_newa (atype := .float) (ty := .float) (a0 := (3600, .inr (.inr (.inl (fun _ => 0))))) hx hb (hts _ (List.mem_cons_of_mem _ (js_tg (jn_m1 204 rfl) rfl))) rfl hK hP hD hS hA (fun cA => rfl) (by decide) (N' := 3600) rfl (Nat.le_of_ble_eq_true rfl) (Nat.le_of_ble_eq_true rfl) (Nat.le_of_ble_eq_true rfl) dc_0_56 (fun q7 cA H hK1 hP hD hS => ?_)
  have hcA : cA = cy 2 := Option.some.inj ((hK1.2 4 _ rfl).2.symm.trans (hK.2 2 _ rfl).2)
  subst hcA
  have hP : va_P (dC, dI) jn_cl [(h0, .inr (0, [.null, .null, .ref q1, .ref q2, .ref q3, .ref q4, .ref q5, .ref q6, .null, .null, .null, .int 0, .int 0])), (q1, .inl (cy 0, (15, .inl (fun _ => 0)))), (q2, .inl (cy 3, (15, .inl (fun _ => 0)))), (q3, .inl (cy 0, (15, .inl (fun _ => 0)))), (q4, .inl (cy 0, (15, .inl (fun _ => 0)))), (q5, .inl (cy 0, (60, .inl (fun _ => 0)))), (q6, .inl (cy 3, (60, .inl (fun _ => 0)))), (q7, .inl (cy 2, (3600, .inr (.inr (.inl (fun _ => 0))))))] H := hP
  have hD : va_D A [(h0, .inr (0, [.null, .null, .ref q1, .ref q2, .ref q3, .ref q4, .ref q5, .ref q6, .null, .null, .null, .int 0, .int 0])), (q1, .inl (cy 0, (15, .inl (fun _ => 0)))), (q2, .inl (cy 3, (15, .inl (fun _ => 0)))), (q3, .inl (cy 0, (15, .inl (fun _ => 0)))), (q4, .inl (cy 0, (15, .inl (fun _ => 0)))), (q5, .inl (cy 0, (60, .inl (fun _ => 0)))), (q6, .inl (cy 3, (60, .inl (fun _ => 0)))), (q7, .inl (cy 2, (3600, .inr (.inr (.inl (fun _ => 0))))))] := hD
  refine W.widen (k := 7) (n := 3780) (Nat.le_refl _) (Nat.le_refl _) ?_
  refine va_putF (D := (dC, dI)) (ci := 0) (v := .ref q7) (ty := .array .float) (C := "BlobCorners$BestPolygons") (T := jn_T0) (N := 13) hx hb hts (fun w h => List.mem_cons_of_mem _ (js_wsg0 w h)) jn_ty0 jn_tyok0 jn_nm0 hown hK hP hD hS 0 rfl rfl 8 (by decide) (hts _ (List.mem_cons_of_mem _ (js_tg (jn_m1 172 rfl) rfl))) (fun _ h9 => h9) rfl hin2 rfl (by decide +kernel) rfl rfl (Nat.le_of_ble_eq_true rfl) dc_0_58 (fun H locs hP hD hS => ?_)
  have hP : va_P (dC, dI) jn_cl [(h0, .inr (0, [.null, .null, .ref q1, .ref q2, .ref q3, .ref q4, .ref q5, .ref q6, .ref q7, .null, .null, .int 0, .int 0])), (q1, .inl (cy 0, (15, .inl (fun _ => 0)))), (q2, .inl (cy 3, (15, .inl (fun _ => 0)))), (q3, .inl (cy 0, (15, .inl (fun _ => 0)))), (q4, .inl (cy 0, (15, .inl (fun _ => 0)))), (q5, .inl (cy 0, (60, .inl (fun _ => 0)))), (q6, .inl (cy 3, (60, .inl (fun _ => 0)))), (q7, .inl (cy 2, (3600, .inr (.inr (.inl (fun _ => 0))))))] H := hP
  have hD : va_D A [(h0, .inr (0, [.null, .null, .ref q1, .ref q2, .ref q3, .ref q4, .ref q5, .ref q6, .ref q7, .null, .null, .int 0, .int 0])), (q1, .inl (cy 0, (15, .inl (fun _ => 0)))), (q2, .inl (cy 3, (15, .inl (fun _ => 0)))), (q3, .inl (cy 0, (15, .inl (fun _ => 0)))), (q4, .inl (cy 0, (15, .inl (fun _ => 0)))), (q5, .inl (cy 0, (60, .inl (fun _ => 0)))), (q6, .inl (cy 3, (60, .inl (fun _ => 0)))), (q7, .inl (cy 2, (3600, .inr (.inr (.inl (fun _ => 0))))))] := hD
  refine lv_aload_n hx hb dc_0_61 rfl (lv_at hl 0 rfl) ?_
  refine lv_sipush (v := 3600) hx hb dc_0_62 (by decide) ?_
  refine va_newa (atype := .float) (ty := .float) (a0 := (3600, .inr (.inr (.inl (fun _ => 0))))) hx hb (hts _ (List.mem_cons_of_mem _ (js_tg (jn_m1 204 rfl) rfl))) rfl hK hP hD hS hA (fun cA => rfl) (by decide) (N' := 3600) rfl (Nat.le_of_ble_eq_true rfl) (Nat.le_of_ble_eq_true rfl) (Nat.le_of_ble_eq_true rfl) dc_0_65 (fun q8 cA H hK1 hP hD hS => ?_)
  have hcA : cA = cy 2 := Option.some.inj ((hK1.2 4 _ rfl).2.symm.trans (hK.2 2 _ rfl).2)
  subst hcA
  have hP : va_P (dC, dI) jn_cl [(h0, .inr (0, [.null, .null, .ref q1, .ref q2, .ref q3, .ref q4, .ref q5, .ref q6, .ref q7, .null, .null, .int 0, .int 0])), (q1, .inl (cy 0, (15, .inl (fun _ => 0)))), (q2, .inl (cy 3, (15, .inl (fun _ => 0)))), (q3, .inl (cy 0, (15, .inl (fun _ => 0)))), (q4, .inl (cy 0, (15, .inl (fun _ => 0)))), (q5, .inl (cy 0, (60, .inl (fun _ => 0)))), (q6, .inl (cy 3, (60, .inl (fun _ => 0)))), (q7, .inl (cy 2, (3600, .inr (.inr (.inl (fun _ => 0)))))), (q8, .inl (cy 2, (3600, .inr (.inr (.inl (fun _ => 0))))))] H := hP
  have hD : va_D A [(h0, .inr (0, [.null, .null, .ref q1, .ref q2, .ref q3, .ref q4, .ref q5, .ref q6, .ref q7, .null, .null, .int 0, .int 0])), (q1, .inl (cy 0, (15, .inl (fun _ => 0)))), (q2, .inl (cy 3, (15, .inl (fun _ => 0)))), (q3, .inl (cy 0, (15, .inl (fun _ => 0)))), (q4, .inl (cy 0, (15, .inl (fun _ => 0)))), (q5, .inl (cy 0, (60, .inl (fun _ => 0)))), (q6, .inl (cy 3, (60, .inl (fun _ => 0)))), (q7, .inl (cy 2, (3600, .inr (.inr (.inl (fun _ => 0)))))), (q8, .inl (cy 2, (3600, .inr (.inr (.inl (fun _ => 0))))))] := hD
  refine W.widen (k := 8) (n := 7380) (Nat.le_refl _) (Nat.le_refl _) ?_
  refine va_putF (D := (dC, dI)) (ci := 0) (v := .ref q8) (ty := .array .float) (C := "BlobCorners$BestPolygons") (T := jn_T0) (N := 13) hx hb hts (fun w h => List.mem_cons_of_mem _ (js_wsg0 w h)) jn_ty0 jn_tyok0 jn_nm0 hown hK hP hD hS 0 rfl rfl 9 (by decide) (hts _ (List.mem_cons_of_mem _ (js_tg (jn_m1 173 rfl) rfl))) (fun _ h9 => h9) rfl hin2 rfl (by decide +kernel) rfl rfl (Nat.le_of_ble_eq_true rfl) dc_0_67 (fun H locs hP hD hS => ?_)
  have hP : va_P (dC, dI) jn_cl [(h0, .inr (0, [.null, .null, .ref q1, .ref q2, .ref q3, .ref q4, .ref q5, .ref q6, .ref q7, .ref q8, .null, .int 0, .int 0])), (q1, .inl (cy 0, (15, .inl (fun _ => 0)))), (q2, .inl (cy 3, (15, .inl (fun _ => 0)))), (q3, .inl (cy 0, (15, .inl (fun _ => 0)))), (q4, .inl (cy 0, (15, .inl (fun _ => 0)))), (q5, .inl (cy 0, (60, .inl (fun _ => 0)))), (q6, .inl (cy 3, (60, .inl (fun _ => 0)))), (q7, .inl (cy 2, (3600, .inr (.inr (.inl (fun _ => 0)))))), (q8, .inl (cy 2, (3600, .inr (.inr (.inl (fun _ => 0))))))] H := hP
  have hD : va_D A [(h0, .inr (0, [.null, .null, .ref q1, .ref q2, .ref q3, .ref q4, .ref q5, .ref q6, .ref q7, .ref q8, .null, .int 0, .int 0])), (q1, .inl (cy 0, (15, .inl (fun _ => 0)))), (q2, .inl (cy 3, (15, .inl (fun _ => 0)))), (q3, .inl (cy 0, (15, .inl (fun _ => 0)))), (q4, .inl (cy 0, (15, .inl (fun _ => 0)))), (q5, .inl (cy 0, (60, .inl (fun _ => 0)))), (q6, .inl (cy 3, (60, .inl (fun _ => 0)))), (q7, .inl (cy 2, (3600, .inr (.inr (.inl (fun _ => 0)))))), (q8, .inl (cy 2, (3600, .inr (.inr (.inl (fun _ => 0))))))] := hD
  refine lv_aload_n hx hb dc_0_70 rfl (lv_at hl 0 rfl) ?_
  refine lv_sipush (v := 3600) hx hb dc_0_71 (by decide) ?_
  refine va_newa (atype := .int) (ty := .int) (a0 := (3600, .inl (fun _ => 0))) hx hb (hts _ (List.mem_cons_of_mem _ (js_tg (jn_m1 39 rfl) rfl))) rfl hK hP hD hS hA (fun cA => rfl) (by decide) (N' := 3600) rfl (Nat.le_of_ble_eq_true rfl) (Nat.le_of_ble_eq_true rfl) (Nat.le_of_ble_eq_true rfl) dc_0_74 (fun q9 cA H hK1 hP hD hS => ?_)
  have hcA : cA = cy 0 := Option.some.inj ((hK1.2 4 _ rfl).2.symm.trans (hK.2 0 _ rfl).2)
  subst hcA
  have hP : va_P (dC, dI) jn_cl [(h0, .inr (0, [.null, .null, .ref q1, .ref q2, .ref q3, .ref q4, .ref q5, .ref q6, .ref q7, .ref q8, .null, .int 0, .int 0])), (q1, .inl (cy 0, (15, .inl (fun _ => 0)))), (q2, .inl (cy 3, (15, .inl (fun _ => 0)))), (q3, .inl (cy 0, (15, .inl (fun _ => 0)))), (q4, .inl (cy 0, (15, .inl (fun _ => 0)))), (q5, .inl (cy 0, (60, .inl (fun _ => 0)))), (q6, .inl (cy 3, (60, .inl (fun _ => 0)))), (q7, .inl (cy 2, (3600, .inr (.inr (.inl (fun _ => 0)))))), (q8, .inl (cy 2, (3600, .inr (.inr (.inl (fun _ => 0)))))), (q9, .inl (cy 0, (3600, .inl (fun _ => 0))))] H := hP
  have hD : va_D A [(h0, .inr (0, [.null, .null, .ref q1, .ref q2, .ref q3, .ref q4, .ref q5, .ref q6, .ref q7, .ref q8, .null, .int 0, .int 0])), (q1, .inl (cy 0, (15, .inl (fun _ => 0)))), (q2, .inl (cy 3, (15, .inl (fun _ => 0)))), (q3, .inl (cy 0, (15, .inl (fun _ => 0)))), (q4, .inl (cy 0, (15, .inl (fun _ => 0)))), (q5, .inl (cy 0, (60, .inl (fun _ => 0)))), (q6, .inl (cy 3, (60, .inl (fun _ => 0)))), (q7, .inl (cy 2, (3600, .inr (.inr (.inl (fun _ => 0)))))), (q8, .inl (cy 2, (3600, .inr (.inr (.inl (fun _ => 0)))))), (q9, .inl (cy 0, (3600, .inl (fun _ => 0))))] := hD
  refine W.widen (k := 9) (n := 10980) (Nat.le_refl _) (Nat.le_refl _) ?_
  refine va_putF (D := (dC, dI)) (ci := 0) (v := .ref q9) (ty := .array .int) (C := "BlobCorners$BestPolygons") (T := jn_T0) (N := 13) hx hb hts (fun w h => List.mem_cons_of_mem _ (js_wsg0 w h)) jn_ty0 jn_tyok0 jn_nm0 hown hK hP hD hS 0 rfl rfl 10 (by decide) (hts _ (List.mem_cons_of_mem _ (js_tg (jn_m1 174 rfl) rfl))) (fun _ h9 => h9) rfl hin2 rfl (by decide +kernel) rfl rfl (Nat.le_of_ble_eq_true rfl) dc_0_76 (fun H locs hP hD hS => ?_)
  have hP : va_P (dC, dI) jn_cl [(h0, .inr (0, [.null, .null, .ref q1, .ref q2, .ref q3, .ref q4, .ref q5, .ref q6, .ref q7, .ref q8, .ref q9, .int 0, .int 0])), (q1, .inl (cy 0, (15, .inl (fun _ => 0)))), (q2, .inl (cy 3, (15, .inl (fun _ => 0)))), (q3, .inl (cy 0, (15, .inl (fun _ => 0)))), (q4, .inl (cy 0, (15, .inl (fun _ => 0)))), (q5, .inl (cy 0, (60, .inl (fun _ => 0)))), (q6, .inl (cy 3, (60, .inl (fun _ => 0)))), (q7, .inl (cy 2, (3600, .inr (.inr (.inl (fun _ => 0)))))), (q8, .inl (cy 2, (3600, .inr (.inr (.inl (fun _ => 0)))))), (q9, .inl (cy 0, (3600, .inl (fun _ => 0))))] H := hP
  have hD : va_D A [(h0, .inr (0, [.null, .null, .ref q1, .ref q2, .ref q3, .ref q4, .ref q5, .ref q6, .ref q7, .ref q8, .ref q9, .int 0, .int 0])), (q1, .inl (cy 0, (15, .inl (fun _ => 0)))), (q2, .inl (cy 3, (15, .inl (fun _ => 0)))), (q3, .inl (cy 0, (15, .inl (fun _ => 0)))), (q4, .inl (cy 0, (15, .inl (fun _ => 0)))), (q5, .inl (cy 0, (60, .inl (fun _ => 0)))), (q6, .inl (cy 3, (60, .inl (fun _ => 0)))), (q7, .inl (cy 2, (3600, .inr (.inr (.inl (fun _ => 0)))))), (q8, .inl (cy 2, (3600, .inr (.inr (.inl (fun _ => 0)))))), (q9, .inl (cy 0, (3600, .inl (fun _ => 0))))] := hD
  refine lv_aload_n hx hb dc_0_79 rfl (lv_at hl 0 rfl) ?_
  refine lv_iconst (v := 0) hx hb dc_0_80 (by decide) ?_
  refine va_put (D := (dC, dI)) (ci := 0) (v := .int 0) (ty := .int) (C := "BlobCorners$BestPolygons") (T := jn_T0) (N := 13) hx hb hts (fun w h => List.mem_cons_of_mem _ (js_wsg0 w h)) jn_ty0 jn_tyok0 jn_nm0 hown hK hP hD hS 0 rfl rfl 11 (by decide) (hts _ (List.mem_cons_of_mem _ (js_tg (jn_m1 175 rfl) rfl))) (fun _ h9 => h9) rfl (by decide +kernel) rfl rfl (Nat.le_of_ble_eq_true rfl) dc_0_81 (fun H locs hP hD hS => ?_)
  have hP : va_P (dC, dI) jn_cl [(h0, .inr (0, [.null, .null, .ref q1, .ref q2, .ref q3, .ref q4, .ref q5, .ref q6, .ref q7, .ref q8, .ref q9, .int 0, .int 0])), (q1, .inl (cy 0, (15, .inl (fun _ => 0)))), (q2, .inl (cy 3, (15, .inl (fun _ => 0)))), (q3, .inl (cy 0, (15, .inl (fun _ => 0)))), (q4, .inl (cy 0, (15, .inl (fun _ => 0)))), (q5, .inl (cy 0, (60, .inl (fun _ => 0)))), (q6, .inl (cy 3, (60, .inl (fun _ => 0)))), (q7, .inl (cy 2, (3600, .inr (.inr (.inl (fun _ => 0)))))), (q8, .inl (cy 2, (3600, .inr (.inr (.inl (fun _ => 0)))))), (q9, .inl (cy 0, (3600, .inl (fun _ => 0))))] H := hP
  have hD : va_D A [(h0, .inr (0, [.null, .null, .ref q1, .ref q2, .ref q3, .ref q4, .ref q5, .ref q6, .ref q7, .ref q8, .ref q9, .int 0, .int 0])), (q1, .inl (cy 0, (15, .inl (fun _ => 0)))), (q2, .inl (cy 3, (15, .inl (fun _ => 0)))), (q3, .inl (cy 0, (15, .inl (fun _ => 0)))), (q4, .inl (cy 0, (15, .inl (fun _ => 0)))), (q5, .inl (cy 0, (60, .inl (fun _ => 0)))), (q6, .inl (cy 3, (60, .inl (fun _ => 0)))), (q7, .inl (cy 2, (3600, .inr (.inr (.inl (fun _ => 0)))))), (q8, .inl (cy 2, (3600, .inr (.inr (.inl (fun _ => 0)))))), (q9, .inl (cy 0, (3600, .inl (fun _ => 0))))] := hD
  refine lv_aload_n hx hb dc_0_84 rfl (lv_at hl 0 rfl) ?_
  refine lv_iconst (v := 0) hx hb dc_0_85 (by decide) ?_
  refine va_put (D := (dC, dI)) (ci := 0) (v := .int 0) (ty := .int) (C := "BlobCorners$BestPolygons") (T := jn_T0) (N := 13) hx hb hts (fun w h => List.mem_cons_of_mem _ (js_wsg0 w h)) jn_ty0 jn_tyok0 jn_nm0 hown hK hP hD hS 0 rfl rfl 12 (by decide) (hts _ (List.mem_cons_of_mem _ (js_tg (jn_m1 176 rfl) rfl))) (fun _ h9 => h9) rfl (by decide +kernel) rfl rfl (Nat.le_of_ble_eq_true rfl) dc_0_86 (fun H locs hP hD hS => ?_)
  have hP : va_P (dC, dI) jn_cl [(h0, .inr (0, [.null, .null, .ref q1, .ref q2, .ref q3, .ref q4, .ref q5, .ref q6, .ref q7, .ref q8, .ref q9, .int 0, .int 0])), (q1, .inl (cy 0, (15, .inl (fun _ => 0)))), (q2, .inl (cy 3, (15, .inl (fun _ => 0)))), (q3, .inl (cy 0, (15, .inl (fun _ => 0)))), (q4, .inl (cy 0, (15, .inl (fun _ => 0)))), (q5, .inl (cy 0, (60, .inl (fun _ => 0)))), (q6, .inl (cy 3, (60, .inl (fun _ => 0)))), (q7, .inl (cy 2, (3600, .inr (.inr (.inl (fun _ => 0)))))), (q8, .inl (cy 2, (3600, .inr (.inr (.inl (fun _ => 0)))))), (q9, .inl (cy 0, (3600, .inl (fun _ => 0))))] H := hP
  have hD : va_D A [(h0, .inr (0, [.null, .null, .ref q1, .ref q2, .ref q3, .ref q4, .ref q5, .ref q6, .ref q7, .ref q8, .ref q9, .int 0, .int 0])), (q1, .inl (cy 0, (15, .inl (fun _ => 0)))), (q2, .inl (cy 3, (15, .inl (fun _ => 0)))), (q3, .inl (cy 0, (15, .inl (fun _ => 0)))), (q4, .inl (cy 0, (15, .inl (fun _ => 0)))), (q5, .inl (cy 0, (60, .inl (fun _ => 0)))), (q6, .inl (cy 3, (60, .inl (fun _ => 0)))), (q7, .inl (cy 2, (3600, .inr (.inr (.inl (fun _ => 0)))))), (q8, .inl (cy 2, (3600, .inr (.inr (.inl (fun _ => 0)))))), (q9, .inl (cy 0, (3600, .inl (fun _ => 0))))] := hD
  refine lv_aload_n hx hb dc_0_89 rfl (lv_at hl 0 rfl) ?_
  refine lv_aload_n hx hb dc_0_90 rfl (lv_at hl 1 rfl) ?_
  refine va_putF (D := (dC, dI)) (ci := 0) (v := .ref x1) (ty := .object "BlobCorners$Outlines") (C := "BlobCorners$BestPolygons") (T := jn_T0) (N := 13) hx hb hts (fun w h => List.mem_cons_of_mem _ (js_wsg0 w h)) jn_ty0 jn_tyok0 jn_nm0 hown hK hP hD hS 0 rfl rfl 0 (by decide) (hts _ (List.mem_cons_of_mem _ (js_tg (jn_m1 164 rfl) rfl))) (fun _ h9 => h9) rfl hin2 rfl (by decide +kernel) rfl rfl (Nat.le_of_ble_eq_true rfl) dc_0_91 (fun H locs hP hD hS => ?_)
  have hP : va_P (dC, dI) jn_cl [(h0, .inr (0, [.ref x1, .null, .ref q1, .ref q2, .ref q3, .ref q4, .ref q5, .ref q6, .ref q7, .ref q8, .ref q9, .int 0, .int 0])), (q1, .inl (cy 0, (15, .inl (fun _ => 0)))), (q2, .inl (cy 3, (15, .inl (fun _ => 0)))), (q3, .inl (cy 0, (15, .inl (fun _ => 0)))), (q4, .inl (cy 0, (15, .inl (fun _ => 0)))), (q5, .inl (cy 0, (60, .inl (fun _ => 0)))), (q6, .inl (cy 3, (60, .inl (fun _ => 0)))), (q7, .inl (cy 2, (3600, .inr (.inr (.inl (fun _ => 0)))))), (q8, .inl (cy 2, (3600, .inr (.inr (.inl (fun _ => 0)))))), (q9, .inl (cy 0, (3600, .inl (fun _ => 0))))] H := hP
  have hD : va_D A [(h0, .inr (0, [.ref x1, .null, .ref q1, .ref q2, .ref q3, .ref q4, .ref q5, .ref q6, .ref q7, .ref q8, .ref q9, .int 0, .int 0])), (q1, .inl (cy 0, (15, .inl (fun _ => 0)))), (q2, .inl (cy 3, (15, .inl (fun _ => 0)))), (q3, .inl (cy 0, (15, .inl (fun _ => 0)))), (q4, .inl (cy 0, (15, .inl (fun _ => 0)))), (q5, .inl (cy 0, (60, .inl (fun _ => 0)))), (q6, .inl (cy 3, (60, .inl (fun _ => 0)))), (q7, .inl (cy 2, (3600, .inr (.inr (.inl (fun _ => 0)))))), (q8, .inl (cy 2, (3600, .inr (.inr (.inl (fun _ => 0)))))), (q9, .inl (cy 0, (3600, .inl (fun _ => 0))))] := hD
  refine lv_aload_n hx hb dc_0_94 rfl (lv_at hl 0 rfl) ?_
  refine lv_aload_n hx hb dc_0_95 rfl (lv_at hl 2 rfl) ?_
  refine va_putF (D := (dC, dI)) (ci := 0) (v := .ref x2) (ty := .object "BlobCorners$Joints") (C := "BlobCorners$BestPolygons") (T := jn_T0) (N := 13) hx hb hts (fun w h => List.mem_cons_of_mem _ (js_wsg0 w h)) jn_ty0 jn_tyok0 jn_nm0 hown hK hP hD hS 0 rfl rfl 1 (by decide) (hts _ (List.mem_cons_of_mem _ (js_tg (jn_m1 165 rfl) rfl))) (fun _ h9 => h9) rfl hin2 rfl (by decide +kernel) rfl rfl (Nat.le_of_ble_eq_true rfl) dc_0_96 (fun H locs hP hD hS => ?_)
  have hP : va_P (dC, dI) jn_cl [(h0, .inr (0, [.ref x1, .ref x2, .ref q1, .ref q2, .ref q3, .ref q4, .ref q5, .ref q6, .ref q7, .ref q8, .ref q9, .int 0, .int 0])), (q1, .inl (cy 0, (15, .inl (fun _ => 0)))), (q2, .inl (cy 3, (15, .inl (fun _ => 0)))), (q3, .inl (cy 0, (15, .inl (fun _ => 0)))), (q4, .inl (cy 0, (15, .inl (fun _ => 0)))), (q5, .inl (cy 0, (60, .inl (fun _ => 0)))), (q6, .inl (cy 3, (60, .inl (fun _ => 0)))), (q7, .inl (cy 2, (3600, .inr (.inr (.inl (fun _ => 0)))))), (q8, .inl (cy 2, (3600, .inr (.inr (.inl (fun _ => 0)))))), (q9, .inl (cy 0, (3600, .inl (fun _ => 0))))] H := hP
  have hD : va_D A [(h0, .inr (0, [.ref x1, .ref x2, .ref q1, .ref q2, .ref q3, .ref q4, .ref q5, .ref q6, .ref q7, .ref q8, .ref q9, .int 0, .int 0])), (q1, .inl (cy 0, (15, .inl (fun _ => 0)))), (q2, .inl (cy 3, (15, .inl (fun _ => 0)))), (q3, .inl (cy 0, (15, .inl (fun _ => 0)))), (q4, .inl (cy 0, (15, .inl (fun _ => 0)))), (q5, .inl (cy 0, (60, .inl (fun _ => 0)))), (q6, .inl (cy 3, (60, .inl (fun _ => 0)))), (q7, .inl (cy 2, (3600, .inr (.inr (.inl (fun _ => 0)))))), (q8, .inl (cy 2, (3600, .inr (.inr (.inl (fun _ => 0)))))), (q9, .inl (cy 0, (3600, .inl (fun _ => 0))))] := hD
  have hP9 := hP.sub (ws' := [(h0, .inr (0, [.ref x1, .ref x2, .ref q1, .ref q2, .ref q3, .ref q4, .ref q5, .ref q6, .ref q7, .ref q8, .ref q9, .int 0, .int 0])), (q1, .inl (cy 0, (15, .inl (fun _ => 0)))), (q2, .inl (cy 3, (15, .inl (fun _ => 0)))), (q3, .inl (cy 0, (15, .inl (fun _ => 0)))), (q4, .inl (cy 0, (15, .inl (fun _ => 0)))), (q5, .inl (cy 0, (60, .inl (fun _ => 0)))), (q6, .inl (cy 3, (60, .inl (fun _ => 0)))), (q7, .inl (cy 2, (3600, .inr (.inr (.inl (fun _ => 0)))))), (q8, .inl (cy 2, (3600, .inr (.inr (.inl (fun _ => 0)))))), (q9, .inl (cy 0, (3600, .inl (fun _ => 0))))]) [0, 1, 2, 3, 4, 5, 6, 7, 8, 9] rfl
  have hD9 := hD.sub (ws' := [(h0, .inr (0, [.ref x1, .ref x2, .ref q1, .ref q2, .ref q3, .ref q4, .ref q5, .ref q6, .ref q7, .ref q8, .ref q9, .int 0, .int 0])), (q1, .inl (cy 0, (15, .inl (fun _ => 0)))), (q2, .inl (cy 3, (15, .inl (fun _ => 0)))), (q3, .inl (cy 0, (15, .inl (fun _ => 0)))), (q4, .inl (cy 0, (15, .inl (fun _ => 0)))), (q5, .inl (cy 0, (60, .inl (fun _ => 0)))), (q6, .inl (cy 3, (60, .inl (fun _ => 0)))), (q7, .inl (cy 2, (3600, .inr (.inr (.inl (fun _ => 0)))))), (q8, .inl (cy 2, (3600, .inr (.inr (.inl (fun _ => 0)))))), (q9, .inl (cy 0, (3600, .inl (fun _ => 0))))]) [0, 1, 2, 3, 4, 5, 6, 7, 8, 9] (by decide) rfl
  exact W.vret hx hb hr (fun t ht hW => ⟨⟨(), rfl, trivial, q1, q2, q3, q4, q5, q6, q7, q8, q9, by rw [ht]; exact hP9, va_K.moved hW.alike hK, hD9⟩, hS.F ht⟩) hS.2.2 dc_0_99
theorem jc_good7_4 : GoodIn (Cond.code ⟨"BlobCorners", "<init>", "()V"⟩ prog_1_method_1_code 1 none :: js_Tg) jc_w4 := by
  intro w hw
  rcases List.mem_cons.mp hw with rfl | hw
  · exact ⟨List.mem_cons_of_mem _ (js_tg (jn_m1 29 rfl) rfl), good_of_word rfl⟩
  · exact ⟨List.mem_cons_of_mem _ hw, good_of_word (List.mem_filter.mp hw).2⟩
theorem jc_good7_1 : GoodIn (Cond.code ⟨"BlobCorners", "<init>", "()V"⟩ prog_1_method_1_code 1 none :: js_Tg) jc_w1 := by
  intro w hw
  rcases List.mem_cons.mp hw with rfl | hw
  · exact ⟨List.mem_cons_of_mem _ (js_tg (jn_m1 44 rfl) rfl), good_of_word rfl⟩
  · exact ⟨List.mem_cons_of_mem _ hw, good_of_word (List.mem_filter.mp hw).2⟩
theorem jc_good7_6 : GoodIn (Cond.code ⟨"BlobCorners", "<init>", "()V"⟩ prog_1_method_1_code 1 none :: js_Tg) jc_w6 := by
  intro w hw
  rcases List.mem_cons.mp hw with rfl | hw
  · exact ⟨List.mem_cons_of_mem _ (js_tg (jn_m1 64 rfl) rfl), good_of_word rfl⟩
  · exact ⟨List.mem_cons_of_mem _ hw, good_of_word (List.mem_filter.mp hw).2⟩
theorem jc_good7_5 : GoodIn (Cond.code ⟨"BlobCorners", "<init>", "()V"⟩ prog_1_method_1_code 1 none :: js_Tg) jc_w5 := by
  intro w hw
  rcases List.mem_cons.mp hw with rfl | hw
  · exact ⟨List.mem_cons_of_mem _ (js_tg (jn_m1 85 rfl) rfl), good_of_word rfl⟩
  · exact ⟨List.mem_cons_of_mem _ hw, good_of_word (List.mem_filter.mp hw).2⟩
theorem jc_good7_3 : GoodIn (Cond.code ⟨"BlobCorners", "<init>", "()V"⟩ prog_1_method_1_code 1 none :: js_Tg) jc_w3 := by
  intro w hw
  rcases List.mem_cons.mp hw with rfl | hw
  · exact ⟨List.mem_cons_of_mem _ (js_tg (jn_m1 98 rfl) rfl), good_of_word rfl⟩
  · exact ⟨List.mem_cons_of_mem _ hw, good_of_word (List.mem_filter.mp hw).2⟩
theorem jc_good7_2 : GoodIn (Cond.code ⟨"BlobCorners", "<init>", "()V"⟩ prog_1_method_1_code 1 none :: js_Tg) jc_w2 := by
  intro w hw
  rcases List.mem_cons.mp hw with rfl | hw
  · exact ⟨List.mem_cons_of_mem _ (js_tg (jn_m1 142 rfl) rfl), good_of_word rfl⟩
  · exact ⟨List.mem_cons_of_mem _ hw, good_of_word (List.mem_filter.mp hw).2⟩
theorem jc_good7_0 : GoodIn (Cond.code ⟨"BlobCorners", "<init>", "()V"⟩ prog_1_method_1_code 1 none :: js_Tg) jc_w0 := by
  intro w hw
  rcases List.mem_cons.mp hw with rfl | hw
  · exact ⟨List.mem_cons_of_mem _ (js_tg (jn_m1 162 rfl) rfl), good_of_word rfl⟩
  · exact ⟨List.mem_cons_of_mem _ hw, good_of_word (List.mem_filter.mp hw).2⟩
theorem dc_7_0 : decode prog_1_method_1_code 0 = .ok (.aload_n 0, 1) := by decide +kernel
theorem dc_7_1 : decode prog_1_method_1_code 1 = .ok (.invokespecial 1, 3) := by decide +kernel
theorem dc_7_4 : decode prog_1_method_1_code 4 = .ok (.aload_n 0, 1) := by decide +kernel
theorem dc_7_5 : decode prog_1_method_1_code 5 = .ok (.new 7, 3) := by decide +kernel
theorem dc_7_8 : decode prog_1_method_1_code 8 = .ok (.dup, 1) := by decide +kernel
theorem dc_7_9 : decode prog_1_method_1_code 9 = .ok (.invokespecial 9, 3) := by decide +kernel
theorem dc_7_12 : decode prog_1_method_1_code 12 = .ok (.putfield 10, 3) := by decide +kernel
theorem dc_7_15 : decode prog_1_method_1_code 15 = .ok (.aload_n 0, 1) := by decide +kernel
theorem dc_7_16 : decode prog_1_method_1_code 16 = .ok (.new 16, 3) := by decide +kernel
theorem dc_7_19 : decode prog_1_method_1_code 19 = .ok (.dup, 1) := by decide +kernel
theorem dc_7_20 : decode prog_1_method_1_code 20 = .ok (.invokespecial 18, 3) := by decide +kernel
theorem dc_7_23 : decode prog_1_method_1_code 23 = .ok (.putfield 19, 3) := by decide +kernel
theorem dc_7_26 : decode prog_1_method_1_code 26 = .ok (.aload_n 0, 1) := by decide +kernel
theorem dc_7_27 : decode prog_1_method_1_code 27 = .ok (.new 16, 3) := by decide +kernel
theorem dc_7_30 : decode prog_1_method_1_code 30 = .ok (.dup, 1) := by decide +kernel
theorem dc_7_31 : decode prog_1_method_1_code 31 = .ok (.invokespecial 18, 3) := by decide +kernel
theorem dc_7_34 : decode prog_1_method_1_code 34 = .ok (.putfield 23, 3) := by decide +kernel
theorem dc_7_37 : decode prog_1_method_1_code 37 = .ok (.aload_n 0, 1) := by decide +kernel
theorem dc_7_38 : decode prog_1_method_1_code 38 = .ok (.new 16, 3) := by decide +kernel
theorem dc_7_41 : decode prog_1_method_1_code 41 = .ok (.dup, 1) := by decide +kernel
theorem dc_7_42 : decode prog_1_method_1_code 42 = .ok (.invokespecial 18, 3) := by decide +kernel
theorem dc_7_45 : decode prog_1_method_1_code 45 = .ok (.putfield 26, 3) := by decide +kernel
theorem dc_7_48 : decode prog_1_method_1_code 48 = .ok (.aload_n 0, 1) := by decide +kernel
theorem dc_7_49 : decode prog_1_method_1_code 49 = .ok (.new 29, 3) := by decide +kernel
theorem dc_7_52 : decode prog_1_method_1_code 52 = .ok (.dup, 1) := by decide +kernel
theorem dc_7_53 : decode prog_1_method_1_code 53 = .ok (.invokespecial 31, 3) := by decide +kernel
theorem dc_7_56 : decode prog_1_method_1_code 56 = .ok (.putfield 32, 3) := by decide +kernel
theorem dc_7_59 : decode prog_1_method_1_code 59 = .ok (.aload_n 0, 1) := by decide +kernel
theorem dc_7_60 : decode prog_1_method_1_code 60 = .ok (.new 29, 3) := by decide +kernel
theorem dc_7_63 : decode prog_1_method_1_code 63 = .ok (.dup, 1) := by decide +kernel
theorem dc_7_64 : decode prog_1_method_1_code 64 = .ok (.invokespecial 31, 3) := by decide +kernel
theorem dc_7_67 : decode prog_1_method_1_code 67 = .ok (.putfield 36, 3) := by decide +kernel
theorem dc_7_70 : decode prog_1_method_1_code 70 = .ok (.aload_n 0, 1) := by decide +kernel
theorem dc_7_71 : decode prog_1_method_1_code 71 = .ok (.new 39, 3) := by decide +kernel
theorem dc_7_74 : decode prog_1_method_1_code 74 = .ok (.dup, 1) := by decide +kernel
theorem dc_7_75 : decode prog_1_method_1_code 75 = .ok (.invokespecial 41, 3) := by decide +kernel
theorem dc_7_78 : decode prog_1_method_1_code 78 = .ok (.putfield 42, 3) := by decide +kernel
theorem dc_7_81 : decode prog_1_method_1_code 81 = .ok (.aload_n 0, 1) := by decide +kernel
theorem dc_7_82 : decode prog_1_method_1_code 82 = .ok (.new 46, 3) := by decide +kernel
theorem dc_7_85 : decode prog_1_method_1_code 85 = .ok (.dup, 1) := by decide +kernel
theorem dc_7_86 : decode prog_1_method_1_code 86 = .ok (.invokespecial 48, 3) := by decide +kernel
theorem dc_7_89 : decode prog_1_method_1_code 89 = .ok (.putfield 49, 3) := by decide +kernel
theorem dc_7_92 : decode prog_1_method_1_code 92 = .ok (.aload_n 0, 1) := by decide +kernel
theorem dc_7_93 : decode prog_1_method_1_code 93 = .ok (.new 53, 3) := by decide +kernel
theorem dc_7_96 : decode prog_1_method_1_code 96 = .ok (.dup, 1) := by decide +kernel
theorem dc_7_97 : decode prog_1_method_1_code 97 = .ok (.aload_n 0, 1) := by decide +kernel
theorem dc_7_98 : decode prog_1_method_1_code 98 = .ok (.getfield 49, 3) := by decide +kernel
theorem dc_7_101 : decode prog_1_method_1_code 101 = .ok (.invokespecial 55, 3) := by decide +kernel
theorem dc_7_104 : decode prog_1_method_1_code 104 = .ok (.putfield 58, 3) := by decide +kernel
theorem dc_7_107 : decode prog_1_method_1_code 107 = .ok (.aload_n 0, 1) := by decide +kernel
theorem dc_7_108 : decode prog_1_method_1_code 108 = .ok (.new 62, 3) := by decide +kernel
theorem dc_7_111 : decode prog_1_method_1_code 111 = .ok (.dup, 1) := by decide +kernel
theorem dc_7_112 : decode prog_1_method_1_code 112 = .ok (.aload_n 0, 1) := by decide +kernel
theorem dc_7_113 : decode prog_1_method_1_code 113 = .ok (.getfield 49, 3) := by decide +kernel
theorem dc_7_116 : decode prog_1_method_1_code 116 = .ok (.aload_n 0, 1) := by decide +kernel
theorem dc_7_117 : decode prog_1_method_1_code 117 = .ok (.getfield 58, 3) := by decide +kernel
theorem dc_7_120 : decode prog_1_method_1_code 120 = .ok (.invokespecial 64, 3) := by decide +kernel
theorem dc_7_123 : decode prog_1_method_1_code 123 = .ok (.putfield 67, 3) := by decide +kernel
theorem dc_7_126 : decode prog_1_method_1_code 126 = .ok (.aload_n 0, 1) := by decide +kernel
theorem dc_7_127 : decode prog_1_method_1_code 127 = .ok (.new 46, 3) := by decide +kernel
theorem dc_7_130 : decode prog_1_method_1_code 130 = .ok (.dup, 1) := by decide +kernel
theorem dc_7_131 : decode prog_1_method_1_code 131 = .ok (.invokespecial 48, 3) := by decide +kernel
theorem dc_7_134 : decode prog_1_method_1_code 134 = .ok (.putfield 71, 3) := by decide +kernel
theorem dc_7_137 : decode prog_1_method_1_code 137 = .ok (.aload_n 0, 1) := by decide +kernel
theorem dc_7_138 : decode prog_1_method_1_code 138 = .ok (.new 53, 3) := by decide +kernel
theorem dc_7_141 : decode prog_1_method_1_code 141 = .ok (.dup, 1) := by decide +kernel
theorem dc_7_142 : decode prog_1_method_1_code 142 = .ok (.aload_n 0, 1) := by decide +kernel
theorem dc_7_143 : decode prog_1_method_1_code 143 = .ok (.getfield 71, 3) := by decide +kernel
theorem dc_7_146 : decode prog_1_method_1_code 146 = .ok (.invokespecial 55, 3) := by decide +kernel
theorem dc_7_149 : decode prog_1_method_1_code 149 = .ok (.putfield 74, 3) := by decide +kernel
theorem dc_7_152 : decode prog_1_method_1_code 152 = .ok (.aload_n 0, 1) := by decide +kernel
theorem dc_7_153 : decode prog_1_method_1_code 153 = .ok (.iconst 0, 1) := by decide +kernel
theorem dc_7_154 : decode prog_1_method_1_code 154 = .ok (.putfield 77, 3) := by decide +kernel
theorem dc_7_157 : decode prog_1_method_1_code 157 = .ok (.aload_n 0, 1) := by decide +kernel
theorem dc_7_158 : decode prog_1_method_1_code 158 = .ok (.iconst 0, 1) := by decide +kernel
theorem dc_7_159 : decode prog_1_method_1_code 159 = .ok (.putfield 81, 3) := by decide +kernel
theorem dc_7_162 : decode prog_1_method_1_code 162 = .ok (.aload_n 0, 1) := by decide +kernel
theorem dc_7_163 : decode prog_1_method_1_code 163 = .ok (.iconst 0, 1) := by decide +kernel
theorem dc_7_164 : decode prog_1_method_1_code 164 = .ok (.putfield 85, 3) := by decide +kernel
theorem dc_7_167 : decode prog_1_method_1_code 167 = .ok (.return_, 1) := by decide +kernel
def jc_w7 : List Cond := .code ⟨"BlobCorners", "<init>", "()V"⟩ prog_1_method_1_code 1 none :: js_Tg
set_option maxHeartbeats 8000000 in
set_option maxRecDepth 100000 in
theorem c_ini7 (l : Launch) (dC : Nat → ClassId) (dI : Nat → Nat → Nat) (cy : Nat → ClassId) (h0 sz : Nat) : Met l ⟨"BlobCorners", "<init>", "()V"⟩ jc_w7 ({ frames := 2, cells := 55, slots := 12163, locals := 34 }) (va_Pc [.ref h0] (fun U => U.heap.size = sz ∧ va_P (dC, dI) jn_cl [(h0, .inr (7, [.null, .null, .null, .null, .null, .null, .null, .null, .null, .null, .null, .null, .int 0, .int 0, .int 0]))] U.heap ∧ va_K (dC, dI) jn_cl (js_ty cy) U ∧ va_D (fun _ => True) [(h0, .inr (7, [.null, .null, .null, .null, .null, .null, .null, .null, .null, .null, .null, .null, .int 0, .int 0, .int 0]))] ∧ js_N U)) (va_Qv (fun _ : Unit => True) (fun _ t => ∃ q1 q2 q3 q4 q5 q6 q7 q8 q9 q10 q11 q12 q13 q14 q15 q16 q17 q18 q19 q20 q21 q22 q23 q24 q25 q26 q27 q28 q29 q30 q31 q32 q33 q34 q35 q36 q37 q38 q39 q40 q41 q42 q43 q44 q45 q46 q47 q48 q49 q50 q51 q52 q53 q54 q55 : Nat, va_P (dC, dI) jn_cl [(h0, .inr (7, [.ref q1, .ref q3, .ref q5, .ref q7, .ref q9, .ref q13, .ref q17, .ref q20, .ref q31, .ref q33, .ref q43, .ref q54, .int 0, .int 0, .int 0])), (q1, .inr (4, [.ref q2, .int 0])), (q2, .inl (cy 0, (32, .inl (fun _ => 0)))), (q3, .inr (1, [.ref q4, .int 0, .int 0])), (q4, .inl (cy 0, (25, .inl (fun _ => 0)))), (q5, .inr (1, [.ref q6, .int 0, .int 0])), (q6, .inl (cy 0, (25, .inl (fun _ => 0)))), (q7, .inr (1, [.ref q8, .int 0, .int 0])), (q8, .inl (cy 0, (25, .inl (fun _ => 0)))), (q9, .inr (6, [.ref q10, .ref q11, .ref q12, .int 0])), (q10, .inl (cy 0, (6, .inl (fun _ => 0)))), (q11, .inl (cy 0, (6, .inl (fun _ => 0)))), (q12, .inl (cy 3, (6, .inl (fun _ => 0)))), (q13, .inr (6, [.ref q14, .ref q15, .ref q16, .int 0])), (q14, .inl (cy 0, (6, .inl (fun _ => 0)))), (q15, .inl (cy 0, (6, .inl (fun _ => 0)))), (q16, .inl (cy 3, (6, .inl (fun _ => 0)))), (q17, .inr (5, [.ref q18, .ref q19])), (q18, .inl (cy 0, (15, .inl (fun _ => 0)))), (q19, .inl (cy 0, (5, .inl (fun _ => 0)))), (q20, .inr (3, [.int 0, .int 0, .ref q21, .ref q22, .ref q23, .ref q24, .ref q25, .ref q26, .ref q27, .ref q28, .ref q29, .ref q30])), (q21, .inl (cy 0, (15, .inl (fun _ => 0)))), (q22, .inl (cy 0, (15, .inl (fun _ => 0)))), (q23, .inl (cy 0, (15, .inl (fun _ => 0)))), (q24, .inl (cy 0, (60, .inl (fun _ => 0)))), (q25, .inl (cy 0, (60, .inl (fun _ => 0)))), (q26, .inl (cy 0, (60, .inl (fun _ => 0)))), (q27, .inl (cy 0, (60, .inl (fun _ => 0)))), (q28, .inl (cy 3, (60, .inl (fun _ => 0)))), (q29, .inl (cy 0, (36, .inl (fun _ => 0)))), (q30, .inl (cy 0, (36, .inl (fun _ => 0)))), (q31, .inr (2, [.ref q20, .ref q32, .int (-1), .int 0])), (q32, .inl (cy 1, (60, .inr (.inl (fun _ => 0))))), (q33, .inr (0, [.ref q20, .ref q31, .ref q34, .ref q35, .ref q36, .ref q37, .ref q38, .ref q39, .ref q40, .ref q41, .ref q42, .int 0, .int 0])), (q34, .inl (cy 0, (15, .inl (fun _ => 0)))), (q35, .inl (cy 3, (15, .inl (fun _ => 0)))), (q36, .inl (cy 0, (15, .inl (fun _ => 0)))), (q37, .inl (cy 0, (15, .inl (fun _ => 0)))), (q38, .inl (cy 0, (60, .inl (fun _ => 0)))), (q39, .inl (cy 3, (60, .inl (fun _ => 0)))), (q40, .inl (cy 2, (3600, .inr (.inr (.inl (fun _ => 0)))))), (q41, .inl (cy 2, (3600, .inr (.inr (.inl (fun _ => 0)))))), (q42, .inl (cy 0, (3600, .inl (fun _ => 0)))), (q43, .inr (3, [.int 0, .int 0, .ref q44, .ref q45, .ref q46, .ref q47, .ref q48, .ref q49, .ref q50, .ref q51, .ref q52, .ref q53])), (q44, .inl (cy 0, (15, .inl (fun _ => 0)))), (q45, .inl (cy 0, (15, .inl (fun _ => 0)))), (q46, .inl (cy 0, (15, .inl (fun _ => 0)))), (q47, .inl (cy 0, (60, .inl (fun _ => 0)))), (q48, .inl (cy 0, (60, .inl (fun _ => 0)))), (q49, .inl (cy 0, (60, .inl (fun _ => 0)))), (q50, .inl (cy 0, (60, .inl (fun _ => 0)))), (q51, .inl (cy 3, (60, .inl (fun _ => 0)))), (q52, .inl (cy 0, (36, .inl (fun _ => 0)))), (q53, .inl (cy 0, (36, .inl (fun _ => 0)))), (q54, .inr (2, [.ref q43, .ref q55, .int (-1), .int 0])), (q55, .inl (cy 1, (60, .inr (.inl (fun _ => 0)))))] t.heap ∧ va_K (dC, dI) jn_cl (js_ty cy) t ∧ va_D (va_A [(h0, .inr (7, [.null, .null, .null, .null, .null, .null, .null, .null, .null, .null, .null, .null, .int 0, .int 0, .int 0]))] sz) [(h0, .inr (7, [.ref q1, .ref q3, .ref q5, .ref q7, .ref q9, .ref q13, .ref q17, .ref q20, .ref q31, .ref q33, .ref q43, .ref q54, .int 0, .int 0, .int 0])), (q1, .inr (4, [.ref q2, .int 0])), (q2, .inl (cy 0, (32, .inl (fun _ => 0)))), (q3, .inr (1, [.ref q4, .int 0, .int 0])), (q4, .inl (cy 0, (25, .inl (fun _ => 0)))), (q5, .inr (1, [.ref q6, .int 0, .int 0])), (q6, .inl (cy 0, (25, .inl (fun _ => 0)))), (q7, .inr (1, [.ref q8, .int 0, .int 0])), (q8, .inl (cy 0, (25, .inl (fun _ => 0)))), (q9, .inr (6, [.ref q10, .ref q11, .ref q12, .int 0])), (q10, .inl (cy 0, (6, .inl (fun _ => 0)))), (q11, .inl (cy 0, (6, .inl (fun _ => 0)))), (q12, .inl (cy 3, (6, .inl (fun _ => 0)))), (q13, .inr (6, [.ref q14, .ref q15, .ref q16, .int 0])), (q14, .inl (cy 0, (6, .inl (fun _ => 0)))), (q15, .inl (cy 0, (6, .inl (fun _ => 0)))), (q16, .inl (cy 3, (6, .inl (fun _ => 0)))), (q17, .inr (5, [.ref q18, .ref q19])), (q18, .inl (cy 0, (15, .inl (fun _ => 0)))), (q19, .inl (cy 0, (5, .inl (fun _ => 0)))), (q20, .inr (3, [.int 0, .int 0, .ref q21, .ref q22, .ref q23, .ref q24, .ref q25, .ref q26, .ref q27, .ref q28, .ref q29, .ref q30])), (q21, .inl (cy 0, (15, .inl (fun _ => 0)))), (q22, .inl (cy 0, (15, .inl (fun _ => 0)))), (q23, .inl (cy 0, (15, .inl (fun _ => 0)))), (q24, .inl (cy 0, (60, .inl (fun _ => 0)))), (q25, .inl (cy 0, (60, .inl (fun _ => 0)))), (q26, .inl (cy 0, (60, .inl (fun _ => 0)))), (q27, .inl (cy 0, (60, .inl (fun _ => 0)))), (q28, .inl (cy 3, (60, .inl (fun _ => 0)))), (q29, .inl (cy 0, (36, .inl (fun _ => 0)))), (q30, .inl (cy 0, (36, .inl (fun _ => 0)))), (q31, .inr (2, [.ref q20, .ref q32, .int (-1), .int 0])), (q32, .inl (cy 1, (60, .inr (.inl (fun _ => 0))))), (q33, .inr (0, [.ref q20, .ref q31, .ref q34, .ref q35, .ref q36, .ref q37, .ref q38, .ref q39, .ref q40, .ref q41, .ref q42, .int 0, .int 0])), (q34, .inl (cy 0, (15, .inl (fun _ => 0)))), (q35, .inl (cy 3, (15, .inl (fun _ => 0)))), (q36, .inl (cy 0, (15, .inl (fun _ => 0)))), (q37, .inl (cy 0, (15, .inl (fun _ => 0)))), (q38, .inl (cy 0, (60, .inl (fun _ => 0)))), (q39, .inl (cy 3, (60, .inl (fun _ => 0)))), (q40, .inl (cy 2, (3600, .inr (.inr (.inl (fun _ => 0)))))), (q41, .inl (cy 2, (3600, .inr (.inr (.inl (fun _ => 0)))))), (q42, .inl (cy 0, (3600, .inl (fun _ => 0)))), (q43, .inr (3, [.int 0, .int 0, .ref q44, .ref q45, .ref q46, .ref q47, .ref q48, .ref q49, .ref q50, .ref q51, .ref q52, .ref q53])), (q44, .inl (cy 0, (15, .inl (fun _ => 0)))), (q45, .inl (cy 0, (15, .inl (fun _ => 0)))), (q46, .inl (cy 0, (15, .inl (fun _ => 0)))), (q47, .inl (cy 0, (60, .inl (fun _ => 0)))), (q48, .inl (cy 0, (60, .inl (fun _ => 0)))), (q49, .inl (cy 0, (60, .inl (fun _ => 0)))), (q50, .inl (cy 0, (60, .inl (fun _ => 0)))), (q51, .inl (cy 3, (60, .inl (fun _ => 0)))), (q52, .inl (cy 0, (36, .inl (fun _ => 0)))), (q53, .inl (cy 0, (36, .inl (fun _ => 0)))), (q54, .inr (2, [.ref q43, .ref q55, .int (-1), .int 0])), (q55, .inl (cy 1, (60, .inr (.inl (fun _ => 0)))))]) (va_A [(h0, .inr (7, [.null, .null, .null, .null, .null, .null, .null, .null, .null, .null, .null, .null, .int 0, .int 0, .int 0]))] sz)) 55 12163 (va_A [(h0, .inr (7, [.null, .null, .null, .null, .null, .null, .null, .null, .null, .null, .null, .null, .int 0, .int 0, .int 0]))] sz) := by
  refine Met.ofW (cc := prog_1_method_1_code) (maxL := 1) (ret := none) (by decide) rfl ?_
  intro p e s m args below meth c s₁ B hml hv
  obtain ⟨rfl, hsz, hP, hK, hD0, hN⟩ := hv
  have hx := B.exec
  have hb := B.bytes
  have hr := B.returns
  have hts := atoms_spec (ws := jc_w7) B.pre
  have hown : s.vm.findClass "BlobCorners" = some m.cls := findClass_of_methodNamed B.named
  have hlocks := B.notSynchronized
  have hin2 : meth.name = "<init>" := (name_of_methodNamed B.named B.method).1
  subst hsz
  have hD := hD0.self (sz := s.heap.size)
  generalize hAe : va_A [(h0, .inr (7, [.null, .null, .null, .null, .null, .null, .null, .null, .null, .null, .null, .null, .int 0, .int 0, .int 0]))] s.heap.size = A at hD ⊢
  have hA : ∀ q : Nat, s.heap.size ≤ q → A q := fun q h => by rw [← hAe]; exact Or.inr h
  have hS : va_S A s.heap s.heap [] := va_S.rf
  have hP : va_P (dC, dI) jn_cl [(h0, .inr (7, [.null, .null, .null, .null, .null, .null, .null, .null, .null, .null, .null, .null, .int 0, .int 0, .int 0]))] s.heap := hP
  have hl := lv_entry ([.ref h0]) (n := 1) (Nat.le_of_ble_eq_true rfl)
  rw [lg_entry_eq]
  generalize (lg_sl ([.ref h0]) ++ List.replicate (1 - (lg_sl ([.ref h0])).length) Slot.unset).toArray = ls at hl ⊢
  have hl : lv_has ls 1 [(0, .ref h0)] := hl
  refine lv_aload_n hx hb dc_7_0 rfl (lv_at hl 0 rfl) ?_
  refine W.objInit hx hb hown (hts _ (List.mem_cons_of_mem _ (js_tg (jn_m1 22 rfl) rfl))) (hts _ (List.mem_cons_of_mem _ (js_tg (jn_m1 23 rfl) rfl))) (hts _ (List.mem_cons_of_mem _ (js_tg (jn_m1 24 rfl) rfl))) rfl (by rw [hml]; exact hl.1) rfl dc_7_1 (Nat.le_of_ble_eq_true rfl) (Nat.le_of_ble_eq_true rfl) ?_
  refine W.eq (g2 := F0 m 4 ls []) rfl ?_
  refine lv_aload_n hx hb dc_7_4 rfl (lv_at hl 0 rfl) ?_
  refine va_new (ci := 4) (fs := [.null, .int 0]) (C := "BlobCorners$Page") (T := jn_T4) (N := 2) hx hb hts (fun w h => List.mem_cons_of_mem _ (js_wsg4 w h)) jn_ty4 jn_tyok4 hown (hts _ (List.mem_cons_of_mem _ (js_tg (jn_m1 25 rfl) rfl))) (hts _ (List.mem_cons_of_mem _ (js_tg (jn_m1 26 rfl) rfl))) (hts _ (List.mem_cons_of_mem _ (js_tg (jn_m1 2 rfl) rfl))) hK hP hD hS hA rfl (jc_df4 rfl) (Nat.le_of_ble_eq_true rfl) (Nat.le_of_ble_eq_true rfl) dc_7_5 (fun q1 H hP hD hS => ?_)
  have hP : va_P (dC, dI) jn_cl [(h0, .inr (7, [.null, .null, .null, .null, .null, .null, .null, .null, .null, .null, .null, .null, .int 0, .int 0, .int 0])), (q1, .inr (4, [.null, .int 0]))] H := hP
  have hD : va_D A [(h0, .inr (7, [.null, .null, .null, .null, .null, .null, .null, .null, .null, .null, .null, .null, .int 0, .int 0, .int 0])), (q1, .inr (4, [.null, .int 0]))] := hD
  refine W.widen (k := 1) (n := 2) (Nat.le_refl _) (Nat.le_refl _) ?_
  refine lv_dup hx hb dc_7_8 rfl ?_
  have hPc := hP.sub (ws' := [(q1, .inr (4, [.null, .int 0]))]) [1] rfl
  have hDc := hD.sub (ws' := [(q1, .inr (4, [.null, .int 0]))]) [1] (by decide) rfl
  have hFc := va_free (wc := [(q1, .inr (4, [.null, .int 0]))]) hD hS hA [1] rfl
  refine va_callv (va_runIN (As := []) (rest := [.ref q1, .ref h0]) ⟨hx, hb, hml, hown, hts⟩ (c_ini4 l dC dI cy q1 H.size ) ⟨va_cnB 0 hts (jc_good7_4) rfl rfl rfl (hN _ (jn_m1 27 rfl) rfl) (hts _ (List.mem_cons_of_mem _ (js_tg (jn_m1 2 rfl) rfl))) (by decide +kernel) ⟨Nat.le_of_ble_eq_true rfl, Nat.le_of_ble_eq_true rfl⟩, rfl, hts _ (List.mem_cons_of_mem _ (js_tg (jn_m1 28 rfl) rfl))⟩ ⟨jc_blind, fun U hU hW => ⟨rfl, by rw [hU], by rw [hU]; exact hPc, va_K.moved hW.alike hK, hDc.weaken (fun _ _ _ _ => trivial), js_N_at hW hN⟩⟩ rfl rfl hl.1 rfl (lv_room (Nat.le_of_ble_eq_true rfl)) dc_7_9 ⟨Nat.le_of_ble_eq_true rfl, Nat.le_of_ble_eq_true rfl⟩) hS (fun q _ h => hFc q h) hFc (fun u t H1 locs ht hvm hw hB hz1 hk1 hS => ?_)
  obtain ⟨q2, hP1, hK1, hD1⟩ := hB
  rw [ht] at hP1
  obtain ⟨hP, hD⟩ := va_join (wr := [(h0, .inr (7, [.null, .null, .null, .null, .null, .null, .null, .null, .null, .null, .null, .null, .int 0, .int 0, .int 0]))]) (w1 := [(q1, .inr (4, [.ref q2, .int 0])), (q2, .inl (cy 0, (32, .inl (fun _ => 0))))]) hP hD [1] [0] rfl rfl (by decide) (by decide) hk1 hFc hP1 hD1
  generalize H1 = H at hP hS ⊢
  have hP : va_P (dC, dI) jn_cl [(h0, .inr (7, [.null, .null, .null, .null, .null, .null, .null, .null, .null, .null, .null, .null, .int 0, .int 0, .int 0])), (q1, .inr (4, [.ref q2, .int 0])), (q2, .inl (cy 0, (32, .inl (fun _ => 0))))] H := hP
  have hD : va_D A [(h0, .inr (7, [.null, .null, .null, .null, .null, .null, .null, .null, .null, .null, .null, .null, .int 0, .int 0, .int 0])), (q1, .inr (4, [.ref q2, .int 0])), (q2, .inl (cy 0, (32, .inl (fun _ => 0))))] := hD
  refine W.widen (k := 2) (n := 34) (Nat.le_refl _) (Nat.le_refl _) ?_
  refine va_putF (D := (dC, dI)) (ci := 7) (v := .ref q1) (ty := .object "BlobCorners$Page") (C := "BlobCorners") (T := jn_T7) (N := 15) hx hb hts (fun w h => List.mem_cons_of_mem _ (js_wsg7 w h)) jn_ty7 jn_tyok7 jn_nm7 hown hK hP hD hS 0 rfl rfl 0 (by decide) (hts _ (List.mem_cons_of_mem _ (js_tg (jn_m1 205 rfl) rfl))) (fun _ h9 => h9) rfl hin2 rfl (by decide +kernel) rfl rfl (Nat.le_of_ble_eq_true rfl) dc_7_12 (fun H locs hP hD hS => ?_)
  have hP : va_P (dC, dI) jn_cl [(h0, .inr (7, [.ref q1, .null, .null, .null, .null, .null, .null, .null, .null, .null, .null, .null, .int 0, .int 0, .int 0])), (q1, .inr (4, [.ref q2, .int 0])), (q2, .inl (cy 0, (32, .inl (fun _ => 0))))] H := hP
  have hD : va_D A [(h0, .inr (7, [.ref q1, .null, .null, .null, .null, .null, .null, .null, .null, .null, .null, .null, .int 0, .int 0, .int 0])), (q1, .inr (4, [.ref q2, .int 0])), (q2, .inl (cy 0, (32, .inl (fun _ => 0))))] := hD
  refine lv_aload_n hx hb dc_7_15 rfl (lv_at hl 0 rfl) ?_
  refine va_new (ci := 1) (fs := [.null, .int 0, .int 0]) (C := "BlobCorners$Grid") (T := jn_T1) (N := 3) hx hb hts (fun w h => List.mem_cons_of_mem _ (js_wsg1 w h)) jn_ty1 jn_tyok1 hown (hts _ (List.mem_cons_of_mem _ (js_tg (jn_m1 40 rfl) rfl))) (hts _ (List.mem_cons_of_mem _ (js_tg (jn_m1 41 rfl) rfl))) (hts _ (List.mem_cons_of_mem _ (js_tg (jn_m1 3 rfl) rfl))) hK hP hD hS hA rfl (jc_df1 rfl) (Nat.le_of_ble_eq_true rfl) (Nat.le_of_ble_eq_true rfl) dc_7_16 (fun q3 H hP hD hS => ?_)
  have hP : va_P (dC, dI) jn_cl [(h0, .inr (7, [.ref q1, .null, .null, .null, .null, .null, .null, .null, .null, .null, .null, .null, .int 0, .int 0, .int 0])), (q1, .inr (4, [.ref q2, .int 0])), (q2, .inl (cy 0, (32, .inl (fun _ => 0)))), (q3, .inr (1, [.null, .int 0, .int 0]))] H := hP
  have hD : va_D A [(h0, .inr (7, [.ref q1, .null, .null, .null, .null, .null, .null, .null, .null, .null, .null, .null, .int 0, .int 0, .int 0])), (q1, .inr (4, [.ref q2, .int 0])), (q2, .inl (cy 0, (32, .inl (fun _ => 0)))), (q3, .inr (1, [.null, .int 0, .int 0]))] := hD
  refine W.widen (k := 3) (n := 37) (Nat.le_refl _) (Nat.le_refl _) ?_
  refine lv_dup hx hb dc_7_19 rfl ?_
  have hPc := hP.sub (ws' := [(q3, .inr (1, [.null, .int 0, .int 0]))]) [3] rfl
  have hDc := hD.sub (ws' := [(q3, .inr (1, [.null, .int 0, .int 0]))]) [3] (by decide) rfl
  have hFc := va_free (wc := [(q3, .inr (1, [.null, .int 0, .int 0]))]) hD hS hA [3] rfl
  refine va_callv (va_runIN (As := []) (rest := [.ref q3, .ref h0]) ⟨hx, hb, hml, hown, hts⟩ (c_ini1 l dC dI cy q3 H.size ) ⟨va_cnB 0 hts (jc_good7_1) rfl rfl rfl (hN _ (jn_m1 42 rfl) rfl) (hts _ (List.mem_cons_of_mem _ (js_tg (jn_m1 3 rfl) rfl))) (by decide +kernel) ⟨Nat.le_of_ble_eq_true rfl, Nat.le_of_ble_eq_true rfl⟩, rfl, hts _ (List.mem_cons_of_mem _ (js_tg (jn_m1 43 rfl) rfl))⟩ ⟨jc_blind, fun U hU hW => ⟨rfl, by rw [hU], by rw [hU]; exact hPc, va_K.moved hW.alike hK, hDc.weaken (fun _ _ _ _ => trivial), js_N_at hW hN⟩⟩ rfl rfl hl.1 rfl (lv_room (Nat.le_of_ble_eq_true rfl)) dc_7_20 ⟨Nat.le_of_ble_eq_true rfl, Nat.le_of_ble_eq_true rfl⟩) hS (fun q _ h => hFc q h) hFc (fun u t H1 locs ht hvm hw hB hz1 hk1 hS => ?_)
  obtain ⟨q4, hP1, hK1, hD1⟩ := hB
  rw [ht] at hP1
  obtain ⟨hP, hD⟩ := va_join (wr := [(h0, .inr (7, [.ref q1, .null, .null, .null, .null, .null, .null, .null, .null, .null, .null, .null, .int 0, .int 0, .int 0])), (q1, .inr (4, [.ref q2, .int 0])), (q2, .inl (cy 0, (32, .inl (fun _ => 0))))]) (w1 := [(q3, .inr (1, [.ref q4, .int 0, .int 0])), (q4, .inl (cy 0, (25, .inl (fun _ => 0))))]) hP hD [3] [0, 1, 2] rfl rfl (by decide) (by decide) hk1 hFc hP1 hD1
  generalize H1 = H at hP hS ⊢
  have hP : va_P (dC, dI) jn_cl [(h0, .inr (7, [.ref q1, .null, .null, .null, .null, .null, .null, .null, .null, .null, .null, .null, .int 0, .int 0, .int 0])), (q1, .inr (4, [.ref q2, .int 0])), (q2, .inl (cy 0, (32, .inl (fun _ => 0)))), (q3, .inr (1, [.ref q4, .int 0, .int 0])), (q4, .inl (cy 0, (25, .inl (fun _ => 0))))] H := hP
  have hD : va_D A [(h0, .inr (7, [.ref q1, .null, .null, .null, .null, .null, .null, .null, .null, .null, .null, .null, .int 0, .int 0, .int 0])), (q1, .inr (4, [.ref q2, .int 0])), (q2, .inl (cy 0, (32, .inl (fun _ => 0)))), (q3, .inr (1, [.ref q4, .int 0, .int 0])), (q4, .inl (cy 0, (25, .inl (fun _ => 0))))] := hD
  refine W.widen (k := 4) (n := 62) (Nat.le_refl _) (Nat.le_refl _) ?_
  refine va_putF (D := (dC, dI)) (ci := 7) (v := .ref q3) (ty := .object "BlobCorners$Grid") (C := "BlobCorners") (T := jn_T7) (N := 15) hx hb hts (fun w h => List.mem_cons_of_mem _ (js_wsg7 w h)) jn_ty7 jn_tyok7 jn_nm7 hown hK hP hD hS 0 rfl rfl 1 (by decide) (hts _ (List.mem_cons_of_mem _ (js_tg (jn_m1 206 rfl) rfl))) (fun _ h9 => h9) rfl hin2 rfl (by decide +kernel) rfl rfl (Nat.le_of_ble_eq_true rfl) dc_7_23 (fun H locs hP hD hS => ?_)
  have hP : va_P (dC, dI) jn_cl [(h0, .inr (7, [.ref q1, .ref q3, .null, .null, .null, .null, .null, .null, .null, .null, .null, .null, .int 0, .int 0, .int 0])), (q1, .inr (4, [.ref q2, .int 0])), (q2, .inl (cy 0, (32, .inl (fun _ => 0)))), (q3, .inr (1, [.ref q4, .int 0, .int 0])), (q4, .inl (cy 0, (25, .inl (fun _ => 0))))] H := hP
  have hD : va_D A [(h0, .inr (7, [.ref q1, .ref q3, .null, .null, .null, .null, .null, .null, .null, .null, .null, .null, .int 0, .int 0, .int 0])), (q1, .inr (4, [.ref q2, .int 0])), (q2, .inl (cy 0, (32, .inl (fun _ => 0)))), (q3, .inr (1, [.ref q4, .int 0, .int 0])), (q4, .inl (cy 0, (25, .inl (fun _ => 0))))] := hD
  refine lv_aload_n hx hb dc_7_26 rfl (lv_at hl 0 rfl) ?_
  refine va_new (ci := 1) (fs := [.null, .int 0, .int 0]) (C := "BlobCorners$Grid") (T := jn_T1) (N := 3) hx hb hts (fun w h => List.mem_cons_of_mem _ (js_wsg1 w h)) jn_ty1 jn_tyok1 hown (hts _ (List.mem_cons_of_mem _ (js_tg (jn_m1 40 rfl) rfl))) (hts _ (List.mem_cons_of_mem _ (js_tg (jn_m1 41 rfl) rfl))) (hts _ (List.mem_cons_of_mem _ (js_tg (jn_m1 3 rfl) rfl))) hK hP hD hS hA rfl (jc_df1 rfl) (Nat.le_of_ble_eq_true rfl) (Nat.le_of_ble_eq_true rfl) dc_7_27 (fun q5 H hP hD hS => ?_)
  have hP : va_P (dC, dI) jn_cl [(h0, .inr (7, [.ref q1, .ref q3, .null, .null, .null, .null, .null, .null, .null, .null, .null, .null, .int 0, .int 0, .int 0])), (q1, .inr (4, [.ref q2, .int 0])), (q2, .inl (cy 0, (32, .inl (fun _ => 0)))), (q3, .inr (1, [.ref q4, .int 0, .int 0])), (q4, .inl (cy 0, (25, .inl (fun _ => 0)))), (q5, .inr (1, [.null, .int 0, .int 0]))] H := hP
  have hD : va_D A [(h0, .inr (7, [.ref q1, .ref q3, .null, .null, .null, .null, .null, .null, .null, .null, .null, .null, .int 0, .int 0, .int 0])), (q1, .inr (4, [.ref q2, .int 0])), (q2, .inl (cy 0, (32, .inl (fun _ => 0)))), (q3, .inr (1, [.ref q4, .int 0, .int 0])), (q4, .inl (cy 0, (25, .inl (fun _ => 0)))), (q5, .inr (1, [.null, .int 0, .int 0]))] := hD
  refine W.widen (k := 5) (n := 65) (Nat.le_refl _) (Nat.le_refl _) ?_
  refine lv_dup hx hb dc_7_30 rfl ?_
  have hPc := hP.sub (ws' := [(q5, .inr (1, [.null, .int 0, .int 0]))]) [5] rfl
  have hDc := hD.sub (ws' := [(q5, .inr (1, [.null, .int 0, .int 0]))]) [5] (by decide) rfl
  have hFc := va_free (wc := [(q5, .inr (1, [.null, .int 0, .int 0]))]) hD hS hA [5] rfl
  refine va_callv (va_runIN (As := []) (rest := [.ref q5, .ref h0]) ⟨hx, hb, hml, hown, hts⟩ (c_ini1 l dC dI cy q5 H.size ) ⟨va_cnB 0 hts (jc_good7_1) rfl rfl rfl (hN _ (jn_m1 42 rfl) rfl) (hts _ (List.mem_cons_of_mem _ (js_tg (jn_m1 3 rfl) rfl))) (by decide +kernel) ⟨Nat.le_of_ble_eq_true rfl, Nat.le_of_ble_eq_true rfl⟩, rfl, hts _ (List.mem_cons_of_mem _ (js_tg (jn_m1 43 rfl) rfl))⟩ ⟨jc_blind, fun U hU hW => ⟨rfl, by rw [hU], by rw [hU]; exact hPc, va_K.moved hW.alike hK, hDc.weaken (fun _ _ _ _ => trivial), js_N_at hW hN⟩⟩ rfl rfl hl.1 rfl (lv_room (Nat.le_of_ble_eq_true rfl)) dc_7_31 ⟨Nat.le_of_ble_eq_true rfl, Nat.le_of_ble_eq_true rfl⟩) hS (fun q _ h => hFc q h) hFc (fun u t H1 locs ht hvm hw hB hz1 hk1 hS => ?_)
  obtain ⟨q6, hP1, hK1, hD1⟩ := hB
  rw [ht] at hP1
  obtain ⟨hP, hD⟩ := va_join (wr := [(h0, .inr (7, [.ref q1, .ref q3, .null, .null, .null, .null, .null, .null, .null, .null, .null, .null, .int 0, .int 0, .int 0])), (q1, .inr (4, [.ref q2, .int 0])), (q2, .inl (cy 0, (32, .inl (fun _ => 0)))), (q3, .inr (1, [.ref q4, .int 0, .int 0])), (q4, .inl (cy 0, (25, .inl (fun _ => 0))))]) (w1 := [(q5, .inr (1, [.ref q6, .int 0, .int 0])), (q6, .inl (cy 0, (25, .inl (fun _ => 0))))]) hP hD [5] [0, 1, 2, 3, 4] rfl rfl (by decide) (by decide) hk1 hFc hP1 hD1
  generalize H1 = H at hP hS ⊢
  have hP : va_P (dC, dI) jn_cl [(h0, .inr (7, [.ref q1, .ref q3, .null, .null, .null, .null, .null, .null, .null, .null, .null, .null, .int 0, .int 0, .int 0])), (q1, .inr (4, [.ref q2, .int 0])), (q2, .inl (cy 0, (32, .inl (fun _ => 0)))), (q3, .inr (1, [.ref q4, .int 0, .int 0])), (q4, .inl (cy 0, (25, .inl (fun _ => 0)))), (q5, .inr (1, [.ref q6, .int 0, .int 0])), (q6, .inl (cy 0, (25, .inl (fun _ => 0))))] H := hP
  have hD : va_D A [(h0, .inr (7, [.ref q1, .ref q3, .null, .null, .null, .null, .null, .null, .null, .null, .null, .null, .int 0, .int 0, .int 0])), (q1, .inr (4, [.ref q2, .int 0])), (q2, .inl (cy 0, (32, .inl (fun _ => 0)))), (q3, .inr (1, [.ref q4, .int 0, .int 0])), (q4, .inl (cy 0, (25, .inl (fun _ => 0)))), (q5, .inr (1, [.ref q6, .int 0, .int 0])), (q6, .inl (cy 0, (25, .inl (fun _ => 0))))] := hD
  refine W.widen (k := 6) (n := 90) (Nat.le_refl _) (Nat.le_refl _) ?_
  refine va_putF (D := (dC, dI)) (ci := 7) (v := .ref q5) (ty := .object "BlobCorners$Grid") (C := "BlobCorners") (T := jn_T7) (N := 15) hx hb hts (fun w h => List.mem_cons_of_mem _ (js_wsg7 w h)) jn_ty7 jn_tyok7 jn_nm7 hown hK hP hD hS 0 rfl rfl 2 (by decide) (hts _ (List.mem_cons_of_mem _ (js_tg (jn_m1 207 rfl) rfl))) (fun _ h9 => h9) rfl hin2 rfl (by decide +kernel) rfl rfl (Nat.le_of_ble_eq_true rfl) dc_7_34 (fun H locs hP hD hS => ?_)
  have hP : va_P (dC, dI) jn_cl [(h0, .inr (7, [.ref q1, .ref q3, .ref q5, .null, .null, .null, .null, .null, .null, .null, .null, .null, .int 0, .int 0, .int 0])), (q1, .inr (4, [.ref q2, .int 0])), (q2, .inl (cy 0, (32, .inl (fun _ => 0)))), (q3, .inr (1, [.ref q4, .int 0, .int 0])), (q4, .inl (cy 0, (25, .inl (fun _ => 0)))), (q5, .inr (1, [.ref q6, .int 0, .int 0])), (q6, .inl (cy 0, (25, .inl (fun _ => 0))))] H := hP
  have hD : va_D A [(h0, .inr (7, [.ref q1, .ref q3, .ref q5, .null, .null, .null, .null, .null, .null, .null, .null, .null, .int 0, .int 0, .int 0])), (q1, .inr (4, [.ref q2, .int 0])), (q2, .inl (cy 0, (32, .inl (fun _ => 0)))), (q3, .inr (1, [.ref q4, .int 0, .int 0])), (q4, .inl (cy 0, (25, .inl (fun _ => 0)))), (q5, .inr (1, [.ref q6, .int 0, .int 0])), (q6, .inl (cy 0, (25, .inl (fun _ => 0))))] := hD
  refine lv_aload_n hx hb dc_7_37 rfl (lv_at hl 0 rfl) ?_
  refine va_new (ci := 1) (fs := [.null, .int 0, .int 0]) (C := "BlobCorners$Grid") (T := jn_T1) (N := 3) hx hb hts (fun w h => List.mem_cons_of_mem _ (js_wsg1 w h)) jn_ty1 jn_tyok1 hown (hts _ (List.mem_cons_of_mem _ (js_tg (jn_m1 40 rfl) rfl))) (hts _ (List.mem_cons_of_mem _ (js_tg (jn_m1 41 rfl) rfl))) (hts _ (List.mem_cons_of_mem _ (js_tg (jn_m1 3 rfl) rfl))) hK hP hD hS hA rfl (jc_df1 rfl) (Nat.le_of_ble_eq_true rfl) (Nat.le_of_ble_eq_true rfl) dc_7_38 (fun q7 H hP hD hS => ?_)
  have hP : va_P (dC, dI) jn_cl [(h0, .inr (7, [.ref q1, .ref q3, .ref q5, .null, .null, .null, .null, .null, .null, .null, .null, .null, .int 0, .int 0, .int 0])), (q1, .inr (4, [.ref q2, .int 0])), (q2, .inl (cy 0, (32, .inl (fun _ => 0)))), (q3, .inr (1, [.ref q4, .int 0, .int 0])), (q4, .inl (cy 0, (25, .inl (fun _ => 0)))), (q5, .inr (1, [.ref q6, .int 0, .int 0])), (q6, .inl (cy 0, (25, .inl (fun _ => 0)))), (q7, .inr (1, [.null, .int 0, .int 0]))] H := hP
  have hD : va_D A [(h0, .inr (7, [.ref q1, .ref q3, .ref q5, .null, .null, .null, .null, .null, .null, .null, .null, .null, .int 0, .int 0, .int 0])), (q1, .inr (4, [.ref q2, .int 0])), (q2, .inl (cy 0, (32, .inl (fun _ => 0)))), (q3, .inr (1, [.ref q4, .int 0, .int 0])), (q4, .inl (cy 0, (25, .inl (fun _ => 0)))), (q5, .inr (1, [.ref q6, .int 0, .int 0])), (q6, .inl (cy 0, (25, .inl (fun _ => 0)))), (q7, .inr (1, [.null, .int 0, .int 0]))] := hD
  refine W.widen (k := 7) (n := 93) (Nat.le_refl _) (Nat.le_refl _) ?_
  refine lv_dup hx hb dc_7_41 rfl ?_
  have hPc := hP.sub (ws' := [(q7, .inr (1, [.null, .int 0, .int 0]))]) [7] rfl
  have hDc := hD.sub (ws' := [(q7, .inr (1, [.null, .int 0, .int 0]))]) [7] (by decide) rfl
  have hFc := va_free (wc := [(q7, .inr (1, [.null, .int 0, .int 0]))]) hD hS hA [7] rfl
  refine va_callv (va_runIN (As := []) (rest := [.ref q7, .ref h0]) ⟨hx, hb, hml, hown, hts⟩ (c_ini1 l dC dI cy q7 H.size ) ⟨va_cnB 0 hts (jc_good7_1) rfl rfl rfl (hN _ (jn_m1 42 rfl) rfl) (hts _ (List.mem_cons_of_mem _ (js_tg (jn_m1 3 rfl) rfl))) (by decide +kernel) ⟨Nat.le_of_ble_eq_true rfl, Nat.le_of_ble_eq_true rfl⟩, rfl, hts _ (List.mem_cons_of_mem _ (js_tg (jn_m1 43 rfl) rfl))⟩ ⟨jc_blind, fun U hU hW => ⟨rfl, by rw [hU], by rw [hU]; exact hPc, va_K.moved hW.alike hK, hDc.weaken (fun _ _ _ _ => trivial), js_N_at hW hN⟩⟩ rfl rfl hl.1 rfl (lv_room (Nat.le_of_ble_eq_true rfl)) dc_7_42 ⟨Nat.le_of_ble_eq_true rfl, Nat.le_of_ble_eq_true rfl⟩) hS (fun q _ h => hFc q h) hFc (fun u t H1 locs ht hvm hw hB hz1 hk1 hS => ?_)
  obtain ⟨q8, hP1, hK1, hD1⟩ := hB
  rw [ht] at hP1
  obtain ⟨hP, hD⟩ := va_join (wr := [(h0, .inr (7, [.ref q1, .ref q3, .ref q5, .null, .null, .null, .null, .null, .null, .null, .null, .null, .int 0, .int 0, .int 0])), (q1, .inr (4, [.ref q2, .int 0])), (q2, .inl (cy 0, (32, .inl (fun _ => 0)))), (q3, .inr (1, [.ref q4, .int 0, .int 0])), (q4, .inl (cy 0, (25, .inl (fun _ => 0)))), (q5, .inr (1, [.ref q6, .int 0, .int 0])), (q6, .inl (cy 0, (25, .inl (fun _ => 0))))]) (w1 := [(q7, .inr (1, [.ref q8, .int 0, .int 0])), (q8, .inl (cy 0, (25, .inl (fun _ => 0))))]) hP hD [7] [0, 1, 2, 3, 4, 5, 6] rfl rfl (by decide) (by decide) hk1 hFc hP1 hD1
  generalize H1 = H at hP hS ⊢
  have hP : va_P (dC, dI) jn_cl [(h0, .inr (7, [.ref q1, .ref q3, .ref q5, .null, .null, .null, .null, .null, .null, .null, .null, .null, .int 0, .int 0, .int 0])), (q1, .inr (4, [.ref q2, .int 0])), (q2, .inl (cy 0, (32, .inl (fun _ => 0)))), (q3, .inr (1, [.ref q4, .int 0, .int 0])), (q4, .inl (cy 0, (25, .inl (fun _ => 0)))), (q5, .inr (1, [.ref q6, .int 0, .int 0])), (q6, .inl (cy 0, (25, .inl (fun _ => 0)))), (q7, .inr (1, [.ref q8, .int 0, .int 0])), (q8, .inl (cy 0, (25, .inl (fun _ => 0))))] H := hP
  have hD : va_D A [(h0, .inr (7, [.ref q1, .ref q3, .ref q5, .null, .null, .null, .null, .null, .null, .null, .null, .null, .int 0, .int 0, .int 0])), (q1, .inr (4, [.ref q2, .int 0])), (q2, .inl (cy 0, (32, .inl (fun _ => 0)))), (q3, .inr (1, [.ref q4, .int 0, .int 0])), (q4, .inl (cy 0, (25, .inl (fun _ => 0)))), (q5, .inr (1, [.ref q6, .int 0, .int 0])), (q6, .inl (cy 0, (25, .inl (fun _ => 0)))), (q7, .inr (1, [.ref q8, .int 0, .int 0])), (q8, .inl (cy 0, (25, .inl (fun _ => 0))))] := hD
  refine W.widen (k := 8) (n := 118) (Nat.le_refl _) (Nat.le_refl _) ?_
  refine va_putF (D := (dC, dI)) (ci := 7) (v := .ref q7) (ty := .object "BlobCorners$Grid") (C := "BlobCorners") (T := jn_T7) (N := 15) hx hb hts (fun w h => List.mem_cons_of_mem _ (js_wsg7 w h)) jn_ty7 jn_tyok7 jn_nm7 hown hK hP hD hS 0 rfl rfl 3 (by decide) (hts _ (List.mem_cons_of_mem _ (js_tg (jn_m1 208 rfl) rfl))) (fun _ h9 => h9) rfl hin2 rfl (by decide +kernel) rfl rfl (Nat.le_of_ble_eq_true rfl) dc_7_45 (fun H locs hP hD hS => ?_)
  have hP : va_P (dC, dI) jn_cl [(h0, .inr (7, [.ref q1, .ref q3, .ref q5, .ref q7, .null, .null, .null, .null, .null, .null, .null, .null, .int 0, .int 0, .int 0])), (q1, .inr (4, [.ref q2, .int 0])), (q2, .inl (cy 0, (32, .inl (fun _ => 0)))), (q3, .inr (1, [.ref q4, .int 0, .int 0])), (q4, .inl (cy 0, (25, .inl (fun _ => 0)))), (q5, .inr (1, [.ref q6, .int 0, .int 0])), (q6, .inl (cy 0, (25, .inl (fun _ => 0)))), (q7, .inr (1, [.ref q8, .int 0, .int 0])), (q8, .inl (cy 0, (25, .inl (fun _ => 0))))] H := hP
  have hD : va_D A [(h0, .inr (7, [.ref q1, .ref q3, .ref q5, .ref q7, .null, .null, .null, .null, .null, .null, .null, .null, .int 0, .int 0, .int 0])), (q1, .inr (4, [.ref q2, .int 0])), (q2, .inl (cy 0, (32, .inl (fun _ => 0)))), (q3, .inr (1, [.ref q4, .int 0, .int 0])), (q4, .inl (cy 0, (25, .inl (fun _ => 0)))), (q5, .inr (1, [.ref q6, .int 0, .int 0])), (q6, .inl (cy 0, (25, .inl (fun _ => 0)))), (q7, .inr (1, [.ref q8, .int 0, .int 0])), (q8, .inl (cy 0, (25, .inl (fun _ => 0))))] := hD
  refine lv_aload_n hx hb dc_7_48 rfl (lv_at hl 0 rfl) ?_
  refine va_new (ci := 6) (fs := [.null, .null, .null, .int 0]) (C := "BlobCorners$Seen") (T := jn_T6) (N := 4) hx hb hts (fun w h => List.mem_cons_of_mem _ (js_wsg6 w h)) jn_ty6 jn_tyok6 hown (hts _ (List.mem_cons_of_mem _ (js_tg (jn_m1 60 rfl) rfl))) (hts _ (List.mem_cons_of_mem _ (js_tg (jn_m1 61 rfl) rfl))) (hts _ (List.mem_cons_of_mem _ (js_tg (jn_m1 4 rfl) rfl))) hK hP hD hS hA rfl (jc_df6 rfl) (Nat.le_of_ble_eq_true rfl) (Nat.le_of_ble_eq_true rfl) dc_7_49 (fun q9 H hP hD hS => ?_)
  have hP : va_P (dC, dI) jn_cl [(h0, .inr (7, [.ref q1, .ref q3, .ref q5, .ref q7, .null, .null, .null, .null, .null, .null, .null, .null, .int 0, .int 0, .int 0])), (q1, .inr (4, [.ref q2, .int 0])), (q2, .inl (cy 0, (32, .inl (fun _ => 0)))), (q3, .inr (1, [.ref q4, .int 0, .int 0])), (q4, .inl (cy 0, (25, .inl (fun _ => 0)))), (q5, .inr (1, [.ref q6, .int 0, .int 0])), (q6, .inl (cy 0, (25, .inl (fun _ => 0)))), (q7, .inr (1, [.ref q8, .int 0, .int 0])), (q8, .inl (cy 0, (25, .inl (fun _ => 0)))), (q9, .inr (6, [.null, .null, .null, .int 0]))] H := hP
  have hD : va_D A [(h0, .inr (7, [.ref q1, .ref q3, .ref q5, .ref q7, .null, .null, .null, .null, .null, .null, .null, .null, .int 0, .int 0, .int 0])), (q1, .inr (4, [.ref q2, .int 0])), (q2, .inl (cy 0, (32, .inl (fun _ => 0)))), (q3, .inr (1, [.ref q4, .int 0, .int 0])), (q4, .inl (cy 0, (25, .inl (fun _ => 0)))), (q5, .inr (1, [.ref q6, .int 0, .int 0])), (q6, .inl (cy 0, (25, .inl (fun _ => 0)))), (q7, .inr (1, [.ref q8, .int 0, .int 0])), (q8, .inl (cy 0, (25, .inl (fun _ => 0)))), (q9, .inr (6, [.null, .null, .null, .int 0]))] := hD
  refine W.widen (k := 9) (n := 122) (Nat.le_refl _) (Nat.le_refl _) ?_
  refine lv_dup hx hb dc_7_52 rfl ?_
  have hPc := hP.sub (ws' := [(q9, .inr (6, [.null, .null, .null, .int 0]))]) [9] rfl
  have hDc := hD.sub (ws' := [(q9, .inr (6, [.null, .null, .null, .int 0]))]) [9] (by decide) rfl
  have hFc := va_free (wc := [(q9, .inr (6, [.null, .null, .null, .int 0]))]) hD hS hA [9] rfl
  refine va_callv (va_runIN (As := []) (rest := [.ref q9, .ref h0]) ⟨hx, hb, hml, hown, hts⟩ (c_ini6 l dC dI cy q9 H.size ) ⟨va_cnB 0 hts (jc_good7_6) rfl rfl rfl (hN _ (jn_m1 62 rfl) rfl) (hts _ (List.mem_cons_of_mem _ (js_tg (jn_m1 4 rfl) rfl))) (by decide +kernel) ⟨Nat.le_of_ble_eq_true rfl, Nat.le_of_ble_eq_true rfl⟩, rfl, hts _ (List.mem_cons_of_mem _ (js_tg (jn_m1 63 rfl) rfl))⟩ ⟨jc_blind, fun U hU hW => ⟨rfl, by rw [hU], by rw [hU]; exact hPc, va_K.moved hW.alike hK, hDc.weaken (fun _ _ _ _ => trivial), js_N_at hW hN⟩⟩ rfl rfl hl.1 rfl (lv_room (Nat.le_of_ble_eq_true rfl)) dc_7_53 ⟨Nat.le_of_ble_eq_true rfl, Nat.le_of_ble_eq_true rfl⟩) hS (fun q _ h => hFc q h) hFc (fun u t H1 locs ht hvm hw hB hz1 hk1 hS => ?_)
  obtain ⟨q10, q11, q12, hP1, hK1, hD1⟩ := hB
  rw [ht] at hP1
  obtain ⟨hP, hD⟩ := va_join (wr := [(h0, .inr (7, [.ref q1, .ref q3, .ref q5, .ref q7, .null, .null, .null, .null, .null, .null, .null, .null, .int 0, .int 0, .int 0])), (q1, .inr (4, [.ref q2, .int 0])), (q2, .inl (cy 0, (32, .inl (fun _ => 0)))), (q3, .inr (1, [.ref q4, .int 0, .int 0])), (q4, .inl (cy 0, (25, .inl (fun _ => 0)))), (q5, .inr (1, [.ref q6, .int 0, .int 0])), (q6, .inl (cy 0, (25, .inl (fun _ => 0)))), (q7, .inr (1, [.ref q8, .int 0, .int 0])), (q8, .inl (cy 0, (25, .inl (fun _ => 0))))]) (w1 := [(q9, .inr (6, [.ref q10, .ref q11, .ref q12, .int 0])), (q10, .inl (cy 0, (6, .inl (fun _ => 0)))), (q11, .inl (cy 0, (6, .inl (fun _ => 0)))), (q12, .inl (cy 3, (6, .inl (fun _ => 0))))]) hP hD [9] [0, 1, 2, 3, 4, 5, 6, 7, 8] rfl rfl (by decide) (by decide) hk1 hFc hP1 hD1
  generalize H1 = H at hP hS ⊢
  have hP : va_P (dC, dI) jn_cl [(h0, .inr (7, [.ref q1, .ref q3, .ref q5, .ref q7, .null, .null, .null, .null, .null, .null, .null, .null, .int 0, .int 0, .int 0])), (q1, .inr (4, [.ref q2, .int 0])), (q2, .inl (cy 0, (32, .inl (fun _ => 0)))), (q3, .inr (1, [.ref q4, .int 0, .int 0])), (q4, .inl (cy 0, (25, .inl (fun _ => 0)))), (q5, .inr (1, [.ref q6, .int 0, .int 0])), (q6, .inl (cy 0, (25, .inl (fun _ => 0)))), (q7, .inr (1, [.ref q8, .int 0, .int 0])), (q8, .inl (cy 0, (25, .inl (fun _ => 0)))), (q9, .inr (6, [.ref q10, .ref q11, .ref q12, .int 0])), (q10, .inl (cy 0, (6, .inl (fun _ => 0)))), (q11, .inl (cy 0, (6, .inl (fun _ => 0)))), (q12, .inl (cy 3, (6, .inl (fun _ => 0))))] H := hP
  have hD : va_D A [(h0, .inr (7, [.ref q1, .ref q3, .ref q5, .ref q7, .null, .null, .null, .null, .null, .null, .null, .null, .int 0, .int 0, .int 0])), (q1, .inr (4, [.ref q2, .int 0])), (q2, .inl (cy 0, (32, .inl (fun _ => 0)))), (q3, .inr (1, [.ref q4, .int 0, .int 0])), (q4, .inl (cy 0, (25, .inl (fun _ => 0)))), (q5, .inr (1, [.ref q6, .int 0, .int 0])), (q6, .inl (cy 0, (25, .inl (fun _ => 0)))), (q7, .inr (1, [.ref q8, .int 0, .int 0])), (q8, .inl (cy 0, (25, .inl (fun _ => 0)))), (q9, .inr (6, [.ref q10, .ref q11, .ref q12, .int 0])), (q10, .inl (cy 0, (6, .inl (fun _ => 0)))), (q11, .inl (cy 0, (6, .inl (fun _ => 0)))), (q12, .inl (cy 3, (6, .inl (fun _ => 0))))] := hD
  refine W.widen (k := 12) (n := 140) (Nat.le_refl _) (Nat.le_refl _) ?_
  refine va_putF (D := (dC, dI)) (ci := 7) (v := .ref q9) (ty := .object "BlobCorners$Seen") (C := "BlobCorners") (T := jn_T7) (N := 15) hx hb hts (fun w h => List.mem_cons_of_mem _ (js_wsg7 w h)) jn_ty7 jn_tyok7 jn_nm7 hown hK hP hD hS 0 rfl rfl 4 (by decide) (hts _ (List.mem_cons_of_mem _ (js_tg (jn_m1 209 rfl) rfl))) (fun _ h9 => h9) rfl hin2 rfl (by decide +kernel) rfl rfl (Nat.le_of_ble_eq_true rfl) dc_7_56 (fun H locs hP hD hS => ?_)
  have hP : va_P (dC, dI) jn_cl [(h0, .inr (7, [.ref q1, .ref q3, .ref q5, .ref q7, .ref q9, .null, .null, .null, .null, .null, .null, .null, .int 0, .int 0, .int 0])), (q1, .inr (4, [.ref q2, .int 0])), (q2, .inl (cy 0, (32, .inl (fun _ => 0)))), (q3, .inr (1, [.ref q4, .int 0, .int 0])), (q4, .inl (cy 0, (25, .inl (fun _ => 0)))), (q5, .inr (1, [.ref q6, .int 0, .int 0])), (q6, .inl (cy 0, (25, .inl (fun _ => 0)))), (q7, .inr (1, [.ref q8, .int 0, .int 0])), (q8, .inl (cy 0, (25, .inl (fun _ => 0)))), (q9, .inr (6, [.ref q10, .ref q11, .ref q12, .int 0])), (q10, .inl (cy 0, (6, .inl (fun _ => 0)))), (q11, .inl (cy 0, (6, .inl (fun _ => 0)))), (q12, .inl (cy 3, (6, .inl (fun _ => 0))))] H := hP
  have hD : va_D A [(h0, .inr (7, [.ref q1, .ref q3, .ref q5, .ref q7, .ref q9, .null, .null, .null, .null, .null, .null, .null, .int 0, .int 0, .int 0])), (q1, .inr (4, [.ref q2, .int 0])), (q2, .inl (cy 0, (32, .inl (fun _ => 0)))), (q3, .inr (1, [.ref q4, .int 0, .int 0])), (q4, .inl (cy 0, (25, .inl (fun _ => 0)))), (q5, .inr (1, [.ref q6, .int 0, .int 0])), (q6, .inl (cy 0, (25, .inl (fun _ => 0)))), (q7, .inr (1, [.ref q8, .int 0, .int 0])), (q8, .inl (cy 0, (25, .inl (fun _ => 0)))), (q9, .inr (6, [.ref q10, .ref q11, .ref q12, .int 0])), (q10, .inl (cy 0, (6, .inl (fun _ => 0)))), (q11, .inl (cy 0, (6, .inl (fun _ => 0)))), (q12, .inl (cy 3, (6, .inl (fun _ => 0))))] := hD
  refine lv_aload_n hx hb dc_7_59 rfl (lv_at hl 0 rfl) ?_
  refine va_new (ci := 6) (fs := [.null, .null, .null, .int 0]) (C := "BlobCorners$Seen") (T := jn_T6) (N := 4) hx hb hts (fun w h => List.mem_cons_of_mem _ (js_wsg6 w h)) jn_ty6 jn_tyok6 hown (hts _ (List.mem_cons_of_mem _ (js_tg (jn_m1 60 rfl) rfl))) (hts _ (List.mem_cons_of_mem _ (js_tg (jn_m1 61 rfl) rfl))) (hts _ (List.mem_cons_of_mem _ (js_tg (jn_m1 4 rfl) rfl))) hK hP hD hS hA rfl (jc_df6 rfl) (Nat.le_of_ble_eq_true rfl) (Nat.le_of_ble_eq_true rfl) dc_7_60 (fun q13 H hP hD hS => ?_)
  have hP : va_P (dC, dI) jn_cl [(h0, .inr (7, [.ref q1, .ref q3, .ref q5, .ref q7, .ref q9, .null, .null, .null, .null, .null, .null, .null, .int 0, .int 0, .int 0])), (q1, .inr (4, [.ref q2, .int 0])), (q2, .inl (cy 0, (32, .inl (fun _ => 0)))), (q3, .inr (1, [.ref q4, .int 0, .int 0])), (q4, .inl (cy 0, (25, .inl (fun _ => 0)))), (q5, .inr (1, [.ref q6, .int 0, .int 0])), (q6, .inl (cy 0, (25, .inl (fun _ => 0)))), (q7, .inr (1, [.ref q8, .int 0, .int 0])), (q8, .inl (cy 0, (25, .inl (fun _ => 0)))), (q9, .inr (6, [.ref q10, .ref q11, .ref q12, .int 0])), (q10, .inl (cy 0, (6, .inl (fun _ => 0)))), (q11, .inl (cy 0, (6, .inl (fun _ => 0)))), (q12, .inl (cy 3, (6, .inl (fun _ => 0)))), (q13, .inr (6, [.null, .null, .null, .int 0]))] H := hP
  have hD : va_D A [(h0, .inr (7, [.ref q1, .ref q3, .ref q5, .ref q7, .ref q9, .null, .null, .null, .null, .null, .null, .null, .int 0, .int 0, .int 0])), (q1, .inr (4, [.ref q2, .int 0])), (q2, .inl (cy 0, (32, .inl (fun _ => 0)))), (q3, .inr (1, [.ref q4, .int 0, .int 0])), (q4, .inl (cy 0, (25, .inl (fun _ => 0)))), (q5, .inr (1, [.ref q6, .int 0, .int 0])), (q6, .inl (cy 0, (25, .inl (fun _ => 0)))), (q7, .inr (1, [.ref q8, .int 0, .int 0])), (q8, .inl (cy 0, (25, .inl (fun _ => 0)))), (q9, .inr (6, [.ref q10, .ref q11, .ref q12, .int 0])), (q10, .inl (cy 0, (6, .inl (fun _ => 0)))), (q11, .inl (cy 0, (6, .inl (fun _ => 0)))), (q12, .inl (cy 3, (6, .inl (fun _ => 0)))), (q13, .inr (6, [.null, .null, .null, .int 0]))] := hD
  refine W.widen (k := 13) (n := 144) (Nat.le_refl _) (Nat.le_refl _) ?_
  refine lv_dup hx hb dc_7_63 rfl ?_
  have hPc := hP.sub (ws' := [(q13, .inr (6, [.null, .null, .null, .int 0]))]) [13] rfl
  have hDc := hD.sub (ws' := [(q13, .inr (6, [.null, .null, .null, .int 0]))]) [13] (by decide) rfl
  have hFc := va_free (wc := [(q13, .inr (6, [.null, .null, .null, .int 0]))]) hD hS hA [13] rfl
  refine va_callv (va_runIN (As := []) (rest := [.ref q13, .ref h0]) ⟨hx, hb, hml, hown, hts⟩ (c_ini6 l dC dI cy q13 H.size ) ⟨va_cnB 0 hts (jc_good7_6) rfl rfl rfl (hN _ (jn_m1 62 rfl) rfl) (hts _ (List.mem_cons_of_mem _ (js_tg (jn_m1 4 rfl) rfl))) (by decide +kernel) ⟨Nat.le_of_ble_eq_true rfl, Nat.le_of_ble_eq_true rfl⟩, rfl, hts _ (List.mem_cons_of_mem _ (js_tg (jn_m1 63 rfl) rfl))⟩ ⟨jc_blind, fun U hU hW => ⟨rfl, by rw [hU], by rw [hU]; exact hPc, va_K.moved hW.alike hK, hDc.weaken (fun _ _ _ _ => trivial), js_N_at hW hN⟩⟩ rfl rfl hl.1 rfl (lv_room (Nat.le_of_ble_eq_true rfl)) dc_7_64 ⟨Nat.le_of_ble_eq_true rfl, Nat.le_of_ble_eq_true rfl⟩) hS (fun q _ h => hFc q h) hFc (fun u t H1 locs ht hvm hw hB hz1 hk1 hS => ?_)
  obtain ⟨q14, q15, q16, hP1, hK1, hD1⟩ := hB
  rw [ht] at hP1
  obtain ⟨hP, hD⟩ := va_join (wr := [(h0, .inr (7, [.ref q1, .ref q3, .ref q5, .ref q7, .ref q9, .null, .null, .null, .null, .null, .null, .null, .int 0, .int 0, .int 0])), (q1, .inr (4, [.ref q2, .int 0])), (q2, .inl (cy 0, (32, .inl (fun _ => 0)))), (q3, .inr (1, [.ref q4, .int 0, .int 0])), (q4, .inl (cy 0, (25, .inl (fun _ => 0)))), (q5, .inr (1, [.ref q6, .int 0, .int 0])), (q6, .inl (cy 0, (25, .inl (fun _ => 0)))), (q7, .inr (1, [.ref q8, .int 0, .int 0])), (q8, .inl (cy 0, (25, .inl (fun _ => 0)))), (q9, .inr (6, [.ref q10, .ref q11, .ref q12, .int 0])), (q10, .inl (cy 0, (6, .inl (fun _ => 0)))), (q11, .inl (cy 0, (6, .inl (fun _ => 0)))), (q12, .inl (cy 3, (6, .inl (fun _ => 0))))]) (w1 := [(q13, .inr (6, [.ref q14, .ref q15, .ref q16, .int 0])), (q14, .inl (cy 0, (6, .inl (fun _ => 0)))), (q15, .inl (cy 0, (6, .inl (fun _ => 0)))), (q16, .inl (cy 3, (6, .inl (fun _ => 0))))]) hP hD [13] [0, 1, 2, 3, 4, 5, 6, 7, 8, 9, 10, 11, 12] rfl rfl (by decide) (by decide) hk1 hFc hP1 hD1
  generalize H1 = H at hP hS ⊢
  have hP : va_P (dC, dI) jn_cl [(h0, .inr (7, [.ref q1, .ref q3, .ref q5, .ref q7, .ref q9, .null, .null, .null, .null, .null, .null, .null, .int 0, .int 0, .int 0])), (q1, .inr (4, [.ref q2, .int 0])), (q2, .inl (cy 0, (32, .inl (fun _ => 0)))), (q3, .inr (1, [.ref q4, .int 0, .int 0])), (q4, .inl (cy 0, (25, .inl (fun _ => 0)))), (q5, .inr (1, [.ref q6, .int 0, .int 0])), (q6, .inl (cy 0, (25, .inl (fun _ => 0)))), (q7, .inr (1, [.ref q8, .int 0, .int 0])), (q8, .inl (cy 0, (25, .inl (fun _ => 0)))), (q9, .inr (6, [.ref q10, .ref q11, .ref q12, .int 0])), (q10, .inl (cy 0, (6, .inl (fun _ => 0)))), (q11, .inl (cy 0, (6, .inl (fun _ => 0)))), (q12, .inl (cy 3, (6, .inl (fun _ => 0)))), (q13, .inr (6, [.ref q14, .ref q15, .ref q16, .int 0])), (q14, .inl (cy 0, (6, .inl (fun _ => 0)))), (q15, .inl (cy 0, (6, .inl (fun _ => 0)))), (q16, .inl (cy 3, (6, .inl (fun _ => 0))))] H := hP
  have hD : va_D A [(h0, .inr (7, [.ref q1, .ref q3, .ref q5, .ref q7, .ref q9, .null, .null, .null, .null, .null, .null, .null, .int 0, .int 0, .int 0])), (q1, .inr (4, [.ref q2, .int 0])), (q2, .inl (cy 0, (32, .inl (fun _ => 0)))), (q3, .inr (1, [.ref q4, .int 0, .int 0])), (q4, .inl (cy 0, (25, .inl (fun _ => 0)))), (q5, .inr (1, [.ref q6, .int 0, .int 0])), (q6, .inl (cy 0, (25, .inl (fun _ => 0)))), (q7, .inr (1, [.ref q8, .int 0, .int 0])), (q8, .inl (cy 0, (25, .inl (fun _ => 0)))), (q9, .inr (6, [.ref q10, .ref q11, .ref q12, .int 0])), (q10, .inl (cy 0, (6, .inl (fun _ => 0)))), (q11, .inl (cy 0, (6, .inl (fun _ => 0)))), (q12, .inl (cy 3, (6, .inl (fun _ => 0)))), (q13, .inr (6, [.ref q14, .ref q15, .ref q16, .int 0])), (q14, .inl (cy 0, (6, .inl (fun _ => 0)))), (q15, .inl (cy 0, (6, .inl (fun _ => 0)))), (q16, .inl (cy 3, (6, .inl (fun _ => 0))))] := hD
  refine W.widen (k := 16) (n := 162) (Nat.le_refl _) (Nat.le_refl _) ?_
  refine va_putF (D := (dC, dI)) (ci := 7) (v := .ref q13) (ty := .object "BlobCorners$Seen") (C := "BlobCorners") (T := jn_T7) (N := 15) hx hb hts (fun w h => List.mem_cons_of_mem _ (js_wsg7 w h)) jn_ty7 jn_tyok7 jn_nm7 hown hK hP hD hS 0 rfl rfl 5 (by decide) (hts _ (List.mem_cons_of_mem _ (js_tg (jn_m1 210 rfl) rfl))) (fun _ h9 => h9) rfl hin2 rfl (by decide +kernel) rfl rfl (Nat.le_of_ble_eq_true rfl) dc_7_67 (fun H locs hP hD hS => ?_)
  have hP : va_P (dC, dI) jn_cl [(h0, .inr (7, [.ref q1, .ref q3, .ref q5, .ref q7, .ref q9, .ref q13, .null, .null, .null, .null, .null, .null, .int 0, .int 0, .int 0])), (q1, .inr (4, [.ref q2, .int 0])), (q2, .inl (cy 0, (32, .inl (fun _ => 0)))), (q3, .inr (1, [.ref q4, .int 0, .int 0])), (q4, .inl (cy 0, (25, .inl (fun _ => 0)))), (q5, .inr (1, [.ref q6, .int 0, .int 0])), (q6, .inl (cy 0, (25, .inl (fun _ => 0)))), (q7, .inr (1, [.ref q8, .int 0, .int 0])), (q8, .inl (cy 0, (25, .inl (fun _ => 0)))), (q9, .inr (6, [.ref q10, .ref q11, .ref q12, .int 0])), (q10, .inl (cy 0, (6, .inl (fun _ => 0)))), (q11, .inl (cy 0, (6, .inl (fun _ => 0)))), (q12, .inl (cy 3, (6, .inl (fun _ => 0)))), (q13, .inr (6, [.ref q14, .ref q15, .ref q16, .int 0])), (q14, .inl (cy 0, (6, .inl (fun _ => 0)))), (q15, .inl (cy 0, (6, .inl (fun _ => 0)))), (q16, .inl (cy 3, (6, .inl (fun _ => 0))))] H := hP
  have hD : va_D A [(h0, .inr (7, [.ref q1, .ref q3, .ref q5, .ref q7, .ref q9, .ref q13, .null, .null, .null, .null, .null, .null, .int 0, .int 0, .int 0])), (q1, .inr (4, [.ref q2, .int 0])), (q2, .inl (cy 0, (32, .inl (fun _ => 0)))), (q3, .inr (1, [.ref q4, .int 0, .int 0])), (q4, .inl (cy 0, (25, .inl (fun _ => 0)))), (q5, .inr (1, [.ref q6, .int 0, .int 0])), (q6, .inl (cy 0, (25, .inl (fun _ => 0)))), (q7, .inr (1, [.ref q8, .int 0, .int 0])), (q8, .inl (cy 0, (25, .inl (fun _ => 0)))), (q9, .inr (6, [.ref q10, .ref q11, .ref q12, .int 0])), (q10, .inl (cy 0, (6, .inl (fun _ => 0)))), (q11, .inl (cy 0, (6, .inl (fun _ => 0)))), (q12, .inl (cy 3, (6, .inl (fun _ => 0)))), (q13, .inr (6, [.ref q14, .ref q15, .ref q16, .int 0])), (q14, .inl (cy 0, (6, .inl (fun _ => 0)))), (q15, .inl (cy 0, (6, .inl (fun _ => 0)))), (q16, .inl (cy 3, (6, .inl (fun _ => 0))))] := hD
  refine lv_aload_n hx hb dc_7_70 rfl (lv_at hl 0 rfl) ?_
  refine va_new (ci := 5) (fs := [.null, .null]) (C := "BlobCorners$Racks") (T := jn_T5) (N := 2) hx hb hts (fun w h => List.mem_cons_of_mem _ (js_wsg5 w h)) jn_ty5 jn_tyok5 hown (hts _ (List.mem_cons_of_mem _ (js_tg (jn_m1 81 rfl) rfl))) (hts _ (List.mem_cons_of_mem _ (js_tg (jn_m1 82 rfl) rfl))) (hts _ (List.mem_cons_of_mem _ (js_tg (jn_m1 5 rfl) rfl))) hK hP hD hS hA rfl (jc_df5 rfl) (Nat.le_of_ble_eq_true rfl) (Nat.le_of_ble_eq_true rfl) dc_7_71 (fun q17 H hP hD hS => ?_)
  have hP : va_P (dC, dI) jn_cl [(h0, .inr (7, [.ref q1, .ref q3, .ref q5, .ref q7, .ref q9, .ref q13, .null, .null, .null, .null, .null, .null, .int 0, .int 0, .int 0])), (q1, .inr (4, [.ref q2, .int 0])), (q2, .inl (cy 0, (32, .inl (fun _ => 0)))), (q3, .inr (1, [.ref q4, .int 0, .int 0])), (q4, .inl (cy 0, (25, .inl (fun _ => 0)))), (q5, .inr (1, [.ref q6, .int 0, .int 0])), (q6, .inl (cy 0, (25, .inl (fun _ => 0)))), (q7, .inr (1, [.ref q8, .int 0, .int 0])), (q8, .inl (cy 0, (25, .inl (fun _ => 0)))), (q9, .inr (6, [.ref q10, .ref q11, .ref q12, .int 0])), (q10, .inl (cy 0, (6, .inl (fun _ => 0)))), (q11, .inl (cy 0, (6, .inl (fun _ => 0)))), (q12, .inl (cy 3, (6, .inl (fun _ => 0)))), (q13, .inr (6, [.ref q14, .ref q15, .ref q16, .int 0])), (q14, .inl (cy 0, (6, .inl (fun _ => 0)))), (q15, .inl (cy 0, (6, .inl (fun _ => 0)))), (q16, .inl (cy 3, (6, .inl (fun _ => 0)))), (q17, .inr (5, [.null, .null]))] H := hP
  have hD : va_D A [(h0, .inr (7, [.ref q1, .ref q3, .ref q5, .ref q7, .ref q9, .ref q13, .null, .null, .null, .null, .null, .null, .int 0, .int 0, .int 0])), (q1, .inr (4, [.ref q2, .int 0])), (q2, .inl (cy 0, (32, .inl (fun _ => 0)))), (q3, .inr (1, [.ref q4, .int 0, .int 0])), (q4, .inl (cy 0, (25, .inl (fun _ => 0)))), (q5, .inr (1, [.ref q6, .int 0, .int 0])), (q6, .inl (cy 0, (25, .inl (fun _ => 0)))), (q7, .inr (1, [.ref q8, .int 0, .int 0])), (q8, .inl (cy 0, (25, .inl (fun _ => 0)))), (q9, .inr (6, [.ref q10, .ref q11, .ref q12, .int 0])), (q10, .inl (cy 0, (6, .inl (fun _ => 0)))), (q11, .inl (cy 0, (6, .inl (fun _ => 0)))), (q12, .inl (cy 3, (6, .inl (fun _ => 0)))), (q13, .inr (6, [.ref q14, .ref q15, .ref q16, .int 0])), (q14, .inl (cy 0, (6, .inl (fun _ => 0)))), (q15, .inl (cy 0, (6, .inl (fun _ => 0)))), (q16, .inl (cy 3, (6, .inl (fun _ => 0)))), (q17, .inr (5, [.null, .null]))] := hD
  refine W.widen (k := 17) (n := 164) (Nat.le_refl _) (Nat.le_refl _) ?_
  refine lv_dup hx hb dc_7_74 rfl ?_
  have hPc := hP.sub (ws' := [(q17, .inr (5, [.null, .null]))]) [17] rfl
  have hDc := hD.sub (ws' := [(q17, .inr (5, [.null, .null]))]) [17] (by decide) rfl
  have hFc := va_free (wc := [(q17, .inr (5, [.null, .null]))]) hD hS hA [17] rfl
  refine va_callv (va_runIN (As := []) (rest := [.ref q17, .ref h0]) ⟨hx, hb, hml, hown, hts⟩ (c_ini5 l dC dI cy q17 H.size ) ⟨va_cnB 0 hts (jc_good7_5) rfl rfl rfl (hN _ (jn_m1 83 rfl) rfl) (hts _ (List.mem_cons_of_mem _ (js_tg (jn_m1 5 rfl) rfl))) (by decide +kernel) ⟨Nat.le_of_ble_eq_true rfl, Nat.le_of_ble_eq_true rfl⟩, rfl, hts _ (List.mem_cons_of_mem _ (js_tg (jn_m1 84 rfl) rfl))⟩ ⟨jc_blind, fun U hU hW => ⟨rfl, by rw [hU], by rw [hU]; exact hPc, va_K.moved hW.alike hK, hDc.weaken (fun _ _ _ _ => trivial), js_N_at hW hN⟩⟩ rfl rfl hl.1 rfl (lv_room (Nat.le_of_ble_eq_true rfl)) dc_7_75 ⟨Nat.le_of_ble_eq_true rfl, Nat.le_of_ble_eq_true rfl⟩) hS (fun q _ h => hFc q h) hFc (fun u t H1 locs ht hvm hw hB hz1 hk1 hS => ?_)
  obtain ⟨q18, q19, hP1, hK1, hD1⟩ := hB
  rw [ht] at hP1
  obtain ⟨hP, hD⟩ := va_join (wr := [(h0, .inr (7, [.ref q1, .ref q3, .ref q5, .ref q7, .ref q9, .ref q13, .null, .null, .null, .null, .null, .null, .int 0, .int 0, .int 0])), (q1, .inr (4, [.ref q2, .int 0])), (q2, .inl (cy 0, (32, .inl (fun _ => 0)))), (q3, .inr (1, [.ref q4, .int 0, .int 0])), (q4, .inl (cy 0, (25, .inl (fun _ => 0)))), (q5, .inr (1, [.ref q6, .int 0, .int 0])), (q6, .inl (cy 0, (25, .inl (fun _ => 0)))), (q7, .inr (1, [.ref q8, .int 0, .int 0])), (q8, .inl (cy 0, (25, .inl (fun _ => 0)))), (q9, .inr (6, [.ref q10, .ref q11, .ref q12, .int 0])), (q10, .inl (cy 0, (6, .inl (fun _ => 0)))), (q11, .inl (cy 0, (6, .inl (fun _ => 0)))), (q12, .inl (cy 3, (6, .inl (fun _ => 0)))), (q13, .inr (6, [.ref q14, .ref q15, .ref q16, .int 0])), (q14, .inl (cy 0, (6, .inl (fun _ => 0)))), (q15, .inl (cy 0, (6, .inl (fun _ => 0)))), (q16, .inl (cy 3, (6, .inl (fun _ => 0))))]) (w1 := [(q17, .inr (5, [.ref q18, .ref q19])), (q18, .inl (cy 0, (15, .inl (fun _ => 0)))), (q19, .inl (cy 0, (5, .inl (fun _ => 0))))]) hP hD [17] [0, 1, 2, 3, 4, 5, 6, 7, 8, 9, 10, 11, 12, 13, 14, 15, 16] rfl rfl (by decide) (by decide) hk1 hFc hP1 hD1
  generalize H1 = H at hP hS ⊢
  have hP : va_P (dC, dI) jn_cl [(h0, .inr (7, [.ref q1, .ref q3, .ref q5, .ref q7, .ref q9, .ref q13, .null, .null, .null, .null, .null, .null, .int 0, .int 0, .int 0])), (q1, .inr (4, [.ref q2, .int 0])), (q2, .inl (cy 0, (32, .inl (fun _ => 0)))), (q3, .inr (1, [.ref q4, .int 0, .int 0])), (q4, .inl (cy 0, (25, .inl (fun _ => 0)))), (q5, .inr (1, [.ref q6, .int 0, .int 0])), (q6, .inl (cy 0, (25, .inl (fun _ => 0)))), (q7, .inr (1, [.ref q8, .int 0, .int 0])), (q8, .inl (cy 0, (25, .inl (fun _ => 0)))), (q9, .inr (6, [.ref q10, .ref q11, .ref q12, .int 0])), (q10, .inl (cy 0, (6, .inl (fun _ => 0)))), (q11, .inl (cy 0, (6, .inl (fun _ => 0)))), (q12, .inl (cy 3, (6, .inl (fun _ => 0)))), (q13, .inr (6, [.ref q14, .ref q15, .ref q16, .int 0])), (q14, .inl (cy 0, (6, .inl (fun _ => 0)))), (q15, .inl (cy 0, (6, .inl (fun _ => 0)))), (q16, .inl (cy 3, (6, .inl (fun _ => 0)))), (q17, .inr (5, [.ref q18, .ref q19])), (q18, .inl (cy 0, (15, .inl (fun _ => 0)))), (q19, .inl (cy 0, (5, .inl (fun _ => 0))))] H := hP
  have hD : va_D A [(h0, .inr (7, [.ref q1, .ref q3, .ref q5, .ref q7, .ref q9, .ref q13, .null, .null, .null, .null, .null, .null, .int 0, .int 0, .int 0])), (q1, .inr (4, [.ref q2, .int 0])), (q2, .inl (cy 0, (32, .inl (fun _ => 0)))), (q3, .inr (1, [.ref q4, .int 0, .int 0])), (q4, .inl (cy 0, (25, .inl (fun _ => 0)))), (q5, .inr (1, [.ref q6, .int 0, .int 0])), (q6, .inl (cy 0, (25, .inl (fun _ => 0)))), (q7, .inr (1, [.ref q8, .int 0, .int 0])), (q8, .inl (cy 0, (25, .inl (fun _ => 0)))), (q9, .inr (6, [.ref q10, .ref q11, .ref q12, .int 0])), (q10, .inl (cy 0, (6, .inl (fun _ => 0)))), (q11, .inl (cy 0, (6, .inl (fun _ => 0)))), (q12, .inl (cy 3, (6, .inl (fun _ => 0)))), (q13, .inr (6, [.ref q14, .ref q15, .ref q16, .int 0])), (q14, .inl (cy 0, (6, .inl (fun _ => 0)))), (q15, .inl (cy 0, (6, .inl (fun _ => 0)))), (q16, .inl (cy 3, (6, .inl (fun _ => 0)))), (q17, .inr (5, [.ref q18, .ref q19])), (q18, .inl (cy 0, (15, .inl (fun _ => 0)))), (q19, .inl (cy 0, (5, .inl (fun _ => 0))))] := hD
  refine W.widen (k := 19) (n := 184) (Nat.le_refl _) (Nat.le_refl _) ?_
  refine va_putF (D := (dC, dI)) (ci := 7) (v := .ref q17) (ty := .object "BlobCorners$Racks") (C := "BlobCorners") (T := jn_T7) (N := 15) hx hb hts (fun w h => List.mem_cons_of_mem _ (js_wsg7 w h)) jn_ty7 jn_tyok7 jn_nm7 hown hK hP hD hS 0 rfl rfl 6 (by decide) (hts _ (List.mem_cons_of_mem _ (js_tg (jn_m1 211 rfl) rfl))) (fun _ h9 => h9) rfl hin2 rfl (by decide +kernel) rfl rfl (Nat.le_of_ble_eq_true rfl) dc_7_78 (fun H locs hP hD hS => ?_)
  have hP : va_P (dC, dI) jn_cl [(h0, .inr (7, [.ref q1, .ref q3, .ref q5, .ref q7, .ref q9, .ref q13, .ref q17, .null, .null, .null, .null, .null, .int 0, .int 0, .int 0])), (q1, .inr (4, [.ref q2, .int 0])), (q2, .inl (cy 0, (32, .inl (fun _ => 0)))), (q3, .inr (1, [.ref q4, .int 0, .int 0])), (q4, .inl (cy 0, (25, .inl (fun _ => 0)))), (q5, .inr (1, [.ref q6, .int 0, .int 0])), (q6, .inl (cy 0, (25, .inl (fun _ => 0)))), (q7, .inr (1, [.ref q8, .int 0, .int 0])), (q8, .inl (cy 0, (25, .inl (fun _ => 0)))), (q9, .inr (6, [.ref q10, .ref q11, .ref q12, .int 0])), (q10, .inl (cy 0, (6, .inl (fun _ => 0)))), (q11, .inl (cy 0, (6, .inl (fun _ => 0)))), (q12, .inl (cy 3, (6, .inl (fun _ => 0)))), (q13, .inr (6, [.ref q14, .ref q15, .ref q16, .int 0])), (q14, .inl (cy 0, (6, .inl (fun _ => 0)))), (q15, .inl (cy 0, (6, .inl (fun _ => 0)))), (q16, .inl (cy 3, (6, .inl (fun _ => 0)))), (q17, .inr (5, [.ref q18, .ref q19])), (q18, .inl (cy 0, (15, .inl (fun _ => 0)))), (q19, .inl (cy 0, (5, .inl (fun _ => 0))))] H := hP
  have hD : va_D A [(h0, .inr (7, [.ref q1, .ref q3, .ref q5, .ref q7, .ref q9, .ref q13, .ref q17, .null, .null, .null, .null, .null, .int 0, .int 0, .int 0])), (q1, .inr (4, [.ref q2, .int 0])), (q2, .inl (cy 0, (32, .inl (fun _ => 0)))), (q3, .inr (1, [.ref q4, .int 0, .int 0])), (q4, .inl (cy 0, (25, .inl (fun _ => 0)))), (q5, .inr (1, [.ref q6, .int 0, .int 0])), (q6, .inl (cy 0, (25, .inl (fun _ => 0)))), (q7, .inr (1, [.ref q8, .int 0, .int 0])), (q8, .inl (cy 0, (25, .inl (fun _ => 0)))), (q9, .inr (6, [.ref q10, .ref q11, .ref q12, .int 0])), (q10, .inl (cy 0, (6, .inl (fun _ => 0)))), (q11, .inl (cy 0, (6, .inl (fun _ => 0)))), (q12, .inl (cy 3, (6, .inl (fun _ => 0)))), (q13, .inr (6, [.ref q14, .ref q15, .ref q16, .int 0])), (q14, .inl (cy 0, (6, .inl (fun _ => 0)))), (q15, .inl (cy 0, (6, .inl (fun _ => 0)))), (q16, .inl (cy 3, (6, .inl (fun _ => 0)))), (q17, .inr (5, [.ref q18, .ref q19])), (q18, .inl (cy 0, (15, .inl (fun _ => 0)))), (q19, .inl (cy 0, (5, .inl (fun _ => 0))))] := hD
  refine lv_aload_n hx hb dc_7_81 rfl (lv_at hl 0 rfl) ?_
  refine va_new (ci := 3) (fs := [.int 0, .int 0, .null, .null, .null, .null, .null, .null, .null, .null, .null, .null]) (C := "BlobCorners$Outlines") (T := jn_T3) (N := 12) hx hb hts (fun w h => List.mem_cons_of_mem _ (js_wsg3 w h)) jn_ty3 jn_tyok3 hown (hts _ (List.mem_cons_of_mem _ (js_tg (jn_m1 94 rfl) rfl))) (hts _ (List.mem_cons_of_mem _ (js_tg (jn_m1 95 rfl) rfl))) (hts _ (List.mem_cons_of_mem _ (js_tg (jn_m1 6 rfl) rfl))) hK hP hD hS hA rfl (jc_df3 rfl) (Nat.le_of_ble_eq_true rfl) (Nat.le_of_ble_eq_true rfl) dc_7_82 (fun q20 H hP hD hS => ?_)
  have hP : va_P (dC, dI) jn_cl [(h0, .inr (7, [.ref q1, .ref q3, .ref q5, .ref q7, .ref q9, .ref q13, .ref q17, .null, .null, .null, .null, .null, .int 0, .int 0, .int 0])), (q1, .inr (4, [.ref q2, .int 0])), (q2, .inl (cy 0, (32, .inl (fun _ => 0)))), (q3, .inr (1, [.ref q4, .int 0, .int 0])), (q4, .inl (cy 0, (25, .inl (fun _ => 0)))), (q5, .inr (1, [.ref q6, .int 0, .int 0])), (q6, .inl (cy 0, (25, .inl (fun _ => 0)))), (q7, .inr (1, [.ref q8, .int 0, .int 0])), (q8, .inl (cy 0, (25, .inl (fun _ => 0)))), (q9, .inr (6, [.ref q10, .ref q11, .ref q12, .int 0])), (q10, .inl (cy 0, (6, .inl (fun _ => 0)))), (q11, .inl (cy 0, (6, .inl (fun _ => 0)))), (q12, .inl (cy 3, (6, .inl (fun _ => 0)))), (q13, .inr (6, [.ref q14, .ref q15, .ref q16, .int 0])), (q14, .inl (cy 0, (6, .inl (fun _ => 0)))), (q15, .inl (cy 0, (6, .inl (fun _ => 0)))), (q16, .inl (cy 3, (6, .inl (fun _ => 0)))), (q17, .inr (5, [.ref q18, .ref q19])), (q18, .inl (cy 0, (15, .inl (fun _ => 0)))), (q19, .inl (cy 0, (5, .inl (fun _ => 0)))), (q20, .inr (3, [.int 0, .int 0, .null, .null, .null, .null, .null, .null, .null, .null, .null, .null]))] H := hP
  have hD : va_D A [(h0, .inr (7, [.ref q1, .ref q3, .ref q5, .ref q7, .ref q9, .ref q13, .ref q17, .null, .null, .null, .null, .null, .int 0, .int 0, .int 0])), (q1, .inr (4, [.ref q2, .int 0])), (q2, .inl (cy 0, (32, .inl (fun _ => 0)))), (q3, .inr (1, [.ref q4, .int 0, .int 0])), (q4, .inl (cy 0, (25, .inl (fun _ => 0)))), (q5, .inr (1, [.ref q6, .int 0, .int 0])), (q6, .inl (cy 0, (25, .inl (fun _ => 0)))), (q7, .inr (1, [.ref q8, .int 0, .int 0])), (q8, .inl (cy 0, (25, .inl (fun _ => 0)))), (q9, .inr (6, [.ref q10, .ref q11, .ref q12, .int 0])), (q10, .inl (cy 0, (6, .inl (fun _ => 0)))), (q11, .inl (cy 0, (6, .inl (fun _ => 0)))), (q12, .inl (cy 3, (6, .inl (fun _ => 0)))), (q13, .inr (6, [.ref q14, .ref q15, .ref q16, .int 0])), (q14, .inl (cy 0, (6, .inl (fun _ => 0)))), (q15, .inl (cy 0, (6, .inl (fun _ => 0)))), (q16, .inl (cy 3, (6, .inl (fun _ => 0)))), (q17, .inr (5, [.ref q18, .ref q19])), (q18, .inl (cy 0, (15, .inl (fun _ => 0)))), (q19, .inl (cy 0, (5, .inl (fun _ => 0)))), (q20, .inr (3, [.int 0, .int 0, .null, .null, .null, .null, .null, .null, .null, .null, .null, .null]))] := hD
  refine W.widen (k := 20) (n := 196) (Nat.le_refl _) (Nat.le_refl _) ?_
  refine lv_dup hx hb dc_7_85 rfl ?_
  have hPc := hP.sub (ws' := [(q20, .inr (3, [.int 0, .int 0, .null, .null, .null, .null, .null, .null, .null, .null, .null, .null]))]) [20] rfl
  have hDc := hD.sub (ws' := [(q20, .inr (3, [.int 0, .int 0, .null, .null, .null, .null, .null, .null, .null, .null, .null, .null]))]) [20] (by decide) rfl
  have hFc := va_free (wc := [(q20, .inr (3, [.int 0, .int 0, .null, .null, .null, .null, .null, .null, .null, .null, .null, .null]))]) hD hS hA [20] rfl
  refine va_callv (va_runIN (As := []) (rest := [.ref q20, .ref h0]) ⟨hx, hb, hml, hown, hts⟩ (c_ini3 l dC dI cy q20 H.size ) ⟨va_cnB 0 hts (jc_good7_3) rfl rfl rfl (hN _ (jn_m1 96 rfl) rfl) (hts _ (List.mem_cons_of_mem _ (js_tg (jn_m1 6 rfl) rfl))) (by decide +kernel) ⟨Nat.le_of_ble_eq_true rfl, Nat.le_of_ble_eq_true rfl⟩, rfl, hts _ (List.mem_cons_of_mem _ (js_tg (jn_m1 97 rfl) rfl))⟩ ⟨jc_blind, fun U hU hW => ⟨rfl, by rw [hU], by rw [hU]; exact hPc, va_K.moved hW.alike hK, hDc.weaken (fun _ _ _ _ => trivial), js_N_at hW hN⟩⟩ rfl rfl hl.1 rfl (lv_room (Nat.le_of_ble_eq_true rfl)) dc_7_86 ⟨Nat.le_of_ble_eq_true rfl, Nat.le_of_ble_eq_true rfl⟩) hS (fun q _ h => hFc q h) hFc (fun u t H1 locs ht hvm hw hB hz1 hk1 hS => ?_)
  obtain ⟨q21, q22, q23, q24, q25, q26, q27, q28, q29, q30, hP1, hK1, hD1⟩ := hB
  rw [ht] at hP1
  obtain ⟨hP, hD⟩ := va_join (wr := [(h0, .inr (7, [.ref q1, .ref q3, .ref q5, .ref q7, .ref q9, .ref q13, .ref q17, .null, .null, .null, .null, .null, .int 0, .int 0, .int 0])), (q1, .inr (4, [.ref q2, .int 0])), (q2, .inl (cy 0, (32, .inl (fun _ => 0)))), (q3, .inr (1, [.ref q4, .int 0, .int 0])), (q4, .inl (cy 0, (25, .inl (fun _ => 0)))), (q5, .inr (1, [.ref q6, .int 0, .int 0])), (q6, .inl (cy 0, (25, .inl (fun _ => 0)))), (q7, .inr (1, [.ref q8, .int 0, .int 0])), (q8, .inl (cy 0, (25, .inl (fun _ => 0)))), (q9, .inr (6, [.ref q10, .ref q11, .ref q12, .int 0])), (q10, .inl (cy 0, (6, .inl (fun _ => 0)))), (q11, .inl (cy 0, (6, .inl (fun _ => 0)))), (q12, .inl (cy 3, (6, .inl (fun _ => 0)))), (q13, .inr (6, [.ref q14, .ref q15, .ref q16, .int 0])), (q14, .inl (cy 0, (6, .inl (fun _ => 0)))), (q15, .inl (cy 0, (6, .inl (fun _ => 0)))), (q16, .inl (cy 3, (6, .inl (fun _ => 0)))), (q17, .inr (5, [.ref q18, .ref q19])), (q18, .inl (cy 0, (15, .inl (fun _ => 0)))), (q19, .inl (cy 0, (5, .inl (fun _ => 0))))]) (w1 := [(q20, .inr (3, [.int 0, .int 0, .ref q21, .ref q22, .ref q23, .ref q24, .ref q25, .ref q26, .ref q27, .ref q28, .ref q29, .ref q30])), (q21, .inl (cy 0, (15, .inl (fun _ => 0)))), (q22, .inl (cy 0, (15, .inl (fun _ => 0)))), (q23, .inl (cy 0, (15, .inl (fun _ => 0)))), (q24, .inl (cy 0, (60, .inl (fun _ => 0)))), (q25, .inl (cy 0, (60, .inl (fun _ => 0)))), (q26, .inl (cy 0, (60, .inl (fun _ => 0)))), (q27, .inl (cy 0, (60, .inl (fun _ => 0)))), (q28, .inl (cy 3, (60, .inl (fun _ => 0)))), (q29, .inl (cy 0, (36, .inl (fun _ => 0)))), (q30, .inl (cy 0, (36, .inl (fun _ => 0))))]) hP hD [20] [0, 1, 2, 3, 4, 5, 6, 7, 8, 9, 10, 11, 12, 13, 14, 15, 16, 17, 18, 19] rfl rfl (by decide) (by decide) hk1 hFc hP1 hD1
  generalize H1 = H at hP hS ⊢
  have hP : va_P (dC, dI) jn_cl [(h0, .inr (7, [.ref q1, .ref q3, .ref q5, .ref q7, .ref q9, .ref q13, .ref q17, .null, .null, .null, .null, .null, .int 0, .int 0, .int 0])), (q1, .inr (4, [.ref q2, .int 0])), (q2, .inl (cy 0, (32, .inl (fun _ => 0)))), (q3, .inr (1, [.ref q4, .int 0, .int 0])), (q4, .inl (cy 0, (25, .inl (fun _ => 0)))), (q5, .inr (1, [.ref q6, .int 0, .int 0])), (q6, .inl (cy 0, (25, .inl (fun _ => 0)))), (q7, .inr (1, [.ref q8, .int 0, .int 0])), (q8, .inl (cy 0, (25, .inl (fun _ => 0)))), (q9, .inr (6, [.ref q10, .ref q11, .ref q12, .int 0])), (q10, .inl (cy 0, (6, .inl (fun _ => 0)))), (q11, .inl (cy 0, (6, .inl (fun _ => 0)))), (q12, .inl (cy 3, (6, .inl (fun _ => 0)))), (q13, .inr (6, [.ref q14, .ref q15, .ref q16, .int 0])), (q14, .inl (cy 0, (6, .inl (fun _ => 0)))), (q15, .inl (cy 0, (6, .inl (fun _ => 0)))), (q16, .inl (cy 3, (6, .inl (fun _ => 0)))), (q17, .inr (5, [.ref q18, .ref q19])), (q18, .inl (cy 0, (15, .inl (fun _ => 0)))), (q19, .inl (cy 0, (5, .inl (fun _ => 0)))), (q20, .inr (3, [.int 0, .int 0, .ref q21, .ref q22, .ref q23, .ref q24, .ref q25, .ref q26, .ref q27, .ref q28, .ref q29, .ref q30])), (q21, .inl (cy 0, (15, .inl (fun _ => 0)))), (q22, .inl (cy 0, (15, .inl (fun _ => 0)))), (q23, .inl (cy 0, (15, .inl (fun _ => 0)))), (q24, .inl (cy 0, (60, .inl (fun _ => 0)))), (q25, .inl (cy 0, (60, .inl (fun _ => 0)))), (q26, .inl (cy 0, (60, .inl (fun _ => 0)))), (q27, .inl (cy 0, (60, .inl (fun _ => 0)))), (q28, .inl (cy 3, (60, .inl (fun _ => 0)))), (q29, .inl (cy 0, (36, .inl (fun _ => 0)))), (q30, .inl (cy 0, (36, .inl (fun _ => 0))))] H := hP
  have hD : va_D A [(h0, .inr (7, [.ref q1, .ref q3, .ref q5, .ref q7, .ref q9, .ref q13, .ref q17, .null, .null, .null, .null, .null, .int 0, .int 0, .int 0])), (q1, .inr (4, [.ref q2, .int 0])), (q2, .inl (cy 0, (32, .inl (fun _ => 0)))), (q3, .inr (1, [.ref q4, .int 0, .int 0])), (q4, .inl (cy 0, (25, .inl (fun _ => 0)))), (q5, .inr (1, [.ref q6, .int 0, .int 0])), (q6, .inl (cy 0, (25, .inl (fun _ => 0)))), (q7, .inr (1, [.ref q8, .int 0, .int 0])), (q8, .inl (cy 0, (25, .inl (fun _ => 0)))), (q9, .inr (6, [.ref q10, .ref q11, .ref q12, .int 0])), (q10, .inl (cy 0, (6, .inl (fun _ => 0)))), (q11, .inl (cy 0, (6, .inl (fun _ => 0)))), (q12, .inl (cy 3, (6, .inl (fun _ => 0)))), (q13, .inr (6, [.ref q14, .ref q15, .ref q16, .int 0])), (q14, .inl (cy 0, (6, .inl (fun _ => 0)))), (q15, .inl (cy 0, (6, .inl (fun _ => 0)))), (q16, .inl (cy 3, (6, .inl (fun _ => 0)))), (q17, .inr (5, [.ref q18, .ref q19])), (q18, .inl (cy 0, (15, .inl (fun _ => 0)))), (q19, .inl (cy 0, (5, .inl (fun _ => 0)))), (q20, .inr (3, [.int 0, .int 0, .ref q21, .ref q22, .ref q23, .ref q24, .ref q25, .ref q26, .ref q27, .ref q28, .ref q29, .ref q30])), (q21, .inl (cy 0, (15, .inl (fun _ => 0)))), (q22, .inl (cy 0, (15, .inl (fun _ => 0)))), (q23, .inl (cy 0, (15, .inl (fun _ => 0)))), (q24, .inl (cy 0, (60, .inl (fun _ => 0)))), (q25, .inl (cy 0, (60, .inl (fun _ => 0)))), (q26, .inl (cy 0, (60, .inl (fun _ => 0)))), (q27, .inl (cy 0, (60, .inl (fun _ => 0)))), (q28, .inl (cy 3, (60, .inl (fun _ => 0)))), (q29, .inl (cy 0, (36, .inl (fun _ => 0)))), (q30, .inl (cy 0, (36, .inl (fun _ => 0))))] := hD
  refine W.widen (k := 30) (n := 613) (Nat.le_refl _) (Nat.le_refl _) ?_
  refine va_putF (D := (dC, dI)) (ci := 7) (v := .ref q20) (ty := .object "BlobCorners$Outlines") (C := "BlobCorners") (T := jn_T7) (N := 15) hx hb hts (fun w h => List.mem_cons_of_mem _ (js_wsg7 w h)) jn_ty7 jn_tyok7 jn_nm7 hown hK hP hD hS 0 rfl rfl 7 (by decide) (hts _ (List.mem_cons_of_mem _ (js_tg (jn_m1 212 rfl) rfl))) (fun _ h9 => h9) rfl hin2 rfl (by decide +kernel) rfl rfl (Nat.le_of_ble_eq_true rfl) dc_7_89 (fun H locs hP hD hS => ?_)
  have hP : va_P (dC, dI) jn_cl [(h0, .inr (7, [.ref q1, .ref q3, .ref q5, .ref q7, .ref q9, .ref q13, .ref q17, .ref q20, .null, .null, .null, .null, .int 0, .int 0, .int 0])), (q1, .inr (4, [.ref q2, .int 0])), (q2, .inl (cy 0, (32, .inl (fun _ => 0)))), (q3, .inr (1, [.ref q4, .int 0, .int 0])), (q4, .inl (cy 0, (25, .inl (fun _ => 0)))), (q5, .inr (1, [.ref q6, .int 0, .int 0])), (q6, .inl (cy 0, (25, .inl (fun _ => 0)))), (q7, .inr (1, [.ref q8, .int 0, .int 0])), (q8, .inl (cy 0, (25, .inl (fun _ => 0)))), (q9, .inr (6, [.ref q10, .ref q11, .ref q12, .int 0])), (q10, .inl (cy 0, (6, .inl (fun _ => 0)))), (q11, .inl (cy 0, (6, .inl (fun _ => 0)))), (q12, .inl (cy 3, (6, .inl (fun _ => 0)))), (q13, .inr (6, [.ref q14, .ref q15, .ref q16, .int 0])), (q14, .inl (cy 0, (6, .inl (fun _ => 0)))), (q15, .inl (cy 0, (6, .inl (fun _ => 0)))), (q16, .inl (cy 3, (6, .inl (fun _ => 0)))), (q17, .inr (5, [.ref q18, .ref q19])), (q18, .inl (cy 0, (15, .inl (fun _ => 0)))), (q19, .inl (cy 0, (5, .inl (fun _ => 0)))), (q20, .inr (3, [.int 0, .int 0, .ref q21, .ref q22, .ref q23, .ref q24, .ref q25, .ref q26, .ref q27, .ref q28, .ref q29, .ref q30])), (q21, .inl (cy 0, (15, .inl (fun _ => 0)))), (q22, .inl (cy 0, (15, .inl (fun _ => 0)))), (q23, .inl (cy 0, (15, .inl (fun _ => 0)))), (q24, .inl (cy 0, (60, .inl (fun _ => 0)))), (q25, .inl (cy 0, (60, .inl (fun _ => 0)))), (q26, .inl (cy 0, (60, .inl (fun _ => 0)))), (q27, .inl (cy 0, (60, .inl (fun _ => 0)))), (q28, .inl (cy 3, (60, .inl (fun _ => 0)))), (q29, .inl (cy 0, (36, .inl (fun _ => 0)))), (q30, .inl (cy 0, (36, .inl (fun _ => 0))))] H := hP
  have hD : va_D A [(h0, .inr (7, [.ref q1, .ref q3, .ref q5, .ref q7, .ref q9, .ref q13, .ref q17, .ref q20, .null, .null, .null, .null, .int 0, .int 0, .int 0])), (q1, .inr (4, [.ref q2, .int 0])), (q2, .inl (cy 0, (32, .inl (fun _ => 0)))), (q3, .inr (1, [.ref q4, .int 0, .int 0])), (q4, .inl (cy 0, (25, .inl (fun _ => 0)))), (q5, .inr (1, [.ref q6, .int 0, .int 0])), (q6, .inl (cy 0, (25, .inl (fun _ => 0)))), (q7, .inr (1, [.ref q8, .int 0, .int 0])), (q8, .inl (cy 0, (25, .inl (fun _ => 0)))), (q9, .inr (6, [.ref q10, .ref q11, .ref q12, .int 0])), (q10, .inl (cy 0, (6, .inl (fun _ => 0)))), (q11, .inl (cy 0, (6, .inl (fun _ => 0)))), (q12, .inl (cy 3, (6, .inl (fun _ => 0)))), (q13, .inr (6, [.ref q14, .ref q15, .ref q16, .int 0])), (q14, .inl (cy 0, (6, .inl (fun _ => 0)))), (q15, .inl (cy 0, (6, .inl (fun _ => 0)))), (q16, .inl (cy 3, (6, .inl (fun _ => 0)))), (q17, .inr (5, [.ref q18, .ref q19])), (q18, .inl (cy 0, (15, .inl (fun _ => 0)))), (q19, .inl (cy 0, (5, .inl (fun _ => 0)))), (q20, .inr (3, [.int 0, .int 0, .ref q21, .ref q22, .ref q23, .ref q24, .ref q25, .ref q26, .ref q27, .ref q28, .ref q29, .ref q30])), (q21, .inl (cy 0, (15, .inl (fun _ => 0)))), (q22, .inl (cy 0, (15, .inl (fun _ => 0)))), (q23, .inl (cy 0, (15, .inl (fun _ => 0)))), (q24, .inl (cy 0, (60, .inl (fun _ => 0)))), (q25, .inl (cy 0, (60, .inl (fun _ => 0)))), (q26, .inl (cy 0, (60, .inl (fun _ => 0)))), (q27, .inl (cy 0, (60, .inl (fun _ => 0)))), (q28, .inl (cy 3, (60, .inl (fun _ => 0)))), (q29, .inl (cy 0, (36, .inl (fun _ => 0)))), (q30, .inl (cy 0, (36, .inl (fun _ => 0))))] := hD
  refine lv_aload_n hx hb dc_7_92 rfl (lv_at hl 0 rfl) ?_
  refine va_new (ci := 2) (fs := [.null, .null, .int 0, .int 0]) (C := "BlobCorners$Joints") (T := jn_T2) (N := 4) hx hb hts (fun w h => List.mem_cons_of_mem _ (js_wsg2 w h)) jn_ty2 jn_tyok2 hown (hts _ (List.mem_cons_of_mem _ (js_tg (jn_m1 138 rfl) rfl))) (hts _ (List.mem_cons_of_mem _ (js_tg (jn_m1 139 rfl) rfl))) (hts _ (List.mem_cons_of_mem _ (js_tg (jn_m1 7 rfl) rfl))) hK hP hD hS hA rfl (jc_df2 rfl) (Nat.le_of_ble_eq_true rfl) (Nat.le_of_ble_eq_true rfl) dc_7_93 (fun q31 H hP hD hS => ?_)
  have hP : va_P (dC, dI) jn_cl [(h0, .inr (7, [.ref q1, .ref q3, .ref q5, .ref q7, .ref q9, .ref q13, .ref q17, .ref q20, .null, .null, .null, .null, .int 0, .int 0, .int 0])), (q1, .inr (4, [.ref q2, .int 0])), (q2, .inl (cy 0, (32, .inl (fun _ => 0)))), (q3, .inr (1, [.ref q4, .int 0, .int 0])), (q4, .inl (cy 0, (25, .inl (fun _ => 0)))), (q5, .inr (1, [.ref q6, .int 0, .int 0])), (q6, .inl (cy 0, (25, .inl (fun _ => 0)))), (q7, .inr (1, [.ref q8, .int 0, .int 0])), (q8, .inl (cy 0, (25, .inl (fun _ => 0)))), (q9, .inr (6, [.ref q10, .ref q11, .ref q12, .int 0])), (q10, .inl (cy 0, (6, .inl (fun _ => 0)))), (q11, .inl (cy 0, (6, .inl (fun _ => 0)))), (q12, .inl (cy 3, (6, .inl (fun _ => 0)))), (q13, .inr (6, [.ref q14, .ref q15, .ref q16, .int 0])), (q14, .inl (cy 0, (6, .inl (fun _ => 0)))), (q15, .inl (cy 0, (6, .inl (fun _ => 0)))), (q16, .inl (cy 3, (6, .inl (fun _ => 0)))), (q17, .inr (5, [.ref q18, .ref q19])), (q18, .inl (cy 0, (15, .inl (fun _ => 0)))), (q19, .inl (cy 0, (5, .inl (fun _ => 0)))), (q20, .inr (3, [.int 0, .int 0, .ref q21, .ref q22, .ref q23, .ref q24, .ref q25, .ref q26, .ref q27, .ref q28, .ref q29, .ref q30])), (q21, .inl (cy 0, (15, .inl (fun _ => 0)))), (q22, .inl (cy 0, (15, .inl (fun _ => 0)))), (q23, .inl (cy 0, (15, .inl (fun _ => 0)))), (q24, .inl (cy 0, (60, .inl (fun _ => 0)))), (q25, .inl (cy 0, (60, .inl (fun _ => 0)))), (q26, .inl (cy 0, (60, .inl (fun _ => 0)))), (q27, .inl (cy 0, (60, .inl (fun _ => 0)))), (q28, .inl (cy 3, (60, .inl (fun _ => 0)))), (q29, .inl (cy 0, (36, .inl (fun _ => 0)))), (q30, .inl (cy 0, (36, .inl (fun _ => 0)))), (q31, .inr (2, [.null, .null, .int 0, .int 0]))] H := hP
  have hD : va_D A [(h0, .inr (7, [.ref q1, .ref q3, .ref q5, .ref q7, .ref q9, .ref q13, .ref q17, .ref q20, .null, .null, .null, .null, .int 0, .int 0, .int 0])), (q1, .inr (4, [.ref q2, .int 0])), (q2, .inl (cy 0, (32, .inl (fun _ => 0)))), (q3, .inr (1, [.ref q4, .int 0, .int 0])), (q4, .inl (cy 0, (25, .inl (fun _ => 0)))), (q5, .inr (1, [.ref q6, .int 0, .int 0])), (q6, .inl (cy 0, (25, .inl (fun _ => 0)))), (q7, .inr (1, [.ref q8, .int 0, .int 0])), (q8, .inl (cy 0, (25, .inl (fun _ => 0)))), (q9, .inr (6, [.ref q10, .ref q11, .ref q12, .int 0])), (q10, .inl (cy 0, (6, .inl (fun _ => 0)))), (q11, .inl (cy 0, (6, .inl (fun _ => 0)))), (q12, .inl (cy 3, (6, .inl (fun _ => 0)))), (q13, .inr (6, [.ref q14, .ref q15, .ref q16, .int 0])), (q14, .inl (cy 0, (6, .inl (fun _ => 0)))), (q15, .inl (cy 0, (6, .inl (fun _ => 0)))), (q16, .inl (cy 3, (6, .inl (fun _ => 0)))), (q17, .inr (5, [.ref q18, .ref q19])), (q18, .inl (cy 0, (15, .inl (fun _ => 0)))), (q19, .inl (cy 0, (5, .inl (fun _ => 0)))), (q20, .inr (3, [.int 0, .int 0, .ref q21, .ref q22, .ref q23, .ref q24, .ref q25, .ref q26, .ref q27, .ref q28, .ref q29, .ref q30])), (q21, .inl (cy 0, (15, .inl (fun _ => 0)))), (q22, .inl (cy 0, (15, .inl (fun _ => 0)))), (q23, .inl (cy 0, (15, .inl (fun _ => 0)))), (q24, .inl (cy 0, (60, .inl (fun _ => 0)))), (q25, .inl (cy 0, (60, .inl (fun _ => 0)))), (q26, .inl (cy 0, (60, .inl (fun _ => 0)))), (q27, .inl (cy 0, (60, .inl (fun _ => 0)))), (q28, .inl (cy 3, (60, .inl (fun _ => 0)))), (q29, .inl (cy 0, (36, .inl (fun _ => 0)))), (q30, .inl (cy 0, (36, .inl (fun _ => 0)))), (q31, .inr (2, [.null, .null, .int 0, .int 0]))] := hD
  refine W.widen (k := 31) (n := 617) (Nat.le_refl _) (Nat.le_refl _) ?_
  refine lv_dup hx hb dc_7_96 rfl ?_
  refine lv_aload_n hx hb dc_7_97 rfl (lv_at hl 0 rfl) ?_
  refine va_get (D := (dC, dI)) (ci := 7) (v := .ref q20) (C := "BlobCorners") (T := jn_T7) (N := 15) hx hb hts (fun w h => List.mem_cons_of_mem _ (js_wsg7 w h)) hown hK hP 0 rfl rfl 7 (by decide) (hts _ (List.mem_cons_of_mem _ (js_tg (jn_m1 212 rfl) rfl))) (fun _ h9 => h9) rfl dc_7_98 ?_
  have hPc := hP.sub (ws' := [(q31, .inr (2, [.null, .null, .int 0, .int 0]))]) [31] rfl
  have hDc := hD.sub (ws' := [(q31, .inr (2, [.null, .null, .int 0, .int 0]))]) [31] (by decide) rfl
  have hFc := va_free (wc := [(q31, .inr (2, [.null, .null, .int 0, .int 0]))]) hD hS hA [31] rfl
  refine va_callv (va_runIN (As := [.ref q20]) (rest := [.ref q31, .ref h0]) ⟨hx, hb, hml, hown, hts⟩ (c_ini2 l dC dI cy q31 H.size q20) ⟨va_cnB 1 hts (jc_good7_2) rfl rfl rfl (hN _ (jn_m1 140 rfl) rfl) (hts _ (List.mem_cons_of_mem _ (js_tg (jn_m1 7 rfl) rfl))) (by decide +kernel) ⟨Nat.le_of_ble_eq_true rfl, Nat.le_of_ble_eq_true rfl⟩, rfl, hts _ (List.mem_cons_of_mem _ (js_tg (jn_m1 141 rfl) rfl))⟩ ⟨jc_blind, fun U hU hW => ⟨rfl, by rw [hU], by rw [hU]; exact hPc, va_K.moved hW.alike hK, hDc.weaken (fun _ _ _ _ => trivial), js_N_at hW hN⟩⟩ rfl rfl hl.1 rfl (lv_room (Nat.le_of_ble_eq_true rfl)) dc_7_101 ⟨Nat.le_of_ble_eq_true rfl, Nat.le_of_ble_eq_true rfl⟩) hS (fun q _ h => hFc q h) hFc (fun u t H1 locs ht hvm hw hB hz1 hk1 hS => ?_)
  obtain ⟨q32, hP1, hK1, hD1⟩ := hB
  rw [ht] at hP1
  obtain ⟨hP, hD⟩ := va_join (wr := [(h0, .inr (7, [.ref q1, .ref q3, .ref q5, .ref q7, .ref q9, .ref q13, .ref q17, .ref q20, .null, .null, .null, .null, .int 0, .int 0, .int 0])), (q1, .inr (4, [.ref q2, .int 0])), (q2, .inl (cy 0, (32, .inl (fun _ => 0)))), (q3, .inr (1, [.ref q4, .int 0, .int 0])), (q4, .inl (cy 0, (25, .inl (fun _ => 0)))), (q5, .inr (1, [.ref q6, .int 0, .int 0])), (q6, .inl (cy 0, (25, .inl (fun _ => 0)))), (q7, .inr (1, [.ref q8, .int 0, .int 0])), (q8, .inl (cy 0, (25, .inl (fun _ => 0)))), (q9, .inr (6, [.ref q10, .ref q11, .ref q12, .int 0])), (q10, .inl (cy 0, (6, .inl (fun _ => 0)))), (q11, .inl (cy 0, (6, .inl (fun _ => 0)))), (q12, .inl (cy 3, (6, .inl (fun _ => 0)))), (q13, .inr (6, [.ref q14, .ref q15, .ref q16, .int 0])), (q14, .inl (cy 0, (6, .inl (fun _ => 0)))), (q15, .inl (cy 0, (6, .inl (fun _ => 0)))), (q16, .inl (cy 3, (6, .inl (fun _ => 0)))), (q17, .inr (5, [.ref q18, .ref q19])), (q18, .inl (cy 0, (15, .inl (fun _ => 0)))), (q19, .inl (cy 0, (5, .inl (fun _ => 0)))), (q20, .inr (3, [.int 0, .int 0, .ref q21, .ref q22, .ref q23, .ref q24, .ref q25, .ref q26, .ref q27, .ref q28, .ref q29, .ref q30])), (q21, .inl (cy 0, (15, .inl (fun _ => 0)))), (q22, .inl (cy 0, (15, .inl (fun _ => 0)))), (q23, .inl (cy 0, (15, .inl (fun _ => 0)))), (q24, .inl (cy 0, (60, .inl (fun _ => 0)))), (q25, .inl (cy 0, (60, .inl (fun _ => 0)))), (q26, .inl (cy 0, (60, .inl (fun _ => 0)))), (q27, .inl (cy 0, (60, .inl (fun _ => 0)))), (q28, .inl (cy 3, (60, .inl (fun _ => 0)))), (q29, .inl (cy 0, (36, .inl (fun _ => 0)))), (q30, .inl (cy 0, (36, .inl (fun _ => 0))))]) (w1 := [(q31, .inr (2, [.ref q20, .ref q32, .int (-1), .int 0])), (q32, .inl (cy 1, (60, .inr (.inl (fun _ => 0)))))]) hP hD [31] [0, 1, 2, 3, 4, 5, 6, 7, 8, 9, 10, 11, 12, 13, 14, 15, 16, 17, 18, 19, 20, 21, 22, 23, 24, 25, 26, 27, 28, 29, 30] rfl rfl (by decide) (by decide) hk1 hFc hP1 hD1
  generalize H1 = H at hP hS ⊢
  have hP : va_P (dC, dI) jn_cl [(h0, .inr (7, [.ref q1, .ref q3, .ref q5, .ref q7, .ref q9, .ref q13, .ref q17, .ref q20, .null, .null, .null, .null, .int 0, .int 0, .int 0])), (q1, .inr (4, [.ref q2, .int 0])), (q2, .inl (cy 0, (32, .inl (fun _ => 0)))), (q3, .inr (1, [.ref q4, .int 0, .int 0])), (q4, .inl (cy 0, (25, .inl (fun _ => 0)))), (q5, .inr (1, [.ref q6, .int 0, .int 0])), (q6, .inl (cy 0, (25, .inl (fun _ => 0)))), (q7, .inr (1, [.ref q8, .int 0, .int 0])), (q8, .inl (cy 0, (25, .inl (fun _ => 0)))), (q9, .inr (6, [.ref q10, .ref q11, .ref q12, .int 0])), (q10, .inl (cy 0, (6, .inl (fun _ => 0)))), (q11, .inl (cy 0, (6, .inl (fun _ => 0)))), (q12, .inl (cy 3, (6, .inl (fun _ => 0)))), (q13, .inr (6, [.ref q14, .ref q15, .ref q16, .int 0])), (q14, .inl (cy 0, (6, .inl (fun _ => 0)))), (q15, .inl (cy 0, (6, .inl (fun _ => 0)))), (q16, .inl (cy 3, (6, .inl (fun _ => 0)))), (q17, .inr (5, [.ref q18, .ref q19])), (q18, .inl (cy 0, (15, .inl (fun _ => 0)))), (q19, .inl (cy 0, (5, .inl (fun _ => 0)))), (q20, .inr (3, [.int 0, .int 0, .ref q21, .ref q22, .ref q23, .ref q24, .ref q25, .ref q26, .ref q27, .ref q28, .ref q29, .ref q30])), (q21, .inl (cy 0, (15, .inl (fun _ => 0)))), (q22, .inl (cy 0, (15, .inl (fun _ => 0)))), (q23, .inl (cy 0, (15, .inl (fun _ => 0)))), (q24, .inl (cy 0, (60, .inl (fun _ => 0)))), (q25, .inl (cy 0, (60, .inl (fun _ => 0)))), (q26, .inl (cy 0, (60, .inl (fun _ => 0)))), (q27, .inl (cy 0, (60, .inl (fun _ => 0)))), (q28, .inl (cy 3, (60, .inl (fun _ => 0)))), (q29, .inl (cy 0, (36, .inl (fun _ => 0)))), (q30, .inl (cy 0, (36, .inl (fun _ => 0)))), (q31, .inr (2, [.ref q20, .ref q32, .int (-1), .int 0])), (q32, .inl (cy 1, (60, .inr (.inl (fun _ => 0)))))] H := hP
  have hD : va_D A [(h0, .inr (7, [.ref q1, .ref q3, .ref q5, .ref q7, .ref q9, .ref q13, .ref q17, .ref q20, .null, .null, .null, .null, .int 0, .int 0, .int 0])), (q1, .inr (4, [.ref q2, .int 0])), (q2, .inl (cy 0, (32, .inl (fun _ => 0)))), (q3, .inr (1, [.ref q4, .int 0, .int 0])), (q4, .inl (cy 0, (25, .inl (fun _ => 0)))), (q5, .inr (1, [.ref q6, .int 0, .int 0])), (q6, .inl (cy 0, (25, .inl (fun _ => 0)))), (q7, .inr (1, [.ref q8, .int 0, .int 0])), (q8, .inl (cy 0, (25, .inl (fun _ => 0)))), (q9, .inr (6, [.ref q10, .ref q11, .ref q12, .int 0])), (q10, .inl (cy 0, (6, .inl (fun _ => 0)))), (q11, .inl (cy 0, (6, .inl (fun _ => 0)))), (q12, .inl (cy 3, (6, .inl (fun _ => 0)))), (q13, .inr (6, [.ref q14, .ref q15, .ref q16, .int 0])), (q14, .inl (cy 0, (6, .inl (fun _ => 0)))), (q15, .inl (cy 0, (6, .inl (fun _ => 0)))), (q16, .inl (cy 3, (6, .inl (fun _ => 0)))), (q17, .inr (5, [.ref q18, .ref q19])), (q18, .inl (cy 0, (15, .inl (fun _ => 0)))), (q19, .inl (cy 0, (5, .inl (fun _ => 0)))), (q20, .inr (3, [.int 0, .int 0, .ref q21, .ref q22, .ref q23, .ref q24, .ref q25, .ref q26, .ref q27, .ref q28, .ref q29, .ref q30])), (q21, .inl (cy 0, (15, .inl (fun _ => 0)))), (q22, .inl (cy 0, (15, .inl (fun _ => 0)))), (q23, .inl (cy 0, (15, .inl (fun _ => 0)))), (q24, .inl (cy 0, (60, .inl (fun _ => 0)))), (q25, .inl (cy 0, (60, .inl (fun _ => 0)))), (q26, .inl (cy 0, (60, .inl (fun _ => 0)))), (q27, .inl (cy 0, (60, .inl (fun _ => 0)))), (q28, .inl (cy 3, (60, .inl (fun _ => 0)))), (q29, .inl (cy 0, (36, .inl (fun _ => 0)))), (q30, .inl (cy 0, (36, .inl (fun _ => 0)))), (q31, .inr (2, [.ref q20, .ref q32, .int (-1), .int 0])), (q32, .inl (cy 1, (60, .inr (.inl (fun _ => 0)))))] := hD
  refine W.widen (k := 32) (n := 677) (Nat.le_refl _) (Nat.le_refl _) ?_
  refine va_putF (D := (dC, dI)) (ci := 7) (v := .ref q31) (ty := .object "BlobCorners$Joints") (C := "BlobCorners") (T := jn_T7) (N := 15) hx hb hts (fun w h => List.mem_cons_of_mem _ (js_wsg7 w h)) jn_ty7 jn_tyok7 jn_nm7 hown hK hP hD hS 0 rfl rfl 8 (by decide) (hts _ (List.mem_cons_of_mem _ (js_tg (jn_m1 213 rfl) rfl))) (fun _ h9 => h9) rfl hin2 rfl (by decide +kernel) rfl rfl (Nat.le_of_ble_eq_true rfl) dc_7_104 (fun H locs hP hD hS => ?_)
  have hP : va_P (dC, dI) jn_cl [(h0, .inr (7, [.ref q1, .ref q3, .ref q5, .ref q7, .ref q9, .ref q13, .ref q17, .ref q20, .ref q31, .null, .null, .null, .int 0, .int 0, .int 0])), (q1, .inr (4, [.ref q2, .int 0])), (q2, .inl (cy 0, (32, .inl (fun _ => 0)))), (q3, .inr (1, [.ref q4, .int 0, .int 0])), (q4, .inl (cy 0, (25, .inl (fun _ => 0)))), (q5, .inr (1, [.ref q6, .int 0, .int 0])), (q6, .inl (cy 0, (25, .inl (fun _ => 0)))), (q7, .inr (1, [.ref q8, .int 0, .int 0])), (q8, .inl (cy 0, (25, .inl (fun _ => 0)))), (q9, .inr (6, [.ref q10, .ref q11, .ref q12, .int 0])), (q10, .inl (cy 0, (6, .inl (fun _ => 0)))), (q11, .inl (cy 0, (6, .inl (fun _ => 0)))), (q12, .inl (cy 3, (6, .inl (fun _ => 0)))), (q13, .inr (6, [.ref q14, .ref q15, .ref q16, .int 0])), (q14, .inl (cy 0, (6, .inl (fun _ => 0)))), (q15, .inl (cy 0, (6, .inl (fun _ => 0)))), (q16, .inl (cy 3, (6, .inl (fun _ => 0)))), (q17, .inr (5, [.ref q18, .ref q19])), (q18, .inl (cy 0, (15, .inl (fun _ => 0)))), (q19, .inl (cy 0, (5, .inl (fun _ => 0)))), (q20, .inr (3, [.int 0, .int 0, .ref q21, .ref q22, .ref q23, .ref q24, .ref q25, .ref q26, .ref q27, .ref q28, .ref q29, .ref q30])), (q21, .inl (cy 0, (15, .inl (fun _ => 0)))), (q22, .inl (cy 0, (15, .inl (fun _ => 0)))), (q23, .inl (cy 0, (15, .inl (fun _ => 0)))), (q24, .inl (cy 0, (60, .inl (fun _ => 0)))), (q25, .inl (cy 0, (60, .inl (fun _ => 0)))), (q26, .inl (cy 0, (60, .inl (fun _ => 0)))), (q27, .inl (cy 0, (60, .inl (fun _ => 0)))), (q28, .inl (cy 3, (60, .inl (fun _ => 0)))), (q29, .inl (cy 0, (36, .inl (fun _ => 0)))), (q30, .inl (cy 0, (36, .inl (fun _ => 0)))), (q31, .inr (2, [.ref q20, .ref q32, .int (-1), .int 0])), (q32, .inl (cy 1, (60, .inr (.inl (fun _ => 0)))))] H := hP
  have hD : va_D A [(h0, .inr (7, [.ref q1, .ref q3, .ref q5, .ref q7, .ref q9, .ref q13, .ref q17, .ref q20, .ref q31, .null, .null, .null, .int 0, .int 0, .int 0])), (q1, .inr (4, [.ref q2, .int 0])), (q2, .inl (cy 0, (32, .inl (fun _ => 0)))), (q3, .inr (1, [.ref q4, .int 0, .int 0])), (q4, .inl (cy 0, (25, .inl (fun _ => 0)))), (q5, .inr (1, [.ref q6, .int 0, .int 0])), (q6, .inl (cy 0, (25, .inl (fun _ => 0)))), (q7, .inr (1, [.ref q8, .int 0, .int 0])), (q8, .inl (cy 0, (25, .inl (fun _ => 0)))), (q9, .inr (6, [.ref q10, .ref q11, .ref q12, .int 0])), (q10, .inl (cy 0, (6, .inl (fun _ => 0)))), (q11, .inl (cy 0, (6, .inl (fun _ => 0)))), (q12, .inl (cy 3, (6, .inl (fun _ => 0)))), (q13, .inr (6, [.ref q14, .ref q15, .ref q16, .int 0])), (q14, .inl (cy 0, (6, .inl (fun _ => 0)))), (q15, .inl (cy 0, (6, .inl (fun _ => 0)))), (q16, .inl (cy 3, (6, .inl (fun _ => 0)))), (q17, .inr (5, [.ref q18, .ref q19])), (q18, .inl (cy 0, (15, .inl (fun _ => 0)))), (q19, .inl (cy 0, (5, .inl (fun _ => 0)))), (q20, .inr (3, [.int 0, .int 0, .ref q21, .ref q22, .ref q23, .ref q24, .ref q25, .ref q26, .ref q27, .ref q28, .ref q29, .ref q30])), (q21, .inl (cy 0, (15, .inl (fun _ => 0)))), (q22, .inl (cy 0, (15, .inl (fun _ => 0)))), (q23, .inl (cy 0, (15, .inl (fun _ => 0)))), (q24, .inl (cy 0, (60, .inl (fun _ => 0)))), (q25, .inl (cy 0, (60, .inl (fun _ => 0)))), (q26, .inl (cy 0, (60, .inl (fun _ => 0)))), (q27, .inl (cy 0, (60, .inl (fun _ => 0)))), (q28, .inl (cy 3, (60, .inl (fun _ => 0)))), (q29, .inl (cy 0, (36, .inl (fun _ => 0)))), (q30, .inl (cy 0, (36, .inl (fun _ => 0)))), (q31, .inr (2, [.ref q20, .ref q32, .int (-1), .int 0])), (q32, .inl (cy 1, (60, .inr (.inl (fun _ => 0)))))] := hD
  refine lv_aload_n hx hb dc_7_107 rfl (lv_at hl 0 rfl) ?_
  refine va_new (ci := 0) (fs := [.null, .null, .null, .null, .null, .null, .null, .null, .null, .null, .null, .int 0, .int 0]) (C := "BlobCorners$BestPolygons") (T := jn_T0) (N := 13) hx hb hts (fun w h => List.mem_cons_of_mem _ (js_wsg0 w h)) jn_ty0 jn_tyok0 hown (hts _ (List.mem_cons_of_mem _ (js_tg (jn_m1 158 rfl) rfl))) (hts _ (List.mem_cons_of_mem _ (js_tg (jn_m1 159 rfl) rfl))) (hts _ (List.mem_cons_of_mem _ (js_tg (jn_m1 8 rfl) rfl))) hK hP hD hS hA rfl (jc_df0 rfl) (Nat.le_of_ble_eq_true rfl) (Nat.le_of_ble_eq_true rfl) dc_7_108 (fun q33 H hP hD hS => ?_)
  have hP : va_P (dC, dI) jn_cl [(h0, .inr (7, [.ref q1, .ref q3, .ref q5, .ref q7, .ref q9, .ref q13, .ref q17, .ref q20, .ref q31, .null, .null, .null, .int 0, .int 0, .int 0])), (q1, .inr (4, [.ref q2, .int 0])), (q2, .inl (cy 0, (32, .inl (fun _ => 0)))), (q3, .inr (1, [.ref q4, .int 0, .int 0])), (q4, .inl (cy 0, (25, .inl (fun _ => 0)))), (q5, .inr (1, [.ref q6, .int 0, .int 0])), (q6, .inl (cy 0, (25, .inl (fun _ => 0)))), (q7, .inr (1, [.ref q8, .int 0, .int 0])), (q8, .inl (cy 0, (25, .inl (fun _ => 0)))), (q9, .inr (6, [.ref q10, .ref q11, .ref q12, .int 0])), (q10, .inl (cy 0, (6, .inl (fun _ => 0)))), (q11, .inl (cy 0, (6, .inl (fun _ => 0)))), (q12, .inl (cy 3, (6, .inl (fun _ => 0)))), (q13, .inr (6, [.ref q14, .ref q15, .ref q16, .int 0])), (q14, .inl (cy 0, (6, .inl (fun _ => 0)))), (q15, .inl (cy 0, (6, .inl (fun _ => 0)))), (q16, .inl (cy 3, (6, .inl (fun _ => 0)))), (q17, .inr (5, [.ref q18, .ref q19])), (q18, .inl (cy 0, (15, .inl (fun _ => 0)))), (q19, .inl (cy 0, (5, .inl (fun _ => 0)))), (q20, .inr (3, [.int 0, .int 0, .ref q21, .ref q22, .ref q23, .ref q24, .ref q25, .ref q26, .ref q27, .ref q28, .ref q29, .ref q30])), (q21, .inl (cy 0, (15, .inl (fun _ => 0)))), (q22, .inl (cy 0, (15, .inl (fun _ => 0)))), (q23, .inl (cy 0, (15, .inl (fun _ => 0)))), (q24, .inl (cy 0, (60, .inl (fun _ => 0)))), (q25, .inl (cy 0, (60, .inl (fun _ => 0)))), (q26, .inl (cy 0, (60, .inl (fun _ => 0)))), (q27, .inl (cy 0, (60, .inl (fun _ => 0)))), (q28, .inl (cy 3, (60, .inl (fun _ => 0)))), (q29, .inl (cy 0, (36, .inl (fun _ => 0)))), (q30, .inl (cy 0, (36, .inl (fun _ => 0)))), (q31, .inr (2, [.ref q20, .ref q32, .int (-1), .int 0])), (q32, .inl (cy 1, (60, .inr (.inl (fun _ => 0))))), (q33, .inr (0, [.null, .null, .null, .null, .null, .null, .null, .null, .null, .null, .null, .int 0, .int 0]))] H := hP
  have hD : va_D A [(h0, .inr (7, [.ref q1, .ref q3, .ref q5, .ref q7, .ref q9, .ref q13, .ref q17, .ref q20, .ref q31, .null, .null, .null, .int 0, .int 0, .int 0])), (q1, .inr (4, [.ref q2, .int 0])), (q2, .inl (cy 0, (32, .inl (fun _ => 0)))), (q3, .inr (1, [.ref q4, .int 0, .int 0])), (q4, .inl (cy 0, (25, .inl (fun _ => 0)))), (q5, .inr (1, [.ref q6, .int 0, .int 0])), (q6, .inl (cy 0, (25, .inl (fun _ => 0)))), (q7, .inr (1, [.ref q8, .int 0, .int 0])), (q8, .inl (cy 0, (25, .inl (fun _ => 0)))), (q9, .inr (6, [.ref q10, .ref q11, .ref q12, .int 0])), (q10, .inl (cy 0, (6, .inl (fun _ => 0)))), (q11, .inl (cy 0, (6, .inl (fun _ => 0)))), (q12, .inl (cy 3, (6, .inl (fun _ => 0)))), (q13, .inr (6, [.ref q14, .ref q15, .ref q16, .int 0])), (q14, .inl (cy 0, (6, .inl (fun _ => 0)))), (q15, .inl (cy 0, (6, .inl (fun _ => 0)))), (q16, .inl (cy 3, (6, .inl (fun _ => 0)))), (q17, .inr (5, [.ref q18, .ref q19])), (q18, .inl (cy 0, (15, .inl (fun _ => 0)))), (q19, .inl (cy 0, (5, .inl (fun _ => 0)))), (q20, .inr (3, [.int 0, .int 0, .ref q21, .ref q22, .ref q23, .ref q24, .ref q25, .ref q26, .ref q27, .ref q28, .ref q29, .ref q30])), (q21, .inl (cy 0, (15, .inl (fun _ => 0)))), (q22, .inl (cy 0, (15, .inl (fun _ => 0)))), (q23, .inl (cy 0, (15, .inl (fun _ => 0)))), (q24, .inl (cy 0, (60, .inl (fun _ => 0)))), (q25, .inl (cy 0, (60, .inl (fun _ => 0)))), (q26, .inl (cy 0, (60, .inl (fun _ => 0)))), (q27, .inl (cy 0, (60, .inl (fun _ => 0)))), (q28, .inl (cy 3, (60, .inl (fun _ => 0)))), (q29, .inl (cy 0, (36, .inl (fun _ => 0)))), (q30, .inl (cy 0, (36, .inl (fun _ => 0)))), (q31, .inr (2, [.ref q20, .ref q32, .int (-1), .int 0])), (q32, .inl (cy 1, (60, .inr (.inl (fun _ => 0))))), (q33, .inr (0, [.null, .null, .null, .null, .null, .null, .null, .null, .null, .null, .null, .int 0, .int 0]))] := hD
  refine W.widen (k := 33) (n := 690) (Nat.le_refl _) (Nat.le_refl _) ?_
  refine lv_dup hx hb dc_7_111 rfl ?_
  refine lv_aload_n hx hb dc_7_112 rfl (lv_at hl 0 rfl) ?_
  refine va_get (D := (dC, dI)) (ci := 7) (v := .ref q20) (C := "BlobCorners") (T := jn_T7) (N := 15) hx hb hts (fun w h => List.mem_cons_of_mem _ (js_wsg7 w h)) hown hK hP 0 rfl rfl 7 (by decide) (hts _ (List.mem_cons_of_mem _ (js_tg (jn_m1 212 rfl) rfl))) (fun _ h9 => h9) rfl dc_7_113 ?_
  refine lv_aload_n hx hb dc_7_116 rfl (lv_at hl 0 rfl) ?_
  refine va_get (D := (dC, dI)) (ci := 7) (v := .ref q31) (C := "BlobCorners") (T := jn_T7) (N := 15) hx hb hts (fun w h => List.mem_cons_of_mem _ (js_wsg7 w h)) hown hK hP 0 rfl rfl 8 (by decide) (hts _ (List.mem_cons_of_mem _ (js_tg (jn_m1 213 rfl) rfl))) (fun _ h9 => h9) rfl dc_7_117 ?_
  have hPc := hP.sub (ws' := [(q33, .inr (0, [.null, .null, .null, .null, .null, .null, .null, .null, .null, .null, .null, .int 0, .int 0]))]) [33] rfl
  have hDc := hD.sub (ws' := [(q33, .inr (0, [.null, .null, .null, .null, .null, .null, .null, .null, .null, .null, .null, .int 0, .int 0]))]) [33] (by decide) rfl
  have hFc := va_free (wc := [(q33, .inr (0, [.null, .null, .null, .null, .null, .null, .null, .null, .null, .null, .null, .int 0, .int 0]))]) hD hS hA [33] rfl
  refine va_callv (va_runIN (As := [.ref q20, .ref q31]) (rest := [.ref q33, .ref h0]) ⟨hx, hb, hml, hown, hts⟩ (c_ini0 l dC dI cy q33 H.size q20 q31) ⟨va_cnB 2 hts (jc_good7_0) rfl rfl rfl (hN _ (jn_m1 160 rfl) rfl) (hts _ (List.mem_cons_of_mem _ (js_tg (jn_m1 8 rfl) rfl))) (by decide +kernel) ⟨Nat.le_of_ble_eq_true rfl, Nat.le_of_ble_eq_true rfl⟩, rfl, hts _ (List.mem_cons_of_mem _ (js_tg (jn_m1 161 rfl) rfl))⟩ ⟨jc_blind, fun U hU hW => ⟨rfl, by rw [hU], by rw [hU]; exact hPc, va_K.moved hW.alike hK, hDc.weaken (fun _ _ _ _ => trivial), js_N_at hW hN⟩⟩ rfl rfl hl.1 rfl (lv_room (Nat.le_of_ble_eq_true rfl)) dc_7_120 ⟨Nat.le_of_ble_eq_true rfl, Nat.le_of_ble_eq_true rfl⟩) hS (fun q _ h => hFc q h) hFc (fun u t H1 locs ht hvm hw hB hz1 hk1 hS => ?_)
  obtain ⟨q34, q35, q36, q37, q38, q39, q40, q41, q42, hP1, hK1, hD1⟩ := hB
  rw [ht] at hP1
  obtain ⟨hP, hD⟩ := va_join (wr := [(h0, .inr (7, [.ref q1, .ref q3, .ref q5, .ref q7, .ref q9, .ref q13, .ref q17, .ref q20, .ref q31, .null, .null, .null, .int 0, .int 0, .int 0])), (q1, .inr (4, [.ref q2, .int 0])), (q2, .inl (cy 0, (32, .inl (fun _ => 0)))), (q3, .inr (1, [.ref q4, .int 0, .int 0])), (q4, .inl (cy 0, (25, .inl (fun _ => 0)))), (q5, .inr (1, [.ref q6, .int 0, .int 0])), (q6, .inl (cy 0, (25, .inl (fun _ => 0)))), (q7, .inr (1, [.ref q8, .int 0, .int 0])), (q8, .inl (cy 0, (25, .inl (fun _ => 0)))), (q9, .inr (6, [.ref q10, .ref q11, .ref q12, .int 0])), (q10, .inl (cy 0, (6, .inl (fun _ => 0)))), (q11, .inl (cy 0, (6, .inl (fun _ => 0)))), (q12, .inl (cy 3, (6, .inl (fun _ => 0)))), (q13, .inr (6, [.ref q14, .ref q15, .ref q16, .int 0])), (q14, .inl (cy 0, (6, .inl (fun _ => 0)))), (q15, .inl (cy 0, (6, .inl (fun _ => 0)))), (q16, .inl (cy 3, (6, .inl (fun _ => 0)))), (q17, .inr (5, [.ref q18, .ref q19])), (q18, .inl (cy 0, (15, .inl (fun _ => 0)))), (q19, .inl (cy 0, (5, .inl (fun _ => 0)))), (q20, .inr (3, [.int 0, .int 0, .ref q21, .ref q22, .ref q23, .ref q24, .ref q25, .ref q26, .ref q27, .ref q28, .ref q29, .ref q30])), (q21, .inl (cy 0, (15, .inl (fun _ => 0)))), (q22, .inl (cy 0, (15, .inl (fun _ => 0)))), (q23, .inl (cy 0, (15, .inl (fun _ => 0)))), (q24, .inl (cy 0, (60, .inl (fun _ => 0)))), (q25, .inl (cy 0, (60, .inl (fun _ => 0)))), (q26, .inl (cy 0, (60, .inl (fun _ => 0)))), (q27, .inl (cy 0, (60, .inl (fun _ => 0)))), (q28, .inl (cy 3, (60, .inl (fun _ => 0)))), (q29, .inl (cy 0, (36, .inl (fun _ => 0)))), (q30, .inl (cy 0, (36, .inl (fun _ => 0)))), (q31, .inr (2, [.ref q20, .ref q32, .int (-1), .int 0])), (q32, .inl (cy 1, (60, .inr (.inl (fun _ => 0)))))]) (w1 := [(q33, .inr (0, [.ref q20, .ref q31, .ref q34, .ref q35, .ref q36, .ref q37, .ref q38, .ref q39, .ref q40, .ref q41, .ref q42, .int 0, .int 0])), (q34, .inl (cy 0, (15, .inl (fun _ => 0)))), (q35, .inl (cy 3, (15, .inl (fun _ => 0)))), (q36, .inl (cy 0, (15, .inl (fun _ => 0)))), (q37, .inl (cy 0, (15, .inl (fun _ => 0)))), (q38, .inl (cy 0, (60, .inl (fun _ => 0)))), (q39, .inl (cy 3, (60, .inl (fun _ => 0)))), (q40, .inl (cy 2, (3600, .inr (.inr (.inl (fun _ => 0)))))), (q41, .inl (cy 2, (3600, .inr (.inr (.inl (fun _ => 0)))))), (q42, .inl (cy 0, (3600, .inl (fun _ => 0))))]) hP hD [33] [0, 1, 2, 3, 4, 5, 6, 7, 8, 9, 10, 11, 12, 13, 14, 15, 16, 17, 18, 19, 20, 21, 22, 23, 24, 25, 26, 27, 28, 29, 30, 31, 32] rfl rfl (by decide) (by decide) hk1 hFc hP1 hD1
  generalize H1 = H at hP hS ⊢
  have hP : va_P (dC, dI) jn_cl [(h0, .inr (7, [.ref q1, .ref q3, .ref q5, .ref q7, .ref q9, .ref q13, .ref q17, .ref q20, .ref q31, .null, .null, .null, .int 0, .int 0, .int 0])), (q1, .inr (4, [.ref q2, .int 0])), (q2, .inl (cy 0, (32, .inl (fun _ => 0)))), (q3, .inr (1, [.ref q4, .int 0, .int 0])), (q4, .inl (cy 0, (25, .inl (fun _ => 0)))), (q5, .inr (1, [.ref q6, .int 0, .int 0])), (q6, .inl (cy 0, (25, .inl (fun _ => 0)))), (q7, .inr (1, [.ref q8, .int 0, .int 0])), (q8, .inl (cy 0, (25, .inl (fun _ => 0)))), (q9, .inr (6, [.ref q10, .ref q11, .ref q12, .int 0])), (q10, .inl (cy 0, (6, .inl (fun _ => 0)))), (q11, .inl (cy 0, (6, .inl (fun _ => 0)))), (q12, .inl (cy 3, (6, .inl (fun _ => 0)))), (q13, .inr (6, [.ref q14, .ref q15, .ref q16, .int 0])), (q14, .inl (cy 0, (6, .inl (fun _ => 0)))), (q15, .inl (cy 0, (6, .inl (fun _ => 0)))), (q16, .inl (cy 3, (6, .inl (fun _ => 0)))), (q17, .inr (5, [.ref q18, .ref q19])), (q18, .inl (cy 0, (15, .inl (fun _ => 0)))), (q19, .inl (cy 0, (5, .inl (fun _ => 0)))), (q20, .inr (3, [.int 0, .int 0, .ref q21, .ref q22, .ref q23, .ref q24, .ref q25, .ref q26, .ref q27, .ref q28, .ref q29, .ref q30])), (q21, .inl (cy 0, (15, .inl (fun _ => 0)))), (q22, .inl (cy 0, (15, .inl (fun _ => 0)))), (q23, .inl (cy 0, (15, .inl (fun _ => 0)))), (q24, .inl (cy 0, (60, .inl (fun _ => 0)))), (q25, .inl (cy 0, (60, .inl (fun _ => 0)))), (q26, .inl (cy 0, (60, .inl (fun _ => 0)))), (q27, .inl (cy 0, (60, .inl (fun _ => 0)))), (q28, .inl (cy 3, (60, .inl (fun _ => 0)))), (q29, .inl (cy 0, (36, .inl (fun _ => 0)))), (q30, .inl (cy 0, (36, .inl (fun _ => 0)))), (q31, .inr (2, [.ref q20, .ref q32, .int (-1), .int 0])), (q32, .inl (cy 1, (60, .inr (.inl (fun _ => 0))))), (q33, .inr (0, [.ref q20, .ref q31, .ref q34, .ref q35, .ref q36, .ref q37, .ref q38, .ref q39, .ref q40, .ref q41, .ref q42, .int 0, .int 0])), (q34, .inl (cy 0, (15, .inl (fun _ => 0)))), (q35, .inl (cy 3, (15, .inl (fun _ => 0)))), (q36, .inl (cy 0, (15, .inl (fun _ => 0)))), (q37, .inl (cy 0, (15, .inl (fun _ => 0)))), (q38, .inl (cy 0, (60, .inl (fun _ => 0)))), (q39, .inl (cy 3, (60, .inl (fun _ => 0)))), (q40, .inl (cy 2, (3600, .inr (.inr (.inl (fun _ => 0)))))), (q41, .inl (cy 2, (3600, .inr (.inr (.inl (fun _ => 0)))))), (q42, .inl (cy 0, (3600, .inl (fun _ => 0))))] H := hP
  have hD : va_D A [(h0, .inr (7, [.ref q1, .ref q3, .ref q5, .ref q7, .ref q9, .ref q13, .ref q17, .ref q20, .ref q31, .null, .null, .null, .int 0, .int 0, .int 0])), (q1, .inr (4, [.ref q2, .int 0])), (q2, .inl (cy 0, (32, .inl (fun _ => 0)))), (q3, .inr (1, [.ref q4, .int 0, .int 0])), (q4, .inl (cy 0, (25, .inl (fun _ => 0)))), (q5, .inr (1, [.ref q6, .int 0, .int 0])), (q6, .inl (cy 0, (25, .inl (fun _ => 0)))), (q7, .inr (1, [.ref q8, .int 0, .int 0])), (q8, .inl (cy 0, (25, .inl (fun _ => 0)))), (q9, .inr (6, [.ref q10, .ref q11, .ref q12, .int 0])), (q10, .inl (cy 0, (6, .inl (fun _ => 0)))), (q11, .inl (cy 0, (6, .inl (fun _ => 0)))), (q12, .inl (cy 3, (6, .inl (fun _ => 0)))), (q13, .inr (6, [.ref q14, .ref q15, .ref q16, .int 0])), (q14, .inl (cy 0, (6, .inl (fun _ => 0)))), (q15, .inl (cy 0, (6, .inl (fun _ => 0)))), (q16, .inl (cy 3, (6, .inl (fun _ => 0)))), (q17, .inr (5, [.ref q18, .ref q19])), (q18, .inl (cy 0, (15, .inl (fun _ => 0)))), (q19, .inl (cy 0, (5, .inl (fun _ => 0)))), (q20, .inr (3, [.int 0, .int 0, .ref q21, .ref q22, .ref q23, .ref q24, .ref q25, .ref q26, .ref q27, .ref q28, .ref q29, .ref q30])), (q21, .inl (cy 0, (15, .inl (fun _ => 0)))), (q22, .inl (cy 0, (15, .inl (fun _ => 0)))), (q23, .inl (cy 0, (15, .inl (fun _ => 0)))), (q24, .inl (cy 0, (60, .inl (fun _ => 0)))), (q25, .inl (cy 0, (60, .inl (fun _ => 0)))), (q26, .inl (cy 0, (60, .inl (fun _ => 0)))), (q27, .inl (cy 0, (60, .inl (fun _ => 0)))), (q28, .inl (cy 3, (60, .inl (fun _ => 0)))), (q29, .inl (cy 0, (36, .inl (fun _ => 0)))), (q30, .inl (cy 0, (36, .inl (fun _ => 0)))), (q31, .inr (2, [.ref q20, .ref q32, .int (-1), .int 0])), (q32, .inl (cy 1, (60, .inr (.inl (fun _ => 0))))), (q33, .inr (0, [.ref q20, .ref q31, .ref q34, .ref q35, .ref q36, .ref q37, .ref q38, .ref q39, .ref q40, .ref q41, .ref q42, .int 0, .int 0])), (q34, .inl (cy 0, (15, .inl (fun _ => 0)))), (q35, .inl (cy 3, (15, .inl (fun _ => 0)))), (q36, .inl (cy 0, (15, .inl (fun _ => 0)))), (q37, .inl (cy 0, (15, .inl (fun _ => 0)))), (q38, .inl (cy 0, (60, .inl (fun _ => 0)))), (q39, .inl (cy 3, (60, .inl (fun _ => 0)))), (q40, .inl (cy 2, (3600, .inr (.inr (.inl (fun _ => 0)))))), (q41, .inl (cy 2, (3600, .inr (.inr (.inl (fun _ => 0)))))), (q42, .inl (cy 0, (3600, .inl (fun _ => 0))))] := hD
  refine W.widen (k := 42) (n := 11670) (Nat.le_refl _) (Nat.le_refl _) ?_
  refine va_putF (D := (dC, dI)) (ci := 7) (v := .ref q33) (ty := .object "BlobCorners$BestPolygons") (C := "BlobCorners") (T := jn_T7) (N := 15) hx hb hts (fun w h => List.mem_cons_of_mem _ (js_wsg7 w h)) jn_ty7 jn_tyok7 jn_nm7 hown hK hP hD hS 0 rfl rfl 9 (by decide) (hts _ (List.mem_cons_of_mem _ (js_tg (jn_m1 214 rfl) rfl))) (fun _ h9 => h9) rfl hin2 rfl (by decide +kernel) rfl rfl (Nat.le_of_ble_eq_true rfl) dc_7_123 (fun H locs hP hD hS => ?_)
  have hP : va_P (dC, dI) jn_cl [(h0, .inr (7, [.ref q1, .ref q3, .ref q5, .ref q7, .ref q9, .ref q13, .ref q17, .ref q20, .ref q31, .ref q33, .null, .null, .int 0, .int 0, .int 0])), (q1, .inr (4, [.ref q2, .int 0])), (q2, .inl (cy 0, (32, .inl (fun _ => 0)))), (q3, .inr (1, [.ref q4, .int 0, .int 0])), (q4, .inl (cy 0, (25, .inl (fun _ => 0)))), (q5, .inr (1, [.ref q6, .int 0, .int 0])), (q6, .inl (cy 0, (25, .inl (fun _ => 0)))), (q7, .inr (1, [.ref q8, .int 0, .int 0])), (q8, .inl (cy 0, (25, .inl (fun _ => 0)))), (q9, .inr (6, [.ref q10, .ref q11, .ref q12, .int 0])), (q10, .inl (cy 0, (6, .inl (fun _ => 0)))), (q11, .inl (cy 0, (6, .inl (fun _ => 0)))), (q12, .inl (cy 3, (6, .inl (fun _ => 0)))), (q13, .inr (6, [.ref q14, .ref q15, .ref q16, .int 0])), (q14, .inl (cy 0, (6, .inl (fun _ => 0)))), (q15, .inl (cy 0, (6, .inl (fun _ => 0)))), (q16, .inl (cy 3, (6, .inl (fun _ => 0)))), (q17, .inr (5, [.ref q18, .ref q19])), (q18, .inl (cy 0, (15, .inl (fun _ => 0)))), (q19, .inl (cy 0, (5, .inl (fun _ => 0)))), (q20, .inr (3, [.int 0, .int 0, .ref q21, .ref q22, .ref q23, .ref q24, .ref q25, .ref q26, .ref q27, .ref q28, .ref q29, .ref q30])), (q21, .inl (cy 0, (15, .inl (fun _ => 0)))), (q22, .inl (cy 0, (15, .inl (fun _ => 0)))), (q23, .inl (cy 0, (15, .inl (fun _ => 0)))), (q24, .inl (cy 0, (60, .inl (fun _ => 0)))), (q25, .inl (cy 0, (60, .inl (fun _ => 0)))), (q26, .inl (cy 0, (60, .inl (fun _ => 0)))), (q27, .inl (cy 0, (60, .inl (fun _ => 0)))), (q28, .inl (cy 3, (60, .inl (fun _ => 0)))), (q29, .inl (cy 0, (36, .inl (fun _ => 0)))), (q30, .inl (cy 0, (36, .inl (fun _ => 0)))), (q31, .inr (2, [.ref q20, .ref q32, .int (-1), .int 0])), (q32, .inl (cy 1, (60, .inr (.inl (fun _ => 0))))), (q33, .inr (0, [.ref q20, .ref q31, .ref q34, .ref q35, .ref q36, .ref q37, .ref q38, .ref q39, .ref q40, .ref q41, .ref q42, .int 0, .int 0])), (q34, .inl (cy 0, (15, .inl (fun _ => 0)))), (q35, .inl (cy 3, (15, .inl (fun _ => 0)))), (q36, .inl (cy 0, (15, .inl (fun _ => 0)))), (q37, .inl (cy 0, (15, .inl (fun _ => 0)))), (q38, .inl (cy 0, (60, .inl (fun _ => 0)))), (q39, .inl (cy 3, (60, .inl (fun _ => 0)))), (q40, .inl (cy 2, (3600, .inr (.inr (.inl (fun _ => 0)))))), (q41, .inl (cy 2, (3600, .inr (.inr (.inl (fun _ => 0)))))), (q42, .inl (cy 0, (3600, .inl (fun _ => 0))))] H := hP
  have hD : va_D A [(h0, .inr (7, [.ref q1, .ref q3, .ref q5, .ref q7, .ref q9, .ref q13, .ref q17, .ref q20, .ref q31, .ref q33, .null, .null, .int 0, .int 0, .int 0])), (q1, .inr (4, [.ref q2, .int 0])), (q2, .inl (cy 0, (32, .inl (fun _ => 0)))), (q3, .inr (1, [.ref q4, .int 0, .int 0])), (q4, .inl (cy 0, (25, .inl (fun _ => 0)))), (q5, .inr (1, [.ref q6, .int 0, .int 0])), (q6, .inl (cy 0, (25, .inl (fun _ => 0)))), (q7, .inr (1, [.ref q8, .int 0, .int 0])), (q8, .inl (cy 0, (25, .inl (fun _ => 0)))), (q9, .inr (6, [.ref q10, .ref q11, .ref q12, .int 0])), (q10, .inl (cy 0, (6, .inl (fun _ => 0)))), (q11, .inl (cy 0, (6, .inl (fun _ => 0)))), (q12, .inl (cy 3, (6, .inl (fun _ => 0)))), (q13, .inr (6, [.ref q14, .ref q15, .ref q16, .int 0])), (q14, .inl (cy 0, (6, .inl (fun _ => 0)))), (q15, .inl (cy 0, (6, .inl (fun _ => 0)))), (q16, .inl (cy 3, (6, .inl (fun _ => 0)))), (q17, .inr (5, [.ref q18, .ref q19])), (q18, .inl (cy 0, (15, .inl (fun _ => 0)))), (q19, .inl (cy 0, (5, .inl (fun _ => 0)))), (q20, .inr (3, [.int 0, .int 0, .ref q21, .ref q22, .ref q23, .ref q24, .ref q25, .ref q26, .ref q27, .ref q28, .ref q29, .ref q30])), (q21, .inl (cy 0, (15, .inl (fun _ => 0)))), (q22, .inl (cy 0, (15, .inl (fun _ => 0)))), (q23, .inl (cy 0, (15, .inl (fun _ => 0)))), (q24, .inl (cy 0, (60, .inl (fun _ => 0)))), (q25, .inl (cy 0, (60, .inl (fun _ => 0)))), (q26, .inl (cy 0, (60, .inl (fun _ => 0)))), (q27, .inl (cy 0, (60, .inl (fun _ => 0)))), (q28, .inl (cy 3, (60, .inl (fun _ => 0)))), (q29, .inl (cy 0, (36, .inl (fun _ => 0)))), (q30, .inl (cy 0, (36, .inl (fun _ => 0)))), (q31, .inr (2, [.ref q20, .ref q32, .int (-1), .int 0])), (q32, .inl (cy 1, (60, .inr (.inl (fun _ => 0))))), (q33, .inr (0, [.ref q20, .ref q31, .ref q34, .ref q35, .ref q36, .ref q37, .ref q38, .ref q39, .ref q40, .ref q41, .ref q42, .int 0, .int 0])), (q34, .inl (cy 0, (15, .inl (fun _ => 0)))), (q35, .inl (cy 3, (15, .inl (fun _ => 0)))), (q36, .inl (cy 0, (15, .inl (fun _ => 0)))), (q37, .inl (cy 0, (15, .inl (fun _ => 0)))), (q38, .inl (cy 0, (60, .inl (fun _ => 0)))), (q39, .inl (cy 3, (60, .inl (fun _ => 0)))), (q40, .inl (cy 2, (3600, .inr (.inr (.inl (fun _ => 0)))))), (q41, .inl (cy 2, (3600, .inr (.inr (.inl (fun _ => 0)))))), (q42, .inl (cy 0, (3600, .inl (fun _ => 0))))] := hD
  refine lv_aload_n hx hb dc_7_126 rfl (lv_at hl 0 rfl) ?_
  refine va_new (ci := 3) (fs := [.int 0, .int 0, .null, .null, .null, .null, .null, .null, .null, .null, .null, .null]) (C := "BlobCorners$Outlines") (T := jn_T3) (N := 12) hx hb hts (fun w h => List.mem_cons_of_mem _ (js_wsg3 w h)) jn_ty3 jn_tyok3 hown (hts _ (List.mem_cons_of_mem _ (js_tg (jn_m1 94 rfl) rfl))) (hts _ (List.mem_cons_of_mem _ (js_tg (jn_m1 95 rfl) rfl))) (hts _ (List.mem_cons_of_mem _ (js_tg (jn_m1 6 rfl) rfl))) hK hP hD hS hA rfl (jc_df3 rfl) (Nat.le_of_ble_eq_true rfl) (Nat.le_of_ble_eq_true rfl) dc_7_127 (fun q43 H hP hD hS => ?_)
  have hP : va_P (dC, dI) jn_cl [(h0, .inr (7, [.ref q1, .ref q3, .ref q5, .ref q7, .ref q9, .ref q13, .ref q17, .ref q20, .ref q31, .ref q33, .null, .null, .int 0, .int 0, .int 0])), (q1, .inr (4, [.ref q2, .int 0])), (q2, .inl (cy 0, (32, .inl (fun _ => 0)))), (q3, .inr (1, [.ref q4, .int 0, .int 0])), (q4, .inl (cy 0, (25, .inl (fun _ => 0)))), (q5, .inr (1, [.ref q6, .int 0, .int 0])), (q6, .inl (cy 0, (25, .inl (fun _ => 0)))), (q7, .inr (1, [.ref q8, .int 0, .int 0])), (q8, .inl (cy 0, (25, .inl (fun _ => 0)))), (q9, .inr (6, [.ref q10, .ref q11, .ref q12, .int 0])), (q10, .inl (cy 0, (6, .inl (fun _ => 0)))), (q11, .inl (cy 0, (6, .inl (fun _ => 0)))), (q12, .inl (cy 3, (6, .inl (fun _ => 0)))), (q13, .inr (6, [.ref q14, .ref q15, .ref q16, .int 0])), (q14, .inl (cy 0, (6, .inl (fun _ => 0)))), (q15, .inl (cy 0, (6, .inl (fun _ => 0)))), (q16, .inl (cy 3, (6, .inl (fun _ => 0)))), (q17, .inr (5, [.ref q18, .ref q19])), (q18, .inl (cy 0, (15, .inl (fun _ => 0)))), (q19, .inl (cy 0, (5, .inl (fun _ => 0)))), (q20, .inr (3, [.int 0, .int 0, .ref q21, .ref q22, .ref q23, .ref q24, .ref q25, .ref q26, .ref q27, .ref q28, .ref q29, .ref q30])), (q21, .inl (cy 0, (15, .inl (fun _ => 0)))), (q22, .inl (cy 0, (15, .inl (fun _ => 0)))), (q23, .inl (cy 0, (15, .inl (fun _ => 0)))), (q24, .inl (cy 0, (60, .inl (fun _ => 0)))), (q25, .inl (cy 0, (60, .inl (fun _ => 0)))), (q26, .inl (cy 0, (60, .inl (fun _ => 0)))), (q27, .inl (cy 0, (60, .inl (fun _ => 0)))), (q28, .inl (cy 3, (60, .inl (fun _ => 0)))), (q29, .inl (cy 0, (36, .inl (fun _ => 0)))), (q30, .inl (cy 0, (36, .inl (fun _ => 0)))), (q31, .inr (2, [.ref q20, .ref q32, .int (-1), .int 0])), (q32, .inl (cy 1, (60, .inr (.inl (fun _ => 0))))), (q33, .inr (0, [.ref q20, .ref q31, .ref q34, .ref q35, .ref q36, .ref q37, .ref q38, .ref q39, .ref q40, .ref q41, .ref q42, .int 0, .int 0])), (q34, .inl (cy 0, (15, .inl (fun _ => 0)))), (q35, .inl (cy 3, (15, .inl (fun _ => 0)))), (q36, .inl (cy 0, (15, .inl (fun _ => 0)))), (q37, .inl (cy 0, (15, .inl (fun _ => 0)))), (q38, .inl (cy 0, (60, .inl (fun _ => 0)))), (q39, .inl (cy 3, (60, .inl (fun _ => 0)))), (q40, .inl (cy 2, (3600, .inr (.inr (.inl (fun _ => 0)))))), (q41, .inl (cy 2, (3600, .inr (.inr (.inl (fun _ => 0)))))), (q42, .inl (cy 0, (3600, .inl (fun _ => 0)))), (q43, .inr (3, [.int 0, .int 0, .null, .null, .null, .null, .null, .null, .null, .null, .null, .null]))] H := hP
  have hD : va_D A [(h0, .inr (7, [.ref q1, .ref q3, .ref q5, .ref q7, .ref q9, .ref q13, .ref q17, .ref q20, .ref q31, .ref q33, .null, .null, .int 0, .int 0, .int 0])), (q1, .inr (4, [.ref q2, .int 0])), (q2, .inl (cy 0, (32, .inl (fun _ => 0)))), (q3, .inr (1, [.ref q4, .int 0, .int 0])), (q4, .inl (cy 0, (25, .inl (fun _ => 0)))), (q5, .inr (1, [.ref q6, .int 0, .int 0])), (q6, .inl (cy 0, (25, .inl (fun _ => 0)))), (q7, .inr (1, [.ref q8, .int 0, .int 0])), (q8, .inl (cy 0, (25, .inl (fun _ => 0)))), (q9, .inr (6, [.ref q10, .ref q11, .ref q12, .int 0])), (q10, .inl (cy 0, (6, .inl (fun _ => 0)))), (q11, .inl (cy 0, (6, .inl (fun _ => 0)))), (q12, .inl (cy 3, (6, .inl (fun _ => 0)))), (q13, .inr (6, [.ref q14, .ref q15, .ref q16, .int 0])), (q14, .inl (cy 0, (6, .inl (fun _ => 0)))), (q15, .inl (cy 0, (6, .inl (fun _ => 0)))), (q16, .inl (cy 3, (6, .inl (fun _ => 0)))), (q17, .inr (5, [.ref q18, .ref q19])), (q18, .inl (cy 0, (15, .inl (fun _ => 0)))), (q19, .inl (cy 0, (5, .inl (fun _ => 0)))), (q20, .inr (3, [.int 0, .int 0, .ref q21, .ref q22, .ref q23, .ref q24, .ref q25, .ref q26, .ref q27, .ref q28, .ref q29, .ref q30])), (q21, .inl (cy 0, (15, .inl (fun _ => 0)))), (q22, .inl (cy 0, (15, .inl (fun _ => 0)))), (q23, .inl (cy 0, (15, .inl (fun _ => 0)))), (q24, .inl (cy 0, (60, .inl (fun _ => 0)))), (q25, .inl (cy 0, (60, .inl (fun _ => 0)))), (q26, .inl (cy 0, (60, .inl (fun _ => 0)))), (q27, .inl (cy 0, (60, .inl (fun _ => 0)))), (q28, .inl (cy 3, (60, .inl (fun _ => 0)))), (q29, .inl (cy 0, (36, .inl (fun _ => 0)))), (q30, .inl (cy 0, (36, .inl (fun _ => 0)))), (q31, .inr (2, [.ref q20, .ref q32, .int (-1), .int 0])), (q32, .inl (cy 1, (60, .inr (.inl (fun _ => 0))))), (q33, .inr (0, [.ref q20, .ref q31, .ref q34, .ref q35, .ref q36, .ref q37, .ref q38, .ref q39, .ref q40, .ref q41, .ref q42, .int 0, .int 0])), (q34, .inl (cy 0, (15, .inl (fun _ => 0)))), (q35, .inl (cy 3, (15, .inl (fun _ => 0)))), (q36, .inl (cy 0, (15, .inl (fun _ => 0)))), (q37, .inl (cy 0, (15, .inl (fun _ => 0)))), (q38, .inl (cy 0, (60, .inl (fun _ => 0)))), (q39, .inl (cy 3, (60, .inl (fun _ => 0)))), (q40, .inl (cy 2, (3600, .inr (.inr (.inl (fun _ => 0)))))), (q41, .inl (cy 2, (3600, .inr (.inr (.inl (fun _ => 0)))))), (q42, .inl (cy 0, (3600, .inl (fun _ => 0)))), (q43, .inr (3, [.int 0, .int 0, .null, .null, .null, .null, .null, .null, .null, .null, .null, .null]))] := hD
  refine W.widen (k := 43) (n := 11682) (Nat.le_refl _) (Nat.le_refl _) ?_
  refine lv_dup hx hb dc_7_130 rfl ?_
  have hPc := hP.sub (ws' := [(q43, .inr (3, [.int 0, .int 0, .null, .null, .null, .null, .null, .null, .null, .null, .null, .null]))]) [43] rfl
  have hDc := hD.sub (ws' := [(q43, .inr (3, [.int 0, .int 0, .null, .null, .null, .null, .null, .null, .null, .null, .null, .null]))]) [43] (by decide) rfl
  have hFc := va_free (wc := [(q43, .inr (3, [.int 0, .int 0, .null, .null, .null, .null, .null, .null, .null, .null, .null, .null]))]) hD hS hA [43] rfl
  refine va_callv (va_runIN (As := []) (rest := [.ref q43, .ref h0]) ⟨hx, hb, hml, hown, hts⟩ (c_ini3 l dC dI cy q43 H.size ) ⟨va_cnB 0 hts (jc_good7_3) rfl rfl rfl (hN _ (jn_m1 96 rfl) rfl) (hts _ (List.mem_cons_of_mem _ (js_tg (jn_m1 6 rfl) rfl))) (by decide +kernel) ⟨Nat.le_of_ble_eq_true rfl, Nat.le_of_ble_eq_true rfl⟩, rfl, hts _ (List.mem_cons_of_mem _ (js_tg (jn_m1 97 rfl) rfl))⟩ ⟨jc_blind, fun U hU hW => ⟨rfl, by rw [hU], by rw [hU]; exact hPc, va_K.moved hW.alike hK, hDc.weaken (fun _ _ _ _ => trivial), js_N_at hW hN⟩⟩ rfl rfl hl.1 rfl (lv_room (Nat.le_of_ble_eq_true rfl)) dc_7_131 ⟨Nat.le_of_ble_eq_true rfl, Nat.le_of_ble_eq_true rfl⟩) hS (fun q _ h => hFc q h) hFc (fun u t H1 locs ht hvm hw hB hz1 hk1 hS => ?_)
  obtain ⟨q44, q45, q46, q47, q48, q49, q50, q51, q52, q53, hP1, hK1, hD1⟩ := hB
  rw [ht] at hP1
  obtain ⟨hP, hD⟩ := va_join (wr := [(h0, .inr (7, [.ref q1, .ref q3, .ref q5, .ref q7, .ref q9, .ref q13, .ref q17, .ref q20, .ref q31, .ref q33, .null, .null, .int 0, .int 0, .int 0])), (q1, .inr (4, [.ref q2, .int 0])), (q2, .inl (cy 0, (32, .inl (fun _ => 0)))), (q3, .inr (1, [.ref q4, .int 0, .int 0])), (q4, .inl (cy 0, (25, .inl (fun _ => 0)))), (q5, .inr (1, [.ref q6, .int 0, .int 0])), (q6, .inl (cy 0, (25, .inl (fun _ => 0)))), (q7, .inr (1, [.ref q8, .int 0, .int 0])), (q8, .inl (cy 0, (25, .inl (fun _ => 0)))), (q9, .inr (6, [.ref q10, .ref q11, .ref q12, .int 0])), (q10, .inl (cy 0, (6, .inl (fun _ => 0)))), (q11, .inl (cy 0, (6, .inl (fun _ => 0)))), (q12, .inl (cy 3, (6, .inl (fun _ => 0)))), (q13, .inr (6, [.ref q14, .ref q15, .ref q16, .int 0])), (q14, .inl (cy 0, (6, .inl (fun _ => 0)))), (q15, .inl (cy 0, (6, .inl (fun _ => 0)))), (q16, .inl (cy 3, (6, .inl (fun _ => 0)))), (q17, .inr (5, [.ref q18, .ref q19])), (q18, .inl (cy 0, (15, .inl (fun _ => 0)))), (q19, .inl (cy 0, (5, .inl (fun _ => 0)))), (q20, .inr (3, [.int 0, .int 0, .ref q21, .ref q22, .ref q23, .ref q24, .ref q25, .ref q26, .ref q27, .ref q28, .ref q29, .ref q30])), (q21, .inl (cy 0, (15, .inl (fun _ => 0)))), (q22, .inl (cy 0, (15, .inl (fun _ => 0)))), (q23, .inl (cy 0, (15, .inl (fun _ => 0)))), (q24, .inl (cy 0, (60, .inl (fun _ => 0)))), (q25, .inl (cy 0, (60, .inl (fun _ => 0)))), (q26, .inl (cy 0, (60, .inl (fun _ => 0)))), (q27, .inl (cy 0, (60, .inl (fun _ => 0)))), (q28, .inl (cy 3, (60, .inl (fun _ => 0)))), (q29, .inl (cy 0, (36, .inl (fun _ => 0)))), (q30, .inl (cy 0, (36, .inl (fun _ => 0)))), (q31, .inr (2, [.ref q20, .ref q32, .int (-1), .int 0])), (q32, .inl (cy 1, (60, .inr (.inl (fun _ => 0))))), (q33, .inr (0, [.ref q20, .ref q31, .ref q34, .ref q35, .ref q36, .ref q37, .ref q38, .ref q39, .ref q40, .ref q41, .ref q42, .int 0, .int 0])), (q34, .inl (cy 0, (15, .inl (fun _ => 0)))), (q35, .inl (cy 3, (15, .inl (fun _ => 0)))), (q36, .inl (cy 0, (15, .inl (fun _ => 0)))), (q37, .inl (cy 0, (15, .inl (fun _ => 0)))), (q38, .inl (cy 0, (60, .inl (fun _ => 0)))), (q39, .inl (cy 3, (60, .inl (fun _ => 0)))), (q40, .inl (cy 2, (3600, .inr (.inr (.inl (fun _ => 0)))))), (q41, .inl (cy 2, (3600, .inr (.inr (.inl (fun _ => 0)))))), (q42, .inl (cy 0, (3600, .inl (fun _ => 0))))]) (w1 := [(q43, .inr (3, [.int 0, .int 0, .ref q44, .ref q45, .ref q46, .ref q47, .ref q48, .ref q49, .ref q50, .ref q51, .ref q52, .ref q53])), (q44, .inl (cy 0, (15, .inl (fun _ => 0)))), (q45, .inl (cy 0, (15, .inl (fun _ => 0)))), (q46, .inl (cy 0, (15, .inl (fun _ => 0)))), (q47, .inl (cy 0, (60, .inl (fun _ => 0)))), (q48, .inl (cy 0, (60, .inl (fun _ => 0)))), (q49, .inl (cy 0, (60, .inl (fun _ => 0)))), (q50, .inl (cy 0, (60, .inl (fun _ => 0)))), (q51, .inl (cy 3, (60, .inl (fun _ => 0)))), (q52, .inl (cy 0, (36, .inl (fun _ => 0)))), (q53, .inl (cy 0, (36, .inl (fun _ => 0))))]) hP hD [43] [0, 1, 2, 3, 4, 5, 6, 7, 8, 9, 10, 11, 12, 13, 14, 15, 16, 17, 18, 19, 20, 21, 22, 23, 24, 25, 26, 27, 28, 29, 30, 31, 32, 33, 34, 35, 36, 37, 38, 39, 40, 41, 42] rfl rfl (by decide) (by decide) hk1 hFc hP1 hD1
  generalize H1 = H at hP hS ⊢
  have hP : va_P (dC, dI) jn_cl [(h0, .inr (7, [.ref q1, .ref q3, .ref q5, .ref q7, .ref q9, .ref q13, .ref q17, .ref q20, .ref q31, .ref q33, .null, .null, .int 0, .int 0, .int 0])), (q1, .inr (4, [.ref q2, .int 0])), (q2, .inl (cy 0, (32, .inl (fun _ => 0)))), (q3, .inr (1, [.ref q4, .int 0, .int 0])), (q4, .inl (cy 0, (25, .inl (fun _ => 0)))), (q5, .inr (1, [.ref q6, .int 0, .int 0])), (q6, .inl (cy 0, (25, .inl (fun _ => 0)))), (q7, .inr (1, [.ref q8, .int 0, .int 0])), (q8, .inl (cy 0, (25, .inl (fun _ => 0)))), (q9, .inr (6, [.ref q10, .ref q11, .ref q12, .int 0])), (q10, .inl (cy 0, (6, .inl (fun _ => 0)))), (q11, .inl (cy 0, (6, .inl (fun _ => 0)))), (q12, .inl (cy 3, (6, .inl (fun _ => 0)))), (q13, .inr (6, [.ref q14, .ref q15, .ref q16, .int 0])), (q14, .inl (cy 0, (6, .inl (fun _ => 0)))), (q15, .inl (cy 0, (6, .inl (fun _ => 0)))), (q16, .inl (cy 3, (6, .inl (fun _ => 0)))), (q17, .inr (5, [.ref q18, .ref q19])), (q18, .inl (cy 0, (15, .inl (fun _ => 0)))), (q19, .inl (cy 0, (5, .inl (fun _ => 0)))), (q20, .inr (3, [.int 0, .int 0, .ref q21, .ref q22, .ref q23, .ref q24, .ref q25, .ref q26, .ref q27, .ref q28, .ref q29, .ref q30])), (q21, .inl (cy 0, (15, .inl (fun _ => 0)))), (q22, .inl (cy 0, (15, .inl (fun _ => 0)))), (q23, .inl (cy 0, (15, .inl (fun _ => 0)))), (q24, .inl (cy 0, (60, .inl (fun _ => 0)))), (q25, .inl (cy 0, (60, .inl (fun _ => 0)))), (q26, .inl (cy 0, (60, .inl (fun _ => 0)))), (q27, .inl (cy 0, (60, .inl (fun _ => 0)))), (q28, .inl (cy 3, (60, .inl (fun _ => 0)))), (q29, .inl (cy 0, (36, .inl (fun _ => 0)))), (q30, .inl (cy 0, (36, .inl (fun _ => 0)))), (q31, .inr (2, [.ref q20, .ref q32, .int (-1), .int 0])), (q32, .inl (cy 1, (60, .inr (.inl (fun _ => 0))))), (q33, .inr (0, [.ref q20, .ref q31, .ref q34, .ref q35, .ref q36, .ref q37, .ref q38, .ref q39, .ref q40, .ref q41, .ref q42, .int 0, .int 0])), (q34, .inl (cy 0, (15, .inl (fun _ => 0)))), (q35, .inl (cy 3, (15, .inl (fun _ => 0)))), (q36, .inl (cy 0, (15, .inl (fun _ => 0)))), (q37, .inl (cy 0, (15, .inl (fun _ => 0)))), (q38, .inl (cy 0, (60, .inl (fun _ => 0)))), (q39, .inl (cy 3, (60, .inl (fun _ => 0)))), (q40, .inl (cy 2, (3600, .inr (.inr (.inl (fun _ => 0)))))), (q41, .inl (cy 2, (3600, .inr (.inr (.inl (fun _ => 0)))))), (q42, .inl (cy 0, (3600, .inl (fun _ => 0)))), (q43, .inr (3, [.int 0, .int 0, .ref q44, .ref q45, .ref q46, .ref q47, .ref q48, .ref q49, .ref q50, .ref q51, .ref q52, .ref q53])), (q44, .inl (cy 0, (15, .inl (fun _ => 0)))), (q45, .inl (cy 0, (15, .inl (fun _ => 0)))), (q46, .inl (cy 0, (15, .inl (fun _ => 0)))), (q47, .inl (cy 0, (60, .inl (fun _ => 0)))), (q48, .inl (cy 0, (60, .inl (fun _ => 0)))), (q49, .inl (cy 0, (60, .inl (fun _ => 0)))), (q50, .inl (cy 0, (60, .inl (fun _ => 0)))), (q51, .inl (cy 3, (60, .inl (fun _ => 0)))), (q52, .inl (cy 0, (36, .inl (fun _ => 0)))), (q53, .inl (cy 0, (36, .inl (fun _ => 0))))] H := hP
  have hD : va_D A [(h0, .inr (7, [.ref q1, .ref q3, .ref q5, .ref q7, .ref q9, .ref q13, .ref q17, .ref q20, .ref q31, .ref q33, .null, .null, .int 0, .int 0, .int 0])), (q1, .inr (4, [.ref q2, .int 0])), (q2, .inl (cy 0, (32, .inl (fun _ => 0)))), (q3, .inr (1, [.ref q4, .int 0, .int 0])), (q4, .inl (cy 0, (25, .inl (fun _ => 0)))), (q5, .inr (1, [.ref q6, .int 0, .int 0])), (q6, .inl (cy 0, (25, .inl (fun _ => 0)))), (q7, .inr (1, [.ref q8, .int 0, .int 0])), (q8, .inl (cy 0, (25, .inl (fun _ => 0)))), (q9, .inr (6, [.ref q10, .ref q11, .ref q12, .int 0])), (q10, .inl (cy 0, (6, .inl (fun _ => 0)))), (q11, .inl (cy 0, (6, .inl (fun _ => 0)))), (q12, .inl (cy 3, (6, .inl (fun _ => 0)))), (q13, .inr (6, [.ref q14, .ref q15, .ref q16, .int 0])), (q14, .inl (cy 0, (6, .inl (fun _ => 0)))), (q15, .inl (cy 0, (6, .inl (fun _ => 0)))), (q16, .inl (cy 3, (6, .inl (fun _ => 0)))), (q17, .inr (5, [.ref q18, .ref q19])), (q18, .inl (cy 0, (15, .inl (fun _ => 0)))), (q19, .inl (cy 0, (5, .inl (fun _ => 0)))), (q20, .inr (3, [.int 0, .int 0, .ref q21, .ref q22, .ref q23, .ref q24, .ref q25, .ref q26, .ref q27, .ref q28, .ref q29, .ref q30])), (q21, .inl (cy 0, (15, .inl (fun _ => 0)))), (q22, .inl (cy 0, (15, .inl (fun _ => 0)))), (q23, .inl (cy 0, (15, .inl (fun _ => 0)))), (q24, .inl (cy 0, (60, .inl (fun _ => 0)))), (q25, .inl (cy 0, (60, .inl (fun _ => 0)))), (q26, .inl (cy 0, (60, .inl (fun _ => 0)))), (q27, .inl (cy 0, (60, .inl (fun _ => 0)))), (q28, .inl (cy 3, (60, .inl (fun _ => 0)))), (q29, .inl (cy 0, (36, .inl (fun _ => 0)))), (q30, .inl (cy 0, (36, .inl (fun _ => 0)))), (q31, .inr (2, [.ref q20, .ref q32, .int (-1), .int 0])), (q32, .inl (cy 1, (60, .inr (.inl (fun _ => 0))))), (q33, .inr (0, [.ref q20, .ref q31, .ref q34, .ref q35, .ref q36, .ref q37, .ref q38, .ref q39, .ref q40, .ref q41, .ref q42, .int 0, .int 0])), (q34, .inl (cy 0, (15, .inl (fun _ => 0)))), (q35, .inl (cy 3, (15, .inl (fun _ => 0)))), (q36, .inl (cy 0, (15, .inl (fun _ => 0)))), (q37, .inl (cy 0, (15, .inl (fun _ => 0)))), (q38, .inl (cy 0, (60, .inl (fun _ => 0)))), (q39, .inl (cy 3, (60, .inl (fun _ => 0)))), (q40, .inl (cy 2, (3600, .inr (.inr (.inl (fun _ => 0)))))), (q41, .inl (cy 2, (3600, .inr (.inr (.inl (fun _ => 0)))))), (q42, .inl (cy 0, (3600, .inl (fun _ => 0)))), (q43, .inr (3, [.int 0, .int 0, .ref q44, .ref q45, .ref q46, .ref q47, .ref q48, .ref q49, .ref q50, .ref q51, .ref q52, .ref q53])), (q44, .inl (cy 0, (15, .inl (fun _ => 0)))), (q45, .inl (cy 0, (15, .inl (fun _ => 0)))), (q46, .inl (cy 0, (15, .inl (fun _ => 0)))), (q47, .inl (cy 0, (60, .inl (fun _ => 0)))), (q48, .inl (cy 0, (60, .inl (fun _ => 0)))), (q49, .inl (cy 0, (60, .inl (fun _ => 0)))), (q50, .inl (cy 0, (60, .inl (fun _ => 0)))), (q51, .inl (cy 3, (60, .inl (fun _ => 0)))), (q52, .inl (cy 0, (36, .inl (fun _ => 0)))), (q53, .inl (cy 0, (36, .inl (fun _ => 0))))] := hD
  refine W.widen (k := 53) (n := 12099) (Nat.le_refl _) (Nat.le_refl _) ?_
  refine va_putF (D := (dC, dI)) (ci := 7) (v := .ref q43) (ty := .object "BlobCorners$Outlines") (C := "BlobCorners") (T := jn_T7) (N := 15) hx hb hts (fun w h => List.mem_cons_of_mem _ (js_wsg7 w h)) jn_ty7 jn_tyok7 jn_nm7 hown hK hP hD hS 0 rfl rfl 10 (by decide) (hts _ (List.mem_cons_of_mem _ (js_tg (jn_m1 215 rfl) rfl))) (fun _ h9 => h9) rfl hin2 rfl (by decide +kernel) rfl rfl (Nat.le_of_ble_eq_true rfl) dc_7_134 (fun H locs hP hD hS => ?_)
  have hP : va_P (dC, dI) jn_cl [(h0, .inr (7, [.ref q1, .ref q3, .ref q5, .ref q7, .ref q9, .ref q13, .ref q17, .ref q20, .ref q31, .ref q33, .ref q43, .null, .int 0, .int 0, .int 0])), (q1, .inr (4, [.ref q2, .int 0])), (q2, .inl (cy 0, (32, .inl (fun _ => 0)))), (q3, .inr (1, [.ref q4, .int 0, .int 0])), (q4, .inl (cy 0, (25, .inl (fun _ => 0)))), (q5, .inr (1, [.ref q6, .int 0, .int 0])), (q6, .inl (cy 0, (25, .inl (fun _ => 0)))), (q7, .inr (1, [.ref q8, .int 0, .int 0])), (q8, .inl (cy 0, (25, .inl (fun _ => 0)))), (q9, .inr (6, [.ref q10, .ref q11, .ref q12, .int 0])), (q10, .inl (cy 0, (6, .inl (fun _ => 0)))), (q11, .inl (cy 0, (6, .inl (fun _ => 0)))), (q12, .inl (cy 3, (6, .inl (fun _ => 0)))), (q13, .inr (6, [.ref q14, .ref q15, .ref q16, .int 0])), (q14, .inl (cy 0, (6, .inl (fun _ => 0)))), (q15, .inl (cy 0, (6, .inl (fun _ => 0)))), (q16, .inl (cy 3, (6, .inl (fun _ => 0)))), (q17, .inr (5, [.ref q18, .ref q19])), (q18, .inl (cy 0, (15, .inl (fun _ => 0)))), (q19, .inl (cy 0, (5, .inl (fun _ => 0)))), (q20, .inr (3, [.int 0, .int 0, .ref q21, .ref q22, .ref q23, .ref q24, .ref q25, .ref q26, .ref q27, .ref q28, .ref q29, .ref q30])), (q21, .inl (cy 0, (15, .inl (fun _ => 0)))), (q22, .inl (cy 0, (15, .inl (fun _ => 0)))), (q23, .inl (cy 0, (15, .inl (fun _ => 0)))), (q24, .inl (cy 0, (60, .inl (fun _ => 0)))), (q25, .inl (cy 0, (60, .inl (fun _ => 0)))), (q26, .inl (cy 0, (60, .inl (fun _ => 0)))), (q27, .inl (cy 0, (60, .inl (fun _ => 0)))), (q28, .inl (cy 3, (60, .inl (fun _ => 0)))), (q29, .inl (cy 0, (36, .inl (fun _ => 0)))), (q30, .inl (cy 0, (36, .inl (fun _ => 0)))), (q31, .inr (2, [.ref q20, .ref q32, .int (-1), .int 0])), (q32, .inl (cy 1, (60, .inr (.inl (fun _ => 0))))), (q33, .inr (0, [.ref q20, .ref q31, .ref q34, .ref q35, .ref q36, .ref q37, .ref q38, .ref q39, .ref q40, .ref q41, .ref q42, .int 0, .int 0])), (q34, .inl (cy 0, (15, .inl (fun _ => 0)))), (q35, .inl (cy 3, (15, .inl (fun _ => 0)))), (q36, .inl (cy 0, (15, .inl (fun _ => 0)))), (q37, .inl (cy 0, (15, .inl (fun _ => 0)))), (q38, .inl (cy 0, (60, .inl (fun _ => 0)))), (q39, .inl (cy 3, (60, .inl (fun _ => 0)))), (q40, .inl (cy 2, (3600, .inr (.inr (.inl (fun _ => 0)))))), (q41, .inl (cy 2, (3600, .inr (.inr (.inl (fun _ => 0)))))), (q42, .inl (cy 0, (3600, .inl (fun _ => 0)))), (q43, .inr (3, [.int 0, .int 0, .ref q44, .ref q45, .ref q46, .ref q47, .ref q48, .ref q49, .ref q50, .ref q51, .ref q52, .ref q53])), (q44, .inl (cy 0, (15, .inl (fun _ => 0)))), (q45, .inl (cy 0, (15, .inl (fun _ => 0)))), (q46, .inl (cy 0, (15, .inl (fun _ => 0)))), (q47, .inl (cy 0, (60, .inl (fun _ => 0)))), (q48, .inl (cy 0, (60, .inl (fun _ => 0)))), (q49, .inl (cy 0, (60, .inl (fun _ => 0)))), (q50, .inl (cy 0, (60, .inl (fun _ => 0)))), (q51, .inl (cy 3, (60, .inl (fun _ => 0)))), (q52, .inl (cy 0, (36, .inl (fun _ => 0)))), (q53, .inl (cy 0, (36, .inl (fun _ => 0))))] H := hP
  have hD : va_D A [(h0, .inr (7, [.ref q1, .ref q3, .ref q5, .ref q7, .ref q9, .ref q13, .ref q17, .ref q20, .ref q31, .ref q33, .ref q43, .null, .int 0, .int 0, .int 0])), (q1, .inr (4, [.ref q2, .int 0])), (q2, .inl (cy 0, (32, .inl (fun _ => 0)))), (q3, .inr (1, [.ref q4, .int 0, .int 0])), (q4, .inl (cy 0, (25, .inl (fun _ => 0)))), (q5, .inr (1, [.ref q6, .int 0, .int 0])), (q6, .inl (cy 0, (25, .inl (fun _ => 0)))), (q7, .inr (1, [.ref q8, .int 0, .int 0])), (q8, .inl (cy 0, (25, .inl (fun _ => 0)))), (q9, .inr (6, [.ref q10, .ref q11, .ref q12, .int 0])), (q10, .inl (cy 0, (6, .inl (fun _ => 0)))), (q11, .inl (cy 0, (6, .inl (fun _ => 0)))), (q12, .inl (cy 3, (6, .inl (fun _ => 0)))), (q13, .inr (6, [.ref q14, .ref q15, .ref q16, .int 0])), (q14, .inl (cy 0, (6, .inl (fun _ => 0)))), (q15, .inl (cy 0, (6, .inl (fun _ => 0)))), (q16, .inl (cy 3, (6, .inl (fun _ => 0)))), (q17, .inr (5, [.ref q18, .ref q19])), (q18, .inl (cy 0, (15, .inl (fun _ => 0)))), (q19, .inl (cy 0, (5, .inl (fun _ => 0)))), (q20, .inr (3, [.int 0, .int 0, .ref q21, .ref q22, .ref q23, .ref q24, .ref q25, .ref q26, .ref q27, .ref q28, .ref q29, .ref q30])), (q21, .inl (cy 0, (15, .inl (fun _ => 0)))), (q22, .inl (cy 0, (15, .inl (fun _ => 0)))), (q23, .inl (cy 0, (15, .inl (fun _ => 0)))), (q24, .inl (cy 0, (60, .inl (fun _ => 0)))), (q25, .inl (cy 0, (60, .inl (fun _ => 0)))), (q26, .inl (cy 0, (60, .inl (fun _ => 0)))), (q27, .inl (cy 0, (60, .inl (fun _ => 0)))), (q28, .inl (cy 3, (60, .inl (fun _ => 0)))), (q29, .inl (cy 0, (36, .inl (fun _ => 0)))), (q30, .inl (cy 0, (36, .inl (fun _ => 0)))), (q31, .inr (2, [.ref q20, .ref q32, .int (-1), .int 0])), (q32, .inl (cy 1, (60, .inr (.inl (fun _ => 0))))), (q33, .inr (0, [.ref q20, .ref q31, .ref q34, .ref q35, .ref q36, .ref q37, .ref q38, .ref q39, .ref q40, .ref q41, .ref q42, .int 0, .int 0])), (q34, .inl (cy 0, (15, .inl (fun _ => 0)))), (q35, .inl (cy 3, (15, .inl (fun _ => 0)))), (q36, .inl (cy 0, (15, .inl (fun _ => 0)))), (q37, .inl (cy 0, (15, .inl (fun _ => 0)))), (q38, .inl (cy 0, (60, .inl (fun _ => 0)))), (q39, .inl (cy 3, (60, .inl (fun _ => 0)))), (q40, .inl (cy 2, (3600, .inr (.inr (.inl (fun _ => 0)))))), (q41, .inl (cy 2, (3600, .inr (.inr (.inl (fun _ => 0)))))), (q42, .inl (cy 0, (3600, .inl (fun _ => 0)))), (q43, .inr (3, [.int 0, .int 0, .ref q44, .ref q45, .ref q46, .ref q47, .ref q48, .ref q49, .ref q50, .ref q51, .ref q52, .ref q53])), (q44, .inl (cy 0, (15, .inl (fun _ => 0)))), (q45, .inl (cy 0, (15, .inl (fun _ => 0)))), (q46, .inl (cy 0, (15, .inl (fun _ => 0)))), (q47, .inl (cy 0, (60, .inl (fun _ => 0)))), (q48, .inl (cy 0, (60, .inl (fun _ => 0)))), (q49, .inl (cy 0, (60, .inl (fun _ => 0)))), (q50, .inl (cy 0, (60, .inl (fun _ => 0)))), (q51, .inl (cy 3, (60, .inl (fun _ => 0)))), (q52, .inl (cy 0, (36, .inl (fun _ => 0)))), (q53, .inl (cy 0, (36, .inl (fun _ => 0))))] := hD
  refine lv_aload_n hx hb dc_7_137 rfl (lv_at hl 0 rfl) ?_
  refine va_new (ci := 2) (fs := [.null, .null, .int 0, .int 0]) (C := "BlobCorners$Joints") (T := jn_T2) (N := 4) hx hb hts (fun w h => List.mem_cons_of_mem _ (js_wsg2 w h)) jn_ty2 jn_tyok2 hown (hts _ (List.mem_cons_of_mem _ (js_tg (jn_m1 138 rfl) rfl))) (hts _ (List.mem_cons_of_mem _ (js_tg (jn_m1 139 rfl) rfl))) (hts _ (List.mem_cons_of_mem _ (js_tg (jn_m1 7 rfl) rfl))) hK hP hD hS hA rfl (jc_df2 rfl) (Nat.le_of_ble_eq_true rfl) (Nat.le_of_ble_eq_true rfl) dc_7_138 (fun q54 H hP hD hS => ?_)
  have hP : va_P (dC, dI) jn_cl [(h0, .inr (7, [.ref q1, .ref q3, .ref q5, .ref q7, .ref q9, .ref q13, .ref q17, .ref q20, .ref q31, .ref q33, .ref q43, .null, .int 0, .int 0, .int 0])), (q1, .inr (4, [.ref q2, .int 0])), (q2, .inl (cy 0, (32, .inl (fun _ => 0)))), (q3, .inr (1, [.ref q4, .int 0, .int 0])), (q4, .inl (cy 0, (25, .inl (fun _ => 0)))), (q5, .inr (1, [.ref q6, .int 0, .int 0])), (q6, .inl (cy 0, (25, .inl (fun _ => 0)))), (q7, .inr (1, [.ref q8, .int 0, .int 0])), (q8, .inl (cy 0, (25, .inl (fun _ => 0)))), (q9, .inr (6, [.ref q10, .ref q11, .ref q12, .int 0])), (q10, .inl (cy 0, (6, .inl (fun _ => 0)))), (q11, .inl (cy 0, (6, .inl (fun _ => 0)))), (q12, .inl (cy 3, (6, .inl (fun _ => 0)))), (q13, .inr (6, [.ref q14, .ref q15, .ref q16, .int 0])), (q14, .inl (cy 0, (6, .inl (fun _ => 0)))), (q15, .inl (cy 0, (6, .inl (fun _ => 0)))), (q16, .inl (cy 3, (6, .inl (fun _ => 0)))), (q17, .inr (5, [.ref q18, .ref q19])), (q18, .inl (cy 0, (15, .inl (fun _ => 0)))), (q19, .inl (cy 0, (5, .inl (fun _ => 0)))), (q20, .inr (3, [.int 0, .int 0, .ref q21, .ref q22, .ref q23, .ref q24, .ref q25, .ref q26, .ref q27, .ref q28, .ref q29, .ref q30])), (q21, .inl (cy 0, (15, .inl (fun _ => 0)))), (q22, .inl (cy 0, (15, .inl (fun _ => 0)))), (q23, .inl (cy 0, (15, .inl (fun _ => 0)))), (q24, .inl (cy 0, (60, .inl (fun _ => 0)))), (q25, .inl (cy 0, (60, .inl (fun _ => 0)))), (q26, .inl (cy 0, (60, .inl (fun _ => 0)))), (q27, .inl (cy 0, (60, .inl (fun _ => 0)))), (q28, .inl (cy 3, (60, .inl (fun _ => 0)))), (q29, .inl (cy 0, (36, .inl (fun _ => 0)))), (q30, .inl (cy 0, (36, .inl (fun _ => 0)))), (q31, .inr (2, [.ref q20, .ref q32, .int (-1), .int 0])), (q32, .inl (cy 1, (60, .inr (.inl (fun _ => 0))))), (q33, .inr (0, [.ref q20, .ref q31, .ref q34, .ref q35, .ref q36, .ref q37, .ref q38, .ref q39, .ref q40, .ref q41, .ref q42, .int 0, .int 0])), (q34, .inl (cy 0, (15, .inl (fun _ => 0)))), (q35, .inl (cy 3, (15, .inl (fun _ => 0)))), (q36, .inl (cy 0, (15, .inl (fun _ => 0)))), (q37, .inl (cy 0, (15, .inl (fun _ => 0)))), (q38, .inl (cy 0, (60, .inl (fun _ => 0)))), (q39, .inl (cy 3, (60, .inl (fun _ => 0)))), (q40, .inl (cy 2, (3600, .inr (.inr (.inl (fun _ => 0)))))), (q41, .inl (cy 2, (3600, .inr (.inr (.inl (fun _ => 0)))))), (q42, .inl (cy 0, (3600, .inl (fun _ => 0)))), (q43, .inr (3, [.int 0, .int 0, .ref q44, .ref q45, .ref q46, .ref q47, .ref q48, .ref q49, .ref q50, .ref q51, .ref q52, .ref q53])), (q44, .inl (cy 0, (15, .inl (fun _ => 0)))), (q45, .inl (cy 0, (15, .inl (fun _ => 0)))), (q46, .inl (cy 0, (15, .inl (fun _ => 0)))), (q47, .inl (cy 0, (60, .inl (fun _ => 0)))), (q48, .inl (cy 0, (60, .inl (fun _ => 0)))), (q49, .inl (cy 0, (60, .inl (fun _ => 0)))), (q50, .inl (cy 0, (60, .inl (fun _ => 0)))), (q51, .inl (cy 3, (60, .inl (fun _ => 0)))), (q52, .inl (cy 0, (36, .inl (fun _ => 0)))), (q53, .inl (cy 0, (36, .inl (fun _ => 0)))), (q54, .inr (2, [.null, .null, .int 0, .int 0]))] H := hP
  have hD : va_D A [(h0, .inr (7, [.ref q1, .ref q3, .ref q5, .ref q7, .ref q9, .ref q13, .ref q17, .ref q20, .ref q31, .ref q33, .ref q43, .null, .int 0, .int 0, .int 0])), (q1, .inr (4, [.ref q2, .int 0])), (q2, .inl (cy 0, (32, .inl (fun _ => 0)))), (q3, .inr (1, [.ref q4, .int 0, .int 0])), (q4, .inl (cy 0, (25, .inl (fun _ => 0)))), (q5, .inr (1, [.ref q6, .int 0, .int 0])), (q6, .inl (cy 0, (25, .inl (fun _ => 0)))), (q7, .inr (1, [.ref q8, .int 0, .int 0])), (q8, .inl (cy 0, (25, .inl (fun _ => 0)))), (q9, .inr (6, [.ref q10, .ref q11, .ref q12, .int 0])), (q10, .inl (cy 0, (6, .inl (fun _ => 0)))), (q11, .inl (cy 0, (6, .inl (fun _ => 0)))), (q12, .inl (cy 3, (6, .inl (fun _ => 0)))), (q13, .inr (6, [.ref q14, .ref q15, .ref q16, .int 0])), (q14, .inl (cy 0, (6, .inl (fun _ => 0)))), (q15, .inl (cy 0, (6, .inl (fun _ => 0)))), (q16, .inl (cy 3, (6, .inl (fun _ => 0)))), (q17, .inr (5, [.ref q18, .ref q19])), (q18, .inl (cy 0, (15, .inl (fun _ => 0)))), (q19, .inl (cy 0, (5, .inl (fun _ => 0)))), (q20, .inr (3, [.int 0, .int 0, .ref q21, .ref q22, .ref q23, .ref q24, .ref q25, .ref q26, .ref q27, .ref q28, .ref q29, .ref q30])), (q21, .inl (cy 0, (15, .inl (fun _ => 0)))), (q22, .inl (cy 0, (15, .inl (fun _ => 0)))), (q23, .inl (cy 0, (15, .inl (fun _ => 0)))), (q24, .inl (cy 0, (60, .inl (fun _ => 0)))), (q25, .inl (cy 0, (60, .inl (fun _ => 0)))), (q26, .inl (cy 0, (60, .inl (fun _ => 0)))), (q27, .inl (cy 0, (60, .inl (fun _ => 0)))), (q28, .inl (cy 3, (60, .inl (fun _ => 0)))), (q29, .inl (cy 0, (36, .inl (fun _ => 0)))), (q30, .inl (cy 0, (36, .inl (fun _ => 0)))), (q31, .inr (2, [.ref q20, .ref q32, .int (-1), .int 0])), (q32, .inl (cy 1, (60, .inr (.inl (fun _ => 0))))), (q33, .inr (0, [.ref q20, .ref q31, .ref q34, .ref q35, .ref q36, .ref q37, .ref q38, .ref q39, .ref q40, .ref q41, .ref q42, .int 0, .int 0])), (q34, .inl (cy 0, (15, .inl (fun _ => 0)))), (q35, .inl (cy 3, (15, .inl (fun _ => 0)))), (q36, .inl (cy 0, (15, .inl (fun _ => 0)))), (q37, .inl (cy 0, (15, .inl (fun _ => 0)))), (q38, .inl (cy 0, (60, .inl (fun _ => 0)))), (q39, .inl (cy 3, (60, .inl (fun _ => 0)))), (q40, .inl (cy 2, (3600, .inr (.inr (.inl (fun _ => 0)))))), (q41, .inl (cy 2, (3600, .inr (.inr (.inl (fun _ => 0)))))), (q42, .inl (cy 0, (3600, .inl (fun _ => 0)))), (q43, .inr (3, [.int 0, .int 0, .ref q44, .ref q45, .ref q46, .ref q47, .ref q48, .ref q49, .ref q50, .ref q51, .ref q52, .ref q53])), (q44, .inl (cy 0, (15, .inl (fun _ => 0)))), (q45, .inl (cy 0, (15, .inl (fun _ => 0)))), (q46, .inl (cy 0, (15, .inl (fun _ => 0)))), (q47, .inl (cy 0, (60, .inl (fun _ => 0)))), (q48, .inl (cy 0, (60, .inl (fun _ => 0)))), (q49, .inl (cy 0, (60, .inl (fun _ => 0)))), (q50, .inl (cy 0, (60, .inl (fun _ => 0)))), (q51, .inl (cy 3, (60, .inl (fun _ => 0)))), (q52, .inl (cy 0, (36, .inl (fun _ => 0)))), (q53, .inl (cy 0, (36, .inl (fun _ => 0)))), (q54, .inr (2, [.null, .null, .int 0, .int 0]))] := hD
  refine W.widen (k := 54) (n := 12103) (Nat.le_refl _) (Nat.le_refl _) ?_
  refine lv_dup hx hb dc_7_141 rfl ?_
  refine lv_aload_n hx hb dc_7_142 rfl (lv_at hl 0 rfl) ?_
  refine va_get (D := (dC, dI)) (ci := 7) (v := .ref q43) (C := "BlobCorners") (T := jn_T7) (N := 15) hx hb hts (fun w h => List.mem_cons_of_mem _ (js_wsg7 w h)) hown hK hP 0 rfl rfl 10 (by decide) (hts _ (List.mem_cons_of_mem _ (js_tg (jn_m1 215 rfl) rfl))) (fun _ h9 => h9) rfl dc_7_143 ?_
  have hPc := hP.sub (ws' := [(q54, .inr (2, [.null, .null, .int 0, .int 0]))]) [54] rfl
  have hDc := hD.sub (ws' := [(q54, .inr (2, [.null, .null, .int 0, .int 0]))]) [54] (by decide) rfl
  have hFc := va_free (wc := [(q54, .inr (2, [.null, .null, .int 0, .int 0]))]) hD hS hA [54] rfl
  refine va_callv (va_runIN (As := [.ref q43]) (rest := [.ref q54, .ref h0]) ⟨hx, hb, hml, hown, hts⟩ (c_ini2 l dC dI cy q54 H.size q43) ⟨va_cnB 1 hts (jc_good7_2) rfl rfl rfl (hN _ (jn_m1 140 rfl) rfl) (hts _ (List.mem_cons_of_mem _ (js_tg (jn_m1 7 rfl) rfl))) (by decide +kernel) ⟨Nat.le_of_ble_eq_true rfl, Nat.le_of_ble_eq_true rfl⟩, rfl, hts _ (List.mem_cons_of_mem _ (js_tg (jn_m1 141 rfl) rfl))⟩ ⟨jc_blind, fun U hU hW => ⟨rfl, by rw [hU], by rw [hU]; exact hPc, va_K.moved hW.alike hK, hDc.weaken (fun _ _ _ _ => trivial), js_N_at hW hN⟩⟩ rfl rfl hl.1 rfl (lv_room (Nat.le_of_ble_eq_true rfl)) dc_7_146 ⟨Nat.le_of_ble_eq_true rfl, Nat.le_of_ble_eq_true rfl⟩) hS (fun q _ h => hFc q h) hFc (fun u t H1 locs ht hvm hw hB hz1 hk1 hS => ?_)
  obtain ⟨q55, hP1, hK1, hD1⟩ := hB
  rw [ht] at hP1
  obtain ⟨hP, hD⟩ := va_join (wr := [(h0, .inr (7, [.ref q1, .ref q3, .ref q5, .ref q7, .ref q9, .ref q13, .ref q17, .ref q20, .ref q31, .ref q33, .ref q43, .null, .int 0, .int 0, .int 0])), (q1, .inr (4, [.ref q2, .int 0])), (q2, .inl (cy 0, (32, .inl (fun _ => 0)))), (q3, .inr (1, [.ref q4, .int 0, .int 0])), (q4, .inl (cy 0, (25, .inl (fun _ => 0)))), (q5, .inr (1, [.ref q6, .int 0, .int 0])), (q6, .inl (cy 0, (25, .inl (fun _ => 0)))), (q7, .inr (1, [.ref q8, .int 0, .int 0])), (q8, .inl (cy 0, (25, .inl (fun _ => 0)))), (q9, .inr (6, [.ref q10, .ref q11, .ref q12, .int 0])), (q10, .inl (cy 0, (6, .inl (fun _ => 0)))), (q11, .inl (cy 0, (6, .inl (fun _ => 0)))), (q12, .inl (cy 3, (6, .inl (fun _ => 0)))), (q13, .inr (6, [.ref q14, .ref q15, .ref q16, .int 0])), (q14, .inl (cy 0, (6, .inl (fun _ => 0)))), (q15, .inl (cy 0, (6, .inl (fun _ => 0)))), (q16, .inl (cy 3, (6, .inl (fun _ => 0)))), (q17, .inr (5, [.ref q18, .ref q19])), (q18, .inl (cy 0, (15, .inl (fun _ => 0)))), (q19, .inl (cy 0, (5, .inl (fun _ => 0)))), (q20, .inr (3, [.int 0, .int 0, .ref q21, .ref q22, .ref q23, .ref q24, .ref q25, .ref q26, .ref q27, .ref q28, .ref q29, .ref q30])), (q21, .inl (cy 0, (15, .inl (fun _ => 0)))), (q22, .inl (cy 0, (15, .inl (fun _ => 0)))), (q23, .inl (cy 0, (15, .inl (fun _ => 0)))), (q24, .inl (cy 0, (60, .inl (fun _ => 0)))), (q25, .inl (cy 0, (60, .inl (fun _ => 0)))), (q26, .inl (cy 0, (60, .inl (fun _ => 0)))), (q27, .inl (cy 0, (60, .inl (fun _ => 0)))), (q28, .inl (cy 3, (60, .inl (fun _ => 0)))), (q29, .inl (cy 0, (36, .inl (fun _ => 0)))), (q30, .inl (cy 0, (36, .inl (fun _ => 0)))), (q31, .inr (2, [.ref q20, .ref q32, .int (-1), .int 0])), (q32, .inl (cy 1, (60, .inr (.inl (fun _ => 0))))), (q33, .inr (0, [.ref q20, .ref q31, .ref q34, .ref q35, .ref q36, .ref q37, .ref q38, .ref q39, .ref q40, .ref q41, .ref q42, .int 0, .int 0])), (q34, .inl (cy 0, (15, .inl (fun _ => 0)))), (q35, .inl (cy 3, (15, .inl (fun _ => 0)))), (q36, .inl (cy 0, (15, .inl (fun _ => 0)))), (q37, .inl (cy 0, (15, .inl (fun _ => 0)))), (q38, .inl (cy 0, (60, .inl (fun _ => 0)))), (q39, .inl (cy 3, (60, .inl (fun _ => 0)))), (q40, .inl (cy 2, (3600, .inr (.inr (.inl (fun _ => 0)))))), (q41, .inl (cy 2, (3600, .inr (.inr (.inl (fun _ => 0)))))), (q42, .inl (cy 0, (3600, .inl (fun _ => 0)))), (q43, .inr (3, [.int 0, .int 0, .ref q44, .ref q45, .ref q46, .ref q47, .ref q48, .ref q49, .ref q50, .ref q51, .ref q52, .ref q53])), (q44, .inl (cy 0, (15, .inl (fun _ => 0)))), (q45, .inl (cy 0, (15, .inl (fun _ => 0)))), (q46, .inl (cy 0, (15, .inl (fun _ => 0)))), (q47, .inl (cy 0, (60, .inl (fun _ => 0)))), (q48, .inl (cy 0, (60, .inl (fun _ => 0)))), (q49, .inl (cy 0, (60, .inl (fun _ => 0)))), (q50, .inl (cy 0, (60, .inl (fun _ => 0)))), (q51, .inl (cy 3, (60, .inl (fun _ => 0)))), (q52, .inl (cy 0, (36, .inl (fun _ => 0)))), (q53, .inl (cy 0, (36, .inl (fun _ => 0))))]) (w1 := [(q54, .inr (2, [.ref q43, .ref q55, .int (-1), .int 0])), (q55, .inl (cy 1, (60, .inr (.inl (fun _ => 0)))))]) hP hD [54] [0, 1, 2, 3, 4, 5, 6, 7, 8, 9, 10, 11, 12, 13, 14, 15, 16, 17, 18, 19, 20, 21, 22, 23, 24, 25, 26, 27, 28, 29, 30, 31, 32, 33, 34, 35, 36, 37, 38, 39, 40, 41, 42, 43, 44, 45, 46, 47, 48, 49, 50, 51, 52, 53] rfl rfl (by decide) (by decide) hk1 hFc hP1 hD1
  generalize H1 = H at hP hS ⊢
  have hP : va_P (dC, dI) jn_cl [(h0, .inr (7, [.ref q1, .ref q3, .ref q5, .ref q7, .ref q9, .ref q13, .ref q17, .ref q20, .ref q31, .ref q33, .ref q43, .null, .int 0, .int 0, .int 0])), (q1, .inr (4, [.ref q2, .int 0])), (q2, .inl (cy 0, (32, .inl (fun _ => 0)))), (q3, .inr (1, [.ref q4, .int 0, .int 0])), (q4, .inl (cy 0, (25, .inl (fun _ => 0)))), (q5, .inr (1, [.ref q6, .int 0, .int 0])), (q6, .inl (cy 0, (25, .inl (fun _ => 0)))), (q7, .inr (1, [.ref q8, .int 0, .int 0])), (q8, .inl (cy 0, (25, .inl (fun _ => 0)))), (q9, .inr (6, [.ref q10, .ref q11, .ref q12, .int 0])), (q10, .inl (cy 0, (6, .inl (fun _ => 0)))), (q11, .inl (cy 0, (6, .inl (fun _ => 0)))), (q12, .inl (cy 3, (6, .inl (fun _ => 0)))), (q13, .inr (6, [.ref q14, .ref q15, .ref q16, .int 0])), (q14, .inl (cy 0, (6, .inl (fun _ => 0)))), (q15, .inl (cy 0, (6, .inl (fun _ => 0)))), (q16, .inl (cy 3, (6, .inl (fun _ => 0)))), (q17, .inr (5, [.ref q18, .ref q19])), (q18, .inl (cy 0, (15, .inl (fun _ => 0)))), (q19, .inl (cy 0, (5, .inl (fun _ => 0)))), (q20, .inr (3, [.int 0, .int 0, .ref q21, .ref q22, .ref q23, .ref q24, .ref q25, .ref q26, .ref q27, .ref q28, .ref q29, .ref q30])), (q21, .inl (cy 0, (15, .inl (fun _ => 0)))), (q22, .inl (cy 0, (15, .inl (fun _ => 0)))), (q23, .inl (cy 0, (15, .inl (fun _ => 0)))), (q24, .inl (cy 0, (60, .inl (fun _ => 0)))), (q25, .inl (cy 0, (60, .inl (fun _ => 0)))), (q26, .inl (cy 0, (60, .inl (fun _ => 0)))), (q27, .inl (cy 0, (60, .inl (fun _ => 0)))), (q28, .inl (cy 3, (60, .inl (fun _ => 0)))), (q29, .inl (cy 0, (36, .inl (fun _ => 0)))), (q30, .inl (cy 0, (36, .inl (fun _ => 0)))), (q31, .inr (2, [.ref q20, .ref q32, .int (-1), .int 0])), (q32, .inl (cy 1, (60, .inr (.inl (fun _ => 0))))), (q33, .inr (0, [.ref q20, .ref q31, .ref q34, .ref q35, .ref q36, .ref q37, .ref q38, .ref q39, .ref q40, .ref q41, .ref q42, .int 0, .int 0])), (q34, .inl (cy 0, (15, .inl (fun _ => 0)))), (q35, .inl (cy 3, (15, .inl (fun _ => 0)))), (q36, .inl (cy 0, (15, .inl (fun _ => 0)))), (q37, .inl (cy 0, (15, .inl (fun _ => 0)))), (q38, .inl (cy 0, (60, .inl (fun _ => 0)))), (q39, .inl (cy 3, (60, .inl (fun _ => 0)))), (q40, .inl (cy 2, (3600, .inr (.inr (.inl (fun _ => 0)))))), (q41, .inl (cy 2, (3600, .inr (.inr (.inl (fun _ => 0)))))), (q42, .inl (cy 0, (3600, .inl (fun _ => 0)))), (q43, .inr (3, [.int 0, .int 0, .ref q44, .ref q45, .ref q46, .ref q47, .ref q48, .ref q49, .ref q50, .ref q51, .ref q52, .ref q53])), (q44, .inl (cy 0, (15, .inl (fun _ => 0)))), (q45, .inl (cy 0, (15, .inl (fun _ => 0)))), (q46, .inl (cy 0, (15, .inl (fun _ => 0)))), (q47, .inl (cy 0, (60, .inl (fun _ => 0)))), (q48, .inl (cy 0, (60, .inl (fun _ => 0)))), (q49, .inl (cy 0, (60, .inl (fun _ => 0)))), (q50, .inl (cy 0, (60, .inl (fun _ => 0)))), (q51, .inl (cy 3, (60, .inl (fun _ => 0)))), (q52, .inl (cy 0, (36, .inl (fun _ => 0)))), (q53, .inl (cy 0, (36, .inl (fun _ => 0)))), (q54, .inr (2, [.ref q43, .ref q55, .int (-1), .int 0])), (q55, .inl (cy 1, (60, .inr (.inl (fun _ => 0)))))] H := hP
  have hD : va_D A [(h0, .inr (7, [.ref q1, .ref q3, .ref q5, .ref q7, .ref q9, .ref q13, .ref q17, .ref q20, .ref q31, .ref q33, .ref q43, .null, .int 0, .int 0, .int 0])), (q1, .inr (4, [.ref q2, .int 0])), (q2, .inl (cy 0, (32, .inl (fun _ => 0)))), (q3, .inr (1, [.ref q4, .int 0, .int 0])), (q4, .inl (cy 0, (25, .inl (fun _ => 0)))), (q5, .inr (1, [.ref q6, .int 0, .int 0])), (q6, .inl (cy 0, (25, .inl (fun _ => 0)))), (q7, .inr (1, [.ref q8, .int 0, .int 0])), (q8, .inl (cy 0, (25, .inl (fun _ => 0)))), (q9, .inr (6, [.ref q10, .ref q11, .ref q12, .int 0])), (q10, .inl (cy 0, (6, .inl (fun _ => 0)))), (q11, .inl (cy 0, (6, .inl (fun _ => 0)))), (q12, .inl (cy 3, (6, .inl (fun _ => 0)))), (q13, .inr (6, [.ref q14, .ref q15, .ref q16, .int 0])), (q14, .inl (cy 0, (6, .inl (fun _ => 0)))), (q15, .inl (cy 0, (6, .inl (fun _ => 0)))), (q16, .inl (cy 3, (6, .inl (fun _ => 0)))), (q17, .inr (5, [.ref q18, .ref q19])), (q18, .inl (cy 0, (15, .inl (fun _ => 0)))), (q19, .inl (cy 0, (5, .inl (fun _ => 0)))), (q20, .inr (3, [.int 0, .int 0, .ref q21, .ref q22, .ref q23, .ref q24, .ref q25, .ref q26, .ref q27, .ref q28, .ref q29, .ref q30])), (q21, .inl (cy 0, (15, .inl (fun _ => 0)))), (q22, .inl (cy 0, (15, .inl (fun _ => 0)))), (q23, .inl (cy 0, (15, .inl (fun _ => 0)))), (q24, .inl (cy 0, (60, .inl (fun _ => 0)))), (q25, .inl (cy 0, (60, .inl (fun _ => 0)))), (q26, .inl (cy 0, (60, .inl (fun _ => 0)))), (q27, .inl (cy 0, (60, .inl (fun _ => 0)))), (q28, .inl (cy 3, (60, .inl (fun _ => 0)))), (q29, .inl (cy 0, (36, .inl (fun _ => 0)))), (q30, .inl (cy 0, (36, .inl (fun _ => 0)))), (q31, .inr (2, [.ref q20, .ref q32, .int (-1), .int 0])), (q32, .inl (cy 1, (60, .inr (.inl (fun _ => 0))))), (q33, .inr (0, [.ref q20, .ref q31, .ref q34, .ref q35, .ref q36, .ref q37, .ref q38, .ref q39, .ref q40, .ref q41, .ref q42, .int 0, .int 0])), (q34, .inl (cy 0, (15, .inl (fun _ => 0)))), (q35, .inl (cy 3, (15, .inl (fun _ => 0)))), (q36, .inl (cy 0, (15, .inl (fun _ => 0)))), (q37, .inl (cy 0, (15, .inl (fun _ => 0)))), (q38, .inl (cy 0, (60, .inl (fun _ => 0)))), (q39, .inl (cy 3, (60, .inl (fun _ => 0)))), (q40, .inl (cy 2, (3600, .inr (.inr (.inl (fun _ => 0)))))), (q41, .inl (cy 2, (3600, .inr (.inr (.inl (fun _ => 0)))))), (q42, .inl (cy 0, (3600, .inl (fun _ => 0)))), (q43, .inr (3, [.int 0, .int 0, .ref q44, .ref q45, .ref q46, .ref q47, .ref q48, .ref q49, .ref q50, .ref q51, .ref q52, .ref q53])), (q44, .inl (cy 0, (15, .inl (fun _ => 0)))), (q45, .inl (cy 0, (15, .inl (fun _ => 0)))), (q46, .inl (cy 0, (15, .inl (fun _ => 0)))), (q47, .inl (cy 0, (60, .inl (fun _ => 0)))), (q48, .inl (cy 0, (60, .inl (fun _ => 0)))), (q49, .inl (cy 0, (60, .inl (fun _ => 0)))), (q50, .inl (cy 0, (60, .inl (fun _ => 0)))), (q51, .inl (cy 3, (60, .inl (fun _ => 0)))), (q52, .inl (cy 0, (36, .inl (fun _ => 0)))), (q53, .inl (cy 0, (36, .inl (fun _ => 0)))), (q54, .inr (2, [.ref q43, .ref q55, .int (-1), .int 0])), (q55, .inl (cy 1, (60, .inr (.inl (fun _ => 0)))))] := hD
  refine W.widen (k := 55) (n := 12163) (Nat.le_refl _) (Nat.le_refl _) ?_
  refine va_putF (D := (dC, dI)) (ci := 7) (v := .ref q54) (ty := .object "BlobCorners$Joints") (C := "BlobCorners") (T := jn_T7) (N := 15) hx hb hts (fun w h => List.mem_cons_of_mem _ (js_wsg7 w h)) jn_ty7 jn_tyok7 jn_nm7 hown hK hP hD hS 0 rfl rfl 11 (by decide) (hts _ (List.mem_cons_of_mem _ (js_tg (jn_m1 216 rfl) rfl))) (fun _ h9 => h9) rfl hin2 rfl (by decide +kernel) rfl rfl (Nat.le_of_ble_eq_true rfl) dc_7_149 (fun H locs hP hD hS => ?_)
  have hP : va_P (dC, dI) jn_cl [(h0, .inr (7, [.ref q1, .ref q3, .ref q5, .ref q7, .ref q9, .ref q13, .ref q17, .ref q20, .ref q31, .ref q33, .ref q43, .ref q54, .int 0, .int 0, .int 0])), (q1, .inr (4, [.ref q2, .int 0])), (q2, .inl (cy 0, (32, .inl (fun _ => 0)))), (q3, .inr (1, [.ref q4, .int 0, .int 0])), (q4, .inl (cy 0, (25, .inl (fun _ => 0)))), (q5, .inr (1, [.ref q6, .int 0, .int 0])), (q6, .inl (cy 0, (25, .inl (fun _ => 0)))), (q7, .inr (1, [.ref q8, .int 0, .int 0])), (q8, .inl (cy 0, (25, .inl (fun _ => 0)))), (q9, .inr (6, [.ref q10, .ref q11, .ref q12, .int 0])), (q10, .inl (cy 0, (6, .inl (fun _ => 0)))), (q11, .inl (cy 0, (6, .inl (fun _ => 0)))), (q12, .inl (cy 3, (6, .inl (fun _ => 0)))), (q13, .inr (6, [.ref q14, .ref q15, .ref q16, .int 0])), (q14, .inl (cy 0, (6, .inl (fun _ => 0)))), (q15, .inl (cy 0, (6, .inl (fun _ => 0)))), (q16, .inl (cy 3, (6, .inl (fun _ => 0)))), (q17, .inr (5, [.ref q18, .ref q19])), (q18, .inl (cy 0, (15, .inl (fun _ => 0)))), (q19, .inl (cy 0, (5, .inl (fun _ => 0)))), (q20, .inr (3, [.int 0, .int 0, .ref q21, .ref q22, .ref q23, .ref q24, .ref q25, .ref q26, .ref q27, .ref q28, .ref q29, .ref q30])), (q21, .inl (cy 0, (15, .inl (fun _ => 0)))), (q22, .inl (cy 0, (15, .inl (fun _ => 0)))), (q23, .inl (cy 0, (15, .inl (fun _ => 0)))), (q24, .inl (cy 0, (60, .inl (fun _ => 0)))), (q25, .inl (cy 0, (60, .inl (fun _ => 0)))), (q26, .inl (cy 0, (60, .inl (fun _ => 0)))), (q27, .inl (cy 0, (60, .inl (fun _ => 0)))), (q28, .inl (cy 3, (60, .inl (fun _ => 0)))), (q29, .inl (cy 0, (36, .inl (fun _ => 0)))), (q30, .inl (cy 0, (36, .inl (fun _ => 0)))), (q31, .inr (2, [.ref q20, .ref q32, .int (-1), .int 0])), (q32, .inl (cy 1, (60, .inr (.inl (fun _ => 0))))), (q33, .inr (0, [.ref q20, .ref q31, .ref q34, .ref q35, .ref q36, .ref q37, .ref q38, .ref q39, .ref q40, .ref q41, .ref q42, .int 0, .int 0])), (q34, .inl (cy 0, (15, .inl (fun _ => 0)))), (q35, .inl (cy 3, (15, .inl (fun _ => 0)))), (q36, .inl (cy 0, (15, .inl (fun _ => 0)))), (q37, .inl (cy 0, (15, .inl (fun _ => 0)))), (q38, .inl (cy 0, (60, .inl (fun _ => 0)))), (q39, .inl (cy 3, (60, .inl (fun _ => 0)))), (q40, .inl (cy 2, (3600, .inr (.inr (.inl (fun _ => 0)))))), (q41, .inl (cy 2, (3600, .inr (.inr (.inl (fun _ => 0)))))), (q42, .inl (cy 0, (3600, .inl (fun _ => 0)))), (q43, .inr (3, [.int 0, .int 0, .ref q44, .ref q45, .ref q46, .ref q47, .ref q48, .ref q49, .ref q50, .ref q51, .ref q52, .ref q53])), (q44, .inl (cy 0, (15, .inl (fun _ => 0)))), (q45, .inl (cy 0, (15, .inl (fun _ => 0)))), (q46, .inl (cy 0, (15, .inl (fun _ => 0)))), (q47, .inl (cy 0, (60, .inl (fun _ => 0)))), (q48, .inl (cy 0, (60, .inl (fun _ => 0)))), (q49, .inl (cy 0, (60, .inl (fun _ => 0)))), (q50, .inl (cy 0, (60, .inl (fun _ => 0)))), (q51, .inl (cy 3, (60, .inl (fun _ => 0)))), (q52, .inl (cy 0, (36, .inl (fun _ => 0)))), (q53, .inl (cy 0, (36, .inl (fun _ => 0)))), (q54, .inr (2, [.ref q43, .ref q55, .int (-1), .int 0])), (q55, .inl (cy 1, (60, .inr (.inl (fun _ => 0)))))] H := hP
  have hD : va_D A [(h0, .inr (7, [.ref q1, .ref q3, .ref q5, .ref q7, .ref q9, .ref q13, .ref q17, .ref q20, .ref q31, .ref q33, .ref q43, .ref q54, .int 0, .int 0, .int 0])), (q1, .inr (4, [.ref q2, .int 0])), (q2, .inl (cy 0, (32, .inl (fun _ => 0)))), (q3, .inr (1, [.ref q4, .int 0, .int 0])), (q4, .inl (cy 0, (25, .inl (fun _ => 0)))), (q5, .inr (1, [.ref q6, .int 0, .int 0])), (q6, .inl (cy 0, (25, .inl (fun _ => 0)))), (q7, .inr (1, [.ref q8, .int 0, .int 0])), (q8, .inl (cy 0, (25, .inl (fun _ => 0)))), (q9, .inr (6, [.ref q10, .ref q11, .ref q12, .int 0])), (q10, .inl (cy 0, (6, .inl (fun _ => 0)))), (q11, .inl (cy 0, (6, .inl (fun _ => 0)))), (q12, .inl (cy 3, (6, .inl (fun _ => 0)))), (q13, .inr (6, [.ref q14, .ref q15, .ref q16, .int 0])), (q14, .inl (cy 0, (6, .inl (fun _ => 0)))), (q15, .inl (cy 0, (6, .inl (fun _ => 0)))), (q16, .inl (cy 3, (6, .inl (fun _ => 0)))), (q17, .inr (5, [.ref q18, .ref q19])), (q18, .inl (cy 0, (15, .inl (fun _ => 0)))), (q19, .inl (cy 0, (5, .inl (fun _ => 0)))), (q20, .inr (3, [.int 0, .int 0, .ref q21, .ref q22, .ref q23, .ref q24, .ref q25, .ref q26, .ref q27, .ref q28, .ref q29, .ref q30])), (q21, .inl (cy 0, (15, .inl (fun _ => 0)))), (q22, .inl (cy 0, (15, .inl (fun _ => 0)))), (q23, .inl (cy 0, (15, .inl (fun _ => 0)))), (q24, .inl (cy 0, (60, .inl (fun _ => 0)))), (q25, .inl (cy 0, (60, .inl (fun _ => 0)))), (q26, .inl (cy 0, (60, .inl (fun _ => 0)))), (q27, .inl (cy 0, (60, .inl (fun _ => 0)))), (q28, .inl (cy 3, (60, .inl (fun _ => 0)))), (q29, .inl (cy 0, (36, .inl (fun _ => 0)))), (q30, .inl (cy 0, (36, .inl (fun _ => 0)))), (q31, .inr (2, [.ref q20, .ref q32, .int (-1), .int 0])), (q32, .inl (cy 1, (60, .inr (.inl (fun _ => 0))))), (q33, .inr (0, [.ref q20, .ref q31, .ref q34, .ref q35, .ref q36, .ref q37, .ref q38, .ref q39, .ref q40, .ref q41, .ref q42, .int 0, .int 0])), (q34, .inl (cy 0, (15, .inl (fun _ => 0)))), (q35, .inl (cy 3, (15, .inl (fun _ => 0)))), (q36, .inl (cy 0, (15, .inl (fun _ => 0)))), (q37, .inl (cy 0, (15, .inl (fun _ => 0)))), (q38, .inl (cy 0, (60, .inl (fun _ => 0)))), (q39, .inl (cy 3, (60, .inl (fun _ => 0)))), (q40, .inl (cy 2, (3600, .inr (.inr (.inl (fun _ => 0)))))), (q41, .inl (cy 2, (3600, .inr (.inr (.inl (fun _ => 0)))))), (q42, .inl (cy 0, (3600, .inl (fun _ => 0)))), (q43, .inr (3, [.int 0, .int 0, .ref q44, .ref q45, .ref q46, .ref q47, .ref q48, .ref q49, .ref q50, .ref q51, .ref q52, .ref q53])), (q44, .inl (cy 0, (15, .inl (fun _ => 0)))), (q45, .inl (cy 0, (15, .inl (fun _ => 0)))), (q46, .inl (cy 0, (15, .inl (fun _ => 0)))), (q47, .inl (cy 0, (60, .inl (fun _ => 0)))), (q48, .inl (cy 0, (60, .inl (fun _ => 0)))), (q49, .inl (cy 0, (60, .inl (fun _ => 0)))), (q50, .inl (cy 0, (60, .inl (fun _ => 0)))), (q51, .inl (cy 3, (60, .inl (fun _ => 0)))), (q52, .inl (cy 0, (36, .inl (fun _ => 0)))), (q53, .inl (cy 0, (36, .inl (fun _ => 0)))), (q54, .inr (2, [.ref q43, .ref q55, .int (-1), .int 0])), (q55, .inl (cy 1, (60, .inr (.inl (fun _ => 0)))))] := hD
  refine lv_aload_n hx hb dc_7_152 rfl (lv_at hl 0 rfl) ?_
  refine lv_iconst (v := 0) hx hb dc_7_153 (by decide) ?_
  refine va_put (D := (dC, dI)) (ci := 7) (v := .int 0) (ty := .boolean) (C := "BlobCorners") (T := jn_T7) (N := 15) hx hb hts (fun w h => List.mem_cons_of_mem _ (js_wsg7 w h)) jn_ty7 jn_tyok7 jn_nm7 hown hK hP hD hS 0 rfl rfl 12 (by decide) (hts _ (List.mem_cons_of_mem _ (js_tg (jn_m1 217 rfl) rfl))) (fun _ h9 => h9) rfl (by decide +kernel) rfl rfl (Nat.le_of_ble_eq_true rfl) dc_7_154 (fun H locs hP hD hS => ?_)
  have hP : va_P (dC, dI) jn_cl [(h0, .inr (7, [.ref q1, .ref q3, .ref q5, .ref q7, .ref q9, .ref q13, .ref q17, .ref q20, .ref q31, .ref q33, .ref q43, .ref q54, .int 0, .int 0, .int 0])), (q1, .inr (4, [.ref q2, .int 0])), (q2, .inl (cy 0, (32, .inl (fun _ => 0)))), (q3, .inr (1, [.ref q4, .int 0, .int 0])), (q4, .inl (cy 0, (25, .inl (fun _ => 0)))), (q5, .inr (1, [.ref q6, .int 0, .int 0])), (q6, .inl (cy 0, (25, .inl (fun _ => 0)))), (q7, .inr (1, [.ref q8, .int 0, .int 0])), (q8, .inl (cy 0, (25, .inl (fun _ => 0)))), (q9, .inr (6, [.ref q10, .ref q11, .ref q12, .int 0])), (q10, .inl (cy 0, (6, .inl (fun _ => 0)))), (q11, .inl (cy 0, (6, .inl (fun _ => 0)))), (q12, .inl (cy 3, (6, .inl (fun _ => 0)))), (q13, .inr (6, [.ref q14, .ref q15, .ref q16, .int 0])), (q14, .inl (cy 0, (6, .inl (fun _ => 0)))), (q15, .inl (cy 0, (6, .inl (fun _ => 0)))), (q16, .inl (cy 3, (6, .inl (fun _ => 0)))), (q17, .inr (5, [.ref q18, .ref q19])), (q18, .inl (cy 0, (15, .inl (fun _ => 0)))), (q19, .inl (cy 0, (5, .inl (fun _ => 0)))), (q20, .inr (3, [.int 0, .int 0, .ref q21, .ref q22, .ref q23, .ref q24, .ref q25, .ref q26, .ref q27, .ref q28, .ref q29, .ref q30])), (q21, .inl (cy 0, (15, .inl (fun _ => 0)))), (q22, .inl (cy 0, (15, .inl (fun _ => 0)))), (q23, .inl (cy 0, (15, .inl (fun _ => 0)))), (q24, .inl (cy 0, (60, .inl (fun _ => 0)))), (q25, .inl (cy 0, (60, .inl (fun _ => 0)))), (q26, .inl (cy 0, (60, .inl (fun _ => 0)))), (q27, .inl (cy 0, (60, .inl (fun _ => 0)))), (q28, .inl (cy 3, (60, .inl (fun _ => 0)))), (q29, .inl (cy 0, (36, .inl (fun _ => 0)))), (q30, .inl (cy 0, (36, .inl (fun _ => 0)))), (q31, .inr (2, [.ref q20, .ref q32, .int (-1), .int 0])), (q32, .inl (cy 1, (60, .inr (.inl (fun _ => 0))))), (q33, .inr (0, [.ref q20, .ref q31, .ref q34, .ref q35, .ref q36, .ref q37, .ref q38, .ref q39, .ref q40, .ref q41, .ref q42, .int 0, .int 0])), (q34, .inl (cy 0, (15, .inl (fun _ => 0)))), (q35, .inl (cy 3, (15, .inl (fun _ => 0)))), (q36, .inl (cy 0, (15, .inl (fun _ => 0)))), (q37, .inl (cy 0, (15, .inl (fun _ => 0)))), (q38, .inl (cy 0, (60, .inl (fun _ => 0)))), (q39, .inl (cy 3, (60, .inl (fun _ => 0)))), (q40, .inl (cy 2, (3600, .inr (.inr (.inl (fun _ => 0)))))), (q41, .inl (cy 2, (3600, .inr (.inr (.inl (fun _ => 0)))))), (q42, .inl (cy 0, (3600, .inl (fun _ => 0)))), (q43, .inr (3, [.int 0, .int 0, .ref q44, .ref q45, .ref q46, .ref q47, .ref q48, .ref q49, .ref q50, .ref q51, .ref q52, .ref q53])), (q44, .inl (cy 0, (15, .inl (fun _ => 0)))), (q45, .inl (cy 0, (15, .inl (fun _ => 0)))), (q46, .inl (cy 0, (15, .inl (fun _ => 0)))), (q47, .inl (cy 0, (60, .inl (fun _ => 0)))), (q48, .inl (cy 0, (60, .inl (fun _ => 0)))), (q49, .inl (cy 0, (60, .inl (fun _ => 0)))), (q50, .inl (cy 0, (60, .inl (fun _ => 0)))), (q51, .inl (cy 3, (60, .inl (fun _ => 0)))), (q52, .inl (cy 0, (36, .inl (fun _ => 0)))), (q53, .inl (cy 0, (36, .inl (fun _ => 0)))), (q54, .inr (2, [.ref q43, .ref q55, .int (-1), .int 0])), (q55, .inl (cy 1, (60, .inr (.inl (fun _ => 0)))))] H := hP
  have hD : va_D A [(h0, .inr (7, [.ref q1, .ref q3, .ref q5, .ref q7, .ref q9, .ref q13, .ref q17, .ref q20, .ref q31, .ref q33, .ref q43, .ref q54, .int 0, .int 0, .int 0])), (q1, .inr (4, [.ref q2, .int 0])), (q2, .inl (cy 0, (32, .inl (fun _ => 0)))), (q3, .inr (1, [.ref q4, .int 0, .int 0])), (q4, .inl (cy 0, (25, .inl (fun _ => 0)))), (q5, .inr (1, [.ref q6, .int 0, .int 0])), (q6, .inl (cy 0, (25, .inl (fun _ => 0)))), (q7, .inr (1, [.ref q8, .int 0, .int 0])), (q8, .inl (cy 0, (25, .inl (fun _ => 0)))), (q9, .inr (6, [.ref q10, .ref q11, .ref q12, .int 0])), (q10, .inl (cy 0, (6, .inl (fun _ => 0)))), (q11, .inl (cy 0, (6, .inl (fun _ => 0)))), (q12, .inl (cy 3, (6, .inl (fun _ => 0)))), (q13, .inr (6, [.ref q14, .ref q15, .ref q16, .int 0])), (q14, .inl (cy 0, (6, .inl (fun _ => 0)))), (q15, .inl (cy 0, (6, .inl (fun _ => 0)))), (q16, .inl (cy 3, (6, .inl (fun _ => 0)))), (q17, .inr (5, [.ref q18, .ref q19])), (q18, .inl (cy 0, (15, .inl (fun _ => 0)))), (q19, .inl (cy 0, (5, .inl (fun _ => 0)))), (q20, .inr (3, [.int 0, .int 0, .ref q21, .ref q22, .ref q23, .ref q24, .ref q25, .ref q26, .ref q27, .ref q28, .ref q29, .ref q30])), (q21, .inl (cy 0, (15, .inl (fun _ => 0)))), (q22, .inl (cy 0, (15, .inl (fun _ => 0)))), (q23, .inl (cy 0, (15, .inl (fun _ => 0)))), (q24, .inl (cy 0, (60, .inl (fun _ => 0)))), (q25, .inl (cy 0, (60, .inl (fun _ => 0)))), (q26, .inl (cy 0, (60, .inl (fun _ => 0)))), (q27, .inl (cy 0, (60, .inl (fun _ => 0)))), (q28, .inl (cy 3, (60, .inl (fun _ => 0)))), (q29, .inl (cy 0, (36, .inl (fun _ => 0)))), (q30, .inl (cy 0, (36, .inl (fun _ => 0)))), (q31, .inr (2, [.ref q20, .ref q32, .int (-1), .int 0])), (q32, .inl (cy 1, (60, .inr (.inl (fun _ => 0))))), (q33, .inr (0, [.ref q20, .ref q31, .ref q34, .ref q35, .ref q36, .ref q37, .ref q38, .ref q39, .ref q40, .ref q41, .ref q42, .int 0, .int 0])), (q34, .inl (cy 0, (15, .inl (fun _ => 0)))), (q35, .inl (cy 3, (15, .inl (fun _ => 0)))), (q36, .inl (cy 0, (15, .inl (fun _ => 0)))), (q37, .inl (cy 0, (15, .inl (fun _ => 0)))), (q38, .inl (cy 0, (60, .inl (fun _ => 0)))), (q39, .inl (cy 3, (60, .inl (fun _ => 0)))), (q40, .inl (cy 2, (3600, .inr (.inr (.inl (fun _ => 0)))))), (q41, .inl (cy 2, (3600, .inr (.inr (.inl (fun _ => 0)))))), (q42, .inl (cy 0, (3600, .inl (fun _ => 0)))), (q43, .inr (3, [.int 0, .int 0, .ref q44, .ref q45, .ref q46, .ref q47, .ref q48, .ref q49, .ref q50, .ref q51, .ref q52, .ref q53])), (q44, .inl (cy 0, (15, .inl (fun _ => 0)))), (q45, .inl (cy 0, (15, .inl (fun _ => 0)))), (q46, .inl (cy 0, (15, .inl (fun _ => 0)))), (q47, .inl (cy 0, (60, .inl (fun _ => 0)))), (q48, .inl (cy 0, (60, .inl (fun _ => 0)))), (q49, .inl (cy 0, (60, .inl (fun _ => 0)))), (q50, .inl (cy 0, (60, .inl (fun _ => 0)))), (q51, .inl (cy 3, (60, .inl (fun _ => 0)))), (q52, .inl (cy 0, (36, .inl (fun _ => 0)))), (q53, .inl (cy 0, (36, .inl (fun _ => 0)))), (q54, .inr (2, [.ref q43, .ref q55, .int (-1), .int 0])), (q55, .inl (cy 1, (60, .inr (.inl (fun _ => 0)))))] := hD
  refine lv_aload_n hx hb dc_7_157 rfl (lv_at hl 0 rfl) ?_
  refine lv_iconst (v := 0) hx hb dc_7_158 (by decide) ?_
  refine va_put (D := (dC, dI)) (ci := 7) (v := .int 0) (ty := .int) (C := "BlobCorners") (T := jn_T7) (N := 15) hx hb hts (fun w h => List.mem_cons_of_mem _ (js_wsg7 w h)) jn_ty7 jn_tyok7 jn_nm7 hown hK hP hD hS 0 rfl rfl 13 (by decide) (hts _ (List.mem_cons_of_mem _ (js_tg (jn_m1 218 rfl) rfl))) (fun _ h9 => h9) rfl (by decide +kernel) rfl rfl (Nat.le_of_ble_eq_true rfl) dc_7_159 (fun H locs hP hD hS => ?_)
  have hP : va_P (dC, dI) jn_cl [(h0, .inr (7, [.ref q1, .ref q3, .ref q5, .ref q7, .ref q9, .ref q13, .ref q17, .ref q20, .ref q31, .ref q33, .ref q43, .ref q54, .int 0, .int 0, .int 0])), (q1, .inr (4, [.ref q2, .int 0])), (q2, .inl (cy 0, (32, .inl (fun _ => 0)))), (q3, .inr (1, [.ref q4, .int 0, .int 0])), (q4, .inl (cy 0, (25, .inl (fun _ => 0)))), (q5, .inr (1, [.ref q6, .int 0, .int 0])), (q6, .inl (cy 0, (25, .inl (fun _ => 0)))), (q7, .inr (1, [.ref q8, .int 0, .int 0])), (q8, .inl (cy 0, (25, .inl (fun _ => 0)))), (q9, .inr (6, [.ref q10, .ref q11, .ref q12, .int 0])), (q10, .inl (cy 0, (6, .inl (fun _ => 0)))), (q11, .inl (cy 0, (6, .inl (fun _ => 0)))), (q12, .inl (cy 3, (6, .inl (fun _ => 0)))), (q13, .inr (6, [.ref q14, .ref q15, .ref q16, .int 0])), (q14, .inl (cy 0, (6, .inl (fun _ => 0)))), (q15, .inl (cy 0, (6, .inl (fun _ => 0)))), (q16, .inl (cy 3, (6, .inl (fun _ => 0)))), (q17, .inr (5, [.ref q18, .ref q19])), (q18, .inl (cy 0, (15, .inl (fun _ => 0)))), (q19, .inl (cy 0, (5, .inl (fun _ => 0)))), (q20, .inr (3, [.int 0, .int 0, .ref q21, .ref q22, .ref q23, .ref q24, .ref q25, .ref q26, .ref q27, .ref q28, .ref q29, .ref q30])), (q21, .inl (cy 0, (15, .inl (fun _ => 0)))), (q22, .inl (cy 0, (15, .inl (fun _ => 0)))), (q23, .inl (cy 0, (15, .inl (fun _ => 0)))), (q24, .inl (cy 0, (60, .inl (fun _ => 0)))), (q25, .inl (cy 0, (60, .inl (fun _ => 0)))), (q26, .inl (cy 0, (60, .inl (fun _ => 0)))), (q27, .inl (cy 0, (60, .inl (fun _ => 0)))), (q28, .inl (cy 3, (60, .inl (fun _ => 0)))), (q29, .inl (cy 0, (36, .inl (fun _ => 0)))), (q30, .inl (cy 0, (36, .inl (fun _ => 0)))), (q31, .inr (2, [.ref q20, .ref q32, .int (-1), .int 0])), (q32, .inl (cy 1, (60, .inr (.inl (fun _ => 0))))), (q33, .inr (0, [.ref q20, .ref q31, .ref q34, .ref q35, .ref q36, .ref q37, .ref q38, .ref q39, .ref q40, .ref q41, .ref q42, .int 0, .int 0])), (q34, .inl (cy 0, (15, .inl (fun _ => 0)))), (q35, .inl (cy 3, (15, .inl (fun _ => 0)))), (q36, .inl (cy 0, (15, .inl (fun _ => 0)))), (q37, .inl (cy 0, (15, .inl (fun _ => 0)))), (q38, .inl (cy 0, (60, .inl (fun _ => 0)))), (q39, .inl (cy 3, (60, .inl (fun _ => 0)))), (q40, .inl (cy 2, (3600, .inr (.inr (.inl (fun _ => 0)))))), (q41, .inl (cy 2, (3600, .inr (.inr (.inl (fun _ => 0)))))), (q42, .inl (cy 0, (3600, .inl (fun _ => 0)))), (q43, .inr (3, [.int 0, .int 0, .ref q44, .ref q45, .ref q46, .ref q47, .ref q48, .ref q49, .ref q50, .ref q51, .ref q52, .ref q53])), (q44, .inl (cy 0, (15, .inl (fun _ => 0)))), (q45, .inl (cy 0, (15, .inl (fun _ => 0)))), (q46, .inl (cy 0, (15, .inl (fun _ => 0)))), (q47, .inl (cy 0, (60, .inl (fun _ => 0)))), (q48, .inl (cy 0, (60, .inl (fun _ => 0)))), (q49, .inl (cy 0, (60, .inl (fun _ => 0)))), (q50, .inl (cy 0, (60, .inl (fun _ => 0)))), (q51, .inl (cy 3, (60, .inl (fun _ => 0)))), (q52, .inl (cy 0, (36, .inl (fun _ => 0)))), (q53, .inl (cy 0, (36, .inl (fun _ => 0)))), (q54, .inr (2, [.ref q43, .ref q55, .int (-1), .int 0])), (q55, .inl (cy 1, (60, .inr (.inl (fun _ => 0)))))] H := hP
  have hD : va_D A [(h0, .inr (7, [.ref q1, .ref q3, .ref q5, .ref q7, .ref q9, .ref q13, .ref q17, .ref q20, .ref q31, .ref q33, .ref q43, .ref q54, .int 0, .int 0, .int 0])), (q1, .inr (4, [.ref q2, .int 0])), (q2, .inl (cy 0, (32, .inl (fun _ => 0)))), (q3, .inr (1, [.ref q4, .int 0, .int 0])), (q4, .inl (cy 0, (25, .inl (fun _ => 0)))), (q5, .inr (1, [.ref q6, .int 0, .int 0])), (q6, .inl (cy 0, (25, .inl (fun _ => 0)))), (q7, .inr (1, [.ref q8, .int 0, .int 0])), (q8, .inl (cy 0, (25, .inl (fun _ => 0)))), (q9, .inr (6, [.ref q10, .ref q11, .ref q12, .int 0])), (q10, .inl (cy 0, (6, .inl (fun _ => 0)))), (q11, .inl (cy 0, (6, .inl (fun _ => 0)))), (q12, .inl (cy 3, (6, .inl (fun _ => 0)))), (q13, .inr (6, [.ref q14, .ref q15, .ref q16, .int 0])), (q14, .inl (cy 0, (6, .inl (fun _ => 0)))), (q15, .inl (cy 0, (6, .inl (fun _ => 0)))), (q16, .inl (cy 3, (6, .inl (fun _ => 0)))), (q17, .inr (5, [.ref q18, .ref q19])), (q18, .inl (cy 0, (15, .inl (fun _ => 0)))), (q19, .inl (cy 0, (5, .inl (fun _ => 0)))), (q20, .inr (3, [.int 0, .int 0, .ref q21, .ref q22, .ref q23, .ref q24, .ref q25, .ref q26, .ref q27, .ref q28, .ref q29, .ref q30])), (q21, .inl (cy 0, (15, .inl (fun _ => 0)))), (q22, .inl (cy 0, (15, .inl (fun _ => 0)))), (q23, .inl (cy 0, (15, .inl (fun _ => 0)))), (q24, .inl (cy 0, (60, .inl (fun _ => 0)))), (q25, .inl (cy 0, (60, .inl (fun _ => 0)))), (q26, .inl (cy 0, (60, .inl (fun _ => 0)))), (q27, .inl (cy 0, (60, .inl (fun _ => 0)))), (q28, .inl (cy 3, (60, .inl (fun _ => 0)))), (q29, .inl (cy 0, (36, .inl (fun _ => 0)))), (q30, .inl (cy 0, (36, .inl (fun _ => 0)))), (q31, .inr (2, [.ref q20, .ref q32, .int (-1), .int 0])), (q32, .inl (cy 1, (60, .inr (.inl (fun _ => 0))))), (q33, .inr (0, [.ref q20, .ref q31, .ref q34, .ref q35, .ref q36, .ref q37, .ref q38, .ref q39, .ref q40, .ref q41, .ref q42, .int 0, .int 0])), (q34, .inl (cy 0, (15, .inl (fun _ => 0)))), (q35, .inl (cy 3, (15, .inl (fun _ => 0)))), (q36, .inl (cy 0, (15, .inl (fun _ => 0)))), (q37, .inl (cy 0, (15, .inl (fun _ => 0)))), (q38, .inl (cy 0, (60, .inl (fun _ => 0)))), (q39, .inl (cy 3, (60, .inl (fun _ => 0)))), (q40, .inl (cy 2, (3600, .inr (.inr (.inl (fun _ => 0)))))), (q41, .inl (cy 2, (3600, .inr (.inr (.inl (fun _ => 0)))))), (q42, .inl (cy 0, (3600, .inl (fun _ => 0)))), (q43, .inr (3, [.int 0, .int 0, .ref q44, .ref q45, .ref q46, .ref q47, .ref q48, .ref q49, .ref q50, .ref q51, .ref q52, .ref q53])), (q44, .inl (cy 0, (15, .inl (fun _ => 0)))), (q45, .inl (cy 0, (15, .inl (fun _ => 0)))), (q46, .inl (cy 0, (15, .inl (fun _ => 0)))), (q47, .inl (cy 0, (60, .inl (fun _ => 0)))), (q48, .inl (cy 0, (60, .inl (fun _ => 0)))), (q49, .inl (cy 0, (60, .inl (fun _ => 0)))), (q50, .inl (cy 0, (60, .inl (fun _ => 0)))), (q51, .inl (cy 3, (60, .inl (fun _ => 0)))), (q52, .inl (cy 0, (36, .inl (fun _ => 0)))), (q53, .inl (cy 0, (36, .inl (fun _ => 0)))), (q54, .inr (2, [.ref q43, .ref q55, .int (-1), .int 0])), (q55, .inl (cy 1, (60, .inr (.inl (fun _ => 0)))))] := hD
  refine lv_aload_n hx hb dc_7_162 rfl (lv_at hl 0 rfl) ?_
  refine lv_iconst (v := 0) hx hb dc_7_163 (by decide) ?_
  refine va_put (D := (dC, dI)) (ci := 7) (v := .int 0) (ty := .int) (C := "BlobCorners") (T := jn_T7) (N := 15) hx hb hts (fun w h => List.mem_cons_of_mem _ (js_wsg7 w h)) jn_ty7 jn_tyok7 jn_nm7 hown hK hP hD hS 0 rfl rfl 14 (by decide) (hts _ (List.mem_cons_of_mem _ (js_tg (jn_m1 219 rfl) rfl))) (fun _ h9 => h9) rfl (by decide +kernel) rfl rfl (Nat.le_of_ble_eq_true rfl) dc_7_164 (fun H locs hP hD hS => ?_)
  have hP : va_P (dC, dI) jn_cl [(h0, .inr (7, [.ref q1, .ref q3, .ref q5, .ref q7, .ref q9, .ref q13, .ref q17, .ref q20, .ref q31, .ref q33, .ref q43, .ref q54, .int 0, .int 0, .int 0])), (q1, .inr (4, [.ref q2, .int 0])), (q2, .inl (cy 0, (32, .inl (fun _ => 0)))), (q3, .inr (1, [.ref q4, .int 0, .int 0])), (q4, .inl (cy 0, (25, .inl (fun _ => 0)))), (q5, .inr (1, [.ref q6, .int 0, .int 0])), (q6, .inl (cy 0, (25, .inl (fun _ => 0)))), (q7, .inr (1, [.ref q8, .int 0, .int 0])), (q8, .inl (cy 0, (25, .inl (fun _ => 0)))), (q9, .inr (6, [.ref q10, .ref q11, .ref q12, .int 0])), (q10, .inl (cy 0, (6, .inl (fun _ => 0)))), (q11, .inl (cy 0, (6, .inl (fun _ => 0)))), (q12, .inl (cy 3, (6, .inl (fun _ => 0)))), (q13, .inr (6, [.ref q14, .ref q15, .ref q16, .int 0])), (q14, .inl (cy 0, (6, .inl (fun _ => 0)))), (q15, .inl (cy 0, (6, .inl (fun _ => 0)))), (q16, .inl (cy 3, (6, .inl (fun _ => 0)))), (q17, .inr (5, [.ref q18, .ref q19])), (q18, .inl (cy 0, (15, .inl (fun _ => 0)))), (q19, .inl (cy 0, (5, .inl (fun _ => 0)))), (q20, .inr (3, [.int 0, .int 0, .ref q21, .ref q22, .ref q23, .ref q24, .ref q25, .ref q26, .ref q27, .ref q28, .ref q29, .ref q30])), (q21, .inl (cy 0, (15, .inl (fun _ => 0)))), (q22, .inl (cy 0, (15, .inl (fun _ => 0)))), (q23, .inl (cy 0, (15, .inl (fun _ => 0)))), (q24, .inl (cy 0, (60, .inl (fun _ => 0)))), (q25, .inl (cy 0, (60, .inl (fun _ => 0)))), (q26, .inl (cy 0, (60, .inl (fun _ => 0)))), (q27, .inl (cy 0, (60, .inl (fun _ => 0)))), (q28, .inl (cy 3, (60, .inl (fun _ => 0)))), (q29, .inl (cy 0, (36, .inl (fun _ => 0)))), (q30, .inl (cy 0, (36, .inl (fun _ => 0)))), (q31, .inr (2, [.ref q20, .ref q32, .int (-1), .int 0])), (q32, .inl (cy 1, (60, .inr (.inl (fun _ => 0))))), (q33, .inr (0, [.ref q20, .ref q31, .ref q34, .ref q35, .ref q36, .ref q37, .ref q38, .ref q39, .ref q40, .ref q41, .ref q42, .int 0, .int 0])), (q34, .inl (cy 0, (15, .inl (fun _ => 0)))), (q35, .inl (cy 3, (15, .inl (fun _ => 0)))), (q36, .inl (cy 0, (15, .inl (fun _ => 0)))), (q37, .inl (cy 0, (15, .inl (fun _ => 0)))), (q38, .inl (cy 0, (60, .inl (fun _ => 0)))), (q39, .inl (cy 3, (60, .inl (fun _ => 0)))), (q40, .inl (cy 2, (3600, .inr (.inr (.inl (fun _ => 0)))))), (q41, .inl (cy 2, (3600, .inr (.inr (.inl (fun _ => 0)))))), (q42, .inl (cy 0, (3600, .inl (fun _ => 0)))), (q43, .inr (3, [.int 0, .int 0, .ref q44, .ref q45, .ref q46, .ref q47, .ref q48, .ref q49, .ref q50, .ref q51, .ref q52, .ref q53])), (q44, .inl (cy 0, (15, .inl (fun _ => 0)))), (q45, .inl (cy 0, (15, .inl (fun _ => 0)))), (q46, .inl (cy 0, (15, .inl (fun _ => 0)))), (q47, .inl (cy 0, (60, .inl (fun _ => 0)))), (q48, .inl (cy 0, (60, .inl (fun _ => 0)))), (q49, .inl (cy 0, (60, .inl (fun _ => 0)))), (q50, .inl (cy 0, (60, .inl (fun _ => 0)))), (q51, .inl (cy 3, (60, .inl (fun _ => 0)))), (q52, .inl (cy 0, (36, .inl (fun _ => 0)))), (q53, .inl (cy 0, (36, .inl (fun _ => 0)))), (q54, .inr (2, [.ref q43, .ref q55, .int (-1), .int 0])), (q55, .inl (cy 1, (60, .inr (.inl (fun _ => 0)))))] H := hP
  have hD : va_D A [(h0, .inr (7, [.ref q1, .ref q3, .ref q5, .ref q7, .ref q9, .ref q13, .ref q17, .ref q20, .ref q31, .ref q33, .ref q43, .ref q54, .int 0, .int 0, .int 0])), (q1, .inr (4, [.ref q2, .int 0])), (q2, .inl (cy 0, (32, .inl (fun _ => 0)))), (q3, .inr (1, [.ref q4, .int 0, .int 0])), (q4, .inl (cy 0, (25, .inl (fun _ => 0)))), (q5, .inr (1, [.ref q6, .int 0, .int 0])), (q6, .inl (cy 0, (25, .inl (fun _ => 0)))), (q7, .inr (1, [.ref q8, .int 0, .int 0])), (q8, .inl (cy 0, (25, .inl (fun _ => 0)))), (q9, .inr (6, [.ref q10, .ref q11, .ref q12, .int 0])), (q10, .inl (cy 0, (6, .inl (fun _ => 0)))), (q11, .inl (cy 0, (6, .inl (fun _ => 0)))), (q12, .inl (cy 3, (6, .inl (fun _ => 0)))), (q13, .inr (6, [.ref q14, .ref q15, .ref q16, .int 0])), (q14, .inl (cy 0, (6, .inl (fun _ => 0)))), (q15, .inl (cy 0, (6, .inl (fun _ => 0)))), (q16, .inl (cy 3, (6, .inl (fun _ => 0)))), (q17, .inr (5, [.ref q18, .ref q19])), (q18, .inl (cy 0, (15, .inl (fun _ => 0)))), (q19, .inl (cy 0, (5, .inl (fun _ => 0)))), (q20, .inr (3, [.int 0, .int 0, .ref q21, .ref q22, .ref q23, .ref q24, .ref q25, .ref q26, .ref q27, .ref q28, .ref q29, .ref q30])), (q21, .inl (cy 0, (15, .inl (fun _ => 0)))), (q22, .inl (cy 0, (15, .inl (fun _ => 0)))), (q23, .inl (cy 0, (15, .inl (fun _ => 0)))), (q24, .inl (cy 0, (60, .inl (fun _ => 0)))), (q25, .inl (cy 0, (60, .inl (fun _ => 0)))), (q26, .inl (cy 0, (60, .inl (fun _ => 0)))), (q27, .inl (cy 0, (60, .inl (fun _ => 0)))), (q28, .inl (cy 3, (60, .inl (fun _ => 0)))), (q29, .inl (cy 0, (36, .inl (fun _ => 0)))), (q30, .inl (cy 0, (36, .inl (fun _ => 0)))), (q31, .inr (2, [.ref q20, .ref q32, .int (-1), .int 0])), (q32, .inl (cy 1, (60, .inr (.inl (fun _ => 0))))), (q33, .inr (0, [.ref q20, .ref q31, .ref q34, .ref q35, .ref q36, .ref q37, .ref q38, .ref q39, .ref q40, .ref q41, .ref q42, .int 0, .int 0])), (q34, .inl (cy 0, (15, .inl (fun _ => 0)))), (q35, .inl (cy 3, (15, .inl (fun _ => 0)))), (q36, .inl (cy 0, (15, .inl (fun _ => 0)))), (q37, .inl (cy 0, (15, .inl (fun _ => 0)))), (q38, .inl (cy 0, (60, .inl (fun _ => 0)))), (q39, .inl (cy 3, (60, .inl (fun _ => 0)))), (q40, .inl (cy 2, (3600, .inr (.inr (.inl (fun _ => 0)))))), (q41, .inl (cy 2, (3600, .inr (.inr (.inl (fun _ => 0)))))), (q42, .inl (cy 0, (3600, .inl (fun _ => 0)))), (q43, .inr (3, [.int 0, .int 0, .ref q44, .ref q45, .ref q46, .ref q47, .ref q48, .ref q49, .ref q50, .ref q51, .ref q52, .ref q53])), (q44, .inl (cy 0, (15, .inl (fun _ => 0)))), (q45, .inl (cy 0, (15, .inl (fun _ => 0)))), (q46, .inl (cy 0, (15, .inl (fun _ => 0)))), (q47, .inl (cy 0, (60, .inl (fun _ => 0)))), (q48, .inl (cy 0, (60, .inl (fun _ => 0)))), (q49, .inl (cy 0, (60, .inl (fun _ => 0)))), (q50, .inl (cy 0, (60, .inl (fun _ => 0)))), (q51, .inl (cy 3, (60, .inl (fun _ => 0)))), (q52, .inl (cy 0, (36, .inl (fun _ => 0)))), (q53, .inl (cy 0, (36, .inl (fun _ => 0)))), (q54, .inr (2, [.ref q43, .ref q55, .int (-1), .int 0])), (q55, .inl (cy 1, (60, .inr (.inl (fun _ => 0)))))] := hD
  have hP9 := hP.sub (ws' := [(h0, .inr (7, [.ref q1, .ref q3, .ref q5, .ref q7, .ref q9, .ref q13, .ref q17, .ref q20, .ref q31, .ref q33, .ref q43, .ref q54, .int 0, .int 0, .int 0])), (q1, .inr (4, [.ref q2, .int 0])), (q2, .inl (cy 0, (32, .inl (fun _ => 0)))), (q3, .inr (1, [.ref q4, .int 0, .int 0])), (q4, .inl (cy 0, (25, .inl (fun _ => 0)))), (q5, .inr (1, [.ref q6, .int 0, .int 0])), (q6, .inl (cy 0, (25, .inl (fun _ => 0)))), (q7, .inr (1, [.ref q8, .int 0, .int 0])), (q8, .inl (cy 0, (25, .inl (fun _ => 0)))), (q9, .inr (6, [.ref q10, .ref q11, .ref q12, .int 0])), (q10, .inl (cy 0, (6, .inl (fun _ => 0)))), (q11, .inl (cy 0, (6, .inl (fun _ => 0)))), (q12, .inl (cy 3, (6, .inl (fun _ => 0)))), (q13, .inr (6, [.ref q14, .ref q15, .ref q16, .int 0])), (q14, .inl (cy 0, (6, .inl (fun _ => 0)))), (q15, .inl (cy 0, (6, .inl (fun _ => 0)))), (q16, .inl (cy 3, (6, .inl (fun _ => 0)))), (q17, .inr (5, [.ref q18, .ref q19])), (q18, .inl (cy 0, (15, .inl (fun _ => 0)))), (q19, .inl (cy 0, (5, .inl (fun _ => 0)))), (q20, .inr (3, [.int 0, .int 0, .ref q21, .ref q22, .ref q23, .ref q24, .ref q25, .ref q26, .ref q27, .ref q28, .ref q29, .ref q30])), (q21, .inl (cy 0, (15, .inl (fun _ => 0)))), (q22, .inl (cy 0, (15, .inl (fun _ => 0)))), (q23, .inl (cy 0, (15, .inl (fun _ => 0)))), (q24, .inl (cy 0, (60, .inl (fun _ => 0)))), (q25, .inl (cy 0, (60, .inl (fun _ => 0)))), (q26, .inl (cy 0, (60, .inl (fun _ => 0)))), (q27, .inl (cy 0, (60, .inl (fun _ => 0)))), (q28, .inl (cy 3, (60, .inl (fun _ => 0)))), (q29, .inl (cy 0, (36, .inl (fun _ => 0)))), (q30, .inl (cy 0, (36, .inl (fun _ => 0)))), (q31, .inr (2, [.ref q20, .ref q32, .int (-1), .int 0])), (q32, .inl (cy 1, (60, .inr (.inl (fun _ => 0))))), (q33, .inr (0, [.ref q20, .ref q31, .ref q34, .ref q35, .ref q36, .ref q37, .ref q38, .ref q39, .ref q40, .ref q41, .ref q42, .int 0, .int 0])), (q34, .inl (cy 0, (15, .inl (fun _ => 0)))), (q35, .inl (cy 3, (15, .inl (fun _ => 0)))), (q36, .inl (cy 0, (15, .inl (fun _ => 0)))), (q37, .inl (cy 0, (15, .inl (fun _ => 0)))), (q38, .inl (cy 0, (60, .inl (fun _ => 0)))), (q39, .inl (cy 3, (60, .inl (fun _ => 0)))), (q40, .inl (cy 2, (3600, .inr (.inr (.inl (fun _ => 0)))))), (q41, .inl (cy 2, (3600, .inr (.inr (.inl (fun _ => 0)))))), (q42, .inl (cy 0, (3600, .inl (fun _ => 0)))), (q43, .inr (3, [.int 0, .int 0, .ref q44, .ref q45, .ref q46, .ref q47, .ref q48, .ref q49, .ref q50, .ref q51, .ref q52, .ref q53])), (q44, .inl (cy 0, (15, .inl (fun _ => 0)))), (q45, .inl (cy 0, (15, .inl (fun _ => 0)))), (q46, .inl (cy 0, (15, .inl (fun _ => 0)))), (q47, .inl (cy 0, (60, .inl (fun _ => 0)))), (q48, .inl (cy 0, (60, .inl (fun _ => 0)))), (q49, .inl (cy 0, (60, .inl (fun _ => 0)))), (q50, .inl (cy 0, (60, .inl (fun _ => 0)))), (q51, .inl (cy 3, (60, .inl (fun _ => 0)))), (q52, .inl (cy 0, (36, .inl (fun _ => 0)))), (q53, .inl (cy 0, (36, .inl (fun _ => 0)))), (q54, .inr (2, [.ref q43, .ref q55, .int (-1), .int 0])), (q55, .inl (cy 1, (60, .inr (.inl (fun _ => 0)))))]) [0, 1, 2, 3, 4, 5, 6, 7, 8, 9, 10, 11, 12, 13, 14, 15, 16, 17, 18, 19, 20, 21, 22, 23, 24, 25, 26, 27, 28, 29, 30, 31, 32, 33, 34, 35, 36, 37, 38, 39, 40, 41, 42, 43, 44, 45, 46, 47, 48, 49, 50, 51, 52, 53, 54, 55] rfl
  have hD9 := hD.sub (ws' := [(h0, .inr (7, [.ref q1, .ref q3, .ref q5, .ref q7, .ref q9, .ref q13, .ref q17, .ref q20, .ref q31, .ref q33, .ref q43, .ref q54, .int 0, .int 0, .int 0])), (q1, .inr (4, [.ref q2, .int 0])), (q2, .inl (cy 0, (32, .inl (fun _ => 0)))), (q3, .inr (1, [.ref q4, .int 0, .int 0])), (q4, .inl (cy 0, (25, .inl (fun _ => 0)))), (q5, .inr (1, [.ref q6, .int 0, .int 0])), (q6, .inl (cy 0, (25, .inl (fun _ => 0)))), (q7, .inr (1, [.ref q8, .int 0, .int 0])), (q8, .inl (cy 0, (25, .inl (fun _ => 0)))), (q9, .inr (6, [.ref q10, .ref q11, .ref q12, .int 0])), (q10, .inl (cy 0, (6, .inl (fun _ => 0)))), (q11, .inl (cy 0, (6, .inl (fun _ => 0)))), (q12, .inl (cy 3, (6, .inl (fun _ => 0)))), (q13, .inr (6, [.ref q14, .ref q15, .ref q16, .int 0])), (q14, .inl (cy 0, (6, .inl (fun _ => 0)))), (q15, .inl (cy 0, (6, .inl (fun _ => 0)))), (q16, .inl (cy 3, (6, .inl (fun _ => 0)))), (q17, .inr (5, [.ref q18, .ref q19])), (q18, .inl (cy 0, (15, .inl (fun _ => 0)))), (q19, .inl (cy 0, (5, .inl (fun _ => 0)))), (q20, .inr (3, [.int 0, .int 0, .ref q21, .ref q22, .ref q23, .ref q24, .ref q25, .ref q26, .ref q27, .ref q28, .ref q29, .ref q30])), (q21, .inl (cy 0, (15, .inl (fun _ => 0)))), (q22, .inl (cy 0, (15, .inl (fun _ => 0)))), (q23, .inl (cy 0, (15, .inl (fun _ => 0)))), (q24, .inl (cy 0, (60, .inl (fun _ => 0)))), (q25, .inl (cy 0, (60, .inl (fun _ => 0)))), (q26, .inl (cy 0, (60, .inl (fun _ => 0)))), (q27, .inl (cy 0, (60, .inl (fun _ => 0)))), (q28, .inl (cy 3, (60, .inl (fun _ => 0)))), (q29, .inl (cy 0, (36, .inl (fun _ => 0)))), (q30, .inl (cy 0, (36, .inl (fun _ => 0)))), (q31, .inr (2, [.ref q20, .ref q32, .int (-1), .int 0])), (q32, .inl (cy 1, (60, .inr (.inl (fun _ => 0))))), (q33, .inr (0, [.ref q20, .ref q31, .ref q34, .ref q35, .ref q36, .ref q37, .ref q38, .ref q39, .ref q40, .ref q41, .ref q42, .int 0, .int 0])), (q34, .inl (cy 0, (15, .inl (fun _ => 0)))), (q35, .inl (cy 3, (15, .inl (fun _ => 0)))), (q36, .inl (cy 0, (15, .inl (fun _ => 0)))), (q37, .inl (cy 0, (15, .inl (fun _ => 0)))), (q38, .inl (cy 0, (60, .inl (fun _ => 0)))), (q39, .inl (cy 3, (60, .inl (fun _ => 0)))), (q40, .inl (cy 2, (3600, .inr (.inr (.inl (fun _ => 0)))))), (q41, .inl (cy 2, (3600, .inr (.inr (.inl (fun _ => 0)))))), (q42, .inl (cy 0, (3600, .inl (fun _ => 0)))), (q43, .inr (3, [.int 0, .int 0, .ref q44, .ref q45, .ref q46, .ref q47, .ref q48, .ref q49, .ref q50, .ref q51, .ref q52, .ref q53])), (q44, .inl (cy 0, (15, .inl (fun _ => 0)))), (q45, .inl (cy 0, (15, .inl (fun _ => 0)))), (q46, .inl (cy 0, (15, .inl (fun _ => 0)))), (q47, .inl (cy 0, (60, .inl (fun _ => 0)))), (q48, .inl (cy 0, (60, .inl (fun _ => 0)))), (q49, .inl (cy 0, (60, .inl (fun _ => 0)))), (q50, .inl (cy 0, (60, .inl (fun _ => 0)))), (q51, .inl (cy 3, (60, .inl (fun _ => 0)))), (q52, .inl (cy 0, (36, .inl (fun _ => 0)))), (q53, .inl (cy 0, (36, .inl (fun _ => 0)))), (q54, .inr (2, [.ref q43, .ref q55, .int (-1), .int 0])), (q55, .inl (cy 1, (60, .inr (.inl (fun _ => 0)))))]) [0, 1, 2, 3, 4, 5, 6, 7, 8, 9, 10, 11, 12, 13, 14, 15, 16, 17, 18, 19, 20, 21, 22, 23, 24, 25, 26, 27, 28, 29, 30, 31, 32, 33, 34, 35, 36, 37, 38, 39, 40, 41, 42, 43, 44, 45, 46, 47, 48, 49, 50, 51, 52, 53, 54, 55] (by decide) rfl
  exact W.vret hx hb hr (fun t ht hW => ⟨⟨(), rfl, trivial, q1, q2, q3, q4, q5, q6, q7, q8, q9, q10, q11, q12, q13, q14, q15, q16, q17, q18, q19, q20, q21, q22, q23, q24, q25, q26, q27, q28, q29, q30, q31, q32, q33, q34, q35, q36, q37, q38, q39, q40, q41, q42, q43, q44, q45, q46, q47, q48, q49, q50, q51, q52, q53, q54, q55, by rw [ht]; exact hP9, va_K.moved hW.alike hK, hD9⟩, hS.F ht⟩) hS.2.2 dc_7_167
end
