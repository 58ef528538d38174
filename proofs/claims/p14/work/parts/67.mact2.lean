/-! the model: acts on the town, with the walks -/
theorem at_X5_close_0 : mm_at 0 kdX5_close = [(0, .aload_n 0, 0), (1, .aload_n 0, 0), (2, .iload_n 1, 0), (3, .invokevirtual 162, 0), (6, .iconst 1, 0), (7, .invokevirtual 146, 0), (10, .ifCond .eq 5, 15), (13, .iconst 0, 0), (14, .ireturn, 0), (15, .iconst 0, 0), (16, .istore_n 2, 0), (17, .iload_n 2, 0), (18, .iconst 3, 0), (19, .if_icmp .ge 24, 43), (22, .aload_n 0, 0), (23, .iload_n 2, 0), (24, .iload_n 1, 0), (25, .invokevirtual 165, 0), (28, .iconst (-1), 0), (29, .if_icmp .eq 8, 37), (32, .aload_n 0, 0), (33, .invokevirtual 149, 0), (36, .ireturn, 0), (37, .iinc 2 1, 0), (40, .goto (-23), 17), (43, .aload_n 0, 0), (44, .dup, 0), (45, .getfield 49, 0), (48, .iconst 1, 0), (49, .isub, 0), (50, .putfield 49, 0), (53, .iload_n 1, 0), (54, .istore_n 2, 0), (55, .iload_n 2, 0), (56, .aload_n 0, 0), (57, .getfield 49, 0), (60, .if_icmp .ge 37, 97), (63, .aload_n 0, 0), (64, .getfield 9, 0), (67, .iload_n 2, 0), (68, .aload_n 0, 0), (69, .getfield 9, 0), (72, .iload_n 2, 0), (73, .iconst 1, 0), (74, .iadd, 0), (75, .iaload, 0), (76, .iastore, 0), (77, .aload_n 0, 0), (78, .getfield 13, 0), (81, .iload_n 2, 0), (82, .aload_n 0, 0), (83, .getfield 13, 0), (86, .iload_n 2, 0), (87, .iconst 1, 0), (88, .iadd, 0), (89, .iaload, 0), (90, .iastore, 0), (91, .iinc 2 1, 0), (94, .goto (-39), 55), (97, .iconst 0, 0), (98, .istore_n 2, 0), (99, .iload_n 2, 0), (100, .iconst 3, 0), (101, .if_icmp .ge 54, 155), (104, .iconst 0, 0), (105, .istore_n 3, 0), (106, .iload_n 3, 0), (107, .aload_n 0, 0), (108, .getfield 19, 0), (111, .iload_n 2, 0), (112, .iaload, 0), (113, .if_icmp .ge 36, 149), (116, .aload_n 0, 0), (117, .iload_n 2, 0), (118, .iload_n 3, 0), (119, .invokevirtual 98, 0), (122, .iconst 2, 0), (123, .idiv, 0), (124, .iload_n 1, 0), (125, .if_icmp .le 18, 143), (128, .aload_n 0, 0), (129, .getfield 16, 0), (132, .iload_n 2, 0), (133, .bipush 30, 0), (135, .imul, 0), (136, .iload_n 3, 0), (137, .iadd, 0), (138, .dup2, 0), (139, .iaload, 0), (140, .iconst 2, 0), (141, .isub, 0), (142, .iastore, 0), (143, .iinc 3 1, 0), (146, .goto (-40), 106), (149, .iinc 2 1, 0), (152, .goto (-53), 99), (155, .aload_n 0, 0), (156, .invokevirtual 95, 0), (159, .aload_n 0, 0), (160, .aload_n 0, 0), (161, .getfield 49, 0), (164, .invokevirtual 156, 0), (167, .ireturn, 0)] := rfl
theorem at_X5_close_15 : mm_at 15 kdX5_close = [(15, .iconst 0, 0), (16, .istore_n 2, 0), (17, .iload_n 2, 0), (18, .iconst 3, 0), (19, .if_icmp .ge 24, 43), (22, .aload_n 0, 0), (23, .iload_n 2, 0), (24, .iload_n 1, 0), (25, .invokevirtual 165, 0), (28, .iconst (-1), 0), (29, .if_icmp .eq 8, 37), (32, .aload_n 0, 0), (33, .invokevirtual 149, 0), (36, .ireturn, 0), (37, .iinc 2 1, 0), (40, .goto (-23), 17), (43, .aload_n 0, 0), (44, .dup, 0), (45, .getfield 49, 0), (48, .iconst 1, 0), (49, .isub, 0), (50, .putfield 49, 0), (53, .iload_n 1, 0), (54, .istore_n 2, 0), (55, .iload_n 2, 0), (56, .aload_n 0, 0), (57, .getfield 49, 0), (60, .if_icmp .ge 37, 97), (63, .aload_n 0, 0), (64, .getfield 9, 0), (67, .iload_n 2, 0), (68, .aload_n 0, 0), (69, .getfield 9, 0), (72, .iload_n 2, 0), (73, .iconst 1, 0), (74, .iadd, 0), (75, .iaload, 0), (76, .iastore, 0), (77, .aload_n 0, 0), (78, .getfield 13, 0), (81, .iload_n 2, 0), (82, .aload_n 0, 0), (83, .getfield 13, 0), (86, .iload_n 2, 0), (87, .iconst 1, 0), (88, .iadd, 0), (89, .iaload, 0), (90, .iastore, 0), (91, .iinc 2 1, 0), (94, .goto (-39), 55), (97, .iconst 0, 0), (98, .istore_n 2, 0), (99, .iload_n 2, 0), (100, .iconst 3, 0), (101, .if_icmp .ge 54, 155), (104, .iconst 0, 0), (105, .istore_n 3, 0), (106, .iload_n 3, 0), (107, .aload_n 0, 0), (108, .getfield 19, 0), (111, .iload_n 2, 0), (112, .iaload, 0), (113, .if_icmp .ge 36, 149), (116, .aload_n 0, 0), (117, .iload_n 2, 0), (118, .iload_n 3, 0), (119, .invokevirtual 98, 0), (122, .iconst 2, 0), (123, .idiv, 0), (124, .iload_n 1, 0), (125, .if_icmp .le 18, 143), (128, .aload_n 0, 0), (129, .getfield 16, 0), (132, .iload_n 2, 0), (133, .bipush 30, 0), (135, .imul, 0), (136, .iload_n 3, 0), (137, .iadd, 0), (138, .dup2, 0), (139, .iaload, 0), (140, .iconst 2, 0), (141, .isub, 0), (142, .iastore, 0), (143, .iinc 3 1, 0), (146, .goto (-40), 106), (149, .iinc 2 1, 0), (152, .goto (-53), 99), (155, .aload_n 0, 0), (156, .invokevirtual 95, 0), (159, .aload_n 0, 0), (160, .aload_n 0, 0), (161, .getfield 49, 0), (164, .invokevirtual 156, 0), (167, .ireturn, 0)] := rfl
theorem at_X5_close_17 : mm_at 17 kdX5_close = [(17, .iload_n 2, 0), (18, .iconst 3, 0), (19, .if_icmp .ge 24, 43), (22, .aload_n 0, 0), (23, .iload_n 2, 0), (24, .iload_n 1, 0), (25, .invokevirtual 165, 0), (28, .iconst (-1), 0), (29, .if_icmp .eq 8, 37), (32, .aload_n 0, 0), (33, .invokevirtual 149, 0), (36, .ireturn, 0), (37, .iinc 2 1, 0), (40, .goto (-23), 17), (43, .aload_n 0, 0), (44, .dup, 0), (45, .getfield 49, 0), (48, .iconst 1, 0), (49, .isub, 0), (50, .putfield 49, 0), (53, .iload_n 1, 0), (54, .istore_n 2, 0), (55, .iload_n 2, 0), (56, .aload_n 0, 0), (57, .getfield 49, 0), (60, .if_icmp .ge 37, 97), (63, .aload_n 0, 0), (64, .getfield 9, 0), (67, .iload_n 2, 0), (68, .aload_n 0, 0), (69, .getfield 9, 0), (72, .iload_n 2, 0), (73, .iconst 1, 0), (74, .iadd, 0), (75, .iaload, 0), (76, .iastore, 0), (77, .aload_n 0, 0), (78, .getfield 13, 0), (81, .iload_n 2, 0), (82, .aload_n 0, 0), (83, .getfield 13, 0), (86, .iload_n 2, 0), (87, .iconst 1, 0), (88, .iadd, 0), (89, .iaload, 0), (90, .iastore, 0), (91, .iinc 2 1, 0), (94, .goto (-39), 55), (97, .iconst 0, 0), (98, .istore_n 2, 0), (99, .iload_n 2, 0), (100, .iconst 3, 0), (101, .if_icmp .ge 54, 155), (104, .iconst 0, 0), (105, .istore_n 3, 0), (106, .iload_n 3, 0), (107, .aload_n 0, 0), (108, .getfield 19, 0), (111, .iload_n 2, 0), (112, .iaload, 0), (113, .if_icmp .ge 36, 149), (116, .aload_n 0, 0), (117, .iload_n 2, 0), (118, .iload_n 3, 0), (119, .invokevirtual 98, 0), (122, .iconst 2, 0), (123, .idiv, 0), (124, .iload_n 1, 0), (125, .if_icmp .le 18, 143), (128, .aload_n 0, 0), (129, .getfield 16, 0), (132, .iload_n 2, 0), (133, .bipush 30, 0), (135, .imul, 0), (136, .iload_n 3, 0), (137, .iadd, 0), (138, .dup2, 0), (139, .iaload, 0), (140, .iconst 2, 0), (141, .isub, 0), (142, .iastore, 0), (143, .iinc 3 1, 0), (146, .goto (-40), 106), (149, .iinc 2 1, 0), (152, .goto (-53), 99), (155, .aload_n 0, 0), (156, .invokevirtual 95, 0), (159, .aload_n 0, 0), (160, .aload_n 0, 0), (161, .getfield 49, 0), (164, .invokevirtual 156, 0), (167, .ireturn, 0)] := rfl
theorem at_X5_close_37 : mm_at 37 kdX5_close = [(37, .iinc 2 1, 0), (40, .goto (-23), 17), (43, .aload_n 0, 0), (44, .dup, 0), (45, .getfield 49, 0), (48, .iconst 1, 0), (49, .isub, 0), (50, .putfield 49, 0), (53, .iload_n 1, 0), (54, .istore_n 2, 0), (55, .iload_n 2, 0), (56, .aload_n 0, 0), (57, .getfield 49, 0), (60, .if_icmp .ge 37, 97), (63, .aload_n 0, 0), (64, .getfield 9, 0), (67, .iload_n 2, 0), (68, .aload_n 0, 0), (69, .getfield 9, 0), (72, .iload_n 2, 0), (73, .iconst 1, 0), (74, .iadd, 0), (75, .iaload, 0), (76, .iastore, 0), (77, .aload_n 0, 0), (78, .getfield 13, 0), (81, .iload_n 2, 0), (82, .aload_n 0, 0), (83, .getfield 13, 0), (86, .iload_n 2, 0), (87, .iconst 1, 0), (88, .iadd, 0), (89, .iaload, 0), (90, .iastore, 0), (91, .iinc 2 1, 0), (94, .goto (-39), 55), (97, .iconst 0, 0), (98, .istore_n 2, 0), (99, .iload_n 2, 0), (100, .iconst 3, 0), (101, .if_icmp .ge 54, 155), (104, .iconst 0, 0), (105, .istore_n 3, 0), (106, .iload_n 3, 0), (107, .aload_n 0, 0), (108, .getfield 19, 0), (111, .iload_n 2, 0), (112, .iaload, 0), (113, .if_icmp .ge 36, 149), (116, .aload_n 0, 0), (117, .iload_n 2, 0), (118, .iload_n 3, 0), (119, .invokevirtual 98, 0), (122, .iconst 2, 0), (123, .idiv, 0), (124, .iload_n 1, 0), (125, .if_icmp .le 18, 143), (128, .aload_n 0, 0), (129, .getfield 16, 0), (132, .iload_n 2, 0), (133, .bipush 30, 0), (135, .imul, 0), (136, .iload_n 3, 0), (137, .iadd, 0), (138, .dup2, 0), (139, .iaload, 0), (140, .iconst 2, 0), (141, .isub, 0), (142, .iastore, 0), (143, .iinc 3 1, 0), (146, .goto (-40), 106), (149, .iinc 2 1, 0), (152, .goto (-53), 99), (155, .aload_n 0, 0), (156, .invokevirtual 95, 0), (159, .aload_n 0, 0), (160, .aload_n 0, 0), (161, .getfield 49, 0), (164, .invokevirtual 156, 0), (167, .ireturn, 0)] := rfl
theorem at_X5_close_43 : mm_at 43 kdX5_close = [(43, .aload_n 0, 0), (44, .dup, 0), (45, .getfield 49, 0), (48, .iconst 1, 0), (49, .isub, 0), (50, .putfield 49, 0), (53, .iload_n 1, 0), (54, .istore_n 2, 0), (55, .iload_n 2, 0), (56, .aload_n 0, 0), (57, .getfield 49, 0), (60, .if_icmp .ge 37, 97), (63, .aload_n 0, 0), (64, .getfield 9, 0), (67, .iload_n 2, 0), (68, .aload_n 0, 0), (69, .getfield 9, 0), (72, .iload_n 2, 0), (73, .iconst 1, 0), (74, .iadd, 0), (75, .iaload, 0), (76, .iastore, 0), (77, .aload_n 0, 0), (78, .getfield 13, 0), (81, .iload_n 2, 0), (82, .aload_n 0, 0), (83, .getfield 13, 0), (86, .iload_n 2, 0), (87, .iconst 1, 0), (88, .iadd, 0), (89, .iaload, 0), (90, .iastore, 0), (91, .iinc 2 1, 0), (94, .goto (-39), 55), (97, .iconst 0, 0), (98, .istore_n 2, 0), (99, .iload_n 2, 0), (100, .iconst 3, 0), (101, .if_icmp .ge 54, 155), (104, .iconst 0, 0), (105, .istore_n 3, 0), (106, .iload_n 3, 0), (107, .aload_n 0, 0), (108, .getfield 19, 0), (111, .iload_n 2, 0), (112, .iaload, 0), (113, .if_icmp .ge 36, 149), (116, .aload_n 0, 0), (117, .iload_n 2, 0), (118, .iload_n 3, 0), (119, .invokevirtual 98, 0), (122, .iconst 2, 0), (123, .idiv, 0), (124, .iload_n 1, 0), (125, .if_icmp .le 18, 143), (128, .aload_n 0, 0), (129, .getfield 16, 0), (132, .iload_n 2, 0), (133, .bipush 30, 0), (135, .imul, 0), (136, .iload_n 3, 0), (137, .iadd, 0), (138, .dup2, 0), (139, .iaload, 0), (140, .iconst 2, 0), (141, .isub, 0), (142, .iastore, 0), (143, .iinc 3 1, 0), (146, .goto (-40), 106), (149, .iinc 2 1, 0), (152, .goto (-53), 99), (155, .aload_n 0, 0), (156, .invokevirtual 95, 0), (159, .aload_n 0, 0), (160, .aload_n 0, 0), (161, .getfield 49, 0), (164, .invokevirtual 156, 0), (167, .ireturn, 0)] := rfl
theorem at_X5_close_55 : mm_at 55 kdX5_close = [(55, .iload_n 2, 0), (56, .aload_n 0, 0), (57, .getfield 49, 0), (60, .if_icmp .ge 37, 97), (63, .aload_n 0, 0), (64, .getfield 9, 0), (67, .iload_n 2, 0), (68, .aload_n 0, 0), (69, .getfield 9, 0), (72, .iload_n 2, 0), (73, .iconst 1, 0), (74, .iadd, 0), (75, .iaload, 0), (76, .iastore, 0), (77, .aload_n 0, 0), (78, .getfield 13, 0), (81, .iload_n 2, 0), (82, .aload_n 0, 0), (83, .getfield 13, 0), (86, .iload_n 2, 0), (87, .iconst 1, 0), (88, .iadd, 0), (89, .iaload, 0), (90, .iastore, 0), (91, .iinc 2 1, 0), (94, .goto (-39), 55), (97, .iconst 0, 0), (98, .istore_n 2, 0), (99, .iload_n 2, 0), (100, .iconst 3, 0), (101, .if_icmp .ge 54, 155), (104, .iconst 0, 0), (105, .istore_n 3, 0), (106, .iload_n 3, 0), (107, .aload_n 0, 0), (108, .getfield 19, 0), (111, .iload_n 2, 0), (112, .iaload, 0), (113, .if_icmp .ge 36, 149), (116, .aload_n 0, 0), (117, .iload_n 2, 0), (118, .iload_n 3, 0), (119, .invokevirtual 98, 0), (122, .iconst 2, 0), (123, .idiv, 0), (124, .iload_n 1, 0), (125, .if_icmp .le 18, 143), (128, .aload_n 0, 0), (129, .getfield 16, 0), (132, .iload_n 2, 0), (133, .bipush 30, 0), (135, .imul, 0), (136, .iload_n 3, 0), (137, .iadd, 0), (138, .dup2, 0), (139, .iaload, 0), (140, .iconst 2, 0), (141, .isub, 0), (142, .iastore, 0), (143, .iinc 3 1, 0), (146, .goto (-40), 106), (149, .iinc 2 1, 0), (152, .goto (-53), 99), (155, .aload_n 0, 0), (156, .invokevirtual 95, 0), (159, .aload_n 0, 0), (160, .aload_n 0, 0), (161, .getfield 49, 0), (164, .invokevirtual 156, 0), (167, .ireturn, 0)] := rfl
theorem at_X5_close_97 : mm_at 97 kdX5_close = [(97, .iconst 0, 0), (98, .istore_n 2, 0), (99, .iload_n 2, 0), (100, .iconst 3, 0), (101, .if_icmp .ge 54, 155), (104, .iconst 0, 0), (105, .istore_n 3, 0), (106, .iload_n 3, 0), (107, .aload_n 0, 0), (108, .getfield 19, 0), (111, .iload_n 2, 0), (112, .iaload, 0), (113, .if_icmp .ge 36, 149), (116, .aload_n 0, 0), (117, .iload_n 2, 0), (118, .iload_n 3, 0), (119, .invokevirtual 98, 0), (122, .iconst 2, 0), (123, .idiv, 0), (124, .iload_n 1, 0), (125, .if_icmp .le 18, 143), (128, .aload_n 0, 0), (129, .getfield 16, 0), (132, .iload_n 2, 0), (133, .bipush 30, 0), (135, .imul, 0), (136, .iload_n 3, 0), (137, .iadd, 0), (138, .dup2, 0), (139, .iaload, 0), (140, .iconst 2, 0), (141, .isub, 0), (142, .iastore, 0), (143, .iinc 3 1, 0), (146, .goto (-40), 106), (149, .iinc 2 1, 0), (152, .goto (-53), 99), (155, .aload_n 0, 0), (156, .invokevirtual 95, 0), (159, .aload_n 0, 0), (160, .aload_n 0, 0), (161, .getfield 49, 0), (164, .invokevirtual 156, 0), (167, .ireturn, 0)] := rfl
theorem at_X5_close_99 : mm_at 99 kdX5_close = [(99, .iload_n 2, 0), (100, .iconst 3, 0), (101, .if_icmp .ge 54, 155), (104, .iconst 0, 0), (105, .istore_n 3, 0), (106, .iload_n 3, 0), (107, .aload_n 0, 0), (108, .getfield 19, 0), (111, .iload_n 2, 0), (112, .iaload, 0), (113, .if_icmp .ge 36, 149), (116, .aload_n 0, 0), (117, .iload_n 2, 0), (118, .iload_n 3, 0), (119, .invokevirtual 98, 0), (122, .iconst 2, 0), (123, .idiv, 0), (124, .iload_n 1, 0), (125, .if_icmp .le 18, 143), (128, .aload_n 0, 0), (129, .getfield 16, 0), (132, .iload_n 2, 0), (133, .bipush 30, 0), (135, .imul, 0), (136, .iload_n 3, 0), (137, .iadd, 0), (138, .dup2, 0), (139, .iaload, 0), (140, .iconst 2, 0), (141, .isub, 0), (142, .iastore, 0), (143, .iinc 3 1, 0), (146, .goto (-40), 106), (149, .iinc 2 1, 0), (152, .goto (-53), 99), (155, .aload_n 0, 0), (156, .invokevirtual 95, 0), (159, .aload_n 0, 0), (160, .aload_n 0, 0), (161, .getfield 49, 0), (164, .invokevirtual 156, 0), (167, .ireturn, 0)] := rfl
theorem at_X5_close_106 : mm_at 106 kdX5_close = [(106, .iload_n 3, 0), (107, .aload_n 0, 0), (108, .getfield 19, 0), (111, .iload_n 2, 0), (112, .iaload, 0), (113, .if_icmp .ge 36, 149), (116, .aload_n 0, 0), (117, .iload_n 2, 0), (118, .iload_n 3, 0), (119, .invokevirtual 98, 0), (122, .iconst 2, 0), (123, .idiv, 0), (124, .iload_n 1, 0), (125, .if_icmp .le 18, 143), (128, .aload_n 0, 0), (129, .getfield 16, 0), (132, .iload_n 2, 0), (133, .bipush 30, 0), (135, .imul, 0), (136, .iload_n 3, 0), (137, .iadd, 0), (138, .dup2, 0), (139, .iaload, 0), (140, .iconst 2, 0), (141, .isub, 0), (142, .iastore, 0), (143, .iinc 3 1, 0), (146, .goto (-40), 106), (149, .iinc 2 1, 0), (152, .goto (-53), 99), (155, .aload_n 0, 0), (156, .invokevirtual 95, 0), (159, .aload_n 0, 0), (160, .aload_n 0, 0), (161, .getfield 49, 0), (164, .invokevirtual 156, 0), (167, .ireturn, 0)] := rfl
theorem at_X5_close_143 : mm_at 143 kdX5_close = [(143, .iinc 3 1, 0), (146, .goto (-40), 106), (149, .iinc 2 1, 0), (152, .goto (-53), 99), (155, .aload_n 0, 0), (156, .invokevirtual 95, 0), (159, .aload_n 0, 0), (160, .aload_n 0, 0), (161, .getfield 49, 0), (164, .invokevirtual 156, 0), (167, .ireturn, 0)] := rfl
theorem at_X5_close_149 : mm_at 149 kdX5_close = [(149, .iinc 2 1, 0), (152, .goto (-53), 99), (155, .aload_n 0, 0), (156, .invokevirtual 95, 0), (159, .aload_n 0, 0), (160, .aload_n 0, 0), (161, .getfield 49, 0), (164, .invokevirtual 156, 0), (167, .ireturn, 0)] := rfl
theorem at_X5_close_155 : mm_at 155 kdX5_close = [(155, .aload_n 0, 0), (156, .invokevirtual 95, 0), (159, .aload_n 0, 0), (160, .aload_n 0, 0), (161, .getfield 49, 0), (164, .invokevirtual 156, 0), (167, .ireturn, 0)] := rfl
def sp_X5_close : mm_S := fun av M d Q => match av with
  | [.inr (.inr (.inl o)), .inl s] =>  o = 17 ∧ xA M ∧ InI s ∧ ∀ M' r, xP M M' → C_close s (vX M) (vX M') (M' 17 0) r → Q (.inl (some (mm_I r))) M' d
  | _ => False
def ct_X5_close : List (Nat × mm_Ca) := [(162, (0, 2, 14, sp_X5_isNoStreet, 0)), (146, (0, 3, 14, sp_X5_start, 0)), (165, (0, 3, 14, sp_X5_placeOf, 0)), (149, (0, 1, 14, sp_X5_cannot, 0)), (98, (0, 3, 14, sp_X5_stepOf, 0)), (95, (0, 1, 14, sp_X5_endWords, 0)), (156, (0, 2, 14, sp_X5_act, 0))]
abbrev rr_X5_close (Q : mm_Q) := mm_run (mm_look flX5) (mm_look ct_X5_close) mm_x0 (mm_look ([] : List (Nat × Int))) (fun _ => none) 1 0 (fun _ _ => none) Q kdX5_close
set_option maxRecDepth 20000 in
theorem mm_up_19_18 {M : mm_M} {a b : Nat} {x : Int} : mm_up M 18 a x 19 b = M 19 b := mm_up_ob (by decide)
def clI (M0 M : mm_M) (s i : Nat) : Prop := (∀ x : Nat, (x < s ∨ i ≤ x) → M 18 x = M0 18 x ∧ M 19 x = M0 19 x) ∧ (∀ x : Nat, s ≤ x → x < i → M 18 x = M0 18 (x + 1) ∧ M 19 x = M0 19 (x + 1))
set_option maxRecDepth 20000 in
theorem lp2_X5_close {M0 : mm_M} {d : List Nat} {Q : mm_Q} {s n : Nat} (hs : s ≤ n) (h30 : n < 30) (hb : ∀ i : Nat, i < 30 → (0 ≤ M0 18 i ∧ M0 18 i < 10) ∧ (0 ≤ M0 19 i ∧ M0 19 i < 10)) (hn : M0 17 1 = n) (hq : ∀ M' x3, fX M0 M' → fr [3, 4] (vX M0) (vX M') → M' 17 = M0 17 → (∀ i : Nat, i < 30 → (0 ≤ M' 18 i ∧ M' 18 i < 10) ∧ (0 ≤ M' 19 i ∧ M' 19 i < 10)) → clI M0 M' s n → rr_X5_close Q 97 [some (mm_R 17), some (mm_I s), some (mm_I n), x3] [] M' d 0) : ∀ (j i : Nat) (M : mm_M) (x3 : Option mm_V), i + j = n → fX M0 M → fr [3, 4] (vX M0) (vX M) → M 17 = M0 17 → (∀ i : Nat, i < 30 → (0 ≤ M 18 i ∧ M 18 i < 10) ∧ (0 ≤ M 19 i ∧ M 19 i < 10)) → s ≤ i → clI M0 M s i → rr_X5_close Q 55 [some (mm_R 17), some (mm_I s), some (mm_I i), x3] [] M d 0 := by
  intro j
  induction j with
  | zero =>
    intro i M x3 hi hx hf h17 hb hsi hR
    have e : i = n := by omega
    subst e
    have e1 : M 17 1 = i := by rw [h17]; exact hn
    obtain ⟨K, hK, hK2⟩ : ∃ K : Nat → mm_K, (∀ t ls st M d u, K t ls st M d u → rr_X5_close Q t ls st M d u) ∧ (∀ t ls st M d u, rr_X5_close Q t ls st M d u → K t ls st M d u) := ⟨rr_X5_close Q, fun _ _ _ _ _ _ h => h, fun _ _ _ _ _ _ h => h⟩
    have h9 := hK2 _ _ _ _ _ _ (hq M x3 hx hf h17 hb hR)
    refine mm_run_at (stop := [63, 97]) (S := K) kkX5_close 90 ?_ (fun _ _ _ _ _ _ _ h => hK _ _ _ _ _ _ h)
    repeat' (first | with_reducible assumption | with_reducible exact mm_i17 | with_reducible exact mm_i18 | with_reducible exact mm_i19 | with_reducible exact mm_i20 | with_reducible exact mm_i21 | with_reducible exact mm_i22 | ((with_reducible show mm_rv _ _ _ _ _); first | exact True.intro | exact mm_i17 | exact mm_i18 | exact mm_i19 | exact mm_i20 | exact mm_i21 | exact mm_i22) | ((with_reducible show mm_bool _ _); first | exact True.intro | exact Or.inl rfl | exact Or.inr rfl | (show (_ : Int) = 0 ∨ _ = 1)) | refine And.intro ?_ ?_ | intro _ | with_reducible exact True.intro | exact rfl | with_reducible exact Or.inl rfl | with_reducible exact Or.inr rfl | exact Nat.le_of_ble_eq_true rfl)
    all_goals (try simp (disch := omega) only [InI, Int.toNat_natCast, Int.tmod_eq_emod_of_nonneg, Int.tdiv_eq_ediv_of_nonneg, true_implies, true_or, or_true, mm_l18, mm_l19, mm_l20, mm_l21, mm_l22] at *)
    all_goals first | omega | exact h9 | skip
  | succ j ih =>
    intro i M x3 hi hx hf h17 hb hsi hR
    have e1 : M 17 1 = n := by rw [h17]; exact hn
    have b1 := hb (i + 1) (by omega)
    have e5 : ((i : Int) + 1).toNat = i + 1 := by omega
    obtain ⟨K, hK, hK2⟩ : ∃ K : Nat → mm_K, (∀ t ls st M d u, K t ls st M d u → rr_X5_close Q t ls st M d u) ∧ (∀ t ls st M d u, rr_X5_close Q t ls st M d u → K t ls st M d u) := ⟨rr_X5_close Q, fun _ _ _ _ _ _ h => h, fun _ _ _ _ _ _ h => h⟩
    have st : ∀ M', fX M M' → vX M' = mm_up (mm_up (vX M) 3 i (M 18 (i + 1))) 4 i (M 19 (i + 1)) → M' 17 = M 17 → (∀ j, M' 18 j = if j = i then M 18 (i + 1) else M 18 j) → (∀ j, M' 19 j = if j = i then M 19 (i + 1) else M 19 j) → K 55 [some (mm_R 17), some (mm_I s), some (mm_I ((i : Int) + 1)), x3] [] M' d 0 := by
      intro M' g1 g2 g3 g4 g5
      refine hK2 _ _ _ _ _ _ (ih (i + 1) M' x3 (by omega) (hx.tr g1) (by rw [g2]; exact (hf.up (by simp)).up (by simp)) (by rw [g3, h17]) (fun j hj => ?_) (by omega) ⟨fun x hx1 => ?_, fun x hx1 hx2 => ?_⟩)
      · have b2 := hb j hj
        rw [g4, g5]
        split <;> omega
      · rw [g4, g5, if_neg (by omega), if_neg (by omega)]
        exact hR.1 x (by omega)
      · rw [g4, g5]
        by_cases e : x = i
        · rw [if_pos e, if_pos e, e]
          exact hR.1 (i + 1) (by omega)
        · rw [if_neg e, if_neg e]
          exact hR.2 x hx1 (by omega)
    refine mm_run_at (stop := [55, 97]) (S := K) kkX5_close 90 ?_ (fun _ _ _ _ _ _ _ h => hK _ _ _ _ _ _ h)
    repeat' (first | with_reducible assumption | with_reducible exact mm_i17 | with_reducible exact mm_i18 | with_reducible exact mm_i19 | with_reducible exact mm_i20 | with_reducible exact mm_i21 | with_reducible exact mm_i22 | ((with_reducible show mm_rv _ _ _ _ _); first | exact True.intro | exact mm_i17 | exact mm_i18 | exact mm_i19 | exact mm_i20 | exact mm_i21 | exact mm_i22) | ((with_reducible show mm_bool _ _); first | exact True.intro | exact Or.inl rfl | exact Or.inr rfl | (show (_ : Int) = 0 ∨ _ = 1)) | refine And.intro ?_ ?_ | intro _ | with_reducible exact True.intro | exact rfl | with_reducible exact Or.inl rfl | with_reducible exact Or.inr rfl | exact Nat.le_of_ble_eq_true rfl)
    all_goals (try simp (disch := omega) only [e5, mm_up_19_18, InI, Int.toNat_natCast, Int.tmod_eq_emod_of_nonneg, Int.tdiv_eq_ediv_of_nonneg, true_implies, true_or, or_true, mm_l18, mm_l19, mm_l20, mm_l21, mm_l22] at *)
    all_goals first | omega | exact st _ ((fX.rf.up (by omega)).up (by omega)) (by rw [vX_u19, vX_u18]) (by rw [mm_up_o _ (by omega), mm_up_o _ (by omega)]) (fun j => by simp [mm_up]) (fun j => by simp [mm_up]) | skip
set_option maxRecDepth 20000 in
theorem lp3_X5_close {M0 : mm_M} {d : List Nat} {Q : mm_Q} {s : Int} {k n : Nat} (hk : k < 3) (hs : 0 ≤ s ∧ s < 30) (hn : M0 21 k = n) (h30 : n ≤ 30) (hw : ∀ i : Nat, i < n → 0 ≤ M0 20 (30 * k + i) ∧ M0 20 (30 * k + i) < 100) (hq : ∀ M' x3, fX M0 M' → fr [8 + 2 * k + 1] (vX M0) (vX M') → M' 17 = M0 17 → M' 21 = M0 21 → M' 22 = M0 22 → (∀ i : Nat, i < n → M' 20 (30 * k + i) = if s < M0 20 (30 * k + i) / 2 then M0 20 (30 * k + i) - 2 else M0 20 (30 * k + i)) → rr_X5_close Q 149 [some (mm_R 17), some (mm_I s), some (mm_I k), x3] [] M' d 0) : ∀ (j i : Nat) (M : mm_M), i + j = n → fX M0 M → fr [8 + 2 * k + 1] (vX M0) (vX M) → M 17 = M0 17 → M 21 = M0 21 → M 22 = M0 22 → (∀ x : Nat, x < i → M 20 (30 * k + x) = if s < M0 20 (30 * k + x) / 2 then M0 20 (30 * k + x) - 2 else M0 20 (30 * k + x)) → (∀ x : Nat, i ≤ x → x < n → M 20 (30 * k + x) = M0 20 (30 * k + x)) → rr_X5_close Q 106 [some (mm_R 17), some (mm_I s), some (mm_I k), some (mm_I i)] [] M d 0 := by
  intro j
  induction j with
  | zero =>
    intro i M hi hx hf h17 h21 h22 h1 h2
    have e : i = n := by omega
    subst e
    have e1 : M 21 k = i := by rw [h21]; exact hn
    obtain ⟨K, hK, hK2⟩ : ∃ K : Nat → mm_K, (∀ t ls st M d u, K t ls st M d u → rr_X5_close Q t ls st M d u) ∧ (∀ t ls st M d u, rr_X5_close Q t ls st M d u → K t ls st M d u) := ⟨rr_X5_close Q, fun _ _ _ _ _ _ h => h, fun _ _ _ _ _ _ h => h⟩
    have h9 := hK2 _ _ _ _ _ _ (hq M (some (mm_I i)) hx hf h17 h21 h22 h1)
    refine mm_run_at (stop := [116, 149]) (S := K) kkX5_close 90 ?_ (fun _ _ _ _ _ _ _ h => hK _ _ _ _ _ _ h)
    repeat' (first | with_reducible assumption | with_reducible exact mm_i17 | with_reducible exact mm_i18 | with_reducible exact mm_i19 | with_reducible exact mm_i20 | with_reducible exact mm_i21 | with_reducible exact mm_i22 | ((with_reducible show mm_rv _ _ _ _ _); first | exact True.intro | exact mm_i17 | exact mm_i18 | exact mm_i19 | exact mm_i20 | exact mm_i21 | exact mm_i22) | ((with_reducible show mm_bool _ _); first | exact True.intro | exact Or.inl rfl | exact Or.inr rfl | (show (_ : Int) = 0 ∨ _ = 1)) | refine And.intro ?_ ?_ | intro _ | with_reducible exact True.intro | exact rfl | with_reducible exact Or.inl rfl | with_reducible exact Or.inr rfl | exact Nat.le_of_ble_eq_true rfl)
    all_goals (try simp (disch := omega) only [InI, Int.toNat_natCast, Int.tmod_eq_emod_of_nonneg, Int.tdiv_eq_ediv_of_nonneg, true_implies, true_or, or_true, mm_l18, mm_l19, mm_l20, mm_l21, mm_l22] at *)
    all_goals first | omega | exact h9 | skip
  | succ j ih =>
    intro i M hi hx hf h17 h21 h22 h1 h2
    have e1 : M 21 k = n := by rw [h21]; exact hn
    have w1 := hw i (by omega)
    have e2 := h2 i (Nat.le_refl _) (by omega)
    have e3 := Int.tdiv_eq_ediv_of_nonneg w1.1 (b := 2)
    have e5 : ((k : Int) * 30 + i).toNat = 30 * k + i := by omega
    obtain ⟨K, hK, hK2⟩ : ∃ K : Nat → mm_K, (∀ t ls st M d u, K t ls st M d u → rr_X5_close Q t ls st M d u) ∧ (∀ t ls st M d u, rr_X5_close Q t ls st M d u → K t ls st M d u) := ⟨rr_X5_close Q, fun _ _ _ _ _ _ h => h, fun _ _ _ _ _ _ h => h⟩
    have st0 : ¬ s < M0 20 (30 * k + i) / 2 → K 106 [some (mm_R 17), some (mm_I s), some (mm_I k), some (mm_I ((i : Int) + 1))] [] M d 0 := by
      intro h
      refine hK2 _ _ _ _ _ _ (ih (i + 1) M (by omega) hx hf h17 h21 h22 (fun x hx2 => ?_) (fun x hx1 hx2 => h2 x (by omega) hx2))
      by_cases e : x = i
      · subst e
        rw [if_neg h]
        exact e2
      · exact h1 x (by omega)
    have st1 : s < M0 20 (30 * k + i) / 2 → K 106 [some (mm_R 17), some (mm_I s), some (mm_I k), some (mm_I ((i : Int) + 1))] [] (mm_up M 20 (30 * k + i) (M0 20 (30 * k + i) - 2)) d 0 := by
      intro h
      refine hK2 _ _ _ _ _ _ (ih (i + 1) _ (by omega) (hx.tr (fX.rf.up (by omega))) (by rw [vX_u20 (by omega) (by omega)]; exact hf.up (by simp)) (by rw [mm_up_o _ (by omega)]; exact h17) (by rw [mm_up_o _ (by omega)]; exact h21) (by rw [mm_up_o _ (by omega)]; exact h22) (fun x hx2 => ?_) (fun x hx1 hx2 => ?_))
      · by_cases e : x = i
        · subst e
          rw [if_pos h]
          simp [mm_up]
        · rw [mm_up_ob2 (by omega)]
          exact h1 x (by omega)
      · rw [mm_up_ob2 (by omega)]
        exact h2 x (by omega) hx2
    refine mm_run_at (stop := [106, 149]) (S := K) kkX5_close 90 ?_ (fun _ _ _ _ _ _ _ h => hK _ _ _ _ _ _ h)
    repeat' (first | with_reducible assumption | with_reducible exact mm_i17 | with_reducible exact mm_i18 | with_reducible exact mm_i19 | with_reducible exact mm_i20 | with_reducible exact mm_i21 | with_reducible exact mm_i22 | ((with_reducible show mm_rv _ _ _ _ _); first | exact True.intro | exact mm_i17 | exact mm_i18 | exact mm_i19 | exact mm_i20 | exact mm_i21 | exact mm_i22) | ((with_reducible show mm_bool _ _); first | exact True.intro | exact Or.inl rfl | exact Or.inr rfl | (show (_ : Int) = 0 ∨ _ = 1)) | refine And.intro ?_ ?_ | intro _ | with_reducible exact True.intro | exact rfl | with_reducible exact Or.inl rfl | with_reducible exact Or.inr rfl | exact Nat.le_of_ble_eq_true rfl)
    all_goals (try simp (disch := omega) only [e2, e3, e5, InI, Int.toNat_natCast, Int.tmod_eq_emod_of_nonneg, Int.tdiv_eq_ediv_of_nonneg, true_implies, true_or, or_true, mm_l18, mm_l19, mm_l20, mm_l21, mm_l22] at *)
    all_goals first | omega | exact st0 (by omega) | exact st1 (by omega) | skip
set_option maxRecDepth 20000 in
theorem ren_cP {V V' : mm_M} {s n : Int} (h : wA V) (hn : V 2 4 = n) (hs : 0 ≤ s ∧ s < n) (hN : ∀ w, isW3 w → wN V w s) (ht : tW V') (h24 : V' 2 4 = n - 1) (hw : ∀ w, isW3 w → V' w 2 = V w 2 ∧ V' w 3 = V w 3 ∧ ∀ i : Nat, i < V w 2 → V' (w + 1) i = if s < V (w + 1) i / 2 then V (w + 1) i - 2 else V (w + 1) i) (h16 : V' 16 = V 16) (h1 : V' 1 = V 1) (hc : cF V V') : cP V V' := by
  refine ⟨⟨ht, fun w hw3 => ?_, h.2.2.to h16 (fun h3 h4 => ?_)⟩, hc, by rw [h1]⟩
  · obtain ⟨⟨v1, v2, v3⟩, hD⟩ := h.2.1 w hw3
    obtain ⟨w1, w2, w3⟩ := hw w hw3
    have hN := hN w hw3
    refine ⟨⟨by rw [w1]; exact v1, by rw [w2]; exact v2, fun i hi => ?_⟩, fun i j hi hj e => ?_⟩
    · rw [w1] at hi
      have a := v3 i hi
      have b := hN i hi
      rw [w3 i hi, h24]
      split <;> omega
    · rw [w1] at hi hj
      have a := hN i hi
      have b := hN j hj
      refine hD i j hi hj ?_
      rw [w3 i hi, w3 j hj] at e
      split at e <;> split at e <;> omega
  · have := hw _ (h.2.2.1.resolve_left h3)
    rw [this.1]
    exact Int.le_refl _
set_option maxRecDepth 20000 in
theorem lp4_X5_close {M1 : mm_M} {d : List Nat} {Q : mm_Q} {s : Int} (hs : 0 ≤ s ∧ s < 30) (hl : ∀ k, k < 3 → 0 ≤ M1 21 k ∧ M1 21 k ≤ 30) (hw : ∀ k, k < 3 → ∀ i : Nat, i < M1 21 k → 0 ≤ M1 20 (30 * k + i) ∧ M1 20 (30 * k + i) < 100) (hq : ∀ M', fX M1 M' → M' 17 = M1 17 → fr [9, 11, 13] (vX M1) (vX M') → (∀ k, k < 3 → ∀ i : Nat, i < M1 21 k → M' 20 (30 * k + i) = if s < M1 20 (30 * k + i) / 2 then M1 20 (30 * k + i) - 2 else M1 20 (30 * k + i)) → ∀ x2 x3, rr_X5_close Q 155 [some (mm_R 17), some (mm_I s), x2, x3] [] M' d 0) : ∀ (j k : Nat) (M : mm_M) (x3 : Option mm_V), k + j = 3 → fX M1 M → M 17 = M1 17 → M 21 = M1 21 → M 22 = M1 22 → fr [9, 11, 13] (vX M1) (vX M) → (∀ k', k' < k → ∀ i : Nat, i < M1 21 k' → M 20 (30 * k' + i) = if s < M1 20 (30 * k' + i) / 2 then M1 20 (30 * k' + i) - 2 else M1 20 (30 * k' + i)) → (∀ k', k ≤ k' → k' < 3 → ∀ i : Nat, i < 30 → M 20 (30 * k' + i) = M1 20 (30 * k' + i)) → rr_X5_close Q 99 [some (mm_R 17), some (mm_I s), some (mm_I k), x3] [] M d 0 := by
  intro j
  induction j with
  | zero =>
    intro k M x3 hk hx h17 h21 h22 hf h1 h2
    have e : k = 3 := by omega
    subst e
    obtain ⟨K, hK, hK2⟩ : ∃ K : Nat → mm_K, (∀ t ls st M d u, K t ls st M d u → rr_X5_close Q t ls st M d u) ∧ (∀ t ls st M d u, rr_X5_close Q t ls st M d u → K t ls st M d u) := ⟨rr_X5_close Q, fun _ _ _ _ _ _ h => h, fun _ _ _ _ _ _ h => h⟩
    have h9 := hK2 _ _ _ _ _ _ (hq M hx h17 hf h1 (some (mm_I (3 : Nat))) x3)
    refine mm_run_at (stop := [104, 155]) (S := K) kkX5_close 90 ?_ (fun _ _ _ _ _ _ _ h => hK _ _ _ _ _ _ h)
    repeat' (first | with_reducible assumption | with_reducible exact mm_i17 | with_reducible exact mm_i18 | with_reducible exact mm_i19 | with_reducible exact mm_i20 | with_reducible exact mm_i21 | with_reducible exact mm_i22 | ((with_reducible show mm_rv _ _ _ _ _); first | exact True.intro | exact mm_i17 | exact mm_i18 | exact mm_i19 | exact mm_i20 | exact mm_i21 | exact mm_i22) | ((with_reducible show mm_bool _ _); first | exact True.intro | exact Or.inl rfl | exact Or.inr rfl | (show (_ : Int) = 0 ∨ _ = 1)) | refine And.intro ?_ ?_ | intro _ | with_reducible exact True.intro | exact rfl | with_reducible exact Or.inl rfl | with_reducible exact Or.inr rfl | exact Nat.le_of_ble_eq_true rfl)
    all_goals (try simp (disch := omega) only [InI, Int.toNat_natCast, Int.tmod_eq_emod_of_nonneg, Int.tdiv_eq_ediv_of_nonneg, true_implies, true_or, or_true, mm_l18, mm_l19, mm_l20, mm_l21, mm_l22] at *)
    all_goals first | omega | exact h9 | skip
  | succ j ih =>
    intro k M x3 hk hx h17 h21 h22 hf h1 h2
    have hk3 : k < 3 := by omega
    have hlk := hl k hk3
    obtain ⟨n, hn⟩ := Int.eq_ofNat_of_zero_le hlk.1
    obtain ⟨K, hK, hK2⟩ : ∃ K : Nat → mm_K, (∀ t ls st M d u, K t ls st M d u → rr_X5_close Q t ls st M d u) ∧ (∀ t ls st M d u, rr_X5_close Q t ls st M d u → K t ls st M d u) := ⟨rr_X5_close Q, fun _ _ _ _ _ _ h => h, fun _ _ _ _ _ _ h => h⟩
    have k149 : ∀ M' x3, fX M M' → fr [8 + 2 * k + 1] (vX M) (vX M') → M' 17 = M 17 → M' 21 = M 21 → M' 22 = M 22 → (∀ i : Nat, i < n → M' 20 (30 * k + i) = if s < M 20 (30 * k + i) / 2 then M 20 (30 * k + i) - 2 else M 20 (30 * k + i)) → rr_X5_close Q 149 [some (mm_R 17), some (mm_I s), some (mm_I k), x3] [] M' d 0 := by
      intro M' x3 g1 g2 g17 g21 g22 g3
      have oth : ∀ k', k' < 3 → k' ≠ k → ∀ i, i < 30 → M' 20 (30 * k' + i) = M 20 (30 * k' + i) := fun k' a b i hi => by
        rw [← vX_i (M := M') (k := k') (by omega) hi, ← vX_i (M := M) (k := k') (by omega) hi, g2 (8 + 2 * k' + 1) (by simp; omega)]
      have h99 := hK2 _ _ _ _ _ _ (ih (k + 1) M' x3 (by omega) (hx.tr g1) (by rw [g17, h17]) (by rw [g21, h21]) (by rw [g22, h22]) (hf.tr (g2.mono (by simp; omega))) (fun k' a i hi => by
        by_cases e : k' = k
        · subst e
          rw [g3 i (by omega), h2 k' (Nat.le_refl _) hk3 i (by omega)]
        · have := hl k' (by omega)
          rw [oth k' (by omega) e i (by omega)]
          exact h1 k' (by omega) i hi) (fun k' a b i hi => by
        rw [oth k' b (by omega) i hi]
        exact h2 k' (by omega) b i hi))
      refine mm_run_at (stop := [99]) (S := K) kkX5_close 90 ?_ (fun _ _ _ _ _ _ _ h => hK _ _ _ _ _ _ h)
      repeat' (first | with_reducible assumption | with_reducible exact mm_i17 | with_reducible exact mm_i18 | with_reducible exact mm_i19 | with_reducible exact mm_i20 | with_reducible exact mm_i21 | with_reducible exact mm_i22 | ((with_reducible show mm_rv _ _ _ _ _); first | exact True.intro | exact mm_i17 | exact mm_i18 | exact mm_i19 | exact mm_i20 | exact mm_i21 | exact mm_i22) | ((with_reducible show mm_bool _ _); first | exact True.intro | exact Or.inl rfl | exact Or.inr rfl | (show (_ : Int) = 0 ∨ _ = 1)) | refine And.intro ?_ ?_ | intro _ | with_reducible exact True.intro | exact rfl | with_reducible exact Or.inl rfl | with_reducible exact Or.inr rfl | exact Nat.le_of_ble_eq_true rfl)
      all_goals (try simp (disch := omega) only [InI, Int.toNat_natCast, Int.tmod_eq_emod_of_nonneg, Int.tdiv_eq_ediv_of_nonneg, true_implies, true_or, or_true, mm_l18, mm_l19, mm_l20, mm_l21, mm_l22] at *)
      all_goals first | omega | exact h99 | skip
    have k106 := hK2 _ _ _ _ _ _ (lp3_X5_close (M0 := M) (d := d) (Q := Q) (s := s) (k := k) (n := n) hk3 hs (by rw [h21]; exact hn) (by omega) (fun i hi => by rw [h2 k (Nat.le_refl _) hk3 i (by omega)]; exact hw k hk3 i (by omega)) k149 n 0 M (by omega) fX.rf fr.rf rfl rfl rfl (fun x hx => by omega) (fun x _ _ => rfl))
    refine mm_run_at (stop := [106, 155]) (S := K) kkX5_close 90 ?_ (fun _ _ _ _ _ _ _ h => hK _ _ _ _ _ _ h)
    repeat' (first | with_reducible assumption | with_reducible exact mm_i17 | with_reducible exact mm_i18 | with_reducible exact mm_i19 | with_reducible exact mm_i20 | with_reducible exact mm_i21 | with_reducible exact mm_i22 | ((with_reducible show mm_rv _ _ _ _ _); first | exact True.intro | exact mm_i17 | exact mm_i18 | exact mm_i19 | exact mm_i20 | exact mm_i21 | exact mm_i22) | ((with_reducible show mm_bool _ _); first | exact True.intro | exact Or.inl rfl | exact Or.inr rfl | (show (_ : Int) = 0 ∨ _ = 1)) | refine And.intro ?_ ?_ | intro _ | with_reducible exact True.intro | exact rfl | with_reducible exact Or.inl rfl | with_reducible exact Or.inr rfl | exact Nat.le_of_ble_eq_true rfl)
    all_goals (try simp (disch := omega) only [InI, Int.toNat_natCast, Int.tmod_eq_emod_of_nonneg, Int.tdiv_eq_ediv_of_nonneg, true_implies, true_or, or_true, mm_l18, mm_l19, mm_l20, mm_l21, mm_l22] at *)
    all_goals first | omega | exact k106 | skip
set_option maxRecDepth 20000 in
theorem lp_X5_close {M : mm_M} {d : List Nat} {Q : mm_Q} {s : Int} (ha : xA M) (hs : 0 ≤ s ∧ s < M 17 1) (hq : ∀ M' r, xP M M' → M' 17 0 = M 17 0 → no9 (∀ w, isW3 w → wN (vX M) w s) (vX M) (vX M') r (r = vX M 2 4 - 1 ∧ ∃ V1, clsR (vX M) V1 s ∧ SE (cnF V1 r) (vX M')) → Q (.inl (some (mm_I r))) M' d) : ∀ (j k : Nat), k + j = 3 → (∀ k', k' < k → wN (vX M) (8 + 2 * k') s) → rr_X5_close Q 17 [some (mm_R 17), some (mm_I s), some (mm_I k), none] [] M d 0 := by
  have ht := ha.t
  have t1 := ht.1
  intro j
  induction j with
  | zero =>
    intro k hk hN
    have e : k = 3 := by omega
    subst e
    obtain ⟨n, hn⟩ := Int.eq_ofNat_of_zero_le (show 0 ≤ M 17 1 - 1 by omega)
    obtain ⟨q, rfl⟩ := Int.eq_ofNat_of_zero_le hs.1
    have hNw : ∀ w, isW3 w → wN (vX M) w q := by
      intro w hw
      rcases hw with rfl | rfl | rfl
      · exact hN 0 (by omega)
      · exact hN 1 (by omega)
      · exact hN 2 (by omega)
    have fin : ∀ M3, fX (mm_up M 17 1 (M 17 1 - 1)) M3 → M3 17 = (mm_up M 17 1 (M 17 1 - 1)) 17 → fr [3, 4, 9, 11, 13] (vX (mm_up M 17 1 (M 17 1 - 1))) (vX M3) → (∀ i : Nat, i < 30 → (0 ≤ M3 18 i ∧ M3 18 i < 10) ∧ (0 ≤ M3 19 i ∧ M3 19 i < 10)) → (∀ k, k < 3 → ∀ i : Nat, i < M 21 k → M3 20 (30 * k + i) = if (q : Int) < M 20 (30 * k + i) / 2 then M 20 (30 * k + i) - 2 else M 20 (30 * k + i)) → clI M M3 q n → xP M M3 ∧ M3 17 0 = M 17 0 ∧ M3 17 1 = M 17 1 - 1 ∧ ∀ N, N = mm_up (mm_up M3 17 5 0) 17 6 0 → clsR (vX M) (vX N) q := by
      intro M3 g1 g17 g2 g3 g4 g5
      have ev : vX (mm_up M 17 1 (M 17 1 - 1)) = mm_up (vX M) 2 4 (M 17 1 - 1) := vX_u1
      rw [ev] at g2
      have e2 : vX M3 2 = mm_up (vX M) 2 4 (M 17 1 - 1) 2 := g2 2 (by simp)
      have hfr : fr [2, 3, 4, 9, 11, 13] (vX M) (vX M3) := (fr.rf.up (by simp)).tr (g2.mono (by simp))
      have ht3 : tW (vX M3) := by
        obtain ⟨a, b, c, e, f⟩ := ha.1.1
        refine ⟨by rw [e2]; simp [mm_up]; omega, g3, by rw [e2]; simpa [mm_up] using c, by rw [e2]; simpa [mm_up] using e, by rw [e2]; simpa [mm_up] using f⟩
      have hren : ∀ w, isW3 w → renR (vX M) (vX M3) w q := by
        intro w hw
        obtain ⟨k, hk3, rfl⟩ : ∃ k, k < 3 ∧ w = 8 + 2 * k := by
          rcases hw with rfl | rfl | rfl
          · exact ⟨0, by omega, rfl⟩
          · exact ⟨1, by omega, rfl⟩
          · exact ⟨2, by omega, rfl⟩
        have ew := hfr (8 + 2 * k) (by simp; omega)
        have vl := (ha.v hk3).1
        refine ⟨by rw [ew], by rw [ew], fun i hi => ?_⟩
        rw [vX_n (by omega)] at hi
        rw [vX_i (by omega) (by omega), vX_i (by omega) (by omega)]
        exact g4 k hk3 i hi
      refine ⟨⟨(fX.rf.up (by omega)).tr g1, ren_cP (s := q) (n := M 17 1) ha.1 rfl hs hNw ht3 (by rw [e2]; simp [mm_up]) hren (hfr 16 (by simp)) (hfr 1 (by simp)) (cF.of hfr (by simp)), by rw [g17, mm_up_ob2 (by omega)]; exact ha.2⟩, by rw [g17, mm_up_ob2 (by omega)], by rw [g17]; simp [mm_up], fun N eN => ?_⟩
      have eN2 : vX N = endM (vX M3) := by rw [eN, vX_end]
      have eo : ∀ o, o ≠ 2 → vX N o = vX M3 o := fun o ho => by rw [eN2]; unfold endM; rw [mm_up_o _ ho, mm_up_o _ ho]
      refine ⟨.of (by rw [eo 1 (by omega)]; exact hfr 1 (by simp)), .of (by rw [eo 16 (by omega)]; exact hfr 16 (by simp)), by rw [eN2]; simp [endM, mm_up, e2]; rfl, by rw [eN2]; simp [endM, mm_up, e2], by rw [eN2]; simp [endM, mm_up], by rw [eN2]; simp [endM, mm_up], fun x hx => ?_, fun x hx hx2 => ?_, fun w hw => ?_⟩
      · rw [eo 3 (by omega), eo 4 (by omega)]
        exact g5.1 x (Or.inl (by omega))
      · rw [eo 3 (by omega), eo 4 (by omega)]
        exact g5.2 x (by omega) (by rw [vX_24] at hx2; omega)
      · have hl := isK_le hw.k
        have := hren w hw
        unfold renR at this ⊢
        rw [eo w (by omega), eo (w + 1) (by omega)]
        exact this
    have hb : ∀ i : Nat, i < 30 → (0 ≤ (mm_up M 17 1 (M 17 1 - 1)) 18 i ∧ (mm_up M 17 1 (M 17 1 - 1)) 18 i < 10) ∧ (0 ≤ (mm_up M 17 1 (M 17 1 - 1)) 19 i ∧ (mm_up M 17 1 (M 17 1 - 1)) 19 i < 10) := fun i hi => by
      rw [mm_up_o _ (by omega), mm_up_o _ (by omega)]
      exact ht.2.1 i hi
    have k155 : ∀ M3, (xP M M3 ∧ M3 17 0 = M 17 0 ∧ M3 17 1 = M 17 1 - 1 ∧ ∀ N, N = mm_up (mm_up M3 17 5 0) 17 6 0 → clsR (vX M) (vX N) q) → ∀ x2 x3, rr_X5_close Q 155 [some (mm_R 17), some (mm_I q), x2, x3] [] M3 d 0 := by
      intro M3 ⟨hP, h0, h1, hc⟩ x2 x3
      have q9 : ∀ N, N = mm_up (mm_up M3 17 5 0) 17 6 0 → Q (.inl (some (mm_I (N 17 1)))) (mm_up N 17 14 (N 17 14 + 1)) d := fun N eN => by
        have e1 : N 17 1 = M 17 1 - 1 := by rw [eN, mm_up_ob2 (by omega), mm_up_ob2 (by omega), h1]
        have e0 : N 17 0 = M 17 0 := by rw [eN, mm_up_ob2 (by omega), mm_up_ob2 (by omega), h0]
        refine hq _ _ (by rw [eN]; exact xP_ac (hP.tr (endX hP.a))) (by rw [mm_up_ob2 (by omega)]; exact e0) (no9.y hNw ⟨e1, vX N, hc N eN, SE.eq ?_⟩)
        rw [cX_n (r := N 17 1) (by omega)]
      clear hq
      obtain ⟨K, hK, hK2⟩ : ∃ K : Nat → mm_K, (∀ t ls st M d u, K t ls st M d u → rr_X5_close Q t ls st M d u) ∧ (∀ t ls st M d u, rr_X5_close Q t ls st M d u → K t ls st M d u) := ⟨rr_X5_close Q, fun _ _ _ _ _ _ h => h, fun _ _ _ _ _ _ h => h⟩
      refine mm_run_at (stop := []) (S := K) kkX5_close 90 ?_ (fun _ _ _ _ _ _ _ h => hK _ _ _ _ _ _ h)
      repeat' (first | with_reducible assumption | with_reducible exact mm_i17 | with_reducible exact mm_i18 | with_reducible exact mm_i19 | with_reducible exact mm_i20 | with_reducible exact mm_i21 | with_reducible exact mm_i22 | ((with_reducible show mm_rv _ _ _ _ _); first | exact True.intro | exact mm_i17 | exact mm_i18 | exact mm_i19 | exact mm_i20 | exact mm_i21 | exact mm_i22) | ((with_reducible show mm_bool _ _); first | exact True.intro | exact Or.inl rfl | exact Or.inr rfl | (show (_ : Int) = 0 ∨ _ = 1)) | refine And.intro ?_ ?_ | intro _ | with_reducible exact True.intro | exact rfl | with_reducible exact Or.inl rfl | with_reducible exact Or.inr rfl | exact Nat.le_of_ble_eq_true rfl)
      all_goals (try simp (disch := omega) only [InI, Int.toNat_natCast, Int.tmod_eq_emod_of_nonneg, Int.tdiv_eq_ediv_of_nonneg, true_implies, true_or, or_true, mm_l18, mm_l19, mm_l20, mm_l21, mm_l22] at *)
      all_goals first | omega | exact q9 _ rfl | skip
    have k97 : ∀ M' x3, fX (mm_up M 17 1 (M 17 1 - 1)) M' → fr [3, 4] (vX (mm_up M 17 1 (M 17 1 - 1))) (vX M') → M' 17 = (mm_up M 17 1 (M 17 1 - 1)) 17 → (∀ i : Nat, i < 30 → (0 ≤ M' 18 i ∧ M' 18 i < 10) ∧ (0 ≤ M' 19 i ∧ M' 19 i < 10)) → clI (mm_up M 17 1 (M 17 1 - 1)) M' q n → rr_X5_close Q 97 [some (mm_R 17), some (mm_I q), some (mm_I n), x3] [] M' d 0 := by
      intro M2 x3 g1 g2 g17 g3 g5
      have ev : vX (mm_up M 17 1 (M 17 1 - 1)) = mm_up (vX M) 2 4 (M 17 1 - 1) := vX_u1
      have wr : ∀ k, k < 3 → M2 21 k = M 21 k ∧ ∀ i, i < 30 → M2 20 (30 * k + i) = M 20 (30 * k + i) := fun k hk => by
        have a := g2 (8 + 2 * k) (by simp; omega)
        have b := g2 (8 + 2 * k + 1) (by simp; omega)
        rw [ev, mm_up_o _ (by omega)] at a b
        exact ⟨by rw [← vX_n (M := M2) (k := k) (by omega), a, vX_n (by omega)], fun i hi => by rw [← vX_i (M := M2) (k := k) (by omega) hi, b, vX_i (by omega) hi]⟩
      obtain ⟨K, hK, hK2⟩ : ∃ K : Nat → mm_K, (∀ t ls st M d u, K t ls st M d u → rr_X5_close Q t ls st M d u) ∧ (∀ t ls st M d u, rr_X5_close Q t ls st M d u → K t ls st M d u) := ⟨rr_X5_close Q, fun _ _ _ _ _ _ h => h, fun _ _ _ _ _ _ h => h⟩
      have k99 := hK2 _ _ _ _ _ _ (lp4_X5_close (M1 := M2) (d := d) (Q := Q) (s := q) (by omega) (fun k hk => by rw [(wr k hk).1]; exact (ha.v hk).1) (fun k hk i hi => by
        rw [(wr k hk).1] at hi
        have vl := (ha.v hk).1
        have := (ha.v hk).2.2 i hi
        rw [(wr k hk).2 i (by omega)]
        omega) (fun M3 f1 f17 f2 f3 x2 x3 => k155 M3 (fin M3 (g1.tr f1) (by rw [f17, g17]) ((g2.mono (by simp)).tr (f2.mono (by simp))) (fun i hi => by
          have r1 := f2 3 (by simp)
          have r2 := f2 4 (by simp)
          rw [vX_3, vX_3] at r1
          rw [vX_4, vX_4] at r2
          rw [r1, r2]
          exact g3 i hi) (fun k hk i hi => by
          have vl := (ha.v hk).1
          have := f3 k hk i (by rw [(wr k hk).1]; exact hi)
          rw [(wr k hk).2 i (by omega)] at this
          exact this) (by
          have r1 := f2 3 (by simp)
          have r2 := f2 4 (by simp)
          rw [vX_3, vX_3] at r1
          rw [vX_4, vX_4] at r2
          unfold clI at g5 ⊢
          rw [mm_up_170 (by omega), mm_up_170 (by omega)] at g5
          rw [r1, r2]
          exact g5)) x2 x3) 3 0 M2 x3 (by omega) fX.rf rfl rfl rfl fr.rf (fun k hk => by omega) (fun k _ _ i _ => rfl))
      refine mm_run_at (stop := [99]) (S := K) kkX5_close 90 ?_ (fun _ _ _ _ _ _ _ h => hK _ _ _ _ _ _ h)
      repeat' (first | with_reducible assumption | with_reducible exact mm_i17 | with_reducible exact mm_i18 | with_reducible exact mm_i19 | with_reducible exact mm_i20 | with_reducible exact mm_i21 | with_reducible exact mm_i22 | ((with_reducible show mm_rv _ _ _ _ _); first | exact True.intro | exact mm_i17 | exact mm_i18 | exact mm_i19 | exact mm_i20 | exact mm_i21 | exact mm_i22) | ((with_reducible show mm_bool _ _); first | exact True.intro | exact Or.inl rfl | exact Or.inr rfl | (show (_ : Int) = 0 ∨ _ = 1)) | refine And.intro ?_ ?_ | intro _ | with_reducible exact True.intro | exact rfl | with_reducible exact Or.inl rfl | with_reducible exact Or.inr rfl | exact Nat.le_of_ble_eq_true rfl)
      all_goals (try simp (disch := omega) only [InI, Int.toNat_natCast, Int.tmod_eq_emod_of_nonneg, Int.tdiv_eq_ediv_of_nonneg, true_implies, true_or, or_true, mm_l18, mm_l19, mm_l20, mm_l21, mm_l22] at *)
      all_goals first | omega | exact k99 | skip
    obtain ⟨K, hK, hK2⟩ : ∃ K : Nat → mm_K, (∀ t ls st M d u, K t ls st M d u → rr_X5_close Q t ls st M d u) ∧ (∀ t ls st M d u, rr_X5_close Q t ls st M d u → K t ls st M d u) := ⟨rr_X5_close Q, fun _ _ _ _ _ _ h => h, fun _ _ _ _ _ _ h => h⟩
    have k55 := hK2 _ _ _ _ _ _ (lp2_X5_close (M0 := mm_up M 17 1 (M 17 1 - 1)) (d := d) (Q := Q) (s := q) (n := n) (by omega) (by omega) hb (by simp [mm_up]; exact hn) k97 (n - q) q (mm_up M 17 1 (M 17 1 - 1)) none (by omega) fX.rf fr.rf rfl hb (Nat.le_refl _) ⟨fun _ _ => ⟨rfl, rfl⟩, fun x h1 h2 => by omega⟩)
    refine mm_run_at (stop := [22, 55]) (S := K) kkX5_close 90 ?_ (fun _ _ _ _ _ _ _ h => hK _ _ _ _ _ _ h)
    repeat' (first | with_reducible assumption | with_reducible exact mm_i17 | with_reducible exact mm_i18 | with_reducible exact mm_i19 | with_reducible exact mm_i20 | with_reducible exact mm_i21 | with_reducible exact mm_i22 | ((with_reducible show mm_rv _ _ _ _ _); first | exact True.intro | exact mm_i17 | exact mm_i18 | exact mm_i19 | exact mm_i20 | exact mm_i21 | exact mm_i22) | ((with_reducible show mm_bool _ _); first | exact True.intro | exact Or.inl rfl | exact Or.inr rfl | (show (_ : Int) = 0 ∨ _ = 1)) | refine And.intro ?_ ?_ | intro _ | with_reducible exact True.intro | exact rfl | with_reducible exact Or.inl rfl | with_reducible exact Or.inr rfl | exact Nat.le_of_ble_eq_true rfl)
    all_goals (try simp (disch := omega) only [InI, Int.toNat_natCast, Int.tmod_eq_emod_of_nonneg, Int.tdiv_eq_ediv_of_nonneg, true_implies, true_or, or_true, mm_l18, mm_l19, mm_l20, mm_l21, mm_l22] at *)
    all_goals first | omega | exact k55 | skip
  | succ j ih =>
    intro k hk hN
    have hk3 : k < 3 := by omega
    have hv := ha.v hk3
    have vl := hv.1
    have en := vX_n (M := M) (k := k) (by omega)
    have q9 : (¬ ∀ w, isW3 w → wN (vX M) w s) → Q (.inl (some (mm_I (-9)))) (mm_up M 17 15 (M 17 15 + 1)) d := fun h => hq _ (-9) (xA_u (x := M 17 15 + 1) ha) (mm_up_ob2 (by omega)) (no9.n h cX_9)
    obtain ⟨K, hK, hK2⟩ : ∃ K : Nat → mm_K, (∀ t ls st M d u, K t ls st M d u → rr_X5_close Q t ls st M d u) ∧ (∀ t ls st M d u, rr_X5_close Q t ls st M d u → K t ls st M d u) := ⟨rr_X5_close Q, fun _ _ _ _ _ _ h => h, fun _ _ _ _ _ _ h => h⟩
    have st : (∀ i : Nat, i < M 21 k → M 20 (30 * k + i) / 2 ≠ s) → K 17 [some (mm_R 17), some (mm_I s), some (mm_I ((k : Int) + 1)), none] [] M d 0 := fun h => hK2 _ _ _ _ _ _ (ih (k + 1) (by omega) (fun k' hk' => by
      by_cases e : k' = k
      · subst e
        intro i hi
        rw [en] at hi
        rw [vX_i (by omega) (by omega)]
        exact h i hi
      · exact hN k' (by omega)))
    have k28 : ∀ r, ((r = -1 ∧ ∀ i : Nat, i < M 21 k → M 20 (30 * k + i) / 2 ≠ s) ∨ (0 ≤ r ∧ r < M 21 k ∧ M 20 (30 * k + r.toNat) / 2 = s ∧ ∀ i : Nat, i < r → M 20 (30 * k + i) / 2 ≠ s)) → K 28 [some (mm_R 17), some (mm_I s), some (mm_I k), none] [mm_I r] M d 0 := by
      intro r hr
      refine hK2 _ _ _ _ _ _ ?_
      rcases hr with ⟨rfl, h⟩ | ⟨r1, r2, r3, -⟩
      · have st := st h
        clear hq ih
        refine mm_run_at (stop := [17, 32]) (S := K) kkX5_close 90 ?_ (fun _ _ _ _ _ _ _ h => hK _ _ _ _ _ _ h)
        repeat' (first | with_reducible assumption | with_reducible exact mm_i17 | with_reducible exact mm_i18 | with_reducible exact mm_i19 | with_reducible exact mm_i20 | with_reducible exact mm_i21 | with_reducible exact mm_i22 | ((with_reducible show mm_rv _ _ _ _ _); first | exact True.intro | exact mm_i17 | exact mm_i18 | exact mm_i19 | exact mm_i20 | exact mm_i21 | exact mm_i22) | ((with_reducible show mm_bool _ _); first | exact True.intro | exact Or.inl rfl | exact Or.inr rfl | (show (_ : Int) = 0 ∨ _ = 1)) | refine And.intro ?_ ?_ | intro _ | with_reducible exact True.intro | exact rfl | with_reducible exact Or.inl rfl | with_reducible exact Or.inr rfl | exact Nat.le_of_ble_eq_true rfl)
        all_goals (try simp (disch := omega) only [InI, Int.toNat_natCast, Int.tmod_eq_emod_of_nonneg, Int.tdiv_eq_ediv_of_nonneg, true_implies, true_or, or_true, mm_l18, mm_l19, mm_l20, mm_l21, mm_l22] at *)
        all_goals first | omega | exact st | skip
      · have q9 := q9 (fun h => h _ (isW3k hk3) r.toNat (by rw [en]; omega) (by rw [vX_i (by omega) (by omega)]; exact r3))
        clear hq ih
        refine mm_run_at (stop := [37]) (S := K) kkX5_close 90 ?_ (fun _ _ _ _ _ _ _ h => hK _ _ _ _ _ _ h)
        repeat' (first | with_reducible assumption | with_reducible exact mm_i17 | with_reducible exact mm_i18 | with_reducible exact mm_i19 | with_reducible exact mm_i20 | with_reducible exact mm_i21 | with_reducible exact mm_i22 | ((with_reducible show mm_rv _ _ _ _ _); first | exact True.intro | exact mm_i17 | exact mm_i18 | exact mm_i19 | exact mm_i20 | exact mm_i21 | exact mm_i22) | ((with_reducible show mm_bool _ _); first | exact True.intro | exact Or.inl rfl | exact Or.inr rfl | (show (_ : Int) = 0 ∨ _ = 1)) | refine And.intro ?_ ?_ | intro _ | with_reducible exact True.intro | exact rfl | with_reducible exact Or.inl rfl | with_reducible exact Or.inr rfl | exact Nat.le_of_ble_eq_true rfl)
        all_goals (try simp (disch := omega) only [InI, Int.toNat_natCast, Int.tmod_eq_emod_of_nonneg, Int.tdiv_eq_ediv_of_nonneg, true_implies, true_or, or_true, mm_l18, mm_l19, mm_l20, mm_l21, mm_l22] at *)
        all_goals first | omega | exact q9 | skip
    refine mm_run_at (stop := [28, 43]) (S := K) kkX5_close 90 ?_ (fun _ _ _ _ _ _ _ h => hK _ _ _ _ _ _ h)
    repeat' (first | with_reducible assumption | with_reducible exact mm_i17 | with_reducible exact mm_i18 | with_reducible exact mm_i19 | with_reducible exact mm_i20 | with_reducible exact mm_i21 | with_reducible exact mm_i22 | ((with_reducible show mm_rv _ _ _ _ _); first | exact True.intro | exact mm_i17 | exact mm_i18 | exact mm_i19 | exact mm_i20 | exact mm_i21 | exact mm_i22 | ((with_reducible show mV _ _); exact hv)) | ((with_reducible show mV _ _); exact hv) | ((with_reducible show mm_bool _ _); first | exact True.intro | exact Or.inl rfl | exact Or.inr rfl | (show (_ : Int) = 0 ∨ _ = 1)) | refine And.intro ?_ ?_ | intro _ | with_reducible exact True.intro | exact rfl | with_reducible exact Or.inl rfl | with_reducible exact Or.inr rfl | exact Nat.le_of_ble_eq_true rfl)
    all_goals (try simp (disch := omega) only [InI, Int.toNat_natCast, Int.tmod_eq_emod_of_nonneg, Int.tdiv_eq_ediv_of_nonneg, true_implies, true_or, or_true, mm_l18, mm_l19, mm_l20, mm_l21, mm_l22] at *)
    all_goals first | omega | exact k28 _ (by assumption) | skip
set_option maxRecDepth 20000 in
theorem rn_X5_close : mm_RN flX5 ct_X5_close mm_x0 [] 1 0 4 kdX5_close sp_X5_close := by
  intro av M d Q h
  unfold sp_X5_close at h
  split at h
  · rename_i o s
    obtain ⟨rfl, ha, h1, hq⟩ := h
    obtain ⟨K, hK, hK2⟩ : ∃ K : Nat → mm_K, (∀ t ls st M d u, K t ls st M d u → rr_X5_close Q t ls st M d u) ∧ (∀ t ls st M d u, rr_X5_close Q t ls st M d u → K t ls st M d u) := ⟨rr_X5_close Q, fun _ _ _ _ _ _ h => h, fun _ _ _ _ _ _ h => h⟩
    have q1 : ∀ v, v = 1 → ¬ (0 ≤ s ∧ s < M 17 1) → Q (.inl (some (mm_I 0))) (mm_up M 17 0 v) d := fun v hv hn => hq _ _ (xP_s ha) (xq1 hn hv)
    have k15 : ∀ v, v = 0 → (0 ≤ s ∧ s < M 17 1) → K 15 [some (mm_R 17), some (mm_I s), none, none] [] (mm_up M 17 0 v) d 0 := by
      intro v hv cs
      obtain ⟨M1, e0, ha1, hP1, e17, eo⟩ := xS (v := v) ha
      have e00 : M1 17 0 = 0 := by rw [← e0, hv]; exact x00
      have eV : vX M1 = vX M := by rw [← e0, vX_u0]
      rw [e0]
      have k17 := hK2 _ _ _ _ _ _ (lp_X5_close (d := d) (Q := Q) (s := s) ha1 (by rw [e17 1 (by omega)]; exact cs) (fun M' r h h0 h9 => hq M' r (hP1.tr h) (Or.inr ⟨cs, by rw [h0]; exact e00, by rw [eV] at h9; exact h9⟩)) 3 0 (by omega) (fun k hk => by omega))
      clear hq
      refine hK2 _ _ _ _ _ _ ?_
      refine mm_run_at (stop := [17]) (S := K) kkX5_close 90 ?_ (fun _ _ _ _ _ _ _ h => hK _ _ _ _ _ _ h)
      repeat' (first | with_reducible assumption | with_reducible exact mm_i17 | with_reducible exact mm_i18 | with_reducible exact mm_i19 | with_reducible exact mm_i20 | with_reducible exact mm_i21 | with_reducible exact mm_i22 | ((with_reducible show mm_rv _ _ _ _ _); first | exact True.intro | exact mm_i17 | exact mm_i18 | exact mm_i19 | exact mm_i20 | exact mm_i21 | exact mm_i22) | ((with_reducible show mm_bool _ _); first | exact True.intro | exact Or.inl rfl | exact Or.inr rfl | (show (_ : Int) = 0 ∨ _ = 1)) | refine And.intro ?_ ?_ | intro _ | with_reducible exact True.intro | exact rfl | with_reducible exact Or.inl rfl | with_reducible exact Or.inr rfl | exact Nat.le_of_ble_eq_true rfl)
      exact k17
    have ht := ha.t
    clear hq
    refine ⟨Nat.le_of_ble_eq_true rfl, ?_⟩
    refine mm_run_at (stop := [15]) (S := K) kkX5_close 90 ?_ (fun _ _ _ _ _ _ _ h => hK _ _ _ _ _ _ h)
    repeat' (first | with_reducible assumption | with_reducible exact mm_i17 | with_reducible exact mm_i18 | with_reducible exact mm_i19 | with_reducible exact mm_i20 | with_reducible exact mm_i21 | with_reducible exact mm_i22 | ((with_reducible show mm_rv _ _ _ _ _); first | exact True.intro | exact mm_i17 | exact mm_i18 | exact mm_i19 | exact mm_i20 | exact mm_i21 | exact mm_i22) | ((with_reducible show mm_bool _ _); first | exact True.intro | exact Or.inl rfl | exact Or.inr rfl | (show (_ : Int) = 0 ∨ _ = 1)) | refine And.intro ?_ ?_ | intro _ | with_reducible exact True.intro | exact rfl | with_reducible exact Or.inl rfl | with_reducible exact Or.inr rfl | exact Nat.le_of_ble_eq_true rfl)
    all_goals (try simp (disch := omega) only [InI, Int.toNat_natCast, Int.tmod_eq_emod_of_nonneg, Int.tdiv_eq_ediv_of_nonneg, true_implies, true_or, or_true, mm_l18, mm_l19, mm_l20, mm_l21, mm_l22] at *)
    all_goals first | omega | exact q1 _ (by omega) (by omega) | exact k15 _ (by omega) (by omega) | skip
  · exact h.elim
theorem me_X5_close {l : Launch} (hl : l.stackTraces = false) : mm_Met l yX5_close cX5_close 4 (some .int) [] 8 145 0 sp_X5_close := mm_mt hl rn_X5_close ⟨plX5, rfl⟩ kkX5_close rfl ⟨Nat.le_of_ble_eq_true rfl, Nat.le_of_ble_eq_true rfl⟩ flkX5 (fun _ h => nomatch h) (⟨mm_pe (me_X5_isNoStreet hl) mwX5_isNoStreet (mm_t6 150 rfl rfl) (Nat.le_of_ble_eq_true rfl) (Nat.le_of_ble_eq_true rfl), mm_pe (me_X5_start hl) mwX5_start (mm_t6 110 rfl rfl) (Nat.le_of_ble_eq_true rfl) (Nat.le_of_ble_eq_true rfl), mm_pe (me_X5_placeOf hl) mwX5_placeOf (mm_t6 154 rfl rfl) (Nat.le_of_ble_eq_true rfl) (Nat.le_of_ble_eq_true rfl), mm_pe (me_X5_cannot hl) mwX5_cannot (mm_t6 118 rfl rfl) (Nat.le_of_ble_eq_true rfl) (Nat.le_of_ble_eq_true rfl), mm_pe (me_X5_stepOf hl) mwX5_stepOf (mm_t6 158 rfl rfl) (Nat.le_of_ble_eq_true rfl) (Nat.le_of_ble_eq_true rfl), mm_pe (me_X5_endWords hl) mwX5_endWords (mm_t6 126 rfl rfl) (Nat.le_of_ble_eq_true rfl) (Nat.le_of_ble_eq_true rfl), mm_pe (me_X5_act hl) mwX5_act (mm_t6 130 rfl rfl) (Nat.le_of_ble_eq_true rfl) (Nat.le_of_ble_eq_true rfl), trivial⟩) (mm_xe0 _) n9X5

