abbrev xIn : Type := Instr × (Nat × Nat × Nat × Nat × Nat) × Nat × List Nat
set_option maxRecDepth 100000 in
def xmi : List (MethodName × ByteArray × Nat × Option FieldType × List (Nat × Nat × Nat × Nat)) := [
  (yX0_cross, prog_2_method_2_code, 3, (Option.some FieldType.int), []),
  (yX0_toAsh, prog_2_method_3_code, 3, (Option.some FieldType.int), []),
  (yX0_toBirch, prog_2_method_4_code, 2, (Option.some FieldType.int), []),
  (yX0_toCedar, prog_2_method_5_code, 1, (Option.some FieldType.int), []),
  (yX0_isWhole, prog_2_method_6_code, 3, (Option.some FieldType.boolean), []),
  (yX1_init, prog_3_method_1_code, 3, (Option.none : Option FieldType), []),
  (yX1_begin, prog_3_method_2_code, 9, (Option.none : Option FieldType), []),
  (yX1_isBehindLastCode, prog_3_method_3_code, 1, (Option.some FieldType.boolean), []),
  (yX2_init, prog_4_method_1_code, 1, (Option.none : Option FieldType), []),
  (yX2_append, prog_4_method_2_code, 4, (Option.some FieldType.int), []),
  (yX2_hasPlace, prog_4_method_3_code, 2, (Option.some FieldType.boolean), []),
  (yX2_takes, prog_4_method_4_code, 4, (Option.some FieldType.boolean), []),
  (yX3_init, prog_5_method_1_code, 2, (Option.none : Option FieldType), []),
  (yX3_globalOf, prog_5_method_2_code, 3, (Option.some (FieldType.object "PolyglotPier$Value")), []),
  (yX3_storeGlobal, prog_5_method_3_code, 4, (Option.none : Option FieldType), []),
  (yX3_storeField, prog_5_method_4_code, 4, (Option.none : Option FieldType), []),
  (yX3_noteProxy, prog_5_method_5_code, 2, (Option.none : Option FieldType), []),
  (yX3_newThing, prog_5_method_6_code, 6, (Option.some (FieldType.object "PolyglotPier$Thing")), []),
  (yX3_find, prog_5_method_7_code, 6, (Option.some (FieldType.object "PolyglotPier$Thing")), []),
  (yX3_thingsOf, prog_5_method_8_code, 7, (Option.some FieldType.int), []),
  (yX3_tally, prog_5_method_9_code, 5, (Option.none : Option FieldType), []),
  (yX3_addFieldsInAsh, prog_5_method_10_code, 6, (Option.none : Option FieldType), []),
  (yX3_addInAsh, prog_5_method_11_code, 2, (Option.none : Option FieldType), []),
  (yX3_settle, prog_5_method_12_code, 8, (Option.some FieldType.int), []),
  (yX3_free, prog_5_method_13_code, 2, (Option.none : Option FieldType), []),
  (yX3_freeUnreached, prog_5_method_14_code, 8, (Option.some FieldType.int), []),
  (yX3_reachRoots, prog_5_method_15_code, 7, (Option.none : Option FieldType), []),
  (yX3_reach, prog_5_method_16_code, 3, (Option.none : Option FieldType), []),
  (yX3_reachThing, prog_5_method_17_code, 2, (Option.none : Option FieldType), []),
  (yX3_renewProxies, prog_5_method_18_code, 5, (Option.none : Option FieldType), []),
  (yX3_noteFieldProxies, prog_5_method_19_code, 5, (Option.none : Option FieldType), []),
  (yX3_holdsTogether, prog_5_method_20_code, 5, (Option.some FieldType.boolean), []),
  (yX3_isSoundThing, prog_5_method_21_code, 5, (Option.some FieldType.boolean), []),
  (yX3_isWhereItRefers, prog_5_method_22_code, 1, (Option.some FieldType.boolean), []),
  (yX4_init, prog_6_method_1_code, 3, (Option.none : Option FieldType), []),
  (yX4_newFunction, prog_6_method_2_code, 4, (Option.some FieldType.int), []),
  (yX4_hasResult, prog_6_method_3_code, 1, (Option.some FieldType.boolean), []),
  (yX4_begin, prog_6_method_4_code, 6, (Option.none : Option FieldType), []),
  (yX4_advance, prog_6_method_5_code, 5, (Option.none : Option FieldType), []),
  (yX4_faultAhead, prog_6_method_6_code, 4, (Option.some FieldType.int), []),
  (yX4_isMove, prog_6_method_7_code, 1, (Option.some FieldType.boolean), []),
  (yX4_doCode, prog_6_method_8_code, 5, (Option.some FieldType.int), []),
  (yX4_moveOn, prog_6_method_9_code, 4, (Option.some FieldType.int), []),
  (yX4_isNotThere, prog_6_method_10_code, 5, (Option.some FieldType.boolean), []),
  (yX4_popsOf, prog_6_method_11_code, 3, (Option.some FieldType.int), []),
  (yX4_crossInRun, prog_6_method_12_code, 4, (Option.some FieldType.int), []),
  (yX4_combine, prog_6_method_13_code, 7, (Option.some FieldType.int), []),
  (yX4_pushNewThing, prog_6_method_14_code, 3, (Option.some FieldType.int), []),
  (yX4_readField, prog_6_method_15_code, 6, (Option.some FieldType.int), []),
  (yX4_writeField, prog_6_method_16_code, 6, (Option.some FieldType.int), []),
  (yX4_enter, prog_6_method_17_code, 8, (Option.some FieldType.int), []),
  (yX4_endCall, prog_6_method_18_code, 4, (Option.some FieldType.int), []),
  (yX4_escape, prog_6_method_19_code, 3, (Option.some FieldType.int), []),
  (yX4_levelWithin, prog_6_method_20_code, 4, (Option.some FieldType.int), []),
  (yX4_goOn, prog_6_method_21_code, 4, (Option.none : Option FieldType), []),
  (yX4_raise, prog_6_method_22_code, 6, (Option.none : Option FieldType), []),
  (yX4_beginThrowAt, prog_6_method_23_code, 3, (Option.none : Option FieldType), []),
  (yX5_init, prog_7_method_1_code, 2, (Option.none : Option FieldType), []),
  (yX5_push, prog_7_method_2_code, 1, (Option.some (FieldType.object "PolyglotPier$Value")), []),
  (yX5_pop, prog_7_method_3_code, 1, (Option.some (FieldType.object "PolyglotPier$Value")), []),
  (yX5_under, prog_7_method_4_code, 3, (Option.some (FieldType.object "PolyglotPier$Value")), []),
  (yX6_apply, prog_8_method_2_code, 5, (Option.some FieldType.int), []),
  (yX6_ofWholes, prog_8_method_3_code, 5, (Option.some FieldType.long), []),
  (yX6_applyToReals, prog_8_method_4_code, 7, (Option.none : Option FieldType), []),
  (yX6_isNoNumber, prog_8_method_5_code, 11, (Option.some FieldType.boolean), []),
  (yX7_init, prog_9_method_1_code, 2, (Option.none : Option FieldType), []),
  (yX7_begin, prog_9_method_2_code, 4, (Option.none : Option FieldType), []),
  (yX7_isOf, prog_9_method_3_code, 2, (Option.some FieldType.boolean), []),
  (yX7_ownCount, prog_9_method_4_code, 1, (Option.some FieldType.int), []),
  (yX7_hasProxyOrHandle, prog_9_method_5_code, 1, (Option.some FieldType.boolean), []),
  (yX8_init, prog_10_method_1_code, 1, (Option.none : Option FieldType), []),
  (yX8_become, prog_10_method_2_code, 2, (Option.none : Option FieldType), []),
  (yX8_becomeReal, prog_10_method_3_code, 3, (Option.none : Option FieldType), []),
  (yX8_becomeStrange, prog_10_method_4_code, 1, (Option.none : Option FieldType), []),
  (yX8_becomeWhole, prog_10_method_5_code, 4, (Option.none : Option FieldType), []),
  (yX8_becomeNumber, prog_10_method_6_code, 3, (Option.none : Option FieldType), []),
  (yX8_becomeNothing, prog_10_method_7_code, 2, (Option.none : Option FieldType), []),
  (yX8_becomeEscape, prog_10_method_8_code, 4, (Option.none : Option FieldType), []),
  (yX8_becomeReference, prog_10_method_9_code, 2, (Option.none : Option FieldType), []),
  (yX8_isNumber, prog_10_method_10_code, 1, (Option.some FieldType.boolean), []),
  (yX8_isNothing, prog_10_method_11_code, 1, (Option.some FieldType.boolean), []),
  (yX8_isReference, prog_10_method_12_code, 1, (Option.some FieldType.boolean), []),
  (yX8_isWholeOrReference, prog_10_method_13_code, 1, (Option.some FieldType.boolean), []),
  (yX8_isZeroOrNothing, prog_10_method_14_code, 1, (Option.some FieldType.boolean), []),
  (yX8_asDouble, prog_10_method_15_code, 1, (Option.some FieldType.double), []),
  (yX8_told, prog_10_method_16_code, 3, (Option.some FieldType.double), []),
  (yX8_isSameAs, prog_10_method_17_code, 3, (Option.some FieldType.boolean), []),
  (yX8_isSameNumber, prog_10_method_18_code, 2, (Option.some FieldType.boolean), []),
  (yX8_isLessThan, prog_10_method_19_code, 2, (Option.some FieldType.boolean), []),
  (yX9_init, prog_1_method_1_code, 1, (Option.none : Option FieldType), []),
  (yX9_addFunction, prog_1_method_2_code, 3, (Option.some FieldType.int), []),
  (yX9_code, prog_1_method_3_code, 5, (Option.some FieldType.int), []),
  (yX9_guard, prog_1_method_4_code, 9, (Option.some FieldType.boolean), []),
  (yX9_run, prog_1_method_5_code, 5, (Option.some FieldType.char), []),
  (yX9_resultKind, prog_1_method_6_code, 1, (Option.some FieldType.char), []),
  (yX9_resultNumber, prog_1_method_7_code, 1, (Option.some FieldType.double), []),
  (yX9_resultWhole, prog_1_method_8_code, 1, (Option.some FieldType.long), []),
  (yX9_trace, prog_1_method_9_code, 1, (Option.some FieldType.int), []),
  (yX9_traceAt, prog_1_method_10_code, 2, (Option.some FieldType.int), []),
  (yX9_thrownIn, prog_1_method_11_code, 1, (Option.some FieldType.int), []),
  (yX9_set, prog_1_method_12_code, 4, (Option.some FieldType.int), []),
  (yX9_make, prog_1_method_13_code, 4, (Option.some FieldType.int), []),
  (yX9_pass, prog_1_method_14_code, 6, (Option.some FieldType.int), []),
  (yX9_put, prog_1_method_15_code, 7, (Option.some FieldType.int), []),
  (yX9_get, prog_1_method_16_code, 7, (Option.some FieldType.int), []),
  (yX9_kindOf, prog_1_method_17_code, 3, (Option.some FieldType.char), []),
  (yX9_numberOf, prog_1_method_18_code, 4, (Option.some FieldType.double), []),
  (yX9_equal, prog_1_method_19_code, 4, (Option.some FieldType.boolean), []),
  (yX9_made, prog_1_method_20_code, 1, (Option.some FieldType.int), []),
  (yX9_things, prog_1_method_21_code, 2, (Option.some FieldType.int), []),
  (yX9_isThere, prog_1_method_22_code, 2, (Option.some FieldType.boolean), []),
  (yX9_count, prog_1_method_23_code, 3, (Option.some FieldType.int), []),
  (yX9_isHeld, prog_1_method_24_code, 3, (Option.some FieldType.boolean), []),
  (yX9_collect, prog_1_method_25_code, 1, (Option.some FieldType.int), []),
  (yX9_collectRings, prog_1_method_26_code, 1, (Option.some FieldType.int), []),
  (yX9_freed, prog_1_method_27_code, 1, (Option.some FieldType.int), []),
  (yX9_crossings, prog_1_method_28_code, 1, (Option.some FieldType.long), []),
  (yX9_isSound, prog_1_method_30_code, 1, (Option.some FieldType.boolean), []),
  (yX9_isWithin, prog_1_method_31_code, 2, (Option.some FieldType.boolean), []),
  (yX9_nothingOf, prog_1_method_32_code, 1, (Option.some FieldType.char), []),
  (yX9_requireIndex, prog_1_method_33_code, 2, (Option.none : Option FieldType), []),
  (yX9_requireGlobal, prog_1_method_34_code, 2, (Option.none : Option FieldType), []),
  (yX9_requireFunction, prog_1_method_35_code, 2, (Option.none : Option FieldType), []),
  (yX9_requireThrow, prog_1_method_36_code, 1, (Option.none : Option FieldType), []),
  (yX9_referredThing, prog_1_method_37_code, 4, (Option.some (FieldType.object "PolyglotPier$Thing")), []),
  (yX9_thingThere, prog_1_method_38_code, 3, (Option.some (FieldType.object "PolyglotPier$Thing")), []),
  (yL_cell, method_2_code, 2, (Option.some FieldType.int), []),
  (yL_low, method_3_code, 2, (Option.some FieldType.int), []),
  (yL_call, method_4_code, 7, (Option.some FieldType.int), [((0), (114), (333), (98)), ((115), (124), (333), (98)), ((125), (159), (333), (98)), ((160), (168), (333), (98)), ((169), (173), (333), (98)), ((174), (179), (333), (98)), ((180), (184), (333), (98)), ((185), (190), (333), (98)), ((191), (195), (333), (98)), ((196), (204), (333), (98)), ((205), (211), (333), (98)), ((212), (222), (333), (98)), ((223), (233), (333), (98)), ((234), (244), (333), (98)), ((245), (251), (333), (98)), ((252), (268), (333), (98)), ((269), (274), (333), (98)), ((275), (288), (333), (98)), ((289), (294), (333), (98)), ((295), (308), (333), (98)), ((309), (313), (333), (98)), ((314), (318), (333), (98)), ((319), (326), (333), (98)), ((327), (332), (333), (98)), ((0), (114), (339), (100)), ((115), (124), (339), (100)), ((125), (159), (339), (100)), ((160), (168), (339), (100)), ((169), (173), (339), (100)), ((174), (179), (339), (100)), ((180), (184), (339), (100)), ((185), (190), (339), (100)), ((191), (195), (339), (100)), ((196), (204), (339), (100)), ((205), (211), (339), (100)), ((212), (222), (339), (100)), ((223), (233), (339), (100)), ((234), (244), (339), (100)), ((245), (251), (339), (100)), ((252), (268), (339), (100)), ((269), (274), (339), (100)), ((275), (288), (339), (100)), ((289), (294), (339), (100)), ((295), (308), (339), (100)), ((309), (313), (339), (100)), ((314), (318), (339), (100)), ((319), (326), (339), (100)), ((327), (332), (339), (100)), ((0), (114), (345), (102)), ((115), (124), (345), (102)), ((125), (159), (345), (102)), ((160), (168), (345), (102)), ((169), (173), (345), (102)), ((174), (179), (345), (102)), ((180), (184), (345), (102)), ((185), (190), (345), (102)), ((191), (195), (345), (102)), ((196), (204), (345), (102)), ((205), (211), (345), (102)), ((212), (222), (345), (102)), ((223), (233), (345), (102)), ((234), (244), (345), (102)), ((245), (251), (345), (102)), ((252), (268), (345), (102)), ((269), (274), (345), (102)), ((275), (288), (345), (102)), ((289), (294), (345), (102)), ((295), (308), (345), (102)), ((309), (313), (345), (102)), ((314), (318), (345), (102)), ((319), (326), (345), (102)), ((327), (332), (345), (102)), ((0), (114), (351), (104)), ((115), (124), (351), (104)), ((125), (159), (351), (104)), ((160), (168), (351), (104)), ((169), (173), (351), (104)), ((174), (179), (351), (104)), ((180), (184), (351), (104)), ((185), (190), (351), (104)), ((191), (195), (351), (104)), ((196), (204), (351), (104)), ((205), (211), (351), (104)), ((212), (222), (351), (104)), ((223), (233), (351), (104)), ((234), (244), (351), (104)), ((245), (251), (351), (104)), ((252), (268), (351), (104)), ((269), (274), (351), (104)), ((275), (288), (351), (104)), ((289), (294), (351), (104)), ((295), (308), (351), (104)), ((309), (313), (351), (104)), ((314), (318), (351), (104)), ((319), (326), (351), (104)), ((327), (332), (351), (104)), ((0), (114), (357), (106)), ((115), (124), (357), (106)), ((125), (159), (357), (106)), ((160), (168), (357), (106)), ((169), (173), (357), (106)), ((174), (179), (357), (106)), ((180), (184), (357), (106)), ((185), (190), (357), (106)), ((191), (195), (357), (106)), ((196), (204), (357), (106)), ((205), (211), (357), (106)), ((212), (222), (357), (106)), ((223), (233), (357), (106)), ((234), (244), (357), (106)), ((245), (251), (357), (106)), ((252), (268), (357), (106)), ((269), (274), (357), (106)), ((275), (288), (357), (106)), ((289), (294), (357), (106)), ((295), (308), (357), (106)), ((309), (313), (357), (106)), ((314), (318), (357), (106)), ((319), (326), (357), (106)), ((327), (332), (357), (106))]),
  (yL_state, method_5_code, 4, (Option.some FieldType.long), []),
  (yL_sound, method_6_code, 3, (Option.some FieldType.boolean), []),
  (yL_law, code, 17, some FieldType.boolean, [])]
def xmp : List Nat := [682, 690, 695, 705, 698, 258, 643, 665, 212, 626, 721, 878, 72, 781, 785, 825, 790, 802, 1032, 1024, 886, 896, 889, 882, 904, 1059, 1063, 1067, 1071, 1075, 1078, 1114, 1120, 1117, 66, 509, 912, 639, 661, 713, 729, 775, 733, 717, 726, 679, 829, 798, 816, 821, 750, 671, 763, 767, 771, 870, 874, 192, 709, 737, 754, 849, 865, 852, 856, 129, 806, 893, 900, 1051, 81, 675, 653, 861, 657, 649, 125, 759, 812, 746, 686, 794, 936, 741, 842, 1093, 834, 838, 846, 58, 470, 513, 630, 635, 908, 1097, 932, 941, 950, 954, 958, 967, 974, 981, 1007, 1011, 1087, 1015, 364, 1020, 1028, 1036, 1047, 1055, 1083, 368, 372, 1110, 473, 121, 520, 961, 517, 945, 985, 1040, 375, 379, 383, 1101, 1106]
set_option maxRecDepth 100000 in
def xi0 : List (Option xIn) := [none]
set_option maxRecDepth 100000 in
def xi1 : List (Option xIn) := [none]
set_option maxRecDepth 100000 in
def xi2 : List (Option xIn) := [none]
set_option maxRecDepth 100000 in
def xi3 : List (Option xIn) := [none]
set_option maxRecDepth 100000 in
def xi4 : List (Option xIn) := [none]
set_option maxRecDepth 100000 in
def xi5 : List (Option xIn) := [some (.aload_n 0, (0, 1, 0, 0, 0), 0, []), some (.dup, (32, 1, 0, 0, 0), 0, []), none, none, some (.goto (Int.negSucc 20), (40, 3, 19, 0, 0), 0, []), some (.aload_n 0, (24, 1, 0, 0, 0), 0, []), none, some (.aload_n 0, (4, 1, 0, 0, 0), 0, []), some (.aastore, (36, 1, 0, 0, 0), 0, []), some (.iconst (Int.ofNat 4), (20, 1, 0, 0, 0), 0, []), none, some (.aload_n 0, (12, 1, 0, 0, 0), 0, []), none, some (.iload_n 2, (28, 1, 0, 0, 0), 0, []), none, none, some (.istore_n 2, (18, 1, 0, 0, 0), 0, []), none, none, some (.anewarray 9, (6, 3, 5, 0, 0), 0, [260]), none, none, some (.putfield 17, (14, 3, 0, 0, 5), 0, [262]), none, none, some (.invokespecial 3, (1, 3, 0, 9, 0), 0, [259, 60, 61]), some (.invokespecial 21, (33, 3, 70, 1, 0), 1, [261, 80, 32]), some (.iconst (Int.ofNat 0), (17, 1, 0, 0, 0), 0, []), none, some (.putfield 11, (9, 3, 0, 6, 5), 0, [273]), none, some (.getfield 11, (25, 3, 0, 6, 5), 0, [273]), none, some (.iconst (Int.ofNat 4), (5, 1, 0, 0, 0), 0, []), some (.iinc 2 (Int.ofNat 1), (37, 3, 0, 0, 0), 0, []), some (.if_icmp .ge (Int.ofNat 22), (21, 3, 43, 0, 0), 0, []), none, some (.aload_n 1, (13, 1, 0, 0, 0), 0, []), none, some (.new 9, (29, 3, 6, 6, 0), 0, [260, 78, 32]), none, none, some (.iload_n 2, (19, 1, 0, 0, 0), 0, []), none, none, some (.return_, (43, 1, 0, 0, 0), 0, []), none, none]
set_option maxRecDepth 100000 in
def xi6 : List (Option xIn) := [none]
set_option maxRecDepth 100000 in
def xi7 : List (Option xIn) := [none]
set_option maxRecDepth 100000 in
def xi8 : List (Option xIn) := [some (.aload_n 0, (0, 1, 0, 0, 0), 0, []), none, none, some (.aload_n 0, (4, 1, 0, 0, 0), 0, []), some (.aload_n 0, (20, 1, 0, 0, 0), 0, []), some (.aload_n 0, (12, 1, 0, 0, 0), 0, []), none, none, none, some (.putfield 19, (22, 3, 1, 7, 0), 0, [229]), none, some (.invokespecial 3, (1, 3, 0, 9, 0), 0, [213, 60, 61]), some (.putfield 15, (17, 3, 1, 3, 5), 0, [220]), some (.putfield 9, (9, 3, 1, 2, 5), 0, [218]), some (.return_, (25, 1, 0, 0, 0), 0, []), some (.bipush (Int.ofNat 20), (5, 2, 0, 0, 0), 0, []), some (.iconst (Int.negSucc 0), (21, 1, 0, 0, 0), 0, []), some (.bipush (Int.ofNat 20), (13, 2, 0, 0, 0), 0, []), none, none, some (.newarray .char, (7, 2, 1, 0, 0), 0, [254]), none, some (.newarray .int, (15, 2, 0, 0, 0), 0, [253]), none]
set_option maxRecDepth 100000 in
def xi9 : List (Option xIn) := [none]
set_option maxRecDepth 100000 in
def xi10 : List (Option xIn) := [none]
set_option maxRecDepth 100000 in
def xi11 : List (Option xIn) := [none]
set_option maxRecDepth 100000 in
def xi12 : List (Option xIn) := [some (.aload_n 0, (0, 1, 0, 0, 0), 0, []), none, some (.istore_n 1, (32, 1, 0, 0, 0), 0, []), none, some (.anewarray 17, (16, 3, 6, 0, 0), 0, [76]), none, some (.invokespecial 26, (48, 3, 70, 1, 0), 1, [79, 80, 32]), none, none, some (.getfield 11, (40, 3, 2, 0, 5), 0, [163]), none, none, some (.iload_n 1, (56, 1, 0, 0, 0), 0, []), none, some (.aload_n 0, (4, 1, 0, 0, 0), 0, []), some (.iinc 1 (Int.ofNat 1), (68, 3, 0, 0, 0), 0, []), some (.if_icmp .ge (Int.ofNat 38), (36, 3, 74, 0, 0), 0, []), none, none, some (.aload_n 0, (52, 1, 0, 0, 0), 0, []), none, none, some (.iload_n 1, (76, 1, 0, 0, 0), 0, []), some (.new 9, (44, 3, 6, 6, 0), 0, [74, 78, 32]), none, some (.putfield 23, (28, 3, 2, 2, 5), 0, [165]), none, none, none, some (.bipush (Int.ofNat 24), (34, 2, 0, 0, 0), 0, []), some (.goto (Int.negSucc 21), (98, 3, 76, 0, 0), 0, []), none, some (.aload_n 0, (82, 1, 0, 0, 0), 0, []), none, some (.putfield 11, (10, 3, 2, 0, 5), 0, [163]), some (.iconst (Int.ofNat 0), (74, 1, 0, 0, 0), 0, []), none, none, some (.dup, (90, 1, 0, 0, 0), 0, []), some (.iload_n 1, (58, 1, 0, 0, 0), 0, []), none, none, some (.aload_n 0, (22, 1, 0, 0, 0), 0, []), some (.iload_n 1, (86, 1, 0, 0, 0), 0, []), none, some (.bipush (Int.ofNat 60), (14, 2, 0, 0, 0), 0, []), none, none, none, some (.aastore, (94, 1, 0, 0, 0), 0, []), some (.invokestatic 27, (62, 3, 119, 0, 0), 1, [119, 120, 29]), none, some (.invokespecial 3, (1, 3, 0, 9, 0), 0, [73, 60, 61]), some (.invokevirtual 31, (65, 3, 76, 0, 6), 0, [122, 123, 124, 32]), some (.iload_n 1, (33, 1, 0, 0, 0), 0, []), none, none, none, some (.anewarray 17, (25, 3, 6, 0, 0), 0, [76]), none, some (.aaload, (57, 1, 0, 0, 0), 0, []), none, some (.bipush (Int.ofNat 24), (5, 2, 0, 0, 0), 0, []), none, none, some (.return_, (101, 1, 0, 0, 0), 0, []), none, some (.getfield 11, (53, 3, 2, 0, 5), 0, [163]), none, some (.aload_n 0, (13, 1, 0, 0, 0), 0, []), some (.bipush (Int.ofNat 60), (77, 2, 0, 0, 0), 0, []), none, none, some (.idiv, (61, 1, 0, 0, 0), 0, []), none, none, some (.putfield 19, (19, 3, 2, 1, 5), 0, [164]), some (.getfield 19, (83, 3, 2, 1, 5), 0, [164]), some (.aastore, (51, 1, 0, 0, 0), 0, []), none, none, some (.istore_n 1, (75, 1, 0, 0, 0), 0, []), some (.iload_n 1, (43, 1, 0, 0, 0), 0, []), none, none, some (.invokespecial 35, (91, 3, 65, 1, 0), 0, [127, 128, 33]), some (.bipush (Int.ofNat 8), (59, 2, 0, 0, 0), 0, []), none, some (.anewarray 9, (7, 3, 5, 0, 0), 0, [74]), some (.goto (Int.negSucc 37), (71, 3, 33, 0, 0), 0, []), some (.aload_n 0, (39, 1, 0, 0, 0), 0, []), none, some (.bipush (Int.ofNat 60), (23, 2, 0, 0, 0), 0, []), some (.new 17, (87, 3, 5, 6, 0), 0, [76, 126, 33]), none, none, some (.if_icmp .ge (Int.ofNat 22), (79, 3, 101, 0, 0), 0, []), some (.dup, (47, 1, 0, 0, 0), 0, []), none, some (.iconst (Int.ofNat 0), (31, 1, 0, 0, 0), 0, []), some (.iinc 1 (Int.ofNat 1), (95, 3, 0, 0, 0), 0, []), none]
set_option maxRecDepth 100000 in
def xi13 : List (Option xIn) := [none]
set_option maxRecDepth 100000 in
def xi14 : List (Option xIn) := [none]
set_option maxRecDepth 100000 in
def xi15 : List (Option xIn) := [none]
set_option maxRecDepth 100000 in
def xi16 : List (Option xIn) := [none]
set_option maxRecDepth 100000 in
def xi17 : List (Option xIn) := [none]
set_option maxRecDepth 100000 in
def xi18 : List (Option xIn) := [none]
set_option maxRecDepth 100000 in
def xi19 : List (Option xIn) := [none]
set_option maxRecDepth 100000 in
def xi20 : List (Option xIn) := [none]
set_option maxRecDepth 100000 in
def xi21 : List (Option xIn) := [none]
set_option maxRecDepth 100000 in
def xi22 : List (Option xIn) := [none]
set_option maxRecDepth 100000 in
def xi23 : List (Option xIn) := [none]
set_option maxRecDepth 100000 in
def xi24 : List (Option xIn) := [none]
set_option maxRecDepth 100000 in
def xi25 : List (Option xIn) := [none]
set_option maxRecDepth 100000 in
def xi26 : List (Option xIn) := [none]
set_option maxRecDepth 100000 in
def xi27 : List (Option xIn) := [none]
set_option maxRecDepth 100000 in
def xi28 : List (Option xIn) := [none]
set_option maxRecDepth 100000 in
def xi29 : List (Option xIn) := [none]
set_option maxRecDepth 100000 in
def xi30 : List (Option xIn) := [none]
set_option maxRecDepth 100000 in
def xi31 : List (Option xIn) := [none]
set_option maxRecDepth 100000 in
def xi32 : List (Option xIn) := [none]
set_option maxRecDepth 100000 in
def xi33 : List (Option xIn) := [none]
set_option maxRecDepth 100000 in
def xi34 : List (Option xIn) := [some (.aload_n 0, (0, 1, 0, 0, 0), 0, []), some (.iload_n 2, (128, 1, 0, 0, 0), 0, []), none, none, some (.if_icmp .ge (Int.ofNat 22), (96, 3, 118, 0, 0), 0, []), none, some (.bipush (Int.ofNat 9), (16, 2, 0, 0, 0), 0, []), some (.invokespecial 59, (144, 3, 5, 1, 0), 0, [256, 257, 36]), some (.putfield 51, (80, 3, 3, 12, 5), 0, [309]), none, none, some (.iinc 1 (Int.ofNat 1), (112, 3, 0, 0, 0), 0, []), none, some (.dup, (8, 1, 0, 0, 0), 0, []), none, some (.aload_n 0, (72, 1, 0, 0, 0), 0, []), none, none, some (.new 18, (104, 3, 1, 9, 0), 0, [184, 209, 35]), none, some (.aload_n 0, (24, 1, 0, 0, 0), 0, []), none, some (.putfield 54, (88, 3, 3, 14, 5), 0, [312]), none, none, some (.aload_n 0, (4, 1, 0, 0, 0), 0, []), none, none, none, some (.getfield 20, (100, 3, 3, 1, 5), 0, [292]), none, none, some (.iinc 2 (Int.ofNat 1), (148, 3, 0, 0, 0), 0, []), some (.bipush (Int.ofNat 24), (84, 2, 0, 0, 0), 0, []), none, none, some (.putfield 12, (12, 3, 3, 0, 5), 0, [290]), none, some (.dup, (76, 1, 0, 0, 0), 0, []), none, some (.aload_n 0, (44, 1, 0, 0, 0), 0, []), none, some (.invokespecial 58, (108, 3, 8, 1, 0), 1, [210, 211, 35]), none, none, some (.istore_n 1, (92, 1, 0, 0, 0), 0, []), none, none, none, some (.invokespecial 43, (66, 3, 70, 1, 0), 1, [208, 80, 32]), none, some (.new 30, (34, 3, 4, 3, 0), 0, [188, 189, 34]), none, none, some (.anewarray 18, (18, 3, 7, 0, 0), 0, [184]), none, none, some (.aload_n 0, (50, 1, 0, 0, 0), 0, []), none, none, none, some (.iload_n 2, (138, 1, 0, 0, 0), 0, []), none, none, none, some (.return_, (154, 1, 0, 0, 0), 0, []), none, some (.putfield 44, (58, 3, 3, 10, 5), 0, [306]), none, some (.invokespecial 58, (122, 3, 8, 1, 0), 1, [210, 211, 35]), none, none, some (.aload_n 0, (134, 1, 0, 0, 0), 0, []), none, some (.invokespecial 32, (38, 3, 57, 1, 0), 0, [190, 191, 34]), none, none, none, some (.newarray .int, (86, 2, 0, 0, 0), 0, [253]), none, some (.dup, (54, 1, 0, 0, 0), 0, []), none, some (.new 18, (118, 3, 1, 9, 0), 0, [184, 209, 35]), none, none, some (.dup, (142, 1, 0, 0, 0), 0, []), none, none, some (.putfield 26, (30, 3, 3, 3, 5), 0, [296]), none, some (.bipush (Int.ofNat 9), (94, 2, 0, 0, 0), 0, []), none, some (.new 41, (62, 3, 6, 6, 0), 0, [207, 78, 32]), none, some (.iconst (Int.ofNat 0), (126, 1, 0, 0, 0), 0, []), none, some (.invokespecial 3, (1, 3, 0, 9, 0), 0, [67, 60, 61]), some (.bipush (Int.ofNat 12), (129, 2, 0, 0, 0), 0, []), some (.dup, (65, 1, 0, 0, 0), 0, []), none, some (.aload_n 0, (33, 1, 0, 0, 0), 0, []), none, none, none, some (.invokespecial 11, (9, 3, 12, 1, 0), 0, [70, 71, 31]), none, some (.new 41, (73, 3, 6, 6, 0), 0, [207, 78, 32]), none, some (.putfield 33, (41, 3, 3, 6, 5), 0, [300]), none, none, some (.bipush (Int.ofNat 12), (25, 2, 0, 0, 0), 0, []), none, none, none, some (.dup, (121, 1, 0, 0, 0), 0, []), none, some (.new 9, (5, 3, 2, 6, 0), 0, [68, 69, 31]), none, some (.putfield 48, (69, 3, 3, 11, 5), 0, [308]), none, some (.dup, (37, 1, 0, 0, 0), 0, []), none, none, some (.putfield 20, (21, 3, 3, 1, 5), 0, [292]), none, none, none, none, some (.invokespecial 43, (77, 3, 70, 1, 0), 1, [208, 80, 32]), none, some (.bipush (Int.ofNat 45), (45, 2, 0, 0, 0), 0, []), none, none, none, some (.iload_n 1, (93, 1, 0, 0, 0), 0, []), none, some (.aload_n 0, (61, 1, 0, 0, 0), 0, []), none, some (.astore_n 1, (125, 1, 0, 0, 0), 0, []), none, none, some (.if_icmp .ge (Int.ofNat 23), (131, 3, 154, 0, 0), 0, []), none, none, some (.aload_n 0, (99, 1, 0, 0, 0), 0, []), none, none, some (.aastore, (147, 1, 0, 0, 0), 0, []), some (.aload_n 0, (83, 1, 0, 0, 0), 0, []), none, some (.new 41, (51, 3, 6, 6, 0), 0, [207, 78, 32]), none, some (.goto (Int.negSucc 21), (115, 3, 93, 0, 0), 0, []), none, none, some (.new 24, (139, 3, 0, 7, 0), 0, [186, 255, 36]), none, none, some (.dup, (107, 1, 0, 0, 0), 0, []), none, some (.anewarray 24, (27, 3, 8, 0, 0), 0, [186]), none, some (.iconst (Int.ofNat 0), (91, 1, 0, 0, 0), 0, []), none, none, none, some (.getfield 26, (135, 3, 3, 3, 5), 0, [296]), none, none, some (.iload_n 1, (103, 1, 0, 0, 0), 0, []), none, none, some (.goto (Int.negSucc 22), (151, 3, 128, 0, 0), 0, []), none, some (.invokespecial 43, (55, 3, 70, 1, 0), 1, [208, 80, 32]), none, none, some (.aload_n 0, (15, 1, 0, 0, 0), 0, []), some (.aload_n 1, (143, 1, 0, 0, 0), 0, []), none, some (.putfield 37, (47, 3, 3, 9, 1), 0, [304]), none, some (.aastore, (111, 1, 0, 0, 0), 0, []), none, none, none, some (.istore_n 2, (127, 1, 0, 0, 0), 0, []), none]
set_option maxRecDepth 100000 in
def xi35 : List (Option xIn) := [none]
set_option maxRecDepth 100000 in
def xi36 : List (Option xIn) := [none]
set_option maxRecDepth 100000 in
def xi37 : List (Option xIn) := [none]
set_option maxRecDepth 100000 in
def xi38 : List (Option xIn) := [none]
set_option maxRecDepth 100000 in
def xi39 : List (Option xIn) := [none]
set_option maxRecDepth 100000 in
def xi40 : List (Option xIn) := [none]
set_option maxRecDepth 100000 in
def xi41 : List (Option xIn) := [none]
set_option maxRecDepth 100000 in
def xi42 : List (Option xIn) := [none]
set_option maxRecDepth 100000 in
def xi43 : List (Option xIn) := [none]
set_option maxRecDepth 100000 in
def xi44 : List (Option xIn) := [none]
set_option maxRecDepth 100000 in
def xi45 : List (Option xIn) := [none]
set_option maxRecDepth 100000 in
def xi46 : List (Option xIn) := [none]
set_option maxRecDepth 100000 in
def xi47 : List (Option xIn) := [none]
set_option maxRecDepth 100000 in
def xi48 : List (Option xIn) := [none]
set_option maxRecDepth 100000 in
def xi49 : List (Option xIn) := [none]
set_option maxRecDepth 100000 in
def xi50 : List (Option xIn) := [none]
set_option maxRecDepth 100000 in
def xi51 : List (Option xIn) := [none]
set_option maxRecDepth 100000 in
def xi52 : List (Option xIn) := [none]
set_option maxRecDepth 100000 in
def xi53 : List (Option xIn) := [none]
set_option maxRecDepth 100000 in
def xi54 : List (Option xIn) := [none]
set_option maxRecDepth 100000 in
def xi55 : List (Option xIn) := [none]
set_option maxRecDepth 100000 in
def xi56 : List (Option xIn) := [none]
set_option maxRecDepth 100000 in
def xi57 : List (Option xIn) := [some (.aload_n 0, (0, 1, 0, 0, 0), 0, []), none, none, some (.anewarray 9, (8, 3, 5, 0, 0), 0, [194]), none, none, some (.aload_n 0, (4, 1, 0, 0, 0), 0, []), none, none, none, some (.sipush (Int.ofNat 412), (28, 3, 0, 0, 0), 0, []), none, none, some (.aload_n 0, (34, 1, 0, 0, 0), 0, []), some (.dup, (18, 1, 0, 0, 0), 0, []), some (.goto (Int.negSucc 22), (50, 3, 27, 0, 0), 0, []), none, some (.dup, (42, 1, 0, 0, 0), 0, []), some (.istore_n 1, (26, 1, 0, 0, 0), 0, []), none, none, some (.iload_n 1, (38, 1, 0, 0, 0), 0, []), some (.putfield 18, (22, 3, 4, 1, 5), 0, [197]), none, some (.aload_n 0, (14, 1, 0, 0, 0), 0, []), some (.aastore, (46, 1, 0, 0, 0), 0, []), none, some (.invokespecial 3, (1, 3, 0, 9, 0), 0, [193, 60, 61]), none, none, none, some (.iconst (Int.ofNat 0), (25, 1, 0, 0, 0), 0, []), none, some (.sipush (Int.ofNat 412), (5, 3, 0, 0, 0), 0, []), none, none, some (.return_, (53, 1, 0, 0, 0), 0, []), none, none, some (.getfield 11, (35, 3, 4, 0, 5), 0, [196]), some (.invokespecial 17, (19, 3, 70, 1, 0), 1, [195, 80, 32]), none, some (.putfield 11, (11, 3, 4, 0, 5), 0, [196]), some (.invokespecial 17, (43, 3, 70, 1, 0), 1, [195, 80, 32]), some (.iload_n 1, (27, 1, 0, 0, 0), 0, []), none, none, some (.new 9, (39, 3, 6, 6, 0), 0, [194, 78, 32]), none, some (.new 9, (15, 3, 6, 6, 0), 0, [194, 78, 32]), some (.iinc 1 (Int.ofNat 1), (47, 3, 0, 0, 0), 0, []), some (.if_icmp .ge (Int.ofNat 22), (31, 3, 53, 0, 0), 0, []), none]
set_option maxRecDepth 100000 in
def xi58 : List (Option xIn) := [none]
set_option maxRecDepth 100000 in
def xi59 : List (Option xIn) := [none]
set_option maxRecDepth 100000 in
def xi60 : List (Option xIn) := [none]
set_option maxRecDepth 100000 in
def xi61 : List (Option xIn) := [none]
set_option maxRecDepth 100000 in
def xi62 : List (Option xIn) := [none]
set_option maxRecDepth 100000 in
def xi63 : List (Option xIn) := [none]
set_option maxRecDepth 100000 in
def xi64 : List (Option xIn) := [none]
set_option maxRecDepth 100000 in
def xi65 : List (Option xIn) := [some (.aload_n 0, (0, 1, 0, 0, 0), 0, []), some (.dup, (32, 1, 0, 0, 0), 0, []), none, none, some (.goto (Int.negSucc 20), (40, 3, 19, 0, 0), 0, []), some (.aload_n 0, (24, 1, 0, 0, 0), 0, []), none, some (.aload_n 0, (4, 1, 0, 0, 0), 0, []), some (.aastore, (36, 1, 0, 0, 0), 0, []), some (.iconst (Int.ofNat 3), (20, 1, 0, 0, 0), 0, []), none, none, some (.iload_n 1, (28, 1, 0, 0, 0), 0, []), none, none, some (.istore_n 1, (18, 1, 0, 0, 0), 0, []), none, some (.iconst (Int.ofNat 3), (10, 1, 0, 0, 0), 0, []), none, none, some (.putfield 9, (6, 3, 5, 0, 0), 0, [133]), none, none, some (.putfield 17, (14, 3, 5, 2, 5), 0, [141]), none, none, some (.invokespecial 3, (1, 3, 0, 9, 0), 0, [130, 60, 61]), some (.invokespecial 21, (33, 3, 70, 1, 0), 1, [132, 80, 32]), some (.iconst (Int.ofNat 0), (17, 1, 0, 0, 0), 0, []), none, some (.aload_n 0, (9, 1, 0, 0, 0), 0, []), none, some (.getfield 17, (25, 3, 5, 2, 5), 0, [141]), none, some (.iconst (Int.negSucc 0), (5, 1, 0, 0, 0), 0, []), some (.iinc 1 (Int.ofNat 1), (37, 3, 0, 0, 0), 0, []), some (.if_icmp .ge (Int.ofNat 22), (21, 3, 43, 0, 0), 0, []), none, none, some (.new 15, (29, 3, 6, 6, 0), 0, [131, 78, 32]), none, none, some (.iload_n 1, (19, 1, 0, 0, 0), 0, []), none, some (.anewarray 15, (11, 3, 5, 0, 0), 0, [131]), some (.return_, (43, 1, 0, 0, 0), 0, []), none, none]
set_option maxRecDepth 100000 in
def xi66 : List (Option xIn) := [none]
set_option maxRecDepth 100000 in
def xi67 : List (Option xIn) := [none]
set_option maxRecDepth 100000 in
def xi68 : List (Option xIn) := [none]
set_option maxRecDepth 100000 in
def xi69 : List (Option xIn) := [none]
set_option maxRecDepth 100000 in
def xi70 : List (Option xIn) := [some (.aload_n 0, (0, 1, 0, 0, 0), 0, []), none, some (.aload_n 0, (4, 1, 0, 0, 0), 0, []), none, none, some (.return_, (10, 1, 0, 0, 0), 0, []), none, some (.invokespecial 3, (1, 3, 0, 9, 0), 0, [82, 60, 61]), none, some (.bipush (Int.ofNat 110), (5, 2, 0, 0, 0), 0, []), none, none, some (.putfield 9, (7, 3, 6, 0, 1), 0, [83]), none]
set_option maxRecDepth 100000 in
def xi71 : List (Option xIn) := [none]
set_option maxRecDepth 100000 in
def xi72 : List (Option xIn) := [none]
set_option maxRecDepth 100000 in
def xi73 : List (Option xIn) := [none]
set_option maxRecDepth 100000 in
def xi74 : List (Option xIn) := [none]
set_option maxRecDepth 100000 in
def xi75 : List (Option xIn) := [none]
set_option maxRecDepth 100000 in
def xi76 : List (Option xIn) := [some (.aload_n 0, (0, 1, 0, 0, 0), 0, []), none, none, some (.putfield 31, (12, 3, 6, 5, 5), 0, [102]), some (.putfield 9, (2, 3, 6, 0, 1), 0, [83]), some (.aload_n 0, (10, 1, 0, 0, 0), 0, []), some (.iconst (Int.ofNat 0), (6, 1, 0, 0, 0), 0, []), none, some (.iload_n 1, (1, 1, 0, 0, 0), 0, []), none, some (.aload_n 0, (5, 1, 0, 0, 0), 0, []), none, none, some (.aconst_null, (11, 1, 0, 0, 0), 0, []), some (.putfield 19, (7, 3, 6, 2, 2), 0, [91]), some (.return_, (15, 1, 0, 0, 0), 0, [])]
set_option maxRecDepth 100000 in
def xi77 : List (Option xIn) := [none]
set_option maxRecDepth 100000 in
def xi78 : List (Option xIn) := [none]
set_option maxRecDepth 100000 in
def xi79 : List (Option xIn) := [none]
set_option maxRecDepth 100000 in
def xi80 : List (Option xIn) := [none]
set_option maxRecDepth 100000 in
def xi81 : List (Option xIn) := [none]
set_option maxRecDepth 100000 in
def xi82 : List (Option xIn) := [none]
set_option maxRecDepth 100000 in
def xi83 : List (Option xIn) := [none]
set_option maxRecDepth 100000 in
def xi84 : List (Option xIn) := [none]
set_option maxRecDepth 100000 in
def xi85 : List (Option xIn) := [none]
set_option maxRecDepth 100000 in
def xi86 : List (Option xIn) := [none]
set_option maxRecDepth 100000 in
def xi87 : List (Option xIn) := [none]
set_option maxRecDepth 100000 in
def xi88 : List (Option xIn) := [none]
set_option maxRecDepth 100000 in
def xi89 : List (Option xIn) := [some (.aload_n 0, (0, 1, 0, 0, 0), 0, []), none, some (.aload_n 0, (16, 1, 0, 0, 0), 0, []), none, some (.dup, (8, 1, 0, 0, 0), 0, []), none, none, some (.aload_n 0, (4, 1, 0, 0, 0), 0, []), none, some (.getfield 16, (20, 3, 3, 0, 5), 0, [291]), none, some (.putfield 12, (12, 3, 7, 0, 5), 0, [351]), none, none, none, some (.putfield 24, (34, 3, 7, 2, 5), 0, [353]), none, none, some (.aload_n 0, (26, 1, 0, 0, 0), 0, []), none, none, none, some (.dup, (30, 1, 0, 0, 0), 0, []), none, some (.invokespecial 3, (1, 3, 0, 9, 0), 0, [59, 60, 61]), none, some (.getfield 12, (17, 3, 7, 0, 5), 0, [351]), none, some (.invokespecial 11, (9, 3, 34, 1, 0), 0, [64, 65, 30]), none, none, some (.new 9, (5, 3, 3, 16, 0), 0, [62, 63, 30]), some (.return_, (37, 1, 0, 0, 0), 0, []), none, none, none, none, some (.new 21, (27, 3, 6, 6, 0), 0, [349, 78, 32]), none, none, some (.putfield 20, (23, 3, 7, 1, 5), 0, [352]), none, some (.aload_n 0, (15, 1, 0, 0, 0), 0, []), none, some (.invokespecial 23, (31, 3, 70, 1, 0), 1, [350, 80, 32]), none]
set_option maxRecDepth 100000 in
def xi90 : List (Option xIn) := [none]
set_option maxRecDepth 100000 in
def xi91 : List (Option xIn) := [none]
set_option maxRecDepth 100000 in
def xi92 : List (Option xIn) := [none]
set_option maxRecDepth 100000 in
def xi93 : List (Option xIn) := [none]
set_option maxRecDepth 100000 in
def xi94 : List (Option xIn) := [none]
set_option maxRecDepth 100000 in
def xi95 : List (Option xIn) := [none]
set_option maxRecDepth 100000 in
def xi96 : List (Option xIn) := [none]
set_option maxRecDepth 100000 in
def xi97 : List (Option xIn) := [none]
set_option maxRecDepth 100000 in
def xi98 : List (Option xIn) := [none]
set_option maxRecDepth 100000 in
def xi99 : List (Option xIn) := [none]
set_option maxRecDepth 100000 in
def xi100 : List (Option xIn) := [none]
set_option maxRecDepth 100000 in
def xi101 : List (Option xIn) := [none]
set_option maxRecDepth 100000 in
def xi102 : List (Option xIn) := [none]
set_option maxRecDepth 100000 in
def xi103 : List (Option xIn) := [none]
set_option maxRecDepth 100000 in
def xi104 : List (Option xIn) := [none]
set_option maxRecDepth 100000 in
def xi105 : List (Option xIn) := [none]
set_option maxRecDepth 100000 in
def xi106 : List (Option xIn) := [none]
set_option maxRecDepth 100000 in
def xi107 : List (Option xIn) := [none]
set_option maxRecDepth 100000 in
def xi108 : List (Option xIn) := [none]
set_option maxRecDepth 100000 in
def xi109 : List (Option xIn) := [none]
set_option maxRecDepth 100000 in
def xi110 : List (Option xIn) := [none]
set_option maxRecDepth 100000 in
def xi111 : List (Option xIn) := [none]
set_option maxRecDepth 100000 in
def xi112 : List (Option xIn) := [none]
set_option maxRecDepth 100000 in
def xi113 : List (Option xIn) := [none]
set_option maxRecDepth 100000 in
def xi114 : List (Option xIn) := [none]
set_option maxRecDepth 100000 in
def xi115 : List (Option xIn) := [none]
set_option maxRecDepth 100000 in
def xi116 : List (Option xIn) := [none]
set_option maxRecDepth 100000 in
def xi117 : List (Option xIn) := [none]
set_option maxRecDepth 100000 in
def xi118 : List (Option xIn) := [none]
set_option maxRecDepth 100000 in
def xi119 : List (Option xIn) := [some (.iload_n 0, (0, 1, 0, 0, 0), 0, []), some (.goto (Int.ofNat 5), (16, 3, 21, 0, 0), 0, []), none, some (.bipush (Int.ofNat 117), (4, 2, 0, 0, 0), 0, []), none, none, none, some (.iconst (Int.ofNat 1), (10, 1, 0, 0, 0), 0, []), none, some (.goto (Int.ofNat 15), (6, 3, 21, 0, 0), 0, []), none, some (.bipush (Int.ofNat 110), (14, 2, 0, 0, 0), 0, []), none, some (.ifCond .ne (Int.ofNat 8), (1, 3, 9, 0, 0), 0, []), none, some (.iload_n 0, (9, 1, 0, 0, 0), 0, []), none, none, some (.ireturn, (21, 1, 0, 0, 0), 0, []), none, none, some (.bipush (Int.ofNat 101), (19, 2, 0, 0, 0), 0, []), some (.if_icmp .ne (Int.ofNat 8), (11, 3, 19, 0, 0), 0, []), none, none]
set_option maxRecDepth 100000 in
def xi120 : List (Option xIn) := [none]
set_option maxRecDepth 100000 in
def xi121 : List (Option xIn) := [none]
set_option maxRecDepth 100000 in
def xi122 : List (Option xIn) := [none]
set_option maxRecDepth 100000 in
def xi123 : List (Option xIn) := [none]
set_option maxRecDepth 100000 in
def xi124 : List (Option xIn) := [none]
set_option maxRecDepth 100000 in
def xi125 : List (Option xIn) := [none]
set_option maxRecDepth 100000 in
def xi126 : List (Option xIn) := [none]
set_option maxRecDepth 100000 in
def xi127 : List (Option xIn) := [none]
set_option maxRecDepth 100000 in
def xi128 : List (Option xIn) := [none]
set_option maxRecDepth 100000 in
def xi129 : List (Option xIn) := [none]
set_option maxRecDepth 100000 in
def xi130 : List (Option xIn) := [none]
set_option maxRecDepth 100000 in
def xi131 : List (Option xIn) := [some (.new 10, (0, 3, 7, 3, 0), 0, [54, 55, 29]), some (.istore 4, (16, 2, 0, 0, 0), 0, []), some (.iconst (Int.ofNat 0), (8, 1, 0, 0, 0), 0, []), none, some (.invokespecial 131, (4, 3, 89, 1, 0), 0, [56, 57, 29]), some (.bipush (Int.ofNat 76), (20, 2, 0, 0, 0), 0, []), some (.newarray .int, (12, 2, 0, 0, 0), 0, [253]), none, none, some (.iload 4, (18, 2, 0, 0, 0), 0, []), some (.bipush (Int.ofNat 9), (10, 2, 0, 0, 0), 0, []), none, none, some (.if_icmp .ge (Int.ofNat 893), (22, 3, 915, 0, 0), 0, []), some (.astore_n 3, (14, 1, 0, 0, 0), 0, []), none, none, some (.istore_n 2, (9, 1, 0, 0, 0), 0, []), none, none, some (.dup, (3, 1, 0, 0, 0), 0, []), none, none, some (.astore_n 1, (7, 1, 0, 0, 0), 0, []), none, some (.iconst (Int.ofNat 0), (15, 1, 0, 0, 0), 0, []), none]
