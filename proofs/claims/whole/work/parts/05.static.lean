/-! STATIC CHECKS: what the tables say of each link; each instruction is what its block says -/
def pg_fT (c k : Nat) : String × String × String × Bool := (pg_cls.getD c ("", pg_T0, 0)).2.1 k
def pg_nf (c : Nat) : Nat := (pg_cls.getD c ("", pg_T0, 0)).2.2
def pg_ft (c k : Nat) : FieldType := (pg_tys.getD c pg_t0) k
theorem pg_in {α : Type} {l : List (α × Nat)} {f : α → Cond} (h : l.all (fun q => decide (lw_tbl[q.2]? = some (f q.1))) = true) : ∀ q ∈ l, f q.1 ∈ lw_tbl := by
  intro q hq
  have h1 := List.all_eq_true.mp h q hq
  exact List.mem_of_getElem? (of_decide_eq_true h1)
theorem pg_key {α : Type} [DecidableEq α] {l : List (α × Nat)} {f : α → Cond} (h : l.all (fun q => decide (lw_tbl[q.2]? = some (f q.1))) = true) {x : α} (hx : l.any (fun q => decide (q.1 = x)) = true) : f x ∈ lw_tbl := by
  obtain ⟨q, h1, h2⟩ := List.any_eq_true.mp hx
  have h3 := pg_in h q h1
  rw [of_decide_eq_true h2] at h3
  exact h3
def pg_fl : List ((Nat × Nat × Nat × Nat) × Nat) := [((0, 9, 0, 0), 264), ((0, 15, 0, 1), 265), ((0, 18, 0, 2), 266), ((0, 22, 3, 2), 179), ((1, 11, 1, 0), 214), ((1, 20, 1, 2), 216), ((1, 24, 1, 1), 215), ((2, 12, 2, 0), 284), ((3, 9, 3, 1), 177), ((3, 15, 3, 2), 178), ((3, 18, 3, 3), 182), ((3, 21, 3, 0), 175), ((3, 25, 4, 2), 107), ((3, 34, 4, 1), 101), ((3, 38, 4, 5), 120), ((3, 41, 4, 4), 114), ((3, 44, 3, 4), 184), ((3, 47, 3, 5), 186), ((3, 50, 3, 6), 188), ((3, 56, 4, 0), 98), ((3, 75, 4, 3), 112), ((4, 9, 4, 2), 106), ((4, 15, 4, 3), 108), ((4, 18, 4, 4), 113), ((4, 21, 4, 5), 119), ((4, 24, 4, 0), 95), ((4, 28, 4, 1), 100), ((5, 12, 5, 0), 144), ((5, 18, 5, 1), 146), ((5, 22, 5, 3), 149), ((5, 26, 5, 2), 147), ((5, 29, 4, 0), 96), ((5, 32, 4, 1), 103), ((5, 35, 5, 4), 151), ((5, 38, 5, 5), 152), ((5, 75, 4, 3), 110), ((5, 78, 4, 4), 117), ((5, 85, 5, 6), 153), ((5, 88, 4, 5), 121), ((6, 9, 6, 1), 242), ((6, 15, 6, 2), 243), ((6, 18, 6, 3), 244), ((6, 21, 6, 0), 241), ((6, 25, 6, 4), 245), ((6, 29, 4, 4), 116), ((6, 34, 4, 3), 109), ((6, 60, 4, 1), 105), ((7, 9, 7, 0), 231), ((7, 15, 3, 0), 176), ((7, 21, 4, 1), 102), ((7, 31, 4, 4), 115), ((7, 53, 3, 2), 181), ((7, 59, 4, 0), 99), ((8, 10, 8, 0), 295), ((8, 19, 8, 1), 296), ((8, 28, 8, 2), 297), ((8, 32, 8, 3), 298), ((8, 38, 8, 4), 299), ((8, 45, 8, 5), 300), ((8, 52, 8, 6), 301), ((8, 59, 8, 7), 302), ((8, 65, 8, 8), 303), ((8, 70, 8, 9), 304), ((8, 75, 5, 2), 148), ((8, 87, 5, 3), 150), ((8, 88, 5, 0), 145), ((8, 102, 2, 2), 287), ((8, 106, 4, 0), 97), ((8, 109, 4, 1), 104), ((8, 112, 3, 6), 189), ((8, 115, 3, 5), 187), ((8, 118, 3, 4), 185), ((8, 128, 6, 4), 246), ((8, 131, 0, 2), 267), ((8, 132, 1, 2), 217), ((8, 142, 3, 2), 180), ((8, 149, 4, 3), 111), ((8, 152, 4, 4), 118), ((8, 189, 3, 3), 183), ((8, 253, 8, 10), 305), ((8, 259, 2, 0), 285), ((8, 260, 2, 1), 286), ((9, 7, 9, 0), 760), ((9, 13, 9, 1), 761), ((9, 17, 9, 2), 762), ((9, 20, 9, 3), 763), ((9, 23, 9, 4), 764), ((9, 26, 9, 5), 765), ((9, 29, 9, 10), 770), ((9, 32, 9, 15), 775), ((9, 36, 9, 17), 777), ((9, 39, 9, 18), 778), ((9, 42, 9, 19), 779), ((9, 45, 9, 21), 781), ((9, 48, 9, 22), 782), ((9, 58, 9, 11), 771), ((9, 62, 9, 12), 772), ((9, 65, 9, 14), 774), ((9, 72, 9, 13), 773), ((9, 87, 9, 7), 767), ((9, 101, 9, 9), 769), ((9, 121, 9, 6), 766), ((9, 124, 9, 8), 768), ((9, 127, 9, 20), 780), ((9, 130, 9, 23), 783), ((9, 133, 9, 16), 776)]
def pg_fC (q : (Nat × Nat × Nat × Nat)) : Cond := .fieldLink (pg_cn q.1) q.2.1 (pg_cn q.2.2.1) (pg_fT q.2.2.1 q.2.2.2).2.1 (pg_fT q.2.2.1 q.2.2.2).2.2.1
set_option maxRecDepth 100000 in
theorem pg_fl_ok : pg_fl.all (fun q => decide (lw_tbl[q.2]? = some (pg_fC q.1))) = true := by decide +kernel
def pg_ml : List ((Nat × Nat × Nat) × Nat) := [((1, 17, 9), 213), ((1, 27, 11), 534), ((2, 9, 9), 283), ((3, 53, 26), 407), ((3, 59, 13), 460), ((3, 62, 15), 456), ((3, 65, 16), 525), ((3, 68, 12), 411), ((3, 72, 17), 521), ((3, 83, 19), 452), ((3, 87, 20), 545), ((3, 91, 24), 554), ((3, 95, 28), 667), ((3, 99, 22), 671), ((5, 41, 44), 347), ((5, 44, 35), 351), ((5, 47, 40), 355), ((5, 51, 36), 359), ((5, 54, 37), 383), ((5, 57, 45), 363), ((5, 61, 41), 367), ((5, 64, 42), 371), ((5, 68, 31), 379), ((5, 72, 38), 387), ((5, 81, 39), 391), ((5, 91, 43), 375), ((6, 43, 49), 698), ((6, 46, 50), 694), ((6, 50, 51), 711), ((6, 54, 178), 712), ((6, 62, 53), 713), ((7, 27, 56), 444), ((7, 34, 20), 448), ((7, 38, 15), 467), ((7, 42, 57), 472), ((7, 46, 61), 622), ((7, 50, 59), 627), ((7, 56, 17), 626), ((7, 62, 12), 439), ((7, 66, 55), 440), ((7, 69, 58), 468), ((7, 72, 178), 476), ((8, 25, 9), 171), ((8, 37, 4), 207), ((8, 51, 46), 237), ((8, 69, 8), 278), ((8, 79, 33), 335), ((8, 83, 34), 343), ((8, 91, 30), 395), ((8, 94, 10), 402), ((8, 97, 5), 415), ((8, 100, 47), 419), ((8, 101, 1), 423), ((8, 121, 62), 435), ((8, 125, 14), 482), ((8, 133, 95), 490), ((8, 138, 13), 495), ((8, 146, 96), 504), ((8, 155, 97), 508), ((8, 159, 15), 512), ((8, 162, 18), 517), ((8, 166, 6), 530), ((8, 170, 22), 541), ((8, 174, 23), 550), ((8, 178, 99), 562), ((8, 182, 25), 566), ((8, 186, 16), 574), ((8, 192, 12), 579), ((8, 195, 178), 580), ((8, 200, 101), 585), ((8, 203, 7), 605), ((8, 207, 55), 613), ((8, 211, 59), 614), ((8, 214, 60), 618), ((8, 218, 58), 632), ((8, 221, 100), 637), ((8, 225, 21), 645), ((8, 229, 11), 657), ((8, 231, 26), 662), ((8, 234, 27), 663), ((8, 241, 48), 682), ((8, 243, 51), 690), ((8, 246, 52), 707), ((8, 249, 2), 722), ((8, 250, 3), 730), ((8, 256, 98), 746), ((8, 261, 102), 589), ((8, 264, 103), 593), ((9, 53, 105), 839), ((9, 68, 109), 848), ((9, 79, 110), 860), ((9, 84, 111), 872), ((9, 90, 113), 864), ((9, 93, 112), 868), ((9, 97, 107), 887), ((9, 104, 115), 883), ((9, 108, 114), 856), ((9, 112, 116), 879), ((9, 115, 117), 852), ((9, 118, 119), 890), ((9, 136, 123), 943), ((9, 140, 106), 947), ((9, 144, 125), 931), ((9, 147, 126), 927), ((9, 150, 161), 902), ((9, 153, 130), 950), ((9, 156, 121), 958), ((9, 161, 122), 971), ((9, 164, 135), 985), ((9, 168, 128), 939), ((9, 172, 129), 906), ((9, 175, 124), 1001), ((9, 181, 127), 923), ((9, 185, 136), 981), ((9, 188, 137), 989), ((9, 192, 138), 997), ((9, 198, 142), 1009), ((9, 201, 141), 1014), ((9, 211, 146), 1034), ((9, 214, 147), 1030), ((9, 218, 151), 935), ((9, 222, 152), 914), ((9, 225, 150), 918), ((9, 228, 154), 1050), ((9, 232, 155), 910), ((9, 235, 158), 1066), ((9, 238, 162), 1078), ((9, 241, 164), 1086), ((9, 250, 168), 1105), ((9, 253, 169), 1113), ((9, 256, 170), 1114), ((10, 9, 63), 83), ((10, 12, 104), 756), ((10, 13, 64), 329), ((10, 17, 108), 834), ((10, 18, 65), 339), ((10, 22, 118), 844), ((10, 23, 66), 427), ((10, 26, 120), 894), ((10, 27, 67), 431), ((10, 30, 131), 898), ((10, 31, 68), 486), ((10, 35, 132), 954), ((10, 36, 69), 496), ((10, 39, 133), 963), ((10, 40, 70), 500), ((10, 43, 134), 967), ((10, 44, 71), 513), ((10, 48, 139), 975), ((10, 49, 72), 546), ((10, 52, 140), 993), ((10, 53, 73), 558), ((10, 56, 143), 1005), ((10, 57, 74), 570), ((10, 60, 144), 1018), ((10, 61, 75), 575), ((10, 64, 145), 1022), ((10, 65, 76), 581), ((10, 68, 148), 1026), ((10, 69, 77), 601), ((10, 72, 149), 1042), ((10, 73, 78), 609), ((10, 76, 153), 1046), ((10, 77, 79), 628), ((10, 80, 156), 1054), ((10, 81, 80), 633), ((10, 84, 157), 1058), ((10, 85, 81), 641), ((10, 88, 159), 1062), ((10, 89, 82), 649), ((10, 92, 160), 1070), ((10, 93, 83), 653), ((10, 96, 163), 1074), ((10, 97, 84), 658), ((10, 100, 165), 1082), ((10, 101, 85), 672), ((10, 104, 166), 1090), ((10, 105, 86), 678), ((10, 108, 167), 1097), ((10, 109, 87), 686), ((10, 112, 169), 1101), ((10, 113, 88), 703), ((10, 116, 171), 1109), ((10, 117, 89), 718), ((10, 120, 172), 1118), ((10, 121, 90), 726), ((10, 124, 173), 1122), ((10, 125, 91), 734), ((10, 128, 174), 1126), ((10, 129, 92), 738), ((10, 132, 175), 1130), ((10, 133, 93), 742), ((10, 136, 176), 1134), ((10, 137, 94), 750), ((10, 140, 177), 1138)]
def pg_mC (q : (Nat × Nat × Nat)) : Cond := .methodLink (pg_cn q.1) q.2.1 (pg_y q.2.2)
set_option maxRecDepth 100000 in
theorem pg_ml_ok : pg_ml.all (fun q => decide (lw_tbl[q.2]? = some (pg_mC q.1))) = true := by decide +kernel
def pg_xl : List ((Nat × Nat × Nat) × Nat) := [((5, 11, 29), 143), ((8, 9, 29), 91), ((8, 18, 32), 138), ((8, 44, 54), 227), ((8, 58, 0), 260)]
def pg_xC (q : (Nat × Nat × Nat)) : Cond := .methodLinkNest (pg_cn q.1) q.2.1 (pg_y q.2.2) "PersonLines"
set_option maxRecDepth 100000 in
theorem pg_xl_ok : pg_xl.all (fun q => decide (lw_tbl[q.2]? = some (pg_xC q.1))) = true := by decide +kernel
def pg_ol : List ((Nat × Nat) × Nat) := [((0, 3), 263), ((1, 3), 210), ((2, 1), 281), ((3, 3), 174), ((4, 3), 94), ((5, 3), 141), ((6, 3), 240), ((7, 3), 230), ((8, 1), 86), ((9, 1), 759)]
def pg_oC (q : (Nat × Nat)) : Cond := .methodLink (pg_cn q.1) q.2 objectInit
set_option maxRecDepth 100000 in
theorem pg_ol_ok : pg_ol.all (fun q => decide (lw_tbl[q.2]? = some (pg_oC q.1))) = true := by decide +kernel
def pg_al : List ((Nat × Nat) × Nat) := [((3, 28), 406), ((4, 31), 399)]
def pg_aC (q : (Nat × Nat)) : Cond := .methodLink (pg_cn q.1) q.2 arraycopyName
set_option maxRecDepth 100000 in
theorem pg_al_ok : pg_al.all (fun q => decide (lw_tbl[q.2]? = some (pg_aC q.1))) = true := by decide +kernel
def pg_xx : List ((Nat × Nat) × Nat) := [((3, 78), 464), ((6, 65), 717)]
def pg_xxC (q : (Nat × Nat)) : Cond := .methodLink (pg_cn q.1) q.2 Lib.Math.max.name
set_option maxRecDepth 100000 in
theorem pg_xx_ok : pg_xx.all (fun q => decide (lw_tbl[q.2]? = some (pg_xxC q.1))) = true := by decide +kernel
def pg_xn : List ((Nat × Nat) × Nat) := [((1, 31), 538), ((6, 37), 702)]
def pg_xnC (q : (Nat × Nat)) : Cond := .methodLink (pg_cn q.1) q.2 Lib.Math.min.name
set_option maxRecDepth 100000 in
theorem pg_xn_ok : pg_xn.all (fun q => decide (lw_tbl[q.2]? = some (pg_xnC q.1))) = true := by decide +kernel
def pg_kl : List ((Nat × Nat × Int) × Nat) := [((8, 74, -1000000002), 333), ((8, 78, -1000000004), 334), ((8, 137, -1000000001), 494), ((8, 165, -1000000003), 529), ((8, 273, 65536), 600), ((9, 57, -1000000002), 842), ((9, 61, -1000000004), 843), ((9, 83, 99999), 878), ((9, 160, -1000000001), 962), ((9, 184, -1000000003), 980), ((9, 210, 65536), 1041), ((9, 217, 99999999), 922), ((11, 265, 1431655765), 479), ((11, 266, 858993459), 480), ((11, 267, 252645135), 481)]
def pg_kC (q : (Nat × Nat × Int)) : Cond := .constant (pg_cn q.1) q.2.1 (Int32.ofInt q.2.2)
set_option maxRecDepth 100000 in
theorem pg_kl_ok : pg_kl.all (fun q => decide (lw_tbl[q.2]? = some (pg_kC q.1))) = true := by decide +kernel
def pg_jl : List ((Nat × Nat × Int) × Nat) := [((8, 237, 1000000000), 676), ((8, 239, 1000), 677), ((8, 267, 1103515245), 597), ((8, 269, 12345), 598), ((8, 271, 2147483648), 599), ((9, 51, 255), 838), ((9, 75, 48), 876), ((9, 77, 57), 877), ((9, 179, 5), 979), ((9, 196, 30), 1013), ((9, 204, 1103515245), 1038), ((9, 206, 12345), 1039), ((9, 208, 2147483648), 1040), ((9, 244, 60), 1094), ((9, 246, 1000), 1095), ((9, 248, 1000000000), 1096)]
def pg_jC (q : (Nat × Nat × Int)) : Cond := .constantLong (pg_cn q.1) q.2.1 (Int64.ofInt q.2.2)
set_option maxRecDepth 100000 in
theorem pg_jl_ok : pg_jl.all (fun q => decide (lw_tbl[q.2]? = some (pg_jC q.1))) = true := by decide +kernel
def pg_nl : List ((Nat × Nat × Nat) × Nat) := [((1, 9, 3), 211), ((2, 7, 3), 282), ((5, 9, 4), 142), ((8, 7, 4), 89), ((8, 16, 5), 136), ((8, 23, 3), 169), ((8, 35, 1), 205), ((8, 42, 7), 225), ((8, 49, 6), 235), ((8, 56, 0), 258), ((8, 63, 2), 275), ((10, 7, 8), 81), ((10, 10, 9), 754)]
def pg_nC (q : (Nat × Nat × Nat)) : Cond := .classLink (pg_cn q.1) q.2.1 (pg_cn q.2.2)
set_option maxRecDepth 100000 in
theorem pg_nl_ok : pg_nl.all (fun q => decide (lw_tbl[q.2]? = some (pg_nC q.1))) = true := by decide +kernel
def pg_ql : List ((Nat × Nat × Nat) × Nat) := [((1, 9, 2), 211), ((8, 63, 3), 275)]
def pg_qC (q : (Nat × Nat × Nat)) : Cond := .classLink (pg_cn q.1) q.2.1 (if q.2.2 = 2 then "PersonLines$Life" else "PersonLines$Image")
set_option maxRecDepth 100000 in
theorem pg_ql_ok : pg_ql.all (fun q => decide (lw_tbl[q.2]? = some (pg_qC q.1))) = true := by decide +kernel
def pg_il : List (Nat × Nat) := [(0, 259), (1, 206), (2, 277), (3, 170), (4, 90), (5, 137), (6, 236), (7, 226), (8, 82), (9, 755)]
def pg_iC (q : Nat) : Cond := .instantiable (pg_cn q) (pg_nf q)
set_option maxRecDepth 100000 in
theorem pg_il_ok : pg_il.all (fun q => decide (lw_tbl[q.2]? = some (pg_iC q.1))) = true := by decide +kernel
def pg_zl : List (Nat × Nat) := [(0, 75), (1, 72), (2, 76), (3, 71), (4, 69), (5, 70), (6, 74), (7, 73), (8, 68), (9, 77), (10, 67), (11, 80), (12, 79)]
def pg_zC (q : Nat) : Cond := .initialized (pg_cn q)
set_option maxRecDepth 100000 in
theorem pg_zl_ok : pg_zl.all (fun q => decide (lw_tbl[q.2]? = some (pg_zC q.1))) = true := by decide +kernel
def pg_vl : List (Nat × Nat) := [(0, 261), (1, 424), (2, 723), (3, 731), (4, 208), (5, 416), (6, 531), (7, 606), (8, 279), (9, 172), (10, 403), (11, 535), (12, 412), (13, 461), (14, 483), (15, 457), (16, 526), (17, 522), (18, 518), (19, 453), (20, 449), (21, 646), (22, 542), (23, 551), (24, 556), (25, 567), (26, 408), (27, 664), (28, 669), (29, 92), (30, 396), (31, 380), (32, 139), (33, 336), (34, 344), (35, 353), (36, 361), (37, 385), (38, 389), (39, 393), (40, 357), (41, 369), (42, 373), (43, 377), (44, 349), (45, 365), (46, 238), (47, 420), (48, 683), (49, 700), (50, 696), (51, 691), (52, 708), (53, 715), (54, 228), (55, 441), (56, 446), (57, 474), (58, 469), (59, 615), (60, 619), (61, 624), (62, 436), (63, 84), (64, 330), (65, 340), (66, 428), (67, 432), (68, 487), (69, 497), (70, 501), (71, 514), (72, 547), (73, 559), (74, 571), (75, 576), (76, 582), (77, 602), (78, 610), (79, 629), (80, 634), (81, 642), (82, 650), (83, 654), (84, 659), (85, 673), (86, 679), (87, 687), (88, 704), (89, 719), (90, 727), (91, 735), (92, 739), (93, 743), (94, 751), (95, 492), (96, 506), (97, 510), (98, 748), (99, 564), (100, 639), (101, 587), (102, 591), (103, 595), (104, 757), (108, 835), (109, 850), (110, 862), (111, 874), (112, 870), (113, 866), (114, 858), (115, 885), (116, 881), (117, 854), (118, 845), (119, 892), (120, 895), (121, 960), (122, 973), (123, 945), (124, 1003), (125, 933), (126, 929), (127, 925), (128, 941), (129, 908), (130, 952), (131, 899), (132, 955), (133, 964), (134, 968), (135, 987), (136, 983), (137, 991), (138, 999), (139, 976), (140, 994), (141, 1016), (142, 1011), (143, 1006), (144, 1019), (145, 1023), (146, 1036), (147, 1032), (148, 1027), (149, 1043), (150, 920), (151, 937), (152, 916), (153, 1047), (154, 1052), (155, 912), (156, 1055), (157, 1059), (158, 1068), (159, 1063), (160, 1071), (161, 904), (162, 1080), (163, 1075), (164, 1088), (165, 1083), (166, 1091), (167, 1098), (168, 1107), (169, 1102), (170, 1116), (171, 1110), (172, 1119), (173, 1123), (174, 1127), (175, 1131), (176, 1135), (177, 1139)]
def pg_vC (q : Nat) : Cond := .instanceMethod (pg_y q)
set_option maxRecDepth 100000 in
theorem pg_vl_ok : pg_vl.all (fun q => decide (lw_tbl[q.2]? = some (pg_vC q.1))) = true := by decide +kernel
def pg_sl : List (Nat × Nat) := [(105, 840), (106, 948), (107, 888), (178, 477)]
def pg_sC (q : Nat) : Cond := .static (pg_y q)
set_option maxRecDepth 100000 in
theorem pg_sl_ok : pg_sl.all (fun q => decide (lw_tbl[q.2]? = some (pg_sC q.1))) = true := by decide +kernel
def pg_el : List (Nat × Nat) := [(1, 425), (2, 724), (3, 732), (5, 417), (6, 532), (7, 607), (10, 404), (11, 536), (12, 413), (13, 462), (14, 484), (15, 458), (16, 527), (17, 523), (18, 519), (19, 454), (20, 450), (21, 647), (22, 543), (23, 552), (24, 16), (25, 568), (26, 409), (27, 665), (28, 23), (30, 397), (31, 381), (33, 337), (34, 345), (35, 1), (36, 3), (37, 8), (38, 9), (39, 10), (40, 2), (41, 5), (42, 6), (43, 7), (44, 0), (45, 4), (47, 421), (48, 684), (49, 25), (50, 24), (51, 692), (52, 709), (53, 26), (55, 442), (56, 11), (57, 12), (58, 470), (59, 616), (60, 620), (61, 21), (62, 437), (64, 331), (65, 341), (66, 429), (67, 433), (68, 488), (69, 498), (70, 502), (71, 515), (72, 548), (73, 560), (74, 572), (75, 577), (76, 583), (77, 603), (78, 611), (79, 630), (80, 635), (81, 643), (82, 651), (83, 655), (84, 660), (85, 674), (86, 680), (87, 688), (88, 705), (89, 720), (90, 728), (91, 736), (92, 740), (93, 744), (94, 752), (95, 13), (96, 14), (97, 15), (98, 27), (99, 17), (100, 22), (101, 18), (102, 19), (103, 20), (108, 836), (109, 28), (110, 31), (111, 34), (112, 33), (113, 32), (114, 30), (115, 36), (116, 35), (117, 29), (118, 846), (119, 37), (120, 896), (121, 50), (122, 51), (123, 48), (124, 56), (125, 45), (126, 44), (127, 43), (128, 47), (129, 39), (130, 49), (131, 900), (132, 956), (133, 965), (134, 969), (135, 53), (136, 52), (137, 54), (138, 55), (139, 977), (140, 995), (141, 58), (142, 57), (143, 1007), (144, 1020), (145, 1024), (146, 60), (147, 59), (148, 1028), (149, 1044), (150, 42), (151, 46), (152, 41), (153, 1048), (154, 61), (155, 40), (156, 1056), (157, 1060), (158, 62), (159, 1064), (160, 1072), (161, 38), (162, 63), (163, 1076), (164, 64), (165, 1084), (166, 1092), (167, 1099), (168, 65), (169, 1103), (170, 66), (171, 1111), (172, 1120), (173, 1124), (174, 1128), (175, 1132), (176, 1136), (177, 1140)]
def pg_eC (q : Nat) : Cond := .selects (pg_cn (pg_oc q)) (pg_y q) (pg_y q)
set_option maxRecDepth 100000 in
theorem pg_el_ok : pg_el.all (fun q => decide (lw_tbl[q.2]? = some (pg_eC q.1))) = true := by decide +kernel
theorem pg_w_oi : Cond.instanceMethod objectInit ∈ lw_tbl := List.mem_of_getElem? (i := 87) (by decide +kernel)
theorem pg_w_oc : Cond.code objectInit ⟨#[0xb1]⟩ 1 none ∈ lw_tbl := List.mem_of_getElem? (i := 88) (by decide +kernel)
theorem pg_w_an : Cond.native arraycopyName ∈ lw_tbl := List.mem_of_getElem? (i := 401) (by decide +kernel)
theorem pg_w_as : Cond.static arraycopyName ∈ lw_tbl := List.mem_of_getElem? (i := 400) (by decide +kernel)
theorem pg_w_ai : Cond.initialized "java/lang/System" ∈ lw_tbl := List.mem_of_getElem? (i := 78) (by decide +kernel)
theorem pg_w_ci : Cond.arrayClass .int ∈ lw_tbl := List.mem_of_getElem? (i := 135) (by decide +kernel)
theorem pg_w_cz : Cond.arrayClass .boolean ∈ lw_tbl := List.mem_of_getElem? (i := 833) (by decide +kernel)
theorem pg_w_ol : Cond.arrayOver (.object "PersonLines$Life") ∈ lw_tbl := List.mem_of_getElem? (i := 212) (by decide +kernel)
theorem pg_w_om : Cond.arrayOver (.object "PersonLines$Image") ∈ lw_tbl := List.mem_of_getElem? (i := 276) (by decide +kernel)
theorem pg_w_xs : Cond.static Lib.Math.max.name ∈ lw_tbl := List.mem_of_getElem? (i := 465) (by decide +kernel)
theorem pg_w_ns : Cond.static Lib.Math.min.name ∈ lw_tbl := List.mem_of_getElem? (i := 539) (by decide +kernel)
theorem pg_w_mi : Cond.initialized "java/lang/Math" ∈ lw_tbl := List.mem_of_getElem? (i := 79) (by decide +kernel)
theorem pg_w_xc : Cond.code Lib.Math.max.name Lib.Math.max.code 2 (some .int) ∈ lw_tbl := List.mem_of_getElem? (i := 466) (by decide +kernel)
theorem pg_w_nc : Cond.code Lib.Math.min.name Lib.Math.min.code 2 (some .int) ∈ lw_tbl := List.mem_of_getElem? (i := 540) (by decide +kernel)
theorem pg_u0 : ∀ w ∈ u_ws (pg_cn 0) pg_T0 3, w ∈ lw_tbl := by decide +kernel
theorem pg_u1 : ∀ w ∈ u_ws (pg_cn 1) pg_T1 3, w ∈ lw_tbl := by decide +kernel
theorem pg_u2 : ∀ w ∈ u_ws (pg_cn 2) pg_T2 3, w ∈ lw_tbl := by decide +kernel
theorem pg_u3 : ∀ w ∈ u_ws (pg_cn 3) pg_T3 7, w ∈ lw_tbl := by decide +kernel
theorem pg_u4 : ∀ w ∈ u_ws (pg_cn 4) pg_T4 6, w ∈ lw_tbl := by decide +kernel
theorem pg_u5 : ∀ w ∈ u_ws (pg_cn 5) pg_T5 7, w ∈ lw_tbl := by decide +kernel
theorem pg_u6 : ∀ w ∈ u_ws (pg_cn 6) pg_T6 5, w ∈ lw_tbl := by decide +kernel
theorem pg_u7 : ∀ w ∈ u_ws (pg_cn 7) pg_T7 1, w ∈ lw_tbl := by decide +kernel
theorem pg_u8 : ∀ w ∈ u_ws (pg_cn 8) pg_T8 11, w ∈ lw_tbl := by decide +kernel
theorem pg_u9 : ∀ w ∈ u_ws (pg_cn 9) pg_T9 24, w ∈ lw_tbl := by decide +kernel
def pg_isr (c k : Nat) : Bool := match pg_ft c k with
  | .object _ => true
  | .array _ => true
  | _ => false
/-- the words that hold through a run: good ones, and those of nest mates -/
def pg_gw (w : Cond) : Bool := match w with
  | .methodLinkNest _ _ _ _ => true
  | w => goodWord w
def pg_len (i : Instr) : Nat := match i with
  | .iconst _ | .lconst _ | .iload_n _ | .lload_n _ | .aload_n _ | .istore_n _ | .lstore_n _ | .astore_n _ => 1
  | .bipush _ | .ldc _ | .iload _ | .lload _ | .istore _ | .newarray _ => 2
  | .sipush _ | .ldc_w _ | .ldc2_w _ | .iinc _ _ | .goto _ | .if_icmp _ _ | .ifCond _ _ | .anewarray _ | .new _ | .getfield _ | .putfield _ | .invokevirtual _ | .invokespecial _ | .invokestatic _ => 3
  | _ => 1
/-- a one-slot store at a may not touch a long -/
def pg_s1 (z a : Nat) : Bool := decide (a < pg_mx z) && !(pg_lg z).contains a && (decide (a = 0) || !(pg_lg z).contains (a - 1))
def pg_pn (z : Nat) : Option Nat := (parseMethodDescriptor (pg_y z).desc).map (fun d => d.parameters.length)
/-- what is looked at in an instruction beside its decoding -/
def pg_okA (z pc : Nat) (e : am_E) : Bool := match e with
  | (i, n, a, b, v) => match i with
    | .iconst k => decide (k = v)
    | .bipush k => decide ((Int8.ofInt k).toInt32 = Int32.ofInt v)
    | .sipush k => decide ((Int16.ofInt k).toInt32 = Int32.ofInt v)
    | .ldc k => pg_kl.any (fun q => decide (q.1 = (pg_oc z, k, v)))
    | .ldc_w k => pg_kl.any (fun q => decide (q.1 = (pg_oc z, k, v)))
    | .ldc2_w k => pg_jl.any (fun q => decide (q.1 = (pg_oc z, k, v)))
    | .lconst k => decide (((k : Nat) : Int) = v)
    | .iload_n k => decide ((k : Nat) = a)
    | .iload k => decide (k = a)
    | .lload_n k => decide ((k : Nat) = a)
    | .lload k => decide (k = a)
    | .aload_n k => decide ((k : Nat) = a)
    | .istore_n k => decide ((k : Nat) = a) && pg_s1 z a
    | .istore k => decide (k = a) && pg_s1 z a
    | .astore_n k => decide ((k : Nat) = a) && pg_s1 z a
    | .lstore_n k => decide ((k : Nat) = a) && decide (a + 1 < pg_mx z) && (pg_lg z).contains a && (decide (a = 0) || !(pg_lg z).contains (a - 1))
    | .iinc k x => decide (k = a) && decide (x = v) && pg_s1 z a
    | .goto x => decide ((pc : Int) + x = (a : Int))
    | .if_icmp _ x => decide ((pc : Int) + x = (a : Int))
    | .ifCond _ x => decide ((pc : Int) + x = (a : Int))
    | .tableswitch d lo hi offs => decide (0 ≤ (pc : Int) + d) && offs.all (fun x => decide (0 ≤ (pc : Int) + x)) && decide ((offs.size : Int) = hi - lo + 1)
    | .newarray t => (decide (t = .int) && decide (a = 0)) || (decide (t = .boolean) && decide (a = 1))
    | .anewarray k => pg_ql.any (fun q => decide (q.1 = (pg_oc z, k, a))) && (decide (a = 2) || decide (a = 3))
    | .new k => pg_nl.any (fun q => decide (q.1 = (pg_oc z, k, a))) && decide (a < 10) && decide (b = pg_nf a)
    | .getfield k => pg_fl.any (fun q => decide (q.1 = (pg_oc z, k, a, b))) && decide (a < 10) && decide (b < pg_nf a) && decide ((v = 1) ↔ (pg_isr a b = true))
    | .putfield k => pg_fl.any (fun q => decide (q.1 = (pg_oc z, k, a, b))) && decide (a < 10) && decide (b < pg_nf a) && decide ((v = 1) ↔ (pg_isr a b = true)) && decide (v = 1 → (pg_fT a b).2.2.2 = true ∧ (pg_y z).name = "<init>" ∧ pg_oc z = a) && decide (¬ v = 1 → (pg_fT a b).2.2.2 = false ∧ (pg_ft a b = .int ∨ pg_ft a b = .boolean ∧ v = 2))
    | .invokevirtual k => pg_ml.any (fun q => decide (q.1 = (pg_oc z, k, a))) && decide (a < 179) && decide (v = (pg_oc a : Int)) && decide (pg_ht a < pg_ht z) && decide (0 < b) && decide (pg_pn a = some (b - 1)) && pg_el.any (fun q => decide (q.1 = a)) && pg_vl.any (fun q => decide (q.1 = a))
    | .invokespecial k => if v = 1 then pg_ol.any (fun q => decide (q.1 = (pg_oc z, k))) && decide (1 ≤ pg_ht z) else (pg_ml.any (fun q => decide (q.1 = (pg_oc z, k, a))) || pg_xl.any (fun q => decide (q.1 = (pg_oc z, k, a)))) && decide (a < 179) && decide (pg_ht a < pg_ht z) && decide (0 < b) && decide (pg_pn a = some (b - 1)) && decide ((pg_y a).name = "<init>") && pg_vl.any (fun q => decide (q.1 = a)) && decide (pg_rt a = none)
    | .invokestatic k => if v = 2 then pg_al.any (fun q => decide (q.1 = (pg_oc z, k))) && decide (1 ≤ pg_ht z) else if v = 3 then pg_xx.any (fun q => decide (q.1 = (pg_oc z, k))) && decide (1 ≤ pg_ht z) else if v = 4 then pg_xn.any (fun q => decide (q.1 = (pg_oc z, k))) && decide (1 ≤ pg_ht z) else pg_ml.any (fun q => decide (q.1 = (pg_oc z, k, a))) && decide (a < 179) && decide (pg_ht a < pg_ht z) && decide (pg_pn a = some b) && pg_sl.any (fun q => decide (q.1 = a))
    | .ireturn => (decide (a = 1) && decide (pg_rt z = some .boolean)) || (decide (a = 0) && decide (pg_rt z = some .int))
    | .return_ => decide (pg_rt z = none)
    | _ => true
def pg_isT (i : Instr) : Bool := match i with
  | .tableswitch _ _ _ _ => true
  | _ => false
def pg_okE (z pc : Nat) (e : am_E) : Bool := decide (decode (pg_c z) pc = .ok (e.1, e.2.1)) && (pg_isT e.1 || decide (e.2.1 = pg_len e.1)) && pg_okA z pc e
def pg_okL (z : Nat) : Nat → List am_E → Bool
  | _, [] => true
  | pc, e :: is => pg_okE z pc e && pg_okL z (pc + e.2.1) is
def pg_okM (z : Nat) : Bool := (pg_bs z).all (fun q => pg_okL z q.1 q.2)
/-- what is looked at in a method -/
def pg_okY (z : Nat) : Bool := plainName (pg_y z).cls && decide (pg_cn (pg_oc z) = (pg_y z).cls) && decide ((pg_y z).cls ≠ "java/lang/invoke/MethodHandle" ∧ (pg_y z).cls ≠ "java/lang/invoke/VarHandle") && decide (pg_mx z ≤ 10) && decide (pg_oc z < 13) && decide (pg_ht z ≤ 8)
set_option maxRecDepth 100000 in
theorem pg_okY_all : (List.range 180).all pg_okY = true := by decide +kernel
/-- the code words, by their places -/
theorem pg_cd0 : Cond.code (pg_y 0) (pg_c 0) (pg_mx 0) (pg_rt 0) ∈ lw_tbl := List.mem_append_right _ (List.mem_append_left _ (List.mem_of_getElem? (i := 195) rfl : _ ∈ tables_1_1))
theorem pg_cd1 : Cond.code (pg_y 1) (pg_c 1) (pg_mx 1) (pg_rt 1) ∈ lw_tbl := List.mem_append_right _ (List.mem_append_right _ (List.mem_append_left _ (List.mem_of_getElem? (i := 119) rfl : _ ∈ tables_1_2)))
theorem pg_cd2 : Cond.code (pg_y 2) (pg_c 2) (pg_mx 2) (pg_rt 2) ∈ lw_tbl := List.mem_append_right _ (List.mem_append_right _ (List.mem_append_right _ (List.mem_append_left _ (List.mem_of_getElem? (i := 178) rfl : _ ∈ tables_1_3))))
theorem pg_cd3 : Cond.code (pg_y 3) (pg_c 3) (pg_mx 3) (pg_rt 3) ∈ lw_tbl := List.mem_append_right _ (List.mem_append_right _ (List.mem_append_right _ (List.mem_append_left _ (List.mem_of_getElem? (i := 186) rfl : _ ∈ tables_1_3))))
theorem pg_cd4 : Cond.code (pg_y 4) (pg_c 4) (pg_mx 4) (pg_rt 4) ∈ lw_tbl := List.mem_append_right _ (List.mem_append_left _ (List.mem_of_getElem? (i := 142) rfl : _ ∈ tables_1_1))
theorem pg_cd5 : Cond.code (pg_y 5) (pg_c 5) (pg_mx 5) (pg_rt 5) ∈ lw_tbl := List.mem_append_right _ (List.mem_append_right _ (List.mem_append_left _ (List.mem_of_getElem? (i := 111) rfl : _ ∈ tables_1_2)))
theorem pg_cd6 : Cond.code (pg_y 6) (pg_c 6) (pg_mx 6) (pg_rt 6) ∈ lw_tbl := List.mem_append_right _ (List.mem_append_right _ (List.mem_append_left _ (List.mem_of_getElem? (i := 226) rfl : _ ∈ tables_1_2)))
theorem pg_cd7 : Cond.code (pg_y 7) (pg_c 7) (pg_mx 7) (pg_rt 7) ∈ lw_tbl := List.mem_append_right _ (List.mem_append_right _ (List.mem_append_right _ (List.mem_append_left _ (List.mem_of_getElem? (i := 61) rfl : _ ∈ tables_1_3))))
theorem pg_cd8 : Cond.code (pg_y 8) (pg_c 8) (pg_mx 8) (pg_rt 8) ∈ lw_tbl := List.mem_append_right _ (List.mem_append_left _ (List.mem_of_getElem? (i := 213) rfl : _ ∈ tables_1_1))
theorem pg_cd9 : Cond.code (pg_y 9) (pg_c 9) (pg_mx 9) (pg_rt 9) ∈ lw_tbl := List.mem_append_right _ (List.mem_append_left _ (List.mem_of_getElem? (i := 106) rfl : _ ∈ tables_1_1))
theorem pg_cd10 : Cond.code (pg_y 10) (pg_c 10) (pg_mx 10) (pg_rt 10) ∈ lw_tbl := List.mem_append_right _ (List.mem_append_right _ (List.mem_append_left _ (List.mem_of_getElem? (i := 98) rfl : _ ∈ tables_1_2)))
theorem pg_cd11 : Cond.code (pg_y 11) (pg_c 11) (pg_mx 11) (pg_rt 11) ∈ lw_tbl := List.mem_append_right _ (List.mem_append_right _ (List.mem_append_left _ (List.mem_of_getElem? (i := 230) rfl : _ ∈ tables_1_2)))
theorem pg_cd12 : Cond.code (pg_y 12) (pg_c 12) (pg_mx 12) (pg_rt 12) ∈ lw_tbl := List.mem_append_right _ (List.mem_append_right _ (List.mem_append_left _ (List.mem_of_getElem? (i := 107) rfl : _ ∈ tables_1_2)))
theorem pg_cd13 : Cond.code (pg_y 13) (pg_c 13) (pg_mx 13) (pg_rt 13) ∈ lw_tbl := List.mem_append_right _ (List.mem_append_right _ (List.mem_append_left _ (List.mem_of_getElem? (i := 156) rfl : _ ∈ tables_1_2)))
theorem pg_cd14 : Cond.code (pg_y 14) (pg_c 14) (pg_mx 14) (pg_rt 14) ∈ lw_tbl := List.mem_append_right _ (List.mem_append_right _ (List.mem_append_left _ (List.mem_of_getElem? (i := 178) rfl : _ ∈ tables_1_2)))
theorem pg_cd15 : Cond.code (pg_y 15) (pg_c 15) (pg_mx 15) (pg_rt 15) ∈ lw_tbl := List.mem_append_right _ (List.mem_append_right _ (List.mem_append_left _ (List.mem_of_getElem? (i := 152) rfl : _ ∈ tables_1_2)))
theorem pg_cd16 : Cond.code (pg_y 16) (pg_c 16) (pg_mx 16) (pg_rt 16) ∈ lw_tbl := List.mem_append_right _ (List.mem_append_right _ (List.mem_append_left _ (List.mem_of_getElem? (i := 221) rfl : _ ∈ tables_1_2)))
theorem pg_cd17 : Cond.code (pg_y 17) (pg_c 17) (pg_mx 17) (pg_rt 17) ∈ lw_tbl := List.mem_append_right _ (List.mem_append_right _ (List.mem_append_left _ (List.mem_of_getElem? (i := 217) rfl : _ ∈ tables_1_2)))
theorem pg_cd18 : Cond.code (pg_y 18) (pg_c 18) (pg_mx 18) (pg_rt 18) ∈ lw_tbl := List.mem_append_right _ (List.mem_append_right _ (List.mem_append_left _ (List.mem_of_getElem? (i := 213) rfl : _ ∈ tables_1_2)))
theorem pg_cd19 : Cond.code (pg_y 19) (pg_c 19) (pg_mx 19) (pg_rt 19) ∈ lw_tbl := List.mem_append_right _ (List.mem_append_right _ (List.mem_append_left _ (List.mem_of_getElem? (i := 148) rfl : _ ∈ tables_1_2)))
theorem pg_cd20 : Cond.code (pg_y 20) (pg_c 20) (pg_mx 20) (pg_rt 20) ∈ lw_tbl := List.mem_append_right _ (List.mem_append_right _ (List.mem_append_left _ (List.mem_of_getElem? (i := 144) rfl : _ ∈ tables_1_2)))
theorem pg_cd21 : Cond.code (pg_y 21) (pg_c 21) (pg_mx 21) (pg_rt 21) ∈ lw_tbl := List.mem_append_right _ (List.mem_append_right _ (List.mem_append_right _ (List.mem_append_left _ (List.mem_of_getElem? (i := 101) rfl : _ ∈ tables_1_3))))
theorem pg_cd22 : Cond.code (pg_y 22) (pg_c 22) (pg_mx 22) (pg_rt 22) ∈ lw_tbl := List.mem_append_right _ (List.mem_append_right _ (List.mem_append_left _ (List.mem_of_getElem? (i := 237) rfl : _ ∈ tables_1_2)))
theorem pg_cd23 : Cond.code (pg_y 23) (pg_c 23) (pg_mx 23) (pg_rt 23) ∈ lw_tbl := List.mem_append_right _ (List.mem_append_right _ (List.mem_append_right _ (List.mem_append_left _ (List.mem_of_getElem? (i := 6) rfl : _ ∈ tables_1_3))))
theorem pg_cd24 : Cond.code (pg_y 24) (pg_c 24) (pg_mx 24) (pg_rt 24) ∈ lw_tbl := List.mem_append_right _ (List.mem_append_right _ (List.mem_append_right _ (List.mem_append_left _ (List.mem_of_getElem? (i := 10) rfl : _ ∈ tables_1_3))))
theorem pg_cd25 : Cond.code (pg_y 25) (pg_c 25) (pg_mx 25) (pg_rt 25) ∈ lw_tbl := List.mem_append_right _ (List.mem_append_right _ (List.mem_append_right _ (List.mem_append_left _ (List.mem_of_getElem? (i := 22) rfl : _ ∈ tables_1_3))))
theorem pg_cd26 : Cond.code (pg_y 26) (pg_c 26) (pg_mx 26) (pg_rt 26) ∈ lw_tbl := List.mem_append_right _ (List.mem_append_right _ (List.mem_append_left _ (List.mem_of_getElem? (i := 103) rfl : _ ∈ tables_1_2)))
theorem pg_cd27 : Cond.code (pg_y 27) (pg_c 27) (pg_mx 27) (pg_rt 27) ∈ lw_tbl := List.mem_append_right _ (List.mem_append_right _ (List.mem_append_right _ (List.mem_append_left _ (List.mem_of_getElem? (i := 119) rfl : _ ∈ tables_1_3))))
theorem pg_cd28 : Cond.code (pg_y 28) (pg_c 28) (pg_mx 28) (pg_rt 28) ∈ lw_tbl := List.mem_append_right _ (List.mem_append_right _ (List.mem_append_right _ (List.mem_append_left _ (List.mem_of_getElem? (i := 123) rfl : _ ∈ tables_1_3))))
theorem pg_cd29 : Cond.code (pg_y 29) (pg_c 29) (pg_mx 29) (pg_rt 29) ∈ lw_tbl := List.mem_append_right _ (List.mem_append_left _ (List.mem_of_getElem? (i := 26) rfl : _ ∈ tables_1_1))
theorem pg_cd30 : Cond.code (pg_y 30) (pg_c 30) (pg_mx 30) (pg_rt 30) ∈ lw_tbl := List.mem_append_right _ (List.mem_append_right _ (List.mem_append_left _ (List.mem_of_getElem? (i := 91) rfl : _ ∈ tables_1_2)))
theorem pg_cd31 : Cond.code (pg_y 31) (pg_c 31) (pg_mx 31) (pg_rt 31) ∈ lw_tbl := List.mem_append_right _ (List.mem_append_right _ (List.mem_append_left _ (List.mem_of_getElem? (i := 75) rfl : _ ∈ tables_1_2)))
theorem pg_cd32 : Cond.code (pg_y 32) (pg_c 32) (pg_mx 32) (pg_rt 32) ∈ lw_tbl := List.mem_append_right _ (List.mem_append_left _ (List.mem_of_getElem? (i := 73) rfl : _ ∈ tables_1_1))
theorem pg_cd33 : Cond.code (pg_y 33) (pg_c 33) (pg_mx 33) (pg_rt 33) ∈ lw_tbl := List.mem_append_right _ (List.mem_append_right _ (List.mem_append_left _ (List.mem_of_getElem? (i := 31) rfl : _ ∈ tables_1_2)))
theorem pg_cd34 : Cond.code (pg_y 34) (pg_c 34) (pg_mx 34) (pg_rt 34) ∈ lw_tbl := List.mem_append_right _ (List.mem_append_right _ (List.mem_append_left _ (List.mem_of_getElem? (i := 39) rfl : _ ∈ tables_1_2)))
theorem pg_cd35 : Cond.code (pg_y 35) (pg_c 35) (pg_mx 35) (pg_rt 35) ∈ lw_tbl := List.mem_append_right _ (List.mem_append_right _ (List.mem_append_left _ (List.mem_of_getElem? (i := 47) rfl : _ ∈ tables_1_2)))
theorem pg_cd36 : Cond.code (pg_y 36) (pg_c 36) (pg_mx 36) (pg_rt 36) ∈ lw_tbl := List.mem_append_right _ (List.mem_append_right _ (List.mem_append_left _ (List.mem_of_getElem? (i := 55) rfl : _ ∈ tables_1_2)))
theorem pg_cd37 : Cond.code (pg_y 37) (pg_c 37) (pg_mx 37) (pg_rt 37) ∈ lw_tbl := List.mem_append_right _ (List.mem_append_right _ (List.mem_append_left _ (List.mem_of_getElem? (i := 79) rfl : _ ∈ tables_1_2)))
theorem pg_cd38 : Cond.code (pg_y 38) (pg_c 38) (pg_mx 38) (pg_rt 38) ∈ lw_tbl := List.mem_append_right _ (List.mem_append_right _ (List.mem_append_left _ (List.mem_of_getElem? (i := 83) rfl : _ ∈ tables_1_2)))
theorem pg_cd39 : Cond.code (pg_y 39) (pg_c 39) (pg_mx 39) (pg_rt 39) ∈ lw_tbl := List.mem_append_right _ (List.mem_append_right _ (List.mem_append_left _ (List.mem_of_getElem? (i := 87) rfl : _ ∈ tables_1_2)))
theorem pg_cd40 : Cond.code (pg_y 40) (pg_c 40) (pg_mx 40) (pg_rt 40) ∈ lw_tbl := List.mem_append_right _ (List.mem_append_right _ (List.mem_append_left _ (List.mem_of_getElem? (i := 51) rfl : _ ∈ tables_1_2)))
theorem pg_cd41 : Cond.code (pg_y 41) (pg_c 41) (pg_mx 41) (pg_rt 41) ∈ lw_tbl := List.mem_append_right _ (List.mem_append_right _ (List.mem_append_left _ (List.mem_of_getElem? (i := 63) rfl : _ ∈ tables_1_2)))
theorem pg_cd42 : Cond.code (pg_y 42) (pg_c 42) (pg_mx 42) (pg_rt 42) ∈ lw_tbl := List.mem_append_right _ (List.mem_append_right _ (List.mem_append_left _ (List.mem_of_getElem? (i := 67) rfl : _ ∈ tables_1_2)))
theorem pg_cd43 : Cond.code (pg_y 43) (pg_c 43) (pg_mx 43) (pg_rt 43) ∈ lw_tbl := List.mem_append_right _ (List.mem_append_right _ (List.mem_append_left _ (List.mem_of_getElem? (i := 71) rfl : _ ∈ tables_1_2)))
theorem pg_cd44 : Cond.code (pg_y 44) (pg_c 44) (pg_mx 44) (pg_rt 44) ∈ lw_tbl := List.mem_append_right _ (List.mem_append_right _ (List.mem_append_left _ (List.mem_of_getElem? (i := 43) rfl : _ ∈ tables_1_2)))
theorem pg_cd45 : Cond.code (pg_y 45) (pg_c 45) (pg_mx 45) (pg_rt 45) ∈ lw_tbl := List.mem_append_right _ (List.mem_append_right _ (List.mem_append_left _ (List.mem_of_getElem? (i := 59) rfl : _ ∈ tables_1_2)))
theorem pg_cd46 : Cond.code (pg_y 46) (pg_c 46) (pg_mx 46) (pg_rt 46) ∈ lw_tbl := List.mem_append_right _ (List.mem_append_left _ (List.mem_of_getElem? (i := 172) rfl : _ ∈ tables_1_1))
theorem pg_cd47 : Cond.code (pg_y 47) (pg_c 47) (pg_mx 47) (pg_rt 47) ∈ lw_tbl := List.mem_append_right _ (List.mem_append_right _ (List.mem_append_left _ (List.mem_of_getElem? (i := 115) rfl : _ ∈ tables_1_2)))
theorem pg_cd48 : Cond.code (pg_y 48) (pg_c 48) (pg_mx 48) (pg_rt 48) ∈ lw_tbl := List.mem_append_right _ (List.mem_append_right _ (List.mem_append_right _ (List.mem_append_left _ (List.mem_of_getElem? (i := 138) rfl : _ ∈ tables_1_3))))
theorem pg_cd49 : Cond.code (pg_y 49) (pg_c 49) (pg_mx 49) (pg_rt 49) ∈ lw_tbl := List.mem_append_right _ (List.mem_append_right _ (List.mem_append_right _ (List.mem_append_left _ (List.mem_of_getElem? (i := 154) rfl : _ ∈ tables_1_3))))
theorem pg_cd50 : Cond.code (pg_y 50) (pg_c 50) (pg_mx 50) (pg_rt 50) ∈ lw_tbl := List.mem_append_right _ (List.mem_append_right _ (List.mem_append_right _ (List.mem_append_left _ (List.mem_of_getElem? (i := 150) rfl : _ ∈ tables_1_3))))
theorem pg_cd51 : Cond.code (pg_y 51) (pg_c 51) (pg_mx 51) (pg_rt 51) ∈ lw_tbl := List.mem_append_right _ (List.mem_append_right _ (List.mem_append_right _ (List.mem_append_left _ (List.mem_of_getElem? (i := 146) rfl : _ ∈ tables_1_3))))
theorem pg_cd52 : Cond.code (pg_y 52) (pg_c 52) (pg_mx 52) (pg_rt 52) ∈ lw_tbl := List.mem_append_right _ (List.mem_append_right _ (List.mem_append_right _ (List.mem_append_left _ (List.mem_of_getElem? (i := 163) rfl : _ ∈ tables_1_3))))
theorem pg_cd53 : Cond.code (pg_y 53) (pg_c 53) (pg_mx 53) (pg_rt 53) ∈ lw_tbl := List.mem_append_right _ (List.mem_append_right _ (List.mem_append_right _ (List.mem_append_left _ (List.mem_of_getElem? (i := 169) rfl : _ ∈ tables_1_3))))
theorem pg_cd54 : Cond.code (pg_y 54) (pg_c 54) (pg_mx 54) (pg_rt 54) ∈ lw_tbl := List.mem_append_right _ (List.mem_append_left _ (List.mem_of_getElem? (i := 162) rfl : _ ∈ tables_1_1))
theorem pg_cd55 : Cond.code (pg_y 55) (pg_c 55) (pg_mx 55) (pg_rt 55) ∈ lw_tbl := List.mem_append_right _ (List.mem_append_right _ (List.mem_append_left _ (List.mem_of_getElem? (i := 136) rfl : _ ∈ tables_1_2)))
theorem pg_cd56 : Cond.code (pg_y 56) (pg_c 56) (pg_mx 56) (pg_rt 56) ∈ lw_tbl := List.mem_append_right _ (List.mem_append_right _ (List.mem_append_left _ (List.mem_of_getElem? (i := 140) rfl : _ ∈ tables_1_2)))
theorem pg_cd57 : Cond.code (pg_y 57) (pg_c 57) (pg_mx 57) (pg_rt 57) ∈ lw_tbl := List.mem_append_right _ (List.mem_append_right _ (List.mem_append_left _ (List.mem_of_getElem? (i := 168) rfl : _ ∈ tables_1_2)))
theorem pg_cd58 : Cond.code (pg_y 58) (pg_c 58) (pg_mx 58) (pg_rt 58) ∈ lw_tbl := List.mem_append_right _ (List.mem_append_right _ (List.mem_append_left _ (List.mem_of_getElem? (i := 164) rfl : _ ∈ tables_1_2)))
theorem pg_cd59 : Cond.code (pg_y 59) (pg_c 59) (pg_mx 59) (pg_rt 59) ∈ lw_tbl := List.mem_append_right _ (List.mem_append_right _ (List.mem_append_right _ (List.mem_append_left _ (List.mem_of_getElem? (i := 70) rfl : _ ∈ tables_1_3))))
theorem pg_cd60 : Cond.code (pg_y 60) (pg_c 60) (pg_mx 60) (pg_rt 60) ∈ lw_tbl := List.mem_append_right _ (List.mem_append_right _ (List.mem_append_right _ (List.mem_append_left _ (List.mem_of_getElem? (i := 74) rfl : _ ∈ tables_1_3))))
theorem pg_cd61 : Cond.code (pg_y 61) (pg_c 61) (pg_mx 61) (pg_rt 61) ∈ lw_tbl := List.mem_append_right _ (List.mem_append_right _ (List.mem_append_right _ (List.mem_append_left _ (List.mem_of_getElem? (i := 78) rfl : _ ∈ tables_1_3))))
theorem pg_cd62 : Cond.code (pg_y 62) (pg_c 62) (pg_mx 62) (pg_rt 62) ∈ lw_tbl := List.mem_append_right _ (List.mem_append_right _ (List.mem_append_left _ (List.mem_of_getElem? (i := 131) rfl : _ ∈ tables_1_2)))
theorem pg_cd63 : Cond.code (pg_y 63) (pg_c 63) (pg_mx 63) (pg_rt 63) ∈ lw_tbl := List.mem_append_right _ (List.mem_append_left _ (List.mem_of_getElem? (i := 18) rfl : _ ∈ tables_1_1))
theorem pg_cd64 : Cond.code (pg_y 64) (pg_c 64) (pg_mx 64) (pg_rt 64) ∈ lw_tbl := List.mem_append_right _ (List.mem_append_right _ (List.mem_append_left _ (List.mem_of_getElem? (i := 25) rfl : _ ∈ tables_1_2)))
theorem pg_cd65 : Cond.code (pg_y 65) (pg_c 65) (pg_mx 65) (pg_rt 65) ∈ lw_tbl := List.mem_append_right _ (List.mem_append_right _ (List.mem_append_left _ (List.mem_of_getElem? (i := 35) rfl : _ ∈ tables_1_2)))
theorem pg_cd66 : Cond.code (pg_y 66) (pg_c 66) (pg_mx 66) (pg_rt 66) ∈ lw_tbl := List.mem_append_right _ (List.mem_append_right _ (List.mem_append_left _ (List.mem_of_getElem? (i := 123) rfl : _ ∈ tables_1_2)))
theorem pg_cd67 : Cond.code (pg_y 67) (pg_c 67) (pg_mx 67) (pg_rt 67) ∈ lw_tbl := List.mem_append_right _ (List.mem_append_right _ (List.mem_append_left _ (List.mem_of_getElem? (i := 127) rfl : _ ∈ tables_1_2)))
theorem pg_cd68 : Cond.code (pg_y 68) (pg_c 68) (pg_mx 68) (pg_rt 68) ∈ lw_tbl := List.mem_append_right _ (List.mem_append_right _ (List.mem_append_left _ (List.mem_of_getElem? (i := 182) rfl : _ ∈ tables_1_2)))
theorem pg_cd69 : Cond.code (pg_y 69) (pg_c 69) (pg_mx 69) (pg_rt 69) ∈ lw_tbl := List.mem_append_right _ (List.mem_append_right _ (List.mem_append_left _ (List.mem_of_getElem? (i := 192) rfl : _ ∈ tables_1_2)))
theorem pg_cd70 : Cond.code (pg_y 70) (pg_c 70) (pg_mx 70) (pg_rt 70) ∈ lw_tbl := List.mem_append_right _ (List.mem_append_right _ (List.mem_append_left _ (List.mem_of_getElem? (i := 196) rfl : _ ∈ tables_1_2)))
theorem pg_cd71 : Cond.code (pg_y 71) (pg_c 71) (pg_mx 71) (pg_rt 71) ∈ lw_tbl := List.mem_append_right _ (List.mem_append_right _ (List.mem_append_left _ (List.mem_of_getElem? (i := 209) rfl : _ ∈ tables_1_2)))
theorem pg_cd72 : Cond.code (pg_y 72) (pg_c 72) (pg_mx 72) (pg_rt 72) ∈ lw_tbl := List.mem_append_right _ (List.mem_append_right _ (List.mem_append_right _ (List.mem_append_left _ (List.mem_of_getElem? (i := 2) rfl : _ ∈ tables_1_3))))
theorem pg_cd73 : Cond.code (pg_y 73) (pg_c 73) (pg_mx 73) (pg_rt 73) ∈ lw_tbl := List.mem_append_right _ (List.mem_append_right _ (List.mem_append_right _ (List.mem_append_left _ (List.mem_of_getElem? (i := 14) rfl : _ ∈ tables_1_3))))
theorem pg_cd74 : Cond.code (pg_y 74) (pg_c 74) (pg_mx 74) (pg_rt 74) ∈ lw_tbl := List.mem_append_right _ (List.mem_append_right _ (List.mem_append_right _ (List.mem_append_left _ (List.mem_of_getElem? (i := 26) rfl : _ ∈ tables_1_3))))
theorem pg_cd75 : Cond.code (pg_y 75) (pg_c 75) (pg_mx 75) (pg_rt 75) ∈ lw_tbl := List.mem_append_right _ (List.mem_append_right _ (List.mem_append_right _ (List.mem_append_left _ (List.mem_of_getElem? (i := 31) rfl : _ ∈ tables_1_3))))
theorem pg_cd76 : Cond.code (pg_y 76) (pg_c 76) (pg_mx 76) (pg_rt 76) ∈ lw_tbl := List.mem_append_right _ (List.mem_append_right _ (List.mem_append_right _ (List.mem_append_left _ (List.mem_of_getElem? (i := 37) rfl : _ ∈ tables_1_3))))
theorem pg_cd77 : Cond.code (pg_y 77) (pg_c 77) (pg_mx 77) (pg_rt 77) ∈ lw_tbl := List.mem_append_right _ (List.mem_append_right _ (List.mem_append_right _ (List.mem_append_left _ (List.mem_of_getElem? (i := 57) rfl : _ ∈ tables_1_3))))
theorem pg_cd78 : Cond.code (pg_y 78) (pg_c 78) (pg_mx 78) (pg_rt 78) ∈ lw_tbl := List.mem_append_right _ (List.mem_append_right _ (List.mem_append_right _ (List.mem_append_left _ (List.mem_of_getElem? (i := 65) rfl : _ ∈ tables_1_3))))
theorem pg_cd79 : Cond.code (pg_y 79) (pg_c 79) (pg_mx 79) (pg_rt 79) ∈ lw_tbl := List.mem_append_right _ (List.mem_append_right _ (List.mem_append_right _ (List.mem_append_left _ (List.mem_of_getElem? (i := 84) rfl : _ ∈ tables_1_3))))
theorem pg_cd80 : Cond.code (pg_y 80) (pg_c 80) (pg_mx 80) (pg_rt 80) ∈ lw_tbl := List.mem_append_right _ (List.mem_append_right _ (List.mem_append_right _ (List.mem_append_left _ (List.mem_of_getElem? (i := 89) rfl : _ ∈ tables_1_3))))
theorem pg_cd81 : Cond.code (pg_y 81) (pg_c 81) (pg_mx 81) (pg_rt 81) ∈ lw_tbl := List.mem_append_right _ (List.mem_append_right _ (List.mem_append_right _ (List.mem_append_left _ (List.mem_of_getElem? (i := 97) rfl : _ ∈ tables_1_3))))
theorem pg_cd82 : Cond.code (pg_y 82) (pg_c 82) (pg_mx 82) (pg_rt 82) ∈ lw_tbl := List.mem_append_right _ (List.mem_append_right _ (List.mem_append_right _ (List.mem_append_left _ (List.mem_of_getElem? (i := 105) rfl : _ ∈ tables_1_3))))
theorem pg_cd83 : Cond.code (pg_y 83) (pg_c 83) (pg_mx 83) (pg_rt 83) ∈ lw_tbl := List.mem_append_right _ (List.mem_append_right _ (List.mem_append_right _ (List.mem_append_left _ (List.mem_of_getElem? (i := 109) rfl : _ ∈ tables_1_3))))
theorem pg_cd84 : Cond.code (pg_y 84) (pg_c 84) (pg_mx 84) (pg_rt 84) ∈ lw_tbl := List.mem_append_right _ (List.mem_append_right _ (List.mem_append_right _ (List.mem_append_left _ (List.mem_of_getElem? (i := 114) rfl : _ ∈ tables_1_3))))
theorem pg_cd85 : Cond.code (pg_y 85) (pg_c 85) (pg_mx 85) (pg_rt 85) ∈ lw_tbl := List.mem_append_right _ (List.mem_append_right _ (List.mem_append_right _ (List.mem_append_left _ (List.mem_of_getElem? (i := 128) rfl : _ ∈ tables_1_3))))
theorem pg_cd86 : Cond.code (pg_y 86) (pg_c 86) (pg_mx 86) (pg_rt 86) ∈ lw_tbl := List.mem_append_right _ (List.mem_append_right _ (List.mem_append_right _ (List.mem_append_left _ (List.mem_of_getElem? (i := 134) rfl : _ ∈ tables_1_3))))
theorem pg_cd87 : Cond.code (pg_y 87) (pg_c 87) (pg_mx 87) (pg_rt 87) ∈ lw_tbl := List.mem_append_right _ (List.mem_append_right _ (List.mem_append_right _ (List.mem_append_left _ (List.mem_of_getElem? (i := 142) rfl : _ ∈ tables_1_3))))
theorem pg_cd88 : Cond.code (pg_y 88) (pg_c 88) (pg_mx 88) (pg_rt 88) ∈ lw_tbl := List.mem_append_right _ (List.mem_append_right _ (List.mem_append_right _ (List.mem_append_left _ (List.mem_of_getElem? (i := 159) rfl : _ ∈ tables_1_3))))
theorem pg_cd89 : Cond.code (pg_y 89) (pg_c 89) (pg_mx 89) (pg_rt 89) ∈ lw_tbl := List.mem_append_right _ (List.mem_append_right _ (List.mem_append_right _ (List.mem_append_left _ (List.mem_of_getElem? (i := 174) rfl : _ ∈ tables_1_3))))
theorem pg_cd90 : Cond.code (pg_y 90) (pg_c 90) (pg_mx 90) (pg_rt 90) ∈ lw_tbl := List.mem_append_right _ (List.mem_append_right _ (List.mem_append_right _ (List.mem_append_left _ (List.mem_of_getElem? (i := 182) rfl : _ ∈ tables_1_3))))
theorem pg_cd91 : Cond.code (pg_y 91) (pg_c 91) (pg_mx 91) (pg_rt 91) ∈ lw_tbl := List.mem_append_right _ (List.mem_append_right _ (List.mem_append_right _ (List.mem_append_left _ (List.mem_of_getElem? (i := 190) rfl : _ ∈ tables_1_3))))
theorem pg_cd92 : Cond.code (pg_y 92) (pg_c 92) (pg_mx 92) (pg_rt 92) ∈ lw_tbl := List.mem_append_right _ (List.mem_append_right _ (List.mem_append_right _ (List.mem_append_left _ (List.mem_of_getElem? (i := 194) rfl : _ ∈ tables_1_3))))
theorem pg_cd93 : Cond.code (pg_y 93) (pg_c 93) (pg_mx 93) (pg_rt 93) ∈ lw_tbl := List.mem_append_right _ (List.mem_append_right _ (List.mem_append_right _ (List.mem_append_left _ (List.mem_of_getElem? (i := 198) rfl : _ ∈ tables_1_3))))
theorem pg_cd94 : Cond.code (pg_y 94) (pg_c 94) (pg_mx 94) (pg_rt 94) ∈ lw_tbl := List.mem_append_right _ (List.mem_append_right _ (List.mem_append_right _ (List.mem_append_left _ (List.mem_of_getElem? (i := 206) rfl : _ ∈ tables_1_3))))
theorem pg_cd95 : Cond.code (pg_y 95) (pg_c 95) (pg_mx 95) (pg_rt 95) ∈ lw_tbl := List.mem_append_right _ (List.mem_append_right _ (List.mem_append_left _ (List.mem_of_getElem? (i := 186) rfl : _ ∈ tables_1_2)))
theorem pg_cd96 : Cond.code (pg_y 96) (pg_c 96) (pg_mx 96) (pg_rt 96) ∈ lw_tbl := List.mem_append_right _ (List.mem_append_right _ (List.mem_append_left _ (List.mem_of_getElem? (i := 200) rfl : _ ∈ tables_1_2)))
theorem pg_cd97 : Cond.code (pg_y 97) (pg_c 97) (pg_mx 97) (pg_rt 97) ∈ lw_tbl := List.mem_append_right _ (List.mem_append_right _ (List.mem_append_left _ (List.mem_of_getElem? (i := 204) rfl : _ ∈ tables_1_2)))
theorem pg_cd98 : Cond.code (pg_y 98) (pg_c 98) (pg_mx 98) (pg_rt 98) ∈ lw_tbl := List.mem_append_right _ (List.mem_append_right _ (List.mem_append_right _ (List.mem_append_left _ (List.mem_of_getElem? (i := 202) rfl : _ ∈ tables_1_3))))
theorem pg_cd99 : Cond.code (pg_y 99) (pg_c 99) (pg_mx 99) (pg_rt 99) ∈ lw_tbl := List.mem_append_right _ (List.mem_append_right _ (List.mem_append_right _ (List.mem_append_left _ (List.mem_of_getElem? (i := 18) rfl : _ ∈ tables_1_3))))
theorem pg_cd100 : Cond.code (pg_y 100) (pg_c 100) (pg_mx 100) (pg_rt 100) ∈ lw_tbl := List.mem_append_right _ (List.mem_append_right _ (List.mem_append_right _ (List.mem_append_left _ (List.mem_of_getElem? (i := 93) rfl : _ ∈ tables_1_3))))
theorem pg_cd101 : Cond.code (pg_y 101) (pg_c 101) (pg_mx 101) (pg_rt 101) ∈ lw_tbl := List.mem_append_right _ (List.mem_append_right _ (List.mem_append_right _ (List.mem_append_left _ (List.mem_of_getElem? (i := 41) rfl : _ ∈ tables_1_3))))
theorem pg_cd102 : Cond.code (pg_y 102) (pg_c 102) (pg_mx 102) (pg_rt 102) ∈ lw_tbl := List.mem_append_right _ (List.mem_append_right _ (List.mem_append_right _ (List.mem_append_left _ (List.mem_of_getElem? (i := 45) rfl : _ ∈ tables_1_3))))
theorem pg_cd103 : Cond.code (pg_y 103) (pg_c 103) (pg_mx 103) (pg_rt 103) ∈ lw_tbl := List.mem_append_right _ (List.mem_append_right _ (List.mem_append_right _ (List.mem_append_left _ (List.mem_of_getElem? (i := 49) rfl : _ ∈ tables_1_3))))
theorem pg_cd104 : Cond.code (pg_y 104) (pg_c 104) (pg_mx 104) (pg_rt 104) ∈ lw_tbl := List.mem_append_right _ (List.mem_append_right _ (List.mem_append_right _ (List.mem_append_left _ (List.mem_of_getElem? (i := 211) rfl : _ ∈ tables_1_3))))
theorem pg_cd105 : Cond.code (pg_y 105) (pg_c 105) (pg_mx 105) (pg_rt 105) ∈ lw_tbl := List.mem_append_right _ (List.mem_append_right _ (List.mem_append_right _ (List.mem_append_right _ (List.mem_append_left _ (List.mem_of_getElem? (i := 54) rfl : _ ∈ tables_1_4)))))
theorem pg_cd106 : Cond.code (pg_y 106) (pg_c 106) (pg_mx 106) (pg_rt 106) ∈ lw_tbl := List.mem_append_right _ (List.mem_append_right _ (List.mem_append_right _ (List.mem_append_right _ (List.mem_append_left _ (List.mem_of_getElem? (i := 162) rfl : _ ∈ tables_1_4)))))
theorem pg_cd107 : Cond.code (pg_y 107) (pg_c 107) (pg_mx 107) (pg_rt 107) ∈ lw_tbl := List.mem_append_right _ (List.mem_append_right _ (List.mem_append_right _ (List.mem_append_right _ (List.mem_append_left _ (List.mem_of_getElem? (i := 102) rfl : _ ∈ tables_1_4)))))
theorem pg_cd108 : Cond.code (pg_y 108) (pg_c 108) (pg_mx 108) (pg_rt 108) ∈ lw_tbl := List.mem_append_right _ (List.mem_append_right _ (List.mem_append_right _ (List.mem_append_right _ (List.mem_append_left _ (List.mem_of_getElem? (i := 50) rfl : _ ∈ tables_1_4)))))
theorem pg_cd109 : Cond.code (pg_y 109) (pg_c 109) (pg_mx 109) (pg_rt 109) ∈ lw_tbl := List.mem_append_right _ (List.mem_append_right _ (List.mem_append_right _ (List.mem_append_right _ (List.mem_append_left _ (List.mem_of_getElem? (i := 64) rfl : _ ∈ tables_1_4)))))
theorem pg_cd110 : Cond.code (pg_y 110) (pg_c 110) (pg_mx 110) (pg_rt 110) ∈ lw_tbl := List.mem_append_right _ (List.mem_append_right _ (List.mem_append_right _ (List.mem_append_right _ (List.mem_append_left _ (List.mem_of_getElem? (i := 76) rfl : _ ∈ tables_1_4)))))
theorem pg_cd111 : Cond.code (pg_y 111) (pg_c 111) (pg_mx 111) (pg_rt 111) ∈ lw_tbl := List.mem_append_right _ (List.mem_append_right _ (List.mem_append_right _ (List.mem_append_right _ (List.mem_append_left _ (List.mem_of_getElem? (i := 88) rfl : _ ∈ tables_1_4)))))
theorem pg_cd112 : Cond.code (pg_y 112) (pg_c 112) (pg_mx 112) (pg_rt 112) ∈ lw_tbl := List.mem_append_right _ (List.mem_append_right _ (List.mem_append_right _ (List.mem_append_right _ (List.mem_append_left _ (List.mem_of_getElem? (i := 84) rfl : _ ∈ tables_1_4)))))
theorem pg_cd113 : Cond.code (pg_y 113) (pg_c 113) (pg_mx 113) (pg_rt 113) ∈ lw_tbl := List.mem_append_right _ (List.mem_append_right _ (List.mem_append_right _ (List.mem_append_right _ (List.mem_append_left _ (List.mem_of_getElem? (i := 80) rfl : _ ∈ tables_1_4)))))
theorem pg_cd114 : Cond.code (pg_y 114) (pg_c 114) (pg_mx 114) (pg_rt 114) ∈ lw_tbl := List.mem_append_right _ (List.mem_append_right _ (List.mem_append_right _ (List.mem_append_right _ (List.mem_append_left _ (List.mem_of_getElem? (i := 72) rfl : _ ∈ tables_1_4)))))
theorem pg_cd115 : Cond.code (pg_y 115) (pg_c 115) (pg_mx 115) (pg_rt 115) ∈ lw_tbl := List.mem_append_right _ (List.mem_append_right _ (List.mem_append_right _ (List.mem_append_right _ (List.mem_append_left _ (List.mem_of_getElem? (i := 99) rfl : _ ∈ tables_1_4)))))
theorem pg_cd116 : Cond.code (pg_y 116) (pg_c 116) (pg_mx 116) (pg_rt 116) ∈ lw_tbl := List.mem_append_right _ (List.mem_append_right _ (List.mem_append_right _ (List.mem_append_right _ (List.mem_append_left _ (List.mem_of_getElem? (i := 95) rfl : _ ∈ tables_1_4)))))
theorem pg_cd117 : Cond.code (pg_y 117) (pg_c 117) (pg_mx 117) (pg_rt 117) ∈ lw_tbl := List.mem_append_right _ (List.mem_append_right _ (List.mem_append_right _ (List.mem_append_right _ (List.mem_append_left _ (List.mem_of_getElem? (i := 68) rfl : _ ∈ tables_1_4)))))
theorem pg_cd118 : Cond.code (pg_y 118) (pg_c 118) (pg_mx 118) (pg_rt 118) ∈ lw_tbl := List.mem_append_right _ (List.mem_append_right _ (List.mem_append_right _ (List.mem_append_right _ (List.mem_append_left _ (List.mem_of_getElem? (i := 60) rfl : _ ∈ tables_1_4)))))
theorem pg_cd119 : Cond.code (pg_y 119) (pg_c 119) (pg_mx 119) (pg_rt 119) ∈ lw_tbl := List.mem_append_right _ (List.mem_append_right _ (List.mem_append_right _ (List.mem_append_right _ (List.mem_append_left _ (List.mem_of_getElem? (i := 106) rfl : _ ∈ tables_1_4)))))
theorem pg_cd120 : Cond.code (pg_y 120) (pg_c 120) (pg_mx 120) (pg_rt 120) ∈ lw_tbl := List.mem_append_right _ (List.mem_append_right _ (List.mem_append_right _ (List.mem_append_right _ (List.mem_append_left _ (List.mem_of_getElem? (i := 110) rfl : _ ∈ tables_1_4)))))
theorem pg_cd121 : Cond.code (pg_y 121) (pg_c 121) (pg_mx 121) (pg_rt 121) ∈ lw_tbl := List.mem_append_right _ (List.mem_append_right _ (List.mem_append_right _ (List.mem_append_right _ (List.mem_append_left _ (List.mem_of_getElem? (i := 174) rfl : _ ∈ tables_1_4)))))
theorem pg_cd122 : Cond.code (pg_y 122) (pg_c 122) (pg_mx 122) (pg_rt 122) ∈ lw_tbl := List.mem_append_right _ (List.mem_append_right _ (List.mem_append_right _ (List.mem_append_right _ (List.mem_append_left _ (List.mem_of_getElem? (i := 187) rfl : _ ∈ tables_1_4)))))
theorem pg_cd123 : Cond.code (pg_y 123) (pg_c 123) (pg_mx 123) (pg_rt 123) ∈ lw_tbl := List.mem_append_right _ (List.mem_append_right _ (List.mem_append_right _ (List.mem_append_right _ (List.mem_append_left _ (List.mem_of_getElem? (i := 159) rfl : _ ∈ tables_1_4)))))
theorem pg_cd124 : Cond.code (pg_y 124) (pg_c 124) (pg_mx 124) (pg_rt 124) ∈ lw_tbl := List.mem_append_right _ (List.mem_append_right _ (List.mem_append_right _ (List.mem_append_right _ (List.mem_append_left _ (List.mem_of_getElem? (i := 217) rfl : _ ∈ tables_1_4)))))
theorem pg_cd125 : Cond.code (pg_y 125) (pg_c 125) (pg_mx 125) (pg_rt 125) ∈ lw_tbl := List.mem_append_right _ (List.mem_append_right _ (List.mem_append_right _ (List.mem_append_right _ (List.mem_append_left _ (List.mem_of_getElem? (i := 147) rfl : _ ∈ tables_1_4)))))
theorem pg_cd126 : Cond.code (pg_y 126) (pg_c 126) (pg_mx 126) (pg_rt 126) ∈ lw_tbl := List.mem_append_right _ (List.mem_append_right _ (List.mem_append_right _ (List.mem_append_right _ (List.mem_append_left _ (List.mem_of_getElem? (i := 143) rfl : _ ∈ tables_1_4)))))
theorem pg_cd127 : Cond.code (pg_y 127) (pg_c 127) (pg_mx 127) (pg_rt 127) ∈ lw_tbl := List.mem_append_right _ (List.mem_append_right _ (List.mem_append_right _ (List.mem_append_right _ (List.mem_append_left _ (List.mem_of_getElem? (i := 139) rfl : _ ∈ tables_1_4)))))
theorem pg_cd128 : Cond.code (pg_y 128) (pg_c 128) (pg_mx 128) (pg_rt 128) ∈ lw_tbl := List.mem_append_right _ (List.mem_append_right _ (List.mem_append_right _ (List.mem_append_right _ (List.mem_append_left _ (List.mem_of_getElem? (i := 155) rfl : _ ∈ tables_1_4)))))
theorem pg_cd129 : Cond.code (pg_y 129) (pg_c 129) (pg_mx 129) (pg_rt 129) ∈ lw_tbl := List.mem_append_right _ (List.mem_append_right _ (List.mem_append_right _ (List.mem_append_right _ (List.mem_append_left _ (List.mem_of_getElem? (i := 122) rfl : _ ∈ tables_1_4)))))
theorem pg_cd130 : Cond.code (pg_y 130) (pg_c 130) (pg_mx 130) (pg_rt 130) ∈ lw_tbl := List.mem_append_right _ (List.mem_append_right _ (List.mem_append_right _ (List.mem_append_right _ (List.mem_append_left _ (List.mem_of_getElem? (i := 166) rfl : _ ∈ tables_1_4)))))
theorem pg_cd131 : Cond.code (pg_y 131) (pg_c 131) (pg_mx 131) (pg_rt 131) ∈ lw_tbl := List.mem_append_right _ (List.mem_append_right _ (List.mem_append_right _ (List.mem_append_right _ (List.mem_append_left _ (List.mem_of_getElem? (i := 114) rfl : _ ∈ tables_1_4)))))
theorem pg_cd132 : Cond.code (pg_y 132) (pg_c 132) (pg_mx 132) (pg_rt 132) ∈ lw_tbl := List.mem_append_right _ (List.mem_append_right _ (List.mem_append_right _ (List.mem_append_right _ (List.mem_append_left _ (List.mem_of_getElem? (i := 170) rfl : _ ∈ tables_1_4)))))
theorem pg_cd133 : Cond.code (pg_y 133) (pg_c 133) (pg_mx 133) (pg_rt 133) ∈ lw_tbl := List.mem_append_right _ (List.mem_append_right _ (List.mem_append_right _ (List.mem_append_right _ (List.mem_append_left _ (List.mem_of_getElem? (i := 179) rfl : _ ∈ tables_1_4)))))
theorem pg_cd134 : Cond.code (pg_y 134) (pg_c 134) (pg_mx 134) (pg_rt 134) ∈ lw_tbl := List.mem_append_right _ (List.mem_append_right _ (List.mem_append_right _ (List.mem_append_right _ (List.mem_append_left _ (List.mem_of_getElem? (i := 183) rfl : _ ∈ tables_1_4)))))
theorem pg_cd135 : Cond.code (pg_y 135) (pg_c 135) (pg_mx 135) (pg_rt 135) ∈ lw_tbl := List.mem_append_right _ (List.mem_append_right _ (List.mem_append_right _ (List.mem_append_right _ (List.mem_append_left _ (List.mem_of_getElem? (i := 201) rfl : _ ∈ tables_1_4)))))
theorem pg_cd136 : Cond.code (pg_y 136) (pg_c 136) (pg_mx 136) (pg_rt 136) ∈ lw_tbl := List.mem_append_right _ (List.mem_append_right _ (List.mem_append_right _ (List.mem_append_right _ (List.mem_append_left _ (List.mem_of_getElem? (i := 197) rfl : _ ∈ tables_1_4)))))
theorem pg_cd137 : Cond.code (pg_y 137) (pg_c 137) (pg_mx 137) (pg_rt 137) ∈ lw_tbl := List.mem_append_right _ (List.mem_append_right _ (List.mem_append_right _ (List.mem_append_right _ (List.mem_append_left _ (List.mem_of_getElem? (i := 205) rfl : _ ∈ tables_1_4)))))
theorem pg_cd138 : Cond.code (pg_y 138) (pg_c 138) (pg_mx 138) (pg_rt 138) ∈ lw_tbl := List.mem_append_right _ (List.mem_append_right _ (List.mem_append_right _ (List.mem_append_right _ (List.mem_append_left _ (List.mem_of_getElem? (i := 213) rfl : _ ∈ tables_1_4)))))
theorem pg_cd139 : Cond.code (pg_y 139) (pg_c 139) (pg_mx 139) (pg_rt 139) ∈ lw_tbl := List.mem_append_right _ (List.mem_append_right _ (List.mem_append_right _ (List.mem_append_right _ (List.mem_append_left _ (List.mem_of_getElem? (i := 191) rfl : _ ∈ tables_1_4)))))
theorem pg_cd140 : Cond.code (pg_y 140) (pg_c 140) (pg_mx 140) (pg_rt 140) ∈ lw_tbl := List.mem_append_right _ (List.mem_append_right _ (List.mem_append_right _ (List.mem_append_right _ (List.mem_append_left _ (List.mem_of_getElem? (i := 209) rfl : _ ∈ tables_1_4)))))
theorem pg_cd141 : Cond.code (pg_y 141) (pg_c 141) (pg_mx 141) (pg_rt 141) ∈ lw_tbl := List.mem_append_right _ (List.mem_append_right _ (List.mem_append_right _ (List.mem_append_right _ (List.mem_append_left _ (List.mem_of_getElem? (i := 230) rfl : _ ∈ tables_1_4)))))
theorem pg_cd142 : Cond.code (pg_y 142) (pg_c 142) (pg_mx 142) (pg_rt 142) ∈ lw_tbl := List.mem_append_right _ (List.mem_append_right _ (List.mem_append_right _ (List.mem_append_right _ (List.mem_append_left _ (List.mem_of_getElem? (i := 225) rfl : _ ∈ tables_1_4)))))
theorem pg_cd143 : Cond.code (pg_y 143) (pg_c 143) (pg_mx 143) (pg_rt 143) ∈ lw_tbl := List.mem_append_right _ (List.mem_append_right _ (List.mem_append_right _ (List.mem_append_right _ (List.mem_append_left _ (List.mem_of_getElem? (i := 221) rfl : _ ∈ tables_1_4)))))
theorem pg_cd144 : Cond.code (pg_y 144) (pg_c 144) (pg_mx 144) (pg_rt 144) ∈ lw_tbl := List.mem_append_right _ (List.mem_append_right _ (List.mem_append_right _ (List.mem_append_right _ (List.mem_append_left _ (List.mem_of_getElem? (i := 234) rfl : _ ∈ tables_1_4)))))
theorem pg_cd145 : Cond.code (pg_y 145) (pg_c 145) (pg_mx 145) (pg_rt 145) ∈ lw_tbl := List.mem_append_right _ (List.mem_append_right _ (List.mem_append_right _ (List.mem_append_right _ (List.mem_append_left _ (List.mem_of_getElem? (i := 238) rfl : _ ∈ tables_1_4)))))
theorem pg_cd146 : Cond.code (pg_y 146) (pg_c 146) (pg_mx 146) (pg_rt 146) ∈ lw_tbl := List.mem_append_right _ (List.mem_append_right _ (List.mem_append_right _ (List.mem_append_right _ (List.mem_append_right _ ((List.mem_of_getElem? (i := 10) rfl : _ ∈ tables_1_5))))))
theorem pg_cd147 : Cond.code (pg_y 147) (pg_c 147) (pg_mx 147) (pg_rt 147) ∈ lw_tbl := List.mem_append_right _ (List.mem_append_right _ (List.mem_append_right _ (List.mem_append_right _ (List.mem_append_right _ ((List.mem_of_getElem? (i := 6) rfl : _ ∈ tables_1_5))))))
theorem pg_cd148 : Cond.code (pg_y 148) (pg_c 148) (pg_mx 148) (pg_rt 148) ∈ lw_tbl := List.mem_append_right _ (List.mem_append_right _ (List.mem_append_right _ (List.mem_append_right _ (List.mem_append_right _ ((List.mem_of_getElem? (i := 2) rfl : _ ∈ tables_1_5))))))
theorem pg_cd149 : Cond.code (pg_y 149) (pg_c 149) (pg_mx 149) (pg_rt 149) ∈ lw_tbl := List.mem_append_right _ (List.mem_append_right _ (List.mem_append_right _ (List.mem_append_right _ (List.mem_append_right _ ((List.mem_of_getElem? (i := 18) rfl : _ ∈ tables_1_5))))))
theorem pg_cd150 : Cond.code (pg_y 150) (pg_c 150) (pg_mx 150) (pg_rt 150) ∈ lw_tbl := List.mem_append_right _ (List.mem_append_right _ (List.mem_append_right _ (List.mem_append_right _ (List.mem_append_left _ (List.mem_of_getElem? (i := 134) rfl : _ ∈ tables_1_4)))))
theorem pg_cd151 : Cond.code (pg_y 151) (pg_c 151) (pg_mx 151) (pg_rt 151) ∈ lw_tbl := List.mem_append_right _ (List.mem_append_right _ (List.mem_append_right _ (List.mem_append_right _ (List.mem_append_left _ (List.mem_of_getElem? (i := 151) rfl : _ ∈ tables_1_4)))))
theorem pg_cd152 : Cond.code (pg_y 152) (pg_c 152) (pg_mx 152) (pg_rt 152) ∈ lw_tbl := List.mem_append_right _ (List.mem_append_right _ (List.mem_append_right _ (List.mem_append_right _ (List.mem_append_left _ (List.mem_of_getElem? (i := 130) rfl : _ ∈ tables_1_4)))))
theorem pg_cd153 : Cond.code (pg_y 153) (pg_c 153) (pg_mx 153) (pg_rt 153) ∈ lw_tbl := List.mem_append_right _ (List.mem_append_right _ (List.mem_append_right _ (List.mem_append_right _ (List.mem_append_right _ ((List.mem_of_getElem? (i := 22) rfl : _ ∈ tables_1_5))))))
theorem pg_cd154 : Cond.code (pg_y 154) (pg_c 154) (pg_mx 154) (pg_rt 154) ∈ lw_tbl := List.mem_append_right _ (List.mem_append_right _ (List.mem_append_right _ (List.mem_append_right _ (List.mem_append_right _ ((List.mem_of_getElem? (i := 26) rfl : _ ∈ tables_1_5))))))
theorem pg_cd155 : Cond.code (pg_y 155) (pg_c 155) (pg_mx 155) (pg_rt 155) ∈ lw_tbl := List.mem_append_right _ (List.mem_append_right _ (List.mem_append_right _ (List.mem_append_right _ (List.mem_append_left _ (List.mem_of_getElem? (i := 126) rfl : _ ∈ tables_1_4)))))
theorem pg_cd156 : Cond.code (pg_y 156) (pg_c 156) (pg_mx 156) (pg_rt 156) ∈ lw_tbl := List.mem_append_right _ (List.mem_append_right _ (List.mem_append_right _ (List.mem_append_right _ (List.mem_append_right _ ((List.mem_of_getElem? (i := 30) rfl : _ ∈ tables_1_5))))))
theorem pg_cd157 : Cond.code (pg_y 157) (pg_c 157) (pg_mx 157) (pg_rt 157) ∈ lw_tbl := List.mem_append_right _ (List.mem_append_right _ (List.mem_append_right _ (List.mem_append_right _ (List.mem_append_right _ ((List.mem_of_getElem? (i := 34) rfl : _ ∈ tables_1_5))))))
theorem pg_cd158 : Cond.code (pg_y 158) (pg_c 158) (pg_mx 158) (pg_rt 158) ∈ lw_tbl := List.mem_append_right _ (List.mem_append_right _ (List.mem_append_right _ (List.mem_append_right _ (List.mem_append_right _ ((List.mem_of_getElem? (i := 42) rfl : _ ∈ tables_1_5))))))
theorem pg_cd159 : Cond.code (pg_y 159) (pg_c 159) (pg_mx 159) (pg_rt 159) ∈ lw_tbl := List.mem_append_right _ (List.mem_append_right _ (List.mem_append_right _ (List.mem_append_right _ (List.mem_append_right _ ((List.mem_of_getElem? (i := 38) rfl : _ ∈ tables_1_5))))))
theorem pg_cd160 : Cond.code (pg_y 160) (pg_c 160) (pg_mx 160) (pg_rt 160) ∈ lw_tbl := List.mem_append_right _ (List.mem_append_right _ (List.mem_append_right _ (List.mem_append_right _ (List.mem_append_right _ ((List.mem_of_getElem? (i := 46) rfl : _ ∈ tables_1_5))))))
theorem pg_cd161 : Cond.code (pg_y 161) (pg_c 161) (pg_mx 161) (pg_rt 161) ∈ lw_tbl := List.mem_append_right _ (List.mem_append_right _ (List.mem_append_right _ (List.mem_append_right _ (List.mem_append_left _ (List.mem_of_getElem? (i := 118) rfl : _ ∈ tables_1_4)))))
theorem pg_cd162 : Cond.code (pg_y 162) (pg_c 162) (pg_mx 162) (pg_rt 162) ∈ lw_tbl := List.mem_append_right _ (List.mem_append_right _ (List.mem_append_right _ (List.mem_append_right _ (List.mem_append_right _ ((List.mem_of_getElem? (i := 54) rfl : _ ∈ tables_1_5))))))
theorem pg_cd163 : Cond.code (pg_y 163) (pg_c 163) (pg_mx 163) (pg_rt 163) ∈ lw_tbl := List.mem_append_right _ (List.mem_append_right _ (List.mem_append_right _ (List.mem_append_right _ (List.mem_append_right _ ((List.mem_of_getElem? (i := 50) rfl : _ ∈ tables_1_5))))))
theorem pg_cd164 : Cond.code (pg_y 164) (pg_c 164) (pg_mx 164) (pg_rt 164) ∈ lw_tbl := List.mem_append_right _ (List.mem_append_right _ (List.mem_append_right _ (List.mem_append_right _ (List.mem_append_right _ ((List.mem_of_getElem? (i := 62) rfl : _ ∈ tables_1_5))))))
theorem pg_cd165 : Cond.code (pg_y 165) (pg_c 165) (pg_mx 165) (pg_rt 165) ∈ lw_tbl := List.mem_append_right _ (List.mem_append_right _ (List.mem_append_right _ (List.mem_append_right _ (List.mem_append_right _ ((List.mem_of_getElem? (i := 58) rfl : _ ∈ tables_1_5))))))
theorem pg_cd166 : Cond.code (pg_y 166) (pg_c 166) (pg_mx 166) (pg_rt 166) ∈ lw_tbl := List.mem_append_right _ (List.mem_append_right _ (List.mem_append_right _ (List.mem_append_right _ (List.mem_append_right _ ((List.mem_of_getElem? (i := 66) rfl : _ ∈ tables_1_5))))))
theorem pg_cd167 : Cond.code (pg_y 167) (pg_c 167) (pg_mx 167) (pg_rt 167) ∈ lw_tbl := List.mem_append_right _ (List.mem_append_right _ (List.mem_append_right _ (List.mem_append_right _ (List.mem_append_right _ ((List.mem_of_getElem? (i := 73) rfl : _ ∈ tables_1_5))))))
theorem pg_cd168 : Cond.code (pg_y 168) (pg_c 168) (pg_mx 168) (pg_rt 168) ∈ lw_tbl := List.mem_append_right _ (List.mem_append_right _ (List.mem_append_right _ (List.mem_append_right _ (List.mem_append_right _ ((List.mem_of_getElem? (i := 81) rfl : _ ∈ tables_1_5))))))
theorem pg_cd169 : Cond.code (pg_y 169) (pg_c 169) (pg_mx 169) (pg_rt 169) ∈ lw_tbl := List.mem_append_right _ (List.mem_append_right _ (List.mem_append_right _ (List.mem_append_right _ (List.mem_append_right _ ((List.mem_of_getElem? (i := 77) rfl : _ ∈ tables_1_5))))))
theorem pg_cd170 : Cond.code (pg_y 170) (pg_c 170) (pg_mx 170) (pg_rt 170) ∈ lw_tbl := List.mem_append_right _ (List.mem_append_right _ (List.mem_append_right _ (List.mem_append_right _ (List.mem_append_right _ ((List.mem_of_getElem? (i := 90) rfl : _ ∈ tables_1_5))))))
theorem pg_cd171 : Cond.code (pg_y 171) (pg_c 171) (pg_mx 171) (pg_rt 171) ∈ lw_tbl := List.mem_append_right _ (List.mem_append_right _ (List.mem_append_right _ (List.mem_append_right _ (List.mem_append_right _ ((List.mem_of_getElem? (i := 85) rfl : _ ∈ tables_1_5))))))
theorem pg_cd172 : Cond.code (pg_y 172) (pg_c 172) (pg_mx 172) (pg_rt 172) ∈ lw_tbl := List.mem_append_right _ (List.mem_append_right _ (List.mem_append_right _ (List.mem_append_right _ (List.mem_append_right _ ((List.mem_of_getElem? (i := 94) rfl : _ ∈ tables_1_5))))))
theorem pg_cd173 : Cond.code (pg_y 173) (pg_c 173) (pg_mx 173) (pg_rt 173) ∈ lw_tbl := List.mem_append_right _ (List.mem_append_right _ (List.mem_append_right _ (List.mem_append_right _ (List.mem_append_right _ ((List.mem_of_getElem? (i := 98) rfl : _ ∈ tables_1_5))))))
theorem pg_cd174 : Cond.code (pg_y 174) (pg_c 174) (pg_mx 174) (pg_rt 174) ∈ lw_tbl := List.mem_append_right _ (List.mem_append_right _ (List.mem_append_right _ (List.mem_append_right _ (List.mem_append_right _ ((List.mem_of_getElem? (i := 102) rfl : _ ∈ tables_1_5))))))
theorem pg_cd175 : Cond.code (pg_y 175) (pg_c 175) (pg_mx 175) (pg_rt 175) ∈ lw_tbl := List.mem_append_right _ (List.mem_append_right _ (List.mem_append_right _ (List.mem_append_right _ (List.mem_append_right _ ((List.mem_of_getElem? (i := 106) rfl : _ ∈ tables_1_5))))))
theorem pg_cd176 : Cond.code (pg_y 176) (pg_c 176) (pg_mx 176) (pg_rt 176) ∈ lw_tbl := List.mem_append_right _ (List.mem_append_right _ (List.mem_append_right _ (List.mem_append_right _ (List.mem_append_right _ ((List.mem_of_getElem? (i := 110) rfl : _ ∈ tables_1_5))))))
theorem pg_cd177 : Cond.code (pg_y 177) (pg_c 177) (pg_mx 177) (pg_rt 177) ∈ lw_tbl := List.mem_append_right _ (List.mem_append_right _ (List.mem_append_right _ (List.mem_append_right _ (List.mem_append_right _ ((List.mem_of_getElem? (i := 114) rfl : _ ∈ tables_1_5))))))
theorem pg_cd178 : Cond.code (pg_y 178) (pg_c 178) (pg_mx 178) (pg_rt 178) ∈ lw_tbl := List.mem_append_right _ (List.mem_append_right _ (List.mem_append_left _ (List.mem_of_getElem? (i := 171) rfl : _ ∈ tables_1_2)))
