def clL (xs : Nat → Int32) (L : Nat) : List (List (Nat × mT)) := [[(0, o_new 9 3), (3, o_dupr 4), (4, o_inv 9 90 0 7), (7, o_ast 1 8), (8, o_new 10 11), (11, o_dupr 12), (12, o_inv 10 135 0 15), (15, o_ast 2 16)],
  [(16, o_push (vi 0) 17), (17, o_ist 3 18), (18, o_ild 3 19), (19, o_ald 0 20), (20, o_slen L 21), (21, o_push (vi 7) 23), (23, o_isub 24), (24, o_icgt 1201 27), (27, o_ald 0 28), (28, o_ild 3 29), (29, o_sld xs L 30), (30, o_push (vi 63) 32)],
  [(32, o_iand 33), (33, o_tsw 0 [188, 211, 254, 287, 330, 373, 396, 409, 472, 485, 498, 511, 524, 547, 580, 613, 636, 669, 692, 715, 738, 761, 784, 817, 860, 913, 946, 969, 982, 1057, 1090, 1113, 1136, 1159, 1172] 1195)],
  [],
  [],
  [],
  [],
  [],
  [],
  [],
  [],
  [(188, o_ald 1 189), (189, o_ald 0 190), (190, o_ild 3 191), (191, o_push (vi 1) 192)],
  [(192, o_iadd 193), (193, o_sld xs L 194), (194, o_inv 9 91 1 197), (197, o_ald 2 198), (198, o_ald 0 199), (199, o_ild 3 200), (200, o_push (vi 1) 201), (201, o_iadd 202), (202, o_sld xs L 203), (203, o_inv 10 141 1 206), (206, o_iceq 1195 209)],
  [(209, o_push (vi 0) 210), (210, o_end), (211, o_ald 1 212), (212, o_ald 0 213), (213, o_ild 3 214), (214, o_push (vi 1) 215), (215, o_iadd 216), (216, o_sld xs L 217), (217, o_ald 0 218), (218, o_ild 3 219), (219, o_push (vi 2) 220), (220, o_iadd 221), (221, o_sld xs L 222), (222, o_ald 0 223), (223, o_ild 3 224)],
  [(224, o_push (vi 3) 225), (225, o_iadd 226), (226, o_sld xs L 227), (227, o_inv 9 92 3 230), (230, o_ald 2 231), (231, o_ald 0 232), (232, o_ild 3 233), (233, o_push (vi 1) 234), (234, o_iadd 235), (235, o_sld xs L 236), (236, o_ald 0 237), (237, o_ild 3 238), (238, o_push (vi 2) 239), (239, o_iadd 240)],
  [(240, o_sld xs L 241), (241, o_ald 0 242), (242, o_ild 3 243), (243, o_push (vi 3) 244), (244, o_iadd 245), (245, o_sld xs L 246), (246, o_inv 10 142 3 249), (249, o_iceq 1195 252), (252, o_push (vi 0) 253), (253, o_end), (254, o_ald 1 255), (255, o_ald 0 256)],
  [(256, o_ild 3 257), (257, o_push (vi 1) 258), (258, o_iadd 259), (259, o_sld xs L 260), (260, o_ald 0 261), (261, o_ild 3 262), (262, o_push (vi 2) 263), (263, o_iadd 264), (264, o_sld xs L 265), (265, o_inv 9 93 2 268), (268, o_ald 2 269), (269, o_ald 0 270), (270, o_ild 3 271), (271, o_push (vi 1) 272)],
  [(272, o_iadd 273), (273, o_sld xs L 274), (274, o_ald 0 275), (275, o_ild 3 276), (276, o_push (vi 2) 277), (277, o_iadd 278), (278, o_sld xs L 279), (279, o_inv 10 145 2 282), (282, o_iceq 1195 285), (285, o_push (vi 0) 286), (286, o_end), (287, o_ald 1 288)],
  [(288, o_ald 0 289), (289, o_ild 3 290), (290, o_push (vi 1) 291), (291, o_iadd 292), (292, o_sld xs L 293), (293, o_ald 0 294), (294, o_ild 3 295), (295, o_push (vi 2) 296), (296, o_iadd 297), (297, o_sld xs L 298), (298, o_ald 0 299), (299, o_ild 3 300), (300, o_push (vi 3) 301), (301, o_iadd 302), (302, o_sld xs L 303), (303, o_inv 9 94 3 306)],
  [(306, o_ald 2 307), (307, o_ald 0 308), (308, o_ild 3 309), (309, o_push (vi 1) 310), (310, o_iadd 311), (311, o_sld xs L 312), (312, o_ald 0 313), (313, o_ild 3 314), (314, o_push (vi 2) 315), (315, o_iadd 316), (316, o_sld xs L 317), (317, o_ald 0 318), (318, o_ild 3 319), (319, o_push (vi 3) 320)],
  [(320, o_iadd 321), (321, o_sld xs L 322), (322, o_inv 10 146 3 325), (325, o_iceq 1195 328), (328, o_push (vi 0) 329), (329, o_end), (330, o_ald 1 331), (331, o_ald 0 332), (332, o_ild 3 333), (333, o_push (vi 1) 334), (334, o_iadd 335), (335, o_sld xs L 336)],
  [(336, o_ald 0 337), (337, o_ild 3 338), (338, o_push (vi 2) 339), (339, o_iadd 340), (340, o_sld xs L 341), (341, o_ald 0 342), (342, o_ild 3 343), (343, o_push (vi 3) 344), (344, o_iadd 345), (345, o_sld xs L 346), (346, o_inv 9 95 3 349), (349, o_ald 2 350), (350, o_ald 0 351), (351, o_ild 3 352)],
  [(352, o_push (vi 1) 353), (353, o_iadd 354), (354, o_sld xs L 355), (355, o_ald 0 356), (356, o_ild 3 357), (357, o_push (vi 2) 358), (358, o_iadd 359), (359, o_sld xs L 360), (360, o_ald 0 361), (361, o_ild 3 362), (362, o_push (vi 3) 363), (363, o_iadd 364), (364, o_sld xs L 365), (365, o_inv 10 147 3 368)],
  [(368, o_iceq 1195 371), (371, o_push (vi 0) 372), (372, o_end), (373, o_ald 1 374), (374, o_ald 0 375), (375, o_ild 3 376), (376, o_push (vi 1) 377), (377, o_iadd 378), (378, o_sld xs L 379), (379, o_inv 9 96 1 382), (382, o_ald 2 383), (383, o_ald 0 384)],
  [(384, o_ild 3 385), (385, o_push (vi 1) 386), (386, o_iadd 387), (387, o_sld xs L 388), (388, o_inv 10 148 1 391), (391, o_iceq 1195 394), (394, o_push (vi 0) 395), (395, o_end), (396, o_ald 1 397), (397, o_inv 9 97 0 400)],
  [(400, o_ald 2 401), (401, o_inv 10 149 0 404), (404, o_iceq 1195 407), (407, o_push (vi 0) 408), (408, o_end), (409, o_ald 1 410), (410, o_ald 0 411), (411, o_ild 3 412), (412, o_push (vi 1) 413), (413, o_iadd 414), (414, o_sld xs L 415), (415, o_i2l 416)],
  [(416, o_push (vi 32) 418), (418, o_lshl 419), (419, o_ald 0 420), (420, o_ild 3 421), (421, o_push (vi 2) 422), (422, o_iadd 423), (423, o_sld xs L 424), (424, o_i2l 425), (425, o_push (vl 4294967295) 428), (428, o_land 429), (429, o_lor 430), (430, o_ald 0 431), (431, o_ild 3 432)],
  [(432, o_push (vi 3) 433), (433, o_iadd 434), (434, o_sld xs L 435), (435, o_inv 9 98 2 438), (438, o_ald 2 439), (439, o_ald 0 440), (440, o_ild 3 441), (441, o_push (vi 1) 442), (442, o_iadd 443), (443, o_sld xs L 444), (444, o_i2l 445), (445, o_push (vi 32) 447), (447, o_lshl 448)],
  [(448, o_ald 0 449), (449, o_ild 3 450), (450, o_push (vi 2) 451), (451, o_iadd 452), (452, o_sld xs L 453), (453, o_i2l 454), (454, o_push (vl 4294967295) 457), (457, o_land 458), (458, o_lor 459), (459, o_ald 0 460), (460, o_ild 3 461), (461, o_push (vi 3) 462), (462, o_iadd 463), (463, o_sld xs L 464)],
  [(464, o_inv 10 150 2 467), (467, o_iceq 1195 470), (470, o_push (vi 0) 471), (471, o_end), (472, o_ald 1 473), (473, o_inv 9 99 0 476), (476, o_ald 2 477), (477, o_inv 10 151 0 480)],
  [(480, o_iceq 1195 483), (483, o_push (vi 0) 484), (484, o_end), (485, o_ald 1 486), (486, o_inv 9 100 0 489), (489, o_ald 2 490), (490, o_inv 10 158 0 493), (493, o_iceq 1195 496)],
  [(496, o_push (vi 0) 497), (497, o_end), (498, o_ald 1 499), (499, o_inv 9 101 0 502), (502, o_ald 2 503), (503, o_inv 10 159 0 506), (506, o_iceq 1195 509), (509, o_push (vi 0) 510), (510, o_end), (511, o_ald 1 512)],
  [(512, o_inv 9 102 0 515), (515, o_ald 2 516), (516, o_inv 10 160 0 519), (519, o_iceq 1195 522), (522, o_push (vi 0) 523), (523, o_end), (524, o_ald 1 525), (525, o_ald 0 526), (526, o_ild 3 527), (527, o_push (vi 1) 528)],
  [(528, o_iadd 529), (529, o_sld xs L 530), (530, o_inv 9 103 1 533), (533, o_ald 2 534), (534, o_ald 0 535), (535, o_ild 3 536), (536, o_push (vi 1) 537), (537, o_iadd 538), (538, o_sld xs L 539), (539, o_inv 10 162 1 542), (542, o_iceq 1195 545)],
  [(545, o_push (vi 0) 546), (546, o_end), (547, o_ald 1 548), (548, o_ald 0 549), (549, o_ild 3 550), (550, o_push (vi 1) 551), (551, o_iadd 552), (552, o_sld xs L 553), (553, o_ald 0 554), (554, o_ild 3 555), (555, o_push (vi 2) 556), (556, o_iadd 557), (557, o_sld xs L 558), (558, o_inv 9 104 2 561)],
  [(561, o_ald 2 562), (562, o_ald 0 563), (563, o_ild 3 564), (564, o_push (vi 1) 565), (565, o_iadd 566), (566, o_sld xs L 567), (567, o_ald 0 568), (568, o_ild 3 569), (569, o_push (vi 2) 570), (570, o_iadd 571), (571, o_sld xs L 572), (572, o_inv 10 163 2 575), (575, o_iceq 1195 578)],
  [(578, o_push (vi 0) 579), (579, o_end), (580, o_ald 1 581), (581, o_ald 0 582), (582, o_ild 3 583), (583, o_push (vi 1) 584), (584, o_iadd 585), (585, o_sld xs L 586), (586, o_ald 0 587), (587, o_ild 3 588), (588, o_push (vi 2) 589), (589, o_iadd 590), (590, o_sld xs L 591), (591, o_inv 9 105 2 594)],
  [(594, o_ald 2 595), (595, o_ald 0 596), (596, o_ild 3 597), (597, o_push (vi 1) 598), (598, o_iadd 599), (599, o_sld xs L 600), (600, o_ald 0 601), (601, o_ild 3 602), (602, o_push (vi 2) 603), (603, o_iadd 604), (604, o_sld xs L 605), (605, o_inv 10 164 2 608)],
  [(608, o_iceq 1195 611), (611, o_push (vi 0) 612), (612, o_end), (613, o_ald 1 614), (614, o_ald 0 615), (615, o_ild 3 616), (616, o_push (vi 1) 617), (617, o_iadd 618), (618, o_sld xs L 619), (619, o_inv 9 106 1 622), (622, o_ald 2 623), (623, o_ald 0 624)],
  [(624, o_ild 3 625), (625, o_push (vi 1) 626), (626, o_iadd 627), (627, o_sld xs L 628), (628, o_inv 10 173 1 631), (631, o_iceq 1195 634), (634, o_push (vi 0) 635), (635, o_end), (636, o_ald 1 637), (637, o_ald 0 638), (638, o_ild 3 639), (639, o_push (vi 1) 640)],
  [(640, o_iadd 641), (641, o_sld xs L 642), (642, o_ald 0 643), (643, o_ild 3 644), (644, o_push (vi 2) 645), (645, o_iadd 646), (646, o_sld xs L 647), (647, o_inv 9 107 2 650), (650, o_ald 2 651), (651, o_ald 0 652), (652, o_ild 3 653), (653, o_push (vi 1) 654), (654, o_iadd 655), (655, o_sld xs L 656)],
  [(656, o_ald 0 657), (657, o_ild 3 658), (658, o_push (vi 2) 659), (659, o_iadd 660), (660, o_sld xs L 661), (661, o_inv 10 174 2 664), (664, o_iceq 1195 667), (667, o_push (vi 0) 668), (668, o_end), (669, o_ald 1 670), (670, o_ald 0 671), (671, o_ild 3 672)],
  [(672, o_push (vi 1) 673), (673, o_iadd 674), (674, o_sld xs L 675), (675, o_inv 9 108 1 678), (678, o_ald 2 679), (679, o_ald 0 680), (680, o_ild 3 681), (681, o_push (vi 1) 682), (682, o_iadd 683), (683, o_sld xs L 684), (684, o_inv 10 181 1 687), (687, o_iceq 1195 690)],
  [(690, o_push (vi 0) 691), (691, o_end), (692, o_ald 1 693), (693, o_ald 0 694), (694, o_ild 3 695), (695, o_push (vi 1) 696), (696, o_iadd 697), (697, o_sld xs L 698), (698, o_inv 9 109 1 701), (701, o_ald 2 702), (702, o_ald 0 703), (703, o_ild 3 704)],
  [(704, o_push (vi 1) 705), (705, o_iadd 706), (706, o_sld xs L 707), (707, o_inv 10 182 1 710), (710, o_iceq 1195 713), (713, o_push (vi 0) 714), (714, o_end), (715, o_ald 1 716), (716, o_ald 0 717), (717, o_ild 3 718), (718, o_push (vi 1) 719), (719, o_iadd 720)],
  [(720, o_sld xs L 721), (721, o_inv 9 110 1 724), (724, o_ald 2 725), (725, o_ald 0 726), (726, o_ild 3 727), (727, o_push (vi 1) 728), (728, o_iadd 729), (729, o_sld xs L 730), (730, o_inv 10 184 1 733), (733, o_iceq 1195 736)],
  [(736, o_push (vi 0) 737), (737, o_end), (738, o_ald 1 739), (739, o_ald 0 740), (740, o_ild 3 741), (741, o_push (vi 1) 742), (742, o_iadd 743), (743, o_sld xs L 744), (744, o_inv 9 111 1 747), (747, o_ald 2 748), (748, o_ald 0 749), (749, o_ild 3 750), (750, o_push (vi 1) 751), (751, o_iadd 752)],
  [(752, o_sld xs L 753), (753, o_inv 10 185 1 756), (756, o_iceq 1195 759), (759, o_push (vi 0) 760), (760, o_end), (761, o_ald 1 762), (762, o_ald 0 763), (763, o_ild 3 764), (764, o_push (vi 1) 765), (765, o_iadd 766), (766, o_sld xs L 767), (767, o_inv 9 112 1 770)],
  [(770, o_ald 2 771), (771, o_ald 0 772), (772, o_ild 3 773), (773, o_push (vi 1) 774), (774, o_iadd 775), (775, o_sld xs L 776), (776, o_inv 10 186 1 779), (779, o_iceq 1195 782), (782, o_push (vi 0) 783), (783, o_end)],
  [(784, o_ald 1 785), (785, o_ald 0 786), (786, o_ild 3 787), (787, o_push (vi 1) 788), (788, o_iadd 789), (789, o_sld xs L 790), (790, o_ald 0 791), (791, o_ild 3 792), (792, o_push (vi 2) 793), (793, o_iadd 794), (794, o_sld xs L 795), (795, o_inv 9 113 2 798), (798, o_ald 2 799), (799, o_ald 0 800)],
  [(800, o_ild 3 801), (801, o_push (vi 1) 802), (802, o_iadd 803), (803, o_sld xs L 804), (804, o_ald 0 805), (805, o_ild 3 806), (806, o_push (vi 2) 807), (807, o_iadd 808), (808, o_sld xs L 809), (809, o_inv 10 192 2 812), (812, o_iceq 1195 815), (815, o_push (vi 0) 816)],
  [(816, o_end), (817, o_ald 1 818), (818, o_ald 0 819), (819, o_ild 3 820), (820, o_push (vi 1) 821), (821, o_iadd 822), (822, o_sld xs L 823), (823, o_ald 0 824), (824, o_ild 3 825), (825, o_push (vi 2) 826), (826, o_iadd 827), (827, o_sld xs L 828), (828, o_ald 0 829), (829, o_ild 3 830), (830, o_push (vi 3) 831), (831, o_iadd 832)],
  [(832, o_sld xs L 833), (833, o_inv 9 114 3 836), (836, o_ald 2 837), (837, o_ald 0 838), (838, o_ild 3 839), (839, o_push (vi 1) 840), (840, o_iadd 841), (841, o_sld xs L 842), (842, o_ald 0 843), (843, o_ild 3 844), (844, o_push (vi 2) 845), (845, o_iadd 846), (846, o_sld xs L 847), (847, o_ald 0 848)],
  [(848, o_ild 3 849), (849, o_push (vi 3) 850), (850, o_iadd 851), (851, o_sld xs L 852), (852, o_inv 10 193 3 855), (855, o_iceq 1195 858), (858, o_push (vi 0) 859), (859, o_end), (860, o_ald 1 861), (861, o_ald 0 862), (862, o_ild 3 863), (863, o_push (vi 1) 864)],
  [(864, o_iadd 865), (865, o_sld xs L 866), (866, o_ald 0 867), (867, o_ild 3 868), (868, o_push (vi 2) 869), (869, o_iadd 870), (870, o_sld xs L 871), (871, o_ald 0 872), (872, o_ild 3 873), (873, o_push (vi 3) 874), (874, o_iadd 875), (875, o_sld xs L 876), (876, o_ald 0 877), (877, o_ild 3 878), (878, o_push (vi 4) 879), (879, o_iadd 880)],
  [(880, o_sld xs L 881), (881, o_inv 9 115 4 884), (884, o_ald 2 885), (885, o_ald 0 886), (886, o_ild 3 887), (887, o_push (vi 1) 888), (888, o_iadd 889), (889, o_sld xs L 890), (890, o_ald 0 891), (891, o_ild 3 892), (892, o_push (vi 2) 893), (893, o_iadd 894), (894, o_sld xs L 895), (895, o_ald 0 896)],
  [(896, o_ild 3 897), (897, o_push (vi 3) 898), (898, o_iadd 899), (899, o_sld xs L 900), (900, o_ald 0 901), (901, o_ild 3 902), (902, o_push (vi 4) 903), (903, o_iadd 904), (904, o_sld xs L 905), (905, o_inv 10 194 4 908), (908, o_iceq 1195 911), (911, o_push (vi 0) 912)],
  [(912, o_end), (913, o_ald 1 914), (914, o_ald 0 915), (915, o_ild 3 916), (916, o_push (vi 1) 917), (917, o_iadd 918), (918, o_sld xs L 919), (919, o_ald 0 920), (920, o_ild 3 921), (921, o_push (vi 2) 922), (922, o_iadd 923), (923, o_sld xs L 924), (924, o_inv 9 116 2 927), (927, o_ald 2 928)],
  [(928, o_ald 0 929), (929, o_ild 3 930), (930, o_push (vi 1) 931), (931, o_iadd 932), (932, o_sld xs L 933), (933, o_ald 0 934), (934, o_ild 3 935), (935, o_push (vi 2) 936), (936, o_iadd 937), (937, o_sld xs L 938), (938, o_inv 10 197 2 941), (941, o_iceq 1195 944)],
  [(944, o_push (vi 0) 945), (945, o_end), (946, o_ald 1 947), (947, o_ald 0 948), (948, o_ild 3 949), (949, o_push (vi 1) 950), (950, o_iadd 951), (951, o_sld xs L 952), (952, o_inv 9 117 1 955), (955, o_ald 2 956), (956, o_ald 0 957), (957, o_ild 3 958), (958, o_push (vi 1) 959), (959, o_iadd 960)],
  [(960, o_sld xs L 961), (961, o_inv 10 198 1 964), (964, o_iceq 1195 967), (967, o_push (vi 0) 968), (968, o_end), (969, o_ald 1 970), (970, o_inv 9 118 0 973), (973, o_ald 2 974), (974, o_inv 10 199 0 977)],
  [(977, o_iceq 1195 980), (980, o_push (vi 0) 981), (981, o_end), (982, o_ald 1 983), (983, o_ald 0 984), (984, o_ild 3 985), (985, o_push (vi 1) 986), (986, o_iadd 987), (987, o_sld xs L 988), (988, o_ald 0 989), (989, o_ild 3 990), (990, o_push (vi 2) 991), (991, o_iadd 992)],
  [(992, o_sld xs L 993), (993, o_ald 0 994), (994, o_ild 3 995), (995, o_push (vi 3) 996), (996, o_iadd 997), (997, o_sld xs L 998), (998, o_ald 0 999), (999, o_ild 3 1000), (1000, o_push (vi 4) 1001), (1001, o_iadd 1002), (1002, o_sld xs L 1003), (1003, o_ald 0 1004), (1004, o_ild 3 1005), (1005, o_push (vi 5) 1006), (1006, o_iadd 1007), (1007, o_sld xs L 1008)],
  [(1008, o_ald 0 1009), (1009, o_ild 3 1010), (1010, o_push (vi 6) 1012), (1012, o_iadd 1013), (1013, o_sld xs L 1014), (1014, o_inv 9 119 6 1017), (1017, o_ald 2 1018), (1018, o_ald 0 1019), (1019, o_ild 3 1020), (1020, o_push (vi 1) 1021), (1021, o_iadd 1022), (1022, o_sld xs L 1023), (1023, o_ald 0 1024)],
  [(1024, o_ild 3 1025), (1025, o_push (vi 2) 1026), (1026, o_iadd 1027), (1027, o_sld xs L 1028), (1028, o_ald 0 1029), (1029, o_ild 3 1030), (1030, o_push (vi 3) 1031), (1031, o_iadd 1032), (1032, o_sld xs L 1033), (1033, o_ald 0 1034), (1034, o_ild 3 1035), (1035, o_push (vi 4) 1036), (1036, o_iadd 1037), (1037, o_sld xs L 1038), (1038, o_ald 0 1039), (1039, o_ild 3 1040)],
  [(1040, o_push (vi 5) 1041), (1041, o_iadd 1042), (1042, o_sld xs L 1043), (1043, o_ald 0 1044), (1044, o_ild 3 1045), (1045, o_push (vi 6) 1047), (1047, o_iadd 1048), (1048, o_sld xs L 1049), (1049, o_inv 10 201 6 1052), (1052, o_iceq 1195 1055), (1055, o_push (vi 0) 1056)],
  [(1056, o_end), (1057, o_ald 1 1058), (1058, o_ald 0 1059), (1059, o_ild 3 1060), (1060, o_push (vi 1) 1061), (1061, o_iadd 1062), (1062, o_sld xs L 1063), (1063, o_ald 0 1064), (1064, o_ild 3 1065), (1065, o_push (vi 2) 1066), (1066, o_iadd 1067), (1067, o_sld xs L 1068), (1068, o_inv 9 120 2 1071), (1071, o_ald 2 1072)],
  [(1072, o_ald 0 1073), (1073, o_ild 3 1074), (1074, o_push (vi 1) 1075), (1075, o_iadd 1076), (1076, o_sld xs L 1077), (1077, o_ald 0 1078), (1078, o_ild 3 1079), (1079, o_push (vi 2) 1080), (1080, o_iadd 1081), (1081, o_sld xs L 1082), (1082, o_inv 10 202 2 1085), (1085, o_iceq 1195 1088)],
  [(1088, o_push (vi 0) 1089), (1089, o_end), (1090, o_ald 1 1091), (1091, o_ald 0 1092), (1092, o_ild 3 1093), (1093, o_push (vi 1) 1094), (1094, o_iadd 1095), (1095, o_sld xs L 1096), (1096, o_inv 9 121 1 1099), (1099, o_ald 2 1100), (1100, o_ald 0 1101), (1101, o_ild 3 1102), (1102, o_push (vi 1) 1103), (1103, o_iadd 1104)],
  [(1104, o_sld xs L 1105), (1105, o_inv 10 203 1 1108), (1108, o_iceq 1195 1111), (1111, o_push (vi 0) 1112), (1112, o_end), (1113, o_ald 1 1114), (1114, o_ald 0 1115), (1115, o_ild 3 1116), (1116, o_push (vi 1) 1117), (1117, o_iadd 1118), (1118, o_sld xs L 1119), (1119, o_inv 9 122 1 1122)],
  [(1122, o_ald 2 1123), (1123, o_ald 0 1124), (1124, o_ild 3 1125), (1125, o_push (vi 1) 1126), (1126, o_iadd 1127), (1127, o_sld xs L 1128), (1128, o_inv 10 204 1 1131), (1131, o_iceq 1195 1134), (1134, o_push (vi 0) 1135), (1135, o_end)],
  [(1136, o_ald 1 1137), (1137, o_ald 0 1138), (1138, o_ild 3 1139), (1139, o_push (vi 1) 1140), (1140, o_iadd 1141), (1141, o_sld xs L 1142), (1142, o_inv 9 123 1 1145), (1145, o_ald 2 1146), (1146, o_ald 0 1147), (1147, o_ild 3 1148), (1148, o_push (vi 1) 1149), (1149, o_iadd 1150), (1150, o_sld xs L 1151), (1151, o_inv 10 206 1 1154)],
  [(1154, o_iceq 1195 1157), (1157, o_push (vi 0) 1158), (1158, o_end), (1159, o_ald 1 1160), (1160, o_inv 9 124 0 1163), (1163, o_ald 2 1164), (1164, o_inv 10 207 0 1167), (1167, o_iceq 1195 1170)],
  [(1170, o_push (vi 0) 1171), (1171, o_end), (1172, o_ald 1 1173), (1173, o_ald 0 1174), (1174, o_ild 3 1175), (1175, o_push (vi 1) 1176), (1176, o_iadd 1177), (1177, o_sld xs L 1178), (1178, o_inv 9 125 1 1181), (1181, o_ald 2 1182), (1182, o_ald 0 1183), (1183, o_ild 3 1184)],
  [(1184, o_push (vi 1) 1185), (1185, o_iadd 1186), (1186, o_sld xs L 1187), (1187, o_inv 10 208 1 1190), (1190, o_iceq 1195 1193), (1193, o_push (vi 0) 1194), (1194, o_end), (1195, o_iinc 3 7 1198), (1198, o_goto 18)],
  [(1201, o_push (vi 1) 1202), (1202, o_end)]]
theorem sdL_0 {xs : Nat → Int32} {L : Nat} : AllS MT mmL (fun _ _ => True) (mScr L xs) [(0, o_new 9 3), (3, o_dupr 4), (4, o_inv 9 90 0 7), (7, o_ast 1 8), (8, o_new 10 11), (11, o_dupr 12), (12, o_inv 10 135 0 15), (15, o_ast 2 16)] := ⟨sn_new cls_9 w_96 w_97 w_78 dL_law_0 rfl, sn_dupr dL_law_3 rfl, sn_ini cls_9 (yn := 90) (na := 0) can_90 w_98 w_99 rfl rfl dL_law_4 rfl, sn_astore_n (k := 1) (Nat.le_of_ble_eq_true rfl) dL_law_7 rfl, sn_new cls_10 w_1059 w_1060 w_88 dL_law_8 rfl, sn_dupr dL_law_11 rfl, sn_ini cls_10 (yn := 135) (na := 0) can_135 w_1061 w_1062 rfl rfl dL_law_12 rfl, sn_astore_n (k := 2) (Nat.le_of_ble_eq_true rfl) dL_law_15 rfl, trivial⟩
theorem sdL_1 {xs : Nat → Int32} {L : Nat} : AllS MT mmL (fun _ _ => True) (mScr L xs) [(16, o_push (vi 0) 17), (17, o_ist 3 18), (18, o_ild 3 19), (19, o_ald 0 20), (20, o_slen L 21), (21, o_push (vi 7) 23), (23, o_isub 24), (24, o_icgt 1201 27), (27, o_ald 0 28), (28, o_ild 3 29), (29, o_sld xs L 30), (30, o_push (vi 63) 32)] := ⟨sn_iconst (z := 0) dL_law_16 rfl rfl, sn_istore_n (k := 3) (Nat.le_of_ble_eq_true rfl) dL_law_17 rfl, sn_iload_n (k := 3) dL_law_18 rfl, sn_aload_n (k := 0) dL_law_19 rfl, sn_slen dL_law_20 rfl, sn_bipush (z := 7) (by decide) dL_law_21 rfl, sn_isub dL_law_23 rfl, sn_icmpgt dL_law_24 rfl rfl, sn_aload_n (k := 0) dL_law_27 rfl, sn_iload_n (k := 3) dL_law_28 rfl, sn_sld dL_law_29 rfl, sn_bipush (z := 63) (by decide) dL_law_30 rfl, trivial⟩
theorem sdL_2 {xs : Nat → Int32} {L : Nat} : AllS MT mmL (fun _ _ => True) (mScr L xs) [(32, o_iand 33), (33, o_tsw 0 [188, 211, 254, 287, 330, 373, 396, 409, 472, 485, 498, 511, 524, 547, 580, 613, 636, 669, 692, 715, 738, 761, 784, 817, 860, 913, 946, 969, 982, 1057, 1090, 1113, 1136, 1159, 1172] 1195)] := ⟨sn_iand dL_law_32 rfl, sn_tsw dL_law_33 rfl rfl rfl, trivial⟩
theorem sdL_3 {xs : Nat → Int32} {L : Nat} : AllS MT mmL (fun _ _ => True) (mScr L xs) [] := trivial
theorem sdL_4 {xs : Nat → Int32} {L : Nat} : AllS MT mmL (fun _ _ => True) (mScr L xs) [] := trivial
theorem sdL_5 {xs : Nat → Int32} {L : Nat} : AllS MT mmL (fun _ _ => True) (mScr L xs) [] := trivial
theorem sdL_6 {xs : Nat → Int32} {L : Nat} : AllS MT mmL (fun _ _ => True) (mScr L xs) [] := trivial
theorem sdL_7 {xs : Nat → Int32} {L : Nat} : AllS MT mmL (fun _ _ => True) (mScr L xs) [] := trivial
theorem sdL_8 {xs : Nat → Int32} {L : Nat} : AllS MT mmL (fun _ _ => True) (mScr L xs) [] := trivial
theorem sdL_9 {xs : Nat → Int32} {L : Nat} : AllS MT mmL (fun _ _ => True) (mScr L xs) [] := trivial
theorem sdL_10 {xs : Nat → Int32} {L : Nat} : AllS MT mmL (fun _ _ => True) (mScr L xs) [] := trivial
theorem sdL_11 {xs : Nat → Int32} {L : Nat} : AllS MT mmL (fun _ _ => True) (mScr L xs) [(188, o_ald 1 189), (189, o_ald 0 190), (190, o_ild 3 191), (191, o_push (vi 1) 192)] := ⟨sn_aload_n (k := 1) dL_law_188 rfl, sn_aload_n (k := 0) dL_law_189 rfl, sn_iload_n (k := 3) dL_law_190 rfl, sn_iconst (z := 1) dL_law_191 rfl rfl, trivial⟩
theorem sdL_12 {xs : Nat → Int32} {L : Nat} : AllS MT mmL (fun _ _ => True) (mScr L xs) [(192, o_iadd 193), (193, o_sld xs L 194), (194, o_inv 9 91 1 197), (197, o_ald 2 198), (198, o_ald 0 199), (199, o_ild 3 200), (200, o_push (vi 1) 201), (201, o_iadd 202), (202, o_sld xs L 203), (203, o_inv 10 141 1 206), (206, o_iceq 1195 209)] := ⟨sn_iadd dL_law_192 rfl, sn_sld dL_law_193 rfl, sn_inv cls_9 (yn := 91) (na := 1) can_91 w_488 w_489 w_490 dL_law_194 rfl, sn_aload_n (k := 2) dL_law_197 rfl, sn_aload_n (k := 0) dL_law_198 rfl, sn_iload_n (k := 3) dL_law_199 rfl, sn_iconst (z := 1) dL_law_200 rfl rfl, sn_iadd dL_law_201 rfl, sn_sld dL_law_202 rfl, sn_inv cls_10 (yn := 141) (na := 1) can_141 w_1198 w_1199 w_1200 dL_law_203 rfl, sn_icmpeq dL_law_206 rfl rfl, trivial⟩
theorem sdL_13 {xs : Nat → Int32} {L : Nat} : AllS MT mmL (fun _ _ => True) (mScr L xs) [(209, o_push (vi 0) 210), (210, o_end), (211, o_ald 1 212), (212, o_ald 0 213), (213, o_ild 3 214), (214, o_push (vi 1) 215), (215, o_iadd 216), (216, o_sld xs L 217), (217, o_ald 0 218), (218, o_ild 3 219), (219, o_push (vi 2) 220), (220, o_iadd 221), (221, o_sld xs L 222), (222, o_ald 0 223), (223, o_ild 3 224)] := ⟨sn_iconst (z := 0) dL_law_209 rfl rfl, sn_end (fun _ _ => trivial) rfl dL_law_210, sn_aload_n (k := 1) dL_law_211 rfl, sn_aload_n (k := 0) dL_law_212 rfl, sn_iload_n (k := 3) dL_law_213 rfl, sn_iconst (z := 1) dL_law_214 rfl rfl, sn_iadd dL_law_215 rfl, sn_sld dL_law_216 rfl, sn_aload_n (k := 0) dL_law_217 rfl, sn_iload_n (k := 3) dL_law_218 rfl, sn_iconst (z := 2) dL_law_219 rfl rfl, sn_iadd dL_law_220 rfl, sn_sld dL_law_221 rfl, sn_aload_n (k := 0) dL_law_222 rfl, sn_iload_n (k := 3) dL_law_223 rfl, trivial⟩
theorem sdL_14 {xs : Nat → Int32} {L : Nat} : AllS MT mmL (fun _ _ => True) (mScr L xs) [(224, o_push (vi 3) 225), (225, o_iadd 226), (226, o_sld xs L 227), (227, o_inv 9 92 3 230), (230, o_ald 2 231), (231, o_ald 0 232), (232, o_ild 3 233), (233, o_push (vi 1) 234), (234, o_iadd 235), (235, o_sld xs L 236), (236, o_ald 0 237), (237, o_ild 3 238), (238, o_push (vi 2) 239), (239, o_iadd 240)] := ⟨sn_iconst (z := 3) dL_law_224 rfl rfl, sn_iadd dL_law_225 rfl, sn_sld dL_law_226 rfl, sn_inv cls_9 (yn := 92) (na := 3) can_92 w_497 w_498 w_499 dL_law_227 rfl, sn_aload_n (k := 2) dL_law_230 rfl, sn_aload_n (k := 0) dL_law_231 rfl, sn_iload_n (k := 3) dL_law_232 rfl, sn_iconst (z := 1) dL_law_233 rfl rfl, sn_iadd dL_law_234 rfl, sn_sld dL_law_235 rfl, sn_aload_n (k := 0) dL_law_236 rfl, sn_iload_n (k := 3) dL_law_237 rfl, sn_iconst (z := 2) dL_law_238 rfl rfl, sn_iadd dL_law_239 rfl, trivial⟩
theorem sdL_15 {xs : Nat → Int32} {L : Nat} : AllS MT mmL (fun _ _ => True) (mScr L xs) [(240, o_sld xs L 241), (241, o_ald 0 242), (242, o_ild 3 243), (243, o_push (vi 3) 244), (244, o_iadd 245), (245, o_sld xs L 246), (246, o_inv 10 142 3 249), (249, o_iceq 1195 252), (252, o_push (vi 0) 253), (253, o_end), (254, o_ald 1 255), (255, o_ald 0 256)] := ⟨sn_sld dL_law_240 rfl, sn_aload_n (k := 0) dL_law_241 rfl, sn_iload_n (k := 3) dL_law_242 rfl, sn_iconst (z := 3) dL_law_243 rfl rfl, sn_iadd dL_law_244 rfl, sn_sld dL_law_245 rfl, sn_inv cls_10 (yn := 142) (na := 3) can_142 w_1205 w_1206 w_1207 dL_law_246 rfl, sn_icmpeq dL_law_249 rfl rfl, sn_iconst (z := 0) dL_law_252 rfl rfl, sn_end (fun _ _ => trivial) rfl dL_law_253, sn_aload_n (k := 1) dL_law_254 rfl, sn_aload_n (k := 0) dL_law_255 rfl, trivial⟩
theorem sdL_16 {xs : Nat → Int32} {L : Nat} : AllS MT mmL (fun _ _ => True) (mScr L xs) [(256, o_ild 3 257), (257, o_push (vi 1) 258), (258, o_iadd 259), (259, o_sld xs L 260), (260, o_ald 0 261), (261, o_ild 3 262), (262, o_push (vi 2) 263), (263, o_iadd 264), (264, o_sld xs L 265), (265, o_inv 9 93 2 268), (268, o_ald 2 269), (269, o_ald 0 270), (270, o_ild 3 271), (271, o_push (vi 1) 272)] := ⟨sn_iload_n (k := 3) dL_law_256 rfl, sn_iconst (z := 1) dL_law_257 rfl rfl, sn_iadd dL_law_258 rfl, sn_sld dL_law_259 rfl, sn_aload_n (k := 0) dL_law_260 rfl, sn_iload_n (k := 3) dL_law_261 rfl, sn_iconst (z := 2) dL_law_262 rfl rfl, sn_iadd dL_law_263 rfl, sn_sld dL_law_264 rfl, sn_inv cls_9 (yn := 93) (na := 2) can_93 w_508 w_509 w_510 dL_law_265 rfl, sn_aload_n (k := 2) dL_law_268 rfl, sn_aload_n (k := 0) dL_law_269 rfl, sn_iload_n (k := 3) dL_law_270 rfl, sn_iconst (z := 1) dL_law_271 rfl rfl, trivial⟩
theorem sdL_17 {xs : Nat → Int32} {L : Nat} : AllS MT mmL (fun _ _ => True) (mScr L xs) [(272, o_iadd 273), (273, o_sld xs L 274), (274, o_ald 0 275), (275, o_ild 3 276), (276, o_push (vi 2) 277), (277, o_iadd 278), (278, o_sld xs L 279), (279, o_inv 10 145 2 282), (282, o_iceq 1195 285), (285, o_push (vi 0) 286), (286, o_end), (287, o_ald 1 288)] := ⟨sn_iadd dL_law_272 rfl, sn_sld dL_law_273 rfl, sn_aload_n (k := 0) dL_law_274 rfl, sn_iload_n (k := 3) dL_law_275 rfl, sn_iconst (z := 2) dL_law_276 rfl rfl, sn_iadd dL_law_277 rfl, sn_sld dL_law_278 rfl, sn_inv cls_10 (yn := 145) (na := 2) can_145 w_1209 w_1210 w_1211 dL_law_279 rfl, sn_icmpeq dL_law_282 rfl rfl, sn_iconst (z := 0) dL_law_285 rfl rfl, sn_end (fun _ _ => trivial) rfl dL_law_286, sn_aload_n (k := 1) dL_law_287 rfl, trivial⟩
theorem sdL_18 {xs : Nat → Int32} {L : Nat} : AllS MT mmL (fun _ _ => True) (mScr L xs) [(288, o_ald 0 289), (289, o_ild 3 290), (290, o_push (vi 1) 291), (291, o_iadd 292), (292, o_sld xs L 293), (293, o_ald 0 294), (294, o_ild 3 295), (295, o_push (vi 2) 296), (296, o_iadd 297), (297, o_sld xs L 298), (298, o_ald 0 299), (299, o_ild 3 300), (300, o_push (vi 3) 301), (301, o_iadd 302), (302, o_sld xs L 303), (303, o_inv 9 94 3 306)] := ⟨sn_aload_n (k := 0) dL_law_288 rfl, sn_iload_n (k := 3) dL_law_289 rfl, sn_iconst (z := 1) dL_law_290 rfl rfl, sn_iadd dL_law_291 rfl, sn_sld dL_law_292 rfl, sn_aload_n (k := 0) dL_law_293 rfl, sn_iload_n (k := 3) dL_law_294 rfl, sn_iconst (z := 2) dL_law_295 rfl rfl, sn_iadd dL_law_296 rfl, sn_sld dL_law_297 rfl, sn_aload_n (k := 0) dL_law_298 rfl, sn_iload_n (k := 3) dL_law_299 rfl, sn_iconst (z := 3) dL_law_300 rfl rfl, sn_iadd dL_law_301 rfl, sn_sld dL_law_302 rfl, sn_inv cls_9 (yn := 94) (na := 3) can_94 w_532 w_533 w_534 dL_law_303 rfl, trivial⟩
theorem sdL_19 {xs : Nat → Int32} {L : Nat} : AllS MT mmL (fun _ _ => True) (mScr L xs) [(306, o_ald 2 307), (307, o_ald 0 308), (308, o_ild 3 309), (309, o_push (vi 1) 310), (310, o_iadd 311), (311, o_sld xs L 312), (312, o_ald 0 313), (313, o_ild 3 314), (314, o_push (vi 2) 315), (315, o_iadd 316), (316, o_sld xs L 317), (317, o_ald 0 318), (318, o_ild 3 319), (319, o_push (vi 3) 320)] := ⟨sn_aload_n (k := 2) dL_law_306 rfl, sn_aload_n (k := 0) dL_law_307 rfl, sn_iload_n (k := 3) dL_law_308 rfl, sn_iconst (z := 1) dL_law_309 rfl rfl, sn_iadd dL_law_310 rfl, sn_sld dL_law_311 rfl, sn_aload_n (k := 0) dL_law_312 rfl, sn_iload_n (k := 3) dL_law_313 rfl, sn_iconst (z := 2) dL_law_314 rfl rfl, sn_iadd dL_law_315 rfl, sn_sld dL_law_316 rfl, sn_aload_n (k := 0) dL_law_317 rfl, sn_iload_n (k := 3) dL_law_318 rfl, sn_iconst (z := 3) dL_law_319 rfl rfl, trivial⟩
theorem sdL_20 {xs : Nat → Int32} {L : Nat} : AllS MT mmL (fun _ _ => True) (mScr L xs) [(320, o_iadd 321), (321, o_sld xs L 322), (322, o_inv 10 146 3 325), (325, o_iceq 1195 328), (328, o_push (vi 0) 329), (329, o_end), (330, o_ald 1 331), (331, o_ald 0 332), (332, o_ild 3 333), (333, o_push (vi 1) 334), (334, o_iadd 335), (335, o_sld xs L 336)] := ⟨sn_iadd dL_law_320 rfl, sn_sld dL_law_321 rfl, sn_inv cls_10 (yn := 146) (na := 3) can_146 w_1229 w_1230 w_1231 dL_law_322 rfl, sn_icmpeq dL_law_325 rfl rfl, sn_iconst (z := 0) dL_law_328 rfl rfl, sn_end (fun _ _ => trivial) rfl dL_law_329, sn_aload_n (k := 1) dL_law_330 rfl, sn_aload_n (k := 0) dL_law_331 rfl, sn_iload_n (k := 3) dL_law_332 rfl, sn_iconst (z := 1) dL_law_333 rfl rfl, sn_iadd dL_law_334 rfl, sn_sld dL_law_335 rfl, trivial⟩
theorem sdL_21 {xs : Nat → Int32} {L : Nat} : AllS MT mmL (fun _ _ => True) (mScr L xs) [(336, o_ald 0 337), (337, o_ild 3 338), (338, o_push (vi 2) 339), (339, o_iadd 340), (340, o_sld xs L 341), (341, o_ald 0 342), (342, o_ild 3 343), (343, o_push (vi 3) 344), (344, o_iadd 345), (345, o_sld xs L 346), (346, o_inv 9 95 3 349), (349, o_ald 2 350), (350, o_ald 0 351), (351, o_ild 3 352)] := ⟨sn_aload_n (k := 0) dL_law_336 rfl, sn_iload_n (k := 3) dL_law_337 rfl, sn_iconst (z := 2) dL_law_338 rfl rfl, sn_iadd dL_law_339 rfl, sn_sld dL_law_340 rfl, sn_aload_n (k := 0) dL_law_341 rfl, sn_iload_n (k := 3) dL_law_342 rfl, sn_iconst (z := 3) dL_law_343 rfl rfl, sn_iadd dL_law_344 rfl, sn_sld dL_law_345 rfl, sn_inv cls_9 (yn := 95) (na := 3) can_95 w_536 w_537 w_538 dL_law_346 rfl, sn_aload_n (k := 2) dL_law_349 rfl, sn_aload_n (k := 0) dL_law_350 rfl, sn_iload_n (k := 3) dL_law_351 rfl, trivial⟩
theorem sdL_22 {xs : Nat → Int32} {L : Nat} : AllS MT mmL (fun _ _ => True) (mScr L xs) [(352, o_push (vi 1) 353), (353, o_iadd 354), (354, o_sld xs L 355), (355, o_ald 0 356), (356, o_ild 3 357), (357, o_push (vi 2) 358), (358, o_iadd 359), (359, o_sld xs L 360), (360, o_ald 0 361), (361, o_ild 3 362), (362, o_push (vi 3) 363), (363, o_iadd 364), (364, o_sld xs L 365), (365, o_inv 10 147 3 368)] := ⟨sn_iconst (z := 1) dL_law_352 rfl rfl, sn_iadd dL_law_353 rfl, sn_sld dL_law_354 rfl, sn_aload_n (k := 0) dL_law_355 rfl, sn_iload_n (k := 3) dL_law_356 rfl, sn_iconst (z := 2) dL_law_357 rfl rfl, sn_iadd dL_law_358 rfl, sn_sld dL_law_359 rfl, sn_aload_n (k := 0) dL_law_360 rfl, sn_iload_n (k := 3) dL_law_361 rfl, sn_iconst (z := 3) dL_law_362 rfl rfl, sn_iadd dL_law_363 rfl, sn_sld dL_law_364 rfl, sn_inv cls_10 (yn := 147) (na := 3) can_147 w_1233 w_1234 w_1235 dL_law_365 rfl, trivial⟩
theorem sdL_23 {xs : Nat → Int32} {L : Nat} : AllS MT mmL (fun _ _ => True) (mScr L xs) [(368, o_iceq 1195 371), (371, o_push (vi 0) 372), (372, o_end), (373, o_ald 1 374), (374, o_ald 0 375), (375, o_ild 3 376), (376, o_push (vi 1) 377), (377, o_iadd 378), (378, o_sld xs L 379), (379, o_inv 9 96 1 382), (382, o_ald 2 383), (383, o_ald 0 384)] := ⟨sn_icmpeq dL_law_368 rfl rfl, sn_iconst (z := 0) dL_law_371 rfl rfl, sn_end (fun _ _ => trivial) rfl dL_law_372, sn_aload_n (k := 1) dL_law_373 rfl, sn_aload_n (k := 0) dL_law_374 rfl, sn_iload_n (k := 3) dL_law_375 rfl, sn_iconst (z := 1) dL_law_376 rfl rfl, sn_iadd dL_law_377 rfl, sn_sld dL_law_378 rfl, sn_inv cls_9 (yn := 96) (na := 1) can_96 w_544 w_545 w_546 dL_law_379 rfl, sn_aload_n (k := 2) dL_law_382 rfl, sn_aload_n (k := 0) dL_law_383 rfl, trivial⟩
theorem sdL_24 {xs : Nat → Int32} {L : Nat} : AllS MT mmL (fun _ _ => True) (mScr L xs) [(384, o_ild 3 385), (385, o_push (vi 1) 386), (386, o_iadd 387), (387, o_sld xs L 388), (388, o_inv 10 148 1 391), (391, o_iceq 1195 394), (394, o_push (vi 0) 395), (395, o_end), (396, o_ald 1 397), (397, o_inv 9 97 0 400)] := ⟨sn_iload_n (k := 3) dL_law_384 rfl, sn_iconst (z := 1) dL_law_385 rfl rfl, sn_iadd dL_law_386 rfl, sn_sld dL_law_387 rfl, sn_inv cls_10 (yn := 148) (na := 1) can_148 w_1241 w_1242 w_1243 dL_law_388 rfl, sn_icmpeq dL_law_391 rfl rfl, sn_iconst (z := 0) dL_law_394 rfl rfl, sn_end (fun _ _ => trivial) rfl dL_law_395, sn_aload_n (k := 1) dL_law_396 rfl, sn_inv cls_9 (yn := 97) (na := 0) can_97 w_552 w_553 w_554 dL_law_397 rfl, trivial⟩
theorem sdL_25 {xs : Nat → Int32} {L : Nat} : AllS MT mmL (fun _ _ => True) (mScr L xs) [(400, o_ald 2 401), (401, o_inv 10 149 0 404), (404, o_iceq 1195 407), (407, o_push (vi 0) 408), (408, o_end), (409, o_ald 1 410), (410, o_ald 0 411), (411, o_ild 3 412), (412, o_push (vi 1) 413), (413, o_iadd 414), (414, o_sld xs L 415), (415, o_i2l 416)] := ⟨sn_aload_n (k := 2) dL_law_400 rfl, sn_inv cls_10 (yn := 149) (na := 0) can_149 w_1245 w_1246 w_1247 dL_law_401 rfl, sn_icmpeq dL_law_404 rfl rfl, sn_iconst (z := 0) dL_law_407 rfl rfl, sn_end (fun _ _ => trivial) rfl dL_law_408, sn_aload_n (k := 1) dL_law_409 rfl, sn_aload_n (k := 0) dL_law_410 rfl, sn_iload_n (k := 3) dL_law_411 rfl, sn_iconst (z := 1) dL_law_412 rfl rfl, sn_iadd dL_law_413 rfl, sn_sld dL_law_414 rfl, sn_i2l dL_law_415 rfl, trivial⟩
theorem sdL_26 {xs : Nat → Int32} {L : Nat} : AllS MT mmL (fun _ _ => True) (mScr L xs) [(416, o_push (vi 32) 418), (418, o_lshl 419), (419, o_ald 0 420), (420, o_ild 3 421), (421, o_push (vi 2) 422), (422, o_iadd 423), (423, o_sld xs L 424), (424, o_i2l 425), (425, o_push (vl 4294967295) 428), (428, o_land 429), (429, o_lor 430), (430, o_ald 0 431), (431, o_ild 3 432)] := ⟨sn_bipush (z := 32) (by decide) dL_law_416 rfl, sn_lshl dL_law_418 rfl, sn_aload_n (k := 0) dL_law_419 rfl, sn_iload_n (k := 3) dL_law_420 rfl, sn_iconst (z := 2) dL_law_421 rfl rfl, sn_iadd dL_law_422 rfl, sn_sld dL_law_423 rfl, sn_i2l dL_law_424 rfl, sn_ldc2 (z := 4294967295) w_1500 (by decide) dL_law_425 rfl, sn_land dL_law_428 rfl, sn_lor dL_law_429 rfl, sn_aload_n (k := 0) dL_law_430 rfl, sn_iload_n (k := 3) dL_law_431 rfl, trivial⟩
theorem sdL_27 {xs : Nat → Int32} {L : Nat} : AllS MT mmL (fun _ _ => True) (mScr L xs) [(432, o_push (vi 3) 433), (433, o_iadd 434), (434, o_sld xs L 435), (435, o_inv 9 98 2 438), (438, o_ald 2 439), (439, o_ald 0 440), (440, o_ild 3 441), (441, o_push (vi 1) 442), (442, o_iadd 443), (443, o_sld xs L 444), (444, o_i2l 445), (445, o_push (vi 32) 447), (447, o_lshl 448)] := ⟨sn_iconst (z := 3) dL_law_432 rfl rfl, sn_iadd dL_law_433 rfl, sn_sld dL_law_434 rfl, sn_inv cls_9 (yn := 98) (na := 2) can_98 w_556 w_557 w_558 dL_law_435 rfl, sn_aload_n (k := 2) dL_law_438 rfl, sn_aload_n (k := 0) dL_law_439 rfl, sn_iload_n (k := 3) dL_law_440 rfl, sn_iconst (z := 1) dL_law_441 rfl rfl, sn_iadd dL_law_442 rfl, sn_sld dL_law_443 rfl, sn_i2l dL_law_444 rfl, sn_bipush (z := 32) (by decide) dL_law_445 rfl, sn_lshl dL_law_447 rfl, trivial⟩
theorem sdL_28 {xs : Nat → Int32} {L : Nat} : AllS MT mmL (fun _ _ => True) (mScr L xs) [(448, o_ald 0 449), (449, o_ild 3 450), (450, o_push (vi 2) 451), (451, o_iadd 452), (452, o_sld xs L 453), (453, o_i2l 454), (454, o_push (vl 4294967295) 457), (457, o_land 458), (458, o_lor 459), (459, o_ald 0 460), (460, o_ild 3 461), (461, o_push (vi 3) 462), (462, o_iadd 463), (463, o_sld xs L 464)] := ⟨sn_aload_n (k := 0) dL_law_448 rfl, sn_iload_n (k := 3) dL_law_449 rfl, sn_iconst (z := 2) dL_law_450 rfl rfl, sn_iadd dL_law_451 rfl, sn_sld dL_law_452 rfl, sn_i2l dL_law_453 rfl, sn_ldc2 (z := 4294967295) w_1500 (by decide) dL_law_454 rfl, sn_land dL_law_457 rfl, sn_lor dL_law_458 rfl, sn_aload_n (k := 0) dL_law_459 rfl, sn_iload_n (k := 3) dL_law_460 rfl, sn_iconst (z := 3) dL_law_461 rfl rfl, sn_iadd dL_law_462 rfl, sn_sld dL_law_463 rfl, trivial⟩
theorem sdL_29 {xs : Nat → Int32} {L : Nat} : AllS MT mmL (fun _ _ => True) (mScr L xs) [(464, o_inv 10 150 2 467), (467, o_iceq 1195 470), (470, o_push (vi 0) 471), (471, o_end), (472, o_ald 1 473), (473, o_inv 9 99 0 476), (476, o_ald 2 477), (477, o_inv 10 151 0 480)] := ⟨sn_inv cls_10 (yn := 150) (na := 2) can_150 w_1249 w_1250 w_1251 dL_law_464 rfl, sn_icmpeq dL_law_467 rfl rfl, sn_iconst (z := 0) dL_law_470 rfl rfl, sn_end (fun _ _ => trivial) rfl dL_law_471, sn_aload_n (k := 1) dL_law_472 rfl, sn_inv cls_9 (yn := 99) (na := 0) can_99 w_565 w_566 w_567 dL_law_473 rfl, sn_aload_n (k := 2) dL_law_476 rfl, sn_inv cls_10 (yn := 151) (na := 0) can_151 w_1254 w_1255 w_1256 dL_law_477 rfl, trivial⟩
theorem sdL_30 {xs : Nat → Int32} {L : Nat} : AllS MT mmL (fun _ _ => True) (mScr L xs) [(480, o_iceq 1195 483), (483, o_push (vi 0) 484), (484, o_end), (485, o_ald 1 486), (486, o_inv 9 100 0 489), (489, o_ald 2 490), (490, o_inv 10 158 0 493), (493, o_iceq 1195 496)] := ⟨sn_icmpeq dL_law_480 rfl rfl, sn_iconst (z := 0) dL_law_483 rfl rfl, sn_end (fun _ _ => trivial) rfl dL_law_484, sn_aload_n (k := 1) dL_law_485 rfl, sn_inv cls_9 (yn := 100) (na := 0) can_100 w_569 w_570 w_571 dL_law_486 rfl, sn_aload_n (k := 2) dL_law_489 rfl, sn_inv cls_10 (yn := 158) (na := 0) can_158 w_1258 w_1259 w_1260 dL_law_490 rfl, sn_icmpeq dL_law_493 rfl rfl, trivial⟩
theorem sdL_31 {xs : Nat → Int32} {L : Nat} : AllS MT mmL (fun _ _ => True) (mScr L xs) [(496, o_push (vi 0) 497), (497, o_end), (498, o_ald 1 499), (499, o_inv 9 101 0 502), (502, o_ald 2 503), (503, o_inv 10 159 0 506), (506, o_iceq 1195 509), (509, o_push (vi 0) 510), (510, o_end), (511, o_ald 1 512)] := ⟨sn_iconst (z := 0) dL_law_496 rfl rfl, sn_end (fun _ _ => trivial) rfl dL_law_497, sn_aload_n (k := 1) dL_law_498 rfl, sn_inv cls_9 (yn := 101) (na := 0) can_101 w_697 w_698 w_699 dL_law_499 rfl, sn_aload_n (k := 2) dL_law_502 rfl, sn_inv cls_10 (yn := 159) (na := 0) can_159 w_1296 w_1297 w_1298 dL_law_503 rfl, sn_icmpeq dL_law_506 rfl rfl, sn_iconst (z := 0) dL_law_509 rfl rfl, sn_end (fun _ _ => trivial) rfl dL_law_510, sn_aload_n (k := 1) dL_law_511 rfl, trivial⟩
theorem sdL_32 {xs : Nat → Int32} {L : Nat} : AllS MT mmL (fun _ _ => True) (mScr L xs) [(512, o_inv 9 102 0 515), (515, o_ald 2 516), (516, o_inv 10 160 0 519), (519, o_iceq 1195 522), (522, o_push (vi 0) 523), (523, o_end), (524, o_ald 1 525), (525, o_ald 0 526), (526, o_ild 3 527), (527, o_push (vi 1) 528)] := ⟨sn_inv cls_9 (yn := 102) (na := 0) can_102 w_701 w_702 w_703 dL_law_512 rfl, sn_aload_n (k := 2) dL_law_515 rfl, sn_inv cls_10 (yn := 160) (na := 0) can_160 w_1300 w_1301 w_1302 dL_law_516 rfl, sn_icmpeq dL_law_519 rfl rfl, sn_iconst (z := 0) dL_law_522 rfl rfl, sn_end (fun _ _ => trivial) rfl dL_law_523, sn_aload_n (k := 1) dL_law_524 rfl, sn_aload_n (k := 0) dL_law_525 rfl, sn_iload_n (k := 3) dL_law_526 rfl, sn_iconst (z := 1) dL_law_527 rfl rfl, trivial⟩
theorem sdL_33 {xs : Nat → Int32} {L : Nat} : AllS MT mmL (fun _ _ => True) (mScr L xs) [(528, o_iadd 529), (529, o_sld xs L 530), (530, o_inv 9 103 1 533), (533, o_ald 2 534), (534, o_ald 0 535), (535, o_ild 3 536), (536, o_push (vi 1) 537), (537, o_iadd 538), (538, o_sld xs L 539), (539, o_inv 10 162 1 542), (542, o_iceq 1195 545)] := ⟨sn_iadd dL_law_528 rfl, sn_sld dL_law_529 rfl, sn_inv cls_9 (yn := 103) (na := 1) can_103 w_709 w_710 w_711 dL_law_530 rfl, sn_aload_n (k := 2) dL_law_533 rfl, sn_aload_n (k := 0) dL_law_534 rfl, sn_iload_n (k := 3) dL_law_535 rfl, sn_iconst (z := 1) dL_law_536 rfl rfl, sn_iadd dL_law_537 rfl, sn_sld dL_law_538 rfl, sn_inv cls_10 (yn := 162) (na := 1) can_162 w_1304 w_1305 w_1306 dL_law_539 rfl, sn_icmpeq dL_law_542 rfl rfl, trivial⟩
theorem sdL_34 {xs : Nat → Int32} {L : Nat} : AllS MT mmL (fun _ _ => True) (mScr L xs) [(545, o_push (vi 0) 546), (546, o_end), (547, o_ald 1 548), (548, o_ald 0 549), (549, o_ild 3 550), (550, o_push (vi 1) 551), (551, o_iadd 552), (552, o_sld xs L 553), (553, o_ald 0 554), (554, o_ild 3 555), (555, o_push (vi 2) 556), (556, o_iadd 557), (557, o_sld xs L 558), (558, o_inv 9 104 2 561)] := ⟨sn_iconst (z := 0) dL_law_545 rfl rfl, sn_end (fun _ _ => trivial) rfl dL_law_546, sn_aload_n (k := 1) dL_law_547 rfl, sn_aload_n (k := 0) dL_law_548 rfl, sn_iload_n (k := 3) dL_law_549 rfl, sn_iconst (z := 1) dL_law_550 rfl rfl, sn_iadd dL_law_551 rfl, sn_sld dL_law_552 rfl, sn_aload_n (k := 0) dL_law_553 rfl, sn_iload_n (k := 3) dL_law_554 rfl, sn_iconst (z := 2) dL_law_555 rfl rfl, sn_iadd dL_law_556 rfl, sn_sld dL_law_557 rfl, sn_inv cls_9 (yn := 104) (na := 2) can_104 w_722 w_723 w_724 dL_law_558 rfl, trivial⟩
theorem sdL_35 {xs : Nat → Int32} {L : Nat} : AllS MT mmL (fun _ _ => True) (mScr L xs) [(561, o_ald 2 562), (562, o_ald 0 563), (563, o_ild 3 564), (564, o_push (vi 1) 565), (565, o_iadd 566), (566, o_sld xs L 567), (567, o_ald 0 568), (568, o_ild 3 569), (569, o_push (vi 2) 570), (570, o_iadd 571), (571, o_sld xs L 572), (572, o_inv 10 163 2 575), (575, o_iceq 1195 578)] := ⟨sn_aload_n (k := 2) dL_law_561 rfl, sn_aload_n (k := 0) dL_law_562 rfl, sn_iload_n (k := 3) dL_law_563 rfl, sn_iconst (z := 1) dL_law_564 rfl rfl, sn_iadd dL_law_565 rfl, sn_sld dL_law_566 rfl, sn_aload_n (k := 0) dL_law_567 rfl, sn_iload_n (k := 3) dL_law_568 rfl, sn_iconst (z := 2) dL_law_569 rfl rfl, sn_iadd dL_law_570 rfl, sn_sld dL_law_571 rfl, sn_inv cls_10 (yn := 163) (na := 2) can_163 w_1316 w_1317 w_1318 dL_law_572 rfl, sn_icmpeq dL_law_575 rfl rfl, trivial⟩
theorem sdL_36 {xs : Nat → Int32} {L : Nat} : AllS MT mmL (fun _ _ => True) (mScr L xs) [(578, o_push (vi 0) 579), (579, o_end), (580, o_ald 1 581), (581, o_ald 0 582), (582, o_ild 3 583), (583, o_push (vi 1) 584), (584, o_iadd 585), (585, o_sld xs L 586), (586, o_ald 0 587), (587, o_ild 3 588), (588, o_push (vi 2) 589), (589, o_iadd 590), (590, o_sld xs L 591), (591, o_inv 9 105 2 594)] := ⟨sn_iconst (z := 0) dL_law_578 rfl rfl, sn_end (fun _ _ => trivial) rfl dL_law_579, sn_aload_n (k := 1) dL_law_580 rfl, sn_aload_n (k := 0) dL_law_581 rfl, sn_iload_n (k := 3) dL_law_582 rfl, sn_iconst (z := 1) dL_law_583 rfl rfl, sn_iadd dL_law_584 rfl, sn_sld dL_law_585 rfl, sn_aload_n (k := 0) dL_law_586 rfl, sn_iload_n (k := 3) dL_law_587 rfl, sn_iconst (z := 2) dL_law_588 rfl rfl, sn_iadd dL_law_589 rfl, sn_sld dL_law_590 rfl, sn_inv cls_9 (yn := 105) (na := 2) can_105 w_734 w_735 w_736 dL_law_591 rfl, trivial⟩
theorem sdL_37 {xs : Nat → Int32} {L : Nat} : AllS MT mmL (fun _ _ => True) (mScr L xs) [(594, o_ald 2 595), (595, o_ald 0 596), (596, o_ild 3 597), (597, o_push (vi 1) 598), (598, o_iadd 599), (599, o_sld xs L 600), (600, o_ald 0 601), (601, o_ild 3 602), (602, o_push (vi 2) 603), (603, o_iadd 604), (604, o_sld xs L 605), (605, o_inv 10 164 2 608)] := ⟨sn_aload_n (k := 2) dL_law_594 rfl, sn_aload_n (k := 0) dL_law_595 rfl, sn_iload_n (k := 3) dL_law_596 rfl, sn_iconst (z := 1) dL_law_597 rfl rfl, sn_iadd dL_law_598 rfl, sn_sld dL_law_599 rfl, sn_aload_n (k := 0) dL_law_600 rfl, sn_iload_n (k := 3) dL_law_601 rfl, sn_iconst (z := 2) dL_law_602 rfl rfl, sn_iadd dL_law_603 rfl, sn_sld dL_law_604 rfl, sn_inv cls_10 (yn := 164) (na := 2) can_164 w_1320 w_1321 w_1322 dL_law_605 rfl, trivial⟩
theorem sdL_38 {xs : Nat → Int32} {L : Nat} : AllS MT mmL (fun _ _ => True) (mScr L xs) [(608, o_iceq 1195 611), (611, o_push (vi 0) 612), (612, o_end), (613, o_ald 1 614), (614, o_ald 0 615), (615, o_ild 3 616), (616, o_push (vi 1) 617), (617, o_iadd 618), (618, o_sld xs L 619), (619, o_inv 9 106 1 622), (622, o_ald 2 623), (623, o_ald 0 624)] := ⟨sn_icmpeq dL_law_608 rfl rfl, sn_iconst (z := 0) dL_law_611 rfl rfl, sn_end (fun _ _ => trivial) rfl dL_law_612, sn_aload_n (k := 1) dL_law_613 rfl, sn_aload_n (k := 0) dL_law_614 rfl, sn_iload_n (k := 3) dL_law_615 rfl, sn_iconst (z := 1) dL_law_616 rfl rfl, sn_iadd dL_law_617 rfl, sn_sld dL_law_618 rfl, sn_inv cls_9 (yn := 106) (na := 1) can_106 w_738 w_739 w_740 dL_law_619 rfl, sn_aload_n (k := 2) dL_law_622 rfl, sn_aload_n (k := 0) dL_law_623 rfl, trivial⟩
theorem sdL_39 {xs : Nat → Int32} {L : Nat} : AllS MT mmL (fun _ _ => True) (mScr L xs) [(624, o_ild 3 625), (625, o_push (vi 1) 626), (626, o_iadd 627), (627, o_sld xs L 628), (628, o_inv 10 173 1 631), (631, o_iceq 1195 634), (634, o_push (vi 0) 635), (635, o_end), (636, o_ald 1 637), (637, o_ald 0 638), (638, o_ild 3 639), (639, o_push (vi 1) 640)] := ⟨sn_iload_n (k := 3) dL_law_624 rfl, sn_iconst (z := 1) dL_law_625 rfl rfl, sn_iadd dL_law_626 rfl, sn_sld dL_law_627 rfl, sn_inv cls_10 (yn := 173) (na := 1) can_173 w_1324 w_1325 w_1326 dL_law_628 rfl, sn_icmpeq dL_law_631 rfl rfl, sn_iconst (z := 0) dL_law_634 rfl rfl, sn_end (fun _ _ => trivial) rfl dL_law_635, sn_aload_n (k := 1) dL_law_636 rfl, sn_aload_n (k := 0) dL_law_637 rfl, sn_iload_n (k := 3) dL_law_638 rfl, sn_iconst (z := 1) dL_law_639 rfl rfl, trivial⟩
theorem sdL_40 {xs : Nat → Int32} {L : Nat} : AllS MT mmL (fun _ _ => True) (mScr L xs) [(640, o_iadd 641), (641, o_sld xs L 642), (642, o_ald 0 643), (643, o_ild 3 644), (644, o_push (vi 2) 645), (645, o_iadd 646), (646, o_sld xs L 647), (647, o_inv 9 107 2 650), (650, o_ald 2 651), (651, o_ald 0 652), (652, o_ild 3 653), (653, o_push (vi 1) 654), (654, o_iadd 655), (655, o_sld xs L 656)] := ⟨sn_iadd dL_law_640 rfl, sn_sld dL_law_641 rfl, sn_aload_n (k := 0) dL_law_642 rfl, sn_iload_n (k := 3) dL_law_643 rfl, sn_iconst (z := 2) dL_law_644 rfl rfl, sn_iadd dL_law_645 rfl, sn_sld dL_law_646 rfl, sn_inv cls_9 (yn := 107) (na := 2) can_107 w_840 w_841 w_842 dL_law_647 rfl, sn_aload_n (k := 2) dL_law_650 rfl, sn_aload_n (k := 0) dL_law_651 rfl, sn_iload_n (k := 3) dL_law_652 rfl, sn_iconst (z := 1) dL_law_653 rfl rfl, sn_iadd dL_law_654 rfl, sn_sld dL_law_655 rfl, trivial⟩
theorem sdL_41 {xs : Nat → Int32} {L : Nat} : AllS MT mmL (fun _ _ => True) (mScr L xs) [(656, o_ald 0 657), (657, o_ild 3 658), (658, o_push (vi 2) 659), (659, o_iadd 660), (660, o_sld xs L 661), (661, o_inv 10 174 2 664), (664, o_iceq 1195 667), (667, o_push (vi 0) 668), (668, o_end), (669, o_ald 1 670), (670, o_ald 0 671), (671, o_ild 3 672)] := ⟨sn_aload_n (k := 0) dL_law_656 rfl, sn_iload_n (k := 3) dL_law_657 rfl, sn_iconst (z := 2) dL_law_658 rfl rfl, sn_iadd dL_law_659 rfl, sn_sld dL_law_660 rfl, sn_inv cls_10 (yn := 174) (na := 2) can_174 w_1356 w_1357 w_1358 dL_law_661 rfl, sn_icmpeq dL_law_664 rfl rfl, sn_iconst (z := 0) dL_law_667 rfl rfl, sn_end (fun _ _ => trivial) rfl dL_law_668, sn_aload_n (k := 1) dL_law_669 rfl, sn_aload_n (k := 0) dL_law_670 rfl, sn_iload_n (k := 3) dL_law_671 rfl, trivial⟩
theorem sdL_42 {xs : Nat → Int32} {L : Nat} : AllS MT mmL (fun _ _ => True) (mScr L xs) [(672, o_push (vi 1) 673), (673, o_iadd 674), (674, o_sld xs L 675), (675, o_inv 9 108 1 678), (678, o_ald 2 679), (679, o_ald 0 680), (680, o_ild 3 681), (681, o_push (vi 1) 682), (682, o_iadd 683), (683, o_sld xs L 684), (684, o_inv 10 181 1 687), (687, o_iceq 1195 690)] := ⟨sn_iconst (z := 1) dL_law_672 rfl rfl, sn_iadd dL_law_673 rfl, sn_sld dL_law_674 rfl, sn_inv cls_9 (yn := 108) (na := 1) can_108 w_844 w_845 w_846 dL_law_675 rfl, sn_aload_n (k := 2) dL_law_678 rfl, sn_aload_n (k := 0) dL_law_679 rfl, sn_iload_n (k := 3) dL_law_680 rfl, sn_iconst (z := 1) dL_law_681 rfl rfl, sn_iadd dL_law_682 rfl, sn_sld dL_law_683 rfl, sn_inv cls_10 (yn := 181) (na := 1) can_181 w_1360 w_1361 w_1362 dL_law_684 rfl, sn_icmpeq dL_law_687 rfl rfl, trivial⟩
theorem sdL_43 {xs : Nat → Int32} {L : Nat} : AllS MT mmL (fun _ _ => True) (mScr L xs) [(690, o_push (vi 0) 691), (691, o_end), (692, o_ald 1 693), (693, o_ald 0 694), (694, o_ild 3 695), (695, o_push (vi 1) 696), (696, o_iadd 697), (697, o_sld xs L 698), (698, o_inv 9 109 1 701), (701, o_ald 2 702), (702, o_ald 0 703), (703, o_ild 3 704)] := ⟨sn_iconst (z := 0) dL_law_690 rfl rfl, sn_end (fun _ _ => trivial) rfl dL_law_691, sn_aload_n (k := 1) dL_law_692 rfl, sn_aload_n (k := 0) dL_law_693 rfl, sn_iload_n (k := 3) dL_law_694 rfl, sn_iconst (z := 1) dL_law_695 rfl rfl, sn_iadd dL_law_696 rfl, sn_sld dL_law_697 rfl, sn_inv cls_9 (yn := 109) (na := 1) can_109 w_860 w_861 w_862 dL_law_698 rfl, sn_aload_n (k := 2) dL_law_701 rfl, sn_aload_n (k := 0) dL_law_702 rfl, sn_iload_n (k := 3) dL_law_703 rfl, trivial⟩
theorem sdL_44 {xs : Nat → Int32} {L : Nat} : AllS MT mmL (fun _ _ => True) (mScr L xs) [(704, o_push (vi 1) 705), (705, o_iadd 706), (706, o_sld xs L 707), (707, o_inv 10 182 1 710), (710, o_iceq 1195 713), (713, o_push (vi 0) 714), (714, o_end), (715, o_ald 1 716), (716, o_ald 0 717), (717, o_ild 3 718), (718, o_push (vi 1) 719), (719, o_iadd 720)] := ⟨sn_iconst (z := 1) dL_law_704 rfl rfl, sn_iadd dL_law_705 rfl, sn_sld dL_law_706 rfl, sn_inv cls_10 (yn := 182) (na := 1) can_182 w_1392 w_1393 w_1394 dL_law_707 rfl, sn_icmpeq dL_law_710 rfl rfl, sn_iconst (z := 0) dL_law_713 rfl rfl, sn_end (fun _ _ => trivial) rfl dL_law_714, sn_aload_n (k := 1) dL_law_715 rfl, sn_aload_n (k := 0) dL_law_716 rfl, sn_iload_n (k := 3) dL_law_717 rfl, sn_iconst (z := 1) dL_law_718 rfl rfl, sn_iadd dL_law_719 rfl, trivial⟩
theorem sdL_45 {xs : Nat → Int32} {L : Nat} : AllS MT mmL (fun _ _ => True) (mScr L xs) [(720, o_sld xs L 721), (721, o_inv 9 110 1 724), (724, o_ald 2 725), (725, o_ald 0 726), (726, o_ild 3 727), (727, o_push (vi 1) 728), (728, o_iadd 729), (729, o_sld xs L 730), (730, o_inv 10 184 1 733), (733, o_iceq 1195 736)] := ⟨sn_sld dL_law_720 rfl, sn_inv cls_9 (yn := 110) (na := 1) can_110 w_868 w_869 w_870 dL_law_721 rfl, sn_aload_n (k := 2) dL_law_724 rfl, sn_aload_n (k := 0) dL_law_725 rfl, sn_iload_n (k := 3) dL_law_726 rfl, sn_iconst (z := 1) dL_law_727 rfl rfl, sn_iadd dL_law_728 rfl, sn_sld dL_law_729 rfl, sn_inv cls_10 (yn := 184) (na := 1) can_184 w_1396 w_1397 w_1398 dL_law_730 rfl, sn_icmpeq dL_law_733 rfl rfl, trivial⟩
theorem sdL_46 {xs : Nat → Int32} {L : Nat} : AllS MT mmL (fun _ _ => True) (mScr L xs) [(736, o_push (vi 0) 737), (737, o_end), (738, o_ald 1 739), (739, o_ald 0 740), (740, o_ild 3 741), (741, o_push (vi 1) 742), (742, o_iadd 743), (743, o_sld xs L 744), (744, o_inv 9 111 1 747), (747, o_ald 2 748), (748, o_ald 0 749), (749, o_ild 3 750), (750, o_push (vi 1) 751), (751, o_iadd 752)] := ⟨sn_iconst (z := 0) dL_law_736 rfl rfl, sn_end (fun _ _ => trivial) rfl dL_law_737, sn_aload_n (k := 1) dL_law_738 rfl, sn_aload_n (k := 0) dL_law_739 rfl, sn_iload_n (k := 3) dL_law_740 rfl, sn_iconst (z := 1) dL_law_741 rfl rfl, sn_iadd dL_law_742 rfl, sn_sld dL_law_743 rfl, sn_inv cls_9 (yn := 111) (na := 1) can_111 w_876 w_877 w_878 dL_law_744 rfl, sn_aload_n (k := 2) dL_law_747 rfl, sn_aload_n (k := 0) dL_law_748 rfl, sn_iload_n (k := 3) dL_law_749 rfl, sn_iconst (z := 1) dL_law_750 rfl rfl, sn_iadd dL_law_751 rfl, trivial⟩
theorem sdL_47 {xs : Nat → Int32} {L : Nat} : AllS MT mmL (fun _ _ => True) (mScr L xs) [(752, o_sld xs L 753), (753, o_inv 10 185 1 756), (756, o_iceq 1195 759), (759, o_push (vi 0) 760), (760, o_end), (761, o_ald 1 762), (762, o_ald 0 763), (763, o_ild 3 764), (764, o_push (vi 1) 765), (765, o_iadd 766), (766, o_sld xs L 767), (767, o_inv 9 112 1 770)] := ⟨sn_sld dL_law_752 rfl, sn_inv cls_10 (yn := 185) (na := 1) can_185 w_1404 w_1405 w_1406 dL_law_753 rfl, sn_icmpeq dL_law_756 rfl rfl, sn_iconst (z := 0) dL_law_759 rfl rfl, sn_end (fun _ _ => trivial) rfl dL_law_760, sn_aload_n (k := 1) dL_law_761 rfl, sn_aload_n (k := 0) dL_law_762 rfl, sn_iload_n (k := 3) dL_law_763 rfl, sn_iconst (z := 1) dL_law_764 rfl rfl, sn_iadd dL_law_765 rfl, sn_sld dL_law_766 rfl, sn_inv cls_9 (yn := 112) (na := 1) can_112 w_889 w_890 w_891 dL_law_767 rfl, trivial⟩
theorem sdL_48 {xs : Nat → Int32} {L : Nat} : AllS MT mmL (fun _ _ => True) (mScr L xs) [(770, o_ald 2 771), (771, o_ald 0 772), (772, o_ild 3 773), (773, o_push (vi 1) 774), (774, o_iadd 775), (775, o_sld xs L 776), (776, o_inv 10 186 1 779), (779, o_iceq 1195 782), (782, o_push (vi 0) 783), (783, o_end)] := ⟨sn_aload_n (k := 2) dL_law_770 rfl, sn_aload_n (k := 0) dL_law_771 rfl, sn_iload_n (k := 3) dL_law_772 rfl, sn_iconst (z := 1) dL_law_773 rfl rfl, sn_iadd dL_law_774 rfl, sn_sld dL_law_775 rfl, sn_inv cls_10 (yn := 186) (na := 1) can_186 w_1408 w_1409 w_1410 dL_law_776 rfl, sn_icmpeq dL_law_779 rfl rfl, sn_iconst (z := 0) dL_law_782 rfl rfl, sn_end (fun _ _ => trivial) rfl dL_law_783, trivial⟩
theorem sdL_49 {xs : Nat → Int32} {L : Nat} : AllS MT mmL (fun _ _ => True) (mScr L xs) [(784, o_ald 1 785), (785, o_ald 0 786), (786, o_ild 3 787), (787, o_push (vi 1) 788), (788, o_iadd 789), (789, o_sld xs L 790), (790, o_ald 0 791), (791, o_ild 3 792), (792, o_push (vi 2) 793), (793, o_iadd 794), (794, o_sld xs L 795), (795, o_inv 9 113 2 798), (798, o_ald 2 799), (799, o_ald 0 800)] := ⟨sn_aload_n (k := 1) dL_law_784 rfl, sn_aload_n (k := 0) dL_law_785 rfl, sn_iload_n (k := 3) dL_law_786 rfl, sn_iconst (z := 1) dL_law_787 rfl rfl, sn_iadd dL_law_788 rfl, sn_sld dL_law_789 rfl, sn_aload_n (k := 0) dL_law_790 rfl, sn_iload_n (k := 3) dL_law_791 rfl, sn_iconst (z := 2) dL_law_792 rfl rfl, sn_iadd dL_law_793 rfl, sn_sld dL_law_794 rfl, sn_inv cls_9 (yn := 113) (na := 2) can_113 w_893 w_894 w_895 dL_law_795 rfl, sn_aload_n (k := 2) dL_law_798 rfl, sn_aload_n (k := 0) dL_law_799 rfl, trivial⟩
theorem sdL_50 {xs : Nat → Int32} {L : Nat} : AllS MT mmL (fun _ _ => True) (mScr L xs) [(800, o_ild 3 801), (801, o_push (vi 1) 802), (802, o_iadd 803), (803, o_sld xs L 804), (804, o_ald 0 805), (805, o_ild 3 806), (806, o_push (vi 2) 807), (807, o_iadd 808), (808, o_sld xs L 809), (809, o_inv 10 192 2 812), (812, o_iceq 1195 815), (815, o_push (vi 0) 816)] := ⟨sn_iload_n (k := 3) dL_law_800 rfl, sn_iconst (z := 1) dL_law_801 rfl rfl, sn_iadd dL_law_802 rfl, sn_sld dL_law_803 rfl, sn_aload_n (k := 0) dL_law_804 rfl, sn_iload_n (k := 3) dL_law_805 rfl, sn_iconst (z := 2) dL_law_806 rfl rfl, sn_iadd dL_law_807 rfl, sn_sld dL_law_808 rfl, sn_inv cls_10 (yn := 192) (na := 2) can_192 w_1412 w_1413 w_1414 dL_law_809 rfl, sn_icmpeq dL_law_812 rfl rfl, sn_iconst (z := 0) dL_law_815 rfl rfl, trivial⟩
theorem sdL_51 {xs : Nat → Int32} {L : Nat} : AllS MT mmL (fun _ _ => True) (mScr L xs) [(816, o_end), (817, o_ald 1 818), (818, o_ald 0 819), (819, o_ild 3 820), (820, o_push (vi 1) 821), (821, o_iadd 822), (822, o_sld xs L 823), (823, o_ald 0 824), (824, o_ild 3 825), (825, o_push (vi 2) 826), (826, o_iadd 827), (827, o_sld xs L 828), (828, o_ald 0 829), (829, o_ild 3 830), (830, o_push (vi 3) 831), (831, o_iadd 832)] := ⟨sn_end (fun _ _ => trivial) rfl dL_law_816, sn_aload_n (k := 1) dL_law_817 rfl, sn_aload_n (k := 0) dL_law_818 rfl, sn_iload_n (k := 3) dL_law_819 rfl, sn_iconst (z := 1) dL_law_820 rfl rfl, sn_iadd dL_law_821 rfl, sn_sld dL_law_822 rfl, sn_aload_n (k := 0) dL_law_823 rfl, sn_iload_n (k := 3) dL_law_824 rfl, sn_iconst (z := 2) dL_law_825 rfl rfl, sn_iadd dL_law_826 rfl, sn_sld dL_law_827 rfl, sn_aload_n (k := 0) dL_law_828 rfl, sn_iload_n (k := 3) dL_law_829 rfl, sn_iconst (z := 3) dL_law_830 rfl rfl, sn_iadd dL_law_831 rfl, trivial⟩
theorem sdL_52 {xs : Nat → Int32} {L : Nat} : AllS MT mmL (fun _ _ => True) (mScr L xs) [(832, o_sld xs L 833), (833, o_inv 9 114 3 836), (836, o_ald 2 837), (837, o_ald 0 838), (838, o_ild 3 839), (839, o_push (vi 1) 840), (840, o_iadd 841), (841, o_sld xs L 842), (842, o_ald 0 843), (843, o_ild 3 844), (844, o_push (vi 2) 845), (845, o_iadd 846), (846, o_sld xs L 847), (847, o_ald 0 848)] := ⟨sn_sld dL_law_832 rfl, sn_inv cls_9 (yn := 114) (na := 3) can_114 w_961 w_962 w_963 dL_law_833 rfl, sn_aload_n (k := 2) dL_law_836 rfl, sn_aload_n (k := 0) dL_law_837 rfl, sn_iload_n (k := 3) dL_law_838 rfl, sn_iconst (z := 1) dL_law_839 rfl rfl, sn_iadd dL_law_840 rfl, sn_sld dL_law_841 rfl, sn_aload_n (k := 0) dL_law_842 rfl, sn_iload_n (k := 3) dL_law_843 rfl, sn_iconst (z := 2) dL_law_844 rfl rfl, sn_iadd dL_law_845 rfl, sn_sld dL_law_846 rfl, sn_aload_n (k := 0) dL_law_847 rfl, trivial⟩
theorem sdL_53 {xs : Nat → Int32} {L : Nat} : AllS MT mmL (fun _ _ => True) (mScr L xs) [(848, o_ild 3 849), (849, o_push (vi 3) 850), (850, o_iadd 851), (851, o_sld xs L 852), (852, o_inv 10 193 3 855), (855, o_iceq 1195 858), (858, o_push (vi 0) 859), (859, o_end), (860, o_ald 1 861), (861, o_ald 0 862), (862, o_ild 3 863), (863, o_push (vi 1) 864)] := ⟨sn_iload_n (k := 3) dL_law_848 rfl, sn_iconst (z := 3) dL_law_849 rfl rfl, sn_iadd dL_law_850 rfl, sn_sld dL_law_851 rfl, sn_inv cls_10 (yn := 193) (na := 3) can_193 w_1436 w_1437 w_1438 dL_law_852 rfl, sn_icmpeq dL_law_855 rfl rfl, sn_iconst (z := 0) dL_law_858 rfl rfl, sn_end (fun _ _ => trivial) rfl dL_law_859, sn_aload_n (k := 1) dL_law_860 rfl, sn_aload_n (k := 0) dL_law_861 rfl, sn_iload_n (k := 3) dL_law_862 rfl, sn_iconst (z := 1) dL_law_863 rfl rfl, trivial⟩
theorem sdL_54 {xs : Nat → Int32} {L : Nat} : AllS MT mmL (fun _ _ => True) (mScr L xs) [(864, o_iadd 865), (865, o_sld xs L 866), (866, o_ald 0 867), (867, o_ild 3 868), (868, o_push (vi 2) 869), (869, o_iadd 870), (870, o_sld xs L 871), (871, o_ald 0 872), (872, o_ild 3 873), (873, o_push (vi 3) 874), (874, o_iadd 875), (875, o_sld xs L 876), (876, o_ald 0 877), (877, o_ild 3 878), (878, o_push (vi 4) 879), (879, o_iadd 880)] := ⟨sn_iadd dL_law_864 rfl, sn_sld dL_law_865 rfl, sn_aload_n (k := 0) dL_law_866 rfl, sn_iload_n (k := 3) dL_law_867 rfl, sn_iconst (z := 2) dL_law_868 rfl rfl, sn_iadd dL_law_869 rfl, sn_sld dL_law_870 rfl, sn_aload_n (k := 0) dL_law_871 rfl, sn_iload_n (k := 3) dL_law_872 rfl, sn_iconst (z := 3) dL_law_873 rfl rfl, sn_iadd dL_law_874 rfl, sn_sld dL_law_875 rfl, sn_aload_n (k := 0) dL_law_876 rfl, sn_iload_n (k := 3) dL_law_877 rfl, sn_iconst (z := 4) dL_law_878 rfl rfl, sn_iadd dL_law_879 rfl, trivial⟩
theorem sdL_55 {xs : Nat → Int32} {L : Nat} : AllS MT mmL (fun _ _ => True) (mScr L xs) [(880, o_sld xs L 881), (881, o_inv 9 115 4 884), (884, o_ald 2 885), (885, o_ald 0 886), (886, o_ild 3 887), (887, o_push (vi 1) 888), (888, o_iadd 889), (889, o_sld xs L 890), (890, o_ald 0 891), (891, o_ild 3 892), (892, o_push (vi 2) 893), (893, o_iadd 894), (894, o_sld xs L 895), (895, o_ald 0 896)] := ⟨sn_sld dL_law_880 rfl, sn_inv cls_9 (yn := 115) (na := 4) can_115 w_965 w_966 w_967 dL_law_881 rfl, sn_aload_n (k := 2) dL_law_884 rfl, sn_aload_n (k := 0) dL_law_885 rfl, sn_iload_n (k := 3) dL_law_886 rfl, sn_iconst (z := 1) dL_law_887 rfl rfl, sn_iadd dL_law_888 rfl, sn_sld dL_law_889 rfl, sn_aload_n (k := 0) dL_law_890 rfl, sn_iload_n (k := 3) dL_law_891 rfl, sn_iconst (z := 2) dL_law_892 rfl rfl, sn_iadd dL_law_893 rfl, sn_sld dL_law_894 rfl, sn_aload_n (k := 0) dL_law_895 rfl, trivial⟩
theorem sdL_56 {xs : Nat → Int32} {L : Nat} : AllS MT mmL (fun _ _ => True) (mScr L xs) [(896, o_ild 3 897), (897, o_push (vi 3) 898), (898, o_iadd 899), (899, o_sld xs L 900), (900, o_ald 0 901), (901, o_ild 3 902), (902, o_push (vi 4) 903), (903, o_iadd 904), (904, o_sld xs L 905), (905, o_inv 10 194 4 908), (908, o_iceq 1195 911), (911, o_push (vi 0) 912)] := ⟨sn_iload_n (k := 3) dL_law_896 rfl, sn_iconst (z := 3) dL_law_897 rfl rfl, sn_iadd dL_law_898 rfl, sn_sld dL_law_899 rfl, sn_aload_n (k := 0) dL_law_900 rfl, sn_iload_n (k := 3) dL_law_901 rfl, sn_iconst (z := 4) dL_law_902 rfl rfl, sn_iadd dL_law_903 rfl, sn_sld dL_law_904 rfl, sn_inv cls_10 (yn := 194) (na := 4) can_194 w_1440 w_1441 w_1442 dL_law_905 rfl, sn_icmpeq dL_law_908 rfl rfl, sn_iconst (z := 0) dL_law_911 rfl rfl, trivial⟩
theorem sdL_57 {xs : Nat → Int32} {L : Nat} : AllS MT mmL (fun _ _ => True) (mScr L xs) [(912, o_end), (913, o_ald 1 914), (914, o_ald 0 915), (915, o_ild 3 916), (916, o_push (vi 1) 917), (917, o_iadd 918), (918, o_sld xs L 919), (919, o_ald 0 920), (920, o_ild 3 921), (921, o_push (vi 2) 922), (922, o_iadd 923), (923, o_sld xs L 924), (924, o_inv 9 116 2 927), (927, o_ald 2 928)] := ⟨sn_end (fun _ _ => trivial) rfl dL_law_912, sn_aload_n (k := 1) dL_law_913 rfl, sn_aload_n (k := 0) dL_law_914 rfl, sn_iload_n (k := 3) dL_law_915 rfl, sn_iconst (z := 1) dL_law_916 rfl rfl, sn_iadd dL_law_917 rfl, sn_sld dL_law_918 rfl, sn_aload_n (k := 0) dL_law_919 rfl, sn_iload_n (k := 3) dL_law_920 rfl, sn_iconst (z := 2) dL_law_921 rfl rfl, sn_iadd dL_law_922 rfl, sn_sld dL_law_923 rfl, sn_inv cls_9 (yn := 116) (na := 2) can_116 w_969 w_970 w_971 dL_law_924 rfl, sn_aload_n (k := 2) dL_law_927 rfl, trivial⟩
theorem sdL_58 {xs : Nat → Int32} {L : Nat} : AllS MT mmL (fun _ _ => True) (mScr L xs) [(928, o_ald 0 929), (929, o_ild 3 930), (930, o_push (vi 1) 931), (931, o_iadd 932), (932, o_sld xs L 933), (933, o_ald 0 934), (934, o_ild 3 935), (935, o_push (vi 2) 936), (936, o_iadd 937), (937, o_sld xs L 938), (938, o_inv 10 197 2 941), (941, o_iceq 1195 944)] := ⟨sn_aload_n (k := 0) dL_law_928 rfl, sn_iload_n (k := 3) dL_law_929 rfl, sn_iconst (z := 1) dL_law_930 rfl rfl, sn_iadd dL_law_931 rfl, sn_sld dL_law_932 rfl, sn_aload_n (k := 0) dL_law_933 rfl, sn_iload_n (k := 3) dL_law_934 rfl, sn_iconst (z := 2) dL_law_935 rfl rfl, sn_iadd dL_law_936 rfl, sn_sld dL_law_937 rfl, sn_inv cls_10 (yn := 197) (na := 2) can_197 w_1444 w_1445 w_1446 dL_law_938 rfl, sn_icmpeq dL_law_941 rfl rfl, trivial⟩
theorem sdL_59 {xs : Nat → Int32} {L : Nat} : AllS MT mmL (fun _ _ => True) (mScr L xs) [(944, o_push (vi 0) 945), (945, o_end), (946, o_ald 1 947), (947, o_ald 0 948), (948, o_ild 3 949), (949, o_push (vi 1) 950), (950, o_iadd 951), (951, o_sld xs L 952), (952, o_inv 9 117 1 955), (955, o_ald 2 956), (956, o_ald 0 957), (957, o_ild 3 958), (958, o_push (vi 1) 959), (959, o_iadd 960)] := ⟨sn_iconst (z := 0) dL_law_944 rfl rfl, sn_end (fun _ _ => trivial) rfl dL_law_945, sn_aload_n (k := 1) dL_law_946 rfl, sn_aload_n (k := 0) dL_law_947 rfl, sn_iload_n (k := 3) dL_law_948 rfl, sn_iconst (z := 1) dL_law_949 rfl rfl, sn_iadd dL_law_950 rfl, sn_sld dL_law_951 rfl, sn_inv cls_9 (yn := 117) (na := 1) can_117 w_984 w_985 w_986 dL_law_952 rfl, sn_aload_n (k := 2) dL_law_955 rfl, sn_aload_n (k := 0) dL_law_956 rfl, sn_iload_n (k := 3) dL_law_957 rfl, sn_iconst (z := 1) dL_law_958 rfl rfl, sn_iadd dL_law_959 rfl, trivial⟩
theorem sdL_60 {xs : Nat → Int32} {L : Nat} : AllS MT mmL (fun _ _ => True) (mScr L xs) [(960, o_sld xs L 961), (961, o_inv 10 198 1 964), (964, o_iceq 1195 967), (967, o_push (vi 0) 968), (968, o_end), (969, o_ald 1 970), (970, o_inv 9 118 0 973), (973, o_ald 2 974), (974, o_inv 10 199 0 977)] := ⟨sn_sld dL_law_960 rfl, sn_inv cls_10 (yn := 198) (na := 1) can_198 w_1455 w_1456 w_1457 dL_law_961 rfl, sn_icmpeq dL_law_964 rfl rfl, sn_iconst (z := 0) dL_law_967 rfl rfl, sn_end (fun _ _ => trivial) rfl dL_law_968, sn_aload_n (k := 1) dL_law_969 rfl, sn_inv cls_9 (yn := 118) (na := 0) can_118 w_988 w_989 w_990 dL_law_970 rfl, sn_aload_n (k := 2) dL_law_973 rfl, sn_inv cls_10 (yn := 199) (na := 0) can_199 w_1459 w_1460 w_1461 dL_law_974 rfl, trivial⟩
theorem sdL_61 {xs : Nat → Int32} {L : Nat} : AllS MT mmL (fun _ _ => True) (mScr L xs) [(977, o_iceq 1195 980), (980, o_push (vi 0) 981), (981, o_end), (982, o_ald 1 983), (983, o_ald 0 984), (984, o_ild 3 985), (985, o_push (vi 1) 986), (986, o_iadd 987), (987, o_sld xs L 988), (988, o_ald 0 989), (989, o_ild 3 990), (990, o_push (vi 2) 991), (991, o_iadd 992)] := ⟨sn_icmpeq dL_law_977 rfl rfl, sn_iconst (z := 0) dL_law_980 rfl rfl, sn_end (fun _ _ => trivial) rfl dL_law_981, sn_aload_n (k := 1) dL_law_982 rfl, sn_aload_n (k := 0) dL_law_983 rfl, sn_iload_n (k := 3) dL_law_984 rfl, sn_iconst (z := 1) dL_law_985 rfl rfl, sn_iadd dL_law_986 rfl, sn_sld dL_law_987 rfl, sn_aload_n (k := 0) dL_law_988 rfl, sn_iload_n (k := 3) dL_law_989 rfl, sn_iconst (z := 2) dL_law_990 rfl rfl, sn_iadd dL_law_991 rfl, trivial⟩
theorem sdL_62 {xs : Nat → Int32} {L : Nat} : AllS MT mmL (fun _ _ => True) (mScr L xs) [(992, o_sld xs L 993), (993, o_ald 0 994), (994, o_ild 3 995), (995, o_push (vi 3) 996), (996, o_iadd 997), (997, o_sld xs L 998), (998, o_ald 0 999), (999, o_ild 3 1000), (1000, o_push (vi 4) 1001), (1001, o_iadd 1002), (1002, o_sld xs L 1003), (1003, o_ald 0 1004), (1004, o_ild 3 1005), (1005, o_push (vi 5) 1006), (1006, o_iadd 1007), (1007, o_sld xs L 1008)] := ⟨sn_sld dL_law_992 rfl, sn_aload_n (k := 0) dL_law_993 rfl, sn_iload_n (k := 3) dL_law_994 rfl, sn_iconst (z := 3) dL_law_995 rfl rfl, sn_iadd dL_law_996 rfl, sn_sld dL_law_997 rfl, sn_aload_n (k := 0) dL_law_998 rfl, sn_iload_n (k := 3) dL_law_999 rfl, sn_iconst (z := 4) dL_law_1000 rfl rfl, sn_iadd dL_law_1001 rfl, sn_sld dL_law_1002 rfl, sn_aload_n (k := 0) dL_law_1003 rfl, sn_iload_n (k := 3) dL_law_1004 rfl, sn_iconst (z := 5) dL_law_1005 rfl rfl, sn_iadd dL_law_1006 rfl, sn_sld dL_law_1007 rfl, trivial⟩
theorem sdL_63 {xs : Nat → Int32} {L : Nat} : AllS MT mmL (fun _ _ => True) (mScr L xs) [(1008, o_ald 0 1009), (1009, o_ild 3 1010), (1010, o_push (vi 6) 1012), (1012, o_iadd 1013), (1013, o_sld xs L 1014), (1014, o_inv 9 119 6 1017), (1017, o_ald 2 1018), (1018, o_ald 0 1019), (1019, o_ild 3 1020), (1020, o_push (vi 1) 1021), (1021, o_iadd 1022), (1022, o_sld xs L 1023), (1023, o_ald 0 1024)] := ⟨sn_aload_n (k := 0) dL_law_1008 rfl, sn_iload_n (k := 3) dL_law_1009 rfl, sn_bipush (z := 6) (by decide) dL_law_1010 rfl, sn_iadd dL_law_1012 rfl, sn_sld dL_law_1013 rfl, sn_inv cls_9 (yn := 119) (na := 6) can_119 w_992 w_993 w_994 dL_law_1014 rfl, sn_aload_n (k := 2) dL_law_1017 rfl, sn_aload_n (k := 0) dL_law_1018 rfl, sn_iload_n (k := 3) dL_law_1019 rfl, sn_iconst (z := 1) dL_law_1020 rfl rfl, sn_iadd dL_law_1021 rfl, sn_sld dL_law_1022 rfl, sn_aload_n (k := 0) dL_law_1023 rfl, trivial⟩
theorem sdL_64 {xs : Nat → Int32} {L : Nat} : AllS MT mmL (fun _ _ => True) (mScr L xs) [(1024, o_ild 3 1025), (1025, o_push (vi 2) 1026), (1026, o_iadd 1027), (1027, o_sld xs L 1028), (1028, o_ald 0 1029), (1029, o_ild 3 1030), (1030, o_push (vi 3) 1031), (1031, o_iadd 1032), (1032, o_sld xs L 1033), (1033, o_ald 0 1034), (1034, o_ild 3 1035), (1035, o_push (vi 4) 1036), (1036, o_iadd 1037), (1037, o_sld xs L 1038), (1038, o_ald 0 1039), (1039, o_ild 3 1040)] := ⟨sn_iload_n (k := 3) dL_law_1024 rfl, sn_iconst (z := 2) dL_law_1025 rfl rfl, sn_iadd dL_law_1026 rfl, sn_sld dL_law_1027 rfl, sn_aload_n (k := 0) dL_law_1028 rfl, sn_iload_n (k := 3) dL_law_1029 rfl, sn_iconst (z := 3) dL_law_1030 rfl rfl, sn_iadd dL_law_1031 rfl, sn_sld dL_law_1032 rfl, sn_aload_n (k := 0) dL_law_1033 rfl, sn_iload_n (k := 3) dL_law_1034 rfl, sn_iconst (z := 4) dL_law_1035 rfl rfl, sn_iadd dL_law_1036 rfl, sn_sld dL_law_1037 rfl, sn_aload_n (k := 0) dL_law_1038 rfl, sn_iload_n (k := 3) dL_law_1039 rfl, trivial⟩
theorem sdL_65 {xs : Nat → Int32} {L : Nat} : AllS MT mmL (fun _ _ => True) (mScr L xs) [(1040, o_push (vi 5) 1041), (1041, o_iadd 1042), (1042, o_sld xs L 1043), (1043, o_ald 0 1044), (1044, o_ild 3 1045), (1045, o_push (vi 6) 1047), (1047, o_iadd 1048), (1048, o_sld xs L 1049), (1049, o_inv 10 201 6 1052), (1052, o_iceq 1195 1055), (1055, o_push (vi 0) 1056)] := ⟨sn_iconst (z := 5) dL_law_1040 rfl rfl, sn_iadd dL_law_1041 rfl, sn_sld dL_law_1042 rfl, sn_aload_n (k := 0) dL_law_1043 rfl, sn_iload_n (k := 3) dL_law_1044 rfl, sn_bipush (z := 6) (by decide) dL_law_1045 rfl, sn_iadd dL_law_1047 rfl, sn_sld dL_law_1048 rfl, sn_inv cls_10 (yn := 201) (na := 6) can_201 w_1463 w_1464 w_1465 dL_law_1049 rfl, sn_icmpeq dL_law_1052 rfl rfl, sn_iconst (z := 0) dL_law_1055 rfl rfl, trivial⟩
theorem sdL_66 {xs : Nat → Int32} {L : Nat} : AllS MT mmL (fun _ _ => True) (mScr L xs) [(1056, o_end), (1057, o_ald 1 1058), (1058, o_ald 0 1059), (1059, o_ild 3 1060), (1060, o_push (vi 1) 1061), (1061, o_iadd 1062), (1062, o_sld xs L 1063), (1063, o_ald 0 1064), (1064, o_ild 3 1065), (1065, o_push (vi 2) 1066), (1066, o_iadd 1067), (1067, o_sld xs L 1068), (1068, o_inv 9 120 2 1071), (1071, o_ald 2 1072)] := ⟨sn_end (fun _ _ => trivial) rfl dL_law_1056, sn_aload_n (k := 1) dL_law_1057 rfl, sn_aload_n (k := 0) dL_law_1058 rfl, sn_iload_n (k := 3) dL_law_1059 rfl, sn_iconst (z := 1) dL_law_1060 rfl rfl, sn_iadd dL_law_1061 rfl, sn_sld dL_law_1062 rfl, sn_aload_n (k := 0) dL_law_1063 rfl, sn_iload_n (k := 3) dL_law_1064 rfl, sn_iconst (z := 2) dL_law_1065 rfl rfl, sn_iadd dL_law_1066 rfl, sn_sld dL_law_1067 rfl, sn_inv cls_9 (yn := 120) (na := 2) can_120 w_1009 w_1010 w_1011 dL_law_1068 rfl, sn_aload_n (k := 2) dL_law_1071 rfl, trivial⟩
theorem sdL_67 {xs : Nat → Int32} {L : Nat} : AllS MT mmL (fun _ _ => True) (mScr L xs) [(1072, o_ald 0 1073), (1073, o_ild 3 1074), (1074, o_push (vi 1) 1075), (1075, o_iadd 1076), (1076, o_sld xs L 1077), (1077, o_ald 0 1078), (1078, o_ild 3 1079), (1079, o_push (vi 2) 1080), (1080, o_iadd 1081), (1081, o_sld xs L 1082), (1082, o_inv 10 202 2 1085), (1085, o_iceq 1195 1088)] := ⟨sn_aload_n (k := 0) dL_law_1072 rfl, sn_iload_n (k := 3) dL_law_1073 rfl, sn_iconst (z := 1) dL_law_1074 rfl rfl, sn_iadd dL_law_1075 rfl, sn_sld dL_law_1076 rfl, sn_aload_n (k := 0) dL_law_1077 rfl, sn_iload_n (k := 3) dL_law_1078 rfl, sn_iconst (z := 2) dL_law_1079 rfl rfl, sn_iadd dL_law_1080 rfl, sn_sld dL_law_1081 rfl, sn_inv cls_10 (yn := 202) (na := 2) can_202 w_1471 w_1472 w_1473 dL_law_1082 rfl, sn_icmpeq dL_law_1085 rfl rfl, trivial⟩
theorem sdL_68 {xs : Nat → Int32} {L : Nat} : AllS MT mmL (fun _ _ => True) (mScr L xs) [(1088, o_push (vi 0) 1089), (1089, o_end), (1090, o_ald 1 1091), (1091, o_ald 0 1092), (1092, o_ild 3 1093), (1093, o_push (vi 1) 1094), (1094, o_iadd 1095), (1095, o_sld xs L 1096), (1096, o_inv 9 121 1 1099), (1099, o_ald 2 1100), (1100, o_ald 0 1101), (1101, o_ild 3 1102), (1102, o_push (vi 1) 1103), (1103, o_iadd 1104)] := ⟨sn_iconst (z := 0) dL_law_1088 rfl rfl, sn_end (fun _ _ => trivial) rfl dL_law_1089, sn_aload_n (k := 1) dL_law_1090 rfl, sn_aload_n (k := 0) dL_law_1091 rfl, sn_iload_n (k := 3) dL_law_1092 rfl, sn_iconst (z := 1) dL_law_1093 rfl rfl, sn_iadd dL_law_1094 rfl, sn_sld dL_law_1095 rfl, sn_inv cls_9 (yn := 121) (na := 1) can_121 w_1013 w_1014 w_1015 dL_law_1096 rfl, sn_aload_n (k := 2) dL_law_1099 rfl, sn_aload_n (k := 0) dL_law_1100 rfl, sn_iload_n (k := 3) dL_law_1101 rfl, sn_iconst (z := 1) dL_law_1102 rfl rfl, sn_iadd dL_law_1103 rfl, trivial⟩
theorem sdL_69 {xs : Nat → Int32} {L : Nat} : AllS MT mmL (fun _ _ => True) (mScr L xs) [(1104, o_sld xs L 1105), (1105, o_inv 10 203 1 1108), (1108, o_iceq 1195 1111), (1111, o_push (vi 0) 1112), (1112, o_end), (1113, o_ald 1 1114), (1114, o_ald 0 1115), (1115, o_ild 3 1116), (1116, o_push (vi 1) 1117), (1117, o_iadd 1118), (1118, o_sld xs L 1119), (1119, o_inv 9 122 1 1122)] := ⟨sn_sld dL_law_1104 rfl, sn_inv cls_10 (yn := 203) (na := 1) can_203 w_1475 w_1476 w_1477 dL_law_1105 rfl, sn_icmpeq dL_law_1108 rfl rfl, sn_iconst (z := 0) dL_law_1111 rfl rfl, sn_end (fun _ _ => trivial) rfl dL_law_1112, sn_aload_n (k := 1) dL_law_1113 rfl, sn_aload_n (k := 0) dL_law_1114 rfl, sn_iload_n (k := 3) dL_law_1115 rfl, sn_iconst (z := 1) dL_law_1116 rfl rfl, sn_iadd dL_law_1117 rfl, sn_sld dL_law_1118 rfl, sn_inv cls_9 (yn := 122) (na := 1) can_122 w_1033 w_1034 w_1035 dL_law_1119 rfl, trivial⟩
theorem sdL_70 {xs : Nat → Int32} {L : Nat} : AllS MT mmL (fun _ _ => True) (mScr L xs) [(1122, o_ald 2 1123), (1123, o_ald 0 1124), (1124, o_ild 3 1125), (1125, o_push (vi 1) 1126), (1126, o_iadd 1127), (1127, o_sld xs L 1128), (1128, o_inv 10 204 1 1131), (1131, o_iceq 1195 1134), (1134, o_push (vi 0) 1135), (1135, o_end)] := ⟨sn_aload_n (k := 2) dL_law_1122 rfl, sn_aload_n (k := 0) dL_law_1123 rfl, sn_iload_n (k := 3) dL_law_1124 rfl, sn_iconst (z := 1) dL_law_1125 rfl rfl, sn_iadd dL_law_1126 rfl, sn_sld dL_law_1127 rfl, sn_inv cls_10 (yn := 204) (na := 1) can_204 w_1479 w_1480 w_1481 dL_law_1128 rfl, sn_icmpeq dL_law_1131 rfl rfl, sn_iconst (z := 0) dL_law_1134 rfl rfl, sn_end (fun _ _ => trivial) rfl dL_law_1135, trivial⟩
theorem sdL_71 {xs : Nat → Int32} {L : Nat} : AllS MT mmL (fun _ _ => True) (mScr L xs) [(1136, o_ald 1 1137), (1137, o_ald 0 1138), (1138, o_ild 3 1139), (1139, o_push (vi 1) 1140), (1140, o_iadd 1141), (1141, o_sld xs L 1142), (1142, o_inv 9 123 1 1145), (1145, o_ald 2 1146), (1146, o_ald 0 1147), (1147, o_ild 3 1148), (1148, o_push (vi 1) 1149), (1149, o_iadd 1150), (1150, o_sld xs L 1151), (1151, o_inv 10 206 1 1154)] := ⟨sn_aload_n (k := 1) dL_law_1136 rfl, sn_aload_n (k := 0) dL_law_1137 rfl, sn_iload_n (k := 3) dL_law_1138 rfl, sn_iconst (z := 1) dL_law_1139 rfl rfl, sn_iadd dL_law_1140 rfl, sn_sld dL_law_1141 rfl, sn_inv cls_9 (yn := 123) (na := 1) can_123 w_1037 w_1038 w_1039 dL_law_1142 rfl, sn_aload_n (k := 2) dL_law_1145 rfl, sn_aload_n (k := 0) dL_law_1146 rfl, sn_iload_n (k := 3) dL_law_1147 rfl, sn_iconst (z := 1) dL_law_1148 rfl rfl, sn_iadd dL_law_1149 rfl, sn_sld dL_law_1150 rfl, sn_inv cls_10 (yn := 206) (na := 1) can_206 w_1483 w_1484 w_1485 dL_law_1151 rfl, trivial⟩
theorem sdL_72 {xs : Nat → Int32} {L : Nat} : AllS MT mmL (fun _ _ => True) (mScr L xs) [(1154, o_iceq 1195 1157), (1157, o_push (vi 0) 1158), (1158, o_end), (1159, o_ald 1 1160), (1160, o_inv 9 124 0 1163), (1163, o_ald 2 1164), (1164, o_inv 10 207 0 1167), (1167, o_iceq 1195 1170)] := ⟨sn_icmpeq dL_law_1154 rfl rfl, sn_iconst (z := 0) dL_law_1157 rfl rfl, sn_end (fun _ _ => trivial) rfl dL_law_1158, sn_aload_n (k := 1) dL_law_1159 rfl, sn_inv cls_9 (yn := 124) (na := 0) can_124 w_1046 w_1047 w_1048 dL_law_1160 rfl, sn_aload_n (k := 2) dL_law_1163 rfl, sn_inv cls_10 (yn := 207) (na := 0) can_207 w_1492 w_1493 w_1494 dL_law_1164 rfl, sn_icmpeq dL_law_1167 rfl rfl, trivial⟩
theorem sdL_73 {xs : Nat → Int32} {L : Nat} : AllS MT mmL (fun _ _ => True) (mScr L xs) [(1170, o_push (vi 0) 1171), (1171, o_end), (1172, o_ald 1 1173), (1173, o_ald 0 1174), (1174, o_ild 3 1175), (1175, o_push (vi 1) 1176), (1176, o_iadd 1177), (1177, o_sld xs L 1178), (1178, o_inv 9 125 1 1181), (1181, o_ald 2 1182), (1182, o_ald 0 1183), (1183, o_ild 3 1184)] := ⟨sn_iconst (z := 0) dL_law_1170 rfl rfl, sn_end (fun _ _ => trivial) rfl dL_law_1171, sn_aload_n (k := 1) dL_law_1172 rfl, sn_aload_n (k := 0) dL_law_1173 rfl, sn_iload_n (k := 3) dL_law_1174 rfl, sn_iconst (z := 1) dL_law_1175 rfl rfl, sn_iadd dL_law_1176 rfl, sn_sld dL_law_1177 rfl, sn_inv cls_9 (yn := 125) (na := 1) can_125 w_1055 w_1056 w_1057 dL_law_1178 rfl, sn_aload_n (k := 2) dL_law_1181 rfl, sn_aload_n (k := 0) dL_law_1182 rfl, sn_iload_n (k := 3) dL_law_1183 rfl, trivial⟩
theorem sdL_74 {xs : Nat → Int32} {L : Nat} : AllS MT mmL (fun _ _ => True) (mScr L xs) [(1184, o_push (vi 1) 1185), (1185, o_iadd 1186), (1186, o_sld xs L 1187), (1187, o_inv 10 208 1 1190), (1190, o_iceq 1195 1193), (1193, o_push (vi 0) 1194), (1194, o_end), (1195, o_iinc 3 7 1198), (1198, o_goto 18)] := ⟨sn_iconst (z := 1) dL_law_1184 rfl rfl, sn_iadd dL_law_1185 rfl, sn_sld dL_law_1186 rfl, sn_inv cls_10 (yn := 208) (na := 1) can_208 w_1496 w_1497 w_1498 dL_law_1187 rfl, sn_icmpeq dL_law_1190 rfl rfl, sn_iconst (z := 0) dL_law_1193 rfl rfl, sn_end (fun _ _ => trivial) rfl dL_law_1194, sn_iinc (k := 3) (dz := 7) (Nat.le_of_ble_eq_true rfl) dL_law_1195 rfl, sn_goto dL_law_1198 rfl, trivial⟩
theorem sdL_75 {xs : Nat → Int32} {L : Nat} : AllS MT mmL (fun _ _ => True) (mScr L xs) [(1201, o_push (vi 1) 1202), (1202, o_end)] := ⟨sn_iconst (z := 1) dL_law_1201 rfl rfl, sn_end (fun _ _ => trivial) rfl dL_law_1202, trivial⟩
theorem sdL {xs : Nat → Int32} {L : Nat} : ∀ pc, SndT MT mmL (fun _ _ => True) (mScr L xs) pc (lk (clL xs L) pc) := lk_snd (show AllC MT mmL (fun _ _ => True) (mScr L xs) (clL xs L) from ⟨sdL_0, sdL_1, sdL_2, sdL_3, sdL_4, sdL_5, sdL_6, sdL_7, sdL_8, sdL_9, sdL_10, sdL_11, sdL_12, sdL_13, sdL_14, sdL_15, sdL_16, sdL_17, sdL_18, sdL_19, sdL_20, sdL_21, sdL_22, sdL_23, sdL_24, sdL_25, sdL_26, sdL_27, sdL_28, sdL_29, sdL_30, sdL_31, sdL_32, sdL_33, sdL_34, sdL_35, sdL_36, sdL_37, sdL_38, sdL_39, sdL_40, sdL_41, sdL_42, sdL_43, sdL_44, sdL_45, sdL_46, sdL_47, sdL_48, sdL_49, sdL_50, sdL_51, sdL_52, sdL_53, sdL_54, sdL_55, sdL_56, sdL_57, sdL_58, sdL_59, sdL_60, sdL_61, sdL_62, sdL_63, sdL_64, sdL_65, sdL_66, sdL_67, sdL_68, sdL_69, sdL_70, sdL_71, sdL_72, sdL_73, sdL_74, sdL_75, trivial⟩)
set_option maxRecDepth 20000 in
theorem kL_0 {xs : Nat → Int32} {L : Nat} : lk (clL xs L) 0 = o_new 9 3 := rfl
set_option maxRecDepth 20000 in
theorem kL_3 {xs : Nat → Int32} {L : Nat} : lk (clL xs L) 3 = o_dupr 4 := rfl
set_option maxRecDepth 20000 in
theorem kL_4 {xs : Nat → Int32} {L : Nat} : lk (clL xs L) 4 = o_inv 9 90 0 7 := rfl
set_option maxRecDepth 20000 in
theorem kL_7 {xs : Nat → Int32} {L : Nat} : lk (clL xs L) 7 = o_ast 1 8 := rfl
set_option maxRecDepth 20000 in
theorem kL_8 {xs : Nat → Int32} {L : Nat} : lk (clL xs L) 8 = o_new 10 11 := rfl
set_option maxRecDepth 20000 in
theorem kL_11 {xs : Nat → Int32} {L : Nat} : lk (clL xs L) 11 = o_dupr 12 := rfl
set_option maxRecDepth 20000 in
theorem kL_12 {xs : Nat → Int32} {L : Nat} : lk (clL xs L) 12 = o_inv 10 135 0 15 := rfl
set_option maxRecDepth 20000 in
theorem kL_15 {xs : Nat → Int32} {L : Nat} : lk (clL xs L) 15 = o_ast 2 16 := rfl
set_option maxRecDepth 20000 in
theorem kL_16 {xs : Nat → Int32} {L : Nat} : lk (clL xs L) 16 = o_push (vi 0) 17 := rfl
set_option maxRecDepth 20000 in
theorem kL_17 {xs : Nat → Int32} {L : Nat} : lk (clL xs L) 17 = o_ist 3 18 := rfl
set_option maxRecDepth 20000 in
theorem kL_18 {xs : Nat → Int32} {L : Nat} : lk (clL xs L) 18 = o_ild 3 19 := rfl
set_option maxRecDepth 20000 in
theorem kL_19 {xs : Nat → Int32} {L : Nat} : lk (clL xs L) 19 = o_ald 0 20 := rfl
set_option maxRecDepth 20000 in
theorem kL_20 {xs : Nat → Int32} {L : Nat} : lk (clL xs L) 20 = o_slen L 21 := rfl
set_option maxRecDepth 20000 in
theorem kL_21 {xs : Nat → Int32} {L : Nat} : lk (clL xs L) 21 = o_push (vi 7) 23 := rfl
set_option maxRecDepth 20000 in
theorem kL_23 {xs : Nat → Int32} {L : Nat} : lk (clL xs L) 23 = o_isub 24 := rfl
set_option maxRecDepth 20000 in
theorem kL_24 {xs : Nat → Int32} {L : Nat} : lk (clL xs L) 24 = o_icgt 1201 27 := rfl
set_option maxRecDepth 20000 in
theorem kL_27 {xs : Nat → Int32} {L : Nat} : lk (clL xs L) 27 = o_ald 0 28 := rfl
set_option maxRecDepth 20000 in
theorem kL_28 {xs : Nat → Int32} {L : Nat} : lk (clL xs L) 28 = o_ild 3 29 := rfl
set_option maxRecDepth 20000 in
theorem kL_29 {xs : Nat → Int32} {L : Nat} : lk (clL xs L) 29 = o_sld xs L 30 := rfl
set_option maxRecDepth 20000 in
theorem kL_30 {xs : Nat → Int32} {L : Nat} : lk (clL xs L) 30 = o_push (vi 63) 32 := rfl
set_option maxRecDepth 20000 in
theorem kL_32 {xs : Nat → Int32} {L : Nat} : lk (clL xs L) 32 = o_iand 33 := rfl
set_option maxRecDepth 20000 in
theorem kL_33 {xs : Nat → Int32} {L : Nat} : lk (clL xs L) 33 = o_tsw 0 [188, 211, 254, 287, 330, 373, 396, 409, 472, 485, 498, 511, 524, 547, 580, 613, 636, 669, 692, 715, 738, 761, 784, 817, 860, 913, 946, 969, 982, 1057, 1090, 1113, 1136, 1159, 1172] 1195 := rfl
set_option maxRecDepth 20000 in
theorem kL_188 {xs : Nat → Int32} {L : Nat} : lk (clL xs L) 188 = o_ald 1 189 := rfl
set_option maxRecDepth 20000 in
theorem kL_189 {xs : Nat → Int32} {L : Nat} : lk (clL xs L) 189 = o_ald 0 190 := rfl
set_option maxRecDepth 20000 in
theorem kL_190 {xs : Nat → Int32} {L : Nat} : lk (clL xs L) 190 = o_ild 3 191 := rfl
set_option maxRecDepth 20000 in
theorem kL_191 {xs : Nat → Int32} {L : Nat} : lk (clL xs L) 191 = o_push (vi 1) 192 := rfl
set_option maxRecDepth 20000 in
theorem kL_192 {xs : Nat → Int32} {L : Nat} : lk (clL xs L) 192 = o_iadd 193 := rfl
set_option maxRecDepth 20000 in
theorem kL_193 {xs : Nat → Int32} {L : Nat} : lk (clL xs L) 193 = o_sld xs L 194 := rfl
set_option maxRecDepth 20000 in
theorem kL_194 {xs : Nat → Int32} {L : Nat} : lk (clL xs L) 194 = o_inv 9 91 1 197 := rfl
set_option maxRecDepth 20000 in
theorem kL_197 {xs : Nat → Int32} {L : Nat} : lk (clL xs L) 197 = o_ald 2 198 := rfl
set_option maxRecDepth 20000 in
theorem kL_198 {xs : Nat → Int32} {L : Nat} : lk (clL xs L) 198 = o_ald 0 199 := rfl
set_option maxRecDepth 20000 in
theorem kL_199 {xs : Nat → Int32} {L : Nat} : lk (clL xs L) 199 = o_ild 3 200 := rfl
set_option maxRecDepth 20000 in
theorem kL_200 {xs : Nat → Int32} {L : Nat} : lk (clL xs L) 200 = o_push (vi 1) 201 := rfl
set_option maxRecDepth 20000 in
theorem kL_201 {xs : Nat → Int32} {L : Nat} : lk (clL xs L) 201 = o_iadd 202 := rfl
set_option maxRecDepth 20000 in
theorem kL_202 {xs : Nat → Int32} {L : Nat} : lk (clL xs L) 202 = o_sld xs L 203 := rfl
set_option maxRecDepth 20000 in
theorem kL_203 {xs : Nat → Int32} {L : Nat} : lk (clL xs L) 203 = o_inv 10 141 1 206 := rfl
set_option maxRecDepth 20000 in
theorem kL_206 {xs : Nat → Int32} {L : Nat} : lk (clL xs L) 206 = o_iceq 1195 209 := rfl
set_option maxRecDepth 20000 in
theorem kL_209 {xs : Nat → Int32} {L : Nat} : lk (clL xs L) 209 = o_push (vi 0) 210 := rfl
set_option maxRecDepth 20000 in
theorem kL_210 {xs : Nat → Int32} {L : Nat} : lk (clL xs L) 210 = o_end := rfl
set_option maxRecDepth 20000 in
theorem kL_211 {xs : Nat → Int32} {L : Nat} : lk (clL xs L) 211 = o_ald 1 212 := rfl
set_option maxRecDepth 20000 in
theorem kL_212 {xs : Nat → Int32} {L : Nat} : lk (clL xs L) 212 = o_ald 0 213 := rfl
set_option maxRecDepth 20000 in
theorem kL_213 {xs : Nat → Int32} {L : Nat} : lk (clL xs L) 213 = o_ild 3 214 := rfl
set_option maxRecDepth 20000 in
theorem kL_214 {xs : Nat → Int32} {L : Nat} : lk (clL xs L) 214 = o_push (vi 1) 215 := rfl
set_option maxRecDepth 20000 in
theorem kL_215 {xs : Nat → Int32} {L : Nat} : lk (clL xs L) 215 = o_iadd 216 := rfl
set_option maxRecDepth 20000 in
theorem kL_216 {xs : Nat → Int32} {L : Nat} : lk (clL xs L) 216 = o_sld xs L 217 := rfl
set_option maxRecDepth 20000 in
theorem kL_217 {xs : Nat → Int32} {L : Nat} : lk (clL xs L) 217 = o_ald 0 218 := rfl
set_option maxRecDepth 20000 in
theorem kL_218 {xs : Nat → Int32} {L : Nat} : lk (clL xs L) 218 = o_ild 3 219 := rfl
set_option maxRecDepth 20000 in
theorem kL_219 {xs : Nat → Int32} {L : Nat} : lk (clL xs L) 219 = o_push (vi 2) 220 := rfl
set_option maxRecDepth 20000 in
theorem kL_220 {xs : Nat → Int32} {L : Nat} : lk (clL xs L) 220 = o_iadd 221 := rfl
set_option maxRecDepth 20000 in
theorem kL_221 {xs : Nat → Int32} {L : Nat} : lk (clL xs L) 221 = o_sld xs L 222 := rfl
set_option maxRecDepth 20000 in
theorem kL_222 {xs : Nat → Int32} {L : Nat} : lk (clL xs L) 222 = o_ald 0 223 := rfl
set_option maxRecDepth 20000 in
theorem kL_223 {xs : Nat → Int32} {L : Nat} : lk (clL xs L) 223 = o_ild 3 224 := rfl
set_option maxRecDepth 20000 in
theorem kL_224 {xs : Nat → Int32} {L : Nat} : lk (clL xs L) 224 = o_push (vi 3) 225 := rfl
set_option maxRecDepth 20000 in
theorem kL_225 {xs : Nat → Int32} {L : Nat} : lk (clL xs L) 225 = o_iadd 226 := rfl
set_option maxRecDepth 20000 in
theorem kL_226 {xs : Nat → Int32} {L : Nat} : lk (clL xs L) 226 = o_sld xs L 227 := rfl
set_option maxRecDepth 20000 in
theorem kL_227 {xs : Nat → Int32} {L : Nat} : lk (clL xs L) 227 = o_inv 9 92 3 230 := rfl
set_option maxRecDepth 20000 in
theorem kL_230 {xs : Nat → Int32} {L : Nat} : lk (clL xs L) 230 = o_ald 2 231 := rfl
set_option maxRecDepth 20000 in
theorem kL_231 {xs : Nat → Int32} {L : Nat} : lk (clL xs L) 231 = o_ald 0 232 := rfl
set_option maxRecDepth 20000 in
theorem kL_232 {xs : Nat → Int32} {L : Nat} : lk (clL xs L) 232 = o_ild 3 233 := rfl
set_option maxRecDepth 20000 in
theorem kL_233 {xs : Nat → Int32} {L : Nat} : lk (clL xs L) 233 = o_push (vi 1) 234 := rfl
set_option maxRecDepth 20000 in
theorem kL_234 {xs : Nat → Int32} {L : Nat} : lk (clL xs L) 234 = o_iadd 235 := rfl
set_option maxRecDepth 20000 in
theorem kL_235 {xs : Nat → Int32} {L : Nat} : lk (clL xs L) 235 = o_sld xs L 236 := rfl
set_option maxRecDepth 20000 in
theorem kL_236 {xs : Nat → Int32} {L : Nat} : lk (clL xs L) 236 = o_ald 0 237 := rfl
set_option maxRecDepth 20000 in
theorem kL_237 {xs : Nat → Int32} {L : Nat} : lk (clL xs L) 237 = o_ild 3 238 := rfl
set_option maxRecDepth 20000 in
theorem kL_238 {xs : Nat → Int32} {L : Nat} : lk (clL xs L) 238 = o_push (vi 2) 239 := rfl
set_option maxRecDepth 20000 in
theorem kL_239 {xs : Nat → Int32} {L : Nat} : lk (clL xs L) 239 = o_iadd 240 := rfl
set_option maxRecDepth 20000 in
theorem kL_240 {xs : Nat → Int32} {L : Nat} : lk (clL xs L) 240 = o_sld xs L 241 := rfl
set_option maxRecDepth 20000 in
theorem kL_241 {xs : Nat → Int32} {L : Nat} : lk (clL xs L) 241 = o_ald 0 242 := rfl
set_option maxRecDepth 20000 in
theorem kL_242 {xs : Nat → Int32} {L : Nat} : lk (clL xs L) 242 = o_ild 3 243 := rfl
set_option maxRecDepth 20000 in
theorem kL_243 {xs : Nat → Int32} {L : Nat} : lk (clL xs L) 243 = o_push (vi 3) 244 := rfl
set_option maxRecDepth 20000 in
theorem kL_244 {xs : Nat → Int32} {L : Nat} : lk (clL xs L) 244 = o_iadd 245 := rfl
set_option maxRecDepth 20000 in
theorem kL_245 {xs : Nat → Int32} {L : Nat} : lk (clL xs L) 245 = o_sld xs L 246 := rfl
set_option maxRecDepth 20000 in
theorem kL_246 {xs : Nat → Int32} {L : Nat} : lk (clL xs L) 246 = o_inv 10 142 3 249 := rfl
set_option maxRecDepth 20000 in
theorem kL_249 {xs : Nat → Int32} {L : Nat} : lk (clL xs L) 249 = o_iceq 1195 252 := rfl
set_option maxRecDepth 20000 in
theorem kL_252 {xs : Nat → Int32} {L : Nat} : lk (clL xs L) 252 = o_push (vi 0) 253 := rfl
set_option maxRecDepth 20000 in
theorem kL_253 {xs : Nat → Int32} {L : Nat} : lk (clL xs L) 253 = o_end := rfl
set_option maxRecDepth 20000 in
theorem kL_254 {xs : Nat → Int32} {L : Nat} : lk (clL xs L) 254 = o_ald 1 255 := rfl
set_option maxRecDepth 20000 in
theorem kL_255 {xs : Nat → Int32} {L : Nat} : lk (clL xs L) 255 = o_ald 0 256 := rfl
set_option maxRecDepth 20000 in
theorem kL_256 {xs : Nat → Int32} {L : Nat} : lk (clL xs L) 256 = o_ild 3 257 := rfl
set_option maxRecDepth 20000 in
theorem kL_257 {xs : Nat → Int32} {L : Nat} : lk (clL xs L) 257 = o_push (vi 1) 258 := rfl
set_option maxRecDepth 20000 in
theorem kL_258 {xs : Nat → Int32} {L : Nat} : lk (clL xs L) 258 = o_iadd 259 := rfl
set_option maxRecDepth 20000 in
theorem kL_259 {xs : Nat → Int32} {L : Nat} : lk (clL xs L) 259 = o_sld xs L 260 := rfl
set_option maxRecDepth 20000 in
theorem kL_260 {xs : Nat → Int32} {L : Nat} : lk (clL xs L) 260 = o_ald 0 261 := rfl
set_option maxRecDepth 20000 in
theorem kL_261 {xs : Nat → Int32} {L : Nat} : lk (clL xs L) 261 = o_ild 3 262 := rfl
set_option maxRecDepth 20000 in
theorem kL_262 {xs : Nat → Int32} {L : Nat} : lk (clL xs L) 262 = o_push (vi 2) 263 := rfl
set_option maxRecDepth 20000 in
theorem kL_263 {xs : Nat → Int32} {L : Nat} : lk (clL xs L) 263 = o_iadd 264 := rfl
set_option maxRecDepth 20000 in
theorem kL_264 {xs : Nat → Int32} {L : Nat} : lk (clL xs L) 264 = o_sld xs L 265 := rfl
set_option maxRecDepth 20000 in
theorem kL_265 {xs : Nat → Int32} {L : Nat} : lk (clL xs L) 265 = o_inv 9 93 2 268 := rfl
set_option maxRecDepth 20000 in
theorem kL_268 {xs : Nat → Int32} {L : Nat} : lk (clL xs L) 268 = o_ald 2 269 := rfl
set_option maxRecDepth 20000 in
theorem kL_269 {xs : Nat → Int32} {L : Nat} : lk (clL xs L) 269 = o_ald 0 270 := rfl
set_option maxRecDepth 20000 in
theorem kL_270 {xs : Nat → Int32} {L : Nat} : lk (clL xs L) 270 = o_ild 3 271 := rfl
set_option maxRecDepth 20000 in
theorem kL_271 {xs : Nat → Int32} {L : Nat} : lk (clL xs L) 271 = o_push (vi 1) 272 := rfl
set_option maxRecDepth 20000 in
theorem kL_272 {xs : Nat → Int32} {L : Nat} : lk (clL xs L) 272 = o_iadd 273 := rfl
set_option maxRecDepth 20000 in
theorem kL_273 {xs : Nat → Int32} {L : Nat} : lk (clL xs L) 273 = o_sld xs L 274 := rfl
set_option maxRecDepth 20000 in
theorem kL_274 {xs : Nat → Int32} {L : Nat} : lk (clL xs L) 274 = o_ald 0 275 := rfl
set_option maxRecDepth 20000 in
theorem kL_275 {xs : Nat → Int32} {L : Nat} : lk (clL xs L) 275 = o_ild 3 276 := rfl
set_option maxRecDepth 20000 in
theorem kL_276 {xs : Nat → Int32} {L : Nat} : lk (clL xs L) 276 = o_push (vi 2) 277 := rfl
set_option maxRecDepth 20000 in
theorem kL_277 {xs : Nat → Int32} {L : Nat} : lk (clL xs L) 277 = o_iadd 278 := rfl
set_option maxRecDepth 20000 in
theorem kL_278 {xs : Nat → Int32} {L : Nat} : lk (clL xs L) 278 = o_sld xs L 279 := rfl
set_option maxRecDepth 20000 in
theorem kL_279 {xs : Nat → Int32} {L : Nat} : lk (clL xs L) 279 = o_inv 10 145 2 282 := rfl
set_option maxRecDepth 20000 in
theorem kL_282 {xs : Nat → Int32} {L : Nat} : lk (clL xs L) 282 = o_iceq 1195 285 := rfl
set_option maxRecDepth 20000 in
theorem kL_285 {xs : Nat → Int32} {L : Nat} : lk (clL xs L) 285 = o_push (vi 0) 286 := rfl
set_option maxRecDepth 20000 in
theorem kL_286 {xs : Nat → Int32} {L : Nat} : lk (clL xs L) 286 = o_end := rfl
set_option maxRecDepth 20000 in
theorem kL_287 {xs : Nat → Int32} {L : Nat} : lk (clL xs L) 287 = o_ald 1 288 := rfl
set_option maxRecDepth 20000 in
theorem kL_288 {xs : Nat → Int32} {L : Nat} : lk (clL xs L) 288 = o_ald 0 289 := rfl
set_option maxRecDepth 20000 in
theorem kL_289 {xs : Nat → Int32} {L : Nat} : lk (clL xs L) 289 = o_ild 3 290 := rfl
set_option maxRecDepth 20000 in
theorem kL_290 {xs : Nat → Int32} {L : Nat} : lk (clL xs L) 290 = o_push (vi 1) 291 := rfl
set_option maxRecDepth 20000 in
theorem kL_291 {xs : Nat → Int32} {L : Nat} : lk (clL xs L) 291 = o_iadd 292 := rfl
set_option maxRecDepth 20000 in
theorem kL_292 {xs : Nat → Int32} {L : Nat} : lk (clL xs L) 292 = o_sld xs L 293 := rfl
set_option maxRecDepth 20000 in
theorem kL_293 {xs : Nat → Int32} {L : Nat} : lk (clL xs L) 293 = o_ald 0 294 := rfl
set_option maxRecDepth 20000 in
theorem kL_294 {xs : Nat → Int32} {L : Nat} : lk (clL xs L) 294 = o_ild 3 295 := rfl
set_option maxRecDepth 20000 in
theorem kL_295 {xs : Nat → Int32} {L : Nat} : lk (clL xs L) 295 = o_push (vi 2) 296 := rfl
set_option maxRecDepth 20000 in
theorem kL_296 {xs : Nat → Int32} {L : Nat} : lk (clL xs L) 296 = o_iadd 297 := rfl
set_option maxRecDepth 20000 in
theorem kL_297 {xs : Nat → Int32} {L : Nat} : lk (clL xs L) 297 = o_sld xs L 298 := rfl
set_option maxRecDepth 20000 in
theorem kL_298 {xs : Nat → Int32} {L : Nat} : lk (clL xs L) 298 = o_ald 0 299 := rfl
set_option maxRecDepth 20000 in
theorem kL_299 {xs : Nat → Int32} {L : Nat} : lk (clL xs L) 299 = o_ild 3 300 := rfl
set_option maxRecDepth 20000 in
theorem kL_300 {xs : Nat → Int32} {L : Nat} : lk (clL xs L) 300 = o_push (vi 3) 301 := rfl
set_option maxRecDepth 20000 in
theorem kL_301 {xs : Nat → Int32} {L : Nat} : lk (clL xs L) 301 = o_iadd 302 := rfl
set_option maxRecDepth 20000 in
theorem kL_302 {xs : Nat → Int32} {L : Nat} : lk (clL xs L) 302 = o_sld xs L 303 := rfl
set_option maxRecDepth 20000 in
theorem kL_303 {xs : Nat → Int32} {L : Nat} : lk (clL xs L) 303 = o_inv 9 94 3 306 := rfl
set_option maxRecDepth 20000 in
theorem kL_306 {xs : Nat → Int32} {L : Nat} : lk (clL xs L) 306 = o_ald 2 307 := rfl
set_option maxRecDepth 20000 in
theorem kL_307 {xs : Nat → Int32} {L : Nat} : lk (clL xs L) 307 = o_ald 0 308 := rfl
set_option maxRecDepth 20000 in
theorem kL_308 {xs : Nat → Int32} {L : Nat} : lk (clL xs L) 308 = o_ild 3 309 := rfl
set_option maxRecDepth 20000 in
theorem kL_309 {xs : Nat → Int32} {L : Nat} : lk (clL xs L) 309 = o_push (vi 1) 310 := rfl
set_option maxRecDepth 20000 in
theorem kL_310 {xs : Nat → Int32} {L : Nat} : lk (clL xs L) 310 = o_iadd 311 := rfl
set_option maxRecDepth 20000 in
theorem kL_311 {xs : Nat → Int32} {L : Nat} : lk (clL xs L) 311 = o_sld xs L 312 := rfl
set_option maxRecDepth 20000 in
theorem kL_312 {xs : Nat → Int32} {L : Nat} : lk (clL xs L) 312 = o_ald 0 313 := rfl
set_option maxRecDepth 20000 in
theorem kL_313 {xs : Nat → Int32} {L : Nat} : lk (clL xs L) 313 = o_ild 3 314 := rfl
set_option maxRecDepth 20000 in
theorem kL_314 {xs : Nat → Int32} {L : Nat} : lk (clL xs L) 314 = o_push (vi 2) 315 := rfl
set_option maxRecDepth 20000 in
theorem kL_315 {xs : Nat → Int32} {L : Nat} : lk (clL xs L) 315 = o_iadd 316 := rfl
set_option maxRecDepth 20000 in
theorem kL_316 {xs : Nat → Int32} {L : Nat} : lk (clL xs L) 316 = o_sld xs L 317 := rfl
set_option maxRecDepth 20000 in
theorem kL_317 {xs : Nat → Int32} {L : Nat} : lk (clL xs L) 317 = o_ald 0 318 := rfl
set_option maxRecDepth 20000 in
theorem kL_318 {xs : Nat → Int32} {L : Nat} : lk (clL xs L) 318 = o_ild 3 319 := rfl
set_option maxRecDepth 20000 in
theorem kL_319 {xs : Nat → Int32} {L : Nat} : lk (clL xs L) 319 = o_push (vi 3) 320 := rfl
set_option maxRecDepth 20000 in
theorem kL_320 {xs : Nat → Int32} {L : Nat} : lk (clL xs L) 320 = o_iadd 321 := rfl
set_option maxRecDepth 20000 in
theorem kL_321 {xs : Nat → Int32} {L : Nat} : lk (clL xs L) 321 = o_sld xs L 322 := rfl
set_option maxRecDepth 20000 in
theorem kL_322 {xs : Nat → Int32} {L : Nat} : lk (clL xs L) 322 = o_inv 10 146 3 325 := rfl
set_option maxRecDepth 20000 in
theorem kL_325 {xs : Nat → Int32} {L : Nat} : lk (clL xs L) 325 = o_iceq 1195 328 := rfl
set_option maxRecDepth 20000 in
theorem kL_328 {xs : Nat → Int32} {L : Nat} : lk (clL xs L) 328 = o_push (vi 0) 329 := rfl
set_option maxRecDepth 20000 in
theorem kL_329 {xs : Nat → Int32} {L : Nat} : lk (clL xs L) 329 = o_end := rfl
set_option maxRecDepth 20000 in
theorem kL_330 {xs : Nat → Int32} {L : Nat} : lk (clL xs L) 330 = o_ald 1 331 := rfl
set_option maxRecDepth 20000 in
theorem kL_331 {xs : Nat → Int32} {L : Nat} : lk (clL xs L) 331 = o_ald 0 332 := rfl
set_option maxRecDepth 20000 in
theorem kL_332 {xs : Nat → Int32} {L : Nat} : lk (clL xs L) 332 = o_ild 3 333 := rfl
set_option maxRecDepth 20000 in
theorem kL_333 {xs : Nat → Int32} {L : Nat} : lk (clL xs L) 333 = o_push (vi 1) 334 := rfl
set_option maxRecDepth 20000 in
theorem kL_334 {xs : Nat → Int32} {L : Nat} : lk (clL xs L) 334 = o_iadd 335 := rfl
set_option maxRecDepth 20000 in
theorem kL_335 {xs : Nat → Int32} {L : Nat} : lk (clL xs L) 335 = o_sld xs L 336 := rfl
set_option maxRecDepth 20000 in
theorem kL_336 {xs : Nat → Int32} {L : Nat} : lk (clL xs L) 336 = o_ald 0 337 := rfl
set_option maxRecDepth 20000 in
theorem kL_337 {xs : Nat → Int32} {L : Nat} : lk (clL xs L) 337 = o_ild 3 338 := rfl
set_option maxRecDepth 20000 in
theorem kL_338 {xs : Nat → Int32} {L : Nat} : lk (clL xs L) 338 = o_push (vi 2) 339 := rfl
set_option maxRecDepth 20000 in
theorem kL_339 {xs : Nat → Int32} {L : Nat} : lk (clL xs L) 339 = o_iadd 340 := rfl
set_option maxRecDepth 20000 in
theorem kL_340 {xs : Nat → Int32} {L : Nat} : lk (clL xs L) 340 = o_sld xs L 341 := rfl
set_option maxRecDepth 20000 in
theorem kL_341 {xs : Nat → Int32} {L : Nat} : lk (clL xs L) 341 = o_ald 0 342 := rfl
set_option maxRecDepth 20000 in
theorem kL_342 {xs : Nat → Int32} {L : Nat} : lk (clL xs L) 342 = o_ild 3 343 := rfl
set_option maxRecDepth 20000 in
theorem kL_343 {xs : Nat → Int32} {L : Nat} : lk (clL xs L) 343 = o_push (vi 3) 344 := rfl
set_option maxRecDepth 20000 in
theorem kL_344 {xs : Nat → Int32} {L : Nat} : lk (clL xs L) 344 = o_iadd 345 := rfl
set_option maxRecDepth 20000 in
theorem kL_345 {xs : Nat → Int32} {L : Nat} : lk (clL xs L) 345 = o_sld xs L 346 := rfl
set_option maxRecDepth 20000 in
theorem kL_346 {xs : Nat → Int32} {L : Nat} : lk (clL xs L) 346 = o_inv 9 95 3 349 := rfl
set_option maxRecDepth 20000 in
theorem kL_349 {xs : Nat → Int32} {L : Nat} : lk (clL xs L) 349 = o_ald 2 350 := rfl
set_option maxRecDepth 20000 in
theorem kL_350 {xs : Nat → Int32} {L : Nat} : lk (clL xs L) 350 = o_ald 0 351 := rfl
set_option maxRecDepth 20000 in
theorem kL_351 {xs : Nat → Int32} {L : Nat} : lk (clL xs L) 351 = o_ild 3 352 := rfl
set_option maxRecDepth 20000 in
theorem kL_352 {xs : Nat → Int32} {L : Nat} : lk (clL xs L) 352 = o_push (vi 1) 353 := rfl
set_option maxRecDepth 20000 in
theorem kL_353 {xs : Nat → Int32} {L : Nat} : lk (clL xs L) 353 = o_iadd 354 := rfl
set_option maxRecDepth 20000 in
theorem kL_354 {xs : Nat → Int32} {L : Nat} : lk (clL xs L) 354 = o_sld xs L 355 := rfl
set_option maxRecDepth 20000 in
theorem kL_355 {xs : Nat → Int32} {L : Nat} : lk (clL xs L) 355 = o_ald 0 356 := rfl
set_option maxRecDepth 20000 in
theorem kL_356 {xs : Nat → Int32} {L : Nat} : lk (clL xs L) 356 = o_ild 3 357 := rfl
set_option maxRecDepth 20000 in
theorem kL_357 {xs : Nat → Int32} {L : Nat} : lk (clL xs L) 357 = o_push (vi 2) 358 := rfl
set_option maxRecDepth 20000 in
theorem kL_358 {xs : Nat → Int32} {L : Nat} : lk (clL xs L) 358 = o_iadd 359 := rfl
set_option maxRecDepth 20000 in
theorem kL_359 {xs : Nat → Int32} {L : Nat} : lk (clL xs L) 359 = o_sld xs L 360 := rfl
set_option maxRecDepth 20000 in
theorem kL_360 {xs : Nat → Int32} {L : Nat} : lk (clL xs L) 360 = o_ald 0 361 := rfl
set_option maxRecDepth 20000 in
theorem kL_361 {xs : Nat → Int32} {L : Nat} : lk (clL xs L) 361 = o_ild 3 362 := rfl
set_option maxRecDepth 20000 in
theorem kL_362 {xs : Nat → Int32} {L : Nat} : lk (clL xs L) 362 = o_push (vi 3) 363 := rfl
set_option maxRecDepth 20000 in
theorem kL_363 {xs : Nat → Int32} {L : Nat} : lk (clL xs L) 363 = o_iadd 364 := rfl
set_option maxRecDepth 20000 in
theorem kL_364 {xs : Nat → Int32} {L : Nat} : lk (clL xs L) 364 = o_sld xs L 365 := rfl
set_option maxRecDepth 20000 in
theorem kL_365 {xs : Nat → Int32} {L : Nat} : lk (clL xs L) 365 = o_inv 10 147 3 368 := rfl
set_option maxRecDepth 20000 in
theorem kL_368 {xs : Nat → Int32} {L : Nat} : lk (clL xs L) 368 = o_iceq 1195 371 := rfl
set_option maxRecDepth 20000 in
theorem kL_371 {xs : Nat → Int32} {L : Nat} : lk (clL xs L) 371 = o_push (vi 0) 372 := rfl
set_option maxRecDepth 20000 in
theorem kL_372 {xs : Nat → Int32} {L : Nat} : lk (clL xs L) 372 = o_end := rfl
set_option maxRecDepth 20000 in
theorem kL_373 {xs : Nat → Int32} {L : Nat} : lk (clL xs L) 373 = o_ald 1 374 := rfl
set_option maxRecDepth 20000 in
theorem kL_374 {xs : Nat → Int32} {L : Nat} : lk (clL xs L) 374 = o_ald 0 375 := rfl
set_option maxRecDepth 20000 in
theorem kL_375 {xs : Nat → Int32} {L : Nat} : lk (clL xs L) 375 = o_ild 3 376 := rfl
set_option maxRecDepth 20000 in
theorem kL_376 {xs : Nat → Int32} {L : Nat} : lk (clL xs L) 376 = o_push (vi 1) 377 := rfl
set_option maxRecDepth 20000 in
theorem kL_377 {xs : Nat → Int32} {L : Nat} : lk (clL xs L) 377 = o_iadd 378 := rfl
set_option maxRecDepth 20000 in
theorem kL_378 {xs : Nat → Int32} {L : Nat} : lk (clL xs L) 378 = o_sld xs L 379 := rfl
set_option maxRecDepth 20000 in
theorem kL_379 {xs : Nat → Int32} {L : Nat} : lk (clL xs L) 379 = o_inv 9 96 1 382 := rfl
set_option maxRecDepth 20000 in
theorem kL_382 {xs : Nat → Int32} {L : Nat} : lk (clL xs L) 382 = o_ald 2 383 := rfl
set_option maxRecDepth 20000 in
theorem kL_383 {xs : Nat → Int32} {L : Nat} : lk (clL xs L) 383 = o_ald 0 384 := rfl
set_option maxRecDepth 20000 in
theorem kL_384 {xs : Nat → Int32} {L : Nat} : lk (clL xs L) 384 = o_ild 3 385 := rfl
set_option maxRecDepth 20000 in
theorem kL_385 {xs : Nat → Int32} {L : Nat} : lk (clL xs L) 385 = o_push (vi 1) 386 := rfl
set_option maxRecDepth 20000 in
theorem kL_386 {xs : Nat → Int32} {L : Nat} : lk (clL xs L) 386 = o_iadd 387 := rfl
set_option maxRecDepth 20000 in
theorem kL_387 {xs : Nat → Int32} {L : Nat} : lk (clL xs L) 387 = o_sld xs L 388 := rfl
set_option maxRecDepth 20000 in
theorem kL_388 {xs : Nat → Int32} {L : Nat} : lk (clL xs L) 388 = o_inv 10 148 1 391 := rfl
set_option maxRecDepth 20000 in
theorem kL_391 {xs : Nat → Int32} {L : Nat} : lk (clL xs L) 391 = o_iceq 1195 394 := rfl
set_option maxRecDepth 20000 in
theorem kL_394 {xs : Nat → Int32} {L : Nat} : lk (clL xs L) 394 = o_push (vi 0) 395 := rfl
set_option maxRecDepth 20000 in
theorem kL_395 {xs : Nat → Int32} {L : Nat} : lk (clL xs L) 395 = o_end := rfl
set_option maxRecDepth 20000 in
theorem kL_396 {xs : Nat → Int32} {L : Nat} : lk (clL xs L) 396 = o_ald 1 397 := rfl
set_option maxRecDepth 20000 in
theorem kL_397 {xs : Nat → Int32} {L : Nat} : lk (clL xs L) 397 = o_inv 9 97 0 400 := rfl
set_option maxRecDepth 20000 in
theorem kL_400 {xs : Nat → Int32} {L : Nat} : lk (clL xs L) 400 = o_ald 2 401 := rfl
set_option maxRecDepth 20000 in
theorem kL_401 {xs : Nat → Int32} {L : Nat} : lk (clL xs L) 401 = o_inv 10 149 0 404 := rfl
set_option maxRecDepth 20000 in
theorem kL_404 {xs : Nat → Int32} {L : Nat} : lk (clL xs L) 404 = o_iceq 1195 407 := rfl
set_option maxRecDepth 20000 in
theorem kL_407 {xs : Nat → Int32} {L : Nat} : lk (clL xs L) 407 = o_push (vi 0) 408 := rfl
set_option maxRecDepth 20000 in
theorem kL_408 {xs : Nat → Int32} {L : Nat} : lk (clL xs L) 408 = o_end := rfl
set_option maxRecDepth 20000 in
theorem kL_409 {xs : Nat → Int32} {L : Nat} : lk (clL xs L) 409 = o_ald 1 410 := rfl
set_option maxRecDepth 20000 in
theorem kL_410 {xs : Nat → Int32} {L : Nat} : lk (clL xs L) 410 = o_ald 0 411 := rfl
set_option maxRecDepth 20000 in
theorem kL_411 {xs : Nat → Int32} {L : Nat} : lk (clL xs L) 411 = o_ild 3 412 := rfl
set_option maxRecDepth 20000 in
theorem kL_412 {xs : Nat → Int32} {L : Nat} : lk (clL xs L) 412 = o_push (vi 1) 413 := rfl
set_option maxRecDepth 20000 in
theorem kL_413 {xs : Nat → Int32} {L : Nat} : lk (clL xs L) 413 = o_iadd 414 := rfl
set_option maxRecDepth 20000 in
theorem kL_414 {xs : Nat → Int32} {L : Nat} : lk (clL xs L) 414 = o_sld xs L 415 := rfl
set_option maxRecDepth 20000 in
theorem kL_415 {xs : Nat → Int32} {L : Nat} : lk (clL xs L) 415 = o_i2l 416 := rfl
set_option maxRecDepth 20000 in
theorem kL_416 {xs : Nat → Int32} {L : Nat} : lk (clL xs L) 416 = o_push (vi 32) 418 := rfl
set_option maxRecDepth 20000 in
theorem kL_418 {xs : Nat → Int32} {L : Nat} : lk (clL xs L) 418 = o_lshl 419 := rfl
set_option maxRecDepth 20000 in
theorem kL_419 {xs : Nat → Int32} {L : Nat} : lk (clL xs L) 419 = o_ald 0 420 := rfl
set_option maxRecDepth 20000 in
theorem kL_420 {xs : Nat → Int32} {L : Nat} : lk (clL xs L) 420 = o_ild 3 421 := rfl
set_option maxRecDepth 20000 in
theorem kL_421 {xs : Nat → Int32} {L : Nat} : lk (clL xs L) 421 = o_push (vi 2) 422 := rfl
set_option maxRecDepth 20000 in
theorem kL_422 {xs : Nat → Int32} {L : Nat} : lk (clL xs L) 422 = o_iadd 423 := rfl
set_option maxRecDepth 20000 in
theorem kL_423 {xs : Nat → Int32} {L : Nat} : lk (clL xs L) 423 = o_sld xs L 424 := rfl
set_option maxRecDepth 20000 in
theorem kL_424 {xs : Nat → Int32} {L : Nat} : lk (clL xs L) 424 = o_i2l 425 := rfl
set_option maxRecDepth 20000 in
theorem kL_425 {xs : Nat → Int32} {L : Nat} : lk (clL xs L) 425 = o_push (vl 4294967295) 428 := rfl
set_option maxRecDepth 20000 in
theorem kL_428 {xs : Nat → Int32} {L : Nat} : lk (clL xs L) 428 = o_land 429 := rfl
set_option maxRecDepth 20000 in
theorem kL_429 {xs : Nat → Int32} {L : Nat} : lk (clL xs L) 429 = o_lor 430 := rfl
set_option maxRecDepth 20000 in
theorem kL_430 {xs : Nat → Int32} {L : Nat} : lk (clL xs L) 430 = o_ald 0 431 := rfl
set_option maxRecDepth 20000 in
theorem kL_431 {xs : Nat → Int32} {L : Nat} : lk (clL xs L) 431 = o_ild 3 432 := rfl
set_option maxRecDepth 20000 in
theorem kL_432 {xs : Nat → Int32} {L : Nat} : lk (clL xs L) 432 = o_push (vi 3) 433 := rfl
set_option maxRecDepth 20000 in
theorem kL_433 {xs : Nat → Int32} {L : Nat} : lk (clL xs L) 433 = o_iadd 434 := rfl
set_option maxRecDepth 20000 in
theorem kL_434 {xs : Nat → Int32} {L : Nat} : lk (clL xs L) 434 = o_sld xs L 435 := rfl
set_option maxRecDepth 20000 in
theorem kL_435 {xs : Nat → Int32} {L : Nat} : lk (clL xs L) 435 = o_inv 9 98 2 438 := rfl
set_option maxRecDepth 20000 in
theorem kL_438 {xs : Nat → Int32} {L : Nat} : lk (clL xs L) 438 = o_ald 2 439 := rfl
set_option maxRecDepth 20000 in
theorem kL_439 {xs : Nat → Int32} {L : Nat} : lk (clL xs L) 439 = o_ald 0 440 := rfl
set_option maxRecDepth 20000 in
theorem kL_440 {xs : Nat → Int32} {L : Nat} : lk (clL xs L) 440 = o_ild 3 441 := rfl
set_option maxRecDepth 20000 in
theorem kL_441 {xs : Nat → Int32} {L : Nat} : lk (clL xs L) 441 = o_push (vi 1) 442 := rfl
set_option maxRecDepth 20000 in
theorem kL_442 {xs : Nat → Int32} {L : Nat} : lk (clL xs L) 442 = o_iadd 443 := rfl
set_option maxRecDepth 20000 in
theorem kL_443 {xs : Nat → Int32} {L : Nat} : lk (clL xs L) 443 = o_sld xs L 444 := rfl
set_option maxRecDepth 20000 in
theorem kL_444 {xs : Nat → Int32} {L : Nat} : lk (clL xs L) 444 = o_i2l 445 := rfl
set_option maxRecDepth 20000 in
theorem kL_445 {xs : Nat → Int32} {L : Nat} : lk (clL xs L) 445 = o_push (vi 32) 447 := rfl
set_option maxRecDepth 20000 in
theorem kL_447 {xs : Nat → Int32} {L : Nat} : lk (clL xs L) 447 = o_lshl 448 := rfl
set_option maxRecDepth 20000 in
theorem kL_448 {xs : Nat → Int32} {L : Nat} : lk (clL xs L) 448 = o_ald 0 449 := rfl
set_option maxRecDepth 20000 in
theorem kL_449 {xs : Nat → Int32} {L : Nat} : lk (clL xs L) 449 = o_ild 3 450 := rfl
set_option maxRecDepth 20000 in
theorem kL_450 {xs : Nat → Int32} {L : Nat} : lk (clL xs L) 450 = o_push (vi 2) 451 := rfl
set_option maxRecDepth 20000 in
theorem kL_451 {xs : Nat → Int32} {L : Nat} : lk (clL xs L) 451 = o_iadd 452 := rfl
set_option maxRecDepth 20000 in
theorem kL_452 {xs : Nat → Int32} {L : Nat} : lk (clL xs L) 452 = o_sld xs L 453 := rfl
set_option maxRecDepth 20000 in
theorem kL_453 {xs : Nat → Int32} {L : Nat} : lk (clL xs L) 453 = o_i2l 454 := rfl
set_option maxRecDepth 20000 in
theorem kL_454 {xs : Nat → Int32} {L : Nat} : lk (clL xs L) 454 = o_push (vl 4294967295) 457 := rfl
set_option maxRecDepth 20000 in
theorem kL_457 {xs : Nat → Int32} {L : Nat} : lk (clL xs L) 457 = o_land 458 := rfl
set_option maxRecDepth 20000 in
theorem kL_458 {xs : Nat → Int32} {L : Nat} : lk (clL xs L) 458 = o_lor 459 := rfl
set_option maxRecDepth 20000 in
theorem kL_459 {xs : Nat → Int32} {L : Nat} : lk (clL xs L) 459 = o_ald 0 460 := rfl
set_option maxRecDepth 20000 in
theorem kL_460 {xs : Nat → Int32} {L : Nat} : lk (clL xs L) 460 = o_ild 3 461 := rfl
set_option maxRecDepth 20000 in
theorem kL_461 {xs : Nat → Int32} {L : Nat} : lk (clL xs L) 461 = o_push (vi 3) 462 := rfl
set_option maxRecDepth 20000 in
theorem kL_462 {xs : Nat → Int32} {L : Nat} : lk (clL xs L) 462 = o_iadd 463 := rfl
set_option maxRecDepth 20000 in
theorem kL_463 {xs : Nat → Int32} {L : Nat} : lk (clL xs L) 463 = o_sld xs L 464 := rfl
set_option maxRecDepth 20000 in
theorem kL_464 {xs : Nat → Int32} {L : Nat} : lk (clL xs L) 464 = o_inv 10 150 2 467 := rfl
set_option maxRecDepth 20000 in
theorem kL_467 {xs : Nat → Int32} {L : Nat} : lk (clL xs L) 467 = o_iceq 1195 470 := rfl
set_option maxRecDepth 20000 in
theorem kL_470 {xs : Nat → Int32} {L : Nat} : lk (clL xs L) 470 = o_push (vi 0) 471 := rfl
set_option maxRecDepth 20000 in
theorem kL_471 {xs : Nat → Int32} {L : Nat} : lk (clL xs L) 471 = o_end := rfl
set_option maxRecDepth 20000 in
theorem kL_472 {xs : Nat → Int32} {L : Nat} : lk (clL xs L) 472 = o_ald 1 473 := rfl
set_option maxRecDepth 20000 in
theorem kL_473 {xs : Nat → Int32} {L : Nat} : lk (clL xs L) 473 = o_inv 9 99 0 476 := rfl
set_option maxRecDepth 20000 in
theorem kL_476 {xs : Nat → Int32} {L : Nat} : lk (clL xs L) 476 = o_ald 2 477 := rfl
set_option maxRecDepth 20000 in
theorem kL_477 {xs : Nat → Int32} {L : Nat} : lk (clL xs L) 477 = o_inv 10 151 0 480 := rfl
set_option maxRecDepth 20000 in
theorem kL_480 {xs : Nat → Int32} {L : Nat} : lk (clL xs L) 480 = o_iceq 1195 483 := rfl
set_option maxRecDepth 20000 in
theorem kL_483 {xs : Nat → Int32} {L : Nat} : lk (clL xs L) 483 = o_push (vi 0) 484 := rfl
set_option maxRecDepth 20000 in
theorem kL_484 {xs : Nat → Int32} {L : Nat} : lk (clL xs L) 484 = o_end := rfl
set_option maxRecDepth 20000 in
theorem kL_485 {xs : Nat → Int32} {L : Nat} : lk (clL xs L) 485 = o_ald 1 486 := rfl
set_option maxRecDepth 20000 in
theorem kL_486 {xs : Nat → Int32} {L : Nat} : lk (clL xs L) 486 = o_inv 9 100 0 489 := rfl
set_option maxRecDepth 20000 in
theorem kL_489 {xs : Nat → Int32} {L : Nat} : lk (clL xs L) 489 = o_ald 2 490 := rfl
set_option maxRecDepth 20000 in
theorem kL_490 {xs : Nat → Int32} {L : Nat} : lk (clL xs L) 490 = o_inv 10 158 0 493 := rfl
set_option maxRecDepth 20000 in
theorem kL_493 {xs : Nat → Int32} {L : Nat} : lk (clL xs L) 493 = o_iceq 1195 496 := rfl
set_option maxRecDepth 20000 in
theorem kL_496 {xs : Nat → Int32} {L : Nat} : lk (clL xs L) 496 = o_push (vi 0) 497 := rfl
set_option maxRecDepth 20000 in
theorem kL_497 {xs : Nat → Int32} {L : Nat} : lk (clL xs L) 497 = o_end := rfl
set_option maxRecDepth 20000 in
theorem kL_498 {xs : Nat → Int32} {L : Nat} : lk (clL xs L) 498 = o_ald 1 499 := rfl
set_option maxRecDepth 20000 in
theorem kL_499 {xs : Nat → Int32} {L : Nat} : lk (clL xs L) 499 = o_inv 9 101 0 502 := rfl
set_option maxRecDepth 20000 in
theorem kL_502 {xs : Nat → Int32} {L : Nat} : lk (clL xs L) 502 = o_ald 2 503 := rfl
set_option maxRecDepth 20000 in
theorem kL_503 {xs : Nat → Int32} {L : Nat} : lk (clL xs L) 503 = o_inv 10 159 0 506 := rfl
set_option maxRecDepth 20000 in
theorem kL_506 {xs : Nat → Int32} {L : Nat} : lk (clL xs L) 506 = o_iceq 1195 509 := rfl
set_option maxRecDepth 20000 in
theorem kL_509 {xs : Nat → Int32} {L : Nat} : lk (clL xs L) 509 = o_push (vi 0) 510 := rfl
set_option maxRecDepth 20000 in
theorem kL_510 {xs : Nat → Int32} {L : Nat} : lk (clL xs L) 510 = o_end := rfl
set_option maxRecDepth 20000 in
theorem kL_511 {xs : Nat → Int32} {L : Nat} : lk (clL xs L) 511 = o_ald 1 512 := rfl
set_option maxRecDepth 20000 in
theorem kL_512 {xs : Nat → Int32} {L : Nat} : lk (clL xs L) 512 = o_inv 9 102 0 515 := rfl
set_option maxRecDepth 20000 in
theorem kL_515 {xs : Nat → Int32} {L : Nat} : lk (clL xs L) 515 = o_ald 2 516 := rfl
set_option maxRecDepth 20000 in
theorem kL_516 {xs : Nat → Int32} {L : Nat} : lk (clL xs L) 516 = o_inv 10 160 0 519 := rfl
set_option maxRecDepth 20000 in
theorem kL_519 {xs : Nat → Int32} {L : Nat} : lk (clL xs L) 519 = o_iceq 1195 522 := rfl
set_option maxRecDepth 20000 in
theorem kL_522 {xs : Nat → Int32} {L : Nat} : lk (clL xs L) 522 = o_push (vi 0) 523 := rfl
set_option maxRecDepth 20000 in
theorem kL_523 {xs : Nat → Int32} {L : Nat} : lk (clL xs L) 523 = o_end := rfl
set_option maxRecDepth 20000 in
theorem kL_524 {xs : Nat → Int32} {L : Nat} : lk (clL xs L) 524 = o_ald 1 525 := rfl
set_option maxRecDepth 20000 in
theorem kL_525 {xs : Nat → Int32} {L : Nat} : lk (clL xs L) 525 = o_ald 0 526 := rfl
set_option maxRecDepth 20000 in
theorem kL_526 {xs : Nat → Int32} {L : Nat} : lk (clL xs L) 526 = o_ild 3 527 := rfl
set_option maxRecDepth 20000 in
theorem kL_527 {xs : Nat → Int32} {L : Nat} : lk (clL xs L) 527 = o_push (vi 1) 528 := rfl
set_option maxRecDepth 20000 in
theorem kL_528 {xs : Nat → Int32} {L : Nat} : lk (clL xs L) 528 = o_iadd 529 := rfl
set_option maxRecDepth 20000 in
theorem kL_529 {xs : Nat → Int32} {L : Nat} : lk (clL xs L) 529 = o_sld xs L 530 := rfl
set_option maxRecDepth 20000 in
theorem kL_530 {xs : Nat → Int32} {L : Nat} : lk (clL xs L) 530 = o_inv 9 103 1 533 := rfl
set_option maxRecDepth 20000 in
theorem kL_533 {xs : Nat → Int32} {L : Nat} : lk (clL xs L) 533 = o_ald 2 534 := rfl
set_option maxRecDepth 20000 in
theorem kL_534 {xs : Nat → Int32} {L : Nat} : lk (clL xs L) 534 = o_ald 0 535 := rfl
set_option maxRecDepth 20000 in
theorem kL_535 {xs : Nat → Int32} {L : Nat} : lk (clL xs L) 535 = o_ild 3 536 := rfl
set_option maxRecDepth 20000 in
theorem kL_536 {xs : Nat → Int32} {L : Nat} : lk (clL xs L) 536 = o_push (vi 1) 537 := rfl
set_option maxRecDepth 20000 in
theorem kL_537 {xs : Nat → Int32} {L : Nat} : lk (clL xs L) 537 = o_iadd 538 := rfl
set_option maxRecDepth 20000 in
theorem kL_538 {xs : Nat → Int32} {L : Nat} : lk (clL xs L) 538 = o_sld xs L 539 := rfl
set_option maxRecDepth 20000 in
theorem kL_539 {xs : Nat → Int32} {L : Nat} : lk (clL xs L) 539 = o_inv 10 162 1 542 := rfl
set_option maxRecDepth 20000 in
theorem kL_542 {xs : Nat → Int32} {L : Nat} : lk (clL xs L) 542 = o_iceq 1195 545 := rfl
set_option maxRecDepth 20000 in
theorem kL_545 {xs : Nat → Int32} {L : Nat} : lk (clL xs L) 545 = o_push (vi 0) 546 := rfl
set_option maxRecDepth 20000 in
theorem kL_546 {xs : Nat → Int32} {L : Nat} : lk (clL xs L) 546 = o_end := rfl
set_option maxRecDepth 20000 in
theorem kL_547 {xs : Nat → Int32} {L : Nat} : lk (clL xs L) 547 = o_ald 1 548 := rfl
set_option maxRecDepth 20000 in
theorem kL_548 {xs : Nat → Int32} {L : Nat} : lk (clL xs L) 548 = o_ald 0 549 := rfl
set_option maxRecDepth 20000 in
theorem kL_549 {xs : Nat → Int32} {L : Nat} : lk (clL xs L) 549 = o_ild 3 550 := rfl
set_option maxRecDepth 20000 in
theorem kL_550 {xs : Nat → Int32} {L : Nat} : lk (clL xs L) 550 = o_push (vi 1) 551 := rfl
set_option maxRecDepth 20000 in
theorem kL_551 {xs : Nat → Int32} {L : Nat} : lk (clL xs L) 551 = o_iadd 552 := rfl
set_option maxRecDepth 20000 in
theorem kL_552 {xs : Nat → Int32} {L : Nat} : lk (clL xs L) 552 = o_sld xs L 553 := rfl
set_option maxRecDepth 20000 in
theorem kL_553 {xs : Nat → Int32} {L : Nat} : lk (clL xs L) 553 = o_ald 0 554 := rfl
set_option maxRecDepth 20000 in
theorem kL_554 {xs : Nat → Int32} {L : Nat} : lk (clL xs L) 554 = o_ild 3 555 := rfl
set_option maxRecDepth 20000 in
theorem kL_555 {xs : Nat → Int32} {L : Nat} : lk (clL xs L) 555 = o_push (vi 2) 556 := rfl
set_option maxRecDepth 20000 in
theorem kL_556 {xs : Nat → Int32} {L : Nat} : lk (clL xs L) 556 = o_iadd 557 := rfl
set_option maxRecDepth 20000 in
theorem kL_557 {xs : Nat → Int32} {L : Nat} : lk (clL xs L) 557 = o_sld xs L 558 := rfl
set_option maxRecDepth 20000 in
theorem kL_558 {xs : Nat → Int32} {L : Nat} : lk (clL xs L) 558 = o_inv 9 104 2 561 := rfl
set_option maxRecDepth 20000 in
theorem kL_561 {xs : Nat → Int32} {L : Nat} : lk (clL xs L) 561 = o_ald 2 562 := rfl
set_option maxRecDepth 20000 in
theorem kL_562 {xs : Nat → Int32} {L : Nat} : lk (clL xs L) 562 = o_ald 0 563 := rfl
set_option maxRecDepth 20000 in
theorem kL_563 {xs : Nat → Int32} {L : Nat} : lk (clL xs L) 563 = o_ild 3 564 := rfl
set_option maxRecDepth 20000 in
theorem kL_564 {xs : Nat → Int32} {L : Nat} : lk (clL xs L) 564 = o_push (vi 1) 565 := rfl
set_option maxRecDepth 20000 in
theorem kL_565 {xs : Nat → Int32} {L : Nat} : lk (clL xs L) 565 = o_iadd 566 := rfl
set_option maxRecDepth 20000 in
theorem kL_566 {xs : Nat → Int32} {L : Nat} : lk (clL xs L) 566 = o_sld xs L 567 := rfl
set_option maxRecDepth 20000 in
theorem kL_567 {xs : Nat → Int32} {L : Nat} : lk (clL xs L) 567 = o_ald 0 568 := rfl
set_option maxRecDepth 20000 in
theorem kL_568 {xs : Nat → Int32} {L : Nat} : lk (clL xs L) 568 = o_ild 3 569 := rfl
set_option maxRecDepth 20000 in
theorem kL_569 {xs : Nat → Int32} {L : Nat} : lk (clL xs L) 569 = o_push (vi 2) 570 := rfl
set_option maxRecDepth 20000 in
theorem kL_570 {xs : Nat → Int32} {L : Nat} : lk (clL xs L) 570 = o_iadd 571 := rfl
set_option maxRecDepth 20000 in
theorem kL_571 {xs : Nat → Int32} {L : Nat} : lk (clL xs L) 571 = o_sld xs L 572 := rfl
set_option maxRecDepth 20000 in
theorem kL_572 {xs : Nat → Int32} {L : Nat} : lk (clL xs L) 572 = o_inv 10 163 2 575 := rfl
set_option maxRecDepth 20000 in
theorem kL_575 {xs : Nat → Int32} {L : Nat} : lk (clL xs L) 575 = o_iceq 1195 578 := rfl
set_option maxRecDepth 20000 in
theorem kL_578 {xs : Nat → Int32} {L : Nat} : lk (clL xs L) 578 = o_push (vi 0) 579 := rfl
set_option maxRecDepth 20000 in
theorem kL_579 {xs : Nat → Int32} {L : Nat} : lk (clL xs L) 579 = o_end := rfl
set_option maxRecDepth 20000 in
theorem kL_580 {xs : Nat → Int32} {L : Nat} : lk (clL xs L) 580 = o_ald 1 581 := rfl
set_option maxRecDepth 20000 in
theorem kL_581 {xs : Nat → Int32} {L : Nat} : lk (clL xs L) 581 = o_ald 0 582 := rfl
set_option maxRecDepth 20000 in
theorem kL_582 {xs : Nat → Int32} {L : Nat} : lk (clL xs L) 582 = o_ild 3 583 := rfl
set_option maxRecDepth 20000 in
theorem kL_583 {xs : Nat → Int32} {L : Nat} : lk (clL xs L) 583 = o_push (vi 1) 584 := rfl
set_option maxRecDepth 20000 in
theorem kL_584 {xs : Nat → Int32} {L : Nat} : lk (clL xs L) 584 = o_iadd 585 := rfl
set_option maxRecDepth 20000 in
theorem kL_585 {xs : Nat → Int32} {L : Nat} : lk (clL xs L) 585 = o_sld xs L 586 := rfl
set_option maxRecDepth 20000 in
theorem kL_586 {xs : Nat → Int32} {L : Nat} : lk (clL xs L) 586 = o_ald 0 587 := rfl
set_option maxRecDepth 20000 in
theorem kL_587 {xs : Nat → Int32} {L : Nat} : lk (clL xs L) 587 = o_ild 3 588 := rfl
set_option maxRecDepth 20000 in
theorem kL_588 {xs : Nat → Int32} {L : Nat} : lk (clL xs L) 588 = o_push (vi 2) 589 := rfl
set_option maxRecDepth 20000 in
theorem kL_589 {xs : Nat → Int32} {L : Nat} : lk (clL xs L) 589 = o_iadd 590 := rfl
set_option maxRecDepth 20000 in
theorem kL_590 {xs : Nat → Int32} {L : Nat} : lk (clL xs L) 590 = o_sld xs L 591 := rfl
set_option maxRecDepth 20000 in
theorem kL_591 {xs : Nat → Int32} {L : Nat} : lk (clL xs L) 591 = o_inv 9 105 2 594 := rfl
set_option maxRecDepth 20000 in
theorem kL_594 {xs : Nat → Int32} {L : Nat} : lk (clL xs L) 594 = o_ald 2 595 := rfl
set_option maxRecDepth 20000 in
theorem kL_595 {xs : Nat → Int32} {L : Nat} : lk (clL xs L) 595 = o_ald 0 596 := rfl
set_option maxRecDepth 20000 in
theorem kL_596 {xs : Nat → Int32} {L : Nat} : lk (clL xs L) 596 = o_ild 3 597 := rfl
set_option maxRecDepth 20000 in
theorem kL_597 {xs : Nat → Int32} {L : Nat} : lk (clL xs L) 597 = o_push (vi 1) 598 := rfl
set_option maxRecDepth 20000 in
theorem kL_598 {xs : Nat → Int32} {L : Nat} : lk (clL xs L) 598 = o_iadd 599 := rfl
set_option maxRecDepth 20000 in
theorem kL_599 {xs : Nat → Int32} {L : Nat} : lk (clL xs L) 599 = o_sld xs L 600 := rfl
set_option maxRecDepth 20000 in
theorem kL_600 {xs : Nat → Int32} {L : Nat} : lk (clL xs L) 600 = o_ald 0 601 := rfl
set_option maxRecDepth 20000 in
theorem kL_601 {xs : Nat → Int32} {L : Nat} : lk (clL xs L) 601 = o_ild 3 602 := rfl
set_option maxRecDepth 20000 in
theorem kL_602 {xs : Nat → Int32} {L : Nat} : lk (clL xs L) 602 = o_push (vi 2) 603 := rfl
set_option maxRecDepth 20000 in
theorem kL_603 {xs : Nat → Int32} {L : Nat} : lk (clL xs L) 603 = o_iadd 604 := rfl
set_option maxRecDepth 20000 in
theorem kL_604 {xs : Nat → Int32} {L : Nat} : lk (clL xs L) 604 = o_sld xs L 605 := rfl
set_option maxRecDepth 20000 in
theorem kL_605 {xs : Nat → Int32} {L : Nat} : lk (clL xs L) 605 = o_inv 10 164 2 608 := rfl
set_option maxRecDepth 20000 in
theorem kL_608 {xs : Nat → Int32} {L : Nat} : lk (clL xs L) 608 = o_iceq 1195 611 := rfl
set_option maxRecDepth 20000 in
theorem kL_611 {xs : Nat → Int32} {L : Nat} : lk (clL xs L) 611 = o_push (vi 0) 612 := rfl
set_option maxRecDepth 20000 in
theorem kL_612 {xs : Nat → Int32} {L : Nat} : lk (clL xs L) 612 = o_end := rfl
set_option maxRecDepth 20000 in
theorem kL_613 {xs : Nat → Int32} {L : Nat} : lk (clL xs L) 613 = o_ald 1 614 := rfl
set_option maxRecDepth 20000 in
theorem kL_614 {xs : Nat → Int32} {L : Nat} : lk (clL xs L) 614 = o_ald 0 615 := rfl
set_option maxRecDepth 20000 in
theorem kL_615 {xs : Nat → Int32} {L : Nat} : lk (clL xs L) 615 = o_ild 3 616 := rfl
set_option maxRecDepth 20000 in
theorem kL_616 {xs : Nat → Int32} {L : Nat} : lk (clL xs L) 616 = o_push (vi 1) 617 := rfl
set_option maxRecDepth 20000 in
theorem kL_617 {xs : Nat → Int32} {L : Nat} : lk (clL xs L) 617 = o_iadd 618 := rfl
set_option maxRecDepth 20000 in
theorem kL_618 {xs : Nat → Int32} {L : Nat} : lk (clL xs L) 618 = o_sld xs L 619 := rfl
set_option maxRecDepth 20000 in
theorem kL_619 {xs : Nat → Int32} {L : Nat} : lk (clL xs L) 619 = o_inv 9 106 1 622 := rfl
set_option maxRecDepth 20000 in
theorem kL_622 {xs : Nat → Int32} {L : Nat} : lk (clL xs L) 622 = o_ald 2 623 := rfl
set_option maxRecDepth 20000 in
theorem kL_623 {xs : Nat → Int32} {L : Nat} : lk (clL xs L) 623 = o_ald 0 624 := rfl
set_option maxRecDepth 20000 in
theorem kL_624 {xs : Nat → Int32} {L : Nat} : lk (clL xs L) 624 = o_ild 3 625 := rfl
set_option maxRecDepth 20000 in
theorem kL_625 {xs : Nat → Int32} {L : Nat} : lk (clL xs L) 625 = o_push (vi 1) 626 := rfl
set_option maxRecDepth 20000 in
theorem kL_626 {xs : Nat → Int32} {L : Nat} : lk (clL xs L) 626 = o_iadd 627 := rfl
set_option maxRecDepth 20000 in
theorem kL_627 {xs : Nat → Int32} {L : Nat} : lk (clL xs L) 627 = o_sld xs L 628 := rfl
set_option maxRecDepth 20000 in
theorem kL_628 {xs : Nat → Int32} {L : Nat} : lk (clL xs L) 628 = o_inv 10 173 1 631 := rfl
set_option maxRecDepth 20000 in
theorem kL_631 {xs : Nat → Int32} {L : Nat} : lk (clL xs L) 631 = o_iceq 1195 634 := rfl
set_option maxRecDepth 20000 in
theorem kL_634 {xs : Nat → Int32} {L : Nat} : lk (clL xs L) 634 = o_push (vi 0) 635 := rfl
set_option maxRecDepth 20000 in
theorem kL_635 {xs : Nat → Int32} {L : Nat} : lk (clL xs L) 635 = o_end := rfl
set_option maxRecDepth 20000 in
theorem kL_636 {xs : Nat → Int32} {L : Nat} : lk (clL xs L) 636 = o_ald 1 637 := rfl
set_option maxRecDepth 20000 in
theorem kL_637 {xs : Nat → Int32} {L : Nat} : lk (clL xs L) 637 = o_ald 0 638 := rfl
set_option maxRecDepth 20000 in
theorem kL_638 {xs : Nat → Int32} {L : Nat} : lk (clL xs L) 638 = o_ild 3 639 := rfl
set_option maxRecDepth 20000 in
theorem kL_639 {xs : Nat → Int32} {L : Nat} : lk (clL xs L) 639 = o_push (vi 1) 640 := rfl
set_option maxRecDepth 20000 in
theorem kL_640 {xs : Nat → Int32} {L : Nat} : lk (clL xs L) 640 = o_iadd 641 := rfl
set_option maxRecDepth 20000 in
theorem kL_641 {xs : Nat → Int32} {L : Nat} : lk (clL xs L) 641 = o_sld xs L 642 := rfl
set_option maxRecDepth 20000 in
theorem kL_642 {xs : Nat → Int32} {L : Nat} : lk (clL xs L) 642 = o_ald 0 643 := rfl
set_option maxRecDepth 20000 in
theorem kL_643 {xs : Nat → Int32} {L : Nat} : lk (clL xs L) 643 = o_ild 3 644 := rfl
set_option maxRecDepth 20000 in
theorem kL_644 {xs : Nat → Int32} {L : Nat} : lk (clL xs L) 644 = o_push (vi 2) 645 := rfl
set_option maxRecDepth 20000 in
theorem kL_645 {xs : Nat → Int32} {L : Nat} : lk (clL xs L) 645 = o_iadd 646 := rfl
set_option maxRecDepth 20000 in
theorem kL_646 {xs : Nat → Int32} {L : Nat} : lk (clL xs L) 646 = o_sld xs L 647 := rfl
set_option maxRecDepth 20000 in
theorem kL_647 {xs : Nat → Int32} {L : Nat} : lk (clL xs L) 647 = o_inv 9 107 2 650 := rfl
set_option maxRecDepth 20000 in
theorem kL_650 {xs : Nat → Int32} {L : Nat} : lk (clL xs L) 650 = o_ald 2 651 := rfl
set_option maxRecDepth 20000 in
theorem kL_651 {xs : Nat → Int32} {L : Nat} : lk (clL xs L) 651 = o_ald 0 652 := rfl
set_option maxRecDepth 20000 in
theorem kL_652 {xs : Nat → Int32} {L : Nat} : lk (clL xs L) 652 = o_ild 3 653 := rfl
set_option maxRecDepth 20000 in
theorem kL_653 {xs : Nat → Int32} {L : Nat} : lk (clL xs L) 653 = o_push (vi 1) 654 := rfl
set_option maxRecDepth 20000 in
theorem kL_654 {xs : Nat → Int32} {L : Nat} : lk (clL xs L) 654 = o_iadd 655 := rfl
set_option maxRecDepth 20000 in
theorem kL_655 {xs : Nat → Int32} {L : Nat} : lk (clL xs L) 655 = o_sld xs L 656 := rfl
set_option maxRecDepth 20000 in
theorem kL_656 {xs : Nat → Int32} {L : Nat} : lk (clL xs L) 656 = o_ald 0 657 := rfl
set_option maxRecDepth 20000 in
theorem kL_657 {xs : Nat → Int32} {L : Nat} : lk (clL xs L) 657 = o_ild 3 658 := rfl
set_option maxRecDepth 20000 in
theorem kL_658 {xs : Nat → Int32} {L : Nat} : lk (clL xs L) 658 = o_push (vi 2) 659 := rfl
set_option maxRecDepth 20000 in
theorem kL_659 {xs : Nat → Int32} {L : Nat} : lk (clL xs L) 659 = o_iadd 660 := rfl
set_option maxRecDepth 20000 in
theorem kL_660 {xs : Nat → Int32} {L : Nat} : lk (clL xs L) 660 = o_sld xs L 661 := rfl
set_option maxRecDepth 20000 in
theorem kL_661 {xs : Nat → Int32} {L : Nat} : lk (clL xs L) 661 = o_inv 10 174 2 664 := rfl
set_option maxRecDepth 20000 in
theorem kL_664 {xs : Nat → Int32} {L : Nat} : lk (clL xs L) 664 = o_iceq 1195 667 := rfl
set_option maxRecDepth 20000 in
theorem kL_667 {xs : Nat → Int32} {L : Nat} : lk (clL xs L) 667 = o_push (vi 0) 668 := rfl
set_option maxRecDepth 20000 in
theorem kL_668 {xs : Nat → Int32} {L : Nat} : lk (clL xs L) 668 = o_end := rfl
set_option maxRecDepth 20000 in
theorem kL_669 {xs : Nat → Int32} {L : Nat} : lk (clL xs L) 669 = o_ald 1 670 := rfl
set_option maxRecDepth 20000 in
theorem kL_670 {xs : Nat → Int32} {L : Nat} : lk (clL xs L) 670 = o_ald 0 671 := rfl
set_option maxRecDepth 20000 in
theorem kL_671 {xs : Nat → Int32} {L : Nat} : lk (clL xs L) 671 = o_ild 3 672 := rfl
set_option maxRecDepth 20000 in
theorem kL_672 {xs : Nat → Int32} {L : Nat} : lk (clL xs L) 672 = o_push (vi 1) 673 := rfl
set_option maxRecDepth 20000 in
theorem kL_673 {xs : Nat → Int32} {L : Nat} : lk (clL xs L) 673 = o_iadd 674 := rfl
set_option maxRecDepth 20000 in
theorem kL_674 {xs : Nat → Int32} {L : Nat} : lk (clL xs L) 674 = o_sld xs L 675 := rfl
set_option maxRecDepth 20000 in
theorem kL_675 {xs : Nat → Int32} {L : Nat} : lk (clL xs L) 675 = o_inv 9 108 1 678 := rfl
set_option maxRecDepth 20000 in
theorem kL_678 {xs : Nat → Int32} {L : Nat} : lk (clL xs L) 678 = o_ald 2 679 := rfl
set_option maxRecDepth 20000 in
theorem kL_679 {xs : Nat → Int32} {L : Nat} : lk (clL xs L) 679 = o_ald 0 680 := rfl
set_option maxRecDepth 20000 in
theorem kL_680 {xs : Nat → Int32} {L : Nat} : lk (clL xs L) 680 = o_ild 3 681 := rfl
set_option maxRecDepth 20000 in
theorem kL_681 {xs : Nat → Int32} {L : Nat} : lk (clL xs L) 681 = o_push (vi 1) 682 := rfl
set_option maxRecDepth 20000 in
theorem kL_682 {xs : Nat → Int32} {L : Nat} : lk (clL xs L) 682 = o_iadd 683 := rfl
set_option maxRecDepth 20000 in
theorem kL_683 {xs : Nat → Int32} {L : Nat} : lk (clL xs L) 683 = o_sld xs L 684 := rfl
set_option maxRecDepth 20000 in
theorem kL_684 {xs : Nat → Int32} {L : Nat} : lk (clL xs L) 684 = o_inv 10 181 1 687 := rfl
set_option maxRecDepth 20000 in
theorem kL_687 {xs : Nat → Int32} {L : Nat} : lk (clL xs L) 687 = o_iceq 1195 690 := rfl
set_option maxRecDepth 20000 in
theorem kL_690 {xs : Nat → Int32} {L : Nat} : lk (clL xs L) 690 = o_push (vi 0) 691 := rfl
set_option maxRecDepth 20000 in
theorem kL_691 {xs : Nat → Int32} {L : Nat} : lk (clL xs L) 691 = o_end := rfl
set_option maxRecDepth 20000 in
theorem kL_692 {xs : Nat → Int32} {L : Nat} : lk (clL xs L) 692 = o_ald 1 693 := rfl
set_option maxRecDepth 20000 in
theorem kL_693 {xs : Nat → Int32} {L : Nat} : lk (clL xs L) 693 = o_ald 0 694 := rfl
set_option maxRecDepth 20000 in
theorem kL_694 {xs : Nat → Int32} {L : Nat} : lk (clL xs L) 694 = o_ild 3 695 := rfl
set_option maxRecDepth 20000 in
theorem kL_695 {xs : Nat → Int32} {L : Nat} : lk (clL xs L) 695 = o_push (vi 1) 696 := rfl
set_option maxRecDepth 20000 in
theorem kL_696 {xs : Nat → Int32} {L : Nat} : lk (clL xs L) 696 = o_iadd 697 := rfl
set_option maxRecDepth 20000 in
theorem kL_697 {xs : Nat → Int32} {L : Nat} : lk (clL xs L) 697 = o_sld xs L 698 := rfl
set_option maxRecDepth 20000 in
theorem kL_698 {xs : Nat → Int32} {L : Nat} : lk (clL xs L) 698 = o_inv 9 109 1 701 := rfl
set_option maxRecDepth 20000 in
theorem kL_701 {xs : Nat → Int32} {L : Nat} : lk (clL xs L) 701 = o_ald 2 702 := rfl
set_option maxRecDepth 20000 in
theorem kL_702 {xs : Nat → Int32} {L : Nat} : lk (clL xs L) 702 = o_ald 0 703 := rfl
set_option maxRecDepth 20000 in
theorem kL_703 {xs : Nat → Int32} {L : Nat} : lk (clL xs L) 703 = o_ild 3 704 := rfl
set_option maxRecDepth 20000 in
theorem kL_704 {xs : Nat → Int32} {L : Nat} : lk (clL xs L) 704 = o_push (vi 1) 705 := rfl
set_option maxRecDepth 20000 in
theorem kL_705 {xs : Nat → Int32} {L : Nat} : lk (clL xs L) 705 = o_iadd 706 := rfl
set_option maxRecDepth 20000 in
theorem kL_706 {xs : Nat → Int32} {L : Nat} : lk (clL xs L) 706 = o_sld xs L 707 := rfl
set_option maxRecDepth 20000 in
theorem kL_707 {xs : Nat → Int32} {L : Nat} : lk (clL xs L) 707 = o_inv 10 182 1 710 := rfl
set_option maxRecDepth 20000 in
theorem kL_710 {xs : Nat → Int32} {L : Nat} : lk (clL xs L) 710 = o_iceq 1195 713 := rfl
set_option maxRecDepth 20000 in
theorem kL_713 {xs : Nat → Int32} {L : Nat} : lk (clL xs L) 713 = o_push (vi 0) 714 := rfl
set_option maxRecDepth 20000 in
theorem kL_714 {xs : Nat → Int32} {L : Nat} : lk (clL xs L) 714 = o_end := rfl
set_option maxRecDepth 20000 in
theorem kL_715 {xs : Nat → Int32} {L : Nat} : lk (clL xs L) 715 = o_ald 1 716 := rfl
set_option maxRecDepth 20000 in
theorem kL_716 {xs : Nat → Int32} {L : Nat} : lk (clL xs L) 716 = o_ald 0 717 := rfl
set_option maxRecDepth 20000 in
theorem kL_717 {xs : Nat → Int32} {L : Nat} : lk (clL xs L) 717 = o_ild 3 718 := rfl
set_option maxRecDepth 20000 in
theorem kL_718 {xs : Nat → Int32} {L : Nat} : lk (clL xs L) 718 = o_push (vi 1) 719 := rfl
set_option maxRecDepth 20000 in
theorem kL_719 {xs : Nat → Int32} {L : Nat} : lk (clL xs L) 719 = o_iadd 720 := rfl
set_option maxRecDepth 20000 in
theorem kL_720 {xs : Nat → Int32} {L : Nat} : lk (clL xs L) 720 = o_sld xs L 721 := rfl
set_option maxRecDepth 20000 in
theorem kL_721 {xs : Nat → Int32} {L : Nat} : lk (clL xs L) 721 = o_inv 9 110 1 724 := rfl
set_option maxRecDepth 20000 in
theorem kL_724 {xs : Nat → Int32} {L : Nat} : lk (clL xs L) 724 = o_ald 2 725 := rfl
set_option maxRecDepth 20000 in
theorem kL_725 {xs : Nat → Int32} {L : Nat} : lk (clL xs L) 725 = o_ald 0 726 := rfl
set_option maxRecDepth 20000 in
theorem kL_726 {xs : Nat → Int32} {L : Nat} : lk (clL xs L) 726 = o_ild 3 727 := rfl
set_option maxRecDepth 20000 in
theorem kL_727 {xs : Nat → Int32} {L : Nat} : lk (clL xs L) 727 = o_push (vi 1) 728 := rfl
set_option maxRecDepth 20000 in
theorem kL_728 {xs : Nat → Int32} {L : Nat} : lk (clL xs L) 728 = o_iadd 729 := rfl
set_option maxRecDepth 20000 in
theorem kL_729 {xs : Nat → Int32} {L : Nat} : lk (clL xs L) 729 = o_sld xs L 730 := rfl
set_option maxRecDepth 20000 in
theorem kL_730 {xs : Nat → Int32} {L : Nat} : lk (clL xs L) 730 = o_inv 10 184 1 733 := rfl
set_option maxRecDepth 20000 in
theorem kL_733 {xs : Nat → Int32} {L : Nat} : lk (clL xs L) 733 = o_iceq 1195 736 := rfl
set_option maxRecDepth 20000 in
theorem kL_736 {xs : Nat → Int32} {L : Nat} : lk (clL xs L) 736 = o_push (vi 0) 737 := rfl
set_option maxRecDepth 20000 in
theorem kL_737 {xs : Nat → Int32} {L : Nat} : lk (clL xs L) 737 = o_end := rfl
set_option maxRecDepth 20000 in
theorem kL_738 {xs : Nat → Int32} {L : Nat} : lk (clL xs L) 738 = o_ald 1 739 := rfl
set_option maxRecDepth 20000 in
theorem kL_739 {xs : Nat → Int32} {L : Nat} : lk (clL xs L) 739 = o_ald 0 740 := rfl
set_option maxRecDepth 20000 in
theorem kL_740 {xs : Nat → Int32} {L : Nat} : lk (clL xs L) 740 = o_ild 3 741 := rfl
set_option maxRecDepth 20000 in
theorem kL_741 {xs : Nat → Int32} {L : Nat} : lk (clL xs L) 741 = o_push (vi 1) 742 := rfl
set_option maxRecDepth 20000 in
theorem kL_742 {xs : Nat → Int32} {L : Nat} : lk (clL xs L) 742 = o_iadd 743 := rfl
set_option maxRecDepth 20000 in
theorem kL_743 {xs : Nat → Int32} {L : Nat} : lk (clL xs L) 743 = o_sld xs L 744 := rfl
set_option maxRecDepth 20000 in
theorem kL_744 {xs : Nat → Int32} {L : Nat} : lk (clL xs L) 744 = o_inv 9 111 1 747 := rfl
set_option maxRecDepth 20000 in
theorem kL_747 {xs : Nat → Int32} {L : Nat} : lk (clL xs L) 747 = o_ald 2 748 := rfl
set_option maxRecDepth 20000 in
theorem kL_748 {xs : Nat → Int32} {L : Nat} : lk (clL xs L) 748 = o_ald 0 749 := rfl
set_option maxRecDepth 20000 in
theorem kL_749 {xs : Nat → Int32} {L : Nat} : lk (clL xs L) 749 = o_ild 3 750 := rfl
set_option maxRecDepth 20000 in
theorem kL_750 {xs : Nat → Int32} {L : Nat} : lk (clL xs L) 750 = o_push (vi 1) 751 := rfl
set_option maxRecDepth 20000 in
theorem kL_751 {xs : Nat → Int32} {L : Nat} : lk (clL xs L) 751 = o_iadd 752 := rfl
set_option maxRecDepth 20000 in
theorem kL_752 {xs : Nat → Int32} {L : Nat} : lk (clL xs L) 752 = o_sld xs L 753 := rfl
set_option maxRecDepth 20000 in
theorem kL_753 {xs : Nat → Int32} {L : Nat} : lk (clL xs L) 753 = o_inv 10 185 1 756 := rfl
set_option maxRecDepth 20000 in
theorem kL_756 {xs : Nat → Int32} {L : Nat} : lk (clL xs L) 756 = o_iceq 1195 759 := rfl
set_option maxRecDepth 20000 in
theorem kL_759 {xs : Nat → Int32} {L : Nat} : lk (clL xs L) 759 = o_push (vi 0) 760 := rfl
set_option maxRecDepth 20000 in
theorem kL_760 {xs : Nat → Int32} {L : Nat} : lk (clL xs L) 760 = o_end := rfl
set_option maxRecDepth 20000 in
theorem kL_761 {xs : Nat → Int32} {L : Nat} : lk (clL xs L) 761 = o_ald 1 762 := rfl
set_option maxRecDepth 20000 in
theorem kL_762 {xs : Nat → Int32} {L : Nat} : lk (clL xs L) 762 = o_ald 0 763 := rfl
set_option maxRecDepth 20000 in
theorem kL_763 {xs : Nat → Int32} {L : Nat} : lk (clL xs L) 763 = o_ild 3 764 := rfl
set_option maxRecDepth 20000 in
theorem kL_764 {xs : Nat → Int32} {L : Nat} : lk (clL xs L) 764 = o_push (vi 1) 765 := rfl
set_option maxRecDepth 20000 in
theorem kL_765 {xs : Nat → Int32} {L : Nat} : lk (clL xs L) 765 = o_iadd 766 := rfl
set_option maxRecDepth 20000 in
theorem kL_766 {xs : Nat → Int32} {L : Nat} : lk (clL xs L) 766 = o_sld xs L 767 := rfl
set_option maxRecDepth 20000 in
theorem kL_767 {xs : Nat → Int32} {L : Nat} : lk (clL xs L) 767 = o_inv 9 112 1 770 := rfl
set_option maxRecDepth 20000 in
theorem kL_770 {xs : Nat → Int32} {L : Nat} : lk (clL xs L) 770 = o_ald 2 771 := rfl
set_option maxRecDepth 20000 in
theorem kL_771 {xs : Nat → Int32} {L : Nat} : lk (clL xs L) 771 = o_ald 0 772 := rfl
set_option maxRecDepth 20000 in
theorem kL_772 {xs : Nat → Int32} {L : Nat} : lk (clL xs L) 772 = o_ild 3 773 := rfl
set_option maxRecDepth 20000 in
theorem kL_773 {xs : Nat → Int32} {L : Nat} : lk (clL xs L) 773 = o_push (vi 1) 774 := rfl
set_option maxRecDepth 20000 in
theorem kL_774 {xs : Nat → Int32} {L : Nat} : lk (clL xs L) 774 = o_iadd 775 := rfl
set_option maxRecDepth 20000 in
theorem kL_775 {xs : Nat → Int32} {L : Nat} : lk (clL xs L) 775 = o_sld xs L 776 := rfl
set_option maxRecDepth 20000 in
theorem kL_776 {xs : Nat → Int32} {L : Nat} : lk (clL xs L) 776 = o_inv 10 186 1 779 := rfl
set_option maxRecDepth 20000 in
theorem kL_779 {xs : Nat → Int32} {L : Nat} : lk (clL xs L) 779 = o_iceq 1195 782 := rfl
set_option maxRecDepth 20000 in
theorem kL_782 {xs : Nat → Int32} {L : Nat} : lk (clL xs L) 782 = o_push (vi 0) 783 := rfl
set_option maxRecDepth 20000 in
theorem kL_783 {xs : Nat → Int32} {L : Nat} : lk (clL xs L) 783 = o_end := rfl
set_option maxRecDepth 20000 in
theorem kL_784 {xs : Nat → Int32} {L : Nat} : lk (clL xs L) 784 = o_ald 1 785 := rfl
set_option maxRecDepth 20000 in
theorem kL_785 {xs : Nat → Int32} {L : Nat} : lk (clL xs L) 785 = o_ald 0 786 := rfl
set_option maxRecDepth 20000 in
theorem kL_786 {xs : Nat → Int32} {L : Nat} : lk (clL xs L) 786 = o_ild 3 787 := rfl
set_option maxRecDepth 20000 in
theorem kL_787 {xs : Nat → Int32} {L : Nat} : lk (clL xs L) 787 = o_push (vi 1) 788 := rfl
set_option maxRecDepth 20000 in
theorem kL_788 {xs : Nat → Int32} {L : Nat} : lk (clL xs L) 788 = o_iadd 789 := rfl
set_option maxRecDepth 20000 in
theorem kL_789 {xs : Nat → Int32} {L : Nat} : lk (clL xs L) 789 = o_sld xs L 790 := rfl
set_option maxRecDepth 20000 in
theorem kL_790 {xs : Nat → Int32} {L : Nat} : lk (clL xs L) 790 = o_ald 0 791 := rfl
set_option maxRecDepth 20000 in
theorem kL_791 {xs : Nat → Int32} {L : Nat} : lk (clL xs L) 791 = o_ild 3 792 := rfl
set_option maxRecDepth 20000 in
theorem kL_792 {xs : Nat → Int32} {L : Nat} : lk (clL xs L) 792 = o_push (vi 2) 793 := rfl
set_option maxRecDepth 20000 in
theorem kL_793 {xs : Nat → Int32} {L : Nat} : lk (clL xs L) 793 = o_iadd 794 := rfl
set_option maxRecDepth 20000 in
theorem kL_794 {xs : Nat → Int32} {L : Nat} : lk (clL xs L) 794 = o_sld xs L 795 := rfl
set_option maxRecDepth 20000 in
theorem kL_795 {xs : Nat → Int32} {L : Nat} : lk (clL xs L) 795 = o_inv 9 113 2 798 := rfl
set_option maxRecDepth 20000 in
theorem kL_798 {xs : Nat → Int32} {L : Nat} : lk (clL xs L) 798 = o_ald 2 799 := rfl
set_option maxRecDepth 20000 in
theorem kL_799 {xs : Nat → Int32} {L : Nat} : lk (clL xs L) 799 = o_ald 0 800 := rfl
set_option maxRecDepth 20000 in
theorem kL_800 {xs : Nat → Int32} {L : Nat} : lk (clL xs L) 800 = o_ild 3 801 := rfl
set_option maxRecDepth 20000 in
theorem kL_801 {xs : Nat → Int32} {L : Nat} : lk (clL xs L) 801 = o_push (vi 1) 802 := rfl
set_option maxRecDepth 20000 in
theorem kL_802 {xs : Nat → Int32} {L : Nat} : lk (clL xs L) 802 = o_iadd 803 := rfl
set_option maxRecDepth 20000 in
theorem kL_803 {xs : Nat → Int32} {L : Nat} : lk (clL xs L) 803 = o_sld xs L 804 := rfl
set_option maxRecDepth 20000 in
theorem kL_804 {xs : Nat → Int32} {L : Nat} : lk (clL xs L) 804 = o_ald 0 805 := rfl
set_option maxRecDepth 20000 in
theorem kL_805 {xs : Nat → Int32} {L : Nat} : lk (clL xs L) 805 = o_ild 3 806 := rfl
set_option maxRecDepth 20000 in
theorem kL_806 {xs : Nat → Int32} {L : Nat} : lk (clL xs L) 806 = o_push (vi 2) 807 := rfl
set_option maxRecDepth 20000 in
theorem kL_807 {xs : Nat → Int32} {L : Nat} : lk (clL xs L) 807 = o_iadd 808 := rfl
set_option maxRecDepth 20000 in
theorem kL_808 {xs : Nat → Int32} {L : Nat} : lk (clL xs L) 808 = o_sld xs L 809 := rfl
set_option maxRecDepth 20000 in
theorem kL_809 {xs : Nat → Int32} {L : Nat} : lk (clL xs L) 809 = o_inv 10 192 2 812 := rfl
set_option maxRecDepth 20000 in
theorem kL_812 {xs : Nat → Int32} {L : Nat} : lk (clL xs L) 812 = o_iceq 1195 815 := rfl
set_option maxRecDepth 20000 in
theorem kL_815 {xs : Nat → Int32} {L : Nat} : lk (clL xs L) 815 = o_push (vi 0) 816 := rfl
set_option maxRecDepth 20000 in
theorem kL_816 {xs : Nat → Int32} {L : Nat} : lk (clL xs L) 816 = o_end := rfl
set_option maxRecDepth 20000 in
theorem kL_817 {xs : Nat → Int32} {L : Nat} : lk (clL xs L) 817 = o_ald 1 818 := rfl
set_option maxRecDepth 20000 in
theorem kL_818 {xs : Nat → Int32} {L : Nat} : lk (clL xs L) 818 = o_ald 0 819 := rfl
set_option maxRecDepth 20000 in
theorem kL_819 {xs : Nat → Int32} {L : Nat} : lk (clL xs L) 819 = o_ild 3 820 := rfl
set_option maxRecDepth 20000 in
theorem kL_820 {xs : Nat → Int32} {L : Nat} : lk (clL xs L) 820 = o_push (vi 1) 821 := rfl
set_option maxRecDepth 20000 in
theorem kL_821 {xs : Nat → Int32} {L : Nat} : lk (clL xs L) 821 = o_iadd 822 := rfl
set_option maxRecDepth 20000 in
theorem kL_822 {xs : Nat → Int32} {L : Nat} : lk (clL xs L) 822 = o_sld xs L 823 := rfl
set_option maxRecDepth 20000 in
theorem kL_823 {xs : Nat → Int32} {L : Nat} : lk (clL xs L) 823 = o_ald 0 824 := rfl
set_option maxRecDepth 20000 in
theorem kL_824 {xs : Nat → Int32} {L : Nat} : lk (clL xs L) 824 = o_ild 3 825 := rfl
set_option maxRecDepth 20000 in
theorem kL_825 {xs : Nat → Int32} {L : Nat} : lk (clL xs L) 825 = o_push (vi 2) 826 := rfl
set_option maxRecDepth 20000 in
theorem kL_826 {xs : Nat → Int32} {L : Nat} : lk (clL xs L) 826 = o_iadd 827 := rfl
set_option maxRecDepth 20000 in
theorem kL_827 {xs : Nat → Int32} {L : Nat} : lk (clL xs L) 827 = o_sld xs L 828 := rfl
set_option maxRecDepth 20000 in
theorem kL_828 {xs : Nat → Int32} {L : Nat} : lk (clL xs L) 828 = o_ald 0 829 := rfl
set_option maxRecDepth 20000 in
theorem kL_829 {xs : Nat → Int32} {L : Nat} : lk (clL xs L) 829 = o_ild 3 830 := rfl
set_option maxRecDepth 20000 in
theorem kL_830 {xs : Nat → Int32} {L : Nat} : lk (clL xs L) 830 = o_push (vi 3) 831 := rfl
set_option maxRecDepth 20000 in
theorem kL_831 {xs : Nat → Int32} {L : Nat} : lk (clL xs L) 831 = o_iadd 832 := rfl
set_option maxRecDepth 20000 in
theorem kL_832 {xs : Nat → Int32} {L : Nat} : lk (clL xs L) 832 = o_sld xs L 833 := rfl
set_option maxRecDepth 20000 in
theorem kL_833 {xs : Nat → Int32} {L : Nat} : lk (clL xs L) 833 = o_inv 9 114 3 836 := rfl
set_option maxRecDepth 20000 in
theorem kL_836 {xs : Nat → Int32} {L : Nat} : lk (clL xs L) 836 = o_ald 2 837 := rfl
set_option maxRecDepth 20000 in
theorem kL_837 {xs : Nat → Int32} {L : Nat} : lk (clL xs L) 837 = o_ald 0 838 := rfl
set_option maxRecDepth 20000 in
theorem kL_838 {xs : Nat → Int32} {L : Nat} : lk (clL xs L) 838 = o_ild 3 839 := rfl
set_option maxRecDepth 20000 in
theorem kL_839 {xs : Nat → Int32} {L : Nat} : lk (clL xs L) 839 = o_push (vi 1) 840 := rfl
set_option maxRecDepth 20000 in
theorem kL_840 {xs : Nat → Int32} {L : Nat} : lk (clL xs L) 840 = o_iadd 841 := rfl
set_option maxRecDepth 20000 in
theorem kL_841 {xs : Nat → Int32} {L : Nat} : lk (clL xs L) 841 = o_sld xs L 842 := rfl
set_option maxRecDepth 20000 in
theorem kL_842 {xs : Nat → Int32} {L : Nat} : lk (clL xs L) 842 = o_ald 0 843 := rfl
set_option maxRecDepth 20000 in
theorem kL_843 {xs : Nat → Int32} {L : Nat} : lk (clL xs L) 843 = o_ild 3 844 := rfl
set_option maxRecDepth 20000 in
theorem kL_844 {xs : Nat → Int32} {L : Nat} : lk (clL xs L) 844 = o_push (vi 2) 845 := rfl
set_option maxRecDepth 20000 in
theorem kL_845 {xs : Nat → Int32} {L : Nat} : lk (clL xs L) 845 = o_iadd 846 := rfl
set_option maxRecDepth 20000 in
theorem kL_846 {xs : Nat → Int32} {L : Nat} : lk (clL xs L) 846 = o_sld xs L 847 := rfl
set_option maxRecDepth 20000 in
theorem kL_847 {xs : Nat → Int32} {L : Nat} : lk (clL xs L) 847 = o_ald 0 848 := rfl
set_option maxRecDepth 20000 in
theorem kL_848 {xs : Nat → Int32} {L : Nat} : lk (clL xs L) 848 = o_ild 3 849 := rfl
set_option maxRecDepth 20000 in
theorem kL_849 {xs : Nat → Int32} {L : Nat} : lk (clL xs L) 849 = o_push (vi 3) 850 := rfl
set_option maxRecDepth 20000 in
theorem kL_850 {xs : Nat → Int32} {L : Nat} : lk (clL xs L) 850 = o_iadd 851 := rfl
set_option maxRecDepth 20000 in
theorem kL_851 {xs : Nat → Int32} {L : Nat} : lk (clL xs L) 851 = o_sld xs L 852 := rfl
set_option maxRecDepth 20000 in
theorem kL_852 {xs : Nat → Int32} {L : Nat} : lk (clL xs L) 852 = o_inv 10 193 3 855 := rfl
set_option maxRecDepth 20000 in
theorem kL_855 {xs : Nat → Int32} {L : Nat} : lk (clL xs L) 855 = o_iceq 1195 858 := rfl
set_option maxRecDepth 20000 in
theorem kL_858 {xs : Nat → Int32} {L : Nat} : lk (clL xs L) 858 = o_push (vi 0) 859 := rfl
set_option maxRecDepth 20000 in
theorem kL_859 {xs : Nat → Int32} {L : Nat} : lk (clL xs L) 859 = o_end := rfl
set_option maxRecDepth 20000 in
theorem kL_860 {xs : Nat → Int32} {L : Nat} : lk (clL xs L) 860 = o_ald 1 861 := rfl
set_option maxRecDepth 20000 in
theorem kL_861 {xs : Nat → Int32} {L : Nat} : lk (clL xs L) 861 = o_ald 0 862 := rfl
set_option maxRecDepth 20000 in
theorem kL_862 {xs : Nat → Int32} {L : Nat} : lk (clL xs L) 862 = o_ild 3 863 := rfl
set_option maxRecDepth 20000 in
theorem kL_863 {xs : Nat → Int32} {L : Nat} : lk (clL xs L) 863 = o_push (vi 1) 864 := rfl
set_option maxRecDepth 20000 in
theorem kL_864 {xs : Nat → Int32} {L : Nat} : lk (clL xs L) 864 = o_iadd 865 := rfl
set_option maxRecDepth 20000 in
theorem kL_865 {xs : Nat → Int32} {L : Nat} : lk (clL xs L) 865 = o_sld xs L 866 := rfl
set_option maxRecDepth 20000 in
theorem kL_866 {xs : Nat → Int32} {L : Nat} : lk (clL xs L) 866 = o_ald 0 867 := rfl
set_option maxRecDepth 20000 in
theorem kL_867 {xs : Nat → Int32} {L : Nat} : lk (clL xs L) 867 = o_ild 3 868 := rfl
set_option maxRecDepth 20000 in
theorem kL_868 {xs : Nat → Int32} {L : Nat} : lk (clL xs L) 868 = o_push (vi 2) 869 := rfl
set_option maxRecDepth 20000 in
theorem kL_869 {xs : Nat → Int32} {L : Nat} : lk (clL xs L) 869 = o_iadd 870 := rfl
set_option maxRecDepth 20000 in
theorem kL_870 {xs : Nat → Int32} {L : Nat} : lk (clL xs L) 870 = o_sld xs L 871 := rfl
set_option maxRecDepth 20000 in
theorem kL_871 {xs : Nat → Int32} {L : Nat} : lk (clL xs L) 871 = o_ald 0 872 := rfl
set_option maxRecDepth 20000 in
theorem kL_872 {xs : Nat → Int32} {L : Nat} : lk (clL xs L) 872 = o_ild 3 873 := rfl
set_option maxRecDepth 20000 in
theorem kL_873 {xs : Nat → Int32} {L : Nat} : lk (clL xs L) 873 = o_push (vi 3) 874 := rfl
set_option maxRecDepth 20000 in
theorem kL_874 {xs : Nat → Int32} {L : Nat} : lk (clL xs L) 874 = o_iadd 875 := rfl
set_option maxRecDepth 20000 in
theorem kL_875 {xs : Nat → Int32} {L : Nat} : lk (clL xs L) 875 = o_sld xs L 876 := rfl
set_option maxRecDepth 20000 in
theorem kL_876 {xs : Nat → Int32} {L : Nat} : lk (clL xs L) 876 = o_ald 0 877 := rfl
set_option maxRecDepth 20000 in
theorem kL_877 {xs : Nat → Int32} {L : Nat} : lk (clL xs L) 877 = o_ild 3 878 := rfl
set_option maxRecDepth 20000 in
theorem kL_878 {xs : Nat → Int32} {L : Nat} : lk (clL xs L) 878 = o_push (vi 4) 879 := rfl
set_option maxRecDepth 20000 in
theorem kL_879 {xs : Nat → Int32} {L : Nat} : lk (clL xs L) 879 = o_iadd 880 := rfl
set_option maxRecDepth 20000 in
theorem kL_880 {xs : Nat → Int32} {L : Nat} : lk (clL xs L) 880 = o_sld xs L 881 := rfl
set_option maxRecDepth 20000 in
theorem kL_881 {xs : Nat → Int32} {L : Nat} : lk (clL xs L) 881 = o_inv 9 115 4 884 := rfl
set_option maxRecDepth 20000 in
theorem kL_884 {xs : Nat → Int32} {L : Nat} : lk (clL xs L) 884 = o_ald 2 885 := rfl
set_option maxRecDepth 20000 in
theorem kL_885 {xs : Nat → Int32} {L : Nat} : lk (clL xs L) 885 = o_ald 0 886 := rfl
set_option maxRecDepth 20000 in
theorem kL_886 {xs : Nat → Int32} {L : Nat} : lk (clL xs L) 886 = o_ild 3 887 := rfl
set_option maxRecDepth 20000 in
theorem kL_887 {xs : Nat → Int32} {L : Nat} : lk (clL xs L) 887 = o_push (vi 1) 888 := rfl
set_option maxRecDepth 20000 in
theorem kL_888 {xs : Nat → Int32} {L : Nat} : lk (clL xs L) 888 = o_iadd 889 := rfl
set_option maxRecDepth 20000 in
theorem kL_889 {xs : Nat → Int32} {L : Nat} : lk (clL xs L) 889 = o_sld xs L 890 := rfl
set_option maxRecDepth 20000 in
theorem kL_890 {xs : Nat → Int32} {L : Nat} : lk (clL xs L) 890 = o_ald 0 891 := rfl
set_option maxRecDepth 20000 in
theorem kL_891 {xs : Nat → Int32} {L : Nat} : lk (clL xs L) 891 = o_ild 3 892 := rfl
set_option maxRecDepth 20000 in
theorem kL_892 {xs : Nat → Int32} {L : Nat} : lk (clL xs L) 892 = o_push (vi 2) 893 := rfl
set_option maxRecDepth 20000 in
theorem kL_893 {xs : Nat → Int32} {L : Nat} : lk (clL xs L) 893 = o_iadd 894 := rfl
set_option maxRecDepth 20000 in
theorem kL_894 {xs : Nat → Int32} {L : Nat} : lk (clL xs L) 894 = o_sld xs L 895 := rfl
set_option maxRecDepth 20000 in
theorem kL_895 {xs : Nat → Int32} {L : Nat} : lk (clL xs L) 895 = o_ald 0 896 := rfl
set_option maxRecDepth 20000 in
theorem kL_896 {xs : Nat → Int32} {L : Nat} : lk (clL xs L) 896 = o_ild 3 897 := rfl
set_option maxRecDepth 20000 in
theorem kL_897 {xs : Nat → Int32} {L : Nat} : lk (clL xs L) 897 = o_push (vi 3) 898 := rfl
set_option maxRecDepth 20000 in
theorem kL_898 {xs : Nat → Int32} {L : Nat} : lk (clL xs L) 898 = o_iadd 899 := rfl
set_option maxRecDepth 20000 in
theorem kL_899 {xs : Nat → Int32} {L : Nat} : lk (clL xs L) 899 = o_sld xs L 900 := rfl
set_option maxRecDepth 20000 in
theorem kL_900 {xs : Nat → Int32} {L : Nat} : lk (clL xs L) 900 = o_ald 0 901 := rfl
set_option maxRecDepth 20000 in
theorem kL_901 {xs : Nat → Int32} {L : Nat} : lk (clL xs L) 901 = o_ild 3 902 := rfl
set_option maxRecDepth 20000 in
theorem kL_902 {xs : Nat → Int32} {L : Nat} : lk (clL xs L) 902 = o_push (vi 4) 903 := rfl
set_option maxRecDepth 20000 in
theorem kL_903 {xs : Nat → Int32} {L : Nat} : lk (clL xs L) 903 = o_iadd 904 := rfl
set_option maxRecDepth 20000 in
theorem kL_904 {xs : Nat → Int32} {L : Nat} : lk (clL xs L) 904 = o_sld xs L 905 := rfl
set_option maxRecDepth 20000 in
theorem kL_905 {xs : Nat → Int32} {L : Nat} : lk (clL xs L) 905 = o_inv 10 194 4 908 := rfl
set_option maxRecDepth 20000 in
theorem kL_908 {xs : Nat → Int32} {L : Nat} : lk (clL xs L) 908 = o_iceq 1195 911 := rfl
set_option maxRecDepth 20000 in
theorem kL_911 {xs : Nat → Int32} {L : Nat} : lk (clL xs L) 911 = o_push (vi 0) 912 := rfl
set_option maxRecDepth 20000 in
theorem kL_912 {xs : Nat → Int32} {L : Nat} : lk (clL xs L) 912 = o_end := rfl
set_option maxRecDepth 20000 in
theorem kL_913 {xs : Nat → Int32} {L : Nat} : lk (clL xs L) 913 = o_ald 1 914 := rfl
set_option maxRecDepth 20000 in
theorem kL_914 {xs : Nat → Int32} {L : Nat} : lk (clL xs L) 914 = o_ald 0 915 := rfl
set_option maxRecDepth 20000 in
theorem kL_915 {xs : Nat → Int32} {L : Nat} : lk (clL xs L) 915 = o_ild 3 916 := rfl
set_option maxRecDepth 20000 in
theorem kL_916 {xs : Nat → Int32} {L : Nat} : lk (clL xs L) 916 = o_push (vi 1) 917 := rfl
set_option maxRecDepth 20000 in
theorem kL_917 {xs : Nat → Int32} {L : Nat} : lk (clL xs L) 917 = o_iadd 918 := rfl
set_option maxRecDepth 20000 in
theorem kL_918 {xs : Nat → Int32} {L : Nat} : lk (clL xs L) 918 = o_sld xs L 919 := rfl
set_option maxRecDepth 20000 in
theorem kL_919 {xs : Nat → Int32} {L : Nat} : lk (clL xs L) 919 = o_ald 0 920 := rfl
set_option maxRecDepth 20000 in
theorem kL_920 {xs : Nat → Int32} {L : Nat} : lk (clL xs L) 920 = o_ild 3 921 := rfl
set_option maxRecDepth 20000 in
theorem kL_921 {xs : Nat → Int32} {L : Nat} : lk (clL xs L) 921 = o_push (vi 2) 922 := rfl
set_option maxRecDepth 20000 in
theorem kL_922 {xs : Nat → Int32} {L : Nat} : lk (clL xs L) 922 = o_iadd 923 := rfl
set_option maxRecDepth 20000 in
theorem kL_923 {xs : Nat → Int32} {L : Nat} : lk (clL xs L) 923 = o_sld xs L 924 := rfl
set_option maxRecDepth 20000 in
theorem kL_924 {xs : Nat → Int32} {L : Nat} : lk (clL xs L) 924 = o_inv 9 116 2 927 := rfl
set_option maxRecDepth 20000 in
theorem kL_927 {xs : Nat → Int32} {L : Nat} : lk (clL xs L) 927 = o_ald 2 928 := rfl
set_option maxRecDepth 20000 in
theorem kL_928 {xs : Nat → Int32} {L : Nat} : lk (clL xs L) 928 = o_ald 0 929 := rfl
set_option maxRecDepth 20000 in
theorem kL_929 {xs : Nat → Int32} {L : Nat} : lk (clL xs L) 929 = o_ild 3 930 := rfl
set_option maxRecDepth 20000 in
theorem kL_930 {xs : Nat → Int32} {L : Nat} : lk (clL xs L) 930 = o_push (vi 1) 931 := rfl
set_option maxRecDepth 20000 in
theorem kL_931 {xs : Nat → Int32} {L : Nat} : lk (clL xs L) 931 = o_iadd 932 := rfl
set_option maxRecDepth 20000 in
theorem kL_932 {xs : Nat → Int32} {L : Nat} : lk (clL xs L) 932 = o_sld xs L 933 := rfl
set_option maxRecDepth 20000 in
theorem kL_933 {xs : Nat → Int32} {L : Nat} : lk (clL xs L) 933 = o_ald 0 934 := rfl
set_option maxRecDepth 20000 in
theorem kL_934 {xs : Nat → Int32} {L : Nat} : lk (clL xs L) 934 = o_ild 3 935 := rfl
set_option maxRecDepth 20000 in
theorem kL_935 {xs : Nat → Int32} {L : Nat} : lk (clL xs L) 935 = o_push (vi 2) 936 := rfl
set_option maxRecDepth 20000 in
theorem kL_936 {xs : Nat → Int32} {L : Nat} : lk (clL xs L) 936 = o_iadd 937 := rfl
set_option maxRecDepth 20000 in
theorem kL_937 {xs : Nat → Int32} {L : Nat} : lk (clL xs L) 937 = o_sld xs L 938 := rfl
set_option maxRecDepth 20000 in
theorem kL_938 {xs : Nat → Int32} {L : Nat} : lk (clL xs L) 938 = o_inv 10 197 2 941 := rfl
set_option maxRecDepth 20000 in
theorem kL_941 {xs : Nat → Int32} {L : Nat} : lk (clL xs L) 941 = o_iceq 1195 944 := rfl
set_option maxRecDepth 20000 in
theorem kL_944 {xs : Nat → Int32} {L : Nat} : lk (clL xs L) 944 = o_push (vi 0) 945 := rfl
set_option maxRecDepth 20000 in
theorem kL_945 {xs : Nat → Int32} {L : Nat} : lk (clL xs L) 945 = o_end := rfl
set_option maxRecDepth 20000 in
theorem kL_946 {xs : Nat → Int32} {L : Nat} : lk (clL xs L) 946 = o_ald 1 947 := rfl
set_option maxRecDepth 20000 in
theorem kL_947 {xs : Nat → Int32} {L : Nat} : lk (clL xs L) 947 = o_ald 0 948 := rfl
set_option maxRecDepth 20000 in
theorem kL_948 {xs : Nat → Int32} {L : Nat} : lk (clL xs L) 948 = o_ild 3 949 := rfl
set_option maxRecDepth 20000 in
theorem kL_949 {xs : Nat → Int32} {L : Nat} : lk (clL xs L) 949 = o_push (vi 1) 950 := rfl
set_option maxRecDepth 20000 in
theorem kL_950 {xs : Nat → Int32} {L : Nat} : lk (clL xs L) 950 = o_iadd 951 := rfl
set_option maxRecDepth 20000 in
theorem kL_951 {xs : Nat → Int32} {L : Nat} : lk (clL xs L) 951 = o_sld xs L 952 := rfl
set_option maxRecDepth 20000 in
theorem kL_952 {xs : Nat → Int32} {L : Nat} : lk (clL xs L) 952 = o_inv 9 117 1 955 := rfl
set_option maxRecDepth 20000 in
theorem kL_955 {xs : Nat → Int32} {L : Nat} : lk (clL xs L) 955 = o_ald 2 956 := rfl
set_option maxRecDepth 20000 in
theorem kL_956 {xs : Nat → Int32} {L : Nat} : lk (clL xs L) 956 = o_ald 0 957 := rfl
set_option maxRecDepth 20000 in
theorem kL_957 {xs : Nat → Int32} {L : Nat} : lk (clL xs L) 957 = o_ild 3 958 := rfl
set_option maxRecDepth 20000 in
theorem kL_958 {xs : Nat → Int32} {L : Nat} : lk (clL xs L) 958 = o_push (vi 1) 959 := rfl
set_option maxRecDepth 20000 in
theorem kL_959 {xs : Nat → Int32} {L : Nat} : lk (clL xs L) 959 = o_iadd 960 := rfl
set_option maxRecDepth 20000 in
theorem kL_960 {xs : Nat → Int32} {L : Nat} : lk (clL xs L) 960 = o_sld xs L 961 := rfl
set_option maxRecDepth 20000 in
theorem kL_961 {xs : Nat → Int32} {L : Nat} : lk (clL xs L) 961 = o_inv 10 198 1 964 := rfl
set_option maxRecDepth 20000 in
theorem kL_964 {xs : Nat → Int32} {L : Nat} : lk (clL xs L) 964 = o_iceq 1195 967 := rfl
set_option maxRecDepth 20000 in
theorem kL_967 {xs : Nat → Int32} {L : Nat} : lk (clL xs L) 967 = o_push (vi 0) 968 := rfl
set_option maxRecDepth 20000 in
theorem kL_968 {xs : Nat → Int32} {L : Nat} : lk (clL xs L) 968 = o_end := rfl
set_option maxRecDepth 20000 in
theorem kL_969 {xs : Nat → Int32} {L : Nat} : lk (clL xs L) 969 = o_ald 1 970 := rfl
set_option maxRecDepth 20000 in
theorem kL_970 {xs : Nat → Int32} {L : Nat} : lk (clL xs L) 970 = o_inv 9 118 0 973 := rfl
set_option maxRecDepth 20000 in
theorem kL_973 {xs : Nat → Int32} {L : Nat} : lk (clL xs L) 973 = o_ald 2 974 := rfl
set_option maxRecDepth 20000 in
theorem kL_974 {xs : Nat → Int32} {L : Nat} : lk (clL xs L) 974 = o_inv 10 199 0 977 := rfl
set_option maxRecDepth 20000 in
theorem kL_977 {xs : Nat → Int32} {L : Nat} : lk (clL xs L) 977 = o_iceq 1195 980 := rfl
set_option maxRecDepth 20000 in
theorem kL_980 {xs : Nat → Int32} {L : Nat} : lk (clL xs L) 980 = o_push (vi 0) 981 := rfl
set_option maxRecDepth 20000 in
theorem kL_981 {xs : Nat → Int32} {L : Nat} : lk (clL xs L) 981 = o_end := rfl
set_option maxRecDepth 20000 in
theorem kL_982 {xs : Nat → Int32} {L : Nat} : lk (clL xs L) 982 = o_ald 1 983 := rfl
set_option maxRecDepth 20000 in
theorem kL_983 {xs : Nat → Int32} {L : Nat} : lk (clL xs L) 983 = o_ald 0 984 := rfl
set_option maxRecDepth 20000 in
theorem kL_984 {xs : Nat → Int32} {L : Nat} : lk (clL xs L) 984 = o_ild 3 985 := rfl
set_option maxRecDepth 20000 in
theorem kL_985 {xs : Nat → Int32} {L : Nat} : lk (clL xs L) 985 = o_push (vi 1) 986 := rfl
set_option maxRecDepth 20000 in
theorem kL_986 {xs : Nat → Int32} {L : Nat} : lk (clL xs L) 986 = o_iadd 987 := rfl
set_option maxRecDepth 20000 in
theorem kL_987 {xs : Nat → Int32} {L : Nat} : lk (clL xs L) 987 = o_sld xs L 988 := rfl
set_option maxRecDepth 20000 in
theorem kL_988 {xs : Nat → Int32} {L : Nat} : lk (clL xs L) 988 = o_ald 0 989 := rfl
set_option maxRecDepth 20000 in
theorem kL_989 {xs : Nat → Int32} {L : Nat} : lk (clL xs L) 989 = o_ild 3 990 := rfl
set_option maxRecDepth 20000 in
theorem kL_990 {xs : Nat → Int32} {L : Nat} : lk (clL xs L) 990 = o_push (vi 2) 991 := rfl
set_option maxRecDepth 20000 in
theorem kL_991 {xs : Nat → Int32} {L : Nat} : lk (clL xs L) 991 = o_iadd 992 := rfl
set_option maxRecDepth 20000 in
theorem kL_992 {xs : Nat → Int32} {L : Nat} : lk (clL xs L) 992 = o_sld xs L 993 := rfl
set_option maxRecDepth 20000 in
theorem kL_993 {xs : Nat → Int32} {L : Nat} : lk (clL xs L) 993 = o_ald 0 994 := rfl
set_option maxRecDepth 20000 in
theorem kL_994 {xs : Nat → Int32} {L : Nat} : lk (clL xs L) 994 = o_ild 3 995 := rfl
set_option maxRecDepth 20000 in
theorem kL_995 {xs : Nat → Int32} {L : Nat} : lk (clL xs L) 995 = o_push (vi 3) 996 := rfl
set_option maxRecDepth 20000 in
theorem kL_996 {xs : Nat → Int32} {L : Nat} : lk (clL xs L) 996 = o_iadd 997 := rfl
set_option maxRecDepth 20000 in
theorem kL_997 {xs : Nat → Int32} {L : Nat} : lk (clL xs L) 997 = o_sld xs L 998 := rfl
set_option maxRecDepth 20000 in
theorem kL_998 {xs : Nat → Int32} {L : Nat} : lk (clL xs L) 998 = o_ald 0 999 := rfl
set_option maxRecDepth 20000 in
theorem kL_999 {xs : Nat → Int32} {L : Nat} : lk (clL xs L) 999 = o_ild 3 1000 := rfl
set_option maxRecDepth 20000 in
theorem kL_1000 {xs : Nat → Int32} {L : Nat} : lk (clL xs L) 1000 = o_push (vi 4) 1001 := rfl
set_option maxRecDepth 20000 in
theorem kL_1001 {xs : Nat → Int32} {L : Nat} : lk (clL xs L) 1001 = o_iadd 1002 := rfl
set_option maxRecDepth 20000 in
theorem kL_1002 {xs : Nat → Int32} {L : Nat} : lk (clL xs L) 1002 = o_sld xs L 1003 := rfl
set_option maxRecDepth 20000 in
theorem kL_1003 {xs : Nat → Int32} {L : Nat} : lk (clL xs L) 1003 = o_ald 0 1004 := rfl
set_option maxRecDepth 20000 in
theorem kL_1004 {xs : Nat → Int32} {L : Nat} : lk (clL xs L) 1004 = o_ild 3 1005 := rfl
set_option maxRecDepth 20000 in
theorem kL_1005 {xs : Nat → Int32} {L : Nat} : lk (clL xs L) 1005 = o_push (vi 5) 1006 := rfl
set_option maxRecDepth 20000 in
theorem kL_1006 {xs : Nat → Int32} {L : Nat} : lk (clL xs L) 1006 = o_iadd 1007 := rfl
set_option maxRecDepth 20000 in
theorem kL_1007 {xs : Nat → Int32} {L : Nat} : lk (clL xs L) 1007 = o_sld xs L 1008 := rfl
set_option maxRecDepth 20000 in
theorem kL_1008 {xs : Nat → Int32} {L : Nat} : lk (clL xs L) 1008 = o_ald 0 1009 := rfl
set_option maxRecDepth 20000 in
theorem kL_1009 {xs : Nat → Int32} {L : Nat} : lk (clL xs L) 1009 = o_ild 3 1010 := rfl
set_option maxRecDepth 20000 in
theorem kL_1010 {xs : Nat → Int32} {L : Nat} : lk (clL xs L) 1010 = o_push (vi 6) 1012 := rfl
set_option maxRecDepth 20000 in
theorem kL_1012 {xs : Nat → Int32} {L : Nat} : lk (clL xs L) 1012 = o_iadd 1013 := rfl
set_option maxRecDepth 20000 in
theorem kL_1013 {xs : Nat → Int32} {L : Nat} : lk (clL xs L) 1013 = o_sld xs L 1014 := rfl
set_option maxRecDepth 20000 in
theorem kL_1014 {xs : Nat → Int32} {L : Nat} : lk (clL xs L) 1014 = o_inv 9 119 6 1017 := rfl
set_option maxRecDepth 20000 in
theorem kL_1017 {xs : Nat → Int32} {L : Nat} : lk (clL xs L) 1017 = o_ald 2 1018 := rfl
set_option maxRecDepth 20000 in
theorem kL_1018 {xs : Nat → Int32} {L : Nat} : lk (clL xs L) 1018 = o_ald 0 1019 := rfl
set_option maxRecDepth 20000 in
theorem kL_1019 {xs : Nat → Int32} {L : Nat} : lk (clL xs L) 1019 = o_ild 3 1020 := rfl
set_option maxRecDepth 20000 in
theorem kL_1020 {xs : Nat → Int32} {L : Nat} : lk (clL xs L) 1020 = o_push (vi 1) 1021 := rfl
set_option maxRecDepth 20000 in
theorem kL_1021 {xs : Nat → Int32} {L : Nat} : lk (clL xs L) 1021 = o_iadd 1022 := rfl
set_option maxRecDepth 20000 in
theorem kL_1022 {xs : Nat → Int32} {L : Nat} : lk (clL xs L) 1022 = o_sld xs L 1023 := rfl
set_option maxRecDepth 20000 in
theorem kL_1023 {xs : Nat → Int32} {L : Nat} : lk (clL xs L) 1023 = o_ald 0 1024 := rfl
set_option maxRecDepth 20000 in
theorem kL_1024 {xs : Nat → Int32} {L : Nat} : lk (clL xs L) 1024 = o_ild 3 1025 := rfl
set_option maxRecDepth 20000 in
theorem kL_1025 {xs : Nat → Int32} {L : Nat} : lk (clL xs L) 1025 = o_push (vi 2) 1026 := rfl
set_option maxRecDepth 20000 in
theorem kL_1026 {xs : Nat → Int32} {L : Nat} : lk (clL xs L) 1026 = o_iadd 1027 := rfl
set_option maxRecDepth 20000 in
theorem kL_1027 {xs : Nat → Int32} {L : Nat} : lk (clL xs L) 1027 = o_sld xs L 1028 := rfl
set_option maxRecDepth 20000 in
theorem kL_1028 {xs : Nat → Int32} {L : Nat} : lk (clL xs L) 1028 = o_ald 0 1029 := rfl
set_option maxRecDepth 20000 in
theorem kL_1029 {xs : Nat → Int32} {L : Nat} : lk (clL xs L) 1029 = o_ild 3 1030 := rfl
set_option maxRecDepth 20000 in
theorem kL_1030 {xs : Nat → Int32} {L : Nat} : lk (clL xs L) 1030 = o_push (vi 3) 1031 := rfl
set_option maxRecDepth 20000 in
theorem kL_1031 {xs : Nat → Int32} {L : Nat} : lk (clL xs L) 1031 = o_iadd 1032 := rfl
set_option maxRecDepth 20000 in
theorem kL_1032 {xs : Nat → Int32} {L : Nat} : lk (clL xs L) 1032 = o_sld xs L 1033 := rfl
set_option maxRecDepth 20000 in
theorem kL_1033 {xs : Nat → Int32} {L : Nat} : lk (clL xs L) 1033 = o_ald 0 1034 := rfl
set_option maxRecDepth 20000 in
theorem kL_1034 {xs : Nat → Int32} {L : Nat} : lk (clL xs L) 1034 = o_ild 3 1035 := rfl
set_option maxRecDepth 20000 in
theorem kL_1035 {xs : Nat → Int32} {L : Nat} : lk (clL xs L) 1035 = o_push (vi 4) 1036 := rfl
set_option maxRecDepth 20000 in
theorem kL_1036 {xs : Nat → Int32} {L : Nat} : lk (clL xs L) 1036 = o_iadd 1037 := rfl
set_option maxRecDepth 20000 in
theorem kL_1037 {xs : Nat → Int32} {L : Nat} : lk (clL xs L) 1037 = o_sld xs L 1038 := rfl
set_option maxRecDepth 20000 in
theorem kL_1038 {xs : Nat → Int32} {L : Nat} : lk (clL xs L) 1038 = o_ald 0 1039 := rfl
set_option maxRecDepth 20000 in
theorem kL_1039 {xs : Nat → Int32} {L : Nat} : lk (clL xs L) 1039 = o_ild 3 1040 := rfl
set_option maxRecDepth 20000 in
theorem kL_1040 {xs : Nat → Int32} {L : Nat} : lk (clL xs L) 1040 = o_push (vi 5) 1041 := rfl
set_option maxRecDepth 20000 in
theorem kL_1041 {xs : Nat → Int32} {L : Nat} : lk (clL xs L) 1041 = o_iadd 1042 := rfl
set_option maxRecDepth 20000 in
theorem kL_1042 {xs : Nat → Int32} {L : Nat} : lk (clL xs L) 1042 = o_sld xs L 1043 := rfl
set_option maxRecDepth 20000 in
theorem kL_1043 {xs : Nat → Int32} {L : Nat} : lk (clL xs L) 1043 = o_ald 0 1044 := rfl
set_option maxRecDepth 20000 in
theorem kL_1044 {xs : Nat → Int32} {L : Nat} : lk (clL xs L) 1044 = o_ild 3 1045 := rfl
set_option maxRecDepth 20000 in
theorem kL_1045 {xs : Nat → Int32} {L : Nat} : lk (clL xs L) 1045 = o_push (vi 6) 1047 := rfl
set_option maxRecDepth 20000 in
theorem kL_1047 {xs : Nat → Int32} {L : Nat} : lk (clL xs L) 1047 = o_iadd 1048 := rfl
set_option maxRecDepth 20000 in
theorem kL_1048 {xs : Nat → Int32} {L : Nat} : lk (clL xs L) 1048 = o_sld xs L 1049 := rfl
set_option maxRecDepth 20000 in
theorem kL_1049 {xs : Nat → Int32} {L : Nat} : lk (clL xs L) 1049 = o_inv 10 201 6 1052 := rfl
set_option maxRecDepth 20000 in
theorem kL_1052 {xs : Nat → Int32} {L : Nat} : lk (clL xs L) 1052 = o_iceq 1195 1055 := rfl
set_option maxRecDepth 20000 in
theorem kL_1055 {xs : Nat → Int32} {L : Nat} : lk (clL xs L) 1055 = o_push (vi 0) 1056 := rfl
set_option maxRecDepth 20000 in
theorem kL_1056 {xs : Nat → Int32} {L : Nat} : lk (clL xs L) 1056 = o_end := rfl
set_option maxRecDepth 20000 in
theorem kL_1057 {xs : Nat → Int32} {L : Nat} : lk (clL xs L) 1057 = o_ald 1 1058 := rfl
set_option maxRecDepth 20000 in
theorem kL_1058 {xs : Nat → Int32} {L : Nat} : lk (clL xs L) 1058 = o_ald 0 1059 := rfl
set_option maxRecDepth 20000 in
theorem kL_1059 {xs : Nat → Int32} {L : Nat} : lk (clL xs L) 1059 = o_ild 3 1060 := rfl
set_option maxRecDepth 20000 in
theorem kL_1060 {xs : Nat → Int32} {L : Nat} : lk (clL xs L) 1060 = o_push (vi 1) 1061 := rfl
set_option maxRecDepth 20000 in
theorem kL_1061 {xs : Nat → Int32} {L : Nat} : lk (clL xs L) 1061 = o_iadd 1062 := rfl
set_option maxRecDepth 20000 in
theorem kL_1062 {xs : Nat → Int32} {L : Nat} : lk (clL xs L) 1062 = o_sld xs L 1063 := rfl
set_option maxRecDepth 20000 in
theorem kL_1063 {xs : Nat → Int32} {L : Nat} : lk (clL xs L) 1063 = o_ald 0 1064 := rfl
set_option maxRecDepth 20000 in
theorem kL_1064 {xs : Nat → Int32} {L : Nat} : lk (clL xs L) 1064 = o_ild 3 1065 := rfl
set_option maxRecDepth 20000 in
theorem kL_1065 {xs : Nat → Int32} {L : Nat} : lk (clL xs L) 1065 = o_push (vi 2) 1066 := rfl
set_option maxRecDepth 20000 in
theorem kL_1066 {xs : Nat → Int32} {L : Nat} : lk (clL xs L) 1066 = o_iadd 1067 := rfl
set_option maxRecDepth 20000 in
theorem kL_1067 {xs : Nat → Int32} {L : Nat} : lk (clL xs L) 1067 = o_sld xs L 1068 := rfl
set_option maxRecDepth 20000 in
theorem kL_1068 {xs : Nat → Int32} {L : Nat} : lk (clL xs L) 1068 = o_inv 9 120 2 1071 := rfl
set_option maxRecDepth 20000 in
theorem kL_1071 {xs : Nat → Int32} {L : Nat} : lk (clL xs L) 1071 = o_ald 2 1072 := rfl
set_option maxRecDepth 20000 in
theorem kL_1072 {xs : Nat → Int32} {L : Nat} : lk (clL xs L) 1072 = o_ald 0 1073 := rfl
set_option maxRecDepth 20000 in
theorem kL_1073 {xs : Nat → Int32} {L : Nat} : lk (clL xs L) 1073 = o_ild 3 1074 := rfl
set_option maxRecDepth 20000 in
theorem kL_1074 {xs : Nat → Int32} {L : Nat} : lk (clL xs L) 1074 = o_push (vi 1) 1075 := rfl
set_option maxRecDepth 20000 in
theorem kL_1075 {xs : Nat → Int32} {L : Nat} : lk (clL xs L) 1075 = o_iadd 1076 := rfl
set_option maxRecDepth 20000 in
theorem kL_1076 {xs : Nat → Int32} {L : Nat} : lk (clL xs L) 1076 = o_sld xs L 1077 := rfl
set_option maxRecDepth 20000 in
theorem kL_1077 {xs : Nat → Int32} {L : Nat} : lk (clL xs L) 1077 = o_ald 0 1078 := rfl
set_option maxRecDepth 20000 in
theorem kL_1078 {xs : Nat → Int32} {L : Nat} : lk (clL xs L) 1078 = o_ild 3 1079 := rfl
set_option maxRecDepth 20000 in
theorem kL_1079 {xs : Nat → Int32} {L : Nat} : lk (clL xs L) 1079 = o_push (vi 2) 1080 := rfl
set_option maxRecDepth 20000 in
theorem kL_1080 {xs : Nat → Int32} {L : Nat} : lk (clL xs L) 1080 = o_iadd 1081 := rfl
set_option maxRecDepth 20000 in
theorem kL_1081 {xs : Nat → Int32} {L : Nat} : lk (clL xs L) 1081 = o_sld xs L 1082 := rfl
set_option maxRecDepth 20000 in
theorem kL_1082 {xs : Nat → Int32} {L : Nat} : lk (clL xs L) 1082 = o_inv 10 202 2 1085 := rfl
set_option maxRecDepth 20000 in
theorem kL_1085 {xs : Nat → Int32} {L : Nat} : lk (clL xs L) 1085 = o_iceq 1195 1088 := rfl
set_option maxRecDepth 20000 in
theorem kL_1088 {xs : Nat → Int32} {L : Nat} : lk (clL xs L) 1088 = o_push (vi 0) 1089 := rfl
set_option maxRecDepth 20000 in
theorem kL_1089 {xs : Nat → Int32} {L : Nat} : lk (clL xs L) 1089 = o_end := rfl
set_option maxRecDepth 20000 in
theorem kL_1090 {xs : Nat → Int32} {L : Nat} : lk (clL xs L) 1090 = o_ald 1 1091 := rfl
set_option maxRecDepth 20000 in
theorem kL_1091 {xs : Nat → Int32} {L : Nat} : lk (clL xs L) 1091 = o_ald 0 1092 := rfl
set_option maxRecDepth 20000 in
theorem kL_1092 {xs : Nat → Int32} {L : Nat} : lk (clL xs L) 1092 = o_ild 3 1093 := rfl
set_option maxRecDepth 20000 in
theorem kL_1093 {xs : Nat → Int32} {L : Nat} : lk (clL xs L) 1093 = o_push (vi 1) 1094 := rfl
set_option maxRecDepth 20000 in
theorem kL_1094 {xs : Nat → Int32} {L : Nat} : lk (clL xs L) 1094 = o_iadd 1095 := rfl
set_option maxRecDepth 20000 in
theorem kL_1095 {xs : Nat → Int32} {L : Nat} : lk (clL xs L) 1095 = o_sld xs L 1096 := rfl
set_option maxRecDepth 20000 in
theorem kL_1096 {xs : Nat → Int32} {L : Nat} : lk (clL xs L) 1096 = o_inv 9 121 1 1099 := rfl
set_option maxRecDepth 20000 in
theorem kL_1099 {xs : Nat → Int32} {L : Nat} : lk (clL xs L) 1099 = o_ald 2 1100 := rfl
set_option maxRecDepth 20000 in
theorem kL_1100 {xs : Nat → Int32} {L : Nat} : lk (clL xs L) 1100 = o_ald 0 1101 := rfl
set_option maxRecDepth 20000 in
theorem kL_1101 {xs : Nat → Int32} {L : Nat} : lk (clL xs L) 1101 = o_ild 3 1102 := rfl
set_option maxRecDepth 20000 in
theorem kL_1102 {xs : Nat → Int32} {L : Nat} : lk (clL xs L) 1102 = o_push (vi 1) 1103 := rfl
set_option maxRecDepth 20000 in
theorem kL_1103 {xs : Nat → Int32} {L : Nat} : lk (clL xs L) 1103 = o_iadd 1104 := rfl
set_option maxRecDepth 20000 in
theorem kL_1104 {xs : Nat → Int32} {L : Nat} : lk (clL xs L) 1104 = o_sld xs L 1105 := rfl
set_option maxRecDepth 20000 in
theorem kL_1105 {xs : Nat → Int32} {L : Nat} : lk (clL xs L) 1105 = o_inv 10 203 1 1108 := rfl
set_option maxRecDepth 20000 in
theorem kL_1108 {xs : Nat → Int32} {L : Nat} : lk (clL xs L) 1108 = o_iceq 1195 1111 := rfl
set_option maxRecDepth 20000 in
theorem kL_1111 {xs : Nat → Int32} {L : Nat} : lk (clL xs L) 1111 = o_push (vi 0) 1112 := rfl
set_option maxRecDepth 20000 in
theorem kL_1112 {xs : Nat → Int32} {L : Nat} : lk (clL xs L) 1112 = o_end := rfl
set_option maxRecDepth 20000 in
theorem kL_1113 {xs : Nat → Int32} {L : Nat} : lk (clL xs L) 1113 = o_ald 1 1114 := rfl
set_option maxRecDepth 20000 in
theorem kL_1114 {xs : Nat → Int32} {L : Nat} : lk (clL xs L) 1114 = o_ald 0 1115 := rfl
set_option maxRecDepth 20000 in
theorem kL_1115 {xs : Nat → Int32} {L : Nat} : lk (clL xs L) 1115 = o_ild 3 1116 := rfl
set_option maxRecDepth 20000 in
theorem kL_1116 {xs : Nat → Int32} {L : Nat} : lk (clL xs L) 1116 = o_push (vi 1) 1117 := rfl
set_option maxRecDepth 20000 in
theorem kL_1117 {xs : Nat → Int32} {L : Nat} : lk (clL xs L) 1117 = o_iadd 1118 := rfl
set_option maxRecDepth 20000 in
theorem kL_1118 {xs : Nat → Int32} {L : Nat} : lk (clL xs L) 1118 = o_sld xs L 1119 := rfl
set_option maxRecDepth 20000 in
theorem kL_1119 {xs : Nat → Int32} {L : Nat} : lk (clL xs L) 1119 = o_inv 9 122 1 1122 := rfl
set_option maxRecDepth 20000 in
theorem kL_1122 {xs : Nat → Int32} {L : Nat} : lk (clL xs L) 1122 = o_ald 2 1123 := rfl
set_option maxRecDepth 20000 in
theorem kL_1123 {xs : Nat → Int32} {L : Nat} : lk (clL xs L) 1123 = o_ald 0 1124 := rfl
set_option maxRecDepth 20000 in
theorem kL_1124 {xs : Nat → Int32} {L : Nat} : lk (clL xs L) 1124 = o_ild 3 1125 := rfl
set_option maxRecDepth 20000 in
theorem kL_1125 {xs : Nat → Int32} {L : Nat} : lk (clL xs L) 1125 = o_push (vi 1) 1126 := rfl
set_option maxRecDepth 20000 in
theorem kL_1126 {xs : Nat → Int32} {L : Nat} : lk (clL xs L) 1126 = o_iadd 1127 := rfl
set_option maxRecDepth 20000 in
theorem kL_1127 {xs : Nat → Int32} {L : Nat} : lk (clL xs L) 1127 = o_sld xs L 1128 := rfl
set_option maxRecDepth 20000 in
theorem kL_1128 {xs : Nat → Int32} {L : Nat} : lk (clL xs L) 1128 = o_inv 10 204 1 1131 := rfl
set_option maxRecDepth 20000 in
theorem kL_1131 {xs : Nat → Int32} {L : Nat} : lk (clL xs L) 1131 = o_iceq 1195 1134 := rfl
set_option maxRecDepth 20000 in
theorem kL_1134 {xs : Nat → Int32} {L : Nat} : lk (clL xs L) 1134 = o_push (vi 0) 1135 := rfl
set_option maxRecDepth 20000 in
theorem kL_1135 {xs : Nat → Int32} {L : Nat} : lk (clL xs L) 1135 = o_end := rfl
set_option maxRecDepth 20000 in
theorem kL_1136 {xs : Nat → Int32} {L : Nat} : lk (clL xs L) 1136 = o_ald 1 1137 := rfl
set_option maxRecDepth 20000 in
theorem kL_1137 {xs : Nat → Int32} {L : Nat} : lk (clL xs L) 1137 = o_ald 0 1138 := rfl
set_option maxRecDepth 20000 in
theorem kL_1138 {xs : Nat → Int32} {L : Nat} : lk (clL xs L) 1138 = o_ild 3 1139 := rfl
set_option maxRecDepth 20000 in
theorem kL_1139 {xs : Nat → Int32} {L : Nat} : lk (clL xs L) 1139 = o_push (vi 1) 1140 := rfl
set_option maxRecDepth 20000 in
theorem kL_1140 {xs : Nat → Int32} {L : Nat} : lk (clL xs L) 1140 = o_iadd 1141 := rfl
set_option maxRecDepth 20000 in
theorem kL_1141 {xs : Nat → Int32} {L : Nat} : lk (clL xs L) 1141 = o_sld xs L 1142 := rfl
set_option maxRecDepth 20000 in
theorem kL_1142 {xs : Nat → Int32} {L : Nat} : lk (clL xs L) 1142 = o_inv 9 123 1 1145 := rfl
set_option maxRecDepth 20000 in
theorem kL_1145 {xs : Nat → Int32} {L : Nat} : lk (clL xs L) 1145 = o_ald 2 1146 := rfl
set_option maxRecDepth 20000 in
theorem kL_1146 {xs : Nat → Int32} {L : Nat} : lk (clL xs L) 1146 = o_ald 0 1147 := rfl
set_option maxRecDepth 20000 in
theorem kL_1147 {xs : Nat → Int32} {L : Nat} : lk (clL xs L) 1147 = o_ild 3 1148 := rfl
set_option maxRecDepth 20000 in
theorem kL_1148 {xs : Nat → Int32} {L : Nat} : lk (clL xs L) 1148 = o_push (vi 1) 1149 := rfl
set_option maxRecDepth 20000 in
theorem kL_1149 {xs : Nat → Int32} {L : Nat} : lk (clL xs L) 1149 = o_iadd 1150 := rfl
set_option maxRecDepth 20000 in
theorem kL_1150 {xs : Nat → Int32} {L : Nat} : lk (clL xs L) 1150 = o_sld xs L 1151 := rfl
set_option maxRecDepth 20000 in
theorem kL_1151 {xs : Nat → Int32} {L : Nat} : lk (clL xs L) 1151 = o_inv 10 206 1 1154 := rfl
set_option maxRecDepth 20000 in
theorem kL_1154 {xs : Nat → Int32} {L : Nat} : lk (clL xs L) 1154 = o_iceq 1195 1157 := rfl
set_option maxRecDepth 20000 in
theorem kL_1157 {xs : Nat → Int32} {L : Nat} : lk (clL xs L) 1157 = o_push (vi 0) 1158 := rfl
set_option maxRecDepth 20000 in
theorem kL_1158 {xs : Nat → Int32} {L : Nat} : lk (clL xs L) 1158 = o_end := rfl
set_option maxRecDepth 20000 in
theorem kL_1159 {xs : Nat → Int32} {L : Nat} : lk (clL xs L) 1159 = o_ald 1 1160 := rfl
set_option maxRecDepth 20000 in
theorem kL_1160 {xs : Nat → Int32} {L : Nat} : lk (clL xs L) 1160 = o_inv 9 124 0 1163 := rfl
set_option maxRecDepth 20000 in
theorem kL_1163 {xs : Nat → Int32} {L : Nat} : lk (clL xs L) 1163 = o_ald 2 1164 := rfl
set_option maxRecDepth 20000 in
theorem kL_1164 {xs : Nat → Int32} {L : Nat} : lk (clL xs L) 1164 = o_inv 10 207 0 1167 := rfl
set_option maxRecDepth 20000 in
theorem kL_1167 {xs : Nat → Int32} {L : Nat} : lk (clL xs L) 1167 = o_iceq 1195 1170 := rfl
set_option maxRecDepth 20000 in
theorem kL_1170 {xs : Nat → Int32} {L : Nat} : lk (clL xs L) 1170 = o_push (vi 0) 1171 := rfl
set_option maxRecDepth 20000 in
theorem kL_1171 {xs : Nat → Int32} {L : Nat} : lk (clL xs L) 1171 = o_end := rfl
set_option maxRecDepth 20000 in
theorem kL_1172 {xs : Nat → Int32} {L : Nat} : lk (clL xs L) 1172 = o_ald 1 1173 := rfl
set_option maxRecDepth 20000 in
theorem kL_1173 {xs : Nat → Int32} {L : Nat} : lk (clL xs L) 1173 = o_ald 0 1174 := rfl
set_option maxRecDepth 20000 in
theorem kL_1174 {xs : Nat → Int32} {L : Nat} : lk (clL xs L) 1174 = o_ild 3 1175 := rfl
set_option maxRecDepth 20000 in
theorem kL_1175 {xs : Nat → Int32} {L : Nat} : lk (clL xs L) 1175 = o_push (vi 1) 1176 := rfl
set_option maxRecDepth 20000 in
theorem kL_1176 {xs : Nat → Int32} {L : Nat} : lk (clL xs L) 1176 = o_iadd 1177 := rfl
set_option maxRecDepth 20000 in
theorem kL_1177 {xs : Nat → Int32} {L : Nat} : lk (clL xs L) 1177 = o_sld xs L 1178 := rfl
set_option maxRecDepth 20000 in
theorem kL_1178 {xs : Nat → Int32} {L : Nat} : lk (clL xs L) 1178 = o_inv 9 125 1 1181 := rfl
set_option maxRecDepth 20000 in
theorem kL_1181 {xs : Nat → Int32} {L : Nat} : lk (clL xs L) 1181 = o_ald 2 1182 := rfl
set_option maxRecDepth 20000 in
theorem kL_1182 {xs : Nat → Int32} {L : Nat} : lk (clL xs L) 1182 = o_ald 0 1183 := rfl
set_option maxRecDepth 20000 in
theorem kL_1183 {xs : Nat → Int32} {L : Nat} : lk (clL xs L) 1183 = o_ild 3 1184 := rfl
set_option maxRecDepth 20000 in
theorem kL_1184 {xs : Nat → Int32} {L : Nat} : lk (clL xs L) 1184 = o_push (vi 1) 1185 := rfl
set_option maxRecDepth 20000 in
theorem kL_1185 {xs : Nat → Int32} {L : Nat} : lk (clL xs L) 1185 = o_iadd 1186 := rfl
set_option maxRecDepth 20000 in
theorem kL_1186 {xs : Nat → Int32} {L : Nat} : lk (clL xs L) 1186 = o_sld xs L 1187 := rfl
set_option maxRecDepth 20000 in
theorem kL_1187 {xs : Nat → Int32} {L : Nat} : lk (clL xs L) 1187 = o_inv 10 208 1 1190 := rfl
set_option maxRecDepth 20000 in
theorem kL_1190 {xs : Nat → Int32} {L : Nat} : lk (clL xs L) 1190 = o_iceq 1195 1193 := rfl
set_option maxRecDepth 20000 in
theorem kL_1193 {xs : Nat → Int32} {L : Nat} : lk (clL xs L) 1193 = o_push (vi 0) 1194 := rfl
set_option maxRecDepth 20000 in
theorem kL_1194 {xs : Nat → Int32} {L : Nat} : lk (clL xs L) 1194 = o_end := rfl
set_option maxRecDepth 20000 in
theorem kL_1195 {xs : Nat → Int32} {L : Nat} : lk (clL xs L) 1195 = o_iinc 3 7 1198 := rfl
set_option maxRecDepth 20000 in
theorem kL_1198 {xs : Nat → Int32} {L : Nat} : lk (clL xs L) 1198 = o_goto 18 := rfl
set_option maxRecDepth 20000 in
theorem kL_1201 {xs : Nat → Int32} {L : Nat} : lk (clL xs L) 1201 = o_push (vi 1) 1202 := rfl
set_option maxRecDepth 20000 in
theorem kL_1202 {xs : Nat → Int32} {L : Nat} : lk (clL xs L) 1202 = o_end := rfl
