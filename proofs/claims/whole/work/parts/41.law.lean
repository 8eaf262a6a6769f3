/-! THE LAW: its entries, and a walk for each case of its switch -/
abbrev c_L_law : ByteArray := code
def e_L0 : List Ent := [
  (0, .new 7, 3, 3, .null, 0, 0, 0),
  (3, .dup, 1, 4, .null, 0, 0, 0),
  (4, .invokespecial 9, 3, 7, .null, 0, 0, 0),
  (7, .astore_n 1, 1, 8, .null, 0, 0, 0),
  (8, .new 10, 3, 11, .null, 0, 0, 0),
  (11, .dup, 1, 12, .null, 0, 0, 0),
  (12, .invokespecial 12, 3, 15, .null, 0, 0, 0),
  (15, .astore_n 2, 1, 16, .null, 0, 0, 0),
  (16, .iconst 0, 1, 17, .int 0, 0, 0, 0),
  (17, .istore_n 3, 1, 18, .null, 0, 0, 0),
  (18, .iload_n 3, 1, 19, .null, 0, 0, 0),
  (19, .aload_n 0, 1, 20, .null, 0, 0, 0),
  (20, .arraylength, 1, 21, .null, 0, 0, 0),
  (21, .bipush 6, 2, 23, .int 6, 0, 0, 0),
  (23, .isub, 1, 24, .null, 0, 0, 0),
  (24, .if_icmp .gt 1482, 3, 1506, .null, 0, 0, 0),
  (27, .aload_n 0, 1, 28, .null, 0, 0, 0),
  (28, .iload_n 3, 1, 29, .null, 0, 0, 0),
  (29, .iaload, 1, 30, .null, 0, 0, 0),
  (30, .bipush 63, 2, 32, .int 63, 0, 0, 0),
  (32, .iand, 1, 33, .null, 0, 0, 0),
  (33, .tableswitch 1467 0 42 #[187, 230, 253, 286, 309, 342, 385, 418, 461, 484, 507, 530, 553, 596, 639, 672, 705, 738, 761, 794, 827, 860, 893, 916, 949, 982, 1005, 1039, 1062, 1095, 1108, 1121, 1154, 1187, 1230, 1273, 1336, 1359, 1382, 1395, 1408, 1421, 1444], 187, 220, .null, 0, 0, 0),
  (220, .aload_n 1, 1, 221, .null, 0, 0, 0),
  (221, .aload_n 0, 1, 222, .null, 0, 0, 0),
  (222, .iload_n 3, 1, 223, .null, 0, 0, 0),
  (223, .iconst 1, 1, 224, .int 1, 0, 0, 0),
  (224, .iadd, 1, 225, .null, 0, 0, 0),
  (225, .iaload, 1, 226, .null, 0, 0, 0),
  (226, .aload_n 0, 1, 227, .null, 0, 0, 0),
  (227, .iload_n 3, 1, 228, .null, 0, 0, 0),
  (228, .iconst 2, 1, 229, .int 2, 0, 0, 0),
  (229, .iadd, 1, 230, .null, 0, 0, 0),
  (230, .iaload, 1, 231, .null, 0, 0, 0),
  (231, .aload_n 0, 1, 232, .null, 0, 0, 0),
  (232, .iload_n 3, 1, 233, .null, 0, 0, 0),
  (233, .iconst 3, 1, 234, .int 3, 0, 0, 0),
  (234, .iadd, 1, 235, .null, 0, 0, 0),
  (235, .iaload, 1, 236, .null, 0, 0, 0),
  (236, .invokevirtual 13, 3, 239, .null, 0, 0, 0),
  (239, .aload_n 2, 1, 240, .null, 0, 0, 0),
  (240, .aload_n 0, 1, 241, .null, 0, 0, 0),
  (241, .iload_n 3, 1, 242, .null, 0, 0, 0),
  (242, .iconst 1, 1, 243, .int 1, 0, 0, 0),
  (243, .iadd, 1, 244, .null, 0, 0, 0),
  (244, .iaload, 1, 245, .null, 0, 0, 0),
  (245, .aload_n 0, 1, 246, .null, 0, 0, 0),
  (246, .iload_n 3, 1, 247, .null, 0, 0, 0),
  (247, .iconst 2, 1, 248, .int 2, 0, 0, 0),
  (248, .iadd, 1, 249, .null, 0, 0, 0),
  (249, .iaload, 1, 250, .null, 0, 0, 0),
  (250, .aload_n 0, 1, 251, .null, 0, 0, 0),
  (251, .iload_n 3, 1, 252, .null, 0, 0, 0),
  (252, .iconst 3, 1, 253, .int 3, 0, 0, 0),
  (253, .iadd, 1, 254, .null, 0, 0, 0),
  (254, .iaload, 1, 255, .null, 0, 0, 0),
  (255, .invokevirtual 17, 3, 258, .null, 0, 0, 0),
  (258, .if_icmp .eq 1242, 3, 1500, .null, 0, 0, 0),
  (261, .iconst 0, 1, 262, .int 0, 0, 0, 0),
  (262, .ireturn, 1, 263, .null, 0, 0, 0),
  (263, .aload_n 1, 1, 264, .null, 0, 0, 0)]
set_option maxRecDepth 100000 in
theorem ek_L0 : e_L0.all (eok 12 code) = true := by decide +kernel
def e_L1 : List Ent := [
  (264, .aload_n 0, 1, 265, .null, 0, 0, 0),
  (265, .iload_n 3, 1, 266, .null, 0, 0, 0),
  (266, .iconst 1, 1, 267, .int 1, 0, 0, 0),
  (267, .iadd, 1, 268, .null, 0, 0, 0),
  (268, .iaload, 1, 269, .null, 0, 0, 0),
  (269, .invokevirtual 18, 3, 272, .null, 0, 0, 0),
  (272, .aload_n 2, 1, 273, .null, 0, 0, 0),
  (273, .aload_n 0, 1, 274, .null, 0, 0, 0),
  (274, .iload_n 3, 1, 275, .null, 0, 0, 0),
  (275, .iconst 1, 1, 276, .int 1, 0, 0, 0),
  (276, .iadd, 1, 277, .null, 0, 0, 0),
  (277, .iaload, 1, 278, .null, 0, 0, 0),
  (278, .invokevirtual 22, 3, 281, .null, 0, 0, 0),
  (281, .if_icmp .eq 1219, 3, 1500, .null, 0, 0, 0),
  (284, .iconst 0, 1, 285, .int 0, 0, 0, 0),
  (285, .ireturn, 1, 286, .null, 0, 0, 0),
  (286, .aload_n 1, 1, 287, .null, 0, 0, 0),
  (287, .aload_n 0, 1, 288, .null, 0, 0, 0),
  (288, .iload_n 3, 1, 289, .null, 0, 0, 0),
  (289, .iconst 1, 1, 290, .int 1, 0, 0, 0),
  (290, .iadd, 1, 291, .null, 0, 0, 0),
  (291, .iaload, 1, 292, .null, 0, 0, 0),
  (292, .aload_n 0, 1, 293, .null, 0, 0, 0),
  (293, .iload_n 3, 1, 294, .null, 0, 0, 0),
  (294, .iconst 2, 1, 295, .int 2, 0, 0, 0),
  (295, .iadd, 1, 296, .null, 0, 0, 0),
  (296, .iaload, 1, 297, .null, 0, 0, 0),
  (297, .invokevirtual 23, 3, 300, .null, 0, 0, 0),
  (300, .aload_n 2, 1, 301, .null, 0, 0, 0),
  (301, .aload_n 0, 1, 302, .null, 0, 0, 0),
  (302, .iload_n 3, 1, 303, .null, 0, 0, 0),
  (303, .iconst 1, 1, 304, .int 1, 0, 0, 0),
  (304, .iadd, 1, 305, .null, 0, 0, 0),
  (305, .iaload, 1, 306, .null, 0, 0, 0),
  (306, .aload_n 0, 1, 307, .null, 0, 0, 0),
  (307, .iload_n 3, 1, 308, .null, 0, 0, 0),
  (308, .iconst 2, 1, 309, .int 2, 0, 0, 0),
  (309, .iadd, 1, 310, .null, 0, 0, 0),
  (310, .iaload, 1, 311, .null, 0, 0, 0),
  (311, .invokevirtual 27, 3, 314, .null, 0, 0, 0),
  (314, .if_icmp .eq 1186, 3, 1500, .null, 0, 0, 0),
  (317, .iconst 0, 1, 318, .int 0, 0, 0, 0),
  (318, .ireturn, 1, 319, .null, 0, 0, 0),
  (319, .aload_n 1, 1, 320, .null, 0, 0, 0),
  (320, .aload_n 0, 1, 321, .null, 0, 0, 0),
  (321, .iload_n 3, 1, 322, .null, 0, 0, 0),
  (322, .iconst 1, 1, 323, .int 1, 0, 0, 0),
  (323, .iadd, 1, 324, .null, 0, 0, 0),
  (324, .iaload, 1, 325, .null, 0, 0, 0),
  (325, .invokevirtual 28, 3, 328, .null, 0, 0, 0),
  (328, .aload_n 2, 1, 329, .null, 0, 0, 0),
  (329, .aload_n 0, 1, 330, .null, 0, 0, 0),
  (330, .iload_n 3, 1, 331, .null, 0, 0, 0),
  (331, .iconst 1, 1, 332, .int 1, 0, 0, 0),
  (332, .iadd, 1, 333, .null, 0, 0, 0),
  (333, .iaload, 1, 334, .null, 0, 0, 0),
  (334, .invokevirtual 31, 3, 337, .null, 0, 0, 0),
  (337, .if_icmp .eq 1163, 3, 1500, .null, 0, 0, 0),
  (340, .iconst 0, 1, 341, .int 0, 0, 0, 0),
  (341, .ireturn, 1, 342, .null, 0, 0, 0)]
set_option maxRecDepth 100000 in
theorem ek_L1 : e_L1.all (eok 12 code) = true := by decide +kernel
def e_L2 : List Ent := [
  (342, .aload_n 1, 1, 343, .null, 0, 0, 0),
  (343, .aload_n 0, 1, 344, .null, 0, 0, 0),
  (344, .iload_n 3, 1, 345, .null, 0, 0, 0),
  (345, .iconst 1, 1, 346, .int 1, 0, 0, 0),
  (346, .iadd, 1, 347, .null, 0, 0, 0),
  (347, .iaload, 1, 348, .null, 0, 0, 0),
  (348, .aload_n 0, 1, 349, .null, 0, 0, 0),
  (349, .iload_n 3, 1, 350, .null, 0, 0, 0),
  (350, .iconst 2, 1, 351, .int 2, 0, 0, 0),
  (351, .iadd, 1, 352, .null, 0, 0, 0),
  (352, .iaload, 1, 353, .null, 0, 0, 0),
  (353, .invokevirtual 32, 3, 356, .null, 0, 0, 0),
  (356, .aload_n 2, 1, 357, .null, 0, 0, 0),
  (357, .aload_n 0, 1, 358, .null, 0, 0, 0),
  (358, .iload_n 3, 1, 359, .null, 0, 0, 0),
  (359, .iconst 1, 1, 360, .int 1, 0, 0, 0),
  (360, .iadd, 1, 361, .null, 0, 0, 0),
  (361, .iaload, 1, 362, .null, 0, 0, 0),
  (362, .aload_n 0, 1, 363, .null, 0, 0, 0),
  (363, .iload_n 3, 1, 364, .null, 0, 0, 0),
  (364, .iconst 2, 1, 365, .int 2, 0, 0, 0),
  (365, .iadd, 1, 366, .null, 0, 0, 0),
  (366, .iaload, 1, 367, .null, 0, 0, 0),
  (367, .invokevirtual 35, 3, 370, .null, 0, 0, 0),
  (370, .if_icmp .eq 1130, 3, 1500, .null, 0, 0, 0),
  (373, .iconst 0, 1, 374, .int 0, 0, 0, 0),
  (374, .ireturn, 1, 375, .null, 0, 0, 0),
  (375, .aload_n 1, 1, 376, .null, 0, 0, 0),
  (376, .aload_n 0, 1, 377, .null, 0, 0, 0),
  (377, .iload_n 3, 1, 378, .null, 0, 0, 0),
  (378, .iconst 1, 1, 379, .int 1, 0, 0, 0),
  (379, .iadd, 1, 380, .null, 0, 0, 0),
  (380, .iaload, 1, 381, .null, 0, 0, 0),
  (381, .aload_n 0, 1, 382, .null, 0, 0, 0),
  (382, .iload_n 3, 1, 383, .null, 0, 0, 0),
  (383, .iconst 2, 1, 384, .int 2, 0, 0, 0),
  (384, .iadd, 1, 385, .null, 0, 0, 0),
  (385, .iaload, 1, 386, .null, 0, 0, 0),
  (386, .aload_n 0, 1, 387, .null, 0, 0, 0),
  (387, .iload_n 3, 1, 388, .null, 0, 0, 0),
  (388, .iconst 3, 1, 389, .int 3, 0, 0, 0),
  (389, .iadd, 1, 390, .null, 0, 0, 0),
  (390, .iaload, 1, 391, .null, 0, 0, 0),
  (391, .invokevirtual 36, 3, 394, .null, 0, 0, 0),
  (394, .aload_n 2, 1, 395, .null, 0, 0, 0),
  (395, .aload_n 0, 1, 396, .null, 0, 0, 0),
  (396, .iload_n 3, 1, 397, .null, 0, 0, 0),
  (397, .iconst 1, 1, 398, .int 1, 0, 0, 0),
  (398, .iadd, 1, 399, .null, 0, 0, 0),
  (399, .iaload, 1, 400, .null, 0, 0, 0),
  (400, .aload_n 0, 1, 401, .null, 0, 0, 0),
  (401, .iload_n 3, 1, 402, .null, 0, 0, 0),
  (402, .iconst 2, 1, 403, .int 2, 0, 0, 0),
  (403, .iadd, 1, 404, .null, 0, 0, 0),
  (404, .iaload, 1, 405, .null, 0, 0, 0),
  (405, .aload_n 0, 1, 406, .null, 0, 0, 0),
  (406, .iload_n 3, 1, 407, .null, 0, 0, 0),
  (407, .iconst 3, 1, 408, .int 3, 0, 0, 0),
  (408, .iadd, 1, 409, .null, 0, 0, 0),
  (409, .iaload, 1, 410, .null, 0, 0, 0)]
set_option maxRecDepth 100000 in
theorem ek_L2 : e_L2.all (eok 12 code) = true := by decide +kernel
def e_L3 : List Ent := [
  (410, .invokevirtual 39, 3, 413, .null, 0, 0, 0),
  (413, .if_icmp .eq 1087, 3, 1500, .null, 0, 0, 0),
  (416, .iconst 0, 1, 417, .int 0, 0, 0, 0),
  (417, .ireturn, 1, 418, .null, 0, 0, 0),
  (418, .aload_n 1, 1, 419, .null, 0, 0, 0),
  (419, .aload_n 0, 1, 420, .null, 0, 0, 0),
  (420, .iload_n 3, 1, 421, .null, 0, 0, 0),
  (421, .iconst 1, 1, 422, .int 1, 0, 0, 0),
  (422, .iadd, 1, 423, .null, 0, 0, 0),
  (423, .iaload, 1, 424, .null, 0, 0, 0),
  (424, .aload_n 0, 1, 425, .null, 0, 0, 0),
  (425, .iload_n 3, 1, 426, .null, 0, 0, 0),
  (426, .iconst 2, 1, 427, .int 2, 0, 0, 0),
  (427, .iadd, 1, 428, .null, 0, 0, 0),
  (428, .iaload, 1, 429, .null, 0, 0, 0),
  (429, .invokevirtual 40, 3, 432, .null, 0, 0, 0),
  (432, .aload_n 2, 1, 433, .null, 0, 0, 0),
  (433, .aload_n 0, 1, 434, .null, 0, 0, 0),
  (434, .iload_n 3, 1, 435, .null, 0, 0, 0),
  (435, .iconst 1, 1, 436, .int 1, 0, 0, 0),
  (436, .iadd, 1, 437, .null, 0, 0, 0),
  (437, .iaload, 1, 438, .null, 0, 0, 0),
  (438, .aload_n 0, 1, 439, .null, 0, 0, 0),
  (439, .iload_n 3, 1, 440, .null, 0, 0, 0),
  (440, .iconst 2, 1, 441, .int 2, 0, 0, 0),
  (441, .iadd, 1, 442, .null, 0, 0, 0),
  (442, .iaload, 1, 443, .null, 0, 0, 0),
  (443, .invokevirtual 43, 3, 446, .null, 0, 0, 0),
  (446, .if_icmp .eq 1054, 3, 1500, .null, 0, 0, 0),
  (449, .iconst 0, 1, 450, .int 0, 0, 0, 0),
  (450, .ireturn, 1, 451, .null, 0, 0, 0),
  (451, .aload_n 1, 1, 452, .null, 0, 0, 0),
  (452, .aload_n 0, 1, 453, .null, 0, 0, 0),
  (453, .iload_n 3, 1, 454, .null, 0, 0, 0),
  (454, .iconst 1, 1, 455, .int 1, 0, 0, 0),
  (455, .iadd, 1, 456, .null, 0, 0, 0),
  (456, .iaload, 1, 457, .null, 0, 0, 0),
  (457, .aload_n 0, 1, 458, .null, 0, 0, 0),
  (458, .iload_n 3, 1, 459, .null, 0, 0, 0),
  (459, .iconst 2, 1, 460, .int 2, 0, 0, 0),
  (460, .iadd, 1, 461, .null, 0, 0, 0),
  (461, .iaload, 1, 462, .null, 0, 0, 0),
  (462, .aload_n 0, 1, 463, .null, 0, 0, 0),
  (463, .iload_n 3, 1, 464, .null, 0, 0, 0),
  (464, .iconst 3, 1, 465, .int 3, 0, 0, 0),
  (465, .iadd, 1, 466, .null, 0, 0, 0),
  (466, .iaload, 1, 467, .null, 0, 0, 0),
  (467, .invokevirtual 44, 3, 470, .null, 0, 0, 0),
  (470, .aload_n 2, 1, 471, .null, 0, 0, 0),
  (471, .aload_n 0, 1, 472, .null, 0, 0, 0),
  (472, .iload_n 3, 1, 473, .null, 0, 0, 0),
  (473, .iconst 1, 1, 474, .int 1, 0, 0, 0),
  (474, .iadd, 1, 475, .null, 0, 0, 0),
  (475, .iaload, 1, 476, .null, 0, 0, 0),
  (476, .aload_n 0, 1, 477, .null, 0, 0, 0),
  (477, .iload_n 3, 1, 478, .null, 0, 0, 0),
  (478, .iconst 2, 1, 479, .int 2, 0, 0, 0),
  (479, .iadd, 1, 480, .null, 0, 0, 0),
  (480, .iaload, 1, 481, .null, 0, 0, 0),
  (481, .aload_n 0, 1, 482, .null, 0, 0, 0)]
set_option maxRecDepth 100000 in
theorem ek_L3 : e_L3.all (eok 12 code) = true := by decide +kernel
def e_L4 : List Ent := [
  (482, .iload_n 3, 1, 483, .null, 0, 0, 0),
  (483, .iconst 3, 1, 484, .int 3, 0, 0, 0),
  (484, .iadd, 1, 485, .null, 0, 0, 0),
  (485, .iaload, 1, 486, .null, 0, 0, 0),
  (486, .invokevirtual 47, 3, 489, .null, 0, 0, 0),
  (489, .if_icmp .eq 1011, 3, 1500, .null, 0, 0, 0),
  (492, .iconst 0, 1, 493, .int 0, 0, 0, 0),
  (493, .ireturn, 1, 494, .null, 0, 0, 0),
  (494, .aload_n 1, 1, 495, .null, 0, 0, 0),
  (495, .aload_n 0, 1, 496, .null, 0, 0, 0),
  (496, .iload_n 3, 1, 497, .null, 0, 0, 0),
  (497, .iconst 1, 1, 498, .int 1, 0, 0, 0),
  (498, .iadd, 1, 499, .null, 0, 0, 0),
  (499, .iaload, 1, 500, .null, 0, 0, 0),
  (500, .invokevirtual 48, 3, 503, .null, 0, 0, 0),
  (503, .aload_n 2, 1, 504, .null, 0, 0, 0),
  (504, .aload_n 0, 1, 505, .null, 0, 0, 0),
  (505, .iload_n 3, 1, 506, .null, 0, 0, 0),
  (506, .iconst 1, 1, 507, .int 1, 0, 0, 0),
  (507, .iadd, 1, 508, .null, 0, 0, 0),
  (508, .iaload, 1, 509, .null, 0, 0, 0),
  (509, .invokevirtual 51, 3, 512, .null, 0, 0, 0),
  (512, .if_icmp .eq 988, 3, 1500, .null, 0, 0, 0),
  (515, .iconst 0, 1, 516, .int 0, 0, 0, 0),
  (516, .ireturn, 1, 517, .null, 0, 0, 0),
  (517, .aload_n 1, 1, 518, .null, 0, 0, 0),
  (518, .aload_n 0, 1, 519, .null, 0, 0, 0),
  (519, .iload_n 3, 1, 520, .null, 0, 0, 0),
  (520, .iconst 1, 1, 521, .int 1, 0, 0, 0),
  (521, .iadd, 1, 522, .null, 0, 0, 0),
  (522, .iaload, 1, 523, .null, 0, 0, 0),
  (523, .invokevirtual 52, 3, 526, .null, 0, 0, 0),
  (526, .aload_n 2, 1, 527, .null, 0, 0, 0),
  (527, .aload_n 0, 1, 528, .null, 0, 0, 0),
  (528, .iload_n 3, 1, 529, .null, 0, 0, 0),
  (529, .iconst 1, 1, 530, .int 1, 0, 0, 0),
  (530, .iadd, 1, 531, .null, 0, 0, 0),
  (531, .iaload, 1, 532, .null, 0, 0, 0),
  (532, .invokevirtual 55, 3, 535, .null, 0, 0, 0),
  (535, .if_icmp .eq 965, 3, 1500, .null, 0, 0, 0),
  (538, .iconst 0, 1, 539, .int 0, 0, 0, 0),
  (539, .ireturn, 1, 540, .null, 0, 0, 0),
  (540, .aload_n 1, 1, 541, .null, 0, 0, 0),
  (541, .aload_n 0, 1, 542, .null, 0, 0, 0),
  (542, .iload_n 3, 1, 543, .null, 0, 0, 0),
  (543, .iconst 1, 1, 544, .int 1, 0, 0, 0),
  (544, .iadd, 1, 545, .null, 0, 0, 0),
  (545, .iaload, 1, 546, .null, 0, 0, 0),
  (546, .invokevirtual 56, 3, 549, .null, 0, 0, 0),
  (549, .aload_n 2, 1, 550, .null, 0, 0, 0),
  (550, .aload_n 0, 1, 551, .null, 0, 0, 0),
  (551, .iload_n 3, 1, 552, .null, 0, 0, 0),
  (552, .iconst 1, 1, 553, .int 1, 0, 0, 0),
  (553, .iadd, 1, 554, .null, 0, 0, 0),
  (554, .iaload, 1, 555, .null, 0, 0, 0),
  (555, .invokevirtual 59, 3, 558, .null, 0, 0, 0),
  (558, .if_icmp .eq 942, 3, 1500, .null, 0, 0, 0),
  (561, .iconst 0, 1, 562, .int 0, 0, 0, 0),
  (562, .ireturn, 1, 563, .null, 0, 0, 0),
  (563, .aload_n 1, 1, 564, .null, 0, 0, 0)]
set_option maxRecDepth 100000 in
theorem ek_L4 : e_L4.all (eok 12 code) = true := by decide +kernel
def e_L5 : List Ent := [
  (564, .aload_n 0, 1, 565, .null, 0, 0, 0),
  (565, .iload_n 3, 1, 566, .null, 0, 0, 0),
  (566, .iconst 1, 1, 567, .int 1, 0, 0, 0),
  (567, .iadd, 1, 568, .null, 0, 0, 0),
  (568, .iaload, 1, 569, .null, 0, 0, 0),
  (569, .invokevirtual 60, 3, 572, .null, 0, 0, 0),
  (572, .aload_n 2, 1, 573, .null, 0, 0, 0),
  (573, .aload_n 0, 1, 574, .null, 0, 0, 0),
  (574, .iload_n 3, 1, 575, .null, 0, 0, 0),
  (575, .iconst 1, 1, 576, .int 1, 0, 0, 0),
  (576, .iadd, 1, 577, .null, 0, 0, 0),
  (577, .iaload, 1, 578, .null, 0, 0, 0),
  (578, .invokevirtual 63, 3, 581, .null, 0, 0, 0),
  (581, .if_icmp .eq 919, 3, 1500, .null, 0, 0, 0),
  (584, .iconst 0, 1, 585, .int 0, 0, 0, 0),
  (585, .ireturn, 1, 586, .null, 0, 0, 0),
  (586, .aload_n 1, 1, 587, .null, 0, 0, 0),
  (587, .aload_n 0, 1, 588, .null, 0, 0, 0),
  (588, .iload_n 3, 1, 589, .null, 0, 0, 0),
  (589, .iconst 1, 1, 590, .int 1, 0, 0, 0),
  (590, .iadd, 1, 591, .null, 0, 0, 0),
  (591, .iaload, 1, 592, .null, 0, 0, 0),
  (592, .aload_n 0, 1, 593, .null, 0, 0, 0),
  (593, .iload_n 3, 1, 594, .null, 0, 0, 0),
  (594, .iconst 2, 1, 595, .int 2, 0, 0, 0),
  (595, .iadd, 1, 596, .null, 0, 0, 0),
  (596, .iaload, 1, 597, .null, 0, 0, 0),
  (597, .aload_n 0, 1, 598, .null, 0, 0, 0),
  (598, .iload_n 3, 1, 599, .null, 0, 0, 0),
  (599, .iconst 3, 1, 600, .int 3, 0, 0, 0),
  (600, .iadd, 1, 601, .null, 0, 0, 0),
  (601, .iaload, 1, 602, .null, 0, 0, 0),
  (602, .invokevirtual 64, 3, 605, .null, 0, 0, 0),
  (605, .aload_n 2, 1, 606, .null, 0, 0, 0),
  (606, .aload_n 0, 1, 607, .null, 0, 0, 0),
  (607, .iload_n 3, 1, 608, .null, 0, 0, 0),
  (608, .iconst 1, 1, 609, .int 1, 0, 0, 0),
  (609, .iadd, 1, 610, .null, 0, 0, 0),
  (610, .iaload, 1, 611, .null, 0, 0, 0),
  (611, .aload_n 0, 1, 612, .null, 0, 0, 0),
  (612, .iload_n 3, 1, 613, .null, 0, 0, 0),
  (613, .iconst 2, 1, 614, .int 2, 0, 0, 0),
  (614, .iadd, 1, 615, .null, 0, 0, 0),
  (615, .iaload, 1, 616, .null, 0, 0, 0),
  (616, .aload_n 0, 1, 617, .null, 0, 0, 0),
  (617, .iload_n 3, 1, 618, .null, 0, 0, 0),
  (618, .iconst 3, 1, 619, .int 3, 0, 0, 0),
  (619, .iadd, 1, 620, .null, 0, 0, 0),
  (620, .iaload, 1, 621, .null, 0, 0, 0),
  (621, .invokevirtual 67, 3, 624, .null, 0, 0, 0),
  (624, .if_icmp .eq 876, 3, 1500, .null, 0, 0, 0),
  (627, .iconst 0, 1, 628, .int 0, 0, 0, 0),
  (628, .ireturn, 1, 629, .null, 0, 0, 0),
  (629, .aload_n 1, 1, 630, .null, 0, 0, 0),
  (630, .aload_n 0, 1, 631, .null, 0, 0, 0),
  (631, .iload_n 3, 1, 632, .null, 0, 0, 0),
  (632, .iconst 1, 1, 633, .int 1, 0, 0, 0),
  (633, .iadd, 1, 634, .null, 0, 0, 0),
  (634, .iaload, 1, 635, .null, 0, 0, 0),
  (635, .aload_n 0, 1, 636, .null, 0, 0, 0)]
set_option maxRecDepth 100000 in
theorem ek_L5 : e_L5.all (eok 12 code) = true := by decide +kernel
def e_L6 : List Ent := [
  (636, .iload_n 3, 1, 637, .null, 0, 0, 0),
  (637, .iconst 2, 1, 638, .int 2, 0, 0, 0),
  (638, .iadd, 1, 639, .null, 0, 0, 0),
  (639, .iaload, 1, 640, .null, 0, 0, 0),
  (640, .aload_n 0, 1, 641, .null, 0, 0, 0),
  (641, .iload_n 3, 1, 642, .null, 0, 0, 0),
  (642, .iconst 3, 1, 643, .int 3, 0, 0, 0),
  (643, .iadd, 1, 644, .null, 0, 0, 0),
  (644, .iaload, 1, 645, .null, 0, 0, 0),
  (645, .invokevirtual 68, 3, 648, .null, 0, 0, 0),
  (648, .aload_n 2, 1, 649, .null, 0, 0, 0),
  (649, .aload_n 0, 1, 650, .null, 0, 0, 0),
  (650, .iload_n 3, 1, 651, .null, 0, 0, 0),
  (651, .iconst 1, 1, 652, .int 1, 0, 0, 0),
  (652, .iadd, 1, 653, .null, 0, 0, 0),
  (653, .iaload, 1, 654, .null, 0, 0, 0),
  (654, .aload_n 0, 1, 655, .null, 0, 0, 0),
  (655, .iload_n 3, 1, 656, .null, 0, 0, 0),
  (656, .iconst 2, 1, 657, .int 2, 0, 0, 0),
  (657, .iadd, 1, 658, .null, 0, 0, 0),
  (658, .iaload, 1, 659, .null, 0, 0, 0),
  (659, .aload_n 0, 1, 660, .null, 0, 0, 0),
  (660, .iload_n 3, 1, 661, .null, 0, 0, 0),
  (661, .iconst 3, 1, 662, .int 3, 0, 0, 0),
  (662, .iadd, 1, 663, .null, 0, 0, 0),
  (663, .iaload, 1, 664, .null, 0, 0, 0),
  (664, .invokevirtual 71, 3, 667, .null, 0, 0, 0),
  (667, .if_icmp .eq 833, 3, 1500, .null, 0, 0, 0),
  (670, .iconst 0, 1, 671, .int 0, 0, 0, 0),
  (671, .ireturn, 1, 672, .null, 0, 0, 0),
  (672, .aload_n 1, 1, 673, .null, 0, 0, 0),
  (673, .aload_n 0, 1, 674, .null, 0, 0, 0),
  (674, .iload_n 3, 1, 675, .null, 0, 0, 0),
  (675, .iconst 1, 1, 676, .int 1, 0, 0, 0),
  (676, .iadd, 1, 677, .null, 0, 0, 0),
  (677, .iaload, 1, 678, .null, 0, 0, 0),
  (678, .aload_n 0, 1, 679, .null, 0, 0, 0),
  (679, .iload_n 3, 1, 680, .null, 0, 0, 0),
  (680, .iconst 2, 1, 681, .int 2, 0, 0, 0),
  (681, .iadd, 1, 682, .null, 0, 0, 0),
  (682, .iaload, 1, 683, .null, 0, 0, 0),
  (683, .invokevirtual 72, 3, 686, .null, 0, 0, 0),
  (686, .aload_n 2, 1, 687, .null, 0, 0, 0),
  (687, .aload_n 0, 1, 688, .null, 0, 0, 0),
  (688, .iload_n 3, 1, 689, .null, 0, 0, 0),
  (689, .iconst 1, 1, 690, .int 1, 0, 0, 0),
  (690, .iadd, 1, 691, .null, 0, 0, 0),
  (691, .iaload, 1, 692, .null, 0, 0, 0),
  (692, .aload_n 0, 1, 693, .null, 0, 0, 0),
  (693, .iload_n 3, 1, 694, .null, 0, 0, 0),
  (694, .iconst 2, 1, 695, .int 2, 0, 0, 0),
  (695, .iadd, 1, 696, .null, 0, 0, 0),
  (696, .iaload, 1, 697, .null, 0, 0, 0),
  (697, .invokevirtual 75, 3, 700, .null, 0, 0, 0),
  (700, .if_icmp .eq 800, 3, 1500, .null, 0, 0, 0),
  (703, .iconst 0, 1, 704, .int 0, 0, 0, 0),
  (704, .ireturn, 1, 705, .null, 0, 0, 0),
  (705, .aload_n 1, 1, 706, .null, 0, 0, 0),
  (706, .aload_n 0, 1, 707, .null, 0, 0, 0),
  (707, .iload_n 3, 1, 708, .null, 0, 0, 0)]
set_option maxRecDepth 100000 in
theorem ek_L6 : e_L6.all (eok 12 code) = true := by decide +kernel
def e_L7 : List Ent := [
  (708, .iconst 1, 1, 709, .int 1, 0, 0, 0),
  (709, .iadd, 1, 710, .null, 0, 0, 0),
  (710, .iaload, 1, 711, .null, 0, 0, 0),
  (711, .aload_n 0, 1, 712, .null, 0, 0, 0),
  (712, .iload_n 3, 1, 713, .null, 0, 0, 0),
  (713, .iconst 2, 1, 714, .int 2, 0, 0, 0),
  (714, .iadd, 1, 715, .null, 0, 0, 0),
  (715, .iaload, 1, 716, .null, 0, 0, 0),
  (716, .invokevirtual 76, 3, 719, .null, 0, 0, 0),
  (719, .aload_n 2, 1, 720, .null, 0, 0, 0),
  (720, .aload_n 0, 1, 721, .null, 0, 0, 0),
  (721, .iload_n 3, 1, 722, .null, 0, 0, 0),
  (722, .iconst 1, 1, 723, .int 1, 0, 0, 0),
  (723, .iadd, 1, 724, .null, 0, 0, 0),
  (724, .iaload, 1, 725, .null, 0, 0, 0),
  (725, .aload_n 0, 1, 726, .null, 0, 0, 0),
  (726, .iload_n 3, 1, 727, .null, 0, 0, 0),
  (727, .iconst 2, 1, 728, .int 2, 0, 0, 0),
  (728, .iadd, 1, 729, .null, 0, 0, 0),
  (729, .iaload, 1, 730, .null, 0, 0, 0),
  (730, .invokevirtual 79, 3, 733, .null, 0, 0, 0),
  (733, .if_icmp .eq 767, 3, 1500, .null, 0, 0, 0),
  (736, .iconst 0, 1, 737, .int 0, 0, 0, 0),
  (737, .ireturn, 1, 738, .null, 0, 0, 0),
  (738, .aload_n 1, 1, 739, .null, 0, 0, 0),
  (739, .aload_n 0, 1, 740, .null, 0, 0, 0),
  (740, .iload_n 3, 1, 741, .null, 0, 0, 0),
  (741, .iconst 1, 1, 742, .int 1, 0, 0, 0),
  (742, .iadd, 1, 743, .null, 0, 0, 0),
  (743, .iaload, 1, 744, .null, 0, 0, 0),
  (744, .aload_n 0, 1, 745, .null, 0, 0, 0),
  (745, .iload_n 3, 1, 746, .null, 0, 0, 0),
  (746, .iconst 2, 1, 747, .int 2, 0, 0, 0),
  (747, .iadd, 1, 748, .null, 0, 0, 0),
  (748, .iaload, 1, 749, .null, 0, 0, 0),
  (749, .invokevirtual 80, 3, 752, .null, 0, 0, 0),
  (752, .aload_n 2, 1, 753, .null, 0, 0, 0),
  (753, .aload_n 0, 1, 754, .null, 0, 0, 0),
  (754, .iload_n 3, 1, 755, .null, 0, 0, 0),
  (755, .iconst 1, 1, 756, .int 1, 0, 0, 0),
  (756, .iadd, 1, 757, .null, 0, 0, 0),
  (757, .iaload, 1, 758, .null, 0, 0, 0),
  (758, .aload_n 0, 1, 759, .null, 0, 0, 0),
  (759, .iload_n 3, 1, 760, .null, 0, 0, 0),
  (760, .iconst 2, 1, 761, .int 2, 0, 0, 0),
  (761, .iadd, 1, 762, .null, 0, 0, 0),
  (762, .iaload, 1, 763, .null, 0, 0, 0),
  (763, .invokevirtual 83, 3, 766, .null, 0, 0, 0),
  (766, .if_icmp .eq 734, 3, 1500, .null, 0, 0, 0),
  (769, .iconst 0, 1, 770, .int 0, 0, 0, 0),
  (770, .ireturn, 1, 771, .null, 0, 0, 0),
  (771, .aload_n 1, 1, 772, .null, 0, 0, 0),
  (772, .aload_n 0, 1, 773, .null, 0, 0, 0),
  (773, .iload_n 3, 1, 774, .null, 0, 0, 0),
  (774, .iconst 1, 1, 775, .int 1, 0, 0, 0),
  (775, .iadd, 1, 776, .null, 0, 0, 0),
  (776, .iaload, 1, 777, .null, 0, 0, 0),
  (777, .invokevirtual 84, 3, 780, .null, 0, 0, 0),
  (780, .aload_n 2, 1, 781, .null, 0, 0, 0),
  (781, .aload_n 0, 1, 782, .null, 0, 0, 0)]
set_option maxRecDepth 100000 in
theorem ek_L7 : e_L7.all (eok 12 code) = true := by decide +kernel
def e_L8 : List Ent := [
  (782, .iload_n 3, 1, 783, .null, 0, 0, 0),
  (783, .iconst 1, 1, 784, .int 1, 0, 0, 0),
  (784, .iadd, 1, 785, .null, 0, 0, 0),
  (785, .iaload, 1, 786, .null, 0, 0, 0),
  (786, .invokevirtual 87, 3, 789, .null, 0, 0, 0),
  (789, .if_icmp .eq 711, 3, 1500, .null, 0, 0, 0),
  (792, .iconst 0, 1, 793, .int 0, 0, 0, 0),
  (793, .ireturn, 1, 794, .null, 0, 0, 0),
  (794, .aload_n 1, 1, 795, .null, 0, 0, 0),
  (795, .aload_n 0, 1, 796, .null, 0, 0, 0),
  (796, .iload_n 3, 1, 797, .null, 0, 0, 0),
  (797, .iconst 1, 1, 798, .int 1, 0, 0, 0),
  (798, .iadd, 1, 799, .null, 0, 0, 0),
  (799, .iaload, 1, 800, .null, 0, 0, 0),
  (800, .aload_n 0, 1, 801, .null, 0, 0, 0),
  (801, .iload_n 3, 1, 802, .null, 0, 0, 0),
  (802, .iconst 2, 1, 803, .int 2, 0, 0, 0),
  (803, .iadd, 1, 804, .null, 0, 0, 0),
  (804, .iaload, 1, 805, .null, 0, 0, 0),
  (805, .invokevirtual 88, 3, 808, .null, 0, 0, 0),
  (808, .aload_n 2, 1, 809, .null, 0, 0, 0),
  (809, .aload_n 0, 1, 810, .null, 0, 0, 0),
  (810, .iload_n 3, 1, 811, .null, 0, 0, 0),
  (811, .iconst 1, 1, 812, .int 1, 0, 0, 0),
  (812, .iadd, 1, 813, .null, 0, 0, 0),
  (813, .iaload, 1, 814, .null, 0, 0, 0),
  (814, .aload_n 0, 1, 815, .null, 0, 0, 0),
  (815, .iload_n 3, 1, 816, .null, 0, 0, 0),
  (816, .iconst 2, 1, 817, .int 2, 0, 0, 0),
  (817, .iadd, 1, 818, .null, 0, 0, 0),
  (818, .iaload, 1, 819, .null, 0, 0, 0),
  (819, .invokevirtual 91, 3, 822, .null, 0, 0, 0),
  (822, .if_icmp .eq 678, 3, 1500, .null, 0, 0, 0),
  (825, .iconst 0, 1, 826, .int 0, 0, 0, 0),
  (826, .ireturn, 1, 827, .null, 0, 0, 0),
  (827, .aload_n 1, 1, 828, .null, 0, 0, 0),
  (828, .aload_n 0, 1, 829, .null, 0, 0, 0),
  (829, .iload_n 3, 1, 830, .null, 0, 0, 0),
  (830, .iconst 1, 1, 831, .int 1, 0, 0, 0),
  (831, .iadd, 1, 832, .null, 0, 0, 0),
  (832, .iaload, 1, 833, .null, 0, 0, 0),
  (833, .aload_n 0, 1, 834, .null, 0, 0, 0),
  (834, .iload_n 3, 1, 835, .null, 0, 0, 0),
  (835, .iconst 2, 1, 836, .int 2, 0, 0, 0),
  (836, .iadd, 1, 837, .null, 0, 0, 0),
  (837, .iaload, 1, 838, .null, 0, 0, 0),
  (838, .invokevirtual 92, 3, 841, .null, 0, 0, 0),
  (841, .aload_n 2, 1, 842, .null, 0, 0, 0),
  (842, .aload_n 0, 1, 843, .null, 0, 0, 0),
  (843, .iload_n 3, 1, 844, .null, 0, 0, 0),
  (844, .iconst 1, 1, 845, .int 1, 0, 0, 0),
  (845, .iadd, 1, 846, .null, 0, 0, 0),
  (846, .iaload, 1, 847, .null, 0, 0, 0),
  (847, .aload_n 0, 1, 848, .null, 0, 0, 0),
  (848, .iload_n 3, 1, 849, .null, 0, 0, 0),
  (849, .iconst 2, 1, 850, .int 2, 0, 0, 0),
  (850, .iadd, 1, 851, .null, 0, 0, 0),
  (851, .iaload, 1, 852, .null, 0, 0, 0),
  (852, .invokevirtual 95, 3, 855, .null, 0, 0, 0),
  (855, .if_icmp .eq 645, 3, 1500, .null, 0, 0, 0)]
set_option maxRecDepth 100000 in
theorem ek_L8 : e_L8.all (eok 12 code) = true := by decide +kernel
def e_L9 : List Ent := [
  (858, .iconst 0, 1, 859, .int 0, 0, 0, 0),
  (859, .ireturn, 1, 860, .null, 0, 0, 0),
  (860, .aload_n 1, 1, 861, .null, 0, 0, 0),
  (861, .aload_n 0, 1, 862, .null, 0, 0, 0),
  (862, .iload_n 3, 1, 863, .null, 0, 0, 0),
  (863, .iconst 1, 1, 864, .int 1, 0, 0, 0),
  (864, .iadd, 1, 865, .null, 0, 0, 0),
  (865, .iaload, 1, 866, .null, 0, 0, 0),
  (866, .aload_n 0, 1, 867, .null, 0, 0, 0),
  (867, .iload_n 3, 1, 868, .null, 0, 0, 0),
  (868, .iconst 2, 1, 869, .int 2, 0, 0, 0),
  (869, .iadd, 1, 870, .null, 0, 0, 0),
  (870, .iaload, 1, 871, .null, 0, 0, 0),
  (871, .invokevirtual 96, 3, 874, .null, 0, 0, 0),
  (874, .aload_n 2, 1, 875, .null, 0, 0, 0),
  (875, .aload_n 0, 1, 876, .null, 0, 0, 0),
  (876, .iload_n 3, 1, 877, .null, 0, 0, 0),
  (877, .iconst 1, 1, 878, .int 1, 0, 0, 0),
  (878, .iadd, 1, 879, .null, 0, 0, 0),
  (879, .iaload, 1, 880, .null, 0, 0, 0),
  (880, .aload_n 0, 1, 881, .null, 0, 0, 0),
  (881, .iload_n 3, 1, 882, .null, 0, 0, 0),
  (882, .iconst 2, 1, 883, .int 2, 0, 0, 0),
  (883, .iadd, 1, 884, .null, 0, 0, 0),
  (884, .iaload, 1, 885, .null, 0, 0, 0),
  (885, .invokevirtual 99, 3, 888, .null, 0, 0, 0),
  (888, .if_icmp .eq 612, 3, 1500, .null, 0, 0, 0),
  (891, .iconst 0, 1, 892, .int 0, 0, 0, 0),
  (892, .ireturn, 1, 893, .null, 0, 0, 0),
  (893, .aload_n 1, 1, 894, .null, 0, 0, 0),
  (894, .aload_n 0, 1, 895, .null, 0, 0, 0),
  (895, .iload_n 3, 1, 896, .null, 0, 0, 0),
  (896, .iconst 1, 1, 897, .int 1, 0, 0, 0),
  (897, .iadd, 1, 898, .null, 0, 0, 0),
  (898, .iaload, 1, 899, .null, 0, 0, 0),
  (899, .aload_n 0, 1, 900, .null, 0, 0, 0),
  (900, .iload_n 3, 1, 901, .null, 0, 0, 0),
  (901, .iconst 2, 1, 902, .int 2, 0, 0, 0),
  (902, .iadd, 1, 903, .null, 0, 0, 0),
  (903, .iaload, 1, 904, .null, 0, 0, 0),
  (904, .invokevirtual 100, 3, 907, .null, 0, 0, 0),
  (907, .aload_n 2, 1, 908, .null, 0, 0, 0),
  (908, .aload_n 0, 1, 909, .null, 0, 0, 0),
  (909, .iload_n 3, 1, 910, .null, 0, 0, 0),
  (910, .iconst 1, 1, 911, .int 1, 0, 0, 0),
  (911, .iadd, 1, 912, .null, 0, 0, 0),
  (912, .iaload, 1, 913, .null, 0, 0, 0),
  (913, .aload_n 0, 1, 914, .null, 0, 0, 0),
  (914, .iload_n 3, 1, 915, .null, 0, 0, 0),
  (915, .iconst 2, 1, 916, .int 2, 0, 0, 0),
  (916, .iadd, 1, 917, .null, 0, 0, 0),
  (917, .iaload, 1, 918, .null, 0, 0, 0),
  (918, .invokevirtual 103, 3, 921, .null, 0, 0, 0),
  (921, .if_icmp .eq 579, 3, 1500, .null, 0, 0, 0),
  (924, .iconst 0, 1, 925, .int 0, 0, 0, 0),
  (925, .ireturn, 1, 926, .null, 0, 0, 0),
  (926, .aload_n 1, 1, 927, .null, 0, 0, 0),
  (927, .aload_n 0, 1, 928, .null, 0, 0, 0),
  (928, .iload_n 3, 1, 929, .null, 0, 0, 0),
  (929, .iconst 1, 1, 930, .int 1, 0, 0, 0)]
set_option maxRecDepth 100000 in
theorem ek_L9 : e_L9.all (eok 12 code) = true := by decide +kernel
def e_L10 : List Ent := [
  (930, .iadd, 1, 931, .null, 0, 0, 0),
  (931, .iaload, 1, 932, .null, 0, 0, 0),
  (932, .invokevirtual 104, 3, 935, .null, 0, 0, 0),
  (935, .aload_n 2, 1, 936, .null, 0, 0, 0),
  (936, .aload_n 0, 1, 937, .null, 0, 0, 0),
  (937, .iload_n 3, 1, 938, .null, 0, 0, 0),
  (938, .iconst 1, 1, 939, .int 1, 0, 0, 0),
  (939, .iadd, 1, 940, .null, 0, 0, 0),
  (940, .iaload, 1, 941, .null, 0, 0, 0),
  (941, .invokevirtual 107, 3, 944, .null, 0, 0, 0),
  (944, .if_icmp .eq 556, 3, 1500, .null, 0, 0, 0),
  (947, .iconst 0, 1, 948, .int 0, 0, 0, 0),
  (948, .ireturn, 1, 949, .null, 0, 0, 0),
  (949, .aload_n 1, 1, 950, .null, 0, 0, 0),
  (950, .aload_n 0, 1, 951, .null, 0, 0, 0),
  (951, .iload_n 3, 1, 952, .null, 0, 0, 0),
  (952, .iconst 1, 1, 953, .int 1, 0, 0, 0),
  (953, .iadd, 1, 954, .null, 0, 0, 0),
  (954, .iaload, 1, 955, .null, 0, 0, 0),
  (955, .aload_n 0, 1, 956, .null, 0, 0, 0),
  (956, .iload_n 3, 1, 957, .null, 0, 0, 0),
  (957, .iconst 2, 1, 958, .int 2, 0, 0, 0),
  (958, .iadd, 1, 959, .null, 0, 0, 0),
  (959, .iaload, 1, 960, .null, 0, 0, 0),
  (960, .invokevirtual 108, 3, 963, .null, 0, 0, 0),
  (963, .aload_n 2, 1, 964, .null, 0, 0, 0),
  (964, .aload_n 0, 1, 965, .null, 0, 0, 0),
  (965, .iload_n 3, 1, 966, .null, 0, 0, 0),
  (966, .iconst 1, 1, 967, .int 1, 0, 0, 0),
  (967, .iadd, 1, 968, .null, 0, 0, 0),
  (968, .iaload, 1, 969, .null, 0, 0, 0),
  (969, .aload_n 0, 1, 970, .null, 0, 0, 0),
  (970, .iload_n 3, 1, 971, .null, 0, 0, 0),
  (971, .iconst 2, 1, 972, .int 2, 0, 0, 0),
  (972, .iadd, 1, 973, .null, 0, 0, 0),
  (973, .iaload, 1, 974, .null, 0, 0, 0),
  (974, .invokevirtual 111, 3, 977, .null, 0, 0, 0),
  (977, .if_icmp .eq 523, 3, 1500, .null, 0, 0, 0),
  (980, .iconst 0, 1, 981, .int 0, 0, 0, 0),
  (981, .ireturn, 1, 982, .null, 0, 0, 0),
  (982, .aload_n 1, 1, 983, .null, 0, 0, 0),
  (983, .aload_n 0, 1, 984, .null, 0, 0, 0),
  (984, .iload_n 3, 1, 985, .null, 0, 0, 0),
  (985, .iconst 1, 1, 986, .int 1, 0, 0, 0),
  (986, .iadd, 1, 987, .null, 0, 0, 0),
  (987, .iaload, 1, 988, .null, 0, 0, 0),
  (988, .aload_n 0, 1, 989, .null, 0, 0, 0),
  (989, .iload_n 3, 1, 990, .null, 0, 0, 0),
  (990, .iconst 2, 1, 991, .int 2, 0, 0, 0),
  (991, .iadd, 1, 992, .null, 0, 0, 0),
  (992, .iaload, 1, 993, .null, 0, 0, 0),
  (993, .invokevirtual 112, 3, 996, .null, 0, 0, 0),
  (996, .aload_n 2, 1, 997, .null, 0, 0, 0),
  (997, .aload_n 0, 1, 998, .null, 0, 0, 0),
  (998, .iload_n 3, 1, 999, .null, 0, 0, 0),
  (999, .iconst 1, 1, 1000, .int 1, 0, 0, 0),
  (1000, .iadd, 1, 1001, .null, 0, 0, 0),
  (1001, .iaload, 1, 1002, .null, 0, 0, 0),
  (1002, .aload_n 0, 1, 1003, .null, 0, 0, 0),
  (1003, .iload_n 3, 1, 1004, .null, 0, 0, 0)]
set_option maxRecDepth 100000 in
theorem ek_L10 : e_L10.all (eok 12 code) = true := by decide +kernel
def e_L11 : List Ent := [
  (1004, .iconst 2, 1, 1005, .int 2, 0, 0, 0),
  (1005, .iadd, 1, 1006, .null, 0, 0, 0),
  (1006, .iaload, 1, 1007, .null, 0, 0, 0),
  (1007, .invokevirtual 115, 3, 1010, .null, 0, 0, 0),
  (1010, .if_icmp .eq 490, 3, 1500, .null, 0, 0, 0),
  (1013, .iconst 0, 1, 1014, .int 0, 0, 0, 0),
  (1014, .ireturn, 1, 1015, .null, 0, 0, 0),
  (1015, .aload_n 1, 1, 1016, .null, 0, 0, 0),
  (1016, .aload_n 0, 1, 1017, .null, 0, 0, 0),
  (1017, .iload_n 3, 1, 1018, .null, 0, 0, 0),
  (1018, .iconst 1, 1, 1019, .int 1, 0, 0, 0),
  (1019, .iadd, 1, 1020, .null, 0, 0, 0),
  (1020, .iaload, 1, 1021, .null, 0, 0, 0),
  (1021, .invokevirtual 116, 3, 1024, .null, 0, 0, 0),
  (1024, .aload_n 2, 1, 1025, .null, 0, 0, 0),
  (1025, .aload_n 0, 1, 1026, .null, 0, 0, 0),
  (1026, .iload_n 3, 1, 1027, .null, 0, 0, 0),
  (1027, .iconst 1, 1, 1028, .int 1, 0, 0, 0),
  (1028, .iadd, 1, 1029, .null, 0, 0, 0),
  (1029, .iaload, 1, 1030, .null, 0, 0, 0),
  (1030, .invokevirtual 119, 3, 1033, .null, 0, 0, 0),
  (1033, .if_icmp .eq 467, 3, 1500, .null, 0, 0, 0),
  (1036, .iconst 0, 1, 1037, .int 0, 0, 0, 0),
  (1037, .ireturn, 1, 1038, .null, 0, 0, 0),
  (1038, .aload_n 1, 1, 1039, .null, 0, 0, 0),
  (1039, .aload_n 0, 1, 1040, .null, 0, 0, 0),
  (1040, .iload_n 3, 1, 1041, .null, 0, 0, 0),
  (1041, .iconst 1, 1, 1042, .int 1, 0, 0, 0),
  (1042, .iadd, 1, 1043, .null, 0, 0, 0),
  (1043, .iaload, 1, 1044, .null, 0, 0, 0),
  (1044, .aload_n 0, 1, 1045, .null, 0, 0, 0),
  (1045, .iload_n 3, 1, 1046, .null, 0, 0, 0),
  (1046, .iconst 2, 1, 1047, .int 2, 0, 0, 0),
  (1047, .iadd, 1, 1048, .null, 0, 0, 0),
  (1048, .iaload, 1, 1049, .null, 0, 0, 0),
  (1049, .invokevirtual 120, 3, 1052, .null, 0, 0, 0),
  (1052, .aload_n 2, 1, 1053, .null, 0, 0, 0),
  (1053, .aload_n 0, 1, 1054, .null, 0, 0, 0),
  (1054, .iload_n 3, 1, 1055, .null, 0, 0, 0),
  (1055, .iconst 1, 1, 1056, .int 1, 0, 0, 0),
  (1056, .iadd, 1, 1057, .null, 0, 0, 0),
  (1057, .iaload, 1, 1058, .null, 0, 0, 0),
  (1058, .aload_n 0, 1, 1059, .null, 0, 0, 0),
  (1059, .iload_n 3, 1, 1060, .null, 0, 0, 0),
  (1060, .iconst 2, 1, 1061, .int 2, 0, 0, 0),
  (1061, .iadd, 1, 1062, .null, 0, 0, 0),
  (1062, .iaload, 1, 1063, .null, 0, 0, 0),
  (1063, .invokevirtual 124, 3, 1066, .null, 0, 0, 0),
  (1066, .lcmp, 1, 1067, .null, 0, 0, 0),
  (1067, .ifCond .eq 433, 3, 1500, .null, 0, 0, 0),
  (1070, .iconst 0, 1, 1071, .int 0, 0, 0, 0),
  (1071, .ireturn, 1, 1072, .null, 0, 0, 0),
  (1072, .aload_n 1, 1, 1073, .null, 0, 0, 0),
  (1073, .aload_n 0, 1, 1074, .null, 0, 0, 0),
  (1074, .iload_n 3, 1, 1075, .null, 0, 0, 0),
  (1075, .iconst 1, 1, 1076, .int 1, 0, 0, 0),
  (1076, .iadd, 1, 1077, .null, 0, 0, 0),
  (1077, .iaload, 1, 1078, .null, 0, 0, 0),
  (1078, .invokevirtual 125, 3, 1081, .null, 0, 0, 0),
  (1081, .aload_n 2, 1, 1082, .null, 0, 0, 0)]
set_option maxRecDepth 100000 in
theorem ek_L11 : e_L11.all (eok 12 code) = true := by decide +kernel
def e_L12 : List Ent := [
  (1082, .aload_n 0, 1, 1083, .null, 0, 0, 0),
  (1083, .iload_n 3, 1, 1084, .null, 0, 0, 0),
  (1084, .iconst 1, 1, 1085, .int 1, 0, 0, 0),
  (1085, .iadd, 1, 1086, .null, 0, 0, 0),
  (1086, .iaload, 1, 1087, .null, 0, 0, 0),
  (1087, .invokevirtual 128, 3, 1090, .null, 0, 0, 0),
  (1090, .if_icmp .eq 410, 3, 1500, .null, 0, 0, 0),
  (1093, .iconst 0, 1, 1094, .int 0, 0, 0, 0),
  (1094, .ireturn, 1, 1095, .null, 0, 0, 0),
  (1095, .aload_n 1, 1, 1096, .null, 0, 0, 0),
  (1096, .aload_n 0, 1, 1097, .null, 0, 0, 0),
  (1097, .iload_n 3, 1, 1098, .null, 0, 0, 0),
  (1098, .iconst 1, 1, 1099, .int 1, 0, 0, 0),
  (1099, .iadd, 1, 1100, .null, 0, 0, 0),
  (1100, .iaload, 1, 1101, .null, 0, 0, 0),
  (1101, .aload_n 0, 1, 1102, .null, 0, 0, 0),
  (1102, .iload_n 3, 1, 1103, .null, 0, 0, 0),
  (1103, .iconst 2, 1, 1104, .int 2, 0, 0, 0),
  (1104, .iadd, 1, 1105, .null, 0, 0, 0),
  (1105, .iaload, 1, 1106, .null, 0, 0, 0),
  (1106, .invokevirtual 129, 3, 1109, .null, 0, 0, 0),
  (1109, .aload_n 2, 1, 1110, .null, 0, 0, 0),
  (1110, .aload_n 0, 1, 1111, .null, 0, 0, 0),
  (1111, .iload_n 3, 1, 1112, .null, 0, 0, 0),
  (1112, .iconst 1, 1, 1113, .int 1, 0, 0, 0),
  (1113, .iadd, 1, 1114, .null, 0, 0, 0),
  (1114, .iaload, 1, 1115, .null, 0, 0, 0),
  (1115, .aload_n 0, 1, 1116, .null, 0, 0, 0),
  (1116, .iload_n 3, 1, 1117, .null, 0, 0, 0),
  (1117, .iconst 2, 1, 1118, .int 2, 0, 0, 0),
  (1118, .iadd, 1, 1119, .null, 0, 0, 0),
  (1119, .iaload, 1, 1120, .null, 0, 0, 0),
  (1120, .invokevirtual 132, 3, 1123, .null, 0, 0, 0),
  (1123, .if_icmp .eq 377, 3, 1500, .null, 0, 0, 0),
  (1126, .iconst 0, 1, 1127, .int 0, 0, 0, 0),
  (1127, .ireturn, 1, 1128, .null, 0, 0, 0),
  (1128, .aload_n 1, 1, 1129, .null, 0, 0, 0),
  (1129, .invokevirtual 133, 3, 1132, .null, 0, 0, 0),
  (1132, .aload_n 2, 1, 1133, .null, 0, 0, 0),
  (1133, .invokevirtual 137, 3, 1136, .null, 0, 0, 0),
  (1136, .if_icmp .eq 364, 3, 1500, .null, 0, 0, 0),
  (1139, .iconst 0, 1, 1140, .int 0, 0, 0, 0),
  (1140, .ireturn, 1, 1141, .null, 0, 0, 0),
  (1141, .aload_n 1, 1, 1142, .null, 0, 0, 0),
  (1142, .invokevirtual 138, 3, 1145, .null, 0, 0, 0),
  (1145, .aload_n 2, 1, 1146, .null, 0, 0, 0),
  (1146, .invokevirtual 141, 3, 1149, .null, 0, 0, 0),
  (1149, .if_icmp .eq 351, 3, 1500, .null, 0, 0, 0),
  (1152, .iconst 0, 1, 1153, .int 0, 0, 0, 0),
  (1153, .ireturn, 1, 1154, .null, 0, 0, 0),
  (1154, .aload_n 1, 1, 1155, .null, 0, 0, 0),
  (1155, .aload_n 0, 1, 1156, .null, 0, 0, 0),
  (1156, .iload_n 3, 1, 1157, .null, 0, 0, 0),
  (1157, .iconst 1, 1, 1158, .int 1, 0, 0, 0),
  (1158, .iadd, 1, 1159, .null, 0, 0, 0),
  (1159, .iaload, 1, 1160, .null, 0, 0, 0),
  (1160, .aload_n 0, 1, 1161, .null, 0, 0, 0),
  (1161, .iload_n 3, 1, 1162, .null, 0, 0, 0),
  (1162, .iconst 2, 1, 1163, .int 2, 0, 0, 0),
  (1163, .iadd, 1, 1164, .null, 0, 0, 0)]
set_option maxRecDepth 100000 in
theorem ek_L12 : e_L12.all (eok 12 code) = true := by decide +kernel
def e_L13 : List Ent := [
  (1164, .iaload, 1, 1165, .null, 0, 0, 0),
  (1165, .invokevirtual 142, 3, 1168, .null, 0, 0, 0),
  (1168, .aload_n 2, 1, 1169, .null, 0, 0, 0),
  (1169, .aload_n 0, 1, 1170, .null, 0, 0, 0),
  (1170, .iload_n 3, 1, 1171, .null, 0, 0, 0),
  (1171, .iconst 1, 1, 1172, .int 1, 0, 0, 0),
  (1172, .iadd, 1, 1173, .null, 0, 0, 0),
  (1173, .iaload, 1, 1174, .null, 0, 0, 0),
  (1174, .aload_n 0, 1, 1175, .null, 0, 0, 0),
  (1175, .iload_n 3, 1, 1176, .null, 0, 0, 0),
  (1176, .iconst 2, 1, 1177, .int 2, 0, 0, 0),
  (1177, .iadd, 1, 1178, .null, 0, 0, 0),
  (1178, .iaload, 1, 1179, .null, 0, 0, 0),
  (1179, .invokevirtual 145, 3, 1182, .null, 0, 0, 0),
  (1182, .if_icmp .eq 318, 3, 1500, .null, 0, 0, 0),
  (1185, .iconst 0, 1, 1186, .int 0, 0, 0, 0),
  (1186, .ireturn, 1, 1187, .null, 0, 0, 0),
  (1187, .aload_n 1, 1, 1188, .null, 0, 0, 0),
  (1188, .aload_n 0, 1, 1189, .null, 0, 0, 0),
  (1189, .iload_n 3, 1, 1190, .null, 0, 0, 0),
  (1190, .iconst 1, 1, 1191, .int 1, 0, 0, 0),
  (1191, .iadd, 1, 1192, .null, 0, 0, 0),
  (1192, .iaload, 1, 1193, .null, 0, 0, 0),
  (1193, .aload_n 0, 1, 1194, .null, 0, 0, 0),
  (1194, .iload_n 3, 1, 1195, .null, 0, 0, 0),
  (1195, .iconst 2, 1, 1196, .int 2, 0, 0, 0),
  (1196, .iadd, 1, 1197, .null, 0, 0, 0),
  (1197, .iaload, 1, 1198, .null, 0, 0, 0),
  (1198, .invokevirtual 146, 3, 1201, .null, 0, 0, 0),
  (1201, .aload_n 2, 1, 1202, .null, 0, 0, 0),
  (1202, .aload_n 0, 1, 1203, .null, 0, 0, 0),
  (1203, .iload_n 3, 1, 1204, .null, 0, 0, 0),
  (1204, .iconst 1, 1, 1205, .int 1, 0, 0, 0),
  (1205, .iadd, 1, 1206, .null, 0, 0, 0),
  (1206, .iaload, 1, 1207, .null, 0, 0, 0),
  (1207, .aload_n 0, 1, 1208, .null, 0, 0, 0),
  (1208, .iload_n 3, 1, 1209, .null, 0, 0, 0),
  (1209, .iconst 2, 1, 1210, .int 2, 0, 0, 0),
  (1210, .iadd, 1, 1211, .null, 0, 0, 0),
  (1211, .iaload, 1, 1212, .null, 0, 0, 0),
  (1212, .invokevirtual 149, 3, 1215, .null, 0, 0, 0),
  (1215, .if_icmp .eq 285, 3, 1500, .null, 0, 0, 0),
  (1218, .iconst 0, 1, 1219, .int 0, 0, 0, 0),
  (1219, .ireturn, 1, 1220, .null, 0, 0, 0),
  (1220, .aload_n 1, 1, 1221, .null, 0, 0, 0),
  (1221, .aload_n 0, 1, 1222, .null, 0, 0, 0),
  (1222, .iload_n 3, 1, 1223, .null, 0, 0, 0),
  (1223, .iconst 1, 1, 1224, .int 1, 0, 0, 0),
  (1224, .iadd, 1, 1225, .null, 0, 0, 0),
  (1225, .iaload, 1, 1226, .null, 0, 0, 0),
  (1226, .aload_n 0, 1, 1227, .null, 0, 0, 0),
  (1227, .iload_n 3, 1, 1228, .null, 0, 0, 0),
  (1228, .iconst 2, 1, 1229, .int 2, 0, 0, 0),
  (1229, .iadd, 1, 1230, .null, 0, 0, 0),
  (1230, .iaload, 1, 1231, .null, 0, 0, 0),
  (1231, .aload_n 0, 1, 1232, .null, 0, 0, 0),
  (1232, .iload_n 3, 1, 1233, .null, 0, 0, 0),
  (1233, .iconst 3, 1, 1234, .int 3, 0, 0, 0),
  (1234, .iadd, 1, 1235, .null, 0, 0, 0),
  (1235, .iaload, 1, 1236, .null, 0, 0, 0)]
set_option maxRecDepth 100000 in
theorem ek_L13 : e_L13.all (eok 12 code) = true := by decide +kernel
def e_L14 : List Ent := [
  (1236, .invokevirtual 150, 3, 1239, .null, 0, 0, 0),
  (1239, .aload_n 2, 1, 1240, .null, 0, 0, 0),
  (1240, .aload_n 0, 1, 1241, .null, 0, 0, 0),
  (1241, .iload_n 3, 1, 1242, .null, 0, 0, 0),
  (1242, .iconst 1, 1, 1243, .int 1, 0, 0, 0),
  (1243, .iadd, 1, 1244, .null, 0, 0, 0),
  (1244, .iaload, 1, 1245, .null, 0, 0, 0),
  (1245, .aload_n 0, 1, 1246, .null, 0, 0, 0),
  (1246, .iload_n 3, 1, 1247, .null, 0, 0, 0),
  (1247, .iconst 2, 1, 1248, .int 2, 0, 0, 0),
  (1248, .iadd, 1, 1249, .null, 0, 0, 0),
  (1249, .iaload, 1, 1250, .null, 0, 0, 0),
  (1250, .aload_n 0, 1, 1251, .null, 0, 0, 0),
  (1251, .iload_n 3, 1, 1252, .null, 0, 0, 0),
  (1252, .iconst 3, 1, 1253, .int 3, 0, 0, 0),
  (1253, .iadd, 1, 1254, .null, 0, 0, 0),
  (1254, .iaload, 1, 1255, .null, 0, 0, 0),
  (1255, .invokevirtual 153, 3, 1258, .null, 0, 0, 0),
  (1258, .if_icmp .eq 242, 3, 1500, .null, 0, 0, 0),
  (1261, .iconst 0, 1, 1262, .int 0, 0, 0, 0),
  (1262, .ireturn, 1, 1263, .null, 0, 0, 0),
  (1263, .aload_n 1, 1, 1264, .null, 0, 0, 0),
  (1264, .aload_n 0, 1, 1265, .null, 0, 0, 0),
  (1265, .iload_n 3, 1, 1266, .null, 0, 0, 0),
  (1266, .iconst 1, 1, 1267, .int 1, 0, 0, 0),
  (1267, .iadd, 1, 1268, .null, 0, 0, 0),
  (1268, .iaload, 1, 1269, .null, 0, 0, 0),
  (1269, .aload_n 0, 1, 1270, .null, 0, 0, 0),
  (1270, .iload_n 3, 1, 1271, .null, 0, 0, 0),
  (1271, .iconst 2, 1, 1272, .int 2, 0, 0, 0),
  (1272, .iadd, 1, 1273, .null, 0, 0, 0),
  (1273, .iaload, 1, 1274, .null, 0, 0, 0),
  (1274, .aload_n 0, 1, 1275, .null, 0, 0, 0),
  (1275, .iload_n 3, 1, 1276, .null, 0, 0, 0),
  (1276, .iconst 3, 1, 1277, .int 3, 0, 0, 0),
  (1277, .iadd, 1, 1278, .null, 0, 0, 0),
  (1278, .iaload, 1, 1279, .null, 0, 0, 0),
  (1279, .invokevirtual 154, 3, 1282, .null, 0, 0, 0),
  (1282, .aload_n 2, 1, 1283, .null, 0, 0, 0),
  (1283, .aload_n 0, 1, 1284, .null, 0, 0, 0),
  (1284, .iload_n 3, 1, 1285, .null, 0, 0, 0),
  (1285, .iconst 1, 1, 1286, .int 1, 0, 0, 0),
  (1286, .iadd, 1, 1287, .null, 0, 0, 0),
  (1287, .iaload, 1, 1288, .null, 0, 0, 0),
  (1288, .aload_n 0, 1, 1289, .null, 0, 0, 0),
  (1289, .iload_n 3, 1, 1290, .null, 0, 0, 0),
  (1290, .iconst 2, 1, 1291, .int 2, 0, 0, 0),
  (1291, .iadd, 1, 1292, .null, 0, 0, 0),
  (1292, .iaload, 1, 1293, .null, 0, 0, 0),
  (1293, .aload_n 0, 1, 1294, .null, 0, 0, 0),
  (1294, .iload_n 3, 1, 1295, .null, 0, 0, 0),
  (1295, .iconst 3, 1, 1296, .int 3, 0, 0, 0),
  (1296, .iadd, 1, 1297, .null, 0, 0, 0),
  (1297, .iaload, 1, 1298, .null, 0, 0, 0),
  (1298, .invokevirtual 157, 3, 1301, .null, 0, 0, 0),
  (1301, .if_icmp .eq 199, 3, 1500, .null, 0, 0, 0),
  (1304, .iconst 0, 1, 1305, .int 0, 0, 0, 0),
  (1305, .ireturn, 1, 1306, .null, 0, 0, 0),
  (1306, .aload_n 1, 1, 1307, .null, 0, 0, 0),
  (1307, .aload_n 0, 1, 1308, .null, 0, 0, 0)]
set_option maxRecDepth 100000 in
theorem ek_L14 : e_L14.all (eok 12 code) = true := by decide +kernel
def e_L15 : List Ent := [
  (1308, .iload_n 3, 1, 1309, .null, 0, 0, 0),
  (1309, .iconst 1, 1, 1310, .int 1, 0, 0, 0),
  (1310, .iadd, 1, 1311, .null, 0, 0, 0),
  (1311, .iaload, 1, 1312, .null, 0, 0, 0),
  (1312, .aload_n 0, 1, 1313, .null, 0, 0, 0),
  (1313, .iload_n 3, 1, 1314, .null, 0, 0, 0),
  (1314, .iconst 2, 1, 1315, .int 2, 0, 0, 0),
  (1315, .iadd, 1, 1316, .null, 0, 0, 0),
  (1316, .iaload, 1, 1317, .null, 0, 0, 0),
  (1317, .aload_n 0, 1, 1318, .null, 0, 0, 0),
  (1318, .iload_n 3, 1, 1319, .null, 0, 0, 0),
  (1319, .iconst 3, 1, 1320, .int 3, 0, 0, 0),
  (1320, .iadd, 1, 1321, .null, 0, 0, 0),
  (1321, .iaload, 1, 1322, .null, 0, 0, 0),
  (1322, .aload_n 0, 1, 1323, .null, 0, 0, 0),
  (1323, .iload_n 3, 1, 1324, .null, 0, 0, 0),
  (1324, .iconst 4, 1, 1325, .int 4, 0, 0, 0),
  (1325, .iadd, 1, 1326, .null, 0, 0, 0),
  (1326, .iaload, 1, 1327, .null, 0, 0, 0),
  (1327, .aload_n 0, 1, 1328, .null, 0, 0, 0),
  (1328, .iload_n 3, 1, 1329, .null, 0, 0, 0),
  (1329, .iconst 5, 1, 1330, .int 5, 0, 0, 0),
  (1330, .iadd, 1, 1331, .null, 0, 0, 0),
  (1331, .iaload, 1, 1332, .null, 0, 0, 0),
  (1332, .invokevirtual 158, 3, 1335, .null, 0, 0, 0),
  (1335, .aload_n 2, 1, 1336, .null, 0, 0, 0),
  (1336, .aload_n 0, 1, 1337, .null, 0, 0, 0),
  (1337, .iload_n 3, 1, 1338, .null, 0, 0, 0),
  (1338, .iconst 1, 1, 1339, .int 1, 0, 0, 0),
  (1339, .iadd, 1, 1340, .null, 0, 0, 0),
  (1340, .iaload, 1, 1341, .null, 0, 0, 0),
  (1341, .aload_n 0, 1, 1342, .null, 0, 0, 0),
  (1342, .iload_n 3, 1, 1343, .null, 0, 0, 0),
  (1343, .iconst 2, 1, 1344, .int 2, 0, 0, 0),
  (1344, .iadd, 1, 1345, .null, 0, 0, 0),
  (1345, .iaload, 1, 1346, .null, 0, 0, 0),
  (1346, .aload_n 0, 1, 1347, .null, 0, 0, 0),
  (1347, .iload_n 3, 1, 1348, .null, 0, 0, 0),
  (1348, .iconst 3, 1, 1349, .int 3, 0, 0, 0),
  (1349, .iadd, 1, 1350, .null, 0, 0, 0),
  (1350, .iaload, 1, 1351, .null, 0, 0, 0),
  (1351, .aload_n 0, 1, 1352, .null, 0, 0, 0),
  (1352, .iload_n 3, 1, 1353, .null, 0, 0, 0),
  (1353, .iconst 4, 1, 1354, .int 4, 0, 0, 0),
  (1354, .iadd, 1, 1355, .null, 0, 0, 0),
  (1355, .iaload, 1, 1356, .null, 0, 0, 0),
  (1356, .aload_n 0, 1, 1357, .null, 0, 0, 0),
  (1357, .iload_n 3, 1, 1358, .null, 0, 0, 0),
  (1358, .iconst 5, 1, 1359, .int 5, 0, 0, 0),
  (1359, .iadd, 1, 1360, .null, 0, 0, 0),
  (1360, .iaload, 1, 1361, .null, 0, 0, 0),
  (1361, .invokevirtual 162, 3, 1364, .null, 0, 0, 0),
  (1364, .if_icmp .eq 136, 3, 1500, .null, 0, 0, 0),
  (1367, .iconst 0, 1, 1368, .int 0, 0, 0, 0),
  (1368, .ireturn, 1, 1369, .null, 0, 0, 0),
  (1369, .aload_n 1, 1, 1370, .null, 0, 0, 0),
  (1370, .aload_n 0, 1, 1371, .null, 0, 0, 0),
  (1371, .iload_n 3, 1, 1372, .null, 0, 0, 0),
  (1372, .iconst 1, 1, 1373, .int 1, 0, 0, 0),
  (1373, .iadd, 1, 1374, .null, 0, 0, 0)]
set_option maxRecDepth 100000 in
theorem ek_L15 : e_L15.all (eok 12 code) = true := by decide +kernel
def e_L16 : List Ent := [
  (1374, .iaload, 1, 1375, .null, 0, 0, 0),
  (1375, .invokevirtual 163, 3, 1378, .null, 0, 0, 0),
  (1378, .aload_n 2, 1, 1379, .null, 0, 0, 0),
  (1379, .aload_n 0, 1, 1380, .null, 0, 0, 0),
  (1380, .iload_n 3, 1, 1381, .null, 0, 0, 0),
  (1381, .iconst 1, 1, 1382, .int 1, 0, 0, 0),
  (1382, .iadd, 1, 1383, .null, 0, 0, 0),
  (1383, .iaload, 1, 1384, .null, 0, 0, 0),
  (1384, .invokevirtual 166, 3, 1387, .null, 0, 0, 0),
  (1387, .if_icmp .eq 113, 3, 1500, .null, 0, 0, 0),
  (1390, .iconst 0, 1, 1391, .int 0, 0, 0, 0),
  (1391, .ireturn, 1, 1392, .null, 0, 0, 0),
  (1392, .aload_n 1, 1, 1393, .null, 0, 0, 0),
  (1393, .aload_n 0, 1, 1394, .null, 0, 0, 0),
  (1394, .iload_n 3, 1, 1395, .null, 0, 0, 0),
  (1395, .iconst 1, 1, 1396, .int 1, 0, 0, 0),
  (1396, .iadd, 1, 1397, .null, 0, 0, 0),
  (1397, .iaload, 1, 1398, .null, 0, 0, 0),
  (1398, .invokevirtual 167, 3, 1401, .null, 0, 0, 0),
  (1401, .aload_n 2, 1, 1402, .null, 0, 0, 0),
  (1402, .aload_n 0, 1, 1403, .null, 0, 0, 0),
  (1403, .iload_n 3, 1, 1404, .null, 0, 0, 0),
  (1404, .iconst 1, 1, 1405, .int 1, 0, 0, 0),
  (1405, .iadd, 1, 1406, .null, 0, 0, 0),
  (1406, .iaload, 1, 1407, .null, 0, 0, 0),
  (1407, .invokevirtual 170, 3, 1410, .null, 0, 0, 0),
  (1410, .if_icmp .eq 90, 3, 1500, .null, 0, 0, 0),
  (1413, .iconst 0, 1, 1414, .int 0, 0, 0, 0),
  (1414, .ireturn, 1, 1415, .null, 0, 0, 0),
  (1415, .aload_n 1, 1, 1416, .null, 0, 0, 0),
  (1416, .invokevirtual 171, 3, 1419, .null, 0, 0, 0),
  (1419, .aload_n 2, 1, 1420, .null, 0, 0, 0),
  (1420, .invokevirtual 174, 3, 1423, .null, 0, 0, 0),
  (1423, .if_icmp .eq 77, 3, 1500, .null, 0, 0, 0),
  (1426, .iconst 0, 1, 1427, .int 0, 0, 0, 0),
  (1427, .ireturn, 1, 1428, .null, 0, 0, 0),
  (1428, .aload_n 1, 1, 1429, .null, 0, 0, 0),
  (1429, .invokevirtual 175, 3, 1432, .null, 0, 0, 0),
  (1432, .aload_n 2, 1, 1433, .null, 0, 0, 0),
  (1433, .invokevirtual 178, 3, 1436, .null, 0, 0, 0),
  (1436, .if_icmp .eq 64, 3, 1500, .null, 0, 0, 0),
  (1439, .iconst 0, 1, 1440, .int 0, 0, 0, 0),
  (1440, .ireturn, 1, 1441, .null, 0, 0, 0),
  (1441, .aload_n 1, 1, 1442, .null, 0, 0, 0),
  (1442, .invokevirtual 179, 3, 1445, .null, 0, 0, 0),
  (1445, .aload_n 2, 1, 1446, .null, 0, 0, 0),
  (1446, .invokevirtual 182, 3, 1449, .null, 0, 0, 0),
  (1449, .if_icmp .eq 51, 3, 1500, .null, 0, 0, 0),
  (1452, .iconst 0, 1, 1453, .int 0, 0, 0, 0),
  (1453, .ireturn, 1, 1454, .null, 0, 0, 0),
  (1454, .aload_n 1, 1, 1455, .null, 0, 0, 0),
  (1455, .aload_n 0, 1, 1456, .null, 0, 0, 0),
  (1456, .iload_n 3, 1, 1457, .null, 0, 0, 0),
  (1457, .iconst 1, 1, 1458, .int 1, 0, 0, 0),
  (1458, .iadd, 1, 1459, .null, 0, 0, 0),
  (1459, .iaload, 1, 1460, .null, 0, 0, 0),
  (1460, .invokevirtual 183, 3, 1463, .null, 0, 0, 0),
  (1463, .aload_n 2, 1, 1464, .null, 0, 0, 0),
  (1464, .aload_n 0, 1, 1465, .null, 0, 0, 0),
  (1465, .iload_n 3, 1, 1466, .null, 0, 0, 0)]
set_option maxRecDepth 100000 in
theorem ek_L16 : e_L16.all (eok 12 code) = true := by decide +kernel
def e_L17 : List Ent := [
  (1466, .iconst 1, 1, 1467, .int 1, 0, 0, 0),
  (1467, .iadd, 1, 1468, .null, 0, 0, 0),
  (1468, .iaload, 1, 1469, .null, 0, 0, 0),
  (1469, .invokevirtual 186, 3, 1472, .null, 0, 0, 0),
  (1472, .if_icmp .eq 28, 3, 1500, .null, 0, 0, 0),
  (1475, .iconst 0, 1, 1476, .int 0, 0, 0, 0),
  (1476, .ireturn, 1, 1477, .null, 0, 0, 0),
  (1477, .aload_n 1, 1, 1478, .null, 0, 0, 0),
  (1478, .aload_n 0, 1, 1479, .null, 0, 0, 0),
  (1479, .iload_n 3, 1, 1480, .null, 0, 0, 0),
  (1480, .iconst 1, 1, 1481, .int 1, 0, 0, 0),
  (1481, .iadd, 1, 1482, .null, 0, 0, 0),
  (1482, .iaload, 1, 1483, .null, 0, 0, 0),
  (1483, .invokevirtual 187, 3, 1486, .null, 0, 0, 0),
  (1486, .aload_n 2, 1, 1487, .null, 0, 0, 0),
  (1487, .aload_n 0, 1, 1488, .null, 0, 0, 0),
  (1488, .iload_n 3, 1, 1489, .null, 0, 0, 0),
  (1489, .iconst 1, 1, 1490, .int 1, 0, 0, 0),
  (1490, .iadd, 1, 1491, .null, 0, 0, 0),
  (1491, .iaload, 1, 1492, .null, 0, 0, 0),
  (1492, .invokevirtual 190, 3, 1495, .null, 0, 0, 0),
  (1495, .if_icmp .eq 5, 3, 1500, .null, 0, 0, 0),
  (1498, .iconst 0, 1, 1499, .int 0, 0, 0, 0),
  (1499, .ireturn, 1, 1500, .null, 0, 0, 0),
  (1500, .iinc 3 6, 3, 1503, .int 6, 0, 0, 0),
  (1503, .goto (-1485), 3, 18, .null, 0, 0, 0),
  (1506, .iconst 1, 1, 1507, .int 1, 0, 0, 0),
  (1507, .ireturn, 1, 1508, .null, 0, 0, 0)]
set_option maxRecDepth 100000 in
theorem ek_L17 : e_L17.all (eok 12 code) = true := by decide +kernel
def scA : Nat := 1000400
section SML
variable {G : Gx} {X : Cx} {own nL : Nat} {cc : ByteArray} {rt : Option FieldType} {R : Room} {w : A_W} {nc ns : Nat} {r : A_R} {st : List Value} {pc L : Nat} {xs : Nat → Int32}
/-- the script lies at its place -/
def Sc (G : Gx) (X : Cx) (L : Nat) (xs : Nat → Int32) : Prop := va_X (ad G scA) L xs (xS X) (xS X).heap ∧ ad G scA < (xS X).heap.size ∧ ¬ gA G (ad G scA)
theorem Sm_sld (K : Ok G X own cc nL rt R) (hs : Sc G X L xs) (hd : decode cc pc = .ok (.iaload, 1)) {i : Int32} (hi : inb i L) (kk : Sm G X w nc ns r (.int (xs i.toNatClampNeg) :: st) (pc + 1)) : Sm G X w nc ns r (.int i :: .ref scA :: st) pc := fun H locs ls hw hS h => va_sld K.1 K.2.1 hs.1 hs.2.1 hs.2.2 hS (vp_inb hi) hd (kk H locs ls hw hS h)
theorem Sm_slen (K : Ok G X own cc nL rt R) (hs : Sc G X L xs) (hd : decode cc pc = .ok (.arraylength, 1)) (kk : Sm G X w nc ns r (.int (Int32.ofNat L) :: st) (pc + 1)) : Sm G X w nc ns r (.ref scA :: st) pc := fun H locs ls hw hS h => va_slen K.1 K.2.1 hs.1 hs.2.1 hs.2.2 hS hd (kk H locs ls hw hS h)
end SML
set_option maxHeartbeats 4000000 in
set_option maxRecDepth 100000 in
theorem lc_0 {G : Gx} {X : Cx} {L : Nat} {xs : Nat → Int32} (K : Ok G X 12 code 4 ret room_1) (hs : Sc G X L xs) {x3 : Int32} (h1 : inb (x3 + 1) L) (h2 : inb (x3 + 2) L) (h3 : inb (x3 + 3) L) {w : A_W} {f1 f2 : List Value} {p1 p2 : Int32 × A_W} (o1 : ob w 0 0 = some f1) (e1 : F_K_stand 0 (xs (x3 + 1).toNatClampNeg) (xs (x3 + 2).toNatClampNeg) (xs (x3 + 3).toNatClampNeg) w = some p1) (o2 : ob p1.2 49 4 = some f2) (e2 : F_M_stand 49 (xs (x3 + 1).toNatClampNeg) (xs (x3 + 2).toNatClampNeg) (xs (x3 + 3).toNatClampNeg) p1.2 = some p2) (he : p1.1 = p2.1) (kk : Sm G X p2.2 58 1181 [some (.ref scA), some (.ref 0), some (.ref 49), some (.int x3)] [] 1500) : Sm G X w 58 1181 [some (.ref scA), some (.ref 0), some (.ref 49), some (.int x3)] [] 220 := by
  refine Sm_run K ek_L0 22 5 rfl ?_
  refine Sm_sld K hs (eok_i (eo ek_L0 (i := 27) rfl) rfl) h1 ?_
  refine Sm_run K ek_L0 28 4 rfl ?_
  refine Sm_sld K hs (eok_i (eo ek_L0 (i := 32) rfl) rfl) h2 ?_
  refine Sm_run K ek_L0 33 4 rfl ?_
  refine Sm_sld K hs (eok_i (eo ek_L0 (i := 37) rfl) rfl) h3 ?_
  refine Sm_callV K (eok_i (eo ek_L0 (i := 38) rfl) rfl) cy_K_stand im_K_stand se_K_stand (lgm 239 (by decide +kernel) rfl) ⟨Nat.le_of_ble_eq_true rfl, Nat.le_of_ble_eq_true rfl⟩ (as := [.int (xs (x3 + 1).toNatClampNeg), .int (xs (x3 + 2).toNatClampNeg), .int (xs (x3 + 3).toNatClampNeg)]) (b := 0) (st := []) (ob_e o1) (by decide) rfl rfl rfl rfl (Nat.le_of_ble_eq_true rfl) ⟨Nat.le_of_ble_eq_true rfl, Nat.le_of_ble_eq_true rfl⟩ (cn_K_stand e1) ?_
  refine Sm_eq (st1 := [.int p1.1]) (nc1 := 58) (ns1 := 1181) rfl rfl rfl ?_
  refine Sm_run K ek_L0 39 5 rfl ?_
  refine Sm_sld K hs (eok_i (eo ek_L0 (i := 44) rfl) rfl) h1 ?_
  refine Sm_run K ek_L0 45 4 rfl ?_
  refine Sm_sld K hs (eok_i (eo ek_L0 (i := 49) rfl) rfl) h2 ?_
  refine Sm_run K ek_L0 50 4 rfl ?_
  refine Sm_sld K hs (eok_i (eo ek_L0 (i := 54) rfl) rfl) h3 ?_
  refine Sm_callV K (eok_i (eo ek_L0 (i := 55) rfl) rfl) cy_M_stand im_M_stand se_M_stand (lgm 808 (by decide +kernel) rfl) ⟨Nat.le_of_ble_eq_true rfl, Nat.le_of_ble_eq_true rfl⟩ (as := [.int (xs (x3 + 1).toNatClampNeg), .int (xs (x3 + 2).toNatClampNeg), .int (xs (x3 + 3).toNatClampNeg)]) (b := 49) (st := [.int p1.1]) (ob_e o2) (by decide) rfl rfl rfl rfl (Nat.le_of_ble_eq_true rfl) ⟨Nat.le_of_ble_eq_true rfl, Nat.le_of_ble_eq_true rfl⟩ (cn_M_stand e2) ?_
  refine Sm_eq (st1 := [.int p2.1, .int p1.1]) (nc1 := 58) (ns1 := 1181) rfl rfl rfl ?_
  exact Sm_ic_eq K (eo ek_L0 (i := 56) rfl) (fun _ => kk) (fun c => absurd he c)
set_option maxHeartbeats 4000000 in
set_option maxRecDepth 100000 in
theorem lc_1 {G : Gx} {X : Cx} {L : Nat} {xs : Nat → Int32} (K : Ok G X 12 code 4 ret room_1) (hs : Sc G X L xs) {x3 : Int32} (h1 : inb (x3 + 1) L) {w : A_W} {f1 f2 : List Value} {p1 p2 : Int32 × A_W} (o1 : ob w 0 0 = some f1) (e1 : F_K_listed 0 (xs (x3 + 1).toNatClampNeg) w = some p1) (o2 : ob p1.2 49 4 = some f2) (e2 : F_M_listed 49 (xs (x3 + 1).toNatClampNeg) p1.2 = some p2) (he : p1.1 = p2.1) (kk : Sm G X p2.2 58 1181 [some (.ref scA), some (.ref 0), some (.ref 49), some (.int x3)] [] 1500) : Sm G X w 58 1181 [some (.ref scA), some (.ref 0), some (.ref 49), some (.int x3)] [] 263 := by
  refine Sm_run K ek_L0 59 1 rfl ?_
  refine Sm_run K ek_L1 0 4 rfl ?_
  refine Sm_sld K hs (eok_i (eo ek_L1 (i := 4) rfl) rfl) h1 ?_
  refine Sm_callV K (eok_i (eo ek_L1 (i := 5) rfl) rfl) cy_K_listed im_K_listed se_K_listed (lgm 257 (by decide +kernel) rfl) ⟨Nat.le_of_ble_eq_true rfl, Nat.le_of_ble_eq_true rfl⟩ (as := [.int (xs (x3 + 1).toNatClampNeg)]) (b := 0) (st := []) (ob_e o1) (by decide) rfl rfl rfl rfl (Nat.le_of_ble_eq_true rfl) ⟨Nat.le_of_ble_eq_true rfl, Nat.le_of_ble_eq_true rfl⟩ (cn_K_listed e1) ?_
  refine Sm_eq (st1 := [.int p1.1]) (nc1 := 58) (ns1 := 1181) rfl rfl rfl ?_
  refine Sm_run K ek_L1 6 5 rfl ?_
  refine Sm_sld K hs (eok_i (eo ek_L1 (i := 11) rfl) rfl) h1 ?_
  refine Sm_callV K (eok_i (eo ek_L1 (i := 12) rfl) rfl) cy_M_listed im_M_listed se_M_listed (lgm 830 (by decide +kernel) rfl) ⟨Nat.le_of_ble_eq_true rfl, Nat.le_of_ble_eq_true rfl⟩ (as := [.int (xs (x3 + 1).toNatClampNeg)]) (b := 49) (st := [.int p1.1]) (ob_e o2) (by decide) rfl rfl rfl rfl (Nat.le_of_ble_eq_true rfl) ⟨Nat.le_of_ble_eq_true rfl, Nat.le_of_ble_eq_true rfl⟩ (cn_M_listed e2) ?_
  refine Sm_eq (st1 := [.int p2.1, .int p1.1]) (nc1 := 58) (ns1 := 1181) rfl rfl rfl ?_
  exact Sm_ic_eq K (eo ek_L1 (i := 13) rfl) (fun _ => kk) (fun c => absurd he c)
set_option maxHeartbeats 4000000 in
set_option maxRecDepth 100000 in
theorem lc_2 {G : Gx} {X : Cx} {L : Nat} {xs : Nat → Int32} (K : Ok G X 12 code 4 ret room_1) (hs : Sc G X L xs) {x3 : Int32} (h1 : inb (x3 + 1) L) (h2 : inb (x3 + 2) L) {w : A_W} {f1 f2 : List Value} {p1 p2 : Int32 × A_W} (o1 : ob w 0 0 = some f1) (e1 : F_K_deposit 0 (xs (x3 + 1).toNatClampNeg) (xs (x3 + 2).toNatClampNeg) w = some p1) (o2 : ob p1.2 49 4 = some f2) (e2 : F_M_deposit 49 (xs (x3 + 1).toNatClampNeg) (xs (x3 + 2).toNatClampNeg) p1.2 = some p2) (he : p1.1 = p2.1) (kk : Sm G X p2.2 58 1181 [some (.ref scA), some (.ref 0), some (.ref 49), some (.int x3)] [] 1500) : Sm G X w 58 1181 [some (.ref scA), some (.ref 0), some (.ref 49), some (.int x3)] [] 286 := by
  refine Sm_run K ek_L1 16 5 rfl ?_
  refine Sm_sld K hs (eok_i (eo ek_L1 (i := 21) rfl) rfl) h1 ?_
  refine Sm_run K ek_L1 22 4 rfl ?_
  refine Sm_sld K hs (eok_i (eo ek_L1 (i := 26) rfl) rfl) h2 ?_
  refine Sm_callV K (eok_i (eo ek_L1 (i := 27) rfl) rfl) cy_K_deposit im_K_deposit se_K_deposit (lgm 261 (by decide +kernel) rfl) ⟨Nat.le_of_ble_eq_true rfl, Nat.le_of_ble_eq_true rfl⟩ (as := [.int (xs (x3 + 1).toNatClampNeg), .int (xs (x3 + 2).toNatClampNeg)]) (b := 0) (st := []) (ob_e o1) (by decide) rfl rfl rfl rfl (Nat.le_of_ble_eq_true rfl) ⟨Nat.le_of_ble_eq_true rfl, Nat.le_of_ble_eq_true rfl⟩ (cn_K_deposit e1) ?_
  refine Sm_eq (st1 := [.int p1.1]) (nc1 := 58) (ns1 := 1181) rfl rfl rfl ?_
  refine Sm_run K ek_L1 28 5 rfl ?_
  refine Sm_sld K hs (eok_i (eo ek_L1 (i := 33) rfl) rfl) h1 ?_
  refine Sm_run K ek_L1 34 4 rfl ?_
  refine Sm_sld K hs (eok_i (eo ek_L1 (i := 38) rfl) rfl) h2 ?_
  refine Sm_callV K (eok_i (eo ek_L1 (i := 39) rfl) rfl) cy_M_deposit im_M_deposit se_M_deposit (lgm 834 (by decide +kernel) rfl) ⟨Nat.le_of_ble_eq_true rfl, Nat.le_of_ble_eq_true rfl⟩ (as := [.int (xs (x3 + 1).toNatClampNeg), .int (xs (x3 + 2).toNatClampNeg)]) (b := 49) (st := [.int p1.1]) (ob_e o2) (by decide) rfl rfl rfl rfl (Nat.le_of_ble_eq_true rfl) ⟨Nat.le_of_ble_eq_true rfl, Nat.le_of_ble_eq_true rfl⟩ (cn_M_deposit e2) ?_
  refine Sm_eq (st1 := [.int p2.1, .int p1.1]) (nc1 := 58) (ns1 := 1181) rfl rfl rfl ?_
  exact Sm_ic_eq K (eo ek_L1 (i := 40) rfl) (fun _ => kk) (fun c => absurd he c)
set_option maxHeartbeats 4000000 in
set_option maxRecDepth 100000 in
theorem lc_3 {G : Gx} {X : Cx} {L : Nat} {xs : Nat → Int32} (K : Ok G X 12 code 4 ret room_1) (hs : Sc G X L xs) {x3 : Int32} (h1 : inb (x3 + 1) L) {w : A_W} {f1 f2 : List Value} {p1 p2 : Int32 × A_W} (o1 : ob w 0 0 = some f1) (e1 : F_K_girl 0 (xs (x3 + 1).toNatClampNeg) w = some p1) (o2 : ob p1.2 49 4 = some f2) (e2 : F_M_girl 49 (xs (x3 + 1).toNatClampNeg) p1.2 = some p2) (he : p1.1 = p2.1) (kk : Sm G X p2.2 58 1181 [some (.ref scA), some (.ref 0), some (.ref 49), some (.int x3)] [] 1500) : Sm G X w 58 1181 [some (.ref scA), some (.ref 0), some (.ref 49), some (.int x3)] [] 319 := by
  refine Sm_run K ek_L1 43 5 rfl ?_
  refine Sm_sld K hs (eok_i (eo ek_L1 (i := 48) rfl) rfl) h1 ?_
  refine Sm_callV K (eok_i (eo ek_L1 (i := 49) rfl) rfl) cy_K_girl im_K_girl se_K_girl (lgm 272 (by decide +kernel) rfl) ⟨Nat.le_of_ble_eq_true rfl, Nat.le_of_ble_eq_true rfl⟩ (as := [.int (xs (x3 + 1).toNatClampNeg)]) (b := 0) (st := []) (ob_e o1) (by decide) rfl rfl rfl rfl (Nat.le_of_ble_eq_true rfl) ⟨Nat.le_of_ble_eq_true rfl, Nat.le_of_ble_eq_true rfl⟩ (cn_K_girl e1) ?_
  refine Sm_eq (st1 := [.int p1.1]) (nc1 := 58) (ns1 := 1181) rfl rfl rfl ?_
  refine Sm_run K ek_L1 50 5 rfl ?_
  refine Sm_sld K hs (eok_i (eo ek_L1 (i := 55) rfl) rfl) h1 ?_
  refine Sm_callV K (eok_i (eo ek_L1 (i := 56) rfl) rfl) cy_M_girl im_M_girl se_M_girl (lgm 847 (by decide +kernel) rfl) ⟨Nat.le_of_ble_eq_true rfl, Nat.le_of_ble_eq_true rfl⟩ (as := [.int (xs (x3 + 1).toNatClampNeg)]) (b := 49) (st := [.int p1.1]) (ob_e o2) (by decide) rfl rfl rfl rfl (Nat.le_of_ble_eq_true rfl) ⟨Nat.le_of_ble_eq_true rfl, Nat.le_of_ble_eq_true rfl⟩ (cn_M_girl e2) ?_
  refine Sm_eq (st1 := [.int p2.1, .int p1.1]) (nc1 := 58) (ns1 := 1181) rfl rfl rfl ?_
  exact Sm_ic_eq K (eo ek_L1 (i := 57) rfl) (fun _ => kk) (fun c => absurd he c)
set_option maxHeartbeats 4000000 in
set_option maxRecDepth 100000 in
theorem lc_4 {G : Gx} {X : Cx} {L : Nat} {xs : Nat → Int32} (K : Ok G X 12 code 4 ret room_1) (hs : Sc G X L xs) {x3 : Int32} (h1 : inb (x3 + 1) L) (h2 : inb (x3 + 2) L) {w : A_W} {f1 f2 : List Value} {p1 p2 : Int32 × A_W} (o1 : ob w 0 0 = some f1) (e1 : F_K_of 0 (xs (x3 + 1).toNatClampNeg) (xs (x3 + 2).toNatClampNeg) w = some p1) (o2 : ob p1.2 49 4 = some f2) (e2 : F_M_of 49 (xs (x3 + 1).toNatClampNeg) (xs (x3 + 2).toNatClampNeg) p1.2 = some p2) (he : p1.1 = p2.1) (kk : Sm G X p2.2 58 1181 [some (.ref scA), some (.ref 0), some (.ref 49), some (.int x3)] [] 1500) : Sm G X w 58 1181 [some (.ref scA), some (.ref 0), some (.ref 49), some (.int x3)] [] 342 := by
  refine Sm_run K ek_L2 0 5 rfl ?_
  refine Sm_sld K hs (eok_i (eo ek_L2 (i := 5) rfl) rfl) h1 ?_
  refine Sm_run K ek_L2 6 4 rfl ?_
  refine Sm_sld K hs (eok_i (eo ek_L2 (i := 10) rfl) rfl) h2 ?_
  refine Sm_callV K (eok_i (eo ek_L2 (i := 11) rfl) rfl) cy_K_of im_K_of se_K_of (lgm 280 (by decide +kernel) rfl) ⟨Nat.le_of_ble_eq_true rfl, Nat.le_of_ble_eq_true rfl⟩ (as := [.int (xs (x3 + 1).toNatClampNeg), .int (xs (x3 + 2).toNatClampNeg)]) (b := 0) (st := []) (ob_e o1) (by decide) rfl rfl rfl rfl (Nat.le_of_ble_eq_true rfl) ⟨Nat.le_of_ble_eq_true rfl, Nat.le_of_ble_eq_true rfl⟩ (cn_K_of e1) ?_
  refine Sm_eq (st1 := [.int p1.1]) (nc1 := 58) (ns1 := 1181) rfl rfl rfl ?_
  refine Sm_run K ek_L2 12 5 rfl ?_
  refine Sm_sld K hs (eok_i (eo ek_L2 (i := 17) rfl) rfl) h1 ?_
  refine Sm_run K ek_L2 18 4 rfl ?_
  refine Sm_sld K hs (eok_i (eo ek_L2 (i := 22) rfl) rfl) h2 ?_
  refine Sm_callV K (eok_i (eo ek_L2 (i := 23) rfl) rfl) cy_M_of im_M_of se_M_of (lgm 859 (by decide +kernel) rfl) ⟨Nat.le_of_ble_eq_true rfl, Nat.le_of_ble_eq_true rfl⟩ (as := [.int (xs (x3 + 1).toNatClampNeg), .int (xs (x3 + 2).toNatClampNeg)]) (b := 49) (st := [.int p1.1]) (ob_e o2) (by decide) rfl rfl rfl rfl (Nat.le_of_ble_eq_true rfl) ⟨Nat.le_of_ble_eq_true rfl, Nat.le_of_ble_eq_true rfl⟩ (cn_M_of e2) ?_
  refine Sm_eq (st1 := [.int p2.1, .int p1.1]) (nc1 := 58) (ns1 := 1181) rfl rfl rfl ?_
  exact Sm_ic_eq K (eo ek_L2 (i := 24) rfl) (fun _ => kk) (fun c => absurd he c)
set_option maxHeartbeats 4000000 in
set_option maxRecDepth 100000 in
theorem lc_5 {G : Gx} {X : Cx} {L : Nat} {xs : Nat → Int32} (K : Ok G X 12 code 4 ret room_1) (hs : Sc G X L xs) {x3 : Int32} (h1 : inb (x3 + 1) L) (h2 : inb (x3 + 2) L) (h3 : inb (x3 + 3) L) {w : A_W} {f1 f2 : List Value} {p1 p2 : Int32 × A_W} (o1 : ob w 0 0 = some f1) (e1 : F_K_change 0 (xs (x3 + 1).toNatClampNeg) (xs (x3 + 2).toNatClampNeg) (xs (x3 + 3).toNatClampNeg) w = some p1) (o2 : ob p1.2 49 4 = some f2) (e2 : F_M_change 49 (xs (x3 + 1).toNatClampNeg) (xs (x3 + 2).toNatClampNeg) (xs (x3 + 3).toNatClampNeg) p1.2 = some p2) (he : p1.1 = p2.1) (kk : Sm G X p2.2 58 1181 [some (.ref scA), some (.ref 0), some (.ref 49), some (.int x3)] [] 1500) : Sm G X w 58 1181 [some (.ref scA), some (.ref 0), some (.ref 49), some (.int x3)] [] 375 := by
  refine Sm_run K ek_L2 27 5 rfl ?_
  refine Sm_sld K hs (eok_i (eo ek_L2 (i := 32) rfl) rfl) h1 ?_
  refine Sm_run K ek_L2 33 4 rfl ?_
  refine Sm_sld K hs (eok_i (eo ek_L2 (i := 37) rfl) rfl) h2 ?_
  refine Sm_run K ek_L2 38 4 rfl ?_
  refine Sm_sld K hs (eok_i (eo ek_L2 (i := 42) rfl) rfl) h3 ?_
  refine Sm_callV K (eok_i (eo ek_L2 (i := 43) rfl) rfl) cy_K_change im_K_change se_K_change (lgm 326 (by decide +kernel) rfl) ⟨Nat.le_of_ble_eq_true rfl, Nat.le_of_ble_eq_true rfl⟩ (as := [.int (xs (x3 + 1).toNatClampNeg), .int (xs (x3 + 2).toNatClampNeg), .int (xs (x3 + 3).toNatClampNeg)]) (b := 0) (st := []) (ob_e o1) (by decide) rfl rfl rfl rfl (Nat.le_of_ble_eq_true rfl) ⟨Nat.le_of_ble_eq_true rfl, Nat.le_of_ble_eq_true rfl⟩ (cn_K_change e1) ?_
  refine Sm_eq (st1 := [.int p1.1]) (nc1 := 58) (ns1 := 1181) rfl rfl rfl ?_
  refine Sm_run K ek_L2 44 5 rfl ?_
  refine Sm_sld K hs (eok_i (eo ek_L2 (i := 49) rfl) rfl) h1 ?_
  refine Sm_run K ek_L2 50 4 rfl ?_
  refine Sm_sld K hs (eok_i (eo ek_L2 (i := 54) rfl) rfl) h2 ?_
  refine Sm_run K ek_L2 55 4 rfl ?_
  refine Sm_sld K hs (eok_i (eo ek_L2 (i := 59) rfl) rfl) h3 ?_
  refine Sm_callV K (eok_i (eo ek_L3 (i := 0) rfl) rfl) cy_M_change im_M_change se_M_change (lgm 898 (by decide +kernel) rfl) ⟨Nat.le_of_ble_eq_true rfl, Nat.le_of_ble_eq_true rfl⟩ (as := [.int (xs (x3 + 1).toNatClampNeg), .int (xs (x3 + 2).toNatClampNeg), .int (xs (x3 + 3).toNatClampNeg)]) (b := 49) (st := [.int p1.1]) (ob_e o2) (by decide) rfl rfl rfl rfl (Nat.le_of_ble_eq_true rfl) ⟨Nat.le_of_ble_eq_true rfl, Nat.le_of_ble_eq_true rfl⟩ (cn_M_change e2) ?_
  refine Sm_eq (st1 := [.int p2.1, .int p1.1]) (nc1 := 58) (ns1 := 1181) rfl rfl rfl ?_
  exact Sm_ic_eq K (eo ek_L3 (i := 1) rfl) (fun _ => kk) (fun c => absurd he c)
set_option maxHeartbeats 4000000 in
set_option maxRecDepth 100000 in
theorem lc_6 {G : Gx} {X : Cx} {L : Nat} {xs : Nat → Int32} (K : Ok G X 12 code 4 ret room_1) (hs : Sc G X L xs) {x3 : Int32} (h1 : inb (x3 + 1) L) (h2 : inb (x3 + 2) L) {w : A_W} {f1 f2 : List Value} {p1 p2 : Int32 × A_W} (o1 : ob w 0 0 = some f1) (e1 : F_K_ofGirl 0 (xs (x3 + 1).toNatClampNeg) (xs (x3 + 2).toNatClampNeg) w = some p1) (o2 : ob p1.2 49 4 = some f2) (e2 : F_M_ofGirl 49 (xs (x3 + 1).toNatClampNeg) (xs (x3 + 2).toNatClampNeg) p1.2 = some p2) (he : p1.1 = p2.1) (kk : Sm G X p2.2 58 1181 [some (.ref scA), some (.ref 0), some (.ref 49), some (.int x3)] [] 1500) : Sm G X w 58 1181 [some (.ref scA), some (.ref 0), some (.ref 49), some (.int x3)] [] 418 := by
  refine Sm_run K ek_L3 4 5 rfl ?_
  refine Sm_sld K hs (eok_i (eo ek_L3 (i := 9) rfl) rfl) h1 ?_
  refine Sm_run K ek_L3 10 4 rfl ?_
  refine Sm_sld K hs (eok_i (eo ek_L3 (i := 14) rfl) rfl) h2 ?_
  refine Sm_callV K (eok_i (eo ek_L3 (i := 15) rfl) rfl) cy_K_ofGirl im_K_ofGirl se_K_ofGirl (lgm 333 (by decide +kernel) rfl) ⟨Nat.le_of_ble_eq_true rfl, Nat.le_of_ble_eq_true rfl⟩ (as := [.int (xs (x3 + 1).toNatClampNeg), .int (xs (x3 + 2).toNatClampNeg)]) (b := 0) (st := []) (ob_e o1) (by decide) rfl rfl rfl rfl (Nat.le_of_ble_eq_true rfl) ⟨Nat.le_of_ble_eq_true rfl, Nat.le_of_ble_eq_true rfl⟩ (cn_K_ofGirl e1) ?_
  refine Sm_eq (st1 := [.int p1.1]) (nc1 := 58) (ns1 := 1181) rfl rfl rfl ?_
  refine Sm_run K ek_L3 16 5 rfl ?_
  refine Sm_sld K hs (eok_i (eo ek_L3 (i := 21) rfl) rfl) h1 ?_
  refine Sm_run K ek_L3 22 4 rfl ?_
  refine Sm_sld K hs (eok_i (eo ek_L3 (i := 26) rfl) rfl) h2 ?_
  refine Sm_callV K (eok_i (eo ek_L3 (i := 27) rfl) rfl) cy_M_ofGirl im_M_ofGirl se_M_ofGirl (lgm 905 (by decide +kernel) rfl) ⟨Nat.le_of_ble_eq_true rfl, Nat.le_of_ble_eq_true rfl⟩ (as := [.int (xs (x3 + 1).toNatClampNeg), .int (xs (x3 + 2).toNatClampNeg)]) (b := 49) (st := [.int p1.1]) (ob_e o2) (by decide) rfl rfl rfl rfl (Nat.le_of_ble_eq_true rfl) ⟨Nat.le_of_ble_eq_true rfl, Nat.le_of_ble_eq_true rfl⟩ (cn_M_ofGirl e2) ?_
  refine Sm_eq (st1 := [.int p2.1, .int p1.1]) (nc1 := 58) (ns1 := 1181) rfl rfl rfl ?_
  exact Sm_ic_eq K (eo ek_L3 (i := 28) rfl) (fun _ => kk) (fun c => absurd he c)
set_option maxHeartbeats 4000000 in
set_option maxRecDepth 100000 in
theorem lc_7 {G : Gx} {X : Cx} {L : Nat} {xs : Nat → Int32} (K : Ok G X 12 code 4 ret room_1) (hs : Sc G X L xs) {x3 : Int32} (h1 : inb (x3 + 1) L) (h2 : inb (x3 + 2) L) (h3 : inb (x3 + 3) L) {w : A_W} {f1 f2 : List Value} {p1 p2 : Int32 × A_W} (o1 : ob w 0 0 = some f1) (e1 : F_K_wake 0 (xs (x3 + 1).toNatClampNeg) (xs (x3 + 2).toNatClampNeg) (xs (x3 + 3).toNatClampNeg) w = some p1) (o2 : ob p1.2 49 4 = some f2) (e2 : F_M_wake 49 (xs (x3 + 1).toNatClampNeg) (xs (x3 + 2).toNatClampNeg) (xs (x3 + 3).toNatClampNeg) p1.2 = some p2) (he : p1.1 = p2.1) (kk : Sm G X p2.2 58 1181 [some (.ref scA), some (.ref 0), some (.ref 49), some (.int x3)] [] 1500) : Sm G X w 58 1181 [some (.ref scA), some (.ref 0), some (.ref 49), some (.int x3)] [] 451 := by
  refine Sm_run K ek_L3 31 5 rfl ?_
  refine Sm_sld K hs (eok_i (eo ek_L3 (i := 36) rfl) rfl) h1 ?_
  refine Sm_run K ek_L3 37 4 rfl ?_
  refine Sm_sld K hs (eok_i (eo ek_L3 (i := 41) rfl) rfl) h2 ?_
  refine Sm_run K ek_L3 42 4 rfl ?_
  refine Sm_sld K hs (eok_i (eo ek_L3 (i := 46) rfl) rfl) h3 ?_
  refine Sm_callV K (eok_i (eo ek_L3 (i := 47) rfl) rfl) cy_K_wake im_K_wake se_K_wake (lgm 345 (by decide +kernel) rfl) ⟨Nat.le_of_ble_eq_true rfl, Nat.le_of_ble_eq_true rfl⟩ (as := [.int (xs (x3 + 1).toNatClampNeg), .int (xs (x3 + 2).toNatClampNeg), .int (xs (x3 + 3).toNatClampNeg)]) (b := 0) (st := []) (ob_e o1) (by decide) rfl rfl rfl rfl (Nat.le_of_ble_eq_true rfl) ⟨Nat.le_of_ble_eq_true rfl, Nat.le_of_ble_eq_true rfl⟩ (cn_K_wake e1) ?_
  refine Sm_eq (st1 := [.int p1.1]) (nc1 := 58) (ns1 := 1181) rfl rfl rfl ?_
  refine Sm_run K ek_L3 48 5 rfl ?_
  refine Sm_sld K hs (eok_i (eo ek_L3 (i := 53) rfl) rfl) h1 ?_
  refine Sm_run K ek_L3 54 4 rfl ?_
  refine Sm_sld K hs (eok_i (eo ek_L3 (i := 58) rfl) rfl) h2 ?_
  refine Sm_run K ek_L3 59 1 rfl ?_
  refine Sm_run K ek_L4 0 3 rfl ?_
  refine Sm_sld K hs (eok_i (eo ek_L4 (i := 3) rfl) rfl) h3 ?_
  refine Sm_callV K (eok_i (eo ek_L4 (i := 4) rfl) rfl) cy_M_wake im_M_wake se_M_wake (lgm 917 (by decide +kernel) rfl) ⟨Nat.le_of_ble_eq_true rfl, Nat.le_of_ble_eq_true rfl⟩ (as := [.int (xs (x3 + 1).toNatClampNeg), .int (xs (x3 + 2).toNatClampNeg), .int (xs (x3 + 3).toNatClampNeg)]) (b := 49) (st := [.int p1.1]) (ob_e o2) (by decide) rfl rfl rfl rfl (Nat.le_of_ble_eq_true rfl) ⟨Nat.le_of_ble_eq_true rfl, Nat.le_of_ble_eq_true rfl⟩ (cn_M_wake e2) ?_
  refine Sm_eq (st1 := [.int p2.1, .int p1.1]) (nc1 := 58) (ns1 := 1181) rfl rfl rfl ?_
  exact Sm_ic_eq K (eo ek_L4 (i := 5) rfl) (fun _ => kk) (fun c => absurd he c)
set_option maxHeartbeats 4000000 in
set_option maxRecDepth 100000 in
theorem lc_8 {G : Gx} {X : Cx} {L : Nat} {xs : Nat → Int32} (K : Ok G X 12 code 4 ret room_1) (hs : Sc G X L xs) {x3 : Int32} (h1 : inb (x3 + 1) L) {w : A_W} {f1 f2 : List Value} {p1 p2 : Int32 × A_W} (o1 : ob w 0 0 = some f1) (e1 : F_K_light 0 (xs (x3 + 1).toNatClampNeg) w = some p1) (o2 : ob p1.2 49 4 = some f2) (e2 : F_M_light 49 (xs (x3 + 1).toNatClampNeg) p1.2 = some p2) (he : p1.1 = p2.1) (kk : Sm G X p2.2 58 1181 [some (.ref scA), some (.ref 0), some (.ref 49), some (.int x3)] [] 1500) : Sm G X w 58 1181 [some (.ref scA), some (.ref 0), some (.ref 49), some (.int x3)] [] 494 := by
  refine Sm_run K ek_L4 8 5 rfl ?_
  refine Sm_sld K hs (eok_i (eo ek_L4 (i := 13) rfl) rfl) h1 ?_
  refine Sm_callV K (eok_i (eo ek_L4 (i := 14) rfl) rfl) cy_K_light im_K_light se_K_light (lgm 353 (by decide +kernel) rfl) ⟨Nat.le_of_ble_eq_true rfl, Nat.le_of_ble_eq_true rfl⟩ (as := [.int (xs (x3 + 1).toNatClampNeg)]) (b := 0) (st := []) (ob_e o1) (by decide) rfl rfl rfl rfl (Nat.le_of_ble_eq_true rfl) ⟨Nat.le_of_ble_eq_true rfl, Nat.le_of_ble_eq_true rfl⟩ (cn_K_light e1) ?_
  refine Sm_eq (st1 := [.int p1.1]) (nc1 := 58) (ns1 := 1181) rfl rfl rfl ?_
  refine Sm_run K ek_L4 15 5 rfl ?_
  refine Sm_sld K hs (eok_i (eo ek_L4 (i := 20) rfl) rfl) h1 ?_
  refine Sm_callV K (eok_i (eo ek_L4 (i := 21) rfl) rfl) cy_M_light im_M_light se_M_light (lgm 921 (by decide +kernel) rfl) ⟨Nat.le_of_ble_eq_true rfl, Nat.le_of_ble_eq_true rfl⟩ (as := [.int (xs (x3 + 1).toNatClampNeg)]) (b := 49) (st := [.int p1.1]) (ob_e o2) (by decide) rfl rfl rfl rfl (Nat.le_of_ble_eq_true rfl) ⟨Nat.le_of_ble_eq_true rfl, Nat.le_of_ble_eq_true rfl⟩ (cn_M_light e2) ?_
  refine Sm_eq (st1 := [.int p2.1, .int p1.1]) (nc1 := 58) (ns1 := 1181) rfl rfl rfl ?_
  exact Sm_ic_eq K (eo ek_L4 (i := 22) rfl) (fun _ => kk) (fun c => absurd he c)
set_option maxHeartbeats 4000000 in
set_option maxRecDepth 100000 in
theorem lc_9 {G : Gx} {X : Cx} {L : Nat} {xs : Nat → Int32} (K : Ok G X 12 code 4 ret room_1) (hs : Sc G X L xs) {x3 : Int32} (h1 : inb (x3 + 1) L) {w : A_W} {f1 f2 : List Value} {p1 p2 : Int32 × A_W} (o1 : ob w 0 0 = some f1) (e1 : F_K_call 0 (xs (x3 + 1).toNatClampNeg) w = some p1) (o2 : ob p1.2 49 4 = some f2) (e2 : F_M_call 49 (xs (x3 + 1).toNatClampNeg) p1.2 = some p2) (he : p1.1 = p2.1) (kk : Sm G X p2.2 58 1181 [some (.ref scA), some (.ref 0), some (.ref 49), some (.int x3)] [] 1500) : Sm G X w 58 1181 [some (.ref scA), some (.ref 0), some (.ref 49), some (.int x3)] [] 517 := by
  refine Sm_run K ek_L4 25 5 rfl ?_
  refine Sm_sld K hs (eok_i (eo ek_L4 (i := 30) rfl) rfl) h1 ?_
  refine Sm_callV K (eok_i (eo ek_L4 (i := 31) rfl) rfl) cy_K_call im_K_call se_K_call (lgm 358 (by decide +kernel) rfl) ⟨Nat.le_of_ble_eq_true rfl, Nat.le_of_ble_eq_true rfl⟩ (as := [.int (xs (x3 + 1).toNatClampNeg)]) (b := 0) (st := []) (ob_e o1) (by decide) rfl rfl rfl rfl (Nat.le_of_ble_eq_true rfl) ⟨Nat.le_of_ble_eq_true rfl, Nat.le_of_ble_eq_true rfl⟩ (cn_K_call e1) ?_
  refine Sm_eq (st1 := [.int p1.1]) (nc1 := 58) (ns1 := 1181) rfl rfl rfl ?_
  refine Sm_run K ek_L4 32 5 rfl ?_
  refine Sm_sld K hs (eok_i (eo ek_L4 (i := 37) rfl) rfl) h1 ?_
  refine Sm_callV K (eok_i (eo ek_L4 (i := 38) rfl) rfl) cy_M_call im_M_call se_M_call (lgm 925 (by decide +kernel) rfl) ⟨Nat.le_of_ble_eq_true rfl, Nat.le_of_ble_eq_true rfl⟩ (as := [.int (xs (x3 + 1).toNatClampNeg)]) (b := 49) (st := [.int p1.1]) (ob_e o2) (by decide) rfl rfl rfl rfl (Nat.le_of_ble_eq_true rfl) ⟨Nat.le_of_ble_eq_true rfl, Nat.le_of_ble_eq_true rfl⟩ (cn_M_call e2) ?_
  refine Sm_eq (st1 := [.int p2.1, .int p1.1]) (nc1 := 58) (ns1 := 1181) rfl rfl rfl ?_
  exact Sm_ic_eq K (eo ek_L4 (i := 39) rfl) (fun _ => kk) (fun c => absurd he c)
set_option maxHeartbeats 4000000 in
set_option maxRecDepth 100000 in
theorem lc_10 {G : Gx} {X : Cx} {L : Nat} {xs : Nat → Int32} (K : Ok G X 12 code 4 ret room_1) (hs : Sc G X L xs) {x3 : Int32} (h1 : inb (x3 + 1) L) {w : A_W} {f1 f2 : List Value} {p1 p2 : Int32 × A_W} (o1 : ob w 0 0 = some f1) (e1 : F_K_go 0 (xs (x3 + 1).toNatClampNeg) w = some p1) (o2 : ob p1.2 49 4 = some f2) (e2 : F_M_go 49 (xs (x3 + 1).toNatClampNeg) p1.2 = some p2) (he : p1.1 = p2.1) (kk : Sm G X p2.2 58 1181 [some (.ref scA), some (.ref 0), some (.ref 49), some (.int x3)] [] 1500) : Sm G X w 58 1181 [some (.ref scA), some (.ref 0), some (.ref 49), some (.int x3)] [] 540 := by
  refine Sm_run K ek_L4 42 5 rfl ?_
  refine Sm_sld K hs (eok_i (eo ek_L4 (i := 47) rfl) rfl) h1 ?_
  refine Sm_callV K (eok_i (eo ek_L4 (i := 48) rfl) rfl) cy_K_go im_K_go se_K_go (lgm 362 (by decide +kernel) rfl) ⟨Nat.le_of_ble_eq_true rfl, Nat.le_of_ble_eq_true rfl⟩ (as := [.int (xs (x3 + 1).toNatClampNeg)]) (b := 0) (st := []) (ob_e o1) (by decide) rfl rfl rfl rfl (Nat.le_of_ble_eq_true rfl) ⟨Nat.le_of_ble_eq_true rfl, Nat.le_of_ble_eq_true rfl⟩ (cn_K_go e1) ?_
  refine Sm_eq (st1 := [.int p1.1]) (nc1 := 58) (ns1 := 1181) rfl rfl rfl ?_
  refine Sm_run K ek_L4 49 5 rfl ?_
  refine Sm_sld K hs (eok_i (eo ek_L4 (i := 54) rfl) rfl) h1 ?_
  refine Sm_callV K (eok_i (eo ek_L4 (i := 55) rfl) rfl) cy_M_go im_M_go se_M_go (lgm 934 (by decide +kernel) rfl) ⟨Nat.le_of_ble_eq_true rfl, Nat.le_of_ble_eq_true rfl⟩ (as := [.int (xs (x3 + 1).toNatClampNeg)]) (b := 49) (st := [.int p1.1]) (ob_e o2) (by decide) rfl rfl rfl rfl (Nat.le_of_ble_eq_true rfl) ⟨Nat.le_of_ble_eq_true rfl, Nat.le_of_ble_eq_true rfl⟩ (cn_M_go e2) ?_
  refine Sm_eq (st1 := [.int p2.1, .int p1.1]) (nc1 := 58) (ns1 := 1181) rfl rfl rfl ?_
  exact Sm_ic_eq K (eo ek_L4 (i := 56) rfl) (fun _ => kk) (fun c => absurd he c)
set_option maxHeartbeats 4000000 in
set_option maxRecDepth 100000 in
theorem lc_11 {G : Gx} {X : Cx} {L : Nat} {xs : Nat → Int32} (K : Ok G X 12 code 4 ret room_1) (hs : Sc G X L xs) {x3 : Int32} (h1 : inb (x3 + 1) L) {w : A_W} {f1 f2 : List Value} {p1 p2 : Int32 × A_W} (o1 : ob w 0 0 = some f1) (e1 : F_K_now 0 (xs (x3 + 1).toNatClampNeg) w = some p1) (o2 : ob p1.2 49 4 = some f2) (e2 : F_M_now 49 (xs (x3 + 1).toNatClampNeg) p1.2 = some p2) (he : p1.1 = p2.1) (kk : Sm G X p2.2 58 1181 [some (.ref scA), some (.ref 0), some (.ref 49), some (.int x3)] [] 1500) : Sm G X w 58 1181 [some (.ref scA), some (.ref 0), some (.ref 49), some (.int x3)] [] 563 := by
  refine Sm_run K ek_L4 59 1 rfl ?_
  refine Sm_run K ek_L5 0 4 rfl ?_
  refine Sm_sld K hs (eok_i (eo ek_L5 (i := 4) rfl) rfl) h1 ?_
  refine Sm_callV K (eok_i (eo ek_L5 (i := 5) rfl) rfl) cy_K_now im_K_now se_K_now (lgm 384 (by decide +kernel) rfl) ⟨Nat.le_of_ble_eq_true rfl, Nat.le_of_ble_eq_true rfl⟩ (as := [.int (xs (x3 + 1).toNatClampNeg)]) (b := 0) (st := []) (ob_e o1) (by decide) rfl rfl rfl rfl (Nat.le_of_ble_eq_true rfl) ⟨Nat.le_of_ble_eq_true rfl, Nat.le_of_ble_eq_true rfl⟩ (cn_K_now e1) ?_
  refine Sm_eq (st1 := [.int p1.1]) (nc1 := 58) (ns1 := 1181) rfl rfl rfl ?_
  refine Sm_run K ek_L5 6 5 rfl ?_
  refine Sm_sld K hs (eok_i (eo ek_L5 (i := 11) rfl) rfl) h1 ?_
  refine Sm_callV K (eok_i (eo ek_L5 (i := 12) rfl) rfl) cy_M_now im_M_now se_M_now (lgm 956 (by decide +kernel) rfl) ⟨Nat.le_of_ble_eq_true rfl, Nat.le_of_ble_eq_true rfl⟩ (as := [.int (xs (x3 + 1).toNatClampNeg)]) (b := 49) (st := [.int p1.1]) (ob_e o2) (by decide) rfl rfl rfl rfl (Nat.le_of_ble_eq_true rfl) ⟨Nat.le_of_ble_eq_true rfl, Nat.le_of_ble_eq_true rfl⟩ (cn_M_now e2) ?_
  refine Sm_eq (st1 := [.int p2.1, .int p1.1]) (nc1 := 58) (ns1 := 1181) rfl rfl rfl ?_
  exact Sm_ic_eq K (eo ek_L5 (i := 13) rfl) (fun _ => kk) (fun c => absurd he c)
set_option maxHeartbeats 4000000 in
set_option maxRecDepth 100000 in
theorem lc_12 {G : Gx} {X : Cx} {L : Nat} {xs : Nat → Int32} (K : Ok G X 12 code 4 ret room_1) (hs : Sc G X L xs) {x3 : Int32} (h1 : inb (x3 + 1) L) (h2 : inb (x3 + 2) L) (h3 : inb (x3 + 3) L) {w : A_W} {f1 f2 : List Value} {p1 p2 : Int32 × A_W} (o1 : ob w 0 0 = some f1) (e1 : F_K_ahead 0 (xs (x3 + 1).toNatClampNeg) (xs (x3 + 2).toNatClampNeg) (xs (x3 + 3).toNatClampNeg) w = some p1) (o2 : ob p1.2 49 4 = some f2) (e2 : F_M_ahead 49 (xs (x3 + 1).toNatClampNeg) (xs (x3 + 2).toNatClampNeg) (xs (x3 + 3).toNatClampNeg) p1.2 = some p2) (he : p1.1 = p2.1) (kk : Sm G X p2.2 58 1181 [some (.ref scA), some (.ref 0), some (.ref 49), some (.int x3)] [] 1500) : Sm G X w 58 1181 [some (.ref scA), some (.ref 0), some (.ref 49), some (.int x3)] [] 586 := by
  refine Sm_run K ek_L5 16 5 rfl ?_
  refine Sm_sld K hs (eok_i (eo ek_L5 (i := 21) rfl) rfl) h1 ?_
  refine Sm_run K ek_L5 22 4 rfl ?_
  refine Sm_sld K hs (eok_i (eo ek_L5 (i := 26) rfl) rfl) h2 ?_
  refine Sm_run K ek_L5 27 4 rfl ?_
  refine Sm_sld K hs (eok_i (eo ek_L5 (i := 31) rfl) rfl) h3 ?_
  refine Sm_callV K (eok_i (eo ek_L5 (i := 32) rfl) rfl) cy_K_ahead im_K_ahead se_K_ahead (lgm 409 (by decide +kernel) rfl) ⟨Nat.le_of_ble_eq_true rfl, Nat.le_of_ble_eq_true rfl⟩ (as := [.int (xs (x3 + 1).toNatClampNeg), .int (xs (x3 + 2).toNatClampNeg), .int (xs (x3 + 3).toNatClampNeg)]) (b := 0) (st := []) (ob_e o1) (by decide) rfl rfl rfl rfl (Nat.le_of_ble_eq_true rfl) ⟨Nat.le_of_ble_eq_true rfl, Nat.le_of_ble_eq_true rfl⟩ (cn_K_ahead e1) ?_
  refine Sm_eq (st1 := [.int p1.1]) (nc1 := 58) (ns1 := 1181) rfl rfl rfl ?_
  refine Sm_run K ek_L5 33 5 rfl ?_
  refine Sm_sld K hs (eok_i (eo ek_L5 (i := 38) rfl) rfl) h1 ?_
  refine Sm_run K ek_L5 39 4 rfl ?_
  refine Sm_sld K hs (eok_i (eo ek_L5 (i := 43) rfl) rfl) h2 ?_
  refine Sm_run K ek_L5 44 4 rfl ?_
  refine Sm_sld K hs (eok_i (eo ek_L5 (i := 48) rfl) rfl) h3 ?_
  refine Sm_callV K (eok_i (eo ek_L5 (i := 49) rfl) rfl) cy_M_ahead im_M_ahead se_M_ahead (lgm 976 (by decide +kernel) rfl) ⟨Nat.le_of_ble_eq_true rfl, Nat.le_of_ble_eq_true rfl⟩ (as := [.int (xs (x3 + 1).toNatClampNeg), .int (xs (x3 + 2).toNatClampNeg), .int (xs (x3 + 3).toNatClampNeg)]) (b := 49) (st := [.int p1.1]) (ob_e o2) (by decide) rfl rfl rfl rfl (Nat.le_of_ble_eq_true rfl) ⟨Nat.le_of_ble_eq_true rfl, Nat.le_of_ble_eq_true rfl⟩ (cn_M_ahead e2) ?_
  refine Sm_eq (st1 := [.int p2.1, .int p1.1]) (nc1 := 58) (ns1 := 1181) rfl rfl rfl ?_
  exact Sm_ic_eq K (eo ek_L5 (i := 50) rfl) (fun _ => kk) (fun c => absurd he c)
set_option maxHeartbeats 4000000 in
set_option maxRecDepth 100000 in
theorem lc_13 {G : Gx} {X : Cx} {L : Nat} {xs : Nat → Int32} (K : Ok G X 12 code 4 ret room_1) (hs : Sc G X L xs) {x3 : Int32} (h1 : inb (x3 + 1) L) (h2 : inb (x3 + 2) L) (h3 : inb (x3 + 3) L) {w : A_W} {f1 f2 : List Value} {p1 p2 : Int32 × A_W} (o1 : ob w 0 0 = some f1) (e1 : F_K_later 0 (xs (x3 + 1).toNatClampNeg) (xs (x3 + 2).toNatClampNeg) (xs (x3 + 3).toNatClampNeg) w = some p1) (o2 : ob p1.2 49 4 = some f2) (e2 : F_M_later 49 (xs (x3 + 1).toNatClampNeg) (xs (x3 + 2).toNatClampNeg) (xs (x3 + 3).toNatClampNeg) p1.2 = some p2) (he : p1.1 = p2.1) (kk : Sm G X p2.2 58 1181 [some (.ref scA), some (.ref 0), some (.ref 49), some (.int x3)] [] 1500) : Sm G X w 58 1181 [some (.ref scA), some (.ref 0), some (.ref 49), some (.int x3)] [] 629 := by
  refine Sm_run K ek_L5 53 5 rfl ?_
  refine Sm_sld K hs (eok_i (eo ek_L5 (i := 58) rfl) rfl) h1 ?_
  refine Sm_run K ek_L5 59 1 rfl ?_
  refine Sm_run K ek_L6 0 3 rfl ?_
  refine Sm_sld K hs (eok_i (eo ek_L6 (i := 3) rfl) rfl) h2 ?_
  refine Sm_run K ek_L6 4 4 rfl ?_
  refine Sm_sld K hs (eok_i (eo ek_L6 (i := 8) rfl) rfl) h3 ?_
  refine Sm_callV K (eok_i (eo ek_L6 (i := 9) rfl) rfl) cy_K_later im_K_later se_K_later (lgm 424 (by decide +kernel) rfl) ⟨Nat.le_of_ble_eq_true rfl, Nat.le_of_ble_eq_true rfl⟩ (as := [.int (xs (x3 + 1).toNatClampNeg), .int (xs (x3 + 2).toNatClampNeg), .int (xs (x3 + 3).toNatClampNeg)]) (b := 0) (st := []) (ob_e o1) (by decide) rfl rfl rfl rfl (Nat.le_of_ble_eq_true rfl) ⟨Nat.le_of_ble_eq_true rfl, Nat.le_of_ble_eq_true rfl⟩ (cn_K_later e1) ?_
  refine Sm_eq (st1 := [.int p1.1]) (nc1 := 58) (ns1 := 1181) rfl rfl rfl ?_
  refine Sm_run K ek_L6 10 5 rfl ?_
  refine Sm_sld K hs (eok_i (eo ek_L6 (i := 15) rfl) rfl) h1 ?_
  refine Sm_run K ek_L6 16 4 rfl ?_
  refine Sm_sld K hs (eok_i (eo ek_L6 (i := 20) rfl) rfl) h2 ?_
  refine Sm_run K ek_L6 21 4 rfl ?_
  refine Sm_sld K hs (eok_i (eo ek_L6 (i := 25) rfl) rfl) h3 ?_
  refine Sm_callV K (eok_i (eo ek_L6 (i := 26) rfl) rfl) cy_M_later im_M_later se_M_later (lgm 991 (by decide +kernel) rfl) ⟨Nat.le_of_ble_eq_true rfl, Nat.le_of_ble_eq_true rfl⟩ (as := [.int (xs (x3 + 1).toNatClampNeg), .int (xs (x3 + 2).toNatClampNeg), .int (xs (x3 + 3).toNatClampNeg)]) (b := 49) (st := [.int p1.1]) (ob_e o2) (by decide) rfl rfl rfl rfl (Nat.le_of_ble_eq_true rfl) ⟨Nat.le_of_ble_eq_true rfl, Nat.le_of_ble_eq_true rfl⟩ (cn_M_later e2) ?_
  refine Sm_eq (st1 := [.int p2.1, .int p1.1]) (nc1 := 58) (ns1 := 1181) rfl rfl rfl ?_
  exact Sm_ic_eq K (eo ek_L6 (i := 27) rfl) (fun _ => kk) (fun c => absurd he c)
set_option maxHeartbeats 4000000 in
set_option maxRecDepth 100000 in
theorem lc_14 {G : Gx} {X : Cx} {L : Nat} {xs : Nat → Int32} (K : Ok G X 12 code 4 ret room_1) (hs : Sc G X L xs) {x3 : Int32} (h1 : inb (x3 + 1) L) (h2 : inb (x3 + 2) L) {w : A_W} {f1 f2 : List Value} {p1 p2 : Int32 × A_W} (o1 : ob w 0 0 = some f1) (e1 : F_K_dawn 0 (xs (x3 + 1).toNatClampNeg) (xs (x3 + 2).toNatClampNeg) w = some p1) (o2 : ob p1.2 49 4 = some f2) (e2 : F_M_dawn 49 (xs (x3 + 1).toNatClampNeg) (xs (x3 + 2).toNatClampNeg) p1.2 = some p2) (he : p1.1 = p2.1) (kk : Sm G X p2.2 58 1181 [some (.ref scA), some (.ref 0), some (.ref 49), some (.int x3)] [] 1500) : Sm G X w 58 1181 [some (.ref scA), some (.ref 0), some (.ref 49), some (.int x3)] [] 672 := by
  refine Sm_run K ek_L6 30 5 rfl ?_
  refine Sm_sld K hs (eok_i (eo ek_L6 (i := 35) rfl) rfl) h1 ?_
  refine Sm_run K ek_L6 36 4 rfl ?_
  refine Sm_sld K hs (eok_i (eo ek_L6 (i := 40) rfl) rfl) h2 ?_
  refine Sm_callV K (eok_i (eo ek_L6 (i := 41) rfl) rfl) cy_K_dawn im_K_dawn se_K_dawn (lgm 428 (by decide +kernel) rfl) ⟨Nat.le_of_ble_eq_true rfl, Nat.le_of_ble_eq_true rfl⟩ (as := [.int (xs (x3 + 1).toNatClampNeg), .int (xs (x3 + 2).toNatClampNeg)]) (b := 0) (st := []) (ob_e o1) (by decide) rfl rfl rfl rfl (Nat.le_of_ble_eq_true rfl) ⟨Nat.le_of_ble_eq_true rfl, Nat.le_of_ble_eq_true rfl⟩ (cn_K_dawn e1) ?_
  refine Sm_eq (st1 := [.int p1.1]) (nc1 := 58) (ns1 := 1181) rfl rfl rfl ?_
  refine Sm_run K ek_L6 42 5 rfl ?_
  refine Sm_sld K hs (eok_i (eo ek_L6 (i := 47) rfl) rfl) h1 ?_
  refine Sm_run K ek_L6 48 4 rfl ?_
  refine Sm_sld K hs (eok_i (eo ek_L6 (i := 52) rfl) rfl) h2 ?_
  refine Sm_callV K (eok_i (eo ek_L6 (i := 53) rfl) rfl) cy_M_dawn im_M_dawn se_M_dawn (lgm 995 (by decide +kernel) rfl) ⟨Nat.le_of_ble_eq_true rfl, Nat.le_of_ble_eq_true rfl⟩ (as := [.int (xs (x3 + 1).toNatClampNeg), .int (xs (x3 + 2).toNatClampNeg)]) (b := 49) (st := [.int p1.1]) (ob_e o2) (by decide) rfl rfl rfl rfl (Nat.le_of_ble_eq_true rfl) ⟨Nat.le_of_ble_eq_true rfl, Nat.le_of_ble_eq_true rfl⟩ (cn_M_dawn e2) ?_
  refine Sm_eq (st1 := [.int p2.1, .int p1.1]) (nc1 := 58) (ns1 := 1181) rfl rfl rfl ?_
  exact Sm_ic_eq K (eo ek_L6 (i := 54) rfl) (fun _ => kk) (fun c => absurd he c)
set_option maxHeartbeats 4000000 in
set_option maxRecDepth 100000 in
theorem lc_15 {G : Gx} {X : Cx} {L : Nat} {xs : Nat → Int32} (K : Ok G X 12 code 4 ret room_1) (hs : Sc G X L xs) {x3 : Int32} (h1 : inb (x3 + 1) L) (h2 : inb (x3 + 2) L) {w : A_W} {f1 f2 : List Value} {p1 p2 : Int32 × A_W} (o1 : ob w 0 0 = some f1) (e1 : F_K_meets 0 (xs (x3 + 1).toNatClampNeg) (xs (x3 + 2).toNatClampNeg) w = some p1) (o2 : ob p1.2 49 4 = some f2) (e2 : F_M_meets 49 (xs (x3 + 1).toNatClampNeg) (xs (x3 + 2).toNatClampNeg) p1.2 = some p2) (he : p1.1 = p2.1) (kk : Sm G X p2.2 58 1181 [some (.ref scA), some (.ref 0), some (.ref 49), some (.int x3)] [] 1500) : Sm G X w 58 1181 [some (.ref scA), some (.ref 0), some (.ref 49), some (.int x3)] [] 705 := by
  refine Sm_run K ek_L6 57 3 rfl ?_
  refine Sm_run K ek_L7 0 2 rfl ?_
  refine Sm_sld K hs (eok_i (eo ek_L7 (i := 2) rfl) rfl) h1 ?_
  refine Sm_run K ek_L7 3 4 rfl ?_
  refine Sm_sld K hs (eok_i (eo ek_L7 (i := 7) rfl) rfl) h2 ?_
  refine Sm_callV K (eok_i (eo ek_L7 (i := 8) rfl) rfl) cy_K_meets im_K_meets se_K_meets (lgm 432 (by decide +kernel) rfl) ⟨Nat.le_of_ble_eq_true rfl, Nat.le_of_ble_eq_true rfl⟩ (as := [.int (xs (x3 + 1).toNatClampNeg), .int (xs (x3 + 2).toNatClampNeg)]) (b := 0) (st := []) (ob_e o1) (by decide) rfl rfl rfl rfl (Nat.le_of_ble_eq_true rfl) ⟨Nat.le_of_ble_eq_true rfl, Nat.le_of_ble_eq_true rfl⟩ (cn_K_meets e1) ?_
  refine Sm_eq (st1 := [.int p1.1]) (nc1 := 58) (ns1 := 1181) rfl rfl rfl ?_
  refine Sm_run K ek_L7 9 5 rfl ?_
  refine Sm_sld K hs (eok_i (eo ek_L7 (i := 14) rfl) rfl) h1 ?_
  refine Sm_run K ek_L7 15 4 rfl ?_
  refine Sm_sld K hs (eok_i (eo ek_L7 (i := 19) rfl) rfl) h2 ?_
  refine Sm_callV K (eok_i (eo ek_L7 (i := 20) rfl) rfl) cy_M_meets im_M_meets se_M_meets (lgm 999 (by decide +kernel) rfl) ⟨Nat.le_of_ble_eq_true rfl, Nat.le_of_ble_eq_true rfl⟩ (as := [.int (xs (x3 + 1).toNatClampNeg), .int (xs (x3 + 2).toNatClampNeg)]) (b := 49) (st := [.int p1.1]) (ob_e o2) (by decide) rfl rfl rfl rfl (Nat.le_of_ble_eq_true rfl) ⟨Nat.le_of_ble_eq_true rfl, Nat.le_of_ble_eq_true rfl⟩ (cn_M_meets e2) ?_
  refine Sm_eq (st1 := [.int p2.1, .int p1.1]) (nc1 := 58) (ns1 := 1181) rfl rfl rfl ?_
  exact Sm_ic_eq K (eo ek_L7 (i := 21) rfl) (fun _ => kk) (fun c => absurd he c)
set_option maxHeartbeats 4000000 in
set_option maxRecDepth 100000 in
theorem lc_16 {G : Gx} {X : Cx} {L : Nat} {xs : Nat → Int32} (K : Ok G X 12 code 4 ret room_1) (hs : Sc G X L xs) {x3 : Int32} (h1 : inb (x3 + 1) L) (h2 : inb (x3 + 2) L) {w : A_W} {f1 f2 : List Value} {p1 p2 : Int32 × A_W} (o1 : ob w 0 0 = some f1) (e1 : F_K_threadbare 0 (xs (x3 + 1).toNatClampNeg) (xs (x3 + 2).toNatClampNeg) w = some p1) (o2 : ob p1.2 49 4 = some f2) (e2 : F_M_threadbare 49 (xs (x3 + 1).toNatClampNeg) (xs (x3 + 2).toNatClampNeg) p1.2 = some p2) (he : p1.1 = p2.1) (kk : Sm G X p2.2 58 1181 [some (.ref scA), some (.ref 0), some (.ref 49), some (.int x3)] [] 1500) : Sm G X w 58 1181 [some (.ref scA), some (.ref 0), some (.ref 49), some (.int x3)] [] 738 := by
  refine Sm_run K ek_L7 24 5 rfl ?_
  refine Sm_sld K hs (eok_i (eo ek_L7 (i := 29) rfl) rfl) h1 ?_
  refine Sm_run K ek_L7 30 4 rfl ?_
  refine Sm_sld K hs (eok_i (eo ek_L7 (i := 34) rfl) rfl) h2 ?_
  refine Sm_callV K (eok_i (eo ek_L7 (i := 35) rfl) rfl) cy_K_threadbare im_K_threadbare se_K_threadbare (lgm 444 (by decide +kernel) rfl) ⟨Nat.le_of_ble_eq_true rfl, Nat.le_of_ble_eq_true rfl⟩ (as := [.int (xs (x3 + 1).toNatClampNeg), .int (xs (x3 + 2).toNatClampNeg)]) (b := 0) (st := []) (ob_e o1) (by decide) rfl rfl rfl rfl (Nat.le_of_ble_eq_true rfl) ⟨Nat.le_of_ble_eq_true rfl, Nat.le_of_ble_eq_true rfl⟩ (cn_K_threadbare e1) ?_
  refine Sm_eq (st1 := [.int p1.1]) (nc1 := 58) (ns1 := 1181) rfl rfl rfl ?_
  refine Sm_run K ek_L7 36 5 rfl ?_
  refine Sm_sld K hs (eok_i (eo ek_L7 (i := 41) rfl) rfl) h1 ?_
  refine Sm_run K ek_L7 42 4 rfl ?_
  refine Sm_sld K hs (eok_i (eo ek_L7 (i := 46) rfl) rfl) h2 ?_
  refine Sm_callV K (eok_i (eo ek_L7 (i := 47) rfl) rfl) cy_M_threadbare im_M_threadbare se_M_threadbare (lgm 1007 (by decide +kernel) rfl) ⟨Nat.le_of_ble_eq_true rfl, Nat.le_of_ble_eq_true rfl⟩ (as := [.int (xs (x3 + 1).toNatClampNeg), .int (xs (x3 + 2).toNatClampNeg)]) (b := 49) (st := [.int p1.1]) (ob_e o2) (by decide) rfl rfl rfl rfl (Nat.le_of_ble_eq_true rfl) ⟨Nat.le_of_ble_eq_true rfl, Nat.le_of_ble_eq_true rfl⟩ (cn_M_threadbare e2) ?_
  refine Sm_eq (st1 := [.int p2.1, .int p1.1]) (nc1 := 58) (ns1 := 1181) rfl rfl rfl ?_
  exact Sm_ic_eq K (eo ek_L7 (i := 48) rfl) (fun _ => kk) (fun c => absurd he c)
set_option maxHeartbeats 4000000 in
set_option maxRecDepth 100000 in
theorem lc_17 {G : Gx} {X : Cx} {L : Nat} {xs : Nat → Int32} (K : Ok G X 12 code 4 ret room_1) (hs : Sc G X L xs) {x3 : Int32} (h1 : inb (x3 + 1) L) {w : A_W} {f1 f2 : List Value} {p1 p2 : Int32 × A_W} (o1 : ob w 0 0 = some f1) (e1 : F_K_earns 0 (xs (x3 + 1).toNatClampNeg) w = some p1) (o2 : ob p1.2 49 4 = some f2) (e2 : F_M_earns 49 (xs (x3 + 1).toNatClampNeg) p1.2 = some p2) (he : p1.1 = p2.1) (kk : Sm G X p2.2 58 1181 [some (.ref scA), some (.ref 0), some (.ref 49), some (.int x3)] [] 1500) : Sm G X w 58 1181 [some (.ref scA), some (.ref 0), some (.ref 49), some (.int x3)] [] 771 := by
  refine Sm_run K ek_L7 51 5 rfl ?_
  refine Sm_sld K hs (eok_i (eo ek_L7 (i := 56) rfl) rfl) h1 ?_
  refine Sm_callV K (eok_i (eo ek_L7 (i := 57) rfl) rfl) cy_K_earns im_K_earns se_K_earns (lgm 448 (by decide +kernel) rfl) ⟨Nat.le_of_ble_eq_true rfl, Nat.le_of_ble_eq_true rfl⟩ (as := [.int (xs (x3 + 1).toNatClampNeg)]) (b := 0) (st := []) (ob_e o1) (by decide) rfl rfl rfl rfl (Nat.le_of_ble_eq_true rfl) ⟨Nat.le_of_ble_eq_true rfl, Nat.le_of_ble_eq_true rfl⟩ (cn_K_earns e1) ?_
  refine Sm_eq (st1 := [.int p1.1]) (nc1 := 58) (ns1 := 1181) rfl rfl rfl ?_
  refine Sm_run K ek_L7 58 2 rfl ?_
  refine Sm_run K ek_L8 0 3 rfl ?_
  refine Sm_sld K hs (eok_i (eo ek_L8 (i := 3) rfl) rfl) h1 ?_
  refine Sm_callV K (eok_i (eo ek_L8 (i := 4) rfl) rfl) cy_M_earns im_M_earns se_M_earns (lgm 1011 (by decide +kernel) rfl) ⟨Nat.le_of_ble_eq_true rfl, Nat.le_of_ble_eq_true rfl⟩ (as := [.int (xs (x3 + 1).toNatClampNeg)]) (b := 49) (st := [.int p1.1]) (ob_e o2) (by decide) rfl rfl rfl rfl (Nat.le_of_ble_eq_true rfl) ⟨Nat.le_of_ble_eq_true rfl, Nat.le_of_ble_eq_true rfl⟩ (cn_M_earns e2) ?_
  refine Sm_eq (st1 := [.int p2.1, .int p1.1]) (nc1 := 58) (ns1 := 1181) rfl rfl rfl ?_
  exact Sm_ic_eq K (eo ek_L8 (i := 5) rfl) (fun _ => kk) (fun c => absurd he c)
set_option maxHeartbeats 4000000 in
set_option maxRecDepth 100000 in
theorem lc_18 {G : Gx} {X : Cx} {L : Nat} {xs : Nat → Int32} (K : Ok G X 12 code 4 ret room_1) (hs : Sc G X L xs) {x3 : Int32} (h1 : inb (x3 + 1) L) (h2 : inb (x3 + 2) L) {w : A_W} {f1 f2 : List Value} {p1 p2 : Int32 × A_W} (o1 : ob w 0 0 = some f1) (e1 : F_K_hangFor 0 (xs (x3 + 1).toNatClampNeg) (xs (x3 + 2).toNatClampNeg) w = some p1) (o2 : ob p1.2 49 4 = some f2) (e2 : F_M_hangFor 49 (xs (x3 + 1).toNatClampNeg) (xs (x3 + 2).toNatClampNeg) p1.2 = some p2) (he : p1.1 = p2.1) (kk : Sm G X p2.2 58 1181 [some (.ref scA), some (.ref 0), some (.ref 49), some (.int x3)] [] 1500) : Sm G X w 58 1181 [some (.ref scA), some (.ref 0), some (.ref 49), some (.int x3)] [] 794 := by
  refine Sm_run K ek_L8 8 5 rfl ?_
  refine Sm_sld K hs (eok_i (eo ek_L8 (i := 13) rfl) rfl) h1 ?_
  refine Sm_run K ek_L8 14 4 rfl ?_
  refine Sm_sld K hs (eok_i (eo ek_L8 (i := 18) rfl) rfl) h2 ?_
  refine Sm_callV K (eok_i (eo ek_L8 (i := 19) rfl) rfl) cy_K_hangFor im_K_hangFor se_K_hangFor (lgm 452 (by decide +kernel) rfl) ⟨Nat.le_of_ble_eq_true rfl, Nat.le_of_ble_eq_true rfl⟩ (as := [.int (xs (x3 + 1).toNatClampNeg), .int (xs (x3 + 2).toNatClampNeg)]) (b := 0) (st := []) (ob_e o1) (by decide) rfl rfl rfl rfl (Nat.le_of_ble_eq_true rfl) ⟨Nat.le_of_ble_eq_true rfl, Nat.le_of_ble_eq_true rfl⟩ (cn_K_hangFor e1) ?_
  refine Sm_eq (st1 := [.int p1.1]) (nc1 := 58) (ns1 := 1181) rfl rfl rfl ?_
  refine Sm_run K ek_L8 20 5 rfl ?_
  refine Sm_sld K hs (eok_i (eo ek_L8 (i := 25) rfl) rfl) h1 ?_
  refine Sm_run K ek_L8 26 4 rfl ?_
  refine Sm_sld K hs (eok_i (eo ek_L8 (i := 30) rfl) rfl) h2 ?_
  refine Sm_callV K (eok_i (eo ek_L8 (i := 31) rfl) rfl) cy_M_hangFor im_M_hangFor se_M_hangFor (lgm 1015 (by decide +kernel) rfl) ⟨Nat.le_of_ble_eq_true rfl, Nat.le_of_ble_eq_true rfl⟩ (as := [.int (xs (x3 + 1).toNatClampNeg), .int (xs (x3 + 2).toNatClampNeg)]) (b := 49) (st := [.int p1.1]) (ob_e o2) (by decide) rfl rfl rfl rfl (Nat.le_of_ble_eq_true rfl) ⟨Nat.le_of_ble_eq_true rfl, Nat.le_of_ble_eq_true rfl⟩ (cn_M_hangFor e2) ?_
  refine Sm_eq (st1 := [.int p2.1, .int p1.1]) (nc1 := 58) (ns1 := 1181) rfl rfl rfl ?_
  exact Sm_ic_eq K (eo ek_L8 (i := 32) rfl) (fun _ => kk) (fun c => absurd he c)
set_option maxHeartbeats 4000000 in
set_option maxRecDepth 100000 in
theorem lc_19 {G : Gx} {X : Cx} {L : Nat} {xs : Nat → Int32} (K : Ok G X 12 code 4 ret room_1) (hs : Sc G X L xs) {x3 : Int32} (h1 : inb (x3 + 1) L) (h2 : inb (x3 + 2) L) {w : A_W} {f1 f2 : List Value} {p1 p2 : Int32 × A_W} (o1 : ob w 0 0 = some f1) (e1 : F_K_standFor 0 (xs (x3 + 1).toNatClampNeg) (xs (x3 + 2).toNatClampNeg) w = some p1) (o2 : ob p1.2 49 4 = some f2) (e2 : F_M_standFor 49 (xs (x3 + 1).toNatClampNeg) (xs (x3 + 2).toNatClampNeg) p1.2 = some p2) (he : p1.1 = p2.1) (kk : Sm G X p2.2 58 1181 [some (.ref scA), some (.ref 0), some (.ref 49), some (.int x3)] [] 1500) : Sm G X w 58 1181 [some (.ref scA), some (.ref 0), some (.ref 49), some (.int x3)] [] 827 := by
  refine Sm_run K ek_L8 35 5 rfl ?_
  refine Sm_sld K hs (eok_i (eo ek_L8 (i := 40) rfl) rfl) h1 ?_
  refine Sm_run K ek_L8 41 4 rfl ?_
  refine Sm_sld K hs (eok_i (eo ek_L8 (i := 45) rfl) rfl) h2 ?_
  refine Sm_callV K (eok_i (eo ek_L8 (i := 46) rfl) rfl) cy_K_standFor im_K_standFor se_K_standFor (lgm 465 (by decide +kernel) rfl) ⟨Nat.le_of_ble_eq_true rfl, Nat.le_of_ble_eq_true rfl⟩ (as := [.int (xs (x3 + 1).toNatClampNeg), .int (xs (x3 + 2).toNatClampNeg)]) (b := 0) (st := []) (ob_e o1) (by decide) rfl rfl rfl rfl (Nat.le_of_ble_eq_true rfl) ⟨Nat.le_of_ble_eq_true rfl, Nat.le_of_ble_eq_true rfl⟩ (cn_K_standFor e1) ?_
  refine Sm_eq (st1 := [.int p1.1]) (nc1 := 58) (ns1 := 1181) rfl rfl rfl ?_
  refine Sm_run K ek_L8 47 5 rfl ?_
  refine Sm_sld K hs (eok_i (eo ek_L8 (i := 52) rfl) rfl) h1 ?_
  refine Sm_run K ek_L8 53 4 rfl ?_
  refine Sm_sld K hs (eok_i (eo ek_L8 (i := 57) rfl) rfl) h2 ?_
  refine Sm_callV K (eok_i (eo ek_L8 (i := 58) rfl) rfl) cy_M_standFor im_M_standFor se_M_standFor (lgm 1027 (by decide +kernel) rfl) ⟨Nat.le_of_ble_eq_true rfl, Nat.le_of_ble_eq_true rfl⟩ (as := [.int (xs (x3 + 1).toNatClampNeg), .int (xs (x3 + 2).toNatClampNeg)]) (b := 49) (st := [.int p1.1]) (ob_e o2) (by decide) rfl rfl rfl rfl (Nat.le_of_ble_eq_true rfl) ⟨Nat.le_of_ble_eq_true rfl, Nat.le_of_ble_eq_true rfl⟩ (cn_M_standFor e2) ?_
  refine Sm_eq (st1 := [.int p2.1, .int p1.1]) (nc1 := 58) (ns1 := 1181) rfl rfl rfl ?_
  exact Sm_ic_eq K (eo ek_L8 (i := 59) rfl) (fun _ => kk) (fun c => absurd he c)
set_option maxHeartbeats 4000000 in
set_option maxRecDepth 100000 in
theorem lc_20 {G : Gx} {X : Cx} {L : Nat} {xs : Nat → Int32} (K : Ok G X 12 code 4 ret room_1) (hs : Sc G X L xs) {x3 : Int32} (h1 : inb (x3 + 1) L) (h2 : inb (x3 + 2) L) {w : A_W} {f1 f2 : List Value} {p1 p2 : Int32 × A_W} (o1 : ob w 0 0 = some f1) (e1 : F_K_kindFor 0 (xs (x3 + 1).toNatClampNeg) (xs (x3 + 2).toNatClampNeg) w = some p1) (o2 : ob p1.2 49 4 = some f2) (e2 : F_M_kindFor 49 (xs (x3 + 1).toNatClampNeg) (xs (x3 + 2).toNatClampNeg) p1.2 = some p2) (he : p1.1 = p2.1) (kk : Sm G X p2.2 58 1181 [some (.ref scA), some (.ref 0), some (.ref 49), some (.int x3)] [] 1500) : Sm G X w 58 1181 [some (.ref scA), some (.ref 0), some (.ref 49), some (.int x3)] [] 860 := by
  refine Sm_run K ek_L9 2 5 rfl ?_
  refine Sm_sld K hs (eok_i (eo ek_L9 (i := 7) rfl) rfl) h1 ?_
  refine Sm_run K ek_L9 8 4 rfl ?_
  refine Sm_sld K hs (eok_i (eo ek_L9 (i := 12) rfl) rfl) h2 ?_
  refine Sm_callV K (eok_i (eo ek_L9 (i := 13) rfl) rfl) cy_K_kindFor im_K_kindFor se_K_kindFor (lgm 469 (by decide +kernel) rfl) ⟨Nat.le_of_ble_eq_true rfl, Nat.le_of_ble_eq_true rfl⟩ (as := [.int (xs (x3 + 1).toNatClampNeg), .int (xs (x3 + 2).toNatClampNeg)]) (b := 0) (st := []) (ob_e o1) (by decide) rfl rfl rfl rfl (Nat.le_of_ble_eq_true rfl) ⟨Nat.le_of_ble_eq_true rfl, Nat.le_of_ble_eq_true rfl⟩ (cn_K_kindFor e1) ?_
  refine Sm_eq (st1 := [.int p1.1]) (nc1 := 58) (ns1 := 1181) rfl rfl rfl ?_
  refine Sm_run K ek_L9 14 5 rfl ?_
  refine Sm_sld K hs (eok_i (eo ek_L9 (i := 19) rfl) rfl) h1 ?_
  refine Sm_run K ek_L9 20 4 rfl ?_
  refine Sm_sld K hs (eok_i (eo ek_L9 (i := 24) rfl) rfl) h2 ?_
  refine Sm_callV K (eok_i (eo ek_L9 (i := 25) rfl) rfl) cy_M_kindFor im_M_kindFor se_M_kindFor (lgm 1031 (by decide +kernel) rfl) ⟨Nat.le_of_ble_eq_true rfl, Nat.le_of_ble_eq_true rfl⟩ (as := [.int (xs (x3 + 1).toNatClampNeg), .int (xs (x3 + 2).toNatClampNeg)]) (b := 49) (st := [.int p1.1]) (ob_e o2) (by decide) rfl rfl rfl rfl (Nat.le_of_ble_eq_true rfl) ⟨Nat.le_of_ble_eq_true rfl, Nat.le_of_ble_eq_true rfl⟩ (cn_M_kindFor e2) ?_
  refine Sm_eq (st1 := [.int p2.1, .int p1.1]) (nc1 := 58) (ns1 := 1181) rfl rfl rfl ?_
  exact Sm_ic_eq K (eo ek_L9 (i := 26) rfl) (fun _ => kk) (fun c => absurd he c)
set_option maxHeartbeats 4000000 in
set_option maxRecDepth 100000 in
theorem lc_21 {G : Gx} {X : Cx} {L : Nat} {xs : Nat → Int32} (K : Ok G X 12 code 4 ret room_1) (hs : Sc G X L xs) {x3 : Int32} (h1 : inb (x3 + 1) L) (h2 : inb (x3 + 2) L) {w : A_W} {f1 f2 : List Value} {p1 p2 : Int32 × A_W} (o1 : ob w 0 0 = some f1) (e1 : F_K_hopeFor 0 (xs (x3 + 1).toNatClampNeg) (xs (x3 + 2).toNatClampNeg) w = some p1) (o2 : ob p1.2 49 4 = some f2) (e2 : F_M_hopeFor 49 (xs (x3 + 1).toNatClampNeg) (xs (x3 + 2).toNatClampNeg) p1.2 = some p2) (he : p1.1 = p2.1) (kk : Sm G X p2.2 58 1181 [some (.ref scA), some (.ref 0), some (.ref 49), some (.int x3)] [] 1500) : Sm G X w 58 1181 [some (.ref scA), some (.ref 0), some (.ref 49), some (.int x3)] [] 893 := by
  refine Sm_run K ek_L9 29 5 rfl ?_
  refine Sm_sld K hs (eok_i (eo ek_L9 (i := 34) rfl) rfl) h1 ?_
  refine Sm_run K ek_L9 35 4 rfl ?_
  refine Sm_sld K hs (eok_i (eo ek_L9 (i := 39) rfl) rfl) h2 ?_
  refine Sm_callV K (eok_i (eo ek_L9 (i := 40) rfl) rfl) cy_K_hopeFor im_K_hopeFor se_K_hopeFor (lgm 473 (by decide +kernel) rfl) ⟨Nat.le_of_ble_eq_true rfl, Nat.le_of_ble_eq_true rfl⟩ (as := [.int (xs (x3 + 1).toNatClampNeg), .int (xs (x3 + 2).toNatClampNeg)]) (b := 0) (st := []) (ob_e o1) (by decide) rfl rfl rfl rfl (Nat.le_of_ble_eq_true rfl) ⟨Nat.le_of_ble_eq_true rfl, Nat.le_of_ble_eq_true rfl⟩ (cn_K_hopeFor e1) ?_
  refine Sm_eq (st1 := [.int p1.1]) (nc1 := 58) (ns1 := 1181) rfl rfl rfl ?_
  refine Sm_run K ek_L9 41 5 rfl ?_
  refine Sm_sld K hs (eok_i (eo ek_L9 (i := 46) rfl) rfl) h1 ?_
  refine Sm_run K ek_L9 47 4 rfl ?_
  refine Sm_sld K hs (eok_i (eo ek_L9 (i := 51) rfl) rfl) h2 ?_
  refine Sm_callV K (eok_i (eo ek_L9 (i := 52) rfl) rfl) cy_M_hopeFor im_M_hopeFor se_M_hopeFor (lgm 1035 (by decide +kernel) rfl) ⟨Nat.le_of_ble_eq_true rfl, Nat.le_of_ble_eq_true rfl⟩ (as := [.int (xs (x3 + 1).toNatClampNeg), .int (xs (x3 + 2).toNatClampNeg)]) (b := 49) (st := [.int p1.1]) (ob_e o2) (by decide) rfl rfl rfl rfl (Nat.le_of_ble_eq_true rfl) ⟨Nat.le_of_ble_eq_true rfl, Nat.le_of_ble_eq_true rfl⟩ (cn_M_hopeFor e2) ?_
  refine Sm_eq (st1 := [.int p2.1, .int p1.1]) (nc1 := 58) (ns1 := 1181) rfl rfl rfl ?_
  exact Sm_ic_eq K (eo ek_L9 (i := 53) rfl) (fun _ => kk) (fun c => absurd he c)
set_option maxHeartbeats 4000000 in
set_option maxRecDepth 100000 in
theorem lc_22 {G : Gx} {X : Cx} {L : Nat} {xs : Nat → Int32} (K : Ok G X 12 code 4 ret room_1) (hs : Sc G X L xs) {x3 : Int32} (h1 : inb (x3 + 1) L) {w : A_W} {f1 f2 : List Value} {p1 p2 : Int32 × A_W} (o1 : ob w 0 0 = some f1) (e1 : F_K_giveOut 0 (xs (x3 + 1).toNatClampNeg) w = some p1) (o2 : ob p1.2 49 4 = some f2) (e2 : F_M_giveOut 49 (xs (x3 + 1).toNatClampNeg) p1.2 = some p2) (he : p1.1 = p2.1) (kk : Sm G X p2.2 58 1181 [some (.ref scA), some (.ref 0), some (.ref 49), some (.int x3)] [] 1500) : Sm G X w 58 1181 [some (.ref scA), some (.ref 0), some (.ref 49), some (.int x3)] [] 926 := by
  refine Sm_run K ek_L9 56 4 rfl ?_
  refine Sm_run K ek_L10 0 1 rfl ?_
  refine Sm_sld K hs (eok_i (eo ek_L10 (i := 1) rfl) rfl) h1 ?_
  refine Sm_callV K (eok_i (eo ek_L10 (i := 2) rfl) rfl) cy_K_giveOut im_K_giveOut se_K_giveOut (lgm 482 (by decide +kernel) rfl) ⟨Nat.le_of_ble_eq_true rfl, Nat.le_of_ble_eq_true rfl⟩ (as := [.int (xs (x3 + 1).toNatClampNeg)]) (b := 0) (st := []) (ob_e o1) (by decide) rfl rfl rfl rfl (Nat.le_of_ble_eq_true rfl) ⟨Nat.le_of_ble_eq_true rfl, Nat.le_of_ble_eq_true rfl⟩ (cn_K_giveOut e1) ?_
  refine Sm_eq (st1 := [.int p1.1]) (nc1 := 58) (ns1 := 1181) rfl rfl rfl ?_
  refine Sm_run K ek_L10 3 5 rfl ?_
  refine Sm_sld K hs (eok_i (eo ek_L10 (i := 8) rfl) rfl) h1 ?_
  refine Sm_callV K (eok_i (eo ek_L10 (i := 9) rfl) rfl) cy_M_giveOut im_M_giveOut se_M_giveOut (lgm 1039 (by decide +kernel) rfl) ⟨Nat.le_of_ble_eq_true rfl, Nat.le_of_ble_eq_true rfl⟩ (as := [.int (xs (x3 + 1).toNatClampNeg)]) (b := 49) (st := [.int p1.1]) (ob_e o2) (by decide) rfl rfl rfl rfl (Nat.le_of_ble_eq_true rfl) ⟨Nat.le_of_ble_eq_true rfl, Nat.le_of_ble_eq_true rfl⟩ (cn_M_giveOut e2) ?_
  refine Sm_eq (st1 := [.int p2.1, .int p1.1]) (nc1 := 58) (ns1 := 1181) rfl rfl rfl ?_
  exact Sm_ic_eq K (eo ek_L10 (i := 10) rfl) (fun _ => kk) (fun c => absurd he c)
set_option maxHeartbeats 4000000 in
set_option maxRecDepth 100000 in
theorem lc_23 {G : Gx} {X : Cx} {L : Nat} {xs : Nat → Int32} (K : Ok G X 12 code 4 ret room_1) (hs : Sc G X L xs) {x3 : Int32} (h1 : inb (x3 + 1) L) (h2 : inb (x3 + 2) L) {w : A_W} {f1 f2 : List Value} {p1 p2 : Int32 × A_W} (o1 : ob w 0 0 = some f1) (e1 : F_K_fits 0 (xs (x3 + 1).toNatClampNeg) (xs (x3 + 2).toNatClampNeg) w = some p1) (o2 : ob p1.2 49 4 = some f2) (e2 : F_M_fits 49 (xs (x3 + 1).toNatClampNeg) (xs (x3 + 2).toNatClampNeg) p1.2 = some p2) (he : p1.1 = p2.1) (kk : Sm G X p2.2 58 1181 [some (.ref scA), some (.ref 0), some (.ref 49), some (.int x3)] [] 1500) : Sm G X w 58 1181 [some (.ref scA), some (.ref 0), some (.ref 49), some (.int x3)] [] 949 := by
  refine Sm_run K ek_L10 13 5 rfl ?_
  refine Sm_sld K hs (eok_i (eo ek_L10 (i := 18) rfl) rfl) h1 ?_
  refine Sm_run K ek_L10 19 4 rfl ?_
  refine Sm_sld K hs (eok_i (eo ek_L10 (i := 23) rfl) rfl) h2 ?_
  refine Sm_callV K (eok_i (eo ek_L10 (i := 24) rfl) rfl) cy_K_fits im_K_fits se_K_fits (lgm 500 (by decide +kernel) rfl) ⟨Nat.le_of_ble_eq_true rfl, Nat.le_of_ble_eq_true rfl⟩ (as := [.int (xs (x3 + 1).toNatClampNeg), .int (xs (x3 + 2).toNatClampNeg)]) (b := 0) (st := []) (ob_e o1) (by decide) rfl rfl rfl rfl (Nat.le_of_ble_eq_true rfl) ⟨Nat.le_of_ble_eq_true rfl, Nat.le_of_ble_eq_true rfl⟩ (cn_K_fits e1) ?_
  refine Sm_eq (st1 := [.int p1.1]) (nc1 := 58) (ns1 := 1181) rfl rfl rfl ?_
  refine Sm_run K ek_L10 25 5 rfl ?_
  refine Sm_sld K hs (eok_i (eo ek_L10 (i := 30) rfl) rfl) h1 ?_
  refine Sm_run K ek_L10 31 4 rfl ?_
  refine Sm_sld K hs (eok_i (eo ek_L10 (i := 35) rfl) rfl) h2 ?_
  refine Sm_callV K (eok_i (eo ek_L10 (i := 36) rfl) rfl) cy_M_fits im_M_fits se_M_fits (lgm 1050 (by decide +kernel) rfl) ⟨Nat.le_of_ble_eq_true rfl, Nat.le_of_ble_eq_true rfl⟩ (as := [.int (xs (x3 + 1).toNatClampNeg), .int (xs (x3 + 2).toNatClampNeg)]) (b := 49) (st := [.int p1.1]) (ob_e o2) (by decide) rfl rfl rfl rfl (Nat.le_of_ble_eq_true rfl) ⟨Nat.le_of_ble_eq_true rfl, Nat.le_of_ble_eq_true rfl⟩ (cn_M_fits e2) ?_
  refine Sm_eq (st1 := [.int p2.1, .int p1.1]) (nc1 := 58) (ns1 := 1181) rfl rfl rfl ?_
  exact Sm_ic_eq K (eo ek_L10 (i := 37) rfl) (fun _ => kk) (fun c => absurd he c)
set_option maxHeartbeats 4000000 in
set_option maxRecDepth 100000 in
theorem lc_24 {G : Gx} {X : Cx} {L : Nat} {xs : Nat → Int32} (K : Ok G X 12 code 4 ret room_1) (hs : Sc G X L xs) {x3 : Int32} (h1 : inb (x3 + 1) L) (h2 : inb (x3 + 2) L) {w : A_W} {f1 f2 : List Value} {p1 p2 : Int32 × A_W} (o1 : ob w 0 0 = some f1) (e1 : F_K_kinds 0 (xs (x3 + 1).toNatClampNeg) (xs (x3 + 2).toNatClampNeg) w = some p1) (o2 : ob p1.2 49 4 = some f2) (e2 : F_M_kinds 49 (xs (x3 + 1).toNatClampNeg) (xs (x3 + 2).toNatClampNeg) p1.2 = some p2) (he : p1.1 = p2.1) (kk : Sm G X p2.2 58 1181 [some (.ref scA), some (.ref 0), some (.ref 49), some (.int x3)] [] 1500) : Sm G X w 58 1181 [some (.ref scA), some (.ref 0), some (.ref 49), some (.int x3)] [] 982 := by
  refine Sm_run K ek_L10 40 5 rfl ?_
  refine Sm_sld K hs (eok_i (eo ek_L10 (i := 45) rfl) rfl) h1 ?_
  refine Sm_run K ek_L10 46 4 rfl ?_
  refine Sm_sld K hs (eok_i (eo ek_L10 (i := 50) rfl) rfl) h2 ?_
  refine Sm_callV K (eok_i (eo ek_L10 (i := 51) rfl) rfl) cy_K_kinds im_K_kinds se_K_kinds (lgm 524 (by decide +kernel) rfl) ⟨Nat.le_of_ble_eq_true rfl, Nat.le_of_ble_eq_true rfl⟩ (as := [.int (xs (x3 + 1).toNatClampNeg), .int (xs (x3 + 2).toNatClampNeg)]) (b := 0) (st := []) (ob_e o1) (by decide) rfl rfl rfl rfl (Nat.le_of_ble_eq_true rfl) ⟨Nat.le_of_ble_eq_true rfl, Nat.le_of_ble_eq_true rfl⟩ (cn_K_kinds e1) ?_
  refine Sm_eq (st1 := [.int p1.1]) (nc1 := 58) (ns1 := 1181) rfl rfl rfl ?_
  refine Sm_run K ek_L10 52 5 rfl ?_
  refine Sm_sld K hs (eok_i (eo ek_L10 (i := 57) rfl) rfl) h1 ?_
  refine Sm_run K ek_L10 58 2 rfl ?_
  refine Sm_run K ek_L11 0 2 rfl ?_
  refine Sm_sld K hs (eok_i (eo ek_L11 (i := 2) rfl) rfl) h2 ?_
  refine Sm_callV K (eok_i (eo ek_L11 (i := 3) rfl) rfl) cy_M_kinds im_M_kinds se_M_kinds (lgm 1074 (by decide +kernel) rfl) ⟨Nat.le_of_ble_eq_true rfl, Nat.le_of_ble_eq_true rfl⟩ (as := [.int (xs (x3 + 1).toNatClampNeg), .int (xs (x3 + 2).toNatClampNeg)]) (b := 49) (st := [.int p1.1]) (ob_e o2) (by decide) rfl rfl rfl rfl (Nat.le_of_ble_eq_true rfl) ⟨Nat.le_of_ble_eq_true rfl, Nat.le_of_ble_eq_true rfl⟩ (cn_M_kinds e2) ?_
  refine Sm_eq (st1 := [.int p2.1, .int p1.1]) (nc1 := 58) (ns1 := 1181) rfl rfl rfl ?_
  exact Sm_ic_eq K (eo ek_L11 (i := 4) rfl) (fun _ => kk) (fun c => absurd he c)
set_option maxHeartbeats 4000000 in
set_option maxRecDepth 100000 in
theorem lc_25 {G : Gx} {X : Cx} {L : Nat} {xs : Nat → Int32} (K : Ok G X 12 code 4 ret room_1) (hs : Sc G X L xs) {x3 : Int32} (h1 : inb (x3 + 1) L) {w : A_W} {f1 f2 : List Value} {p1 p2 : Int32 × A_W} (o1 : ob w 0 0 = some f1) (e1 : F_K_night 0 (xs (x3 + 1).toNatClampNeg) w = some p1) (o2 : ob p1.2 49 4 = some f2) (e2 : F_M_night 49 (xs (x3 + 1).toNatClampNeg) p1.2 = some p2) (he : p1.1 = p2.1) (kk : Sm G X p2.2 58 1181 [some (.ref scA), some (.ref 0), some (.ref 49), some (.int x3)] [] 1500) : Sm G X w 58 1181 [some (.ref scA), some (.ref 0), some (.ref 49), some (.int x3)] [] 1015 := by
  refine Sm_run K ek_L11 7 5 rfl ?_
  refine Sm_sld K hs (eok_i (eo ek_L11 (i := 12) rfl) rfl) h1 ?_
  refine Sm_callV K (eok_i (eo ek_L11 (i := 13) rfl) rfl) cy_K_night im_K_night se_K_night (lgm 528 (by decide +kernel) rfl) ⟨Nat.le_of_ble_eq_true rfl, Nat.le_of_ble_eq_true rfl⟩ (as := [.int (xs (x3 + 1).toNatClampNeg)]) (b := 0) (st := []) (ob_e o1) (by decide) rfl rfl rfl rfl (Nat.le_of_ble_eq_true rfl) ⟨Nat.le_of_ble_eq_true rfl, Nat.le_of_ble_eq_true rfl⟩ (cn_K_night e1) ?_
  refine Sm_eq (st1 := [.int p1.1]) (nc1 := 58) (ns1 := 1181) rfl rfl rfl ?_
  refine Sm_run K ek_L11 14 5 rfl ?_
  refine Sm_sld K hs (eok_i (eo ek_L11 (i := 19) rfl) rfl) h1 ?_
  refine Sm_callV K (eok_i (eo ek_L11 (i := 20) rfl) rfl) cy_M_night im_M_night se_M_night (lgm 1078 (by decide +kernel) rfl) ⟨Nat.le_of_ble_eq_true rfl, Nat.le_of_ble_eq_true rfl⟩ (as := [.int (xs (x3 + 1).toNatClampNeg)]) (b := 49) (st := [.int p1.1]) (ob_e o2) (by decide) rfl rfl rfl rfl (Nat.le_of_ble_eq_true rfl) ⟨Nat.le_of_ble_eq_true rfl, Nat.le_of_ble_eq_true rfl⟩ (cn_M_night e2) ?_
  refine Sm_eq (st1 := [.int p2.1, .int p1.1]) (nc1 := 58) (ns1 := 1181) rfl rfl rfl ?_
  exact Sm_ic_eq K (eo ek_L11 (i := 21) rfl) (fun _ => kk) (fun c => absurd he c)
set_option maxHeartbeats 4000000 in
set_option maxRecDepth 100000 in
theorem lc_26 {G : Gx} {X : Cx} {L : Nat} {xs : Nat → Int32} (K : Ok G X 12 code 4 ret room_1) (hs : Sc G X L xs) {x3 : Int32} (h1 : inb (x3 + 1) L) (h2 : inb (x3 + 2) L) {w : A_W} {f1 f2 : List Value} {p1 p2 : Int64 × A_W} (o1 : ob w 0 0 = some f1) (e1 : F_K_odds 0 (xs (x3 + 1).toNatClampNeg) (xs (x3 + 2).toNatClampNeg) w = some p1) (o2 : ob p1.2 49 4 = some f2) (e2 : F_M_odds 49 (xs (x3 + 1).toNatClampNeg) (xs (x3 + 2).toNatClampNeg) p1.2 = some p2) (he : p1.1 = p2.1) (kk : Sm G X p2.2 58 1181 [some (.ref scA), some (.ref 0), some (.ref 49), some (.int x3)] [] 1500) : Sm G X w 58 1181 [some (.ref scA), some (.ref 0), some (.ref 49), some (.int x3)] [] 1038 := by
  refine Sm_run K ek_L11 24 5 rfl ?_
  refine Sm_sld K hs (eok_i (eo ek_L11 (i := 29) rfl) rfl) h1 ?_
  refine Sm_run K ek_L11 30 4 rfl ?_
  refine Sm_sld K hs (eok_i (eo ek_L11 (i := 34) rfl) rfl) h2 ?_
  refine Sm_callV K (eok_i (eo ek_L11 (i := 35) rfl) rfl) cy_K_odds im_K_odds se_K_odds (lgm 537 (by decide +kernel) rfl) ⟨Nat.le_of_ble_eq_true rfl, Nat.le_of_ble_eq_true rfl⟩ (as := [.int (xs (x3 + 1).toNatClampNeg), .int (xs (x3 + 2).toNatClampNeg)]) (b := 0) (st := []) (ob_e o1) (by decide) rfl rfl rfl rfl (Nat.le_of_ble_eq_true rfl) ⟨Nat.le_of_ble_eq_true rfl, Nat.le_of_ble_eq_true rfl⟩ (cn_K_odds e1) ?_
  refine Sm_eq (st1 := [.long p1.1]) (nc1 := 58) (ns1 := 1181) rfl rfl rfl ?_
  refine Sm_run K ek_L11 36 5 rfl ?_
  refine Sm_sld K hs (eok_i (eo ek_L11 (i := 41) rfl) rfl) h1 ?_
  refine Sm_run K ek_L11 42 4 rfl ?_
  refine Sm_sld K hs (eok_i (eo ek_L11 (i := 46) rfl) rfl) h2 ?_
  refine Sm_callV K (eok_i (eo ek_L11 (i := 47) rfl) rfl) cy_M_odds im_M_odds se_M_odds (lgm 1087 (by decide +kernel) rfl) ⟨Nat.le_of_ble_eq_true rfl, Nat.le_of_ble_eq_true rfl⟩ (as := [.int (xs (x3 + 1).toNatClampNeg), .int (xs (x3 + 2).toNatClampNeg)]) (b := 49) (st := [.long p1.1]) (ob_e o2) (by decide) rfl rfl rfl rfl (Nat.le_of_ble_eq_true rfl) ⟨Nat.le_of_ble_eq_true rfl, Nat.le_of_ble_eq_true rfl⟩ (cn_M_odds e2) ?_
  refine Sm_eq (st1 := [.long p2.1, .long p1.1]) (nc1 := 58) (ns1 := 1181) rfl rfl rfl ?_
  refine Sm_lcmp K (eok_i (eo ek_L11 (i := 48) rfl) rfl) ?_
  exact Sm_if_eq K (eo ek_L11 (i := 49) rfl) (fun _ => kk) (fun c => absurd (by rw [he]; simp [lg_cmp]) c)
set_option maxHeartbeats 4000000 in
set_option maxRecDepth 100000 in
theorem lc_27 {G : Gx} {X : Cx} {L : Nat} {xs : Nat → Int32} (K : Ok G X 12 code 4 ret room_1) (hs : Sc G X L xs) {x3 : Int32} (h1 : inb (x3 + 1) L) {w : A_W} {f1 f2 : List Value} {p1 p2 : Int32 × A_W} (o1 : ob w 0 0 = some f1) (e1 : F_K_seed 0 (xs (x3 + 1).toNatClampNeg) w = some p1) (o2 : ob p1.2 49 4 = some f2) (e2 : F_M_seed 49 (xs (x3 + 1).toNatClampNeg) p1.2 = some p2) (he : p1.1 = p2.1) (kk : Sm G X p2.2 58 1181 [some (.ref scA), some (.ref 0), some (.ref 49), some (.int x3)] [] 1500) : Sm G X w 58 1181 [some (.ref scA), some (.ref 0), some (.ref 49), some (.int x3)] [] 1072 := by
  refine Sm_run K ek_L11 52 5 rfl ?_
  refine Sm_sld K hs (eok_i (eo ek_L11 (i := 57) rfl) rfl) h1 ?_
  refine Sm_callV K (eok_i (eo ek_L11 (i := 58) rfl) rfl) cy_K_seed im_K_seed se_K_seed (lgm 544 (by decide +kernel) rfl) ⟨Nat.le_of_ble_eq_true rfl, Nat.le_of_ble_eq_true rfl⟩ (as := [.int (xs (x3 + 1).toNatClampNeg)]) (b := 0) (st := []) (ob_e o1) (by decide) rfl rfl rfl rfl (Nat.le_of_ble_eq_true rfl) ⟨Nat.le_of_ble_eq_true rfl, Nat.le_of_ble_eq_true rfl⟩ (cn_K_seed e1) ?_
  refine Sm_eq (st1 := [.int p1.1]) (nc1 := 58) (ns1 := 1181) rfl rfl rfl ?_
  refine Sm_run K ek_L11 59 1 rfl ?_
  refine Sm_run K ek_L12 0 4 rfl ?_
  refine Sm_sld K hs (eok_i (eo ek_L12 (i := 4) rfl) rfl) h1 ?_
  refine Sm_callV K (eok_i (eo ek_L12 (i := 5) rfl) rfl) cy_M_seed im_M_seed se_M_seed (lgm 1093 (by decide +kernel) rfl) ⟨Nat.le_of_ble_eq_true rfl, Nat.le_of_ble_eq_true rfl⟩ (as := [.int (xs (x3 + 1).toNatClampNeg)]) (b := 49) (st := [.int p1.1]) (ob_e o2) (by decide) rfl rfl rfl rfl (Nat.le_of_ble_eq_true rfl) ⟨Nat.le_of_ble_eq_true rfl, Nat.le_of_ble_eq_true rfl⟩ (cn_M_seed e2) ?_
  refine Sm_eq (st1 := [.int p2.1, .int p1.1]) (nc1 := 58) (ns1 := 1181) rfl rfl rfl ?_
  exact Sm_ic_eq K (eo ek_L12 (i := 6) rfl) (fun _ => kk) (fun c => absurd he c)
set_option maxHeartbeats 4000000 in
set_option maxRecDepth 100000 in
theorem lc_28 {G : Gx} {X : Cx} {L : Nat} {xs : Nat → Int32} (K : Ok G X 12 code 4 ret room_1) (hs : Sc G X L xs) {x3 : Int32} (h1 : inb (x3 + 1) L) (h2 : inb (x3 + 2) L) {w : A_W} {f1 f2 : List Value} {p1 p2 : Int32 × A_W} (o1 : ob w 0 0 = some f1) (e1 : F_K_feed 0 (xs (x3 + 1).toNatClampNeg) (xs (x3 + 2).toNatClampNeg) w = some p1) (o2 : ob p1.2 49 4 = some f2) (e2 : F_M_feed 49 (xs (x3 + 1).toNatClampNeg) (xs (x3 + 2).toNatClampNeg) p1.2 = some p2) (he : p1.1 = p2.1) (kk : Sm G X p2.2 58 1181 [some (.ref scA), some (.ref 0), some (.ref 49), some (.int x3)] [] 1500) : Sm G X w 58 1181 [some (.ref scA), some (.ref 0), some (.ref 49), some (.int x3)] [] 1095 := by
  refine Sm_run K ek_L12 9 5 rfl ?_
  refine Sm_sld K hs (eok_i (eo ek_L12 (i := 14) rfl) rfl) h1 ?_
  refine Sm_run K ek_L12 15 4 rfl ?_
  refine Sm_sld K hs (eok_i (eo ek_L12 (i := 19) rfl) rfl) h2 ?_
  refine Sm_callV K (eok_i (eo ek_L12 (i := 20) rfl) rfl) cy_K_feed im_K_feed se_K_feed (lgm 548 (by decide +kernel) rfl) ⟨Nat.le_of_ble_eq_true rfl, Nat.le_of_ble_eq_true rfl⟩ (as := [.int (xs (x3 + 1).toNatClampNeg), .int (xs (x3 + 2).toNatClampNeg)]) (b := 0) (st := []) (ob_e o1) (by decide) rfl rfl rfl rfl (Nat.le_of_ble_eq_true rfl) ⟨Nat.le_of_ble_eq_true rfl, Nat.le_of_ble_eq_true rfl⟩ (cn_K_feed e1) ?_
  refine Sm_eq (st1 := [.int p1.1]) (nc1 := 58) (ns1 := 1181) rfl rfl rfl ?_
  refine Sm_run K ek_L12 21 5 rfl ?_
  refine Sm_sld K hs (eok_i (eo ek_L12 (i := 26) rfl) rfl) h1 ?_
  refine Sm_run K ek_L12 27 4 rfl ?_
  refine Sm_sld K hs (eok_i (eo ek_L12 (i := 31) rfl) rfl) h2 ?_
  refine Sm_callV K (eok_i (eo ek_L12 (i := 32) rfl) rfl) cy_M_feed im_M_feed se_M_feed (lgm 1097 (by decide +kernel) rfl) ⟨Nat.le_of_ble_eq_true rfl, Nat.le_of_ble_eq_true rfl⟩ (as := [.int (xs (x3 + 1).toNatClampNeg), .int (xs (x3 + 2).toNatClampNeg)]) (b := 49) (st := [.int p1.1]) (ob_e o2) (by decide) rfl rfl rfl rfl (Nat.le_of_ble_eq_true rfl) ⟨Nat.le_of_ble_eq_true rfl, Nat.le_of_ble_eq_true rfl⟩ (cn_M_feed e2) ?_
  refine Sm_eq (st1 := [.int p2.1, .int p1.1]) (nc1 := 58) (ns1 := 1181) rfl rfl rfl ?_
  exact Sm_ic_eq K (eo ek_L12 (i := 33) rfl) (fun _ => kk) (fun c => absurd he c)
set_option maxHeartbeats 4000000 in
set_option maxRecDepth 100000 in
theorem lc_29 {G : Gx} {X : Cx} {L : Nat} {xs : Nat → Int32} (K : Ok G X 12 code 4 ret room_1) (hs : Sc G X L xs) {x3 : Int32} {w : A_W} {f1 f2 : List Value} {p1 p2 : Int32 × A_W} (o1 : ob w 0 0 = some f1) (e1 : F_K_wipe 0 w = some p1) (o2 : ob p1.2 49 4 = some f2) (e2 : F_M_wipe 49 p1.2 = some p2) (he : p1.1 = p2.1) (kk : Sm G X p2.2 58 1181 [some (.ref scA), some (.ref 0), some (.ref 49), some (.int x3)] [] 1500) : Sm G X w 58 1181 [some (.ref scA), some (.ref 0), some (.ref 49), some (.int x3)] [] 1128 := by
  refine Sm_run K ek_L12 36 1 rfl ?_
  refine Sm_callV K (eok_i (eo ek_L12 (i := 37) rfl) rfl) cy_K_wipe im_K_wipe se_K_wipe (lgm 556 (by decide +kernel) rfl) ⟨Nat.le_of_ble_eq_true rfl, Nat.le_of_ble_eq_true rfl⟩ (as := []) (b := 0) (st := []) (ob_e o1) (by decide) rfl rfl rfl rfl (Nat.le_of_ble_eq_true rfl) ⟨Nat.le_of_ble_eq_true rfl, Nat.le_of_ble_eq_true rfl⟩ (cn_K_wipe e1) ?_
  refine Sm_eq (st1 := [.int p1.1]) (nc1 := 58) (ns1 := 1181) rfl rfl rfl ?_
  refine Sm_run K ek_L12 38 1 rfl ?_
  refine Sm_callV K (eok_i (eo ek_L12 (i := 39) rfl) rfl) cy_M_wipe im_M_wipe se_M_wipe (lgm 1101 (by decide +kernel) rfl) ⟨Nat.le_of_ble_eq_true rfl, Nat.le_of_ble_eq_true rfl⟩ (as := []) (b := 49) (st := [.int p1.1]) (ob_e o2) (by decide) rfl rfl rfl rfl (Nat.le_of_ble_eq_true rfl) ⟨Nat.le_of_ble_eq_true rfl, Nat.le_of_ble_eq_true rfl⟩ (cn_M_wipe e2) ?_
  refine Sm_eq (st1 := [.int p2.1, .int p1.1]) (nc1 := 58) (ns1 := 1181) rfl rfl rfl ?_
  exact Sm_ic_eq K (eo ek_L12 (i := 40) rfl) (fun _ => kk) (fun c => absurd he c)
set_option maxHeartbeats 4000000 in
set_option maxRecDepth 100000 in
theorem lc_30 {G : Gx} {X : Cx} {L : Nat} {xs : Nat → Int32} (K : Ok G X 12 code 4 ret room_1) (hs : Sc G X L xs) {x3 : Int32} {w : A_W} {f1 f2 : List Value} {p1 p2 : Int32 × A_W} (o1 : ob w 0 0 = some f1) (e1 : F_K_text 0 w = some p1) (o2 : ob p1.2 49 4 = some f2) (e2 : F_M_text 49 p1.2 = some p2) (he : p1.1 = p2.1) (kk : Sm G X p2.2 58 1181 [some (.ref scA), some (.ref 0), some (.ref 49), some (.int x3)] [] 1500) : Sm G X w 58 1181 [some (.ref scA), some (.ref 0), some (.ref 49), some (.int x3)] [] 1141 := by
  refine Sm_run K ek_L12 43 1 rfl ?_
  refine Sm_callV K (eok_i (eo ek_L12 (i := 44) rfl) rfl) cy_K_text im_K_text se_K_text (lgm 560 (by decide +kernel) rfl) ⟨Nat.le_of_ble_eq_true rfl, Nat.le_of_ble_eq_true rfl⟩ (as := []) (b := 0) (st := []) (ob_e o1) (by decide) rfl rfl rfl rfl (Nat.le_of_ble_eq_true rfl) ⟨Nat.le_of_ble_eq_true rfl, Nat.le_of_ble_eq_true rfl⟩ (cn_K_text e1) ?_
  refine Sm_eq (st1 := [.int p1.1]) (nc1 := 58) (ns1 := 1181) rfl rfl rfl ?_
  refine Sm_run K ek_L12 45 1 rfl ?_
  refine Sm_callV K (eok_i (eo ek_L12 (i := 46) rfl) rfl) cy_M_text im_M_text se_M_text (lgm 1105 (by decide +kernel) rfl) ⟨Nat.le_of_ble_eq_true rfl, Nat.le_of_ble_eq_true rfl⟩ (as := []) (b := 49) (st := [.int p1.1]) (ob_e o2) (by decide) rfl rfl rfl rfl (Nat.le_of_ble_eq_true rfl) ⟨Nat.le_of_ble_eq_true rfl, Nat.le_of_ble_eq_true rfl⟩ (cn_M_text e2) ?_
  refine Sm_eq (st1 := [.int p2.1, .int p1.1]) (nc1 := 58) (ns1 := 1181) rfl rfl rfl ?_
  exact Sm_ic_eq K (eo ek_L12 (i := 47) rfl) (fun _ => kk) (fun c => absurd he c)
set_option maxHeartbeats 4000000 in
set_option maxRecDepth 100000 in
theorem lc_31 {G : Gx} {X : Cx} {L : Nat} {xs : Nat → Int32} (K : Ok G X 12 code 4 ret room_1) (hs : Sc G X L xs) {x3 : Int32} (h1 : inb (x3 + 1) L) (h2 : inb (x3 + 2) L) {w : A_W} {f1 f2 : List Value} {p1 p2 : Int32 × A_W} (o1 : ob w 0 0 = some f1) (e1 : F_K_hold 0 (xs (x3 + 1).toNatClampNeg) (xs (x3 + 2).toNatClampNeg) w = some p1) (o2 : ob p1.2 49 4 = some f2) (e2 : F_M_hold 49 (xs (x3 + 1).toNatClampNeg) (xs (x3 + 2).toNatClampNeg) p1.2 = some p2) (he : p1.1 = p2.1) (kk : Sm G X p2.2 58 1181 [some (.ref scA), some (.ref 0), some (.ref 49), some (.int x3)] [] 1500) : Sm G X w 58 1181 [some (.ref scA), some (.ref 0), some (.ref 49), some (.int x3)] [] 1154 := by
  refine Sm_run K ek_L12 50 5 rfl ?_
  refine Sm_sld K hs (eok_i (eo ek_L12 (i := 55) rfl) rfl) h1 ?_
  refine Sm_run K ek_L12 56 4 rfl ?_
  refine Sm_sld K hs (eok_i (eo ek_L13 (i := 0) rfl) rfl) h2 ?_
  refine Sm_callV K (eok_i (eo ek_L13 (i := 1) rfl) rfl) cy_K_hold im_K_hold se_K_hold (lgm 678 (by decide +kernel) rfl) ⟨Nat.le_of_ble_eq_true rfl, Nat.le_of_ble_eq_true rfl⟩ (as := [.int (xs (x3 + 1).toNatClampNeg), .int (xs (x3 + 2).toNatClampNeg)]) (b := 0) (st := []) (ob_e o1) (by decide) rfl rfl rfl rfl (Nat.le_of_ble_eq_true rfl) ⟨Nat.le_of_ble_eq_true rfl, Nat.le_of_ble_eq_true rfl⟩ (cn_K_hold e1) ?_
  refine Sm_eq (st1 := [.int p1.1]) (nc1 := 58) (ns1 := 1181) rfl rfl rfl ?_
  refine Sm_run K ek_L13 2 5 rfl ?_
  refine Sm_sld K hs (eok_i (eo ek_L13 (i := 7) rfl) rfl) h1 ?_
  refine Sm_run K ek_L13 8 4 rfl ?_
  refine Sm_sld K hs (eok_i (eo ek_L13 (i := 12) rfl) rfl) h2 ?_
  refine Sm_callV K (eok_i (eo ek_L13 (i := 13) rfl) rfl) cy_M_hold im_M_hold se_M_hold (lgm 1155 (by decide +kernel) rfl) ⟨Nat.le_of_ble_eq_true rfl, Nat.le_of_ble_eq_true rfl⟩ (as := [.int (xs (x3 + 1).toNatClampNeg), .int (xs (x3 + 2).toNatClampNeg)]) (b := 49) (st := [.int p1.1]) (ob_e o2) (by decide) rfl rfl rfl rfl (Nat.le_of_ble_eq_true rfl) ⟨Nat.le_of_ble_eq_true rfl, Nat.le_of_ble_eq_true rfl⟩ (cn_M_hold e2) ?_
  refine Sm_eq (st1 := [.int p2.1, .int p1.1]) (nc1 := 58) (ns1 := 1181) rfl rfl rfl ?_
  exact Sm_ic_eq K (eo ek_L13 (i := 14) rfl) (fun _ => kk) (fun c => absurd he c)
set_option maxHeartbeats 4000000 in
set_option maxRecDepth 100000 in
theorem lc_32 {G : Gx} {X : Cx} {L : Nat} {xs : Nat → Int32} (K : Ok G X 12 code 4 ret room_1) (hs : Sc G X L xs) {x3 : Int32} (h1 : inb (x3 + 1) L) (h2 : inb (x3 + 2) L) {w : A_W} {f1 f2 : List Value} {p1 p2 : Int32 × A_W} (o1 : ob w 0 0 = some f1) (e1 : F_K_as 0 (xs (x3 + 1).toNatClampNeg) (xs (x3 + 2).toNatClampNeg) w = some p1) (o2 : ob p1.2 49 4 = some f2) (e2 : F_M_as 49 (xs (x3 + 1).toNatClampNeg) (xs (x3 + 2).toNatClampNeg) p1.2 = some p2) (he : p1.1 = p2.1) (kk : Sm G X p2.2 58 1181 [some (.ref scA), some (.ref 0), some (.ref 49), some (.int x3)] [] 1500) : Sm G X w 58 1181 [some (.ref scA), some (.ref 0), some (.ref 49), some (.int x3)] [] 1187 := by
  refine Sm_run K ek_L13 17 5 rfl ?_
  refine Sm_sld K hs (eok_i (eo ek_L13 (i := 22) rfl) rfl) h1 ?_
  refine Sm_run K ek_L13 23 4 rfl ?_
  refine Sm_sld K hs (eok_i (eo ek_L13 (i := 27) rfl) rfl) h2 ?_
  refine Sm_callV K (eok_i (eo ek_L13 (i := 28) rfl) rfl) cy_K_as im_K_as se_K_as (lgm 685 (by decide +kernel) rfl) ⟨Nat.le_of_ble_eq_true rfl, Nat.le_of_ble_eq_true rfl⟩ (as := [.int (xs (x3 + 1).toNatClampNeg), .int (xs (x3 + 2).toNatClampNeg)]) (b := 0) (st := []) (ob_e o1) (by decide) rfl rfl rfl rfl (Nat.le_of_ble_eq_true rfl) ⟨Nat.le_of_ble_eq_true rfl, Nat.le_of_ble_eq_true rfl⟩ (cn_K_as e1) ?_
  refine Sm_eq (st1 := [.int p1.1]) (nc1 := 58) (ns1 := 1181) rfl rfl rfl ?_
  refine Sm_run K ek_L13 29 5 rfl ?_
  refine Sm_sld K hs (eok_i (eo ek_L13 (i := 34) rfl) rfl) h1 ?_
  refine Sm_run K ek_L13 35 4 rfl ?_
  refine Sm_sld K hs (eok_i (eo ek_L13 (i := 39) rfl) rfl) h2 ?_
  refine Sm_callV K (eok_i (eo ek_L13 (i := 40) rfl) rfl) cy_M_as im_M_as se_M_as (lgm 1159 (by decide +kernel) rfl) ⟨Nat.le_of_ble_eq_true rfl, Nat.le_of_ble_eq_true rfl⟩ (as := [.int (xs (x3 + 1).toNatClampNeg), .int (xs (x3 + 2).toNatClampNeg)]) (b := 49) (st := [.int p1.1]) (ob_e o2) (by decide) rfl rfl rfl rfl (Nat.le_of_ble_eq_true rfl) ⟨Nat.le_of_ble_eq_true rfl, Nat.le_of_ble_eq_true rfl⟩ (cn_M_as e2) ?_
  refine Sm_eq (st1 := [.int p2.1, .int p1.1]) (nc1 := 58) (ns1 := 1181) rfl rfl rfl ?_
  exact Sm_ic_eq K (eo ek_L13 (i := 41) rfl) (fun _ => kk) (fun c => absurd he c)
set_option maxHeartbeats 4000000 in
set_option maxRecDepth 100000 in
theorem lc_33 {G : Gx} {X : Cx} {L : Nat} {xs : Nat → Int32} (K : Ok G X 12 code 4 ret room_1) (hs : Sc G X L xs) {x3 : Int32} (h1 : inb (x3 + 1) L) (h2 : inb (x3 + 2) L) (h3 : inb (x3 + 3) L) {w : A_W} {f1 f2 : List Value} {p1 p2 : Int32 × A_W} (o1 : ob w 0 0 = some f1) (e1 : F_K_sheet 0 (xs (x3 + 1).toNatClampNeg) (xs (x3 + 2).toNatClampNeg) (xs (x3 + 3).toNatClampNeg) w = some p1) (o2 : ob p1.2 49 4 = some f2) (e2 : F_M_sheet 49 (xs (x3 + 1).toNatClampNeg) (xs (x3 + 2).toNatClampNeg) (xs (x3 + 3).toNatClampNeg) p1.2 = some p2) (he : p1.1 = p2.1) (kk : Sm G X p2.2 58 1181 [some (.ref scA), some (.ref 0), some (.ref 49), some (.int x3)] [] 1500) : Sm G X w 58 1181 [some (.ref scA), some (.ref 0), some (.ref 49), some (.int x3)] [] 1220 := by
  refine Sm_run K ek_L13 44 5 rfl ?_
  refine Sm_sld K hs (eok_i (eo ek_L13 (i := 49) rfl) rfl) h1 ?_
  refine Sm_run K ek_L13 50 4 rfl ?_
  refine Sm_sld K hs (eok_i (eo ek_L13 (i := 54) rfl) rfl) h2 ?_
  refine Sm_run K ek_L13 55 4 rfl ?_
  refine Sm_sld K hs (eok_i (eo ek_L13 (i := 59) rfl) rfl) h3 ?_
  refine Sm_callV K (eok_i (eo ek_L14 (i := 0) rfl) rfl) cy_K_sheet im_K_sheet se_K_sheet (lgm 694 (by decide +kernel) rfl) ⟨Nat.le_of_ble_eq_true rfl, Nat.le_of_ble_eq_true rfl⟩ (as := [.int (xs (x3 + 1).toNatClampNeg), .int (xs (x3 + 2).toNatClampNeg), .int (xs (x3 + 3).toNatClampNeg)]) (b := 0) (st := []) (ob_e o1) (by decide) rfl rfl rfl rfl (Nat.le_of_ble_eq_true rfl) ⟨Nat.le_of_ble_eq_true rfl, Nat.le_of_ble_eq_true rfl⟩ (cn_K_sheet e1) ?_
  refine Sm_eq (st1 := [.int p1.1]) (nc1 := 58) (ns1 := 1181) rfl rfl rfl ?_
  refine Sm_run K ek_L14 1 5 rfl ?_
  refine Sm_sld K hs (eok_i (eo ek_L14 (i := 6) rfl) rfl) h1 ?_
  refine Sm_run K ek_L14 7 4 rfl ?_
  refine Sm_sld K hs (eok_i (eo ek_L14 (i := 11) rfl) rfl) h2 ?_
  refine Sm_run K ek_L14 12 4 rfl ?_
  refine Sm_sld K hs (eok_i (eo ek_L14 (i := 16) rfl) rfl) h3 ?_
  refine Sm_callV K (eok_i (eo ek_L14 (i := 17) rfl) rfl) cy_M_sheet im_M_sheet se_M_sheet (lgm 1167 (by decide +kernel) rfl) ⟨Nat.le_of_ble_eq_true rfl, Nat.le_of_ble_eq_true rfl⟩ (as := [.int (xs (x3 + 1).toNatClampNeg), .int (xs (x3 + 2).toNatClampNeg), .int (xs (x3 + 3).toNatClampNeg)]) (b := 49) (st := [.int p1.1]) (ob_e o2) (by decide) rfl rfl rfl rfl (Nat.le_of_ble_eq_true rfl) ⟨Nat.le_of_ble_eq_true rfl, Nat.le_of_ble_eq_true rfl⟩ (cn_M_sheet e2) ?_
  refine Sm_eq (st1 := [.int p2.1, .int p1.1]) (nc1 := 58) (ns1 := 1181) rfl rfl rfl ?_
  exact Sm_ic_eq K (eo ek_L14 (i := 18) rfl) (fun _ => kk) (fun c => absurd he c)
set_option maxHeartbeats 4000000 in
set_option maxRecDepth 100000 in
theorem lc_34 {G : Gx} {X : Cx} {L : Nat} {xs : Nat → Int32} (K : Ok G X 12 code 4 ret room_1) (hs : Sc G X L xs) {x3 : Int32} (h1 : inb (x3 + 1) L) (h2 : inb (x3 + 2) L) (h3 : inb (x3 + 3) L) {w : A_W} {f1 f2 : List Value} {p1 p2 : Int32 × A_W} (o1 : ob w 0 0 = some f1) (e1 : F_K_write 0 (xs (x3 + 1).toNatClampNeg) (xs (x3 + 2).toNatClampNeg) (xs (x3 + 3).toNatClampNeg) w = some p1) (o2 : ob p1.2 49 4 = some f2) (e2 : F_M_write 49 (xs (x3 + 1).toNatClampNeg) (xs (x3 + 2).toNatClampNeg) (xs (x3 + 3).toNatClampNeg) p1.2 = some p2) (he : p1.1 = p2.1) (kk : Sm G X p2.2 58 1181 [some (.ref scA), some (.ref 0), some (.ref 49), some (.int x3)] [] 1500) : Sm G X w 58 1181 [some (.ref scA), some (.ref 0), some (.ref 49), some (.int x3)] [] 1263 := by
  refine Sm_run K ek_L14 21 5 rfl ?_
  refine Sm_sld K hs (eok_i (eo ek_L14 (i := 26) rfl) rfl) h1 ?_
  refine Sm_run K ek_L14 27 4 rfl ?_
  refine Sm_sld K hs (eok_i (eo ek_L14 (i := 31) rfl) rfl) h2 ?_
  refine Sm_run K ek_L14 32 4 rfl ?_
  refine Sm_sld K hs (eok_i (eo ek_L14 (i := 36) rfl) rfl) h3 ?_
  refine Sm_callV K (eok_i (eo ek_L14 (i := 37) rfl) rfl) cy_K_write im_K_write se_K_write (lgm 703 (by decide +kernel) rfl) ⟨Nat.le_of_ble_eq_true rfl, Nat.le_of_ble_eq_true rfl⟩ (as := [.int (xs (x3 + 1).toNatClampNeg), .int (xs (x3 + 2).toNatClampNeg), .int (xs (x3 + 3).toNatClampNeg)]) (b := 0) (st := []) (ob_e o1) (by decide) rfl rfl rfl rfl (Nat.le_of_ble_eq_true rfl) ⟨Nat.le_of_ble_eq_true rfl, Nat.le_of_ble_eq_true rfl⟩ (cn_K_write e1) ?_
  refine Sm_eq (st1 := [.int p1.1]) (nc1 := 58) (ns1 := 1181) rfl rfl rfl ?_
  refine Sm_run K ek_L14 38 5 rfl ?_
  refine Sm_sld K hs (eok_i (eo ek_L14 (i := 43) rfl) rfl) h1 ?_
  refine Sm_run K ek_L14 44 4 rfl ?_
  refine Sm_sld K hs (eok_i (eo ek_L14 (i := 48) rfl) rfl) h2 ?_
  refine Sm_run K ek_L14 49 4 rfl ?_
  refine Sm_sld K hs (eok_i (eo ek_L14 (i := 53) rfl) rfl) h3 ?_
  refine Sm_callV K (eok_i (eo ek_L14 (i := 54) rfl) rfl) cy_M_write im_M_write se_M_write (lgm 1172 (by decide +kernel) rfl) ⟨Nat.le_of_ble_eq_true rfl, Nat.le_of_ble_eq_true rfl⟩ (as := [.int (xs (x3 + 1).toNatClampNeg), .int (xs (x3 + 2).toNatClampNeg), .int (xs (x3 + 3).toNatClampNeg)]) (b := 49) (st := [.int p1.1]) (ob_e o2) (by decide) rfl rfl rfl rfl (Nat.le_of_ble_eq_true rfl) ⟨Nat.le_of_ble_eq_true rfl, Nat.le_of_ble_eq_true rfl⟩ (cn_M_write e2) ?_
  refine Sm_eq (st1 := [.int p2.1, .int p1.1]) (nc1 := 58) (ns1 := 1181) rfl rfl rfl ?_
  exact Sm_ic_eq K (eo ek_L14 (i := 55) rfl) (fun _ => kk) (fun c => absurd he c)
set_option maxHeartbeats 4000000 in
set_option maxRecDepth 100000 in
theorem lc_35 {G : Gx} {X : Cx} {L : Nat} {xs : Nat → Int32} (K : Ok G X 12 code 4 ret room_1) (hs : Sc G X L xs) {x3 : Int32} (h1 : inb (x3 + 1) L) (h2 : inb (x3 + 2) L) (h3 : inb (x3 + 3) L) (h4 : inb (x3 + 4) L) (h5 : inb (x3 + 5) L) {w : A_W} {f1 f2 : List Value} {p1 p2 : Int32 × A_W} (o1 : ob w 0 0 = some f1) (e1 : F_K_copy 0 (xs (x3 + 1).toNatClampNeg) (xs (x3 + 2).toNatClampNeg) (xs (x3 + 3).toNatClampNeg) (xs (x3 + 4).toNatClampNeg) (xs (x3 + 5).toNatClampNeg) w = some p1) (o2 : ob p1.2 49 4 = some f2) (e2 : F_M_copy 49 (xs (x3 + 1).toNatClampNeg) (xs (x3 + 2).toNatClampNeg) (xs (x3 + 3).toNatClampNeg) (xs (x3 + 4).toNatClampNeg) (xs (x3 + 5).toNatClampNeg) p1.2 = some p2) (he : p1.1 = p2.1) (kk : Sm G X p2.2 58 1181 [some (.ref scA), some (.ref 0), some (.ref 49), some (.int x3)] [] 1500) : Sm G X w 58 1181 [some (.ref scA), some (.ref 0), some (.ref 49), some (.int x3)] [] 1306 := by
  refine Sm_run K ek_L14 58 2 rfl ?_
  refine Sm_run K ek_L15 0 3 rfl ?_
  refine Sm_sld K hs (eok_i (eo ek_L15 (i := 3) rfl) rfl) h1 ?_
  refine Sm_run K ek_L15 4 4 rfl ?_
  refine Sm_sld K hs (eok_i (eo ek_L15 (i := 8) rfl) rfl) h2 ?_
  refine Sm_run K ek_L15 9 4 rfl ?_
  refine Sm_sld K hs (eok_i (eo ek_L15 (i := 13) rfl) rfl) h3 ?_
  refine Sm_run K ek_L15 14 4 rfl ?_
  refine Sm_sld K hs (eok_i (eo ek_L15 (i := 18) rfl) rfl) h4 ?_
  refine Sm_run K ek_L15 19 4 rfl ?_
  refine Sm_sld K hs (eok_i (eo ek_L15 (i := 23) rfl) rfl) h5 ?_
  refine Sm_callV K (eok_i (eo ek_L15 (i := 24) rfl) rfl) cy_K_copy im_K_copy se_K_copy (lgm 711 (by decide +kernel) rfl) ⟨Nat.le_of_ble_eq_true rfl, Nat.le_of_ble_eq_true rfl⟩ (as := [.int (xs (x3 + 1).toNatClampNeg), .int (xs (x3 + 2).toNatClampNeg), .int (xs (x3 + 3).toNatClampNeg), .int (xs (x3 + 4).toNatClampNeg), .int (xs (x3 + 5).toNatClampNeg)]) (b := 0) (st := []) (ob_e o1) (by decide) rfl rfl rfl rfl (Nat.le_of_ble_eq_true rfl) ⟨Nat.le_of_ble_eq_true rfl, Nat.le_of_ble_eq_true rfl⟩ (cn_K_copy e1) ?_
  refine Sm_eq (st1 := [.int p1.1]) (nc1 := 58) (ns1 := 1181) rfl rfl rfl ?_
  refine Sm_run K ek_L15 25 5 rfl ?_
  refine Sm_sld K hs (eok_i (eo ek_L15 (i := 30) rfl) rfl) h1 ?_
  refine Sm_run K ek_L15 31 4 rfl ?_
  refine Sm_sld K hs (eok_i (eo ek_L15 (i := 35) rfl) rfl) h2 ?_
  refine Sm_run K ek_L15 36 4 rfl ?_
  refine Sm_sld K hs (eok_i (eo ek_L15 (i := 40) rfl) rfl) h3 ?_
  refine Sm_run K ek_L15 41 4 rfl ?_
  refine Sm_sld K hs (eok_i (eo ek_L15 (i := 45) rfl) rfl) h4 ?_
  refine Sm_run K ek_L15 46 4 rfl ?_
  refine Sm_sld K hs (eok_i (eo ek_L15 (i := 50) rfl) rfl) h5 ?_
  refine Sm_callV K (eok_i (eo ek_L15 (i := 51) rfl) rfl) cy_M_copy im_M_copy se_M_copy (lgm 1176 (by decide +kernel) rfl) ⟨Nat.le_of_ble_eq_true rfl, Nat.le_of_ble_eq_true rfl⟩ (as := [.int (xs (x3 + 1).toNatClampNeg), .int (xs (x3 + 2).toNatClampNeg), .int (xs (x3 + 3).toNatClampNeg), .int (xs (x3 + 4).toNatClampNeg), .int (xs (x3 + 5).toNatClampNeg)]) (b := 49) (st := [.int p1.1]) (ob_e o2) (by decide) rfl rfl rfl rfl (Nat.le_of_ble_eq_true rfl) ⟨Nat.le_of_ble_eq_true rfl, Nat.le_of_ble_eq_true rfl⟩ (cn_M_copy e2) ?_
  refine Sm_eq (st1 := [.int p2.1, .int p1.1]) (nc1 := 58) (ns1 := 1181) rfl rfl rfl ?_
  exact Sm_ic_eq K (eo ek_L15 (i := 52) rfl) (fun _ => kk) (fun c => absurd he c)
set_option maxHeartbeats 4000000 in
set_option maxRecDepth 100000 in
theorem lc_36 {G : Gx} {X : Cx} {L : Nat} {xs : Nat → Int32} (K : Ok G X 12 code 4 ret room_1) (hs : Sc G X L xs) {x3 : Int32} (h1 : inb (x3 + 1) L) {w : A_W} {f1 f2 : List Value} {p1 p2 : Int32 × A_W} (o1 : ob w 0 0 = some f1) (e1 : F_K_load 0 (xs (x3 + 1).toNatClampNeg) w = some p1) (o2 : ob p1.2 49 4 = some f2) (e2 : F_M_load 49 (xs (x3 + 1).toNatClampNeg) p1.2 = some p2) (he : p1.1 = p2.1) (kk : Sm G X p2.2 58 1181 [some (.ref scA), some (.ref 0), some (.ref 49), some (.int x3)] [] 1500) : Sm G X w 58 1181 [some (.ref scA), some (.ref 0), some (.ref 49), some (.int x3)] [] 1369 := by
  refine Sm_run K ek_L15 55 5 rfl ?_
  refine Sm_sld K hs (eok_i (eo ek_L16 (i := 0) rfl) rfl) h1 ?_
  refine Sm_callV K (eok_i (eo ek_L16 (i := 1) rfl) rfl) cy_K_load im_K_load se_K_load (lgm 720 (by decide +kernel) rfl) ⟨Nat.le_of_ble_eq_true rfl, Nat.le_of_ble_eq_true rfl⟩ (as := [.int (xs (x3 + 1).toNatClampNeg)]) (b := 0) (st := []) (ob_e o1) (by decide) rfl rfl rfl rfl (Nat.le_of_ble_eq_true rfl) ⟨Nat.le_of_ble_eq_true rfl, Nat.le_of_ble_eq_true rfl⟩ (cn_K_load e1) ?_
  refine Sm_eq (st1 := [.int p1.1]) (nc1 := 58) (ns1 := 1181) rfl rfl rfl ?_
  refine Sm_run K ek_L16 2 5 rfl ?_
  refine Sm_sld K hs (eok_i (eo ek_L16 (i := 7) rfl) rfl) h1 ?_
  refine Sm_callV K (eok_i (eo ek_L16 (i := 8) rfl) rfl) cy_M_load im_M_load se_M_load (lgm 1184 (by decide +kernel) rfl) ⟨Nat.le_of_ble_eq_true rfl, Nat.le_of_ble_eq_true rfl⟩ (as := [.int (xs (x3 + 1).toNatClampNeg)]) (b := 49) (st := [.int p1.1]) (ob_e o2) (by decide) rfl rfl rfl rfl (Nat.le_of_ble_eq_true rfl) ⟨Nat.le_of_ble_eq_true rfl, Nat.le_of_ble_eq_true rfl⟩ (cn_M_load e2) ?_
  refine Sm_eq (st1 := [.int p2.1, .int p1.1]) (nc1 := 58) (ns1 := 1181) rfl rfl rfl ?_
  exact Sm_ic_eq K (eo ek_L16 (i := 9) rfl) (fun _ => kk) (fun c => absurd he c)
set_option maxHeartbeats 4000000 in
set_option maxRecDepth 100000 in
theorem lc_37 {G : Gx} {X : Cx} {L : Nat} {xs : Nat → Int32} (K : Ok G X 12 code 4 ret room_1) (hs : Sc G X L xs) {x3 : Int32} (h1 : inb (x3 + 1) L) {w : A_W} {f1 f2 : List Value} {p1 p2 : Int32 × A_W} (o1 : ob w 0 0 = some f1) (e1 : F_K_judge 0 (xs (x3 + 1).toNatClampNeg) w = some p1) (o2 : ob p1.2 49 4 = some f2) (e2 : F_M_judge 49 (xs (x3 + 1).toNatClampNeg) p1.2 = some p2) (he : p1.1 = p2.1) (kk : Sm G X p2.2 58 1181 [some (.ref scA), some (.ref 0), some (.ref 49), some (.int x3)] [] 1500) : Sm G X w 58 1181 [some (.ref scA), some (.ref 0), some (.ref 49), some (.int x3)] [] 1392 := by
  refine Sm_run K ek_L16 12 5 rfl ?_
  refine Sm_sld K hs (eok_i (eo ek_L16 (i := 17) rfl) rfl) h1 ?_
  refine Sm_callV K (eok_i (eo ek_L16 (i := 18) rfl) rfl) cy_K_judge im_K_judge se_K_judge (lgm 724 (by decide +kernel) rfl) ⟨Nat.le_of_ble_eq_true rfl, Nat.le_of_ble_eq_true rfl⟩ (as := [.int (xs (x3 + 1).toNatClampNeg)]) (b := 0) (st := []) (ob_e o1) (by decide) rfl rfl rfl rfl (Nat.le_of_ble_eq_true rfl) ⟨Nat.le_of_ble_eq_true rfl, Nat.le_of_ble_eq_true rfl⟩ (cn_K_judge e1) ?_
  refine Sm_eq (st1 := [.int p1.1]) (nc1 := 58) (ns1 := 1181) rfl rfl rfl ?_
  refine Sm_run K ek_L16 19 5 rfl ?_
  refine Sm_sld K hs (eok_i (eo ek_L16 (i := 24) rfl) rfl) h1 ?_
  refine Sm_callV K (eok_i (eo ek_L16 (i := 25) rfl) rfl) cy_M_judge im_M_judge se_M_judge (lgm 1188 (by decide +kernel) rfl) ⟨Nat.le_of_ble_eq_true rfl, Nat.le_of_ble_eq_true rfl⟩ (as := [.int (xs (x3 + 1).toNatClampNeg)]) (b := 49) (st := [.int p1.1]) (ob_e o2) (by decide) rfl rfl rfl rfl (Nat.le_of_ble_eq_true rfl) ⟨Nat.le_of_ble_eq_true rfl, Nat.le_of_ble_eq_true rfl⟩ (cn_M_judge e2) ?_
  refine Sm_eq (st1 := [.int p2.1, .int p1.1]) (nc1 := 58) (ns1 := 1181) rfl rfl rfl ?_
  exact Sm_ic_eq K (eo ek_L16 (i := 26) rfl) (fun _ => kk) (fun c => absurd he c)
set_option maxHeartbeats 4000000 in
set_option maxRecDepth 100000 in
theorem lc_38 {G : Gx} {X : Cx} {L : Nat} {xs : Nat → Int32} (K : Ok G X 12 code 4 ret room_1) (hs : Sc G X L xs) {x3 : Int32} {w : A_W} {f1 f2 : List Value} {p1 p2 : Int32 × A_W} (o1 : ob w 0 0 = some f1) (e1 : F_K_image 0 w = some p1) (o2 : ob p1.2 49 4 = some f2) (e2 : F_M_image 49 p1.2 = some p2) (he : p1.1 = p2.1) (kk : Sm G X p2.2 58 1181 [some (.ref scA), some (.ref 0), some (.ref 49), some (.int x3)] [] 1500) : Sm G X w 58 1181 [some (.ref scA), some (.ref 0), some (.ref 49), some (.int x3)] [] 1415 := by
  refine Sm_run K ek_L16 29 1 rfl ?_
  refine Sm_callV K (eok_i (eo ek_L16 (i := 30) rfl) rfl) cy_K_image im_K_image se_K_image (lgm 728 (by decide +kernel) rfl) ⟨Nat.le_of_ble_eq_true rfl, Nat.le_of_ble_eq_true rfl⟩ (as := []) (b := 0) (st := []) (ob_e o1) (by decide) rfl rfl rfl rfl (Nat.le_of_ble_eq_true rfl) ⟨Nat.le_of_ble_eq_true rfl, Nat.le_of_ble_eq_true rfl⟩ (cn_K_image e1) ?_
  refine Sm_eq (st1 := [.int p1.1]) (nc1 := 58) (ns1 := 1181) rfl rfl rfl ?_
  refine Sm_run K ek_L16 31 1 rfl ?_
  refine Sm_callV K (eok_i (eo ek_L16 (i := 32) rfl) rfl) cy_M_image im_M_image se_M_image (lgm 1192 (by decide +kernel) rfl) ⟨Nat.le_of_ble_eq_true rfl, Nat.le_of_ble_eq_true rfl⟩ (as := []) (b := 49) (st := [.int p1.1]) (ob_e o2) (by decide) rfl rfl rfl rfl (Nat.le_of_ble_eq_true rfl) ⟨Nat.le_of_ble_eq_true rfl, Nat.le_of_ble_eq_true rfl⟩ (cn_M_image e2) ?_
  refine Sm_eq (st1 := [.int p2.1, .int p1.1]) (nc1 := 58) (ns1 := 1181) rfl rfl rfl ?_
  exact Sm_ic_eq K (eo ek_L16 (i := 33) rfl) (fun _ => kk) (fun c => absurd he c)
set_option maxHeartbeats 4000000 in
set_option maxRecDepth 100000 in
theorem lc_39 {G : Gx} {X : Cx} {L : Nat} {xs : Nat → Int32} (K : Ok G X 12 code 4 ret room_1) (hs : Sc G X L xs) {x3 : Int32} {w : A_W} {f1 f2 : List Value} {p1 p2 : Int32 × A_W} (o1 : ob w 0 0 = some f1) (e1 : F_K_undo 0 w = some p1) (o2 : ob p1.2 49 4 = some f2) (e2 : F_M_undo 49 p1.2 = some p2) (he : p1.1 = p2.1) (kk : Sm G X p2.2 58 1181 [some (.ref scA), some (.ref 0), some (.ref 49), some (.int x3)] [] 1500) : Sm G X w 58 1181 [some (.ref scA), some (.ref 0), some (.ref 49), some (.int x3)] [] 1428 := by
  refine Sm_run K ek_L16 36 1 rfl ?_
  refine Sm_callV K (eok_i (eo ek_L16 (i := 37) rfl) rfl) cy_K_undo im_K_undo se_K_undo (lgm 732 (by decide +kernel) rfl) ⟨Nat.le_of_ble_eq_true rfl, Nat.le_of_ble_eq_true rfl⟩ (as := []) (b := 0) (st := []) (ob_e o1) (by decide) rfl rfl rfl rfl (Nat.le_of_ble_eq_true rfl) ⟨Nat.le_of_ble_eq_true rfl, Nat.le_of_ble_eq_true rfl⟩ (cn_K_undo e1) ?_
  refine Sm_eq (st1 := [.int p1.1]) (nc1 := 58) (ns1 := 1181) rfl rfl rfl ?_
  refine Sm_run K ek_L16 38 1 rfl ?_
  refine Sm_callV K (eok_i (eo ek_L16 (i := 39) rfl) rfl) cy_M_undo im_M_undo se_M_undo (lgm 1196 (by decide +kernel) rfl) ⟨Nat.le_of_ble_eq_true rfl, Nat.le_of_ble_eq_true rfl⟩ (as := []) (b := 49) (st := [.int p1.1]) (ob_e o2) (by decide) rfl rfl rfl rfl (Nat.le_of_ble_eq_true rfl) ⟨Nat.le_of_ble_eq_true rfl, Nat.le_of_ble_eq_true rfl⟩ (cn_M_undo e2) ?_
  refine Sm_eq (st1 := [.int p2.1, .int p1.1]) (nc1 := 58) (ns1 := 1181) rfl rfl rfl ?_
  exact Sm_ic_eq K (eo ek_L16 (i := 40) rfl) (fun _ => kk) (fun c => absurd he c)
set_option maxHeartbeats 4000000 in
set_option maxRecDepth 100000 in
theorem lc_40 {G : Gx} {X : Cx} {L : Nat} {xs : Nat → Int32} (K : Ok G X 12 code 4 ret room_1) (hs : Sc G X L xs) {x3 : Int32} {w : A_W} {f1 f2 : List Value} {p1 p2 : Int32 × A_W} (o1 : ob w 0 0 = some f1) (e1 : F_K_tear 0 w = some p1) (o2 : ob p1.2 49 4 = some f2) (e2 : F_M_tear 49 p1.2 = some p2) (he : p1.1 = p2.1) (kk : Sm G X p2.2 58 1181 [some (.ref scA), some (.ref 0), some (.ref 49), some (.int x3)] [] 1500) : Sm G X w 58 1181 [some (.ref scA), some (.ref 0), some (.ref 49), some (.int x3)] [] 1441 := by
  refine Sm_run K ek_L16 43 1 rfl ?_
  refine Sm_callV K (eok_i (eo ek_L16 (i := 44) rfl) rfl) cy_K_tear im_K_tear se_K_tear (lgm 736 (by decide +kernel) rfl) ⟨Nat.le_of_ble_eq_true rfl, Nat.le_of_ble_eq_true rfl⟩ (as := []) (b := 0) (st := []) (ob_e o1) (by decide) rfl rfl rfl rfl (Nat.le_of_ble_eq_true rfl) ⟨Nat.le_of_ble_eq_true rfl, Nat.le_of_ble_eq_true rfl⟩ (cn_K_tear e1) ?_
  refine Sm_eq (st1 := [.int p1.1]) (nc1 := 58) (ns1 := 1181) rfl rfl rfl ?_
  refine Sm_run K ek_L16 45 1 rfl ?_
  refine Sm_callV K (eok_i (eo ek_L16 (i := 46) rfl) rfl) cy_M_tear im_M_tear se_M_tear (lgm 1200 (by decide +kernel) rfl) ⟨Nat.le_of_ble_eq_true rfl, Nat.le_of_ble_eq_true rfl⟩ (as := []) (b := 49) (st := [.int p1.1]) (ob_e o2) (by decide) rfl rfl rfl rfl (Nat.le_of_ble_eq_true rfl) ⟨Nat.le_of_ble_eq_true rfl, Nat.le_of_ble_eq_true rfl⟩ (cn_M_tear e2) ?_
  refine Sm_eq (st1 := [.int p2.1, .int p1.1]) (nc1 := 58) (ns1 := 1181) rfl rfl rfl ?_
  exact Sm_ic_eq K (eo ek_L16 (i := 47) rfl) (fun _ => kk) (fun c => absurd he c)
set_option maxHeartbeats 4000000 in
set_option maxRecDepth 100000 in
theorem lc_41 {G : Gx} {X : Cx} {L : Nat} {xs : Nat → Int32} (K : Ok G X 12 code 4 ret room_1) (hs : Sc G X L xs) {x3 : Int32} (h1 : inb (x3 + 1) L) {w : A_W} {f1 f2 : List Value} {p1 p2 : Int32 × A_W} (o1 : ob w 0 0 = some f1) (e1 : F_K_count 0 (xs (x3 + 1).toNatClampNeg) w = some p1) (o2 : ob p1.2 49 4 = some f2) (e2 : F_M_count 49 (xs (x3 + 1).toNatClampNeg) p1.2 = some p2) (he : p1.1 = p2.1) (kk : Sm G X p2.2 58 1181 [some (.ref scA), some (.ref 0), some (.ref 49), some (.int x3)] [] 1500) : Sm G X w 58 1181 [some (.ref scA), some (.ref 0), some (.ref 49), some (.int x3)] [] 1454 := by
  refine Sm_run K ek_L16 50 5 rfl ?_
  refine Sm_sld K hs (eok_i (eo ek_L16 (i := 55) rfl) rfl) h1 ?_
  refine Sm_callV K (eok_i (eo ek_L16 (i := 56) rfl) rfl) cy_K_count im_K_count se_K_count (lgm 740 (by decide +kernel) rfl) ⟨Nat.le_of_ble_eq_true rfl, Nat.le_of_ble_eq_true rfl⟩ (as := [.int (xs (x3 + 1).toNatClampNeg)]) (b := 0) (st := []) (ob_e o1) (by decide) rfl rfl rfl rfl (Nat.le_of_ble_eq_true rfl) ⟨Nat.le_of_ble_eq_true rfl, Nat.le_of_ble_eq_true rfl⟩ (cn_K_count e1) ?_
  refine Sm_eq (st1 := [.int p1.1]) (nc1 := 58) (ns1 := 1181) rfl rfl rfl ?_
  refine Sm_run K ek_L16 57 3 rfl ?_
  refine Sm_run K ek_L17 0 2 rfl ?_
  refine Sm_sld K hs (eok_i (eo ek_L17 (i := 2) rfl) rfl) h1 ?_
  refine Sm_callV K (eok_i (eo ek_L17 (i := 3) rfl) rfl) cy_M_count im_M_count se_M_count (lgm 1204 (by decide +kernel) rfl) ⟨Nat.le_of_ble_eq_true rfl, Nat.le_of_ble_eq_true rfl⟩ (as := [.int (xs (x3 + 1).toNatClampNeg)]) (b := 49) (st := [.int p1.1]) (ob_e o2) (by decide) rfl rfl rfl rfl (Nat.le_of_ble_eq_true rfl) ⟨Nat.le_of_ble_eq_true rfl, Nat.le_of_ble_eq_true rfl⟩ (cn_M_count e2) ?_
  refine Sm_eq (st1 := [.int p2.1, .int p1.1]) (nc1 := 58) (ns1 := 1181) rfl rfl rfl ?_
  exact Sm_ic_eq K (eo ek_L17 (i := 4) rfl) (fun _ => kk) (fun c => absurd he c)
set_option maxHeartbeats 4000000 in
set_option maxRecDepth 100000 in
theorem lc_42 {G : Gx} {X : Cx} {L : Nat} {xs : Nat → Int32} (K : Ok G X 12 code 4 ret room_1) (hs : Sc G X L xs) {x3 : Int32} (h1 : inb (x3 + 1) L) {w : A_W} {f1 f2 : List Value} {p1 p2 : Int32 × A_W} (o1 : ob w 0 0 = some f1) (e1 : F_K_status 0 (xs (x3 + 1).toNatClampNeg) w = some p1) (o2 : ob p1.2 49 4 = some f2) (e2 : F_M_status 49 (xs (x3 + 1).toNatClampNeg) p1.2 = some p2) (he : p1.1 = p2.1) (kk : Sm G X p2.2 58 1181 [some (.ref scA), some (.ref 0), some (.ref 49), some (.int x3)] [] 1500) : Sm G X w 58 1181 [some (.ref scA), some (.ref 0), some (.ref 49), some (.int x3)] [] 1477 := by
  refine Sm_run K ek_L17 7 5 rfl ?_
  refine Sm_sld K hs (eok_i (eo ek_L17 (i := 12) rfl) rfl) h1 ?_
  refine Sm_callV K (eok_i (eo ek_L17 (i := 13) rfl) rfl) cy_K_status im_K_status se_K_status (lgm 748 (by decide +kernel) rfl) ⟨Nat.le_of_ble_eq_true rfl, Nat.le_of_ble_eq_true rfl⟩ (as := [.int (xs (x3 + 1).toNatClampNeg)]) (b := 0) (st := []) (ob_e o1) (by decide) rfl rfl rfl rfl (Nat.le_of_ble_eq_true rfl) ⟨Nat.le_of_ble_eq_true rfl, Nat.le_of_ble_eq_true rfl⟩ (cn_K_status e1) ?_
  refine Sm_eq (st1 := [.int p1.1]) (nc1 := 58) (ns1 := 1181) rfl rfl rfl ?_
  refine Sm_run K ek_L17 14 5 rfl ?_
  refine Sm_sld K hs (eok_i (eo ek_L17 (i := 19) rfl) rfl) h1 ?_
  refine Sm_callV K (eok_i (eo ek_L17 (i := 20) rfl) rfl) cy_M_status im_M_status se_M_status (lgm 1212 (by decide +kernel) rfl) ⟨Nat.le_of_ble_eq_true rfl, Nat.le_of_ble_eq_true rfl⟩ (as := [.int (xs (x3 + 1).toNatClampNeg)]) (b := 49) (st := [.int p1.1]) (ob_e o2) (by decide) rfl rfl rfl rfl (Nat.le_of_ble_eq_true rfl) ⟨Nat.le_of_ble_eq_true rfl, Nat.le_of_ble_eq_true rfl⟩ (cn_M_status e2) ?_
  refine Sm_eq (st1 := [.int p2.1, .int p1.1]) (nc1 := 58) (ns1 := 1181) rfl rfl rfl ?_
  exact Sm_ic_eq K (eo ek_L17 (i := 21) rfl) (fun _ => kk) (fun c => absurd he c)
