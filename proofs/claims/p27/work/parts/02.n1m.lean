theorem dL_pips_16 : decode cL_pips 16 = .ok (.aload_n 2, 1) := by decide +kernel
theorem dL_pips_17 : decode cL_pips 17 = .ok (.iload 4, 2) := by decide +kernel
theorem dL_pips_19 : decode cL_pips 19 = .ok (.iaload, 1) := by decide +kernel
theorem dL_pips_20 : decode cL_pips 20 = .ok (.istore 5, 2) := by decide +kernel
theorem dL_pips_22 : decode cL_pips 22 = .ok (.iload_n 1, 1) := by decide +kernel
theorem dL_pips_23 : decode cL_pips 23 = .ok (.iload 5, 2) := by decide +kernel
theorem dL_pips_25 : decode cL_pips 25 = .ok (.bipush 10, 2) := by decide +kernel
theorem dL_pips_27 : decode cL_pips 27 = .ok (.idiv, 1) := by decide +kernel
theorem dL_pips_28 : decode cL_pips 28 = .ok (.iload 5, 2) := by decide +kernel
theorem dL_pips_30 : decode cL_pips 30 = .ok (.bipush 10, 2) := by decide +kernel
theorem dL_pips_32 : decode cL_pips 32 = .ok (.irem, 1) := by decide +kernel
theorem dL_pips_33 : decode cL_pips 33 = .ok (.iadd, 1) := by decide +kernel
theorem dL_pips_34 : decode cL_pips 34 = .ok (.iadd, 1) := by decide +kernel
theorem dL_pips_35 : decode cL_pips 35 = .ok (.istore_n 1, 1) := by decide +kernel
theorem dL_pips_36 : decode cL_pips 36 = .ok (.iinc 4 1, 3) := by decide +kernel
theorem dL_pips_39 : decode cL_pips 39 = .ok (.goto (-29), 3) := by decide +kernel
theorem dL_pips_42 : decode cL_pips 42 = .ok (.iload_n 1, 1) := by decide +kernel
theorem dL_pips_43 : decode cL_pips 43 = .ok (.ireturn, 1) := by decide +kernel
set_option maxRecDepth 20000 in
theorem ggL_writeAll_L_write : GoodIn wsL_writeAll wsL_write := goodIn_r _ [4, 5, 6, 7, 8, 9, 10, 11, 12, 13, 14, 15, 16, 17, 18, 19, 20, 21, 22, 23, 24, 25, 26, 27, 28, 29, 30, 31, 32, 33, 34, 35, 36, 37, 38, 39, 40, 41, 42, 43, 44, 45, 46, 47, 48, 49, 50, 51, 52, 53, 54, 55, 3, 56, 57, 58, 59, 60, 61, 62, 63, 64, 65, 66, 67, 68, 69, 70, 71, 72, 73, 74, 78, 79, 80, 81, 82, 83, 84, 85, 86, 87, 88, 89, 90, 91, 92, 93, 94, 95, 96, 97, 98, 99, 100, 101, 102, 103, 104, 105, 106] rfl (by decide +kernel)
set_option maxRecDepth 20000 in
theorem gL_writeAll_L_write : GoodIn wsL_writeAll (va_wsS RL 102 yL_write wsL_write) := goodIn_app (goodIn_of _ (by decide +kernel)) ggL_writeAll_L_write
set_option maxRecDepth 20000 in
theorem ggL_writeAll_L_writeNumber : GoodIn wsL_writeAll wsL_writeNumber := goodIn_r _ [77, 54, 55, 3, 56, 57, 58, 59, 60, 61, 62, 63, 64, 65, 66, 67, 68, 69, 70, 71, 72, 73, 74, 82, 83, 84, 85, 86, 87, 88, 89, 90, 91, 92, 93, 94, 95, 96, 97, 98, 99, 100, 101, 102, 103, 104, 105, 106] rfl (by decide +kernel)
set_option maxRecDepth 20000 in
theorem gL_writeAll_L_writeNumber : GoodIn wsL_writeAll (va_wsS RL 108 yL_writeNumber wsL_writeNumber) := goodIn_app (goodIn_of _ (by decide +kernel)) ggL_writeAll_L_writeNumber
theorem dL_writeAll_0 : decode cL_writeAll 0 = .ok (.aload_n 0, 1) := by decide +kernel
theorem dL_writeAll_1 : decode cL_writeAll 1 = .ok (.aload_n 1, 1) := by decide +kernel
theorem dL_writeAll_2 : decode cL_writeAll 2 = .ok (.aload_n 2, 1) := by decide +kernel
theorem dL_writeAll_3 : decode cL_writeAll 3 = .ok (.invokestatic 102, 3) := by decide +kernel
theorem dL_writeAll_6 : decode cL_writeAll 6 = .ok (.aload_n 3, 1) := by decide +kernel
theorem dL_writeAll_7 : decode cL_writeAll 7 = .ok (.astore 4, 2) := by decide +kernel
theorem dL_writeAll_9 : decode cL_writeAll 9 = .ok (.aload 4, 2) := by decide +kernel
theorem dL_writeAll_11 : decode cL_writeAll 11 = .ok (.arraylength, 1) := by decide +kernel
theorem dL_writeAll_12 : decode cL_writeAll 12 = .ok (.istore 5, 2) := by decide +kernel
theorem dL_writeAll_14 : decode cL_writeAll 14 = .ok (.iconst 0, 1) := by decide +kernel
theorem dL_writeAll_15 : decode cL_writeAll 15 = .ok (.istore 6, 2) := by decide +kernel
theorem dL_writeAll_17 : decode cL_writeAll 17 = .ok (.iload 6, 2) := by decide +kernel
theorem dL_writeAll_19 : decode cL_writeAll 19 = .ok (.iload 5, 2) := by decide +kernel
theorem dL_writeAll_21 : decode cL_writeAll 21 = .ok (.if_icmp .ge 30, 3) := by decide +kernel
theorem dL_writeAll_24 : decode cL_writeAll 24 = .ok (.aload 4, 2) := by decide +kernel
theorem dL_writeAll_26 : decode cL_writeAll 26 = .ok (.iload 6, 2) := by decide +kernel
theorem dL_writeAll_28 : decode cL_writeAll 28 = .ok (.iaload, 1) := by decide +kernel
theorem dL_writeAll_29 : decode cL_writeAll 29 = .ok (.istore 7, 2) := by decide +kernel
theorem dL_writeAll_31 : decode cL_writeAll 31 = .ok (.aload_n 0, 1) := by decide +kernel
theorem dL_writeAll_32 : decode cL_writeAll 32 = .ok (.aload_n 1, 1) := by decide +kernel
theorem dL_writeAll_33 : decode cL_writeAll 33 = .ok (.ldc 106, 2) := by decide +kernel
theorem dL_writeAll_35 : decode cL_writeAll 35 = .ok (.invokestatic 102, 3) := by decide +kernel
theorem dL_writeAll_38 : decode cL_writeAll 38 = .ok (.aload_n 0, 1) := by decide +kernel
theorem dL_writeAll_39 : decode cL_writeAll 39 = .ok (.aload_n 1, 1) := by decide +kernel
theorem dL_writeAll_40 : decode cL_writeAll 40 = .ok (.iload 7, 2) := by decide +kernel
theorem dL_writeAll_42 : decode cL_writeAll 42 = .ok (.invokestatic 108, 3) := by decide +kernel
theorem dL_writeAll_45 : decode cL_writeAll 45 = .ok (.iinc 6 1, 3) := by decide +kernel
theorem dL_writeAll_48 : decode cL_writeAll 48 = .ok (.goto (-31), 3) := by decide +kernel
theorem dL_writeAll_51 : decode cL_writeAll 51 = .ok (.return_, 1) := by decide +kernel
set_option maxRecDepth 20000 in
theorem ggL_randomTable_X10_init : GoodIn wsL_randomTable wsX10_init := goodIn_r _ [25, 26, 27, 28, 29, 30, 31, 32, 33, 34, 8, 35, 36, 37, 12, 38, 39, 40, 41, 628, 629, 630, 631, 632, 633, 634, 635, 636, 637, 638, 639, 640, 641, 642, 643, 644] rfl (by decide +kernel)
set_option maxRecDepth 20000 in
theorem gL_randomTable_X10_init_n113 : GoodIn wsL_randomTable (wsX10_init) := ggL_randomTable_X10_init
set_option maxRecDepth 20000 in
theorem ggL_randomTable_X9_below : GoodIn wsL_randomTable wsX9_below := goodIn_r _ [46, 47, 48, 645] rfl (by decide +kernel)
set_option maxRecDepth 20000 in
theorem gL_randomTable_X9_below : GoodIn wsL_randomTable (wsV RL 114 RX9 yX9_below wsX9_below) := goodIn_app (goodIn_of _ (by decide +kernel)) ggL_randomTable_X9_below
set_option maxRecDepth 20000 in
theorem ggL_randomTable_L_writeAll : GoodIn wsL_randomTable wsL_writeAll := goodIn_r _ [52, 53, 54, 51, 55, 56, 57, 58, 59, 60, 61, 62, 63, 64, 65, 66, 67, 68, 69, 70, 71, 72, 73, 74, 75, 76, 77, 78, 79, 80, 81, 82, 83, 84, 85, 86, 87, 88, 89, 90, 91, 92, 93, 94, 95, 96, 97, 98, 99, 100, 101, 102, 103, 104, 105, 106, 107, 108, 109, 110, 111, 112, 113, 114, 115, 116, 117, 118, 119, 120, 121, 122, 123, 124, 125, 126, 127, 128, 646, 647, 648, 649, 650, 651, 652, 653, 654, 655, 656, 657, 658, 659, 660, 661, 662, 663, 664, 665, 666, 667, 668, 669, 670, 671, 672, 673, 674] rfl (by decide +kernel)
set_option maxRecDepth 20000 in
theorem gL_randomTable_L_writeAll : GoodIn wsL_randomTable (va_wsS RL 146 yL_writeAll wsL_writeAll) := goodIn_app (goodIn_of _ (by decide +kernel)) ggL_randomTable_L_writeAll
set_option maxRecDepth 20000 in
theorem ggL_randomTable_L_write : GoodIn wsL_randomTable wsL_write := goodIn_r _ [55, 56, 57, 58, 59, 60, 61, 62, 63, 64, 65, 66, 67, 68, 69, 70, 71, 72, 73, 74, 75, 76, 77, 78, 79, 80, 81, 82, 83, 84, 85, 86, 87, 88, 89, 90, 91, 92, 93, 94, 95, 96, 97, 98, 99, 100, 101, 102, 103, 104, 105, 106, 51, 107, 108, 109, 110, 111, 112, 113, 114, 115, 116, 117, 118, 119, 120, 121, 122, 123, 124, 125, 646, 647, 648, 649, 650, 651, 652, 653, 654, 655, 656, 657, 658, 659, 660, 661, 662, 663, 664, 665, 666, 667, 668, 669, 670, 671, 672, 673, 674] rfl (by decide +kernel)
set_option maxRecDepth 20000 in
theorem gL_randomTable_L_write : GoodIn wsL_randomTable (va_wsS RL 102 yL_write wsL_write) := goodIn_app (goodIn_of _ (by decide +kernel)) ggL_randomTable_L_write
set_option maxRecDepth 20000 in
theorem ggL_randomTable_L_has : GoodIn wsL_randomTable wsL_has := goodIn_r _ [131] rfl (by decide +kernel)
set_option maxRecDepth 20000 in
theorem gL_randomTable_L_has : GoodIn wsL_randomTable (va_wsS RL 165 yL_has wsL_has) := goodIn_app (goodIn_of _ (by decide +kernel)) ggL_randomTable_L_has
set_option maxRecDepth 20000 in
theorem ggL_randomTable_L_with : GoodIn wsL_randomTable wsL_with := goodIn_r _ [134, 8] rfl (by decide +kernel)
set_option maxRecDepth 20000 in
theorem gL_randomTable_L_with : GoodIn wsL_randomTable (va_wsS RL 98 yL_with wsL_with) := goodIn_app (goodIn_of _ (by decide +kernel)) ggL_randomTable_L_with
set_option maxRecDepth 20000 in
theorem ggL_randomTable_L_writeNumber : GoodIn wsL_randomTable wsL_writeNumber := goodIn_r _ [128, 105, 106, 51, 107, 108, 109, 110, 111, 112, 113, 114, 115, 116, 117, 118, 119, 120, 121, 122, 123, 124, 125, 650, 651, 652, 653, 654, 655, 656, 657, 658, 659, 660, 661, 662, 663, 664, 665, 666, 667, 668, 669, 670, 671, 672, 673, 674] rfl (by decide +kernel)
set_option maxRecDepth 20000 in
theorem gL_randomTable_L_writeNumber : GoodIn wsL_randomTable (va_wsS RL 108 yL_writeNumber wsL_writeNumber) := goodIn_app (goodIn_of _ (by decide +kernel)) ggL_randomTable_L_writeNumber
set_option maxRecDepth 20000 in
theorem ggL_randomTable_X8_random : GoodIn wsL_randomTable wsX8_random := goodIn_r _ [138, 139, 140, 137, 141, 142, 143, 144, 145, 146, 147, 148, 27, 28, 149, 43, 44, 45, 46, 47, 48, 150, 136, 675, 676, 677, 678, 645] rfl (by decide +kernel)
set_option maxRecDepth 20000 in
theorem gL_randomTable_X8_random : GoodIn wsL_randomTable (va_wsS RL 173 yX8_random wsX8_random) := goodIn_app (goodIn_of _ (by decide +kernel)) ggL_randomTable_X8_random
set_option maxRecDepth 20000 in
theorem ggL_randomTable_X8_text : GoodIn wsL_randomTable wsX8_text := goodIn_r _ [154, 141, 155, 156, 157, 142, 143, 144, 158, 159, 160, 161, 162, 163, 164, 165, 27, 28, 166, 167, 168, 169, 170, 171, 90, 172, 173, 174, 175, 176, 177, 178, 179, 180, 181, 182, 183, 184, 185, 186, 187, 188, 189, 190, 191, 192, 193, 194, 195, 196, 197, 198, 199, 200, 201, 202, 203, 204, 205, 206, 207, 20, 17, 21, 208, 209, 210, 211, 212, 213, 214, 215, 216, 217, 218, 219, 220, 221, 222, 16, 18, 223, 224, 225, 226, 227, 228, 229, 230, 231, 232, 233, 234, 102, 235, 236, 237, 95, 96, 97, 238, 239, 59, 240, 83, 241, 242, 86, 243, 244, 245, 246, 103, 104, 247, 57, 58, 60, 61, 62, 63, 64, 65, 66, 67, 248, 249, 250, 251, 252, 253, 254, 255, 256, 257, 258, 259, 260, 261, 262, 263, 264, 265, 78, 266, 267, 268, 269, 270, 271, 272, 273, 274, 275, 276, 277, 278, 279, 280, 281, 282, 283, 284, 285, 286, 287, 288, 289, 290, 291, 292, 293, 294, 295, 296, 297, 298, 299, 300, 301, 302, 303, 304, 305, 306, 307, 308, 309, 310, 311, 312, 313, 314, 315, 316, 317, 318, 319, 320, 321, 322, 323, 324, 325, 326, 327, 328, 329, 330, 331, 332, 333, 334, 335, 336, 337, 338, 339, 340, 341, 342, 343, 344, 345, 346, 347, 348, 349, 350, 351, 352, 353, 354, 99, 100, 101, 355, 356, 357, 358, 359, 152, 153, 137, 675, 676, 677, 678, 679, 680, 681, 682, 646, 647, 648, 649] rfl (by decide +kernel)
set_option maxRecDepth 20000 in
theorem gL_randomTable_X8_text : GoodIn wsL_randomTable (wsV RL 185 RX8 yX8_text wsX8_text) := goodIn_app (goodIn_of _ (by decide +kernel)) ggL_randomTable_X8_text
set_option maxRecDepth 20000 in
theorem ggL_randomTable_X10_deals : GoodIn wsL_randomTable wsX10_deals := goodIn_r _ [363, 8, 29, 31, 35, 364, 32, 365, 30, 39, 37, 38, 366, 367, 33, 368, 369, 130, 51, 131, 133, 134, 628, 629, 630, 631, 632, 633, 634, 635, 636, 637, 638, 639, 640, 641, 642, 643, 644] rfl (by decide +kernel)
set_option maxRecDepth 20000 in
theorem gL_randomTable_X10_deals : GoodIn wsL_randomTable (wsV RL 191 RX10 yX10_deals wsX10_deals) := goodIn_app (goodIn_of _ (by decide +kernel)) ggL_randomTable_X10_deals
set_option maxRecDepth 20000 in
theorem ggL_randomTable_L_loadText : GoodIn wsL_randomTable wsL_loadText := goodIn_ca (goodIn_r _ [372, 108, 109, 51, 110, 111, 112, 113, 114, 115, 116, 117, 118, 119, 120, 121, 122, 123, 124, 125, 373, 374, 375, 376, 377, 378, 379, 380, 381, 382, 383, 384, 385, 386, 387, 388, 389, 390, 391, 392, 393, 394, 395, 396, 397, 398, 399, 400, 401, 402, 403, 404, 405, 406, 407, 408, 409, 410, 214, 411, 412, 413, 414, 415, 416, 16, 17, 18, 417, 20, 21, 418, 419, 420, 421, 422, 423, 424, 425, 426, 427, 428, 429, 430, 431, 432, 433, 434, 435, 436, 437, 57, 58, 59, 60, 61, 62, 63, 64, 65, 66, 67, 438, 69, 70, 71, 72, 73, 74, 75, 76, 77, 78, 79, 80, 81, 82, 83, 84, 85, 86, 87, 88, 89, 90, 91, 92, 93, 94, 95, 96, 97, 98, 99, 100, 101, 102, 103, 104, 439, 440, 441, 442, 443, 444, 445, 446, 447, 448, 449, 450, 451, 452, 453, 454, 455, 456, 457, 458, 459, 460, 461, 462, 463, 464, 465, 466, 467, 468, 469, 470, 471, 472, 473, 474, 475, 476, 477, 478, 479, 480, 481, 482, 483, 484, 485, 486, 487, 488, 489, 490, 491, 492, 493, 494, 495, 496, 497, 498, 499, 500, 501, 502, 503, 504, 505, 506, 507, 508, 509, 510, 511, 512, 513, 514, 515, 516, 517, 518, 519, 520, 521, 522, 523, 524, 525, 526, 27, 28, 8, 527, 528, 529, 530, 531, 532, 533, 534, 535, 218, 219, 536, 537, 222, 223, 224, 225, 226, 538, 539, 540, 541, 542, 543, 544, 545, 546, 547, 548, 549, 550, 551, 552, 553, 554, 555, 556, 557, 558, 559, 560, 561, 562, 563, 564, 565, 566, 567, 568, 569, 570, 571, 572, 573, 574, 575, 576, 577, 578, 579, 580, 581, 582, 583, 584, 585, 586, 587, 588, 589, 590, 591, 592, 593, 594, 595, 596, 597, 598, 599, 600, 601, 602, 603, 604, 605, 606, 607, 608, 609, 610, 611, 612, 613, 614, 615, 616, 617, 618, 619, 620, 621, 622, 623, 624, 625, 626, 627, 650, 651, 652, 653, 654, 655, 656, 657, 658, 659, 660, 661, 662, 663, 664, 665, 666, 667, 668, 669, 670, 671, 672, 673, 674, 683, 684, 685, 686, 687, 688, 689, 690, 691, 692, 693, 694, 695, 696, 697, 698, 699, 700, 646, 647, 648, 649, 701, 702, 703, 704, 705, 706, 707, 708] rfl (by decide +kernel)) (goodIn_sub (fun _ h => List.mem_cons_of_mem _ (List.mem_append_right _ h)) (by decide +kernel))
set_option maxRecDepth 20000 in
theorem gL_randomTable_L_loadText : GoodIn wsL_randomTable (va_wsS RL 194 yL_loadText wsL_loadText) := goodIn_app (goodIn_of _ (by decide +kernel)) ggL_randomTable_L_loadText
theorem dL_randomTable_0 : decode cL_randomTable 0 = .ok (.new 111, 3) := by decide +kernel
theorem dL_randomTable_3 : decode cL_randomTable 3 = .ok (.dup, 1) := by decide +kernel
theorem dL_randomTable_4 : decode cL_randomTable 4 = .ok (.invokespecial 113, 3) := by decide +kernel
theorem dL_randomTable_7 : decode cL_randomTable 7 = .ok (.astore_n 3, 1) := by decide +kernel
theorem dL_randomTable_8 : decode cL_randomTable 8 = .ok (.aload_n 3, 1) := by decide +kernel
theorem dL_randomTable_9 : decode cL_randomTable 9 = .ok (.iconst 3, 1) := by decide +kernel
theorem dL_randomTable_10 : decode cL_randomTable 10 = .ok (.aload_n 2, 1) := by decide +kernel
theorem dL_randomTable_11 : decode cL_randomTable 11 = .ok (.iconst 4, 1) := by decide +kernel
theorem dL_randomTable_12 : decode cL_randomTable 12 = .ok (.invokevirtual 114, 3) := by decide +kernel
theorem dL_randomTable_15 : decode cL_randomTable 15 = .ok (.iadd, 1) := by decide +kernel
theorem dL_randomTable_16 : decode cL_randomTable 16 = .ok (.putfield 119, 3) := by decide +kernel
theorem dL_randomTable_19 : decode cL_randomTable 19 = .ok (.iconst 2, 1) := by decide +kernel
theorem dL_randomTable_20 : decode cL_randomTable 20 = .ok (.aload_n 2, 1) := by decide +kernel
theorem dL_randomTable_21 : decode cL_randomTable 21 = .ok (.iconst 3, 1) := by decide +kernel
theorem dL_randomTable_22 : decode cL_randomTable 22 = .ok (.invokevirtual 114, 3) := by decide +kernel
theorem dL_randomTable_25 : decode cL_randomTable 25 = .ok (.iadd, 1) := by decide +kernel
theorem dL_randomTable_26 : decode cL_randomTable 26 = .ok (.istore 4, 2) := by decide +kernel
theorem dL_randomTable_28 : decode cL_randomTable 28 = .ok (.aload_n 3, 1) := by decide +kernel
theorem dL_randomTable_29 : decode cL_randomTable 29 = .ok (.iconst 1, 1) := by decide +kernel
theorem dL_randomTable_30 : decode cL_randomTable 30 = .ok (.aload_n 2, 1) := by decide +kernel
theorem dL_randomTable_31 : decode cL_randomTable 31 = .ok (.bipush 6, 2) := by decide +kernel
theorem dL_randomTable_33 : decode cL_randomTable 33 = .ok (.invokevirtual 114, 3) := by decide +kernel
theorem dL_randomTable_36 : decode cL_randomTable 36 = .ok (.iadd, 1) := by decide +kernel
theorem dL_randomTable_37 : decode cL_randomTable 37 = .ok (.putfield 123, 3) := by decide +kernel
theorem dL_randomTable_40 : decode cL_randomTable 40 = .ok (.aload_n 3, 1) := by decide +kernel
theorem dL_randomTable_41 : decode cL_randomTable 41 = .ok (.aload_n 3, 1) := by decide +kernel
theorem dL_randomTable_42 : decode cL_randomTable 42 = .ok (.getfield 119, 3) := by decide +kernel
theorem dL_randomTable_45 : decode cL_randomTable 45 = .ok (.putfield 126, 3) := by decide +kernel
theorem dL_randomTable_48 : decode cL_randomTable 48 = .ok (.aload_n 3, 1) := by decide +kernel
theorem dL_randomTable_49 : decode cL_randomTable 49 = .ok (.iload 4, 2) := by decide +kernel
theorem dL_randomTable_51 : decode cL_randomTable 51 = .ok (.iconst 0, 1) := by decide +kernel
theorem dL_randomTable_52 : decode cL_randomTable 52 = .ok (.multianewarray 129 2, 4) := by decide +kernel
theorem dL_randomTable_56 : decode cL_randomTable 56 = .ok (.putfield 131, 3) := by decide +kernel
theorem dL_randomTable_59 : decode cL_randomTable 59 = .ok (.aload_n 3, 1) := by decide +kernel
theorem dL_randomTable_60 : decode cL_randomTable 60 = .ok (.iload 4, 2) := by decide +kernel
theorem dL_randomTable_62 : decode cL_randomTable 62 = .ok (.newarray .int, 2) := by decide +kernel
theorem dL_randomTable_64 : decode cL_randomTable 64 = .ok (.putfield 134, 3) := by decide +kernel
theorem dL_randomTable_67 : decode cL_randomTable 67 = .ok (.aload_n 3, 1) := by decide +kernel
theorem dL_randomTable_68 : decode cL_randomTable 68 = .ok (.iload 4, 2) := by decide +kernel
theorem dL_randomTable_70 : decode cL_randomTable 70 = .ok (.iconst 1, 1) := by decide +kernel
theorem dL_randomTable_71 : decode cL_randomTable 71 = .ok (.iadd, 1) := by decide +kernel
theorem dL_randomTable_72 : decode cL_randomTable 72 = .ok (.iconst 0, 1) := by decide +kernel
theorem dL_randomTable_73 : decode cL_randomTable 73 = .ok (.multianewarray 129 2, 4) := by decide +kernel
theorem dL_randomTable_77 : decode cL_randomTable 77 = .ok (.putfield 138, 3) := by decide +kernel
theorem dL_randomTable_80 : decode cL_randomTable 80 = .ok (.aload_n 3, 1) := by decide +kernel
theorem dL_randomTable_81 : decode cL_randomTable 81 = .ok (.iload 4, 2) := by decide +kernel
theorem dL_randomTable_83 : decode cL_randomTable 83 = .ok (.iconst 1, 1) := by decide +kernel
theorem dL_randomTable_84 : decode cL_randomTable 84 = .ok (.iadd, 1) := by decide +kernel
theorem dL_randomTable_85 : decode cL_randomTable 85 = .ok (.newarray .boolean, 2) := by decide +kernel
theorem dL_randomTable_87 : decode cL_randomTable 87 = .ok (.putfield 141, 3) := by decide +kernel
theorem dL_randomTable_90 : decode cL_randomTable 90 = .ok (.aload_n 0, 1) := by decide +kernel
theorem dL_randomTable_91 : decode cL_randomTable 91 = .ok (.aload_n 1, 1) := by decide +kernel
theorem dL_randomTable_92 : decode cL_randomTable 92 = .ok (.ldc 145, 2) := by decide +kernel
theorem dL_randomTable_94 : decode cL_randomTable 94 = .ok (.iconst 3, 1) := by decide +kernel
theorem dL_randomTable_95 : decode cL_randomTable 95 = .ok (.newarray .int, 2) := by decide +kernel
theorem dL_randomTable_97 : decode cL_randomTable 97 = .ok (.dup, 1) := by decide +kernel
theorem dL_randomTable_98 : decode cL_randomTable 98 = .ok (.iconst 0, 1) := by decide +kernel
theorem dL_randomTable_99 : decode cL_randomTable 99 = .ok (.aload_n 3, 1) := by decide +kernel
theorem dL_randomTable_100 : decode cL_randomTable 100 = .ok (.getfield 119, 3) := by decide +kernel
theorem dL_randomTable_103 : decode cL_randomTable 103 = .ok (.iastore, 1) := by decide +kernel
theorem dL_randomTable_104 : decode cL_randomTable 104 = .ok (.dup, 1) := by decide +kernel
theorem dL_randomTable_105 : decode cL_randomTable 105 = .ok (.iconst 1, 1) := by decide +kernel
theorem dL_randomTable_106 : decode cL_randomTable 106 = .ok (.iload 4, 2) := by decide +kernel
theorem dL_randomTable_108 : decode cL_randomTable 108 = .ok (.iastore, 1) := by decide +kernel
theorem dL_randomTable_109 : decode cL_randomTable 109 = .ok (.dup, 1) := by decide +kernel
theorem dL_randomTable_110 : decode cL_randomTable 110 = .ok (.iconst 2, 1) := by decide +kernel
theorem dL_randomTable_111 : decode cL_randomTable 111 = .ok (.aload_n 3, 1) := by decide +kernel
theorem dL_randomTable_112 : decode cL_randomTable 112 = .ok (.getfield 123, 3) := by decide +kernel
theorem dL_randomTable_115 : decode cL_randomTable 115 = .ok (.iastore, 1) := by decide +kernel
theorem dL_randomTable_116 : decode cL_randomTable 116 = .ok (.invokestatic 146, 3) := by decide +kernel
theorem dL_randomTable_119 : decode cL_randomTable 119 = .ok (.aload_n 0, 1) := by decide +kernel
theorem dL_randomTable_120 : decode cL_randomTable 120 = .ok (.aload_n 1, 1) := by decide +kernel
theorem dL_randomTable_121 : decode cL_randomTable 121 = .ok (.ldc 150, 2) := by decide +kernel
theorem dL_randomTable_123 : decode cL_randomTable 123 = .ok (.invokestatic 102, 3) := by decide +kernel
theorem dL_randomTable_126 : decode cL_randomTable 126 = .ok (.aload_n 2, 1) := by decide +kernel
theorem dL_randomTable_127 : decode cL_randomTable 127 = .ok (.iconst 2, 1) := by decide +kernel
theorem dL_randomTable_128 : decode cL_randomTable 128 = .ok (.invokevirtual 114, 3) := by decide +kernel
theorem dL_randomTable_131 : decode cL_randomTable 131 = .ok (.ifCond .ne 41, 3) := by decide +kernel
theorem dL_randomTable_134 : decode cL_randomTable 134 = .ok (.aload_n 3, 1) := by decide +kernel
theorem dL_randomTable_135 : decode cL_randomTable 135 = .ok (.aload_n 2, 1) := by decide +kernel
theorem dL_randomTable_136 : decode cL_randomTable 136 = .ok (.aload_n 3, 1) := by decide +kernel
theorem dL_randomTable_137 : decode cL_randomTable 137 = .ok (.getfield 119, 3) := by decide +kernel
theorem dL_randomTable_140 : decode cL_randomTable 140 = .ok (.iconst 1, 1) := by decide +kernel
theorem dL_randomTable_141 : decode cL_randomTable 141 = .ok (.iadd, 1) := by decide +kernel
theorem dL_randomTable_142 : decode cL_randomTable 142 = .ok (.invokevirtual 114, 3) := by decide +kernel
theorem dL_randomTable_145 : decode cL_randomTable 145 = .ok (.putfield 126, 3) := by decide +kernel
theorem dL_randomTable_148 : decode cL_randomTable 148 = .ok (.aload_n 0, 1) := by decide +kernel
theorem dL_randomTable_149 : decode cL_randomTable 149 = .ok (.aload_n 1, 1) := by decide +kernel
theorem dL_randomTable_150 : decode cL_randomTable 150 = .ok (.ldc 152, 2) := by decide +kernel
theorem dL_randomTable_152 : decode cL_randomTable 152 = .ok (.iconst 1, 1) := by decide +kernel
theorem dL_randomTable_153 : decode cL_randomTable 153 = .ok (.newarray .int, 2) := by decide +kernel
theorem dL_randomTable_155 : decode cL_randomTable 155 = .ok (.dup, 1) := by decide +kernel
theorem dL_randomTable_156 : decode cL_randomTable 156 = .ok (.iconst 0, 1) := by decide +kernel
theorem dL_randomTable_157 : decode cL_randomTable 157 = .ok (.aload_n 3, 1) := by decide +kernel
theorem dL_randomTable_158 : decode cL_randomTable 158 = .ok (.getfield 126, 3) := by decide +kernel
theorem dL_randomTable_161 : decode cL_randomTable 161 = .ok (.iastore, 1) := by decide +kernel
theorem dL_randomTable_162 : decode cL_randomTable 162 = .ok (.invokestatic 146, 3) := by decide +kernel
theorem dL_randomTable_165 : decode cL_randomTable 165 = .ok (.aload_n 0, 1) := by decide +kernel
theorem dL_randomTable_166 : decode cL_randomTable 166 = .ok (.aload_n 1, 1) := by decide +kernel
theorem dL_randomTable_167 : decode cL_randomTable 167 = .ok (.ldc 150, 2) := by decide +kernel
theorem dL_randomTable_169 : decode cL_randomTable 169 = .ok (.invokestatic 102, 3) := by decide +kernel
theorem dL_randomTable_172 : decode cL_randomTable 172 = .ok (.aload_n 2, 1) := by decide +kernel
theorem dL_randomTable_173 : decode cL_randomTable 173 = .ok (.iconst 3, 1) := by decide +kernel
theorem dL_randomTable_174 : decode cL_randomTable 174 = .ok (.invokevirtual 114, 3) := by decide +kernel
theorem dL_randomTable_177 : decode cL_randomTable 177 = .ok (.ifCond .le 38, 3) := by decide +kernel
theorem dL_randomTable_180 : decode cL_randomTable 180 = .ok (.aload_n 3, 1) := by decide +kernel
theorem dL_randomTable_181 : decode cL_randomTable 181 = .ok (.aload_n 2, 1) := by decide +kernel
theorem dL_randomTable_182 : decode cL_randomTable 182 = .ok (.sipush 10000, 3) := by decide +kernel
theorem dL_randomTable_185 : decode cL_randomTable 185 = .ok (.invokevirtual 114, 3) := by decide +kernel
theorem dL_randomTable_188 : decode cL_randomTable 188 = .ok (.putfield 153, 3) := by decide +kernel
theorem dL_randomTable_191 : decode cL_randomTable 191 = .ok (.aload_n 0, 1) := by decide +kernel
theorem dL_randomTable_192 : decode cL_randomTable 192 = .ok (.aload_n 1, 1) := by decide +kernel
theorem dL_randomTable_193 : decode cL_randomTable 193 = .ok (.ldc 156, 2) := by decide +kernel
theorem dL_randomTable_195 : decode cL_randomTable 195 = .ok (.iconst 1, 1) := by decide +kernel
theorem dL_randomTable_196 : decode cL_randomTable 196 = .ok (.newarray .int, 2) := by decide +kernel
theorem dL_randomTable_198 : decode cL_randomTable 198 = .ok (.dup, 1) := by decide +kernel
theorem dL_randomTable_199 : decode cL_randomTable 199 = .ok (.iconst 0, 1) := by decide +kernel
theorem dL_randomTable_200 : decode cL_randomTable 200 = .ok (.aload_n 3, 1) := by decide +kernel
theorem dL_randomTable_201 : decode cL_randomTable 201 = .ok (.getfield 153, 3) := by decide +kernel
theorem dL_randomTable_204 : decode cL_randomTable 204 = .ok (.iastore, 1) := by decide +kernel
theorem dL_randomTable_205 : decode cL_randomTable 205 = .ok (.invokestatic 146, 3) := by decide +kernel
theorem dL_randomTable_208 : decode cL_randomTable 208 = .ok (.aload_n 0, 1) := by decide +kernel
theorem dL_randomTable_209 : decode cL_randomTable 209 = .ok (.aload_n 1, 1) := by decide +kernel
theorem dL_randomTable_210 : decode cL_randomTable 210 = .ok (.ldc 150, 2) := by decide +kernel
theorem dL_randomTable_212 : decode cL_randomTable 212 = .ok (.invokestatic 102, 3) := by decide +kernel
theorem dL_randomTable_215 : decode cL_randomTable 215 = .ok (.aload_n 2, 1) := by decide +kernel
theorem dL_randomTable_216 : decode cL_randomTable 216 = .ok (.iconst 4, 1) := by decide +kernel
theorem dL_randomTable_217 : decode cL_randomTable 217 = .ok (.invokevirtual 114, 3) := by decide +kernel
theorem dL_randomTable_220 : decode cL_randomTable 220 = .ok (.istore 5, 2) := by decide +kernel
theorem dL_randomTable_222 : decode cL_randomTable 222 = .ok (.iload 5, 2) := by decide +kernel
theorem dL_randomTable_224 : decode cL_randomTable 224 = .ok (.ifCond .le 209, 3) := by decide +kernel
theorem dL_randomTable_227 : decode cL_randomTable 227 = .ok (.aload_n 2, 1) := by decide +kernel
theorem dL_randomTable_228 : decode cL_randomTable 228 = .ok (.iload 4, 2) := by decide +kernel
theorem dL_randomTable_230 : decode cL_randomTable 230 = .ok (.invokevirtual 114, 3) := by decide +kernel
theorem dL_randomTable_233 : decode cL_randomTable 233 = .ok (.istore 6, 2) := by decide +kernel
theorem dL_randomTable_235 : decode cL_randomTable 235 = .ok (.aload_n 2, 1) := by decide +kernel
theorem dL_randomTable_236 : decode cL_randomTable 236 = .ok (.aload_n 3, 1) := by decide +kernel
theorem dL_randomTable_237 : decode cL_randomTable 237 = .ok (.getfield 119, 3) := by decide +kernel
theorem dL_randomTable_240 : decode cL_randomTable 240 = .ok (.iconst 1, 1) := by decide +kernel
theorem dL_randomTable_241 : decode cL_randomTable 241 = .ok (.iadd, 1) := by decide +kernel
theorem dL_randomTable_242 : decode cL_randomTable 242 = .ok (.invokevirtual 114, 3) := by decide +kernel
theorem dL_randomTable_245 : decode cL_randomTable 245 = .ok (.istore 7, 2) := by decide +kernel
theorem dL_randomTable_247 : decode cL_randomTable 247 = .ok (.aload_n 2, 1) := by decide +kernel
theorem dL_randomTable_248 : decode cL_randomTable 248 = .ok (.aload_n 3, 1) := by decide +kernel
theorem dL_randomTable_249 : decode cL_randomTable 249 = .ok (.getfield 119, 3) := by decide +kernel
theorem dL_randomTable_252 : decode cL_randomTable 252 = .ok (.iconst 1, 1) := by decide +kernel
theorem dL_randomTable_253 : decode cL_randomTable 253 = .ok (.iadd, 1) := by decide +kernel
theorem dL_randomTable_254 : decode cL_randomTable 254 = .ok (.invokevirtual 114, 3) := by decide +kernel
theorem dL_randomTable_257 : decode cL_randomTable 257 = .ok (.istore 8, 2) := by decide +kernel
theorem dL_randomTable_259 : decode cL_randomTable 259 = .ok (.bipush 10, 2) := by decide +kernel
theorem dL_randomTable_261 : decode cL_randomTable 261 = .ok (.iload 7, 2) := by decide +kernel
theorem dL_randomTable_263 : decode cL_randomTable 263 = .ok (.iload 8, 2) := by decide +kernel
theorem dL_randomTable_265 : decode cL_randomTable 265 = .ok (.invokestatic 157, 3) := by decide +kernel
theorem dL_randomTable_268 : decode cL_randomTable 268 = .ok (.imul, 1) := by decide +kernel
theorem dL_randomTable_269 : decode cL_randomTable 269 = .ok (.iload 7, 2) := by decide +kernel
theorem dL_randomTable_271 : decode cL_randomTable 271 = .ok (.iload 8, 2) := by decide +kernel
theorem dL_randomTable_273 : decode cL_randomTable 273 = .ok (.invokestatic 162, 3) := by decide +kernel
theorem dL_randomTable_276 : decode cL_randomTable 276 = .ok (.iadd, 1) := by decide +kernel
theorem dL_randomTable_277 : decode cL_randomTable 277 = .ok (.istore 9, 2) := by decide +kernel
theorem dL_randomTable_279 : decode cL_randomTable 279 = .ok (.iload 9, 2) := by decide +kernel
theorem dL_randomTable_281 : decode cL_randomTable 281 = .ok (.bipush 11, 2) := by decide +kernel
theorem dL_randomTable_283 : decode cL_randomTable 283 = .ok (.aload_n 3, 1) := by decide +kernel
theorem dL_randomTable_284 : decode cL_randomTable 284 = .ok (.getfield 126, 3) := by decide +kernel
theorem dL_randomTable_287 : decode cL_randomTable 287 = .ok (.imul, 1) := by decide +kernel
theorem dL_randomTable_288 : decode cL_randomTable 288 = .ok (.if_icmp .eq 18, 3) := by decide +kernel
theorem dL_randomTable_291 : decode cL_randomTable 291 = .ok (.aload_n 3, 1) := by decide +kernel
theorem dL_randomTable_292 : decode cL_randomTable 292 = .ok (.getfield 131, 3) := by decide +kernel
theorem dL_randomTable_295 : decode cL_randomTable 295 = .ok (.iload 6, 2) := by decide +kernel
theorem dL_randomTable_297 : decode cL_randomTable 297 = .ok (.aaload, 1) := by decide +kernel
theorem dL_randomTable_298 : decode cL_randomTable 298 = .ok (.arraylength, 1) := by decide +kernel
theorem dL_randomTable_299 : decode cL_randomTable 299 = .ok (.aload_n 3, 1) := by decide +kernel
theorem dL_randomTable_300 : decode cL_randomTable 300 = .ok (.getfield 123, 3) := by decide +kernel
theorem dL_randomTable_303 : decode cL_randomTable 303 = .ok (.if_icmp .ne 7, 3) := by decide +kernel
theorem dL_randomTable_306 : decode cL_randomTable 306 = .ok (.iconst 1, 1) := by decide +kernel
theorem dL_randomTable_307 : decode cL_randomTable 307 = .ok (.goto 4, 3) := by decide +kernel
theorem dL_randomTable_310 : decode cL_randomTable 310 = .ok (.iconst 0, 1) := by decide +kernel
theorem dL_randomTable_311 : decode cL_randomTable 311 = .ok (.istore 10, 2) := by decide +kernel
theorem dL_randomTable_313 : decode cL_randomTable 313 = .ok (.aload_n 3, 1) := by decide +kernel
theorem dL_randomTable_314 : decode cL_randomTable 314 = .ok (.getfield 131, 3) := by decide +kernel
theorem dL_randomTable_317 : decode cL_randomTable 317 = .ok (.astore 11, 2) := by decide +kernel
theorem dL_randomTable_319 : decode cL_randomTable 319 = .ok (.aload 11, 2) := by decide +kernel
theorem dL_randomTable_321 : decode cL_randomTable 321 = .ok (.arraylength, 1) := by decide +kernel
theorem dL_randomTable_322 : decode cL_randomTable 322 = .ok (.istore 12, 2) := by decide +kernel
theorem dL_randomTable_324 : decode cL_randomTable 324 = .ok (.iconst 0, 1) := by decide +kernel
theorem dL_randomTable_325 : decode cL_randomTable 325 = .ok (.istore 13, 2) := by decide +kernel
theorem dL_randomTable_327 : decode cL_randomTable 327 = .ok (.iload 13, 2) := by decide +kernel
theorem dL_randomTable_329 : decode cL_randomTable 329 = .ok (.iload 12, 2) := by decide +kernel
theorem dL_randomTable_331 : decode cL_randomTable 331 = .ok (.if_icmp .ge 28, 3) := by decide +kernel
theorem dL_randomTable_334 : decode cL_randomTable 334 = .ok (.aload 11, 2) := by decide +kernel
theorem dL_randomTable_336 : decode cL_randomTable 336 = .ok (.iload 13, 2) := by decide +kernel
theorem dL_randomTable_338 : decode cL_randomTable 338 = .ok (.aaload, 1) := by decide +kernel
theorem dL_randomTable_339 : decode cL_randomTable 339 = .ok (.astore 14, 2) := by decide +kernel
theorem dL_randomTable_341 : decode cL_randomTable 341 = .ok (.iload 10, 2) := by decide +kernel
theorem dL_randomTable_343 : decode cL_randomTable 343 = .ok (.aload 14, 2) := by decide +kernel
theorem dL_randomTable_345 : decode cL_randomTable 345 = .ok (.iload 9, 2) := by decide +kernel
theorem dL_randomTable_347 : decode cL_randomTable 347 = .ok (.invokestatic 165, 3) := by decide +kernel
theorem dL_randomTable_350 : decode cL_randomTable 350 = .ok (.ior, 1) := by decide +kernel
theorem dL_randomTable_351 : decode cL_randomTable 351 = .ok (.istore 10, 2) := by decide +kernel
theorem dL_randomTable_353 : decode cL_randomTable 353 = .ok (.iinc 13 1, 3) := by decide +kernel
theorem dL_randomTable_356 : decode cL_randomTable 356 = .ok (.goto (-29), 3) := by decide +kernel
theorem dL_randomTable_359 : decode cL_randomTable 359 = .ok (.iload 10, 2) := by decide +kernel
theorem dL_randomTable_361 : decode cL_randomTable 361 = .ok (.ifCond .eq 6, 3) := by decide +kernel
theorem dL_randomTable_364 : decode cL_randomTable 364 = .ok (.goto 63, 3) := by decide +kernel
theorem dL_randomTable_367 : decode cL_randomTable 367 = .ok (.aload_n 3, 1) := by decide +kernel
theorem dL_randomTable_368 : decode cL_randomTable 368 = .ok (.getfield 131, 3) := by decide +kernel
theorem dL_randomTable_371 : decode cL_randomTable 371 = .ok (.iload 6, 2) := by decide +kernel
theorem dL_randomTable_373 : decode cL_randomTable 373 = .ok (.aload_n 3, 1) := by decide +kernel
theorem dL_randomTable_374 : decode cL_randomTable 374 = .ok (.getfield 131, 3) := by decide +kernel
theorem dL_randomTable_377 : decode cL_randomTable 377 = .ok (.iload 6, 2) := by decide +kernel
theorem dL_randomTable_379 : decode cL_randomTable 379 = .ok (.aaload, 1) := by decide +kernel
theorem dL_randomTable_380 : decode cL_randomTable 380 = .ok (.iload 9, 2) := by decide +kernel
theorem dL_randomTable_382 : decode cL_randomTable 382 = .ok (.invokestatic 98, 3) := by decide +kernel
theorem dL_randomTable_385 : decode cL_randomTable 385 = .ok (.aastore, 1) := by decide +kernel
theorem dL_randomTable_386 : decode cL_randomTable 386 = .ok (.aload_n 0, 1) := by decide +kernel
theorem dL_randomTable_387 : decode cL_randomTable 387 = .ok (.aload_n 1, 1) := by decide +kernel
theorem dL_randomTable_388 : decode cL_randomTable 388 = .ok (.ldc 169, 2) := by decide +kernel
theorem dL_randomTable_390 : decode cL_randomTable 390 = .ok (.iconst 2, 1) := by decide +kernel
theorem dL_randomTable_391 : decode cL_randomTable 391 = .ok (.newarray .int, 2) := by decide +kernel
theorem dL_randomTable_393 : decode cL_randomTable 393 = .ok (.dup, 1) := by decide +kernel
theorem dL_randomTable_394 : decode cL_randomTable 394 = .ok (.iconst 0, 1) := by decide +kernel
theorem dL_randomTable_395 : decode cL_randomTable 395 = .ok (.iload 6, 2) := by decide +kernel
theorem dL_randomTable_397 : decode cL_randomTable 397 = .ok (.iastore, 1) := by decide +kernel
theorem dL_randomTable_398 : decode cL_randomTable 398 = .ok (.dup, 1) := by decide +kernel
theorem dL_randomTable_399 : decode cL_randomTable 399 = .ok (.iconst 1, 1) := by decide +kernel
theorem dL_randomTable_400 : decode cL_randomTable 400 = .ok (.iload 7, 2) := by decide +kernel
theorem dL_randomTable_402 : decode cL_randomTable 402 = .ok (.iastore, 1) := by decide +kernel
theorem dL_randomTable_403 : decode cL_randomTable 403 = .ok (.invokestatic 146, 3) := by decide +kernel
theorem dL_randomTable_406 : decode cL_randomTable 406 = .ok (.aload_n 0, 1) := by decide +kernel
theorem dL_randomTable_407 : decode cL_randomTable 407 = .ok (.aload_n 1, 1) := by decide +kernel
theorem dL_randomTable_408 : decode cL_randomTable 408 = .ok (.ldc 171, 2) := by decide +kernel
theorem dL_randomTable_410 : decode cL_randomTable 410 = .ok (.invokestatic 102, 3) := by decide +kernel
theorem dL_randomTable_413 : decode cL_randomTable 413 = .ok (.aload_n 0, 1) := by decide +kernel
theorem dL_randomTable_414 : decode cL_randomTable 414 = .ok (.aload_n 1, 1) := by decide +kernel
theorem dL_randomTable_415 : decode cL_randomTable 415 = .ok (.iload 8, 2) := by decide +kernel
theorem dL_randomTable_417 : decode cL_randomTable 417 = .ok (.invokestatic 108, 3) := by decide +kernel
theorem dL_randomTable_420 : decode cL_randomTable 420 = .ok (.aload_n 0, 1) := by decide +kernel
theorem dL_randomTable_421 : decode cL_randomTable 421 = .ok (.aload_n 1, 1) := by decide +kernel
theorem dL_randomTable_422 : decode cL_randomTable 422 = .ok (.ldc 150, 2) := by decide +kernel
theorem dL_randomTable_424 : decode cL_randomTable 424 = .ok (.invokestatic 102, 3) := by decide +kernel
theorem dL_randomTable_427 : decode cL_randomTable 427 = .ok (.iinc 5 (-1), 3) := by decide +kernel
theorem dL_randomTable_430 : decode cL_randomTable 430 = .ok (.goto (-208), 3) := by decide +kernel
theorem dL_randomTable_433 : decode cL_randomTable 433 = .ok (.aload_n 2, 1) := by decide +kernel
theorem dL_randomTable_434 : decode cL_randomTable 434 = .ok (.iconst 2, 1) := by decide +kernel
theorem dL_randomTable_435 : decode cL_randomTable 435 = .ok (.invokevirtual 114, 3) := by decide +kernel
theorem dL_randomTable_438 : decode cL_randomTable 438 = .ok (.ifCond .ne 43, 3) := by decide +kernel
theorem dL_randomTable_441 : decode cL_randomTable 441 = .ok (.aload_n 3, 1) := by decide +kernel
theorem dL_randomTable_442 : decode cL_randomTable 442 = .ok (.aload_n 2, 1) := by decide +kernel
theorem dL_randomTable_443 : decode cL_randomTable 443 = .ok (.aload_n 2, 1) := by decide +kernel
theorem dL_randomTable_444 : decode cL_randomTable 444 = .ok (.iconst 3, 1) := by decide +kernel
theorem dL_randomTable_445 : decode cL_randomTable 445 = .ok (.invokevirtual 114, 3) := by decide +kernel
theorem dL_randomTable_448 : decode cL_randomTable 448 = .ok (.invokestatic 173, 3) := by decide +kernel
theorem dL_randomTable_451 : decode cL_randomTable 451 = .ok (.putfield 179, 3) := by decide +kernel
theorem dL_randomTable_454 : decode cL_randomTable 454 = .ok (.aload_n 0, 1) := by decide +kernel
theorem dL_randomTable_455 : decode cL_randomTable 455 = .ok (.aload_n 1, 1) := by decide +kernel
theorem dL_randomTable_456 : decode cL_randomTable 456 = .ok (.ldc 183, 2) := by decide +kernel
theorem dL_randomTable_458 : decode cL_randomTable 458 = .ok (.invokestatic 102, 3) := by decide +kernel
theorem dL_randomTable_461 : decode cL_randomTable 461 = .ok (.aload_n 0, 1) := by decide +kernel
theorem dL_randomTable_462 : decode cL_randomTable 462 = .ok (.aload_n 1, 1) := by decide +kernel
theorem dL_randomTable_463 : decode cL_randomTable 463 = .ok (.aload_n 3, 1) := by decide +kernel
theorem dL_randomTable_464 : decode cL_randomTable 464 = .ok (.getfield 179, 3) := by decide +kernel
theorem dL_randomTable_467 : decode cL_randomTable 467 = .ok (.iconst 0, 1) := by decide +kernel
theorem dL_randomTable_468 : decode cL_randomTable 468 = .ok (.invokevirtual 185, 3) := by decide +kernel
theorem dL_randomTable_471 : decode cL_randomTable 471 = .ok (.invokestatic 102, 3) := by decide +kernel
theorem dL_randomTable_474 : decode cL_randomTable 474 = .ok (.aload_n 0, 1) := by decide +kernel
theorem dL_randomTable_475 : decode cL_randomTable 475 = .ok (.aload_n 1, 1) := by decide +kernel
theorem dL_randomTable_476 : decode cL_randomTable 476 = .ok (.ldc 189, 2) := by decide +kernel
theorem dL_randomTable_478 : decode cL_randomTable 478 = .ok (.invokestatic 102, 3) := by decide +kernel
theorem dL_randomTable_481 : decode cL_randomTable 481 = .ok (.aload_n 3, 1) := by decide +kernel
theorem dL_randomTable_482 : decode cL_randomTable 482 = .ok (.invokevirtual 191, 3) := by decide +kernel
theorem dL_randomTable_485 : decode cL_randomTable 485 = .ok (.aload_n 0, 1) := by decide +kernel
theorem dL_randomTable_486 : decode cL_randomTable 486 = .ok (.aload_n 1, 1) := by decide +kernel
theorem dL_randomTable_487 : decode cL_randomTable 487 = .ok (.invokestatic 194, 3) := by decide +kernel
theorem dL_randomTable_490 : decode cL_randomTable 490 = .ok (.aload_n 3, 1) := by decide +kernel
theorem dL_randomTable_491 : decode cL_randomTable 491 = .ok (.getfield 198, 3) := by decide +kernel
theorem dL_randomTable_494 : decode cL_randomTable 494 = .ok (.arraylength, 1) := by decide +kernel
theorem dL_randomTable_495 : decode cL_randomTable 495 = .ok (.if_icmp .ne 7, 3) := by decide +kernel
theorem dL_randomTable_498 : decode cL_randomTable 498 = .ok (.aload_n 3, 1) := by decide +kernel
theorem dL_randomTable_499 : decode cL_randomTable 499 = .ok (.goto 4, 3) := by decide +kernel
theorem dL_randomTable_502 : decode cL_randomTable 502 = .ok (.aconst_null, 1) := by decide +kernel
theorem dL_randomTable_503 : decode cL_randomTable 503 = .ok (.areturn, 1) := by decide +kernel
set_option maxRecDepth 20000 in
theorem ggL_agrees_X7_checksum : GoodIn wsL_agrees wsX7_checksum := goodIn_r _ [10, 11, 12, 13, 14, 15, 16, 17, 18, 19, 20, 21, 22, 23, 24, 25, 26, 27, 28, 29, 30, 31, 32, 33, 34, 35, 36, 37, 38, 39, 40, 41, 42, 43, 44, 45, 46, 47, 48, 49, 50, 51, 52, 53, 54, 55, 56, 57, 58, 59, 60, 61, 62, 63, 64, 65, 9, 66, 67, 68, 69, 70, 71, 72, 73, 74, 75, 76, 77, 78, 79, 80, 81, 82, 83, 84, 85, 86, 87, 88, 89, 90, 91, 92, 93, 94, 95, 96, 97, 98, 99, 100, 101, 102, 103, 104, 105, 106, 107, 108, 109, 110, 111, 112, 113, 114, 115, 116, 117, 118, 309, 310, 311, 312, 313, 314, 315, 316, 317, 318, 319, 320, 321, 322, 323, 324, 325, 326, 327, 328, 329, 330, 331, 332, 333, 334, 335, 336, 337, 338, 339] rfl (by decide +kernel)
set_option maxRecDepth 20000 in
theorem gL_agrees_X7_checksum : GoodIn wsL_agrees (wsV RL 201 RX7 yX7_checksum wsX7_checksum) := goodIn_app (goodIn_of _ (by decide +kernel)) ggL_agrees_X7_checksum
set_option maxRecDepth 20000 in
theorem ggL_agrees_X10_checksum : GoodIn wsL_agrees wsX10_checksum := goodIn_r _ [123, 124, 125, 126, 127, 128, 129, 122, 130, 131, 132, 133, 134, 135, 136, 137, 138, 139, 140, 141, 142, 143, 144, 145, 146, 147, 148, 149, 150, 151, 152, 153, 154, 155, 156, 157, 158, 159, 160, 161, 162, 163, 164, 165, 166, 167, 168, 169, 170, 171, 172, 173, 174, 175, 292, 293, 294, 295, 296, 297, 298, 299, 300, 301, 302, 303, 304, 305, 306, 307, 308] rfl (by decide +kernel)
set_option maxRecDepth 20000 in
theorem gL_agrees_X10_checksum : GoodIn wsL_agrees (wsV RL 205 RX10 yX10_checksum wsX10_checksum) := goodIn_app (goodIn_of _ (by decide +kernel)) ggL_agrees_X10_checksum
set_option maxRecDepth 20000 in
theorem ggL_agrees_X7_best : GoodIn wsL_agrees wsX7_best := goodIn_r _ [179, 12, 180, 181, 182, 16, 183, 22, 19, 41, 42, 43, 44, 45, 50, 51, 52, 53, 26, 24, 54, 55, 56, 57, 58, 59, 60, 61, 62, 63, 64, 65, 9, 66, 67, 68, 69, 70, 71, 72, 73, 74, 75, 76, 77, 78, 79, 184, 185, 186, 187, 188, 93, 94, 85, 86, 87, 88, 189, 190, 191, 192, 193, 194, 195, 196, 197, 198, 199, 200, 201, 202, 203, 204, 205, 206, 207, 208, 209, 210, 211, 212, 213, 214, 309, 310, 311, 312, 313, 314, 315, 316, 317, 318, 319, 320, 321, 322, 323, 324, 325, 326, 327, 328, 329, 330, 331, 335, 336, 337, 338, 339, 340, 341] rfl (by decide +kernel)
set_option maxRecDepth 20000 in
theorem gL_agrees_X7_best : GoodIn wsL_agrees (wsV RL 206 RX7 yX7_best wsX7_best) := goodIn_app (goodIn_of _ (by decide +kernel)) ggL_agrees_X7_best
set_option maxRecDepth 20000 in
theorem ggL_agrees_X10_best : GoodIn wsL_agrees wsX10_best := goodIn_r _ [218, 125, 134, 126, 146, 147, 148, 122, 149, 138, 136, 150, 151, 152, 153, 154, 155, 156, 157, 133, 219, 220, 221, 222, 223, 224, 225, 226, 227, 228, 229, 230, 231, 232, 233, 234, 235, 236, 204, 205, 206, 237, 208, 209, 238, 292, 293, 294, 295, 296, 297, 298, 299, 300, 301, 302, 303, 304, 305, 306, 307, 308, 342, 343, 344, 345] rfl (by decide +kernel)
set_option maxRecDepth 20000 in
theorem gL_agrees_X10_best : GoodIn wsL_agrees (wsV RL 209 RX10 yX10_best wsX10_best) := goodIn_app (goodIn_of _ (by decide +kernel)) ggL_agrees_X10_best
set_option maxRecDepth 20000 in
theorem ggL_agrees_L_state : GoodIn wsL_agrees wsL_state := goodIn_ca (goodIn_r _ [241, 242, 1, 243, 244, 245, 9, 246, 12, 247, 248, 249, 250, 251, 13, 14, 15, 16, 17, 18, 19, 20, 21, 22, 23, 24, 25, 26, 27, 28, 29, 30, 31, 32, 33, 34, 35, 36, 37, 38, 39, 40, 41, 42, 43, 44, 45, 46, 47, 48, 49, 50, 51, 52, 53, 54, 55, 56, 57, 58, 59, 60, 61, 62, 63, 64, 65, 66, 67, 68, 69, 70, 71, 72, 73, 74, 75, 76, 77, 78, 79, 309, 310, 311, 312, 313, 314, 315, 316, 317, 318, 319, 320, 321, 322, 323, 324, 325, 326, 327, 328, 329, 330, 331, 332, 333, 334, 335, 336, 337, 338, 339] rfl (by decide +kernel)) (goodIn_sub (fun _ h => List.mem_cons_of_mem _ (List.mem_append_left _ (List.mem_append_left _ (List.mem_append_right _ h)))) (by decide +kernel))
set_option maxRecDepth 20000 in
theorem gL_agrees_L_state : GoodIn wsL_agrees (va_wsS RL 210 yL_state wsL_state) := goodIn_app (goodIn_of _ (by decide +kernel)) ggL_agrees_L_state
set_option maxRecDepth 20000 in
theorem ggL_agrees_X10_told : GoodIn wsL_agrees wsX10_told := goodIn_r _ [130, 131, 125, 132, 133, 134, 135, 136, 137, 138, 139, 140, 141, 142, 143, 144, 122, 145, 126, 146, 147, 148, 149, 150, 151, 152, 153, 154, 155, 156, 157, 292, 293, 294, 295, 296, 297, 298, 299, 300, 301, 302, 303, 304, 305, 306, 307, 308] rfl (by decide +kernel)
set_option maxRecDepth 20000 in
theorem gL_agrees_X10_told : GoodIn wsL_agrees (wsV RL 212 RX10 yX10_told wsX10_told) := goodIn_app (goodIn_of _ (by decide +kernel)) ggL_agrees_X10_told
set_option maxRecDepth 20000 in
theorem ggL_agrees_L_player : GoodIn wsL_agrees wsL_player := goodIn_ca (goodIn_ca (goodIn_r _ [255, 256, 242, 3, 1, 257, 258, 259, 9, 260, 12, 261, 262, 263, 264, 265, 266, 247, 248, 249, 250, 251, 80, 81, 82, 16, 83, 84, 85, 86, 87, 88, 41, 42, 43, 44, 45, 89, 90, 91, 92, 93, 94, 74, 75, 76, 77, 78, 79, 65, 66, 95, 96, 97, 98, 22, 46, 47, 48, 49, 19, 50, 51, 52, 53, 26, 24, 54, 55, 56, 57, 58, 59, 60, 61, 62, 63, 64, 67, 68, 69, 70, 71, 72, 73, 309, 310, 311, 312, 313, 314, 315, 316, 317, 318, 319, 320, 321, 322, 323, 324, 325, 326, 327, 328, 329, 330, 331, 335, 336, 337, 338, 339] rfl (by decide +kernel)) (goodIn_sub (fun _ h => List.mem_cons_of_mem _ (List.mem_append_left _ (List.mem_append_right _ h))) (by decide +kernel))) (goodIn_sub (fun _ h => List.mem_cons_of_mem _ (List.mem_append_left _ (List.mem_append_left _ (List.mem_append_right _ h)))) (by decide +kernel))
set_option maxRecDepth 20000 in
theorem gL_agrees_L_player : GoodIn wsL_agrees (va_wsS RL 215 yL_player wsL_player) := goodIn_app (goodIn_of _ (by decide +kernel)) ggL_agrees_L_player
set_option maxRecDepth 20000 in
theorem ggL_agrees_L_train : GoodIn wsL_agrees wsL_train := goodIn_ca (goodIn_ca (goodIn_r _ [269, 256, 242, 3, 1, 270, 271, 272, 9, 273, 12, 274, 275, 276, 277, 265, 266, 247, 248, 249, 250, 251, 100, 101, 102, 16, 103, 54, 104, 105, 106, 62, 107, 108, 109, 65, 66, 67, 68, 69, 70, 71, 55, 56, 57, 58, 19, 59, 60, 61, 63, 64, 110, 111, 112, 113, 114, 115, 116, 117, 118, 93, 94, 74, 75, 76, 77, 78, 79, 309, 310, 311, 312, 313, 314, 315, 316, 317, 318, 319, 320, 321, 322, 323, 324, 325, 326, 327, 328, 329, 330, 331, 335, 336, 337, 338, 339] rfl (by decide +kernel)) (goodIn_sub (fun _ h => List.mem_cons_of_mem _ (List.mem_append_left _ (List.mem_append_right _ h))) (by decide +kernel))) (goodIn_sub (fun _ h => List.mem_cons_of_mem _ (List.mem_append_left _ (List.mem_append_left _ (List.mem_append_right _ h)))) (by decide +kernel))
set_option maxRecDepth 20000 in
theorem gL_agrees_L_train : GoodIn wsL_agrees (va_wsS RL 218 yL_train wsL_train) := goodIn_app (goodIn_of _ (by decide +kernel)) ggL_agrees_L_train
set_option maxRecDepth 20000 in
theorem ggL_agrees_L_tile : GoodIn wsL_agrees wsL_tile := goodIn_ca (goodIn_ca (goodIn_r _ [280, 256, 281, 3, 5, 282, 283, 284, 9, 285, 286, 287, 12, 261, 262, 263, 264, 265, 266, 288, 289, 290, 16, 291, 41, 42, 43, 44, 45, 309, 310, 311, 312, 313, 314, 315, 316, 317, 318, 319, 320, 321, 322, 323, 324, 325, 326, 327, 328, 329, 330, 331] rfl (by decide +kernel)) (goodIn_sub (fun _ h => List.mem_cons_of_mem _ (List.mem_append_right _ h)) (by decide +kernel))) (goodIn_sub (fun _ h => List.mem_cons_of_mem _ (List.mem_append_left _ (List.mem_append_right _ h))) (by decide +kernel))
set_option maxRecDepth 20000 in
theorem gL_agrees_L_tile : GoodIn wsL_agrees (va_wsS RL 220 yL_tile wsL_tile) := goodIn_app (goodIn_of _ (by decide +kernel)) ggL_agrees_L_tile
theorem dL_agrees_0 : decode cL_agrees 0 = .ok (.aload_n 0, 1) := by decide +kernel
theorem dL_agrees_1 : decode cL_agrees 1 = .ok (.invokevirtual 201, 3) := by decide +kernel
theorem dL_agrees_4 : decode cL_agrees 4 = .ok (.aload_n 1, 1) := by decide +kernel
theorem dL_agrees_5 : decode cL_agrees 5 = .ok (.invokevirtual 205, 3) := by decide +kernel
theorem dL_agrees_8 : decode cL_agrees 8 = .ok (.lcmp, 1) := by decide +kernel
theorem dL_agrees_9 : decode cL_agrees 9 = .ok (.ifCond .ne 29, 3) := by decide +kernel
theorem dL_agrees_12 : decode cL_agrees 12 = .ok (.aload_n 0, 1) := by decide +kernel
theorem dL_agrees_13 : decode cL_agrees 13 = .ok (.invokevirtual 206, 3) := by decide +kernel
theorem dL_agrees_16 : decode cL_agrees 16 = .ok (.aload_n 1, 1) := by decide +kernel
theorem dL_agrees_17 : decode cL_agrees 17 = .ok (.invokevirtual 209, 3) := by decide +kernel
theorem dL_agrees_20 : decode cL_agrees 20 = .ok (.if_icmp .ne 18, 3) := by decide +kernel
theorem dL_agrees_23 : decode cL_agrees 23 = .ok (.aload_n 0, 1) := by decide +kernel
theorem dL_agrees_24 : decode cL_agrees 24 = .ok (.bipush 13, 2) := by decide +kernel
theorem dL_agrees_26 : decode cL_agrees 26 = .ok (.invokestatic 210, 3) := by decide +kernel
theorem dL_agrees_29 : decode cL_agrees 29 = .ok (.ldc 42, 2) := by decide +kernel
theorem dL_agrees_31 : decode cL_agrees 31 = .ok (.if_icmp .ne 7, 3) := by decide +kernel
theorem dL_agrees_34 : decode cL_agrees 34 = .ok (.iconst 1, 1) := by decide +kernel
theorem dL_agrees_35 : decode cL_agrees 35 = .ok (.goto 4, 3) := by decide +kernel
theorem dL_agrees_38 : decode cL_agrees 38 = .ok (.iconst 0, 1) := by decide +kernel
theorem dL_agrees_39 : decode cL_agrees 39 = .ok (.istore_n 2, 1) := by decide +kernel
theorem dL_agrees_40 : decode cL_agrees 40 = .ok (.iconst 0, 1) := by decide +kernel
theorem dL_agrees_41 : decode cL_agrees 41 = .ok (.istore_n 3, 1) := by decide +kernel
theorem dL_agrees_42 : decode cL_agrees 42 = .ok (.iload_n 3, 1) := by decide +kernel
theorem dL_agrees_43 : decode cL_agrees 43 = .ok (.bipush 13, 2) := by decide +kernel
theorem dL_agrees_45 : decode cL_agrees 45 = .ok (.if_icmp .ge 32, 3) := by decide +kernel
theorem dL_agrees_48 : decode cL_agrees 48 = .ok (.iload_n 2, 1) := by decide +kernel
theorem dL_agrees_49 : decode cL_agrees 49 = .ok (.ifCond .eq 28, 3) := by decide +kernel
theorem dL_agrees_52 : decode cL_agrees 52 = .ok (.aload_n 0, 1) := by decide +kernel
theorem dL_agrees_53 : decode cL_agrees 53 = .ok (.iload_n 3, 1) := by decide +kernel
theorem dL_agrees_54 : decode cL_agrees 54 = .ok (.invokestatic 210, 3) := by decide +kernel
theorem dL_agrees_57 : decode cL_agrees 57 = .ok (.aload_n 1, 1) := by decide +kernel
theorem dL_agrees_58 : decode cL_agrees 58 = .ok (.iload_n 3, 1) := by decide +kernel
theorem dL_agrees_59 : decode cL_agrees 59 = .ok (.invokevirtual 212, 3) := by decide +kernel
theorem dL_agrees_62 : decode cL_agrees 62 = .ok (.if_icmp .ne 7, 3) := by decide +kernel
theorem dL_agrees_65 : decode cL_agrees 65 = .ok (.iconst 1, 1) := by decide +kernel
theorem dL_agrees_66 : decode cL_agrees 66 = .ok (.goto 4, 3) := by decide +kernel
theorem dL_agrees_69 : decode cL_agrees 69 = .ok (.iconst 0, 1) := by decide +kernel
theorem dL_agrees_70 : decode cL_agrees 70 = .ok (.istore_n 2, 1) := by decide +kernel
theorem dL_agrees_71 : decode cL_agrees 71 = .ok (.iinc 3 1, 3) := by decide +kernel
theorem dL_agrees_74 : decode cL_agrees 74 = .ok (.goto (-32), 3) := by decide +kernel
theorem dL_agrees_77 : decode cL_agrees 77 = .ok (.iload_n 2, 1) := by decide +kernel
theorem dL_agrees_78 : decode cL_agrees 78 = .ok (.ifCond .eq 54, 3) := by decide +kernel
theorem dL_agrees_81 : decode cL_agrees 81 = .ok (.aload_n 0, 1) := by decide +kernel
theorem dL_agrees_82 : decode cL_agrees 82 = .ok (.aload_n 1, 1) := by decide +kernel
theorem dL_agrees_83 : decode cL_agrees 83 = .ok (.getfield 131, 3) := by decide +kernel
theorem dL_agrees_86 : decode cL_agrees 86 = .ok (.arraylength, 1) := by decide +kernel
theorem dL_agrees_87 : decode cL_agrees 87 = .ok (.iconst 0, 1) := by decide +kernel
theorem dL_agrees_88 : decode cL_agrees 88 = .ok (.invokestatic 215, 3) := by decide +kernel
theorem dL_agrees_91 : decode cL_agrees 91 = .ok (.ldc 52, 2) := by decide +kernel
theorem dL_agrees_93 : decode cL_agrees 93 = .ok (.if_icmp .ne 39, 3) := by decide +kernel
theorem dL_agrees_96 : decode cL_agrees 96 = .ok (.aload_n 0, 1) := by decide +kernel
theorem dL_agrees_97 : decode cL_agrees 97 = .ok (.aload_n 1, 1) := by decide +kernel
theorem dL_agrees_98 : decode cL_agrees 98 = .ok (.getfield 138, 3) := by decide +kernel
theorem dL_agrees_101 : decode cL_agrees 101 = .ok (.arraylength, 1) := by decide +kernel
theorem dL_agrees_102 : decode cL_agrees 102 = .ok (.iconst 0, 1) := by decide +kernel
theorem dL_agrees_103 : decode cL_agrees 103 = .ok (.invokestatic 218, 3) := by decide +kernel
theorem dL_agrees_106 : decode cL_agrees 106 = .ok (.ldc 52, 2) := by decide +kernel
theorem dL_agrees_108 : decode cL_agrees 108 = .ok (.if_icmp .ne 24, 3) := by decide +kernel
theorem dL_agrees_111 : decode cL_agrees 111 = .ok (.aload_n 0, 1) := by decide +kernel
theorem dL_agrees_112 : decode cL_agrees 112 = .ok (.iconst 0, 1) := by decide +kernel
theorem dL_agrees_113 : decode cL_agrees 113 = .ok (.aload_n 1, 1) := by decide +kernel
theorem dL_agrees_114 : decode cL_agrees 114 = .ok (.getfield 131, 3) := by decide +kernel
theorem dL_agrees_117 : decode cL_agrees 117 = .ok (.iconst 0, 1) := by decide +kernel
theorem dL_agrees_118 : decode cL_agrees 118 = .ok (.aaload, 1) := by decide +kernel
theorem dL_agrees_119 : decode cL_agrees 119 = .ok (.arraylength, 1) := by decide +kernel
theorem dL_agrees_120 : decode cL_agrees 120 = .ok (.invokestatic 220, 3) := by decide +kernel
theorem dL_agrees_123 : decode cL_agrees 123 = .ok (.ldc 58, 2) := by decide +kernel
theorem dL_agrees_125 : decode cL_agrees 125 = .ok (.if_icmp .ne 7, 3) := by decide +kernel
theorem dL_agrees_128 : decode cL_agrees 128 = .ok (.iconst 1, 1) := by decide +kernel
theorem dL_agrees_129 : decode cL_agrees 129 = .ok (.goto 4, 3) := by decide +kernel
theorem dL_agrees_132 : decode cL_agrees 132 = .ok (.iconst 0, 1) := by decide +kernel
theorem dL_agrees_133 : decode cL_agrees 133 = .ok (.ireturn, 1) := by decide +kernel
theorem dL_law_0 : decode cL_law 0 = .ok (.iconst 1, 1) := by decide +kernel
theorem dL_law_1 : decode cL_law 1 = .ok (.istore_n 1, 1) := by decide +kernel
theorem dL_law_2 : decode cL_law 2 = .ok (.iconst 0, 1) := by decide +kernel
theorem dL_law_3 : decode cL_law 3 = .ok (.istore_n 2, 1) := by decide +kernel
theorem dL_law_4 : decode cL_law 4 = .ok (.iload_n 2, 1) := by decide +kernel
theorem dL_law_5 : decode cL_law 5 = .ok (.aload_n 0, 1) := by decide +kernel
theorem dL_law_6 : decode cL_law 6 = .ok (.arraylength, 1) := by decide +kernel
theorem dL_law_7 : decode cL_law 7 = .ok (.if_icmp .ge 1011, 3) := by decide +kernel
theorem dL_law_10 : decode cL_law 10 = .ok (.iload_n 2, 1) := by decide +kernel
theorem dL_law_11 : decode cL_law 11 = .ok (.iconst 2, 1) := by decide +kernel
theorem dL_law_12 : decode cL_law 12 = .ok (.if_icmp .ge 1006, 3) := by decide +kernel
theorem dL_law_15 : decode cL_law 15 = .ok (.iload_n 1, 1) := by decide +kernel
theorem dL_law_16 : decode cL_law 16 = .ok (.ifCond .eq 1002, 3) := by decide +kernel
theorem dL_law_19 : decode cL_law 19 = .ok (.new 14, 3) := by decide +kernel
theorem dL_law_22 : decode cL_law 22 = .ok (.dup, 1) := by decide +kernel
theorem dL_law_23 : decode cL_law 23 = .ok (.invokespecial 222, 3) := by decide +kernel
theorem dL_law_26 : decode cL_law 26 = .ok (.astore_n 3, 1) := by decide +kernel
theorem dL_law_27 : decode cL_law 27 = .ok (.bipush 8, 2) := by decide +kernel
theorem dL_law_29 : decode cL_law 29 = .ok (.newarray .int, 2) := by decide +kernel
theorem dL_law_31 : decode cL_law 31 = .ok (.astore 4, 2) := by decide +kernel
theorem dL_law_33 : decode cL_law 33 = .ok (.new 115, 3) := by decide +kernel
theorem dL_law_36 : decode cL_law 36 = .ok (.dup, 1) := by decide +kernel
theorem dL_law_37 : decode cL_law 37 = .ok (.aload_n 0, 1) := by decide +kernel
theorem dL_law_38 : decode cL_law 38 = .ok (.iload_n 2, 1) := by decide +kernel
theorem dL_law_39 : decode cL_law 39 = .ok (.iaload, 1) := by decide +kernel
theorem dL_law_40 : decode cL_law 40 = .ok (.invokespecial 223, 3) := by decide +kernel
theorem dL_law_43 : decode cL_law 43 = .ok (.astore 5, 2) := by decide +kernel
theorem dL_law_45 : decode cL_law 45 = .ok (.new 111, 3) := by decide +kernel
theorem dL_law_48 : decode cL_law 48 = .ok (.dup, 1) := by decide +kernel
theorem dL_law_49 : decode cL_law 49 = .ok (.invokespecial 113, 3) := by decide +kernel
theorem dL_law_52 : decode cL_law 52 = .ok (.astore 6, 2) := by decide +kernel
theorem dL_law_54 : decode cL_law 54 = .ok (.aload 6, 2) := by decide +kernel
theorem dL_law_56 : decode cL_law 56 = .ok (.invokevirtual 191, 3) := by decide +kernel
theorem dL_law_59 : decode cL_law 59 = .ok (.aload_n 3, 1) := by decide +kernel
theorem dL_law_60 : decode cL_law 60 = .ok (.aload 6, 2) := by decide +kernel
theorem dL_law_62 : decode cL_law 62 = .ok (.invokestatic 226, 3) := by decide +kernel
theorem dL_law_65 : decode cL_law 65 = .ok (.ifCond .eq 91, 3) := by decide +kernel
theorem dL_law_68 : decode cL_law 68 = .ok (.aload_n 3, 1) := by decide +kernel
theorem dL_law_69 : decode cL_law 69 = .ok (.invokevirtual 230, 3) := by decide +kernel
theorem dL_law_72 : decode cL_law 72 = .ok (.iconst (-1), 1) := by decide +kernel
theorem dL_law_73 : decode cL_law 73 = .ok (.if_icmp .ne 83, 3) := by decide +kernel
theorem dL_law_76 : decode cL_law 76 = .ok (.aload_n 3, 1) := by decide +kernel
theorem dL_law_77 : decode cL_law 77 = .ok (.invokevirtual 233, 3) := by decide +kernel
theorem dL_law_80 : decode cL_law 80 = .ok (.iconst (-1), 1) := by decide +kernel
theorem dL_law_81 : decode cL_law 81 = .ok (.if_icmp .ne 75, 3) := by decide +kernel
theorem dL_law_84 : decode cL_law 84 = .ok (.aload_n 3, 1) := by decide +kernel
theorem dL_law_85 : decode cL_law 85 = .ok (.iconst 0, 1) := by decide +kernel
theorem dL_law_86 : decode cL_law 86 = .ok (.iconst 0, 1) := by decide +kernel
theorem dL_law_87 : decode cL_law 87 = .ok (.invokestatic 236, 3) := by decide +kernel
theorem dL_law_90 : decode cL_law 90 = .ok (.ldc 85, 2) := by decide +kernel
theorem dL_law_92 : decode cL_law 92 = .ok (.if_icmp .ne 64, 3) := by decide +kernel
theorem dL_law_95 : decode cL_law 95 = .ok (.aload_n 3, 1) := by decide +kernel
theorem dL_law_96 : decode cL_law 96 = .ok (.iconst 4, 1) := by decide +kernel
theorem dL_law_97 : decode cL_law 97 = .ok (.iconst 0, 1) := by decide +kernel
theorem dL_law_98 : decode cL_law 98 = .ok (.invokestatic 236, 3) := by decide +kernel
theorem dL_law_101 : decode cL_law 101 = .ok (.ldc 42, 2) := by decide +kernel
theorem dL_law_103 : decode cL_law 103 = .ok (.if_icmp .ne 53, 3) := by decide +kernel
theorem dL_law_106 : decode cL_law 106 = .ok (.aload_n 3, 1) := by decide +kernel
theorem dL_law_107 : decode cL_law 107 = .ok (.iconst 0, 1) := by decide +kernel
theorem dL_law_108 : decode cL_law 108 = .ok (.invokestatic 238, 3) := by decide +kernel
theorem dL_law_111 : decode cL_law 111 = .ok (.ldc 42, 2) := by decide +kernel
theorem dL_law_113 : decode cL_law 113 = .ok (.if_icmp .ne 43, 3) := by decide +kernel
theorem dL_law_116 : decode cL_law 116 = .ok (.aload_n 3, 1) := by decide +kernel
theorem dL_law_117 : decode cL_law 117 = .ok (.bipush 33, 2) := by decide +kernel
theorem dL_law_119 : decode cL_law 119 = .ok (.iconst 3, 1) := by decide +kernel
theorem dL_law_120 : decode cL_law 120 = .ok (.invokestatic 240, 3) := by decide +kernel
theorem dL_law_123 : decode cL_law 123 = .ok (.ldc 52, 2) := by decide +kernel
theorem dL_law_125 : decode cL_law 125 = .ok (.if_icmp .ne 31, 3) := by decide +kernel
theorem dL_law_128 : decode cL_law 128 = .ok (.aload_n 3, 1) := by decide +kernel
theorem dL_law_129 : decode cL_law 129 = .ok (.bipush 34, 2) := by decide +kernel
theorem dL_law_131 : decode cL_law 131 = .ok (.iconst 0, 1) := by decide +kernel
theorem dL_law_132 : decode cL_law 132 = .ok (.invokestatic 240, 3) := by decide +kernel
theorem dL_law_135 : decode cL_law 135 = .ok (.ldc 42, 2) := by decide +kernel
theorem dL_law_137 : decode cL_law 137 = .ok (.if_icmp .ne 19, 3) := by decide +kernel
theorem dL_law_140 : decode cL_law 140 = .ok (.aload_n 3, 1) := by decide +kernel
theorem dL_law_141 : decode cL_law 141 = .ok (.bipush 33, 2) := by decide +kernel
theorem dL_law_143 : decode cL_law 143 = .ok (.iconst 0, 1) := by decide +kernel
theorem dL_law_144 : decode cL_law 144 = .ok (.invokestatic 240, 3) := by decide +kernel
theorem dL_law_147 : decode cL_law 147 = .ok (.ldc 85, 2) := by decide +kernel
theorem dL_law_149 : decode cL_law 149 = .ok (.if_icmp .ne 7, 3) := by decide +kernel
theorem dL_law_152 : decode cL_law 152 = .ok (.iconst 1, 1) := by decide +kernel
theorem dL_law_153 : decode cL_law 153 = .ok (.goto 4, 3) := by decide +kernel
theorem dL_law_156 : decode cL_law 156 = .ok (.iconst 0, 1) := by decide +kernel
theorem dL_law_157 : decode cL_law 157 = .ok (.istore_n 1, 1) := by decide +kernel
theorem dL_law_158 : decode cL_law 158 = .ok (.aload_n 3, 1) := by decide +kernel
theorem dL_law_159 : decode cL_law 159 = .ok (.aload 4, 2) := by decide +kernel
theorem dL_law_161 : decode cL_law 161 = .ok (.aload 5, 2) := by decide +kernel
theorem dL_law_163 : decode cL_law 163 = .ok (.invokestatic 242, 3) := by decide +kernel
theorem dL_law_166 : decode cL_law 166 = .ok (.astore 6, 2) := by decide +kernel
theorem dL_law_168 : decode cL_law 168 = .ok (.aload 6, 2) := by decide +kernel
theorem dL_law_170 : decode cL_law 170 = .ok (.ifnonnull 5, 3) := by decide +kernel
theorem dL_law_173 : decode cL_law 173 = .ok (.iconst 0, 1) := by decide +kernel
theorem dL_law_174 : decode cL_law 174 = .ok (.ireturn, 1) := by decide +kernel
theorem dL_law_175 : decode cL_law 175 = .ok (.iload_n 1, 1) := by decide +kernel
theorem dL_law_176 : decode cL_law 176 = .ok (.ifCond .eq 16, 3) := by decide +kernel
theorem dL_law_179 : decode cL_law 179 = .ok (.aload_n 3, 1) := by decide +kernel
theorem dL_law_180 : decode cL_law 180 = .ok (.aload 6, 2) := by decide +kernel
theorem dL_law_182 : decode cL_law 182 = .ok (.invokestatic 226, 3) := by decide +kernel
theorem dL_law_185 : decode cL_law 185 = .ok (.ifCond .eq 7, 3) := by decide +kernel
theorem dL_law_188 : decode cL_law 188 = .ok (.iconst 1, 1) := by decide +kernel
theorem dL_law_189 : decode cL_law 189 = .ok (.goto 4, 3) := by decide +kernel
theorem dL_law_192 : decode cL_law 192 = .ok (.iconst 0, 1) := by decide +kernel
theorem dL_law_193 : decode cL_law 193 = .ok (.istore_n 1, 1) := by decide +kernel
theorem dL_law_194 : decode cL_law 194 = .ok (.bipush 9, 2) := by decide +kernel
theorem dL_law_196 : decode cL_law 196 = .ok (.anewarray 111, 3) := by decide +kernel
theorem dL_law_199 : decode cL_law 199 = .ok (.astore 7, 2) := by decide +kernel
theorem dL_law_201 : decode cL_law 201 = .ok (.iconst 0, 1) := by decide +kernel
theorem dL_law_202 : decode cL_law 202 = .ok (.istore 8, 2) := by decide +kernel
theorem dL_law_204 : decode cL_law 204 = .ok (.iconst 0, 1) := by decide +kernel
theorem dL_law_205 : decode cL_law 205 = .ok (.istore 9, 2) := by decide +kernel
theorem dL_law_207 : decode cL_law 207 = .ok (.iload 9, 2) := by decide +kernel
theorem dL_law_209 : decode cL_law 209 = .ok (.bipush 22, 2) := by decide +kernel
theorem dL_law_211 : decode cL_law 211 = .ok (.if_icmp .ge 652, 3) := by decide +kernel
theorem dL_law_214 : decode cL_law 214 = .ok (.iload_n 1, 1) := by decide +kernel
theorem dL_law_215 : decode cL_law 215 = .ok (.ifCond .eq 648, 3) := by decide +kernel
theorem dL_law_218 : decode cL_law 218 = .ok (.aload 6, 2) := by decide +kernel
theorem dL_law_220 : decode cL_law 220 = .ok (.invokevirtual 246, 3) := by decide +kernel
theorem dL_law_223 : decode cL_law 223 = .ok (.astore 10, 2) := by decide +kernel
theorem dL_law_225 : decode cL_law 225 = .ok (.iconst 1, 1) := by decide +kernel
theorem dL_law_226 : decode cL_law 226 = .ok (.istore 11, 2) := by decide +kernel
theorem dL_law_228 : decode cL_law 228 = .ok (.aload 5, 2) := by decide +kernel
theorem dL_law_230 : decode cL_law 230 = .ok (.bipush 8, 2) := by decide +kernel
theorem dL_law_232 : decode cL_law 232 = .ok (.invokevirtual 114, 3) := by decide +kernel
theorem dL_law_235 : decode cL_law 235 = .ok (.tableswitch 483 0 4 #[33, 216, 254, 292, 447], 33) := by decide +kernel
theorem dL_law_268 : decode cL_law 268 = .ok (.aload 5, 2) := by decide +kernel
theorem dL_law_270 : decode cL_law 270 = .ok (.aload 6, 2) := by decide +kernel
theorem dL_law_272 : decode cL_law 272 = .ok (.getfield 119, 3) := by decide +kernel
theorem dL_law_275 : decode cL_law 275 = .ok (.iconst 1, 1) := by decide +kernel
theorem dL_law_276 : decode cL_law 276 = .ok (.iadd, 1) := by decide +kernel
theorem dL_law_277 : decode cL_law 277 = .ok (.invokevirtual 114, 3) := by decide +kernel
theorem dL_law_280 : decode cL_law 280 = .ok (.bipush 10, 2) := by decide +kernel
theorem dL_law_282 : decode cL_law 282 = .ok (.imul, 1) := by decide +kernel
theorem dL_law_283 : decode cL_law 283 = .ok (.aload 5, 2) := by decide +kernel
theorem dL_law_285 : decode cL_law 285 = .ok (.aload 6, 2) := by decide +kernel
theorem dL_law_287 : decode cL_law 287 = .ok (.getfield 119, 3) := by decide +kernel
theorem dL_law_290 : decode cL_law 290 = .ok (.iconst 1, 1) := by decide +kernel
theorem dL_law_291 : decode cL_law 291 = .ok (.iadd, 1) := by decide +kernel
theorem dL_law_292 : decode cL_law 292 = .ok (.invokevirtual 114, 3) := by decide +kernel
theorem dL_law_295 : decode cL_law 295 = .ok (.iadd, 1) := by decide +kernel
theorem dL_law_296 : decode cL_law 296 = .ok (.istore 12, 2) := by decide +kernel
theorem dL_law_298 : decode cL_law 298 = .ok (.aload 5, 2) := by decide +kernel
theorem dL_law_300 : decode cL_law 300 = .ok (.aload 6, 2) := by decide +kernel
theorem dL_law_302 : decode cL_law 302 = .ok (.getfield 138, 3) := by decide +kernel
theorem dL_law_305 : decode cL_law 305 = .ok (.arraylength, 1) := by decide +kernel
theorem dL_law_306 : decode cL_law 306 = .ok (.aload 5, 2) := by decide +kernel
theorem dL_law_308 : decode cL_law 308 = .ok (.bipush 9, 2) := by decide +kernel
theorem dL_law_310 : decode cL_law 310 = .ok (.invokevirtual 114, 3) := by decide +kernel
theorem dL_law_313 : decode cL_law 313 = .ok (.ifCond .ne 7, 3) := by decide +kernel
theorem dL_law_316 : decode cL_law 316 = .ok (.iconst 1, 1) := by decide +kernel
theorem dL_law_317 : decode cL_law 317 = .ok (.goto 4, 3) := by decide +kernel
theorem dL_law_320 : decode cL_law 320 = .ok (.iconst 0, 1) := by decide +kernel
theorem dL_law_321 : decode cL_law 321 = .ok (.iadd, 1) := by decide +kernel
theorem dL_law_322 : decode cL_law 322 = .ok (.invokevirtual 114, 3) := by decide +kernel
theorem dL_law_325 : decode cL_law 325 = .ok (.istore 13, 2) := by decide +kernel
theorem dL_law_327 : decode cL_law 327 = .ok (.iload 12, 2) := by decide +kernel
theorem dL_law_329 : decode cL_law 329 = .ok (.bipush 10, 2) := by decide +kernel
theorem dL_law_331 : decode cL_law 331 = .ok (.idiv, 1) := by decide +kernel
