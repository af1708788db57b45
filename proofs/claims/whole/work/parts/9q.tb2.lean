/-! LEVEL 3: the words of the law among the tables, by pieces, on -/
set_option maxRecDepth 20000 in
theorem q_wsL_law_r17 : ∀ w ∈ wsL_law_r17, w ∈ lw_tbl := m_ps [483, 2, 484, 485, 486, 487, 488, 489, 490, 491, 492, 493, 495, 3, 496, 95, 134, 165, 497, 498, 499, 500, 501, 502] (by decide +kernel)
set_option maxRecDepth 20000 in
theorem q_wsL_law_r18 : ∀ w ∈ wsL_law_r18, w ∈ lw_tbl := m_ps [503, 504, 506, 507, 508, 510, 4, 511, 512, 513, 514, 515, 516, 517, 518, 519, 520, 522, 5, 523, 524, 526, 6, 527] (by decide +kernel)
set_option maxRecDepth 20000 in
theorem q_wsL_law_r19 : ∀ w ∈ wsL_law_r19, w ∈ lw_tbl := m_ps [528, 529, 530, 531, 532, 533, 534, 535, 536, 111, 537, 538, 539, 540, 541, 543, 7, 544, 545, 547, 8, 548, 550, 551] (by decide +kernel)
set_option maxRecDepth 20000 in
theorem q_wsL_law_r20 : ∀ w ∈ wsL_law_r20, w ∈ lw_tbl := m_ps [552, 553, 554, 556, 9, 557, 558, 560, 10, 561, 562, 564, 11, 565, 566, 568, 12, 569, 570, 571, 572, 573, 574, 575] (by decide +kernel)
set_option maxRecDepth 20000 in
theorem q_wsL_law_r21 : ∀ w ∈ wsL_law_r21, w ∈ lw_tbl := m_ps [576, 577, 578, 579, 580, 581, 582, 583, 584, 585, 586, 588, 13, 589, 590, 591, 592, 593, 879, 880, 881, 882, 883, 885] (by decide +kernel)
set_option maxRecDepth 20000 in
theorem q_wsL_law_r22 : ∀ w ∈ wsL_law_r22, w ∈ lw_tbl := m_ps [22, 886, 887, 889, 23, 890, 891, 893, 24, 894, 895, 897, 25, 898, 899, 901, 26, 902, 903, 904, 905, 906, 908, 27] (by decide +kernel)
set_option maxRecDepth 20000 in
theorem q_wsL_law_r23 : ∀ w ∈ wsL_law_r23, w ∈ lw_tbl := m_ps [909, 910, 912, 28, 913, 914, 916, 29, 917, 918, 920, 30, 921, 922, 924, 31, 925, 926, 928, 32, 929, 930, 932, 33] (by decide +kernel)
set_option maxRecDepth 20000 in
theorem q_wsL_law_r24 : ∀ w ∈ wsL_law_r24, w ∈ lw_tbl := m_ps [933, 934, 936, 34, 937, 938, 940, 35, 941, 594, 595, 596, 597, 296, 598, 599, 600, 601, 602, 603, 604, 605, 942, 943] (by decide +kernel)
set_option maxRecDepth 20000 in
theorem q_wsL_law_r25 : ∀ w ∈ wsL_law_r25, w ∈ lw_tbl := m_ps [944, 945, 768, 606, 607, 608, 609, 946, 947, 948, 949, 610, 611, 612, 613, 614, 615, 616, 617, 618, 619, 620, 621, 622] (by decide +kernel)
set_option maxRecDepth 20000 in
theorem q_wsL_law_r26 : ∀ w ∈ wsL_law_r26, w ∈ lw_tbl := m_ps [623, 624, 625, 626, 627, 628, 629, 630, 631, 632, 633, 634, 635, 636, 950, 951, 952, 953, 954, 956, 36, 957, 771, 770] (by decide +kernel)
set_option maxRecDepth 20000 in
theorem q_wsL_law_r27 : ∀ w ∈ wsL_law_r27, w ∈ lw_tbl := m_ps [958, 960, 37, 961, 962, 964, 38, 965, 966, 968, 39, 969, 970, 972, 40, 973, 974, 976, 41, 977, 978, 980, 42, 981] (by decide +kernel)
set_option maxRecDepth 20000 in
theorem q_wsL_law_r28 : ∀ w ∈ wsL_law_r28, w ∈ lw_tbl := m_ps [982, 984, 43, 985, 637, 638, 639, 640, 641, 642, 643, 644, 645, 646, 647, 648, 649, 986, 987, 988, 989, 650, 651, 652] (by decide +kernel)
set_option maxRecDepth 20000 in
theorem q_wsL_law_r29 : ∀ w ∈ wsL_law_r29, w ∈ lw_tbl := m_ps [653, 282, 654, 655, 656, 657, 658, 659, 660, 661, 990, 991, 992, 993, 662, 663, 664, 665, 252, 666, 994, 995, 996, 997] (by decide +kernel)
set_option maxRecDepth 20000 in
theorem q_wsL_law_r30 : ∀ w ∈ wsL_law_r30, w ∈ lw_tbl := m_ps [767, 667, 668, 669, 670, 998, 999, 1000, 1001, 671, 672, 673, 674, 130, 94, 92, 97, 101, 99, 103, 675, 676, 1002, 1003] (by decide +kernel)
set_option maxRecDepth 20000 in
theorem q_wsL_law_r31 : ∀ w ∈ wsL_law_r31, w ∈ lw_tbl := m_ps [1004, 1005, 677, 678, 679, 680, 681, 682, 683, 684, 1006, 1007, 1008, 1009, 685, 686, 687, 688, 132, 164, 167, 1010, 1011, 1012] (by decide +kernel)
set_option maxRecDepth 20000 in
theorem q_wsL_law_r32 : ∀ w ∈ wsL_law_r32, w ∈ lw_tbl := m_ps [1013, 689, 690, 691, 692, 133, 186, 188, 191, 193, 693, 694, 695, 696, 1014, 1015, 1016, 1017, 697, 698, 699, 700, 246, 212] (by decide +kernel)
