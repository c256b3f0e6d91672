/-! ===== the law's calls, words ===== -/
set_option maxRecDepth 20000 in
theorem ggL_law_X11_forget : GoodIn wsL_law wsX11_forget := goodIn_r _ [535, 341, 922, 923, 924, 925, 926, 927, 928, 929, 930, 931, 932, 933, 934, 935, 936, 937, 938, 939, 940, 941, 942, 943, 944, 945, 946, 947, 948, 949, 950, 951, 952, 953, 954, 955, 956, 957] (by decide +kernel) (by decide +kernel)
set_option maxRecDepth 20000 in
theorem gL_law_X11_forget : GoodIn wsL_law (wsV RL 78 RX11 yX11_forget wsX11_forget) := goodIn_app (goodIn_of _ (by decide +kernel)) ggL_law_X11_forget
set_option maxRecDepth 20000 in
theorem ggL_law_X10_tracks : GoodIn wsL_law wsX10_tracks := goodIn_r _ [539, 40, 540, 39, 541, 542, 98, 99, 95, 434, 35, 435, 436, 90, 437, 438, 439, 440, 441, 383, 384, 385, 91, 386, 2, 387, 543, 544, 545, 546, 96, 547, 317, 318, 319, 548, 549, 550, 551, 97, 552, 553, 554, 555, 556, 909, 910, 911, 912, 913, 914, 915, 916, 917, 918, 919, 920, 921, 990, 991, 992, 993, 994, 978, 979, 980, 981, 982, 983, 984, 985, 986, 987, 988, 989, 960, 961, 962, 963, 964, 965, 966, 967, 968] (by decide +kernel) (by decide +kernel)
set_option maxRecDepth 20000 in
theorem gL_law_X10_tracks : GoodIn wsL_law (wsV RL 79 RX10 yX10_tracks wsX10_tracks) := goodIn_app (goodIn_of _ (by decide +kernel)) ggL_law_X10_tracks
set_option maxRecDepth 20000 in
theorem ggL_law_X11_tracks : GoodIn wsL_law wsX11_tracks := goodIn_r _ [560, 341, 146, 561, 562, 563, 5, 564, 144, 145, 446, 447, 448, 449, 338, 142, 398, 399, 400, 401, 138, 402, 403, 404, 450, 451, 452, 565, 566, 567, 568, 143, 922, 923, 924, 925, 926, 927, 928, 929, 930, 931, 932, 933, 934, 935, 936, 937, 938, 939, 940, 941, 942, 943, 944, 945, 946, 947, 948, 949, 950, 951, 952, 953, 954, 955, 956, 957] (by decide +kernel) (by decide +kernel)
set_option maxRecDepth 20000 in
theorem gL_law_X11_tracks : GoodIn wsL_law (wsV RL 82 RX11 yX11_tracks wsX11_tracks) := goodIn_app (goodIn_of _ (by decide +kernel)) ggL_law_X11_tracks
set_option maxRecDepth 20000 in
theorem ggL_law_X10_where : GoodIn wsL_law wsX10_where := goodIn_r _ [572, 29, 40, 382, 163, 2, 164, 573, 39, 574, 575, 99, 98, 434, 35, 435, 436, 90, 437, 438, 439, 440, 441, 383, 384, 385, 91, 386, 387, 548, 549, 550, 551, 97, 576, 577, 578, 579, 580, 909, 910, 911, 912, 913, 914, 915, 916, 917, 918, 919, 920, 921, 978, 979, 980, 981, 982, 983, 984, 985, 986, 987, 990, 991, 992, 993, 994, 988, 989, 960, 961, 962, 963, 964, 965, 966, 967, 968] (by decide +kernel) (by decide +kernel)
set_option maxRecDepth 20000 in
theorem gL_law_X10_where : GoodIn wsL_law (wsV RL 83 RX10 yX10_where wsX10_where) := goodIn_app (goodIn_of _ (by decide +kernel)) ggL_law_X10_where
set_option maxRecDepth 20000 in
theorem ggL_law_X11_where : GoodIn wsL_law wsX11_where := goodIn_r _ [584, 341, 145, 146, 172, 173, 5, 174, 561, 562, 563, 564, 144, 446, 447, 448, 449, 338, 142, 398, 399, 400, 401, 138, 402, 403, 404, 450, 451, 452, 565, 566, 567, 568, 143, 922, 923, 924, 925, 926, 927, 928, 929, 930, 931, 932, 933, 934, 935, 936, 937, 938, 939, 940, 941, 942, 943, 944, 945, 946, 947, 948, 949, 950, 951, 952, 953, 954, 955, 956, 957] (by decide +kernel) (by decide +kernel)
set_option maxRecDepth 20000 in
theorem gL_law_X11_where : GoodIn wsL_law (wsV RL 86 RX11 yX11_where wsX11_where) := goodIn_app (goodIn_of _ (by decide +kernel)) ggL_law_X11_where
set_option maxRecDepth 20000 in
theorem ggL_law_X10_men : GoodIn wsL_law wsX10_men := goodIn_r _ [588, 44, 589, 43, 590, 591, 108, 103, 109, 104, 107, 592, 593, 434, 35, 435, 436, 90, 437, 438, 439, 440, 441, 383, 384, 385, 91, 386, 2, 387, 594, 19, 595, 596, 273, 67, 597, 598, 599, 600, 601, 602, 603, 604, 605, 606, 607, 608, 105, 106, 576, 577, 578, 579, 580, 609, 610, 611, 612, 909, 910, 911, 912, 913, 914, 915, 916, 917, 918, 919, 920, 921, 995, 996, 997, 998, 999, 1000, 1001, 1002, 1003, 978, 979, 980, 981, 982, 983, 984, 985, 986, 987, 988, 989, 960, 961, 962, 963, 964, 965, 966, 967, 968] (by decide +kernel) (by decide +kernel)
set_option maxRecDepth 20000 in
theorem gL_law_X10_men : GoodIn wsL_law (wsV RL 87 RX10 yX10_men wsX10_men) := goodIn_app (goodIn_of _ (by decide +kernel)) ggL_law_X10_men
set_option maxRecDepth 20000 in
theorem ggL_law_X11_men : GoodIn wsL_law wsX11_men := goodIn_r _ [616, 341, 617, 618, 619, 620, 5, 621, 147, 338, 140, 144, 148, 143, 446, 447, 448, 449, 142, 398, 399, 400, 401, 138, 402, 403, 404, 450, 451, 452, 622, 623, 624, 625, 626, 627, 628, 629, 150, 149, 630, 631, 632, 633, 634, 635, 636, 637, 638, 639, 640, 641, 642, 643, 644, 565, 566, 567, 568, 922, 923, 924, 925, 926, 927, 928, 929, 930, 931, 932, 933, 934, 935, 936, 937, 938, 939, 940, 941, 942, 943, 944, 945, 946, 947, 948, 949, 950, 951, 952, 953, 954, 955, 956, 957] (by decide +kernel) (by decide +kernel)
set_option maxRecDepth 20000 in
theorem gL_law_X11_men : GoodIn wsL_law (wsV RL 90 RX11 yX11_men wsX11_men) := goodIn_app (goodIn_of _ (by decide +kernel)) ggL_law_X11_men
set_option maxRecDepth 20000 in
theorem ggL_law_X10_keeps : GoodIn wsL_law wsX10_keeps := goodIn_r _ [648, 48, 20, 382, 163, 2, 164, 649, 47, 650, 651, 114, 652, 653, 654, 655, 113, 656, 657, 658, 659, 115, 660, 661, 662, 663, 664, 438, 439, 440, 386, 387, 665, 666, 667, 668, 669, 670, 671, 672, 673, 674, 675, 676, 909, 910, 911, 912, 913, 914, 915, 916, 917, 918, 919, 920, 921, 960, 961, 962, 963, 964, 965, 966, 967, 968, 1004, 1005, 1006, 978, 979, 980, 981, 982, 983, 984, 985, 986, 987] (by decide +kernel) (by decide +kernel)
set_option maxRecDepth 20000 in
theorem gL_law_X10_keeps : GoodIn wsL_law (wsV RL 91 RX10 yX10_keeps wsX10_keeps) := goodIn_app (goodIn_of _ (by decide +kernel)) ggL_law_X10_keeps
set_option maxRecDepth 20000 in
theorem ggL_law_X11_keeps : GoodIn wsL_law wsX11_keeps := goodIn_r _ [680, 338, 172, 173, 5, 174, 681, 682, 683, 684, 685, 686, 687, 138, 142, 402, 403, 404, 450, 451, 452, 922, 923, 924, 925, 926, 927, 928, 929, 930, 931, 932, 933, 934, 935, 936, 937, 938, 939, 940, 941, 942, 943, 944, 945, 946, 947, 948, 949, 950, 951, 952, 953, 954, 955, 956, 957] (by decide +kernel) (by decide +kernel)
set_option maxRecDepth 20000 in
theorem gL_law_X11_keeps : GoodIn wsL_law (wsV RL 94 RX11 yX11_keeps wsX11_keeps) := goodIn_app (goodIn_of _ (by decide +kernel)) ggL_law_X11_keeps
set_option maxRecDepth 20000 in
theorem ggL_law_X10_meet : GoodIn wsL_law wsX10_meet := goodIn_r _ [691, 48, 378, 379, 380, 2, 381, 20, 382, 163, 164, 692, 47, 693, 694, 115, 114, 514, 515, 494, 495, 439, 496, 660, 661, 662, 663, 664, 438, 440, 386, 387, 909, 910, 911, 912, 913, 914, 915, 916, 917, 918, 919, 920, 921, 960, 961, 962, 963, 964, 965, 966, 967, 968, 1004, 1005, 1006, 978, 979, 980, 981, 982, 983, 984, 985, 986, 987] (by decide +kernel) (by decide +kernel)
set_option maxRecDepth 20000 in
theorem gL_law_X10_meet : GoodIn wsL_law (wsV RL 95 RX10 yX10_meet wsX10_meet) := goodIn_app (goodIn_of _ (by decide +kernel)) ggL_law_X10_meet
set_option maxRecDepth 20000 in
theorem ggL_law_X11_meet : GoodIn wsL_law wsX11_meet := goodIn_r _ [698, 394, 395, 396, 5, 397, 338, 172, 173, 174, 699, 700, 701, 702, 138, 139, 142, 402, 403, 404, 450, 451, 452, 922, 923, 924, 925, 926, 927, 928, 929, 930, 931, 932, 933, 934, 935, 936, 937, 938, 939, 940, 941, 942, 943, 944, 945, 946, 947, 948, 949, 950, 951, 952, 953, 954, 955, 956, 957] (by decide +kernel) (by decide +kernel)
set_option maxRecDepth 20000 in
theorem gL_law_X11_meet : GoodIn wsL_law (wsV RL 98 RX11 yX11_meet wsX11_meet) := goodIn_app (goodIn_of _ (by decide +kernel)) ggL_law_X11_meet
set_option maxRecDepth 20000 in
theorem ggL_law_X10_first : GoodIn wsL_law wsX10_first := goodIn_r _ [706, 48, 707, 47, 708, 709, 114, 710, 692, 693, 694, 115, 514, 2, 515, 494, 495, 439, 496, 660, 661, 662, 663, 664, 438, 440, 386, 387, 909, 910, 911, 912, 913, 914, 915, 916, 917, 918, 919, 920, 921, 1004, 1005, 1006, 960, 961, 962, 963, 964, 965, 966, 967, 968, 978, 979, 980, 981, 982, 983, 984, 985, 986, 987] (by decide +kernel) (by decide +kernel)
set_option maxRecDepth 20000 in
theorem gL_law_X10_first : GoodIn wsL_law (wsV RL 99 RX10 yX10_first wsX10_first) := goodIn_app (goodIn_of _ (by decide +kernel)) ggL_law_X10_first
set_option maxRecDepth 20000 in
theorem ggL_law_X11_first : GoodIn wsL_law wsX11_first := goodIn_r _ [714, 338, 699, 700, 701, 5, 702, 138, 139, 142, 402, 403, 404, 450, 451, 452, 922, 923, 924, 925, 926, 927, 928, 929, 930, 931, 932, 933, 934, 935, 936, 937, 938, 939, 940, 941, 942, 943, 944, 945, 946, 947, 948, 949, 950, 951, 952, 953, 954, 955, 956, 957] (by decide +kernel) (by decide +kernel)
set_option maxRecDepth 20000 in
theorem gL_law_X11_first : GoodIn wsL_law (wsV RL 102 RX11 yX11_first wsX11_first) := goodIn_app (goodIn_of _ (by decide +kernel)) ggL_law_X11_first
set_option maxRecDepth 20000 in
theorem ggL_law_X10_sing : GoodIn wsL_law wsX10_sing := goodIn_r _ [718, 29, 457, 458, 2, 459, 382, 163, 164, 909, 910, 911, 912, 913, 914, 915, 916, 917, 918, 919, 920, 921, 978, 979, 980, 981, 982, 983, 984, 985, 986, 987] (by decide +kernel) (by decide +kernel)
set_option maxRecDepth 20000 in
theorem gL_law_X10_sing : GoodIn wsL_law (wsV RL 103 RX10 yX10_sing wsX10_sing) := goodIn_app (goodIn_of _ (by decide +kernel)) ggL_law_X10_sing
set_option maxRecDepth 20000 in
theorem ggL_law_X11_sing : GoodIn wsL_law wsX11_sing := goodIn_r _ [722, 342, 151, 464, 465, 5, 466, 467, 468, 172, 173, 174, 922, 923, 924, 925, 926, 927, 928, 929, 930, 931, 932, 933, 934, 935, 936, 937, 938, 939, 940, 941, 942, 943, 944, 945, 946, 947, 948, 949, 950, 951, 952, 953, 954, 955, 956, 957] (by decide +kernel) (by decide +kernel)
set_option maxRecDepth 20000 in
theorem gL_law_X11_sing : GoodIn wsL_law (wsV RL 106 RX11 yX11_sing wsX11_sing) := goodIn_app (goodIn_of _ (by decide +kernel)) ggL_law_X11_sing
set_option maxRecDepth 20000 in
theorem ggL_law_X10_hush : GoodIn wsL_law wsX10_hush := goodIn_r _ [726, 29, 909, 910, 911, 912, 913, 914, 915, 916, 917, 918, 919, 920, 921, 978, 979, 980, 981, 982, 983, 984, 985, 986, 987] (by decide +kernel) (by decide +kernel)
set_option maxRecDepth 20000 in
theorem gL_law_X10_hush : GoodIn wsL_law (wsV RL 107 RX10 yX10_hush wsX10_hush) := goodIn_app (goodIn_of _ (by decide +kernel)) ggL_law_X10_hush
set_option maxRecDepth 20000 in
theorem ggL_law_X11_hush : GoodIn wsL_law wsX11_hush := goodIn_r _ [730, 342, 922, 923, 924, 925, 926, 927, 928, 929, 930, 931, 932, 933, 934, 935, 936, 937, 938, 939, 940, 941, 942, 943, 944, 945, 946, 947, 948, 949, 950, 951, 952, 953, 954, 955, 956, 957] (by decide +kernel) (by decide +kernel)
set_option maxRecDepth 20000 in
theorem gL_law_X11_hush : GoodIn wsL_law (wsV RL 110 RX11 yX11_hush wsX11_hush) := goodIn_app (goodIn_of _ (by decide +kernel)) ggL_law_X11_hush
set_option maxRecDepth 20000 in
theorem ggL_law_X10_climbing : GoodIn wsL_law wsX10_climbing := goodIn_r _ [734, 52, 735, 51, 736, 737, 120, 738, 739, 740, 741, 123, 121, 124, 434, 35, 435, 436, 90, 437, 438, 439, 440, 441, 383, 384, 385, 91, 386, 2, 387, 742, 743, 744, 745, 746, 747, 748, 749, 750, 751, 752, 753, 122, 754, 755, 756, 757, 758, 759, 760, 761, 762, 763, 764, 765, 766, 767, 768, 769, 579, 580, 770, 771, 772, 773, 774, 909, 910, 911, 912, 913, 914, 915, 916, 917, 918, 919, 920, 921, 1007, 1008, 1009, 1010, 1011, 978, 979, 980, 981, 982, 983, 984, 985, 986, 987, 988, 989, 960, 961, 962, 963, 964, 965, 966, 967, 968] (by decide +kernel) (by decide +kernel)
set_option maxRecDepth 20000 in
theorem gL_law_X10_climbing : GoodIn wsL_law (wsV RL 111 RX10 yX10_climbing wsX10_climbing) := goodIn_app (goodIn_of _ (by decide +kernel)) ggL_law_X10_climbing
set_option maxRecDepth 20000 in
theorem ggL_law_X11_climbing : GoodIn wsL_law wsX11_climbing := goodIn_r _ [778, 152, 779, 780, 781, 5, 782, 342, 151, 339, 446, 447, 448, 449, 338, 142, 398, 399, 400, 401, 138, 402, 403, 404, 450, 451, 452, 783, 784, 785, 786, 787, 788, 789, 790, 791, 792, 793, 794, 795, 796, 141, 922, 923, 924, 925, 926, 927, 928, 929, 930, 931, 932, 933, 934, 935, 936, 937, 938, 939, 940, 941, 942, 943, 944, 945, 946, 947, 948, 949, 950, 951, 952, 953, 954, 955, 956, 957] (by decide +kernel) (by decide +kernel)
set_option maxRecDepth 20000 in
theorem gL_law_X11_climbing : GoodIn wsL_law (wsV RL 114 RX11 yX11_climbing wsX11_climbing) := goodIn_app (goodIn_of _ (by decide +kernel)) ggL_law_X11_climbing
set_option maxRecDepth 20000 in
theorem ggL_law_X10_by : GoodIn wsL_law wsX10_by := goodIn_r _ [800, 29, 52, 382, 163, 2, 164, 801, 51, 802, 803, 804, 735, 736, 737, 120, 738, 739, 740, 741, 123, 121, 124, 434, 35, 435, 436, 90, 437, 438, 439, 440, 441, 383, 384, 385, 91, 386, 387, 742, 743, 744, 745, 746, 747, 748, 749, 750, 751, 752, 753, 122, 754, 755, 756, 757, 758, 759, 760, 761, 762, 763, 764, 765, 766, 767, 768, 769, 579, 580, 770, 771, 772, 773, 774, 805, 806, 807, 808, 909, 910, 911, 912, 913, 914, 915, 916, 917, 918, 919, 920, 921, 978, 979, 980, 981, 982, 983, 984, 985, 986, 987, 1007, 1008, 1009, 1010, 1011, 988, 989, 960, 961, 962, 963, 964, 965, 966, 967, 968] (by decide +kernel) (by decide +kernel)
set_option maxRecDepth 20000 in
theorem gL_law_X10_by : GoodIn wsL_law (wsV RL 115 RX10 yX10_by wsX10_by) := goodIn_app (goodIn_of _ (by decide +kernel)) ggL_law_X10_by
set_option maxRecDepth 20000 in
theorem ggL_law_X11_by : GoodIn wsL_law wsX11_by := goodIn_r _ [812, 342, 152, 151, 172, 173, 5, 174, 779, 780, 781, 782, 339, 446, 447, 448, 449, 338, 142, 398, 399, 400, 401, 138, 402, 403, 404, 450, 451, 452, 783, 784, 785, 786, 787, 788, 789, 790, 791, 792, 793, 794, 795, 796, 141, 922, 923, 924, 925, 926, 927, 928, 929, 930, 931, 932, 933, 934, 935, 936, 937, 938, 939, 940, 941, 942, 943, 944, 945, 946, 947, 948, 949, 950, 951, 952, 953, 954, 955, 956, 957] (by decide +kernel) (by decide +kernel)
set_option maxRecDepth 20000 in
theorem gL_law_X11_by : GoodIn wsL_law (wsV RL 118 RX11 yX11_by wsX11_by) := goodIn_app (goodIn_of _ (by decide +kernel)) ggL_law_X11_by
set_option maxRecDepth 20000 in
theorem ggL_law_X10_mark : GoodIn wsL_law wsX10_mark := goodIn_r _ [816, 56, 377, 378, 379, 380, 2, 381, 20, 382, 163, 164, 817, 55, 818, 819, 820, 821, 822, 823, 824, 825, 129, 826, 827, 828, 829, 830, 128, 831, 832, 833, 834, 835, 836, 837, 838, 839, 840, 841, 842, 843, 844, 845, 846, 847, 848, 849, 850, 851, 852, 853, 854, 909, 910, 911, 912, 913, 914, 915, 916, 917, 918, 919, 920, 921, 960, 961, 962, 963, 964, 965, 966, 967, 968, 1012, 1013, 1014, 978, 979, 980, 981, 982, 983, 984, 985, 986, 987] (by decide +kernel) (by decide +kernel)
set_option maxRecDepth 20000 in
theorem gL_law_X10_mark : GoodIn wsL_law (wsV RL 119 RX10 yX10_mark wsX10_mark) := goodIn_app (goodIn_of _ (by decide +kernel)) ggL_law_X10_mark
set_option maxRecDepth 20000 in
theorem ggL_law_X11_mark : GoodIn wsL_law wsX11_mark := goodIn_r _ [858, 859, 393, 860, 861, 862, 863, 864, 865, 339, 141, 138, 140, 142, 172, 173, 5, 174, 394, 395, 396, 397, 338, 922, 923, 924, 925, 926, 927, 928, 929, 930, 931, 932, 933, 934, 935, 936, 937, 938, 939, 940, 941, 942, 943, 944, 945, 946, 947, 948, 949, 950, 951, 952, 953, 954, 955, 956, 957] (by decide +kernel) (by decide +kernel)
set_option maxRecDepth 20000 in
theorem gL_law_X11_mark : GoodIn wsL_law (wsV RL 122 RX11 yX11_mark wsX11_mark) := goodIn_app (goodIn_of _ (by decide +kernel)) ggL_law_X11_mark
set_option maxRecDepth 20000 in
theorem ggL_law_X10_keep : GoodIn wsL_law wsX10_keep := goodIn_r _ [869, 30, 29, 32, 382, 163, 2, 164, 870, 28, 871, 872, 81, 323, 317, 318, 319, 82, 83, 84, 85, 324, 325, 86, 326, 327, 909, 910, 911, 912, 913, 914, 915, 916, 917, 918, 919, 920, 921, 978, 979, 980, 981, 982, 983, 984, 985, 986, 987] (by decide +kernel) (by decide +kernel)
set_option maxRecDepth 20000 in
theorem gL_law_X10_keep : GoodIn wsL_law (wsV RL 123 RX10 yX10_keep wsX10_keep) := goodIn_app (goodIn_of _ (by decide +kernel)) ggL_law_X10_keep
set_option maxRecDepth 20000 in
theorem ggL_law_X11_keep : GoodIn wsL_law wsX11_keep := goodIn_r _ [876, 153, 340, 142, 154, 341, 342, 138, 141, 143, 144, 151, 172, 173, 5, 174, 877, 878, 879, 880, 922, 923, 924, 925, 926, 927, 928, 929, 930, 931, 932, 933, 934, 935, 936, 937, 938, 939, 940, 941, 942, 943, 944, 945, 946, 947, 948, 949, 950, 951, 952, 953, 954, 955, 956, 957] (by decide +kernel) (by decide +kernel)
set_option maxRecDepth 20000 in
theorem gL_law_X11_keep : GoodIn wsL_law (wsV RL 126 RX11 yX11_keep wsX11_keep) := goodIn_app (goodIn_of _ (by decide +kernel)) ggL_law_X11_keep
set_option maxRecDepth 20000 in
theorem ggL_law_X10_back : GoodIn wsL_law wsX10_back := goodIn_r _ [884, 32, 29, 30, 382, 163, 2, 164, 870, 28, 871, 872, 81, 323, 317, 318, 319, 82, 83, 84, 85, 324, 325, 86, 326, 327, 909, 910, 911, 912, 913, 914, 915, 916, 917, 918, 919, 920, 921, 978, 979, 980, 981, 982, 983, 984, 985, 986, 987] (by decide +kernel) (by decide +kernel)
set_option maxRecDepth 20000 in
theorem gL_law_X10_back : GoodIn wsL_law (wsV RL 127 RX10 yX10_back wsX10_back) := goodIn_app (goodIn_of _ (by decide +kernel)) ggL_law_X10_back
set_option maxRecDepth 20000 in
theorem ggL_law_X11_back : GoodIn wsL_law wsX11_back := goodIn_r _ [888, 153, 340, 142, 154, 341, 342, 138, 141, 143, 144, 151, 172, 173, 5, 174, 889, 890, 891, 892, 922, 923, 924, 925, 926, 927, 928, 929, 930, 931, 932, 933, 934, 935, 936, 937, 938, 939, 940, 941, 942, 943, 944, 945, 946, 947, 948, 949, 950, 951, 952, 953, 954, 955, 956, 957] (by decide +kernel) (by decide +kernel)
set_option maxRecDepth 20000 in
theorem gL_law_X11_back : GoodIn wsL_law (wsV RL 130 RX11 yX11_back wsX11_back) := goodIn_app (goodIn_of _ (by decide +kernel)) ggL_law_X11_back
set_option maxRecDepth 20000 in
theorem ggL_law_X10_count : GoodIn wsL_law wsX10_count := goodIn_r _ [896, 20, 29, 16, 909, 910, 911, 912, 913, 914, 915, 916, 917, 918, 919, 920, 921, 960, 961, 962, 963, 964, 965, 966, 967, 968, 978, 979, 980, 981, 982, 983, 984, 985, 986, 987, 958, 959] (by decide +kernel) (by decide +kernel)
set_option maxRecDepth 20000 in
theorem gL_law_X10_count : GoodIn wsL_law (wsV RL 131 RX10 yX10_count wsX10_count) := goodIn_app (goodIn_of _ (by decide +kernel)) ggL_law_X10_count
set_option maxRecDepth 20000 in
theorem ggL_law_X11_count : GoodIn wsL_law wsX11_count := goodIn_r _ [900, 338, 339, 142, 341, 342, 340, 170, 922, 923, 924, 925, 926, 927, 928, 929, 930, 931, 932, 933, 934, 935, 936, 937, 938, 939, 940, 941, 942, 943, 944, 945, 946, 947, 948, 949, 950, 951, 952, 953, 954, 955, 956, 957] (by decide +kernel) (by decide +kernel)
set_option maxRecDepth 20000 in
theorem gL_law_X11_count : GoodIn wsL_law (wsV RL 134 RX11 yX11_count wsX11_count) := goodIn_app (goodIn_of _ (by decide +kernel)) ggL_law_X11_count
set_option maxRecDepth 20000 in
theorem ggL_law_X10_trace : GoodIn wsL_law wsX10_trace := goodIn_r _ [904, 56, 909, 910, 911, 912, 913, 914, 915, 916, 917, 918, 919, 920, 921, 1012, 1013, 1014] (by decide +kernel) (by decide +kernel)
set_option maxRecDepth 20000 in
theorem gL_law_X10_trace : GoodIn wsL_law (wsV RL 135 RX10 yX10_trace wsX10_trace) := goodIn_app (goodIn_of _ (by decide +kernel)) ggL_law_X10_trace
set_option maxRecDepth 20000 in
theorem ggL_law_X11_trace : GoodIn wsL_law wsX11_trace := goodIn_r _ [908, 860, 922, 923, 924, 925, 926, 927, 928, 929, 930, 931, 932, 933, 934, 935, 936, 937, 938, 939, 940, 941, 942, 943, 944, 945, 946, 947, 948, 949, 950, 951, 952, 953, 954, 955, 956, 957] (by decide +kernel) (by decide +kernel)
set_option maxRecDepth 20000 in
theorem gL_law_X11_trace : GoodIn wsL_law (wsV RL 139 RX11 yX11_trace wsX11_trace) := goodIn_app (goodIn_of _ (by decide +kernel)) ggL_law_X11_trace
