/-! ===== the law's calls, words ===== -/
set_option maxRecDepth 20000 in
theorem ggL_law_X10_init : GoodIn wsL_law wsX10_init := goodIn_r _ [9, 10, 11, 12, 13, 14, 15, 16, 17, 18, 19, 20, 21, 22, 23, 24, 25, 26, 27, 28, 29, 30, 31, 32, 33, 34, 35, 36, 37, 38, 39, 40, 41, 42, 43, 44, 45, 46, 47, 48, 49, 50, 51, 52, 53, 54, 55, 56, 57, 58, 59, 60, 61, 62, 63, 64, 65, 66, 67, 68, 69, 70, 71, 72, 73, 74, 75, 76, 77, 78, 79, 80, 81, 82, 83, 84, 85, 86, 87, 88, 89, 90, 91, 92, 93, 94, 95, 96, 97, 98, 99, 100, 101, 102, 103, 104, 105, 106, 107, 108, 109, 110, 111, 112, 113, 114, 115, 116, 117, 118, 119, 120, 121, 122, 123, 124, 125, 126, 127, 128, 129, 958, 959, 909, 910, 911, 912, 913, 914, 915, 916, 917, 918, 919, 920, 921, 960, 961, 962, 963, 964, 965, 966, 967, 968, 969, 970, 971, 972, 973, 974, 975, 976, 977, 978, 979, 980, 981, 982, 983, 984, 985, 986, 987, 988, 989, 990, 991, 992, 993, 994, 995, 996, 997, 998, 999, 1000, 1001, 1002, 1003, 1004, 1005, 1006, 1007, 1008, 1009, 1010, 1011, 1012, 1013, 1014] (by decide +kernel) (by decide +kernel)
set_option maxRecDepth 20000 in
theorem gL_law_X10_init : GoodIn wsL_law (wsX10_init) := ggL_law_X10_init
set_option maxRecDepth 20000 in
theorem ggL_law_X11_init : GoodIn wsL_law wsX11_init := goodIn_r _ [132, 133, 11, 12, 60, 134, 135, 136, 137, 138, 139, 140, 141, 142, 143, 144, 145, 146, 147, 148, 31, 149, 150, 151, 152, 153, 154, 922, 923, 924, 925, 926, 927, 928, 929, 930, 931, 932, 933, 934, 935, 936, 937, 938, 939, 940, 941, 942, 943, 944, 945, 946, 947, 948, 949, 950, 951, 952, 953, 954, 955, 956, 957] (by decide +kernel) (by decide +kernel)
set_option maxRecDepth 20000 in
theorem gL_law_X11_init : GoodIn wsL_law (wsX11_init) := ggL_law_X11_init
set_option maxRecDepth 20000 in
theorem ggL_law_X10_type : GoodIn wsL_law wsX10_type := goodIn_r _ [158, 16, 159, 15, 160, 161, 162, 61, 163, 2, 164, 909, 910, 911, 912, 913, 914, 915, 916, 917, 918, 919, 920, 921, 958, 959] (by decide +kernel) (by decide +kernel)
set_option maxRecDepth 20000 in
theorem gL_law_X10_type : GoodIn wsL_law (wsV RL 15 RX10 yX10_type wsX10_type) := goodIn_app (goodIn_of _ (by decide +kernel)) ggL_law_X10_type
set_option maxRecDepth 20000 in
theorem ggL_law_X11_type : GoodIn wsL_law wsX11_type := goodIn_r _ [168, 169, 170, 134, 171, 172, 173, 5, 174, 922, 923, 924, 925, 926, 927, 928, 929, 930, 931, 932, 933, 934, 935, 936, 937, 938, 939, 940, 941, 942, 943, 944, 945, 946, 947, 948, 949, 950, 951, 952, 953, 954, 955, 956, 957] (by decide +kernel) (by decide +kernel)
set_option maxRecDepth 20000 in
theorem gL_law_X11_type : GoodIn wsL_law (wsV RL 19 RX11 yX11_type wsX11_type) := goodIn_app (goodIn_of _ (by decide +kernel)) ggL_law_X11_type
set_option maxRecDepth 20000 in
theorem ggL_law_X10_clear : GoodIn wsL_law wsX10_clear := goodIn_r _ [178, 16, 179, 15, 180, 181, 162, 909, 910, 911, 912, 913, 914, 915, 916, 917, 918, 919, 920, 921, 958, 959] (by decide +kernel) (by decide +kernel)
set_option maxRecDepth 20000 in
theorem gL_law_X10_clear : GoodIn wsL_law (wsV RL 20 RX10 yX10_clear wsX10_clear) := goodIn_app (goodIn_of _ (by decide +kernel)) ggL_law_X10_clear
set_option maxRecDepth 20000 in
theorem ggL_law_X11_clear : GoodIn wsL_law wsX11_clear := goodIn_r _ [185, 170, 922, 923, 924, 925, 926, 927, 928, 929, 930, 931, 932, 933, 934, 935, 936, 937, 938, 939, 940, 941, 942, 943, 944, 945, 946, 947, 948, 949, 950, 951, 952, 953, 954, 955, 956, 957] (by decide +kernel) (by decide +kernel)
set_option maxRecDepth 20000 in
theorem gL_law_X11_clear : GoodIn wsL_law (wsV RL 24 RX11 yX11_clear wsX11_clear) := goodIn_app (goodIn_of _ (by decide +kernel)) ggL_law_X11_clear
set_option maxRecDepth 20000 in
theorem ggL_law_X10_shaft : GoodIn wsL_law wsX10_shaft := goodIn_r _ [189, 25, 20, 21, 29, 32, 16, 190, 24, 191, 192, 77, 193, 194, 195, 196, 73, 74, 197, 198, 199, 200, 76, 201, 202, 203, 204, 75, 163, 2, 164, 205, 206, 207, 208, 209, 210, 211, 212, 213, 214, 215, 216, 217, 218, 219, 220, 221, 222, 223, 224, 225, 226, 227, 228, 229, 230, 231, 232, 233, 234, 235, 236, 237, 238, 239, 240, 241, 242, 243, 244, 245, 246, 247, 248, 249, 250, 251, 252, 253, 254, 255, 256, 257, 258, 259, 260, 261, 262, 263, 264, 265, 266, 267, 268, 269, 270, 19, 271, 272, 273, 274, 275, 276, 69, 277, 278, 279, 280, 281, 282, 283, 284, 285, 286, 287, 288, 289, 290, 291, 292, 293, 294, 295, 296, 297, 298, 299, 300, 301, 302, 303, 304, 305, 306, 307, 308, 309, 310, 311, 312, 313, 314, 315, 65, 316, 317, 318, 319, 66, 67, 68, 320, 28, 321, 322, 81, 323, 82, 324, 325, 86, 326, 327, 179, 15, 180, 181, 162, 909, 910, 911, 912, 913, 914, 915, 916, 917, 918, 919, 920, 921, 969, 970, 971, 972, 973, 974, 975, 976, 977, 958, 959, 960, 961, 962, 963, 964, 965, 966, 967, 968, 978, 979, 980, 981, 982, 983, 984, 985, 986, 987] (by decide +kernel) (by decide +kernel)
set_option maxRecDepth 20000 in
theorem gL_law_X10_shaft : GoodIn wsL_law (wsV RL 25 RX10 yX10_shaft wsX10_shaft) := goodIn_app (goodIn_of _ (by decide +kernel)) ggL_law_X10_shaft
set_option maxRecDepth 20000 in
theorem ggL_law_X11_shaft : GoodIn wsL_law wsX11_shaft := goodIn_r _ [331, 332, 333, 334, 335, 137, 336, 337, 338, 339, 138, 135, 139, 140, 141, 136, 142, 340, 154, 341, 342, 153, 170, 343, 344, 345, 5, 346, 134, 347, 348, 349, 350, 351, 352, 353, 354, 355, 356, 357, 358, 359, 172, 173, 174, 360, 361, 362, 363, 364, 365, 366, 367, 368, 369, 370, 371, 372, 922, 923, 924, 925, 926, 927, 928, 929, 930, 931, 932, 933, 934, 935, 936, 937, 938, 939, 940, 941, 942, 943, 944, 945, 946, 947, 948, 949, 950, 951, 952, 953, 954, 955, 956, 957] (by decide +kernel) (by decide +kernel)
set_option maxRecDepth 20000 in
theorem gL_law_X11_shaft : GoodIn wsL_law (wsV RL 28 RX11 yX11_shaft wsX11_shaft) := goodIn_app (goodIn_of _ (by decide +kernel)) ggL_law_X11_shaft
set_option maxRecDepth 20000 in
theorem ggL_law_X10_level : GoodIn wsL_law wsX10_level := goodIn_r _ [376, 377, 29, 20, 36, 378, 379, 380, 2, 381, 382, 163, 164, 383, 35, 384, 385, 91, 386, 387, 909, 910, 911, 912, 913, 914, 915, 916, 917, 918, 919, 920, 921, 978, 979, 980, 981, 982, 983, 984, 985, 986, 987, 960, 961, 962, 963, 964, 965, 966, 967, 968, 988, 989] (by decide +kernel) (by decide +kernel)
set_option maxRecDepth 20000 in
theorem gL_law_X10_level : GoodIn wsL_law (wsV RL 29 RX10 yX10_level wsX10_level) := goodIn_app (goodIn_of _ (by decide +kernel)) ggL_law_X10_level
set_option maxRecDepth 20000 in
theorem ggL_law_X11_level : GoodIn wsL_law wsX11_level := goodIn_r _ [391, 392, 393, 138, 139, 140, 394, 395, 396, 5, 397, 338, 172, 173, 174, 398, 399, 400, 401, 142, 402, 403, 404, 922, 923, 924, 925, 926, 927, 928, 929, 930, 931, 932, 933, 934, 935, 936, 937, 938, 939, 940, 941, 942, 943, 944, 945, 946, 947, 948, 949, 950, 951, 952, 953, 954, 955, 956, 957] (by decide +kernel) (by decide +kernel)
set_option maxRecDepth 20000 in
theorem gL_law_X11_level : GoodIn wsL_law (wsV RL 33 RX11 yX11_level wsX11_level) := goodIn_app (goodIn_of _ (by decide +kernel)) ggL_law_X11_level
set_option maxRecDepth 20000 in
theorem ggL_law_X10_man : GoodIn wsL_law wsX10_man := goodIn_r _ [408, 29, 409, 410, 411, 2, 412, 20, 382, 163, 164, 909, 910, 911, 912, 913, 914, 915, 916, 917, 918, 919, 920, 921, 978, 979, 980, 981, 982, 983, 984, 985, 986, 987, 960, 961, 962, 963, 964, 965, 966, 967, 968] (by decide +kernel) (by decide +kernel)
set_option maxRecDepth 20000 in
theorem gL_law_X10_man : GoodIn wsL_law (wsV RL 34 RX10 yX10_man wsX10_man) := goodIn_app (goodIn_of _ (by decide +kernel)) ggL_law_X10_man
set_option maxRecDepth 20000 in
theorem ggL_law_X11_man : GoodIn wsL_law wsX11_man := goodIn_r _ [416, 141, 417, 418, 419, 5, 420, 339, 172, 173, 174, 922, 923, 924, 925, 926, 927, 928, 929, 930, 931, 932, 933, 934, 935, 936, 937, 938, 939, 940, 941, 942, 943, 944, 945, 946, 947, 948, 949, 950, 951, 952, 953, 954, 955, 956, 957] (by decide +kernel) (by decide +kernel)
set_option maxRecDepth 20000 in
theorem gL_law_X11_man : GoodIn wsL_law (wsV RL 38 RX11 yX11_man wsX11_man) := goodIn_app (goodIn_of _ (by decide +kernel)) ggL_law_X11_man
set_option maxRecDepth 20000 in
theorem ggL_law_X10_wet : GoodIn wsL_law wsX10_wet := goodIn_r _ [424, 29, 382, 163, 2, 164, 909, 910, 911, 912, 913, 914, 915, 916, 917, 918, 919, 920, 921, 978, 979, 980, 981, 982, 983, 984, 985, 986, 987] (by decide +kernel) (by decide +kernel)
set_option maxRecDepth 20000 in
theorem gL_law_X10_wet : GoodIn wsL_law (wsV RL 39 RX10 yX10_wet wsX10_wet) := goodIn_app (goodIn_of _ (by decide +kernel)) ggL_law_X10_wet
set_option maxRecDepth 20000 in
theorem ggL_law_X11_wet : GoodIn wsL_law wsX11_wet := goodIn_r _ [428, 429, 142, 172, 173, 5, 174, 922, 923, 924, 925, 926, 927, 928, 929, 930, 931, 932, 933, 934, 935, 936, 937, 938, 939, 940, 941, 942, 943, 944, 945, 946, 947, 948, 949, 950, 951, 952, 953, 954, 955, 956, 957] (by decide +kernel) (by decide +kernel)
set_option maxRecDepth 20000 in
theorem gL_law_X11_wet : GoodIn wsL_law (wsV RL 42 RX11 yX11_wet wsX11_wet) := goodIn_app (goodIn_of _ (by decide +kernel)) ggL_law_X11_wet
set_option maxRecDepth 20000 in
theorem ggL_law_X10_taken : GoodIn wsL_law wsX10_taken := goodIn_r _ [433, 36, 378, 379, 380, 2, 381, 20, 382, 163, 164, 383, 35, 384, 385, 91, 386, 387, 434, 435, 436, 90, 437, 438, 439, 440, 441, 909, 910, 911, 912, 913, 914, 915, 916, 917, 918, 919, 920, 921, 960, 961, 962, 963, 964, 965, 966, 967, 968, 988, 989, 978, 979, 980, 981, 982, 983, 984, 985, 986, 987] (by decide +kernel) (by decide +kernel)
set_option maxRecDepth 20000 in
theorem gL_law_X10_taken : GoodIn wsL_law (wsV RL 43 RX10 yX10_taken wsX10_taken) := goodIn_app (goodIn_of _ (by decide +kernel)) ggL_law_X10_taken
set_option maxRecDepth 20000 in
theorem ggL_law_X11_taken : GoodIn wsL_law wsX11_taken := goodIn_r _ [445, 394, 395, 396, 5, 397, 338, 172, 173, 174, 398, 399, 400, 401, 138, 142, 402, 403, 404, 446, 447, 448, 449, 450, 451, 452, 922, 923, 924, 925, 926, 927, 928, 929, 930, 931, 932, 933, 934, 935, 936, 937, 938, 939, 940, 941, 942, 943, 944, 945, 946, 947, 948, 949, 950, 951, 952, 953, 954, 955, 956, 957] (by decide +kernel) (by decide +kernel)
set_option maxRecDepth 20000 in
theorem gL_law_X11_taken : GoodIn wsL_law (wsV RL 46 RX11 yX11_taken wsX11_taken) := goodIn_app (goodIn_of _ (by decide +kernel)) ggL_law_X11_taken
set_option maxRecDepth 20000 in
theorem ggL_law_X10_comes : GoodIn wsL_law wsX10_comes := goodIn_r _ [456, 36, 457, 458, 2, 459, 382, 163, 164, 434, 35, 435, 436, 90, 437, 438, 439, 440, 441, 383, 384, 385, 91, 386, 387, 909, 910, 911, 912, 913, 914, 915, 916, 917, 918, 919, 920, 921, 988, 989, 960, 961, 962, 963, 964, 965, 966, 967, 968, 978, 979, 980, 981, 982, 983, 984, 985, 986, 987] (by decide +kernel) (by decide +kernel)
set_option maxRecDepth 20000 in
theorem gL_law_X10_comes : GoodIn wsL_law (wsV RL 47 RX10 yX10_comes wsX10_comes) := goodIn_app (goodIn_of _ (by decide +kernel)) ggL_law_X10_comes
set_option maxRecDepth 20000 in
theorem ggL_law_X11_comes : GoodIn wsL_law wsX11_comes := goodIn_r _ [463, 464, 465, 5, 466, 467, 468, 172, 173, 174, 446, 447, 448, 449, 338, 142, 398, 399, 400, 401, 138, 402, 403, 404, 450, 451, 452, 922, 923, 924, 925, 926, 927, 928, 929, 930, 931, 932, 933, 934, 935, 936, 937, 938, 939, 940, 941, 942, 943, 944, 945, 946, 947, 948, 949, 950, 951, 952, 953, 954, 955, 956, 957] (by decide +kernel) (by decide +kernel)
set_option maxRecDepth 20000 in
theorem gL_law_X11_comes : GoodIn wsL_law (wsV RL 50 RX11 yX11_comes wsX11_comes) := goodIn_app (goodIn_of _ (by decide +kernel)) ggL_law_X11_comes
set_option maxRecDepth 20000 in
theorem ggL_law_X10_climbs : GoodIn wsL_law wsX10_climbs := goodIn_r _ [472, 29, 473, 438, 439, 440, 409, 410, 411, 2, 412, 20, 382, 163, 164, 378, 379, 380, 381, 909, 910, 911, 912, 913, 914, 915, 916, 917, 918, 919, 920, 921, 978, 979, 980, 981, 982, 983, 984, 985, 986, 987, 960, 961, 962, 963, 964, 965, 966, 967, 968] (by decide +kernel) (by decide +kernel)
set_option maxRecDepth 20000 in
theorem gL_law_X10_climbs : GoodIn wsL_law (wsV RL 51 RX10 yX10_climbs wsX10_climbs) := goodIn_app (goodIn_of _ (by decide +kernel)) ggL_law_X10_climbs
set_option maxRecDepth 20000 in
theorem ggL_law_X11_climbs : GoodIn wsL_law wsX11_climbs := goodIn_r _ [477, 141, 417, 418, 419, 5, 420, 339, 172, 173, 174, 394, 395, 396, 397, 338, 450, 451, 452, 922, 923, 924, 925, 926, 927, 928, 929, 930, 931, 932, 933, 934, 935, 936, 937, 938, 939, 940, 941, 942, 943, 944, 945, 946, 947, 948, 949, 950, 951, 952, 953, 954, 955, 956, 957] (by decide +kernel) (by decide +kernel)
set_option maxRecDepth 20000 in
theorem gL_law_X11_climbs : GoodIn wsL_law (wsV RL 54 RX11 yX11_climbs wsX11_climbs) := goodIn_app (goodIn_of _ (by decide +kernel)) ggL_law_X11_climbs
set_option maxRecDepth 20000 in
theorem ggL_law_X10_plucks : GoodIn wsL_law wsX10_plucks := goodIn_r _ [481, 29, 377, 36, 409, 410, 411, 2, 412, 20, 382, 163, 164, 383, 35, 384, 385, 91, 386, 387, 909, 910, 911, 912, 913, 914, 915, 916, 917, 918, 919, 920, 921, 978, 979, 980, 981, 982, 983, 984, 985, 986, 987, 960, 961, 962, 963, 964, 965, 966, 967, 968, 988, 989] (by decide +kernel) (by decide +kernel)
set_option maxRecDepth 20000 in
theorem gL_law_X10_plucks : GoodIn wsL_law (wsV RL 55 RX10 yX10_plucks wsX10_plucks) := goodIn_app (goodIn_of _ (by decide +kernel)) ggL_law_X10_plucks
set_option maxRecDepth 20000 in
theorem ggL_law_X11_plucks : GoodIn wsL_law wsX11_plucks := goodIn_r _ [485, 141, 154, 393, 417, 418, 419, 5, 420, 339, 172, 173, 174, 398, 399, 400, 401, 138, 142, 402, 403, 404, 922, 923, 924, 925, 926, 927, 928, 929, 930, 931, 932, 933, 934, 935, 936, 937, 938, 939, 940, 941, 942, 943, 944, 945, 946, 947, 948, 949, 950, 951, 952, 953, 954, 955, 956, 957] (by decide +kernel) (by decide +kernel)
set_option maxRecDepth 20000 in
theorem gL_law_X11_plucks : GoodIn wsL_law (wsV RL 58 RX11 yX11_plucks wsX11_plucks) := goodIn_app (goodIn_of _ (by decide +kernel)) ggL_law_X11_plucks
set_option maxRecDepth 20000 in
theorem ggL_law_X10_falls : GoodIn wsL_law wsX10_falls := goodIn_r _ [489, 29, 378, 379, 380, 2, 381, 20, 382, 163, 164, 490, 491, 492, 493, 494, 495, 439, 496, 909, 910, 911, 912, 913, 914, 915, 916, 917, 918, 919, 920, 921, 978, 979, 980, 981, 982, 983, 984, 985, 986, 987, 960, 961, 962, 963, 964, 965, 966, 967, 968] (by decide +kernel) (by decide +kernel)
set_option maxRecDepth 20000 in
theorem gL_law_X10_falls : GoodIn wsL_law (wsV RL 59 RX10 yX10_falls wsX10_falls) := goodIn_app (goodIn_of _ (by decide +kernel)) ggL_law_X10_falls
set_option maxRecDepth 20000 in
theorem ggL_law_X11_falls : GoodIn wsL_law wsX11_falls := goodIn_r _ [500, 154, 338, 394, 395, 396, 5, 397, 172, 173, 174, 922, 923, 924, 925, 926, 927, 928, 929, 930, 931, 932, 933, 934, 935, 936, 937, 938, 939, 940, 941, 942, 943, 944, 945, 946, 947, 948, 949, 950, 951, 952, 953, 954, 955, 956, 957] (by decide +kernel) (by decide +kernel)
set_option maxRecDepth 20000 in
theorem gL_law_X11_falls : GoodIn wsL_law (wsV RL 62 RX11 yX11_falls wsX11_falls) := goodIn_app (goodIn_of _ (by decide +kernel)) ggL_law_X11_falls
set_option maxRecDepth 20000 in
theorem ggL_law_X10_mends : GoodIn wsL_law wsX10_mends := goodIn_r _ [504, 29, 490, 491, 492, 2, 493, 20, 494, 495, 439, 496, 909, 910, 911, 912, 913, 914, 915, 916, 917, 918, 919, 920, 921, 978, 979, 980, 981, 982, 983, 984, 985, 986, 987, 960, 961, 962, 963, 964, 965, 966, 967, 968] (by decide +kernel) (by decide +kernel)
set_option maxRecDepth 20000 in
theorem gL_law_X10_mends : GoodIn wsL_law (wsV RL 63 RX10 yX10_mends wsX10_mends) := goodIn_app (goodIn_of _ (by decide +kernel)) ggL_law_X10_mends
set_option maxRecDepth 20000 in
theorem ggL_law_X11_mends : GoodIn wsL_law wsX11_mends := goodIn_r _ [508, 154, 338, 922, 923, 924, 925, 926, 927, 928, 929, 930, 931, 932, 933, 934, 935, 936, 937, 938, 939, 940, 941, 942, 943, 944, 945, 946, 947, 948, 949, 950, 951, 952, 953, 954, 955, 956, 957] (by decide +kernel) (by decide +kernel)
set_option maxRecDepth 20000 in
theorem gL_law_X11_mends : GoodIn wsL_law (wsV RL 66 RX11 yX11_mends wsX11_mends) := goodIn_app (goodIn_of _ (by decide +kernel)) ggL_law_X11_mends
set_option maxRecDepth 20000 in
theorem ggL_law_X10_year : GoodIn wsL_law wsX10_year := goodIn_r _ [512, 29, 20, 513, 514, 2, 515, 494, 495, 439, 496, 909, 910, 911, 912, 913, 914, 915, 916, 917, 918, 919, 920, 921, 978, 979, 980, 981, 982, 983, 984, 985, 986, 987, 960, 961, 962, 963, 964, 965, 966, 967, 968] (by decide +kernel) (by decide +kernel)
set_option maxRecDepth 20000 in
theorem gL_law_X10_year : GoodIn wsL_law (wsV RL 67 RX10 yX10_year wsX10_year) := goodIn_app (goodIn_of _ (by decide +kernel)) ggL_law_X10_year
set_option maxRecDepth 20000 in
theorem ggL_law_X11_year : GoodIn wsL_law wsX11_year := goodIn_r _ [519, 340, 338, 138, 139, 922, 923, 924, 925, 926, 927, 928, 929, 930, 931, 932, 933, 934, 935, 936, 937, 938, 939, 940, 941, 942, 943, 944, 945, 946, 947, 948, 949, 950, 951, 952, 953, 954, 955, 956, 957] (by decide +kernel) (by decide +kernel)
set_option maxRecDepth 20000 in
theorem gL_law_X11_year : GoodIn wsL_law (wsV RL 70 RX11 yX11_year wsX11_year) := goodIn_app (goodIn_of _ (by decide +kernel)) ggL_law_X11_year
set_option maxRecDepth 20000 in
theorem ggL_law_X10_heard : GoodIn wsL_law wsX10_heard := goodIn_r _ [523, 29, 382, 163, 2, 164, 457, 458, 459, 909, 910, 911, 912, 913, 914, 915, 916, 917, 918, 919, 920, 921, 978, 979, 980, 981, 982, 983, 984, 985, 986, 987] (by decide +kernel) (by decide +kernel)
set_option maxRecDepth 20000 in
theorem gL_law_X10_heard : GoodIn wsL_law (wsV RL 71 RX10 yX10_heard wsX10_heard) := goodIn_app (goodIn_of _ (by decide +kernel)) ggL_law_X10_heard
set_option maxRecDepth 20000 in
theorem ggL_law_X11_heard : GoodIn wsL_law wsX11_heard := goodIn_r _ [527, 468, 341, 143, 144, 172, 173, 5, 174, 464, 465, 466, 467, 922, 923, 924, 925, 926, 927, 928, 929, 930, 931, 932, 933, 934, 935, 936, 937, 938, 939, 940, 941, 942, 943, 944, 945, 946, 947, 948, 949, 950, 951, 952, 953, 954, 955, 956, 957] (by decide +kernel) (by decide +kernel)
set_option maxRecDepth 20000 in
theorem gL_law_X11_heard : GoodIn wsL_law (wsV RL 74 RX11 yX11_heard wsX11_heard) := goodIn_app (goodIn_of _ (by decide +kernel)) ggL_law_X11_heard
set_option maxRecDepth 20000 in
theorem ggL_law_X10_forget : GoodIn wsL_law wsX10_forget := goodIn_r _ [531, 29, 909, 910, 911, 912, 913, 914, 915, 916, 917, 918, 919, 920, 921, 978, 979, 980, 981, 982, 983, 984, 985, 986, 987] (by decide +kernel) (by decide +kernel)
set_option maxRecDepth 20000 in
theorem gL_law_X10_forget : GoodIn wsL_law (wsV RL 75 RX10 yX10_forget wsX10_forget) := goodIn_app (goodIn_of _ (by decide +kernel)) ggL_law_X10_forget
