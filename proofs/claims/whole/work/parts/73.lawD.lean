theorem inlX0 : ∀ w ∈ wsX00, w ∈ wsL_law := fun _ h => List.mem_append_left _ (List.mem_append_left _ (List.mem_append_left _ (List.mem_append_left _ (List.mem_append_left _ (List.mem_append_right _ h)))))
theorem inX0 : ∀ w ∈ wsX00, w ∈ lw_tbl := fun w h => wsL_law_in w (inlX0 w h)
theorem inlX1 : ∀ w ∈ wsX10, w ∈ wsL_law := fun _ h => List.mem_append_left _ (List.mem_append_left _ (List.mem_append_left _ (List.mem_append_right _ h)))
theorem inX1 : ∀ w ∈ wsX10, w ∈ lw_tbl := fun w h => wsL_law_in w (inlX1 w h)
theorem inlX2 : ∀ w ∈ wsX20, w ∈ wsL_law := fun _ h => List.mem_append_left _ (List.mem_append_left _ (List.mem_append_right _ h))
theorem inX2 : ∀ w ∈ wsX20, w ∈ lw_tbl := fun w h => wsL_law_in w (inlX2 w h)
theorem inlX3 : ∀ w ∈ wsX30, w ∈ wsL_law := fun _ h => List.mem_append_left _ (List.mem_append_left _ (List.mem_append_left _ (List.mem_append_left _ (List.mem_append_left _ (List.mem_append_left _ (List.mem_append_left _ (List.mem_append_right _ h)))))))
theorem inX3 : ∀ w ∈ wsX30, w ∈ lw_tbl := fun w h => wsL_law_in w (inlX3 w h)
theorem inlX4 : ∀ w ∈ wsX40, w ∈ wsL_law := fun _ h => List.mem_append_left _ (List.mem_append_left _ (List.mem_append_left _ (List.mem_append_left _ (List.mem_append_right _ h))))
theorem inX4 : ∀ w ∈ wsX40, w ∈ lw_tbl := fun w h => wsL_law_in w (inlX4 w h)
theorem inlX5 : ∀ w ∈ wsX50, w ∈ wsL_law := fun _ h => List.mem_append_left _ (List.mem_append_right _ h)
theorem inX5 : ∀ w ∈ wsX50, w ∈ lw_tbl := fun w h => wsL_law_in w (inlX5 w h)
theorem inlX6 : ∀ w ∈ wsX60, w ∈ wsL_law := fun _ h => List.mem_append_left _ (List.mem_append_left _ (List.mem_append_left _ (List.mem_append_left _ (List.mem_append_left _ (List.mem_append_left _ (List.mem_append_right _ h))))))
theorem inX6 : ∀ w ∈ wsX60, w ∈ lw_tbl := fun w h => wsL_law_in w (inlX6 w h)
theorem inlX7 : ∀ w ∈ wsX70, w ∈ wsL_law := fun _ h => List.mem_append_left _ (List.mem_append_left _ (List.mem_append_left _ (List.mem_append_left _ (List.mem_append_left _ (List.mem_append_left _ (List.mem_append_left _ (List.mem_append_left _ (List.mem_append_left _ (List.mem_append_right _ h)))))))))
theorem inX7 : ∀ w ∈ wsX70, w ∈ lw_tbl := fun w h => wsL_law_in w (inlX7 w h)
theorem inlX8 : ∀ w ∈ wsX80, w ∈ wsL_law := fun _ h => List.mem_append_left _ (List.mem_append_left _ (List.mem_append_left _ (List.mem_append_left _ (List.mem_append_left _ (List.mem_append_left _ (List.mem_append_left _ (List.mem_append_left _ (List.mem_append_right _ h))))))))
theorem inX8 : ∀ w ∈ wsX80, w ∈ lw_tbl := fun w h => wsL_law_in w (inlX8 w h)
theorem inJ6 : ∀ w ∈ wsJ60, w ∈ lw_tbl := by decide +kernel
theorem inJ9 : ∀ w ∈ wsJ90, w ∈ lw_tbl := by decide +kernel
theorem inJ10 : ∀ w ∈ wsJ100, w ∈ lw_tbl := by decide +kernel
theorem inJ7 : ∀ w ∈ wsJ70, w ∈ lw_tbl := by decide +kernel
set_option maxRecDepth 20000 in
theorem ggL_law_X7_init : GoodIn wsL_law wsX7_init := goodIn_r _ [8, 9, 10, 11, 12, 13, 14, 15, 16, 17, 18, 19, 20, 21, 22, 23, 24, 25, 26, 27, 28, 29, 30, 31, 32, 33, 34, 35, 36, 37, 38, 39, 40, 41, 42, 43, 44, 45, 46, 47, 48, 49, 50, 51, 52, 53, 54, 55, 56, 57, 58, 59, 60, 61, 62, 63, 64, 65, 66, 67, 68, 69, 70, 71, 72, 73, 74, 75, 76, 77, 78, 79, 80, 81, 82, 83, 84, 85, 86, 87, 88, 89, 90, 91, 92, 93, 94, 95, 96, 97, 98, 99, 100, 101, 102, 103, 104, 105, 106, 107, 945, 946, 947, 948, 949, 950, 951, 952, 953, 954, 955, 989, 990, 991, 992, 993, 994, 995, 996, 997, 998, 999, 1000, 1001, 1002, 1003, 1004, 1005, 1006, 1007, 1008, 1009, 1010, 1011, 1012, 1013, 1014, 1015, 1016, 1017, 1018, 1019, 1020, 1021, 1022, 1023, 1024, 1025] (by decide +kernel) (by decide +kernel)
set_option maxRecDepth 20000 in
theorem gL_law_X7_init : GoodIn wsL_law (wsX7_init) := ggL_law_X7_init
set_option maxRecDepth 20000 in
theorem ggL_law_X8_init : GoodIn wsL_law wsX8_init := goodIn_r _ [110, 111, 10, 11, 47, 112, 113, 114, 115, 116, 117, 118, 119, 120, 121, 122, 123, 124, 956, 957, 958, 959, 960, 961, 962, 963, 964, 965, 966, 967, 968, 969, 970, 971, 972, 973, 974, 975, 976, 977, 978, 979, 980, 981, 982, 983, 984, 985, 986, 987, 988] (by decide +kernel) (by decide +kernel)
set_option maxRecDepth 20000 in
theorem gL_law_X8_init : GoodIn wsL_law (wsX8_init) := ggL_law_X8_init
set_option maxRecDepth 20000 in
theorem ggL_law_X7_row : GoodIn wsL_law wsX7_row := goodIn_r _ [128, 129, 13, 41, 130, 131, 2, 132, 133, 134, 135, 136, 137, 138, 139, 140, 43, 141, 106, 107, 105, 142, 143, 144, 145, 945, 946, 947, 948, 949, 950, 951, 952, 953, 954, 955, 1023, 1024, 1025] (by decide +kernel) (by decide +kernel)
set_option maxRecDepth 20000 in
theorem gL_law_X7_row : GoodIn wsL_law (wsV RL 13 RX7 yX7_row wsX7_row) := goodIn_app (goodIn_of _ (by decide +kernel)) ggL_law_X7_row
set_option maxRecDepth 20000 in
theorem ggL_law_X8_row : GoodIn wsL_law wsX8_row := goodIn_r _ [149, 150, 151, 112, 113, 114, 152, 153, 5, 154, 155, 156, 157, 158, 159, 160, 161, 162, 163, 164, 165, 166, 167, 168, 956, 957, 958, 959, 960, 961, 962, 963, 964, 965, 966, 967, 968, 969, 970, 971, 972, 973, 974, 975, 976, 977, 978, 979, 980, 981, 982, 983, 984, 985, 986, 987, 988] (by decide +kernel) (by decide +kernel)
set_option maxRecDepth 20000 in
theorem gL_law_X8_row : GoodIn wsL_law (wsV RL 17 RX8 yX8_row wsX8_row) := goodIn_app (goodIn_of _ (by decide +kernel)) ggL_law_X8_row
set_option maxRecDepth 20000 in
theorem ggL_law_X7_set : GoodIn wsL_law wsX7_set := goodIn_r _ [172, 129, 13, 41, 130, 131, 2, 132, 173, 174, 175, 43, 176, 107, 177, 178, 179, 180, 106, 133, 134, 135, 136, 137, 181, 182, 183, 184, 105, 945, 946, 947, 948, 949, 950, 951, 952, 953, 954, 955, 1023, 1024, 1025] (by decide +kernel) (by decide +kernel)
set_option maxRecDepth 20000 in
theorem gL_law_X7_set : GoodIn wsL_law (wsV RL 18 RX7 yX7_set wsX7_set) := goodIn_app (goodIn_of _ (by decide +kernel)) ggL_law_X7_set
set_option maxRecDepth 20000 in
theorem ggL_law_X8_set : GoodIn wsL_law wsX8_set := goodIn_r _ [188, 151, 112, 113, 114, 152, 153, 5, 154, 155, 156, 157, 158, 159, 160, 161, 162, 163, 164, 165, 166, 167, 168, 956, 957, 958, 959, 960, 961, 962, 963, 964, 965, 966, 967, 968, 969, 970, 971, 972, 973, 974, 975, 976, 977, 978, 979, 980, 981, 982, 983, 984, 985, 986, 987, 988] (by decide +kernel) (by decide +kernel)
set_option maxRecDepth 20000 in
theorem gL_law_X8_set : GoodIn wsL_law (wsV RL 21 RX8 yX8_set wsX8_set) := goodIn_app (goodIn_of _ (by decide +kernel)) ggL_law_X8_set
set_option maxRecDepth 20000 in
theorem ggL_law_X7_copy : GoodIn wsL_law wsX7_copy := goodIn_r _ [192, 129, 13, 193, 194, 195, 196, 197, 198, 41, 130, 131, 2, 132, 199, 178, 179, 43, 180, 106, 133, 134, 135, 136, 137, 173, 174, 175, 176, 107, 177, 945, 946, 947, 948, 949, 950, 951, 952, 953, 954, 955, 1023, 1024, 1025] (by decide +kernel) (by decide +kernel)
set_option maxRecDepth 20000 in
theorem gL_law_X7_copy : GoodIn wsL_law (wsV RL 22 RX7 yX7_copy wsX7_copy) := goodIn_app (goodIn_of _ (by decide +kernel)) ggL_law_X7_copy
set_option maxRecDepth 20000 in
theorem ggL_law_X8_copy : GoodIn wsL_law wsX8_copy := goodIn_r _ [203, 151, 112, 115, 114, 152, 153, 5, 154, 155, 156, 157, 158, 159, 160, 161, 162, 163, 164, 204, 205, 206, 207, 113, 165, 166, 167, 168, 956, 957, 958, 959, 960, 961, 962, 963, 964, 965, 966, 967, 968, 969, 970, 971, 972, 973, 974, 975, 976, 977, 978, 979, 980, 981, 982, 983, 984, 985, 986, 987, 988] (by decide +kernel) (by decide +kernel)
set_option maxRecDepth 20000 in
theorem gL_law_X8_copy : GoodIn wsL_law (wsV RL 26 RX8 yX8_copy wsX8_copy) := goodIn_app (goodIn_of _ (by decide +kernel)) ggL_law_X8_copy
set_option maxRecDepth 20000 in
theorem ggL_law_X7_drop : GoodIn wsL_law wsX7_drop := goodIn_r _ [211, 129, 13, 212, 41, 130, 131, 2, 132, 199, 178, 179, 43, 180, 106, 133, 134, 135, 136, 137, 138, 139, 140, 141, 107, 105, 142, 143, 144, 145, 945, 946, 947, 948, 949, 950, 951, 952, 953, 954, 955, 1023, 1024, 1025] (by decide +kernel) (by decide +kernel)
set_option maxRecDepth 20000 in
theorem gL_law_X7_drop : GoodIn wsL_law (wsV RL 27 RX7 yX7_drop wsX7_drop) := goodIn_app (goodIn_of _ (by decide +kernel)) ggL_law_X7_drop
set_option maxRecDepth 20000 in
theorem ggL_law_X8_drop : GoodIn wsL_law wsX8_drop := goodIn_r _ [216, 151, 112, 113, 152, 153, 5, 154, 155, 156, 157, 158, 159, 160, 161, 162, 163, 164, 165, 166, 167, 168, 956, 957, 958, 959, 960, 961, 962, 963, 964, 965, 966, 967, 968, 969, 970, 971, 972, 973, 974, 975, 976, 977, 978, 979, 980, 981, 982, 983, 984, 985, 986, 987, 988] (by decide +kernel) (by decide +kernel)
set_option maxRecDepth 20000 in
theorem gL_law_X8_drop : GoodIn wsL_law (wsV RL 31 RX8 yX8_drop wsX8_drop) := goodIn_app (goodIn_of _ (by decide +kernel)) ggL_law_X8_drop
set_option maxRecDepth 20000 in
theorem ggL_law_X7_feed : GoodIn wsL_law wsX7_feed := goodIn_r _ [220, 129, 23, 221, 222, 130, 131, 2, 132, 223, 224, 225, 22, 226, 69, 68, 945, 946, 947, 948, 949, 950, 951, 952, 953, 954, 955, 998, 999, 1000, 1001] (by decide +kernel) (by decide +kernel)
set_option maxRecDepth 20000 in
theorem gL_law_X7_feed : GoodIn wsL_law (wsV RL 32 RX7 yX7_feed wsX7_feed) := goodIn_app (goodIn_of _ (by decide +kernel)) ggL_law_X7_feed
set_option maxRecDepth 20000 in
theorem ggL_law_X8_feed : GoodIn wsL_law wsX8_feed := goodIn_r _ [230, 231, 151, 232, 233, 118, 156, 157, 5, 158, 956, 957, 958, 959, 960, 961, 962, 963, 964, 965, 966, 967, 968, 969, 970, 971, 972, 973, 974, 975, 976, 977, 978, 979, 980, 981, 982, 983, 984, 985, 986, 987, 988] (by decide +kernel) (by decide +kernel)
set_option maxRecDepth 20000 in
theorem gL_law_X8_feed : GoodIn wsL_law (wsV RL 35 RX8 yX8_feed wsX8_feed) := goodIn_app (goodIn_of _ (by decide +kernel)) ggL_law_X8_feed
set_option maxRecDepth 20000 in
theorem ggL_law_X7_lane : GoodIn wsL_law wsX7_lane := goodIn_r _ [237, 23, 19, 238, 40, 239, 18, 27, 240, 241, 242, 243, 22, 244, 70, 71, 245, 246, 247, 248, 249, 250, 251, 252, 253, 254, 255, 256, 69, 68, 257, 258, 259, 260, 261, 262, 263, 264, 131, 2, 132, 265, 266, 267, 38, 268, 61, 62, 63, 64, 269, 270, 271, 272, 273, 274, 275, 276, 277, 278, 279, 280, 281, 282, 283, 284, 285, 286, 287, 288, 289, 290, 291, 292, 293, 294, 295, 296, 297, 298, 17, 299, 48, 300, 196, 197, 198, 49, 50, 52, 53, 54, 55, 56, 57, 301, 302, 303, 304, 305, 306, 307, 26, 308, 82, 945, 946, 947, 948, 949, 950, 951, 952, 953, 954, 955, 998, 999, 1000, 1001, 989, 990, 991, 992, 993, 994, 995, 996, 997, 1019, 1020, 1021, 1022, 1002, 1003, 1004, 1005, 1006, 1007] (by decide +kernel) (by decide +kernel)
set_option maxRecDepth 20000 in
theorem gL_law_X7_lane : GoodIn wsL_law (wsV RL 36 RX7 yX7_lane wsX7_lane) := goodIn_app (goodIn_of _ (by decide +kernel)) ggL_law_X7_lane
set_option maxRecDepth 20000 in
theorem ggL_law_X8_lane : GoodIn wsL_law wsX8_lane := goodIn_r _ [312, 313, 314, 117, 232, 315, 316, 317, 116, 318, 319, 320, 321, 322, 323, 324, 325, 5, 326, 327, 328, 329, 330, 331, 332, 333, 334, 118, 335, 336, 337, 338, 339, 340, 341, 342, 343, 344, 156, 157, 158, 345, 346, 347, 348, 349, 350, 351, 352, 353, 354, 355, 356, 357, 358, 359, 360, 361, 362, 363, 364, 365, 366, 956, 957, 958, 959, 960, 961, 962, 963, 964, 965, 966, 967, 968, 969, 970, 971, 972, 973, 974, 975, 976, 977, 978, 979, 980, 981, 982, 983, 984, 985, 986, 987, 988] (by decide +kernel) (by decide +kernel)
set_option maxRecDepth 20000 in
theorem gL_law_X8_lane : GoodIn wsL_law (wsV RL 40 RX8 yX8_lane wsX8_lane) := goodIn_app (goodIn_of _ (by decide +kernel)) ggL_law_X8_lane
set_option maxRecDepth 20000 in
theorem ggL_law_X7_fault : GoodIn wsL_law wsX7_fault := goodIn_r _ [370, 40, 945, 946, 947, 948, 949, 950, 951, 952, 953, 954, 955] (by decide +kernel) (by decide +kernel)
set_option maxRecDepth 20000 in
theorem gL_law_X7_fault : GoodIn wsL_law (wsV RL 41 RX7 yX7_fault wsX7_fault) := goodIn_app (goodIn_of _ (by decide +kernel)) ggL_law_X7_fault
set_option maxRecDepth 20000 in
theorem ggL_law_X8_fault : GoodIn wsL_law wsX8_fault := goodIn_r _ [374, 315, 956, 957, 958, 959, 960, 961, 962, 963, 964, 965, 966, 967, 968, 969, 970, 971, 972, 973, 974, 975, 976, 977, 978, 979, 980, 981, 982, 983, 984, 985, 986, 987, 988] (by decide +kernel) (by decide +kernel)
set_option maxRecDepth 20000 in
theorem gL_law_X8_fault : GoodIn wsL_law (wsV RL 44 RX8 yX8_fault wsX8_fault) := goodIn_app (goodIn_of _ (by decide +kernel)) ggL_law_X8_fault
set_option maxRecDepth 20000 in
theorem ggL_law_X7_undo : GoodIn wsL_law wsX7_undo := goodIn_r _ [378, 27, 379, 380, 18, 381, 382, 383, 26, 384, 81, 82, 385, 77, 78, 386, 387, 79, 80, 388, 302, 303, 38, 304, 61, 62, 63, 64, 945, 946, 947, 948, 949, 950, 951, 952, 953, 954, 955, 1002, 1003, 1004, 1005, 1006, 1007, 989, 990, 991, 992, 993, 994, 995, 996, 997, 1019, 1020, 1021, 1022] (by decide +kernel) (by decide +kernel)
set_option maxRecDepth 20000 in
theorem gL_law_X7_undo : GoodIn wsL_law (wsV RL 45 RX7 yX7_undo wsX7_undo) := goodIn_app (goodIn_of _ (by decide +kernel)) ggL_law_X7_undo
set_option maxRecDepth 20000 in
theorem ggL_law_X8_undo : GoodIn wsL_law wsX8_undo := goodIn_r _ [392, 322, 393, 119, 321, 116, 359, 360, 361, 5, 362, 363, 364, 365, 366, 956, 957, 958, 959, 960, 961, 962, 963, 964, 965, 966, 967, 968, 969, 970, 971, 972, 973, 974, 975, 976, 977, 978, 979, 980, 981, 982, 983, 984, 985, 986, 987, 988] (by decide +kernel) (by decide +kernel)
set_option maxRecDepth 20000 in
theorem gL_law_X8_undo : GoodIn wsL_law (wsV RL 48 RX8 yX8_undo wsX8_undo) := goodIn_app (goodIn_of _ (by decide +kernel)) ggL_law_X8_undo
set_option maxRecDepth 20000 in
theorem ggL_law_X7_moment : GoodIn wsL_law wsX7_moment := goodIn_r _ [397, 18, 380, 240, 129, 398, 399, 400, 222, 27, 401, 402, 403, 404, 17, 405, 53, 130, 131, 2, 132, 406, 407, 408, 26, 409, 77, 81, 385, 78, 386, 79, 80, 387, 82, 410, 411, 412, 413, 388, 302, 303, 38, 304, 61, 62, 63, 64, 414, 415, 416, 417, 54, 49, 418, 419, 420, 421, 50, 422, 423, 424, 425, 426, 427, 428, 429, 430, 431, 432, 433, 434, 435, 436, 437, 438, 439, 440, 441, 442, 443, 444, 445, 446, 447, 448, 449, 945, 946, 947, 948, 949, 950, 951, 952, 953, 954, 955, 989, 990, 991, 992, 993, 994, 995, 996, 997, 1019, 1020, 1021, 1022, 1002, 1003, 1004, 1005, 1006, 1007] (by decide +kernel) (by decide +kernel)
set_option maxRecDepth 20000 in
theorem gL_law_X7_moment : GoodIn wsL_law (wsV RL 49 RX7 yX7_moment wsX7_moment) := goodIn_app (goodIn_of _ (by decide +kernel)) ggL_law_X7_moment
set_option maxRecDepth 20000 in
theorem ggL_law_X8_moment : GoodIn wsL_law wsX8_moment := goodIn_r _ [453, 318, 393, 151, 366, 321, 233, 363, 454, 455, 456, 5, 457, 116, 156, 157, 158, 458, 459, 460, 461, 322, 119, 364, 365, 462, 463, 464, 465, 466, 467, 468, 469, 470, 471, 472, 473, 474, 475, 476, 477, 478, 479, 480, 481, 482, 483, 484, 485, 486, 487, 488, 489, 490, 491, 492, 956, 957, 958, 959, 960, 961, 962, 963, 964, 965, 966, 967, 968, 969, 970, 971, 972, 973, 974, 975, 976, 977, 978, 979, 980, 981, 982, 983, 984, 985, 986, 987, 988] (by decide +kernel) (by decide +kernel)
set_option maxRecDepth 20000 in
theorem gL_law_X8_moment : GoodIn wsL_law (wsV RL 52 RX8 yX8_moment wsX8_moment) := goodIn_app (goodIn_of _ (by decide +kernel)) ggL_law_X8_moment
set_option maxRecDepth 20000 in
theorem ggL_law_X7_setUp : GoodIn wsL_law wsX7_setUp := goodIn_r _ [496, 18, 380, 497, 498, 129, 398, 401, 27, 402, 403, 404, 17, 405, 53, 130, 131, 2, 132, 406, 407, 408, 26, 409, 77, 81, 385, 78, 386, 79, 80, 387, 82, 410, 411, 412, 413, 388, 302, 303, 38, 304, 61, 62, 63, 64, 499, 266, 267, 268, 945, 946, 947, 948, 949, 950, 951, 952, 953, 954, 955, 989, 990, 991, 992, 993, 994, 995, 996, 997, 1019, 1020, 1021, 1022, 1002, 1003, 1004, 1005, 1006, 1007] (by decide +kernel) (by decide +kernel)
set_option maxRecDepth 20000 in
theorem gL_law_X7_setUp : GoodIn wsL_law (wsV RL 53 RX7 yX7_setUp wsX7_setUp) := goodIn_app (goodIn_of _ (by decide +kernel)) ggL_law_X7_setUp
set_option maxRecDepth 20000 in
theorem ggL_law_X8_setUp : GoodIn wsL_law wsX8_setUp := goodIn_r _ [503, 318, 393, 116, 504, 505, 506, 151, 363, 156, 157, 5, 158, 458, 459, 460, 461, 322, 119, 364, 365, 366, 321, 359, 360, 361, 362, 956, 957, 958, 959, 960, 961, 962, 963, 964, 965, 966, 967, 968, 969, 970, 971, 972, 973, 974, 975, 976, 977, 978, 979, 980, 981, 982, 983, 984, 985, 986, 987, 988] (by decide +kernel) (by decide +kernel)
set_option maxRecDepth 20000 in
theorem gL_law_X8_setUp : GoodIn wsL_law (wsV RL 56 RX8 yX8_setUp wsX8_setUp) := goodIn_app (goodIn_of _ (by decide +kernel)) ggL_law_X8_setUp
set_option maxRecDepth 20000 in
theorem ggL_law_X7_lay : GoodIn wsL_law wsX7_lay := goodIn_r _ [510, 18, 380, 497, 129, 511, 27, 402, 403, 404, 17, 405, 53, 130, 131, 2, 132, 406, 407, 408, 26, 409, 77, 81, 385, 78, 386, 79, 80, 387, 82, 410, 411, 412, 413, 388, 302, 303, 38, 304, 61, 62, 63, 64, 945, 946, 947, 948, 949, 950, 951, 952, 953, 954, 955, 989, 990, 991, 992, 993, 994, 995, 996, 997, 1002, 1003, 1004, 1005, 1006, 1007, 1019, 1020, 1021, 1022] (by decide +kernel) (by decide +kernel)
set_option maxRecDepth 20000 in
theorem gL_law_X7_lay : GoodIn wsL_law (wsV RL 57 RX7 yX7_lay wsX7_lay) := goodIn_app (goodIn_of _ (by decide +kernel)) ggL_law_X7_lay
set_option maxRecDepth 20000 in
theorem ggL_law_X8_lay : GoodIn wsL_law wsX8_lay := goodIn_r _ [515, 318, 393, 116, 506, 151, 156, 157, 5, 158, 458, 459, 460, 461, 322, 119, 363, 364, 365, 366, 321, 956, 957, 958, 959, 960, 961, 962, 963, 964, 965, 966, 967, 968, 969, 970, 971, 972, 973, 974, 975, 976, 977, 978, 979, 980, 981, 982, 983, 984, 985, 986, 987, 988] (by decide +kernel) (by decide +kernel)
set_option maxRecDepth 20000 in
theorem gL_law_X8_lay : GoodIn wsL_law (wsV RL 61 RX8 yX8_lay wsX8_lay) := goodIn_app (goodIn_of _ (by decide +kernel)) ggL_law_X8_lay
set_option maxRecDepth 20000 in
theorem ggL_law_X7_hoop : GoodIn wsL_law wsX7_hoop := goodIn_r _ [519, 18, 380, 129, 400, 398, 402, 403, 404, 17, 405, 53, 130, 131, 2, 132, 520, 521, 522, 38, 523, 61, 62, 63, 64, 945, 946, 947, 948, 949, 950, 951, 952, 953, 954, 955, 989, 990, 991, 992, 993, 994, 995, 996, 997, 1019, 1020, 1021, 1022] (by decide +kernel) (by decide +kernel)
set_option maxRecDepth 20000 in
theorem gL_law_X7_hoop : GoodIn wsL_law (wsV RL 62 RX7 yX7_hoop wsX7_hoop) := goodIn_app (goodIn_of _ (by decide +kernel)) ggL_law_X7_hoop
set_option maxRecDepth 20000 in
theorem ggL_law_X8_hoop : GoodIn wsL_law wsX8_hoop := goodIn_r _ [527, 318, 393, 528, 151, 156, 157, 5, 158, 529, 530, 531, 532, 363, 364, 365, 366, 321, 956, 957, 958, 959, 960, 961, 962, 963, 964, 965, 966, 967, 968, 969, 970, 971, 972, 973, 974, 975, 976, 977, 978, 979, 980, 981, 982, 983, 984, 985, 986, 987, 988] (by decide +kernel) (by decide +kernel)
set_option maxRecDepth 20000 in
theorem gL_law_X8_hoop : GoodIn wsL_law (wsV RL 65 RX8 yX8_hoop wsX8_hoop) := goodIn_app (goodIn_of _ (by decide +kernel)) ggL_law_X8_hoop
set_option maxRecDepth 20000 in
theorem ggL_law_X7_ground : GoodIn wsL_law wsX7_ground := goodIn_r _ [536, 18, 497, 129, 511, 130, 131, 2, 132, 945, 946, 947, 948, 949, 950, 951, 952, 953, 954, 955, 989, 990, 991, 992, 993, 994, 995, 996, 997] (by decide +kernel) (by decide +kernel)
set_option maxRecDepth 20000 in
theorem gL_law_X7_ground : GoodIn wsL_law (wsV RL 66 RX7 yX7_ground wsX7_ground) := goodIn_app (goodIn_of _ (by decide +kernel)) ggL_law_X7_ground
set_option maxRecDepth 20000 in
theorem ggL_law_X8_ground : GoodIn wsL_law wsX8_ground := goodIn_r _ [540, 116, 151, 156, 157, 5, 158, 956, 957, 958, 959, 960, 961, 962, 963, 964, 965, 966, 967, 968, 969, 970, 971, 972, 973, 974, 975, 976, 977, 978, 979, 980, 981, 982, 983, 984, 985, 986, 987, 988] (by decide +kernel) (by decide +kernel)
set_option maxRecDepth 20000 in
theorem gL_law_X8_ground : GoodIn wsL_law (wsV RL 69 RX8 yX8_ground wsX8_ground) := goodIn_app (goodIn_of _ (by decide +kernel)) ggL_law_X8_ground
set_option maxRecDepth 20000 in
theorem ggL_law_X7_force : GoodIn wsL_law wsX7_force := goodIn_r _ [544, 18, 240, 129, 130, 131, 2, 132, 418, 419, 420, 17, 421, 54, 50, 945, 946, 947, 948, 949, 950, 951, 952, 953, 954, 955, 989, 990, 991, 992, 993, 994, 995, 996, 997] (by decide +kernel) (by decide +kernel)
set_option maxRecDepth 20000 in
theorem gL_law_X7_force : GoodIn wsL_law (wsV RL 70 RX7 yX7_force wsX7_force) := goodIn_app (goodIn_of _ (by decide +kernel)) ggL_law_X7_force
set_option maxRecDepth 20000 in
theorem ggL_law_X8_force : GoodIn wsL_law wsX8_force := goodIn_r _ [548, 151, 454, 455, 456, 5, 457, 116, 156, 157, 158, 470, 471, 472, 473, 956, 957, 958, 959, 960, 961, 962, 963, 964, 965, 966, 967, 968, 969, 970, 971, 972, 973, 974, 975, 976, 977, 978, 979, 980, 981, 982, 983, 984, 985, 986, 987, 988] (by decide +kernel) (by decide +kernel)
set_option maxRecDepth 20000 in
theorem gL_law_X8_force : GoodIn wsL_law (wsV RL 73 RX8 yX8_force wsX8_force) := goodIn_app (goodIn_of _ (by decide +kernel)) ggL_law_X8_force
set_option maxRecDepth 20000 in
theorem ggL_law_X7_ahead : GoodIn wsL_law wsX7_ahead := goodIn_r _ [552, 18, 380, 129, 39, 398, 402, 403, 404, 17, 405, 53, 130, 131, 2, 132, 553, 302, 303, 38, 304, 61, 62, 63, 64, 422, 423, 424, 425, 426, 427, 428, 429, 430, 431, 432, 433, 434, 435, 412, 436, 437, 411, 413, 438, 439, 440, 441, 442, 443, 444, 445, 446, 447, 448, 449, 520, 521, 522, 523, 945, 946, 947, 948, 949, 950, 951, 952, 953, 954, 955, 989, 990, 991, 992, 993, 994, 995, 996, 997, 1019, 1020, 1021, 1022] (by decide +kernel) (by decide +kernel)
set_option maxRecDepth 20000 in
theorem gL_law_X7_ahead : GoodIn wsL_law (wsV RL 74 RX7 yX7_ahead wsX7_ahead) := goodIn_app (goodIn_of _ (by decide +kernel)) ggL_law_X7_ahead
set_option maxRecDepth 20000 in
theorem ggL_law_X8_ahead : GoodIn wsL_law wsX8_ahead := goodIn_r _ [557, 318, 393, 558, 559, 151, 366, 156, 157, 5, 158, 560, 561, 562, 563, 363, 564, 364, 565, 365, 566, 567, 321, 568, 474, 475, 476, 477, 116, 478, 479, 480, 481, 482, 483, 484, 485, 486, 487, 488, 489, 490, 491, 492, 529, 530, 531, 532, 569, 570, 571, 572, 359, 360, 361, 362, 956, 957, 958, 959, 960, 961, 962, 963, 964, 965, 966, 967, 968, 969, 970, 971, 972, 973, 974, 975, 976, 977, 978, 979, 980, 981, 982, 983, 984, 985, 986, 987, 988] (by decide +kernel) (by decide +kernel)
set_option maxRecDepth 20000 in
theorem gL_law_X8_ahead : GoodIn wsL_law (wsV RL 77 RX8 yX8_ahead wsX8_ahead) := goodIn_app (goodIn_of _ (by decide +kernel)) ggL_law_X8_ahead
set_option maxRecDepth 20000 in
theorem ggL_law_X7_fewest : GoodIn wsL_law wsX7_fewest := goodIn_r _ [576, 577, 578, 579, 2, 580, 18, 380, 129, 31, 398, 581, 582, 402, 403, 404, 17, 405, 53, 130, 131, 132, 583, 584, 585, 30, 586, 587, 90, 91, 92, 86, 89, 588, 435, 412, 436, 589, 590, 143, 144, 145, 591, 592, 593, 594, 595, 596, 597, 598, 599, 600, 601, 411, 413, 602, 603, 604, 605, 606, 88, 607, 266, 267, 38, 268, 61, 62, 63, 64, 608, 415, 416, 417, 54, 49, 609, 419, 420, 421, 50, 610, 423, 424, 425, 426, 427, 428, 429, 430, 431, 432, 433, 434, 437, 438, 439, 440, 441, 442, 443, 444, 445, 446, 447, 448, 449, 611, 612, 613, 614, 615, 616, 617, 618, 619, 945, 946, 947, 948, 949, 950, 951, 952, 953, 954, 955, 989, 990, 991, 992, 993, 994, 995, 996, 997, 1019, 1020, 1021, 1022, 1008, 1009, 1010, 1011, 1012] (by decide +kernel) (by decide +kernel)
set_option maxRecDepth 20000 in
theorem gL_law_X7_fewest : GoodIn wsL_law (wsV RL 78 RX7 yX7_fewest wsX7_fewest) := goodIn_app (goodIn_of _ (by decide +kernel)) ggL_law_X7_fewest
set_option maxRecDepth 20000 in
theorem ggL_law_X8_fewest : GoodIn wsL_law wsX8_fewest := goodIn_r _ [623, 318, 393, 151, 156, 157, 5, 158, 624, 625, 626, 627, 366, 628, 363, 364, 365, 120, 629, 630, 631, 632, 116, 560, 561, 562, 563, 564, 565, 566, 567, 321, 568, 633, 634, 635, 636, 359, 360, 361, 362, 462, 463, 464, 465, 466, 467, 468, 469, 470, 471, 472, 473, 474, 475, 476, 477, 478, 479, 480, 481, 482, 483, 484, 485, 486, 487, 488, 489, 490, 491, 492, 637, 638, 639, 569, 570, 571, 572, 956, 957, 958, 959, 960, 961, 962, 963, 964, 965, 966, 967, 968, 969, 970, 971, 972, 973, 974, 975, 976, 977, 978, 979, 980, 981, 982, 983, 984, 985, 986, 987, 988] (by decide +kernel) (by decide +kernel)
set_option maxRecDepth 20000 in
theorem gL_law_X8_fewest : GoodIn wsL_law (wsV RL 81 RX8 yX8_fewest wsX8_fewest) := goodIn_app (goodIn_of _ (by decide +kernel)) ggL_law_X8_fewest
set_option maxRecDepth 20000 in
theorem ggL_law_X7_soonest : GoodIn wsL_law wsX7_soonest := goodIn_r _ [643, 577, 578, 579, 2, 580, 18, 380, 129, 31, 398, 581, 582, 402, 403, 404, 17, 405, 53, 130, 131, 132, 583, 584, 585, 30, 586, 587, 90, 91, 92, 86, 89, 588, 435, 412, 436, 589, 590, 143, 144, 145, 591, 592, 593, 594, 595, 596, 597, 598, 599, 600, 601, 411, 413, 602, 603, 604, 605, 606, 88, 607, 266, 267, 38, 268, 61, 62, 63, 64, 608, 415, 416, 417, 54, 49, 609, 419, 420, 421, 50, 610, 423, 424, 425, 426, 427, 428, 429, 430, 431, 432, 433, 434, 437, 438, 439, 440, 441, 442, 443, 444, 445, 446, 447, 448, 449, 611, 612, 613, 614, 615, 616, 617, 618, 619, 945, 946, 947, 948, 949, 950, 951, 952, 953, 954, 955, 989, 990, 991, 992, 993, 994, 995, 996, 997, 1019, 1020, 1021, 1022, 1008, 1009, 1010, 1011, 1012] (by decide +kernel) (by decide +kernel)
set_option maxRecDepth 20000 in
theorem gL_law_X7_soonest : GoodIn wsL_law (wsV RL 82 RX7 yX7_soonest wsX7_soonest) := goodIn_app (goodIn_of _ (by decide +kernel)) ggL_law_X7_soonest
set_option maxRecDepth 20000 in
theorem ggL_law_X8_soonest : GoodIn wsL_law wsX8_soonest := goodIn_r _ [647, 318, 393, 151, 156, 157, 5, 158, 624, 625, 626, 627, 366, 628, 363, 364, 365, 120, 629, 630, 631, 632, 116, 560, 561, 562, 563, 564, 565, 566, 567, 321, 568, 633, 634, 635, 636, 359, 360, 361, 362, 462, 463, 464, 465, 466, 467, 468, 469, 470, 471, 472, 473, 474, 475, 476, 477, 478, 479, 480, 481, 482, 483, 484, 485, 486, 487, 488, 489, 490, 491, 492, 637, 638, 639, 569, 570, 571, 572, 956, 957, 958, 959, 960, 961, 962, 963, 964, 965, 966, 967, 968, 969, 970, 971, 972, 973, 974, 975, 976, 977, 978, 979, 980, 981, 982, 983, 984, 985, 986, 987, 988] (by decide +kernel) (by decide +kernel)
set_option maxRecDepth 20000 in
theorem gL_law_X8_soonest : GoodIn wsL_law (wsV RL 85 RX8 yX8_soonest wsX8_soonest) := goodIn_app (goodIn_of _ (by decide +kernel)) ggL_law_X8_soonest
set_option maxRecDepth 20000 in
theorem ggL_law_X7_heldFrom : GoodIn wsL_law wsX7_heldFrom := goodIn_r _ [651, 18, 380, 398, 399, 582, 39, 401, 652, 402, 403, 404, 17, 405, 53, 499, 266, 267, 38, 268, 61, 62, 63, 64, 653, 654, 655, 2, 656, 31, 581, 583, 584, 585, 30, 586, 587, 90, 91, 92, 86, 89, 588, 435, 412, 436, 589, 590, 143, 144, 145, 591, 592, 593, 594, 595, 596, 597, 598, 599, 600, 601, 411, 413, 131, 132, 602, 603, 604, 605, 606, 88, 607, 608, 415, 416, 417, 54, 49, 609, 419, 420, 421, 50, 610, 423, 424, 425, 426, 427, 428, 429, 430, 431, 432, 433, 434, 437, 438, 439, 440, 441, 442, 443, 444, 445, 446, 447, 448, 449, 611, 612, 613, 614, 945, 946, 947, 948, 949, 950, 951, 952, 953, 954, 955, 989, 990, 991, 992, 993, 994, 995, 996, 997, 1019, 1020, 1021, 1022, 1008, 1009, 1010, 1011, 1012] (by decide +kernel) (by decide +kernel)
set_option maxRecDepth 20000 in
theorem gL_law_X7_heldFrom : GoodIn wsL_law (wsV RL 86 RX7 yX7_heldFrom wsX7_heldFrom) := goodIn_app (goodIn_of _ (by decide +kernel)) ggL_law_X7_heldFrom
set_option maxRecDepth 20000 in
theorem ggL_law_X8_heldFrom : GoodIn wsL_law wsX8_heldFrom := goodIn_r _ [660, 318, 393, 366, 628, 120, 363, 365, 629, 630, 631, 5, 632, 116, 560, 561, 562, 563, 564, 364, 565, 566, 567, 321, 568, 633, 634, 635, 636, 359, 360, 361, 362, 462, 463, 464, 465, 466, 467, 468, 469, 470, 471, 472, 473, 474, 475, 476, 477, 478, 479, 480, 481, 482, 483, 484, 485, 486, 487, 488, 489, 490, 491, 492, 637, 638, 639, 569, 570, 571, 572, 956, 957, 958, 959, 960, 961, 962, 963, 964, 965, 966, 967, 968, 969, 970, 971, 972, 973, 974, 975, 976, 977, 978, 979, 980, 981, 982, 983, 984, 985, 986, 987, 988] (by decide +kernel) (by decide +kernel)
set_option maxRecDepth 20000 in
theorem gL_law_X8_heldFrom : GoodIn wsL_law (wsV RL 89 RX8 yX8_heldFrom wsX8_heldFrom) := goodIn_app (goodIn_of _ (by decide +kernel)) ggL_law_X8_heldFrom
set_option maxRecDepth 20000 in
theorem ggL_law_X7_righted : GoodIn wsL_law wsX7_righted := goodIn_r _ [664, 18, 380, 240, 398, 399, 582, 498, 39, 401, 665, 402, 403, 404, 17, 405, 53, 499, 266, 267, 38, 268, 61, 62, 63, 64, 653, 654, 655, 2, 656, 31, 581, 583, 584, 585, 30, 586, 587, 90, 91, 92, 86, 89, 588, 435, 412, 436, 589, 590, 143, 144, 145, 591, 592, 593, 594, 595, 596, 597, 598, 599, 600, 601, 411, 413, 131, 132, 602, 603, 604, 605, 606, 88, 607, 608, 415, 416, 417, 54, 49, 609, 419, 420, 421, 50, 610, 423, 424, 425, 426, 427, 428, 429, 430, 431, 432, 433, 434, 437, 438, 439, 440, 441, 442, 443, 444, 445, 446, 447, 448, 449, 611, 612, 613, 614, 945, 946, 947, 948, 949, 950, 951, 952, 953, 954, 955, 989, 990, 991, 992, 993, 994, 995, 996, 997, 1019, 1020, 1021, 1022, 1008, 1009, 1010, 1011, 1012] (by decide +kernel) (by decide +kernel)
set_option maxRecDepth 20000 in
theorem gL_law_X7_righted : GoodIn wsL_law (wsV RL 90 RX7 yX7_righted wsX7_righted) := goodIn_app (goodIn_of _ (by decide +kernel)) ggL_law_X7_righted
set_option maxRecDepth 20000 in
theorem ggL_law_X8_righted : GoodIn wsL_law wsX8_righted := goodIn_r _ [669, 318, 393, 366, 116, 628, 120, 363, 364, 629, 630, 631, 5, 632, 560, 561, 562, 563, 564, 565, 365, 566, 567, 321, 568, 633, 634, 635, 636, 359, 360, 361, 362, 462, 463, 464, 465, 466, 467, 468, 469, 470, 471, 472, 473, 474, 475, 476, 477, 478, 479, 480, 481, 482, 483, 484, 485, 486, 487, 488, 489, 490, 491, 492, 637, 638, 639, 569, 570, 571, 572, 956, 957, 958, 959, 960, 961, 962, 963, 964, 965, 966, 967, 968, 969, 970, 971, 972, 973, 974, 975, 976, 977, 978, 979, 980, 981, 982, 983, 984, 985, 986, 987, 988] (by decide +kernel) (by decide +kernel)
set_option maxRecDepth 20000 in
theorem gL_law_X8_righted : GoodIn wsL_law (wsV RL 93 RX8 yX8_righted wsX8_righted) := goodIn_app (goodIn_of _ (by decide +kernel)) ggL_law_X8_righted
set_option maxRecDepth 20000 in
theorem ggL_law_X7_plan : GoodIn wsL_law wsX7_plan := goodIn_r _ [673, 18, 380, 129, 13, 582, 41, 39, 398, 399, 194, 402, 403, 404, 17, 405, 53, 130, 131, 2, 132, 173, 174, 175, 43, 176, 107, 177, 178, 179, 180, 106, 133, 134, 135, 136, 137, 674, 675, 676, 677, 240, 553, 302, 303, 38, 304, 61, 62, 63, 64, 414, 415, 416, 417, 54, 49, 418, 419, 420, 421, 50, 422, 423, 424, 425, 426, 427, 428, 429, 430, 431, 432, 433, 434, 435, 412, 436, 437, 411, 413, 438, 439, 440, 441, 442, 443, 444, 445, 446, 447, 448, 449, 945, 946, 947, 948, 949, 950, 951, 952, 953, 954, 955, 989, 990, 991, 992, 993, 994, 995, 996, 997, 1019, 1020, 1021, 1022, 1023, 1024, 1025] (by decide +kernel) (by decide +kernel)
set_option maxRecDepth 20000 in
theorem gL_law_X7_plan : GoodIn wsL_law (wsV RL 94 RX7 yX7_plan wsX7_plan) := goodIn_app (goodIn_of _ (by decide +kernel)) ggL_law_X7_plan
set_option maxRecDepth 20000 in
theorem ggL_law_X8_plan : GoodIn wsL_law wsX8_plan := goodIn_r _ [681, 318, 393, 682, 151, 366, 114, 152, 153, 5, 154, 155, 156, 157, 158, 683, 684, 685, 686, 112, 204, 205, 206, 207, 113, 159, 160, 161, 162, 163, 164, 687, 688, 689, 690, 454, 455, 456, 457, 116, 560, 561, 562, 563, 363, 564, 364, 565, 365, 566, 567, 321, 568, 462, 463, 464, 465, 466, 467, 468, 469, 470, 471, 472, 473, 474, 475, 476, 477, 478, 479, 480, 481, 482, 483, 484, 485, 486, 487, 488, 489, 490, 491, 492, 569, 570, 571, 572, 359, 360, 361, 362, 165, 166, 167, 168, 956, 957, 958, 959, 960, 961, 962, 963, 964, 965, 966, 967, 968, 969, 970, 971, 972, 973, 974, 975, 976, 977, 978, 979, 980, 981, 982, 983, 984, 985, 986, 987, 988] (by decide +kernel) (by decide +kernel)
set_option maxRecDepth 20000 in
theorem gL_law_X8_plan : GoodIn wsL_law (wsV RL 98 RX8 yX8_plan wsX8_plan) := goodIn_app (goodIn_of _ (by decide +kernel)) ggL_law_X8_plan
set_option maxRecDepth 20000 in
theorem ggL_law_X7_seen : GoodIn wsL_law wsX7_seen := goodIn_r _ [694, 18, 380, 129, 398, 399, 13, 41, 402, 403, 404, 17, 405, 53, 130, 131, 2, 132, 173, 174, 175, 43, 176, 107, 177, 178, 179, 180, 106, 133, 134, 135, 136, 137, 695, 696, 697, 698, 39, 401, 652, 499, 266, 267, 38, 268, 61, 62, 63, 64, 422, 423, 424, 425, 426, 427, 428, 429, 430, 431, 432, 433, 434, 435, 412, 436, 437, 411, 413, 438, 439, 440, 441, 442, 443, 444, 445, 446, 447, 448, 449, 699, 700, 701, 702, 194, 703, 704, 705, 706, 498, 665, 945, 946, 947, 948, 949, 950, 951, 952, 953, 954, 955, 989, 990, 991, 992, 993, 994, 995, 996, 997, 1019, 1020, 1021, 1022, 1023, 1024, 1025] (by decide +kernel) (by decide +kernel)
set_option maxRecDepth 20000 in
theorem gL_law_X7_seen : GoodIn wsL_law (wsV RL 99 RX7 yX7_seen wsX7_seen) := goodIn_app (goodIn_of _ (by decide +kernel)) ggL_law_X7_seen
set_option maxRecDepth 20000 in
theorem ggL_law_X8_seen : GoodIn wsL_law wsX8_seen := goodIn_r _ [710, 318, 393, 711, 151, 366, 116, 364, 365, 152, 153, 5, 154, 155, 156, 157, 158, 683, 684, 685, 686, 112, 204, 205, 206, 207, 113, 159, 160, 161, 162, 163, 164, 560, 561, 562, 563, 363, 564, 565, 566, 567, 321, 568, 712, 713, 714, 715, 114, 474, 475, 476, 477, 478, 479, 480, 481, 482, 483, 484, 485, 486, 487, 488, 489, 490, 491, 492, 569, 570, 571, 572, 359, 360, 361, 362, 165, 166, 167, 168, 956, 957, 958, 959, 960, 961, 962, 963, 964, 965, 966, 967, 968, 969, 970, 971, 972, 973, 974, 975, 976, 977, 978, 979, 980, 981, 982, 983, 984, 985, 986, 987, 988] (by decide +kernel) (by decide +kernel)
set_option maxRecDepth 20000 in
theorem gL_law_X8_seen : GoodIn wsL_law (wsV RL 102 RX8 yX8_seen wsX8_seen) := goodIn_app (goodIn_of _ (by decide +kernel)) ggL_law_X8_seen
set_option maxRecDepth 20000 in
theorem ggL_law_X7_who : GoodIn wsL_law wsX7_who := goodIn_r _ [719, 18, 240, 129, 398, 399, 380, 13, 41, 39, 130, 131, 2, 132, 173, 174, 175, 43, 176, 107, 177, 178, 179, 180, 106, 133, 134, 135, 136, 137, 553, 302, 303, 38, 304, 61, 62, 63, 64, 418, 419, 420, 17, 421, 54, 50, 422, 423, 424, 425, 426, 427, 428, 429, 430, 431, 432, 433, 434, 435, 412, 436, 437, 411, 413, 438, 439, 440, 441, 442, 443, 444, 445, 446, 447, 448, 449, 699, 700, 701, 702, 401, 194, 945, 946, 947, 948, 949, 950, 951, 952, 953, 954, 955, 989, 990, 991, 992, 993, 994, 995, 996, 997, 1019, 1020, 1021, 1022, 1023, 1024, 1025] (by decide +kernel) (by decide +kernel)
set_option maxRecDepth 20000 in
theorem gL_law_X7_who : GoodIn wsL_law (wsV RL 103 RX7 yX7_who wsX7_who) := goodIn_app (goodIn_of _ (by decide +kernel)) ggL_law_X7_who
set_option maxRecDepth 20000 in
theorem ggL_law_X8_who : GoodIn wsL_law wsX8_who := goodIn_r _ [723, 711, 151, 366, 393, 454, 455, 456, 5, 457, 116, 156, 157, 158, 152, 153, 154, 155, 683, 684, 685, 686, 112, 204, 205, 206, 207, 113, 159, 160, 161, 162, 163, 164, 560, 561, 562, 563, 363, 564, 364, 565, 365, 566, 567, 321, 568, 470, 471, 472, 473, 712, 713, 714, 715, 114, 474, 475, 476, 477, 478, 479, 480, 481, 482, 483, 484, 485, 486, 487, 488, 489, 490, 491, 492, 569, 570, 571, 572, 359, 360, 361, 362, 165, 166, 167, 168, 956, 957, 958, 959, 960, 961, 962, 963, 964, 965, 966, 967, 968, 969, 970, 971, 972, 973, 974, 975, 976, 977, 978, 979, 980, 981, 982, 983, 984, 985, 986, 987, 988] (by decide +kernel) (by decide +kernel)
set_option maxRecDepth 20000 in
theorem gL_law_X8_who : GoodIn wsL_law (wsV RL 106 RX8 yX8_who wsX8_who) := goodIn_app (goodIn_of _ (by decide +kernel)) ggL_law_X8_who
set_option maxRecDepth 20000 in
theorem ggL_law_X7_falls : GoodIn wsL_law wsX7_falls := goodIn_r _ [727, 18, 380, 31, 398, 581, 728, 402, 403, 404, 17, 405, 53, 583, 584, 585, 30, 586, 587, 90, 91, 92, 86, 89, 588, 435, 412, 436, 589, 590, 143, 144, 145, 591, 592, 593, 594, 595, 596, 597, 598, 599, 600, 601, 411, 413, 131, 2, 132, 602, 603, 604, 605, 606, 88, 607, 266, 267, 38, 268, 61, 62, 63, 64, 608, 415, 416, 417, 54, 49, 609, 419, 420, 421, 50, 610, 423, 424, 425, 426, 427, 428, 429, 430, 431, 432, 433, 434, 437, 438, 439, 440, 441, 442, 443, 444, 445, 446, 447, 448, 449, 945, 946, 947, 948, 949, 950, 951, 952, 953, 954, 955, 989, 990, 991, 992, 993, 994, 995, 996, 997, 1008, 1009, 1010, 1011, 1012, 1019, 1020, 1021, 1022] (by decide +kernel) (by decide +kernel)
set_option maxRecDepth 20000 in
theorem gL_law_X7_falls : GoodIn wsL_law (wsV RL 107 RX7 yX7_falls wsX7_falls) := goodIn_app (goodIn_of _ (by decide +kernel)) ggL_law_X7_falls
set_option maxRecDepth 20000 in
theorem ggL_law_X8_falls : GoodIn wsL_law wsX8_falls := goodIn_r _ [732, 318, 393, 366, 122, 363, 364, 365, 116, 560, 561, 562, 5, 563, 564, 565, 566, 567, 321, 568, 637, 638, 639, 359, 360, 361, 362, 462, 463, 464, 465, 466, 467, 468, 469, 470, 471, 472, 473, 474, 475, 476, 477, 478, 479, 480, 481, 482, 483, 484, 485, 486, 487, 488, 489, 490, 491, 492, 569, 570, 571, 572, 956, 957, 958, 959, 960, 961, 962, 963, 964, 965, 966, 967, 968, 969, 970, 971, 972, 973, 974, 975, 976, 977, 978, 979, 980, 981, 982, 983, 984, 985, 986, 987, 988] (by decide +kernel) (by decide +kernel)
set_option maxRecDepth 20000 in
theorem gL_law_X8_falls : GoodIn wsL_law (wsV RL 110 RX8 yX8_falls wsX8_falls) := goodIn_app (goodIn_of _ (by decide +kernel)) ggL_law_X8_falls
set_option maxRecDepth 20000 in
theorem ggL_law_X7_mend : GoodIn wsL_law wsX7_mend := goodIn_r _ [736, 18, 380, 129, 31, 398, 581, 401, 497, 582, 402, 403, 404, 17, 405, 53, 130, 131, 2, 132, 583, 584, 585, 30, 586, 587, 90, 91, 92, 86, 89, 588, 435, 412, 436, 589, 590, 143, 144, 145, 591, 592, 593, 594, 595, 596, 597, 598, 599, 600, 601, 411, 413, 602, 603, 604, 605, 606, 88, 607, 266, 267, 38, 268, 61, 62, 63, 64, 608, 415, 416, 417, 54, 49, 609, 419, 420, 421, 50, 610, 423, 424, 425, 426, 427, 428, 429, 430, 431, 432, 433, 434, 437, 438, 439, 440, 441, 442, 443, 444, 445, 446, 447, 448, 449, 611, 612, 613, 614, 737, 738, 739, 740, 511, 945, 946, 947, 948, 949, 950, 951, 952, 953, 954, 955, 989, 990, 991, 992, 993, 994, 995, 996, 997, 1019, 1020, 1021, 1022, 1008, 1009, 1010, 1011, 1012] (by decide +kernel) (by decide +kernel)
set_option maxRecDepth 20000 in
theorem gL_law_X7_mend : GoodIn wsL_law (wsV RL 111 RX7 yX7_mend wsX7_mend) := goodIn_app (goodIn_of _ (by decide +kernel)) ggL_law_X7_mend
set_option maxRecDepth 20000 in
theorem ggL_law_X8_mend : GoodIn wsL_law wsX8_mend := goodIn_r _ [744, 318, 393, 151, 628, 116, 156, 157, 5, 158, 624, 625, 626, 627, 366, 363, 364, 365, 120, 629, 630, 631, 632, 560, 561, 562, 563, 564, 565, 566, 567, 321, 568, 633, 634, 635, 636, 359, 360, 361, 362, 462, 463, 464, 465, 466, 467, 468, 469, 470, 471, 472, 473, 474, 475, 476, 477, 478, 479, 480, 481, 482, 483, 484, 485, 486, 487, 488, 489, 490, 491, 492, 637, 638, 639, 569, 570, 571, 572, 956, 957, 958, 959, 960, 961, 962, 963, 964, 965, 966, 967, 968, 969, 970, 971, 972, 973, 974, 975, 976, 977, 978, 979, 980, 981, 982, 983, 984, 985, 986, 987, 988] (by decide +kernel) (by decide +kernel)
set_option maxRecDepth 20000 in
theorem gL_law_X8_mend : GoodIn wsL_law (wsV RL 114 RX8 yX8_mend wsX8_mend) := goodIn_app (goodIn_of _ (by decide +kernel)) ggL_law_X8_mend
set_option maxRecDepth 20000 in
theorem ggL_law_X7_miss : GoodIn wsL_law wsX7_miss := goodIn_r _ [748, 18, 749, 750, 13, 582, 41, 751, 402, 403, 404, 17, 405, 53, 130, 131, 2, 132, 173, 174, 175, 43, 176, 107, 177, 178, 179, 180, 106, 133, 134, 135, 136, 137, 674, 675, 676, 677, 194, 240, 752, 753, 754, 755, 39, 398, 399, 553, 302, 303, 38, 304, 61, 62, 63, 64, 414, 415, 416, 417, 54, 49, 418, 419, 420, 421, 50, 422, 423, 424, 425, 426, 427, 428, 429, 430, 431, 432, 433, 434, 435, 412, 436, 437, 411, 413, 438, 439, 440, 441, 442, 443, 444, 445, 446, 447, 448, 449, 756, 757, 758, 759, 760, 761, 762, 763, 764, 765, 766, 767, 768, 945, 946, 947, 948, 949, 950, 951, 952, 953, 954, 955, 989, 990, 991, 992, 993, 994, 995, 996, 997, 1023, 1024, 1025, 1019, 1020, 1021, 1022] (by decide +kernel) (by decide +kernel)
set_option maxRecDepth 20000 in
theorem gL_law_X7_miss : GoodIn wsL_law (wsV RL 115 RX7 yX7_miss wsX7_miss) := goodIn_app (goodIn_of _ (by decide +kernel)) ggL_law_X7_miss
set_option maxRecDepth 20000 in
theorem ggL_law_X8_miss : GoodIn wsL_law wsX8_miss := goodIn_r _ [772, 318, 773, 682, 774, 775, 114, 366, 163, 152, 153, 5, 154, 155, 156, 157, 158, 683, 684, 685, 686, 112, 204, 205, 206, 207, 113, 159, 160, 161, 162, 164, 687, 688, 689, 690, 454, 455, 456, 457, 116, 560, 561, 562, 563, 363, 564, 364, 565, 365, 566, 567, 321, 568, 462, 463, 464, 465, 466, 467, 468, 469, 470, 471, 472, 473, 474, 475, 476, 477, 478, 479, 480, 481, 482, 483, 484, 485, 486, 487, 488, 489, 490, 491, 492, 569, 570, 571, 572, 359, 360, 361, 362, 776, 777, 778, 956, 957, 958, 959, 960, 961, 962, 963, 964, 965, 966, 967, 968, 969, 970, 971, 972, 973, 974, 975, 976, 977, 978, 979, 980, 981, 982, 983, 984, 985, 986, 987, 988] (by decide +kernel) (by decide +kernel)
set_option maxRecDepth 20000 in
theorem gL_law_X8_miss : GoodIn wsL_law (wsV RL 119 RX8 yX8_miss wsX8_miss) := goodIn_app (goodIn_of _ (by decide +kernel)) ggL_law_X8_miss
set_option maxRecDepth 20000 in
theorem ggL_law_X7_drawn : GoodIn wsL_law wsX7_drawn := goodIn_r _ [782, 18, 380, 783, 129, 39, 398, 399, 784, 785, 786, 401, 402, 403, 404, 17, 405, 53, 130, 131, 2, 132, 553, 302, 303, 38, 304, 61, 62, 63, 64, 414, 415, 416, 417, 54, 49, 418, 419, 420, 421, 50, 422, 423, 424, 425, 426, 427, 428, 429, 430, 431, 432, 433, 434, 435, 412, 436, 437, 411, 413, 438, 439, 440, 441, 442, 443, 444, 445, 446, 447, 448, 449, 945, 946, 947, 948, 949, 950, 951, 952, 953, 954, 955, 989, 990, 991, 992, 993, 994, 995, 996, 997, 1019, 1020, 1021, 1022] (by decide +kernel) (by decide +kernel)
set_option maxRecDepth 20000 in
theorem gL_law_X7_drawn : GoodIn wsL_law (wsV RL 120 RX7 yX7_drawn wsX7_drawn) := goodIn_app (goodIn_of _ (by decide +kernel)) ggL_law_X7_drawn
set_option maxRecDepth 20000 in
theorem ggL_law_X8_drawn : GoodIn wsL_law wsX8_drawn := goodIn_r _ [790, 318, 393, 558, 791, 151, 366, 792, 793, 711, 363, 156, 157, 5, 158, 560, 561, 562, 563, 564, 364, 565, 365, 566, 567, 321, 568, 454, 455, 456, 457, 116, 462, 463, 464, 465, 466, 467, 468, 469, 470, 471, 472, 473, 474, 475, 476, 477, 478, 479, 480, 481, 482, 483, 484, 485, 486, 487, 488, 489, 490, 491, 492, 569, 570, 571, 572, 359, 360, 361, 362, 956, 957, 958, 959, 960, 961, 962, 963, 964, 965, 966, 967, 968, 969, 970, 971, 972, 973, 974, 975, 976, 977, 978, 979, 980, 981, 982, 983, 984, 985, 986, 987, 988] (by decide +kernel) (by decide +kernel)
set_option maxRecDepth 20000 in
theorem gL_law_X8_drawn : GoodIn wsL_law (wsV RL 123 RX8 yX8_drawn wsX8_drawn) := goodIn_app (goodIn_of _ (by decide +kernel)) ggL_law_X8_drawn
set_option maxRecDepth 20000 in
theorem ggL_law_X7_image : GoodIn wsL_law wsX7_image := goodIn_r _ [797, 129, 18, 380, 15, 130, 131, 2, 132, 402, 403, 404, 17, 405, 53, 296, 297, 298, 299, 48, 300, 196, 197, 198, 49, 50, 52, 54, 55, 56, 57, 301, 302, 303, 38, 304, 61, 62, 63, 64, 945, 946, 947, 948, 949, 950, 951, 952, 953, 954, 955, 989, 990, 991, 992, 993, 994, 995, 996, 997, 1019, 1020, 1021, 1022] (by decide +kernel) (by decide +kernel)
set_option maxRecDepth 20000 in
theorem gL_law_X7_image : GoodIn wsL_law (wsV RL 124 RX7 yX7_image wsX7_image) := goodIn_app (goodIn_of _ (by decide +kernel)) ggL_law_X7_image
set_option maxRecDepth 20000 in
theorem ggL_law_X8_image : GoodIn wsL_law wsX8_image := goodIn_r _ [801, 151, 318, 393, 123, 116, 156, 157, 5, 158, 529, 530, 531, 532, 363, 364, 365, 366, 321, 956, 957, 958, 959, 960, 961, 962, 963, 964, 965, 966, 967, 968, 969, 970, 971, 972, 973, 974, 975, 976, 977, 978, 979, 980, 981, 982, 983, 984, 985, 986, 987, 988] (by decide +kernel) (by decide +kernel)
set_option maxRecDepth 20000 in
theorem gL_law_X8_image : GoodIn wsL_law (wsV RL 127 RX8 yX8_image wsX8_image) := goodIn_app (goodIn_of _ (by decide +kernel)) ggL_law_X8_image
set_option maxRecDepth 20000 in
theorem ggL_law_X7_restore : GoodIn wsL_law wsX7_restore := goodIn_r _ [805, 129, 15, 380, 18, 27, 130, 131, 2, 132, 402, 403, 404, 17, 405, 53, 296, 297, 298, 299, 48, 300, 196, 197, 198, 49, 50, 52, 54, 55, 56, 57, 301, 302, 303, 38, 304, 61, 62, 63, 64, 305, 306, 307, 26, 308, 82, 945, 946, 947, 948, 949, 950, 951, 952, 953, 954, 955, 989, 990, 991, 992, 993, 994, 995, 996, 997, 1019, 1020, 1021, 1022, 1002, 1003, 1004, 1005, 1006, 1007] (by decide +kernel) (by decide +kernel)
set_option maxRecDepth 20000 in
theorem gL_law_X7_restore : GoodIn wsL_law (wsV RL 128 RX7 yX7_restore wsX7_restore) := goodIn_app (goodIn_of _ (by decide +kernel)) ggL_law_X7_restore
set_option maxRecDepth 20000 in
theorem ggL_law_X8_restore : GoodIn wsL_law wsX8_restore := goodIn_r _ [809, 151, 123, 393, 321, 116, 322, 156, 157, 5, 158, 359, 360, 361, 362, 363, 364, 365, 366, 956, 957, 958, 959, 960, 961, 962, 963, 964, 965, 966, 967, 968, 969, 970, 971, 972, 973, 974, 975, 976, 977, 978, 979, 980, 981, 982, 983, 984, 985, 986, 987, 988] (by decide +kernel) (by decide +kernel)
set_option maxRecDepth 20000 in
theorem gL_law_X8_restore : GoodIn wsL_law (wsV RL 131 RX8 yX8_restore wsX8_restore) := goodIn_app (goodIn_of _ (by decide +kernel)) ggL_law_X8_restore
set_option maxRecDepth 20000 in
theorem ggL_law_X7_kind : GoodIn wsL_law wsX7_kind := goodIn_r _ [813, 18, 240, 129, 130, 131, 2, 132, 414, 415, 416, 17, 417, 54, 49, 945, 946, 947, 948, 949, 950, 951, 952, 953, 954, 955, 989, 990, 991, 992, 993, 994, 995, 996, 997] (by decide +kernel) (by decide +kernel)
set_option maxRecDepth 20000 in
theorem gL_law_X7_kind : GoodIn wsL_law (wsV RL 132 RX7 yX7_kind wsX7_kind) := goodIn_app (goodIn_of _ (by decide +kernel)) ggL_law_X7_kind
set_option maxRecDepth 20000 in
theorem ggL_law_X8_kind : GoodIn wsL_law wsX8_kind := goodIn_r _ [817, 151, 454, 455, 456, 5, 457, 116, 156, 157, 158, 466, 467, 468, 469, 956, 957, 958, 959, 960, 961, 962, 963, 964, 965, 966, 967, 968, 969, 970, 971, 972, 973, 974, 975, 976, 977, 978, 979, 980, 981, 982, 983, 984, 985, 986, 987, 988] (by decide +kernel) (by decide +kernel)
set_option maxRecDepth 20000 in
theorem gL_law_X8_kind : GoodIn wsL_law (wsV RL 135 RX8 yX8_kind wsX8_kind) := goodIn_app (goodIn_of _ (by decide +kernel)) ggL_law_X8_kind
set_option maxRecDepth 20000 in
theorem ggL_law_X7_as : GoodIn wsL_law wsX7_as := goodIn_r _ [821, 18, 240, 129, 41, 130, 131, 2, 132, 414, 415, 416, 17, 417, 54, 49, 822, 823, 824, 825, 133, 134, 135, 136, 137, 945, 946, 947, 948, 949, 950, 951, 952, 953, 954, 955, 989, 990, 991, 992, 993, 994, 995, 996, 997] (by decide +kernel) (by decide +kernel)
set_option maxRecDepth 20000 in
theorem gL_law_X7_as : GoodIn wsL_law (wsV RL 136 RX7 yX7_as wsX7_as) := goodIn_app (goodIn_of _ (by decide +kernel)) ggL_law_X7_as
set_option maxRecDepth 20000 in
theorem ggL_law_X8_as : GoodIn wsL_law wsX8_as := goodIn_r _ [829, 506, 151, 454, 455, 456, 5, 457, 116, 156, 157, 158, 466, 467, 468, 469, 830, 831, 832, 165, 166, 167, 168, 163, 159, 160, 161, 162, 164, 956, 957, 958, 959, 960, 961, 962, 963, 964, 965, 966, 967, 968, 969, 970, 971, 972, 973, 974, 975, 976, 977, 978, 979, 980, 981, 982, 983, 984, 985, 986, 987, 988] (by decide +kernel) (by decide +kernel)
set_option maxRecDepth 20000 in
theorem gL_law_X8_as : GoodIn wsL_law (wsV RL 139 RX8 yX8_as wsX8_as) := goodIn_app (goodIn_of _ (by decide +kernel)) ggL_law_X8_as
set_option maxRecDepth 20000 in
theorem ggL_law_X7_ask : GoodIn wsL_law wsX7_ask := goodIn_r _ [836, 18, 240, 129, 35, 130, 131, 2, 132, 837, 838, 839, 34, 840, 97, 98, 99, 100, 841, 842, 101, 843, 415, 416, 17, 417, 54, 49, 844, 419, 420, 421, 50, 845, 846, 847, 848, 849, 850, 851, 852, 96, 853, 854, 855, 856, 857, 858, 859, 860, 861, 862, 863, 864, 865, 866, 867, 868, 869, 870, 871, 872, 873, 874, 875, 876, 877, 878, 879, 880, 881, 882, 883, 884, 823, 824, 825, 885, 886, 887, 888, 945, 946, 947, 948, 949, 950, 951, 952, 953, 954, 955, 989, 990, 991, 992, 993, 994, 995, 996, 997, 1013, 1014, 1015, 1016, 1017, 1018, 1019, 1020, 1021, 1022] (by decide +kernel) (by decide +kernel)
set_option maxRecDepth 20000 in
theorem gL_law_X7_ask : GoodIn wsL_law (wsV RL 140 RX7 yX7_ask wsX7_ask) := goodIn_app (goodIn_of _ (by decide +kernel)) ggL_law_X7_ask
set_option maxRecDepth 20000 in
theorem ggL_law_X8_ask : GoodIn wsL_law wsX8_ask := goodIn_r _ [892, 151, 893, 454, 455, 456, 5, 457, 116, 156, 157, 158, 894, 895, 896, 897, 466, 467, 468, 469, 898, 899, 900, 901, 902, 903, 904, 905, 124, 906, 907, 908, 909, 470, 471, 472, 473, 910, 911, 912, 913, 364, 956, 957, 958, 959, 960, 961, 962, 963, 964, 965, 966, 967, 968, 969, 970, 971, 972, 973, 974, 975, 976, 977, 978, 979, 980, 981, 982, 983, 984, 985, 986, 987, 988] (by decide +kernel) (by decide +kernel)
set_option maxRecDepth 20000 in
theorem gL_law_X8_ask : GoodIn wsL_law (wsV RL 143 RX8 yX8_ask wsX8_ask) := goodIn_app (goodIn_of _ (by decide +kernel)) ggL_law_X8_ask
set_option maxRecDepth 20000 in
theorem ggL_law_X7_trace : GoodIn wsL_law wsX7_trace := goodIn_r _ [917, 35, 918, 582, 919, 130, 131, 2, 132, 945, 946, 947, 948, 949, 950, 951, 952, 953, 954, 955, 1013, 1014, 1015, 1016, 1017, 1018] (by decide +kernel) (by decide +kernel)
set_option maxRecDepth 20000 in
theorem gL_law_X7_trace : GoodIn wsL_law (wsV RL 144 RX7 yX7_trace wsX7_trace) := goodIn_app (goodIn_of _ (by decide +kernel)) ggL_law_X7_trace
set_option maxRecDepth 20000 in
theorem ggL_law_X8_trace : GoodIn wsL_law wsX8_trace := goodIn_r _ [923, 893, 124, 628, 156, 157, 5, 158, 956, 957, 958, 959, 960, 961, 962, 963, 964, 965, 966, 967, 968, 969, 970, 971, 972, 973, 974, 975, 976, 977, 978, 979, 980, 981, 982, 983, 984, 985, 986, 987, 988] (by decide +kernel) (by decide +kernel)
set_option maxRecDepth 20000 in
theorem gL_law_X8_trace : GoodIn wsL_law (wsV RL 147 RX8 yX8_trace wsX8_trace) := goodIn_app (goodIn_of _ (by decide +kernel)) ggL_law_X8_trace
set_option maxRecDepth 20000 in
theorem ggL_law_X7_count : GoodIn wsL_law wsX7_count := goodIn_r _ [927, 18, 497, 240, 498, 928, 400, 27, 379, 23, 221, 129, 929, 930, 931, 2, 932, 13, 199, 178, 179, 43, 180, 106, 945, 946, 947, 948, 949, 950, 951, 952, 953, 954, 955, 989, 990, 991, 992, 993, 994, 995, 996, 997, 1002, 1003, 1004, 1005, 1006, 1007, 998, 999, 1000, 1001, 1023, 1024, 1025] (by decide +kernel) (by decide +kernel)
set_option maxRecDepth 20000 in
theorem gL_law_X7_count : GoodIn wsL_law (wsV RL 148 RX7 yX7_count wsX7_count) := goodIn_app (goodIn_of _ (by decide +kernel)) ggL_law_X7_count
set_option maxRecDepth 20000 in
theorem ggL_law_X8_count : GoodIn wsL_law wsX8_count := goodIn_r _ [936, 112, 116, 321, 322, 232, 151, 956, 957, 958, 959, 960, 961, 962, 963, 964, 965, 966, 967, 968, 969, 970, 971, 972, 973, 974, 975, 976, 977, 978, 979, 980, 981, 982, 983, 984, 985, 986, 987, 988] (by decide +kernel) (by decide +kernel)
set_option maxRecDepth 20000 in
theorem gL_law_X8_count : GoodIn wsL_law (wsV RL 151 RX8 yX8_count wsX8_count) := goodIn_app (goodIn_of _ (by decide +kernel)) ggL_law_X8_count
set_option maxRecDepth 20000 in
theorem ggL_law_X7_status : GoodIn wsL_law wsX7_status := goodIn_r _ [940, 41, 945, 946, 947, 948, 949, 950, 951, 952, 953, 954, 955] (by decide +kernel) (by decide +kernel)
set_option maxRecDepth 20000 in
theorem gL_law_X7_status : GoodIn wsL_law (wsV RL 152 RX7 yX7_status wsX7_status) := goodIn_app (goodIn_of _ (by decide +kernel)) ggL_law_X7_status
set_option maxRecDepth 20000 in
theorem ggL_law_X8_status : GoodIn wsL_law wsX8_status := goodIn_r _ [944, 163, 956, 957, 958, 959, 960, 961, 962, 963, 964, 965, 966, 967, 968, 969, 970, 971, 972, 973, 974, 975, 976, 977, 978, 979, 980, 981, 982, 983, 984, 985, 986, 987, 988] (by decide +kernel) (by decide +kernel)
set_option maxRecDepth 20000 in
theorem gL_law_X8_status : GoodIn wsL_law (wsV RL 155 RX8 yX8_status wsX8_status) := goodIn_app (goodIn_of _ (by decide +kernel)) ggL_law_X8_status

