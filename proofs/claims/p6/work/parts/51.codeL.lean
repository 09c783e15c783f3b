theorem dk_q {c : ByteArray} {t : List (Nat × Instr × Nat)} (h : t.all (fun e => decide (decode c e.1 = .ok e.2)) = true) (i : Nat) {n : Nat} {r : Instr × Nat} (hi : t[i]? = some (n, r)) : decode c n = .ok r := of_decide_eq_true (List.all_eq_true.mp h (n, r) (List.mem_of_getElem? hi))
set_option maxRecDepth 20000 in
theorem ggL_law_X4_init : GoodIn wsL_law wsX4_init := goodIn_r _ [9, 10, 11, 12, 13, 14, 15, 16, 17, 18, 19, 20, 21, 22, 23, 24, 25, 26, 27, 28, 29, 30, 31, 32, 33, 34, 35, 36, 37, 38, 39, 40, 41, 42, 43, 44, 45, 46, 47, 48, 49, 50, 51, 52, 53, 54, 55, 56, 57, 58, 59, 60, 61, 62, 63, 64, 65, 66, 67, 68, 69, 70, 71, 72, 73, 74, 75, 76, 77, 860, 861, 862, 863, 864, 865, 866, 867, 868, 813, 814, 815, 816, 817, 818, 819, 820, 821, 869, 870, 871, 872, 873, 874, 875, 876, 877, 878, 879, 880, 881] rfl (by decide +kernel)
set_option maxRecDepth 20000 in
theorem gL_law_X4_init : GoodIn wsL_law (wsX4_init) := ggL_law_X4_init
set_option maxRecDepth 20000 in
theorem ggL_law_X5_init : GoodIn wsL_law wsX5_init := goodIn_r _ [80, 81, 11, 12, 40, 82, 83, 84, 85, 86, 87, 88, 89, 90, 91, 92, 93, 94, 95, 96, 19, 97, 98, 99, 100, 101, 102, 103, 70, 104, 105, 106, 107, 108, 822, 823, 824, 825, 826, 827, 828, 829, 830, 831, 832, 833, 834, 835, 836, 837, 838, 839, 840, 841, 842, 843, 844, 845, 846, 847, 848, 849, 850, 851, 852, 853, 854, 855, 856, 857, 858, 859] rfl (by decide +kernel)
set_option maxRecDepth 20000 in
theorem gL_law_X5_init : GoodIn wsL_law (wsX5_init) := ggL_law_X5_init
set_option maxRecDepth 20000 in
theorem ggL_law_X4_feed : GoodIn wsL_law wsX4_feed := goodIn_r _ [112, 113, 24, 114, 115, 116, 117, 23, 118, 54, 53, 813, 814, 815, 816, 817, 818, 819, 820, 821, 869, 870, 871, 872, 873, 874, 875, 876, 877, 878] rfl (by decide +kernel)
set_option maxRecDepth 20000 in
theorem gL_law_X4_feed : GoodIn wsL_law (wsV RL 13 RX4 yX4_feed wsX4_feed) := goodIn_app (goodIn_r _ [109, 110, 111, 2] rfl (by decide +kernel)) ggL_law_X4_feed
set_option maxRecDepth 20000 in
theorem ggL_law_X5_feed : GoodIn wsL_law wsX5_feed := goodIn_r _ [122, 123, 124, 125, 126, 88, 127, 128, 5, 129, 822, 823, 824, 825, 826, 827, 828, 829, 830, 831, 832, 833, 834, 835, 836, 837, 838, 839, 840, 841, 842, 843, 844, 845, 846, 847, 848, 849, 850, 851, 852, 853, 854, 855, 856, 857, 858, 859] rfl (by decide +kernel)
set_option maxRecDepth 20000 in
theorem gL_law_X5_feed : GoodIn wsL_law (wsV RL 17 RX5 yX5_feed wsX5_feed) := goodIn_app (goodIn_r _ [119, 120, 121, 5] rfl (by decide +kernel)) ggL_law_X5_feed
set_option maxRecDepth 20000 in
theorem ggL_law_X4_weave : GoodIn wsL_law wsX4_weave := goodIn_r _ [133, 24, 34, 16, 33, 134, 135, 136, 23, 137, 55, 61, 57, 58, 63, 54, 138, 139, 140, 15, 141, 39, 45, 142, 143, 144, 145, 53, 146, 147, 148, 149, 150, 151, 152, 153, 154, 155, 156, 157, 56, 158, 159, 160, 161, 162, 163, 164, 165, 166, 167, 168, 169, 170, 171, 172, 173, 174, 175, 176, 177, 178, 179, 180, 181, 182, 183, 184, 185, 186, 187, 188, 189, 190, 191, 41, 42, 43, 192, 193, 194, 195, 44, 196, 197, 198, 199, 200, 201, 202, 203, 204, 205, 206, 207, 208, 209, 210, 211, 59, 60, 212, 213, 214, 215, 216, 217, 218, 219, 220, 2, 221, 222, 223, 224, 225, 226, 227, 228, 229, 230, 231, 232, 46, 47, 48, 233, 234, 235, 236, 237, 238, 239, 240, 241, 242, 243, 244, 245, 246, 247, 248, 20, 813, 814, 815, 816, 817, 818, 819, 820, 821, 869, 870, 871, 872, 873, 874, 875, 876, 877, 878, 860, 861, 862, 863, 864, 865, 866, 867, 868] rfl (by decide +kernel)
set_option maxRecDepth 20000 in
theorem gL_law_X4_weave : GoodIn wsL_law (wsV RL 18 RX4 yX4_weave wsX4_weave) := goodIn_app (goodIn_r _ [130, 131, 132, 2] rfl (by decide +kernel)) ggL_law_X4_weave
set_option maxRecDepth 20000 in
theorem ggL_law_X5_weave : GoodIn wsL_law wsX5_weave := goodIn_r _ [252, 89, 253, 254, 255, 256, 125, 108, 90, 82, 91, 83, 92, 84, 257, 93, 85, 94, 86, 95, 87, 258, 105, 259, 260, 261, 5, 262, 88, 263, 264, 265, 266, 267, 268, 269, 270, 271, 272, 273, 274, 275, 276, 277, 278, 279, 280, 281, 282, 283, 284, 127, 128, 129, 285, 286, 287, 288, 289, 290, 291, 292, 293, 294, 295, 296, 297, 298, 299, 96, 97, 300, 301, 302, 303, 304, 305, 306, 307, 308, 309, 310, 822, 823, 824, 825, 826, 827, 828, 829, 830, 831, 832, 833, 834, 835, 836, 837, 838, 839, 840, 841, 842, 843, 844, 845, 846, 847, 848, 849, 850, 851, 852, 853, 854, 855, 856, 857, 858, 859] rfl (by decide +kernel)
set_option maxRecDepth 20000 in
theorem gL_law_X5_weave : GoodIn wsL_law (wsV RL 22 RX5 yX5_weave wsX5_weave) := goodIn_app (goodIn_r _ [249, 250, 251, 5] rfl (by decide +kernel)) ggL_law_X5_weave
set_option maxRecDepth 20000 in
theorem ggL_law_X4_fault : GoodIn wsL_law wsX4_fault := goodIn_r _ [314, 34, 813, 814, 815, 816, 817, 818, 819, 820, 821] rfl (by decide +kernel)
set_option maxRecDepth 20000 in
theorem gL_law_X4_fault : GoodIn wsL_law (wsV RL 23 RX4 yX4_fault wsX4_fault) := goodIn_app (goodIn_r _ [311, 312, 313, 2] rfl (by decide +kernel)) ggL_law_X4_fault
set_option maxRecDepth 20000 in
theorem ggL_law_X5_fault : GoodIn wsL_law wsX5_fault := goodIn_r _ [318, 89, 822, 823, 824, 825, 826, 827, 828, 829, 830, 831, 832, 833, 834, 835, 836, 837, 838, 839, 840, 841, 842, 843, 844, 845, 846, 847, 848, 849, 850, 851, 852, 853, 854, 855, 856, 857, 858, 859] rfl (by decide +kernel)
set_option maxRecDepth 20000 in
theorem gL_law_X5_fault : GoodIn wsL_law (wsV RL 26 RX5 yX5_fault wsX5_fault) := goodIn_app (goodIn_r _ [315, 316, 317, 5] rfl (by decide +kernel)) ggL_law_X5_fault
set_option maxRecDepth 20000 in
theorem ggL_law_X4_told : GoodIn wsL_law wsX4_told := goodIn_r _ [322, 16, 33, 24, 28, 113, 323, 324, 325, 15, 326, 41, 327, 328, 329, 2, 330, 331, 332, 333, 334, 335, 197, 198, 199, 44, 336, 337, 338, 339, 340, 341, 342, 343, 45, 344, 345, 346, 347, 47, 48, 348, 349, 350, 351, 352, 353, 354, 355, 356, 357, 358, 359, 360, 361, 362, 363, 364, 365, 366, 367, 368, 369, 370, 371, 372, 373, 374, 375, 376, 377, 378, 39, 180, 181, 182, 379, 380, 381, 27, 382, 72, 813, 814, 815, 816, 817, 818, 819, 820, 821, 860, 861, 862, 863, 864, 865, 866, 867, 868, 869, 870, 871, 872, 873, 874, 875, 876, 877, 878, 879, 880] rfl (by decide +kernel)
set_option maxRecDepth 20000 in
theorem gL_law_X4_told : GoodIn wsL_law (wsV RL 27 RX4 yX4_told wsX4_told) := goodIn_app (goodIn_r _ [319, 320, 321, 2] rfl (by decide +kernel)) ggL_law_X4_told
set_option maxRecDepth 20000 in
theorem ggL_law_X5_told : GoodIn wsL_law wsX5_told := goodIn_r _ [386, 108, 257, 258, 82, 125, 124, 387, 388, 389, 5, 390, 98, 83, 84, 391, 392, 393, 394, 395, 396, 397, 398, 86, 87, 293, 294, 295, 399, 400, 401, 402, 403, 404, 405, 406, 407, 408, 409, 410, 411, 412, 413, 414, 415, 416, 417, 418, 419, 420, 421, 422, 423, 424, 425, 102, 822, 823, 824, 825, 826, 827, 828, 829, 830, 831, 832, 833, 834, 835, 836, 837, 838, 839, 840, 841, 842, 843, 844, 845, 846, 847, 848, 849, 850, 851, 852, 853, 854, 855, 856, 857, 858, 859] rfl (by decide +kernel)
set_option maxRecDepth 20000 in
theorem gL_law_X5_told : GoodIn wsL_law (wsV RL 30 RX5 yX5_told wsX5_told) := goodIn_app (goodIn_r _ [383, 384, 385, 5] rfl (by decide +kernel)) ggL_law_X5_told
set_option maxRecDepth 20000 in
theorem ggL_law_X4_version : GoodIn wsL_law wsX4_version := goodIn_r _ [429, 16, 430, 113, 431, 166, 167, 15, 168, 39, 336, 337, 338, 339, 340, 341, 342, 343, 45, 344, 345, 346, 347, 47, 48, 432, 433, 434, 435, 436, 437, 438, 439, 440, 178, 179, 180, 181, 182, 813, 814, 815, 816, 817, 818, 819, 820, 821, 860, 861, 862, 863, 864, 865, 866, 867, 868] rfl (by decide +kernel)
set_option maxRecDepth 20000 in
theorem gL_law_X4_version : GoodIn wsL_law (wsV RL 31 RX4 yX4_version wsX4_version) := goodIn_app (goodIn_r _ [426, 427, 428, 2] rfl (by decide +kernel)) ggL_law_X4_version
set_option maxRecDepth 20000 in
theorem ggL_law_X5_version : GoodIn wsL_law wsX5_version := goodIn_r _ [444, 445, 82, 83, 84, 124, 446, 447, 448, 5, 449, 108, 127, 128, 129, 387, 388, 389, 390, 98, 391, 392, 393, 394, 257, 395, 396, 397, 398, 86, 87, 293, 294, 295, 450, 451, 452, 453, 454, 455, 456, 457, 822, 823, 824, 825, 826, 827, 828, 829, 830, 831, 832, 833, 834, 835, 836, 837, 838, 839, 840, 841, 842, 843, 844, 845, 846, 847, 848, 849, 850, 851, 852, 853, 854, 855, 856, 857, 858, 859] rfl (by decide +kernel)
set_option maxRecDepth 20000 in
theorem gL_law_X5_version : GoodIn wsL_law (wsV RL 35 RX5 yX5_version wsX5_version) := goodIn_app (goodIn_r _ [441, 442, 443, 5] rfl (by decide +kernel)) ggL_law_X5_version
set_option maxRecDepth 20000 in
theorem ggL_law_X4_line : GoodIn wsL_law wsX4_line := goodIn_r _ [461, 16, 430, 113, 462, 463, 464, 15, 465, 45, 466, 376, 377, 378, 39, 44, 344, 345, 346, 347, 47, 48, 180, 181, 182, 813, 814, 815, 816, 817, 818, 819, 820, 821, 860, 861, 862, 863, 864, 865, 866, 867, 868] rfl (by decide +kernel)
set_option maxRecDepth 20000 in
theorem gL_law_X4_line : GoodIn wsL_law (wsV RL 36 RX4 yX4_line wsX4_line) := goodIn_app (goodIn_r _ [458, 459, 460, 2] rfl (by decide +kernel)) ggL_law_X4_line
set_option maxRecDepth 20000 in
theorem ggL_law_X5_line : GoodIn wsL_law wsX5_line := goodIn_r _ [470, 257, 445, 85, 86, 87, 124, 127, 128, 5, 129, 418, 419, 420, 421, 108, 387, 388, 389, 390, 98, 82, 83, 84, 395, 396, 397, 398, 293, 294, 295, 822, 823, 824, 825, 826, 827, 828, 829, 830, 831, 832, 833, 834, 835, 836, 837, 838, 839, 840, 841, 842, 843, 844, 845, 846, 847, 848, 849, 850, 851, 852, 853, 854, 855, 856, 857, 858, 859] rfl (by decide +kernel)
set_option maxRecDepth 20000 in
theorem gL_law_X5_line : GoodIn wsL_law (wsV RL 39 RX5 yX5_line wsX5_line) := goodIn_app (goodIn_r _ [467, 468, 469, 5] rfl (by decide +kernel)) ggL_law_X5_line
set_option maxRecDepth 20000 in
theorem ggL_law_X4_text : GoodIn wsL_law wsX4_text := goodIn_r _ [474, 16, 430, 113, 33, 475, 431, 166, 167, 15, 168, 39, 335, 197, 198, 199, 44, 476, 477, 478, 479, 45, 344, 345, 346, 347, 47, 48, 462, 463, 464, 465, 813, 814, 815, 816, 817, 818, 819, 820, 821, 860, 861, 862, 863, 864, 865, 866, 867, 868] rfl (by decide +kernel)
set_option maxRecDepth 20000 in
theorem gL_law_X4_text : GoodIn wsL_law (wsV RL 40 RX4 yX4_text wsX4_text) := goodIn_app (goodIn_r _ [471, 472, 473, 2] rfl (by decide +kernel)) ggL_law_X4_text
set_option maxRecDepth 20000 in
theorem ggL_law_X5_text : GoodIn wsL_law wsX5_text := goodIn_r _ [483, 445, 484, 124, 258, 485, 108, 85, 86, 446, 447, 448, 5, 449, 127, 128, 129, 387, 388, 389, 390, 98, 82, 83, 84, 486, 487, 488, 489, 257, 395, 396, 397, 398, 87, 293, 294, 295, 822, 823, 824, 825, 826, 827, 828, 829, 830, 831, 832, 833, 834, 835, 836, 837, 838, 839, 840, 841, 842, 843, 844, 845, 846, 847, 848, 849, 850, 851, 852, 853, 854, 855, 856, 857, 858, 859] rfl (by decide +kernel)
set_option maxRecDepth 20000 in
theorem gL_law_X5_text : GoodIn wsL_law (wsV RL 44 RX5 yX5_text wsX5_text) := goodIn_app (goodIn_r _ [480, 481, 482, 5] rfl (by decide +kernel)) ggL_law_X5_text
set_option maxRecDepth 20000 in
theorem ggL_law_X4_open : GoodIn wsL_law wsX4_open := goodIn_r _ [493, 16, 430, 33, 475, 114, 17, 431, 166, 167, 15, 168, 39, 241, 242, 243, 244, 41, 237, 238, 239, 240, 42, 43, 44, 45, 46, 47, 48, 494, 189, 190, 191, 192, 193, 194, 195, 196, 197, 198, 199, 180, 181, 182, 813, 814, 815, 816, 817, 818, 819, 820, 821, 860, 861, 862, 863, 864, 865, 866, 867, 868] rfl (by decide +kernel)
set_option maxRecDepth 20000 in
theorem gL_law_X4_open : GoodIn wsL_law (wsV RL 45 RX4 yX4_open wsX4_open) := goodIn_app (goodIn_r _ [490, 491, 492, 2] rfl (by decide +kernel)) ggL_law_X4_open
set_option maxRecDepth 20000 in
theorem ggL_law_X5_open : GoodIn wsL_law wsX5_open := goodIn_r _ [498, 445, 258, 485, 108, 126, 446, 447, 448, 5, 449, 127, 128, 129, 499, 500, 501, 502, 257, 503, 85, 99, 86, 100, 87, 101, 82, 83, 84, 308, 309, 310, 822, 823, 824, 825, 826, 827, 828, 829, 830, 831, 832, 833, 834, 835, 836, 837, 838, 839, 840, 841, 842, 843, 844, 845, 846, 847, 848, 849, 850, 851, 852, 853, 854, 855, 856, 857, 858, 859] rfl (by decide +kernel)
set_option maxRecDepth 20000 in
theorem gL_law_X5_open : GoodIn wsL_law (wsV RL 48 RX5 yX5_open wsX5_open) := goodIn_app (goodIn_r _ [495, 496, 497, 5] rfl (by decide +kernel)) ggL_law_X5_open
set_option maxRecDepth 20000 in
theorem ggL_law_X4_include : GoodIn wsL_law wsX4_include := goodIn_r _ [507, 16, 430, 33, 475, 431, 166, 167, 15, 168, 39, 331, 332, 333, 2, 334, 335, 197, 198, 199, 44, 508, 178, 179, 180, 181, 182, 509, 510, 511, 512, 43, 42, 192, 193, 194, 195, 41, 196, 327, 328, 329, 330, 336, 337, 338, 339, 340, 341, 342, 343, 45, 344, 345, 346, 347, 47, 48, 813, 814, 815, 816, 817, 818, 819, 820, 821, 860, 861, 862, 863, 864, 865, 866, 867, 868] rfl (by decide +kernel)
set_option maxRecDepth 20000 in
theorem gL_law_X4_include : GoodIn wsL_law (wsV RL 49 RX4 yX4_include wsX4_include) := goodIn_app (goodIn_r _ [504, 505, 506, 2] rfl (by decide +kernel)) ggL_law_X4_include
set_option maxRecDepth 20000 in
theorem ggL_law_X5_include : GoodIn wsL_law wsX5_include := goodIn_r _ [516, 445, 258, 485, 84, 108, 83, 446, 447, 448, 5, 449, 127, 128, 129, 517, 518, 519, 520, 387, 388, 389, 390, 98, 82, 293, 294, 295, 521, 522, 523, 524, 391, 392, 393, 394, 257, 395, 396, 397, 398, 86, 87, 822, 823, 824, 825, 826, 827, 828, 829, 830, 831, 832, 833, 834, 835, 836, 837, 838, 839, 840, 841, 842, 843, 844, 845, 846, 847, 848, 849, 850, 851, 852, 853, 854, 855, 856, 857, 858, 859] rfl (by decide +kernel)
set_option maxRecDepth 20000 in
theorem gL_law_X5_include : GoodIn wsL_law (wsV RL 52 RX5 yX5_include wsX5_include) := goodIn_app (goodIn_r _ [513, 514, 515, 5] rfl (by decide +kernel)) ggL_law_X5_include
set_option maxRecDepth 20000 in
theorem ggL_law_X4_exclude : GoodIn wsL_law wsX4_exclude := goodIn_r _ [528, 16, 430, 33, 475, 431, 166, 167, 15, 168, 39, 331, 332, 333, 2, 334, 335, 197, 198, 199, 44, 508, 178, 179, 180, 181, 182, 529, 530, 531, 532, 42, 43, 192, 193, 194, 195, 41, 196, 327, 328, 329, 330, 336, 337, 338, 339, 340, 341, 342, 343, 45, 344, 345, 346, 347, 47, 48, 813, 814, 815, 816, 817, 818, 819, 820, 821, 860, 861, 862, 863, 864, 865, 866, 867, 868] rfl (by decide +kernel)
set_option maxRecDepth 20000 in
theorem gL_law_X4_exclude : GoodIn wsL_law (wsV RL 53 RX4 yX4_exclude wsX4_exclude) := goodIn_app (goodIn_r _ [525, 526, 527, 2] rfl (by decide +kernel)) ggL_law_X4_exclude
set_option maxRecDepth 20000 in
theorem ggL_law_X5_exclude : GoodIn wsL_law wsX5_exclude := goodIn_r _ [536, 445, 258, 485, 83, 108, 84, 446, 447, 448, 5, 449, 127, 128, 129, 517, 518, 519, 520, 387, 388, 389, 390, 98, 82, 293, 294, 295, 521, 522, 523, 524, 391, 392, 393, 394, 257, 395, 396, 397, 398, 86, 87, 822, 823, 824, 825, 826, 827, 828, 829, 830, 831, 832, 833, 834, 835, 836, 837, 838, 839, 840, 841, 842, 843, 844, 845, 846, 847, 848, 849, 850, 851, 852, 853, 854, 855, 856, 857, 858, 859] rfl (by decide +kernel)
set_option maxRecDepth 20000 in
theorem gL_law_X5_exclude : GoodIn wsL_law (wsV RL 56 RX5 yX5_exclude wsX5_exclude) := goodIn_app (goodIn_r _ [533, 534, 535, 5] rfl (by decide +kernel)) ggL_law_X5_exclude
set_option maxRecDepth 20000 in
theorem ggL_law_X4_put : GoodIn wsL_law wsX4_put := goodIn_r _ [540, 113, 33, 475, 16, 114, 541, 220, 2, 221, 327, 328, 329, 330, 331, 332, 333, 334, 335, 197, 198, 15, 199, 44, 336, 337, 338, 339, 340, 341, 342, 343, 45, 344, 345, 346, 347, 47, 48, 542, 543, 544, 545, 39, 196, 546, 477, 478, 479, 547, 230, 231, 232, 46, 233, 234, 235, 236, 237, 238, 239, 240, 813, 814, 815, 816, 817, 818, 819, 820, 821, 860, 861, 862, 863, 864, 865, 866, 867, 868] rfl (by decide +kernel)
set_option maxRecDepth 20000 in
theorem gL_law_X4_put : GoodIn wsL_law (wsV RL 57 RX4 yX4_put wsX4_put) := goodIn_app (goodIn_r _ [537, 538, 539, 2] rfl (by decide +kernel)) ggL_law_X4_put
set_option maxRecDepth 20000 in
theorem ggL_law_X5_put : GoodIn wsL_law wsX5_put := goodIn_r _ [551, 267, 268, 124, 258, 485, 257, 126, 127, 128, 5, 129, 521, 522, 523, 524, 108, 387, 388, 389, 390, 98, 82, 83, 84, 391, 392, 393, 394, 395, 396, 397, 398, 86, 87, 293, 294, 295, 552, 553, 554, 555, 85, 486, 487, 488, 489, 822, 823, 824, 825, 826, 827, 828, 829, 830, 831, 832, 833, 834, 835, 836, 837, 838, 839, 840, 841, 842, 843, 844, 845, 846, 847, 848, 849, 850, 851, 852, 853, 854, 855, 856, 857, 858, 859] rfl (by decide +kernel)
set_option maxRecDepth 20000 in
theorem gL_law_X5_put : GoodIn wsL_law (wsV RL 60 RX5 yX5_put wsX5_put) := goodIn_app (goodIn_r _ [548, 549, 550, 5] rfl (by decide +kernel)) ggL_law_X5_put
set_option maxRecDepth 20000 in
theorem ggL_law_X4_take : GoodIn wsL_law wsX4_take := goodIn_r _ [559, 113, 33, 475, 16, 327, 328, 329, 2, 330, 331, 332, 333, 334, 335, 197, 198, 15, 199, 44, 336, 337, 338, 339, 340, 341, 342, 343, 45, 344, 345, 346, 347, 47, 48, 560, 561, 562, 563, 39, 46, 196, 546, 477, 478, 479, 564, 463, 464, 465, 565, 566, 567, 568, 233, 234, 235, 236, 237, 238, 239, 240, 180, 181, 182, 813, 814, 815, 816, 817, 818, 819, 820, 821, 860, 861, 862, 863, 864, 865, 866, 867, 868] rfl (by decide +kernel)
set_option maxRecDepth 20000 in
theorem gL_law_X4_take : GoodIn wsL_law (wsV RL 61 RX4 yX4_take wsX4_take) := goodIn_app (goodIn_r _ [556, 557, 558, 2] rfl (by decide +kernel)) ggL_law_X4_take
set_option maxRecDepth 20000 in
theorem ggL_law_X5_take : GoodIn wsL_law wsX5_take := goodIn_r _ [572, 124, 258, 108, 485, 387, 388, 389, 5, 390, 98, 82, 83, 84, 486, 487, 488, 489, 257, 395, 396, 397, 398, 86, 87, 293, 294, 295, 573, 574, 575, 576, 85, 822, 823, 824, 825, 826, 827, 828, 829, 830, 831, 832, 833, 834, 835, 836, 837, 838, 839, 840, 841, 842, 843, 844, 845, 846, 847, 848, 849, 850, 851, 852, 853, 854, 855, 856, 857, 858, 859] rfl (by decide +kernel)
set_option maxRecDepth 20000 in
theorem gL_law_X5_take : GoodIn wsL_law (wsV RL 64 RX5 yX5_take wsX5_take) := goodIn_app (goodIn_r _ [569, 570, 571, 5] rfl (by decide +kernel)) ggL_law_X5_take
set_option maxRecDepth 20000 in
theorem ggL_law_X4_close : GoodIn wsL_law wsX4_close := goodIn_r _ [580, 33, 475, 16, 581, 201, 202, 15, 203, 39, 813, 814, 815, 816, 817, 818, 819, 820, 821, 860, 861, 862, 863, 864, 865, 866, 867, 868] rfl (by decide +kernel)
set_option maxRecDepth 20000 in
theorem gL_law_X4_close : GoodIn wsL_law (wsV RL 65 RX4 yX4_close wsX4_close) := goodIn_app (goodIn_r _ [577, 578, 579, 2] rfl (by decide +kernel)) ggL_law_X4_close
set_option maxRecDepth 20000 in
theorem ggL_law_X5_close : GoodIn wsL_law wsX5_close := goodIn_r _ [585, 258, 485, 108, 822, 823, 824, 825, 826, 827, 828, 829, 830, 831, 832, 833, 834, 835, 836, 837, 838, 839, 840, 841, 842, 843, 844, 845, 846, 847, 848, 849, 850, 851, 852, 853, 854, 855, 856, 857, 858, 859] rfl (by decide +kernel)
set_option maxRecDepth 20000 in
theorem gL_law_X5_close : GoodIn wsL_law (wsV RL 68 RX5 yX5_close wsX5_close) := goodIn_app (goodIn_r _ [582, 583, 584, 5] rfl (by decide +kernel)) ggL_law_X5_close
set_option maxRecDepth 20000 in
theorem ggL_law_X4_leave : GoodIn wsL_law wsX4_leave := goodIn_r _ [589, 33, 475, 16, 17, 327, 328, 329, 2, 330, 331, 332, 333, 334, 335, 197, 198, 15, 199, 44, 336, 337, 338, 339, 340, 341, 342, 343, 45, 344, 345, 346, 347, 47, 48, 241, 242, 243, 244, 39, 41, 237, 238, 239, 240, 42, 43, 46, 813, 814, 815, 816, 817, 818, 819, 820, 821, 860, 861, 862, 863, 864, 865, 866, 867, 868] rfl (by decide +kernel)
set_option maxRecDepth 20000 in
theorem gL_law_X4_leave : GoodIn wsL_law (wsV RL 69 RX4 yX4_leave wsX4_leave) := goodIn_app (goodIn_r _ [586, 587, 588, 2] rfl (by decide +kernel)) ggL_law_X4_leave
set_option maxRecDepth 20000 in
theorem ggL_law_X5_leave : GoodIn wsL_law wsX5_leave := goodIn_r _ [593, 258, 485, 503, 257, 99, 85, 100, 86, 101, 87, 521, 522, 523, 5, 524, 108, 387, 388, 389, 390, 98, 82, 83, 84, 391, 392, 393, 394, 395, 396, 397, 398, 293, 294, 295, 308, 309, 310, 822, 823, 824, 825, 826, 827, 828, 829, 830, 831, 832, 833, 834, 835, 836, 837, 838, 839, 840, 841, 842, 843, 844, 845, 846, 847, 848, 849, 850, 851, 852, 853, 854, 855, 856, 857, 858, 859] rfl (by decide +kernel)
set_option maxRecDepth 20000 in
theorem gL_law_X5_leave : GoodIn wsL_law (wsV RL 72 RX5 yX5_leave wsX5_leave) := goodIn_app (goodIn_r _ [590, 591, 592, 5] rfl (by decide +kernel)) ggL_law_X5_leave
set_option maxRecDepth 20000 in
theorem ggL_law_X4_drift : GoodIn wsL_law wsX4_drift := goodIn_r _ [597, 598, 113, 33, 16, 475, 32, 599, 600, 601, 31, 602, 77, 603, 604, 605, 2, 606, 607, 608, 609, 610, 611, 612, 494, 189, 190, 15, 191, 39, 41, 42, 43, 192, 193, 194, 195, 44, 196, 197, 198, 199, 180, 181, 182, 613, 614, 615, 616, 327, 328, 329, 330, 331, 332, 333, 334, 335, 336, 337, 338, 339, 340, 341, 342, 343, 45, 344, 345, 346, 347, 47, 48, 560, 561, 562, 563, 46, 546, 477, 478, 479, 564, 463, 464, 465, 565, 566, 567, 568, 233, 234, 235, 236, 237, 238, 239, 240, 542, 543, 544, 545, 547, 230, 231, 232, 581, 201, 202, 203, 813, 814, 815, 816, 817, 818, 819, 820, 821, 860, 861, 862, 863, 864, 865, 866, 867, 868, 881] rfl (by decide +kernel)
set_option maxRecDepth 20000 in
theorem gL_law_X4_drift : GoodIn wsL_law (wsV RL 73 RX4 yX4_drift wsX4_drift) := goodIn_app (goodIn_r _ [594, 595, 596, 2] rfl (by decide +kernel)) ggL_law_X4_drift
set_option maxRecDepth 20000 in
theorem ggL_law_X5_drift : GoodIn wsL_law wsX5_drift := goodIn_r _ [620, 621, 622, 124, 258, 108, 485, 623, 127, 128, 5, 129, 624, 625, 626, 627, 628, 629, 499, 500, 501, 502, 257, 503, 85, 99, 86, 100, 87, 101, 82, 83, 84, 308, 309, 310, 630, 631, 632, 633, 521, 522, 523, 524, 387, 388, 389, 390, 98, 391, 392, 393, 394, 395, 396, 397, 398, 293, 294, 295, 486, 487, 488, 489, 573, 574, 575, 576, 552, 553, 554, 555, 822, 823, 824, 825, 826, 827, 828, 829, 830, 831, 832, 833, 834, 835, 836, 837, 838, 839, 840, 841, 842, 843, 844, 845, 846, 847, 848, 849, 850, 851, 852, 853, 854, 855, 856, 857, 858, 859] rfl (by decide +kernel)
set_option maxRecDepth 20000 in
theorem gL_law_X5_drift : GoodIn wsL_law (wsV RL 76 RX5 yX5_drift wsX5_drift) := goodIn_app (goodIn_r _ [617, 618, 619, 5] rfl (by decide +kernel)) ggL_law_X5_drift
set_option maxRecDepth 20000 in
theorem ggL_law_X4_share : GoodIn wsL_law wsX4_share := goodIn_r _ [637, 16, 430, 431, 166, 167, 15, 168, 39, 638, 639, 640, 641, 45, 47, 344, 345, 346, 347, 48, 813, 814, 815, 816, 817, 818, 819, 820, 821, 860, 861, 862, 863, 864, 865, 866, 867, 868] rfl (by decide +kernel)
set_option maxRecDepth 20000 in
theorem gL_law_X4_share : GoodIn wsL_law (wsV RL 77 RX4 yX4_share wsX4_share) := goodIn_app (goodIn_r _ [634, 635, 636, 2] rfl (by decide +kernel)) ggL_law_X4_share
set_option maxRecDepth 20000 in
theorem ggL_law_X5_share : GoodIn wsL_law wsX5_share := goodIn_r _ [645, 445, 257, 86, 446, 447, 448, 5, 449, 108, 127, 128, 129, 387, 388, 389, 390, 98, 82, 83, 84, 395, 396, 397, 398, 87, 293, 294, 295, 822, 823, 824, 825, 826, 827, 828, 829, 830, 831, 832, 833, 834, 835, 836, 837, 838, 839, 840, 841, 842, 843, 844, 845, 846, 847, 848, 849, 850, 851, 852, 853, 854, 855, 856, 857, 858, 859] rfl (by decide +kernel)
set_option maxRecDepth 20000 in
theorem gL_law_X5_share : GoodIn wsL_law (wsV RL 80 RX5 yX5_share wsX5_share) := goodIn_app (goodIn_r _ [642, 643, 644, 5] rfl (by decide +kernel)) ggL_law_X5_share
set_option maxRecDepth 20000 in
theorem ggL_law_X4_alike : GoodIn wsL_law wsX4_alike := goodIn_r _ [649, 430, 16, 113, 650, 651, 652, 2, 653, 431, 166, 167, 15, 168, 39, 654, 341, 342, 343, 45, 344, 345, 346, 347, 47, 48, 336, 337, 338, 339, 340, 655, 656, 657, 658, 813, 814, 815, 816, 817, 818, 819, 820, 821, 860, 861, 862, 863, 864, 865, 866, 867, 868] rfl (by decide +kernel)
set_option maxRecDepth 20000 in
theorem gL_law_X4_alike : GoodIn wsL_law (wsV RL 81 RX4 yX4_alike wsX4_alike) := goodIn_app (goodIn_r _ [646, 647, 648, 2] rfl (by decide +kernel)) ggL_law_X4_alike
set_option maxRecDepth 20000 in
theorem ggL_law_X5_alike : GoodIn wsL_law wsX5_alike := goodIn_r _ [662, 445, 124, 446, 447, 448, 5, 449, 108, 127, 128, 129, 387, 388, 389, 390, 98, 82, 83, 84, 663, 664, 665, 666, 257, 395, 396, 397, 398, 86, 87, 293, 294, 295, 391, 392, 393, 394, 667, 668, 669, 670, 486, 487, 488, 489, 822, 823, 824, 825, 826, 827, 828, 829, 830, 831, 832, 833, 834, 835, 836, 837, 838, 839, 840, 841, 842, 843, 844, 845, 846, 847, 848, 849, 850, 851, 852, 853, 854, 855, 856, 857, 858, 859] rfl (by decide +kernel)
set_option maxRecDepth 20000 in
theorem gL_law_X5_alike : GoodIn wsL_law (wsV RL 84 RX5 yX5_alike wsX5_alike) := goodIn_app (goodIn_r _ [659, 660, 661, 5] rfl (by decide +kernel)) ggL_law_X5_alike
set_option maxRecDepth 20000 in
theorem ggL_law_X4_without : GoodIn wsL_law wsX4_without := goodIn_r _ [674, 430, 16, 650, 651, 652, 2, 653, 431, 166, 167, 15, 168, 39, 675, 181, 182, 336, 337, 338, 339, 340, 341, 342, 343, 45, 344, 345, 346, 347, 47, 48, 813, 814, 815, 816, 817, 818, 819, 820, 821, 860, 861, 862, 863, 864, 865, 866, 867, 868] rfl (by decide +kernel)
set_option maxRecDepth 20000 in
theorem gL_law_X4_without : GoodIn wsL_law (wsV RL 85 RX4 yX4_without wsX4_without) := goodIn_app (goodIn_r _ [671, 672, 673, 2] rfl (by decide +kernel)) ggL_law_X4_without
set_option maxRecDepth 20000 in
theorem ggL_law_X5_without : GoodIn wsL_law wsX5_without := goodIn_r _ [679, 445, 446, 447, 448, 5, 449, 108, 127, 128, 129, 387, 388, 389, 390, 98, 82, 83, 84, 391, 392, 393, 394, 257, 395, 396, 397, 398, 86, 87, 293, 294, 295, 822, 823, 824, 825, 826, 827, 828, 829, 830, 831, 832, 833, 834, 835, 836, 837, 838, 839, 840, 841, 842, 843, 844, 845, 846, 847, 848, 849, 850, 851, 852, 853, 854, 855, 856, 857, 858, 859] rfl (by decide +kernel)
set_option maxRecDepth 20000 in
theorem gL_law_X5_without : GoodIn wsL_law (wsV RL 88 RX5 yX5_without wsX5_without) := goodIn_app (goodIn_r _ [676, 677, 678, 5] rfl (by decide +kernel)) ggL_law_X5_without
set_option maxRecDepth 20000 in
theorem ggL_law_X4_near : GoodIn wsL_law wsX4_near := goodIn_r _ [683, 430, 16, 650, 651, 652, 2, 653, 431, 166, 167, 15, 168, 39, 684, 685, 686, 687, 41, 180, 181, 182, 508, 178, 179, 813, 814, 815, 816, 817, 818, 819, 820, 821, 860, 861, 862, 863, 864, 865, 866, 867, 868] rfl (by decide +kernel)
set_option maxRecDepth 20000 in
theorem gL_law_X4_near : GoodIn wsL_law (wsV RL 89 RX4 yX4_near wsX4_near) := goodIn_app (goodIn_r _ [680, 681, 682, 2] rfl (by decide +kernel)) ggL_law_X4_near
set_option maxRecDepth 20000 in
theorem ggL_law_X5_near : GoodIn wsL_law wsX5_near := goodIn_r _ [691, 445, 446, 447, 448, 5, 449, 108, 127, 128, 129, 692, 693, 694, 695, 82, 293, 294, 295, 822, 823, 824, 825, 826, 827, 828, 829, 830, 831, 832, 833, 834, 835, 836, 837, 838, 839, 840, 841, 842, 843, 844, 845, 846, 847, 848, 849, 850, 851, 852, 853, 854, 855, 856, 857, 858, 859] rfl (by decide +kernel)
set_option maxRecDepth 20000 in
theorem gL_law_X5_near : GoodIn wsL_law (wsV RL 92 RX5 yX5_near wsX5_near) := goodIn_app (goodIn_r _ [688, 689, 690, 5] rfl (by decide +kernel)) ggL_law_X5_near
set_option maxRecDepth 20000 in
theorem ggL_law_X4_block : GoodIn wsL_law wsX4_block := goodIn_r _ [699, 113, 16, 700, 701, 702, 15, 703, 45, 352, 353, 354, 355, 47, 48, 704, 705, 706, 707, 813, 814, 815, 816, 817, 818, 819, 820, 821, 860, 861, 862, 863, 864, 865, 866, 867, 868] rfl (by decide +kernel)
set_option maxRecDepth 20000 in
theorem gL_law_X4_block : GoodIn wsL_law (wsV RL 93 RX4 yX4_block wsX4_block) := goodIn_app (goodIn_r _ [696, 697, 698, 2] rfl (by decide +kernel)) ggL_law_X4_block
set_option maxRecDepth 20000 in
theorem ggL_law_X5_block : GoodIn wsL_law wsX5_block := goodIn_r _ [711, 124, 257, 127, 128, 5, 129, 399, 400, 401, 402, 403, 404, 405, 406, 86, 87, 822, 823, 824, 825, 826, 827, 828, 829, 830, 831, 832, 833, 834, 835, 836, 837, 838, 839, 840, 841, 842, 843, 844, 845, 846, 847, 848, 849, 850, 851, 852, 853, 854, 855, 856, 857, 858, 859] rfl (by decide +kernel)
set_option maxRecDepth 20000 in
theorem gL_law_X5_block : GoodIn wsL_law (wsV RL 96 RX5 yX5_block wsX5_block) := goodIn_app (goodIn_r _ [708, 709, 710, 5] rfl (by decide +kernel)) ggL_law_X5_block
set_option maxRecDepth 20000 in
theorem ggL_law_X4_sheet : GoodIn wsL_law wsX4_sheet := goodIn_r _ [715, 28, 430, 113, 716, 717, 718, 27, 719, 720, 721, 722, 723, 71, 72, 813, 814, 815, 816, 817, 818, 819, 820, 821, 879, 880] rfl (by decide +kernel)
set_option maxRecDepth 20000 in
theorem gL_law_X4_sheet : GoodIn wsL_law (wsV RL 97 RX4 yX4_sheet wsX4_sheet) := goodIn_app (goodIn_r _ [712, 713, 714, 2] rfl (by decide +kernel)) ggL_law_X4_sheet
set_option maxRecDepth 20000 in
theorem ggL_law_X5_sheet : GoodIn wsL_law wsX5_sheet := goodIn_r _ [727, 445, 728, 124, 102, 103, 104, 729, 730, 5, 731, 732, 127, 128, 129, 822, 823, 824, 825, 826, 827, 828, 829, 830, 831, 832, 833, 834, 835, 836, 837, 838, 839, 840, 841, 842, 843, 844, 845, 846, 847, 848, 849, 850, 851, 852, 853, 854, 855, 856, 857, 858, 859] rfl (by decide +kernel)
set_option maxRecDepth 20000 in
theorem gL_law_X5_sheet : GoodIn wsL_law (wsV RL 100 RX5 yX5_sheet wsX5_sheet) := goodIn_app (goodIn_r _ [724, 725, 726, 5] rfl (by decide +kernel)) ggL_law_X5_sheet
set_option maxRecDepth 20000 in
theorem ggL_law_X4_set : GoodIn wsL_law wsX4_set := goodIn_r _ [736, 28, 737, 738, 739, 27, 740, 741, 72, 742, 743, 744, 717, 718, 719, 813, 814, 815, 816, 817, 818, 819, 820, 821, 879, 880] rfl (by decide +kernel)
set_option maxRecDepth 20000 in
theorem gL_law_X4_set : GoodIn wsL_law (wsV RL 103 RX4 yX4_set wsX4_set) := goodIn_app (goodIn_r _ [733, 734, 735, 2] rfl (by decide +kernel)) ggL_law_X4_set
set_option maxRecDepth 20000 in
theorem ggL_law_X5_set : GoodIn wsL_law wsX5_set := goodIn_r _ [748, 104, 749, 750, 751, 5, 752, 445, 102, 753, 103, 754, 729, 730, 731, 732, 127, 128, 129, 822, 823, 824, 825, 826, 827, 828, 829, 830, 831, 832, 833, 834, 835, 836, 837, 838, 839, 840, 841, 842, 843, 844, 845, 846, 847, 848, 849, 850, 851, 852, 853, 854, 855, 856, 857, 858, 859] rfl (by decide +kernel)
set_option maxRecDepth 20000 in
theorem gL_law_X5_set : GoodIn wsL_law (wsV RL 107 RX5 yX5_set wsX5_set) := goodIn_app (goodIn_r _ [745, 746, 747, 5] rfl (by decide +kernel)) ggL_law_X5_set
set_option maxRecDepth 20000 in
theorem ggL_law_X4_get : GoodIn wsL_law wsX4_get := goodIn_r _ [758, 28, 737, 738, 739, 27, 740, 741, 72, 742, 743, 744, 717, 718, 719, 813, 814, 815, 816, 817, 818, 819, 820, 821, 879, 880] rfl (by decide +kernel)
set_option maxRecDepth 20000 in
theorem gL_law_X4_get : GoodIn wsL_law (wsV RL 108 RX4 yX4_get wsX4_get) := goodIn_app (goodIn_r _ [755, 756, 757, 2] rfl (by decide +kernel)) ggL_law_X4_get
set_option maxRecDepth 20000 in
theorem ggL_law_X5_get : GoodIn wsL_law wsX5_get := goodIn_r _ [762, 104, 749, 750, 751, 5, 752, 445, 102, 753, 103, 754, 729, 730, 731, 732, 127, 128, 129, 822, 823, 824, 825, 826, 827, 828, 829, 830, 831, 832, 833, 834, 835, 836, 837, 838, 839, 840, 841, 842, 843, 844, 845, 846, 847, 848, 849, 850, 851, 852, 853, 854, 855, 856, 857, 858, 859] rfl (by decide +kernel)
set_option maxRecDepth 20000 in
theorem gL_law_X5_get : GoodIn wsL_law (wsV RL 112 RX5 yX5_get wsX5_get) := goodIn_app (goodIn_r _ [759, 760, 761, 5] rfl (by decide +kernel)) ggL_law_X5_get
set_option maxRecDepth 20000 in
theorem ggL_law_X4_drop : GoodIn wsL_law wsX4_drop := goodIn_r _ [766, 28, 737, 738, 739, 27, 740, 741, 72, 742, 743, 744, 717, 718, 719, 813, 814, 815, 816, 817, 818, 819, 820, 821, 879, 880] rfl (by decide +kernel)
set_option maxRecDepth 20000 in
theorem gL_law_X4_drop : GoodIn wsL_law (wsV RL 113 RX4 yX4_drop wsX4_drop) := goodIn_app (goodIn_r _ [763, 764, 765, 2] rfl (by decide +kernel)) ggL_law_X4_drop
set_option maxRecDepth 20000 in
theorem ggL_law_X5_drop : GoodIn wsL_law wsX5_drop := goodIn_r _ [770, 445, 102, 753, 103, 729, 730, 5, 731, 732, 127, 128, 129, 822, 823, 824, 825, 826, 827, 828, 829, 830, 831, 832, 833, 834, 835, 836, 837, 838, 839, 840, 841, 842, 843, 844, 845, 846, 847, 848, 849, 850, 851, 852, 853, 854, 855, 856, 857, 858, 859] rfl (by decide +kernel)
set_option maxRecDepth 20000 in
theorem gL_law_X5_drop : GoodIn wsL_law (wsV RL 116 RX5 yX5_drop wsX5_drop) := goodIn_app (goodIn_r _ [767, 768, 769, 5] rfl (by decide +kernel)) ggL_law_X5_drop
set_option maxRecDepth 20000 in
theorem ggL_law_X4_film : GoodIn wsL_law wsX4_film := goodIn_r _ [774, 16, 430, 28, 431, 166, 167, 15, 168, 39, 336, 337, 338, 339, 340, 341, 342, 343, 45, 344, 345, 346, 347, 47, 48, 737, 738, 739, 27, 740, 741, 72, 742, 743, 744, 717, 718, 719, 775, 776, 777, 778, 779, 46, 780, 781, 375, 376, 377, 378, 44, 180, 181, 182, 813, 814, 815, 816, 817, 818, 819, 820, 821, 860, 861, 862, 863, 864, 865, 866, 867, 868, 879, 880] rfl (by decide +kernel)
set_option maxRecDepth 20000 in
theorem gL_law_X4_film : GoodIn wsL_law (wsV RL 117 RX4 yX4_film wsX4_film) := goodIn_app (goodIn_r _ [771, 772, 773, 2] rfl (by decide +kernel)) ggL_law_X4_film
set_option maxRecDepth 20000 in
theorem ggL_law_X5_film : GoodIn wsL_law wsX5_film := goodIn_r _ [785, 445, 104, 85, 786, 86, 787, 446, 447, 448, 5, 449, 108, 127, 128, 129, 729, 730, 731, 732, 387, 388, 389, 390, 98, 82, 83, 84, 391, 392, 393, 394, 257, 395, 396, 397, 398, 87, 293, 294, 295, 749, 750, 751, 752, 102, 753, 103, 754, 486, 487, 488, 489, 418, 419, 420, 421, 822, 823, 824, 825, 826, 827, 828, 829, 830, 831, 832, 833, 834, 835, 836, 837, 838, 839, 840, 841, 842, 843, 844, 845, 846, 847, 848, 849, 850, 851, 852, 853, 854, 855, 856, 857, 858, 859] rfl (by decide +kernel)
set_option maxRecDepth 20000 in
theorem gL_law_X5_film : GoodIn wsL_law (wsV RL 120 RX5 yX5_film wsX5_film) := goodIn_app (goodIn_r _ [782, 783, 784, 5] rfl (by decide +kernel)) ggL_law_X5_film
set_option maxRecDepth 20000 in
theorem ggL_law_X4_isFilm : GoodIn wsL_law wsX4_isFilm := goodIn_r _ [791, 16, 28, 430, 113, 792, 431, 166, 167, 15, 168, 39, 716, 717, 718, 27, 719, 737, 738, 739, 740, 741, 72, 742, 743, 744, 336, 337, 338, 339, 340, 341, 342, 343, 45, 344, 345, 346, 347, 47, 48, 775, 813, 814, 815, 816, 817, 818, 819, 820, 821, 860, 861, 862, 863, 864, 865, 866, 867, 868, 879, 880] rfl (by decide +kernel)
set_option maxRecDepth 20000 in
theorem gL_law_X4_isFilm : GoodIn wsL_law (wsV RL 121 RX4 yX4_isFilm wsX4_isFilm) := goodIn_app (goodIn_r _ [788, 789, 790, 2] rfl (by decide +kernel)) ggL_law_X4_isFilm
set_option maxRecDepth 20000 in
theorem ggL_law_X5_isFilm : GoodIn wsL_law wsX5_isFilm := goodIn_r _ [796, 445, 124, 104, 123, 85, 446, 447, 448, 5, 449, 108, 127, 128, 129, 729, 730, 731, 732, 749, 750, 751, 752, 102, 753, 103, 754, 387, 388, 389, 390, 98, 82, 83, 84, 391, 392, 393, 394, 257, 395, 396, 397, 398, 86, 87, 293, 294, 295, 486, 487, 488, 489, 822, 823, 824, 825, 826, 827, 828, 829, 830, 831, 832, 833, 834, 835, 836, 837, 838, 839, 840, 841, 842, 843, 844, 845, 846, 847, 848, 849, 850, 851, 852, 853, 854, 855, 856, 857, 858, 859] rfl (by decide +kernel)
set_option maxRecDepth 20000 in
theorem gL_law_X5_isFilm : GoodIn wsL_law (wsV RL 125 RX5 yX5_isFilm wsX5_isFilm) := goodIn_app (goodIn_r _ [793, 794, 795, 5] rfl (by decide +kernel)) ggL_law_X5_isFilm
set_option maxRecDepth 20000 in
theorem ggL_law_X4_keep : GoodIn wsL_law wsX4_keep := goodIn_r _ [800, 430, 33, 475, 18, 16, 20, 241, 242, 243, 15, 244, 39, 41, 237, 238, 239, 240, 42, 43, 44, 45, 46, 47, 48, 813, 814, 815, 816, 817, 818, 819, 820, 821, 860, 861, 862, 863, 864, 865, 866, 867, 868] rfl (by decide +kernel)
set_option maxRecDepth 20000 in
theorem gL_law_X4_keep : GoodIn wsL_law (wsV RL 126 RX4 yX4_keep wsX4_keep) := goodIn_app (goodIn_r _ [797, 798, 799, 2] rfl (by decide +kernel)) ggL_law_X4_keep
set_option maxRecDepth 20000 in
theorem ggL_law_X5_keep : GoodIn wsL_law wsX5_keep := goodIn_r _ [804, 445, 258, 485, 105, 108, 106, 257, 107, 82, 83, 84, 85, 86, 87, 127, 128, 5, 129, 822, 823, 824, 825, 826, 827, 828, 829, 830, 831, 832, 833, 834, 835, 836, 837, 838, 839, 840, 841, 842, 843, 844, 845, 846, 847, 848, 849, 850, 851, 852, 853, 854, 855, 856, 857, 858, 859] rfl (by decide +kernel)
set_option maxRecDepth 20000 in
theorem gL_law_X5_keep : GoodIn wsL_law (wsV RL 129 RX5 yX5_keep wsX5_keep) := goodIn_app (goodIn_r _ [801, 802, 803, 5] rfl (by decide +kernel)) ggL_law_X5_keep
set_option maxRecDepth 20000 in
theorem ggL_law_X4_goBack : GoodIn wsL_law wsX4_goBack := goodIn_r _ [808, 430, 20, 475, 16, 18, 33, 241, 242, 243, 15, 244, 39, 41, 237, 238, 239, 240, 42, 43, 44, 45, 46, 47, 48, 813, 814, 815, 816, 817, 818, 819, 820, 821, 860, 861, 862, 863, 864, 865, 866, 867, 868] rfl (by decide +kernel)
set_option maxRecDepth 20000 in
theorem gL_law_X4_goBack : GoodIn wsL_law (wsV RL 130 RX4 yX4_goBack wsX4_goBack) := goodIn_app (goodIn_r _ [805, 806, 807, 2] rfl (by decide +kernel)) ggL_law_X4_goBack
set_option maxRecDepth 20000 in
theorem ggL_law_X5_goBack : GoodIn wsL_law wsX5_goBack := goodIn_r _ [812, 445, 105, 485, 108, 106, 257, 258, 82, 107, 83, 84, 85, 86, 87, 127, 128, 5, 129, 822, 823, 824, 825, 826, 827, 828, 829, 830, 831, 832, 833, 834, 835, 836, 837, 838, 839, 840, 841, 842, 843, 844, 845, 846, 847, 848, 849, 850, 851, 852, 853, 854, 855, 856, 857, 858, 859] rfl (by decide +kernel)
set_option maxRecDepth 20000 in
theorem gL_law_X5_goBack : GoodIn wsL_law (wsV RL 133 RX5 yX5_goBack wsX5_goBack) := goodIn_app (goodIn_r _ [809, 810, 811, 5] rfl (by decide +kernel)) ggL_law_X5_goBack
def tqcL_law_0 : List (Nat × Instr × Nat) := [(0, .new 7, 3), (3, .dup, 1), (4, .invokespecial 9, 3), (7, .astore_n 1, 1), (8, .new 10, 3), (11, .dup, 1), (12, .invokespecial 12, 3), (15, .astore_n 2, 1), (16, .iconst 0, 1), (17, .istore_n 3, 1), (18, .iload_n 3, 1), (19, .aload_n 0, 1), (20, .arraylength, 1), (21, .iconst 5, 1), (22, .isub, 1), (23, .if_icmp .gt 987, 3), (26, .aload_n 0, 1), (27, .iload_n 3, 1), (28, .iaload, 1), (29, .bipush 31, 2), (31, .iand, 1), (32, .tableswitch 972 0 27 #[128, 151, 164, 177, 200, 233, 266, 309, 332, 355, 378, 411, 434, 447, 460, 493, 526, 569, 602, 635, 668, 701, 774, 807, 830, 873, 926, 949], 128), (160, .aload_n 1, 1), (161, .aload_n 0, 1), (162, .iload_n 3, 1), (163, .iconst 1, 1), (164, .iadd, 1), (165, .iaload, 1), (166, .invokevirtual 13, 3), (169, .pop, 1), (170, .aload_n 2, 1), (171, .aload_n 0, 1), (172, .iload_n 3, 1), (173, .iconst 1, 1), (174, .iadd, 1), (175, .iaload, 1), (176, .invokevirtual 17, 3), (179, .pop, 1), (180, .goto 824, 3), (183, .aload_n 1, 1)]
set_option maxRecDepth 20000 in
theorem aqcL_law_0 : tqcL_law_0.all (fun e => decide (decode cL_law e.1 = .ok e.2)) = true := by decide +kernel
theorem dL_law_0 : decode cL_law 0 = .ok (.new 7, 3) := dk_q aqcL_law_0 0 rfl
theorem dL_law_3 : decode cL_law 3 = .ok (.dup, 1) := dk_q aqcL_law_0 1 rfl
theorem dL_law_4 : decode cL_law 4 = .ok (.invokespecial 9, 3) := dk_q aqcL_law_0 2 rfl
theorem dL_law_7 : decode cL_law 7 = .ok (.astore_n 1, 1) := dk_q aqcL_law_0 3 rfl
theorem dL_law_8 : decode cL_law 8 = .ok (.new 10, 3) := dk_q aqcL_law_0 4 rfl
theorem dL_law_11 : decode cL_law 11 = .ok (.dup, 1) := dk_q aqcL_law_0 5 rfl
theorem dL_law_12 : decode cL_law 12 = .ok (.invokespecial 12, 3) := dk_q aqcL_law_0 6 rfl
theorem dL_law_15 : decode cL_law 15 = .ok (.astore_n 2, 1) := dk_q aqcL_law_0 7 rfl
theorem dL_law_16 : decode cL_law 16 = .ok (.iconst 0, 1) := dk_q aqcL_law_0 8 rfl
theorem dL_law_17 : decode cL_law 17 = .ok (.istore_n 3, 1) := dk_q aqcL_law_0 9 rfl
theorem dL_law_18 : decode cL_law 18 = .ok (.iload_n 3, 1) := dk_q aqcL_law_0 10 rfl
theorem dL_law_19 : decode cL_law 19 = .ok (.aload_n 0, 1) := dk_q aqcL_law_0 11 rfl
theorem dL_law_20 : decode cL_law 20 = .ok (.arraylength, 1) := dk_q aqcL_law_0 12 rfl
theorem dL_law_21 : decode cL_law 21 = .ok (.iconst 5, 1) := dk_q aqcL_law_0 13 rfl
theorem dL_law_22 : decode cL_law 22 = .ok (.isub, 1) := dk_q aqcL_law_0 14 rfl
theorem dL_law_23 : decode cL_law 23 = .ok (.if_icmp .gt 987, 3) := dk_q aqcL_law_0 15 rfl
theorem dL_law_26 : decode cL_law 26 = .ok (.aload_n 0, 1) := dk_q aqcL_law_0 16 rfl
theorem dL_law_27 : decode cL_law 27 = .ok (.iload_n 3, 1) := dk_q aqcL_law_0 17 rfl
theorem dL_law_28 : decode cL_law 28 = .ok (.iaload, 1) := dk_q aqcL_law_0 18 rfl
theorem dL_law_29 : decode cL_law 29 = .ok (.bipush 31, 2) := dk_q aqcL_law_0 19 rfl
theorem dL_law_31 : decode cL_law 31 = .ok (.iand, 1) := dk_q aqcL_law_0 20 rfl
theorem dL_law_32 : decode cL_law 32 = .ok (.tableswitch 972 0 27 #[128, 151, 164, 177, 200, 233, 266, 309, 332, 355, 378, 411, 434, 447, 460, 493, 526, 569, 602, 635, 668, 701, 774, 807, 830, 873, 926, 949], 128) := dk_q aqcL_law_0 21 rfl
theorem dL_law_160 : decode cL_law 160 = .ok (.aload_n 1, 1) := dk_q aqcL_law_0 22 rfl
theorem dL_law_161 : decode cL_law 161 = .ok (.aload_n 0, 1) := dk_q aqcL_law_0 23 rfl
theorem dL_law_162 : decode cL_law 162 = .ok (.iload_n 3, 1) := dk_q aqcL_law_0 24 rfl
theorem dL_law_163 : decode cL_law 163 = .ok (.iconst 1, 1) := dk_q aqcL_law_0 25 rfl
theorem dL_law_164 : decode cL_law 164 = .ok (.iadd, 1) := dk_q aqcL_law_0 26 rfl
theorem dL_law_165 : decode cL_law 165 = .ok (.iaload, 1) := dk_q aqcL_law_0 27 rfl
theorem dL_law_166 : decode cL_law 166 = .ok (.invokevirtual 13, 3) := dk_q aqcL_law_0 28 rfl
theorem dL_law_169 : decode cL_law 169 = .ok (.pop, 1) := dk_q aqcL_law_0 29 rfl
theorem dL_law_170 : decode cL_law 170 = .ok (.aload_n 2, 1) := dk_q aqcL_law_0 30 rfl
theorem dL_law_171 : decode cL_law 171 = .ok (.aload_n 0, 1) := dk_q aqcL_law_0 31 rfl
theorem dL_law_172 : decode cL_law 172 = .ok (.iload_n 3, 1) := dk_q aqcL_law_0 32 rfl
theorem dL_law_173 : decode cL_law 173 = .ok (.iconst 1, 1) := dk_q aqcL_law_0 33 rfl
theorem dL_law_174 : decode cL_law 174 = .ok (.iadd, 1) := dk_q aqcL_law_0 34 rfl
theorem dL_law_175 : decode cL_law 175 = .ok (.iaload, 1) := dk_q aqcL_law_0 35 rfl
theorem dL_law_176 : decode cL_law 176 = .ok (.invokevirtual 17, 3) := dk_q aqcL_law_0 36 rfl
theorem dL_law_179 : decode cL_law 179 = .ok (.pop, 1) := dk_q aqcL_law_0 37 rfl
theorem dL_law_180 : decode cL_law 180 = .ok (.goto 824, 3) := dk_q aqcL_law_0 38 rfl
theorem dL_law_183 : decode cL_law 183 = .ok (.aload_n 1, 1) := dk_q aqcL_law_0 39 rfl
def tqcL_law_1 : List (Nat × Instr × Nat) := [(184, .invokevirtual 18, 3), (187, .pop, 1), (188, .aload_n 2, 1), (189, .invokevirtual 22, 3), (192, .pop, 1), (193, .goto 811, 3), (196, .aload_n 1, 1), (197, .invokevirtual 23, 3), (200, .pop, 1), (201, .aload_n 2, 1), (202, .invokevirtual 26, 3), (205, .pop, 1), (206, .goto 798, 3), (209, .aload_n 1, 1), (210, .aload_n 0, 1), (211, .iload_n 3, 1), (212, .iconst 1, 1), (213, .iadd, 1), (214, .iaload, 1), (215, .invokevirtual 27, 3), (218, .pop, 1), (219, .aload_n 2, 1), (220, .aload_n 0, 1), (221, .iload_n 3, 1), (222, .iconst 1, 1), (223, .iadd, 1), (224, .iaload, 1), (225, .invokevirtual 30, 3), (228, .pop, 1), (229, .goto 775, 3), (232, .aload_n 1, 1), (233, .aload_n 0, 1), (234, .iload_n 3, 1), (235, .iconst 1, 1), (236, .iadd, 1), (237, .iaload, 1), (238, .aload_n 0, 1), (239, .iload_n 3, 1), (240, .iconst 2, 1), (241, .iadd, 1)]
set_option maxRecDepth 20000 in
theorem aqcL_law_1 : tqcL_law_1.all (fun e => decide (decode cL_law e.1 = .ok e.2)) = true := by decide +kernel
theorem dL_law_184 : decode cL_law 184 = .ok (.invokevirtual 18, 3) := dk_q aqcL_law_1 0 rfl
theorem dL_law_187 : decode cL_law 187 = .ok (.pop, 1) := dk_q aqcL_law_1 1 rfl
theorem dL_law_188 : decode cL_law 188 = .ok (.aload_n 2, 1) := dk_q aqcL_law_1 2 rfl
theorem dL_law_189 : decode cL_law 189 = .ok (.invokevirtual 22, 3) := dk_q aqcL_law_1 3 rfl
theorem dL_law_192 : decode cL_law 192 = .ok (.pop, 1) := dk_q aqcL_law_1 4 rfl
theorem dL_law_193 : decode cL_law 193 = .ok (.goto 811, 3) := dk_q aqcL_law_1 5 rfl
theorem dL_law_196 : decode cL_law 196 = .ok (.aload_n 1, 1) := dk_q aqcL_law_1 6 rfl
theorem dL_law_197 : decode cL_law 197 = .ok (.invokevirtual 23, 3) := dk_q aqcL_law_1 7 rfl
theorem dL_law_200 : decode cL_law 200 = .ok (.pop, 1) := dk_q aqcL_law_1 8 rfl
theorem dL_law_201 : decode cL_law 201 = .ok (.aload_n 2, 1) := dk_q aqcL_law_1 9 rfl
theorem dL_law_202 : decode cL_law 202 = .ok (.invokevirtual 26, 3) := dk_q aqcL_law_1 10 rfl
theorem dL_law_205 : decode cL_law 205 = .ok (.pop, 1) := dk_q aqcL_law_1 11 rfl
theorem dL_law_206 : decode cL_law 206 = .ok (.goto 798, 3) := dk_q aqcL_law_1 12 rfl
theorem dL_law_209 : decode cL_law 209 = .ok (.aload_n 1, 1) := dk_q aqcL_law_1 13 rfl
theorem dL_law_210 : decode cL_law 210 = .ok (.aload_n 0, 1) := dk_q aqcL_law_1 14 rfl
theorem dL_law_211 : decode cL_law 211 = .ok (.iload_n 3, 1) := dk_q aqcL_law_1 15 rfl
theorem dL_law_212 : decode cL_law 212 = .ok (.iconst 1, 1) := dk_q aqcL_law_1 16 rfl
theorem dL_law_213 : decode cL_law 213 = .ok (.iadd, 1) := dk_q aqcL_law_1 17 rfl
theorem dL_law_214 : decode cL_law 214 = .ok (.iaload, 1) := dk_q aqcL_law_1 18 rfl
theorem dL_law_215 : decode cL_law 215 = .ok (.invokevirtual 27, 3) := dk_q aqcL_law_1 19 rfl
theorem dL_law_218 : decode cL_law 218 = .ok (.pop, 1) := dk_q aqcL_law_1 20 rfl
theorem dL_law_219 : decode cL_law 219 = .ok (.aload_n 2, 1) := dk_q aqcL_law_1 21 rfl
theorem dL_law_220 : decode cL_law 220 = .ok (.aload_n 0, 1) := dk_q aqcL_law_1 22 rfl
theorem dL_law_221 : decode cL_law 221 = .ok (.iload_n 3, 1) := dk_q aqcL_law_1 23 rfl
theorem dL_law_222 : decode cL_law 222 = .ok (.iconst 1, 1) := dk_q aqcL_law_1 24 rfl
theorem dL_law_223 : decode cL_law 223 = .ok (.iadd, 1) := dk_q aqcL_law_1 25 rfl
theorem dL_law_224 : decode cL_law 224 = .ok (.iaload, 1) := dk_q aqcL_law_1 26 rfl
theorem dL_law_225 : decode cL_law 225 = .ok (.invokevirtual 30, 3) := dk_q aqcL_law_1 27 rfl
theorem dL_law_228 : decode cL_law 228 = .ok (.pop, 1) := dk_q aqcL_law_1 28 rfl
theorem dL_law_229 : decode cL_law 229 = .ok (.goto 775, 3) := dk_q aqcL_law_1 29 rfl
theorem dL_law_232 : decode cL_law 232 = .ok (.aload_n 1, 1) := dk_q aqcL_law_1 30 rfl
theorem dL_law_233 : decode cL_law 233 = .ok (.aload_n 0, 1) := dk_q aqcL_law_1 31 rfl
theorem dL_law_234 : decode cL_law 234 = .ok (.iload_n 3, 1) := dk_q aqcL_law_1 32 rfl
theorem dL_law_235 : decode cL_law 235 = .ok (.iconst 1, 1) := dk_q aqcL_law_1 33 rfl
theorem dL_law_236 : decode cL_law 236 = .ok (.iadd, 1) := dk_q aqcL_law_1 34 rfl
theorem dL_law_237 : decode cL_law 237 = .ok (.iaload, 1) := dk_q aqcL_law_1 35 rfl
theorem dL_law_238 : decode cL_law 238 = .ok (.aload_n 0, 1) := dk_q aqcL_law_1 36 rfl
theorem dL_law_239 : decode cL_law 239 = .ok (.iload_n 3, 1) := dk_q aqcL_law_1 37 rfl
theorem dL_law_240 : decode cL_law 240 = .ok (.iconst 2, 1) := dk_q aqcL_law_1 38 rfl
theorem dL_law_241 : decode cL_law 241 = .ok (.iadd, 1) := dk_q aqcL_law_1 39 rfl
def tqcL_law_2 : List (Nat × Instr × Nat) := [(242, .iaload, 1), (243, .invokevirtual 31, 3), (246, .aload_n 2, 1), (247, .aload_n 0, 1), (248, .iload_n 3, 1), (249, .iconst 1, 1), (250, .iadd, 1), (251, .iaload, 1), (252, .aload_n 0, 1), (253, .iload_n 3, 1), (254, .iconst 2, 1), (255, .iadd, 1), (256, .iaload, 1), (257, .invokevirtual 35, 3), (260, .if_icmp .eq 744, 3), (263, .iconst 0, 1), (264, .ireturn, 1), (265, .aload_n 1, 1), (266, .aload_n 0, 1), (267, .iload_n 3, 1), (268, .iconst 1, 1), (269, .iadd, 1), (270, .iaload, 1), (271, .aload_n 0, 1), (272, .iload_n 3, 1), (273, .iconst 2, 1), (274, .iadd, 1), (275, .iaload, 1), (276, .invokevirtual 36, 3), (279, .pop, 1), (280, .aload_n 2, 1), (281, .aload_n 0, 1), (282, .iload_n 3, 1), (283, .iconst 1, 1), (284, .iadd, 1), (285, .iaload, 1), (286, .aload_n 0, 1), (287, .iload_n 3, 1), (288, .iconst 2, 1), (289, .iadd, 1)]
set_option maxRecDepth 20000 in
theorem aqcL_law_2 : tqcL_law_2.all (fun e => decide (decode cL_law e.1 = .ok e.2)) = true := by decide +kernel
theorem dL_law_242 : decode cL_law 242 = .ok (.iaload, 1) := dk_q aqcL_law_2 0 rfl
theorem dL_law_243 : decode cL_law 243 = .ok (.invokevirtual 31, 3) := dk_q aqcL_law_2 1 rfl
theorem dL_law_246 : decode cL_law 246 = .ok (.aload_n 2, 1) := dk_q aqcL_law_2 2 rfl
theorem dL_law_247 : decode cL_law 247 = .ok (.aload_n 0, 1) := dk_q aqcL_law_2 3 rfl
theorem dL_law_248 : decode cL_law 248 = .ok (.iload_n 3, 1) := dk_q aqcL_law_2 4 rfl
theorem dL_law_249 : decode cL_law 249 = .ok (.iconst 1, 1) := dk_q aqcL_law_2 5 rfl
theorem dL_law_250 : decode cL_law 250 = .ok (.iadd, 1) := dk_q aqcL_law_2 6 rfl
theorem dL_law_251 : decode cL_law 251 = .ok (.iaload, 1) := dk_q aqcL_law_2 7 rfl
theorem dL_law_252 : decode cL_law 252 = .ok (.aload_n 0, 1) := dk_q aqcL_law_2 8 rfl
theorem dL_law_253 : decode cL_law 253 = .ok (.iload_n 3, 1) := dk_q aqcL_law_2 9 rfl
theorem dL_law_254 : decode cL_law 254 = .ok (.iconst 2, 1) := dk_q aqcL_law_2 10 rfl
theorem dL_law_255 : decode cL_law 255 = .ok (.iadd, 1) := dk_q aqcL_law_2 11 rfl
theorem dL_law_256 : decode cL_law 256 = .ok (.iaload, 1) := dk_q aqcL_law_2 12 rfl
theorem dL_law_257 : decode cL_law 257 = .ok (.invokevirtual 35, 3) := dk_q aqcL_law_2 13 rfl
theorem dL_law_260 : decode cL_law 260 = .ok (.if_icmp .eq 744, 3) := dk_q aqcL_law_2 14 rfl
theorem dL_law_263 : decode cL_law 263 = .ok (.iconst 0, 1) := dk_q aqcL_law_2 15 rfl
theorem dL_law_264 : decode cL_law 264 = .ok (.ireturn, 1) := dk_q aqcL_law_2 16 rfl
theorem dL_law_265 : decode cL_law 265 = .ok (.aload_n 1, 1) := dk_q aqcL_law_2 17 rfl
theorem dL_law_266 : decode cL_law 266 = .ok (.aload_n 0, 1) := dk_q aqcL_law_2 18 rfl
theorem dL_law_267 : decode cL_law 267 = .ok (.iload_n 3, 1) := dk_q aqcL_law_2 19 rfl
theorem dL_law_268 : decode cL_law 268 = .ok (.iconst 1, 1) := dk_q aqcL_law_2 20 rfl
theorem dL_law_269 : decode cL_law 269 = .ok (.iadd, 1) := dk_q aqcL_law_2 21 rfl
theorem dL_law_270 : decode cL_law 270 = .ok (.iaload, 1) := dk_q aqcL_law_2 22 rfl
theorem dL_law_271 : decode cL_law 271 = .ok (.aload_n 0, 1) := dk_q aqcL_law_2 23 rfl
theorem dL_law_272 : decode cL_law 272 = .ok (.iload_n 3, 1) := dk_q aqcL_law_2 24 rfl
theorem dL_law_273 : decode cL_law 273 = .ok (.iconst 2, 1) := dk_q aqcL_law_2 25 rfl
theorem dL_law_274 : decode cL_law 274 = .ok (.iadd, 1) := dk_q aqcL_law_2 26 rfl
theorem dL_law_275 : decode cL_law 275 = .ok (.iaload, 1) := dk_q aqcL_law_2 27 rfl
theorem dL_law_276 : decode cL_law 276 = .ok (.invokevirtual 36, 3) := dk_q aqcL_law_2 28 rfl
theorem dL_law_279 : decode cL_law 279 = .ok (.pop, 1) := dk_q aqcL_law_2 29 rfl
theorem dL_law_280 : decode cL_law 280 = .ok (.aload_n 2, 1) := dk_q aqcL_law_2 30 rfl
theorem dL_law_281 : decode cL_law 281 = .ok (.aload_n 0, 1) := dk_q aqcL_law_2 31 rfl
theorem dL_law_282 : decode cL_law 282 = .ok (.iload_n 3, 1) := dk_q aqcL_law_2 32 rfl
theorem dL_law_283 : decode cL_law 283 = .ok (.iconst 1, 1) := dk_q aqcL_law_2 33 rfl
theorem dL_law_284 : decode cL_law 284 = .ok (.iadd, 1) := dk_q aqcL_law_2 34 rfl
theorem dL_law_285 : decode cL_law 285 = .ok (.iaload, 1) := dk_q aqcL_law_2 35 rfl
theorem dL_law_286 : decode cL_law 286 = .ok (.aload_n 0, 1) := dk_q aqcL_law_2 36 rfl
theorem dL_law_287 : decode cL_law 287 = .ok (.iload_n 3, 1) := dk_q aqcL_law_2 37 rfl
theorem dL_law_288 : decode cL_law 288 = .ok (.iconst 2, 1) := dk_q aqcL_law_2 38 rfl
theorem dL_law_289 : decode cL_law 289 = .ok (.iadd, 1) := dk_q aqcL_law_2 39 rfl
def tqcL_law_3 : List (Nat × Instr × Nat) := [(290, .iaload, 1), (291, .invokevirtual 39, 3), (294, .pop, 1), (295, .goto 709, 3), (298, .aload_n 1, 1), (299, .aload_n 0, 1), (300, .iload_n 3, 1), (301, .iconst 1, 1), (302, .iadd, 1), (303, .iaload, 1), (304, .aload_n 0, 1), (305, .iload_n 3, 1), (306, .iconst 2, 1), (307, .iadd, 1), (308, .iaload, 1), (309, .aload_n 0, 1), (310, .iload_n 3, 1), (311, .iconst 3, 1), (312, .iadd, 1), (313, .iaload, 1), (314, .invokevirtual 40, 3), (317, .pop, 1), (318, .aload_n 2, 1), (319, .aload_n 0, 1), (320, .iload_n 3, 1), (321, .iconst 1, 1), (322, .iadd, 1), (323, .iaload, 1), (324, .aload_n 0, 1), (325, .iload_n 3, 1), (326, .iconst 2, 1), (327, .iadd, 1), (328, .iaload, 1), (329, .aload_n 0, 1), (330, .iload_n 3, 1), (331, .iconst 3, 1), (332, .iadd, 1), (333, .iaload, 1), (334, .invokevirtual 44, 3), (337, .pop, 1)]
set_option maxRecDepth 20000 in
theorem aqcL_law_3 : tqcL_law_3.all (fun e => decide (decode cL_law e.1 = .ok e.2)) = true := by decide +kernel
theorem dL_law_290 : decode cL_law 290 = .ok (.iaload, 1) := dk_q aqcL_law_3 0 rfl
theorem dL_law_291 : decode cL_law 291 = .ok (.invokevirtual 39, 3) := dk_q aqcL_law_3 1 rfl
theorem dL_law_294 : decode cL_law 294 = .ok (.pop, 1) := dk_q aqcL_law_3 2 rfl
theorem dL_law_295 : decode cL_law 295 = .ok (.goto 709, 3) := dk_q aqcL_law_3 3 rfl
theorem dL_law_298 : decode cL_law 298 = .ok (.aload_n 1, 1) := dk_q aqcL_law_3 4 rfl
theorem dL_law_299 : decode cL_law 299 = .ok (.aload_n 0, 1) := dk_q aqcL_law_3 5 rfl
theorem dL_law_300 : decode cL_law 300 = .ok (.iload_n 3, 1) := dk_q aqcL_law_3 6 rfl
theorem dL_law_301 : decode cL_law 301 = .ok (.iconst 1, 1) := dk_q aqcL_law_3 7 rfl
theorem dL_law_302 : decode cL_law 302 = .ok (.iadd, 1) := dk_q aqcL_law_3 8 rfl
theorem dL_law_303 : decode cL_law 303 = .ok (.iaload, 1) := dk_q aqcL_law_3 9 rfl
theorem dL_law_304 : decode cL_law 304 = .ok (.aload_n 0, 1) := dk_q aqcL_law_3 10 rfl
theorem dL_law_305 : decode cL_law 305 = .ok (.iload_n 3, 1) := dk_q aqcL_law_3 11 rfl
theorem dL_law_306 : decode cL_law 306 = .ok (.iconst 2, 1) := dk_q aqcL_law_3 12 rfl
theorem dL_law_307 : decode cL_law 307 = .ok (.iadd, 1) := dk_q aqcL_law_3 13 rfl
theorem dL_law_308 : decode cL_law 308 = .ok (.iaload, 1) := dk_q aqcL_law_3 14 rfl
theorem dL_law_309 : decode cL_law 309 = .ok (.aload_n 0, 1) := dk_q aqcL_law_3 15 rfl
theorem dL_law_310 : decode cL_law 310 = .ok (.iload_n 3, 1) := dk_q aqcL_law_3 16 rfl
theorem dL_law_311 : decode cL_law 311 = .ok (.iconst 3, 1) := dk_q aqcL_law_3 17 rfl
theorem dL_law_312 : decode cL_law 312 = .ok (.iadd, 1) := dk_q aqcL_law_3 18 rfl
theorem dL_law_313 : decode cL_law 313 = .ok (.iaload, 1) := dk_q aqcL_law_3 19 rfl
theorem dL_law_314 : decode cL_law 314 = .ok (.invokevirtual 40, 3) := dk_q aqcL_law_3 20 rfl
theorem dL_law_317 : decode cL_law 317 = .ok (.pop, 1) := dk_q aqcL_law_3 21 rfl
theorem dL_law_318 : decode cL_law 318 = .ok (.aload_n 2, 1) := dk_q aqcL_law_3 22 rfl
theorem dL_law_319 : decode cL_law 319 = .ok (.aload_n 0, 1) := dk_q aqcL_law_3 23 rfl
theorem dL_law_320 : decode cL_law 320 = .ok (.iload_n 3, 1) := dk_q aqcL_law_3 24 rfl
theorem dL_law_321 : decode cL_law 321 = .ok (.iconst 1, 1) := dk_q aqcL_law_3 25 rfl
theorem dL_law_322 : decode cL_law 322 = .ok (.iadd, 1) := dk_q aqcL_law_3 26 rfl
theorem dL_law_323 : decode cL_law 323 = .ok (.iaload, 1) := dk_q aqcL_law_3 27 rfl
theorem dL_law_324 : decode cL_law 324 = .ok (.aload_n 0, 1) := dk_q aqcL_law_3 28 rfl
theorem dL_law_325 : decode cL_law 325 = .ok (.iload_n 3, 1) := dk_q aqcL_law_3 29 rfl
theorem dL_law_326 : decode cL_law 326 = .ok (.iconst 2, 1) := dk_q aqcL_law_3 30 rfl
theorem dL_law_327 : decode cL_law 327 = .ok (.iadd, 1) := dk_q aqcL_law_3 31 rfl
theorem dL_law_328 : decode cL_law 328 = .ok (.iaload, 1) := dk_q aqcL_law_3 32 rfl
theorem dL_law_329 : decode cL_law 329 = .ok (.aload_n 0, 1) := dk_q aqcL_law_3 33 rfl
theorem dL_law_330 : decode cL_law 330 = .ok (.iload_n 3, 1) := dk_q aqcL_law_3 34 rfl
theorem dL_law_331 : decode cL_law 331 = .ok (.iconst 3, 1) := dk_q aqcL_law_3 35 rfl
theorem dL_law_332 : decode cL_law 332 = .ok (.iadd, 1) := dk_q aqcL_law_3 36 rfl
theorem dL_law_333 : decode cL_law 333 = .ok (.iaload, 1) := dk_q aqcL_law_3 37 rfl
theorem dL_law_334 : decode cL_law 334 = .ok (.invokevirtual 44, 3) := dk_q aqcL_law_3 38 rfl
theorem dL_law_337 : decode cL_law 337 = .ok (.pop, 1) := dk_q aqcL_law_3 39 rfl
def tqcL_law_4 : List (Nat × Instr × Nat) := [(338, .goto 666, 3), (341, .aload_n 1, 1), (342, .aload_n 0, 1), (343, .iload_n 3, 1), (344, .iconst 1, 1), (345, .iadd, 1), (346, .iaload, 1), (347, .invokevirtual 45, 3), (350, .pop, 1), (351, .aload_n 2, 1), (352, .aload_n 0, 1), (353, .iload_n 3, 1), (354, .iconst 1, 1), (355, .iadd, 1), (356, .iaload, 1), (357, .invokevirtual 48, 3), (360, .pop, 1), (361, .goto 643, 3), (364, .aload_n 1, 1), (365, .aload_n 0, 1), (366, .iload_n 3, 1), (367, .iconst 1, 1), (368, .iadd, 1), (369, .iaload, 1), (370, .invokevirtual 49, 3), (373, .pop, 1), (374, .aload_n 2, 1), (375, .aload_n 0, 1), (376, .iload_n 3, 1), (377, .iconst 1, 1), (378, .iadd, 1), (379, .iaload, 1), (380, .invokevirtual 52, 3), (383, .pop, 1), (384, .goto 620, 3), (387, .aload_n 1, 1), (388, .aload_n 0, 1), (389, .iload_n 3, 1), (390, .iconst 1, 1), (391, .iadd, 1)]
set_option maxRecDepth 20000 in
theorem aqcL_law_4 : tqcL_law_4.all (fun e => decide (decode cL_law e.1 = .ok e.2)) = true := by decide +kernel
theorem dL_law_338 : decode cL_law 338 = .ok (.goto 666, 3) := dk_q aqcL_law_4 0 rfl
theorem dL_law_341 : decode cL_law 341 = .ok (.aload_n 1, 1) := dk_q aqcL_law_4 1 rfl
theorem dL_law_342 : decode cL_law 342 = .ok (.aload_n 0, 1) := dk_q aqcL_law_4 2 rfl
theorem dL_law_343 : decode cL_law 343 = .ok (.iload_n 3, 1) := dk_q aqcL_law_4 3 rfl
theorem dL_law_344 : decode cL_law 344 = .ok (.iconst 1, 1) := dk_q aqcL_law_4 4 rfl
theorem dL_law_345 : decode cL_law 345 = .ok (.iadd, 1) := dk_q aqcL_law_4 5 rfl
theorem dL_law_346 : decode cL_law 346 = .ok (.iaload, 1) := dk_q aqcL_law_4 6 rfl
theorem dL_law_347 : decode cL_law 347 = .ok (.invokevirtual 45, 3) := dk_q aqcL_law_4 7 rfl
theorem dL_law_350 : decode cL_law 350 = .ok (.pop, 1) := dk_q aqcL_law_4 8 rfl
theorem dL_law_351 : decode cL_law 351 = .ok (.aload_n 2, 1) := dk_q aqcL_law_4 9 rfl
theorem dL_law_352 : decode cL_law 352 = .ok (.aload_n 0, 1) := dk_q aqcL_law_4 10 rfl
theorem dL_law_353 : decode cL_law 353 = .ok (.iload_n 3, 1) := dk_q aqcL_law_4 11 rfl
theorem dL_law_354 : decode cL_law 354 = .ok (.iconst 1, 1) := dk_q aqcL_law_4 12 rfl
theorem dL_law_355 : decode cL_law 355 = .ok (.iadd, 1) := dk_q aqcL_law_4 13 rfl
theorem dL_law_356 : decode cL_law 356 = .ok (.iaload, 1) := dk_q aqcL_law_4 14 rfl
theorem dL_law_357 : decode cL_law 357 = .ok (.invokevirtual 48, 3) := dk_q aqcL_law_4 15 rfl
theorem dL_law_360 : decode cL_law 360 = .ok (.pop, 1) := dk_q aqcL_law_4 16 rfl
theorem dL_law_361 : decode cL_law 361 = .ok (.goto 643, 3) := dk_q aqcL_law_4 17 rfl
theorem dL_law_364 : decode cL_law 364 = .ok (.aload_n 1, 1) := dk_q aqcL_law_4 18 rfl
theorem dL_law_365 : decode cL_law 365 = .ok (.aload_n 0, 1) := dk_q aqcL_law_4 19 rfl
theorem dL_law_366 : decode cL_law 366 = .ok (.iload_n 3, 1) := dk_q aqcL_law_4 20 rfl
theorem dL_law_367 : decode cL_law 367 = .ok (.iconst 1, 1) := dk_q aqcL_law_4 21 rfl
theorem dL_law_368 : decode cL_law 368 = .ok (.iadd, 1) := dk_q aqcL_law_4 22 rfl
theorem dL_law_369 : decode cL_law 369 = .ok (.iaload, 1) := dk_q aqcL_law_4 23 rfl
theorem dL_law_370 : decode cL_law 370 = .ok (.invokevirtual 49, 3) := dk_q aqcL_law_4 24 rfl
theorem dL_law_373 : decode cL_law 373 = .ok (.pop, 1) := dk_q aqcL_law_4 25 rfl
theorem dL_law_374 : decode cL_law 374 = .ok (.aload_n 2, 1) := dk_q aqcL_law_4 26 rfl
theorem dL_law_375 : decode cL_law 375 = .ok (.aload_n 0, 1) := dk_q aqcL_law_4 27 rfl
theorem dL_law_376 : decode cL_law 376 = .ok (.iload_n 3, 1) := dk_q aqcL_law_4 28 rfl
theorem dL_law_377 : decode cL_law 377 = .ok (.iconst 1, 1) := dk_q aqcL_law_4 29 rfl
theorem dL_law_378 : decode cL_law 378 = .ok (.iadd, 1) := dk_q aqcL_law_4 30 rfl
theorem dL_law_379 : decode cL_law 379 = .ok (.iaload, 1) := dk_q aqcL_law_4 31 rfl
theorem dL_law_380 : decode cL_law 380 = .ok (.invokevirtual 52, 3) := dk_q aqcL_law_4 32 rfl
theorem dL_law_383 : decode cL_law 383 = .ok (.pop, 1) := dk_q aqcL_law_4 33 rfl
theorem dL_law_384 : decode cL_law 384 = .ok (.goto 620, 3) := dk_q aqcL_law_4 34 rfl
theorem dL_law_387 : decode cL_law 387 = .ok (.aload_n 1, 1) := dk_q aqcL_law_4 35 rfl
theorem dL_law_388 : decode cL_law 388 = .ok (.aload_n 0, 1) := dk_q aqcL_law_4 36 rfl
theorem dL_law_389 : decode cL_law 389 = .ok (.iload_n 3, 1) := dk_q aqcL_law_4 37 rfl
theorem dL_law_390 : decode cL_law 390 = .ok (.iconst 1, 1) := dk_q aqcL_law_4 38 rfl
theorem dL_law_391 : decode cL_law 391 = .ok (.iadd, 1) := dk_q aqcL_law_4 39 rfl
def tqcL_law_5 : List (Nat × Instr × Nat) := [(392, .iaload, 1), (393, .invokevirtual 53, 3), (396, .pop, 1), (397, .aload_n 2, 1), (398, .aload_n 0, 1), (399, .iload_n 3, 1), (400, .iconst 1, 1), (401, .iadd, 1), (402, .iaload, 1), (403, .invokevirtual 56, 3), (406, .pop, 1), (407, .goto 597, 3), (410, .aload_n 1, 1), (411, .aload_n 0, 1), (412, .iload_n 3, 1), (413, .iconst 1, 1), (414, .iadd, 1), (415, .iaload, 1), (416, .aload_n 0, 1), (417, .iload_n 3, 1), (418, .iconst 2, 1), (419, .iadd, 1), (420, .iaload, 1), (421, .invokevirtual 57, 3), (424, .pop, 1), (425, .aload_n 2, 1), (426, .aload_n 0, 1), (427, .iload_n 3, 1), (428, .iconst 1, 1), (429, .iadd, 1), (430, .iaload, 1), (431, .aload_n 0, 1), (432, .iload_n 3, 1), (433, .iconst 2, 1), (434, .iadd, 1), (435, .iaload, 1), (436, .invokevirtual 60, 3), (439, .pop, 1), (440, .goto 564, 3), (443, .aload_n 1, 1)]
set_option maxRecDepth 20000 in
theorem aqcL_law_5 : tqcL_law_5.all (fun e => decide (decode cL_law e.1 = .ok e.2)) = true := by decide +kernel
theorem dL_law_392 : decode cL_law 392 = .ok (.iaload, 1) := dk_q aqcL_law_5 0 rfl
theorem dL_law_393 : decode cL_law 393 = .ok (.invokevirtual 53, 3) := dk_q aqcL_law_5 1 rfl
theorem dL_law_396 : decode cL_law 396 = .ok (.pop, 1) := dk_q aqcL_law_5 2 rfl
theorem dL_law_397 : decode cL_law 397 = .ok (.aload_n 2, 1) := dk_q aqcL_law_5 3 rfl
theorem dL_law_398 : decode cL_law 398 = .ok (.aload_n 0, 1) := dk_q aqcL_law_5 4 rfl
theorem dL_law_399 : decode cL_law 399 = .ok (.iload_n 3, 1) := dk_q aqcL_law_5 5 rfl
theorem dL_law_400 : decode cL_law 400 = .ok (.iconst 1, 1) := dk_q aqcL_law_5 6 rfl
theorem dL_law_401 : decode cL_law 401 = .ok (.iadd, 1) := dk_q aqcL_law_5 7 rfl
theorem dL_law_402 : decode cL_law 402 = .ok (.iaload, 1) := dk_q aqcL_law_5 8 rfl
theorem dL_law_403 : decode cL_law 403 = .ok (.invokevirtual 56, 3) := dk_q aqcL_law_5 9 rfl
theorem dL_law_406 : decode cL_law 406 = .ok (.pop, 1) := dk_q aqcL_law_5 10 rfl
theorem dL_law_407 : decode cL_law 407 = .ok (.goto 597, 3) := dk_q aqcL_law_5 11 rfl
theorem dL_law_410 : decode cL_law 410 = .ok (.aload_n 1, 1) := dk_q aqcL_law_5 12 rfl
theorem dL_law_411 : decode cL_law 411 = .ok (.aload_n 0, 1) := dk_q aqcL_law_5 13 rfl
theorem dL_law_412 : decode cL_law 412 = .ok (.iload_n 3, 1) := dk_q aqcL_law_5 14 rfl
theorem dL_law_413 : decode cL_law 413 = .ok (.iconst 1, 1) := dk_q aqcL_law_5 15 rfl
theorem dL_law_414 : decode cL_law 414 = .ok (.iadd, 1) := dk_q aqcL_law_5 16 rfl
theorem dL_law_415 : decode cL_law 415 = .ok (.iaload, 1) := dk_q aqcL_law_5 17 rfl
theorem dL_law_416 : decode cL_law 416 = .ok (.aload_n 0, 1) := dk_q aqcL_law_5 18 rfl
theorem dL_law_417 : decode cL_law 417 = .ok (.iload_n 3, 1) := dk_q aqcL_law_5 19 rfl
theorem dL_law_418 : decode cL_law 418 = .ok (.iconst 2, 1) := dk_q aqcL_law_5 20 rfl
theorem dL_law_419 : decode cL_law 419 = .ok (.iadd, 1) := dk_q aqcL_law_5 21 rfl
theorem dL_law_420 : decode cL_law 420 = .ok (.iaload, 1) := dk_q aqcL_law_5 22 rfl
theorem dL_law_421 : decode cL_law 421 = .ok (.invokevirtual 57, 3) := dk_q aqcL_law_5 23 rfl
theorem dL_law_424 : decode cL_law 424 = .ok (.pop, 1) := dk_q aqcL_law_5 24 rfl
theorem dL_law_425 : decode cL_law 425 = .ok (.aload_n 2, 1) := dk_q aqcL_law_5 25 rfl
theorem dL_law_426 : decode cL_law 426 = .ok (.aload_n 0, 1) := dk_q aqcL_law_5 26 rfl
theorem dL_law_427 : decode cL_law 427 = .ok (.iload_n 3, 1) := dk_q aqcL_law_5 27 rfl
theorem dL_law_428 : decode cL_law 428 = .ok (.iconst 1, 1) := dk_q aqcL_law_5 28 rfl
theorem dL_law_429 : decode cL_law 429 = .ok (.iadd, 1) := dk_q aqcL_law_5 29 rfl
theorem dL_law_430 : decode cL_law 430 = .ok (.iaload, 1) := dk_q aqcL_law_5 30 rfl
theorem dL_law_431 : decode cL_law 431 = .ok (.aload_n 0, 1) := dk_q aqcL_law_5 31 rfl
theorem dL_law_432 : decode cL_law 432 = .ok (.iload_n 3, 1) := dk_q aqcL_law_5 32 rfl
theorem dL_law_433 : decode cL_law 433 = .ok (.iconst 2, 1) := dk_q aqcL_law_5 33 rfl
theorem dL_law_434 : decode cL_law 434 = .ok (.iadd, 1) := dk_q aqcL_law_5 34 rfl
theorem dL_law_435 : decode cL_law 435 = .ok (.iaload, 1) := dk_q aqcL_law_5 35 rfl
theorem dL_law_436 : decode cL_law 436 = .ok (.invokevirtual 60, 3) := dk_q aqcL_law_5 36 rfl
theorem dL_law_439 : decode cL_law 439 = .ok (.pop, 1) := dk_q aqcL_law_5 37 rfl
theorem dL_law_440 : decode cL_law 440 = .ok (.goto 564, 3) := dk_q aqcL_law_5 38 rfl
theorem dL_law_443 : decode cL_law 443 = .ok (.aload_n 1, 1) := dk_q aqcL_law_5 39 rfl
def tqcL_law_6 : List (Nat × Instr × Nat) := [(444, .aload_n 0, 1), (445, .iload_n 3, 1), (446, .iconst 1, 1), (447, .iadd, 1), (448, .iaload, 1), (449, .invokevirtual 61, 3), (452, .pop, 1), (453, .aload_n 2, 1), (454, .aload_n 0, 1), (455, .iload_n 3, 1), (456, .iconst 1, 1), (457, .iadd, 1), (458, .iaload, 1), (459, .invokevirtual 64, 3), (462, .pop, 1), (463, .goto 541, 3), (466, .aload_n 1, 1), (467, .invokevirtual 65, 3), (470, .pop, 1), (471, .aload_n 2, 1), (472, .invokevirtual 68, 3), (475, .pop, 1), (476, .goto 528, 3), (479, .aload_n 1, 1), (480, .invokevirtual 69, 3), (483, .pop, 1), (484, .aload_n 2, 1), (485, .invokevirtual 72, 3), (488, .pop, 1), (489, .goto 515, 3), (492, .aload_n 1, 1), (493, .aload_n 0, 1), (494, .iload_n 3, 1), (495, .iconst 1, 1), (496, .iadd, 1), (497, .iaload, 1), (498, .aload_n 0, 1), (499, .iload_n 3, 1), (500, .iconst 2, 1), (501, .iadd, 1)]
set_option maxRecDepth 20000 in
theorem aqcL_law_6 : tqcL_law_6.all (fun e => decide (decode cL_law e.1 = .ok e.2)) = true := by decide +kernel
theorem dL_law_444 : decode cL_law 444 = .ok (.aload_n 0, 1) := dk_q aqcL_law_6 0 rfl
theorem dL_law_445 : decode cL_law 445 = .ok (.iload_n 3, 1) := dk_q aqcL_law_6 1 rfl
theorem dL_law_446 : decode cL_law 446 = .ok (.iconst 1, 1) := dk_q aqcL_law_6 2 rfl
theorem dL_law_447 : decode cL_law 447 = .ok (.iadd, 1) := dk_q aqcL_law_6 3 rfl
theorem dL_law_448 : decode cL_law 448 = .ok (.iaload, 1) := dk_q aqcL_law_6 4 rfl
theorem dL_law_449 : decode cL_law 449 = .ok (.invokevirtual 61, 3) := dk_q aqcL_law_6 5 rfl
theorem dL_law_452 : decode cL_law 452 = .ok (.pop, 1) := dk_q aqcL_law_6 6 rfl
theorem dL_law_453 : decode cL_law 453 = .ok (.aload_n 2, 1) := dk_q aqcL_law_6 7 rfl
theorem dL_law_454 : decode cL_law 454 = .ok (.aload_n 0, 1) := dk_q aqcL_law_6 8 rfl
theorem dL_law_455 : decode cL_law 455 = .ok (.iload_n 3, 1) := dk_q aqcL_law_6 9 rfl
theorem dL_law_456 : decode cL_law 456 = .ok (.iconst 1, 1) := dk_q aqcL_law_6 10 rfl
theorem dL_law_457 : decode cL_law 457 = .ok (.iadd, 1) := dk_q aqcL_law_6 11 rfl
theorem dL_law_458 : decode cL_law 458 = .ok (.iaload, 1) := dk_q aqcL_law_6 12 rfl
theorem dL_law_459 : decode cL_law 459 = .ok (.invokevirtual 64, 3) := dk_q aqcL_law_6 13 rfl
theorem dL_law_462 : decode cL_law 462 = .ok (.pop, 1) := dk_q aqcL_law_6 14 rfl
theorem dL_law_463 : decode cL_law 463 = .ok (.goto 541, 3) := dk_q aqcL_law_6 15 rfl
theorem dL_law_466 : decode cL_law 466 = .ok (.aload_n 1, 1) := dk_q aqcL_law_6 16 rfl
theorem dL_law_467 : decode cL_law 467 = .ok (.invokevirtual 65, 3) := dk_q aqcL_law_6 17 rfl
theorem dL_law_470 : decode cL_law 470 = .ok (.pop, 1) := dk_q aqcL_law_6 18 rfl
theorem dL_law_471 : decode cL_law 471 = .ok (.aload_n 2, 1) := dk_q aqcL_law_6 19 rfl
theorem dL_law_472 : decode cL_law 472 = .ok (.invokevirtual 68, 3) := dk_q aqcL_law_6 20 rfl
theorem dL_law_475 : decode cL_law 475 = .ok (.pop, 1) := dk_q aqcL_law_6 21 rfl
theorem dL_law_476 : decode cL_law 476 = .ok (.goto 528, 3) := dk_q aqcL_law_6 22 rfl
theorem dL_law_479 : decode cL_law 479 = .ok (.aload_n 1, 1) := dk_q aqcL_law_6 23 rfl
theorem dL_law_480 : decode cL_law 480 = .ok (.invokevirtual 69, 3) := dk_q aqcL_law_6 24 rfl
theorem dL_law_483 : decode cL_law 483 = .ok (.pop, 1) := dk_q aqcL_law_6 25 rfl
theorem dL_law_484 : decode cL_law 484 = .ok (.aload_n 2, 1) := dk_q aqcL_law_6 26 rfl
theorem dL_law_485 : decode cL_law 485 = .ok (.invokevirtual 72, 3) := dk_q aqcL_law_6 27 rfl
theorem dL_law_488 : decode cL_law 488 = .ok (.pop, 1) := dk_q aqcL_law_6 28 rfl
theorem dL_law_489 : decode cL_law 489 = .ok (.goto 515, 3) := dk_q aqcL_law_6 29 rfl
theorem dL_law_492 : decode cL_law 492 = .ok (.aload_n 1, 1) := dk_q aqcL_law_6 30 rfl
theorem dL_law_493 : decode cL_law 493 = .ok (.aload_n 0, 1) := dk_q aqcL_law_6 31 rfl
theorem dL_law_494 : decode cL_law 494 = .ok (.iload_n 3, 1) := dk_q aqcL_law_6 32 rfl
theorem dL_law_495 : decode cL_law 495 = .ok (.iconst 1, 1) := dk_q aqcL_law_6 33 rfl
theorem dL_law_496 : decode cL_law 496 = .ok (.iadd, 1) := dk_q aqcL_law_6 34 rfl
theorem dL_law_497 : decode cL_law 497 = .ok (.iaload, 1) := dk_q aqcL_law_6 35 rfl
theorem dL_law_498 : decode cL_law 498 = .ok (.aload_n 0, 1) := dk_q aqcL_law_6 36 rfl
theorem dL_law_499 : decode cL_law 499 = .ok (.iload_n 3, 1) := dk_q aqcL_law_6 37 rfl
theorem dL_law_500 : decode cL_law 500 = .ok (.iconst 2, 1) := dk_q aqcL_law_6 38 rfl
theorem dL_law_501 : decode cL_law 501 = .ok (.iadd, 1) := dk_q aqcL_law_6 39 rfl
def tqcL_law_7 : List (Nat × Instr × Nat) := [(502, .iaload, 1), (503, .invokevirtual 73, 3), (506, .pop, 1), (507, .aload_n 2, 1), (508, .aload_n 0, 1), (509, .iload_n 3, 1), (510, .iconst 1, 1), (511, .iadd, 1), (512, .iaload, 1), (513, .aload_n 0, 1), (514, .iload_n 3, 1), (515, .iconst 2, 1), (516, .iadd, 1), (517, .iaload, 1), (518, .invokevirtual 76, 3), (521, .pop, 1), (522, .goto 482, 3), (525, .aload_n 1, 1), (526, .aload_n 0, 1), (527, .iload_n 3, 1), (528, .iconst 1, 1), (529, .iadd, 1), (530, .iaload, 1), (531, .aload_n 0, 1), (532, .iload_n 3, 1), (533, .iconst 2, 1), (534, .iadd, 1), (535, .iaload, 1), (536, .invokevirtual 77, 3), (539, .pop, 1), (540, .aload_n 2, 1), (541, .aload_n 0, 1), (542, .iload_n 3, 1), (543, .iconst 1, 1), (544, .iadd, 1), (545, .iaload, 1), (546, .aload_n 0, 1), (547, .iload_n 3, 1), (548, .iconst 2, 1), (549, .iadd, 1)]
set_option maxRecDepth 20000 in
theorem aqcL_law_7 : tqcL_law_7.all (fun e => decide (decode cL_law e.1 = .ok e.2)) = true := by decide +kernel
theorem dL_law_502 : decode cL_law 502 = .ok (.iaload, 1) := dk_q aqcL_law_7 0 rfl
theorem dL_law_503 : decode cL_law 503 = .ok (.invokevirtual 73, 3) := dk_q aqcL_law_7 1 rfl
theorem dL_law_506 : decode cL_law 506 = .ok (.pop, 1) := dk_q aqcL_law_7 2 rfl
theorem dL_law_507 : decode cL_law 507 = .ok (.aload_n 2, 1) := dk_q aqcL_law_7 3 rfl
theorem dL_law_508 : decode cL_law 508 = .ok (.aload_n 0, 1) := dk_q aqcL_law_7 4 rfl
theorem dL_law_509 : decode cL_law 509 = .ok (.iload_n 3, 1) := dk_q aqcL_law_7 5 rfl
theorem dL_law_510 : decode cL_law 510 = .ok (.iconst 1, 1) := dk_q aqcL_law_7 6 rfl
theorem dL_law_511 : decode cL_law 511 = .ok (.iadd, 1) := dk_q aqcL_law_7 7 rfl
theorem dL_law_512 : decode cL_law 512 = .ok (.iaload, 1) := dk_q aqcL_law_7 8 rfl
theorem dL_law_513 : decode cL_law 513 = .ok (.aload_n 0, 1) := dk_q aqcL_law_7 9 rfl
theorem dL_law_514 : decode cL_law 514 = .ok (.iload_n 3, 1) := dk_q aqcL_law_7 10 rfl
theorem dL_law_515 : decode cL_law 515 = .ok (.iconst 2, 1) := dk_q aqcL_law_7 11 rfl
theorem dL_law_516 : decode cL_law 516 = .ok (.iadd, 1) := dk_q aqcL_law_7 12 rfl
theorem dL_law_517 : decode cL_law 517 = .ok (.iaload, 1) := dk_q aqcL_law_7 13 rfl
theorem dL_law_518 : decode cL_law 518 = .ok (.invokevirtual 76, 3) := dk_q aqcL_law_7 14 rfl
theorem dL_law_521 : decode cL_law 521 = .ok (.pop, 1) := dk_q aqcL_law_7 15 rfl
theorem dL_law_522 : decode cL_law 522 = .ok (.goto 482, 3) := dk_q aqcL_law_7 16 rfl
theorem dL_law_525 : decode cL_law 525 = .ok (.aload_n 1, 1) := dk_q aqcL_law_7 17 rfl
theorem dL_law_526 : decode cL_law 526 = .ok (.aload_n 0, 1) := dk_q aqcL_law_7 18 rfl
theorem dL_law_527 : decode cL_law 527 = .ok (.iload_n 3, 1) := dk_q aqcL_law_7 19 rfl
theorem dL_law_528 : decode cL_law 528 = .ok (.iconst 1, 1) := dk_q aqcL_law_7 20 rfl
theorem dL_law_529 : decode cL_law 529 = .ok (.iadd, 1) := dk_q aqcL_law_7 21 rfl
theorem dL_law_530 : decode cL_law 530 = .ok (.iaload, 1) := dk_q aqcL_law_7 22 rfl
theorem dL_law_531 : decode cL_law 531 = .ok (.aload_n 0, 1) := dk_q aqcL_law_7 23 rfl
theorem dL_law_532 : decode cL_law 532 = .ok (.iload_n 3, 1) := dk_q aqcL_law_7 24 rfl
theorem dL_law_533 : decode cL_law 533 = .ok (.iconst 2, 1) := dk_q aqcL_law_7 25 rfl
theorem dL_law_534 : decode cL_law 534 = .ok (.iadd, 1) := dk_q aqcL_law_7 26 rfl
theorem dL_law_535 : decode cL_law 535 = .ok (.iaload, 1) := dk_q aqcL_law_7 27 rfl
theorem dL_law_536 : decode cL_law 536 = .ok (.invokevirtual 77, 3) := dk_q aqcL_law_7 28 rfl
theorem dL_law_539 : decode cL_law 539 = .ok (.pop, 1) := dk_q aqcL_law_7 29 rfl
theorem dL_law_540 : decode cL_law 540 = .ok (.aload_n 2, 1) := dk_q aqcL_law_7 30 rfl
theorem dL_law_541 : decode cL_law 541 = .ok (.aload_n 0, 1) := dk_q aqcL_law_7 31 rfl
theorem dL_law_542 : decode cL_law 542 = .ok (.iload_n 3, 1) := dk_q aqcL_law_7 32 rfl
theorem dL_law_543 : decode cL_law 543 = .ok (.iconst 1, 1) := dk_q aqcL_law_7 33 rfl
theorem dL_law_544 : decode cL_law 544 = .ok (.iadd, 1) := dk_q aqcL_law_7 34 rfl
theorem dL_law_545 : decode cL_law 545 = .ok (.iaload, 1) := dk_q aqcL_law_7 35 rfl
theorem dL_law_546 : decode cL_law 546 = .ok (.aload_n 0, 1) := dk_q aqcL_law_7 36 rfl
theorem dL_law_547 : decode cL_law 547 = .ok (.iload_n 3, 1) := dk_q aqcL_law_7 37 rfl
theorem dL_law_548 : decode cL_law 548 = .ok (.iconst 2, 1) := dk_q aqcL_law_7 38 rfl
theorem dL_law_549 : decode cL_law 549 = .ok (.iadd, 1) := dk_q aqcL_law_7 39 rfl
def tqcL_law_8 : List (Nat × Instr × Nat) := [(550, .iaload, 1), (551, .invokevirtual 80, 3), (554, .pop, 1), (555, .goto 449, 3), (558, .aload_n 1, 1), (559, .aload_n 0, 1), (560, .iload_n 3, 1), (561, .iconst 1, 1), (562, .iadd, 1), (563, .iaload, 1), (564, .aload_n 0, 1), (565, .iload_n 3, 1), (566, .iconst 2, 1), (567, .iadd, 1), (568, .iaload, 1), (569, .aload_n 0, 1), (570, .iload_n 3, 1), (571, .iconst 3, 1), (572, .iadd, 1), (573, .iaload, 1), (574, .invokevirtual 81, 3), (577, .pop, 1), (578, .aload_n 2, 1), (579, .aload_n 0, 1), (580, .iload_n 3, 1), (581, .iconst 1, 1), (582, .iadd, 1), (583, .iaload, 1), (584, .aload_n 0, 1), (585, .iload_n 3, 1), (586, .iconst 2, 1), (587, .iadd, 1), (588, .iaload, 1), (589, .aload_n 0, 1), (590, .iload_n 3, 1), (591, .iconst 3, 1), (592, .iadd, 1), (593, .iaload, 1), (594, .invokevirtual 84, 3), (597, .pop, 1)]
set_option maxRecDepth 20000 in
theorem aqcL_law_8 : tqcL_law_8.all (fun e => decide (decode cL_law e.1 = .ok e.2)) = true := by decide +kernel
theorem dL_law_550 : decode cL_law 550 = .ok (.iaload, 1) := dk_q aqcL_law_8 0 rfl
theorem dL_law_551 : decode cL_law 551 = .ok (.invokevirtual 80, 3) := dk_q aqcL_law_8 1 rfl
theorem dL_law_554 : decode cL_law 554 = .ok (.pop, 1) := dk_q aqcL_law_8 2 rfl
theorem dL_law_555 : decode cL_law 555 = .ok (.goto 449, 3) := dk_q aqcL_law_8 3 rfl
theorem dL_law_558 : decode cL_law 558 = .ok (.aload_n 1, 1) := dk_q aqcL_law_8 4 rfl
theorem dL_law_559 : decode cL_law 559 = .ok (.aload_n 0, 1) := dk_q aqcL_law_8 5 rfl
theorem dL_law_560 : decode cL_law 560 = .ok (.iload_n 3, 1) := dk_q aqcL_law_8 6 rfl
theorem dL_law_561 : decode cL_law 561 = .ok (.iconst 1, 1) := dk_q aqcL_law_8 7 rfl
theorem dL_law_562 : decode cL_law 562 = .ok (.iadd, 1) := dk_q aqcL_law_8 8 rfl
theorem dL_law_563 : decode cL_law 563 = .ok (.iaload, 1) := dk_q aqcL_law_8 9 rfl
theorem dL_law_564 : decode cL_law 564 = .ok (.aload_n 0, 1) := dk_q aqcL_law_8 10 rfl
theorem dL_law_565 : decode cL_law 565 = .ok (.iload_n 3, 1) := dk_q aqcL_law_8 11 rfl
theorem dL_law_566 : decode cL_law 566 = .ok (.iconst 2, 1) := dk_q aqcL_law_8 12 rfl
theorem dL_law_567 : decode cL_law 567 = .ok (.iadd, 1) := dk_q aqcL_law_8 13 rfl
theorem dL_law_568 : decode cL_law 568 = .ok (.iaload, 1) := dk_q aqcL_law_8 14 rfl
theorem dL_law_569 : decode cL_law 569 = .ok (.aload_n 0, 1) := dk_q aqcL_law_8 15 rfl
theorem dL_law_570 : decode cL_law 570 = .ok (.iload_n 3, 1) := dk_q aqcL_law_8 16 rfl
theorem dL_law_571 : decode cL_law 571 = .ok (.iconst 3, 1) := dk_q aqcL_law_8 17 rfl
theorem dL_law_572 : decode cL_law 572 = .ok (.iadd, 1) := dk_q aqcL_law_8 18 rfl
theorem dL_law_573 : decode cL_law 573 = .ok (.iaload, 1) := dk_q aqcL_law_8 19 rfl
theorem dL_law_574 : decode cL_law 574 = .ok (.invokevirtual 81, 3) := dk_q aqcL_law_8 20 rfl
theorem dL_law_577 : decode cL_law 577 = .ok (.pop, 1) := dk_q aqcL_law_8 21 rfl
theorem dL_law_578 : decode cL_law 578 = .ok (.aload_n 2, 1) := dk_q aqcL_law_8 22 rfl
theorem dL_law_579 : decode cL_law 579 = .ok (.aload_n 0, 1) := dk_q aqcL_law_8 23 rfl
theorem dL_law_580 : decode cL_law 580 = .ok (.iload_n 3, 1) := dk_q aqcL_law_8 24 rfl
theorem dL_law_581 : decode cL_law 581 = .ok (.iconst 1, 1) := dk_q aqcL_law_8 25 rfl
theorem dL_law_582 : decode cL_law 582 = .ok (.iadd, 1) := dk_q aqcL_law_8 26 rfl
theorem dL_law_583 : decode cL_law 583 = .ok (.iaload, 1) := dk_q aqcL_law_8 27 rfl
theorem dL_law_584 : decode cL_law 584 = .ok (.aload_n 0, 1) := dk_q aqcL_law_8 28 rfl
theorem dL_law_585 : decode cL_law 585 = .ok (.iload_n 3, 1) := dk_q aqcL_law_8 29 rfl
theorem dL_law_586 : decode cL_law 586 = .ok (.iconst 2, 1) := dk_q aqcL_law_8 30 rfl
theorem dL_law_587 : decode cL_law 587 = .ok (.iadd, 1) := dk_q aqcL_law_8 31 rfl
theorem dL_law_588 : decode cL_law 588 = .ok (.iaload, 1) := dk_q aqcL_law_8 32 rfl
theorem dL_law_589 : decode cL_law 589 = .ok (.aload_n 0, 1) := dk_q aqcL_law_8 33 rfl
theorem dL_law_590 : decode cL_law 590 = .ok (.iload_n 3, 1) := dk_q aqcL_law_8 34 rfl
theorem dL_law_591 : decode cL_law 591 = .ok (.iconst 3, 1) := dk_q aqcL_law_8 35 rfl
theorem dL_law_592 : decode cL_law 592 = .ok (.iadd, 1) := dk_q aqcL_law_8 36 rfl
theorem dL_law_593 : decode cL_law 593 = .ok (.iaload, 1) := dk_q aqcL_law_8 37 rfl
theorem dL_law_594 : decode cL_law 594 = .ok (.invokevirtual 84, 3) := dk_q aqcL_law_8 38 rfl
theorem dL_law_597 : decode cL_law 597 = .ok (.pop, 1) := dk_q aqcL_law_8 39 rfl
def tqcL_law_9 : List (Nat × Instr × Nat) := [(598, .goto 406, 3), (601, .aload_n 1, 1), (602, .aload_n 0, 1), (603, .iload_n 3, 1), (604, .iconst 1, 1), (605, .iadd, 1), (606, .iaload, 1), (607, .aload_n 0, 1), (608, .iload_n 3, 1), (609, .iconst 2, 1), (610, .iadd, 1), (611, .iaload, 1), (612, .invokevirtual 85, 3), (615, .pop, 1), (616, .aload_n 2, 1), (617, .aload_n 0, 1), (618, .iload_n 3, 1), (619, .iconst 1, 1), (620, .iadd, 1), (621, .iaload, 1), (622, .aload_n 0, 1), (623, .iload_n 3, 1), (624, .iconst 2, 1), (625, .iadd, 1), (626, .iaload, 1), (627, .invokevirtual 88, 3), (630, .pop, 1), (631, .goto 373, 3), (634, .aload_n 1, 1), (635, .aload_n 0, 1), (636, .iload_n 3, 1), (637, .iconst 1, 1), (638, .iadd, 1), (639, .iaload, 1), (640, .aload_n 0, 1), (641, .iload_n 3, 1), (642, .iconst 2, 1), (643, .iadd, 1), (644, .iaload, 1), (645, .invokevirtual 89, 3)]
set_option maxRecDepth 20000 in
theorem aqcL_law_9 : tqcL_law_9.all (fun e => decide (decode cL_law e.1 = .ok e.2)) = true := by decide +kernel
theorem dL_law_598 : decode cL_law 598 = .ok (.goto 406, 3) := dk_q aqcL_law_9 0 rfl
theorem dL_law_601 : decode cL_law 601 = .ok (.aload_n 1, 1) := dk_q aqcL_law_9 1 rfl
theorem dL_law_602 : decode cL_law 602 = .ok (.aload_n 0, 1) := dk_q aqcL_law_9 2 rfl
theorem dL_law_603 : decode cL_law 603 = .ok (.iload_n 3, 1) := dk_q aqcL_law_9 3 rfl
theorem dL_law_604 : decode cL_law 604 = .ok (.iconst 1, 1) := dk_q aqcL_law_9 4 rfl
theorem dL_law_605 : decode cL_law 605 = .ok (.iadd, 1) := dk_q aqcL_law_9 5 rfl
theorem dL_law_606 : decode cL_law 606 = .ok (.iaload, 1) := dk_q aqcL_law_9 6 rfl
theorem dL_law_607 : decode cL_law 607 = .ok (.aload_n 0, 1) := dk_q aqcL_law_9 7 rfl
theorem dL_law_608 : decode cL_law 608 = .ok (.iload_n 3, 1) := dk_q aqcL_law_9 8 rfl
theorem dL_law_609 : decode cL_law 609 = .ok (.iconst 2, 1) := dk_q aqcL_law_9 9 rfl
theorem dL_law_610 : decode cL_law 610 = .ok (.iadd, 1) := dk_q aqcL_law_9 10 rfl
theorem dL_law_611 : decode cL_law 611 = .ok (.iaload, 1) := dk_q aqcL_law_9 11 rfl
theorem dL_law_612 : decode cL_law 612 = .ok (.invokevirtual 85, 3) := dk_q aqcL_law_9 12 rfl
theorem dL_law_615 : decode cL_law 615 = .ok (.pop, 1) := dk_q aqcL_law_9 13 rfl
theorem dL_law_616 : decode cL_law 616 = .ok (.aload_n 2, 1) := dk_q aqcL_law_9 14 rfl
theorem dL_law_617 : decode cL_law 617 = .ok (.aload_n 0, 1) := dk_q aqcL_law_9 15 rfl
theorem dL_law_618 : decode cL_law 618 = .ok (.iload_n 3, 1) := dk_q aqcL_law_9 16 rfl
theorem dL_law_619 : decode cL_law 619 = .ok (.iconst 1, 1) := dk_q aqcL_law_9 17 rfl
theorem dL_law_620 : decode cL_law 620 = .ok (.iadd, 1) := dk_q aqcL_law_9 18 rfl
theorem dL_law_621 : decode cL_law 621 = .ok (.iaload, 1) := dk_q aqcL_law_9 19 rfl
theorem dL_law_622 : decode cL_law 622 = .ok (.aload_n 0, 1) := dk_q aqcL_law_9 20 rfl
theorem dL_law_623 : decode cL_law 623 = .ok (.iload_n 3, 1) := dk_q aqcL_law_9 21 rfl
theorem dL_law_624 : decode cL_law 624 = .ok (.iconst 2, 1) := dk_q aqcL_law_9 22 rfl
theorem dL_law_625 : decode cL_law 625 = .ok (.iadd, 1) := dk_q aqcL_law_9 23 rfl
theorem dL_law_626 : decode cL_law 626 = .ok (.iaload, 1) := dk_q aqcL_law_9 24 rfl
theorem dL_law_627 : decode cL_law 627 = .ok (.invokevirtual 88, 3) := dk_q aqcL_law_9 25 rfl
theorem dL_law_630 : decode cL_law 630 = .ok (.pop, 1) := dk_q aqcL_law_9 26 rfl
theorem dL_law_631 : decode cL_law 631 = .ok (.goto 373, 3) := dk_q aqcL_law_9 27 rfl
theorem dL_law_634 : decode cL_law 634 = .ok (.aload_n 1, 1) := dk_q aqcL_law_9 28 rfl
theorem dL_law_635 : decode cL_law 635 = .ok (.aload_n 0, 1) := dk_q aqcL_law_9 29 rfl
theorem dL_law_636 : decode cL_law 636 = .ok (.iload_n 3, 1) := dk_q aqcL_law_9 30 rfl
theorem dL_law_637 : decode cL_law 637 = .ok (.iconst 1, 1) := dk_q aqcL_law_9 31 rfl
theorem dL_law_638 : decode cL_law 638 = .ok (.iadd, 1) := dk_q aqcL_law_9 32 rfl
theorem dL_law_639 : decode cL_law 639 = .ok (.iaload, 1) := dk_q aqcL_law_9 33 rfl
theorem dL_law_640 : decode cL_law 640 = .ok (.aload_n 0, 1) := dk_q aqcL_law_9 34 rfl
theorem dL_law_641 : decode cL_law 641 = .ok (.iload_n 3, 1) := dk_q aqcL_law_9 35 rfl
theorem dL_law_642 : decode cL_law 642 = .ok (.iconst 2, 1) := dk_q aqcL_law_9 36 rfl
theorem dL_law_643 : decode cL_law 643 = .ok (.iadd, 1) := dk_q aqcL_law_9 37 rfl
theorem dL_law_644 : decode cL_law 644 = .ok (.iaload, 1) := dk_q aqcL_law_9 38 rfl
theorem dL_law_645 : decode cL_law 645 = .ok (.invokevirtual 89, 3) := dk_q aqcL_law_9 39 rfl
def tqcL_law_10 : List (Nat × Instr × Nat) := [(648, .pop, 1), (649, .aload_n 2, 1), (650, .aload_n 0, 1), (651, .iload_n 3, 1), (652, .iconst 1, 1), (653, .iadd, 1), (654, .iaload, 1), (655, .aload_n 0, 1), (656, .iload_n 3, 1), (657, .iconst 2, 1), (658, .iadd, 1), (659, .iaload, 1), (660, .invokevirtual 92, 3), (663, .pop, 1), (664, .goto 340, 3), (667, .aload_n 1, 1), (668, .aload_n 0, 1), (669, .iload_n 3, 1), (670, .iconst 1, 1), (671, .iadd, 1), (672, .iaload, 1), (673, .aload_n 0, 1), (674, .iload_n 3, 1), (675, .iconst 2, 1), (676, .iadd, 1), (677, .iaload, 1), (678, .invokevirtual 93, 3), (681, .pop, 1), (682, .aload_n 2, 1), (683, .aload_n 0, 1), (684, .iload_n 3, 1), (685, .iconst 1, 1), (686, .iadd, 1), (687, .iaload, 1), (688, .aload_n 0, 1), (689, .iload_n 3, 1), (690, .iconst 2, 1), (691, .iadd, 1), (692, .iaload, 1), (693, .invokevirtual 96, 3)]
set_option maxRecDepth 20000 in
theorem aqcL_law_10 : tqcL_law_10.all (fun e => decide (decode cL_law e.1 = .ok e.2)) = true := by decide +kernel
theorem dL_law_648 : decode cL_law 648 = .ok (.pop, 1) := dk_q aqcL_law_10 0 rfl
theorem dL_law_649 : decode cL_law 649 = .ok (.aload_n 2, 1) := dk_q aqcL_law_10 1 rfl
theorem dL_law_650 : decode cL_law 650 = .ok (.aload_n 0, 1) := dk_q aqcL_law_10 2 rfl
theorem dL_law_651 : decode cL_law 651 = .ok (.iload_n 3, 1) := dk_q aqcL_law_10 3 rfl
theorem dL_law_652 : decode cL_law 652 = .ok (.iconst 1, 1) := dk_q aqcL_law_10 4 rfl
theorem dL_law_653 : decode cL_law 653 = .ok (.iadd, 1) := dk_q aqcL_law_10 5 rfl
theorem dL_law_654 : decode cL_law 654 = .ok (.iaload, 1) := dk_q aqcL_law_10 6 rfl
theorem dL_law_655 : decode cL_law 655 = .ok (.aload_n 0, 1) := dk_q aqcL_law_10 7 rfl
theorem dL_law_656 : decode cL_law 656 = .ok (.iload_n 3, 1) := dk_q aqcL_law_10 8 rfl
theorem dL_law_657 : decode cL_law 657 = .ok (.iconst 2, 1) := dk_q aqcL_law_10 9 rfl
theorem dL_law_658 : decode cL_law 658 = .ok (.iadd, 1) := dk_q aqcL_law_10 10 rfl
theorem dL_law_659 : decode cL_law 659 = .ok (.iaload, 1) := dk_q aqcL_law_10 11 rfl
theorem dL_law_660 : decode cL_law 660 = .ok (.invokevirtual 92, 3) := dk_q aqcL_law_10 12 rfl
theorem dL_law_663 : decode cL_law 663 = .ok (.pop, 1) := dk_q aqcL_law_10 13 rfl
theorem dL_law_664 : decode cL_law 664 = .ok (.goto 340, 3) := dk_q aqcL_law_10 14 rfl
theorem dL_law_667 : decode cL_law 667 = .ok (.aload_n 1, 1) := dk_q aqcL_law_10 15 rfl
theorem dL_law_668 : decode cL_law 668 = .ok (.aload_n 0, 1) := dk_q aqcL_law_10 16 rfl
theorem dL_law_669 : decode cL_law 669 = .ok (.iload_n 3, 1) := dk_q aqcL_law_10 17 rfl
theorem dL_law_670 : decode cL_law 670 = .ok (.iconst 1, 1) := dk_q aqcL_law_10 18 rfl
theorem dL_law_671 : decode cL_law 671 = .ok (.iadd, 1) := dk_q aqcL_law_10 19 rfl
theorem dL_law_672 : decode cL_law 672 = .ok (.iaload, 1) := dk_q aqcL_law_10 20 rfl
theorem dL_law_673 : decode cL_law 673 = .ok (.aload_n 0, 1) := dk_q aqcL_law_10 21 rfl
theorem dL_law_674 : decode cL_law 674 = .ok (.iload_n 3, 1) := dk_q aqcL_law_10 22 rfl
theorem dL_law_675 : decode cL_law 675 = .ok (.iconst 2, 1) := dk_q aqcL_law_10 23 rfl
theorem dL_law_676 : decode cL_law 676 = .ok (.iadd, 1) := dk_q aqcL_law_10 24 rfl
theorem dL_law_677 : decode cL_law 677 = .ok (.iaload, 1) := dk_q aqcL_law_10 25 rfl
theorem dL_law_678 : decode cL_law 678 = .ok (.invokevirtual 93, 3) := dk_q aqcL_law_10 26 rfl
theorem dL_law_681 : decode cL_law 681 = .ok (.pop, 1) := dk_q aqcL_law_10 27 rfl
theorem dL_law_682 : decode cL_law 682 = .ok (.aload_n 2, 1) := dk_q aqcL_law_10 28 rfl
theorem dL_law_683 : decode cL_law 683 = .ok (.aload_n 0, 1) := dk_q aqcL_law_10 29 rfl
theorem dL_law_684 : decode cL_law 684 = .ok (.iload_n 3, 1) := dk_q aqcL_law_10 30 rfl
theorem dL_law_685 : decode cL_law 685 = .ok (.iconst 1, 1) := dk_q aqcL_law_10 31 rfl
theorem dL_law_686 : decode cL_law 686 = .ok (.iadd, 1) := dk_q aqcL_law_10 32 rfl
theorem dL_law_687 : decode cL_law 687 = .ok (.iaload, 1) := dk_q aqcL_law_10 33 rfl
theorem dL_law_688 : decode cL_law 688 = .ok (.aload_n 0, 1) := dk_q aqcL_law_10 34 rfl
theorem dL_law_689 : decode cL_law 689 = .ok (.iload_n 3, 1) := dk_q aqcL_law_10 35 rfl
theorem dL_law_690 : decode cL_law 690 = .ok (.iconst 2, 1) := dk_q aqcL_law_10 36 rfl
theorem dL_law_691 : decode cL_law 691 = .ok (.iadd, 1) := dk_q aqcL_law_10 37 rfl
theorem dL_law_692 : decode cL_law 692 = .ok (.iaload, 1) := dk_q aqcL_law_10 38 rfl
theorem dL_law_693 : decode cL_law 693 = .ok (.invokevirtual 96, 3) := dk_q aqcL_law_10 39 rfl
def tqcL_law_11 : List (Nat × Instr × Nat) := [(696, .pop, 1), (697, .goto 307, 3), (700, .aload_n 1, 1), (701, .aload_n 0, 1), (702, .iload_n 3, 1), (703, .iconst 1, 1), (704, .iadd, 1), (705, .iaload, 1), (706, .aload_n 0, 1), (707, .iload_n 3, 1), (708, .iconst 2, 1), (709, .iadd, 1), (710, .iaload, 1), (711, .invokevirtual 97, 3), (714, .pop, 1), (715, .aload_n 2, 1), (716, .aload_n 0, 1), (717, .iload_n 3, 1), (718, .iconst 1, 1), (719, .iadd, 1), (720, .iaload, 1), (721, .aload_n 0, 1), (722, .iload_n 3, 1), (723, .iconst 2, 1), (724, .iadd, 1), (725, .iaload, 1), (726, .invokevirtual 100, 3), (729, .pop, 1), (730, .goto 274, 3), (733, .aload_n 1, 1), (734, .aload_n 0, 1), (735, .iload_n 3, 1), (736, .iconst 1, 1), (737, .iadd, 1), (738, .iaload, 1), (739, .aload_n 0, 1), (740, .iload_n 3, 1), (741, .iconst 2, 1), (742, .iadd, 1), (743, .iaload, 1)]
set_option maxRecDepth 20000 in
theorem aqcL_law_11 : tqcL_law_11.all (fun e => decide (decode cL_law e.1 = .ok e.2)) = true := by decide +kernel
theorem dL_law_696 : decode cL_law 696 = .ok (.pop, 1) := dk_q aqcL_law_11 0 rfl
theorem dL_law_697 : decode cL_law 697 = .ok (.goto 307, 3) := dk_q aqcL_law_11 1 rfl
theorem dL_law_700 : decode cL_law 700 = .ok (.aload_n 1, 1) := dk_q aqcL_law_11 2 rfl
theorem dL_law_701 : decode cL_law 701 = .ok (.aload_n 0, 1) := dk_q aqcL_law_11 3 rfl
theorem dL_law_702 : decode cL_law 702 = .ok (.iload_n 3, 1) := dk_q aqcL_law_11 4 rfl
theorem dL_law_703 : decode cL_law 703 = .ok (.iconst 1, 1) := dk_q aqcL_law_11 5 rfl
theorem dL_law_704 : decode cL_law 704 = .ok (.iadd, 1) := dk_q aqcL_law_11 6 rfl
theorem dL_law_705 : decode cL_law 705 = .ok (.iaload, 1) := dk_q aqcL_law_11 7 rfl
theorem dL_law_706 : decode cL_law 706 = .ok (.aload_n 0, 1) := dk_q aqcL_law_11 8 rfl
theorem dL_law_707 : decode cL_law 707 = .ok (.iload_n 3, 1) := dk_q aqcL_law_11 9 rfl
theorem dL_law_708 : decode cL_law 708 = .ok (.iconst 2, 1) := dk_q aqcL_law_11 10 rfl
theorem dL_law_709 : decode cL_law 709 = .ok (.iadd, 1) := dk_q aqcL_law_11 11 rfl
theorem dL_law_710 : decode cL_law 710 = .ok (.iaload, 1) := dk_q aqcL_law_11 12 rfl
theorem dL_law_711 : decode cL_law 711 = .ok (.invokevirtual 97, 3) := dk_q aqcL_law_11 13 rfl
theorem dL_law_714 : decode cL_law 714 = .ok (.pop, 1) := dk_q aqcL_law_11 14 rfl
theorem dL_law_715 : decode cL_law 715 = .ok (.aload_n 2, 1) := dk_q aqcL_law_11 15 rfl
theorem dL_law_716 : decode cL_law 716 = .ok (.aload_n 0, 1) := dk_q aqcL_law_11 16 rfl
theorem dL_law_717 : decode cL_law 717 = .ok (.iload_n 3, 1) := dk_q aqcL_law_11 17 rfl
theorem dL_law_718 : decode cL_law 718 = .ok (.iconst 1, 1) := dk_q aqcL_law_11 18 rfl
theorem dL_law_719 : decode cL_law 719 = .ok (.iadd, 1) := dk_q aqcL_law_11 19 rfl
theorem dL_law_720 : decode cL_law 720 = .ok (.iaload, 1) := dk_q aqcL_law_11 20 rfl
theorem dL_law_721 : decode cL_law 721 = .ok (.aload_n 0, 1) := dk_q aqcL_law_11 21 rfl
theorem dL_law_722 : decode cL_law 722 = .ok (.iload_n 3, 1) := dk_q aqcL_law_11 22 rfl
theorem dL_law_723 : decode cL_law 723 = .ok (.iconst 2, 1) := dk_q aqcL_law_11 23 rfl
theorem dL_law_724 : decode cL_law 724 = .ok (.iadd, 1) := dk_q aqcL_law_11 24 rfl
theorem dL_law_725 : decode cL_law 725 = .ok (.iaload, 1) := dk_q aqcL_law_11 25 rfl
theorem dL_law_726 : decode cL_law 726 = .ok (.invokevirtual 100, 3) := dk_q aqcL_law_11 26 rfl
theorem dL_law_729 : decode cL_law 729 = .ok (.pop, 1) := dk_q aqcL_law_11 27 rfl
theorem dL_law_730 : decode cL_law 730 = .ok (.goto 274, 3) := dk_q aqcL_law_11 28 rfl
theorem dL_law_733 : decode cL_law 733 = .ok (.aload_n 1, 1) := dk_q aqcL_law_11 29 rfl
theorem dL_law_734 : decode cL_law 734 = .ok (.aload_n 0, 1) := dk_q aqcL_law_11 30 rfl
theorem dL_law_735 : decode cL_law 735 = .ok (.iload_n 3, 1) := dk_q aqcL_law_11 31 rfl
theorem dL_law_736 : decode cL_law 736 = .ok (.iconst 1, 1) := dk_q aqcL_law_11 32 rfl
theorem dL_law_737 : decode cL_law 737 = .ok (.iadd, 1) := dk_q aqcL_law_11 33 rfl
theorem dL_law_738 : decode cL_law 738 = .ok (.iaload, 1) := dk_q aqcL_law_11 34 rfl
theorem dL_law_739 : decode cL_law 739 = .ok (.aload_n 0, 1) := dk_q aqcL_law_11 35 rfl
theorem dL_law_740 : decode cL_law 740 = .ok (.iload_n 3, 1) := dk_q aqcL_law_11 36 rfl
theorem dL_law_741 : decode cL_law 741 = .ok (.iconst 2, 1) := dk_q aqcL_law_11 37 rfl
theorem dL_law_742 : decode cL_law 742 = .ok (.iadd, 1) := dk_q aqcL_law_11 38 rfl
theorem dL_law_743 : decode cL_law 743 = .ok (.iaload, 1) := dk_q aqcL_law_11 39 rfl
def tqcL_law_12 : List (Nat × Instr × Nat) := [(744, .aload_n 0, 1), (745, .iload_n 3, 1), (746, .iconst 3, 1), (747, .iadd, 1), (748, .iaload, 1), (749, .i2l, 1), (750, .bipush 32, 2), (752, .lshl, 1), (753, .aload_n 0, 1), (754, .iload_n 3, 1), (755, .iconst 4, 1), (756, .iadd, 1), (757, .iaload, 1), (758, .i2l, 1), (759, .ldc2_w 101, 3), (762, .land, 1), (763, .lor, 1), (764, .invokevirtual 103, 3), (767, .pop2, 1), (768, .aload_n 2, 1), (769, .aload_n 0, 1), (770, .iload_n 3, 1), (771, .iconst 1, 1), (772, .iadd, 1), (773, .iaload, 1), (774, .aload_n 0, 1), (775, .iload_n 3, 1), (776, .iconst 2, 1), (777, .iadd, 1), (778, .iaload, 1), (779, .aload_n 0, 1), (780, .iload_n 3, 1), (781, .iconst 3, 1), (782, .iadd, 1), (783, .iaload, 1), (784, .i2l, 1), (785, .bipush 32, 2), (787, .lshl, 1), (788, .aload_n 0, 1), (789, .iload_n 3, 1)]
set_option maxRecDepth 20000 in
theorem aqcL_law_12 : tqcL_law_12.all (fun e => decide (decode cL_law e.1 = .ok e.2)) = true := by decide +kernel
theorem dL_law_744 : decode cL_law 744 = .ok (.aload_n 0, 1) := dk_q aqcL_law_12 0 rfl
theorem dL_law_745 : decode cL_law 745 = .ok (.iload_n 3, 1) := dk_q aqcL_law_12 1 rfl
theorem dL_law_746 : decode cL_law 746 = .ok (.iconst 3, 1) := dk_q aqcL_law_12 2 rfl
theorem dL_law_747 : decode cL_law 747 = .ok (.iadd, 1) := dk_q aqcL_law_12 3 rfl
theorem dL_law_748 : decode cL_law 748 = .ok (.iaload, 1) := dk_q aqcL_law_12 4 rfl
theorem dL_law_749 : decode cL_law 749 = .ok (.i2l, 1) := dk_q aqcL_law_12 5 rfl
theorem dL_law_750 : decode cL_law 750 = .ok (.bipush 32, 2) := dk_q aqcL_law_12 6 rfl
theorem dL_law_752 : decode cL_law 752 = .ok (.lshl, 1) := dk_q aqcL_law_12 7 rfl
theorem dL_law_753 : decode cL_law 753 = .ok (.aload_n 0, 1) := dk_q aqcL_law_12 8 rfl
theorem dL_law_754 : decode cL_law 754 = .ok (.iload_n 3, 1) := dk_q aqcL_law_12 9 rfl
theorem dL_law_755 : decode cL_law 755 = .ok (.iconst 4, 1) := dk_q aqcL_law_12 10 rfl
theorem dL_law_756 : decode cL_law 756 = .ok (.iadd, 1) := dk_q aqcL_law_12 11 rfl
theorem dL_law_757 : decode cL_law 757 = .ok (.iaload, 1) := dk_q aqcL_law_12 12 rfl
theorem dL_law_758 : decode cL_law 758 = .ok (.i2l, 1) := dk_q aqcL_law_12 13 rfl
theorem dL_law_759 : decode cL_law 759 = .ok (.ldc2_w 101, 3) := dk_q aqcL_law_12 14 rfl
theorem dL_law_762 : decode cL_law 762 = .ok (.land, 1) := dk_q aqcL_law_12 15 rfl
theorem dL_law_763 : decode cL_law 763 = .ok (.lor, 1) := dk_q aqcL_law_12 16 rfl
theorem dL_law_764 : decode cL_law 764 = .ok (.invokevirtual 103, 3) := dk_q aqcL_law_12 17 rfl
theorem dL_law_767 : decode cL_law 767 = .ok (.pop2, 1) := dk_q aqcL_law_12 18 rfl
theorem dL_law_768 : decode cL_law 768 = .ok (.aload_n 2, 1) := dk_q aqcL_law_12 19 rfl
theorem dL_law_769 : decode cL_law 769 = .ok (.aload_n 0, 1) := dk_q aqcL_law_12 20 rfl
theorem dL_law_770 : decode cL_law 770 = .ok (.iload_n 3, 1) := dk_q aqcL_law_12 21 rfl
theorem dL_law_771 : decode cL_law 771 = .ok (.iconst 1, 1) := dk_q aqcL_law_12 22 rfl
theorem dL_law_772 : decode cL_law 772 = .ok (.iadd, 1) := dk_q aqcL_law_12 23 rfl
theorem dL_law_773 : decode cL_law 773 = .ok (.iaload, 1) := dk_q aqcL_law_12 24 rfl
theorem dL_law_774 : decode cL_law 774 = .ok (.aload_n 0, 1) := dk_q aqcL_law_12 25 rfl
theorem dL_law_775 : decode cL_law 775 = .ok (.iload_n 3, 1) := dk_q aqcL_law_12 26 rfl
theorem dL_law_776 : decode cL_law 776 = .ok (.iconst 2, 1) := dk_q aqcL_law_12 27 rfl
theorem dL_law_777 : decode cL_law 777 = .ok (.iadd, 1) := dk_q aqcL_law_12 28 rfl
theorem dL_law_778 : decode cL_law 778 = .ok (.iaload, 1) := dk_q aqcL_law_12 29 rfl
theorem dL_law_779 : decode cL_law 779 = .ok (.aload_n 0, 1) := dk_q aqcL_law_12 30 rfl
theorem dL_law_780 : decode cL_law 780 = .ok (.iload_n 3, 1) := dk_q aqcL_law_12 31 rfl
theorem dL_law_781 : decode cL_law 781 = .ok (.iconst 3, 1) := dk_q aqcL_law_12 32 rfl
theorem dL_law_782 : decode cL_law 782 = .ok (.iadd, 1) := dk_q aqcL_law_12 33 rfl
theorem dL_law_783 : decode cL_law 783 = .ok (.iaload, 1) := dk_q aqcL_law_12 34 rfl
theorem dL_law_784 : decode cL_law 784 = .ok (.i2l, 1) := dk_q aqcL_law_12 35 rfl
theorem dL_law_785 : decode cL_law 785 = .ok (.bipush 32, 2) := dk_q aqcL_law_12 36 rfl
theorem dL_law_787 : decode cL_law 787 = .ok (.lshl, 1) := dk_q aqcL_law_12 37 rfl
theorem dL_law_788 : decode cL_law 788 = .ok (.aload_n 0, 1) := dk_q aqcL_law_12 38 rfl
theorem dL_law_789 : decode cL_law 789 = .ok (.iload_n 3, 1) := dk_q aqcL_law_12 39 rfl
def tqcL_law_13 : List (Nat × Instr × Nat) := [(790, .iconst 4, 1), (791, .iadd, 1), (792, .iaload, 1), (793, .i2l, 1), (794, .ldc2_w 101, 3), (797, .land, 1), (798, .lor, 1), (799, .invokevirtual 107, 3), (802, .pop2, 1), (803, .goto 201, 3), (806, .aload_n 1, 1), (807, .aload_n 0, 1), (808, .iload_n 3, 1), (809, .iconst 1, 1), (810, .iadd, 1), (811, .iaload, 1), (812, .aload_n 0, 1), (813, .iload_n 3, 1), (814, .iconst 2, 1), (815, .iadd, 1), (816, .iaload, 1), (817, .invokevirtual 108, 3), (820, .pop2, 1), (821, .aload_n 2, 1), (822, .aload_n 0, 1), (823, .iload_n 3, 1), (824, .iconst 1, 1), (825, .iadd, 1), (826, .iaload, 1), (827, .aload_n 0, 1), (828, .iload_n 3, 1), (829, .iconst 2, 1), (830, .iadd, 1), (831, .iaload, 1), (832, .invokevirtual 112, 3), (835, .pop2, 1), (836, .goto 168, 3), (839, .aload_n 1, 1), (840, .aload_n 0, 1), (841, .iload_n 3, 1)]
set_option maxRecDepth 20000 in
theorem aqcL_law_13 : tqcL_law_13.all (fun e => decide (decode cL_law e.1 = .ok e.2)) = true := by decide +kernel
theorem dL_law_790 : decode cL_law 790 = .ok (.iconst 4, 1) := dk_q aqcL_law_13 0 rfl
theorem dL_law_791 : decode cL_law 791 = .ok (.iadd, 1) := dk_q aqcL_law_13 1 rfl
theorem dL_law_792 : decode cL_law 792 = .ok (.iaload, 1) := dk_q aqcL_law_13 2 rfl
theorem dL_law_793 : decode cL_law 793 = .ok (.i2l, 1) := dk_q aqcL_law_13 3 rfl
theorem dL_law_794 : decode cL_law 794 = .ok (.ldc2_w 101, 3) := dk_q aqcL_law_13 4 rfl
theorem dL_law_797 : decode cL_law 797 = .ok (.land, 1) := dk_q aqcL_law_13 5 rfl
theorem dL_law_798 : decode cL_law 798 = .ok (.lor, 1) := dk_q aqcL_law_13 6 rfl
theorem dL_law_799 : decode cL_law 799 = .ok (.invokevirtual 107, 3) := dk_q aqcL_law_13 7 rfl
theorem dL_law_802 : decode cL_law 802 = .ok (.pop2, 1) := dk_q aqcL_law_13 8 rfl
theorem dL_law_803 : decode cL_law 803 = .ok (.goto 201, 3) := dk_q aqcL_law_13 9 rfl
theorem dL_law_806 : decode cL_law 806 = .ok (.aload_n 1, 1) := dk_q aqcL_law_13 10 rfl
theorem dL_law_807 : decode cL_law 807 = .ok (.aload_n 0, 1) := dk_q aqcL_law_13 11 rfl
theorem dL_law_808 : decode cL_law 808 = .ok (.iload_n 3, 1) := dk_q aqcL_law_13 12 rfl
theorem dL_law_809 : decode cL_law 809 = .ok (.iconst 1, 1) := dk_q aqcL_law_13 13 rfl
theorem dL_law_810 : decode cL_law 810 = .ok (.iadd, 1) := dk_q aqcL_law_13 14 rfl
theorem dL_law_811 : decode cL_law 811 = .ok (.iaload, 1) := dk_q aqcL_law_13 15 rfl
theorem dL_law_812 : decode cL_law 812 = .ok (.aload_n 0, 1) := dk_q aqcL_law_13 16 rfl
theorem dL_law_813 : decode cL_law 813 = .ok (.iload_n 3, 1) := dk_q aqcL_law_13 17 rfl
theorem dL_law_814 : decode cL_law 814 = .ok (.iconst 2, 1) := dk_q aqcL_law_13 18 rfl
theorem dL_law_815 : decode cL_law 815 = .ok (.iadd, 1) := dk_q aqcL_law_13 19 rfl
theorem dL_law_816 : decode cL_law 816 = .ok (.iaload, 1) := dk_q aqcL_law_13 20 rfl
theorem dL_law_817 : decode cL_law 817 = .ok (.invokevirtual 108, 3) := dk_q aqcL_law_13 21 rfl
theorem dL_law_820 : decode cL_law 820 = .ok (.pop2, 1) := dk_q aqcL_law_13 22 rfl
theorem dL_law_821 : decode cL_law 821 = .ok (.aload_n 2, 1) := dk_q aqcL_law_13 23 rfl
theorem dL_law_822 : decode cL_law 822 = .ok (.aload_n 0, 1) := dk_q aqcL_law_13 24 rfl
theorem dL_law_823 : decode cL_law 823 = .ok (.iload_n 3, 1) := dk_q aqcL_law_13 25 rfl
theorem dL_law_824 : decode cL_law 824 = .ok (.iconst 1, 1) := dk_q aqcL_law_13 26 rfl
theorem dL_law_825 : decode cL_law 825 = .ok (.iadd, 1) := dk_q aqcL_law_13 27 rfl
theorem dL_law_826 : decode cL_law 826 = .ok (.iaload, 1) := dk_q aqcL_law_13 28 rfl
theorem dL_law_827 : decode cL_law 827 = .ok (.aload_n 0, 1) := dk_q aqcL_law_13 29 rfl
theorem dL_law_828 : decode cL_law 828 = .ok (.iload_n 3, 1) := dk_q aqcL_law_13 30 rfl
theorem dL_law_829 : decode cL_law 829 = .ok (.iconst 2, 1) := dk_q aqcL_law_13 31 rfl
theorem dL_law_830 : decode cL_law 830 = .ok (.iadd, 1) := dk_q aqcL_law_13 32 rfl
theorem dL_law_831 : decode cL_law 831 = .ok (.iaload, 1) := dk_q aqcL_law_13 33 rfl
theorem dL_law_832 : decode cL_law 832 = .ok (.invokevirtual 112, 3) := dk_q aqcL_law_13 34 rfl
theorem dL_law_835 : decode cL_law 835 = .ok (.pop2, 1) := dk_q aqcL_law_13 35 rfl
theorem dL_law_836 : decode cL_law 836 = .ok (.goto 168, 3) := dk_q aqcL_law_13 36 rfl
theorem dL_law_839 : decode cL_law 839 = .ok (.aload_n 1, 1) := dk_q aqcL_law_13 37 rfl
theorem dL_law_840 : decode cL_law 840 = .ok (.aload_n 0, 1) := dk_q aqcL_law_13 38 rfl
theorem dL_law_841 : decode cL_law 841 = .ok (.iload_n 3, 1) := dk_q aqcL_law_13 39 rfl
def tqcL_law_14 : List (Nat × Instr × Nat) := [(842, .iconst 1, 1), (843, .iadd, 1), (844, .iaload, 1), (845, .invokevirtual 113, 3), (848, .pop, 1), (849, .aload_n 2, 1), (850, .aload_n 0, 1), (851, .iload_n 3, 1), (852, .iconst 1, 1), (853, .iadd, 1), (854, .iaload, 1), (855, .invokevirtual 116, 3), (858, .pop, 1), (859, .goto 145, 3), (862, .aload_n 1, 1), (863, .aload_n 0, 1), (864, .iload_n 3, 1), (865, .iconst 1, 1), (866, .iadd, 1), (867, .iaload, 1), (868, .aload_n 0, 1), (869, .iload_n 3, 1), (870, .iconst 2, 1), (871, .iadd, 1), (872, .iaload, 1), (873, .aload_n 0, 1), (874, .iload_n 3, 1), (875, .iconst 3, 1), (876, .iadd, 1), (877, .iaload, 1), (878, .invokevirtual 117, 3), (881, .pop, 1), (882, .aload_n 2, 1), (883, .aload_n 0, 1), (884, .iload_n 3, 1), (885, .iconst 1, 1), (886, .iadd, 1), (887, .iaload, 1), (888, .aload_n 0, 1), (889, .iload_n 3, 1)]
set_option maxRecDepth 20000 in
theorem aqcL_law_14 : tqcL_law_14.all (fun e => decide (decode cL_law e.1 = .ok e.2)) = true := by decide +kernel
theorem dL_law_842 : decode cL_law 842 = .ok (.iconst 1, 1) := dk_q aqcL_law_14 0 rfl
theorem dL_law_843 : decode cL_law 843 = .ok (.iadd, 1) := dk_q aqcL_law_14 1 rfl
theorem dL_law_844 : decode cL_law 844 = .ok (.iaload, 1) := dk_q aqcL_law_14 2 rfl
theorem dL_law_845 : decode cL_law 845 = .ok (.invokevirtual 113, 3) := dk_q aqcL_law_14 3 rfl
theorem dL_law_848 : decode cL_law 848 = .ok (.pop, 1) := dk_q aqcL_law_14 4 rfl
theorem dL_law_849 : decode cL_law 849 = .ok (.aload_n 2, 1) := dk_q aqcL_law_14 5 rfl
theorem dL_law_850 : decode cL_law 850 = .ok (.aload_n 0, 1) := dk_q aqcL_law_14 6 rfl
theorem dL_law_851 : decode cL_law 851 = .ok (.iload_n 3, 1) := dk_q aqcL_law_14 7 rfl
theorem dL_law_852 : decode cL_law 852 = .ok (.iconst 1, 1) := dk_q aqcL_law_14 8 rfl
theorem dL_law_853 : decode cL_law 853 = .ok (.iadd, 1) := dk_q aqcL_law_14 9 rfl
theorem dL_law_854 : decode cL_law 854 = .ok (.iaload, 1) := dk_q aqcL_law_14 10 rfl
theorem dL_law_855 : decode cL_law 855 = .ok (.invokevirtual 116, 3) := dk_q aqcL_law_14 11 rfl
theorem dL_law_858 : decode cL_law 858 = .ok (.pop, 1) := dk_q aqcL_law_14 12 rfl
theorem dL_law_859 : decode cL_law 859 = .ok (.goto 145, 3) := dk_q aqcL_law_14 13 rfl
theorem dL_law_862 : decode cL_law 862 = .ok (.aload_n 1, 1) := dk_q aqcL_law_14 14 rfl
theorem dL_law_863 : decode cL_law 863 = .ok (.aload_n 0, 1) := dk_q aqcL_law_14 15 rfl
theorem dL_law_864 : decode cL_law 864 = .ok (.iload_n 3, 1) := dk_q aqcL_law_14 16 rfl
theorem dL_law_865 : decode cL_law 865 = .ok (.iconst 1, 1) := dk_q aqcL_law_14 17 rfl
theorem dL_law_866 : decode cL_law 866 = .ok (.iadd, 1) := dk_q aqcL_law_14 18 rfl
theorem dL_law_867 : decode cL_law 867 = .ok (.iaload, 1) := dk_q aqcL_law_14 19 rfl
theorem dL_law_868 : decode cL_law 868 = .ok (.aload_n 0, 1) := dk_q aqcL_law_14 20 rfl
theorem dL_law_869 : decode cL_law 869 = .ok (.iload_n 3, 1) := dk_q aqcL_law_14 21 rfl
theorem dL_law_870 : decode cL_law 870 = .ok (.iconst 2, 1) := dk_q aqcL_law_14 22 rfl
theorem dL_law_871 : decode cL_law 871 = .ok (.iadd, 1) := dk_q aqcL_law_14 23 rfl
theorem dL_law_872 : decode cL_law 872 = .ok (.iaload, 1) := dk_q aqcL_law_14 24 rfl
theorem dL_law_873 : decode cL_law 873 = .ok (.aload_n 0, 1) := dk_q aqcL_law_14 25 rfl
theorem dL_law_874 : decode cL_law 874 = .ok (.iload_n 3, 1) := dk_q aqcL_law_14 26 rfl
theorem dL_law_875 : decode cL_law 875 = .ok (.iconst 3, 1) := dk_q aqcL_law_14 27 rfl
theorem dL_law_876 : decode cL_law 876 = .ok (.iadd, 1) := dk_q aqcL_law_14 28 rfl
theorem dL_law_877 : decode cL_law 877 = .ok (.iaload, 1) := dk_q aqcL_law_14 29 rfl
theorem dL_law_878 : decode cL_law 878 = .ok (.invokevirtual 117, 3) := dk_q aqcL_law_14 30 rfl
theorem dL_law_881 : decode cL_law 881 = .ok (.pop, 1) := dk_q aqcL_law_14 31 rfl
theorem dL_law_882 : decode cL_law 882 = .ok (.aload_n 2, 1) := dk_q aqcL_law_14 32 rfl
theorem dL_law_883 : decode cL_law 883 = .ok (.aload_n 0, 1) := dk_q aqcL_law_14 33 rfl
theorem dL_law_884 : decode cL_law 884 = .ok (.iload_n 3, 1) := dk_q aqcL_law_14 34 rfl
theorem dL_law_885 : decode cL_law 885 = .ok (.iconst 1, 1) := dk_q aqcL_law_14 35 rfl
theorem dL_law_886 : decode cL_law 886 = .ok (.iadd, 1) := dk_q aqcL_law_14 36 rfl
theorem dL_law_887 : decode cL_law 887 = .ok (.iaload, 1) := dk_q aqcL_law_14 37 rfl
theorem dL_law_888 : decode cL_law 888 = .ok (.aload_n 0, 1) := dk_q aqcL_law_14 38 rfl
theorem dL_law_889 : decode cL_law 889 = .ok (.iload_n 3, 1) := dk_q aqcL_law_14 39 rfl
def tqcL_law_15 : List (Nat × Instr × Nat) := [(890, .iconst 2, 1), (891, .iadd, 1), (892, .iaload, 1), (893, .aload_n 0, 1), (894, .iload_n 3, 1), (895, .iconst 3, 1), (896, .iadd, 1), (897, .iaload, 1), (898, .invokevirtual 120, 3), (901, .pop, 1), (902, .goto 102, 3), (905, .aload_n 1, 1), (906, .aload_n 0, 1), (907, .iload_n 3, 1), (908, .iconst 1, 1), (909, .iadd, 1), (910, .iaload, 1), (911, .aload_n 0, 1), (912, .iload_n 3, 1), (913, .iconst 2, 1), (914, .iadd, 1), (915, .iaload, 1), (916, .aload_n 0, 1), (917, .iload_n 3, 1), (918, .iconst 3, 1), (919, .iadd, 1), (920, .iaload, 1), (921, .aload_n 0, 1), (922, .iload_n 3, 1), (923, .iconst 4, 1), (924, .iadd, 1), (925, .iaload, 1), (926, .invokevirtual 121, 3), (929, .pop, 1), (930, .aload_n 2, 1), (931, .aload_n 0, 1), (932, .iload_n 3, 1), (933, .iconst 1, 1), (934, .iadd, 1), (935, .iaload, 1)]
set_option maxRecDepth 20000 in
theorem aqcL_law_15 : tqcL_law_15.all (fun e => decide (decode cL_law e.1 = .ok e.2)) = true := by decide +kernel
theorem dL_law_890 : decode cL_law 890 = .ok (.iconst 2, 1) := dk_q aqcL_law_15 0 rfl
theorem dL_law_891 : decode cL_law 891 = .ok (.iadd, 1) := dk_q aqcL_law_15 1 rfl
theorem dL_law_892 : decode cL_law 892 = .ok (.iaload, 1) := dk_q aqcL_law_15 2 rfl
theorem dL_law_893 : decode cL_law 893 = .ok (.aload_n 0, 1) := dk_q aqcL_law_15 3 rfl
theorem dL_law_894 : decode cL_law 894 = .ok (.iload_n 3, 1) := dk_q aqcL_law_15 4 rfl
theorem dL_law_895 : decode cL_law 895 = .ok (.iconst 3, 1) := dk_q aqcL_law_15 5 rfl
theorem dL_law_896 : decode cL_law 896 = .ok (.iadd, 1) := dk_q aqcL_law_15 6 rfl
theorem dL_law_897 : decode cL_law 897 = .ok (.iaload, 1) := dk_q aqcL_law_15 7 rfl
theorem dL_law_898 : decode cL_law 898 = .ok (.invokevirtual 120, 3) := dk_q aqcL_law_15 8 rfl
theorem dL_law_901 : decode cL_law 901 = .ok (.pop, 1) := dk_q aqcL_law_15 9 rfl
theorem dL_law_902 : decode cL_law 902 = .ok (.goto 102, 3) := dk_q aqcL_law_15 10 rfl
theorem dL_law_905 : decode cL_law 905 = .ok (.aload_n 1, 1) := dk_q aqcL_law_15 11 rfl
theorem dL_law_906 : decode cL_law 906 = .ok (.aload_n 0, 1) := dk_q aqcL_law_15 12 rfl
theorem dL_law_907 : decode cL_law 907 = .ok (.iload_n 3, 1) := dk_q aqcL_law_15 13 rfl
theorem dL_law_908 : decode cL_law 908 = .ok (.iconst 1, 1) := dk_q aqcL_law_15 14 rfl
theorem dL_law_909 : decode cL_law 909 = .ok (.iadd, 1) := dk_q aqcL_law_15 15 rfl
theorem dL_law_910 : decode cL_law 910 = .ok (.iaload, 1) := dk_q aqcL_law_15 16 rfl
theorem dL_law_911 : decode cL_law 911 = .ok (.aload_n 0, 1) := dk_q aqcL_law_15 17 rfl
theorem dL_law_912 : decode cL_law 912 = .ok (.iload_n 3, 1) := dk_q aqcL_law_15 18 rfl
theorem dL_law_913 : decode cL_law 913 = .ok (.iconst 2, 1) := dk_q aqcL_law_15 19 rfl
theorem dL_law_914 : decode cL_law 914 = .ok (.iadd, 1) := dk_q aqcL_law_15 20 rfl
theorem dL_law_915 : decode cL_law 915 = .ok (.iaload, 1) := dk_q aqcL_law_15 21 rfl
theorem dL_law_916 : decode cL_law 916 = .ok (.aload_n 0, 1) := dk_q aqcL_law_15 22 rfl
theorem dL_law_917 : decode cL_law 917 = .ok (.iload_n 3, 1) := dk_q aqcL_law_15 23 rfl
theorem dL_law_918 : decode cL_law 918 = .ok (.iconst 3, 1) := dk_q aqcL_law_15 24 rfl
theorem dL_law_919 : decode cL_law 919 = .ok (.iadd, 1) := dk_q aqcL_law_15 25 rfl
theorem dL_law_920 : decode cL_law 920 = .ok (.iaload, 1) := dk_q aqcL_law_15 26 rfl
theorem dL_law_921 : decode cL_law 921 = .ok (.aload_n 0, 1) := dk_q aqcL_law_15 27 rfl
theorem dL_law_922 : decode cL_law 922 = .ok (.iload_n 3, 1) := dk_q aqcL_law_15 28 rfl
theorem dL_law_923 : decode cL_law 923 = .ok (.iconst 4, 1) := dk_q aqcL_law_15 29 rfl
theorem dL_law_924 : decode cL_law 924 = .ok (.iadd, 1) := dk_q aqcL_law_15 30 rfl
theorem dL_law_925 : decode cL_law 925 = .ok (.iaload, 1) := dk_q aqcL_law_15 31 rfl
theorem dL_law_926 : decode cL_law 926 = .ok (.invokevirtual 121, 3) := dk_q aqcL_law_15 32 rfl
theorem dL_law_929 : decode cL_law 929 = .ok (.pop, 1) := dk_q aqcL_law_15 33 rfl
theorem dL_law_930 : decode cL_law 930 = .ok (.aload_n 2, 1) := dk_q aqcL_law_15 34 rfl
theorem dL_law_931 : decode cL_law 931 = .ok (.aload_n 0, 1) := dk_q aqcL_law_15 35 rfl
theorem dL_law_932 : decode cL_law 932 = .ok (.iload_n 3, 1) := dk_q aqcL_law_15 36 rfl
theorem dL_law_933 : decode cL_law 933 = .ok (.iconst 1, 1) := dk_q aqcL_law_15 37 rfl
theorem dL_law_934 : decode cL_law 934 = .ok (.iadd, 1) := dk_q aqcL_law_15 38 rfl
theorem dL_law_935 : decode cL_law 935 = .ok (.iaload, 1) := dk_q aqcL_law_15 39 rfl
def tqcL_law_16 : List (Nat × Instr × Nat) := [(936, .aload_n 0, 1), (937, .iload_n 3, 1), (938, .iconst 2, 1), (939, .iadd, 1), (940, .iaload, 1), (941, .aload_n 0, 1), (942, .iload_n 3, 1), (943, .iconst 3, 1), (944, .iadd, 1), (945, .iaload, 1), (946, .aload_n 0, 1), (947, .iload_n 3, 1), (948, .iconst 4, 1), (949, .iadd, 1), (950, .iaload, 1), (951, .invokevirtual 125, 3), (954, .pop, 1), (955, .goto 49, 3), (958, .aload_n 1, 1), (959, .aload_n 0, 1), (960, .iload_n 3, 1), (961, .iconst 1, 1), (962, .iadd, 1), (963, .iaload, 1), (964, .invokevirtual 126, 3), (967, .pop, 1), (968, .aload_n 2, 1), (969, .aload_n 0, 1), (970, .iload_n 3, 1), (971, .iconst 1, 1), (972, .iadd, 1), (973, .iaload, 1), (974, .invokevirtual 129, 3), (977, .pop, 1), (978, .goto 26, 3), (981, .aload_n 1, 1), (982, .aload_n 0, 1), (983, .iload_n 3, 1), (984, .iconst 1, 1), (985, .iadd, 1)]
set_option maxRecDepth 20000 in
theorem aqcL_law_16 : tqcL_law_16.all (fun e => decide (decode cL_law e.1 = .ok e.2)) = true := by decide +kernel
theorem dL_law_936 : decode cL_law 936 = .ok (.aload_n 0, 1) := dk_q aqcL_law_16 0 rfl
theorem dL_law_937 : decode cL_law 937 = .ok (.iload_n 3, 1) := dk_q aqcL_law_16 1 rfl
theorem dL_law_938 : decode cL_law 938 = .ok (.iconst 2, 1) := dk_q aqcL_law_16 2 rfl
theorem dL_law_939 : decode cL_law 939 = .ok (.iadd, 1) := dk_q aqcL_law_16 3 rfl
theorem dL_law_940 : decode cL_law 940 = .ok (.iaload, 1) := dk_q aqcL_law_16 4 rfl
theorem dL_law_941 : decode cL_law 941 = .ok (.aload_n 0, 1) := dk_q aqcL_law_16 5 rfl
theorem dL_law_942 : decode cL_law 942 = .ok (.iload_n 3, 1) := dk_q aqcL_law_16 6 rfl
theorem dL_law_943 : decode cL_law 943 = .ok (.iconst 3, 1) := dk_q aqcL_law_16 7 rfl
theorem dL_law_944 : decode cL_law 944 = .ok (.iadd, 1) := dk_q aqcL_law_16 8 rfl
theorem dL_law_945 : decode cL_law 945 = .ok (.iaload, 1) := dk_q aqcL_law_16 9 rfl
theorem dL_law_946 : decode cL_law 946 = .ok (.aload_n 0, 1) := dk_q aqcL_law_16 10 rfl
theorem dL_law_947 : decode cL_law 947 = .ok (.iload_n 3, 1) := dk_q aqcL_law_16 11 rfl
theorem dL_law_948 : decode cL_law 948 = .ok (.iconst 4, 1) := dk_q aqcL_law_16 12 rfl
theorem dL_law_949 : decode cL_law 949 = .ok (.iadd, 1) := dk_q aqcL_law_16 13 rfl
theorem dL_law_950 : decode cL_law 950 = .ok (.iaload, 1) := dk_q aqcL_law_16 14 rfl
theorem dL_law_951 : decode cL_law 951 = .ok (.invokevirtual 125, 3) := dk_q aqcL_law_16 15 rfl
theorem dL_law_954 : decode cL_law 954 = .ok (.pop, 1) := dk_q aqcL_law_16 16 rfl
theorem dL_law_955 : decode cL_law 955 = .ok (.goto 49, 3) := dk_q aqcL_law_16 17 rfl
theorem dL_law_958 : decode cL_law 958 = .ok (.aload_n 1, 1) := dk_q aqcL_law_16 18 rfl
theorem dL_law_959 : decode cL_law 959 = .ok (.aload_n 0, 1) := dk_q aqcL_law_16 19 rfl
theorem dL_law_960 : decode cL_law 960 = .ok (.iload_n 3, 1) := dk_q aqcL_law_16 20 rfl
theorem dL_law_961 : decode cL_law 961 = .ok (.iconst 1, 1) := dk_q aqcL_law_16 21 rfl
theorem dL_law_962 : decode cL_law 962 = .ok (.iadd, 1) := dk_q aqcL_law_16 22 rfl
theorem dL_law_963 : decode cL_law 963 = .ok (.iaload, 1) := dk_q aqcL_law_16 23 rfl
theorem dL_law_964 : decode cL_law 964 = .ok (.invokevirtual 126, 3) := dk_q aqcL_law_16 24 rfl
theorem dL_law_967 : decode cL_law 967 = .ok (.pop, 1) := dk_q aqcL_law_16 25 rfl
theorem dL_law_968 : decode cL_law 968 = .ok (.aload_n 2, 1) := dk_q aqcL_law_16 26 rfl
theorem dL_law_969 : decode cL_law 969 = .ok (.aload_n 0, 1) := dk_q aqcL_law_16 27 rfl
theorem dL_law_970 : decode cL_law 970 = .ok (.iload_n 3, 1) := dk_q aqcL_law_16 28 rfl
theorem dL_law_971 : decode cL_law 971 = .ok (.iconst 1, 1) := dk_q aqcL_law_16 29 rfl
theorem dL_law_972 : decode cL_law 972 = .ok (.iadd, 1) := dk_q aqcL_law_16 30 rfl
theorem dL_law_973 : decode cL_law 973 = .ok (.iaload, 1) := dk_q aqcL_law_16 31 rfl
theorem dL_law_974 : decode cL_law 974 = .ok (.invokevirtual 129, 3) := dk_q aqcL_law_16 32 rfl
theorem dL_law_977 : decode cL_law 977 = .ok (.pop, 1) := dk_q aqcL_law_16 33 rfl
theorem dL_law_978 : decode cL_law 978 = .ok (.goto 26, 3) := dk_q aqcL_law_16 34 rfl
theorem dL_law_981 : decode cL_law 981 = .ok (.aload_n 1, 1) := dk_q aqcL_law_16 35 rfl
theorem dL_law_982 : decode cL_law 982 = .ok (.aload_n 0, 1) := dk_q aqcL_law_16 36 rfl
theorem dL_law_983 : decode cL_law 983 = .ok (.iload_n 3, 1) := dk_q aqcL_law_16 37 rfl
theorem dL_law_984 : decode cL_law 984 = .ok (.iconst 1, 1) := dk_q aqcL_law_16 38 rfl
theorem dL_law_985 : decode cL_law 985 = .ok (.iadd, 1) := dk_q aqcL_law_16 39 rfl
def tqcL_law_17 : List (Nat × Instr × Nat) := [(986, .iaload, 1), (987, .invokevirtual 130, 3), (990, .pop, 1), (991, .aload_n 2, 1), (992, .aload_n 0, 1), (993, .iload_n 3, 1), (994, .iconst 1, 1), (995, .iadd, 1), (996, .iaload, 1), (997, .invokevirtual 133, 3), (1000, .pop, 1), (1001, .goto 3, 3), (1004, .iinc 3 5, 3), (1007, .goto (-989), 3), (1010, .iconst 1, 1), (1011, .ireturn, 1)]
set_option maxRecDepth 20000 in
theorem aqcL_law_17 : tqcL_law_17.all (fun e => decide (decode cL_law e.1 = .ok e.2)) = true := by decide +kernel
theorem dL_law_986 : decode cL_law 986 = .ok (.iaload, 1) := dk_q aqcL_law_17 0 rfl
theorem dL_law_987 : decode cL_law 987 = .ok (.invokevirtual 130, 3) := dk_q aqcL_law_17 1 rfl
theorem dL_law_990 : decode cL_law 990 = .ok (.pop, 1) := dk_q aqcL_law_17 2 rfl
theorem dL_law_991 : decode cL_law 991 = .ok (.aload_n 2, 1) := dk_q aqcL_law_17 3 rfl
theorem dL_law_992 : decode cL_law 992 = .ok (.aload_n 0, 1) := dk_q aqcL_law_17 4 rfl
theorem dL_law_993 : decode cL_law 993 = .ok (.iload_n 3, 1) := dk_q aqcL_law_17 5 rfl
theorem dL_law_994 : decode cL_law 994 = .ok (.iconst 1, 1) := dk_q aqcL_law_17 6 rfl
theorem dL_law_995 : decode cL_law 995 = .ok (.iadd, 1) := dk_q aqcL_law_17 7 rfl
theorem dL_law_996 : decode cL_law 996 = .ok (.iaload, 1) := dk_q aqcL_law_17 8 rfl
theorem dL_law_997 : decode cL_law 997 = .ok (.invokevirtual 133, 3) := dk_q aqcL_law_17 9 rfl
theorem dL_law_1000 : decode cL_law 1000 = .ok (.pop, 1) := dk_q aqcL_law_17 10 rfl
theorem dL_law_1001 : decode cL_law 1001 = .ok (.goto 3, 3) := dk_q aqcL_law_17 11 rfl
theorem dL_law_1004 : decode cL_law 1004 = .ok (.iinc 3 5, 3) := dk_q aqcL_law_17 12 rfl
theorem dL_law_1007 : decode cL_law 1007 = .ok (.goto (-989), 3) := dk_q aqcL_law_17 13 rfl
theorem dL_law_1010 : decode cL_law 1010 = .ok (.iconst 1, 1) := dk_q aqcL_law_17 14 rfl
theorem dL_law_1011 : decode cL_law 1011 = .ok (.ireturn, 1) := dk_q aqcL_law_17 15 rfl
