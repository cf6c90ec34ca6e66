set_option maxRecDepth 20000 in
theorem ggL_law_X6_init : GoodIn wsL_law wsX6_init := goodIn_r _ [8, 9, 10, 11, 12, 13, 14, 15, 16, 17, 18, 19, 20, 21, 22, 23, 24, 25, 26, 27, 28, 29, 30, 31, 32, 33, 34, 35, 36, 37, 38, 39, 40, 41, 42, 43, 44, 45, 46, 47, 48, 49, 50, 51, 52, 53, 54, 55, 56, 57, 58, 59, 60, 61, 62, 63, 64, 65, 66, 67, 68, 69, 70, 71, 72, 73, 74, 75, 76, 77, 78, 79, 80, 81, 82, 83, 84, 834, 835, 836, 837, 838, 839, 840, 808, 809, 810, 811, 812, 813, 814, 815, 841, 842, 843, 844, 845, 846, 847, 848, 849, 850, 851, 852, 853, 854, 855, 856, 857, 858, 859, 860, 861, 862, 863, 864, 865, 866, 867, 868, 869] (by decide +kernel) (by decide +kernel)
set_option maxRecDepth 20000 in
theorem gL_law_X6_init : GoodIn wsL_law (wsX6_init) := ggL_law_X6_init
set_option maxRecDepth 20000 in
theorem ggL_law_X7_init : GoodIn wsL_law wsX7_init := goodIn_r _ [87, 88, 10, 11, 42, 89, 90, 91, 92, 93, 94, 95, 96, 97, 98, 5, 99, 100, 101, 102, 103, 816, 817, 818, 819, 820, 821, 822, 823, 824, 825, 826, 827, 828, 829, 830, 831, 832, 833] (by decide +kernel) (by decide +kernel)
set_option maxRecDepth 20000 in
theorem gL_law_X7_init : GoodIn wsL_law (wsX7_init) := ggL_law_X7_init
set_option maxRecDepth 20000 in
theorem ggL_law_X6_feed : GoodIn wsL_law wsX6_feed := goodIn_r _ [107, 20, 108, 109, 110, 19, 111, 112, 113, 114, 115, 116, 58, 117, 118, 119, 120, 808, 809, 810, 811, 812, 813, 814, 815, 841, 842] (by decide +kernel) (by decide +kernel)
set_option maxRecDepth 20000 in
theorem gL_law_X6_feed : GoodIn wsL_law (wsV RL 13 RX6 yX6_feed wsX6_feed) := goodIn_app (goodIn_of _ (by decide +kernel)) ggL_law_X6_feed
set_option maxRecDepth 20000 in
theorem ggL_law_X7_feed : GoodIn wsL_law wsX7_feed := goodIn_r _ [124, 125, 126, 127, 128, 5, 129, 92, 816, 817, 818, 819, 820, 821, 822, 823, 824, 825, 826, 827, 828, 829, 830, 831, 832, 833] (by decide +kernel) (by decide +kernel)
set_option maxRecDepth 20000 in
theorem gL_law_X7_feed : GoodIn wsL_law (wsV RL 17 RX7 yX7_feed wsX7_feed) := goodIn_app (goodIn_of _ (by decide +kernel)) ggL_law_X7_feed
set_option maxRecDepth 20000 in
theorem ggL_law_X6_tells : GoodIn wsL_law wsX6_tells := goodIn_r _ [133, 20, 24, 37, 15, 16, 117, 118, 119, 19, 120, 112, 134, 135, 136, 137, 138, 139, 140, 141, 142, 143, 144, 145, 146, 147, 23, 148, 64, 149, 65, 150, 151, 152, 47, 48, 14, 49, 43, 44, 45, 50, 51, 52, 53, 153, 154, 155, 156, 63, 157, 158, 159, 160, 161, 162, 58, 163, 164, 165, 166, 167, 168, 169, 170, 171, 172, 173, 174, 175, 176, 177, 178, 179, 180, 181, 182, 183, 184, 185, 186, 187, 188, 189, 190, 191, 192, 193, 194, 195, 196, 197, 198, 199, 200, 201, 202, 203, 204, 205, 206, 207, 208, 209, 210, 211, 212, 213, 214, 215, 216, 217, 218, 219, 220, 221, 222, 223, 224, 225, 226, 227, 228, 229, 230, 231, 232, 233, 234, 235, 236, 237, 238, 239, 240, 241, 242, 243, 244, 245, 246, 247, 248, 249, 250, 251, 252, 253, 254, 255, 256, 257, 258, 259, 260, 261, 262, 263, 264, 265, 266, 267, 268, 269, 270, 271, 272, 273, 274, 275, 276, 277, 278, 279, 280, 281, 282, 283, 284, 285, 286, 287, 288, 289, 290, 291, 292, 293, 294, 295, 296, 297, 298, 299, 300, 301, 302, 303, 808, 809, 810, 811, 812, 813, 814, 815, 841, 842, 843, 844, 845, 846, 847, 848, 849, 834, 835, 836, 837, 838, 839, 840] (by decide +kernel) (by decide +kernel)
set_option maxRecDepth 20000 in
theorem gL_law_X6_tells : GoodIn wsL_law (wsV RL 18 RX6 yX6_tells wsX6_tells) := goodIn_app (goodIn_of _ (by decide +kernel)) ggL_law_X6_tells
set_option maxRecDepth 20000 in
theorem ggL_law_X7_tells : GoodIn wsL_law wsX7_tells := goodIn_r _ [307, 125, 93, 92, 308, 309, 94, 89, 310, 311, 5, 312, 96, 97, 98, 99, 313, 314, 315, 316, 317, 318, 319, 320, 321, 322, 323, 324, 325, 326, 327, 328, 329, 330, 331, 332, 333, 334, 335, 336, 337, 338, 339, 340, 341, 342, 343, 344, 345, 346, 347, 348, 349, 350, 351, 352, 353, 354, 355, 356, 357, 358, 359, 360, 361, 139, 140, 141, 362, 143, 144, 100, 101, 102, 103, 90, 816, 817, 818, 819, 820, 821, 822, 823, 824, 825, 826, 827, 828, 829, 830, 831, 832, 833] (by decide +kernel) (by decide +kernel)
set_option maxRecDepth 20000 in
theorem gL_law_X7_tells : GoodIn wsL_law (wsV RL 22 RX7 yX7_tells wsX7_tells) := goodIn_app (goodIn_of _ (by decide +kernel)) ggL_law_X7_tells
set_option maxRecDepth 20000 in
theorem ggL_law_X6_fault : GoodIn wsL_law wsX6_fault := goodIn_r _ [366, 37, 808, 809, 810, 811, 812, 813, 814, 815] (by decide +kernel) (by decide +kernel)
set_option maxRecDepth 20000 in
theorem gL_law_X6_fault : GoodIn wsL_law (wsV RL 23 RX6 yX6_fault wsX6_fault) := goodIn_app (goodIn_of _ (by decide +kernel)) ggL_law_X6_fault
set_option maxRecDepth 20000 in
theorem ggL_law_X7_fault : GoodIn wsL_law wsX7_fault := goodIn_r _ [370, 94, 816, 817, 818, 819, 820, 821, 822, 823, 824, 825, 826, 827, 828, 829, 830, 831, 832, 833] (by decide +kernel) (by decide +kernel)
set_option maxRecDepth 20000 in
theorem gL_law_X7_fault : GoodIn wsL_law (wsV RL 27 RX7 yX7_fault wsX7_fault) := goodIn_app (goodIn_of _ (by decide +kernel)) ggL_law_X7_fault
set_option maxRecDepth 20000 in
theorem ggL_law_X6_text : GoodIn wsL_law wsX6_text := goodIn_r _ [374, 28, 375, 376, 377, 27, 378, 379, 380, 71, 70, 381, 382, 383, 384, 385, 386, 387, 14, 388, 43, 389, 390, 391, 392, 393, 175, 176, 177, 178, 179, 180, 181, 182, 183, 184, 185, 394, 187, 188, 189, 190, 191, 192, 193, 194, 195, 196, 197, 198, 199, 200, 201, 202, 203, 204, 205, 206, 207, 208, 209, 210, 211, 212, 213, 214, 215, 216, 217, 218, 219, 220, 221, 222, 395, 396, 397, 398, 399, 400, 401, 402, 403, 404, 405, 406, 407, 2, 408, 409, 410, 411, 412, 50, 413, 414, 415, 416, 51, 417, 418, 419, 420, 421, 422, 423, 424, 52, 425, 426, 427, 428, 429, 430, 431, 432, 433, 434, 435, 436, 44, 437, 438, 439, 440, 441, 442, 443, 444, 53, 287, 139, 140, 141, 288, 143, 144, 289, 290, 291, 445, 446, 447, 448, 808, 809, 810, 811, 812, 813, 814, 815, 850, 851, 852, 853, 834, 835, 836, 837, 838, 839, 840] (by decide +kernel) (by decide +kernel)
set_option maxRecDepth 20000 in
theorem gL_law_X6_text : GoodIn wsL_law (wsV RL 28 RX6 yX6_text wsX6_text) := goodIn_app (goodIn_of _ (by decide +kernel)) ggL_law_X6_text
set_option maxRecDepth 20000 in
theorem ggL_law_X7_text : GoodIn wsL_law wsX7_text := goodIn_r _ [452, 453, 95, 454, 455, 456, 5, 457, 89, 321, 323, 324, 325, 326, 327, 328, 329, 458, 459, 460, 461, 462, 463, 464, 465, 466, 467, 468, 469, 470, 471, 472, 473, 474, 475, 476, 477, 478, 355, 356, 357, 358, 359, 360, 361, 139, 140, 141, 362, 143, 144, 310, 311, 312, 816, 817, 818, 819, 820, 821, 822, 823, 824, 825, 826, 827, 828, 829, 830, 831, 832, 833] (by decide +kernel) (by decide +kernel)
set_option maxRecDepth 20000 in
theorem gL_law_X7_text : GoodIn wsL_law (wsV RL 31 RX7 yX7_text wsX7_text) := goodIn_app (goodIn_of _ (by decide +kernel)) ggL_law_X7_text
set_option maxRecDepth 20000 in
theorem ggL_law_X6_ways : GoodIn wsL_law wsX6_ways := goodIn_r _ [482, 15, 483, 484, 2, 485, 486, 487, 488, 489, 236, 237, 14, 238, 43, 808, 809, 810, 811, 812, 813, 814, 815, 834, 835, 836, 837, 838, 839, 840] (by decide +kernel) (by decide +kernel)
set_option maxRecDepth 20000 in
theorem gL_law_X6_ways : GoodIn wsL_law (wsV RL 32 RX6 yX6_ways wsX6_ways) := goodIn_app (goodIn_of _ (by decide +kernel)) ggL_law_X6_ways
set_option maxRecDepth 20000 in
theorem ggL_law_X7_ways : GoodIn wsL_law wsX7_ways := goodIn_r _ [493, 89, 494, 495, 5, 496, 310, 311, 312, 816, 817, 818, 819, 820, 821, 822, 823, 824, 825, 826, 827, 828, 829, 830, 831, 832, 833] (by decide +kernel) (by decide +kernel)
set_option maxRecDepth 20000 in
theorem gL_law_X7_ways : GoodIn wsL_law (wsV RL 36 RX7 yX7_ways wsX7_ways) := goodIn_app (goodIn_of _ (by decide +kernel)) ggL_law_X7_ways
set_option maxRecDepth 20000 in
theorem ggL_law_X6_broken : GoodIn wsL_law wsX6_broken := goodIn_r _ [500, 15, 486, 487, 2, 488, 501, 244, 245, 14, 246, 50, 808, 809, 810, 811, 812, 813, 814, 815, 834, 835, 836, 837, 838, 839, 840] (by decide +kernel) (by decide +kernel)
set_option maxRecDepth 20000 in
theorem gL_law_X6_broken : GoodIn wsL_law (wsV RL 37 RX6 yX6_broken wsX6_broken) := goodIn_app (goodIn_of _ (by decide +kernel)) ggL_law_X6_broken
set_option maxRecDepth 20000 in
theorem ggL_law_X7_broken : GoodIn wsL_law wsX7_broken := goodIn_r _ [505, 89, 310, 311, 5, 312, 816, 817, 818, 819, 820, 821, 822, 823, 824, 825, 826, 827, 828, 829, 830, 831, 832, 833] (by decide +kernel) (by decide +kernel)
set_option maxRecDepth 20000 in
theorem gL_law_X7_broken : GoodIn wsL_law (wsV RL 41 RX7 yX7_broken wsX7_broken) := goodIn_app (goodIn_of _ (by decide +kernel)) ggL_law_X7_broken
set_option maxRecDepth 20000 in
theorem ggL_law_X6_retries : GoodIn wsL_law wsX6_retries := goodIn_r _ [509, 15, 510, 252, 253, 14, 254, 51, 808, 809, 810, 811, 812, 813, 814, 815, 834, 835, 836, 837, 838, 839, 840] (by decide +kernel) (by decide +kernel)
set_option maxRecDepth 20000 in
theorem gL_law_X6_retries : GoodIn wsL_law (wsV RL 42 RX6 yX6_retries wsX6_retries) := goodIn_app (goodIn_of _ (by decide +kernel)) ggL_law_X6_retries
set_option maxRecDepth 20000 in
theorem ggL_law_X7_retries : GoodIn wsL_law wsX7_retries := goodIn_r _ [514, 89, 310, 311, 5, 312, 816, 817, 818, 819, 820, 821, 822, 823, 824, 825, 826, 827, 828, 829, 830, 831, 832, 833] (by decide +kernel) (by decide +kernel)
set_option maxRecDepth 20000 in
theorem gL_law_X7_retries : GoodIn wsL_law (wsV RL 45 RX7 yX7_retries wsX7_retries) := goodIn_app (goodIn_of _ (by decide +kernel)) ggL_law_X7_retries
set_option maxRecDepth 20000 in
theorem ggL_law_X6_mend : GoodIn wsL_law wsX6_mend := goodIn_r _ [518, 15, 519, 520, 2, 521, 522, 422, 423, 14, 424, 52, 407, 408, 523, 264, 265, 266, 808, 809, 810, 811, 812, 813, 814, 815, 834, 835, 836, 837, 838, 839, 840] (by decide +kernel) (by decide +kernel)
set_option maxRecDepth 20000 in
theorem gL_law_X6_mend : GoodIn wsL_law (wsV RL 46 RX6 yX6_mend wsX6_mend) := goodIn_app (goodIn_of _ (by decide +kernel)) ggL_law_X6_mend
set_option maxRecDepth 20000 in
theorem ggL_law_X7_mend : GoodIn wsL_law wsX7_mend := goodIn_r _ [527, 89, 310, 311, 5, 312, 528, 529, 530, 816, 817, 818, 819, 820, 821, 822, 823, 824, 825, 826, 827, 828, 829, 830, 831, 832, 833] (by decide +kernel) (by decide +kernel)
set_option maxRecDepth 20000 in
theorem gL_law_X7_mend : GoodIn wsL_law (wsV RL 50 RX7 yX7_mend wsX7_mend) := goodIn_app (goodIn_of _ (by decide +kernel)) ggL_law_X7_mend
set_option maxRecDepth 20000 in
theorem ggL_law_X6_cost : GoodIn wsL_law wsX6_cost := goodIn_r _ [534, 15, 519, 520, 2, 521, 535, 276, 277, 14, 278, 44, 808, 809, 810, 811, 812, 813, 814, 815, 834, 835, 836, 837, 838, 839, 840] (by decide +kernel) (by decide +kernel)
set_option maxRecDepth 20000 in
theorem gL_law_X6_cost : GoodIn wsL_law (wsV RL 51 RX6 yX6_cost wsX6_cost) := goodIn_app (goodIn_of _ (by decide +kernel)) ggL_law_X6_cost
set_option maxRecDepth 20000 in
theorem ggL_law_X7_cost : GoodIn wsL_law wsX7_cost := goodIn_r _ [539, 89, 310, 311, 5, 312, 816, 817, 818, 819, 820, 821, 822, 823, 824, 825, 826, 827, 828, 829, 830, 831, 832, 833] (by decide +kernel) (by decide +kernel)
set_option maxRecDepth 20000 in
theorem gL_law_X7_cost : GoodIn wsL_law (wsV RL 54 RX7 yX7_cost wsX7_cost) := goodIn_app (goodIn_of _ (by decide +kernel)) ggL_law_X7_cost
set_option maxRecDepth 20000 in
theorem ggL_law_X6_best : GoodIn wsL_law wsX6_best := goodIn_r _ [543, 15, 544, 545, 2, 546, 483, 484, 485, 547, 548, 549, 14, 550, 52, 551, 552, 553, 554, 555, 556, 557, 558, 43, 559, 560, 808, 809, 810, 811, 812, 813, 814, 815, 834, 835, 836, 837, 838, 839, 840] (by decide +kernel) (by decide +kernel)
set_option maxRecDepth 20000 in
theorem gL_law_X6_best : GoodIn wsL_law (wsV RL 55 RX6 yX6_best wsX6_best) := goodIn_app (goodIn_of _ (by decide +kernel)) ggL_law_X6_best
set_option maxRecDepth 20000 in
theorem ggL_law_X7_best_ : GoodIn wsL_law wsX7_best_ := goodIn_r _ [564, 89, 565, 566, 5, 567, 494, 495, 496, 310, 311, 312, 568, 569, 570, 571, 572, 573, 574, 575, 576, 577, 578, 816, 817, 818, 819, 820, 821, 822, 823, 824, 825, 826, 827, 828, 829, 830, 831, 832, 833] (by decide +kernel) (by decide +kernel)
set_option maxRecDepth 20000 in
theorem gL_law_X7_best_ : GoodIn wsL_law (wsV RL 59 RX7 yX7_best_ wsX7_best_) := goodIn_app (goodIn_of _ (by decide +kernel)) ggL_law_X7_best_
set_option maxRecDepth 20000 in
theorem ggL_law_X6_meet : GoodIn wsL_law wsX6_meet := goodIn_r _ [582, 15, 544, 545, 2, 546, 483, 484, 485, 547, 548, 549, 14, 550, 52, 551, 552, 553, 554, 555, 556, 557, 558, 43, 559, 560, 583, 584, 585, 586, 45, 289, 290, 291, 587, 588, 589, 590, 288, 143, 140, 144, 808, 809, 810, 811, 812, 813, 814, 815, 834, 835, 836, 837, 838, 839, 840] (by decide +kernel) (by decide +kernel)
set_option maxRecDepth 20000 in
theorem gL_law_X6_meet : GoodIn wsL_law (wsV RL 60 RX6 yX6_meet wsX6_meet) := goodIn_app (goodIn_of _ (by decide +kernel)) ggL_law_X6_meet
set_option maxRecDepth 20000 in
theorem ggL_law_X7_meet : GoodIn wsL_law wsX7_meet := goodIn_r _ [594, 89, 90, 362, 143, 140, 144, 595, 562, 563, 5, 564, 565, 566, 567, 494, 495, 496, 310, 311, 312, 568, 569, 570, 571, 572, 573, 574, 575, 576, 577, 578, 816, 817, 818, 819, 820, 821, 822, 823, 824, 825, 826, 827, 828, 829, 830, 831, 832, 833] (by decide +kernel) (by decide +kernel)
set_option maxRecDepth 20000 in
theorem gL_law_X7_meet : GoodIn wsL_law (wsV RL 63 RX7 yX7_meet wsX7_meet) := goodIn_app (goodIn_of _ (by decide +kernel)) ggL_law_X7_meet
set_option maxRecDepth 20000 in
theorem ggL_law_X6_remembers : GoodIn wsL_law wsX6_remembers := goodIn_r _ [599, 15, 544, 545, 2, 546, 483, 484, 485, 583, 584, 585, 14, 586, 45, 289, 290, 291, 808, 809, 810, 811, 812, 813, 814, 815, 834, 835, 836, 837, 838, 839, 840] (by decide +kernel) (by decide +kernel)
set_option maxRecDepth 20000 in
theorem gL_law_X6_remembers : GoodIn wsL_law (wsV RL 64 RX6 yX6_remembers wsX6_remembers) := goodIn_app (goodIn_of _ (by decide +kernel)) ggL_law_X6_remembers
set_option maxRecDepth 20000 in
theorem ggL_law_X7_remembers : GoodIn wsL_law wsX7_remembers := goodIn_r _ [603, 90, 565, 566, 5, 567, 494, 495, 496, 310, 311, 312, 816, 817, 818, 819, 820, 821, 822, 823, 824, 825, 826, 827, 828, 829, 830, 831, 832, 833] (by decide +kernel) (by decide +kernel)
set_option maxRecDepth 20000 in
theorem gL_law_X7_remembers : GoodIn wsL_law (wsV RL 67 RX7 yX7_remembers wsX7_remembers) := goodIn_app (goodIn_of _ (by decide +kernel)) ggL_law_X7_remembers
set_option maxRecDepth 20000 in
theorem ggL_law_X6_fall : GoodIn wsL_law wsX6_fall := goodIn_r _ [607, 32, 15, 544, 545, 2, 546, 483, 484, 485, 608, 609, 610, 547, 548, 549, 14, 550, 52, 611, 612, 613, 31, 614, 615, 76, 616, 617, 618, 619, 620, 410, 411, 412, 50, 621, 556, 557, 558, 43, 622, 584, 585, 586, 45, 289, 290, 291, 623, 624, 625, 626, 77, 627, 628, 629, 414, 415, 416, 51, 630, 631, 632, 633, 559, 560, 634, 635, 636, 637, 407, 408, 638, 639, 640, 641, 642, 643, 644, 645, 646, 647, 648, 649, 650, 651, 652, 653, 654, 655, 808, 809, 810, 811, 812, 813, 814, 815, 834, 835, 836, 837, 838, 839, 840, 854, 855, 856, 857, 858, 859, 860, 861, 862, 863, 864, 865] (by decide +kernel) (by decide +kernel)
set_option maxRecDepth 20000 in
theorem gL_law_X6_fall : GoodIn wsL_law (wsV RL 68 RX6 yX6_fall wsX6_fall) := goodIn_app (goodIn_of _ (by decide +kernel)) ggL_law_X6_fall
set_option maxRecDepth 20000 in
theorem ggL_law_X7_fall : GoodIn wsL_law wsX7_fall := goodIn_r _ [659, 89, 565, 566, 5, 567, 494, 495, 496, 310, 311, 312, 660, 661, 662, 663, 664, 572, 573, 574, 575, 665, 666, 667, 362, 143, 140, 144, 576, 577, 578, 668, 669, 670, 671, 90, 672, 673, 674, 675, 676, 528, 529, 530, 816, 817, 818, 819, 820, 821, 822, 823, 824, 825, 826, 827, 828, 829, 830, 831, 832, 833] (by decide +kernel) (by decide +kernel)
set_option maxRecDepth 20000 in
theorem gL_law_X7_fall : GoodIn wsL_law (wsV RL 72 RX7 yX7_fall wsX7_fall) := goodIn_app (goodIn_of _ (by decide +kernel)) ggL_law_X7_fall
set_option maxRecDepth 20000 in
theorem ggL_law_X6_apart : GoodIn wsL_law wsX6_apart := goodIn_r _ [680, 32, 15, 544, 545, 2, 546, 483, 484, 485, 547, 548, 549, 14, 550, 52, 611, 612, 613, 31, 614, 615, 76, 616, 617, 618, 619, 620, 410, 411, 412, 50, 621, 556, 557, 558, 43, 622, 584, 585, 586, 45, 289, 290, 291, 623, 624, 625, 626, 77, 627, 628, 629, 414, 415, 416, 51, 630, 631, 632, 633, 559, 560, 634, 635, 636, 637, 407, 408, 638, 639, 640, 641, 642, 643, 644, 645, 646, 647, 648, 649, 650, 651, 652, 653, 654, 655, 808, 809, 810, 811, 812, 813, 814, 815, 834, 835, 836, 837, 838, 839, 840, 854, 855, 856, 857, 858, 859, 860, 861, 862, 863, 864, 865] (by decide +kernel) (by decide +kernel)
set_option maxRecDepth 20000 in
theorem gL_law_X6_apart : GoodIn wsL_law (wsV RL 73 RX6 yX6_apart wsX6_apart) := goodIn_app (goodIn_of _ (by decide +kernel)) ggL_law_X6_apart
set_option maxRecDepth 20000 in
theorem ggL_law_X7_apart : GoodIn wsL_law wsX7_apart := goodIn_r _ [684, 89, 565, 566, 5, 567, 494, 495, 496, 310, 311, 312, 660, 661, 662, 663, 664, 572, 573, 574, 575, 665, 666, 667, 362, 143, 140, 144, 576, 577, 578, 668, 669, 670, 671, 90, 672, 673, 674, 675, 676, 528, 529, 530, 816, 817, 818, 819, 820, 821, 822, 823, 824, 825, 826, 827, 828, 829, 830, 831, 832, 833] (by decide +kernel) (by decide +kernel)
set_option maxRecDepth 20000 in
theorem gL_law_X7_apart : GoodIn wsL_law (wsV RL 76 RX7 yX7_apart wsX7_apart) := goodIn_app (goodIn_of _ (by decide +kernel)) ggL_law_X7_apart
set_option maxRecDepth 20000 in
theorem ggL_law_X6_row : GoodIn wsL_law wsX6_row := goodIn_r _ [688, 32, 15, 544, 545, 2, 546, 483, 484, 485, 608, 609, 610, 547, 548, 549, 14, 550, 52, 611, 612, 613, 31, 614, 615, 76, 616, 617, 618, 619, 620, 410, 411, 412, 50, 621, 556, 557, 558, 43, 622, 584, 585, 586, 45, 289, 290, 291, 623, 624, 625, 626, 77, 627, 628, 629, 414, 415, 416, 51, 630, 631, 632, 633, 559, 560, 634, 635, 636, 637, 407, 408, 638, 639, 640, 641, 642, 643, 644, 645, 646, 647, 648, 649, 650, 651, 652, 653, 654, 655, 689, 690, 691, 692, 693, 694, 695, 696, 697, 808, 809, 810, 811, 812, 813, 814, 815, 834, 835, 836, 837, 838, 839, 840, 854, 855, 856, 857, 858, 859, 860, 861, 862, 863, 864, 865] (by decide +kernel) (by decide +kernel)
set_option maxRecDepth 20000 in
theorem gL_law_X6_row : GoodIn wsL_law (wsV RL 77 RX6 yX6_row wsX6_row) := goodIn_app (goodIn_of _ (by decide +kernel)) ggL_law_X6_row
set_option maxRecDepth 20000 in
theorem ggL_law_X7_row : GoodIn wsL_law wsX7_row := goodIn_r _ [701, 89, 664, 672, 673, 675, 674, 676, 565, 566, 5, 567, 494, 495, 496, 310, 311, 312, 660, 661, 662, 663, 572, 573, 574, 575, 665, 666, 667, 362, 143, 140, 144, 576, 577, 578, 668, 669, 670, 671, 90, 528, 529, 530, 816, 817, 818, 819, 820, 821, 822, 823, 824, 825, 826, 827, 828, 829, 830, 831, 832, 833] (by decide +kernel) (by decide +kernel)
set_option maxRecDepth 20000 in
theorem gL_law_X7_row : GoodIn wsL_law (wsV RL 80 RX7 yX7_row wsX7_row) := goodIn_app (goodIn_of _ (by decide +kernel)) ggL_law_X7_row
set_option maxRecDepth 20000 in
theorem ggL_law_X6_safe : GoodIn wsL_law wsX6_safe := goodIn_r _ [705, 32, 15, 544, 545, 2, 546, 483, 484, 485, 547, 548, 549, 14, 550, 52, 611, 612, 613, 31, 614, 615, 76, 616, 617, 618, 619, 620, 410, 411, 412, 50, 621, 556, 557, 558, 43, 622, 584, 585, 586, 45, 289, 290, 291, 706, 707, 708, 709, 559, 560, 710, 624, 625, 626, 77, 627, 628, 629, 414, 415, 416, 51, 630, 631, 632, 633, 634, 635, 636, 637, 407, 408, 638, 639, 640, 641, 642, 643, 644, 645, 646, 647, 648, 649, 650, 651, 808, 809, 810, 811, 812, 813, 814, 815, 834, 835, 836, 837, 838, 839, 840, 854, 855, 856, 857, 858, 859, 860, 861, 862, 863, 864, 865] (by decide +kernel) (by decide +kernel)
set_option maxRecDepth 20000 in
theorem gL_law_X6_safe : GoodIn wsL_law (wsV RL 81 RX6 yX6_safe wsX6_safe) := goodIn_app (goodIn_of _ (by decide +kernel)) ggL_law_X6_safe
set_option maxRecDepth 20000 in
theorem ggL_law_X7_safe : GoodIn wsL_law wsX7_safe := goodIn_r _ [714, 89, 565, 566, 5, 567, 494, 495, 496, 310, 311, 312, 715, 716, 717, 718, 660, 661, 662, 663, 664, 572, 573, 574, 575, 665, 666, 667, 362, 143, 140, 144, 576, 577, 578, 668, 669, 670, 671, 90, 672, 673, 674, 675, 676, 528, 529, 530, 568, 569, 570, 571, 816, 817, 818, 819, 820, 821, 822, 823, 824, 825, 826, 827, 828, 829, 830, 831, 832, 833] (by decide +kernel) (by decide +kernel)
set_option maxRecDepth 20000 in
theorem gL_law_X7_safe : GoodIn wsL_law (wsV RL 84 RX7 yX7_safe wsX7_safe) := goodIn_app (goodIn_of _ (by decide +kernel)) ggL_law_X7_safe
set_option maxRecDepth 20000 in
theorem ggL_law_X6_lowest : GoodIn wsL_law wsX6_lowest := goodIn_r _ [722, 32, 15, 544, 545, 2, 546, 483, 484, 485, 547, 548, 549, 14, 550, 52, 611, 612, 613, 31, 614, 615, 76, 616, 617, 618, 619, 620, 410, 411, 412, 50, 621, 556, 557, 558, 43, 622, 584, 585, 586, 45, 289, 290, 291, 723, 724, 725, 726, 559, 560, 710, 624, 625, 626, 77, 627, 628, 629, 414, 415, 416, 51, 630, 631, 632, 633, 634, 635, 636, 637, 407, 408, 638, 639, 640, 641, 642, 643, 644, 645, 646, 647, 648, 649, 650, 651, 808, 809, 810, 811, 812, 813, 814, 815, 834, 835, 836, 837, 838, 839, 840, 854, 855, 856, 857, 858, 859, 860, 861, 862, 863, 864, 865] (by decide +kernel) (by decide +kernel)
set_option maxRecDepth 20000 in
theorem gL_law_X6_lowest : GoodIn wsL_law (wsV RL 85 RX6 yX6_lowest wsX6_lowest) := goodIn_app (goodIn_of _ (by decide +kernel)) ggL_law_X6_lowest
set_option maxRecDepth 20000 in
theorem ggL_law_X7_lowest : GoodIn wsL_law wsX7_lowest := goodIn_r _ [730, 89, 565, 566, 5, 567, 494, 495, 496, 310, 311, 312, 568, 569, 570, 571, 572, 573, 574, 575, 576, 577, 578, 660, 661, 662, 663, 664, 665, 666, 667, 362, 143, 140, 144, 668, 669, 670, 671, 90, 672, 673, 674, 675, 676, 528, 529, 530, 816, 817, 818, 819, 820, 821, 822, 823, 824, 825, 826, 827, 828, 829, 830, 831, 832, 833] (by decide +kernel) (by decide +kernel)
set_option maxRecDepth 20000 in
theorem gL_law_X7_lowest : GoodIn wsL_law (wsV RL 88 RX7 yX7_lowest wsX7_lowest) := goodIn_app (goodIn_of _ (by decide +kernel)) ggL_law_X7_lowest
set_option maxRecDepth 20000 in
theorem ggL_law_X6_room : GoodIn wsL_law wsX6_room := goodIn_r _ [734, 32, 15, 735, 736, 2, 737, 738, 739, 740, 741, 407, 408, 547, 548, 549, 14, 550, 52, 611, 612, 613, 31, 614, 615, 76, 616, 617, 618, 619, 620, 410, 411, 412, 50, 621, 556, 557, 558, 43, 622, 584, 585, 586, 45, 289, 290, 291, 706, 707, 708, 709, 559, 560, 710, 624, 625, 626, 77, 627, 628, 629, 414, 415, 416, 51, 630, 631, 632, 633, 634, 635, 636, 637, 638, 639, 640, 641, 642, 643, 644, 645, 646, 647, 648, 649, 650, 651, 808, 809, 810, 811, 812, 813, 814, 815, 834, 835, 836, 837, 838, 839, 840, 854, 855, 856, 857, 858, 859, 860, 861, 862, 863, 864, 865] (by decide +kernel) (by decide +kernel)
set_option maxRecDepth 20000 in
theorem gL_law_X6_room : GoodIn wsL_law (wsV RL 89 RX6 yX6_room wsX6_room) := goodIn_app (goodIn_of _ (by decide +kernel)) ggL_law_X6_room
set_option maxRecDepth 20000 in
theorem ggL_law_X7_room : GoodIn wsL_law wsX7_room := goodIn_r _ [745, 89, 310, 311, 5, 312, 746, 747, 748, 715, 716, 717, 718, 660, 661, 662, 663, 664, 572, 573, 574, 575, 665, 666, 667, 362, 143, 140, 144, 576, 577, 578, 668, 669, 670, 671, 90, 672, 673, 674, 675, 676, 528, 529, 530, 568, 569, 570, 571, 816, 817, 818, 819, 820, 821, 822, 823, 824, 825, 826, 827, 828, 829, 830, 831, 832, 833] (by decide +kernel) (by decide +kernel)
set_option maxRecDepth 20000 in
theorem gL_law_X7_room : GoodIn wsL_law (wsV RL 92 RX7 yX7_room wsX7_room) := goodIn_app (goodIn_of _ (by decide +kernel)) ggL_law_X7_room
set_option maxRecDepth 20000 in
theorem ggL_law_X6_must : GoodIn wsL_law wsX6_must := goodIn_r _ [752, 15, 544, 545, 2, 546, 483, 484, 485, 753, 442, 443, 14, 444, 53, 287, 139, 140, 141, 288, 143, 144, 289, 290, 291, 407, 408, 754, 284, 285, 286, 808, 809, 810, 811, 812, 813, 814, 815, 834, 835, 836, 837, 838, 839, 840] (by decide +kernel) (by decide +kernel)
set_option maxRecDepth 20000 in
theorem gL_law_X6_must : GoodIn wsL_law (wsV RL 93 RX6 yX6_must wsX6_must) := goodIn_app (goodIn_of _ (by decide +kernel)) ggL_law_X6_must
set_option maxRecDepth 20000 in
theorem ggL_law_X7_must : GoodIn wsL_law wsX7_must := goodIn_r _ [758, 89, 565, 566, 5, 567, 494, 495, 496, 310, 311, 312, 358, 359, 360, 361, 139, 140, 141, 362, 143, 144, 528, 529, 530, 816, 817, 818, 819, 820, 821, 822, 823, 824, 825, 826, 827, 828, 829, 830, 831, 832, 833] (by decide +kernel) (by decide +kernel)
set_option maxRecDepth 20000 in
theorem gL_law_X7_must : GoodIn wsL_law (wsV RL 97 RX7 yX7_must wsX7_must) := goodIn_app (goodIn_of _ (by decide +kernel)) ggL_law_X7_must
set_option maxRecDepth 20000 in
theorem ggL_law_X6_cheapest : GoodIn wsL_law wsX6_cheapest := goodIn_r _ [762, 36, 735, 736, 2, 737, 763, 764, 765, 35, 766, 84, 82, 767, 768, 548, 549, 14, 550, 52, 769, 770, 771, 772, 773, 774, 775, 776, 407, 408, 777, 434, 435, 436, 44, 778, 646, 647, 648, 649, 650, 651, 779, 780, 781, 782, 783, 442, 443, 444, 53, 287, 139, 140, 141, 288, 143, 144, 289, 290, 291, 784, 552, 553, 554, 555, 556, 557, 558, 43, 559, 560, 785, 786, 787, 788, 83, 739, 740, 741, 789, 612, 613, 31, 614, 615, 76, 616, 617, 618, 619, 620, 410, 411, 412, 50, 621, 622, 584, 585, 586, 45, 790, 707, 708, 709, 710, 624, 625, 626, 77, 627, 628, 629, 414, 415, 416, 51, 630, 631, 632, 633, 634, 635, 636, 637, 638, 639, 640, 641, 642, 643, 644, 645, 791, 792, 793, 794, 795, 796, 797, 798, 799, 808, 809, 810, 811, 812, 813, 814, 815, 866, 867, 868, 869, 834, 835, 836, 837, 838, 839, 840, 854, 855, 856, 857, 858, 859, 860, 861, 862, 863, 864, 865] (by decide +kernel) (by decide +kernel)
set_option maxRecDepth 20000 in
theorem gL_law_X6_cheapest : GoodIn wsL_law (wsV RL 98 RX6 yX6_cheapest wsX6_cheapest) := goodIn_app (goodIn_of _ (by decide +kernel)) ggL_law_X6_cheapest
set_option maxRecDepth 20000 in
theorem ggL_law_X7_cheapest : GoodIn wsL_law wsX7_cheapest := goodIn_r _ [803, 89, 310, 311, 5, 312, 804, 805, 806, 807, 358, 359, 360, 361, 139, 140, 141, 362, 143, 144, 568, 569, 570, 571, 572, 573, 574, 575, 576, 577, 578, 746, 747, 748, 715, 716, 717, 718, 660, 661, 662, 663, 664, 665, 666, 667, 668, 669, 670, 671, 90, 672, 673, 674, 675, 676, 528, 529, 530, 816, 817, 818, 819, 820, 821, 822, 823, 824, 825, 826, 827, 828, 829, 830, 831, 832, 833] (by decide +kernel) (by decide +kernel)
set_option maxRecDepth 20000 in
theorem gL_law_X7_cheapest : GoodIn wsL_law (wsV RL 101 RX7 yX7_cheapest wsX7_cheapest) := goodIn_app (goodIn_of _ (by decide +kernel)) ggL_law_X7_cheapest
