/-! the law: its callees' words -/
set_option maxRecDepth 20000 in
theorem ggL_law_X6_init : GoodIn wsL_law wsX6_init := goodIn_r _ [9, 10, 11, 12, 13, 14, 15, 16, 17, 18, 19, 20, 21, 22, 23, 24, 25, 26, 27, 28, 29, 30, 31, 32, 33, 34, 35, 36, 37, 38, 39, 40, 41, 42, 43, 44, 45, 46, 47, 48, 49, 50, 51, 52, 53, 54, 55, 56, 57, 58, 59, 60, 61, 62, 63, 64, 65, 66, 67, 68, 69, 70, 71, 72, 73, 74, 75, 76, 77, 78, 79, 80, 81, 82, 83, 84, 85, 86, 87, 88, 89, 90, 91, 92, 93, 2, 94, 95, 96, 97, 98, 99, 100, 101, 102, 103, 104, 105, 106, 107, 108, 109, 758, 759, 760, 761, 730, 731, 732, 733, 734, 735, 736, 737, 738, 762, 763, 764, 765, 766, 767, 768, 769, 770, 771, 772, 773, 774, 775, 776, 777, 778, 779, 780, 781, 782, 783, 784, 785, 786, 787, 788, 789] (by decide +kernel) (by decide +kernel)
set_option maxRecDepth 20000 in
theorem gL_law_X6_init : GoodIn wsL_law (wsX6_init) := ggL_law_X6_init
set_option maxRecDepth 20000 in
theorem ggL_law_X7_init : GoodIn wsL_law wsX7_init := goodIn_r _ [112, 113, 11, 12, 114, 115, 43, 116, 117, 118, 119, 120, 121, 122, 123, 124, 125, 126, 127, 128, 129, 130, 131, 5, 132, 133, 134, 135, 136, 137, 138, 739, 740, 741, 742, 743, 744, 745, 746, 747, 748, 749, 750, 751, 752, 753, 754, 755, 756, 757] (by decide +kernel) (by decide +kernel)
set_option maxRecDepth 20000 in
theorem gL_law_X7_init : GoodIn wsL_law (wsX7_init) := ggL_law_X7_init
set_option maxRecDepth 20000 in
theorem ggL_law_X6_write : GoodIn wsL_law wsX6_write := goodIn_r _ [142, 16, 143, 144, 2, 145, 146, 147, 148, 15, 149, 150, 44, 93, 94, 730, 731, 732, 733, 734, 735, 736, 737, 738, 758, 759, 760, 761] (by decide +kernel) (by decide +kernel)
set_option maxRecDepth 20000 in
theorem gL_law_X6_write : GoodIn wsL_law (wsV RL 15 RX6 yX6_write wsX6_write) := goodIn_app (goodIn_of _ (by decide +kernel)) ggL_law_X6_write
set_option maxRecDepth 20000 in
theorem ggL_law_X7_write : GoodIn wsL_law wsX7_write := goodIn_r _ [154, 155, 156, 115, 157, 158, 5, 159, 739, 740, 741, 742, 743, 744, 745, 746, 747, 748, 749, 750, 751, 752, 753, 754, 755, 756, 757] (by decide +kernel) (by decide +kernel)
set_option maxRecDepth 20000 in
theorem gL_law_X7_write : GoodIn wsL_law (wsV RL 19 RX7 yX7_write wsX7_write) := goodIn_app (goodIn_of _ (by decide +kernel)) ggL_law_X7_write
set_option maxRecDepth 20000 in
theorem ggL_law_X6_wipe : GoodIn wsL_law wsX6_wipe := goodIn_r _ [163, 16, 730, 731, 732, 733, 734, 735, 736, 737, 738, 758, 759, 760, 761] (by decide +kernel) (by decide +kernel)
set_option maxRecDepth 20000 in
theorem gL_law_X6_wipe : GoodIn wsL_law (wsV RL 20 RX6 yX6_wipe wsX6_wipe) := goodIn_app (goodIn_of _ (by decide +kernel)) ggL_law_X6_wipe
set_option maxRecDepth 20000 in
theorem ggL_law_X7_wipe : GoodIn wsL_law wsX7_wipe := goodIn_r _ [167, 156, 739, 740, 741, 742, 743, 744, 745, 746, 747, 748, 749, 750, 751, 752, 753, 754, 755, 756, 757] (by decide +kernel) (by decide +kernel)
set_option maxRecDepth 20000 in
theorem gL_law_X7_wipe : GoodIn wsL_law (wsV RL 24 RX7 yX7_wipe wsX7_wipe) := goodIn_app (goodIn_of _ (by decide +kernel)) ggL_law_X7_wipe
set_option maxRecDepth 20000 in
theorem ggL_law_X6_fault : GoodIn wsL_law wsX6_fault := goodIn_r _ [171, 16, 39, 172, 173, 174, 15, 175, 150, 176, 45, 177, 178, 179, 37, 180, 78, 82, 83, 92, 99, 84, 85, 86, 87, 108, 2, 109, 181, 182, 183, 184, 185, 186, 187, 188, 189, 190, 191, 192, 193, 194, 195, 196, 44, 197, 198, 144, 145, 199, 200, 201, 202, 93, 94, 203, 204, 205, 206, 207, 208, 209, 210, 211, 212, 213, 214, 215, 89, 90, 91, 75, 76, 77, 216, 217, 218, 219, 220, 96, 97, 98, 79, 80, 81, 221, 222, 223, 224, 225, 226, 227, 228, 229, 230, 231, 232, 233, 234, 235, 236, 237, 238, 239, 240, 730, 731, 732, 733, 734, 735, 736, 737, 738, 758, 759, 760, 761, 775, 776, 777, 778, 779, 780, 781, 782, 783, 784, 785, 786, 787, 788, 789] (by decide +kernel) (by decide +kernel)
set_option maxRecDepth 20000 in
theorem gL_law_X6_fault : GoodIn wsL_law (wsV RL 25 RX6 yX6_fault wsX6_fault) := goodIn_app (goodIn_of _ (by decide +kernel)) ggL_law_X6_fault
set_option maxRecDepth 20000 in
theorem ggL_law_X7_fault : GoodIn wsL_law wsX7_fault := goodIn_r _ [244, 245, 156, 129, 130, 131, 5, 132, 116, 117, 120, 122, 119, 246, 247, 248, 249, 115, 128, 250, 251, 252, 253, 254, 255, 256, 257, 258, 259, 157, 158, 159, 260, 261, 262, 263, 264, 265, 266, 267, 268, 269, 270, 118, 271, 272, 273, 274, 121, 739, 740, 741, 742, 743, 744, 745, 746, 747, 748, 749, 750, 751, 752, 753, 754, 755, 756, 757] (by decide +kernel) (by decide +kernel)
set_option maxRecDepth 20000 in
theorem gL_law_X7_fault : GoodIn wsL_law (wsV RL 28 RX7 yX7_fault wsX7_fault) := goodIn_app (goodIn_of _ (by decide +kernel)) ggL_law_X7_fault
set_option maxRecDepth 20000 in
theorem ggL_law_X6_lay : GoodIn wsL_law wsX6_lay := goodIn_r _ [278, 16, 39, 38, 20, 25, 26, 172, 173, 174, 15, 175, 150, 176, 45, 177, 178, 179, 37, 180, 78, 82, 83, 92, 99, 84, 85, 86, 87, 108, 2, 109, 181, 182, 183, 184, 185, 186, 187, 188, 189, 190, 191, 192, 193, 194, 195, 196, 44, 197, 198, 144, 145, 199, 200, 201, 202, 93, 94, 203, 204, 205, 206, 207, 208, 209, 210, 211, 212, 213, 214, 215, 89, 90, 91, 75, 76, 77, 216, 217, 218, 219, 220, 96, 97, 98, 79, 80, 81, 221, 222, 223, 224, 225, 226, 227, 228, 229, 230, 231, 232, 233, 234, 235, 236, 237, 238, 239, 240, 279, 280, 281, 282, 100, 101, 102, 19, 103, 49, 52, 51, 104, 105, 106, 107, 283, 284, 285, 24, 286, 287, 730, 731, 732, 733, 734, 735, 736, 737, 738, 775, 776, 777, 778, 779, 780, 781, 782, 783, 784, 785, 786, 787, 788, 789, 758, 759, 760, 761, 762, 763, 764, 765, 766, 767, 768, 769] (by decide +kernel) (by decide +kernel)
set_option maxRecDepth 20000 in
theorem gL_law_X6_lay : GoodIn wsL_law (wsV RL 29 RX6 yX6_lay wsX6_lay) := goodIn_app (goodIn_of _ (by decide +kernel)) ggL_law_X6_lay
set_option maxRecDepth 20000 in
theorem ggL_law_X7_lay : GoodIn wsL_law wsX7_lay := goodIn_r _ [291, 117, 292, 242, 243, 5, 244, 245, 156, 129, 130, 131, 132, 116, 120, 122, 119, 246, 247, 248, 249, 115, 128, 250, 251, 252, 253, 254, 255, 256, 257, 258, 259, 157, 158, 159, 260, 261, 262, 263, 264, 265, 266, 267, 268, 269, 270, 118, 271, 272, 273, 274, 121, 293, 294, 295, 296, 133, 134, 135, 136, 123, 137, 138, 739, 740, 741, 742, 743, 744, 745, 746, 747, 748, 749, 750, 751, 752, 753, 754, 755, 756, 757] (by decide +kernel) (by decide +kernel)
set_option maxRecDepth 20000 in
theorem gL_law_X7_lay : GoodIn wsL_law (wsV RL 32 RX7 yX7_lay wsX7_lay) := goodIn_app (goodIn_of _ (by decide +kernel)) ggL_law_X7_lay
set_option maxRecDepth 20000 in
theorem ggL_law_X6_door : GoodIn wsL_law wsX6_door := goodIn_r _ [300, 38, 20, 301, 302, 303, 2, 304, 305, 197, 198, 730, 731, 732, 733, 734, 735, 736, 737, 738, 775, 776, 777, 778, 779, 780, 781, 782, 783, 784, 785, 786, 787, 788, 789, 762, 763, 764, 765, 766, 767] (by decide +kernel) (by decide +kernel)
set_option maxRecDepth 20000 in
theorem gL_law_X6_door : GoodIn wsL_law (wsV RL 33 RX6 yX6_door wsX6_door) := goodIn_app (goodIn_of _ (by decide +kernel)) ggL_law_X6_door
set_option maxRecDepth 20000 in
theorem ggL_law_X7_door : GoodIn wsL_law wsX7_door := goodIn_r _ [309, 310, 118, 123, 119, 311, 312, 313, 5, 314, 117, 157, 158, 159, 739, 740, 741, 742, 743, 744, 745, 746, 747, 748, 749, 750, 751, 752, 753, 754, 755, 756, 757] (by decide +kernel) (by decide +kernel)
set_option maxRecDepth 20000 in
theorem gL_law_X7_door : GoodIn wsL_law (wsV RL 37 RX7 yX7_door wsX7_door) := goodIn_app (goodIn_of _ (by decide +kernel)) ggL_law_X7_door
set_option maxRecDepth 20000 in
theorem ggL_law_X6_lodger : GoodIn wsL_law wsX6_lodger := goodIn_r _ [318, 20, 38, 319, 320, 321, 2, 322, 305, 197, 198, 730, 731, 732, 733, 734, 735, 736, 737, 738, 762, 763, 764, 765, 766, 767, 775, 776, 777, 778, 779, 780, 781, 782, 783, 784, 785, 786, 787, 788, 789] (by decide +kernel) (by decide +kernel)
set_option maxRecDepth 20000 in
theorem gL_law_X6_lodger : GoodIn wsL_law (wsV RL 38 RX6 yX6_lodger wsX6_lodger) := goodIn_app (goodIn_of _ (by decide +kernel)) ggL_law_X6_lodger
set_option maxRecDepth 20000 in
theorem ggL_law_X7_lodger : GoodIn wsL_law wsX7_lodger := goodIn_r _ [326, 259, 123, 121, 327, 328, 329, 5, 330, 120, 157, 158, 159, 739, 740, 741, 742, 743, 744, 745, 746, 747, 748, 749, 750, 751, 752, 753, 754, 755, 756, 757] (by decide +kernel) (by decide +kernel)
set_option maxRecDepth 20000 in
theorem gL_law_X7_lodger : GoodIn wsL_law (wsV RL 41 RX7 yX7_lodger wsX7_lodger) := goodIn_app (goodIn_of _ (by decide +kernel)) ggL_law_X7_lodger
set_option maxRecDepth 20000 in
theorem ggL_law_X6_grudge : GoodIn wsL_law wsX6_grudge := goodIn_r _ [334, 20, 301, 302, 303, 2, 304, 38, 319, 320, 321, 322, 335, 336, 337, 19, 338, 49, 197, 198, 730, 731, 732, 733, 734, 735, 736, 737, 738, 775, 776, 777, 778, 779, 780, 781, 782, 783, 784, 785, 786, 787, 788, 789, 762, 763, 764, 765, 766, 767] (by decide +kernel) (by decide +kernel)
set_option maxRecDepth 20000 in
theorem gL_law_X6_grudge : GoodIn wsL_law (wsV RL 42 RX6 yX6_grudge wsX6_grudge) := goodIn_app (goodIn_of _ (by decide +kernel)) ggL_law_X6_grudge
set_option maxRecDepth 20000 in
theorem ggL_law_X7_grudge : GoodIn wsL_law wsX7_grudge := goodIn_r _ [342, 123, 311, 312, 313, 5, 314, 117, 157, 158, 159, 327, 328, 329, 330, 120, 739, 740, 741, 742, 743, 744, 745, 746, 747, 748, 749, 750, 751, 752, 753, 754, 755, 756, 757] (by decide +kernel) (by decide +kernel)
set_option maxRecDepth 20000 in
theorem gL_law_X7_grudge : GoodIn wsL_law (wsV RL 45 RX7 yX7_grudge wsX7_grudge) := goodIn_app (goodIn_of _ (by decide +kernel)) ggL_law_X7_grudge
set_option maxRecDepth 20000 in
theorem ggL_law_X6_go : GoodIn wsL_law wsX6_go := goodIn_r _ [346, 38, 20, 25, 319, 320, 321, 2, 322, 301, 302, 303, 304, 305, 197, 198, 347, 348, 349, 37, 350, 75, 76, 351, 352, 353, 24, 354, 287, 62, 355, 356, 357, 358, 359, 360, 361, 362, 363, 364, 365, 19, 366, 49, 51, 52, 104, 105, 106, 107, 367, 368, 369, 370, 371, 372, 373, 374, 375, 376, 377, 378, 379, 336, 337, 338, 380, 93, 94, 381, 382, 383, 384, 80, 86, 385, 386, 387, 388, 59, 389, 390, 391, 392, 58, 60, 393, 394, 395, 396, 730, 731, 732, 733, 734, 735, 736, 737, 738, 762, 763, 764, 765, 766, 767, 775, 776, 777, 778, 779, 780, 781, 782, 783, 784, 785, 786, 787, 788, 789, 768, 769] (by decide +kernel) (by decide +kernel)
set_option maxRecDepth 20000 in
theorem gL_law_X6_go : GoodIn wsL_law (wsV RL 46 RX6 yX6_go wsX6_go) := goodIn_app (goodIn_of _ (by decide +kernel)) ggL_law_X6_go
set_option maxRecDepth 20000 in
theorem ggL_law_X7_go : GoodIn wsL_law wsX7_go := goodIn_r _ [400, 123, 327, 328, 329, 5, 330, 120, 157, 158, 159, 311, 312, 313, 314, 117, 401, 402, 403, 404, 118, 405, 406, 407, 408, 137, 409, 410, 411, 412, 413, 414, 415, 416, 417, 418, 419, 420, 421, 422, 423, 424, 121, 116, 425, 426, 427, 428, 739, 740, 741, 742, 743, 744, 745, 746, 747, 748, 749, 750, 751, 752, 753, 754, 755, 756, 757] (by decide +kernel) (by decide +kernel)
set_option maxRecDepth 20000 in
theorem gL_law_X7_go : GoodIn wsL_law (wsV RL 50 RX7 yX7_go wsX7_go) := goodIn_app (goodIn_of _ (by decide +kernel)) ggL_law_X7_go
set_option maxRecDepth 20000 in
theorem ggL_law_X6_oil : GoodIn wsL_law wsX6_oil := goodIn_r _ [432, 25, 20, 38, 301, 302, 303, 2, 304, 351, 352, 353, 24, 354, 287, 62, 355, 356, 357, 358, 359, 360, 361, 362, 363, 364, 365, 19, 366, 49, 51, 52, 104, 105, 106, 107, 433, 93, 94, 434, 435, 436, 437, 375, 376, 377, 378, 197, 198, 730, 731, 732, 733, 734, 735, 736, 737, 738, 762, 763, 764, 765, 766, 767, 775, 776, 777, 778, 779, 780, 781, 782, 783, 784, 785, 786, 787, 788, 789, 768, 769] (by decide +kernel) (by decide +kernel)
set_option maxRecDepth 20000 in
theorem gL_law_X6_oil : GoodIn wsL_law (wsV RL 51 RX6 yX6_oil wsX6_oil) := goodIn_app (goodIn_of _ (by decide +kernel)) ggL_law_X6_oil
set_option maxRecDepth 20000 in
theorem ggL_law_X7_oil : GoodIn wsL_law wsX7_oil := goodIn_r _ [441, 123, 116, 117, 311, 312, 313, 5, 314, 157, 158, 159, 405, 406, 407, 408, 137, 409, 410, 411, 412, 739, 740, 741, 742, 743, 744, 745, 746, 747, 748, 749, 750, 751, 752, 753, 754, 755, 756, 757] (by decide +kernel) (by decide +kernel)
set_option maxRecDepth 20000 in
theorem gL_law_X7_oil : GoodIn wsL_law (wsV RL 55 RX7 yX7_oil wsX7_oil) := goodIn_app (goodIn_of _ (by decide +kernel)) ggL_law_X7_oil
set_option maxRecDepth 20000 in
theorem ggL_law_X6_night : GoodIn wsL_law wsX6_night := goodIn_r _ [445, 20, 25, 38, 143, 144, 2, 145, 351, 352, 353, 24, 354, 287, 62, 355, 356, 357, 358, 359, 360, 361, 362, 363, 364, 365, 19, 366, 49, 51, 52, 104, 105, 106, 107, 446, 447, 448, 449, 450, 451, 452, 453, 50, 108, 109, 197, 198, 375, 376, 377, 378, 379, 336, 337, 338, 93, 94, 390, 391, 392, 58, 59, 60, 385, 386, 387, 388, 389, 393, 394, 395, 396, 454, 455, 456, 457, 458, 730, 731, 732, 733, 734, 735, 736, 737, 738, 762, 763, 764, 765, 766, 767, 768, 769, 775, 776, 777, 778, 779, 780, 781, 782, 783, 784, 785, 786, 787, 788, 789] (by decide +kernel) (by decide +kernel)
set_option maxRecDepth 20000 in
theorem gL_law_X6_night : GoodIn wsL_law (wsV RL 56 RX6 yX6_night wsX6_night) := goodIn_app (goodIn_of _ (by decide +kernel)) ggL_law_X6_night
set_option maxRecDepth 20000 in
theorem ggL_law_X7_night : GoodIn wsL_law wsX7_night := goodIn_r _ [462, 463, 123, 157, 158, 5, 159, 405, 406, 407, 408, 137, 409, 410, 411, 412, 464, 465, 466, 467, 124, 117, 118, 120, 116, 119, 739, 740, 741, 742, 743, 744, 745, 746, 747, 748, 749, 750, 751, 752, 753, 754, 755, 756, 757] (by decide +kernel) (by decide +kernel)
set_option maxRecDepth 20000 in
theorem gL_law_X7_night : GoodIn wsL_law (wsV RL 59 RX7 yX7_night wsX7_night) := goodIn_app (goodIn_of _ (by decide +kernel)) ggL_law_X7_night
set_option maxRecDepth 20000 in
theorem ggL_law_X6_undo : GoodIn wsL_law wsX6_undo := goodIn_r _ [471, 25, 20, 472, 473, 474, 24, 475, 287, 359, 360, 361, 362, 62, 363, 364, 365, 19, 366, 49, 51, 52, 104, 105, 106, 2, 107, 730, 731, 732, 733, 734, 735, 736, 737, 738, 768, 769, 762, 763, 764, 765, 766, 767] (by decide +kernel) (by decide +kernel)
set_option maxRecDepth 20000 in
theorem gL_law_X6_undo : GoodIn wsL_law (wsV RL 60 RX6 yX6_undo wsX6_undo) := goodIn_app (goodIn_of _ (by decide +kernel)) ggL_law_X6_undo
set_option maxRecDepth 20000 in
theorem ggL_law_X7_undo : GoodIn wsL_law wsX7_undo := goodIn_r _ [479, 137, 409, 410, 411, 5, 412, 123, 739, 740, 741, 742, 743, 744, 745, 746, 747, 748, 749, 750, 751, 752, 753, 754, 755, 756, 757] (by decide +kernel) (by decide +kernel)
set_option maxRecDepth 20000 in
theorem gL_law_X7_undo : GoodIn wsL_law (wsV RL 63 RX7 yX7_undo wsX7_undo) := goodIn_app (goodIn_of _ (by decide +kernel)) ggL_law_X7_undo
set_option maxRecDepth 20000 in
theorem ggL_law_X6_way : GoodIn wsL_law wsX6_way := goodIn_r _ [483, 30, 38, 20, 319, 320, 321, 2, 322, 484, 485, 486, 487, 488, 489, 490, 29, 491, 67, 66, 492, 493, 494, 495, 372, 373, 19, 374, 375, 376, 377, 378, 51, 197, 198, 379, 336, 337, 338, 49, 93, 94, 108, 109, 496, 497, 498, 499, 500, 501, 502, 503, 730, 731, 732, 733, 734, 735, 736, 737, 738, 775, 776, 777, 778, 779, 780, 781, 782, 783, 784, 785, 786, 787, 788, 789, 770, 771, 762, 763, 764, 765, 766, 767] (by decide +kernel) (by decide +kernel)
set_option maxRecDepth 20000 in
theorem gL_law_X6_way : GoodIn wsL_law (wsV RL 64 RX6 yX6_way wsX6_way) := goodIn_app (goodIn_of _ (by decide +kernel)) ggL_law_X6_way
set_option maxRecDepth 20000 in
theorem ggL_law_X7_way : GoodIn wsL_law wsX7_way := goodIn_r _ [507, 327, 328, 329, 5, 330, 120, 157, 158, 159, 508, 509, 510, 511, 116, 512, 513, 514, 515, 125, 516, 517, 518, 519, 520, 117, 118, 417, 418, 419, 420, 123, 739, 740, 741, 742, 743, 744, 745, 746, 747, 748, 749, 750, 751, 752, 753, 754, 755, 756, 757] (by decide +kernel) (by decide +kernel)
set_option maxRecDepth 20000 in
theorem gL_law_X7_way : GoodIn wsL_law (wsV RL 68 RX7 yX7_way wsX7_way) := goodIn_app (goodIn_of _ (by decide +kernel)) ggL_law_X7_way
set_option maxRecDepth 20000 in
theorem ggL_law_X6_first : GoodIn wsL_law wsX6_first := goodIn_r _ [524, 30, 38, 20, 319, 320, 321, 2, 322, 484, 485, 486, 487, 488, 489, 490, 29, 491, 67, 66, 492, 493, 494, 495, 372, 373, 19, 374, 375, 376, 377, 378, 51, 197, 198, 379, 336, 337, 338, 49, 93, 94, 108, 109, 496, 497, 498, 499, 525, 526, 527, 528, 529, 501, 502, 503, 530, 348, 349, 37, 350, 75, 76, 730, 731, 732, 733, 734, 735, 736, 737, 738, 775, 776, 777, 778, 779, 780, 781, 782, 783, 784, 785, 786, 787, 788, 789, 770, 771, 762, 763, 764, 765, 766, 767] (by decide +kernel) (by decide +kernel)
set_option maxRecDepth 20000 in
theorem gL_law_X6_first : GoodIn wsL_law (wsV RL 69 RX6 yX6_first wsX6_first) := goodIn_app (goodIn_of _ (by decide +kernel)) ggL_law_X6_first
set_option maxRecDepth 20000 in
theorem ggL_law_X7_first : GoodIn wsL_law wsX7_first := goodIn_r _ [534, 327, 328, 329, 5, 330, 120, 157, 158, 159, 508, 509, 510, 511, 116, 535, 536, 537, 538, 117, 125, 512, 513, 514, 515, 516, 517, 518, 519, 520, 118, 417, 418, 419, 420, 123, 401, 402, 403, 404, 425, 426, 427, 428, 739, 740, 741, 742, 743, 744, 745, 746, 747, 748, 749, 750, 751, 752, 753, 754, 755, 756, 757] (by decide +kernel) (by decide +kernel)
set_option maxRecDepth 20000 in
theorem gL_law_X7_first : GoodIn wsL_law (wsV RL 72 RX7 yX7_first wsX7_first) := goodIn_app (goodIn_of _ (by decide +kernel)) ggL_law_X7_first
set_option maxRecDepth 20000 in
theorem ggL_law_X6_inTime : GoodIn wsL_law wsX6_inTime := goodIn_r _ [542, 38, 319, 320, 321, 2, 322, 143, 144, 145, 543, 544, 545, 546, 547, 548, 549, 550, 551, 552, 553, 30, 20, 305, 197, 198, 488, 489, 490, 29, 491, 67, 66, 492, 493, 494, 495, 372, 373, 19, 374, 375, 376, 377, 378, 51, 379, 336, 337, 338, 49, 93, 94, 108, 109, 496, 497, 498, 499, 500, 501, 502, 503, 730, 731, 732, 733, 734, 735, 736, 737, 738, 775, 776, 777, 778, 779, 780, 781, 782, 783, 784, 785, 786, 787, 788, 789, 762, 763, 764, 765, 766, 767, 770, 771] (by decide +kernel) (by decide +kernel)
set_option maxRecDepth 20000 in
theorem gL_law_X6_inTime : GoodIn wsL_law (wsV RL 73 RX6 yX6_inTime wsX6_inTime) := goodIn_app (goodIn_of _ (by decide +kernel)) ggL_law_X6_inTime
set_option maxRecDepth 20000 in
theorem ggL_law_X7_inTime : GoodIn wsL_law wsX7_inTime := goodIn_r _ [557, 558, 117, 121, 125, 123, 327, 328, 329, 5, 330, 120, 157, 158, 159, 517, 518, 519, 520, 516, 118, 417, 418, 419, 420, 559, 560, 561, 739, 740, 741, 742, 743, 744, 745, 746, 747, 748, 749, 750, 751, 752, 753, 754, 755, 756, 757] (by decide +kernel) (by decide +kernel)
set_option maxRecDepth 20000 in
theorem gL_law_X7_inTime : GoodIn wsL_law (wsV RL 76 RX7 yX7_inTime wsX7_inTime) := goodIn_app (goodIn_of _ (by decide +kernel)) ggL_law_X7_inTime
set_option maxRecDepth 20000 in
theorem ggL_law_X6_rooms : GoodIn wsL_law wsX6_rooms := goodIn_r _ [565, 34, 38, 20, 30, 319, 320, 321, 2, 322, 566, 567, 568, 33, 569, 570, 571, 71, 197, 198, 572, 489, 490, 29, 491, 67, 66, 492, 493, 494, 495, 372, 373, 19, 374, 375, 376, 377, 378, 51, 379, 336, 337, 338, 49, 93, 94, 108, 109, 496, 497, 498, 499, 573, 501, 502, 503, 574, 575, 576, 577, 578, 579, 580, 581, 582, 583, 584, 585, 586, 587, 730, 731, 732, 733, 734, 735, 736, 737, 738, 775, 776, 777, 778, 779, 780, 781, 782, 783, 784, 785, 786, 787, 788, 789, 772, 773, 774, 770, 771, 762, 763, 764, 765, 766, 767] (by decide +kernel) (by decide +kernel)
set_option maxRecDepth 20000 in
theorem gL_law_X6_rooms : GoodIn wsL_law (wsV RL 77 RX6 yX6_rooms wsX6_rooms) := goodIn_app (goodIn_of _ (by decide +kernel)) ggL_law_X6_rooms
set_option maxRecDepth 20000 in
theorem ggL_law_X7_rooms : GoodIn wsL_law wsX7_rooms := goodIn_r _ [591, 592, 120, 593, 116, 126, 127, 157, 158, 5, 159, 594, 595, 596, 597, 121, 512, 513, 514, 515, 125, 516, 517, 518, 519, 520, 117, 118, 417, 418, 419, 420, 123, 739, 740, 741, 742, 743, 744, 745, 746, 747, 748, 749, 750, 751, 752, 753, 754, 755, 756, 757] (by decide +kernel) (by decide +kernel)
set_option maxRecDepth 20000 in
theorem gL_law_X7_rooms : GoodIn wsL_law (wsV RL 80 RX7 yX7_rooms wsX7_rooms) := goodIn_app (goodIn_of _ (by decide +kernel)) ggL_law_X7_rooms
set_option maxRecDepth 20000 in
theorem ggL_law_X6_behind : GoodIn wsL_law wsX6_behind := goodIn_r _ [601, 21, 20, 38, 143, 144, 2, 145, 301, 302, 303, 304, 319, 320, 321, 322, 602, 364, 365, 19, 366, 49, 51, 52, 104, 105, 106, 107, 603, 604, 605, 606, 450, 451, 452, 453, 50, 108, 109, 197, 198, 375, 376, 377, 378, 379, 336, 337, 338, 93, 94, 390, 391, 392, 58, 59, 60, 385, 386, 387, 388, 389, 393, 394, 395, 396, 454, 455, 456, 457, 458, 335, 730, 731, 732, 733, 734, 735, 736, 737, 738, 775, 776, 777, 778, 779, 780, 781, 782, 783, 784, 785, 786, 787, 788, 789, 762, 763, 764, 765, 766, 767] (by decide +kernel) (by decide +kernel)
set_option maxRecDepth 20000 in
theorem gL_law_X6_behind : GoodIn wsL_law (wsV RL 81 RX6 yX6_behind wsX6_behind) := goodIn_app (goodIn_of _ (by decide +kernel)) ggL_law_X6_behind
set_option maxRecDepth 20000 in
theorem ggL_law_X7_behind : GoodIn wsL_law wsX7_behind := goodIn_r _ [610, 123, 611, 612, 5, 613, 463, 157, 158, 159, 311, 312, 313, 314, 117, 327, 328, 329, 330, 120, 614, 615, 616, 617, 409, 410, 411, 412, 464, 465, 466, 467, 124, 118, 116, 119, 739, 740, 741, 742, 743, 744, 745, 746, 747, 748, 749, 750, 751, 752, 753, 754, 755, 756, 757] (by decide +kernel) (by decide +kernel)
set_option maxRecDepth 20000 in
theorem gL_law_X7_behind : GoodIn wsL_law (wsV RL 84 RX7 yX7_behind wsX7_behind) := goodIn_app (goodIn_of _ (by decide +kernel)) ggL_law_X7_behind
set_option maxRecDepth 20000 in
theorem ggL_law_X6_worst : GoodIn wsL_law wsX6_worst := goodIn_r _ [621, 21, 20, 38, 143, 144, 2, 145, 319, 320, 321, 322, 602, 364, 365, 19, 366, 49, 51, 52, 104, 105, 106, 107, 603, 604, 605, 606, 450, 451, 452, 453, 50, 108, 109, 197, 198, 375, 376, 377, 378, 379, 336, 337, 338, 93, 94, 390, 391, 392, 58, 59, 60, 385, 386, 387, 388, 389, 393, 394, 395, 396, 454, 455, 456, 457, 458, 335, 730, 731, 732, 733, 734, 735, 736, 737, 738, 775, 776, 777, 778, 779, 780, 781, 782, 783, 784, 785, 786, 787, 788, 789, 762, 763, 764, 765, 766, 767] (by decide +kernel) (by decide +kernel)
set_option maxRecDepth 20000 in
theorem gL_law_X6_worst : GoodIn wsL_law (wsV RL 85 RX6 yX6_worst wsX6_worst) := goodIn_app (goodIn_of _ (by decide +kernel)) ggL_law_X6_worst
set_option maxRecDepth 20000 in
theorem ggL_law_X7_worst : GoodIn wsL_law wsX7_worst := goodIn_r _ [625, 117, 123, 611, 612, 5, 613, 463, 157, 158, 159, 327, 328, 329, 330, 120, 614, 615, 616, 617, 409, 410, 411, 412, 464, 465, 466, 467, 124, 118, 116, 119, 739, 740, 741, 742, 743, 744, 745, 746, 747, 748, 749, 750, 751, 752, 753, 754, 755, 756, 757] (by decide +kernel) (by decide +kernel)
set_option maxRecDepth 20000 in
theorem gL_law_X7_worst : GoodIn wsL_law (wsV RL 88 RX7 yX7_worst wsX7_worst) := goodIn_app (goodIn_of _ (by decide +kernel)) ggL_law_X7_worst
set_option maxRecDepth 20000 in
theorem ggL_law_X6_stop : GoodIn wsL_law wsX6_stop := goodIn_r _ [629, 38, 143, 144, 2, 145, 301, 302, 303, 304, 319, 320, 321, 322, 543, 544, 545, 546, 547, 548, 549, 630, 493, 494, 631, 632, 633, 634, 21, 20, 602, 364, 365, 19, 366, 49, 51, 52, 104, 105, 106, 107, 433, 93, 94, 603, 604, 605, 606, 450, 451, 452, 453, 50, 108, 109, 197, 198, 375, 376, 377, 378, 379, 336, 337, 338, 390, 391, 392, 58, 59, 60, 385, 386, 387, 388, 389, 393, 394, 395, 396, 454, 455, 456, 457, 458, 335, 730, 731, 732, 733, 734, 735, 736, 737, 738, 775, 776, 777, 778, 779, 780, 781, 782, 783, 784, 785, 786, 787, 788, 789, 762, 763, 764, 765, 766, 767] (by decide +kernel) (by decide +kernel)
set_option maxRecDepth 20000 in
theorem gL_law_X6_stop : GoodIn wsL_law (wsV RL 89 RX6 yX6_stop wsX6_stop) := goodIn_app (goodIn_of _ (by decide +kernel)) ggL_law_X6_stop
set_option maxRecDepth 20000 in
theorem ggL_law_X7_stop : GoodIn wsL_law wsX7_stop := goodIn_r _ [638, 639, 117, 123, 611, 612, 5, 613, 463, 157, 158, 159, 311, 312, 313, 314, 327, 328, 329, 330, 120, 559, 560, 561, 614, 615, 616, 617, 409, 410, 411, 412, 464, 465, 466, 467, 124, 118, 116, 119, 739, 740, 741, 742, 743, 744, 745, 746, 747, 748, 749, 750, 751, 752, 753, 754, 755, 756, 757] (by decide +kernel) (by decide +kernel)
set_option maxRecDepth 20000 in
theorem gL_law_X7_stop : GoodIn wsL_law (wsV RL 93 RX7 yX7_stop wsX7_stop) := goodIn_app (goodIn_of _ (by decide +kernel)) ggL_law_X7_stop
set_option maxRecDepth 20000 in
theorem ggL_law_X6_how : GoodIn wsL_law wsX6_how := goodIn_r _ [643, 38, 387, 388, 59, 389, 143, 144, 2, 145, 319, 320, 321, 322, 301, 302, 303, 304, 644, 645, 646, 37, 647, 82, 197, 198, 493, 494, 648, 382, 383, 384, 80, 86, 385, 386, 390, 391, 392, 58, 60, 543, 544, 545, 546, 547, 548, 549, 730, 731, 732, 733, 734, 735, 736, 737, 738, 775, 776, 777, 778, 779, 780, 781, 782, 783, 784, 785, 786, 787, 788, 789] (by decide +kernel) (by decide +kernel)
set_option maxRecDepth 20000 in
theorem gL_law_X6_how : GoodIn wsL_law (wsV RL 94 RX6 yX6_how wsX6_how) := goodIn_app (goodIn_of _ (by decide +kernel)) ggL_law_X6_how
set_option maxRecDepth 20000 in
theorem ggL_law_X7_how : GoodIn wsL_law wsX7_how := goodIn_r _ [652, 155, 653, 122, 327, 328, 329, 5, 330, 120, 157, 158, 159, 311, 312, 313, 314, 117, 421, 422, 423, 424, 121, 116, 559, 560, 561, 739, 740, 741, 742, 743, 744, 745, 746, 747, 748, 749, 750, 751, 752, 753, 754, 755, 756, 757] (by decide +kernel) (by decide +kernel)
set_option maxRecDepth 20000 in
theorem gL_law_X7_how : GoodIn wsL_law (wsV RL 98 RX7 yX7_how wsX7_how) := goodIn_app (goodIn_of _ (by decide +kernel)) ggL_law_X7_how
set_option maxRecDepth 20000 in
theorem ggL_law_X6_fresh : GoodIn wsL_law wsX6_fresh := goodIn_r _ [657, 38, 301, 302, 303, 2, 304, 658, 659, 660, 661, 20, 662, 663, 664, 19, 665, 379, 336, 337, 338, 49, 197, 198, 730, 731, 732, 733, 734, 735, 736, 737, 738, 775, 776, 777, 778, 779, 780, 781, 782, 783, 784, 785, 786, 787, 788, 789, 762, 763, 764, 765, 766, 767] (by decide +kernel) (by decide +kernel)
set_option maxRecDepth 20000 in
theorem gL_law_X6_fresh : GoodIn wsL_law (wsV RL 99 RX6 yX6_fresh wsX6_fresh) := goodIn_app (goodIn_of _ (by decide +kernel)) ggL_law_X6_fresh
set_option maxRecDepth 20000 in
theorem ggL_law_X7_fresh : GoodIn wsL_law wsX7_fresh := goodIn_r _ [669, 117, 670, 671, 672, 5, 673, 120, 123, 311, 312, 313, 314, 157, 158, 159, 739, 740, 741, 742, 743, 744, 745, 746, 747, 748, 749, 750, 751, 752, 753, 754, 755, 756, 757] (by decide +kernel) (by decide +kernel)
set_option maxRecDepth 20000 in
theorem gL_law_X7_fresh : GoodIn wsL_law (wsV RL 102 RX7 yX7_fresh wsX7_fresh) := goodIn_app (goodIn_of _ (by decide +kernel)) ggL_law_X7_fresh
set_option maxRecDepth 20000 in
theorem ggL_law_X6_week : GoodIn wsL_law wsX6_week := goodIn_r _ [677, 21, 20, 678, 679, 680, 38, 143, 144, 2, 145, 602, 364, 365, 19, 366, 49, 51, 52, 104, 105, 106, 107, 681, 682, 683, 684, 305, 197, 198, 685, 686, 687, 688, 30, 488, 489, 490, 29, 491, 67, 66, 492, 493, 494, 495, 372, 373, 374, 375, 376, 377, 378, 379, 336, 337, 338, 93, 94, 108, 109, 496, 497, 498, 499, 525, 526, 527, 528, 529, 501, 502, 503, 530, 348, 349, 37, 350, 75, 76, 367, 368, 369, 370, 371, 380, 381, 382, 383, 384, 80, 86, 385, 386, 387, 388, 59, 389, 390, 391, 392, 58, 60, 393, 394, 395, 396, 446, 447, 448, 449, 450, 451, 452, 453, 50, 454, 455, 456, 457, 458, 689, 690, 691, 692, 693, 663, 664, 665, 730, 731, 732, 733, 734, 735, 736, 737, 738, 762, 763, 764, 765, 766, 767, 775, 776, 777, 778, 779, 780, 781, 782, 783, 784, 785, 786, 787, 788, 789, 770, 771] (by decide +kernel) (by decide +kernel)
set_option maxRecDepth 20000 in
theorem gL_law_X6_week : GoodIn wsL_law (wsV RL 103 RX6 yX6_week wsX6_week) := goodIn_app (goodIn_of _ (by decide +kernel)) ggL_law_X6_week
set_option maxRecDepth 20000 in
theorem ggL_law_X7_week : GoodIn wsL_law wsX7_week := goodIn_r _ [697, 698, 463, 699, 700, 701, 120, 123, 121, 117, 157, 158, 5, 159, 409, 410, 411, 412, 702, 703, 704, 705, 535, 536, 537, 538, 125, 512, 513, 514, 515, 516, 517, 518, 519, 520, 118, 417, 418, 419, 420, 401, 402, 403, 404, 425, 426, 427, 428, 413, 414, 415, 416, 421, 422, 423, 424, 116, 464, 465, 466, 467, 124, 119, 739, 740, 741, 742, 743, 744, 745, 746, 747, 748, 749, 750, 751, 752, 753, 754, 755, 756, 757] (by decide +kernel) (by decide +kernel)
set_option maxRecDepth 20000 in
theorem gL_law_X7_week : GoodIn wsL_law (wsV RL 106 RX7 yX7_week wsX7_week) := goodIn_app (goodIn_of _ (by decide +kernel)) ggL_law_X7_week
set_option maxRecDepth 20000 in
theorem ggL_law_X6_keep : GoodIn wsL_law wsX6_keep := goodIn_r _ [709, 26, 20, 351, 352, 353, 24, 354, 287, 62, 355, 356, 357, 358, 359, 360, 361, 362, 363, 364, 365, 19, 366, 49, 51, 52, 104, 105, 106, 2, 107, 730, 731, 732, 733, 734, 735, 736, 737, 738, 768, 769, 762, 763, 764, 765, 766, 767] (by decide +kernel) (by decide +kernel)
set_option maxRecDepth 20000 in
theorem gL_law_X6_keep : GoodIn wsL_law (wsV RL 107 RX6 yX6_keep wsX6_keep) := goodIn_app (goodIn_of _ (by decide +kernel)) ggL_law_X6_keep
set_option maxRecDepth 20000 in
theorem ggL_law_X7_keep : GoodIn wsL_law wsX7_keep := goodIn_r _ [713, 138, 409, 410, 411, 5, 412, 123, 739, 740, 741, 742, 743, 744, 745, 746, 747, 748, 749, 750, 751, 752, 753, 754, 755, 756, 757] (by decide +kernel) (by decide +kernel)
set_option maxRecDepth 20000 in
theorem gL_law_X7_keep : GoodIn wsL_law (wsV RL 110 RX7 yX7_keep wsX7_keep) := goodIn_app (goodIn_of _ (by decide +kernel)) ggL_law_X7_keep
set_option maxRecDepth 20000 in
theorem ggL_law_X6_back : GoodIn wsL_law wsX6_back := goodIn_r _ [717, 26, 20, 25, 472, 473, 474, 24, 475, 287, 359, 360, 361, 362, 62, 363, 364, 365, 19, 366, 49, 51, 52, 104, 105, 106, 2, 107, 283, 284, 285, 286, 730, 731, 732, 733, 734, 735, 736, 737, 738, 768, 769, 762, 763, 764, 765, 766, 767] (by decide +kernel) (by decide +kernel)
set_option maxRecDepth 20000 in
theorem gL_law_X6_back : GoodIn wsL_law (wsV RL 111 RX6 yX6_back wsX6_back) := goodIn_app (goodIn_of _ (by decide +kernel)) ggL_law_X6_back
set_option maxRecDepth 20000 in
theorem ggL_law_X7_back : GoodIn wsL_law wsX7_back := goodIn_r _ [721, 138, 137, 409, 410, 411, 5, 412, 123, 739, 740, 741, 742, 743, 744, 745, 746, 747, 748, 749, 750, 751, 752, 753, 754, 755, 756, 757] (by decide +kernel) (by decide +kernel)
set_option maxRecDepth 20000 in
theorem gL_law_X7_back : GoodIn wsL_law (wsV RL 114 RX7 yX7_back wsX7_back) := goodIn_app (goodIn_of _ (by decide +kernel)) ggL_law_X7_back
set_option maxRecDepth 20000 in
theorem ggL_law_X6_count : GoodIn wsL_law wsX6_count := goodIn_r _ [725, 38, 20, 25, 26, 16, 730, 731, 732, 733, 734, 735, 736, 737, 738, 775, 776, 777, 778, 779, 780, 781, 782, 783, 784, 785, 786, 787, 788, 789, 762, 763, 764, 765, 766, 767, 768, 769, 758, 759, 760, 761] (by decide +kernel) (by decide +kernel)
set_option maxRecDepth 20000 in
theorem gL_law_X6_count : GoodIn wsL_law (wsV RL 115 RX6 yX6_count wsX6_count) := goodIn_app (goodIn_of _ (by decide +kernel)) ggL_law_X6_count
set_option maxRecDepth 20000 in
theorem ggL_law_X7_count : GoodIn wsL_law wsX7_count := goodIn_r _ [729, 116, 117, 120, 123, 137, 138, 156, 739, 740, 741, 742, 743, 744, 745, 746, 747, 748, 749, 750, 751, 752, 753, 754, 755, 756, 757] (by decide +kernel) (by decide +kernel)
set_option maxRecDepth 20000 in
theorem gL_law_X7_count : GoodIn wsL_law (wsV RL 118 RX7 yX7_count wsX7_count) := goodIn_app (goodIn_of _ (by decide +kernel)) ggL_law_X7_count
