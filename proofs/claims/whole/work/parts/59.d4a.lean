set_option maxRecDepth 20000 in
theorem ggL_law_X8_init : GoodIn wsL_law wsX8_init := goodIn_r _ [9, 10, 11, 12, 13, 14, 15, 16, 17, 18, 19, 20, 21, 22, 23, 24, 25, 26, 27, 28, 29, 30, 31, 32, 33, 34, 35, 36, 37, 38, 39, 40, 41, 42, 43, 44, 45, 46, 47, 48, 49, 50, 51, 52, 53, 54, 55, 56, 57, 58, 59, 60, 61, 62, 63, 64, 65, 66, 67, 68, 69, 70, 71, 72, 73, 74, 75, 76, 77, 78, 79, 80, 81, 82, 83, 84, 85, 86, 87, 88, 89, 90, 91, 92, 93, 94, 95, 96, 97, 98, 99, 100, 101, 102, 103, 104, 105, 106, 107, 108, 109, 110, 111, 112, 113, 114, 115, 116, 117, 118, 743, 744, 745, 746, 713, 714, 715, 716, 717, 718, 719, 747, 748, 749, 750, 751, 752, 753, 754, 755, 756, 757, 758, 759, 760, 761, 762, 763, 764, 765, 766, 767, 768, 769, 770, 771, 772, 773, 774, 775, 776, 777] (by decide +kernel) (by decide +kernel)
set_option maxRecDepth 20000 in
theorem gL_law_X8_init : GoodIn wsL_law (wsX8_init) := ggL_law_X8_init
set_option maxRecDepth 20000 in
theorem ggL_law_X9_init : GoodIn wsL_law wsX9_init := goodIn_r _ [121, 122, 11, 12, 68, 123, 124, 125, 126, 45, 127, 128, 129, 130, 82, 131, 132, 133, 134, 80, 135, 136, 137, 138, 139, 720, 721, 722, 723, 724, 725, 726, 727, 728, 729, 730, 731, 732, 733, 734, 735, 736, 737, 738, 739, 740, 741, 742] (by decide +kernel) (by decide +kernel)
set_option maxRecDepth 20000 in
theorem gL_law_X9_init : GoodIn wsL_law (wsX9_init) := ggL_law_X9_init
set_option maxRecDepth 20000 in
theorem ggL_law_X8_supply : GoodIn wsL_law wsX8_supply := goodIn_r _ [143, 20, 24, 144, 145, 146, 19, 147, 54, 148, 149, 150, 23, 151, 61, 60, 63, 62, 152, 153, 154, 155, 713, 714, 715, 716, 717, 718, 719, 747, 748, 749, 750, 751, 752] (by decide +kernel) (by decide +kernel)
set_option maxRecDepth 20000 in
theorem gL_law_X8_supply : GoodIn wsL_law (wsV RL 15 RX8 yX8_supply wsX8_supply) := goodIn_app (goodIn_of _ (by decide +kernel)) ggL_law_X8_supply
set_option maxRecDepth 20000 in
theorem ggL_law_X9_supply : GoodIn wsL_law wsX9_supply := goodIn_r _ [159, 125, 160, 161, 128, 127, 720, 721, 722, 723, 724, 725, 726, 727, 728, 729, 730, 731, 732, 733, 734, 735, 736, 737, 738, 739, 740, 741, 742] (by decide +kernel) (by decide +kernel)
set_option maxRecDepth 20000 in
theorem gL_law_X9_supply : GoodIn wsL_law (wsV RL 19 RX9 yX9_supply wsX9_supply) := goodIn_app (goodIn_of _ (by decide +kernel)) ggL_law_X9_supply
set_option maxRecDepth 20000 in
theorem ggL_law_X8_feed : GoodIn wsL_law wsX8_feed := goodIn_r _ [165, 20, 28, 144, 145, 146, 19, 147, 54, 166, 167, 168, 27, 169, 70, 69, 170, 171, 172, 173, 713, 714, 715, 716, 717, 718, 719, 747, 748, 753, 754] (by decide +kernel) (by decide +kernel)
set_option maxRecDepth 20000 in
theorem gL_law_X8_feed : GoodIn wsL_law (wsV RL 20 RX8 yX8_feed wsX8_feed) := goodIn_app (goodIn_of _ (by decide +kernel)) ggL_law_X8_feed
set_option maxRecDepth 20000 in
theorem ggL_law_X9_feed : GoodIn wsL_law wsX9_feed := goodIn_r _ [177, 125, 178, 129, 720, 721, 722, 723, 724, 725, 726, 727, 728, 729, 730, 731, 732, 733, 734, 735, 736, 737, 738, 739, 740, 741, 742] (by decide +kernel) (by decide +kernel)
set_option maxRecDepth 20000 in
theorem gL_law_X9_feed : GoodIn wsL_law (wsV RL 24 RX9 yX9_feed wsX9_feed) := goodIn_app (goodIn_of _ (by decide +kernel)) ggL_law_X9_feed
set_option maxRecDepth 20000 in
theorem ggL_law_X8_put : GoodIn wsL_law wsX8_put := goodIn_r _ [182, 20, 28, 24, 40, 144, 145, 146, 19, 147, 54, 183, 184, 2, 185, 186, 187, 188, 27, 189, 70, 190, 191, 192, 23, 193, 61, 194, 195, 196, 197, 32, 198, 199, 200, 31, 201, 86, 87, 79, 81, 85, 202, 203, 204, 15, 205, 49, 206, 207, 208, 209, 83, 84, 210, 211, 212, 213, 47, 214, 215, 216, 217, 48, 218, 219, 220, 221, 78, 222, 223, 224, 225, 226, 227, 228, 229, 230, 231, 232, 46, 233, 234, 235, 236, 237, 238, 239, 240, 241, 242, 243, 244, 245, 246, 247, 248, 249, 250, 251, 252, 253, 254, 255, 256, 257, 77, 258, 92, 259, 260, 261, 262, 263, 264, 265, 266, 267, 268, 269, 270, 271, 272, 273, 274, 275, 276, 277, 278, 279, 280, 281, 282, 283, 284, 285, 286, 287, 288, 289, 290, 291, 292, 293, 294, 295, 296, 39, 297, 112, 117, 298, 299, 300, 301, 302, 303, 304, 305, 60, 306, 307, 308, 309, 310, 311, 312, 313, 314, 110, 315, 316, 317, 318, 319, 320, 321, 322, 323, 324, 325, 326, 327, 328, 329, 330, 331, 332, 333, 334, 335, 336, 337, 69, 338, 339, 340, 341, 115, 116, 111, 113, 114, 342, 343, 344, 345, 346, 347, 348, 349, 350, 351, 352, 353, 354, 355, 356, 357, 358, 359, 360, 361, 362, 363, 364, 365, 366, 55, 367, 368, 369, 370, 371, 372, 373, 374, 375, 376, 377, 378, 379, 380, 381, 382, 383, 384, 385, 386, 387, 388, 389, 390, 391, 392, 393, 394, 395, 396, 397, 398, 399, 400, 401, 402, 403, 404, 405, 406, 407, 408, 409, 410, 411, 412, 413, 414, 415, 416, 417, 418, 419, 420, 713, 714, 715, 716, 717, 718, 719, 747, 748, 753, 754, 749, 750, 751, 752, 755, 756, 757, 758, 759, 760, 761, 762, 743, 744, 745, 746, 777, 769, 770, 771, 772, 773, 774, 775, 776] (by decide +kernel) (by decide +kernel)
set_option maxRecDepth 20000 in
theorem gL_law_X8_put : GoodIn wsL_law (wsV RL 25 RX8 yX8_put wsX8_put) := goodIn_app (goodIn_of _ (by decide +kernel)) ggL_law_X8_put
set_option maxRecDepth 20000 in
theorem ggL_law_X9_put : GoodIn wsL_law wsX9_put := goodIn_r _ [424, 125, 178, 160, 425, 132, 129, 426, 427, 5, 428, 429, 430, 431, 432, 131, 138, 137, 433, 434, 435, 436, 437, 124, 134, 135, 438, 439, 440, 441, 442, 443, 444, 445, 446, 447, 448, 449, 450, 451, 452, 453, 123, 454, 455, 456, 457, 458, 459, 460, 461, 462, 463, 464, 465, 466, 467, 468, 469, 470, 471, 472, 473, 474, 475, 476, 477, 478, 127, 479, 480, 481, 482, 130, 133, 483, 484, 485, 486, 487, 488, 126, 139, 489, 490, 491, 492, 493, 494, 495, 496, 497, 498, 499, 500, 720, 721, 722, 723, 724, 725, 726, 727, 728, 729, 730, 731, 732, 733, 734, 735, 736, 737, 738, 739, 740, 741, 742] (by decide +kernel) (by decide +kernel)
set_option maxRecDepth 20000 in
theorem gL_law_X9_put : GoodIn wsL_law (wsV RL 29 RX9 yX9_put wsX9_put) := goodIn_app (goodIn_of _ (by decide +kernel)) ggL_law_X9_put
set_option maxRecDepth 20000 in
theorem ggL_law_X8_shred : GoodIn wsL_law wsX8_shred := goodIn_r _ [504, 20, 24, 32, 40, 144, 145, 146, 19, 147, 54, 183, 184, 2, 185, 190, 191, 192, 23, 193, 61, 194, 195, 196, 197, 198, 199, 200, 31, 201, 86, 87, 79, 81, 85, 202, 203, 204, 15, 205, 49, 206, 207, 208, 209, 83, 84, 210, 211, 212, 213, 47, 214, 215, 216, 217, 48, 218, 219, 220, 221, 78, 222, 223, 224, 225, 226, 227, 228, 229, 230, 231, 232, 46, 233, 234, 235, 236, 237, 238, 239, 240, 241, 242, 243, 244, 245, 246, 247, 248, 249, 250, 251, 252, 253, 254, 255, 256, 257, 77, 258, 92, 259, 260, 261, 262, 263, 264, 265, 266, 267, 268, 269, 270, 271, 272, 273, 274, 275, 276, 277, 278, 279, 280, 281, 282, 283, 284, 285, 286, 505, 506, 507, 508, 287, 288, 289, 290, 294, 295, 296, 39, 297, 112, 117, 298, 299, 300, 301, 376, 377, 378, 379, 116, 115, 380, 381, 382, 383, 384, 385, 386, 110, 387, 388, 389, 390, 391, 392, 393, 394, 395, 396, 397, 398, 399, 324, 325, 326, 327, 328, 329, 330, 331, 332, 333, 400, 303, 304, 305, 60, 306, 307, 308, 309, 338, 339, 340, 341, 111, 113, 114, 342, 343, 344, 345, 346, 347, 348, 349, 350, 351, 317, 352, 353, 354, 355, 356, 357, 358, 359, 360, 361, 362, 363, 364, 365, 366, 55, 367, 368, 369, 370, 371, 372, 373, 374, 375, 401, 402, 403, 404, 409, 410, 411, 412, 413, 414, 415, 416, 28, 417, 418, 419, 420, 405, 406, 407, 27, 408, 70, 713, 714, 715, 716, 717, 718, 719, 747, 748, 749, 750, 751, 752, 755, 756, 757, 758, 759, 760, 761, 762, 743, 744, 745, 746, 777, 769, 770, 771, 772, 773, 774, 775, 776, 753, 754] (by decide +kernel) (by decide +kernel)
set_option maxRecDepth 20000 in
theorem gL_law_X8_shred : GoodIn wsL_law (wsV RL 30 RX8 yX8_shred wsX8_shred) := goodIn_app (goodIn_of _ (by decide +kernel)) ggL_law_X8_shred
set_option maxRecDepth 20000 in
theorem ggL_law_X9_shred : GoodIn wsL_law wsX9_shred := goodIn_r _ [512, 125, 160, 138, 426, 427, 5, 428, 429, 430, 431, 432, 131, 137, 433, 434, 435, 436, 437, 124, 134, 135, 438, 439, 440, 441, 132, 442, 443, 444, 445, 446, 447, 448, 449, 450, 451, 452, 453, 123, 454, 455, 456, 457, 458, 459, 460, 461, 462, 463, 464, 465, 466, 467, 468, 469, 470, 425, 471, 472, 473, 474, 493, 494, 495, 496, 497, 498, 499, 500, 475, 476, 477, 478, 127, 479, 480, 481, 482, 130, 133, 483, 484, 485, 486, 487, 488, 126, 139, 489, 490, 491, 492, 178, 720, 721, 722, 723, 724, 725, 726, 727, 728, 729, 730, 731, 732, 733, 734, 735, 736, 737, 738, 739, 740, 741, 742] (by decide +kernel) (by decide +kernel)
set_option maxRecDepth 20000 in
theorem gL_law_X9_shred : GoodIn wsL_law (wsV RL 33 RX9 yX9_shred wsX9_shred) := goodIn_app (goodIn_of _ (by decide +kernel)) ggL_law_X9_shred
set_option maxRecDepth 20000 in
theorem ggL_law_X8_size : GoodIn wsL_law wsX8_size := goodIn_r _ [516, 20, 144, 145, 146, 19, 147, 54, 183, 184, 2, 185, 194, 195, 196, 197, 32, 198, 199, 200, 31, 201, 86, 87, 79, 81, 85, 202, 203, 204, 15, 205, 49, 206, 207, 208, 209, 83, 84, 210, 211, 212, 213, 47, 214, 215, 216, 217, 48, 218, 219, 220, 221, 78, 222, 223, 224, 225, 226, 227, 228, 229, 230, 231, 232, 46, 233, 234, 235, 236, 237, 238, 239, 240, 241, 242, 243, 244, 245, 246, 247, 248, 249, 250, 251, 252, 253, 254, 255, 256, 257, 77, 258, 92, 259, 260, 261, 262, 263, 264, 265, 266, 267, 268, 269, 270, 271, 272, 273, 274, 275, 276, 277, 278, 279, 280, 281, 282, 283, 284, 285, 286, 517, 518, 519, 520, 521, 506, 507, 508, 522, 523, 524, 525, 713, 714, 715, 716, 717, 718, 719, 747, 748, 755, 756, 757, 758, 759, 760, 761, 762, 743, 744, 745, 746, 777] (by decide +kernel) (by decide +kernel)
set_option maxRecDepth 20000 in
theorem gL_law_X8_size : GoodIn wsL_law (wsV RL 34 RX8 yX8_size wsX8_size) := goodIn_app (goodIn_of _ (by decide +kernel)) ggL_law_X8_size
set_option maxRecDepth 20000 in
theorem ggL_law_X9_size : GoodIn wsL_law wsX9_size := goodIn_r _ [529, 125, 138, 137, 132, 426, 427, 5, 428, 433, 434, 435, 436, 437, 124, 134, 135, 438, 439, 440, 441, 442, 443, 444, 445, 446, 447, 448, 449, 450, 451, 452, 453, 123, 454, 455, 456, 457, 458, 459, 460, 461, 462, 467, 468, 469, 470, 425, 720, 721, 722, 723, 724, 725, 726, 727, 728, 729, 730, 731, 732, 733, 734, 735, 736, 737, 738, 739, 740, 741, 742] (by decide +kernel) (by decide +kernel)
set_option maxRecDepth 20000 in
theorem gL_law_X9_size : GoodIn wsL_law (wsV RL 37 RX9 yX9_size wsX9_size) := goodIn_app (goodIn_of _ (by decide +kernel)) ggL_law_X9_size
set_option maxRecDepth 20000 in
theorem ggL_law_X8_at : GoodIn wsL_law wsX8_at := goodIn_r _ [533, 20, 144, 145, 146, 19, 147, 54, 183, 184, 2, 185, 194, 195, 196, 197, 32, 198, 199, 200, 31, 201, 86, 87, 79, 81, 85, 202, 203, 204, 15, 205, 49, 206, 207, 208, 209, 83, 84, 210, 211, 212, 213, 47, 214, 215, 216, 217, 48, 218, 219, 220, 221, 78, 222, 223, 224, 225, 226, 227, 228, 229, 230, 231, 232, 46, 233, 234, 235, 236, 237, 238, 239, 240, 241, 242, 243, 244, 245, 246, 247, 248, 249, 250, 251, 252, 253, 254, 255, 256, 257, 77, 258, 92, 259, 260, 261, 262, 263, 264, 265, 266, 267, 268, 269, 270, 271, 272, 273, 274, 275, 276, 277, 278, 279, 280, 281, 282, 283, 284, 285, 286, 534, 535, 536, 537, 521, 506, 507, 508, 522, 523, 524, 525, 538, 539, 540, 541, 713, 714, 715, 716, 717, 718, 719, 747, 748, 755, 756, 757, 758, 759, 760, 761, 762, 743, 744, 745, 746, 777] (by decide +kernel) (by decide +kernel)
set_option maxRecDepth 20000 in
theorem gL_law_X8_at : GoodIn wsL_law (wsV RL 38 RX8 yX8_at wsX8_at) := goodIn_app (goodIn_of _ (by decide +kernel)) ggL_law_X8_at
set_option maxRecDepth 20000 in
theorem ggL_law_X9_at : GoodIn wsL_law wsX9_at := goodIn_r _ [545, 125, 138, 137, 132, 426, 427, 5, 428, 433, 434, 435, 436, 437, 124, 134, 135, 438, 439, 440, 441, 442, 443, 444, 445, 446, 447, 448, 449, 450, 451, 452, 453, 123, 454, 455, 456, 457, 458, 459, 460, 461, 462, 467, 468, 469, 470, 425, 720, 721, 722, 723, 724, 725, 726, 727, 728, 729, 730, 731, 732, 733, 734, 735, 736, 737, 738, 739, 740, 741, 742] (by decide +kernel) (by decide +kernel)
set_option maxRecDepth 20000 in
theorem gL_law_X9_at : GoodIn wsL_law (wsV RL 41 RX9 yX9_at wsX9_at) := goodIn_app (goodIn_of _ (by decide +kernel)) ggL_law_X9_at
set_option maxRecDepth 20000 in
theorem ggL_law_X8_cut : GoodIn wsL_law wsX8_cut := goodIn_r _ [549, 20, 144, 145, 146, 19, 147, 54, 550, 368, 369, 370, 55, 413, 414, 415, 2, 416, 24, 28, 417, 418, 419, 23, 420, 61, 405, 406, 407, 27, 408, 70, 713, 714, 715, 716, 717, 718, 719, 747, 748, 749, 750, 751, 752, 753, 754] (by decide +kernel) (by decide +kernel)
set_option maxRecDepth 20000 in
theorem gL_law_X8_cut : GoodIn wsL_law (wsV RL 42 RX8 yX8_cut wsX8_cut) := goodIn_app (goodIn_of _ (by decide +kernel)) ggL_law_X8_cut
set_option maxRecDepth 20000 in
theorem ggL_law_X9_cut : GoodIn wsL_law wsX9_cut := goodIn_r _ [554, 125, 489, 490, 491, 5, 492, 126, 160, 178, 720, 721, 722, 723, 724, 725, 726, 727, 728, 729, 730, 731, 732, 733, 734, 735, 736, 737, 738, 739, 740, 741, 742] (by decide +kernel) (by decide +kernel)
set_option maxRecDepth 20000 in
theorem gL_law_X9_cut : GoodIn wsL_law (wsV RL 46 RX9 yX9_cut wsX9_cut) := goodIn_app (goodIn_of _ (by decide +kernel)) ggL_law_X9_cut
set_option maxRecDepth 20000 in
theorem ggL_law_X8_arm : GoodIn wsL_law wsX8_arm := goodIn_r _ [558, 20, 144, 145, 146, 19, 147, 54, 559, 560, 561, 562, 55, 713, 714, 715, 716, 717, 718, 719, 747, 748] (by decide +kernel) (by decide +kernel)
set_option maxRecDepth 20000 in
theorem gL_law_X8_arm : GoodIn wsL_law (wsV RL 47 RX8 yX8_arm wsX8_arm) := goodIn_app (goodIn_of _ (by decide +kernel)) ggL_law_X8_arm
set_option maxRecDepth 20000 in
theorem ggL_law_X9_arm : GoodIn wsL_law wsX9_arm := goodIn_r _ [566, 125, 126, 720, 721, 722, 723, 724, 725, 726, 727, 728, 729, 730, 731, 732, 733, 734, 735, 736, 737, 738, 739, 740, 741, 742] (by decide +kernel) (by decide +kernel)
set_option maxRecDepth 20000 in
theorem gL_law_X9_arm : GoodIn wsL_law (wsV RL 51 RX9 yX9_arm wsX9_arm) := goodIn_app (goodIn_of _ (by decide +kernel)) ggL_law_X9_arm
set_option maxRecDepth 20000 in
theorem ggL_law_X8_power : GoodIn wsL_law wsX8_power := goodIn_r _ [570, 20, 40, 144, 145, 146, 19, 147, 54, 571, 572, 573, 574, 575, 576, 577, 39, 578, 113, 713, 714, 715, 716, 717, 718, 719, 747, 748, 769, 770, 771, 772, 773, 774, 775, 776] (by decide +kernel) (by decide +kernel)
set_option maxRecDepth 20000 in
theorem gL_law_X8_power : GoodIn wsL_law (wsV RL 52 RX8 yX8_power wsX8_power) := goodIn_app (goodIn_of _ (by decide +kernel)) ggL_law_X8_power
set_option maxRecDepth 20000 in
theorem ggL_law_X9_power : GoodIn wsL_law wsX9_power := goodIn_r _ [582, 125, 130, 720, 721, 722, 723, 724, 725, 726, 727, 728, 729, 730, 731, 732, 733, 734, 735, 736, 737, 738, 739, 740, 741, 742] (by decide +kernel) (by decide +kernel)
set_option maxRecDepth 20000 in
theorem gL_law_X9_power : GoodIn wsL_law (wsV RL 55 RX9 yX9_power wsX9_power) := goodIn_app (goodIn_of _ (by decide +kernel)) ggL_law_X9_power
set_option maxRecDepth 20000 in
theorem ggL_law_X8_disk : GoodIn wsL_law wsX8_disk := goodIn_r _ [586, 16, 587, 588, 589, 15, 590, 46, 713, 714, 715, 716, 717, 718, 719, 743, 744, 745, 746] (by decide +kernel) (by decide +kernel)
set_option maxRecDepth 20000 in
theorem gL_law_X8_disk : GoodIn wsL_law (wsV RL 56 RX8 yX8_disk wsX8_disk) := goodIn_app (goodIn_of _ (by decide +kernel)) ggL_law_X8_disk
set_option maxRecDepth 20000 in
theorem ggL_law_X9_disk : GoodIn wsL_law wsX9_disk := goodIn_r _ [594, 123, 720, 721, 722, 723, 724, 725, 726, 727, 728, 729, 730, 731, 732, 733, 734, 735, 736, 737, 738, 739, 740, 741, 742] (by decide +kernel) (by decide +kernel)
set_option maxRecDepth 20000 in
theorem gL_law_X9_disk : GoodIn wsL_law (wsV RL 59 RX9 yX9_disk wsX9_disk) := goodIn_app (goodIn_of _ (by decide +kernel)) ggL_law_X9_disk
set_option maxRecDepth 20000 in
theorem ggL_law_X8_cell : GoodIn wsL_law wsX8_cell := goodIn_r _ [598, 16, 599, 211, 212, 15, 213, 47, 600, 215, 216, 217, 48, 713, 714, 715, 716, 717, 718, 719, 743, 744, 745, 746] (by decide +kernel) (by decide +kernel)
set_option maxRecDepth 20000 in
theorem gL_law_X8_cell : GoodIn wsL_law (wsV RL 60 RX8 yX8_cell wsX8_cell) := goodIn_app (goodIn_of _ (by decide +kernel)) ggL_law_X8_cell
set_option maxRecDepth 20000 in
theorem ggL_law_X9_cell : GoodIn wsL_law wsX9_cell := goodIn_r _ [604, 437, 124, 720, 721, 722, 723, 724, 725, 726, 727, 728, 729, 730, 731, 732, 733, 734, 735, 736, 737, 738, 739, 740, 741, 742] (by decide +kernel) (by decide +kernel)
set_option maxRecDepth 20000 in
theorem gL_law_X9_cell : GoodIn wsL_law (wsV RL 64 RX9 yX9_cell wsX9_cell) := goodIn_app (goodIn_of _ (by decide +kernel)) ggL_law_X9_cell
set_option maxRecDepth 20000 in
theorem ggL_law_X8_known : GoodIn wsL_law wsX8_known := goodIn_r _ [608, 609, 610, 611, 2, 612, 36, 613, 614, 615, 35, 616, 102, 103, 100, 101, 617, 203, 204, 15, 205, 49, 618, 211, 212, 213, 47, 619, 620, 621, 622, 99, 623, 624, 625, 626, 627, 628, 629, 630, 631, 632, 633, 634, 635, 636, 317, 637, 638, 223, 224, 225, 226, 227, 228, 229, 230, 231, 232, 46, 233, 234, 235, 236, 237, 238, 239, 240, 241, 242, 243, 244, 245, 246, 639, 640, 641, 642, 98, 643, 252, 253, 254, 255, 256, 257, 77, 258, 92, 259, 260, 261, 262, 644, 264, 265, 266, 267, 268, 269, 270, 645, 713, 714, 715, 716, 717, 718, 719, 763, 764, 765, 766, 767, 768, 743, 744, 745, 746, 777] (by decide +kernel) (by decide +kernel)
set_option maxRecDepth 20000 in
theorem gL_law_X8_known : GoodIn wsL_law (wsV RL 65 RX8 yX8_known wsX8_known) := goodIn_app (goodIn_of _ (by decide +kernel)) ggL_law_X8_known
set_option maxRecDepth 20000 in
theorem ggL_law_X9_known : GoodIn wsL_law wsX9_known := goodIn_r _ [649, 650, 651, 652, 5, 653, 654, 437, 136, 134, 450, 451, 452, 453, 123, 655, 656, 657, 658, 483, 659, 660, 661, 662, 446, 447, 448, 449, 454, 455, 456, 457, 458, 459, 438, 439, 440, 441, 132, 135, 442, 443, 444, 445, 663, 664, 665, 666, 720, 721, 722, 723, 724, 725, 726, 727, 728, 729, 730, 731, 732, 733, 734, 735, 736, 737, 738, 739, 740, 741, 742] (by decide +kernel) (by decide +kernel)
set_option maxRecDepth 20000 in
theorem gL_law_X9_known : GoodIn wsL_law (wsV RL 68 RX9 yX9_known wsX9_known) := goodIn_app (goodIn_of _ (by decide +kernel)) ggL_law_X9_known
set_option maxRecDepth 20000 in
theorem ggL_law_X8_knownAt : GoodIn wsL_law wsX8_knownAt := goodIn_r _ [670, 609, 610, 611, 2, 612, 36, 613, 614, 615, 35, 616, 102, 103, 100, 101, 617, 203, 204, 15, 205, 49, 618, 211, 212, 213, 47, 619, 620, 621, 622, 99, 623, 624, 625, 626, 627, 628, 629, 630, 631, 632, 633, 634, 635, 636, 317, 637, 638, 223, 224, 225, 226, 227, 228, 229, 230, 231, 232, 46, 233, 234, 235, 236, 237, 238, 239, 240, 241, 242, 243, 244, 245, 246, 639, 640, 641, 642, 98, 643, 252, 253, 254, 255, 256, 257, 77, 258, 92, 259, 260, 261, 262, 644, 264, 265, 266, 267, 268, 269, 270, 671, 672, 673, 674, 713, 714, 715, 716, 717, 718, 719, 763, 764, 765, 766, 767, 768, 743, 744, 745, 746, 777] (by decide +kernel) (by decide +kernel)
set_option maxRecDepth 20000 in
theorem gL_law_X8_knownAt : GoodIn wsL_law (wsV RL 69 RX8 yX8_knownAt wsX8_knownAt) := goodIn_app (goodIn_of _ (by decide +kernel)) ggL_law_X8_knownAt
set_option maxRecDepth 20000 in
theorem ggL_law_X9_knownAt : GoodIn wsL_law wsX9_knownAt := goodIn_r _ [678, 654, 136, 650, 651, 652, 5, 653, 437, 134, 450, 451, 452, 453, 123, 655, 656, 657, 658, 483, 659, 660, 661, 662, 446, 447, 448, 449, 454, 455, 456, 457, 458, 459, 438, 439, 440, 441, 132, 135, 442, 443, 444, 445, 663, 664, 665, 666, 720, 721, 722, 723, 724, 725, 726, 727, 728, 729, 730, 731, 732, 733, 734, 735, 736, 737, 738, 739, 740, 741, 742] (by decide +kernel) (by decide +kernel)
set_option maxRecDepth 20000 in
theorem gL_law_X9_knownAt : GoodIn wsL_law (wsV RL 72 RX9 yX9_knownAt wsX9_knownAt) := goodIn_app (goodIn_of _ (by decide +kernel)) ggL_law_X9_knownAt
set_option maxRecDepth 20000 in
theorem ggL_law_X8_live : GoodIn wsL_law wsX8_live := goodIn_r _ [682, 194, 195, 196, 2, 197, 32, 198, 199, 200, 31, 201, 86, 87, 79, 81, 85, 202, 203, 204, 15, 205, 49, 206, 207, 208, 209, 83, 84, 210, 211, 212, 213, 47, 214, 215, 216, 217, 48, 218, 219, 220, 221, 78, 222, 223, 224, 225, 226, 227, 228, 229, 230, 231, 232, 46, 233, 234, 235, 236, 237, 238, 239, 240, 241, 242, 243, 244, 245, 246, 247, 248, 249, 250, 251, 252, 253, 254, 255, 256, 257, 77, 258, 92, 259, 260, 261, 262, 263, 264, 265, 266, 267, 268, 269, 270, 271, 272, 273, 274, 275, 276, 277, 278, 279, 280, 281, 282, 283, 284, 285, 286, 683, 299, 300, 301, 713, 714, 715, 716, 717, 718, 719, 755, 756, 757, 758, 759, 760, 761, 762, 743, 744, 745, 746, 777] (by decide +kernel) (by decide +kernel)
set_option maxRecDepth 20000 in
theorem gL_law_X8_live : GoodIn wsL_law (wsV RL 73 RX8 yX8_live wsX8_live) := goodIn_app (goodIn_of _ (by decide +kernel)) ggL_law_X8_live
set_option maxRecDepth 20000 in
theorem ggL_law_X9_live : GoodIn wsL_law wsX9_live := goodIn_r _ [687, 131, 429, 430, 431, 5, 432, 138, 137, 433, 434, 435, 436, 437, 124, 134, 135, 438, 439, 440, 441, 132, 442, 443, 444, 445, 446, 447, 448, 449, 450, 451, 452, 453, 123, 454, 455, 456, 457, 458, 459, 460, 461, 462, 463, 464, 465, 466, 467, 468, 469, 470, 425, 720, 721, 722, 723, 724, 725, 726, 727, 728, 729, 730, 731, 732, 733, 734, 735, 736, 737, 738, 739, 740, 741, 742] (by decide +kernel) (by decide +kernel)
set_option maxRecDepth 20000 in
theorem gL_law_X9_live : GoodIn wsL_law (wsV RL 76 RX9 yX9_live wsX9_live) := goodIn_app (goodIn_of _ (by decide +kernel)) ggL_law_X9_live
set_option maxRecDepth 20000 in
theorem ggL_law_X8_count : GoodIn wsL_law wsX8_count := goodIn_r _ [691, 20, 24, 28, 40, 16, 144, 145, 146, 19, 147, 54, 190, 191, 192, 23, 193, 61, 170, 171, 172, 27, 173, 70, 194, 195, 196, 2, 197, 32, 198, 199, 200, 31, 201, 86, 87, 79, 81, 85, 202, 203, 204, 15, 205, 49, 206, 207, 208, 209, 83, 84, 210, 211, 212, 213, 47, 214, 215, 216, 217, 48, 218, 219, 220, 221, 78, 222, 223, 224, 225, 226, 227, 228, 229, 230, 231, 232, 46, 233, 234, 235, 236, 237, 238, 239, 240, 241, 242, 243, 244, 245, 246, 247, 248, 249, 250, 251, 252, 253, 254, 255, 256, 257, 77, 258, 92, 259, 260, 261, 262, 263, 264, 265, 266, 267, 268, 269, 270, 271, 272, 273, 274, 275, 276, 277, 278, 279, 280, 281, 282, 283, 284, 285, 286, 692, 693, 694, 695, 696, 697, 698, 699, 700, 701, 702, 39, 703, 114, 704, 609, 610, 611, 612, 36, 613, 614, 615, 35, 616, 102, 103, 100, 101, 617, 618, 619, 620, 621, 622, 99, 623, 624, 625, 626, 627, 628, 629, 630, 631, 632, 633, 634, 635, 636, 317, 637, 638, 639, 640, 641, 642, 98, 643, 644, 705, 706, 707, 708, 713, 714, 715, 716, 717, 718, 719, 747, 748, 749, 750, 751, 752, 753, 754, 755, 756, 757, 758, 759, 760, 761, 762, 743, 744, 745, 746, 777, 769, 770, 771, 772, 773, 774, 775, 776, 763, 764, 765, 766, 767, 768] (by decide +kernel) (by decide +kernel)
set_option maxRecDepth 20000 in
theorem gL_law_X8_count : GoodIn wsL_law (wsV RL 77 RX8 yX8_count wsX8_count) := goodIn_app (goodIn_of _ (by decide +kernel)) ggL_law_X8_count
set_option maxRecDepth 20000 in
theorem ggL_law_X9_count : GoodIn wsL_law wsX9_count := goodIn_r _ [712, 125, 160, 178, 484, 139, 654, 429, 430, 431, 5, 432, 131, 138, 137, 433, 434, 435, 436, 437, 124, 134, 135, 438, 439, 440, 441, 132, 442, 443, 444, 445, 446, 447, 448, 449, 450, 451, 452, 453, 123, 454, 455, 456, 457, 458, 459, 460, 461, 462, 463, 464, 465, 466, 467, 468, 469, 470, 425, 471, 472, 473, 474, 650, 651, 652, 653, 136, 655, 656, 657, 658, 483, 659, 660, 661, 662, 663, 664, 665, 666, 720, 721, 722, 723, 724, 725, 726, 727, 728, 729, 730, 731, 732, 733, 734, 735, 736, 737, 738, 739, 740, 741, 742] (by decide +kernel) (by decide +kernel)
set_option maxRecDepth 20000 in
theorem gL_law_X9_count : GoodIn wsL_law (wsV RL 80 RX9 yX9_count wsX9_count) := goodIn_app (goodIn_of _ (by decide +kernel)) ggL_law_X9_count
