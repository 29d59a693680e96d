set_option maxRecDepth 20000 in
theorem ggL_law_X6_init : GoodIn wsL_law wsX6_init := goodIn_r _ [9, 10, 11, 12, 13, 14, 15, 16, 17, 18, 19, 20, 21, 22, 23, 24, 25, 26, 27, 28, 29, 30, 31, 32, 33, 34, 35, 36, 37, 38, 39, 40, 41, 42, 43, 44, 45, 46, 47, 48, 49, 50, 51, 52, 53, 54, 55, 56, 57, 58, 59, 60, 61, 62, 63, 64, 65, 66, 67, 68, 69, 70, 71, 72, 73, 74, 75, 76, 77, 78, 79, 80, 81, 82, 83, 652, 653, 654, 655, 656, 657, 658, 659, 621, 622, 623, 624, 625, 626, 660, 661, 662, 663, 664, 665, 666, 667, 668, 669, 670, 671, 672, 673, 674, 675, 676, 677, 678, 679, 680, 681] (by decide +kernel) (by decide +kernel)
set_option maxRecDepth 20000 in
theorem gL_law_X6_init : GoodIn wsL_law (wsX6_init) := ggL_law_X6_init
set_option maxRecDepth 20000 in
theorem ggL_law_X7_init : GoodIn wsL_law wsX7_init := goodIn_r _ [86, 87, 11, 12, 37, 88, 89, 90, 91, 92, 93, 94, 95, 96, 97, 98, 99, 100, 101, 102, 103, 104, 63, 105, 106, 627, 628, 629, 630, 631, 632, 633, 634, 635, 636, 637, 638, 639, 640, 641, 642, 643, 644, 645, 646, 647, 648, 649, 650, 651] (by decide +kernel) (by decide +kernel)
set_option maxRecDepth 20000 in
theorem gL_law_X7_init : GoodIn wsL_law (wsX7_init) := ggL_law_X7_init
set_option maxRecDepth 20000 in
theorem ggL_law_L_pack : GoodIn wsL_law wsL_pack := goodIn_ca (goodIn_ca (goodIn_r _ [110, 111, 112, 113, 114, 115, 2, 116, 117, 118, 119, 120, 16, 121, 122, 123, 124, 125, 126, 127, 15, 128, 38, 44, 621, 622, 623, 624, 625, 626, 652, 653, 654, 655, 656, 657, 658, 659] (by decide +kernel) (by decide +kernel)) (goodIn_sub (fun _ h => List.mem_append_left _ (List.mem_append_left _ (List.mem_append_right _ h))) (by decide +kernel))) (goodIn_sub (fun _ h => List.mem_append_left _ (List.mem_append_right _ h)) (by decide +kernel))
set_option maxRecDepth 20000 in
theorem gL_law_L_pack : GoodIn wsL_law (va_wsS RL 81 yL_pack wsL_pack) := goodIn_app (goodIn_of _ (by decide +kernel)) ggL_law_L_pack
set_option maxRecDepth 20000 in
theorem ggL_law_X7_pack : GoodIn wsL_law wsX7_pack := goodIn_r _ [132, 133, 88, 134, 135, 5, 136, 137, 138, 139, 140, 141, 627, 628, 629, 630, 631, 632, 633, 634, 635, 636, 637, 638, 639, 640, 641, 642, 643, 644, 645, 646, 647, 648, 649, 650, 651] (by decide +kernel) (by decide +kernel)
set_option maxRecDepth 20000 in
theorem gL_law_X7_pack : GoodIn wsL_law (wsV RL 86 RX7 yX7_pack wsX7_pack) := goodIn_app (goodIn_of _ (by decide +kernel)) ggL_law_X7_pack
set_option maxRecDepth 20000 in
theorem ggL_law_X7_thrown : GoodIn wsL_law wsX7_thrown := goodIn_r _ [145, 141, 627, 628, 629, 630, 631, 632, 633, 634, 635, 636, 637, 638, 639, 640, 641, 642, 643, 644, 645, 646, 647, 648, 649, 650, 651] (by decide +kernel) (by decide +kernel)
set_option maxRecDepth 20000 in
theorem gL_law_X7_thrown : GoodIn wsL_law (wsV RL 87 RX7 yX7_thrown wsX7_thrown) := goodIn_app (goodIn_of _ (by decide +kernel)) ggL_law_X7_thrown
set_option maxRecDepth 20000 in
theorem ggL_law_L_need : GoodIn wsL_law wsL_need := goodIn_ca (goodIn_ca (goodIn_ca (goodIn_r _ [148, 149, 111, 112, 150, 151, 152, 2, 153, 117, 118, 119, 120, 16, 154, 155, 156, 157, 158, 159, 160, 161, 121, 122, 123, 124, 162, 163, 164, 15, 165, 40, 45, 41, 42, 43, 621, 622, 623, 624, 625, 626, 652, 653, 654, 655, 656, 657, 658, 659] (by decide +kernel) (by decide +kernel)) (goodIn_sub (fun _ h => List.mem_append_left _ (List.mem_append_left _ (List.mem_append_right _ h))) (by decide +kernel))) (goodIn_sub (fun _ h => List.mem_append_left _ (List.mem_append_right _ h)) (by decide +kernel))) (goodIn_sub (fun _ h => List.mem_append_right _ h) (by decide +kernel))
set_option maxRecDepth 20000 in
theorem gL_law_L_need : GoodIn wsL_law (va_wsS RL 91 yL_need wsL_need) := goodIn_app (goodIn_of _ (by decide +kernel)) ggL_law_L_need
set_option maxRecDepth 20000 in
theorem ggL_law_X7_need : GoodIn wsL_law wsX7_need := goodIn_r _ [169, 88, 170, 89, 90, 91, 92, 171, 172, 173, 5, 174, 133, 134, 135, 136, 137, 138, 139, 140, 141, 627, 628, 629, 630, 631, 632, 633, 634, 635, 636, 637, 638, 639, 640, 641, 642, 643, 644, 645, 646, 647, 648, 649, 650, 651] (by decide +kernel) (by decide +kernel)
set_option maxRecDepth 20000 in
theorem gL_law_X7_need : GoodIn wsL_law (wsV RL 94 RX7 yX7_need wsX7_need) := goodIn_app (goodIn_of _ (by decide +kernel)) ggL_law_X7_need
set_option maxRecDepth 20000 in
theorem ggL_law_L_trust : GoodIn wsL_law wsL_trust := goodIn_ca (goodIn_ca (goodIn_r _ [177, 149, 111, 178, 179, 180, 2, 181, 117, 118, 28, 182, 183, 184, 185, 186, 160, 161, 122, 123, 124, 621, 622, 623, 624, 625, 626, 676, 677] (by decide +kernel) (by decide +kernel)) (goodIn_sub (fun _ h => List.mem_append_left _ (List.mem_append_left _ (List.mem_append_right _ h))) (by decide +kernel))) (goodIn_sub (fun _ h => List.mem_append_right _ h) (by decide +kernel))
set_option maxRecDepth 20000 in
theorem gL_law_L_trust : GoodIn wsL_law (va_wsS RL 95 yL_trust wsL_trust) := goodIn_app (goodIn_of _ (by decide +kernel)) ggL_law_L_trust
set_option maxRecDepth 20000 in
theorem ggL_law_X7_trust : GoodIn wsL_law wsX7_trust := goodIn_r _ [190, 93, 191, 192, 5, 193, 134, 135, 136, 137, 138, 139, 140, 141, 627, 628, 629, 630, 631, 632, 633, 634, 635, 636, 637, 638, 639, 640, 641, 642, 643, 644, 645, 646, 647, 648, 649, 650, 651] (by decide +kernel) (by decide +kernel)
set_option maxRecDepth 20000 in
theorem gL_law_X7_trust : GoodIn wsL_law (wsV RL 98 RX7 yX7_trust wsX7_trust) := goodIn_app (goodIn_of _ (by decide +kernel)) ggL_law_X7_trust
set_option maxRecDepth 20000 in
theorem ggL_law_L_patience : GoodIn wsL_law wsL_patience := goodIn_ca (goodIn_r _ [196, 111, 197, 198, 199, 2, 200, 117, 118, 32, 201, 122, 123, 124, 621, 622, 623, 624, 625, 626, 678, 679, 680, 681] (by decide +kernel) (by decide +kernel)) (goodIn_sub (fun _ h => List.mem_append_left _ (List.mem_append_left _ (List.mem_append_right _ h))) (by decide +kernel))
set_option maxRecDepth 20000 in
theorem gL_law_L_patience : GoodIn wsL_law (va_wsS RL 99 yL_patience wsL_patience) := goodIn_app (goodIn_of _ (by decide +kernel)) ggL_law_L_patience
set_option maxRecDepth 20000 in
theorem ggL_law_X7_patience : GoodIn wsL_law wsX7_patience := goodIn_r _ [205, 94, 134, 135, 5, 136, 137, 138, 139, 140, 141, 627, 628, 629, 630, 631, 632, 633, 634, 635, 636, 637, 638, 639, 640, 641, 642, 643, 644, 645, 646, 647, 648, 649, 650, 651] (by decide +kernel) (by decide +kernel)
set_option maxRecDepth 20000 in
theorem gL_law_X7_patience : GoodIn wsL_law (wsV RL 101 RX7 yX7_patience wsX7_patience) := goodIn_app (goodIn_of _ (by decide +kernel)) ggL_law_X7_patience
set_option maxRecDepth 20000 in
theorem ggL_law_L_freeze : GoodIn wsL_law wsL_freeze := goodIn_ca (goodIn_ca (goodIn_r _ [208, 111, 112, 209, 210, 211, 2, 212, 117, 118, 119, 120, 20, 213, 122, 123, 124, 214, 215, 216, 19, 217, 49, 52, 50, 51, 621, 622, 623, 624, 625, 626, 660, 661, 662, 663] (by decide +kernel) (by decide +kernel)) (goodIn_sub (fun _ h => List.mem_append_left _ (List.mem_append_left _ (List.mem_append_right _ h))) (by decide +kernel))) (goodIn_sub (fun _ h => List.mem_append_left _ (List.mem_append_right _ h)) (by decide +kernel))
set_option maxRecDepth 20000 in
theorem gL_law_L_freeze : GoodIn wsL_law (va_wsS RL 102 yL_freeze wsL_freeze) := goodIn_app (goodIn_of _ (by decide +kernel)) ggL_law_L_freeze
set_option maxRecDepth 20000 in
theorem ggL_law_X7_freeze : GoodIn wsL_law wsX7_freeze := goodIn_r _ [221, 222, 95, 96, 97, 134, 135, 5, 136, 137, 138, 139, 140, 141, 627, 628, 629, 630, 631, 632, 633, 634, 635, 636, 637, 638, 639, 640, 641, 642, 643, 644, 645, 646, 647, 648, 649, 650, 651] (by decide +kernel) (by decide +kernel)
set_option maxRecDepth 20000 in
theorem gL_law_X7_freeze : GoodIn wsL_law (wsV RL 105 RX7 yX7_freeze wsX7_freeze) := goodIn_app (goodIn_of _ (by decide +kernel)) ggL_law_X7_freeze
set_option maxRecDepth 20000 in
theorem ggL_law_L_raise : GoodIn wsL_law wsL_raise := goodIn_ca (goodIn_ca (goodIn_ca (goodIn_r _ [225, 149, 111, 112, 226, 227, 228, 2, 229, 117, 118, 119, 120, 16, 154, 24, 230, 231, 33, 28, 156, 157, 158, 159, 160, 161, 121, 122, 123, 124, 232, 233, 234, 23, 235, 68, 57, 66, 236, 237, 238, 239, 67, 58, 59, 60, 61, 62, 64, 65, 240, 241, 242, 243, 244, 245, 246, 247, 248, 249, 250, 27, 251, 75, 252, 253, 254, 255, 256, 257, 258, 259, 260, 261, 262, 263, 264, 265, 266, 267, 268, 269, 270, 271, 74, 272, 273, 274, 275, 276, 277, 278, 279, 280, 281, 621, 622, 623, 624, 625, 626, 652, 653, 654, 655, 656, 657, 658, 659, 664, 665, 666, 667, 668, 669, 670, 671, 672, 673, 674, 675, 676, 677] (by decide +kernel) (by decide +kernel)) (goodIn_sub (fun _ h => List.mem_append_left _ (List.mem_append_left _ (List.mem_append_right _ h))) (by decide +kernel))) (goodIn_sub (fun _ h => List.mem_append_left _ (List.mem_append_right _ h)) (by decide +kernel))) (goodIn_sub (fun _ h => List.mem_append_right _ h) (by decide +kernel))
set_option maxRecDepth 20000 in
theorem gL_law_L_raise : GoodIn wsL_law (va_wsS RL 106 yL_raise wsL_raise) := goodIn_app (goodIn_of _ (by decide +kernel)) ggL_law_L_raise
set_option maxRecDepth 20000 in
theorem ggL_law_X7_raise : GoodIn wsL_law wsX7_raise := goodIn_r _ [285, 88, 286, 98, 99, 100, 101, 102, 287, 103, 104, 171, 172, 173, 5, 174, 133, 134, 135, 136, 288, 289, 290, 291, 137, 138, 139, 140, 141, 292, 293, 294, 295, 93, 105, 296, 297, 298, 299, 300, 301, 302, 303, 627, 628, 629, 630, 631, 632, 633, 634, 635, 636, 637, 638, 639, 640, 641, 642, 643, 644, 645, 646, 647, 648, 649, 650, 651] (by decide +kernel) (by decide +kernel)
set_option maxRecDepth 20000 in
theorem gL_law_X7_raise : GoodIn wsL_law (wsV RL 108 RX7 yX7_raise wsX7_raise) := goodIn_app (goodIn_of _ (by decide +kernel)) ggL_law_X7_raise
set_option maxRecDepth 20000 in
theorem ggL_law_L_approve : GoodIn wsL_law wsL_approve := goodIn_ca (goodIn_ca (goodIn_r _ [306, 149, 112, 307, 308, 309, 2, 310, 119, 120, 24, 311, 312, 313, 314, 315, 316, 317, 318, 319, 320, 321, 160, 161, 231, 122, 123, 124, 621, 622, 623, 624, 625, 626, 664, 665, 666, 667, 668, 669, 670, 671, 672, 673, 674, 675] (by decide +kernel) (by decide +kernel)) (goodIn_sub (fun _ h => List.mem_append_left _ (List.mem_append_right _ h)) (by decide +kernel))) (goodIn_sub (fun _ h => List.mem_append_right _ h) (by decide +kernel))
set_option maxRecDepth 20000 in
theorem gL_law_L_approve : GoodIn wsL_law (va_wsS RL 109 yL_approve wsL_approve) := goodIn_app (goodIn_of _ (by decide +kernel)) ggL_law_L_approve
set_option maxRecDepth 20000 in
theorem ggL_law_X7_approve : GoodIn wsL_law wsX7_approve := goodIn_r _ [325, 98, 104, 105, 326, 327, 328, 5, 329, 286, 134, 135, 136, 137, 138, 139, 140, 141, 627, 628, 629, 630, 631, 632, 633, 634, 635, 636, 637, 638, 639, 640, 641, 642, 643, 644, 645, 646, 647, 648, 649, 650, 651] (by decide +kernel) (by decide +kernel)
set_option maxRecDepth 20000 in
theorem gL_law_X7_approve : GoodIn wsL_law (wsV RL 111 RX7 yX7_approve wsX7_approve) := goodIn_app (goodIn_of _ (by decide +kernel)) ggL_law_X7_approve
set_option maxRecDepth 20000 in
theorem ggL_law_L_land : GoodIn wsL_law wsL_land := goodIn_ca (goodIn_ca (goodIn_r _ [332, 149, 112, 333, 334, 335, 2, 336, 119, 120, 24, 32, 313, 314, 315, 316, 317, 318, 319, 320, 321, 160, 161, 231, 122, 123, 124, 337, 338, 339, 23, 340, 68, 65, 66, 341, 342, 343, 344, 20, 33, 345, 346, 347, 348, 69, 349, 350, 351, 352, 353, 57, 58, 354, 355, 356, 15, 357, 44, 39, 38, 358, 255, 256, 257, 359, 360, 361, 362, 45, 363, 364, 365, 366, 41, 40, 42, 43, 367, 368, 369, 370, 64, 371, 372, 373, 374, 375, 376, 377, 19, 378, 52, 49, 50, 51, 379, 380, 381, 382, 383, 384, 385, 386, 387, 388, 389, 390, 391, 392, 393, 394, 61, 240, 241, 242, 243, 67, 395, 396, 397, 398, 31, 399, 82, 400, 401, 402, 83, 403, 404, 405, 406, 407, 408, 249, 250, 27, 251, 75, 252, 253, 254, 258, 259, 260, 261, 262, 263, 264, 265, 266, 267, 268, 269, 270, 271, 74, 272, 273, 274, 275, 276, 277, 278, 279, 280, 281, 621, 622, 623, 624, 625, 626, 664, 665, 666, 667, 668, 669, 670, 671, 672, 673, 674, 675, 652, 653, 654, 655, 656, 657, 658, 659, 660, 661, 662, 663, 678, 679, 680, 681, 676, 677] (by decide +kernel) (by decide +kernel)) (goodIn_sub (fun _ h => List.mem_append_left _ (List.mem_append_right _ h)) (by decide +kernel))) (goodIn_sub (fun _ h => List.mem_append_right _ h) (by decide +kernel))
set_option maxRecDepth 20000 in
theorem gL_law_L_land : GoodIn wsL_law (va_wsS RL 112 yL_land wsL_land) := goodIn_app (goodIn_of _ (by decide +kernel)) ggL_law_L_land
set_option maxRecDepth 20000 in
theorem ggL_law_X7_land : GoodIn wsL_law wsX7_land := goodIn_r _ [412, 98, 103, 286, 88, 99, 100, 105, 326, 327, 328, 5, 329, 134, 135, 136, 413, 414, 415, 416, 222, 287, 96, 97, 95, 417, 418, 419, 420, 106, 421, 422, 423, 424, 133, 425, 426, 427, 428, 170, 90, 89, 91, 92, 137, 138, 139, 140, 141, 429, 430, 431, 432, 292, 293, 294, 295, 104, 93, 101, 296, 297, 298, 299, 300, 301, 302, 303, 627, 628, 629, 630, 631, 632, 633, 634, 635, 636, 637, 638, 639, 640, 641, 642, 643, 644, 645, 646, 647, 648, 649, 650, 651] (by decide +kernel) (by decide +kernel)
set_option maxRecDepth 20000 in
theorem gL_law_X7_land : GoodIn wsL_law (wsV RL 115 RX7 yX7_land wsX7_land) := goodIn_app (goodIn_of _ (by decide +kernel)) ggL_law_X7_land
set_option maxRecDepth 20000 in
theorem ggL_law_L_close : GoodIn wsL_law wsL_close := goodIn_ca (goodIn_ca (goodIn_r _ [435, 149, 112, 436, 437, 438, 2, 439, 32, 313, 314, 315, 316, 119, 120, 24, 317, 318, 319, 320, 321, 160, 161, 231, 122, 123, 124, 440, 441, 442, 31, 443, 82, 83, 444, 445, 446, 447, 400, 402, 448, 449, 338, 339, 23, 340, 68, 65, 66, 450, 245, 246, 247, 404, 405, 406, 407, 358, 255, 256, 257, 451, 392, 393, 394, 61, 240, 241, 242, 243, 67, 408, 249, 250, 27, 251, 75, 252, 253, 254, 258, 259, 260, 261, 262, 263, 264, 265, 266, 267, 268, 269, 270, 271, 74, 272, 273, 274, 275, 276, 277, 278, 279, 280, 281, 621, 622, 623, 624, 625, 626, 664, 665, 666, 667, 668, 669, 670, 671, 672, 673, 674, 675, 678, 679, 680, 681, 676, 677] (by decide +kernel) (by decide +kernel)) (goodIn_sub (fun _ h => List.mem_append_left _ (List.mem_append_right _ h)) (by decide +kernel))) (goodIn_sub (fun _ h => List.mem_append_right _ h) (by decide +kernel))
set_option maxRecDepth 20000 in
theorem gL_law_L_close : GoodIn wsL_law (va_wsS RL 116 yL_close wsL_close) := goodIn_app (goodIn_of _ (by decide +kernel)) ggL_law_L_close
set_option maxRecDepth 20000 in
theorem ggL_law_X7_close : GoodIn wsL_law wsX7_close := goodIn_r _ [455, 98, 103, 326, 327, 328, 5, 329, 286, 134, 135, 136, 137, 138, 139, 140, 141, 456, 457, 458, 459, 292, 293, 294, 295, 104, 93, 101, 105, 296, 297, 298, 299, 300, 301, 302, 303, 627, 628, 629, 630, 631, 632, 633, 634, 635, 636, 637, 638, 639, 640, 641, 642, 643, 644, 645, 646, 647, 648, 649, 650, 651] (by decide +kernel) (by decide +kernel)
set_option maxRecDepth 20000 in
theorem gL_law_X7_close : GoodIn wsL_law (wsV RL 119 RX7 yX7_close wsX7_close) := goodIn_app (goodIn_of _ (by decide +kernel)) ggL_law_X7_close
set_option maxRecDepth 20000 in
theorem ggL_law_L_pass : GoodIn wsL_law wsL_pass := goodIn_ca (goodIn_ca (goodIn_r _ [462, 111, 112, 463, 464, 465, 2, 466, 117, 118, 119, 120, 33, 32, 122, 123, 124, 467, 468, 469, 31, 470, 82, 471, 80, 448, 472, 473, 474, 475, 476, 81, 449, 338, 339, 23, 340, 68, 65, 66, 477, 346, 347, 348, 69, 349, 350, 351, 352, 353, 57, 58, 354, 355, 356, 15, 357, 44, 39, 38, 358, 255, 256, 257, 359, 360, 361, 362, 45, 363, 364, 365, 366, 41, 40, 42, 43, 478, 479, 480, 481, 482, 483, 484, 485, 83, 404, 405, 406, 407, 408, 249, 250, 27, 251, 75, 252, 253, 254, 258, 259, 260, 261, 262, 263, 264, 265, 266, 267, 268, 269, 270, 271, 74, 272, 273, 274, 275, 276, 277, 278, 279, 280, 281, 621, 622, 623, 624, 625, 626, 678, 679, 680, 681, 664, 665, 666, 667, 668, 669, 670, 671, 672, 673, 674, 675, 652, 653, 654, 655, 656, 657, 658, 659, 676, 677] (by decide +kernel) (by decide +kernel)) (goodIn_sub (fun _ h => List.mem_append_left _ (List.mem_append_left _ (List.mem_append_right _ h))) (by decide +kernel))) (goodIn_sub (fun _ h => List.mem_append_left _ (List.mem_append_right _ h)) (by decide +kernel))
set_option maxRecDepth 20000 in
theorem gL_law_L_pass : GoodIn wsL_law (va_wsS RL 120 yL_pass wsL_pass) := goodIn_app (goodIn_of _ (by decide +kernel)) ggL_law_L_pass
set_option maxRecDepth 20000 in
theorem ggL_law_X7_pass : GoodIn wsL_law wsX7_pass := goodIn_r _ [489, 287, 286, 98, 103, 134, 135, 5, 136, 137, 138, 139, 140, 141, 490, 491, 492, 493, 94, 417, 418, 419, 420, 106, 99, 100, 421, 422, 423, 424, 133, 88, 425, 426, 427, 428, 170, 90, 89, 91, 92, 494, 495, 496, 497, 102, 292, 293, 294, 295, 104, 93, 101, 105, 296, 297, 298, 299, 300, 301, 302, 303, 627, 628, 629, 630, 631, 632, 633, 634, 635, 636, 637, 638, 639, 640, 641, 642, 643, 644, 645, 646, 647, 648, 649, 650, 651] (by decide +kernel) (by decide +kernel)
set_option maxRecDepth 20000 in
theorem gL_law_X7_pass : GoodIn wsL_law (wsV RL 122 RX7 yX7_pass wsX7_pass) := goodIn_app (goodIn_of _ (by decide +kernel)) ggL_law_X7_pass
set_option maxRecDepth 20000 in
theorem ggL_law_X6_day : GoodIn wsL_law wsX6_day := goodIn_r _ [501, 33, 621, 622, 623, 624, 625, 626] (by decide +kernel) (by decide +kernel)
set_option maxRecDepth 20000 in
theorem gL_law_X6_day : GoodIn wsL_law (wsV RL 123 RX6 yX6_day wsX6_day) := goodIn_app (goodIn_of _ (by decide +kernel)) ggL_law_X6_day
set_option maxRecDepth 20000 in
theorem ggL_law_X7_day : GoodIn wsL_law wsX7_day := goodIn_r _ [505, 141, 287, 627, 628, 629, 630, 631, 632, 633, 634, 635, 636, 637, 638, 639, 640, 641, 642, 643, 644, 645, 646, 647, 648, 649, 650, 651] (by decide +kernel) (by decide +kernel)
set_option maxRecDepth 20000 in
theorem gL_law_X7_day : GoodIn wsL_law (wsV RL 126 RX7 yX7_day wsX7_day) := goodIn_app (goodIn_of _ (by decide +kernel)) ggL_law_X7_day
set_option maxRecDepth 20000 in
theorem ggL_law_L_version : GoodIn wsL_law wsL_version := goodIn_ca (goodIn_r _ [508, 149, 509, 510, 511, 2, 512, 16, 154, 156, 157, 158, 159, 160, 161, 121, 122, 123, 124, 621, 622, 623, 624, 625, 626, 652, 653, 654, 655, 656, 657, 658, 659] (by decide +kernel) (by decide +kernel)) (goodIn_sub (fun _ h => List.mem_append_right _ h) (by decide +kernel))
set_option maxRecDepth 20000 in
theorem gL_law_L_version : GoodIn wsL_law (va_wsS RL 127 yL_version wsL_version) := goodIn_app (goodIn_of _ (by decide +kernel)) ggL_law_L_version
set_option maxRecDepth 20000 in
theorem ggL_law_X7_version : GoodIn wsL_law wsX7_version := goodIn_r _ [516, 88, 171, 172, 173, 5, 174, 133, 134, 135, 136, 137, 138, 139, 140, 141, 627, 628, 629, 630, 631, 632, 633, 634, 635, 636, 637, 638, 639, 640, 641, 642, 643, 644, 645, 646, 647, 648, 649, 650, 651] (by decide +kernel) (by decide +kernel)
set_option maxRecDepth 20000 in
theorem gL_law_X7_version : GoodIn wsL_law (wsV RL 129 RX7 yX7_version wsX7_version) := goodIn_app (goodIn_of _ (by decide +kernel)) ggL_law_X7_version
set_option maxRecDepth 20000 in
theorem ggL_law_L_raiseOf : GoodIn wsL_law wsL_raiseOf := goodIn_ca (goodIn_ca (goodIn_r _ [519, 149, 111, 520, 521, 522, 2, 523, 117, 118, 24, 317, 524, 525, 311, 312, 526, 318, 319, 320, 321, 160, 161, 231, 122, 123, 124, 337, 338, 339, 23, 340, 68, 65, 66, 379, 380, 381, 382, 383, 384, 385, 621, 622, 623, 624, 625, 626, 664, 665, 666, 667, 668, 669, 670, 671, 672, 673, 674, 675] (by decide +kernel) (by decide +kernel)) (goodIn_sub (fun _ h => List.mem_append_left _ (List.mem_append_left _ (List.mem_append_right _ h))) (by decide +kernel))) (goodIn_sub (fun _ h => List.mem_append_right _ h) (by decide +kernel))
set_option maxRecDepth 20000 in
theorem gL_law_L_raiseOf : GoodIn wsL_law (va_wsS RL 130 yL_raiseOf wsL_raiseOf) := goodIn_app (goodIn_of _ (by decide +kernel)) ggL_law_L_raiseOf
set_option maxRecDepth 20000 in
theorem ggL_law_X7_raiseOf : GoodIn wsL_law wsX7_raiseOf := goodIn_r _ [530, 98, 99, 100, 104, 105, 103, 326, 327, 328, 5, 329, 286, 134, 135, 136, 137, 138, 139, 140, 141, 429, 430, 431, 432, 627, 628, 629, 630, 631, 632, 633, 634, 635, 636, 637, 638, 639, 640, 641, 642, 643, 644, 645, 646, 647, 648, 649, 650, 651] (by decide +kernel) (by decide +kernel)
set_option maxRecDepth 20000 in
theorem gL_law_X7_raiseOf : GoodIn wsL_law (wsV RL 132 RX7 yX7_raiseOf wsX7_raiseOf) := goodIn_app (goodIn_of _ (by decide +kernel)) ggL_law_X7_raiseOf
set_option maxRecDepth 20000 in
theorem ggL_law_L_fails : GoodIn wsL_law wsL_fails := goodIn_ca (goodIn_ca (goodIn_r _ [533, 149, 112, 534, 535, 536, 2, 537, 24, 313, 314, 315, 316, 119, 120, 317, 318, 319, 320, 321, 160, 161, 231, 122, 123, 124, 337, 338, 339, 23, 340, 68, 65, 66, 345, 346, 347, 348, 69, 349, 350, 351, 352, 353, 57, 58, 354, 355, 356, 15, 357, 44, 39, 38, 358, 255, 256, 257, 359, 360, 361, 362, 45, 363, 364, 365, 366, 41, 40, 42, 43, 621, 622, 623, 624, 625, 626, 664, 665, 666, 667, 668, 669, 670, 671, 672, 673, 674, 675, 652, 653, 654, 655, 656, 657, 658, 659] (by decide +kernel) (by decide +kernel)) (goodIn_sub (fun _ h => List.mem_append_left _ (List.mem_append_right _ h)) (by decide +kernel))) (goodIn_sub (fun _ h => List.mem_append_right _ h) (by decide +kernel))
set_option maxRecDepth 20000 in
theorem gL_law_L_fails : GoodIn wsL_law (va_wsS RL 133 yL_fails wsL_fails) := goodIn_app (goodIn_of _ (by decide +kernel)) ggL_law_L_fails
set_option maxRecDepth 20000 in
theorem ggL_law_X7_fails : GoodIn wsL_law wsX7_fails := goodIn_r _ [541, 98, 103, 326, 327, 328, 5, 329, 286, 134, 135, 136, 137, 138, 139, 140, 141, 417, 418, 419, 420, 106, 99, 100, 421, 422, 423, 424, 133, 88, 425, 426, 427, 428, 170, 90, 89, 91, 92, 627, 628, 629, 630, 631, 632, 633, 634, 635, 636, 637, 638, 639, 640, 641, 642, 643, 644, 645, 646, 647, 648, 649, 650, 651] (by decide +kernel) (by decide +kernel)
set_option maxRecDepth 20000 in
theorem gL_law_X7_fails : GoodIn wsL_law (wsV RL 135 RX7 yX7_fails wsX7_fails) := goodIn_app (goodIn_of _ (by decide +kernel)) ggL_law_X7_fails
set_option maxRecDepth 20000 in
theorem ggL_law_L_canLand : GoodIn wsL_law wsL_canLand := goodIn_ca (goodIn_ca (goodIn_r _ [544, 149, 112, 545, 546, 547, 2, 548, 24, 313, 314, 315, 316, 119, 120, 317, 318, 319, 320, 321, 160, 161, 231, 122, 123, 124, 337, 338, 339, 23, 340, 68, 65, 66, 341, 342, 343, 344, 20, 33, 345, 346, 347, 348, 69, 349, 350, 351, 352, 353, 57, 58, 354, 355, 356, 15, 357, 44, 39, 38, 358, 255, 256, 257, 359, 360, 361, 362, 45, 363, 364, 365, 366, 41, 40, 42, 43, 367, 368, 369, 370, 64, 371, 372, 373, 374, 375, 376, 377, 19, 378, 52, 49, 50, 51, 621, 622, 623, 624, 625, 626, 664, 665, 666, 667, 668, 669, 670, 671, 672, 673, 674, 675, 652, 653, 654, 655, 656, 657, 658, 659, 660, 661, 662, 663] (by decide +kernel) (by decide +kernel)) (goodIn_sub (fun _ h => List.mem_append_left _ (List.mem_append_right _ h)) (by decide +kernel))) (goodIn_sub (fun _ h => List.mem_append_right _ h) (by decide +kernel))
set_option maxRecDepth 20000 in
theorem gL_law_L_canLand : GoodIn wsL_law (va_wsS RL 136 yL_canLand wsL_canLand) := goodIn_app (goodIn_of _ (by decide +kernel)) ggL_law_L_canLand
set_option maxRecDepth 20000 in
theorem ggL_law_X7_canLand : GoodIn wsL_law wsX7_canLand := goodIn_r _ [552, 98, 103, 326, 327, 328, 5, 329, 286, 134, 135, 136, 137, 138, 139, 140, 141, 413, 414, 415, 416, 105, 222, 287, 96, 97, 95, 99, 417, 418, 419, 420, 106, 100, 421, 422, 423, 424, 133, 88, 425, 426, 427, 428, 170, 90, 89, 91, 92, 627, 628, 629, 630, 631, 632, 633, 634, 635, 636, 637, 638, 639, 640, 641, 642, 643, 644, 645, 646, 647, 648, 649, 650, 651] (by decide +kernel) (by decide +kernel)
set_option maxRecDepth 20000 in
theorem gL_law_X7_canLand : GoodIn wsL_law (wsV RL 138 RX7 yX7_canLand wsX7_canLand) := goodIn_app (goodIn_of _ (by decide +kernel)) ggL_law_X7_canLand
set_option maxRecDepth 20000 in
theorem ggL_law_L_load : GoodIn wsL_law wsL_load := goodIn_ca (goodIn_r _ [555, 149, 556, 557, 558, 2, 559, 28, 183, 184, 185, 186, 160, 161, 122, 123, 124, 560, 274, 275, 27, 276, 75, 252, 253, 262, 621, 622, 623, 624, 625, 626, 676, 677, 664, 665, 666, 667, 668, 669, 670, 671, 672, 673, 674, 675] (by decide +kernel) (by decide +kernel)) (goodIn_sub (fun _ h => List.mem_append_right _ h) (by decide +kernel))
set_option maxRecDepth 20000 in
theorem gL_law_L_load : GoodIn wsL_law (va_wsS RL 139 yL_load wsL_load) := goodIn_app (goodIn_of _ (by decide +kernel)) ggL_law_L_load
set_option maxRecDepth 20000 in
theorem ggL_law_X7_load : GoodIn wsL_law wsX7_load := goodIn_r _ [564, 191, 192, 5, 193, 134, 135, 136, 137, 138, 139, 140, 141, 300, 301, 302, 303, 286, 98, 104, 627, 628, 629, 630, 631, 632, 633, 634, 635, 636, 637, 638, 639, 640, 641, 642, 643, 644, 645, 646, 647, 648, 649, 650, 651] (by decide +kernel) (by decide +kernel)
set_option maxRecDepth 20000 in
theorem gL_law_X7_load : GoodIn wsL_law (wsV RL 141 RX7 yX7_load wsX7_load) := goodIn_app (goodIn_of _ (by decide +kernel)) ggL_law_X7_load
set_option maxRecDepth 20000 in
theorem ggL_law_L_fewest : GoodIn wsL_law wsL_fewest := goodIn_ca (goodIn_ca (goodIn_r _ [567, 149, 112, 568, 569, 570, 2, 571, 24, 313, 314, 315, 316, 119, 120, 317, 318, 319, 320, 321, 160, 161, 231, 122, 123, 124, 244, 245, 246, 23, 247, 68, 66, 572, 573, 574, 575, 576, 577, 578, 579, 580, 581, 582, 69, 349, 350, 351, 352, 353, 57, 58, 354, 355, 356, 15, 357, 44, 39, 38, 358, 255, 256, 257, 583, 584, 585, 586, 45, 363, 364, 365, 366, 41, 40, 42, 43, 587, 233, 234, 235, 621, 622, 623, 624, 625, 626, 664, 665, 666, 667, 668, 669, 670, 671, 672, 673, 674, 675, 652, 653, 654, 655, 656, 657, 658, 659] (by decide +kernel) (by decide +kernel)) (goodIn_sub (fun _ h => List.mem_append_left _ (List.mem_append_right _ h)) (by decide +kernel))) (goodIn_sub (fun _ h => List.mem_append_right _ h) (by decide +kernel))
set_option maxRecDepth 20000 in
theorem gL_law_L_fewest : GoodIn wsL_law (va_wsS RL 142 yL_fewest wsL_fewest) := goodIn_app (goodIn_of _ (by decide +kernel)) ggL_law_L_fewest
set_option maxRecDepth 20000 in
theorem ggL_law_X7_fewest : GoodIn wsL_law wsX7_fewest := goodIn_r _ [591, 98, 286, 106, 99, 100, 326, 327, 328, 5, 329, 134, 135, 136, 137, 138, 139, 140, 141, 288, 289, 290, 291, 421, 422, 423, 424, 133, 88, 425, 426, 427, 428, 170, 90, 89, 91, 92, 627, 628, 629, 630, 631, 632, 633, 634, 635, 636, 637, 638, 639, 640, 641, 642, 643, 644, 645, 646, 647, 648, 649, 650, 651] (by decide +kernel) (by decide +kernel)
set_option maxRecDepth 20000 in
theorem gL_law_X7_fewest : GoodIn wsL_law (wsV RL 144 RX7 yX7_fewest wsX7_fewest) := goodIn_app (goodIn_of _ (by decide +kernel)) ggL_law_X7_fewest
set_option maxRecDepth 20000 in
theorem ggL_law_L_fewestAnew : GoodIn wsL_law wsL_fewestAnew := goodIn_ca (goodIn_ca (goodIn_r _ [594, 149, 112, 595, 596, 597, 2, 598, 24, 313, 314, 315, 316, 119, 120, 317, 318, 319, 320, 321, 160, 161, 231, 122, 123, 124, 244, 245, 246, 23, 247, 68, 66, 599, 600, 574, 601, 602, 603, 380, 381, 382, 383, 384, 385, 604, 346, 347, 348, 69, 349, 350, 351, 352, 353, 57, 58, 354, 355, 356, 15, 357, 44, 39, 38, 358, 255, 256, 257, 359, 360, 361, 362, 45, 363, 364, 365, 366, 41, 40, 42, 43, 621, 622, 623, 624, 625, 626, 664, 665, 666, 667, 668, 669, 670, 671, 672, 673, 674, 675, 652, 653, 654, 655, 656, 657, 658, 659] (by decide +kernel) (by decide +kernel)) (goodIn_sub (fun _ h => List.mem_append_left _ (List.mem_append_right _ h)) (by decide +kernel))) (goodIn_sub (fun _ h => List.mem_append_right _ h) (by decide +kernel))
set_option maxRecDepth 20000 in
theorem gL_law_L_fewestAnew : GoodIn wsL_law (va_wsS RL 145 yL_fewestAnew wsL_fewestAnew) := goodIn_app (goodIn_of _ (by decide +kernel)) ggL_law_L_fewestAnew
set_option maxRecDepth 20000 in
theorem ggL_law_X7_fewestAnew : GoodIn wsL_law wsX7_fewestAnew := goodIn_r _ [608, 609, 589, 590, 5, 591, 98, 286, 106, 99, 100, 326, 327, 328, 329, 134, 135, 136, 137, 138, 139, 140, 141, 288, 289, 290, 291, 421, 422, 423, 424, 133, 88, 425, 426, 427, 428, 170, 90, 89, 91, 92, 627, 628, 629, 630, 631, 632, 633, 634, 635, 636, 637, 638, 639, 640, 641, 642, 643, 644, 645, 646, 647, 648, 649, 650, 651] (by decide +kernel) (by decide +kernel)
set_option maxRecDepth 20000 in
theorem gL_law_X7_fewestAnew : GoodIn wsL_law (wsV RL 147 RX7 yX7_fewestAnew wsX7_fewestAnew) := goodIn_app (goodIn_of _ (by decide +kernel)) ggL_law_X7_fewestAnew
set_option maxRecDepth 20000 in
theorem ggL_law_L_told : GoodIn wsL_law wsL_told := goodIn_ca (goodIn_ca (goodIn_r _ [612, 149, 112, 613, 614, 615, 2, 616, 160, 161, 24, 524, 525, 313, 314, 315, 316, 119, 120, 317, 318, 319, 320, 321, 231, 122, 123, 124, 337, 338, 339, 23, 340, 68, 65, 66, 379, 380, 381, 382, 383, 384, 385, 621, 622, 623, 624, 625, 626, 664, 665, 666, 667, 668, 669, 670, 671, 672, 673, 674, 675] (by decide +kernel) (by decide +kernel)) (goodIn_sub (fun _ h => List.mem_append_right _ h) (by decide +kernel))) (goodIn_sub (fun _ h => List.mem_append_left _ (List.mem_append_right _ h)) (by decide +kernel))
set_option maxRecDepth 20000 in
theorem gL_law_L_told : GoodIn wsL_law (va_wsS RL 148 yL_told wsL_told) := goodIn_app (goodIn_of _ (by decide +kernel)) ggL_law_L_told
set_option maxRecDepth 20000 in
theorem ggL_law_X7_told : GoodIn wsL_law wsX7_told := goodIn_r _ [620, 98, 99, 100, 103, 326, 327, 328, 5, 329, 286, 134, 135, 136, 137, 138, 139, 140, 141, 429, 430, 431, 432, 627, 628, 629, 630, 631, 632, 633, 634, 635, 636, 637, 638, 639, 640, 641, 642, 643, 644, 645, 646, 647, 648, 649, 650, 651] (by decide +kernel) (by decide +kernel)
set_option maxRecDepth 20000 in
theorem gL_law_X7_told : GoodIn wsL_law (wsV RL 150 RX7 yX7_told wsX7_told) := goodIn_app (goodIn_of _ (by decide +kernel)) ggL_law_X7_told
