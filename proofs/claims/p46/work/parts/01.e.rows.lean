set_option maxRecDepth 20000 in
theorem gL_law_L_some : GoodIn wsL_law (va_wsS RL 155 yL_some wsL_some) := goodIn_app (goodIn_of _ (by decide +kernel)) ggL_law_L_some
set_option maxRecDepth 20000 in
theorem ggL_law_L_seat : GoodIn wsL_law wsL_seat := goodIn_ca (goodIn_ca (goodIn_r _ [157, 158, 159, 20, 5, 160, 161, 162, 2, 163, 164, 165, 166, 167, 66, 30, 34, 168, 169, 170, 29, 171, 74, 172, 173, 174, 175, 76, 176, 177, 178, 33, 179, 87, 180, 181, 182, 183, 184, 9, 10, 11, 185, 13, 14, 84, 86, 791, 792, 793, 794, 795, 796, 797, 798, 799, 800, 801, 802, 803, 804, 805, 806, 807, 808, 809, 810, 811, 812, 813, 814, 815, 816, 817] (by decide +kernel) (by decide +kernel)) (goodIn_sub (fun _ h => List.mem_append_left _ (List.mem_append_left _ (List.mem_append_left _ (List.mem_append_right _ h)))) (by decide +kernel))) (goodIn_sub (fun _ h => List.mem_append_left _ (List.mem_append_left _ (List.mem_append_right _ h))) (by decide +kernel))
set_option maxRecDepth 20000 in
theorem gL_law_L_seat : GoodIn wsL_law (va_wsS RL 159 yL_seat wsL_seat) := goodIn_app (goodIn_of _ (by decide +kernel)) ggL_law_L_seat
set_option maxRecDepth 20000 in
theorem ggL_law_L_setRate : GoodIn wsL_law wsL_setRate := goodIn_ca (goodIn_r _ [188, 158, 20, 189, 190, 191, 2, 192, 164, 165, 50, 193, 194, 195, 49, 196, 116, 791, 792, 793, 794, 795, 796, 797, 798, 799, 800, 801, 802, 803, 804, 805, 806, 807, 833, 834] (by decide +kernel) (by decide +kernel)) (goodIn_sub (fun _ h => List.mem_append_left _ (List.mem_append_left _ (List.mem_append_left _ (List.mem_append_right _ h)))) (by decide +kernel))
set_option maxRecDepth 20000 in
theorem gL_law_L_setRate : GoodIn wsL_law (va_wsS RL 161 yL_setRate wsL_setRate) := goodIn_app (goodIn_of _ (by decide +kernel)) ggL_law_L_setRate
set_option maxRecDepth 20000 in
theorem ggL_law_L_equity : GoodIn wsL_law wsL_equity := goodIn_ca (goodIn_r _ [199, 158, 200, 201, 202, 203, 2, 204, 164, 165, 50, 205, 206, 207, 49, 208, 115, 116, 209, 210, 211, 212, 213, 214, 791, 792, 793, 794, 795, 796, 797, 798, 799, 800, 801, 802, 803, 804, 805, 806, 807, 833, 834] (by decide +kernel) (by decide +kernel)) (goodIn_sub (fun _ h => List.mem_append_left _ (List.mem_append_left _ (List.mem_append_left _ (List.mem_append_right _ h)))) (by decide +kernel))
set_option maxRecDepth 20000 in
theorem gL_law_L_equity : GoodIn wsL_law (va_wsS RL 163 yL_equity wsL_equity) := goodIn_app (goodIn_of _ (by decide +kernel)) ggL_law_L_equity
set_option maxRecDepth 20000 in
theorem ggL_law_L_start : GoodIn wsL_law wsL_start := goodIn_ca (goodIn_ca (goodIn_r _ [217, 158, 159, 20, 5, 218, 219, 220, 2, 221, 164, 165, 166, 167, 66, 34, 30, 222, 223, 224, 225, 226, 227, 228, 229, 230, 231, 176, 177, 178, 33, 179, 87, 232, 233, 234, 29, 235, 74, 75, 76, 77, 78, 79, 80, 791, 792, 793, 794, 795, 796, 797, 798, 799, 800, 801, 802, 803, 804, 805, 806, 807, 815, 816, 817, 808, 809, 810, 811, 812, 813, 814] (by decide +kernel) (by decide +kernel)) (goodIn_sub (fun _ h => List.mem_append_left _ (List.mem_append_left _ (List.mem_append_left _ (List.mem_append_right _ h)))) (by decide +kernel))) (goodIn_sub (fun _ h => List.mem_append_left _ (List.mem_append_left _ (List.mem_append_right _ h))) (by decide +kernel))
set_option maxRecDepth 20000 in
theorem gL_law_L_start : GoodIn wsL_law (va_wsS RL 170 yL_start wsL_start) := goodIn_app (goodIn_of _ (by decide +kernel)) ggL_law_L_start
set_option maxRecDepth 20000 in
theorem ggL_law_X9_state : GoodIn wsL_law wsX9_state := goodIn_r _ [239, 66, 791, 792, 793, 794, 795, 796, 797, 798, 799, 800, 801, 802, 803, 804, 805, 806, 807] (by decide +kernel) (by decide +kernel)
set_option maxRecDepth 20000 in
theorem gL_law_X9_state : GoodIn wsL_law (wsV RL 173 RX9 yX9_state wsX9_state) := goodIn_app (goodIn_of _ (by decide +kernel)) ggL_law_X9_state
set_option maxRecDepth 20000 in
theorem ggL_law_L_begin : GoodIn wsL_law wsL_begin := goodIn_ca (goodIn_ca (goodIn_r _ [242, 158, 159, 20, 5, 243, 244, 245, 2, 246, 166, 167, 66, 30, 63, 64, 38, 68, 69, 67, 247, 248, 249, 164, 165, 168, 169, 170, 29, 171, 74, 250, 251, 252, 253, 76, 79, 80, 254, 9, 10, 11, 255, 256, 257, 258, 75, 222, 223, 224, 225, 226, 227, 228, 259, 260, 261, 62, 262, 147, 263, 264, 126, 265, 266, 267, 268, 269, 270, 271, 272, 273, 274, 275, 276, 37, 277, 94, 95, 96, 278, 279, 280, 281, 78, 791, 792, 793, 794, 795, 796, 797, 798, 799, 800, 801, 802, 803, 804, 805, 806, 807, 808, 809, 810, 811, 812, 813, 814, 846, 818, 819, 820, 821, 822, 823] (by decide +kernel) (by decide +kernel)) (goodIn_sub (fun _ h => List.mem_append_left _ (List.mem_append_left _ (List.mem_append_right _ h))) (by decide +kernel))) (goodIn_sub (fun _ h => List.mem_append_left _ (List.mem_append_left _ (List.mem_append_left _ (List.mem_append_right _ h)))) (by decide +kernel))
set_option maxRecDepth 20000 in
theorem gL_law_L_begin : GoodIn wsL_law (va_wsS RL 177 yL_begin wsL_begin) := goodIn_app (goodIn_of _ (by decide +kernel)) ggL_law_L_begin
set_option maxRecDepth 20000 in
theorem ggL_law_X9_cube : GoodIn wsL_law wsX9_cube := goodIn_r _ [285, 68, 791, 792, 793, 794, 795, 796, 797, 798, 799, 800, 801, 802, 803, 804, 805, 806, 807] (by decide +kernel) (by decide +kernel)
set_option maxRecDepth 20000 in
theorem gL_law_X9_cube : GoodIn wsL_law (wsV RL 179 RX9 yX9_cube wsX9_cube) := goodIn_app (goodIn_of _ (by decide +kernel)) ggL_law_X9_cube
set_option maxRecDepth 20000 in
theorem ggL_law_X9_owner : GoodIn wsL_law wsX9_owner := goodIn_r _ [289, 69, 791, 792, 793, 794, 795, 796, 797, 798, 799, 800, 801, 802, 803, 804, 805, 806, 807] (by decide +kernel) (by decide +kernel)
set_option maxRecDepth 20000 in
theorem gL_law_X9_owner : GoodIn wsL_law (wsV RL 182 RX9 yX9_owner wsX9_owner) := goodIn_app (goodIn_of _ (by decide +kernel)) ggL_law_X9_owner
set_option maxRecDepth 20000 in
theorem ggL_law_X9_played : GoodIn wsL_law wsX9_played := goodIn_r _ [293, 38, 294, 295, 296, 37, 297, 94, 791, 792, 793, 794, 795, 796, 797, 798, 799, 800, 801, 802, 803, 804, 805, 806, 807, 818, 819, 820, 821, 822, 823] (by decide +kernel) (by decide +kernel)
set_option maxRecDepth 20000 in
theorem gL_law_X9_played : GoodIn wsL_law (wsV RL 185 RX9 yX9_played wsX9_played) := goodIn_app (goodIn_of _ (by decide +kernel)) ggL_law_X9_played
set_option maxRecDepth 20000 in
theorem ggL_law_L_turn : GoodIn wsL_law wsL_turn := goodIn_ca (goodIn_r _ [300, 159, 5, 301, 302, 303, 2, 304, 166, 167, 66, 67, 791, 792, 793, 794, 795, 796, 797, 798, 799, 800, 801, 802, 803, 804, 805, 806, 807] (by decide +kernel) (by decide +kernel)) (goodIn_sub (fun _ h => List.mem_append_left _ (List.mem_append_left _ (List.mem_append_right _ h))) (by decide +kernel))
set_option maxRecDepth 20000 in
theorem gL_law_L_turn : GoodIn wsL_law (va_wsS RL 188 yL_turn wsL_turn) := goodIn_app (goodIn_of _ (by decide +kernel)) ggL_law_L_turn
set_option maxRecDepth 20000 in
theorem ggL_law_L_offer : GoodIn wsL_law wsL_offer := goodIn_ca (goodIn_ca (goodIn_r _ [307, 159, 308, 5, 6, 309, 310, 311, 2, 312, 313, 314, 68, 69, 67, 30, 66, 315, 316, 317, 318, 166, 167, 278, 279, 280, 29, 281, 78, 791, 792, 793, 794, 795, 796, 797, 798, 799, 800, 801, 802, 803, 804, 805, 806, 807, 808, 809, 810, 811, 812, 813, 814] (by decide +kernel) (by decide +kernel)) (goodIn_sub (fun _ h => List.mem_append_left _ (List.mem_append_right _ h)) (by decide +kernel))) (goodIn_sub (fun _ h => List.mem_append_left _ (List.mem_append_left _ (List.mem_append_right _ h))) (by decide +kernel))
set_option maxRecDepth 20000 in
theorem gL_law_L_offer : GoodIn wsL_law (va_wsS RL 191 yL_offer wsL_offer) := goodIn_app (goodIn_of _ (by decide +kernel)) ggL_law_L_offer
set_option maxRecDepth 20000 in
theorem ggL_law_L_drop : GoodIn wsL_law wsL_drop := goodIn_ca (goodIn_r _ [321, 159, 5, 322, 323, 324, 2, 325, 67, 68, 315, 316, 317, 318, 166, 167, 66, 326, 327, 328, 329, 70, 30, 34, 330, 331, 332, 29, 333, 79, 80, 78, 76, 334, 335, 336, 337, 338, 339, 340, 33, 341, 87, 342, 343, 344, 345, 84, 346, 347, 348, 349, 86, 350, 351, 352, 353, 791, 792, 793, 794, 795, 796, 797, 798, 799, 800, 801, 802, 803, 804, 805, 806, 807, 808, 809, 810, 811, 812, 813, 814, 815, 816, 817] (by decide +kernel) (by decide +kernel)) (goodIn_sub (fun _ h => List.mem_append_left _ (List.mem_append_left _ (List.mem_append_right _ h))) (by decide +kernel))
set_option maxRecDepth 20000 in
theorem gL_law_L_drop : GoodIn wsL_law (va_wsS RL 193 yL_drop wsL_drop) := goodIn_app (goodIn_of _ (by decide +kernel)) ggL_law_L_drop
set_option maxRecDepth 20000 in
theorem ggL_law_L_beaver : GoodIn wsL_law wsL_beaver := goodIn_ca (goodIn_ca (goodIn_r _ [356, 159, 308, 5, 6, 357, 358, 359, 2, 360, 313, 314, 30, 68, 315, 316, 317, 318, 166, 167, 66, 172, 173, 174, 29, 175, 74, 76, 361, 362, 363, 364, 67, 69, 791, 792, 793, 794, 795, 796, 797, 798, 799, 800, 801, 802, 803, 804, 805, 806, 807, 808, 809, 810, 811, 812, 813, 814] (by decide +kernel) (by decide +kernel)) (goodIn_sub (fun _ h => List.mem_append_left _ (List.mem_append_right _ h)) (by decide +kernel))) (goodIn_sub (fun _ h => List.mem_append_left _ (List.mem_append_left _ (List.mem_append_right _ h))) (by decide +kernel))
set_option maxRecDepth 20000 in
theorem gL_law_L_beaver : GoodIn wsL_law (va_wsS RL 195 yL_beaver wsL_beaver) := goodIn_app (goodIn_of _ (by decide +kernel)) ggL_law_L_beaver
set_option maxRecDepth 20000 in
theorem ggL_law_L_take : GoodIn wsL_law wsL_take := goodIn_ca (goodIn_r _ [367, 159, 5, 368, 369, 370, 2, 371, 315, 316, 317, 318, 166, 167, 66, 361, 362, 363, 364, 68, 67, 69, 791, 792, 793, 794, 795, 796, 797, 798, 799, 800, 801, 802, 803, 804, 805, 806, 807] (by decide +kernel) (by decide +kernel)) (goodIn_sub (fun _ h => List.mem_append_left _ (List.mem_append_left _ (List.mem_append_right _ h))) (by decide +kernel))
set_option maxRecDepth 20000 in
theorem gL_law_L_take : GoodIn wsL_law (va_wsS RL 197 yL_take wsL_take) := goodIn_app (goodIn_of _ (by decide +kernel)) ggL_law_L_take
set_option maxRecDepth 20000 in
theorem ggL_law_L_roll : GoodIn wsL_law wsL_roll := goodIn_ca (goodIn_ca (goodIn_r _ [374, 158, 159, 20, 5, 375, 376, 377, 2, 378, 164, 165, 46, 42, 58, 63, 67, 66, 315, 316, 317, 318, 166, 167, 379, 380, 381, 45, 382, 383, 9, 10, 11, 107, 384, 13, 14, 108, 385, 386, 387, 388, 111, 109, 110, 389, 390, 391, 41, 392, 393, 394, 395, 396, 100, 397, 398, 399, 400, 401, 402, 403, 404, 405, 406, 407, 57, 408, 133, 139, 409, 271, 272, 62, 273, 147, 410, 411, 412, 413, 141, 140, 142, 414, 415, 416, 417, 418, 419, 420, 421, 422, 423, 424, 425, 426, 427, 428, 429, 430, 431, 432, 433, 266, 267, 268, 269, 434, 435, 436, 437, 438, 439, 440, 441, 442, 443, 444, 445, 134, 135, 446, 447, 448, 449, 450, 451, 452, 453, 454, 455, 456, 457, 458, 459, 460, 461, 462, 463, 464, 465, 466, 467, 468, 469, 470, 471, 472, 473, 474, 138, 475, 476, 477, 478, 479, 480, 481, 136, 137, 482, 483, 484, 485, 486, 487, 488, 489, 791, 792, 793, 794, 795, 796, 797, 798, 799, 800, 801, 802, 803, 804, 805, 806, 807, 828, 829, 830, 831, 832, 824, 825, 826, 827, 836, 837, 838, 839, 840, 841, 842, 843, 844, 845, 846] (by decide +kernel) (by decide +kernel)) (goodIn_sub (fun _ h => List.mem_append_left _ (List.mem_append_left _ (List.mem_append_left _ (List.mem_append_right _ h)))) (by decide +kernel))) (goodIn_sub (fun _ h => List.mem_append_left _ (List.mem_append_left _ (List.mem_append_right _ h))) (by decide +kernel))
set_option maxRecDepth 20000 in
theorem gL_law_L_roll : GoodIn wsL_law (va_wsS RL 199 yL_roll wsL_roll) := goodIn_app (goodIn_of _ (by decide +kernel)) ggL_law_L_roll
set_option maxRecDepth 20000 in
theorem ggL_law_L_pips : GoodIn wsL_law wsL_pips := goodIn_ca (goodIn_r _ [492, 158, 20, 493, 494, 495, 2, 496, 64, 247, 248, 249, 164, 165, 497, 498, 499, 62, 500, 421, 422, 423, 424, 147, 791, 792, 793, 794, 795, 796, 797, 798, 799, 800, 801, 802, 803, 804, 805, 806, 807, 846] (by decide +kernel) (by decide +kernel)) (goodIn_sub (fun _ h => List.mem_append_left _ (List.mem_append_left _ (List.mem_append_left _ (List.mem_append_right _ h)))) (by decide +kernel))
set_option maxRecDepth 20000 in
theorem gL_law_L_pips : GoodIn wsL_law (va_wsS RL 151 yL_pips wsL_pips) := goodIn_app (goodIn_of _ (by decide +kernel)) ggL_law_L_pips
set_option maxRecDepth 20000 in
theorem ggL_law_L_undo : GoodIn wsL_law wsL_undo := goodIn_ca (goodIn_r _ [503, 159, 5, 504, 505, 506, 2, 507, 64, 63, 46, 315, 316, 317, 318, 166, 167, 66, 270, 271, 272, 62, 273, 147, 508, 386, 387, 45, 388, 111, 107, 108, 109, 110, 791, 792, 793, 794, 795, 796, 797, 798, 799, 800, 801, 802, 803, 804, 805, 806, 807, 846, 828, 829, 830, 831, 832] (by decide +kernel) (by decide +kernel)) (goodIn_sub (fun _ h => List.mem_append_left _ (List.mem_append_left _ (List.mem_append_right _ h))) (by decide +kernel))
set_option maxRecDepth 20000 in
theorem gL_law_L_undo : GoodIn wsL_law (va_wsS RL 201 yL_undo wsL_undo) := goodIn_app (goodIn_of _ (by decide +kernel)) ggL_law_L_undo
set_option maxRecDepth 20000 in
theorem ggL_law_L_best : GoodIn wsL_law wsL_best := goodIn_ca (goodIn_r _ [511, 159, 5, 512, 513, 514, 2, 515, 58, 315, 316, 317, 318, 166, 167, 66, 516, 517, 518, 57, 519, 142, 791, 792, 793, 794, 795, 796, 797, 798, 799, 800, 801, 802, 803, 804, 805, 806, 807, 836, 837, 838, 839, 840, 841, 842, 843, 844, 845] (by decide +kernel) (by decide +kernel)) (goodIn_sub (fun _ h => List.mem_append_left _ (List.mem_append_left _ (List.mem_append_right _ h))) (by decide +kernel))
set_option maxRecDepth 20000 in
theorem gL_law_L_best : GoodIn wsL_law (va_wsS RL 203 yL_best wsL_best) := goodIn_app (goodIn_of _ (by decide +kernel)) ggL_law_L_best
set_option maxRecDepth 20000 in
theorem ggL_law_L_error : GoodIn wsL_law wsL_error := goodIn_ca (goodIn_ca (goodIn_r _ [522, 159, 523, 5, 524, 525, 526, 527, 2, 528, 58, 529, 530, 531, 532, 533, 534, 315, 316, 317, 318, 166, 167, 66, 486, 487, 488, 57, 489, 140, 535, 536, 537, 538, 450, 451, 452, 453, 142, 454, 455, 456, 457, 135, 791, 792, 793, 794, 795, 796, 797, 798, 799, 800, 801, 802, 803, 804, 805, 806, 807, 836, 837, 838, 839, 840, 841, 842, 843, 844, 845] (by decide +kernel) (by decide +kernel)) (goodIn_sub (fun _ h => List.mem_append_right _ h) (by decide +kernel))) (goodIn_sub (fun _ h => List.mem_append_left _ (List.mem_append_left _ (List.mem_append_right _ h))) (by decide +kernel))
set_option maxRecDepth 20000 in
theorem gL_law_L_error : GoodIn wsL_law (va_wsS RL 205 yL_error wsL_error) := goodIn_app (goodIn_of _ (by decide +kernel)) ggL_law_L_error
set_option maxRecDepth 20000 in
theorem ggL_law_L_deep : GoodIn wsL_law wsL_deep := goodIn_ca (goodIn_ca (goodIn_r _ [541, 159, 523, 542, 7, 543, 544, 545, 2, 546, 65, 63, 67, 58, 59, 547, 529, 530, 531, 532, 533, 534, 315, 316, 317, 318, 166, 167, 66, 486, 487, 488, 57, 489, 140, 270, 271, 272, 62, 273, 147, 548, 549, 550, 551, 134, 552, 553, 554, 555, 556, 557, 558, 559, 560, 561, 562, 430, 431, 432, 433, 9, 10, 11, 266, 267, 268, 269, 421, 422, 423, 424, 405, 406, 407, 408, 133, 139, 409, 410, 411, 412, 413, 141, 142, 414, 415, 416, 417, 418, 419, 420, 425, 426, 427, 428, 429, 434, 435, 436, 437, 438, 439, 440, 441, 442, 443, 444, 445, 135, 446, 447, 448, 449, 450, 451, 452, 453, 454, 455, 456, 457, 458, 459, 460, 461, 462, 463, 464, 465, 466, 467, 468, 469, 470, 471, 472, 473, 474, 138, 475, 476, 477, 478, 479, 480, 481, 136, 137, 482, 483, 484, 485, 563, 791, 792, 793, 794, 795, 796, 797, 798, 799, 800, 801, 802, 803, 804, 805, 806, 807, 836, 837, 838, 839, 840, 841, 842, 843, 844, 845, 846] (by decide +kernel) (by decide +kernel)) (goodIn_sub (fun _ h => List.mem_append_right _ h) (by decide +kernel))) (goodIn_sub (fun _ h => List.mem_append_left _ (List.mem_append_left _ (List.mem_append_right _ h))) (by decide +kernel))
set_option maxRecDepth 20000 in
theorem gL_law_L_deep : GoodIn wsL_law (va_wsS RL 207 yL_deep wsL_deep) := goodIn_app (goodIn_of _ (by decide +kernel)) ggL_law_L_deep
set_option maxRecDepth 20000 in
theorem ggL_law_L_moves : GoodIn wsL_law wsL_moves := goodIn_ca (goodIn_ca (goodIn_r _ [566, 159, 523, 5, 524, 567, 568, 569, 2, 570, 58, 529, 530, 531, 532, 533, 534, 315, 316, 317, 318, 166, 167, 66, 486, 487, 488, 57, 489, 140, 571, 572, 573, 574, 141, 791, 792, 793, 794, 795, 796, 797, 798, 799, 800, 801, 802, 803, 804, 805, 806, 807, 836, 837, 838, 839, 840, 841, 842, 843, 844, 845] (by decide +kernel) (by decide +kernel)) (goodIn_sub (fun _ h => List.mem_append_right _ h) (by decide +kernel))) (goodIn_sub (fun _ h => List.mem_append_left _ (List.mem_append_left _ (List.mem_append_right _ h))) (by decide +kernel))
set_option maxRecDepth 20000 in
theorem gL_law_L_moves : GoodIn wsL_law (va_wsS RL 210 yL_moves wsL_moves) := goodIn_app (goodIn_of _ (by decide +kernel)) ggL_law_L_moves
set_option maxRecDepth 20000 in
theorem ggL_law_L_moveFrom : GoodIn wsL_law wsL_moveFrom := goodIn_ca (goodIn_ca (goodIn_r _ [577, 159, 523, 5, 524, 578, 579, 580, 2, 581, 582, 583, 584, 585, 533, 534, 58, 529, 530, 531, 532, 315, 316, 317, 318, 166, 167, 66, 486, 487, 488, 57, 489, 140, 571, 572, 573, 574, 141, 548, 549, 550, 551, 134, 586, 556, 557, 587, 558, 559, 791, 792, 793, 794, 795, 796, 797, 798, 799, 800, 801, 802, 803, 804, 805, 806, 807, 836, 837, 838, 839, 840, 841, 842, 843, 844, 845] (by decide +kernel) (by decide +kernel)) (goodIn_sub (fun _ h => List.mem_append_right _ h) (by decide +kernel))) (goodIn_sub (fun _ h => List.mem_append_left _ (List.mem_append_left _ (List.mem_append_right _ h))) (by decide +kernel))
set_option maxRecDepth 20000 in
theorem gL_law_L_moveFrom : GoodIn wsL_law (va_wsS RL 212 yL_moveFrom wsL_moveFrom) := goodIn_app (goodIn_of _ (by decide +kernel)) ggL_law_L_moveFrom
set_option maxRecDepth 20000 in
theorem ggL_law_L_moveTo : GoodIn wsL_law wsL_moveTo := goodIn_ca (goodIn_ca (goodIn_r _ [590, 159, 523, 5, 524, 591, 592, 593, 2, 594, 595, 9, 10, 11, 582, 583, 584, 585, 533, 534, 58, 529, 530, 531, 532, 315, 316, 317, 318, 166, 167, 66, 486, 487, 488, 57, 489, 140, 571, 572, 573, 574, 141, 548, 549, 550, 551, 134, 586, 556, 557, 587, 558, 559, 596, 560, 561, 791, 792, 793, 794, 795, 796, 797, 798, 799, 800, 801, 802, 803, 804, 805, 806, 807, 836, 837, 838, 839, 840, 841, 842, 843, 844, 845] (by decide +kernel) (by decide +kernel)) (goodIn_sub (fun _ h => List.mem_append_right _ h) (by decide +kernel))) (goodIn_sub (fun _ h => List.mem_append_left _ (List.mem_append_left _ (List.mem_append_right _ h))) (by decide +kernel))
set_option maxRecDepth 20000 in
theorem gL_law_L_moveTo : GoodIn wsL_law (va_wsS RL 214 yL_moveTo wsL_moveTo) := goodIn_app (goodIn_of _ (by decide +kernel)) ggL_law_L_moveTo
set_option maxRecDepth 20000 in
theorem ggL_law_L_move : GoodIn wsL_law wsL_move := goodIn_ca (goodIn_ca (goodIn_r _ [599, 159, 308, 5, 6, 600, 601, 602, 2, 603, 313, 314, 46, 64, 67, 315, 316, 317, 318, 166, 167, 66, 604, 605, 606, 45, 607, 107, 109, 108, 110, 608, 418, 419, 62, 420, 421, 422, 423, 424, 147, 425, 426, 427, 428, 609, 610, 611, 612, 111, 613, 430, 431, 432, 433, 9, 10, 11, 266, 267, 268, 269, 791, 792, 793, 794, 795, 796, 797, 798, 799, 800, 801, 802, 803, 804, 805, 806, 807, 828, 829, 830, 831, 832, 846] (by decide +kernel) (by decide +kernel)) (goodIn_sub (fun _ h => List.mem_append_left _ (List.mem_append_right _ h)) (by decide +kernel))) (goodIn_sub (fun _ h => List.mem_append_left _ (List.mem_append_left _ (List.mem_append_right _ h))) (by decide +kernel))
set_option maxRecDepth 20000 in
theorem gL_law_L_move : GoodIn wsL_law (va_wsS RL 216 yL_move wsL_move) := goodIn_app (goodIn_of _ (by decide +kernel)) ggL_law_L_move
set_option maxRecDepth 20000 in
theorem ggL_law_L_whole : GoodIn wsL_law wsL_whole := goodIn_ca (goodIn_ca (goodIn_r _ [616, 617, 618, 150, 619, 158, 523, 20, 524, 620, 621, 622, 2, 623, 533, 534, 64, 247, 248, 249, 164, 165, 624, 422, 423, 62, 424, 147, 490, 491, 492, 493, 494, 495, 496, 497, 498, 499, 500, 421, 791, 792, 793, 794, 795, 796, 797, 798, 799, 800, 801, 802, 803, 804, 805, 806, 807, 846] (by decide +kernel) (by decide +kernel)) (goodIn_sub (fun _ h => List.mem_append_right _ h) (by decide +kernel))) (goodIn_sub (fun _ h => List.mem_append_left _ (List.mem_append_left _ (List.mem_append_left _ (List.mem_append_right _ h)))) (by decide +kernel))
set_option maxRecDepth 20000 in
theorem gL_law_L_whole : GoodIn wsL_law (va_wsS RL 229 yL_whole wsL_whole) := goodIn_app (goodIn_of _ (by decide +kernel)) ggL_law_L_whole
set_option maxRecDepth 20000 in
theorem ggL_law_L_men : GoodIn wsL_law wsL_men := goodIn_ca (goodIn_ca (goodIn_r _ [619, 158, 523, 20, 524, 620, 621, 622, 2, 623, 533, 534, 64, 247, 248, 249, 164, 165, 624, 422, 423, 62, 424, 147, 791, 792, 793, 794, 795, 796, 797, 798, 799, 800, 801, 802, 803, 804, 805, 806, 807, 846] (by decide +kernel) (by decide +kernel)) (goodIn_sub (fun _ h => List.mem_append_right _ h) (by decide +kernel))) (goodIn_sub (fun _ h => List.mem_append_left _ (List.mem_append_left _ (List.mem_append_left _ (List.mem_append_right _ h)))) (by decide +kernel))
set_option maxRecDepth 20000 in
theorem gL_law_L_men : GoodIn wsL_law (va_wsS RL 148 yL_men wsL_men) := goodIn_app (goodIn_of _ (by decide +kernel)) ggL_law_L_men
set_option maxRecDepth 20000 in
theorem ggL_law_L_finish : GoodIn wsL_law wsL_finish := goodIn_ca (goodIn_ca (goodIn_r _ [627, 159, 308, 5, 6, 628, 629, 630, 2, 631, 313, 314, 315, 316, 317, 318, 166, 167, 66, 632, 633, 634, 635, 58, 65, 63, 67, 64, 486, 487, 488, 57, 489, 140, 270, 271, 272, 62, 273, 147, 548, 549, 550, 551, 134, 552, 553, 554, 555, 556, 557, 558, 559, 560, 561, 562, 430, 431, 432, 433, 9, 10, 11, 266, 267, 268, 269, 421, 422, 423, 424, 636, 637, 638, 639, 640, 641, 642, 643, 38, 46, 42, 644, 645, 646, 45, 647, 107, 108, 648, 649, 650, 37, 651, 94, 91, 92, 93, 535, 536, 537, 538, 450, 451, 452, 453, 142, 454, 455, 456, 457, 135, 652, 653, 654, 41, 655, 101, 102, 103, 624, 656, 657, 658, 659, 660, 661, 662, 663, 30, 68, 664, 665, 666, 29, 667, 77, 668, 173, 174, 175, 74, 76, 669, 426, 427, 428, 326, 327, 328, 329, 70, 34, 330, 331, 332, 333, 79, 80, 78, 334, 335, 336, 337, 338, 339, 340, 33, 341, 87, 342, 343, 344, 345, 84, 346, 347, 348, 349, 86, 350, 351, 352, 353, 791, 792, 793, 794, 795, 796, 797, 798, 799, 800, 801, 802, 803, 804, 805, 806, 807, 836, 837, 838, 839, 840, 841, 842, 843, 844, 845, 846, 828, 829, 830, 831, 832, 818, 819, 820, 821, 822, 823, 824, 825, 826, 827, 808, 809, 810, 811, 812, 813, 814, 815, 816, 817] (by decide +kernel) (by decide +kernel)) (goodIn_sub (fun _ h => List.mem_append_left _ (List.mem_append_right _ h)) (by decide +kernel))) (goodIn_sub (fun _ h => List.mem_append_left _ (List.mem_append_left _ (List.mem_append_right _ h))) (by decide +kernel))
set_option maxRecDepth 20000 in
theorem gL_law_L_finish : GoodIn wsL_law (va_wsS RL 233 yL_finish wsL_finish) := goodIn_app (goodIn_of _ (by decide +kernel)) ggL_law_L_finish
set_option maxRecDepth 20000 in
theorem ggL_law_L_playedAt : GoodIn wsL_law wsL_playedAt := goodIn_ca (goodIn_r _ [672, 523, 524, 673, 674, 675, 2, 676, 38, 677, 678, 679, 680, 533, 534, 294, 295, 296, 37, 297, 94, 681, 682, 683, 684, 92, 791, 792, 793, 794, 795, 796, 797, 798, 799, 800, 801, 802, 803, 804, 805, 806, 807, 818, 819, 820, 821, 822, 823] (by decide +kernel) (by decide +kernel)) (goodIn_sub (fun _ h => List.mem_append_right _ h) (by decide +kernel))
set_option maxRecDepth 20000 in
theorem gL_law_L_playedAt : GoodIn wsL_law (va_wsS RL 235 yL_playedAt wsL_playedAt) := goodIn_app (goodIn_of _ (by decide +kernel)) ggL_law_L_playedAt
set_option maxRecDepth 20000 in
theorem ggL_law_L_rolledAt : GoodIn wsL_law wsL_rolledAt := goodIn_ca (goodIn_r _ [687, 523, 524, 688, 689, 690, 2, 691, 38, 677, 678, 679, 680, 533, 534, 294, 295, 296, 37, 297, 94, 692, 693, 694, 695, 91, 791, 792, 793, 794, 795, 796, 797, 798, 799, 800, 801, 802, 803, 804, 805, 806, 807, 818, 819, 820, 821, 822, 823] (by decide +kernel) (by decide +kernel)) (goodIn_sub (fun _ h => List.mem_append_right _ h) (by decide +kernel))
set_option maxRecDepth 20000 in
theorem gL_law_L_rolledAt : GoodIn wsL_law (va_wsS RL 237 yL_rolledAt wsL_rolledAt) := goodIn_app (goodIn_of _ (by decide +kernel)) ggL_law_L_rolledAt
set_option maxRecDepth 20000 in
theorem ggL_law_L_chance : GoodIn wsL_law wsL_chance := goodIn_ca (goodIn_ca (goodIn_r _ [698, 159, 308, 699, 19, 700, 701, 702, 2, 703, 313, 314, 63, 54, 67, 315, 316, 317, 318, 166, 167, 66, 704, 705, 706, 62, 707, 708, 657, 658, 659, 421, 422, 423, 424, 147, 425, 426, 427, 428, 709, 710, 711, 712, 713, 714, 53, 715, 716, 9, 10, 11, 717, 13, 14, 718, 719, 720, 721, 722, 723, 724, 725, 122, 726, 727, 728, 729, 730, 731, 732, 733, 734, 735, 736, 737, 738, 739, 740, 791, 792, 793, 794, 795, 796, 797, 798, 799, 800, 801, 802, 803, 804, 805, 806, 807, 846, 835] (by decide +kernel) (by decide +kernel)) (goodIn_sub (fun _ h => List.mem_append_left _ (List.mem_append_right _ h)) (by decide +kernel))) (goodIn_sub (fun _ h => List.mem_append_left _ (List.mem_append_left _ (List.mem_append_right _ h))) (by decide +kernel))
set_option maxRecDepth 20000 in
theorem gL_law_L_chance : GoodIn wsL_law (va_wsS RL 239 yL_chance wsL_chance) := goodIn_app (goodIn_of _ (by decide +kernel)) ggL_law_L_chance
set_option maxRecDepth 20000 in
theorem ggL_law_X9_won : GoodIn wsL_law wsX9_won := goodIn_r _ [744, 70, 791, 792, 793, 794, 795, 796, 797, 798, 799, 800, 801, 802, 803, 804, 805, 806, 807] (by decide +kernel) (by decide +kernel)
set_option maxRecDepth 20000 in
theorem gL_law_X9_won : GoodIn wsL_law (wsV RL 242 RX9 yX9_won wsX9_won) := goodIn_app (goodIn_of _ (by decide +kernel)) ggL_law_X9_won
set_option maxRecDepth 20000 in
theorem ggL_law_L_worth : GoodIn wsL_law wsL_worth := goodIn_ca (goodIn_ca (goodIn_r _ [747, 158, 159, 20, 5, 748, 749, 750, 2, 751, 166, 167, 66, 64, 247, 248, 249, 164, 165, 752, 447, 448, 62, 449, 147, 791, 792, 793, 794, 795, 796, 797, 798, 799, 800, 801, 802, 803, 804, 805, 806, 807, 846] (by decide +kernel) (by decide +kernel)) (goodIn_sub (fun _ h => List.mem_append_left _ (List.mem_append_left _ (List.mem_append_right _ h))) (by decide +kernel))) (goodIn_sub (fun _ h => List.mem_append_left _ (List.mem_append_left _ (List.mem_append_left _ (List.mem_append_right _ h)))) (by decide +kernel))
set_option maxRecDepth 20000 in
theorem gL_law_L_worth : GoodIn wsL_law (va_wsS RL 245 yL_worth wsL_worth) := goodIn_app (goodIn_of _ (by decide +kernel)) ggL_law_L_worth
set_option maxRecDepth 20000 in
theorem ggL_law_L_account : GoodIn wsL_law wsL_account := goodIn_ca (goodIn_r _ [755, 523, 7, 756, 757, 758, 2, 759, 533, 534, 34, 176, 177, 178, 33, 179, 87, 760, 761, 762, 763, 86, 791, 792, 793, 794, 795, 796, 797, 798, 799, 800, 801, 802, 803, 804, 805, 806, 807, 815, 816, 817] (by decide +kernel) (by decide +kernel)) (goodIn_sub (fun _ h => List.mem_append_right _ h) (by decide +kernel))
set_option maxRecDepth 20000 in
theorem gL_law_L_account : GoodIn wsL_law (va_wsS RL 247 yL_account wsL_account) := goodIn_app (goodIn_of _ (by decide +kernel)) ggL_law_L_account
set_option maxRecDepth 20000 in
theorem ggL_law_X9_isSound : GoodIn wsL_law wsX9_isSound := goodIn_r _ [767, 38, 64, 34, 65, 63, 768, 769, 770, 37, 771, 95, 222, 223, 2, 224, 225, 226, 227, 228, 229, 230, 231, 656, 657, 658, 62, 659, 421, 422, 423, 424, 147, 772, 773, 774, 33, 775, 86, 776, 777, 778, 779, 96, 94, 93, 780, 260, 261, 262, 263, 264, 126, 265, 266, 267, 268, 269, 781, 553, 554, 555, 556, 557, 558, 559, 560, 561, 562, 430, 431, 432, 433, 9, 10, 11, 636, 637, 638, 639, 791, 792, 793, 794, 795, 796, 797, 798, 799, 800, 801, 802, 803, 804, 805, 806, 807, 818, 819, 820, 821, 822, 823, 846, 815, 816, 817] (by decide +kernel) (by decide +kernel)
set_option maxRecDepth 20000 in
theorem gL_law_X9_isSound : GoodIn wsL_law (wsV RL 249 RX9 yX9_isSound wsX9_isSound) := goodIn_app (goodIn_of _ (by decide +kernel)) ggL_law_X9_isSound
set_option maxRecDepth 20000 in
theorem ggL_law_X9_fairness : GoodIn wsL_law wsX9_fairness := goodIn_r _ [785, 42, 786, 787, 788, 41, 789, 100, 790, 791, 792, 793, 794, 795, 796, 797, 798, 799, 800, 801, 802, 803, 804, 805, 806, 807, 824, 825, 826, 827] (by decide +kernel) (by decide +kernel)
set_option maxRecDepth 20000 in
theorem gL_law_X9_fairness : GoodIn wsL_law (wsV RL 253 RX9 yX9_fairness wsX9_fairness) := goodIn_app (goodIn_of _ (by decide +kernel)) ggL_law_X9_fairness
theorem dL_law_0 : decode cL_law 0 = .ok (.new 14, 3) := by decide +kernel
theorem dL_law_3 : decode cL_law 3 = .ok (.dup, 1) := by decide +kernel
theorem dL_law_4 : decode cL_law 4 = .ok (.invokespecial 154, 3) := by decide +kernel
theorem dL_law_7 : decode cL_law 7 = .ok (.astore_n 1, 1) := by decide +kernel
theorem dL_law_8 : decode cL_law 8 = .ok (.aload_n 0, 1) := by decide +kernel
theorem dL_law_9 : decode cL_law 9 = .ok (.iconst 0, 1) := by decide +kernel
theorem dL_law_10 : decode cL_law 10 = .ok (.iconst 3, 1) := by decide +kernel
theorem dL_law_11 : decode cL_law 11 = .ok (.invokestatic 155, 3) := by decide +kernel
theorem dL_law_14 : decode cL_law 14 = .ok (.ifCond .le 7, 3) := by decide +kernel
theorem dL_law_17 : decode cL_law 17 = .ok (.iconst 3, 1) := by decide +kernel
theorem dL_law_18 : decode cL_law 18 = .ok (.goto 5, 3) := by decide +kernel
theorem dL_law_21 : decode cL_law 21 = .ok (.bipush 15, 2) := by decide +kernel
theorem dL_law_23 : decode cL_law 23 = .ok (.istore_n 2, 1) := by decide +kernel
theorem dL_law_24 : decode cL_law 24 = .ok (.aload_n 0, 1) := by decide +kernel
theorem dL_law_25 : decode cL_law 25 = .ok (.iconst 1, 1) := by decide +kernel
theorem dL_law_26 : decode cL_law 26 = .ok (.iconst 4, 1) := by decide +kernel
theorem dL_law_27 : decode cL_law 27 = .ok (.invokestatic 155, 3) := by decide +kernel
theorem dL_law_30 : decode cL_law 30 = .ok (.iconst 2, 1) := by decide +kernel
theorem dL_law_31 : decode cL_law 31 = .ok (.iadd, 1) := by decide +kernel
theorem dL_law_32 : decode cL_law 32 = .ok (.istore_n 3, 1) := by decide +kernel
theorem dL_law_33 : decode cL_law 33 = .ok (.aload_n 0, 1) := by decide +kernel
theorem dL_law_34 : decode cL_law 34 = .ok (.iconst 2, 1) := by decide +kernel
theorem dL_law_35 : decode cL_law 35 = .ok (.bipush 101, 2) := by decide +kernel
theorem dL_law_37 : decode cL_law 37 = .ok (.invokestatic 155, 3) := by decide +kernel
theorem dL_law_40 : decode cL_law 40 = .ok (.istore 4, 2) := by decide +kernel
theorem dL_law_42 : decode cL_law 42 = .ok (.iconst 0, 1) := by decide +kernel
theorem dL_law_43 : decode cL_law 43 = .ok (.istore 5, 2) := by decide +kernel
theorem dL_law_45 : decode cL_law 45 = .ok (.iconst 0, 1) := by decide +kernel
theorem dL_law_46 : decode cL_law 46 = .ok (.istore 6, 2) := by decide +kernel
theorem dL_law_48 : decode cL_law 48 = .ok (.iload_n 3, 1) := by decide +kernel
theorem dL_law_49 : decode cL_law 49 = .ok (.iconst 2, 1) := by decide +kernel
theorem dL_law_50 : decode cL_law 50 = .ok (.if_icmp .le 11, 3) := by decide +kernel
theorem dL_law_53 : decode cL_law 53 = .ok (.aload_n 1, 1) := by decide +kernel
theorem dL_law_54 : decode cL_law 54 = .ok (.iload_n 3, 1) := by decide +kernel
theorem dL_law_55 : decode cL_law 55 = .ok (.invokestatic 159, 3) := by decide +kernel
theorem dL_law_58 : decode cL_law 58 = .ok (.ifCond .ne 25, 3) := by decide +kernel
theorem dL_law_61 : decode cL_law 61 = .ok (.aload_n 1, 1) := by decide +kernel
theorem dL_law_62 : decode cL_law 62 = .ok (.iload 4, 2) := by decide +kernel
theorem dL_law_64 : decode cL_law 64 = .ok (.invokestatic 161, 3) := by decide +kernel
theorem dL_law_67 : decode cL_law 67 = .ok (.bipush 25, 2) := by decide +kernel
theorem dL_law_69 : decode cL_law 69 = .ok (.if_icmp .ne 14, 3) := by decide +kernel
theorem dL_law_72 : decode cL_law 72 = .ok (.aload_n 1, 1) := by decide +kernel
theorem dL_law_73 : decode cL_law 73 = .ok (.iload 4, 2) := by decide +kernel
theorem dL_law_75 : decode cL_law 75 = .ok (.invokestatic 161, 3) := by decide +kernel
theorem dL_law_78 : decode cL_law 78 = .ok (.iload 4, 2) := by decide +kernel
theorem dL_law_80 : decode cL_law 80 = .ok (.if_icmp .eq 5, 3) := by decide +kernel
theorem dL_law_83 : decode cL_law 83 = .ok (.iconst 0, 1) := by decide +kernel
theorem dL_law_84 : decode cL_law 84 = .ok (.ireturn, 1) := by decide +kernel
theorem dL_law_85 : decode cL_law 85 = .ok (.iconst 1, 1) := by decide +kernel
theorem dL_law_86 : decode cL_law 86 = .ok (.aload_n 0, 1) := by decide +kernel
theorem dL_law_87 : decode cL_law 87 = .ok (.iconst 3, 1) := by decide +kernel
theorem dL_law_88 : decode cL_law 88 = .ok (.bipush 25, 2) := by decide +kernel
theorem dL_law_90 : decode cL_law 90 = .ok (.invokestatic 155, 3) := by decide +kernel
theorem dL_law_93 : decode cL_law 93 = .ok (.iadd, 1) := by decide +kernel
theorem dL_law_94 : decode cL_law 94 = .ok (.istore 7, 2) := by decide +kernel
theorem dL_law_96 : decode cL_law 96 = .ok (.iconst 1, 1) := by decide +kernel
theorem dL_law_97 : decode cL_law 97 = .ok (.aload_n 0, 1) := by decide +kernel
theorem dL_law_98 : decode cL_law 98 = .ok (.iconst 4, 1) := by decide +kernel
theorem dL_law_99 : decode cL_law 99 = .ok (.bipush 25, 2) := by decide +kernel
theorem dL_law_101 : decode cL_law 101 = .ok (.invokestatic 155, 3) := by decide +kernel
theorem dL_law_104 : decode cL_law 104 = .ok (.iadd, 1) := by decide +kernel
theorem dL_law_105 : decode cL_law 105 = .ok (.istore 8, 2) := by decide +kernel
theorem dL_law_107 : decode cL_law 107 = .ok (.aload_n 1, 1) := by decide +kernel
theorem dL_law_108 : decode cL_law 108 = .ok (.iload 7, 2) := by decide +kernel
theorem dL_law_110 : decode cL_law 110 = .ok (.iload 8, 2) := by decide +kernel
theorem dL_law_112 : decode cL_law 112 = .ok (.invokestatic 163, 3) := by decide +kernel
theorem dL_law_115 : decode cL_law 115 = .ok (.lstore 9, 2) := by decide +kernel
theorem dL_law_117 : decode cL_law 117 = .ok (.aload_n 1, 1) := by decide +kernel
theorem dL_law_118 : decode cL_law 118 = .ok (.iload 8, 2) := by decide +kernel
theorem dL_law_120 : decode cL_law 120 = .ok (.iload 7, 2) := by decide +kernel
theorem dL_law_122 : decode cL_law 122 = .ok (.invokestatic 163, 3) := by decide +kernel
theorem dL_law_125 : decode cL_law 125 = .ok (.lstore 11, 2) := by decide +kernel
theorem dL_law_127 : decode cL_law 127 = .ok (.lload 9, 2) := by decide +kernel
theorem dL_law_129 : decode cL_law 129 = .ok (.lconst 0, 1) := by decide +kernel
theorem dL_law_130 : decode cL_law 130 = .ok (.lcmp, 1) := by decide +kernel
theorem dL_law_131 : decode cL_law 131 = .ok (.ifCond .lt 59, 3) := by decide +kernel
theorem dL_law_134 : decode cL_law 134 = .ok (.lload 9, 2) := by decide +kernel
theorem dL_law_136 : decode cL_law 136 = .ok (.ldc2_w 166, 3) := by decide +kernel
theorem dL_law_139 : decode cL_law 139 = .ok (.lcmp, 1) := by decide +kernel
theorem dL_law_140 : decode cL_law 140 = .ok (.ifCond .gt 50, 3) := by decide +kernel
theorem dL_law_143 : decode cL_law 143 = .ok (.lload 9, 2) := by decide +kernel
theorem dL_law_145 : decode cL_law 145 = .ok (.lload 11, 2) := by decide +kernel
theorem dL_law_147 : decode cL_law 147 = .ok (.ladd, 1) := by decide +kernel
theorem dL_law_148 : decode cL_law 148 = .ok (.ldc2_w 166, 3) := by decide +kernel
theorem dL_law_151 : decode cL_law 151 = .ok (.lcmp, 1) := by decide +kernel
theorem dL_law_152 : decode cL_law 152 = .ok (.ifCond .gt 38, 3) := by decide +kernel
theorem dL_law_155 : decode cL_law 155 = .ok (.lload 9, 2) := by decide +kernel
theorem dL_law_157 : decode cL_law 157 = .ok (.lload 11, 2) := by decide +kernel
theorem dL_law_159 : decode cL_law 159 = .ok (.ladd, 1) := by decide +kernel
theorem dL_law_160 : decode cL_law 160 = .ok (.ldc2_w 168, 3) := by decide +kernel
theorem dL_law_163 : decode cL_law 163 = .ok (.lcmp, 1) := by decide +kernel
theorem dL_law_164 : decode cL_law 164 = .ok (.ifCond .lt 26, 3) := by decide +kernel
theorem dL_law_167 : decode cL_law 167 = .ok (.iload 7, 2) := by decide +kernel
theorem dL_law_169 : decode cL_law 169 = .ok (.bipush 25, 2) := by decide +kernel
theorem dL_law_171 : decode cL_law 171 = .ok (.if_icmp .ge 21, 3) := by decide +kernel
theorem dL_law_174 : decode cL_law 174 = .ok (.aload_n 1, 1) := by decide +kernel
theorem dL_law_175 : decode cL_law 175 = .ok (.iload 7, 2) := by decide +kernel
theorem dL_law_177 : decode cL_law 177 = .ok (.iconst 1, 1) := by decide +kernel
theorem dL_law_178 : decode cL_law 178 = .ok (.iadd, 1) := by decide +kernel
theorem dL_law_179 : decode cL_law 179 = .ok (.iload 8, 2) := by decide +kernel
theorem dL_law_181 : decode cL_law 181 = .ok (.invokestatic 163, 3) := by decide +kernel
theorem dL_law_184 : decode cL_law 184 = .ok (.lload 9, 2) := by decide +kernel
theorem dL_law_186 : decode cL_law 186 = .ok (.lcmp, 1) := by decide +kernel
theorem dL_law_187 : decode cL_law 187 = .ok (.ifCond .le 5, 3) := by decide +kernel
theorem dL_law_190 : decode cL_law 190 = .ok (.iconst 0, 1) := by decide +kernel
theorem dL_law_191 : decode cL_law 191 = .ok (.ireturn, 1) := by decide +kernel
theorem dL_law_192 : decode cL_law 192 = .ok (.aload_n 1, 1) := by decide +kernel
theorem dL_law_193 : decode cL_law 193 = .ok (.iload_n 2, 1) := by decide +kernel
theorem dL_law_194 : decode cL_law 194 = .ok (.iconst 3, 1) := by decide +kernel
theorem dL_law_195 : decode cL_law 195 = .ok (.if_icmp .ne 8, 3) := by decide +kernel
theorem dL_law_198 : decode cL_law 198 = .ok (.bipush 104, 2) := by decide +kernel
theorem dL_law_200 : decode cL_law 200 = .ok (.goto 19, 3) := by decide +kernel
theorem dL_law_203 : decode cL_law 203 = .ok (.aload_n 0, 1) := by decide +kernel
theorem dL_law_204 : decode cL_law 204 = .ok (.iconst 5, 1) := by decide +kernel
theorem dL_law_205 : decode cL_law 205 = .ok (.iconst 2, 1) := by decide +kernel
theorem dL_law_206 : decode cL_law 206 = .ok (.invokestatic 155, 3) := by decide +kernel
theorem dL_law_209 : decode cL_law 209 = .ok (.ifCond .ne 8, 3) := by decide +kernel
theorem dL_law_212 : decode cL_law 212 = .ok (.bipush 98, 2) := by decide +kernel
theorem dL_law_214 : decode cL_law 214 = .ok (.goto 5, 3) := by decide +kernel
theorem dL_law_217 : decode cL_law 217 = .ok (.bipush 110, 2) := by decide +kernel
theorem dL_law_219 : decode cL_law 219 = .ok (.iconst 0, 1) := by decide +kernel
theorem dL_law_220 : decode cL_law 220 = .ok (.aload_n 0, 1) := by decide +kernel
theorem dL_law_221 : decode cL_law 221 = .ok (.bipush 6, 2) := by decide +kernel
theorem dL_law_223 : decode cL_law 223 = .ok (.iconst 2, 1) := by decide +kernel
theorem dL_law_224 : decode cL_law 224 = .ok (.invokestatic 155, 3) := by decide +kernel
theorem dL_law_227 : decode cL_law 227 = .ok (.ifCond .ne 7, 3) := by decide +kernel
theorem dL_law_230 : decode cL_law 230 = .ok (.iconst 1, 1) := by decide +kernel
theorem dL_law_231 : decode cL_law 231 = .ok (.goto 4, 3) := by decide +kernel
theorem dL_law_234 : decode cL_law 234 = .ok (.iconst 0, 1) := by decide +kernel
theorem dL_law_235 : decode cL_law 235 = .ok (.invokestatic 170, 3) := by decide +kernel
theorem dL_law_238 : decode cL_law 238 = .ok (.iload_n 2, 1) := by decide +kernel
theorem dL_law_239 : decode cL_law 239 = .ok (.if_icmp .eq 5, 3) := by decide +kernel
theorem dL_law_242 : decode cL_law 242 = .ok (.iconst 0, 1) := by decide +kernel
theorem dL_law_243 : decode cL_law 243 = .ok (.ireturn, 1) := by decide +kernel
theorem dL_law_244 : decode cL_law 244 = .ok (.iconst 0, 1) := by decide +kernel
theorem dL_law_245 : decode cL_law 245 = .ok (.istore 13, 2) := by decide +kernel
theorem dL_law_247 : decode cL_law 247 = .ok (.iload 13, 2) := by decide +kernel
theorem dL_law_249 : decode cL_law 249 = .ok (.iload_n 2, 1) := by decide +kernel
theorem dL_law_250 : decode cL_law 250 = .ok (.iconst 3, 1) := by decide +kernel
theorem dL_law_251 : decode cL_law 251 = .ok (.if_icmp .ne 8, 3) := by decide +kernel
theorem dL_law_254 : decode cL_law 254 = .ok (.bipush 30, 2) := by decide +kernel
theorem dL_law_256 : decode cL_law 256 = .ok (.goto 4, 3) := by decide +kernel
theorem dL_law_259 : decode cL_law 259 = .ok (.iconst 4, 1) := by decide +kernel
theorem dL_law_260 : decode cL_law 260 = .ok (.if_icmp .ge 883, 3) := by decide +kernel
theorem dL_law_263 : decode cL_law 263 = .ok (.bipush 7, 2) := by decide +kernel
theorem dL_law_265 : decode cL_law 265 = .ok (.iconst 5, 1) := by decide +kernel
theorem dL_law_266 : decode cL_law 266 = .ok (.iload 13, 2) := by decide +kernel
theorem dL_law_268 : decode cL_law 268 = .ok (.imul, 1) := by decide +kernel
theorem dL_law_269 : decode cL_law 269 = .ok (.iadd, 1) := by decide +kernel
theorem dL_law_270 : decode cL_law 270 = .ok (.istore 14, 2) := by decide +kernel
theorem dL_law_272 : decode cL_law 272 = .ok (.aload_n 1, 1) := by decide +kernel
theorem dL_law_273 : decode cL_law 273 = .ok (.invokevirtual 173, 3) := by decide +kernel
theorem dL_law_276 : decode cL_law 276 = .ok (.bipush 45, 2) := by decide +kernel
theorem dL_law_278 : decode cL_law 278 = .ok (.if_icmp .ne 55, 3) := by decide +kernel
theorem dL_law_281 : decode cL_law 281 = .ok (.aload_n 1, 1) := by decide +kernel
theorem dL_law_282 : decode cL_law 282 = .ok (.aload_n 0, 1) := by decide +kernel
theorem dL_law_283 : decode cL_law 283 = .ok (.iload 14, 2) := by decide +kernel
theorem dL_law_285 : decode cL_law 285 = .ok (.iconst 2, 1) := by decide +kernel
theorem dL_law_286 : decode cL_law 286 = .ok (.invokestatic 155, 3) := by decide +kernel
theorem dL_law_289 : decode cL_law 289 = .ok (.invokestatic 177, 3) := by decide +kernel
theorem dL_law_292 : decode cL_law 292 = .ok (.ifCond .ne 36, 3) := by decide +kernel
theorem dL_law_295 : decode cL_law 295 = .ok (.aload_n 1, 1) := by decide +kernel
theorem dL_law_296 : decode cL_law 296 = .ok (.iconst 0, 1) := by decide +kernel
theorem dL_law_297 : decode cL_law 297 = .ok (.invokestatic 177, 3) := by decide +kernel
theorem dL_law_300 : decode cL_law 300 = .ok (.ldc 24, 2) := by decide +kernel
theorem dL_law_302 : decode cL_law 302 = .ok (.if_icmp .ne 26, 3) := by decide +kernel
theorem dL_law_305 : decode cL_law 305 = .ok (.aload_n 1, 1) := by decide +kernel
theorem dL_law_306 : decode cL_law 306 = .ok (.invokevirtual 179, 3) := by decide +kernel
theorem dL_law_309 : decode cL_law 309 = .ok (.iconst 1, 1) := by decide +kernel
theorem dL_law_310 : decode cL_law 310 = .ok (.if_icmp .ne 18, 3) := by decide +kernel
theorem dL_law_313 : decode cL_law 313 = .ok (.aload_n 1, 1) := by decide +kernel
theorem dL_law_314 : decode cL_law 314 = .ok (.invokevirtual 182, 3) := by decide +kernel
theorem dL_law_317 : decode cL_law 317 = .ok (.iconst (-1), 1) := by decide +kernel
theorem dL_law_318 : decode cL_law 318 = .ok (.if_icmp .ne 10, 3) := by decide +kernel
theorem dL_law_321 : decode cL_law 321 = .ok (.aload_n 1, 1) := by decide +kernel
theorem dL_law_322 : decode cL_law 322 = .ok (.invokevirtual 185, 3) := by decide +kernel
theorem dL_law_325 : decode cL_law 325 = .ok (.ifCond .eq 5, 3) := by decide +kernel
theorem dL_law_328 : decode cL_law 328 = .ok (.iconst 0, 1) := by decide +kernel
theorem dL_law_329 : decode cL_law 329 = .ok (.ireturn, 1) := by decide +kernel
theorem dL_law_330 : decode cL_law 330 = .ok (.iconst 0, 1) := by decide +kernel
theorem dL_law_331 : decode cL_law 331 = .ok (.istore 5, 2) := by decide +kernel
theorem dL_law_333 : decode cL_law 333 = .ok (.aload_n 1, 1) := by decide +kernel
theorem dL_law_334 : decode cL_law 334 = .ok (.invokestatic 188, 3) := by decide +kernel
theorem dL_law_337 : decode cL_law 337 = .ok (.istore 15, 2) := by decide +kernel
theorem dL_law_339 : decode cL_law 339 = .ok (.aload_n 0, 1) := by decide +kernel
theorem dL_law_340 : decode cL_law 340 = .ok (.iload 14, 2) := by decide +kernel
theorem dL_law_342 : decode cL_law 342 = .ok (.iconst 1, 1) := by decide +kernel
theorem dL_law_343 : decode cL_law 343 = .ok (.iadd, 1) := by decide +kernel
theorem dL_law_344 : decode cL_law 344 = .ok (.iconst 5, 1) := by decide +kernel
theorem dL_law_345 : decode cL_law 345 = .ok (.invokestatic 155, 3) := by decide +kernel
theorem dL_law_348 : decode cL_law 348 = .ok (.ifCond .ne 134, 3) := by decide +kernel
theorem dL_law_351 : decode cL_law 351 = .ok (.aload_n 1, 1) := by decide +kernel
theorem dL_law_352 : decode cL_law 352 = .ok (.invokestatic 191, 3) := by decide +kernel
theorem dL_law_355 : decode cL_law 355 = .ok (.ifCond .le 127, 3) := by decide +kernel
theorem dL_law_358 : decode cL_law 358 = .ok (.aload_n 1, 1) := by decide +kernel
theorem dL_law_359 : decode cL_law 359 = .ok (.invokevirtual 179, 3) := by decide +kernel
theorem dL_law_362 : decode cL_law 362 = .ok (.istore 16, 2) := by decide +kernel
theorem dL_law_364 : decode cL_law 364 = .ok (.aload_n 0, 1) := by decide +kernel
theorem dL_law_365 : decode cL_law 365 = .ok (.iload 14, 2) := by decide +kernel
theorem dL_law_367 : decode cL_law 367 = .ok (.iconst 2, 1) := by decide +kernel
theorem dL_law_368 : decode cL_law 368 = .ok (.iadd, 1) := by decide +kernel
theorem dL_law_369 : decode cL_law 369 = .ok (.iconst 3, 1) := by decide +kernel
theorem dL_law_370 : decode cL_law 370 = .ok (.invokestatic 155, 3) := by decide +kernel
theorem dL_law_373 : decode cL_law 373 = .ok (.ifCond .ne 10, 3) := by decide +kernel
theorem dL_law_376 : decode cL_law 376 = .ok (.aload_n 1, 1) := by decide +kernel
theorem dL_law_377 : decode cL_law 377 = .ok (.invokestatic 193, 3) := by decide +kernel
theorem dL_law_380 : decode cL_law 380 = .ok (.goto 27, 3) := by decide +kernel
theorem dL_law_383 : decode cL_law 383 = .ok (.aload_n 0, 1) := by decide +kernel
theorem dL_law_384 : decode cL_law 384 = .ok (.iload 14, 2) := by decide +kernel
theorem dL_law_386 : decode cL_law 386 = .ok (.iconst 2, 1) := by decide +kernel
theorem dL_law_387 : decode cL_law 387 = .ok (.iadd, 1) := by decide +kernel
theorem dL_law_388 : decode cL_law 388 = .ok (.iconst 3, 1) := by decide +kernel
theorem dL_law_389 : decode cL_law 389 = .ok (.invokestatic 155, 3) := by decide +kernel
theorem dL_law_392 : decode cL_law 392 = .ok (.iconst 1, 1) := by decide +kernel
theorem dL_law_393 : decode cL_law 393 = .ok (.if_icmp .ne 10, 3) := by decide +kernel
theorem dL_law_396 : decode cL_law 396 = .ok (.aload_n 1, 1) := by decide +kernel
theorem dL_law_397 : decode cL_law 397 = .ok (.invokestatic 195, 3) := by decide +kernel
theorem dL_law_400 : decode cL_law 400 = .ok (.goto 7, 3) := by decide +kernel
theorem dL_law_403 : decode cL_law 403 = .ok (.aload_n 1, 1) := by decide +kernel
theorem dL_law_404 : decode cL_law 404 = .ok (.invokestatic 197, 3) := by decide +kernel
theorem dL_law_407 : decode cL_law 407 = .ok (.istore 17, 2) := by decide +kernel
theorem dL_law_409 : decode cL_law 409 = .ok (.iload 17, 2) := by decide +kernel
theorem dL_law_411 : decode cL_law 411 = .ok (.ldc 63, 2) := by decide +kernel
theorem dL_law_413 : decode cL_law 413 = .ok (.if_icmp .ne 9, 3) := by decide +kernel
theorem dL_law_416 : decode cL_law 416 = .ok (.aload_n 1, 1) := by decide +kernel
theorem dL_law_417 : decode cL_law 417 = .ok (.invokestatic 197, 3) := by decide +kernel
theorem dL_law_420 : decode cL_law 420 = .ok (.istore 17, 2) := by decide +kernel
theorem dL_law_422 : decode cL_law 422 = .ok (.aload_n 1, 1) := by decide +kernel
theorem dL_law_423 : decode cL_law 423 = .ok (.invokevirtual 173, 3) := by decide +kernel
theorem dL_law_426 : decode cL_law 426 = .ok (.bipush 45, 2) := by decide +kernel
theorem dL_law_428 : decode cL_law 428 = .ok (.if_icmp .ne 13, 3) := by decide +kernel
theorem dL_law_431 : decode cL_law 431 = .ok (.iload 17, 2) := by decide +kernel
theorem dL_law_433 : decode cL_law 433 = .ok (.iload 16, 2) := by decide +kernel
theorem dL_law_435 : decode cL_law 435 = .ok (.if_icmp .eq 44, 3) := by decide +kernel
theorem dL_law_438 : decode cL_law 438 = .ok (.goto 39, 3) := by decide +kernel
theorem dL_law_441 : decode cL_law 441 = .ok (.iload 17, 2) := by decide +kernel
theorem dL_law_443 : decode cL_law 443 = .ok (.aload_n 1, 1) := by decide +kernel
theorem dL_law_444 : decode cL_law 444 = .ok (.invokevirtual 179, 3) := by decide +kernel
theorem dL_law_447 : decode cL_law 447 = .ok (.if_icmp .ne 30, 3) := by decide +kernel
theorem dL_law_450 : decode cL_law 450 = .ok (.iload 17, 2) := by decide +kernel
theorem dL_law_452 : decode cL_law 452 = .ok (.iload 16, 2) := by decide +kernel
theorem dL_law_454 : decode cL_law 454 = .ok (.if_icmp .le 23, 3) := by decide +kernel
theorem dL_law_457 : decode cL_law 457 = .ok (.aload_n 1, 1) := by decide +kernel
theorem dL_law_458 : decode cL_law 458 = .ok (.invokevirtual 182, 3) := by decide +kernel
theorem dL_law_461 : decode cL_law 461 = .ok (.iconst 1, 1) := by decide +kernel
theorem dL_law_462 : decode cL_law 462 = .ok (.iload 15, 2) := by decide +kernel
theorem dL_law_464 : decode cL_law 464 = .ok (.isub, 1) := by decide +kernel
theorem dL_law_465 : decode cL_law 465 = .ok (.if_icmp .ne 12, 3) := by decide +kernel
theorem dL_law_468 : decode cL_law 468 = .ok (.aload_n 1, 1) := by decide +kernel
theorem dL_law_469 : decode cL_law 469 = .ok (.invokestatic 188, 3) := by decide +kernel
theorem dL_law_472 : decode cL_law 472 = .ok (.iload 15, 2) := by decide +kernel
theorem dL_law_474 : decode cL_law 474 = .ok (.if_icmp .eq 5, 3) := by decide +kernel
theorem dL_law_477 : decode cL_law 477 = .ok (.iconst 0, 1) := by decide +kernel
theorem dL_law_478 : decode cL_law 478 = .ok (.ireturn, 1) := by decide +kernel
theorem dL_law_479 : decode cL_law 479 = .ok (.goto 595, 3) := by decide +kernel
theorem dL_law_482 : decode cL_law 482 = .ok (.aload_n 1, 1) := by decide +kernel
theorem dL_law_483 : decode cL_law 483 = .ok (.invokevirtual 173, 3) := by decide +kernel
theorem dL_law_486 : decode cL_law 486 = .ok (.bipush 100, 2) := by decide +kernel
theorem dL_law_488 : decode cL_law 488 = .ok (.if_icmp .ne 586, 3) := by decide +kernel
theorem dL_law_491 : decode cL_law 491 = .ok (.iconst 1, 1) := by decide +kernel
theorem dL_law_492 : decode cL_law 492 = .ok (.aload_n 0, 1) := by decide +kernel
theorem dL_law_493 : decode cL_law 493 = .ok (.iload 14, 2) := by decide +kernel
theorem dL_law_495 : decode cL_law 495 = .ok (.iconst 2, 1) := by decide +kernel
theorem dL_law_496 : decode cL_law 496 = .ok (.iadd, 1) := by decide +kernel
theorem dL_law_497 : decode cL_law 497 = .ok (.bipush 6, 2) := by decide +kernel
theorem dL_law_499 : decode cL_law 499 = .ok (.invokestatic 155, 3) := by decide +kernel
theorem dL_law_502 : decode cL_law 502 = .ok (.iadd, 1) := by decide +kernel
theorem dL_law_503 : decode cL_law 503 = .ok (.istore 16, 2) := by decide +kernel
theorem dL_law_505 : decode cL_law 505 = .ok (.iconst 1, 1) := by decide +kernel
theorem dL_law_506 : decode cL_law 506 = .ok (.aload_n 0, 1) := by decide +kernel
theorem dL_law_507 : decode cL_law 507 = .ok (.iload 14, 2) := by decide +kernel
theorem dL_law_509 : decode cL_law 509 = .ok (.iconst 3, 1) := by decide +kernel
theorem dL_law_510 : decode cL_law 510 = .ok (.iadd, 1) := by decide +kernel
theorem dL_law_511 : decode cL_law 511 = .ok (.bipush 6, 2) := by decide +kernel
theorem dL_law_513 : decode cL_law 513 = .ok (.invokestatic 155, 3) := by decide +kernel
theorem dL_law_516 : decode cL_law 516 = .ok (.iadd, 1) := by decide +kernel
theorem dL_law_517 : decode cL_law 517 = .ok (.istore 17, 2) := by decide +kernel
theorem dL_law_519 : decode cL_law 519 = .ok (.aload_n 1, 1) := by decide +kernel
theorem dL_law_520 : decode cL_law 520 = .ok (.iload 16, 2) := by decide +kernel
theorem dL_law_522 : decode cL_law 522 = .ok (.iload 17, 2) := by decide +kernel
theorem dL_law_524 : decode cL_law 524 = .ok (.invokestatic 199, 3) := by decide +kernel
theorem dL_law_527 : decode cL_law 527 = .ok (.istore 18, 2) := by decide +kernel
theorem dL_law_529 : decode cL_law 529 = .ok (.aload_n 1, 1) := by decide +kernel
theorem dL_law_530 : decode cL_law 530 = .ok (.iload 15, 2) := by decide +kernel
theorem dL_law_532 : decode cL_law 532 = .ok (.invokestatic 151, 3) := by decide +kernel
theorem dL_law_535 : decode cL_law 535 = .ok (.istore 19, 2) := by decide +kernel
theorem dL_law_537 : decode cL_law 537 = .ok (.aload_n 1, 1) := by decide +kernel
theorem dL_law_538 : decode cL_law 538 = .ok (.iconst 1, 1) := by decide +kernel
theorem dL_law_539 : decode cL_law 539 = .ok (.iload 15, 2) := by decide +kernel
theorem dL_law_541 : decode cL_law 541 = .ok (.isub, 1) := by decide +kernel
theorem dL_law_542 : decode cL_law 542 = .ok (.invokestatic 151, 3) := by decide +kernel
theorem dL_law_545 : decode cL_law 545 = .ok (.istore 20, 2) := by decide +kernel
theorem dL_law_547 : decode cL_law 547 = .ok (.iload 18, 2) := by decide +kernel
theorem dL_law_549 : decode cL_law 549 = .ok (.iconst 1, 1) := by decide +kernel
theorem dL_law_550 : decode cL_law 550 = .ok (.if_icmp .lt 34, 3) := by decide +kernel
theorem dL_law_553 : decode cL_law 553 = .ok (.aload_n 1, 1) := by decide +kernel
theorem dL_law_554 : decode cL_law 554 = .ok (.invokestatic 201, 3) := by decide +kernel
theorem dL_law_557 : decode cL_law 557 = .ok (.ifCond .ne 27, 3) := by decide +kernel
theorem dL_law_560 : decode cL_law 560 = .ok (.aload_n 1, 1) := by decide +kernel
theorem dL_law_561 : decode cL_law 561 = .ok (.aload_n 1, 1) := by decide +kernel
theorem dL_law_562 : decode cL_law 562 = .ok (.invokestatic 203, 3) := by decide +kernel
theorem dL_law_565 : decode cL_law 565 = .ok (.invokestatic 205, 3) := by decide +kernel
theorem dL_law_568 : decode cL_law 568 = .ok (.ifCond .ne 16, 3) := by decide +kernel
theorem dL_law_571 : decode cL_law 571 = .ok (.aload_n 1, 1) := by decide +kernel
theorem dL_law_572 : decode cL_law 572 = .ok (.iload 18, 2) := by decide +kernel
theorem dL_law_574 : decode cL_law 574 = .ok (.invokestatic 207, 3) := by decide +kernel
theorem dL_law_577 : decode cL_law 577 = .ok (.ldc2_w 97, 3) := by decide +kernel
theorem dL_law_580 : decode cL_law 580 = .ok (.lcmp, 1) := by decide +kernel
theorem dL_law_581 : decode cL_law 581 = .ok (.ifCond .eq 5, 3) := by decide +kernel
theorem dL_law_584 : decode cL_law 584 = .ok (.iconst 0, 1) := by decide +kernel
theorem dL_law_585 : decode cL_law 585 = .ok (.ireturn, 1) := by decide +kernel
theorem dL_law_586 : decode cL_law 586 = .ok (.iinc 6 2, 3) := by decide +kernel
theorem dL_law_589 : decode cL_law 589 = .ok (.aload_n 0, 1) := by decide +kernel
theorem dL_law_590 : decode cL_law 590 = .ok (.iload 14, 2) := by decide +kernel
theorem dL_law_592 : decode cL_law 592 = .ok (.iconst 4, 1) := by decide +kernel
theorem dL_law_593 : decode cL_law 593 = .ok (.iadd, 1) := by decide +kernel
theorem dL_law_594 : decode cL_law 594 = .ok (.iload 18, 2) := by decide +kernel
theorem dL_law_596 : decode cL_law 596 = .ok (.invokestatic 155, 3) := by decide +kernel
theorem dL_law_599 : decode cL_law 599 = .ok (.istore 21, 2) := by decide +kernel
theorem dL_law_601 : decode cL_law 601 = .ok (.aload_n 1, 1) := by decide +kernel
theorem dL_law_602 : decode cL_law 602 = .ok (.iload 21, 2) := by decide +kernel
theorem dL_law_604 : decode cL_law 604 = .ok (.invokestatic 210, 3) := by decide +kernel
theorem dL_law_607 : decode cL_law 607 = .ok (.istore 22, 2) := by decide +kernel
theorem dL_law_609 : decode cL_law 609 = .ok (.iconst 0, 1) := by decide +kernel
theorem dL_law_610 : decode cL_law 610 = .ok (.istore 23, 2) := by decide +kernel
theorem dL_law_612 : decode cL_law 612 = .ok (.iconst 0, 1) := by decide +kernel
theorem dL_law_613 : decode cL_law 613 = .ok (.istore 24, 2) := by decide +kernel
theorem dL_law_615 : decode cL_law 615 = .ok (.iconst 0, 1) := by decide +kernel
theorem dL_law_616 : decode cL_law 616 = .ok (.istore 25, 2) := by decide +kernel
theorem dL_law_618 : decode cL_law 618 = .ok (.iload 25, 2) := by decide +kernel
theorem dL_law_620 : decode cL_law 620 = .ok (.iload 22, 2) := by decide +kernel
theorem dL_law_622 : decode cL_law 622 = .ok (.if_icmp .ge 180, 3) := by decide +kernel
theorem dL_law_625 : decode cL_law 625 = .ok (.aload_n 1, 1) := by decide +kernel
theorem dL_law_626 : decode cL_law 626 = .ok (.iload 21, 2) := by decide +kernel
theorem dL_law_628 : decode cL_law 628 = .ok (.iload 25, 2) := by decide +kernel
theorem dL_law_630 : decode cL_law 630 = .ok (.invokestatic 212, 3) := by decide +kernel
theorem dL_law_633 : decode cL_law 633 = .ok (.istore 26, 2) := by decide +kernel
theorem dL_law_635 : decode cL_law 635 = .ok (.aload_n 1, 1) := by decide +kernel
theorem dL_law_636 : decode cL_law 636 = .ok (.iload 21, 2) := by decide +kernel
theorem dL_law_638 : decode cL_law 638 = .ok (.iload 25, 2) := by decide +kernel
theorem dL_law_640 : decode cL_law 640 = .ok (.invokestatic 214, 3) := by decide +kernel
theorem dL_law_643 : decode cL_law 643 = .ok (.istore 27, 2) := by decide +kernel
theorem dL_law_645 : decode cL_law 645 = .ok (.iload 27, 2) := by decide +kernel
theorem dL_law_647 : decode cL_law 647 = .ok (.ifCond .le 11, 3) := by decide +kernel
theorem dL_law_650 : decode cL_law 650 = .ok (.iload 26, 2) := by decide +kernel
theorem dL_law_652 : decode cL_law 652 = .ok (.iload 27, 2) := by decide +kernel
theorem dL_law_654 : decode cL_law 654 = .ok (.isub, 1) := by decide +kernel
theorem dL_law_655 : decode cL_law 655 = .ok (.goto 4, 3) := by decide +kernel
theorem dL_law_658 : decode cL_law 658 = .ok (.iconst 0, 1) := by decide +kernel
theorem dL_law_659 : decode cL_law 659 = .ok (.istore 28, 2) := by decide +kernel
theorem dL_law_661 : decode cL_law 661 = .ok (.ldc 63, 2) := by decide +kernel
theorem dL_law_663 : decode cL_law 663 = .ok (.istore 29, 2) := by decide +kernel
theorem dL_law_665 : decode cL_law 665 = .ok (.iload 26, 2) := by decide +kernel
theorem dL_law_667 : decode cL_law 667 = .ok (.iload 27, 2) := by decide +kernel
theorem dL_law_669 : decode cL_law 669 = .ok (.if_icmp .le 15, 3) := by decide +kernel
theorem dL_law_672 : decode cL_law 672 = .ok (.iload 26, 2) := by decide +kernel
theorem dL_law_674 : decode cL_law 674 = .ok (.bipush 25, 2) := by decide +kernel
theorem dL_law_676 : decode cL_law 676 = .ok (.if_icmp .gt 8, 3) := by decide +kernel
theorem dL_law_679 : decode cL_law 679 = .ok (.iload 27, 2) := by decide +kernel
theorem dL_law_681 : decode cL_law 681 = .ok (.ifCond .ge 5, 3) := by decide +kernel
theorem dL_law_684 : decode cL_law 684 = .ok (.iconst 0, 1) := by decide +kernel
theorem dL_law_685 : decode cL_law 685 = .ok (.ireturn, 1) := by decide +kernel
theorem dL_law_686 : decode cL_law 686 = .ok (.iload 28, 2) := by decide +kernel
theorem dL_law_688 : decode cL_law 688 = .ok (.ifCond .le 16, 3) := by decide +kernel
theorem dL_law_691 : decode cL_law 691 = .ok (.aload_n 1, 1) := by decide +kernel
theorem dL_law_692 : decode cL_law 692 = .ok (.iload 26, 2) := by decide +kernel
theorem dL_law_694 : decode cL_law 694 = .ok (.iload 28, 2) := by decide +kernel
theorem dL_law_696 : decode cL_law 696 = .ok (.invokestatic 216, 3) := by decide +kernel
theorem dL_law_699 : decode cL_law 699 = .ok (.istore 29, 2) := by decide +kernel
theorem dL_law_701 : decode cL_law 701 = .ok (.goto 61, 3) := by decide +kernel
theorem dL_law_704 : decode cL_law 704 = .ok (.iload 16, 2) := by decide +kernel
theorem dL_law_706 : decode cL_law 706 = .ok (.iload 17, 2) := by decide +kernel
theorem dL_law_708 : decode cL_law 708 = .ok (.invokestatic 218, 3) := by decide +kernel
theorem dL_law_711 : decode cL_law 711 = .ok (.istore 30, 2) := by decide +kernel
theorem dL_law_713 : decode cL_law 713 = .ok (.iload 30, 2) := by decide +kernel
theorem dL_law_715 : decode cL_law 715 = .ok (.iload 16, 2) := by decide +kernel
theorem dL_law_717 : decode cL_law 717 = .ok (.iload 17, 2) := by decide +kernel
theorem dL_law_719 : decode cL_law 719 = .ok (.invokestatic 223, 3) := by decide +kernel
theorem dL_law_722 : decode cL_law 722 = .ok (.if_icmp .lt 40, 3) := by decide +kernel
theorem dL_law_725 : decode cL_law 725 = .ok (.iload 29, 2) := by decide +kernel
theorem dL_law_727 : decode cL_law 727 = .ok (.ldc 63, 2) := by decide +kernel
theorem dL_law_729 : decode cL_law 729 = .ok (.if_icmp .ne 33, 3) := by decide +kernel
theorem dL_law_732 : decode cL_law 732 = .ok (.aload_n 1, 1) := by decide +kernel
theorem dL_law_733 : decode cL_law 733 = .ok (.iload 26, 2) := by decide +kernel
theorem dL_law_735 : decode cL_law 735 = .ok (.iload 30, 2) := by decide +kernel
theorem dL_law_737 : decode cL_law 737 = .ok (.invokestatic 216, 3) := by decide +kernel
theorem dL_law_740 : decode cL_law 740 = .ok (.istore 29, 2) := by decide +kernel
theorem dL_law_742 : decode cL_law 742 = .ok (.iload 30, 2) := by decide +kernel
theorem dL_law_744 : decode cL_law 744 = .ok (.iconst 1, 1) := by decide +kernel
theorem dL_law_745 : decode cL_law 745 = .ok (.iload 16, 2) := by decide +kernel
theorem dL_law_747 : decode cL_law 747 = .ok (.iload 17, 2) := by decide +kernel
theorem dL_law_749 : decode cL_law 749 = .ok (.isub, 1) := by decide +kernel
theorem dL_law_750 : decode cL_law 750 = .ok (.invokestatic 226, 3) := by decide +kernel
theorem dL_law_753 : decode cL_law 753 = .ok (.invokestatic 218, 3) := by decide +kernel
theorem dL_law_756 : decode cL_law 756 = .ok (.isub, 1) := by decide +kernel
theorem dL_law_757 : decode cL_law 757 = .ok (.istore 30, 2) := by decide +kernel
theorem dL_law_759 : decode cL_law 759 = .ok (.goto (-46), 3) := by decide +kernel
theorem dL_law_762 : decode cL_law 762 = .ok (.iload 29, 2) := by decide +kernel
theorem dL_law_764 : decode cL_law 764 = .ok (.ifCond .ge 5, 3) := by decide +kernel
theorem dL_law_767 : decode cL_law 767 = .ok (.iconst 0, 1) := by decide +kernel
theorem dL_law_768 : decode cL_law 768 = .ok (.ireturn, 1) := by decide +kernel
theorem dL_law_769 : decode cL_law 769 = .ok (.iload 23, 2) := by decide +kernel
theorem dL_law_771 : decode cL_law 771 = .ok (.iload 29, 2) := by decide +kernel
theorem dL_law_773 : decode cL_law 773 = .ok (.iadd, 1) := by decide +kernel
theorem dL_law_774 : decode cL_law 774 = .ok (.istore 23, 2) := by decide +kernel
theorem dL_law_776 : decode cL_law 776 = .ok (.iload 24, 2) := by decide +kernel
theorem dL_law_778 : decode cL_law 778 = .ok (.iload 26, 2) := by decide +kernel
theorem dL_law_780 : decode cL_law 780 = .ok (.iload 27, 2) := by decide +kernel
theorem dL_law_782 : decode cL_law 782 = .ok (.isub, 1) := by decide +kernel
theorem dL_law_783 : decode cL_law 783 = .ok (.iadd, 1) := by decide +kernel
theorem dL_law_784 : decode cL_law 784 = .ok (.istore 24, 2) := by decide +kernel
theorem dL_law_786 : decode cL_law 786 = .ok (.aload_n 1, 1) := by decide +kernel
theorem dL_law_787 : decode cL_law 787 = .ok (.iload_n 2, 1) := by decide +kernel
theorem dL_law_788 : decode cL_law 788 = .ok (.invokestatic 229, 3) := by decide +kernel
theorem dL_law_791 : decode cL_law 791 = .ok (.ifCond .ne 5, 3) := by decide +kernel
theorem dL_law_794 : decode cL_law 794 = .ok (.iconst 0, 1) := by decide +kernel
theorem dL_law_795 : decode cL_law 795 = .ok (.ireturn, 1) := by decide +kernel
theorem dL_law_796 : decode cL_law 796 = .ok (.iinc 25 1, 3) := by decide +kernel
theorem dL_law_799 : decode cL_law 799 = .ok (.goto (-181), 3) := by decide +kernel
theorem dL_law_802 : decode cL_law 802 = .ok (.aload_n 1, 1) := by decide +kernel
theorem dL_law_803 : decode cL_law 803 = .ok (.iload 15, 2) := by decide +kernel
theorem dL_law_805 : decode cL_law 805 = .ok (.invokestatic 151, 3) := by decide +kernel
theorem dL_law_808 : decode cL_law 808 = .ok (.iload 19, 2) := by decide +kernel
theorem dL_law_810 : decode cL_law 810 = .ok (.iload 24, 2) := by decide +kernel
theorem dL_law_812 : decode cL_law 812 = .ok (.isub, 1) := by decide +kernel
theorem dL_law_813 : decode cL_law 813 = .ok (.if_icmp .ne 19, 3) := by decide +kernel
theorem dL_law_816 : decode cL_law 816 = .ok (.aload_n 1, 1) := by decide +kernel
theorem dL_law_817 : decode cL_law 817 = .ok (.iconst 1, 1) := by decide +kernel
theorem dL_law_818 : decode cL_law 818 = .ok (.iload 15, 2) := by decide +kernel
theorem dL_law_820 : decode cL_law 820 = .ok (.isub, 1) := by decide +kernel
theorem dL_law_821 : decode cL_law 821 = .ok (.invokestatic 151, 3) := by decide +kernel
theorem dL_law_824 : decode cL_law 824 = .ok (.iload 20, 2) := by decide +kernel
theorem dL_law_826 : decode cL_law 826 = .ok (.iload 23, 2) := by decide +kernel
theorem dL_law_828 : decode cL_law 828 = .ok (.iadd, 1) := by decide +kernel
theorem dL_law_829 : decode cL_law 829 = .ok (.if_icmp .ge 5, 3) := by decide +kernel
theorem dL_law_832 : decode cL_law 832 = .ok (.iconst 0, 1) := by decide +kernel
theorem dL_law_833 : decode cL_law 833 = .ok (.ireturn, 1) := by decide +kernel
theorem dL_law_834 : decode cL_law 834 = .ok (.bipush 52, 2) := by decide +kernel
theorem dL_law_836 : decode cL_law 836 = .ok (.newarray .int, 2) := by decide +kernel
theorem dL_law_838 : decode cL_law 838 = .ok (.astore 25, 2) := by decide +kernel
theorem dL_law_840 : decode cL_law 840 = .ok (.iconst 0, 1) := by decide +kernel
theorem dL_law_841 : decode cL_law 841 = .ok (.istore 26, 2) := by decide +kernel
theorem dL_law_843 : decode cL_law 843 = .ok (.iload 26, 2) := by decide +kernel
theorem dL_law_845 : decode cL_law 845 = .ok (.bipush 52, 2) := by decide +kernel
theorem dL_law_847 : decode cL_law 847 = .ok (.if_icmp .ge 28, 3) := by decide +kernel
theorem dL_law_850 : decode cL_law 850 = .ok (.aload 25, 2) := by decide +kernel
theorem dL_law_852 : decode cL_law 852 = .ok (.iload 26, 2) := by decide +kernel
theorem dL_law_854 : decode cL_law 854 = .ok (.aload_n 1, 1) := by decide +kernel
theorem dL_law_855 : decode cL_law 855 = .ok (.iload 26, 2) := by decide +kernel
theorem dL_law_857 : decode cL_law 857 = .ok (.bipush 26, 2) := by decide +kernel
theorem dL_law_859 : decode cL_law 859 = .ok (.idiv, 1) := by decide +kernel
theorem dL_law_860 : decode cL_law 860 = .ok (.iload 26, 2) := by decide +kernel
theorem dL_law_862 : decode cL_law 862 = .ok (.bipush 26, 2) := by decide +kernel
theorem dL_law_864 : decode cL_law 864 = .ok (.irem, 1) := by decide +kernel
theorem dL_law_865 : decode cL_law 865 = .ok (.invokestatic 148, 3) := by decide +kernel
theorem dL_law_868 : decode cL_law 868 = .ok (.iastore, 1) := by decide +kernel
theorem dL_law_869 : decode cL_law 869 = .ok (.iinc 26 1, 3) := by decide +kernel
theorem dL_law_872 : decode cL_law 872 = .ok (.goto (-29), 3) := by decide +kernel
theorem dL_law_875 : decode cL_law 875 = .ok (.aload_n 1, 1) := by decide +kernel
theorem dL_law_876 : decode cL_law 876 = .ok (.invokestatic 233, 3) := by decide +kernel
theorem dL_law_879 : decode cL_law 879 = .ok (.istore 26, 2) := by decide +kernel
theorem dL_law_881 : decode cL_law 881 = .ok (.iload 26, 2) := by decide +kernel
theorem dL_law_883 : decode cL_law 883 = .ok (.iload 21, 2) := by decide +kernel
theorem dL_law_885 : decode cL_law 885 = .ok (.if_icmp .ne 57, 3) := by decide +kernel
theorem dL_law_888 : decode cL_law 888 = .ok (.aload_n 1, 1) := by decide +kernel
theorem dL_law_889 : decode cL_law 889 = .ok (.invokevirtual 185, 3) := by decide +kernel
theorem dL_law_892 : decode cL_law 892 = .ok (.iinc 5 1, 3) := by decide +kernel
theorem dL_law_895 : decode cL_law 895 = .ok (.iload 5, 2) := by decide +kernel
theorem dL_law_897 : decode cL_law 897 = .ok (.if_icmp .ne 45, 3) := by decide +kernel
theorem dL_law_900 : decode cL_law 900 = .ok (.aload_n 1, 1) := by decide +kernel
theorem dL_law_901 : decode cL_law 901 = .ok (.iload 5, 2) := by decide +kernel
theorem dL_law_903 : decode cL_law 903 = .ok (.iconst 1, 1) := by decide +kernel
theorem dL_law_904 : decode cL_law 904 = .ok (.isub, 1) := by decide +kernel
theorem dL_law_905 : decode cL_law 905 = .ok (.invokestatic 235, 3) := by decide +kernel
theorem dL_law_908 : decode cL_law 908 = .ok (.iload 21, 2) := by decide +kernel
theorem dL_law_910 : decode cL_law 910 = .ok (.if_icmp .ne 32, 3) := by decide +kernel
theorem dL_law_913 : decode cL_law 913 = .ok (.aload_n 1, 1) := by decide +kernel
theorem dL_law_914 : decode cL_law 914 = .ok (.iload 5, 2) := by decide +kernel
theorem dL_law_916 : decode cL_law 916 = .ok (.iconst 1, 1) := by decide +kernel
theorem dL_law_917 : decode cL_law 917 = .ok (.isub, 1) := by decide +kernel
theorem dL_law_918 : decode cL_law 918 = .ok (.invokestatic 237, 3) := by decide +kernel
theorem dL_law_921 : decode cL_law 921 = .ok (.bipush 10, 2) := by decide +kernel
theorem dL_law_923 : decode cL_law 923 = .ok (.iload 16, 2) := by decide +kernel
theorem dL_law_925 : decode cL_law 925 = .ok (.iload 17, 2) := by decide +kernel
theorem dL_law_927 : decode cL_law 927 = .ok (.invokestatic 218, 3) := by decide +kernel
theorem dL_law_930 : decode cL_law 930 = .ok (.imul, 1) := by decide +kernel
theorem dL_law_931 : decode cL_law 931 = .ok (.iload 16, 2) := by decide +kernel
theorem dL_law_933 : decode cL_law 933 = .ok (.iload 17, 2) := by decide +kernel
theorem dL_law_935 : decode cL_law 935 = .ok (.invokestatic 223, 3) := by decide +kernel
theorem dL_law_938 : decode cL_law 938 = .ok (.iadd, 1) := by decide +kernel
theorem dL_law_939 : decode cL_law 939 = .ok (.if_icmp .eq 5, 3) := by decide +kernel
theorem dL_law_942 : decode cL_law 942 = .ok (.iconst 0, 1) := by decide +kernel
theorem dL_law_943 : decode cL_law 943 = .ok (.ireturn, 1) := by decide +kernel
theorem dL_law_944 : decode cL_law 944 = .ok (.iconst 0, 1) := by decide +kernel
theorem dL_law_945 : decode cL_law 945 = .ok (.istore 27, 2) := by decide +kernel
theorem dL_law_947 : decode cL_law 947 = .ok (.iload 27, 2) := by decide +kernel
theorem dL_law_949 : decode cL_law 949 = .ok (.bipush 52, 2) := by decide +kernel
theorem dL_law_951 : decode cL_law 951 = .ok (.if_icmp .ge 33, 3) := by decide +kernel
theorem dL_law_954 : decode cL_law 954 = .ok (.aload 25, 2) := by decide +kernel
theorem dL_law_956 : decode cL_law 956 = .ok (.iload 27, 2) := by decide +kernel
theorem dL_law_958 : decode cL_law 958 = .ok (.iaload, 1) := by decide +kernel
theorem dL_law_959 : decode cL_law 959 = .ok (.aload_n 1, 1) := by decide +kernel
theorem dL_law_960 : decode cL_law 960 = .ok (.iload 27, 2) := by decide +kernel
theorem dL_law_962 : decode cL_law 962 = .ok (.bipush 26, 2) := by decide +kernel
theorem dL_law_964 : decode cL_law 964 = .ok (.idiv, 1) := by decide +kernel
theorem dL_law_965 : decode cL_law 965 = .ok (.iload 27, 2) := by decide +kernel
theorem dL_law_967 : decode cL_law 967 = .ok (.bipush 26, 2) := by decide +kernel
theorem dL_law_969 : decode cL_law 969 = .ok (.irem, 1) := by decide +kernel
theorem dL_law_970 : decode cL_law 970 = .ok (.invokestatic 148, 3) := by decide +kernel
theorem dL_law_973 : decode cL_law 973 = .ok (.if_icmp .eq 5, 3) := by decide +kernel
theorem dL_law_976 : decode cL_law 976 = .ok (.iconst 0, 1) := by decide +kernel
theorem dL_law_977 : decode cL_law 977 = .ok (.ireturn, 1) := by decide +kernel
theorem dL_law_978 : decode cL_law 978 = .ok (.iinc 27 1, 3) := by decide +kernel
theorem dL_law_981 : decode cL_law 981 = .ok (.goto (-34), 3) := by decide +kernel
theorem dL_law_984 : decode cL_law 984 = .ok (.aload_n 1, 1) := by decide +kernel
theorem dL_law_985 : decode cL_law 985 = .ok (.invokevirtual 173, 3) := by decide +kernel
theorem dL_law_988 : decode cL_law 988 = .ok (.bipush 100, 2) := by decide +kernel
theorem dL_law_990 : decode cL_law 990 = .ok (.if_icmp .ne 48, 3) := by decide +kernel
theorem dL_law_993 : decode cL_law 993 = .ok (.aload_n 1, 1) := by decide +kernel
theorem dL_law_994 : decode cL_law 994 = .ok (.invokestatic 239, 3) := by decide +kernel
theorem dL_law_997 : decode cL_law 997 = .ok (.dstore 27, 2) := by decide +kernel
theorem dL_law_999 : decode cL_law 999 = .ok (.aload_n 1, 1) := by decide +kernel
theorem dL_law_1000 : decode cL_law 1000 = .ok (.invokestatic 188, 3) := by decide +kernel
theorem dL_law_1003 : decode cL_law 1003 = .ok (.iconst 1, 1) := by decide +kernel
theorem dL_law_1004 : decode cL_law 1004 = .ok (.iload 15, 2) := by decide +kernel
theorem dL_law_1006 : decode cL_law 1006 = .ok (.isub, 1) := by decide +kernel
theorem dL_law_1007 : decode cL_law 1007 = .ok (.if_icmp .ne 26, 3) := by decide +kernel
theorem dL_law_1010 : decode cL_law 1010 = .ok (.dload 27, 2) := by decide +kernel
theorem dL_law_1012 : decode cL_law 1012 = .ok (.ldc2_w 146, 3) := by decide +kernel
theorem dL_law_1015 : decode cL_law 1015 = .ok (.dcmp .l, 1) := by decide +kernel
theorem dL_law_1016 : decode cL_law 1016 = .ok (.ifCond .eq 19, 3) := by decide +kernel
theorem dL_law_1019 : decode cL_law 1019 = .ok (.dload 27, 2) := by decide +kernel
theorem dL_law_1021 : decode cL_law 1021 = .ok (.dconst 0, 1) := by decide +kernel
theorem dL_law_1022 : decode cL_law 1022 = .ok (.dcmp .g, 1) := by decide +kernel
theorem dL_law_1023 : decode cL_law 1023 = .ok (.ifCond .le 10, 3) := by decide +kernel
theorem dL_law_1026 : decode cL_law 1026 = .ok (.dload 27, 2) := by decide +kernel
theorem dL_law_1028 : decode cL_law 1028 = .ok (.dconst 1, 1) := by decide +kernel
theorem dL_law_1029 : decode cL_law 1029 = .ok (.dcmp .l, 1) := by decide +kernel
theorem dL_law_1030 : decode cL_law 1030 = .ok (.ifCond .le 5, 3) := by decide +kernel
theorem dL_law_1033 : decode cL_law 1033 = .ok (.iconst 0, 1) := by decide +kernel
theorem dL_law_1034 : decode cL_law 1034 = .ok (.ireturn, 1) := by decide +kernel
theorem dL_law_1035 : decode cL_law 1035 = .ok (.goto 39, 3) := by decide +kernel
theorem dL_law_1038 : decode cL_law 1038 = .ok (.aload_n 1, 1) := by decide +kernel
theorem dL_law_1039 : decode cL_law 1039 = .ok (.invokevirtual 173, 3) := by decide +kernel
theorem dL_law_1042 : decode cL_law 1042 = .ok (.bipush 45, 2) := by decide +kernel
theorem dL_law_1044 : decode cL_law 1044 = .ok (.if_icmp .ne 28, 3) := by decide +kernel
theorem dL_law_1047 : decode cL_law 1047 = .ok (.aload_n 1, 1) := by decide +kernel
theorem dL_law_1048 : decode cL_law 1048 = .ok (.iload 15, 2) := by decide +kernel
theorem dL_law_1050 : decode cL_law 1050 = .ok (.invokestatic 151, 3) := by decide +kernel
theorem dL_law_1053 : decode cL_law 1053 = .ok (.ifCond .ne 19, 3) := by decide +kernel
theorem dL_law_1056 : decode cL_law 1056 = .ok (.aload_n 1, 1) := by decide +kernel
theorem dL_law_1057 : decode cL_law 1057 = .ok (.invokevirtual 242, 3) := by decide +kernel
theorem dL_law_1060 : decode cL_law 1060 = .ok (.iconst 1, 1) := by decide +kernel
theorem dL_law_1061 : decode cL_law 1061 = .ok (.if_icmp .lt 11, 3) := by decide +kernel
theorem dL_law_1064 : decode cL_law 1064 = .ok (.aload_n 1, 1) := by decide +kernel
theorem dL_law_1065 : decode cL_law 1065 = .ok (.invokevirtual 242, 3) := by decide +kernel
theorem dL_law_1068 : decode cL_law 1068 = .ok (.iconst 3, 1) := by decide +kernel
theorem dL_law_1069 : decode cL_law 1069 = .ok (.if_icmp .le 5, 3) := by decide +kernel
theorem dL_law_1072 : decode cL_law 1072 = .ok (.iconst 0, 1) := by decide +kernel
theorem dL_law_1073 : decode cL_law 1073 = .ok (.ireturn, 1) := by decide +kernel
theorem dL_law_1074 : decode cL_law 1074 = .ok (.aload_n 1, 1) := by decide +kernel
theorem dL_law_1075 : decode cL_law 1075 = .ok (.iload_n 2, 1) := by decide +kernel
theorem dL_law_1076 : decode cL_law 1076 = .ok (.invokestatic 229, 3) := by decide +kernel
theorem dL_law_1079 : decode cL_law 1079 = .ok (.ifCond .eq 13, 3) := by decide +kernel
theorem dL_law_1082 : decode cL_law 1082 = .ok (.aload_n 1, 1) := by decide +kernel
theorem dL_law_1083 : decode cL_law 1083 = .ok (.iconst 2, 1) := by decide +kernel
theorem dL_law_1084 : decode cL_law 1084 = .ok (.invokestatic 245, 3) := by decide +kernel
theorem dL_law_1087 : decode cL_law 1087 = .ok (.ldc 21, 2) := by decide +kernel
theorem dL_law_1089 : decode cL_law 1089 = .ok (.if_icmp .eq 5, 3) := by decide +kernel
theorem dL_law_1092 : decode cL_law 1092 = .ok (.iconst 0, 1) := by decide +kernel
theorem dL_law_1093 : decode cL_law 1093 = .ok (.ireturn, 1) := by decide +kernel
theorem dL_law_1094 : decode cL_law 1094 = .ok (.lconst 0, 1) := by decide +kernel
theorem dL_law_1095 : decode cL_law 1095 = .ok (.lstore 16, 2) := by decide +kernel
theorem dL_law_1097 : decode cL_law 1097 = .ok (.iconst 0, 1) := by decide +kernel
theorem dL_law_1098 : decode cL_law 1098 = .ok (.istore 18, 2) := by decide +kernel
theorem dL_law_1100 : decode cL_law 1100 = .ok (.iload 18, 2) := by decide +kernel
theorem dL_law_1102 : decode cL_law 1102 = .ok (.iload_n 3, 1) := by decide +kernel
theorem dL_law_1103 : decode cL_law 1103 = .ok (.if_icmp .ge 25, 3) := by decide +kernel
theorem dL_law_1106 : decode cL_law 1106 = .ok (.iload_n 3, 1) := by decide +kernel
theorem dL_law_1107 : decode cL_law 1107 = .ok (.iconst 2, 1) := by decide +kernel
theorem dL_law_1108 : decode cL_law 1108 = .ok (.if_icmp .le 20, 3) := by decide +kernel
theorem dL_law_1111 : decode cL_law 1111 = .ok (.lload 16, 2) := by decide +kernel
theorem dL_law_1113 : decode cL_law 1113 = .ok (.aload_n 1, 1) := by decide +kernel
theorem dL_law_1114 : decode cL_law 1114 = .ok (.iload 18, 2) := by decide +kernel
theorem dL_law_1116 : decode cL_law 1116 = .ok (.invokestatic 247, 3) := by decide +kernel
theorem dL_law_1119 : decode cL_law 1119 = .ok (.ladd, 1) := by decide +kernel
theorem dL_law_1120 : decode cL_law 1120 = .ok (.lstore 16, 2) := by decide +kernel
theorem dL_law_1122 : decode cL_law 1122 = .ok (.iinc 18 1, 3) := by decide +kernel
theorem dL_law_1125 : decode cL_law 1125 = .ok (.goto (-25), 3) := by decide +kernel
theorem dL_law_1128 : decode cL_law 1128 = .ok (.lload 16, 2) := by decide +kernel
theorem dL_law_1130 : decode cL_law 1130 = .ok (.lconst 0, 1) := by decide +kernel
theorem dL_law_1131 : decode cL_law 1131 = .ok (.lcmp, 1) := by decide +kernel
theorem dL_law_1132 : decode cL_law 1132 = .ok (.ifCond .eq 5, 3) := by decide +kernel
theorem dL_law_1135 : decode cL_law 1135 = .ok (.iconst 0, 1) := by decide +kernel
theorem dL_law_1136 : decode cL_law 1136 = .ok (.ireturn, 1) := by decide +kernel
theorem dL_law_1137 : decode cL_law 1137 = .ok (.iinc 13 1, 3) := by decide +kernel
theorem dL_law_1140 : decode cL_law 1140 = .ok (.goto (-893), 3) := by decide +kernel
theorem dL_law_1143 : decode cL_law 1143 = .ok (.aload_n 1, 1) := by decide +kernel
theorem dL_law_1144 : decode cL_law 1144 = .ok (.invokevirtual 249, 3) := by decide +kernel
theorem dL_law_1147 : decode cL_law 1147 = .ok (.ifCond .eq 33, 3) := by decide +kernel
theorem dL_law_1150 : decode cL_law 1150 = .ok (.iload 6, 2) := by decide +kernel
theorem dL_law_1152 : decode cL_law 1152 = .ok (.ifCond .gt 12, 3) := by decide +kernel
theorem dL_law_1155 : decode cL_law 1155 = .ok (.aload_n 1, 1) := by decide +kernel
theorem dL_law_1156 : decode cL_law 1156 = .ok (.invokevirtual 253, 3) := by decide +kernel
theorem dL_law_1159 : decode cL_law 1159 = .ok (.lconst 0, 1) := by decide +kernel
theorem dL_law_1160 : decode cL_law 1160 = .ok (.lcmp, 1) := by decide +kernel
theorem dL_law_1161 : decode cL_law 1161 = .ok (.ifCond .ne 19, 3) := by decide +kernel
theorem dL_law_1164 : decode cL_law 1164 = .ok (.aload_n 1, 1) := by decide +kernel
theorem dL_law_1165 : decode cL_law 1165 = .ok (.iload_n 3, 1) := by decide +kernel
theorem dL_law_1166 : decode cL_law 1166 = .ok (.invokestatic 247, 3) := by decide +kernel
theorem dL_law_1169 : decode cL_law 1169 = .ok (.ldc2_w 97, 3) := by decide +kernel
theorem dL_law_1172 : decode cL_law 1172 = .ok (.lcmp, 1) := by decide +kernel
theorem dL_law_1173 : decode cL_law 1173 = .ok (.ifCond .ne 7, 3) := by decide +kernel
theorem dL_law_1176 : decode cL_law 1176 = .ok (.iconst 1, 1) := by decide +kernel
theorem dL_law_1177 : decode cL_law 1177 = .ok (.goto 4, 3) := by decide +kernel
theorem dL_law_1180 : decode cL_law 1180 = .ok (.iconst 0, 1) := by decide +kernel
theorem dL_law_1181 : decode cL_law 1181 = .ok (.ireturn, 1) := by decide +kernel
