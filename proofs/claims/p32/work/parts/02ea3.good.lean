set_option maxRecDepth 20000 in
theorem gL_law_L_areTimesSound : GoodIn wsL_law (va_wsS RL 116 yL_areTimesSound wsL_areTimesSound) := goodIn_app (goodIn_of _ (by decide +kernel)) ggL_law_L_areTimesSound
set_option maxRecDepth 20000 in
theorem ggL_law_L_isForetold : GoodIn wsL_law wsL_isForetold := goodIn_sub (iw_memby0 [548, 454, 455, 456, 2, 457, 14, 458, 459, 460, 13, 461, 462, 463, 36, 35, 37, 38, 39, 464, 135, 136, 137, 138, 139, 140, 141, 128, 129, 142, 143, 144, 145, 146, 147, 148, 465, 466, 467, 250, 238, 239, 240, 241, 40, 242, 243, 468, 469, 470, 471, 41, 472, 286, 287, 288, 450, 451, 452, 453, 209, 166, 167, 210, 372, 373, 374, 375, 18, 211, 212, 213, 17, 214, 48, 50, 215, 95, 96, 97, 98, 99, 100, 101, 102, 103, 104, 105, 106, 107, 216, 217, 218, 21, 219, 57, 58, 220, 221, 222, 223, 224, 225, 189, 190, 191, 42, 43, 226, 227, 228, 229, 52, 230, 231, 232, 233, 234, 235, 236, 237, 244, 245, 246, 247, 248, 249, 251, 252, 253, 254, 255, 256, 257, 258, 259, 260, 261, 262, 263, 264, 265, 266, 267, 268, 269, 270, 271, 272, 273, 274, 275, 276, 277, 278, 279, 280, 281, 282, 283, 284, 285, 289, 290, 291, 292, 293, 294, 295, 296, 297, 298, 299, 300, 301, 302, 303, 51, 304, 305, 306, 307, 61, 308, 59, 309, 310, 311, 312, 60, 313, 314, 315, 316, 317, 318, 319, 320, 321, 322, 323, 324, 325, 326, 327, 328, 329, 330, 331, 332, 333, 334, 335, 336, 337, 338, 339, 340, 341, 342, 343, 344, 345, 192, 193, 194, 346, 347, 348, 349, 350, 351, 352, 353, 354, 355, 356, 357, 358, 359, 360, 361, 362, 363, 364, 365, 366, 367, 368, 369, 370, 371, 204, 205, 206, 207, 208, 26, 199, 200, 201, 25, 202, 88, 93, 89, 90, 91, 92, 67, 94, 203, 80, 81, 82, 83, 84, 85, 86, 87, 549, 550, 551, 552, 553, 554, 555, 556, 557, 558, 559, 560, 561, 562, 563, 564, 565, 566, 567, 568, 569, 570, 571, 572] rfl) (by decide +kernel)
set_option maxRecDepth 20000 in
theorem gL_law_L_isForetold : GoodIn wsL_law (va_wsS RL 120 yL_isForetold wsL_isForetold) := goodIn_app (goodIn_of _ (by decide +kernel)) ggL_law_L_isForetold
set_option maxRecDepth 20000 in
theorem ggL_law_X5_charge : GoodIn wsL_law wsX5_charge := goodIn_sub (iw_memby0 [479, 14, 26, 388, 389, 390, 13, 391, 35, 128, 2, 129, 209, 166, 167, 199, 200, 201, 25, 202, 88, 93, 89, 90, 91, 92, 67, 94, 95, 96, 97, 36, 37, 38, 39, 40, 41, 98, 99, 100, 101, 102, 103, 104, 105, 106, 107, 480, 481, 482, 483, 484, 485, 486, 487, 42, 43, 549, 550, 551, 552, 553, 554, 555, 556, 557, 558, 559, 560, 570, 571, 572] rfl) (by decide +kernel)
set_option maxRecDepth 20000 in
theorem gL_law_X5_charge : GoodIn wsL_law (wsV RL 72 RX5 yX5_charge wsX5_charge) := goodIn_app (goodIn_of _ (by decide +kernel)) ggL_law_X5_charge
set_option maxRecDepth 20000 in
theorem ggL_law_X5_cut : GoodIn wsL_law wsX5_cut := goodIn_sub (iw_memby0 [491, 14, 26, 388, 389, 390, 13, 391, 35, 128, 2, 129, 199, 200, 201, 25, 202, 88, 93, 89, 90, 91, 92, 67, 94, 95, 96, 97, 36, 37, 38, 39, 40, 41, 98, 99, 100, 101, 102, 103, 104, 105, 106, 107, 492, 493, 494, 495, 248, 249, 250, 251, 42, 43, 252, 253, 549, 550, 551, 552, 553, 554, 555, 556, 557, 558, 559, 560, 570, 571, 572] rfl) (by decide +kernel)
set_option maxRecDepth 20000 in
theorem gL_law_X5_cut : GoodIn wsL_law (wsV RL 78 RX5 yX5_cut wsX5_cut) := goodIn_app (goodIn_of _ (by decide +kernel)) ggL_law_X5_cut
set_option maxRecDepth 20000 in
theorem ggL_law_X5_measure : GoodIn wsL_law wsX5_measure := goodIn_sub (iw_memby0 [499, 14, 26, 388, 389, 390, 13, 391, 35, 128, 2, 129, 209, 166, 167, 199, 200, 201, 25, 202, 88, 93, 89, 90, 91, 92, 67, 94, 95, 96, 97, 36, 37, 38, 39, 40, 41, 98, 99, 100, 101, 102, 103, 104, 105, 106, 107, 430, 261, 262, 263, 500, 501, 502, 503, 42, 43, 549, 550, 551, 552, 553, 554, 555, 556, 557, 558, 559, 560, 570, 571, 572] rfl) (by decide +kernel)
set_option maxRecDepth 20000 in
theorem gL_law_X5_measure : GoodIn wsL_law (wsV RL 84 RX5 yX5_measure wsX5_measure) := goodIn_app (goodIn_of _ (by decide +kernel)) ggL_law_X5_measure
set_option maxRecDepth 20000 in
theorem ggL_law_X5_withdraw : GoodIn wsL_law wsX5_withdraw := goodIn_sub (iw_memby0 [507, 14, 26, 388, 389, 390, 13, 391, 35, 128, 2, 129, 199, 200, 201, 25, 202, 88, 93, 89, 90, 91, 92, 67, 94, 95, 96, 97, 36, 37, 38, 39, 40, 41, 98, 99, 100, 101, 102, 103, 104, 105, 106, 107, 508, 245, 246, 247, 248, 249, 250, 251, 42, 43, 252, 253, 210, 135, 136, 137, 138, 139, 140, 141, 142, 143, 144, 145, 146, 147, 148, 549, 550, 551, 552, 553, 554, 555, 556, 557, 558, 559, 560, 570, 571, 572] rfl) (by decide +kernel)
set_option maxRecDepth 20000 in
theorem gL_law_X5_withdraw : GoodIn wsL_law (wsV RL 91 RX5 yX5_withdraw wsX5_withdraw) := goodIn_app (goodIn_of _ (by decide +kernel)) ggL_law_X5_withdraw
set_option maxRecDepth 20000 in
theorem ggL_law_X5_load : GoodIn wsL_law wsX5_load := goodIn_sub (iw_memby0 [519, 14, 388, 389, 390, 13, 391, 35, 128, 2, 129, 520, 189, 190, 191, 37, 521, 522, 523, 524, 242, 243, 525, 343, 344, 345, 40, 41, 192, 193, 194, 549, 550, 551, 552, 553, 554, 555, 556, 557, 558, 559, 560] rfl) (by decide +kernel)
set_option maxRecDepth 20000 in
theorem gL_law_X5_load : GoodIn wsL_law (wsV RL 21 RX5 yX5_load wsX5_load) := goodIn_app (goodIn_of _ (by decide +kernel)) ggL_law_X5_load
