set_option maxRecDepth 20000 in
theorem gL_law_X5_bestPeriod : GoodIn wsL_law (wsV RL 105 RX5 yX5_bestPeriod wsX5_bestPeriod) := goodIn_app (goodIn_of _ (by decide +kernel)) ggL_law_X5_bestPeriod
set_option maxRecDepth 20000 in
theorem ggL_law_X5_quickest : GoodIn wsL_law wsX5_quickest := goodIn_sub (iw_memby0 [387, 14, 22, 388, 389, 390, 13, 391, 35, 128, 2, 129, 392, 139, 140, 141, 36, 393, 271, 272, 394, 217, 218, 21, 219, 57, 58, 220, 221, 222, 223, 224, 135, 136, 137, 138, 142, 143, 144, 145, 146, 147, 148, 225, 189, 190, 191, 37, 42, 43, 395, 305, 306, 307, 61, 308, 59, 309, 310, 311, 312, 60, 313, 314, 315, 316, 317, 318, 319, 320, 396, 322, 323, 324, 397, 549, 550, 551, 552, 553, 554, 555, 556, 557, 558, 559, 560, 565, 566, 567, 568, 569] rfl) (by decide +kernel)
set_option maxRecDepth 20000 in
theorem gL_law_X5_quickest : GoodIn wsL_law (wsV RL 46 RX5 yX5_quickest wsX5_quickest) := goodIn_app (goodIn_of _ (by decide +kernel)) ggL_law_X5_quickest
set_option maxRecDepth 20000 in
theorem ggL_law_L_low : GoodIn wsL_law wsL_low := goodIn_sub (iw_memby0 [400, 401] rfl) (by decide +kernel)
set_option maxRecDepth 20000 in
theorem gL_law_L_low : GoodIn wsL_law (va_wsS RL 66 yL_low wsL_low) := goodIn_app (goodIn_of _ (by decide +kernel)) ggL_law_L_low
set_option maxRecDepth 20000 in
theorem ggL_law_X5_addNode : GoodIn wsL_law wsX5_addNode := goodIn_sub (iw_memby0 [405, 14, 26, 209, 166, 2, 167, 210, 135, 136, 13, 137, 35, 138, 139, 140, 141, 36, 128, 129, 142, 143, 144, 145, 146, 147, 148, 199, 200, 201, 25, 202, 88, 93, 89, 90, 91, 92, 67, 94, 95, 96, 97, 37, 38, 39, 40, 41, 98, 99, 100, 101, 102, 103, 104, 105, 106, 107, 406, 169, 170, 171, 42, 43, 549, 550, 551, 552, 553, 554, 555, 556, 557, 558, 559, 560, 570, 571, 572] rfl) (by decide +kernel)
set_option maxRecDepth 20000 in
theorem gL_law_X5_addNode : GoodIn wsL_law (wsV RL 69 RX5 yX5_addNode wsX5_addNode) := goodIn_app (goodIn_of _ (by decide +kernel)) ggL_law_X5_addNode
set_option maxRecDepth 20000 in
theorem ggL_law_X5_link : GoodIn wsL_law wsX5_link := goodIn_sub (iw_memby0 [410, 14, 26, 388, 389, 390, 13, 391, 35, 128, 2, 129, 209, 166, 167, 411, 185, 186, 187, 188, 189, 190, 191, 37, 192, 193, 194, 210, 135, 136, 137, 138, 139, 140, 141, 36, 142, 143, 144, 145, 146, 147, 148, 199, 200, 201, 25, 202, 88, 93, 89, 90, 91, 92, 67, 94, 95, 96, 97, 38, 39, 40, 41, 98, 99, 100, 101, 102, 103, 104, 105, 106, 107, 412, 196, 197, 198, 42, 43, 549, 550, 551, 552, 553, 554, 555, 556, 557, 558, 559, 560, 570, 571, 572] rfl) (by decide +kernel)
set_option maxRecDepth 20000 in
theorem gL_law_X5_link : GoodIn wsL_law (wsV RL 75 RX5 yX5_link wsX5_link) := goodIn_app (goodIn_of _ (by decide +kernel)) ggL_law_X5_link
set_option maxRecDepth 20000 in
theorem ggL_law_X5_addSensor : GoodIn wsL_law wsX5_addSensor := goodIn_sub (iw_memby0 [416, 14, 26, 388, 389, 390, 13, 391, 35, 128, 2, 129, 209, 166, 167, 210, 135, 136, 137, 138, 139, 140, 141, 36, 142, 143, 144, 145, 146, 147, 148, 199, 200, 201, 25, 202, 88, 93, 89, 90, 91, 92, 67, 94, 95, 96, 97, 37, 38, 39, 40, 41, 98, 99, 100, 101, 102, 103, 104, 105, 106, 107, 417, 177, 178, 179, 42, 43, 549, 550, 551, 552, 553, 554, 555, 556, 557, 558, 559, 560, 570, 571, 572] rfl) (by decide +kernel)
set_option maxRecDepth 20000 in
theorem gL_law_X5_addSensor : GoodIn wsL_law (wsV RL 81 RX5 yX5_addSensor wsX5_addSensor) := goodIn_app (goodIn_of _ (by decide +kernel)) ggL_law_X5_addSensor
set_option maxRecDepth 20000 in
theorem ggL_law_X5_ask : GoodIn wsL_law wsX5_ask := goodIn_sub (iw_memby0 [421, 14, 208, 26, 388, 389, 390, 13, 391, 35, 128, 2, 129, 209, 166, 167, 210, 135, 136, 137, 138, 139, 140, 141, 36, 142, 143, 144, 145, 146, 147, 148, 199, 200, 201, 25, 202, 88, 93, 89, 90, 91, 92, 67, 94, 95, 96, 97, 37, 38, 39, 40, 41, 98, 99, 100, 101, 102, 103, 104, 105, 106, 107, 422, 423, 424, 425, 42, 43, 242, 243, 549, 550, 551, 552, 553, 554, 555, 556, 557, 558, 559, 560, 570, 571, 572] rfl) (by decide +kernel)
set_option maxRecDepth 20000 in
theorem gL_law_X5_ask : GoodIn wsL_law (wsV RL 87 RX5 yX5_ask wsX5_ask) := goodIn_app (goodIn_of _ (by decide +kernel)) ggL_law_X5_ask
set_option maxRecDepth 20000 in
theorem ggL_law_X5_sensor : GoodIn wsL_law wsX5_sensor := goodIn_sub (iw_memby0 [429, 14, 388, 389, 390, 13, 391, 35, 128, 2, 129, 209, 166, 167, 430, 261, 262, 263, 38, 549, 550, 551, 552, 553, 554, 555, 556, 557, 558, 559, 560] rfl) (by decide +kernel)
set_option maxRecDepth 20000 in
theorem gL_law_X5_sensor : GoodIn wsL_law (wsV RL 40 RX5 yX5_sensor wsX5_sensor) := goodIn_app (goodIn_of _ (by decide +kernel)) ggL_law_X5_sensor
