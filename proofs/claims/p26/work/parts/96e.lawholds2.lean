set_option maxRecDepth 20000 in
theorem in_law_wsL_holds_r8 : GoodIn wsL_law wsL_holds_r8 := goodIn_r _ [251, 252, 253, 254, 255, 13, 256, 257, 258, 259, 260, 261, 262, 263, 264, 265, 266, 267, 268, 269, 270, 271, 272, 273] (by decide +kernel) (by decide +kernel)
set_option maxRecDepth 20000 in
theorem in_law_wsL_holds_r9 : GoodIn wsL_law wsL_holds_r9 := goodIn_r _ [274, 275, 276, 277, 278, 72, 74, 77, 78, 79, 279, 280, 281, 282, 283, 93, 94, 284, 285, 286, 287, 288, 289, 290] (by decide +kernel) (by decide +kernel)
set_option maxRecDepth 20000 in
theorem in_law_wsL_holds_r10 : GoodIn wsL_law wsL_holds_r10 := goodIn_r _ [291, 292, 293, 294, 295, 296, 297, 298, 299, 300, 301, 302, 303, 304, 305, 306, 307, 308, 309, 310, 64, 65, 66, 311] (by decide +kernel) (by decide +kernel)
set_option maxRecDepth 20000 in
theorem in_law_wsL_holds_r11 : GoodIn wsL_law wsL_holds_r11 := goodIn_r _ [312, 313, 314, 315, 316, 317, 318, 319, 320, 321, 322, 323, 324, 325, 326, 85, 327, 328, 329, 330, 331, 332, 333, 334] (by decide +kernel) (by decide +kernel)
set_option maxRecDepth 20000 in
theorem in_law_wsL_holds_r12 : GoodIn wsL_law wsL_holds_r12 := goodIn_r _ [335, 336, 337, 338, 339, 340, 341, 342, 343, 344, 345, 346, 347, 348, 349, 350, 351, 352, 353, 354, 355, 356, 357, 358] (by decide +kernel) (by decide +kernel)
set_option maxRecDepth 20000 in
theorem in_law_wsL_holds_r13 : GoodIn wsL_law wsL_holds_r13 := goodIn_r _ [359, 360, 361, 362, 363, 364, 365, 366, 367, 368, 369, 370, 371, 372, 373, 374, 375, 376, 377, 378, 379, 380, 381, 382] (by decide +kernel) (by decide +kernel)
set_option maxRecDepth 20000 in
theorem in_law_wsL_holds_r14 : GoodIn wsL_law wsL_holds_r14 := goodIn_r _ [383, 384, 385] (by decide +kernel) (by decide +kernel)
theorem ggL_law_L_holds : GoodIn wsL_law wsL_holds := fun w h => (List.mem_cons.mp h).elim (fun e => hd_law_holds w (List.mem_cons.mpr (Or.inl e))) ((goodIn_app (goodIn_app (goodIn_app (goodIn_app (goodIn_app (goodIn_app (goodIn_app (goodIn_app in_law_wsL_holds_r1 (goodIn_app in_law_wsL_holds_r2 (goodIn_app in_law_wsL_holds_r3 (goodIn_app in_law_wsL_holds_r4 (goodIn_app in_law_wsL_holds_r5 (goodIn_app in_law_wsL_holds_r6 (goodIn_app in_law_wsL_holds_r7 (goodIn_app in_law_wsL_holds_r8 (goodIn_app in_law_wsL_holds_r9 (goodIn_app in_law_wsL_holds_r10 (goodIn_app in_law_wsL_holds_r11 (goodIn_app in_law_wsL_holds_r12 (goodIn_app in_law_wsL_holds_r13 (in_law_wsL_holds_r14)))))))))))))) xs_law_6) xs_law_5) xs_law_4) xs_law_1) xs_law_2) xs_law_0) xs_law_3) w)
set_option maxRecDepth 20000 in
theorem gL_law_L_holds : GoodIn wsL_law (va_wsS RL 101 yL_holds wsL_holds) := goodIn_app (goodIn_of _ (by decide +kernel)) ggL_law_L_holds
