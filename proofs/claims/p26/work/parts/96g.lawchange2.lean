set_option maxRecDepth 20000 in
theorem in_law_wsL_change_r7 : GoodIn wsL_law wsL_change_r7 := goodIn_r _ [245, 434, 185, 186, 187, 123, 124, 125, 126, 435, 436, 437, 438, 17, 121, 439, 440, 441, 442, 443, 444, 445, 446, 447] (by decide +kernel) (by decide +kernel)
set_option maxRecDepth 20000 in
theorem in_law_wsL_change_r8 : GoodIn wsL_law wsL_change_r8 := goodIn_r _ [448, 16, 449, 450, 102, 451, 452, 453, 454, 455, 114, 115, 456, 457, 458, 459, 460, 461, 462, 463, 464, 465, 466, 467] (by decide +kernel) (by decide +kernel)
set_option maxRecDepth 20000 in
theorem in_law_wsL_change_r9 : GoodIn wsL_law wsL_change_r9 := goodIn_r _ [468, 469, 470, 471, 472, 473, 310, 474, 332, 333, 334, 131, 475, 476, 477, 478, 479, 320, 321, 322, 480, 481, 482, 483] (by decide +kernel) (by decide +kernel)
set_option maxRecDepth 20000 in
theorem in_law_wsL_change_r10 : GoodIn wsL_law wsL_change_r10 := goodIn_r _ [484, 485, 486, 487, 488, 117, 286, 287, 288, 289, 161, 162, 163, 164, 165, 166, 167, 168, 169, 290, 291, 292, 293, 177] (by decide +kernel) (by decide +kernel)
set_option maxRecDepth 20000 in
theorem in_law_wsL_change_r11 : GoodIn wsL_law wsL_change_r11 := goodIn_r _ [178, 179, 180, 181, 182, 183, 184, 294, 295, 296, 297, 298, 299, 300, 301, 302, 303, 304, 305, 135, 136, 137, 138, 139] (by decide +kernel) (by decide +kernel)
set_option maxRecDepth 20000 in
theorem in_law_wsL_change_r12 : GoodIn wsL_law wsL_change_r12 := goodIn_r _ [140, 141, 142, 306, 307, 308, 309, 311, 312, 313, 314, 315, 316, 317, 318, 319, 323, 324, 325, 326, 327, 328, 329, 330] (by decide +kernel) (by decide +kernel)
set_option maxRecDepth 20000 in
theorem in_law_wsL_change_r13 : GoodIn wsL_law wsL_change_r13 := goodIn_r _ [331, 335, 336, 337, 338, 339, 340, 341, 342, 343, 344, 345] (by decide +kernel) (by decide +kernel)
theorem ggL_law_L_change : GoodIn wsL_law wsL_change := fun w h => (List.mem_cons.mp h).elim (fun e => hd_law_change w (List.mem_cons.mpr (Or.inl e))) ((goodIn_app (goodIn_app (goodIn_app (goodIn_app (goodIn_app (goodIn_app (goodIn_app (goodIn_app in_law_wsL_change_r1 (goodIn_app in_law_wsL_change_r2 (goodIn_app in_law_wsL_change_r3 (goodIn_app in_law_wsL_change_r4 (goodIn_app in_law_wsL_change_r5 (goodIn_app in_law_wsL_change_r6 (goodIn_app in_law_wsL_change_r7 (goodIn_app in_law_wsL_change_r8 (goodIn_app in_law_wsL_change_r9 (goodIn_app in_law_wsL_change_r10 (goodIn_app in_law_wsL_change_r11 (goodIn_app in_law_wsL_change_r12 (in_law_wsL_change_r13))))))))))))) xs_law_6) xs_law_5) xs_law_3) xs_law_0) xs_law_1) xs_law_4) xs_law_2) w)
set_option maxRecDepth 20000 in
theorem gL_law_L_change : GoodIn wsL_law (va_wsS RL 109 yL_change wsL_change) := goodIn_app (goodIn_of _ (by decide +kernel)) ggL_law_L_change
