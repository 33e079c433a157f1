set_option maxRecDepth 20000 in
theorem in_law_wsL_tries_r12 : GoodIn wsL_law wsL_tries_r12 := goodIn_r _ [204, 205, 206, 207, 208, 209, 210, 211, 212, 213, 214, 215, 216, 217, 218, 219, 220, 222, 223, 224, 225, 238, 239, 240] (by decide +kernel) (by decide +kernel)
set_option maxRecDepth 20000 in
theorem in_law_wsL_tries_r13 : GoodIn wsL_law wsL_tries_r13 := goodIn_r _ [241, 242, 243, 244, 245, 246, 247, 248, 249, 250, 251, 501, 502, 503, 504, 505, 506, 507, 508, 24, 359, 509, 423, 510] (by decide +kernel) (by decide +kernel)
set_option maxRecDepth 20000 in
theorem in_law_wsL_tries_r14 : GoodIn wsL_law wsL_tries_r14 := goodIn_r _ [511, 512, 513, 514, 515, 516, 517, 518, 519, 424, 425, 426, 427, 428, 429, 82, 83, 84, 355, 356, 357, 358, 360, 361] (by decide +kernel) (by decide +kernel)
set_option maxRecDepth 20000 in
theorem in_law_wsL_tries_r15 : GoodIn wsL_law wsL_tries_r15 := goodIn_r _ [362, 363, 233, 234, 235, 236, 364, 365, 366, 367, 368, 369, 520, 521, 522, 523, 524, 525, 526, 527, 419, 420, 421, 422] (by decide +kernel) (by decide +kernel)
set_option maxRecDepth 20000 in
theorem in_law_wsL_tries_r16 : GoodIn wsL_law wsL_tries_r16 := goodIn_r _ [528, 529, 530, 349, 350, 351, 352, 353, 354] (by decide +kernel) (by decide +kernel)
theorem ggL_law_L_tries : GoodIn wsL_law wsL_tries := fun w h => (List.mem_cons.mp h).elim (fun e => hd_law_tries w (List.mem_cons.mpr (Or.inl e))) ((goodIn_app (goodIn_app (goodIn_app (goodIn_app (goodIn_app (goodIn_app (goodIn_app (goodIn_app in_law_wsL_tries_r1 (goodIn_app in_law_wsL_tries_r2 (goodIn_app in_law_wsL_tries_r3 (goodIn_app in_law_wsL_tries_r4 (goodIn_app in_law_wsL_tries_r5 (goodIn_app in_law_wsL_tries_r6 (goodIn_app in_law_wsL_tries_r7 (goodIn_app in_law_wsL_tries_r8 (goodIn_app in_law_wsL_tries_r9 (goodIn_app in_law_wsL_tries_r10 (goodIn_app in_law_wsL_tries_r11 (goodIn_app in_law_wsL_tries_r12 (goodIn_app in_law_wsL_tries_r13 (goodIn_app in_law_wsL_tries_r14 (goodIn_app in_law_wsL_tries_r15 (in_law_wsL_tries_r16)))))))))))))))) xs_law_6) xs_law_5) xs_law_3) xs_law_0) xs_law_1) xs_law_4) xs_law_2) w)
set_option maxRecDepth 20000 in
theorem gL_law_L_tries : GoodIn wsL_law (va_wsS RL 113 yL_tries wsL_tries) := goodIn_app (goodIn_of _ (by decide +kernel)) ggL_law_L_tries
