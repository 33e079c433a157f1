set_option maxRecDepth 200000 in
set_option maxHeartbeats 4000000 in
theorem hd_law_tries : GoodIn wsL_law [Cond.code yL_tries cL_tries 26 (some .boolean)] := fun w h => by
  have e := List.mem_singleton.mp h
  subst e
  exact ⟨List.mem_of_getElem? (i := 491) rfl, Or.inl rfl⟩
set_option maxRecDepth 20000 in
theorem in_law_wsL_tries_r1 : GoodIn wsL_law wsL_tries_r1 := goodIn_r _ [398, 399, 107, 400, 401, 492, 493, 494, 2, 495, 13, 12, 200, 201, 202, 256, 257, 258, 11, 259, 31, 35, 39, 156] (by decide +kernel) (by decide +kernel)
set_option maxRecDepth 20000 in
theorem in_law_wsL_tries_r2 : GoodIn wsL_law wsL_tries_r2 := goodIn_r _ [260, 261, 262, 263, 264, 30, 265, 45, 46, 47, 48, 266, 267, 268, 22, 269, 58, 270, 174, 55, 175, 271, 272, 273] (by decide +kernel) (by decide +kernel)
set_option maxRecDepth 20000 in
theorem in_law_wsL_tries_r3 : GoodIn wsL_law wsL_tries_r3 := goodIn_r _ [274, 275, 276, 277, 34, 278, 72, 73, 74, 75, 76, 77, 78, 79, 279, 280, 281, 282, 38, 283, 90, 91, 92, 93] (by decide +kernel) (by decide +kernel)
set_option maxRecDepth 20000 in
theorem in_law_wsL_tries_r4 : GoodIn wsL_law wsL_tries_r4 := goodIn_r _ [94, 95, 96, 284, 285, 286, 287, 288, 289, 161, 162, 163, 164, 165, 166, 167, 168, 169, 170, 171, 172, 173, 176, 132] (by decide +kernel) (by decide +kernel)
set_option maxRecDepth 20000 in
theorem in_law_wsL_tries_r5 : GoodIn wsL_law wsL_tries_r5 := goodIn_r _ [133, 134, 290, 291, 292, 293, 177, 178, 179, 180, 181, 182, 183, 184, 185, 186, 187, 151, 294, 295, 296, 297, 298, 299] (by decide +kernel) (by decide +kernel)
