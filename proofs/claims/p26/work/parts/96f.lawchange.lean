set_option maxRecDepth 200000 in
set_option maxHeartbeats 4000000 in
theorem hd_law_change : GoodIn wsL_law [Cond.code yL_change cL_change 6 (some .int)] := fun w h => by
  have e := List.mem_singleton.mp h
  subst e
  exact ⟨List.mem_of_getElem? (i := 404) rfl, Or.inl rfl⟩
set_option maxRecDepth 20000 in
theorem in_law_wsL_change_r1 : GoodIn wsL_law wsL_change_r1 := goodIn_r _ [398, 399, 107, 400, 401, 405, 406, 407, 2, 408, 12, 359, 113, 234, 235, 236, 200, 201, 202, 409, 410, 411, 412, 18] (by decide +kernel) (by decide +kernel)
set_option maxRecDepth 20000 in
theorem in_law_wsL_change_r2 : GoodIn wsL_law wsL_change_r2 := goodIn_r _ [390, 122, 413, 174, 55, 175, 414, 415, 416, 417, 391, 392, 393, 256, 257, 258, 11, 259, 31, 35, 39, 156, 260, 261] (by decide +kernel) (by decide +kernel)
set_option maxRecDepth 20000 in
theorem in_law_wsL_change_r3 : GoodIn wsL_law wsL_change_r3 := goodIn_r _ [262, 263, 264, 30, 265, 45, 46, 47, 48, 266, 267, 268, 22, 269, 58, 270, 271, 272, 273, 274, 275, 276, 277, 34] (by decide +kernel) (by decide +kernel)
set_option maxRecDepth 20000 in
theorem in_law_wsL_change_r4 : GoodIn wsL_law wsL_change_r4 := goodIn_r _ [278, 72, 73, 74, 75, 76, 77, 78, 79, 279, 280, 281, 282, 38, 283, 90, 91, 92, 93, 94, 95, 96, 284, 285] (by decide +kernel) (by decide +kernel)
set_option maxRecDepth 20000 in
theorem in_law_wsL_change_r5 : GoodIn wsL_law wsL_change_r5 := goodIn_r _ [418, 60, 61, 62, 63, 64, 65, 66, 364, 170, 171, 172, 173, 176, 132, 133, 134, 419, 420, 421, 422, 363, 220, 423] (by decide +kernel) (by decide +kernel)
set_option maxRecDepth 20000 in
theorem in_law_wsL_change_r6 : GoodIn wsL_law wsL_change_r6 := goodIn_r _ [424, 425, 426, 427, 116, 242, 243, 248, 249, 250, 428, 148, 149, 150, 151, 429, 82, 83, 84, 85, 430, 431, 432, 433] (by decide +kernel) (by decide +kernel)
