theorem xs_law_6 : GoodIn wsL_law wsX60 := goodIn_sub inlX6 (by decide +kernel)
theorem xs_law_5 : GoodIn wsL_law wsX50 := goodIn_sub inlX5 (by decide +kernel)
theorem xs_law_3 : GoodIn wsL_law wsX30 := goodIn_sub inlX3 (by decide +kernel)
theorem xs_law_0 : GoodIn wsL_law wsX00 := goodIn_sub inlX0 (by decide +kernel)
theorem xs_law_1 : GoodIn wsL_law wsX10 := goodIn_sub inlX1 (by decide +kernel)
theorem xs_law_4 : GoodIn wsL_law wsX40 := goodIn_sub inlX4 (by decide +kernel)
theorem xs_law_2 : GoodIn wsL_law wsX20 := goodIn_sub inlX2 (by decide +kernel)
set_option maxRecDepth 200000 in
set_option maxHeartbeats 4000000 in
theorem hd_law_holds : GoodIn wsL_law [Cond.code yL_holds cL_holds 13 (some .boolean)] := fun w h => by
  have e := List.mem_singleton.mp h
  subst e
  exact ⟨List.mem_of_getElem? (i := 108) rfl, Or.inl rfl⟩
set_option maxRecDepth 20000 in
theorem in_law_wsL_holds_r1 : GoodIn wsL_law wsL_holds_r1 := goodIn_r _ [109, 110, 111, 2, 112, 12, 113, 114, 115, 116, 117, 118, 119, 120, 17, 121, 122, 123, 124, 125, 22, 126, 58, 127] (by decide +kernel) (by decide +kernel)
set_option maxRecDepth 20000 in
theorem in_law_wsL_holds_r2 : GoodIn wsL_law wsL_holds_r2 := goodIn_r _ [128, 129, 38, 130, 96, 131, 132, 133, 134, 135, 136, 137, 138, 95, 139, 140, 141, 142, 92, 143, 144, 145, 34, 146] (by decide +kernel) (by decide +kernel)
set_option maxRecDepth 20000 in
theorem in_law_wsL_holds_r3 : GoodIn wsL_law wsL_holds_r3 := goodIn_r _ [147, 148, 149, 150, 76, 151, 152, 153, 154, 11, 155, 156, 157, 158, 159, 160, 35, 31, 161, 162, 163, 30, 164, 165] (by decide +kernel) (by decide +kernel)
set_option maxRecDepth 20000 in
theorem in_law_wsL_holds_r4 : GoodIn wsL_law wsL_holds_r4 := goodIn_r _ [166, 167, 168, 48, 169, 170, 171, 172, 47, 45, 46, 173, 174, 55, 175, 176, 177, 178, 179, 180, 181, 182, 183, 73] (by decide +kernel) (by decide +kernel)
set_option maxRecDepth 20000 in
theorem in_law_wsL_holds_r5 : GoodIn wsL_law wsL_holds_r5 := goodIn_r _ [184, 185, 186, 187, 75, 188, 189, 190, 191, 192, 193, 194, 195, 196, 197, 198, 199, 200, 201, 202, 203, 204, 205, 206] (by decide +kernel) (by decide +kernel)
set_option maxRecDepth 20000 in
theorem in_law_wsL_holds_r6 : GoodIn wsL_law wsL_holds_r6 := goodIn_r _ [39, 207, 208, 209, 210, 211, 212, 213, 214, 215, 216, 217, 218, 219, 220, 221, 222, 223, 224, 225, 90, 91, 226, 227] (by decide +kernel) (by decide +kernel)
set_option maxRecDepth 20000 in
theorem in_law_wsL_holds_r7 : GoodIn wsL_law wsL_holds_r7 := goodIn_r _ [107, 228, 229, 230, 231, 232, 233, 234, 235, 236, 237, 238, 239, 240, 241, 242, 243, 244, 245, 246, 247, 248, 249, 250] (by decide +kernel) (by decide +kernel)
