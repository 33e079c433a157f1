set_option maxRecDepth 20000 in
theorem in_law_wsL_tries_r6 : GoodIn wsL_law wsL_tries_r6 := goodIn_r _ [300, 148, 149, 150, 301, 302, 303, 304, 305, 131, 135, 136, 137, 138, 139, 140, 141, 142, 306, 307, 308, 309, 310, 64] (by decide +kernel) (by decide +kernel)
set_option maxRecDepth 20000 in
theorem in_law_wsL_tries_r7 : GoodIn wsL_law wsL_tries_r7 := goodIn_r _ [65, 66, 311, 312, 313, 314, 315, 316, 317, 318, 319, 320, 321, 322, 323, 324, 325, 326, 85, 327, 328, 329, 330, 331] (by decide +kernel) (by decide +kernel)
set_option maxRecDepth 20000 in
theorem in_law_wsL_tries_r8 : GoodIn wsL_law wsL_tries_r8 := goodIn_r _ [332, 333, 334, 335, 336, 337, 338, 339, 340, 341, 342, 343, 344, 345, 496, 497, 498, 499, 500, 124, 125, 126, 109, 110] (by decide +kernel) (by decide +kernel)
set_option maxRecDepth 20000 in
theorem in_law_wsL_tries_r9 : GoodIn wsL_law wsL_tries_r9 := goodIn_r _ [111, 112, 113, 114, 115, 116, 117, 118, 119, 120, 17, 121, 122, 123, 127, 128, 129, 130, 143, 144, 145, 146, 147, 152] (by decide +kernel) (by decide +kernel)
set_option maxRecDepth 20000 in
theorem in_law_wsL_tries_r10 : GoodIn wsL_law wsL_tries_r10 := goodIn_r _ [153, 154, 155, 157, 158, 159, 160, 484, 485, 486, 487, 488, 409, 410, 411, 412, 18, 390, 413, 414, 415, 416, 417, 391] (by decide +kernel) (by decide +kernel)
set_option maxRecDepth 20000 in
theorem in_law_wsL_tries_r11 : GoodIn wsL_law wsL_tries_r11 := goodIn_r _ [392, 393, 386, 387, 388, 389, 252, 253, 254, 255, 196, 197, 198, 199, 221, 188, 189, 190, 191, 192, 193, 194, 195, 203] (by decide +kernel) (by decide +kernel)
