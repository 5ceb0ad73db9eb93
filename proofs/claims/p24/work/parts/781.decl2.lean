/-! isFound's words among the law's, in pieces -/
theorem goodIn_cs {big a : List Cond} {c : Cond} (h1 : GoodIn big [c]) (h2 : GoodIn big a) : GoodIn big (c :: a) := fun w h => (List.mem_cons.mp h).elim (fun e => h1 w (List.mem_singleton.mpr e)) (h2 w)
set_option maxRecDepth 20000 in
theorem gF_0 : GoodIn wsL_law [.code yL_isFound cL_isFound 12 (some .boolean)] := goodIn_r _ [277] (by decide +kernel) (by decide +kernel)
set_option maxRecDepth 20000 in
theorem gF_r1 : GoodIn wsL_law wsL_isFound_r1 := goodIn_r _ [77, 78, 79, 2, 80, 25, 81, 82, 83, 24, 84, 85, 86, 87, 88, 89, 90, 91, 92, 93, 94, 95, 96, 97] (by decide +kernel) (by decide +kernel)
set_option maxRecDepth 20000 in
theorem gF_r2 : GoodIn wsL_law wsL_isFound_r2 := goodIn_r _ [98, 52, 270, 271, 272, 273, 13, 110, 111, 112, 113, 114, 115, 116, 117, 118, 119, 120, 121, 122, 123, 124, 125, 126] (by decide +kernel) (by decide +kernel)
set_option maxRecDepth 20000 in
theorem gF_r3 : GoodIn wsL_law wsL_isFound_r3 := goodIn_r _ [8, 9, 127, 128, 129, 130, 131, 132, 274, 166, 167, 12, 168, 37, 169, 170, 171, 172, 173, 174, 175, 36, 176, 42] (by decide +kernel) (by decide +kernel)
set_option maxRecDepth 20000 in
theorem gF_r4 : GoodIn wsL_law wsL_isFound_r4 := goodIn_r _ [177, 178, 179, 180, 181, 182, 183, 184, 185, 186, 187, 188, 189, 190, 191, 192, 193, 194, 195, 278, 279, 280, 281, 282] (by decide +kernel) (by decide +kernel)
set_option maxRecDepth 20000 in
theorem gF_r5 : GoodIn wsL_law wsL_isFound_r5 := goodIn_r _ [283, 284, 285, 286, 287, 288, 289, 290, 291, 292, 293, 294, 295, 296, 297, 298, 299, 300, 301, 302, 303, 304, 305, 306] (by decide +kernel) (by decide +kernel)
set_option maxRecDepth 20000 in
theorem gF_r6 : GoodIn wsL_law wsL_isFound_r6 := goodIn_r _ [307, 308, 309, 310, 311, 26, 151, 152, 153, 312, 313, 314, 315, 316, 317, 318, 319, 320, 321, 322, 323, 324, 325, 326] (by decide +kernel) (by decide +kernel)
set_option maxRecDepth 20000 in
theorem gF_r7 : GoodIn wsL_law wsL_isFound_r7 := goodIn_r _ [327, 220, 328, 329, 330, 164, 331, 332, 333, 334, 222, 223, 224, 204, 212, 213, 214, 215, 335, 336, 337, 338, 339, 340] (by decide +kernel) (by decide +kernel)
set_option maxRecDepth 20000 in
theorem gF_r8 : GoodIn wsL_law wsL_isFound_r8 := goodIn_r _ [341, 342, 343, 253, 254, 255, 256, 17, 133, 134, 135, 16, 136, 47, 137, 138, 344, 345, 346, 347, 348, 349, 350, 351] (by decide +kernel) (by decide +kernel)
set_option maxRecDepth 20000 in
theorem gF_r9 : GoodIn wsL_law wsL_isFound_r9 := goodIn_r _ [352, 353, 354, 355, 356, 357, 165, 245, 246, 247, 248, 249, 250, 251, 252, 358, 359, 360, 361, 21, 362, 363, 364, 20] (by decide +kernel) (by decide +kernel)
set_option maxRecDepth 20000 in
theorem gF_r10 : GoodIn wsL_law wsL_isFound_r10 := goodIn_r _ [365, 57, 366, 367, 368, 29, 369, 370, 371, 372, 373, 374, 375, 376, 377, 378, 379, 380, 381, 382, 383, 384, 385, 386] (by decide +kernel) (by decide +kernel)
set_option maxRecDepth 20000 in
theorem gF_r11 : GoodIn wsL_law wsL_isFound_r11 := goodIn_r _ [387, 63, 388, 389, 390, 391, 235, 236, 237, 238, 239, 240, 241, 242, 243, 244, 392, 393, 394, 395, 396, 397, 398, 399] (by decide +kernel) (by decide +kernel)
set_option maxRecDepth 20000 in
theorem gF_r12 : GoodIn wsL_law wsL_isFound_r12 := goodIn_r _ [400, 401, 402, 403, 404, 405, 406, 407, 408, 409, 228, 229, 230, 231, 232, 233, 234, 410, 411, 412, 413, 414, 415, 416] (by decide +kernel) (by decide +kernel)
set_option maxRecDepth 20000 in
theorem gF_r13 : GoodIn wsL_law wsL_isFound_r13 := goodIn_r _ [417, 418, 419, 420, 421, 422, 423, 424, 425, 426, 427, 428, 429, 430, 431, 432, 433, 434, 435, 436, 437, 30, 438, 439] (by decide +kernel) (by decide +kernel)
set_option maxRecDepth 20000 in
theorem gF_r14 : GoodIn wsL_law wsL_isFound_r14 := goodIn_r _ [440, 441, 442, 443, 444, 445, 446, 447] (by decide +kernel) (by decide +kernel)
set_option maxRecDepth 20000 in
theorem gF_wsX90 : GoodIn wsL_law wsX90 := goodIn_sub inlX9 (by decide +kernel)
set_option maxRecDepth 20000 in
theorem gF_wsX50 : GoodIn wsL_law wsX50 := goodIn_sub inlX5 (by decide +kernel)
set_option maxRecDepth 20000 in
theorem gF_wsX00 : GoodIn wsL_law wsX00 := goodIn_sub inlX0 (by decide +kernel)
set_option maxRecDepth 20000 in
theorem gF_wsX80 : GoodIn wsL_law wsX80 := goodIn_sub inlX8 (by decide +kernel)
set_option maxRecDepth 20000 in
theorem gF_wsX10 : GoodIn wsL_law wsX10 := goodIn_sub inlX1 (by decide +kernel)
set_option maxRecDepth 20000 in
theorem gF_wsX20 : GoodIn wsL_law wsX20 := goodIn_sub inlX2 (by decide +kernel)
set_option maxRecDepth 20000 in
theorem gF_wsX60 : GoodIn wsL_law wsX60 := goodIn_sub inlX6 (by decide +kernel)
set_option maxRecDepth 20000 in
theorem gF_wsX70 : GoodIn wsL_law wsX70 := goodIn_sub inlX7 (by decide +kernel)
set_option maxRecDepth 20000 in
theorem gF_wsX40 : GoodIn wsL_law wsX40 := goodIn_sub inlX4 (by decide +kernel)
set_option maxRecDepth 20000 in
theorem ggL_law_L_isFound : GoodIn wsL_law wsL_isFound := goodIn_ca (goodIn_ca (goodIn_cs gF_0 (goodIn_app (goodIn_app (goodIn_app (goodIn_app (goodIn_app (goodIn_app (goodIn_app (goodIn_app (goodIn_app (goodIn_app gF_r1 (goodIn_app gF_r2 (goodIn_app gF_r3 (goodIn_app gF_r4 (goodIn_app gF_r5 (goodIn_app gF_r6 (goodIn_app gF_r7 (goodIn_app gF_r8 (goodIn_app gF_r9 (goodIn_app gF_r10 (goodIn_app gF_r11 (goodIn_app gF_r12 (goodIn_app gF_r13 gF_r14))))))))))))) gF_wsX90) gF_wsX50) gF_wsX00) gF_wsX80) gF_wsX10) gF_wsX20) gF_wsX60) gF_wsX70) gF_wsX40)) (goodIn_sub (fun _ h => List.mem_append_left _ (List.mem_append_left _ (List.mem_append_right _ h))) (by decide +kernel))) (goodIn_sub (fun _ h => List.mem_append_right _ h) (by decide +kernel))
set_option maxRecDepth 20000 in
theorem gL_law_L_isFound : GoodIn wsL_law (va_wsS RL 115 yL_isFound wsL_isFound) := goodIn_app (goodIn_of _ (by decide +kernel)) ggL_law_L_isFound
