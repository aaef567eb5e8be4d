theorem mem_places {big ws : List Cond} (ps : List Nat) (hp : ws = ps.filterMap (fun i => big[i]?)) : ∀ w ∈ ws, w ∈ big := by
  intro w hw
  rw [hp] at hw
  obtain ⟨i, -, hi⟩ := List.mem_filterMap.mp hw
  exact List.mem_of_getElem? hi
set_option maxRecDepth 100000 in
theorem wsL_in_r1 : ∀ w ∈ wsL_law_r1, w ∈ lw_tbl := mem_places [9, 10, 1, 624, 11, 12, 13, 14, 15, 16, 17, 18, 2, 230, 231, 47, 232, 164, 165, 6, 233, 195, 196, 7] (by decide +kernel)
set_option maxRecDepth 100000 in
theorem wsL_in_r2 : ∀ w ∈ wsL_law_r2, w ∈ lw_tbl := mem_places [234, 19, 20, 21, 22, 23, 132, 25, 134, 27, 137, 140, 48, 142, 31, 3, 49, 4, 69, 5, 33, 34, 35, 51] (by decide +kernel)
set_option maxRecDepth 100000 in
theorem wsL_in_r3 : ∀ w ∈ wsL_law_r3, w ∈ lw_tbl := mem_places [52, 53, 60, 71, 72, 73, 167, 168, 169, 170, 171, 172, 174, 175, 198, 199, 200, 229, 201, 271, 272, 0, 273, 274] (by decide +kernel)
set_option maxRecDepth 100000 in
theorem wsL_in_r4 : ∀ w ∈ wsL_law_r4, w ∈ lw_tbl := mem_places [621, 622, 623, 449, 275, 276, 277, 278, 246, 247, 248, 249, 126, 250, 251, 252, 253, 125, 38, 41, 616, 617, 618, 619] (by decide +kernel)
set_option maxRecDepth 100000 in
theorem wsL_in_r5 : ∀ w ∈ wsL_law_r5, w ∈ lw_tbl := mem_places [133, 37, 40, 620, 319, 320, 321, 262, 263, 264, 265, 266, 267, 269, 143, 306, 307, 308, 309, 135, 131, 310, 311, 312] (by decide +kernel)
set_option maxRecDepth 100000 in
theorem wsL_in_r6 : ∀ w ∈ wsL_law_r6, w ∈ lw_tbl := mem_places [313, 127, 314, 315, 316, 317, 318, 323, 324, 325, 326, 327, 328, 123, 329, 330, 331, 332, 130, 290, 291, 292, 293, 74] (by decide +kernel)
set_option maxRecDepth 100000 in
theorem wsL_in_r7 : ∀ w ∈ wsL_law_r7, w ∈ lw_tbl := mem_places [333, 334, 335, 336, 81, 78, 337, 338, 339, 340, 92, 341, 342, 343, 344, 345, 346, 347, 348, 76, 80, 83, 85, 89] (by decide +kernel)
set_option maxRecDepth 100000 in
theorem wsL_in_r8 : ∀ w ∈ wsL_law_r8, w ∈ lw_tbl := mem_places [420, 421, 422, 423, 416, 417, 418, 419, 94, 376, 377, 378, 379, 177, 178, 129, 138, 91, 87, 380, 381, 382, 383, 384] (by decide +kernel)
set_option maxRecDepth 100000 in
theorem wsL_in_r9 : ∀ w ∈ wsL_law_r9, w ∈ lw_tbl := mem_places [385, 386, 366, 367, 368, 57, 404, 405, 406, 407, 408, 409, 410, 411, 412, 397, 398, 399, 400, 401, 402, 403, 424, 425] (by decide +kernel)
set_option maxRecDepth 100000 in
theorem wsL_in_r10 : ∀ w ∈ wsL_law_r10, w ∈ lw_tbl := mem_places [426, 427, 428, 429, 430, 431, 432, 433, 434, 435, 436, 437, 438, 439, 440, 441, 442, 443, 444, 136, 75, 55, 445, 446] (by decide +kernel)
set_option maxRecDepth 100000 in
theorem wsL_in_r11 : ∀ w ∈ wsL_law_r11, w ∈ lw_tbl := mem_places [447, 448, 97, 450, 451, 452, 453, 139, 93, 99, 79, 82, 361, 362, 363, 364, 454, 455, 456, 457, 458, 459, 460, 461] (by decide +kernel)
