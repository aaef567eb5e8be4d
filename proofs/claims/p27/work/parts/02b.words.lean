set_option maxRecDepth 100000 in
theorem wsL_in_r12 : ∀ w ∈ wsL_law_r12, w ∈ lw_tbl := mem_places [462, 463, 464, 465, 466, 467, 468, 469, 470, 477, 478, 479, 480, 141, 481, 482, 483, 484, 485, 100, 103, 486, 487, 488] (by decide +kernel)
set_option maxRecDepth 100000 in
theorem wsL_in_r13 : ∀ w ∈ wsL_law_r13, w ∈ lw_tbl := mem_places [489, 490, 491, 8, 492, 625, 626, 627, 628, 124, 90, 96, 629, 630, 631, 498, 499, 500, 501, 102, 392, 393, 394, 395] (by decide +kernel)
set_option maxRecDepth 100000 in
theorem wsL_in_r14 : ∀ w ∈ wsL_law_r14, w ∈ lw_tbl := mem_places [413, 414, 415, 396, 349, 350, 351, 352, 56, 59, 61, 286, 287, 288, 289, 294, 295, 296, 297, 298, 299, 300, 301, 353] (by decide +kernel)
set_option maxRecDepth 100000 in
theorem wsL_in_r15 : ∀ w ∈ wsL_law_r15, w ∈ lw_tbl := mem_places [354, 355, 356, 357, 358, 359, 360, 77, 86, 365, 282, 283, 284, 285, 128, 203, 302, 303, 304, 305, 493, 494, 495, 496] (by decide +kernel)
set_option maxRecDepth 100000 in
theorem wsL_in_r16 : ∀ w ∈ wsL_law_r16, w ∈ lw_tbl := mem_places [497, 372, 373, 374, 375, 179, 391, 173, 387, 388, 389, 390, 527, 528, 529, 530, 176, 606, 607, 608, 609, 205, 207, 209] (by decide +kernel)
set_option maxRecDepth 100000 in
theorem wsL_in_r17 : ∀ w ∈ wsL_law_r17, w ∈ lw_tbl := mem_places [211, 213, 586, 587, 588, 589, 204, 202, 590, 591, 592, 593, 206, 208, 210, 212, 594, 595, 596, 597, 598, 599, 600, 601] (by decide +kernel)
set_option maxRecDepth 100000 in
theorem wsL_in_r18 : ∀ w ∈ wsL_law_r18, w ∈ lw_tbl := mem_places [602, 603, 604, 605, 610, 611, 612, 531, 532, 533, 534, 535, 536, 537, 538, 539, 540, 541, 542, 36, 39, 543, 544, 545] (by decide +kernel)
set_option maxRecDepth 100000 in
theorem wsL_in_r19 : ∀ w ∈ wsL_law_r19, w ∈ lw_tbl := mem_places [546, 54, 58, 547, 548, 549, 550, 84, 88, 95, 98, 101, 552, 553, 554, 555, 254, 255, 256, 257, 258, 259, 260, 261] (by decide +kernel)
set_option maxRecDepth 100000 in
theorem wsL_in_r20 : ∀ w ∈ wsL_law_r20, w ∈ lw_tbl := mem_places [279, 280, 281, 369, 370, 371, 471, 472, 473, 474, 475, 476, 502, 503, 504, 505, 506, 507, 508, 509, 510, 511, 512, 513] rfl
set_option maxRecDepth 100000 in
theorem wsL_in_r21 : ∀ w ∈ wsL_law_r21, w ∈ lw_tbl := mem_places [514, 515, 516, 517, 518, 519, 520, 521, 522, 523, 524, 525, 526, 551, 556, 557, 558, 563, 578, 579, 580, 581, 559, 560] (by decide +kernel)
set_option maxRecDepth 100000 in
theorem wsL_in_r22 : ∀ w ∈ wsL_law_r22, w ∈ lw_tbl := mem_places [561, 562, 564, 565, 566, 567, 568, 569, 570, 571, 572, 573, 574, 575, 576, 577, 582, 583, 584, 585, 613, 614, 615] (by decide +kernel)
set_option maxRecDepth 100000 in
theorem wsX60_in : ∀ w ∈ wsX60, w ∈ lw_tbl := by decide +kernel
set_option maxRecDepth 100000 in
theorem wsX30_in : ∀ w ∈ wsX30, w ∈ lw_tbl := by decide +kernel
set_option maxRecDepth 100000 in
theorem wsX20_in : ∀ w ∈ wsX20, w ∈ lw_tbl := by decide +kernel
set_option maxRecDepth 100000 in
theorem wsX40_in : ∀ w ∈ wsX40, w ∈ lw_tbl := by decide +kernel
set_option maxRecDepth 100000 in
theorem wsX50_in : ∀ w ∈ wsX50, w ∈ lw_tbl := by decide +kernel
set_option maxRecDepth 100000 in
theorem wsX10_in : ∀ w ∈ wsX10, w ∈ lw_tbl := by decide +kernel
set_option maxRecDepth 100000 in
theorem wsX00_in : ∀ w ∈ wsX00, w ∈ lw_tbl := by decide +kernel
theorem mem_app {big a b : List Cond} (ha : ∀ w ∈ a, w ∈ big) (hb : ∀ w ∈ b, w ∈ big) : ∀ w ∈ a ++ b, w ∈ big := fun w h => (List.mem_append.mp h).elim (ha w) (hb w)
theorem wsL_law_in : ∀ w ∈ wsL_law, w ∈ lw_tbl := mem_app (mem_app (mem_app (mem_app (mem_app (mem_app (mem_app (mem_app (mem_app wsL_in_r1 (mem_app wsL_in_r2 (mem_app wsL_in_r3 (mem_app wsL_in_r4 (mem_app wsL_in_r5 (mem_app wsL_in_r6 (mem_app wsL_in_r7 (mem_app wsL_in_r8 (mem_app wsL_in_r9 (mem_app wsL_in_r10 (mem_app wsL_in_r11 (mem_app wsL_in_r12 (mem_app wsL_in_r13 (mem_app wsL_in_r14 (mem_app wsL_in_r15 (mem_app wsL_in_r16 (mem_app wsL_in_r17 (mem_app wsL_in_r18 (mem_app wsL_in_r19 (mem_app wsL_in_r20 (mem_app wsL_in_r21 wsL_in_r22))))))))))))))))))))) wsX60_in) wsX30_in) wsX20_in) wsX40_in) wsX50_in) wsX10_in) wsX00_in) (fun w h => absurd h List.not_mem_nil)
theorem inX0 : ∀ w ∈ wsX00, w ∈ lw_tbl := fun w h => wsL_law_in w (inlX0 w h)
theorem inX1 : ∀ w ∈ wsX10, w ∈ lw_tbl := fun w h => wsL_law_in w (inlX1 w h)
theorem inX2 : ∀ w ∈ wsX20, w ∈ lw_tbl := fun w h => wsL_law_in w (inlX2 w h)
theorem inX3 : ∀ w ∈ wsX30, w ∈ lw_tbl := fun w h => wsL_law_in w (inlX3 w h)
theorem inX4 : ∀ w ∈ wsX40, w ∈ lw_tbl := fun w h => wsL_law_in w (inlX4 w h)
theorem inX5 : ∀ w ∈ wsX50, w ∈ lw_tbl := fun w h => wsL_law_in w (inlX5 w h)
theorem inX6 : ∀ w ∈ wsX60, w ∈ lw_tbl := fun w h => wsL_law_in w (inlX6 w h)
theorem inX7 : ∀ w ∈ wsX70, w ∈ lw_tbl := by decide +kernel
theorem inJ9 : ∀ w ∈ wsJ90, w ∈ lw_tbl := by decide +kernel
