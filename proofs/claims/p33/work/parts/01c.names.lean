set_option maxRecDepth 20000 in
theorem wsL_law0_r7_in : ∀ w ∈ wsL_law0_r7, w ∈ lw_tbl := mem_places [0, 316, 317, 319, 1, 320, 689, 225, 693, 700, 295, 296, 297, 298, 321, 323, 2, 324, 691, 69, 325, 326, 327, 328] (by decide +kernel)
set_option maxRecDepth 20000 in
theorem wsL_law0_r8_in : ∀ w ∈ wsL_law0_r8, w ∈ lw_tbl := mem_places [329, 330, 331, 332, 333, 334, 24, 335, 336, 338, 3, 339, 72, 340, 341, 342, 343, 344, 345, 346, 347, 348, 349, 350] (by decide +kernel)
set_option maxRecDepth 20000 in
theorem wsL_law0_r9_in : ∀ w ∈ wsL_law0_r9, w ∈ lw_tbl := mem_places [351, 352, 353, 354, 355, 686, 699, 356, 357, 359, 4, 360, 687, 135, 695, 227, 697, 702, 361, 363, 5, 364, 365, 367] (by decide +kernel)
set_option maxRecDepth 20000 in
theorem wsL_law0_r10_in : ∀ w ∈ wsL_law0_r10, w ∈ lw_tbl := mem_places [6, 368, 684, 369, 370, 371, 372, 373, 374, 375, 376, 377, 378, 380, 7, 381, 382, 383, 384, 385, 137, 386, 387, 388] (by decide +kernel)
set_option maxRecDepth 20000 in
theorem wsL_law0_r11_in : ∀ w ∈ wsL_law0_r11, w ∈ lw_tbl := mem_places [389, 390, 391, 392, 393, 394, 395, 396, 397, 398, 400, 8, 401, 402, 403, 404, 405, 406, 407, 408, 409, 291, 292, 293] (by decide +kernel)
set_option maxRecDepth 20000 in
theorem wsL_law0_r12_in : ∀ w ∈ wsL_law0_r12, w ∈ lw_tbl := mem_places [294, 299, 300, 25, 301, 302, 303, 304, 410, 411, 13, 412, 413, 414, 650, 651, 652, 551, 509, 722, 415, 416, 417, 418] (by decide +kernel)
