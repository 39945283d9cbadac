theorem in_r {big ws : List Cond} (ps : List Nat) (hp : ws = ps.filterMap (fun i => big[i]?)) : ∀ w ∈ ws, w ∈ big := by
  intro w hw
  rw [hp] at hw
  obtain ⟨i, -, hi⟩ := List.mem_filterMap.mp hw
  first | exact List.mem_of_getElem? hi | exact List.getElem?_mem hi
theorem in_split {big ws : List Cond} (k : Nat) (h1 : ∀ w ∈ ws.take k, w ∈ big) (h2 : ∀ w ∈ ws.drop k, w ∈ big) : ∀ w ∈ ws, w ∈ big := fun w h => by
  rw [← List.take_append_drop k ws] at h
  exact (List.mem_append.mp h).elim (h1 w) (h2 w)
set_option maxRecDepth 20000 in
theorem lli_0 : ∀ w ∈ List.take 40 wsL_law, w ∈ lw_tbl := in_r [55, 56, 44, 57, 58, 59, 60, 61, 62, 63, 64, 45, 257, 258, 259, 163, 164, 48, 260, 180, 261, 182, 183, 49, 262, 215, 216, 50, 263, 228, 229, 51, 264, 242, 52, 66, 67, 68, 118, 121] (by decide +kernel)
set_option maxRecDepth 20000 in
theorem lli_1 : ∀ w ∈ List.take 40 (List.drop 40 wsL_law), w ∈ lw_tbl := in_r [69, 124, 71, 72, 46, 129, 131, 89, 47, 74, 75, 76, 91, 92, 93, 166, 167, 168, 169, 172, 185, 186, 187, 214, 189, 190, 191, 192, 188, 196, 218, 219, 220, 221, 231, 232, 233, 241, 234, 244] (by decide +kernel)
set_option maxRecDepth 20000 in
theorem lli_2 : ∀ w ∈ List.take 40 (List.drop 40 (List.drop 40 wsL_law)), w ∈ lw_tbl := in_r [245, 246, 247, 249, 312, 313, 314, 315, 318, 5, 319, 173, 322, 6, 323, 127, 133, 136, 138, 141, 326, 7, 327, 94, 98, 101, 105, 330, 8, 331, 77, 80, 337, 338, 339, 340, 288, 0, 289, 341] (by decide +kernel)
set_option maxRecDepth 20000 in
theorem lli_3 : ∀ w ∈ List.take 40 (List.drop 40 (List.drop 40 (List.drop 40 wsL_law))), w ∈ lw_tbl := in_r [343, 9, 344, 347, 10, 348, 349, 351, 11, 352, 332, 333, 334, 335, 356, 357, 43, 358, 359, 360, 282, 283, 284, 285, 292, 1, 293, 294, 296, 2, 297, 306, 299, 300, 301, 303, 3, 304, 305, 309] (by decide +kernel)
set_option maxRecDepth 20000 in
theorem lli_4 : ∀ w ∈ List.take 40 (List.drop 40 (List.drop 40 (List.drop 40 (List.drop 40 wsL_law)))), w ∈ lw_tbl := in_r [4, 310, 311, 361, 362, 363, 364, 367, 12, 368, 371, 13, 372, 373, 375, 14, 376, 222, 377, 379, 15, 380, 382, 383, 384, 385, 386, 387, 388, 389, 390, 394, 16, 395, 396, 397, 398, 399, 400, 353] (by decide +kernel)
set_option maxRecDepth 20000 in
theorem lli_5 : ∀ w ∈ List.take 40 (List.drop 40 (List.drop 40 (List.drop 40 (List.drop 40 (List.drop 40 wsL_law))))), w ∈ lw_tbl := in_r [354, 355, 402, 403, 404, 405, 406, 407, 408, 409, 410, 411, 412, 413, 415, 17, 416, 419, 18, 420, 421, 422, 423, 424, 425, 427, 19, 428, 429, 430, 431, 432, 433, 435, 20, 436, 437, 438, 439, 440] (by decide +kernel)
set_option maxRecDepth 20000 in
theorem lli_6 : ∀ w ∈ List.take 40 (List.drop 40 (List.drop 40 (List.drop 40 (List.drop 40 (List.drop 40 (List.drop 40 wsL_law)))))), w ∈ lw_tbl := in_r [443, 21, 444, 445, 446, 447, 448, 449, 451, 22, 452, 455, 23, 456, 460, 24, 461, 462, 464, 25, 465, 466, 467, 468, 469, 470, 472, 26, 473, 476, 27, 477, 478, 480, 28, 481, 482, 484, 29, 485] (by decide +kernel)
set_option maxRecDepth 20000 in
theorem lli_7 : ∀ w ∈ List.take 40 (List.drop 40 (List.drop 40 (List.drop 40 (List.drop 40 (List.drop 40 (List.drop 40 (List.drop 40 wsL_law))))))), w ∈ lw_tbl := in_r [193, 194, 486, 487, 53, 488, 489, 491, 30, 492, 195, 494, 495, 497, 499, 31, 500, 501, 503, 505, 32, 506, 508, 509, 510, 511, 513, 33, 514, 515, 517, 34, 518, 522, 523, 54, 524, 519, 520, 521] (by decide +kernel)
set_option maxRecDepth 20000 in
theorem lli_8 : ∀ w ∈ List.take 40 (List.drop 40 (List.drop 40 (List.drop 40 (List.drop 40 (List.drop 40 (List.drop 40 (List.drop 40 (List.drop 40 wsL_law)))))))), w ∈ lw_tbl := in_r [527, 35, 528, 529, 530, 531, 533, 36, 534, 535, 536, 537, 538, 539, 540, 542, 37, 543, 544, 546, 547, 548, 549, 550, 551, 552, 553, 554, 555, 556, 559, 38, 560, 561, 562, 563, 564, 567, 39, 568] (by decide +kernel)
set_option maxRecDepth 20000 in
theorem lli_9 : ∀ w ∈ List.take 40 (List.drop 40 (List.drop 40 (List.drop 40 (List.drop 40 (List.drop 40 (List.drop 40 (List.drop 40 (List.drop 40 (List.drop 40 wsL_law))))))))), w ∈ lw_tbl := in_r [569, 571, 40, 572, 573, 575, 41, 576, 577, 578, 579, 580, 583, 42, 584, 585, 586, 587, 588, 265, 267, 269, 271, 273, 275, 277, 279, 142, 144, 146, 148, 150, 152, 154, 156, 158, 160, 175, 177, 197] (by decide +kernel)
set_option maxRecDepth 20000 in
theorem lli_10 : ∀ w ∈ List.drop 40 (List.drop 40 (List.drop 40 (List.drop 40 (List.drop 40 (List.drop 40 (List.drop 40 (List.drop 40 (List.drop 40 (List.drop 40 wsL_law))))))))), w ∈ lw_tbl := in_r [199, 201, 203, 205, 207, 209, 211, 223, 225, 236, 238, 252, 254, 84, 86, 109, 111, 113, 115] (by decide +kernel)
theorem wsL_law_in : ∀ w ∈ wsL_law, w ∈ lw_tbl := in_split 40 lli_0 (in_split 40 lli_1 (in_split 40 lli_2 (in_split 40 lli_3 (in_split 40 lli_4 (in_split 40 lli_5 (in_split 40 lli_6 (in_split 40 lli_7 (in_split 40 lli_8 (in_split 40 lli_9 lli_10)))))))))
