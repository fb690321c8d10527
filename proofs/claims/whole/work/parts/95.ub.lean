theorem in0_wsL_law0_r11 : ∀ w ∈ wsL_law0_r11, w ∈ lw_tbl := fun w h => (goodIn_p wsL_law0_r11 [313, 317, 321, 325, 329, 1108] (by decide +kernel) (by decide +kernel) w h).1
theorem in0_wsL_law0_r12 : ∀ w ∈ wsL_law0_r12, w ∈ lw_tbl := fun w h => (goodIn_p wsL_law0_r12 [1112, 1116, 1120, 1124, 1128, 1132] (by decide +kernel) (by decide +kernel) w h).1
theorem in0_wsL_law0_r13 : ∀ w ∈ wsL_law0_r13, w ∈ lw_tbl := fun w h => (goodIn_p wsL_law0_r13 [1136, 1140, 333, 1144, 338] (by decide +kernel) (by decide +kernel) w h).1
theorem in0_wsL_law0_r14 : ∀ w ∈ wsL_law0_r14, w ∈ lw_tbl := fun w h => (goodIn_p wsL_law0_r14 [1148, 1152, 343, 347, 350, 1156] (by decide +kernel) (by decide +kernel) w h).1
theorem in0_wsL_law0_r15 : ∀ w ∈ wsL_law0_r15, w ∈ lw_tbl := fun w h => (goodIn_p wsL_law0_r15 [1160, 354, 358, 362, 366, 370] (by decide +kernel) (by decide +kernel) w h).1
theorem in0_wsL_law0_r16 : ∀ w ∈ wsL_law0_r16, w ∈ lw_tbl := fun w h => (goodIn_p wsL_law0_r16 [373, 376, 1164, 1168, 1172, 1176] (by decide +kernel) (by decide +kernel) w h).1
theorem in0_wsL_law0_r17 : ∀ w ∈ wsL_law0_r17, w ∈ lw_tbl := fun w h => (goodIn_p wsL_law0_r17 [381, 385, 388, 1180, 1184] (by decide +kernel) (by decide +kernel) w h).1
theorem in0_wsL_law0_r18 : ∀ w ∈ wsL_law0_r18, w ∈ lw_tbl := fun w h => (goodIn_p wsL_law0_r18 [392, 396, 400, 1188, 405, 409] (by decide +kernel) (by decide +kernel) w h).1
theorem in0_wsL_law0_r19 : ∀ w ∈ wsL_law0_r19, w ∈ lw_tbl := fun w h => (goodIn_p wsL_law0_r19 [413, 418] (by decide +kernel) (by decide +kernel) w h).1
theorem in0_wsL_law0_r20 : ∀ w ∈ wsL_law0_r20, w ∈ lw_tbl := fun w h => (goodIn_p wsL_law0_r20 [469, 475, 479, 483, 487] (by decide +kernel) (by decide +kernel) w h).1
theorem in0_wsL_law0_r21 : ∀ w ∈ wsL_law0_r21, w ∈ lw_tbl := fun w h => (goodIn_p wsL_law0_r21 [493, 497, 501, 506, 510] (by decide +kernel) (by decide +kernel) w h).1
theorem in0_wsL_law0_r22 : ∀ w ∈ wsL_law0_r22, w ∈ lw_tbl := fun w h => (goodIn_p wsL_law0_r22 [1192, 1196, 1200, 1204] (by decide +kernel) (by decide +kernel) w h).1
