theorem in0_wsL_law0_r23 : ∀ w ∈ wsL_law0_r23, w ∈ lw_tbl := fun w h => (goodIn_p wsL_law0_r23 [1208, 1212, 514, 518, 522, 526] (by decide +kernel) (by decide +kernel) w h).1
theorem in0_wsL_law0_r24 : ∀ w ∈ wsL_law0_r24, w ∈ lw_tbl := fun w h => (goodIn_p wsL_law0_r24 [530, 1216, 1220, 534, 538, 1224] (by decide +kernel) (by decide +kernel) w h).1
theorem in0_wsL_law0_r25 : ∀ w ∈ wsL_law0_r25, w ∈ lw_tbl := fun w h => (goodIn_p wsL_law0_r25 [1228, 542, 546, 1232, 1236, 550] (by decide +kernel) (by decide +kernel) w h).1
theorem in0_wsL_law0_r26 : ∀ w ∈ wsL_law0_r26, w ∈ lw_tbl := fun w h => (goodIn_p wsL_law0_r26 [1240, 1244, 554, 558, 1248, 562] (by decide +kernel) (by decide +kernel) w h).1
theorem in0_wsL_law0_r27 : ∀ w ∈ wsL_law0_r27, w ∈ lw_tbl := fun w h => (goodIn_p wsL_law0_r27 [566, 1252, 570, 1256, 574, 579] (by decide +kernel) (by decide +kernel) w h).1
theorem in0_wsL_law0_r28 : ∀ w ∈ wsL_law0_r28, w ∈ lw_tbl := fun w h => (goodIn_p wsL_law0_r28 [584, 589, 593, 1260, 1264] (by decide +kernel) (by decide +kernel) w h).1
theorem in0_wsL_law0_r29 : ∀ w ∈ wsL_law0_r29, w ∈ lw_tbl := fun w h => (goodIn_p wsL_law0_r29 [1268, 1272, 598, 602, 1276] (by decide +kernel) (by decide +kernel) w h).1
theorem in0_wsL_law0_r30 : ∀ w ∈ wsL_law0_r30, w ∈ lw_tbl := fun w h => (goodIn_p wsL_law0_r30 [1280, 606, 609, 613, 1284, 1288] (by decide +kernel) (by decide +kernel) w h).1
theorem in0_wsL_law0_r31 : ∀ w ∈ wsL_law0_r31, w ∈ lw_tbl := fun w h => (goodIn_p wsL_law0_r31 [618, 622, 627] (by decide +kernel) (by decide +kernel) w h).1
theorem in0_wsL_law0_r32 : ∀ w ∈ wsL_law0_r32, w ∈ lw_tbl := fun w h => (goodIn_p wsL_law0_r32 [661, 665, 669, 674] (by decide +kernel) (by decide +kernel) w h).1
theorem in0_wsL_law0_r33 : ∀ w ∈ wsL_law0_r33, w ∈ lw_tbl := fun w h => (goodIn_p wsL_law0_r33 [678, 683, 687, 691, 695] (by decide +kernel) (by decide +kernel) w h).1
theorem in0_wsL_law0_r34 : ∀ w ∈ wsL_law0_r34, w ∈ lw_tbl := fun w h => (goodIn_p wsL_law0_r34 [699, 706, 710, 714, 1292] (by decide +kernel) (by decide +kernel) w h).1
