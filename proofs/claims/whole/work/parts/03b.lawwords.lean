set_option maxRecDepth 20000 in
theorem ny_law_r1 : ∀ w ∈ wsL_law0_r1, w ∈ lw_tbl := fun w h => (goodIn_p wsL_law0_r1 [45, 48] (by decide +kernel) (by decide +kernel) w h).1
set_option maxRecDepth 20000 in
theorem ny_law_r2 : ∀ w ∈ wsL_law0_r2, w ∈ lw_tbl := fun w h => (goodIn_p wsL_law0_r2 [53, 538, 273] (by decide +kernel) (by decide +kernel) w h).1
set_option maxRecDepth 20000 in
theorem ny_law_r3 : ∀ w ∈ wsL_law0_r3, w ∈ lw_tbl := fun w h => (goodIn_p wsL_law0_r3 [276, 100, 103, 107, 110] (by decide +kernel) (by decide +kernel) w h).1
set_option maxRecDepth 20000 in
theorem ny_law_r4 : ∀ w ∈ wsL_law0_r4, w ∈ lw_tbl := fun w h => (goodIn_p wsL_law0_r4 [309, 566, 569, 573, 576, 580] (by decide +kernel) (by decide +kernel) w h).1
set_option maxRecDepth 20000 in
theorem ny_law_r5 : ∀ w ∈ wsL_law0_r5, w ∈ lw_tbl := fun w h => (goodIn_p wsL_law0_r5 [562, 316, 586, 323] (by decide +kernel) (by decide +kernel) w h).1
set_option maxRecDepth 20000 in
theorem ny_law_r6 : ∀ w ∈ wsL_law0_r6, w ∈ lw_tbl := fun w h => (goodIn_p wsL_law0_r6 [590, 594, 330, 598, 337] (by decide +kernel) (by decide +kernel) w h).1
set_option maxRecDepth 20000 in
theorem ny_law_r7 : ∀ w ∈ wsL_law0_r7, w ∈ lw_tbl := fun w h => (goodIn_p wsL_law0_r7 [602, 344, 606] (by decide +kernel) (by decide +kernel) w h).1
set_option maxRecDepth 20000 in
theorem ny_law_r8 : ∀ w ∈ wsL_law0_r8, w ∈ lw_tbl := fun w h => (goodIn_p wsL_law0_r8 [367, 371, 375, 132, 135, 138, 141] (by decide +kernel) (by decide +kernel) w h).1
set_option maxRecDepth 20000 in
theorem ny_law_r9 : ∀ w ∈ wsL_law0_r9, w ∈ lw_tbl := fun w h => (goodIn_p wsL_law0_r9 [382, 145, 612, 616, 620, 623] (by decide +kernel) (by decide +kernel) w h).1
set_option maxRecDepth 20000 in
theorem ny_law_r10 : ∀ w ∈ wsL_law0_r10, w ∈ lw_tbl := fun w h => (goodIn_p wsL_law0_r10 [627, 389, 631, 396] (by decide +kernel) (by decide +kernel) w h).1
set_option maxRecDepth 20000 in
theorem ny_law_r11 : ∀ w ∈ wsL_law0_r11, w ∈ lw_tbl := fun w h => (goodIn_p wsL_law0_r11 [636, 403, 640, 410, 644] (by decide +kernel) (by decide +kernel) w h).1
set_option maxRecDepth 20000 in
theorem ny_law_r12 : ∀ w ∈ wsL_law0_r12, w ∈ lw_tbl := fun w h => (goodIn_p wsL_law0_r12 [648, 417, 420, 652] (by decide +kernel) (by decide +kernel) w h).1
set_option maxRecDepth 20000 in
theorem ny_law_r13 : ∀ w ∈ wsL_law0_r13, w ∈ lw_tbl := fun w h => (goodIn_p wsL_law0_r13 [427, 431, 126, 656, 659, 438] (by decide +kernel) (by decide +kernel) w h).1
set_option maxRecDepth 20000 in
theorem ny_law_r14 : ∀ w ∈ wsL_law0_r14, w ∈ lw_tbl := fun w h => (goodIn_p wsL_law0_r14 [663, 445, 667, 452, 671] (by decide +kernel) (by decide +kernel) w h).1
set_option maxRecDepth 20000 in
theorem ny_law_r15 : ∀ w ∈ wsL_law0_r15, w ∈ lw_tbl := fun w h => (goodIn_p wsL_law0_r15 [459, 675, 466, 470] (by decide +kernel) (by decide +kernel) w h).1
set_option maxRecDepth 20000 in
theorem ny_law_r16 : ∀ w ∈ wsL_law0_r16, w ∈ lw_tbl := fun w h => (goodIn_p wsL_law0_r16 [679, 477, 156, 160, 165] (by decide +kernel) (by decide +kernel) w h).1
set_option maxRecDepth 20000 in
theorem ny_law_r17 : ∀ w ∈ wsL_law0_r17, w ∈ lw_tbl := fun w h => (goodIn_p wsL_law0_r17 [169, 172, 683, 485, 176, 687] (by decide +kernel) (by decide +kernel) w h).1
set_option maxRecDepth 20000 in
theorem ny_law_r18 : ∀ w ∈ wsL_law0_r18, w ∈ lw_tbl := fun w h => (goodIn_p wsL_law0_r18 [492, 691, 694, 499, 698] (by decide +kernel) (by decide +kernel) w h).1
set_option maxRecDepth 20000 in
theorem ny_law_r19 : ∀ w ∈ wsL_law0_r19, w ∈ lw_tbl := fun w h => (goodIn_p wsL_law0_r19 [702, 506, 706, 513] (by decide +kernel) (by decide +kernel) w h).1
set_option maxRecDepth 20000 in
theorem ny_law_r20 : ∀ w ∈ wsL_law0_r20, w ∈ lw_tbl := fun w h => (goodIn_p wsL_law0_r20 [710, 521, 525, 188, 714] (by decide +kernel) (by decide +kernel) w h).1
set_option maxRecDepth 20000 in
theorem ny_law_r21 : ∀ w ∈ wsL_law0_r21, w ∈ lw_tbl := fun w h => (goodIn_p wsL_law0_r21 [718, 533, 722, 90, 726, 94] (by decide +kernel) (by decide +kernel) w h).1
set_option maxRecDepth 20000 in
theorem ny_law_r22 : ∀ w ∈ wsL_law0_r22, w ∈ lw_tbl := fun w h => (goodIn_p wsL_law0_r22 [730, 116, 120, 123, 129] (by decide +kernel) (by decide +kernel) w h).1
set_option maxRecDepth 20000 in
theorem ny_law_r23 : ∀ w ∈ wsL_law0_r23, w ∈ lw_tbl := fun w h => (goodIn_p wsL_law0_r23 [148, 152, 180, 184, 736] (by decide +kernel) (by decide +kernel) w h).1
set_option maxRecDepth 20000 in
theorem ny_law_wsX10 : ∀ w ∈ wsX10, w ∈ lw_tbl := by decide +kernel
set_option maxRecDepth 20000 in
theorem ny_law_wsX20 : ∀ w ∈ wsX20, w ∈ lw_tbl := by decide +kernel
set_option maxRecDepth 20000 in
theorem ny_law_wsX00 : ∀ w ∈ wsX00, w ∈ lw_tbl := by decide +kernel
theorem wsL_law_in0 : ∀ w ∈ wsL_law0, w ∈ lw_tbl := fun w h => (List.mem_append.mp h).elim (fun h => (List.mem_append.mp h).elim (fun h => (List.mem_append.mp h).elim (fun h => (List.mem_append.mp h).elim (fun h => (List.mem_append.mp h).elim (fun h => ny_law_r1 w h) (fun h => (List.mem_append.mp h).elim (fun h => ny_law_r2 w h) (fun h => (List.mem_append.mp h).elim (fun h => ny_law_r3 w h) (fun h => (List.mem_append.mp h).elim (fun h => ny_law_r4 w h) (fun h => (List.mem_append.mp h).elim (fun h => ny_law_r5 w h) (fun h => (List.mem_append.mp h).elim (fun h => ny_law_r6 w h) (fun h => (List.mem_append.mp h).elim (fun h => ny_law_r7 w h) (fun h => (List.mem_append.mp h).elim (fun h => ny_law_r8 w h) (fun h => (List.mem_append.mp h).elim (fun h => ny_law_r9 w h) (fun h => (List.mem_append.mp h).elim (fun h => ny_law_r10 w h) (fun h => (List.mem_append.mp h).elim (fun h => ny_law_r11 w h) (fun h => (List.mem_append.mp h).elim (fun h => ny_law_r12 w h) (fun h => (List.mem_append.mp h).elim (fun h => ny_law_r13 w h) (fun h => (List.mem_append.mp h).elim (fun h => ny_law_r14 w h) (fun h => (List.mem_append.mp h).elim (fun h => ny_law_r15 w h) (fun h => (List.mem_append.mp h).elim (fun h => ny_law_r16 w h) (fun h => (List.mem_append.mp h).elim (fun h => ny_law_r17 w h) (fun h => (List.mem_append.mp h).elim (fun h => ny_law_r18 w h) (fun h => (List.mem_append.mp h).elim (fun h => ny_law_r19 w h) (fun h => (List.mem_append.mp h).elim (fun h => ny_law_r20 w h) (fun h => (List.mem_append.mp h).elim (fun h => ny_law_r21 w h) (fun h => (List.mem_append.mp h).elim (fun h => ny_law_r22 w h) (fun h => ny_law_r23 w h))))))))))))))))))))))) (fun h => ny_law_wsX10 w h)) (fun h => ny_law_wsX20 w h)) (fun h => ny_law_wsX00 w h)) (fun h => absurd h List.not_mem_nil)
