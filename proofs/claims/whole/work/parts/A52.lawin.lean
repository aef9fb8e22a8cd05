set_option maxRecDepth 20000 in
theorem wsL_law_r19_in : ∀ w ∈ wsL_law_r19, w ∈ lw_tbl := fun w h => (goodIn_p wsL_law_r19 [894, 898, 902, 437, 906, 441] (by decide +kernel) (by decide +kernel) w h).1
set_option maxRecDepth 20000 in
theorem wsL_law_r20_in : ∀ w ∈ wsL_law_r20, w ∈ lw_tbl := fun w h => (goodIn_p wsL_law_r20 [448, 910, 914, 919] (by decide +kernel) (by decide +kernel) w h).1
set_option maxRecDepth 20000 in
theorem wsL_law_r21_in : ∀ w ∈ wsL_law_r21, w ∈ lw_tbl := fun w h => (goodIn_p wsL_law_r21 [923, 927, 456, 460, 465, 469] (by decide +kernel) (by decide +kernel) w h).1
set_option maxRecDepth 20000 in
theorem wsL_law_r22_in : ∀ w ∈ wsL_law_r22, w ∈ lw_tbl := fun w h => (goodIn_p wsL_law_r22 [473, 478, 931, 935, 939] (by decide +kernel) (by decide +kernel) w h).1
set_option maxRecDepth 20000 in
theorem wsL_law_r23_in : ∀ w ∈ wsL_law_r23, w ∈ lw_tbl := fun w h => (goodIn_p wsL_law_r23 [483, 487, 943, 491, 494, 498] (by decide +kernel) (by decide +kernel) w h).1
set_option maxRecDepth 20000 in
theorem wsL_law_r24_in : ∀ w ∈ wsL_law_r24, w ∈ lw_tbl := fun w h => (goodIn_p wsL_law_r24 [501, 509, 515, 519] (by decide +kernel) (by decide +kernel) w h).1
set_option maxRecDepth 20000 in
theorem wsL_law_r25_in : ∀ w ∈ wsL_law_r25, w ∈ lw_tbl := fun w h => (goodIn_p wsL_law_r25 [947, 950, 955, 959, 963, 523] (by decide +kernel) (by decide +kernel) w h).1
set_option maxRecDepth 20000 in
theorem wsL_law_r26_in : ∀ w ∈ wsL_law_r26, w ∈ lw_tbl := fun w h => (goodIn_p wsL_law_r26 [527, 532, 536, 540, 545, 549] (by decide +kernel) (by decide +kernel) w h).1
set_option maxRecDepth 20000 in
theorem wsL_law_r27_in : ∀ w ∈ wsL_law_r27, w ∈ lw_tbl := fun w h => (goodIn_p wsL_law_r27 [967, 971, 975, 979, 983, 987] (by decide +kernel) (by decide +kernel) w h).1
set_option maxRecDepth 20000 in
theorem wsL_law_r28_in : ∀ w ∈ wsL_law_r28, w ∈ lw_tbl := fun w h => (goodIn_p wsL_law_r28 [553, 557, 991, 562, 566] (by decide +kernel) (by decide +kernel) w h).1
set_option maxRecDepth 20000 in
theorem wsL_law_r29_in : ∀ w ∈ wsL_law_r29, w ∈ lw_tbl := fun w h => (goodIn_p wsL_law_r29 [995, 570, 574, 999, 578, 581, 585] (by decide +kernel) (by decide +kernel) w h).1
set_option maxRecDepth 20000 in
theorem wsL_law_r30_in : ∀ w ∈ wsL_law_r30, w ∈ lw_tbl := fun w h => (goodIn_p wsL_law_r30 [1003, 1006, 589, 1014] (by decide +kernel) (by decide +kernel) w h).1
set_option maxRecDepth 20000 in
theorem wsL_law_r31_in : ∀ w ∈ wsL_law_r31, w ∈ lw_tbl := fun w h => (goodIn_p wsL_law_r31 [593, 597, 601, 1019, 1024, 605] (by decide +kernel) (by decide +kernel) w h).1
set_option maxRecDepth 20000 in
theorem wsL_law_r32_in : ∀ w ∈ wsL_law_r32, w ∈ lw_tbl := fun w h => (goodIn_p wsL_law_r32 [609, 614, 618, 622, 1028] (by decide +kernel) (by decide +kernel) w h).1
set_option maxRecDepth 20000 in
theorem wsL_law_r33_in : ∀ w ∈ wsL_law_r33, w ∈ lw_tbl := fun w h => (goodIn_p wsL_law_r33 [1032, 1036, 1040, 1044, 627, 631] (by decide +kernel) (by decide +kernel) w h).1
set_option maxRecDepth 20000 in
theorem wsL_law_r34_in : ∀ w ∈ wsL_law_r34, w ∈ lw_tbl := fun w h => (goodIn_p wsL_law_r34 [635, 640, 644, 648, 1048, 1053] (by decide +kernel) (by decide +kernel) w h).1
set_option maxRecDepth 20000 in
theorem wsL_law_r35_in : ∀ w ∈ wsL_law_r35, w ∈ lw_tbl := fun w h => (goodIn_p wsL_law_r35 [1057, 653, 1061, 657, 661] (by decide +kernel) (by decide +kernel) w h).1
set_option maxRecDepth 20000 in
theorem wsL_law_r36_in : ∀ w ∈ wsL_law_r36, w ∈ lw_tbl := fun w h => (goodIn_p wsL_law_r36 [1065, 666, 1069] (by decide +kernel) (by decide +kernel) w h).1
theorem wsX90_tb : ∀ w ∈ wsX90, w ∈ lw_tbl := by decide +kernel
theorem wsX100_tb : ∀ w ∈ wsX100, w ∈ lw_tbl := by decide +kernel
theorem wsX70_tb : ∀ w ∈ wsX70, w ∈ lw_tbl := by decide +kernel
theorem wsX20_tb : ∀ w ∈ wsX20, w ∈ lw_tbl := by decide +kernel
theorem wsX40_tb : ∀ w ∈ wsX40, w ∈ lw_tbl := by decide +kernel
theorem wsX30_tb : ∀ w ∈ wsX30, w ∈ lw_tbl := by decide +kernel
theorem wsX10_tb : ∀ w ∈ wsX10, w ∈ lw_tbl := by decide +kernel
theorem wsX60_tb : ∀ w ∈ wsX60, w ∈ lw_tbl := by decide +kernel
theorem wsX50_tb : ∀ w ∈ wsX50, w ∈ lw_tbl := by decide +kernel
theorem wsX00_tb : ∀ w ∈ wsX00, w ∈ lw_tbl := by decide +kernel
theorem wsL_law_in : ∀ w ∈ wsL_law, w ∈ lw_tbl := by
  intro w h
  unfold wsL_law at h
  rw [List.append_nil] at h
  rcases List.mem_append.mp h with h | h
  rotate_left
  · exact wsX00_tb w h
  rcases List.mem_append.mp h with h | h
  rotate_left
  · exact wsX50_tb w h
  rcases List.mem_append.mp h with h | h
  rotate_left
  · exact wsX60_tb w h
  rcases List.mem_append.mp h with h | h
  rotate_left
  · exact wsX10_tb w h
  rcases List.mem_append.mp h with h | h
  rotate_left
  · exact wsX30_tb w h
  rcases List.mem_append.mp h with h | h
  rotate_left
  · exact wsX40_tb w h
  rcases List.mem_append.mp h with h | h
  rotate_left
  · exact wsX20_tb w h
  rcases List.mem_append.mp h with h | h
  rotate_left
  · exact wsX70_tb w h
  rcases List.mem_append.mp h with h | h
  rotate_left
  · exact wsX100_tb w h
  rcases List.mem_append.mp h with h | h
  rotate_left
  · exact wsX90_tb w h
  rcases List.mem_append.mp h with h | h
  · exact wsL_law_r1_in w h
  rcases List.mem_append.mp h with h | h
  · exact wsL_law_r2_in w h
  rcases List.mem_append.mp h with h | h
  · exact wsL_law_r3_in w h
  rcases List.mem_append.mp h with h | h
  · exact wsL_law_r4_in w h
  rcases List.mem_append.mp h with h | h
  · exact wsL_law_r5_in w h
  rcases List.mem_append.mp h with h | h
  · exact wsL_law_r6_in w h
  rcases List.mem_append.mp h with h | h
  · exact wsL_law_r7_in w h
  rcases List.mem_append.mp h with h | h
  · exact wsL_law_r8_in w h
  rcases List.mem_append.mp h with h | h
  · exact wsL_law_r9_in w h
  rcases List.mem_append.mp h with h | h
  · exact wsL_law_r10_in w h
  rcases List.mem_append.mp h with h | h
  · exact wsL_law_r11_in w h
  rcases List.mem_append.mp h with h | h
  · exact wsL_law_r12_in w h
  rcases List.mem_append.mp h with h | h
  · exact wsL_law_r13_in w h
  rcases List.mem_append.mp h with h | h
  · exact wsL_law_r14_in w h
  rcases List.mem_append.mp h with h | h
  · exact wsL_law_r15_in w h
  rcases List.mem_append.mp h with h | h
  · exact wsL_law_r16_in w h
  rcases List.mem_append.mp h with h | h
  · exact wsL_law_r17_in w h
  rcases List.mem_append.mp h with h | h
  · exact wsL_law_r18_in w h
  rcases List.mem_append.mp h with h | h
  · exact wsL_law_r19_in w h
  rcases List.mem_append.mp h with h | h
  · exact wsL_law_r20_in w h
  rcases List.mem_append.mp h with h | h
  · exact wsL_law_r21_in w h
  rcases List.mem_append.mp h with h | h
  · exact wsL_law_r22_in w h
  rcases List.mem_append.mp h with h | h
  · exact wsL_law_r23_in w h
  rcases List.mem_append.mp h with h | h
  · exact wsL_law_r24_in w h
  rcases List.mem_append.mp h with h | h
  · exact wsL_law_r25_in w h
  rcases List.mem_append.mp h with h | h
  · exact wsL_law_r26_in w h
  rcases List.mem_append.mp h with h | h
  · exact wsL_law_r27_in w h
  rcases List.mem_append.mp h with h | h
  · exact wsL_law_r28_in w h
  rcases List.mem_append.mp h with h | h
  · exact wsL_law_r29_in w h
  rcases List.mem_append.mp h with h | h
  · exact wsL_law_r30_in w h
  rcases List.mem_append.mp h with h | h
  · exact wsL_law_r31_in w h
  rcases List.mem_append.mp h with h | h
  · exact wsL_law_r32_in w h
  rcases List.mem_append.mp h with h | h
  · exact wsL_law_r33_in w h
  rcases List.mem_append.mp h with h | h
  · exact wsL_law_r34_in w h
  rcases List.mem_append.mp h with h | h
  · exact wsL_law_r35_in w h
  exact wsL_law_r36_in w h
theorem inlX0 : ∀ w ∈ wsX00, w ∈ wsL_law := fun _ h => List.mem_append_left _ (List.mem_append_right _ h)
theorem inX0 : ∀ w ∈ wsX00, w ∈ lw_tbl := fun w h => wsL_law_in w (inlX0 w h)
theorem inlX1 : ∀ w ∈ wsX10, w ∈ wsL_law := fun _ h => List.mem_append_left _ (List.mem_append_left _ (List.mem_append_left _ (List.mem_append_left _ (List.mem_append_right _ h))))
theorem inX1 : ∀ w ∈ wsX10, w ∈ lw_tbl := fun w h => wsL_law_in w (inlX1 w h)
theorem inlX2 : ∀ w ∈ wsX20, w ∈ wsL_law := fun _ h => List.mem_append_left _ (List.mem_append_left _ (List.mem_append_left _ (List.mem_append_left _ (List.mem_append_left _ (List.mem_append_left _ (List.mem_append_left _ (List.mem_append_right _ h)))))))
theorem inX2 : ∀ w ∈ wsX20, w ∈ lw_tbl := fun w h => wsL_law_in w (inlX2 w h)
theorem inlX3 : ∀ w ∈ wsX30, w ∈ wsL_law := fun _ h => List.mem_append_left _ (List.mem_append_left _ (List.mem_append_left _ (List.mem_append_left _ (List.mem_append_left _ (List.mem_append_right _ h)))))
theorem inX3 : ∀ w ∈ wsX30, w ∈ lw_tbl := fun w h => wsL_law_in w (inlX3 w h)
theorem inlX4 : ∀ w ∈ wsX40, w ∈ wsL_law := fun _ h => List.mem_append_left _ (List.mem_append_left _ (List.mem_append_left _ (List.mem_append_left _ (List.mem_append_left _ (List.mem_append_left _ (List.mem_append_right _ h))))))
theorem inX4 : ∀ w ∈ wsX40, w ∈ lw_tbl := fun w h => wsL_law_in w (inlX4 w h)
theorem inlX5 : ∀ w ∈ wsX50, w ∈ wsL_law := fun _ h => List.mem_append_left _ (List.mem_append_left _ (List.mem_append_right _ h))
theorem inX5 : ∀ w ∈ wsX50, w ∈ lw_tbl := fun w h => wsL_law_in w (inlX5 w h)
theorem inlX6 : ∀ w ∈ wsX60, w ∈ wsL_law := fun _ h => List.mem_append_left _ (List.mem_append_left _ (List.mem_append_left _ (List.mem_append_right _ h)))
theorem inX6 : ∀ w ∈ wsX60, w ∈ lw_tbl := fun w h => wsL_law_in w (inlX6 w h)
theorem inlX7 : ∀ w ∈ wsX70, w ∈ wsL_law := fun _ h => List.mem_append_left _ (List.mem_append_left _ (List.mem_append_left _ (List.mem_append_left _ (List.mem_append_left _ (List.mem_append_left _ (List.mem_append_left _ (List.mem_append_left _ (List.mem_append_right _ h))))))))
theorem inX7 : ∀ w ∈ wsX70, w ∈ lw_tbl := fun w h => wsL_law_in w (inlX7 w h)
theorem inX8 : ∀ w ∈ wsX80, w ∈ lw_tbl := by decide +kernel
theorem inlX9 : ∀ w ∈ wsX90, w ∈ wsL_law := fun _ h => List.mem_append_left _ (List.mem_append_left _ (List.mem_append_left _ (List.mem_append_left _ (List.mem_append_left _ (List.mem_append_left _ (List.mem_append_left _ (List.mem_append_left _ (List.mem_append_left _ (List.mem_append_left _ (List.mem_append_right _ h))))))))))
theorem inX9 : ∀ w ∈ wsX90, w ∈ lw_tbl := fun w h => wsL_law_in w (inlX9 w h)
theorem inlX10 : ∀ w ∈ wsX100, w ∈ wsL_law := fun _ h => List.mem_append_left _ (List.mem_append_left _ (List.mem_append_left _ (List.mem_append_left _ (List.mem_append_left _ (List.mem_append_left _ (List.mem_append_left _ (List.mem_append_left _ (List.mem_append_left _ (List.mem_append_right _ h)))))))))
theorem inX10 : ∀ w ∈ wsX100, w ∈ lw_tbl := fun w h => wsL_law_in w (inlX10 w h)
theorem inJ6 : ∀ w ∈ wsJ60, w ∈ lw_tbl := by decide +kernel
theorem inJ13 : ∀ w ∈ wsJ130, w ∈ lw_tbl := by decide +kernel
theorem inJ9 : ∀ w ∈ wsJ90, w ∈ lw_tbl := by decide +kernel
theorem inJ10 : ∀ w ∈ wsJ100, w ∈ lw_tbl := by decide +kernel
