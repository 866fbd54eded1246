theorem wr_1 {w : Cond} (h : w ∈ wsL_law_r1) : w ∈ wsL_law := (List.mem_append_left _ (List.mem_append_left _ (List.mem_append_left _ (List.mem_append_left _ (List.mem_append_left _ (List.mem_append_left _ (List.mem_append_left _ (List.mem_append_left _ (List.mem_append_left _ (List.mem_append_left _ (List.mem_append_left _ (List.mem_append_left _ (List.mem_append_left _ (List.mem_append_left _ h))))))))))))))
theorem wr_2 {w : Cond} (h : w ∈ wsL_law_r2) : w ∈ wsL_law := (List.mem_append_left _ (List.mem_append_left _ (List.mem_append_left _ (List.mem_append_left _ (List.mem_append_left _ (List.mem_append_left _ (List.mem_append_left _ (List.mem_append_left _ (List.mem_append_left _ (List.mem_append_left _ (List.mem_append_left _ (List.mem_append_left _ (List.mem_append_left _ (List.mem_append_right _ (List.mem_append_left _ h)))))))))))))))
theorem wr_3 {w : Cond} (h : w ∈ wsL_law_r3) : w ∈ wsL_law := (List.mem_append_left _ (List.mem_append_left _ (List.mem_append_left _ (List.mem_append_left _ (List.mem_append_left _ (List.mem_append_left _ (List.mem_append_left _ (List.mem_append_left _ (List.mem_append_left _ (List.mem_append_left _ (List.mem_append_left _ (List.mem_append_left _ (List.mem_append_left _ (List.mem_append_right _ (List.mem_append_right _ (List.mem_append_left _ h))))))))))))))))
theorem wr_4 {w : Cond} (h : w ∈ wsL_law_r4) : w ∈ wsL_law := (List.mem_append_left _ (List.mem_append_left _ (List.mem_append_left _ (List.mem_append_left _ (List.mem_append_left _ (List.mem_append_left _ (List.mem_append_left _ (List.mem_append_left _ (List.mem_append_left _ (List.mem_append_left _ (List.mem_append_left _ (List.mem_append_left _ (List.mem_append_left _ (List.mem_append_right _ (List.mem_append_right _ (List.mem_append_right _ (List.mem_append_left _ h)))))))))))))))))
theorem wr_5 {w : Cond} (h : w ∈ wsL_law_r5) : w ∈ wsL_law := (List.mem_append_left _ (List.mem_append_left _ (List.mem_append_left _ (List.mem_append_left _ (List.mem_append_left _ (List.mem_append_left _ (List.mem_append_left _ (List.mem_append_left _ (List.mem_append_left _ (List.mem_append_left _ (List.mem_append_left _ (List.mem_append_left _ (List.mem_append_left _ (List.mem_append_right _ (List.mem_append_right _ (List.mem_append_right _ (List.mem_append_right _ (List.mem_append_left _ h))))))))))))))))))
theorem wr_6 {w : Cond} (h : w ∈ wsL_law_r6) : w ∈ wsL_law := (List.mem_append_left _ (List.mem_append_left _ (List.mem_append_left _ (List.mem_append_left _ (List.mem_append_left _ (List.mem_append_left _ (List.mem_append_left _ (List.mem_append_left _ (List.mem_append_left _ (List.mem_append_left _ (List.mem_append_left _ (List.mem_append_left _ (List.mem_append_left _ (List.mem_append_right _ (List.mem_append_right _ (List.mem_append_right _ (List.mem_append_right _ (List.mem_append_right _ (List.mem_append_left _ h)))))))))))))))))))
theorem wr_7 {w : Cond} (h : w ∈ wsL_law_r7) : w ∈ wsL_law := (List.mem_append_left _ (List.mem_append_left _ (List.mem_append_left _ (List.mem_append_left _ (List.mem_append_left _ (List.mem_append_left _ (List.mem_append_left _ (List.mem_append_left _ (List.mem_append_left _ (List.mem_append_left _ (List.mem_append_left _ (List.mem_append_left _ (List.mem_append_left _ (List.mem_append_right _ (List.mem_append_right _ (List.mem_append_right _ (List.mem_append_right _ (List.mem_append_right _ (List.mem_append_right _ (List.mem_append_left _ h))))))))))))))))))))
theorem wr_8 {w : Cond} (h : w ∈ wsL_law_r8) : w ∈ wsL_law := (List.mem_append_left _ (List.mem_append_left _ (List.mem_append_left _ (List.mem_append_left _ (List.mem_append_left _ (List.mem_append_left _ (List.mem_append_left _ (List.mem_append_left _ (List.mem_append_left _ (List.mem_append_left _ (List.mem_append_left _ (List.mem_append_left _ (List.mem_append_left _ (List.mem_append_right _ (List.mem_append_right _ (List.mem_append_right _ (List.mem_append_right _ (List.mem_append_right _ (List.mem_append_right _ (List.mem_append_right _ (List.mem_append_left _ h)))))))))))))))))))))
theorem wr_9 {w : Cond} (h : w ∈ wsL_law_r9) : w ∈ wsL_law := (List.mem_append_left _ (List.mem_append_left _ (List.mem_append_left _ (List.mem_append_left _ (List.mem_append_left _ (List.mem_append_left _ (List.mem_append_left _ (List.mem_append_left _ (List.mem_append_left _ (List.mem_append_left _ (List.mem_append_left _ (List.mem_append_left _ (List.mem_append_left _ (List.mem_append_right _ (List.mem_append_right _ (List.mem_append_right _ (List.mem_append_right _ (List.mem_append_right _ (List.mem_append_right _ (List.mem_append_right _ (List.mem_append_right _ (List.mem_append_left _ h))))))))))))))))))))))
theorem wr_10 {w : Cond} (h : w ∈ wsL_law_r10) : w ∈ wsL_law := (List.mem_append_left _ (List.mem_append_left _ (List.mem_append_left _ (List.mem_append_left _ (List.mem_append_left _ (List.mem_append_left _ (List.mem_append_left _ (List.mem_append_left _ (List.mem_append_left _ (List.mem_append_left _ (List.mem_append_left _ (List.mem_append_left _ (List.mem_append_left _ (List.mem_append_right _ (List.mem_append_right _ (List.mem_append_right _ (List.mem_append_right _ (List.mem_append_right _ (List.mem_append_right _ (List.mem_append_right _ (List.mem_append_right _ (List.mem_append_right _ (List.mem_append_left _ h)))))))))))))))))))))))
theorem wr_11 {w : Cond} (h : w ∈ wsL_law_r11) : w ∈ wsL_law := (List.mem_append_left _ (List.mem_append_left _ (List.mem_append_left _ (List.mem_append_left _ (List.mem_append_left _ (List.mem_append_left _ (List.mem_append_left _ (List.mem_append_left _ (List.mem_append_left _ (List.mem_append_left _ (List.mem_append_left _ (List.mem_append_left _ (List.mem_append_left _ (List.mem_append_right _ (List.mem_append_right _ (List.mem_append_right _ (List.mem_append_right _ (List.mem_append_right _ (List.mem_append_right _ (List.mem_append_right _ (List.mem_append_right _ (List.mem_append_right _ (List.mem_append_right _ (List.mem_append_left _ h))))))))))))))))))))))))
theorem wr_12 {w : Cond} (h : w ∈ wsL_law_r12) : w ∈ wsL_law := (List.mem_append_left _ (List.mem_append_left _ (List.mem_append_left _ (List.mem_append_left _ (List.mem_append_left _ (List.mem_append_left _ (List.mem_append_left _ (List.mem_append_left _ (List.mem_append_left _ (List.mem_append_left _ (List.mem_append_left _ (List.mem_append_left _ (List.mem_append_left _ (List.mem_append_right _ (List.mem_append_right _ (List.mem_append_right _ (List.mem_append_right _ (List.mem_append_right _ (List.mem_append_right _ (List.mem_append_right _ (List.mem_append_right _ (List.mem_append_right _ (List.mem_append_right _ (List.mem_append_right _ (List.mem_append_left _ h)))))))))))))))))))))))))
theorem wr_13 {w : Cond} (h : w ∈ wsL_law_r13) : w ∈ wsL_law := (List.mem_append_left _ (List.mem_append_left _ (List.mem_append_left _ (List.mem_append_left _ (List.mem_append_left _ (List.mem_append_left _ (List.mem_append_left _ (List.mem_append_left _ (List.mem_append_left _ (List.mem_append_left _ (List.mem_append_left _ (List.mem_append_left _ (List.mem_append_left _ (List.mem_append_right _ (List.mem_append_right _ (List.mem_append_right _ (List.mem_append_right _ (List.mem_append_right _ (List.mem_append_right _ (List.mem_append_right _ (List.mem_append_right _ (List.mem_append_right _ (List.mem_append_right _ (List.mem_append_right _ (List.mem_append_right _ (List.mem_append_left _ h))))))))))))))))))))))))))
theorem wr_14 {w : Cond} (h : w ∈ wsL_law_r14) : w ∈ wsL_law := (List.mem_append_left _ (List.mem_append_left _ (List.mem_append_left _ (List.mem_append_left _ (List.mem_append_left _ (List.mem_append_left _ (List.mem_append_left _ (List.mem_append_left _ (List.mem_append_left _ (List.mem_append_left _ (List.mem_append_left _ (List.mem_append_left _ (List.mem_append_left _ (List.mem_append_right _ (List.mem_append_right _ (List.mem_append_right _ (List.mem_append_right _ (List.mem_append_right _ (List.mem_append_right _ (List.mem_append_right _ (List.mem_append_right _ (List.mem_append_right _ (List.mem_append_right _ (List.mem_append_right _ (List.mem_append_right _ (List.mem_append_right _ (List.mem_append_left _ h)))))))))))))))))))))))))))
theorem wr_15 {w : Cond} (h : w ∈ wsL_law_r15) : w ∈ wsL_law := (List.mem_append_left _ (List.mem_append_left _ (List.mem_append_left _ (List.mem_append_left _ (List.mem_append_left _ (List.mem_append_left _ (List.mem_append_left _ (List.mem_append_left _ (List.mem_append_left _ (List.mem_append_left _ (List.mem_append_left _ (List.mem_append_left _ (List.mem_append_left _ (List.mem_append_right _ (List.mem_append_right _ (List.mem_append_right _ (List.mem_append_right _ (List.mem_append_right _ (List.mem_append_right _ (List.mem_append_right _ (List.mem_append_right _ (List.mem_append_right _ (List.mem_append_right _ (List.mem_append_right _ (List.mem_append_right _ (List.mem_append_right _ (List.mem_append_right _ (List.mem_append_left _ h))))))))))))))))))))))))))))
theorem wr_16 {w : Cond} (h : w ∈ wsL_law_r16) : w ∈ wsL_law := (List.mem_append_left _ (List.mem_append_left _ (List.mem_append_left _ (List.mem_append_left _ (List.mem_append_left _ (List.mem_append_left _ (List.mem_append_left _ (List.mem_append_left _ (List.mem_append_left _ (List.mem_append_left _ (List.mem_append_left _ (List.mem_append_left _ (List.mem_append_left _ (List.mem_append_right _ (List.mem_append_right _ (List.mem_append_right _ (List.mem_append_right _ (List.mem_append_right _ (List.mem_append_right _ (List.mem_append_right _ (List.mem_append_right _ (List.mem_append_right _ (List.mem_append_right _ (List.mem_append_right _ (List.mem_append_right _ (List.mem_append_right _ (List.mem_append_right _ (List.mem_append_right _ (List.mem_append_left _ h)))))))))))))))))))))))))))))
theorem wr_17 {w : Cond} (h : w ∈ wsL_law_r17) : w ∈ wsL_law := (List.mem_append_left _ (List.mem_append_left _ (List.mem_append_left _ (List.mem_append_left _ (List.mem_append_left _ (List.mem_append_left _ (List.mem_append_left _ (List.mem_append_left _ (List.mem_append_left _ (List.mem_append_left _ (List.mem_append_left _ (List.mem_append_left _ (List.mem_append_left _ (List.mem_append_right _ (List.mem_append_right _ (List.mem_append_right _ (List.mem_append_right _ (List.mem_append_right _ (List.mem_append_right _ (List.mem_append_right _ (List.mem_append_right _ (List.mem_append_right _ (List.mem_append_right _ (List.mem_append_right _ (List.mem_append_right _ (List.mem_append_right _ (List.mem_append_right _ (List.mem_append_right _ (List.mem_append_right _ (List.mem_append_left _ h))))))))))))))))))))))))))))))
theorem wr_18 {w : Cond} (h : w ∈ wsL_law_r18) : w ∈ wsL_law := (List.mem_append_left _ (List.mem_append_left _ (List.mem_append_left _ (List.mem_append_left _ (List.mem_append_left _ (List.mem_append_left _ (List.mem_append_left _ (List.mem_append_left _ (List.mem_append_left _ (List.mem_append_left _ (List.mem_append_left _ (List.mem_append_left _ (List.mem_append_left _ (List.mem_append_right _ (List.mem_append_right _ (List.mem_append_right _ (List.mem_append_right _ (List.mem_append_right _ (List.mem_append_right _ (List.mem_append_right _ (List.mem_append_right _ (List.mem_append_right _ (List.mem_append_right _ (List.mem_append_right _ (List.mem_append_right _ (List.mem_append_right _ (List.mem_append_right _ (List.mem_append_right _ (List.mem_append_right _ (List.mem_append_right _ (List.mem_append_left _ h)))))))))))))))))))))))))))))))
theorem wr_19 {w : Cond} (h : w ∈ wsL_law_r19) : w ∈ wsL_law := (List.mem_append_left _ (List.mem_append_left _ (List.mem_append_left _ (List.mem_append_left _ (List.mem_append_left _ (List.mem_append_left _ (List.mem_append_left _ (List.mem_append_left _ (List.mem_append_left _ (List.mem_append_left _ (List.mem_append_left _ (List.mem_append_left _ (List.mem_append_left _ (List.mem_append_right _ (List.mem_append_right _ (List.mem_append_right _ (List.mem_append_right _ (List.mem_append_right _ (List.mem_append_right _ (List.mem_append_right _ (List.mem_append_right _ (List.mem_append_right _ (List.mem_append_right _ (List.mem_append_right _ (List.mem_append_right _ (List.mem_append_right _ (List.mem_append_right _ (List.mem_append_right _ (List.mem_append_right _ (List.mem_append_right _ (List.mem_append_right _ (List.mem_append_left _ h))))))))))))))))))))))))))))))))
theorem wr_20 {w : Cond} (h : w ∈ wsL_law_r20) : w ∈ wsL_law := (List.mem_append_left _ (List.mem_append_left _ (List.mem_append_left _ (List.mem_append_left _ (List.mem_append_left _ (List.mem_append_left _ (List.mem_append_left _ (List.mem_append_left _ (List.mem_append_left _ (List.mem_append_left _ (List.mem_append_left _ (List.mem_append_left _ (List.mem_append_left _ (List.mem_append_right _ (List.mem_append_right _ (List.mem_append_right _ (List.mem_append_right _ (List.mem_append_right _ (List.mem_append_right _ (List.mem_append_right _ (List.mem_append_right _ (List.mem_append_right _ (List.mem_append_right _ (List.mem_append_right _ (List.mem_append_right _ (List.mem_append_right _ (List.mem_append_right _ (List.mem_append_right _ (List.mem_append_right _ (List.mem_append_right _ (List.mem_append_right _ (List.mem_append_right _ (List.mem_append_left _ h)))))))))))))))))))))))))))))))))
theorem wr_21 {w : Cond} (h : w ∈ wsL_law_r21) : w ∈ wsL_law := (List.mem_append_left _ (List.mem_append_left _ (List.mem_append_left _ (List.mem_append_left _ (List.mem_append_left _ (List.mem_append_left _ (List.mem_append_left _ (List.mem_append_left _ (List.mem_append_left _ (List.mem_append_left _ (List.mem_append_left _ (List.mem_append_left _ (List.mem_append_left _ (List.mem_append_right _ (List.mem_append_right _ (List.mem_append_right _ (List.mem_append_right _ (List.mem_append_right _ (List.mem_append_right _ (List.mem_append_right _ (List.mem_append_right _ (List.mem_append_right _ (List.mem_append_right _ (List.mem_append_right _ (List.mem_append_right _ (List.mem_append_right _ (List.mem_append_right _ (List.mem_append_right _ (List.mem_append_right _ (List.mem_append_right _ (List.mem_append_right _ (List.mem_append_right _ (List.mem_append_right _ (List.mem_append_left _ h))))))))))))))))))))))))))))))))))
theorem wr_22 {w : Cond} (h : w ∈ wsL_law_r22) : w ∈ wsL_law := (List.mem_append_left _ (List.mem_append_left _ (List.mem_append_left _ (List.mem_append_left _ (List.mem_append_left _ (List.mem_append_left _ (List.mem_append_left _ (List.mem_append_left _ (List.mem_append_left _ (List.mem_append_left _ (List.mem_append_left _ (List.mem_append_left _ (List.mem_append_left _ (List.mem_append_right _ (List.mem_append_right _ (List.mem_append_right _ (List.mem_append_right _ (List.mem_append_right _ (List.mem_append_right _ (List.mem_append_right _ (List.mem_append_right _ (List.mem_append_right _ (List.mem_append_right _ (List.mem_append_right _ (List.mem_append_right _ (List.mem_append_right _ (List.mem_append_right _ (List.mem_append_right _ (List.mem_append_right _ (List.mem_append_right _ (List.mem_append_right _ (List.mem_append_right _ (List.mem_append_right _ (List.mem_append_right _ (List.mem_append_left _ h)))))))))))))))))))))))))))))))))))
theorem wr_23 {w : Cond} (h : w ∈ wsL_law_r23) : w ∈ wsL_law := (List.mem_append_left _ (List.mem_append_left _ (List.mem_append_left _ (List.mem_append_left _ (List.mem_append_left _ (List.mem_append_left _ (List.mem_append_left _ (List.mem_append_left _ (List.mem_append_left _ (List.mem_append_left _ (List.mem_append_left _ (List.mem_append_left _ (List.mem_append_left _ (List.mem_append_right _ (List.mem_append_right _ (List.mem_append_right _ (List.mem_append_right _ (List.mem_append_right _ (List.mem_append_right _ (List.mem_append_right _ (List.mem_append_right _ (List.mem_append_right _ (List.mem_append_right _ (List.mem_append_right _ (List.mem_append_right _ (List.mem_append_right _ (List.mem_append_right _ (List.mem_append_right _ (List.mem_append_right _ (List.mem_append_right _ (List.mem_append_right _ (List.mem_append_right _ (List.mem_append_right _ (List.mem_append_right _ (List.mem_append_right _ (List.mem_append_left _ h))))))))))))))))))))))))))))))))))))
theorem wr_24 {w : Cond} (h : w ∈ wsL_law_r24) : w ∈ wsL_law := (List.mem_append_left _ (List.mem_append_left _ (List.mem_append_left _ (List.mem_append_left _ (List.mem_append_left _ (List.mem_append_left _ (List.mem_append_left _ (List.mem_append_left _ (List.mem_append_left _ (List.mem_append_left _ (List.mem_append_left _ (List.mem_append_left _ (List.mem_append_left _ (List.mem_append_right _ (List.mem_append_right _ (List.mem_append_right _ (List.mem_append_right _ (List.mem_append_right _ (List.mem_append_right _ (List.mem_append_right _ (List.mem_append_right _ (List.mem_append_right _ (List.mem_append_right _ (List.mem_append_right _ (List.mem_append_right _ (List.mem_append_right _ (List.mem_append_right _ (List.mem_append_right _ (List.mem_append_right _ (List.mem_append_right _ (List.mem_append_right _ (List.mem_append_right _ (List.mem_append_right _ (List.mem_append_right _ (List.mem_append_right _ (List.mem_append_right _ (List.mem_append_left _ h)))))))))))))))))))))))))))))))))))))
theorem wr_25 {w : Cond} (h : w ∈ wsL_law_r25) : w ∈ wsL_law := (List.mem_append_left _ (List.mem_append_left _ (List.mem_append_left _ (List.mem_append_left _ (List.mem_append_left _ (List.mem_append_left _ (List.mem_append_left _ (List.mem_append_left _ (List.mem_append_left _ (List.mem_append_left _ (List.mem_append_left _ (List.mem_append_left _ (List.mem_append_left _ (List.mem_append_right _ (List.mem_append_right _ (List.mem_append_right _ (List.mem_append_right _ (List.mem_append_right _ (List.mem_append_right _ (List.mem_append_right _ (List.mem_append_right _ (List.mem_append_right _ (List.mem_append_right _ (List.mem_append_right _ (List.mem_append_right _ (List.mem_append_right _ (List.mem_append_right _ (List.mem_append_right _ (List.mem_append_right _ (List.mem_append_right _ (List.mem_append_right _ (List.mem_append_right _ (List.mem_append_right _ (List.mem_append_right _ (List.mem_append_right _ (List.mem_append_right _ (List.mem_append_right _ (List.mem_append_left _ h))))))))))))))))))))))))))))))))))))))
theorem wr_26 {w : Cond} (h : w ∈ wsL_law_r26) : w ∈ wsL_law := (List.mem_append_left _ (List.mem_append_left _ (List.mem_append_left _ (List.mem_append_left _ (List.mem_append_left _ (List.mem_append_left _ (List.mem_append_left _ (List.mem_append_left _ (List.mem_append_left _ (List.mem_append_left _ (List.mem_append_left _ (List.mem_append_left _ (List.mem_append_left _ (List.mem_append_right _ (List.mem_append_right _ (List.mem_append_right _ (List.mem_append_right _ (List.mem_append_right _ (List.mem_append_right _ (List.mem_append_right _ (List.mem_append_right _ (List.mem_append_right _ (List.mem_append_right _ (List.mem_append_right _ (List.mem_append_right _ (List.mem_append_right _ (List.mem_append_right _ (List.mem_append_right _ (List.mem_append_right _ (List.mem_append_right _ (List.mem_append_right _ (List.mem_append_right _ (List.mem_append_right _ (List.mem_append_right _ (List.mem_append_right _ (List.mem_append_right _ (List.mem_append_right _ (List.mem_append_right _ (List.mem_append_left _ h)))))))))))))))))))))))))))))))))))))))
theorem wr_27 {w : Cond} (h : w ∈ wsL_law_r27) : w ∈ wsL_law := (List.mem_append_left _ (List.mem_append_left _ (List.mem_append_left _ (List.mem_append_left _ (List.mem_append_left _ (List.mem_append_left _ (List.mem_append_left _ (List.mem_append_left _ (List.mem_append_left _ (List.mem_append_left _ (List.mem_append_left _ (List.mem_append_left _ (List.mem_append_left _ (List.mem_append_right _ (List.mem_append_right _ (List.mem_append_right _ (List.mem_append_right _ (List.mem_append_right _ (List.mem_append_right _ (List.mem_append_right _ (List.mem_append_right _ (List.mem_append_right _ (List.mem_append_right _ (List.mem_append_right _ (List.mem_append_right _ (List.mem_append_right _ (List.mem_append_right _ (List.mem_append_right _ (List.mem_append_right _ (List.mem_append_right _ (List.mem_append_right _ (List.mem_append_right _ (List.mem_append_right _ (List.mem_append_right _ (List.mem_append_right _ (List.mem_append_right _ (List.mem_append_right _ (List.mem_append_right _ (List.mem_append_right _ (List.mem_append_left _ h))))))))))))))))))))))))))))))))))))))))
theorem wr_28 {w : Cond} (h : w ∈ wsL_law_r28) : w ∈ wsL_law := (List.mem_append_left _ (List.mem_append_left _ (List.mem_append_left _ (List.mem_append_left _ (List.mem_append_left _ (List.mem_append_left _ (List.mem_append_left _ (List.mem_append_left _ (List.mem_append_left _ (List.mem_append_left _ (List.mem_append_left _ (List.mem_append_left _ (List.mem_append_left _ (List.mem_append_right _ (List.mem_append_right _ (List.mem_append_right _ (List.mem_append_right _ (List.mem_append_right _ (List.mem_append_right _ (List.mem_append_right _ (List.mem_append_right _ (List.mem_append_right _ (List.mem_append_right _ (List.mem_append_right _ (List.mem_append_right _ (List.mem_append_right _ (List.mem_append_right _ (List.mem_append_right _ (List.mem_append_right _ (List.mem_append_right _ (List.mem_append_right _ (List.mem_append_right _ (List.mem_append_right _ (List.mem_append_right _ (List.mem_append_right _ (List.mem_append_right _ (List.mem_append_right _ (List.mem_append_right _ (List.mem_append_right _ (List.mem_append_right _ (List.mem_append_left _ h)))))))))))))))))))))))))))))))))))))))))
theorem wr_29 {w : Cond} (h : w ∈ wsL_law_r29) : w ∈ wsL_law := (List.mem_append_left _ (List.mem_append_left _ (List.mem_append_left _ (List.mem_append_left _ (List.mem_append_left _ (List.mem_append_left _ (List.mem_append_left _ (List.mem_append_left _ (List.mem_append_left _ (List.mem_append_left _ (List.mem_append_left _ (List.mem_append_left _ (List.mem_append_left _ (List.mem_append_right _ (List.mem_append_right _ (List.mem_append_right _ (List.mem_append_right _ (List.mem_append_right _ (List.mem_append_right _ (List.mem_append_right _ (List.mem_append_right _ (List.mem_append_right _ (List.mem_append_right _ (List.mem_append_right _ (List.mem_append_right _ (List.mem_append_right _ (List.mem_append_right _ (List.mem_append_right _ (List.mem_append_right _ (List.mem_append_right _ (List.mem_append_right _ (List.mem_append_right _ (List.mem_append_right _ (List.mem_append_right _ (List.mem_append_right _ (List.mem_append_right _ (List.mem_append_right _ (List.mem_append_right _ (List.mem_append_right _ (List.mem_append_right _ (List.mem_append_right _ (List.mem_append_left _ h))))))))))))))))))))))))))))))))))))))))))
theorem wr_30 {w : Cond} (h : w ∈ wsL_law_r30) : w ∈ wsL_law := (List.mem_append_left _ (List.mem_append_left _ (List.mem_append_left _ (List.mem_append_left _ (List.mem_append_left _ (List.mem_append_left _ (List.mem_append_left _ (List.mem_append_left _ (List.mem_append_left _ (List.mem_append_left _ (List.mem_append_left _ (List.mem_append_left _ (List.mem_append_left _ (List.mem_append_right _ (List.mem_append_right _ (List.mem_append_right _ (List.mem_append_right _ (List.mem_append_right _ (List.mem_append_right _ (List.mem_append_right _ (List.mem_append_right _ (List.mem_append_right _ (List.mem_append_right _ (List.mem_append_right _ (List.mem_append_right _ (List.mem_append_right _ (List.mem_append_right _ (List.mem_append_right _ (List.mem_append_right _ (List.mem_append_right _ (List.mem_append_right _ (List.mem_append_right _ (List.mem_append_right _ (List.mem_append_right _ (List.mem_append_right _ (List.mem_append_right _ (List.mem_append_right _ (List.mem_append_right _ (List.mem_append_right _ (List.mem_append_right _ (List.mem_append_right _ (List.mem_append_right _ (List.mem_append_left _ h)))))))))))))))))))))))))))))))))))))))))))
theorem wr_31 {w : Cond} (h : w ∈ wsL_law_r31) : w ∈ wsL_law := (List.mem_append_left _ (List.mem_append_left _ (List.mem_append_left _ (List.mem_append_left _ (List.mem_append_left _ (List.mem_append_left _ (List.mem_append_left _ (List.mem_append_left _ (List.mem_append_left _ (List.mem_append_left _ (List.mem_append_left _ (List.mem_append_left _ (List.mem_append_left _ (List.mem_append_right _ (List.mem_append_right _ (List.mem_append_right _ (List.mem_append_right _ (List.mem_append_right _ (List.mem_append_right _ (List.mem_append_right _ (List.mem_append_right _ (List.mem_append_right _ (List.mem_append_right _ (List.mem_append_right _ (List.mem_append_right _ (List.mem_append_right _ (List.mem_append_right _ (List.mem_append_right _ (List.mem_append_right _ (List.mem_append_right _ (List.mem_append_right _ (List.mem_append_right _ (List.mem_append_right _ (List.mem_append_right _ (List.mem_append_right _ (List.mem_append_right _ (List.mem_append_right _ (List.mem_append_right _ (List.mem_append_right _ (List.mem_append_right _ (List.mem_append_right _ (List.mem_append_right _ (List.mem_append_right _ (List.mem_append_left _ h))))))))))))))))))))))))))))))))))))))))))))
theorem wr_32 {w : Cond} (h : w ∈ wsL_law_r32) : w ∈ wsL_law := (List.mem_append_left _ (List.mem_append_left _ (List.mem_append_left _ (List.mem_append_left _ (List.mem_append_left _ (List.mem_append_left _ (List.mem_append_left _ (List.mem_append_left _ (List.mem_append_left _ (List.mem_append_left _ (List.mem_append_left _ (List.mem_append_left _ (List.mem_append_left _ (List.mem_append_right _ (List.mem_append_right _ (List.mem_append_right _ (List.mem_append_right _ (List.mem_append_right _ (List.mem_append_right _ (List.mem_append_right _ (List.mem_append_right _ (List.mem_append_right _ (List.mem_append_right _ (List.mem_append_right _ (List.mem_append_right _ (List.mem_append_right _ (List.mem_append_right _ (List.mem_append_right _ (List.mem_append_right _ (List.mem_append_right _ (List.mem_append_right _ (List.mem_append_right _ (List.mem_append_right _ (List.mem_append_right _ (List.mem_append_right _ (List.mem_append_right _ (List.mem_append_right _ (List.mem_append_right _ (List.mem_append_right _ (List.mem_append_right _ (List.mem_append_right _ (List.mem_append_right _ (List.mem_append_right _ (List.mem_append_right _ (List.mem_append_left _ h)))))))))))))))))))))))))))))))))))))))))))))
theorem wr_33 {w : Cond} (h : w ∈ wsL_law_r33) : w ∈ wsL_law := (List.mem_append_left _ (List.mem_append_left _ (List.mem_append_left _ (List.mem_append_left _ (List.mem_append_left _ (List.mem_append_left _ (List.mem_append_left _ (List.mem_append_left _ (List.mem_append_left _ (List.mem_append_left _ (List.mem_append_left _ (List.mem_append_left _ (List.mem_append_left _ (List.mem_append_right _ (List.mem_append_right _ (List.mem_append_right _ (List.mem_append_right _ (List.mem_append_right _ (List.mem_append_right _ (List.mem_append_right _ (List.mem_append_right _ (List.mem_append_right _ (List.mem_append_right _ (List.mem_append_right _ (List.mem_append_right _ (List.mem_append_right _ (List.mem_append_right _ (List.mem_append_right _ (List.mem_append_right _ (List.mem_append_right _ (List.mem_append_right _ (List.mem_append_right _ (List.mem_append_right _ (List.mem_append_right _ (List.mem_append_right _ (List.mem_append_right _ (List.mem_append_right _ (List.mem_append_right _ (List.mem_append_right _ (List.mem_append_right _ (List.mem_append_right _ (List.mem_append_right _ (List.mem_append_right _ (List.mem_append_right _ (List.mem_append_right _ (List.mem_append_left _ h))))))))))))))))))))))))))))))))))))))))))))))
theorem wr_34 {w : Cond} (h : w ∈ wsL_law_r34) : w ∈ wsL_law := (List.mem_append_left _ (List.mem_append_left _ (List.mem_append_left _ (List.mem_append_left _ (List.mem_append_left _ (List.mem_append_left _ (List.mem_append_left _ (List.mem_append_left _ (List.mem_append_left _ (List.mem_append_left _ (List.mem_append_left _ (List.mem_append_left _ (List.mem_append_left _ (List.mem_append_right _ (List.mem_append_right _ (List.mem_append_right _ (List.mem_append_right _ (List.mem_append_right _ (List.mem_append_right _ (List.mem_append_right _ (List.mem_append_right _ (List.mem_append_right _ (List.mem_append_right _ (List.mem_append_right _ (List.mem_append_right _ (List.mem_append_right _ (List.mem_append_right _ (List.mem_append_right _ (List.mem_append_right _ (List.mem_append_right _ (List.mem_append_right _ (List.mem_append_right _ (List.mem_append_right _ (List.mem_append_right _ (List.mem_append_right _ (List.mem_append_right _ (List.mem_append_right _ (List.mem_append_right _ (List.mem_append_right _ (List.mem_append_right _ (List.mem_append_right _ (List.mem_append_right _ (List.mem_append_right _ (List.mem_append_right _ (List.mem_append_right _ (List.mem_append_right _ (List.mem_append_left _ h)))))))))))))))))))))))))))))))))))))))))))))))
theorem wr_35 {w : Cond} (h : w ∈ wsL_law_r35) : w ∈ wsL_law := (List.mem_append_left _ (List.mem_append_left _ (List.mem_append_left _ (List.mem_append_left _ (List.mem_append_left _ (List.mem_append_left _ (List.mem_append_left _ (List.mem_append_left _ (List.mem_append_left _ (List.mem_append_left _ (List.mem_append_left _ (List.mem_append_left _ (List.mem_append_left _ (List.mem_append_right _ (List.mem_append_right _ (List.mem_append_right _ (List.mem_append_right _ (List.mem_append_right _ (List.mem_append_right _ (List.mem_append_right _ (List.mem_append_right _ (List.mem_append_right _ (List.mem_append_right _ (List.mem_append_right _ (List.mem_append_right _ (List.mem_append_right _ (List.mem_append_right _ (List.mem_append_right _ (List.mem_append_right _ (List.mem_append_right _ (List.mem_append_right _ (List.mem_append_right _ (List.mem_append_right _ (List.mem_append_right _ (List.mem_append_right _ (List.mem_append_right _ (List.mem_append_right _ (List.mem_append_right _ (List.mem_append_right _ (List.mem_append_right _ (List.mem_append_right _ (List.mem_append_right _ (List.mem_append_right _ (List.mem_append_right _ (List.mem_append_right _ (List.mem_append_right _ (List.mem_append_right _ (List.mem_append_left _ h))))))))))))))))))))))))))))))))))))))))))))))))
theorem wr_36 {w : Cond} (h : w ∈ wsL_law_r36) : w ∈ wsL_law := (List.mem_append_left _ (List.mem_append_left _ (List.mem_append_left _ (List.mem_append_left _ (List.mem_append_left _ (List.mem_append_left _ (List.mem_append_left _ (List.mem_append_left _ (List.mem_append_left _ (List.mem_append_left _ (List.mem_append_left _ (List.mem_append_left _ (List.mem_append_left _ (List.mem_append_right _ (List.mem_append_right _ (List.mem_append_right _ (List.mem_append_right _ (List.mem_append_right _ (List.mem_append_right _ (List.mem_append_right _ (List.mem_append_right _ (List.mem_append_right _ (List.mem_append_right _ (List.mem_append_right _ (List.mem_append_right _ (List.mem_append_right _ (List.mem_append_right _ (List.mem_append_right _ (List.mem_append_right _ (List.mem_append_right _ (List.mem_append_right _ (List.mem_append_right _ (List.mem_append_right _ (List.mem_append_right _ (List.mem_append_right _ (List.mem_append_right _ (List.mem_append_right _ (List.mem_append_right _ (List.mem_append_right _ (List.mem_append_right _ (List.mem_append_right _ (List.mem_append_right _ (List.mem_append_right _ (List.mem_append_right _ (List.mem_append_right _ (List.mem_append_right _ (List.mem_append_right _ (List.mem_append_right _ (List.mem_append_left _ h)))))))))))))))))))))))))))))))))))))))))))))))))
theorem wr_37 {w : Cond} (h : w ∈ wsL_law_r37) : w ∈ wsL_law := (List.mem_append_left _ (List.mem_append_left _ (List.mem_append_left _ (List.mem_append_left _ (List.mem_append_left _ (List.mem_append_left _ (List.mem_append_left _ (List.mem_append_left _ (List.mem_append_left _ (List.mem_append_left _ (List.mem_append_left _ (List.mem_append_left _ (List.mem_append_left _ (List.mem_append_right _ (List.mem_append_right _ (List.mem_append_right _ (List.mem_append_right _ (List.mem_append_right _ (List.mem_append_right _ (List.mem_append_right _ (List.mem_append_right _ (List.mem_append_right _ (List.mem_append_right _ (List.mem_append_right _ (List.mem_append_right _ (List.mem_append_right _ (List.mem_append_right _ (List.mem_append_right _ (List.mem_append_right _ (List.mem_append_right _ (List.mem_append_right _ (List.mem_append_right _ (List.mem_append_right _ (List.mem_append_right _ (List.mem_append_right _ (List.mem_append_right _ (List.mem_append_right _ (List.mem_append_right _ (List.mem_append_right _ (List.mem_append_right _ (List.mem_append_right _ (List.mem_append_right _ (List.mem_append_right _ (List.mem_append_right _ (List.mem_append_right _ (List.mem_append_right _ (List.mem_append_right _ (List.mem_append_right _ (List.mem_append_right _ (List.mem_append_left _ h))))))))))))))))))))))))))))))))))))))))))))))))))
theorem wr_38 {w : Cond} (h : w ∈ wsL_law_r38) : w ∈ wsL_law := (List.mem_append_left _ (List.mem_append_left _ (List.mem_append_left _ (List.mem_append_left _ (List.mem_append_left _ (List.mem_append_left _ (List.mem_append_left _ (List.mem_append_left _ (List.mem_append_left _ (List.mem_append_left _ (List.mem_append_left _ (List.mem_append_left _ (List.mem_append_left _ (List.mem_append_right _ (List.mem_append_right _ (List.mem_append_right _ (List.mem_append_right _ (List.mem_append_right _ (List.mem_append_right _ (List.mem_append_right _ (List.mem_append_right _ (List.mem_append_right _ (List.mem_append_right _ (List.mem_append_right _ (List.mem_append_right _ (List.mem_append_right _ (List.mem_append_right _ (List.mem_append_right _ (List.mem_append_right _ (List.mem_append_right _ (List.mem_append_right _ (List.mem_append_right _ (List.mem_append_right _ (List.mem_append_right _ (List.mem_append_right _ (List.mem_append_right _ (List.mem_append_right _ (List.mem_append_right _ (List.mem_append_right _ (List.mem_append_right _ (List.mem_append_right _ (List.mem_append_right _ (List.mem_append_right _ (List.mem_append_right _ (List.mem_append_right _ (List.mem_append_right _ (List.mem_append_right _ (List.mem_append_right _ (List.mem_append_right _ (List.mem_append_right _ (List.mem_append_left _ h)))))))))))))))))))))))))))))))))))))))))))))))))))
theorem wr_39 {w : Cond} (h : w ∈ wsL_law_r39) : w ∈ wsL_law := (List.mem_append_left _ (List.mem_append_left _ (List.mem_append_left _ (List.mem_append_left _ (List.mem_append_left _ (List.mem_append_left _ (List.mem_append_left _ (List.mem_append_left _ (List.mem_append_left _ (List.mem_append_left _ (List.mem_append_left _ (List.mem_append_left _ (List.mem_append_left _ (List.mem_append_right _ (List.mem_append_right _ (List.mem_append_right _ (List.mem_append_right _ (List.mem_append_right _ (List.mem_append_right _ (List.mem_append_right _ (List.mem_append_right _ (List.mem_append_right _ (List.mem_append_right _ (List.mem_append_right _ (List.mem_append_right _ (List.mem_append_right _ (List.mem_append_right _ (List.mem_append_right _ (List.mem_append_right _ (List.mem_append_right _ (List.mem_append_right _ (List.mem_append_right _ (List.mem_append_right _ (List.mem_append_right _ (List.mem_append_right _ (List.mem_append_right _ (List.mem_append_right _ (List.mem_append_right _ (List.mem_append_right _ (List.mem_append_right _ (List.mem_append_right _ (List.mem_append_right _ (List.mem_append_right _ (List.mem_append_right _ (List.mem_append_right _ (List.mem_append_right _ (List.mem_append_right _ (List.mem_append_right _ (List.mem_append_right _ (List.mem_append_right _ (List.mem_append_right _ (List.mem_append_left _ h))))))))))))))))))))))))))))))))))))))))))))))))))))
theorem wr_40 {w : Cond} (h : w ∈ wsL_law_r40) : w ∈ wsL_law := (List.mem_append_left _ (List.mem_append_left _ (List.mem_append_left _ (List.mem_append_left _ (List.mem_append_left _ (List.mem_append_left _ (List.mem_append_left _ (List.mem_append_left _ (List.mem_append_left _ (List.mem_append_left _ (List.mem_append_left _ (List.mem_append_left _ (List.mem_append_left _ (List.mem_append_right _ (List.mem_append_right _ (List.mem_append_right _ (List.mem_append_right _ (List.mem_append_right _ (List.mem_append_right _ (List.mem_append_right _ (List.mem_append_right _ (List.mem_append_right _ (List.mem_append_right _ (List.mem_append_right _ (List.mem_append_right _ (List.mem_append_right _ (List.mem_append_right _ (List.mem_append_right _ (List.mem_append_right _ (List.mem_append_right _ (List.mem_append_right _ (List.mem_append_right _ (List.mem_append_right _ (List.mem_append_right _ (List.mem_append_right _ (List.mem_append_right _ (List.mem_append_right _ (List.mem_append_right _ (List.mem_append_right _ (List.mem_append_right _ (List.mem_append_right _ (List.mem_append_right _ (List.mem_append_right _ (List.mem_append_right _ (List.mem_append_right _ (List.mem_append_right _ (List.mem_append_right _ (List.mem_append_right _ (List.mem_append_right _ (List.mem_append_right _ (List.mem_append_right _ (List.mem_append_right _ (List.mem_append_left _ h)))))))))))))))))))))))))))))))))))))))))))))))))))))
theorem wr_41 {w : Cond} (h : w ∈ wsL_law_r41) : w ∈ wsL_law := (List.mem_append_left _ (List.mem_append_left _ (List.mem_append_left _ (List.mem_append_left _ (List.mem_append_left _ (List.mem_append_left _ (List.mem_append_left _ (List.mem_append_left _ (List.mem_append_left _ (List.mem_append_left _ (List.mem_append_left _ (List.mem_append_left _ (List.mem_append_left _ (List.mem_append_right _ (List.mem_append_right _ (List.mem_append_right _ (List.mem_append_right _ (List.mem_append_right _ (List.mem_append_right _ (List.mem_append_right _ (List.mem_append_right _ (List.mem_append_right _ (List.mem_append_right _ (List.mem_append_right _ (List.mem_append_right _ (List.mem_append_right _ (List.mem_append_right _ (List.mem_append_right _ (List.mem_append_right _ (List.mem_append_right _ (List.mem_append_right _ (List.mem_append_right _ (List.mem_append_right _ (List.mem_append_right _ (List.mem_append_right _ (List.mem_append_right _ (List.mem_append_right _ (List.mem_append_right _ (List.mem_append_right _ (List.mem_append_right _ (List.mem_append_right _ (List.mem_append_right _ (List.mem_append_right _ (List.mem_append_right _ (List.mem_append_right _ (List.mem_append_right _ (List.mem_append_right _ (List.mem_append_right _ (List.mem_append_right _ (List.mem_append_right _ (List.mem_append_right _ (List.mem_append_right _ (List.mem_append_right _ (List.mem_append_left _ h))))))))))))))))))))))))))))))))))))))))))))))))))))))
theorem wr_42 {w : Cond} (h : w ∈ wsL_law_r42) : w ∈ wsL_law := (List.mem_append_left _ (List.mem_append_left _ (List.mem_append_left _ (List.mem_append_left _ (List.mem_append_left _ (List.mem_append_left _ (List.mem_append_left _ (List.mem_append_left _ (List.mem_append_left _ (List.mem_append_left _ (List.mem_append_left _ (List.mem_append_left _ (List.mem_append_left _ (List.mem_append_right _ (List.mem_append_right _ (List.mem_append_right _ (List.mem_append_right _ (List.mem_append_right _ (List.mem_append_right _ (List.mem_append_right _ (List.mem_append_right _ (List.mem_append_right _ (List.mem_append_right _ (List.mem_append_right _ (List.mem_append_right _ (List.mem_append_right _ (List.mem_append_right _ (List.mem_append_right _ (List.mem_append_right _ (List.mem_append_right _ (List.mem_append_right _ (List.mem_append_right _ (List.mem_append_right _ (List.mem_append_right _ (List.mem_append_right _ (List.mem_append_right _ (List.mem_append_right _ (List.mem_append_right _ (List.mem_append_right _ (List.mem_append_right _ (List.mem_append_right _ (List.mem_append_right _ (List.mem_append_right _ (List.mem_append_right _ (List.mem_append_right _ (List.mem_append_right _ (List.mem_append_right _ (List.mem_append_right _ (List.mem_append_right _ (List.mem_append_right _ (List.mem_append_right _ (List.mem_append_right _ (List.mem_append_right _ (List.mem_append_right _ (List.mem_append_left _ h)))))))))))))))))))))))))))))))))))))))))))))))))))))))
theorem wr_43 {w : Cond} (h : w ∈ wsL_law_r43) : w ∈ wsL_law := (List.mem_append_left _ (List.mem_append_left _ (List.mem_append_left _ (List.mem_append_left _ (List.mem_append_left _ (List.mem_append_left _ (List.mem_append_left _ (List.mem_append_left _ (List.mem_append_left _ (List.mem_append_left _ (List.mem_append_left _ (List.mem_append_left _ (List.mem_append_left _ (List.mem_append_right _ (List.mem_append_right _ (List.mem_append_right _ (List.mem_append_right _ (List.mem_append_right _ (List.mem_append_right _ (List.mem_append_right _ (List.mem_append_right _ (List.mem_append_right _ (List.mem_append_right _ (List.mem_append_right _ (List.mem_append_right _ (List.mem_append_right _ (List.mem_append_right _ (List.mem_append_right _ (List.mem_append_right _ (List.mem_append_right _ (List.mem_append_right _ (List.mem_append_right _ (List.mem_append_right _ (List.mem_append_right _ (List.mem_append_right _ (List.mem_append_right _ (List.mem_append_right _ (List.mem_append_right _ (List.mem_append_right _ (List.mem_append_right _ (List.mem_append_right _ (List.mem_append_right _ (List.mem_append_right _ (List.mem_append_right _ (List.mem_append_right _ (List.mem_append_right _ (List.mem_append_right _ (List.mem_append_right _ (List.mem_append_right _ (List.mem_append_right _ (List.mem_append_right _ (List.mem_append_right _ (List.mem_append_right _ (List.mem_append_right _ (List.mem_append_right _ (List.mem_append_left _ h))))))))))))))))))))))))))))))))))))))))))))))))))))))))
theorem wr_44 {w : Cond} (h : w ∈ wsL_law_r44) : w ∈ wsL_law := (List.mem_append_left _ (List.mem_append_left _ (List.mem_append_left _ (List.mem_append_left _ (List.mem_append_left _ (List.mem_append_left _ (List.mem_append_left _ (List.mem_append_left _ (List.mem_append_left _ (List.mem_append_left _ (List.mem_append_left _ (List.mem_append_left _ (List.mem_append_left _ (List.mem_append_right _ (List.mem_append_right _ (List.mem_append_right _ (List.mem_append_right _ (List.mem_append_right _ (List.mem_append_right _ (List.mem_append_right _ (List.mem_append_right _ (List.mem_append_right _ (List.mem_append_right _ (List.mem_append_right _ (List.mem_append_right _ (List.mem_append_right _ (List.mem_append_right _ (List.mem_append_right _ (List.mem_append_right _ (List.mem_append_right _ (List.mem_append_right _ (List.mem_append_right _ (List.mem_append_right _ (List.mem_append_right _ (List.mem_append_right _ (List.mem_append_right _ (List.mem_append_right _ (List.mem_append_right _ (List.mem_append_right _ (List.mem_append_right _ (List.mem_append_right _ (List.mem_append_right _ (List.mem_append_right _ (List.mem_append_right _ (List.mem_append_right _ (List.mem_append_right _ (List.mem_append_right _ (List.mem_append_right _ (List.mem_append_right _ (List.mem_append_right _ (List.mem_append_right _ (List.mem_append_right _ (List.mem_append_right _ (List.mem_append_right _ (List.mem_append_right _ (List.mem_append_right _ (List.mem_append_left _ h)))))))))))))))))))))))))))))))))))))))))))))))))))))))))
theorem wr_45 {w : Cond} (h : w ∈ wsL_law_r45) : w ∈ wsL_law := (List.mem_append_left _ (List.mem_append_left _ (List.mem_append_left _ (List.mem_append_left _ (List.mem_append_left _ (List.mem_append_left _ (List.mem_append_left _ (List.mem_append_left _ (List.mem_append_left _ (List.mem_append_left _ (List.mem_append_left _ (List.mem_append_left _ (List.mem_append_left _ (List.mem_append_right _ (List.mem_append_right _ (List.mem_append_right _ (List.mem_append_right _ (List.mem_append_right _ (List.mem_append_right _ (List.mem_append_right _ (List.mem_append_right _ (List.mem_append_right _ (List.mem_append_right _ (List.mem_append_right _ (List.mem_append_right _ (List.mem_append_right _ (List.mem_append_right _ (List.mem_append_right _ (List.mem_append_right _ (List.mem_append_right _ (List.mem_append_right _ (List.mem_append_right _ (List.mem_append_right _ (List.mem_append_right _ (List.mem_append_right _ (List.mem_append_right _ (List.mem_append_right _ (List.mem_append_right _ (List.mem_append_right _ (List.mem_append_right _ (List.mem_append_right _ (List.mem_append_right _ (List.mem_append_right _ (List.mem_append_right _ (List.mem_append_right _ (List.mem_append_right _ (List.mem_append_right _ (List.mem_append_right _ (List.mem_append_right _ (List.mem_append_right _ (List.mem_append_right _ (List.mem_append_right _ (List.mem_append_right _ (List.mem_append_right _ (List.mem_append_right _ (List.mem_append_right _ (List.mem_append_right _ (List.mem_append_left _ h))))))))))))))))))))))))))))))))))))))))))))))))))))))))))
theorem wr_46 {w : Cond} (h : w ∈ wsL_law_r46) : w ∈ wsL_law := (List.mem_append_left _ (List.mem_append_left _ (List.mem_append_left _ (List.mem_append_left _ (List.mem_append_left _ (List.mem_append_left _ (List.mem_append_left _ (List.mem_append_left _ (List.mem_append_left _ (List.mem_append_left _ (List.mem_append_left _ (List.mem_append_left _ (List.mem_append_left _ (List.mem_append_right _ (List.mem_append_right _ (List.mem_append_right _ (List.mem_append_right _ (List.mem_append_right _ (List.mem_append_right _ (List.mem_append_right _ (List.mem_append_right _ (List.mem_append_right _ (List.mem_append_right _ (List.mem_append_right _ (List.mem_append_right _ (List.mem_append_right _ (List.mem_append_right _ (List.mem_append_right _ (List.mem_append_right _ (List.mem_append_right _ (List.mem_append_right _ (List.mem_append_right _ (List.mem_append_right _ (List.mem_append_right _ (List.mem_append_right _ (List.mem_append_right _ (List.mem_append_right _ (List.mem_append_right _ (List.mem_append_right _ (List.mem_append_right _ (List.mem_append_right _ (List.mem_append_right _ (List.mem_append_right _ (List.mem_append_right _ (List.mem_append_right _ (List.mem_append_right _ (List.mem_append_right _ (List.mem_append_right _ (List.mem_append_right _ (List.mem_append_right _ (List.mem_append_right _ (List.mem_append_right _ (List.mem_append_right _ (List.mem_append_right _ (List.mem_append_right _ (List.mem_append_right _ (List.mem_append_right _ (List.mem_append_right _ h))))))))))))))))))))))))))))))))))))))))))))))))))))))))))
theorem wd_0 : Cond.classLink RL 7 RX10 ∈ wsL_law := wr_1 (List.mem_of_getElem? (i := 0) rfl)
theorem wd_2 : Cond.initialized RX10 ∈ wsL_law := wr_1 (List.mem_of_getElem? (i := 2) rfl)
theorem wd_3 : Cond.classLink RL 10 RX11 ∈ wsL_law := wr_1 (List.mem_of_getElem? (i := 3) rfl)
theorem wd_5 : Cond.initialized RX11 ∈ wsL_law := wr_1 (List.mem_of_getElem? (i := 5) rfl)
theorem wd_6 : Cond.constantLong RL 61 (4294967295) ∈ wsL_law := wr_1 (List.mem_of_getElem? (i := 6) rfl)
theorem wd_7 : Cond.methodLink RL 9 yX10_init ∈ wsL_law := wr_1 (List.mem_of_getElem? (i := 7) rfl)
theorem wd_10 : Cond.methodLink RX10 1 objectInit ∈ wsL_law := wr_1 (List.mem_of_getElem? (i := 10) rfl)
theorem wd_13 : Cond.classLink RX10 9 RX6 ∈ wsL_law := wr_1 (List.mem_of_getElem? (i := 13) rfl)
theorem wd_14 : Cond.fieldLink RX10 11 "NoteCounter" "sheets" "[LNoteCounter$Sheet;" ∈ wsL_law := wr_1 (List.mem_of_getElem? (i := 14) rfl)
theorem wd_15 : Cond.classLink RX10 15 RX5 ∈ wsL_law := wr_1 (List.mem_of_getElem? (i := 15) rfl)
theorem wd_17 : Cond.initialized RX5 ∈ wsL_law := wr_1 (List.mem_of_getElem? (i := 17) rfl)
theorem wd_18 : Cond.fieldLink RX10 18 "NoteCounter" "roads" "LNoteCounter$Roads;" ∈ wsL_law := wr_1 (List.mem_of_getElem? (i := 18) rfl)
theorem wd_19 : Cond.classLink RX10 22 RX0 ∈ wsL_law := wr_1 (List.mem_of_getElem? (i := 19) rfl)
theorem wd_20 : Cond.fieldLink RX10 24 "NoteCounter" "banks" "[LNoteCounter$Bank;" ∈ wsL_law := wr_1 (List.mem_of_getElem? (i := 20) rfl)
theorem wd_21 : Cond.classLink RX10 28 RX2 ∈ wsL_law := wr_1 (List.mem_of_getElem? (i := 21) rfl)
theorem wd_23 : Cond.initialized RX2 ∈ wsL_law := wr_1 (List.mem_of_getElem? (i := 23) rfl)
theorem wd_24 : Cond.fieldLink RX10 31 "NoteCounter" "entries" "LNoteCounter$Books;" ∈ wsL_law := wr_2 (List.mem_of_getElem? (i := 0) rfl)
theorem wd_25 : Cond.classLink RX10 35 RX7 ∈ wsL_law := wr_2 (List.mem_of_getElem? (i := 1) rfl)
theorem wd_27 : Cond.initialized RX7 ∈ wsL_law := wr_2 (List.mem_of_getElem? (i := 3) rfl)
theorem wd_28 : Cond.fieldLink RX10 38 "NoteCounter" "tape" "LNoteCounter$Tape;" ∈ wsL_law := wr_2 (List.mem_of_getElem? (i := 4) rfl)
theorem wd_29 : Cond.classLink RX10 42 RX1 ∈ wsL_law := wr_2 (List.mem_of_getElem? (i := 5) rfl)
theorem wd_31 : Cond.initialized RX1 ∈ wsL_law := wr_2 (List.mem_of_getElem? (i := 7) rfl)
theorem wd_32 : Cond.fieldLink RX10 47 "NoteCounter" "reader" "LNoteCounter$BookReader;" ∈ wsL_law := wr_2 (List.mem_of_getElem? (i := 8) rfl)
theorem wd_33 : Cond.classLink RX10 51 RX4 ∈ wsL_law := wr_2 (List.mem_of_getElem? (i := 9) rfl)
theorem wd_34 : Cond.fieldLink RX10 53 "NoteCounter" "notes" "[LNoteCounter$Note;" ∈ wsL_law := wr_2 (List.mem_of_getElem? (i := 10) rfl)
theorem wd_35 : Cond.classLink RX10 57 RX9 ∈ wsL_law := wr_2 (List.mem_of_getElem? (i := 11) rfl)
theorem wd_36 : Cond.fieldLink RX10 59 "NoteCounter" "traders" "[LNoteCounter$Trader;" ∈ wsL_law := wr_2 (List.mem_of_getElem? (i := 12) rfl)
theorem wd_38 : Cond.fieldLink RX10 63 "NoteCounter" "offers" "[I" ∈ wsL_law := wr_2 (List.mem_of_getElem? (i := 14) rfl)
theorem wd_39 : Cond.fieldLink RX10 67 "NoteCounter" "townRates" "[I" ∈ wsL_law := wr_2 (List.mem_of_getElem? (i := 15) rfl)
theorem wd_40 : Cond.classLink RX10 70 RX3 ∈ wsL_law := wr_2 (List.mem_of_getElem? (i := 16) rfl)
theorem wd_42 : Cond.initialized RX3 ∈ wsL_law := wr_2 (List.mem_of_getElem? (i := 18) rfl)
theorem wd_43 : Cond.fieldLink RX10 73 "NoteCounter" "drover" "LNoteCounter$Drover;" ∈ wsL_law := wr_2 (List.mem_of_getElem? (i := 19) rfl)
theorem wd_44 : Cond.classLink RX10 77 RX8 ∈ wsL_law := wr_2 (List.mem_of_getElem? (i := 20) rfl)
theorem wd_46 : Cond.initialized RX8 ∈ wsL_law := wr_2 (List.mem_of_getElem? (i := 22) rfl)
theorem wd_47 : Cond.fieldLink RX10 80 "NoteCounter" "bodies" "LNoteCounter$Trace;" ∈ wsL_law := wr_2 (List.mem_of_getElem? (i := 23) rfl)
theorem wd_48 : Cond.fieldLink RX10 84 "NoteCounter" "bankCount" "I" ∈ wsL_law := wr_3 (List.mem_of_getElem? (i := 0) rfl)
theorem wd_49 : Cond.fieldLink RX10 88 "NoteCounter" "noteCount" "I" ∈ wsL_law := wr_3 (List.mem_of_getElem? (i := 1) rfl)
theorem wd_50 : Cond.fieldLink RX10 91 "NoteCounter" "theWeek" "I" ∈ wsL_law := wr_3 (List.mem_of_getElem? (i := 2) rfl)
theorem wd_51 : Cond.fieldLink RX10 94 "NoteCounter" "latestFault" "I" ∈ wsL_law := wr_3 (List.mem_of_getElem? (i := 3) rfl)
theorem wd_52 : Cond.fieldLink RX10 97 "NoteCounter" "latestFinding" "I" ∈ wsL_law := wr_3 (List.mem_of_getElem? (i := 4) rfl)
theorem wd_54 : Cond.initialized RX6 ∈ wsL_law := wr_3 (List.mem_of_getElem? (i := 6) rfl)
theorem wd_56 : Cond.initialized RX9 ∈ wsL_law := wr_3 (List.mem_of_getElem? (i := 8) rfl)
theorem wd_57 : Cond.methodLink RX10 17 yX5_init ∈ wsL_law := wr_3 (List.mem_of_getElem? (i := 9) rfl)
theorem wd_60 : Cond.methodLink RX5 3 objectInit ∈ wsL_law := wr_3 (List.mem_of_getElem? (i := 12) rfl)
theorem wd_61 : Cond.fieldLink RX5 9 "NoteCounter$Roads" "miles" "[I" ∈ wsL_law := wr_3 (List.mem_of_getElem? (i := 13) rfl)
theorem wd_62 : Cond.fieldLink RX5 15 "NoteCounter$Roads" "fewest" "[I" ∈ wsL_law := wr_3 (List.mem_of_getElem? (i := 14) rfl)
theorem wd_63 : Cond.methodLink RX5 18 yX5_measure ∈ wsL_law := wr_3 (List.mem_of_getElem? (i := 15) rfl)
theorem wd_64 : Cond.instanceMethod yX5_measure ∈ wsL_law := wr_3 (List.mem_of_getElem? (i := 16) rfl)
theorem wd_65 : Cond.selects RX5 yX5_measure yX5_measure ∈ wsL_law := wr_3 (List.mem_of_getElem? (i := 17) rfl)
theorem wd_66 : Cond.code yX5_measure cX5_measure 5 none ∈ wsL_law := wr_3 (List.mem_of_getElem? (i := 18) rfl)
theorem wd_67 : Cond.constant RX5 21 (1000000) ∈ wsL_law := wr_3 (List.mem_of_getElem? (i := 19) rfl)
theorem wd_68 : Cond.methodLink RX5 27 Lib.Math.min.name ∈ wsL_law := wr_3 (List.mem_of_getElem? (i := 20) rfl)
theorem wd_69 : Cond.static Lib.Math.min.name ∈ wsL_law := wr_3 (List.mem_of_getElem? (i := 21) rfl)
theorem wd_70 : Cond.initialized "java/lang/Math" ∈ wsL_law := wr_3 (List.mem_of_getElem? (i := 22) rfl)
theorem wd_71 : Cond.code Lib.Math.min.name Lib.Math.min.code 2 (some .int) ∈ wsL_law := wr_3 (List.mem_of_getElem? (i := 23) rfl)
theorem wd_72 : Cond.methodLink RX5 23 yX5_milesBetween ∈ wsL_law := wr_4 (List.mem_of_getElem? (i := 0) rfl)
theorem wd_73 : Cond.instanceMethod yX5_milesBetween ∈ wsL_law := wr_4 (List.mem_of_getElem? (i := 1) rfl)
theorem wd_74 : Cond.selects RX5 yX5_milesBetween yX5_milesBetween ∈ wsL_law := wr_4 (List.mem_of_getElem? (i := 2) rfl)
theorem wd_75 : Cond.code yX5_milesBetween cX5_milesBetween 3 (some .int) ∈ wsL_law := wr_4 (List.mem_of_getElem? (i := 3) rfl)
theorem wd_78 : Cond.methodLink RX2 3 objectInit ∈ wsL_law := wr_4 (List.mem_of_getElem? (i := 6) rfl)
theorem wd_79 : Cond.fieldLink RX2 11 "NoteCounter$Books" "words" "[I" ∈ wsL_law := wr_4 (List.mem_of_getElem? (i := 7) rfl)
theorem wd_80 : Cond.fieldLink RX2 15 "NoteCounter$Books" "weeks" "[I" ∈ wsL_law := wr_4 (List.mem_of_getElem? (i := 8) rfl)
theorem wd_81 : Cond.fieldLink RX2 18 "NoteCounter$Books" "ofBanks" "[I" ∈ wsL_law := wr_4 (List.mem_of_getElem? (i := 9) rfl)
theorem wd_82 : Cond.fieldLink RX2 21 "NoteCounter$Books" "values" "[I" ∈ wsL_law := wr_4 (List.mem_of_getElem? (i := 10) rfl)
theorem wd_83 : Cond.fieldLink RX2 24 "NoteCounter$Books" "size" "I" ∈ wsL_law := wr_4 (List.mem_of_getElem? (i := 11) rfl)
theorem wd_86 : Cond.methodLink RX7 1 objectInit ∈ wsL_law := wr_4 (List.mem_of_getElem? (i := 14) rfl)
theorem wd_88 : Cond.fieldLink RX7 9 "NoteCounter$Tape" "bytes" "[B" ∈ wsL_law := wr_4 (List.mem_of_getElem? (i := 16) rfl)
theorem wd_89 : Cond.fieldLink RX7 13 "NoteCounter$Tape" "position" "I" ∈ wsL_law := wr_4 (List.mem_of_getElem? (i := 17) rfl)
theorem wd_90 : Cond.fieldLink RX7 17 "NoteCounter$Tape" "length" "I" ∈ wsL_law := wr_4 (List.mem_of_getElem? (i := 18) rfl)
theorem wd_91 : Cond.fieldLink RX7 20 "NoteCounter$Tape" "token" "I" ∈ wsL_law := wr_4 (List.mem_of_getElem? (i := 19) rfl)
theorem wd_92 : Cond.fieldLink RX7 23 "NoteCounter$Tape" "tokenStart" "I" ∈ wsL_law := wr_4 (List.mem_of_getElem? (i := 20) rfl)
theorem wd_93 : Cond.fieldLink RX7 26 "NoteCounter$Tape" "tokenNumber" "I" ∈ wsL_law := wr_4 (List.mem_of_getElem? (i := 21) rfl)
theorem wd_94 : Cond.methodLink RX10 44 yX1_init ∈ wsL_law := wr_4 (List.mem_of_getElem? (i := 22) rfl)
theorem wd_97 : Cond.methodLink RX1 3 objectInit ∈ wsL_law := wr_5 (List.mem_of_getElem? (i := 1) rfl)
theorem wd_98 : Cond.fieldLink RX1 11 "NoteCounter$BookReader" "next" "I" ∈ wsL_law := wr_5 (List.mem_of_getElem? (i := 2) rfl)
theorem wd_99 : Cond.fieldLink RX1 15 "NoteCounter$BookReader" "bookWeek" "I" ∈ wsL_law := wr_5 (List.mem_of_getElem? (i := 3) rfl)
theorem wd_100 : Cond.fieldLink RX1 18 "NoteCounter$BookReader" "word" "I" ∈ wsL_law := wr_5 (List.mem_of_getElem? (i := 4) rfl)
theorem wd_101 : Cond.fieldLink RX1 21 "NoteCounter$BookReader" "ofBank" "I" ∈ wsL_law := wr_5 (List.mem_of_getElem? (i := 5) rfl)
theorem wd_102 : Cond.fieldLink RX1 24 "NoteCounter$BookReader" "written" "I" ∈ wsL_law := wr_5 (List.mem_of_getElem? (i := 6) rfl)
theorem wd_103 : Cond.fieldLink RX1 27 "NoteCounter$BookReader" "tape" "LNoteCounter$Tape;" ∈ wsL_law := wr_5 (List.mem_of_getElem? (i := 7) rfl)
theorem wd_104 : Cond.fieldLink RX1 31 "NoteCounter$BookReader" "books" "LNoteCounter$Books;" ∈ wsL_law := wr_5 (List.mem_of_getElem? (i := 8) rfl)
theorem wd_107 : Cond.methodLink RX3 3 objectInit ∈ wsL_law := wr_5 (List.mem_of_getElem? (i := 11) rfl)
theorem wd_108 : Cond.fieldLink RX3 9 "NoteCounter$Drover" "gains" "[I" ∈ wsL_law := wr_5 (List.mem_of_getElem? (i := 12) rfl)
theorem wd_109 : Cond.fieldLink RX3 15 "NoteCounter$Drover" "fromMorning" "[I" ∈ wsL_law := wr_5 (List.mem_of_getElem? (i := 13) rfl)
theorem wd_110 : Cond.fieldLink RX3 18 "NoteCounter$Drover" "fromEvening" "[I" ∈ wsL_law := wr_5 (List.mem_of_getElem? (i := 14) rfl)
theorem wd_111 : Cond.fieldLink RX3 21 "NoteCounter$Drover" "carried" "I" ∈ wsL_law := wr_5 (List.mem_of_getElem? (i := 15) rfl)
theorem wd_112 : Cond.fieldLink RX3 25 "NoteCounter$Drover" "sets" "I" ∈ wsL_law := wr_5 (List.mem_of_getElem? (i := 16) rfl)
theorem wd_113 : Cond.fieldLink RX3 28 "NoteCounter$Drover" "most" "I" ∈ wsL_law := wr_5 (List.mem_of_getElem? (i := 17) rfl)
theorem wd_114 : Cond.fieldLink RX3 31 "NoteCounter$Drover" "first" "I" ∈ wsL_law := wr_5 (List.mem_of_getElem? (i := 18) rfl)
theorem wd_117 : Cond.methodLink RX8 3 objectInit ∈ wsL_law := wr_5 (List.mem_of_getElem? (i := 21) rfl)
theorem wd_118 : Cond.fieldLink RX8 11 "NoteCounter$Trace" "numbers" "[I" ∈ wsL_law := wr_5 (List.mem_of_getElem? (i := 22) rfl)
theorem wd_119 : Cond.fieldLink RX8 15 "NoteCounter$Trace" "length" "I" ∈ wsL_law := wr_5 (List.mem_of_getElem? (i := 23) rfl)
theorem wd_122 : Cond.methodLink RX6 1 objectInit ∈ wsL_law := wr_6 (List.mem_of_getElem? (i := 2) rfl)
theorem wd_123 : Cond.fieldLink RX6 9 "NoteCounter$Sheet" "items" "[I" ∈ wsL_law := wr_6 (List.mem_of_getElem? (i := 3) rfl)
theorem wd_124 : Cond.fieldLink RX6 13 "NoteCounter$Sheet" "lane" "I" ∈ wsL_law := wr_6 (List.mem_of_getElem? (i := 4) rfl)
theorem wd_125 : Cond.fieldLink RX6 17 "NoteCounter$Sheet" "length" "I" ∈ wsL_law := wr_6 (List.mem_of_getElem? (i := 5) rfl)
theorem wd_128 : Cond.methodLink RX9 1 objectInit ∈ wsL_law := wr_6 (List.mem_of_getElem? (i := 8) rfl)
theorem wd_129 : Cond.fieldLink RX9 7 "NoteCounter$Trader" "town" "I" ∈ wsL_law := wr_6 (List.mem_of_getElem? (i := 9) rfl)
theorem wd_130 : Cond.fieldLink RX9 13 "NoteCounter$Trader" "takes" "I" ∈ wsL_law := wr_6 (List.mem_of_getElem? (i := 10) rfl)
theorem wd_131 : Cond.methodLink RL 12 yX11_init ∈ wsL_law := wr_6 (List.mem_of_getElem? (i := 11) rfl)
theorem wd_134 : Cond.methodLink RX11 1 objectInit ∈ wsL_law := wr_6 (List.mem_of_getElem? (i := 14) rfl)
theorem wd_135 : Cond.fieldLink RX11 7 "NoteCounterModel" "lane" "[I" ∈ wsL_law := wr_6 (List.mem_of_getElem? (i := 15) rfl)
theorem wd_136 : Cond.fieldLink RX11 13 "NoteCounterModel" "many" "[I" ∈ wsL_law := wr_6 (List.mem_of_getElem? (i := 16) rfl)
theorem wd_137 : Cond.fieldLink RX11 16 "NoteCounterModel" "item" "[I" ∈ wsL_law := wr_6 (List.mem_of_getElem? (i := 17) rfl)
theorem wd_138 : Cond.fieldLink RX11 19 "NoteCounterModel" "roads" "[I" ∈ wsL_law := wr_6 (List.mem_of_getElem? (i := 18) rfl)
theorem wd_139 : Cond.fieldLink RX11 22 "NoteCounterModel" "miles" "[I" ∈ wsL_law := wr_6 (List.mem_of_getElem? (i := 19) rfl)
theorem wd_140 : Cond.fieldLink RX11 25 "NoteCounterModel" "bankTown" "[I" ∈ wsL_law := wr_6 (List.mem_of_getElem? (i := 20) rfl)
theorem wd_141 : Cond.fieldLink RX11 28 "NoteCounterModel" "gold" "[I" ∈ wsL_law := wr_6 (List.mem_of_getElem? (i := 21) rfl)
theorem wd_142 : Cond.fieldLink RX11 31 "NoteCounterModel" "plate" "[I" ∈ wsL_law := wr_6 (List.mem_of_getElem? (i := 22) rfl)
theorem wd_144 : Cond.fieldLink RX11 34 "NoteCounterModel" "isShut" "[Z" ∈ wsL_law := wr_7 (List.mem_of_getElem? (i := 0) rfl)
theorem wd_145 : Cond.fieldLink RX11 38 "NoteCounterModel" "holds" "[I" ∈ wsL_law := wr_7 (List.mem_of_getElem? (i := 1) rfl)
theorem wd_146 : Cond.fieldLink RX11 41 "NoteCounterModel" "entryWeek" "[I" ∈ wsL_law := wr_7 (List.mem_of_getElem? (i := 2) rfl)
theorem wd_147 : Cond.fieldLink RX11 44 "NoteCounterModel" "entryWhat" "[I" ∈ wsL_law := wr_7 (List.mem_of_getElem? (i := 3) rfl)
theorem wd_148 : Cond.fieldLink RX11 47 "NoteCounterModel" "entryBank" "[I" ∈ wsL_law := wr_7 (List.mem_of_getElem? (i := 4) rfl)
theorem wd_149 : Cond.fieldLink RX11 50 "NoteCounterModel" "entryNumber" "[I" ∈ wsL_law := wr_7 (List.mem_of_getElem? (i := 5) rfl)
theorem wd_150 : Cond.fieldLink RX11 53 "NoteCounterModel" "tape" "[I" ∈ wsL_law := wr_7 (List.mem_of_getElem? (i := 6) rfl)
theorem wd_151 : Cond.fieldLink RX11 56 "NoteCounterModel" "noteBank" "[I" ∈ wsL_law := wr_7 (List.mem_of_getElem? (i := 7) rfl)
theorem wd_152 : Cond.fieldLink RX11 59 "NoteCounterModel" "sum" "[I" ∈ wsL_law := wr_7 (List.mem_of_getElem? (i := 8) rfl)
theorem wd_153 : Cond.fieldLink RX11 62 "NoteCounterModel" "marks" "[I" ∈ wsL_law := wr_7 (List.mem_of_getElem? (i := 9) rfl)
theorem wd_154 : Cond.fieldLink RX11 65 "NoteCounterModel" "worn" "[I" ∈ wsL_law := wr_7 (List.mem_of_getElem? (i := 10) rfl)
theorem wd_155 : Cond.fieldLink RX11 68 "NoteCounterModel" "trader" "[I" ∈ wsL_law := wr_7 (List.mem_of_getElem? (i := 11) rfl)
theorem wd_156 : Cond.fieldLink RX11 71 "NoteCounterModel" "isHome" "[Z" ∈ wsL_law := wr_7 (List.mem_of_getElem? (i := 12) rfl)
theorem wd_157 : Cond.fieldLink RX11 74 "NoteCounterModel" "isLost" "[Z" ∈ wsL_law := wr_7 (List.mem_of_getElem? (i := 13) rfl)
theorem wd_158 : Cond.fieldLink RX11 77 "NoteCounterModel" "wasCut" "[Z" ∈ wsL_law := wr_7 (List.mem_of_getElem? (i := 14) rfl)
theorem wd_159 : Cond.fieldLink RX11 80 "NoteCounterModel" "isHalved" "[Z" ∈ wsL_law := wr_7 (List.mem_of_getElem? (i := 15) rfl)
theorem wd_160 : Cond.fieldLink RX11 83 "NoteCounterModel" "halves" "[I" ∈ wsL_law := wr_7 (List.mem_of_getElem? (i := 16) rfl)
theorem wd_161 : Cond.fieldLink RX11 86 "NoteCounterModel" "handMany" "[I" ∈ wsL_law := wr_7 (List.mem_of_getElem? (i := 17) rfl)
theorem wd_162 : Cond.fieldLink RX11 89 "NoteCounterModel" "handOf" "[I" ∈ wsL_law := wr_7 (List.mem_of_getElem? (i := 18) rfl)
theorem wd_163 : Cond.fieldLink RX11 92 "NoteCounterModel" "handWeek" "[I" ∈ wsL_law := wr_7 (List.mem_of_getElem? (i := 19) rfl)
theorem wd_164 : Cond.fieldLink RX11 95 "NoteCounterModel" "inTown" "[I" ∈ wsL_law := wr_7 (List.mem_of_getElem? (i := 20) rfl)
theorem wd_165 : Cond.fieldLink RX11 98 "NoteCounterModel" "takes" "[I" ∈ wsL_law := wr_7 (List.mem_of_getElem? (i := 21) rfl)
theorem wd_166 : Cond.fieldLink RX11 101 "NoteCounterModel" "rate" "[I" ∈ wsL_law := wr_7 (List.mem_of_getElem? (i := 22) rfl)
theorem wd_167 : Cond.fieldLink RX11 104 "NoteCounterModel" "most" "[I" ∈ wsL_law := wr_7 (List.mem_of_getElem? (i := 23) rfl)
theorem wd_168 : Cond.fieldLink RX11 107 "NoteCounterModel" "list" "[I" ∈ wsL_law := wr_8 (List.mem_of_getElem? (i := 0) rfl)
theorem wd_169 : Cond.fieldLink RX11 110 "NoteCounterModel" "trace" "[I" ∈ wsL_law := wr_8 (List.mem_of_getElem? (i := 1) rfl)
theorem wd_170 : Cond.methodLink RL 13 yX10_sheet ∈ wsL_law := wr_8 (List.mem_of_getElem? (i := 2) rfl)
theorem wd_171 : Cond.instanceMethod yX10_sheet ∈ wsL_law := wr_8 (List.mem_of_getElem? (i := 3) rfl)
theorem wd_172 : Cond.selects RX10 yX10_sheet yX10_sheet ∈ wsL_law := wr_8 (List.mem_of_getElem? (i := 4) rfl)
theorem wd_173 : Cond.code yX10_sheet cX10_sheet 5 (some .int) ∈ wsL_law := wr_8 (List.mem_of_getElem? (i := 5) rfl)
theorem wd_174 : Cond.constant RX10 110 (-1000001) ∈ wsL_law := wr_8 (List.mem_of_getElem? (i := 6) rfl)
theorem wd_175 : Cond.methodLink RX10 102 yX10_sheetOf ∈ wsL_law := wr_8 (List.mem_of_getElem? (i := 7) rfl)
theorem wd_176 : Cond.instanceMethod yX10_sheetOf ∈ wsL_law := wr_8 (List.mem_of_getElem? (i := 8) rfl)
theorem wd_177 : Cond.selects RX10 yX10_sheetOf yX10_sheetOf ∈ wsL_law := wr_8 (List.mem_of_getElem? (i := 9) rfl)
theorem wd_178 : Cond.code yX10_sheetOf cX10_sheetOf 2 (some (.object "NoteCounter$Sheet")) ∈ wsL_law := wr_8 (List.mem_of_getElem? (i := 10) rfl)
theorem wd_179 : Cond.methodLink RX10 106 yX10_isUpTo ∈ wsL_law := wr_8 (List.mem_of_getElem? (i := 11) rfl)
theorem wd_180 : Cond.static yX10_isUpTo ∈ wsL_law := wr_8 (List.mem_of_getElem? (i := 12) rfl)
theorem wd_181 : Cond.code yX10_isUpTo cX10_isUpTo 2 (some .boolean) ∈ wsL_law := wr_8 (List.mem_of_getElem? (i := 13) rfl)
theorem wd_182 : Cond.methodLink RX10 111 yX10_found ∈ wsL_law := wr_8 (List.mem_of_getElem? (i := 14) rfl)
theorem wd_183 : Cond.instanceMethod yX10_found ∈ wsL_law := wr_8 (List.mem_of_getElem? (i := 15) rfl)
theorem wd_184 : Cond.selects RX10 yX10_found yX10_found ∈ wsL_law := wr_8 (List.mem_of_getElem? (i := 16) rfl)
theorem wd_185 : Cond.code yX10_found cX10_found 2 (some .int) ∈ wsL_law := wr_8 (List.mem_of_getElem? (i := 17) rfl)
theorem wd_186 : Cond.constant RX10 375 (-1000010) ∈ wsL_law := wr_8 (List.mem_of_getElem? (i := 18) rfl)
theorem wd_187 : Cond.methodLink RX10 115 yX6_begin ∈ wsL_law := wr_8 (List.mem_of_getElem? (i := 19) rfl)
theorem wd_188 : Cond.instanceMethod yX6_begin ∈ wsL_law := wr_8 (List.mem_of_getElem? (i := 20) rfl)
theorem wd_189 : Cond.selects RX6 yX6_begin yX6_begin ∈ wsL_law := wr_8 (List.mem_of_getElem? (i := 21) rfl)
theorem wd_190 : Cond.code yX6_begin cX6_begin 4 none ∈ wsL_law := wr_8 (List.mem_of_getElem? (i := 22) rfl)
theorem wd_191 : Cond.methodLink RX6 20 Lib.Math.min.name ∈ wsL_law := wr_8 (List.mem_of_getElem? (i := 23) rfl)
theorem wd_192 : Cond.methodLink RX10 119 yX10_foundNothing ∈ wsL_law := wr_9 (List.mem_of_getElem? (i := 0) rfl)
theorem wd_193 : Cond.instanceMethod yX10_foundNothing ∈ wsL_law := wr_9 (List.mem_of_getElem? (i := 1) rfl)
theorem wd_194 : Cond.selects RX10 yX10_foundNothing yX10_foundNothing ∈ wsL_law := wr_9 (List.mem_of_getElem? (i := 2) rfl)
theorem wd_195 : Cond.code yX10_foundNothing cX10_foundNothing 2 (some .int) ∈ wsL_law := wr_9 (List.mem_of_getElem? (i := 3) rfl)
theorem wd_196 : Cond.methodLink RL 17 yX11_sheet ∈ wsL_law := wr_9 (List.mem_of_getElem? (i := 4) rfl)
theorem wd_197 : Cond.instanceMethod yX11_sheet ∈ wsL_law := wr_9 (List.mem_of_getElem? (i := 5) rfl)
theorem wd_198 : Cond.selects RX11 yX11_sheet yX11_sheet ∈ wsL_law := wr_9 (List.mem_of_getElem? (i := 6) rfl)
theorem wd_199 : Cond.code yX11_sheet cX11_sheet 5 (some .int) ∈ wsL_law := wr_9 (List.mem_of_getElem? (i := 7) rfl)
theorem wd_200 : Cond.fieldLink RX11 113 "NoteCounterModel" "thrown" "I" ∈ wsL_law := wr_9 (List.mem_of_getElem? (i := 8) rfl)
theorem wd_201 : Cond.constantLong RX11 131 (2) ∈ wsL_law := wr_9 (List.mem_of_getElem? (i := 9) rfl)
theorem wd_202 : Cond.constant RX11 133 (-1000001) ∈ wsL_law := wr_9 (List.mem_of_getElem? (i := 10) rfl)
theorem wd_203 : Cond.fieldLink RX11 117 "NoteCounterModel" "status" "I" ∈ wsL_law := wr_9 (List.mem_of_getElem? (i := 11) rfl)
theorem wd_204 : Cond.methodLink RX11 127 yX11_isSheet ∈ wsL_law := wr_9 (List.mem_of_getElem? (i := 12) rfl)
theorem wd_205 : Cond.static yX11_isSheet ∈ wsL_law := wr_9 (List.mem_of_getElem? (i := 13) rfl)
theorem wd_206 : Cond.code yX11_isSheet cX11_isSheet 1 (some .boolean) ∈ wsL_law := wr_9 (List.mem_of_getElem? (i := 14) rfl)
theorem wd_207 : Cond.constantLong RX11 121 (7) ∈ wsL_law := wr_9 (List.mem_of_getElem? (i := 15) rfl)
theorem wd_208 : Cond.methodLink RX11 123 yX11_in ∈ wsL_law := wr_9 (List.mem_of_getElem? (i := 16) rfl)
theorem wd_209 : Cond.static yX11_in ∈ wsL_law := wr_9 (List.mem_of_getElem? (i := 17) rfl)
theorem wd_210 : Cond.code yX11_in cX11_in 6 (some .boolean) ∈ wsL_law := wr_9 (List.mem_of_getElem? (i := 18) rfl)
theorem wd_211 : Cond.methodLink RX11 134 yX11_finding ∈ wsL_law := wr_9 (List.mem_of_getElem? (i := 19) rfl)
theorem wd_212 : Cond.instanceMethod yX11_finding ∈ wsL_law := wr_9 (List.mem_of_getElem? (i := 20) rfl)
theorem wd_213 : Cond.selects RX11 yX11_finding yX11_finding ∈ wsL_law := wr_9 (List.mem_of_getElem? (i := 21) rfl)
theorem wd_214 : Cond.code yX11_finding cX11_finding 2 (some .int) ∈ wsL_law := wr_9 (List.mem_of_getElem? (i := 22) rfl)
theorem wd_215 : Cond.constant RX11 120 (-1000010) ∈ wsL_law := wr_9 (List.mem_of_getElem? (i := 23) rfl)
theorem wd_216 : Cond.methodLink RL 18 yX10_set ∈ wsL_law := wr_10 (List.mem_of_getElem? (i := 0) rfl)
theorem wd_217 : Cond.instanceMethod yX10_set ∈ wsL_law := wr_10 (List.mem_of_getElem? (i := 1) rfl)
theorem wd_218 : Cond.selects RX10 yX10_set yX10_set ∈ wsL_law := wr_10 (List.mem_of_getElem? (i := 2) rfl)
theorem wd_219 : Cond.code yX10_set cX10_set 5 (some .int) ∈ wsL_law := wr_10 (List.mem_of_getElem? (i := 3) rfl)
theorem wd_220 : Cond.methodLink RX10 122 yX6_isMissing ∈ wsL_law := wr_10 (List.mem_of_getElem? (i := 4) rfl)
theorem wd_221 : Cond.instanceMethod yX6_isMissing ∈ wsL_law := wr_10 (List.mem_of_getElem? (i := 5) rfl)
theorem wd_222 : Cond.selects RX6 yX6_isMissing yX6_isMissing ∈ wsL_law := wr_10 (List.mem_of_getElem? (i := 6) rfl)
theorem wd_223 : Cond.code yX6_isMissing cX6_isMissing 1 (some .boolean) ∈ wsL_law := wr_10 (List.mem_of_getElem? (i := 7) rfl)
theorem wd_224 : Cond.methodLink RX10 126 yX6_hasPlaces ∈ wsL_law := wr_10 (List.mem_of_getElem? (i := 8) rfl)
theorem wd_225 : Cond.instanceMethod yX6_hasPlaces ∈ wsL_law := wr_10 (List.mem_of_getElem? (i := 9) rfl)
theorem wd_226 : Cond.selects RX6 yX6_hasPlaces yX6_hasPlaces ∈ wsL_law := wr_10 (List.mem_of_getElem? (i := 10) rfl)
theorem wd_227 : Cond.code yX6_hasPlaces cX6_hasPlaces 3 (some .boolean) ∈ wsL_law := wr_10 (List.mem_of_getElem? (i := 11) rfl)
theorem wd_228 : Cond.methodLink RX10 129 yX6_put ∈ wsL_law := wr_10 (List.mem_of_getElem? (i := 12) rfl)
theorem wd_229 : Cond.instanceMethod yX6_put ∈ wsL_law := wr_10 (List.mem_of_getElem? (i := 13) rfl)
theorem wd_230 : Cond.selects RX6 yX6_put yX6_put ∈ wsL_law := wr_10 (List.mem_of_getElem? (i := 14) rfl)
theorem wd_231 : Cond.code yX6_put cX6_put 4 (some .int) ∈ wsL_law := wr_10 (List.mem_of_getElem? (i := 15) rfl)
theorem wd_232 : Cond.methodLink RX6 26 yX6_hasPlaces ∈ wsL_law := wr_10 (List.mem_of_getElem? (i := 16) rfl)
theorem wd_233 : Cond.methodLink RL 21 yX11_set ∈ wsL_law := wr_10 (List.mem_of_getElem? (i := 17) rfl)
theorem wd_234 : Cond.instanceMethod yX11_set ∈ wsL_law := wr_10 (List.mem_of_getElem? (i := 18) rfl)
theorem wd_235 : Cond.selects RX11 yX11_set yX11_set ∈ wsL_law := wr_10 (List.mem_of_getElem? (i := 19) rfl)
theorem wd_236 : Cond.code yX11_set cX11_set 4 (some .int) ∈ wsL_law := wr_10 (List.mem_of_getElem? (i := 20) rfl)
theorem wd_237 : Cond.methodLink RL 22 yX10_copy ∈ wsL_law := wr_10 (List.mem_of_getElem? (i := 21) rfl)
theorem wd_238 : Cond.instanceMethod yX10_copy ∈ wsL_law := wr_10 (List.mem_of_getElem? (i := 22) rfl)
theorem wd_239 : Cond.selects RX10 yX10_copy yX10_copy ∈ wsL_law := wr_10 (List.mem_of_getElem? (i := 23) rfl)
theorem wd_240 : Cond.code yX10_copy cX10_copy 8 (some .int) ∈ wsL_law := wr_11 (List.mem_of_getElem? (i := 0) rfl)
theorem wd_241 : Cond.fieldLink RX10 133 "NoteCounter$Sheet" "lane" "I" ∈ wsL_law := wr_11 (List.mem_of_getElem? (i := 1) rfl)
theorem wd_242 : Cond.fieldLink RX10 136 "NoteCounter$Sheet" "items" "[I" ∈ wsL_law := wr_11 (List.mem_of_getElem? (i := 2) rfl)
theorem wd_243 : Cond.methodLink RX10 139 arraycopyName ∈ wsL_law := wr_11 (List.mem_of_getElem? (i := 3) rfl)
theorem wd_244 : Cond.native arraycopyName ∈ wsL_law := wr_11 (List.mem_of_getElem? (i := 4) rfl)
theorem wd_245 : Cond.static arraycopyName ∈ wsL_law := wr_11 (List.mem_of_getElem? (i := 5) rfl)
theorem wd_246 : Cond.initialized "java/lang/System" ∈ wsL_law := wr_11 (List.mem_of_getElem? (i := 6) rfl)
theorem wd_247 : Cond.methodLink RL 26 yX11_copy ∈ wsL_law := wr_11 (List.mem_of_getElem? (i := 7) rfl)
theorem wd_248 : Cond.instanceMethod yX11_copy ∈ wsL_law := wr_11 (List.mem_of_getElem? (i := 8) rfl)
theorem wd_249 : Cond.selects RX11 yX11_copy yX11_copy ∈ wsL_law := wr_11 (List.mem_of_getElem? (i := 9) rfl)
theorem wd_250 : Cond.code yX11_copy cX11_copy 9 (some .int) ∈ wsL_law := wr_11 (List.mem_of_getElem? (i := 10) rfl)
theorem wd_251 : Cond.methodLink RL 27 yX10_drop ∈ wsL_law := wr_11 (List.mem_of_getElem? (i := 11) rfl)
theorem wd_252 : Cond.instanceMethod yX10_drop ∈ wsL_law := wr_11 (List.mem_of_getElem? (i := 12) rfl)
theorem wd_253 : Cond.selects RX10 yX10_drop yX10_drop ∈ wsL_law := wr_11 (List.mem_of_getElem? (i := 13) rfl)
theorem wd_254 : Cond.code yX10_drop cX10_drop 4 (some .int) ∈ wsL_law := wr_11 (List.mem_of_getElem? (i := 14) rfl)
theorem wd_255 : Cond.fieldLink RX10 145 "NoteCounter$Sheet" "length" "I" ∈ wsL_law := wr_11 (List.mem_of_getElem? (i := 15) rfl)
theorem wd_256 : Cond.methodLink RX10 148 yX6_discard ∈ wsL_law := wr_11 (List.mem_of_getElem? (i := 16) rfl)
theorem wd_257 : Cond.instanceMethod yX6_discard ∈ wsL_law := wr_11 (List.mem_of_getElem? (i := 17) rfl)
theorem wd_258 : Cond.selects RX6 yX6_discard yX6_discard ∈ wsL_law := wr_11 (List.mem_of_getElem? (i := 18) rfl)
theorem wd_259 : Cond.code yX6_discard cX6_discard 1 none ∈ wsL_law := wr_11 (List.mem_of_getElem? (i := 19) rfl)
theorem wd_260 : Cond.methodLink RL 31 yX11_drop ∈ wsL_law := wr_11 (List.mem_of_getElem? (i := 20) rfl)
theorem wd_261 : Cond.instanceMethod yX11_drop ∈ wsL_law := wr_11 (List.mem_of_getElem? (i := 21) rfl)
theorem wd_262 : Cond.selects RX11 yX11_drop yX11_drop ∈ wsL_law := wr_11 (List.mem_of_getElem? (i := 22) rfl)
theorem wd_263 : Cond.code yX11_drop cX11_drop 2 (some .int) ∈ wsL_law := wr_11 (List.mem_of_getElem? (i := 23) rfl)
theorem wd_264 : Cond.methodLink RL 32 yX10_road ∈ wsL_law := wr_12 (List.mem_of_getElem? (i := 0) rfl)
theorem wd_265 : Cond.instanceMethod yX10_road ∈ wsL_law := wr_12 (List.mem_of_getElem? (i := 1) rfl)
theorem wd_266 : Cond.selects RX10 yX10_road yX10_road ∈ wsL_law := wr_12 (List.mem_of_getElem? (i := 2) rfl)
theorem wd_267 : Cond.code yX10_road cX10_road 5 (some .int) ∈ wsL_law := wr_12 (List.mem_of_getElem? (i := 3) rfl)
theorem wd_268 : Cond.methodLink RX10 151 yX10_isTown ∈ wsL_law := wr_12 (List.mem_of_getElem? (i := 4) rfl)
theorem wd_269 : Cond.static yX10_isTown ∈ wsL_law := wr_12 (List.mem_of_getElem? (i := 5) rfl)
theorem wd_270 : Cond.code yX10_isTown cX10_isTown 1 (some .boolean) ∈ wsL_law := wr_12 (List.mem_of_getElem? (i := 6) rfl)
theorem wd_271 : Cond.methodLink RX10 155 yX5_milesBetween ∈ wsL_law := wr_12 (List.mem_of_getElem? (i := 7) rfl)
theorem wd_272 : Cond.methodLink RX10 158 yX5_build ∈ wsL_law := wr_12 (List.mem_of_getElem? (i := 8) rfl)
theorem wd_273 : Cond.instanceMethod yX5_build ∈ wsL_law := wr_12 (List.mem_of_getElem? (i := 9) rfl)
theorem wd_274 : Cond.selects RX5 yX5_build yX5_build ∈ wsL_law := wr_12 (List.mem_of_getElem? (i := 10) rfl)
theorem wd_275 : Cond.code yX5_build cX5_build 4 none ∈ wsL_law := wr_12 (List.mem_of_getElem? (i := 11) rfl)
theorem wd_276 : Cond.methodLink RL 35 yX11_road ∈ wsL_law := wr_12 (List.mem_of_getElem? (i := 12) rfl)
theorem wd_277 : Cond.instanceMethod yX11_road ∈ wsL_law := wr_12 (List.mem_of_getElem? (i := 13) rfl)
theorem wd_278 : Cond.selects RX11 yX11_road yX11_road ∈ wsL_law := wr_12 (List.mem_of_getElem? (i := 14) rfl)
theorem wd_279 : Cond.code yX11_road cX11_road 5 (some .int) ∈ wsL_law := wr_12 (List.mem_of_getElem? (i := 15) rfl)
theorem wd_280 : Cond.constantLong RX11 143 (500) ∈ wsL_law := wr_12 (List.mem_of_getElem? (i := 16) rfl)
theorem wd_281 : Cond.methodLink RX11 140 yX11_isTown ∈ wsL_law := wr_12 (List.mem_of_getElem? (i := 17) rfl)
theorem wd_282 : Cond.static yX11_isTown ∈ wsL_law := wr_12 (List.mem_of_getElem? (i := 18) rfl)
theorem wd_283 : Cond.code yX11_isTown cX11_isTown 1 (some .boolean) ∈ wsL_law := wr_12 (List.mem_of_getElem? (i := 19) rfl)
theorem wd_284 : Cond.constantLong RX11 138 (5) ∈ wsL_law := wr_12 (List.mem_of_getElem? (i := 20) rfl)
theorem wd_285 : Cond.methodLink RL 36 yX10_far ∈ wsL_law := wr_12 (List.mem_of_getElem? (i := 21) rfl)
theorem wd_286 : Cond.instanceMethod yX10_far ∈ wsL_law := wr_12 (List.mem_of_getElem? (i := 22) rfl)
theorem wd_287 : Cond.selects RX10 yX10_far yX10_far ∈ wsL_law := wr_12 (List.mem_of_getElem? (i := 23) rfl)
theorem wd_288 : Cond.code yX10_far cX10_far 3 (some .int) ∈ wsL_law := wr_13 (List.mem_of_getElem? (i := 0) rfl)
theorem wd_289 : Cond.methodLink RX10 162 yX5_fewestMiles ∈ wsL_law := wr_13 (List.mem_of_getElem? (i := 1) rfl)
theorem wd_290 : Cond.instanceMethod yX5_fewestMiles ∈ wsL_law := wr_13 (List.mem_of_getElem? (i := 2) rfl)
theorem wd_291 : Cond.selects RX5 yX5_fewestMiles yX5_fewestMiles ∈ wsL_law := wr_13 (List.mem_of_getElem? (i := 3) rfl)
theorem wd_292 : Cond.code yX5_fewestMiles cX5_fewestMiles 4 (some .int) ∈ wsL_law := wr_13 (List.mem_of_getElem? (i := 4) rfl)
theorem wd_293 : Cond.constant RX5 22 (-1000000) ∈ wsL_law := wr_13 (List.mem_of_getElem? (i := 5) rfl)
theorem wd_294 : Cond.methodLink RL 40 yX11_far ∈ wsL_law := wr_13 (List.mem_of_getElem? (i := 6) rfl)
theorem wd_295 : Cond.instanceMethod yX11_far ∈ wsL_law := wr_13 (List.mem_of_getElem? (i := 7) rfl)
theorem wd_296 : Cond.selects RX11 yX11_far yX11_far ∈ wsL_law := wr_13 (List.mem_of_getElem? (i := 8) rfl)
theorem wd_297 : Cond.code yX11_far cX11_far 3 (some .int) ∈ wsL_law := wr_13 (List.mem_of_getElem? (i := 9) rfl)
theorem wd_298 : Cond.methodLink RX11 146 yX11_farFrom ∈ wsL_law := wr_13 (List.mem_of_getElem? (i := 10) rfl)
theorem wd_299 : Cond.instanceMethod yX11_farFrom ∈ wsL_law := wr_13 (List.mem_of_getElem? (i := 11) rfl)
theorem wd_300 : Cond.selects RX11 yX11_farFrom yX11_farFrom ∈ wsL_law := wr_13 (List.mem_of_getElem? (i := 12) rfl)
theorem wd_301 : Cond.code yX11_farFrom cX11_farFrom 7 (some .int) ∈ wsL_law := wr_13 (List.mem_of_getElem? (i := 13) rfl)
theorem wd_302 : Cond.constant RX11 145 (-1000000) ∈ wsL_law := wr_13 (List.mem_of_getElem? (i := 14) rfl)
theorem wd_303 : Cond.methodLink RL 41 yX10_bank ∈ wsL_law := wr_13 (List.mem_of_getElem? (i := 15) rfl)
theorem wd_304 : Cond.instanceMethod yX10_bank ∈ wsL_law := wr_13 (List.mem_of_getElem? (i := 16) rfl)
theorem wd_305 : Cond.selects RX10 yX10_bank yX10_bank ∈ wsL_law := wr_13 (List.mem_of_getElem? (i := 17) rfl)
theorem wd_306 : Cond.code yX10_bank cX10_bank 5 (some .int) ∈ wsL_law := wr_13 (List.mem_of_getElem? (i := 18) rfl)
theorem wd_307 : Cond.constant RX10 165 (99999) ∈ wsL_law := wr_13 (List.mem_of_getElem? (i := 19) rfl)
theorem wd_308 : Cond.constant RX10 166 (-1000003) ∈ wsL_law := wr_13 (List.mem_of_getElem? (i := 20) rfl)
theorem wd_310 : Cond.initialized RX0 ∈ wsL_law := wr_13 (List.mem_of_getElem? (i := 22) rfl)
theorem wd_311 : Cond.methodLink RX10 167 yX0_init ∈ wsL_law := wr_13 (List.mem_of_getElem? (i := 23) rfl)
theorem wd_314 : Cond.methodLink RX0 3 objectInit ∈ wsL_law := wr_14 (List.mem_of_getElem? (i := 2) rfl)
theorem wd_315 : Cond.fieldLink RX0 9 "NoteCounter$Bank" "need" "I" ∈ wsL_law := wr_14 (List.mem_of_getElem? (i := 3) rfl)
theorem wd_316 : Cond.fieldLink RX0 15 "NoteCounter$Bank" "shut" "Z" ∈ wsL_law := wr_14 (List.mem_of_getElem? (i := 4) rfl)
theorem wd_317 : Cond.fieldLink RX0 19 "NoteCounter$Bank" "held" "[I" ∈ wsL_law := wr_14 (List.mem_of_getElem? (i := 5) rfl)
theorem wd_318 : Cond.fieldLink RX0 23 "NoteCounter$Bank" "town" "I" ∈ wsL_law := wr_14 (List.mem_of_getElem? (i := 6) rfl)
theorem wd_319 : Cond.fieldLink RX0 26 "NoteCounter$Bank" "gold" "I" ∈ wsL_law := wr_14 (List.mem_of_getElem? (i := 7) rfl)
theorem wd_320 : Cond.fieldLink RX0 29 "NoteCounter$Bank" "plate" "I" ∈ wsL_law := wr_14 (List.mem_of_getElem? (i := 8) rfl)
theorem wd_321 : Cond.methodLink RL 44 yX11_bank ∈ wsL_law := wr_14 (List.mem_of_getElem? (i := 9) rfl)
theorem wd_322 : Cond.instanceMethod yX11_bank ∈ wsL_law := wr_14 (List.mem_of_getElem? (i := 10) rfl)
theorem wd_323 : Cond.selects RX11 yX11_bank yX11_bank ∈ wsL_law := wr_14 (List.mem_of_getElem? (i := 11) rfl)
theorem wd_324 : Cond.code yX11_bank cX11_bank 4 (some .int) ∈ wsL_law := wr_14 (List.mem_of_getElem? (i := 12) rfl)
theorem wd_325 : Cond.constantLong RX11 153 (99999) ∈ wsL_law := wr_14 (List.mem_of_getElem? (i := 13) rfl)
theorem wd_326 : Cond.constantLong RX11 155 (255) ∈ wsL_law := wr_14 (List.mem_of_getElem? (i := 14) rfl)
theorem wd_327 : Cond.fieldLink RX11 150 "NoteCounterModel" "banks" "I" ∈ wsL_law := wr_14 (List.mem_of_getElem? (i := 15) rfl)
theorem wd_328 : Cond.constant RX11 157 (-1000003) ∈ wsL_law := wr_14 (List.mem_of_getElem? (i := 16) rfl)
theorem wd_329 : Cond.methodLink RL 45 yX10_house ∈ wsL_law := wr_14 (List.mem_of_getElem? (i := 17) rfl)
theorem wd_330 : Cond.instanceMethod yX10_house ∈ wsL_law := wr_14 (List.mem_of_getElem? (i := 18) rfl)
theorem wd_331 : Cond.selects RX10 yX10_house yX10_house ∈ wsL_law := wr_14 (List.mem_of_getElem? (i := 19) rfl)
theorem wd_332 : Cond.code yX10_house cX10_house 4 (some .int) ∈ wsL_law := wr_14 (List.mem_of_getElem? (i := 20) rfl)
theorem wd_333 : Cond.fieldLink RX10 173 "NoteCounter$Bank" "town" "I" ∈ wsL_law := wr_14 (List.mem_of_getElem? (i := 21) rfl)
theorem wd_334 : Cond.fieldLink RX10 176 "NoteCounter$Bank" "gold" "I" ∈ wsL_law := wr_14 (List.mem_of_getElem? (i := 22) rfl)
theorem wd_335 : Cond.fieldLink RX10 179 "NoteCounter$Bank" "plate" "I" ∈ wsL_law := wr_14 (List.mem_of_getElem? (i := 23) rfl)
theorem wd_336 : Cond.fieldLink RX10 182 "NoteCounter$Bank" "shut" "Z" ∈ wsL_law := wr_15 (List.mem_of_getElem? (i := 0) rfl)
theorem wd_337 : Cond.fieldLink RX10 186 "NoteCounter$Bank" "need" "I" ∈ wsL_law := wr_15 (List.mem_of_getElem? (i := 1) rfl)
theorem wd_338 : Cond.methodLink RX10 169 yX10_bankOf ∈ wsL_law := wr_15 (List.mem_of_getElem? (i := 2) rfl)
theorem wd_339 : Cond.instanceMethod yX10_bankOf ∈ wsL_law := wr_15 (List.mem_of_getElem? (i := 3) rfl)
theorem wd_340 : Cond.selects RX10 yX10_bankOf yX10_bankOf ∈ wsL_law := wr_15 (List.mem_of_getElem? (i := 4) rfl)
theorem wd_341 : Cond.code yX10_bankOf cX10_bankOf 2 (some (.object "NoteCounter$Bank")) ∈ wsL_law := wr_15 (List.mem_of_getElem? (i := 5) rfl)
theorem wd_342 : Cond.methodLink RL 48 yX11_house ∈ wsL_law := wr_15 (List.mem_of_getElem? (i := 6) rfl)
theorem wd_343 : Cond.instanceMethod yX11_house ∈ wsL_law := wr_15 (List.mem_of_getElem? (i := 7) rfl)
theorem wd_344 : Cond.selects RX11 yX11_house yX11_house ∈ wsL_law := wr_15 (List.mem_of_getElem? (i := 8) rfl)
theorem wd_345 : Cond.code yX11_house cX11_house 3 (some .int) ∈ wsL_law := wr_15 (List.mem_of_getElem? (i := 9) rfl)
theorem wd_346 : Cond.constantLong RX11 161 (4) ∈ wsL_law := wr_15 (List.mem_of_getElem? (i := 10) rfl)
theorem wd_347 : Cond.methodLink RX11 158 yX11_isBank ∈ wsL_law := wr_15 (List.mem_of_getElem? (i := 11) rfl)
theorem wd_348 : Cond.instanceMethod yX11_isBank ∈ wsL_law := wr_15 (List.mem_of_getElem? (i := 12) rfl)
theorem wd_349 : Cond.selects RX11 yX11_isBank yX11_isBank ∈ wsL_law := wr_15 (List.mem_of_getElem? (i := 13) rfl)
theorem wd_350 : Cond.code yX11_isBank cX11_isBank 2 (some .boolean) ∈ wsL_law := wr_15 (List.mem_of_getElem? (i := 14) rfl)
theorem wd_351 : Cond.methodLink RL 49 yX10_hold ∈ wsL_law := wr_15 (List.mem_of_getElem? (i := 15) rfl)
theorem wd_352 : Cond.instanceMethod yX10_hold ∈ wsL_law := wr_15 (List.mem_of_getElem? (i := 16) rfl)
theorem wd_353 : Cond.selects RX10 yX10_hold yX10_hold ∈ wsL_law := wr_15 (List.mem_of_getElem? (i := 17) rfl)
theorem wd_354 : Cond.code yX10_hold cX10_hold 5 (some .int) ∈ wsL_law := wr_15 (List.mem_of_getElem? (i := 18) rfl)
theorem wd_355 : Cond.methodLink RX10 189 yX0_changeNeed ∈ wsL_law := wr_15 (List.mem_of_getElem? (i := 19) rfl)
theorem wd_356 : Cond.instanceMethod yX0_changeNeed ∈ wsL_law := wr_15 (List.mem_of_getElem? (i := 20) rfl)
theorem wd_357 : Cond.selects RX0 yX0_changeNeed yX0_changeNeed ∈ wsL_law := wr_15 (List.mem_of_getElem? (i := 21) rfl)
theorem wd_358 : Cond.code yX0_changeNeed cX0_changeNeed 3 (some .int) ∈ wsL_law := wr_15 (List.mem_of_getElem? (i := 22) rfl)
theorem wd_359 : Cond.methodLink RX10 192 yX0_changeHeld ∈ wsL_law := wr_15 (List.mem_of_getElem? (i := 23) rfl)
theorem wd_360 : Cond.instanceMethod yX0_changeHeld ∈ wsL_law := wr_16 (List.mem_of_getElem? (i := 0) rfl)
theorem wd_361 : Cond.selects RX0 yX0_changeHeld yX0_changeHeld ∈ wsL_law := wr_16 (List.mem_of_getElem? (i := 1) rfl)
theorem wd_362 : Cond.code yX0_changeHeld cX0_changeHeld 4 (some .int) ∈ wsL_law := wr_16 (List.mem_of_getElem? (i := 2) rfl)
theorem wd_363 : Cond.methodLink RL 52 yX11_hold ∈ wsL_law := wr_16 (List.mem_of_getElem? (i := 3) rfl)
theorem wd_364 : Cond.instanceMethod yX11_hold ∈ wsL_law := wr_16 (List.mem_of_getElem? (i := 4) rfl)
theorem wd_365 : Cond.selects RX11 yX11_hold yX11_hold ∈ wsL_law := wr_16 (List.mem_of_getElem? (i := 5) rfl)
theorem wd_366 : Cond.code yX11_hold cX11_hold 5 (some .int) ∈ wsL_law := wr_16 (List.mem_of_getElem? (i := 6) rfl)
theorem wd_367 : Cond.constantLong RX11 163 (9999) ∈ wsL_law := wr_16 (List.mem_of_getElem? (i := 7) rfl)
theorem wd_368 : Cond.methodLink RL 53 yX10_falls ∈ wsL_law := wr_16 (List.mem_of_getElem? (i := 8) rfl)
theorem wd_369 : Cond.instanceMethod yX10_falls ∈ wsL_law := wr_16 (List.mem_of_getElem? (i := 9) rfl)
theorem wd_370 : Cond.selects RX10 yX10_falls yX10_falls ∈ wsL_law := wr_16 (List.mem_of_getElem? (i := 10) rfl)
theorem wd_371 : Cond.code yX10_falls cX10_falls 6 (some .int) ∈ wsL_law := wr_16 (List.mem_of_getElem? (i := 11) rfl)
theorem wd_372 : Cond.methodLink RX10 195 yX10_shutBanks ∈ wsL_law := wr_16 (List.mem_of_getElem? (i := 12) rfl)
theorem wd_373 : Cond.instanceMethod yX10_shutBanks ∈ wsL_law := wr_16 (List.mem_of_getElem? (i := 13) rfl)
theorem wd_374 : Cond.selects RX10 yX10_shutBanks yX10_shutBanks ∈ wsL_law := wr_16 (List.mem_of_getElem? (i := 14) rfl)
theorem wd_375 : Cond.code yX10_shutBanks cX10_shutBanks 4 (some .int) ∈ wsL_law := wr_16 (List.mem_of_getElem? (i := 15) rfl)
theorem wd_376 : Cond.methodLink RX10 199 yX10_banksInNeed ∈ wsL_law := wr_16 (List.mem_of_getElem? (i := 16) rfl)
theorem wd_377 : Cond.instanceMethod yX10_banksInNeed ∈ wsL_law := wr_16 (List.mem_of_getElem? (i := 17) rfl)
theorem wd_378 : Cond.selects RX10 yX10_banksInNeed yX10_banksInNeed ∈ wsL_law := wr_16 (List.mem_of_getElem? (i := 18) rfl)
theorem wd_379 : Cond.code yX10_banksInNeed cX10_banksInNeed 5 (some .int) ∈ wsL_law := wr_16 (List.mem_of_getElem? (i := 19) rfl)
theorem wd_380 : Cond.methodLink RX10 376 yX0_isInNeed ∈ wsL_law := wr_16 (List.mem_of_getElem? (i := 20) rfl)
theorem wd_381 : Cond.instanceMethod yX0_isInNeed ∈ wsL_law := wr_16 (List.mem_of_getElem? (i := 21) rfl)
theorem wd_382 : Cond.selects RX0 yX0_isInNeed yX0_isInNeed ∈ wsL_law := wr_16 (List.mem_of_getElem? (i := 22) rfl)
theorem wd_383 : Cond.code yX0_isInNeed cX0_isInNeed 4 (some .boolean) ∈ wsL_law := wr_16 (List.mem_of_getElem? (i := 23) rfl)
theorem wd_384 : Cond.methodLink RL 56 yX11_falls ∈ wsL_law := wr_17 (List.mem_of_getElem? (i := 0) rfl)
theorem wd_385 : Cond.instanceMethod yX11_falls ∈ wsL_law := wr_17 (List.mem_of_getElem? (i := 1) rfl)
theorem wd_386 : Cond.selects RX11 yX11_falls yX11_falls ∈ wsL_law := wr_17 (List.mem_of_getElem? (i := 2) rfl)
theorem wd_387 : Cond.code yX11_falls cX11_falls 9 (some .int) ∈ wsL_law := wr_17 (List.mem_of_getElem? (i := 3) rfl)
theorem wd_388 : Cond.methodLink RL 57 yX10_week ∈ wsL_law := wr_17 (List.mem_of_getElem? (i := 4) rfl)
theorem wd_389 : Cond.instanceMethod yX10_week ∈ wsL_law := wr_17 (List.mem_of_getElem? (i := 5) rfl)
theorem wd_390 : Cond.selects RX10 yX10_week yX10_week ∈ wsL_law := wr_17 (List.mem_of_getElem? (i := 6) rfl)
theorem wd_391 : Cond.code yX10_week cX10_week 3 (some .int) ∈ wsL_law := wr_17 (List.mem_of_getElem? (i := 7) rfl)
theorem wd_392 : Cond.methodLink RL 60 yX11_week ∈ wsL_law := wr_17 (List.mem_of_getElem? (i := 8) rfl)
theorem wd_393 : Cond.instanceMethod yX11_week ∈ wsL_law := wr_17 (List.mem_of_getElem? (i := 9) rfl)
theorem wd_394 : Cond.selects RX11 yX11_week yX11_week ∈ wsL_law := wr_17 (List.mem_of_getElem? (i := 10) rfl)
theorem wd_395 : Cond.code yX11_week cX11_week 3 (some .int) ∈ wsL_law := wr_17 (List.mem_of_getElem? (i := 11) rfl)
theorem wd_396 : Cond.fieldLink RX11 167 "NoteCounterModel" "theWeek" "I" ∈ wsL_law := wr_17 (List.mem_of_getElem? (i := 12) rfl)
theorem wd_397 : Cond.constantLong RX11 165 (299) ∈ wsL_law := wr_17 (List.mem_of_getElem? (i := 13) rfl)
theorem wd_398 : Cond.methodLink RL 63 yX10_feed ∈ wsL_law := wr_17 (List.mem_of_getElem? (i := 14) rfl)
theorem wd_399 : Cond.instanceMethod yX10_feed ∈ wsL_law := wr_17 (List.mem_of_getElem? (i := 15) rfl)
theorem wd_400 : Cond.selects RX10 yX10_feed yX10_feed ∈ wsL_law := wr_17 (List.mem_of_getElem? (i := 16) rfl)
theorem wd_401 : Cond.code yX10_feed cX10_feed 4 (some .int) ∈ wsL_law := wr_17 (List.mem_of_getElem? (i := 17) rfl)
theorem wd_402 : Cond.fieldLink RX10 209 "NoteCounter$Tape" "length" "I" ∈ wsL_law := wr_17 (List.mem_of_getElem? (i := 18) rfl)
theorem wd_403 : Cond.methodLink RX10 202 yX7_hasRoom ∈ wsL_law := wr_17 (List.mem_of_getElem? (i := 19) rfl)
theorem wd_404 : Cond.instanceMethod yX7_hasRoom ∈ wsL_law := wr_17 (List.mem_of_getElem? (i := 20) rfl)
theorem wd_405 : Cond.selects RX7 yX7_hasRoom yX7_hasRoom ∈ wsL_law := wr_17 (List.mem_of_getElem? (i := 21) rfl)
theorem wd_406 : Cond.code yX7_hasRoom cX7_hasRoom 2 (some .boolean) ∈ wsL_law := wr_17 (List.mem_of_getElem? (i := 22) rfl)
theorem wd_407 : Cond.methodLink RX10 205 yX7_append ∈ wsL_law := wr_17 (List.mem_of_getElem? (i := 23) rfl)
theorem wd_408 : Cond.instanceMethod yX7_append ∈ wsL_law := wr_18 (List.mem_of_getElem? (i := 0) rfl)
theorem wd_409 : Cond.selects RX7 yX7_append yX7_append ∈ wsL_law := wr_18 (List.mem_of_getElem? (i := 1) rfl)
theorem wd_410 : Cond.code yX7_append cX7_append 5 none ∈ wsL_law := wr_18 (List.mem_of_getElem? (i := 2) rfl)
theorem wd_411 : Cond.methodLink RL 67 yX11_feed ∈ wsL_law := wr_18 (List.mem_of_getElem? (i := 3) rfl)
theorem wd_412 : Cond.instanceMethod yX11_feed ∈ wsL_law := wr_18 (List.mem_of_getElem? (i := 4) rfl)
theorem wd_413 : Cond.selects RX11 yX11_feed yX11_feed ∈ wsL_law := wr_18 (List.mem_of_getElem? (i := 5) rfl)
theorem wd_414 : Cond.code yX11_feed cX11_feed 5 (some .int) ∈ wsL_law := wr_18 (List.mem_of_getElem? (i := 6) rfl)
theorem wd_415 : Cond.constantLong RX11 170 (8) ∈ wsL_law := wr_18 (List.mem_of_getElem? (i := 7) rfl)
theorem wd_416 : Cond.fieldLink RX11 172 "NoteCounterModel" "taped" "I" ∈ wsL_law := wr_18 (List.mem_of_getElem? (i := 8) rfl)
theorem wd_417 : Cond.methodLink RL 68 yX10_books ∈ wsL_law := wr_18 (List.mem_of_getElem? (i := 9) rfl)
theorem wd_418 : Cond.instanceMethod yX10_books ∈ wsL_law := wr_18 (List.mem_of_getElem? (i := 10) rfl)
theorem wd_419 : Cond.selects RX10 yX10_books yX10_books ∈ wsL_law := wr_18 (List.mem_of_getElem? (i := 11) rfl)
theorem wd_420 : Cond.code yX10_books cX10_books 3 (some .int) ∈ wsL_law := wr_18 (List.mem_of_getElem? (i := 12) rfl)
theorem wd_421 : Cond.fieldLink RX10 213 "NoteCounter$Tape" "tokenStart" "I" ∈ wsL_law := wr_18 (List.mem_of_getElem? (i := 13) rfl)
theorem wd_422 : Cond.constant RX10 219 (-1000100) ∈ wsL_law := wr_18 (List.mem_of_getElem? (i := 14) rfl)
theorem wd_423 : Cond.fieldLink RX10 220 "NoteCounter$Books" "size" "I" ∈ wsL_law := wr_18 (List.mem_of_getElem? (i := 15) rfl)
theorem wd_424 : Cond.methodLink RX10 210 yX1_readTape ∈ wsL_law := wr_18 (List.mem_of_getElem? (i := 16) rfl)
theorem wd_425 : Cond.instanceMethod yX1_readTape ∈ wsL_law := wr_18 (List.mem_of_getElem? (i := 17) rfl)
theorem wd_426 : Cond.selects RX1 yX1_readTape yX1_readTape ∈ wsL_law := wr_18 (List.mem_of_getElem? (i := 18) rfl)
theorem wd_427 : Cond.code yX1_readTape cX1_readTape 4 (some .int) ∈ wsL_law := wr_18 (List.mem_of_getElem? (i := 19) rfl)
theorem wd_428 : Cond.fieldLink RX1 43 "NoteCounter$Tape" "token" "I" ∈ wsL_law := wr_18 (List.mem_of_getElem? (i := 20) rfl)
theorem wd_429 : Cond.methodLink RX1 35 yX7_rewind ∈ wsL_law := wr_18 (List.mem_of_getElem? (i := 21) rfl)
theorem wd_430 : Cond.instanceMethod yX7_rewind ∈ wsL_law := wr_18 (List.mem_of_getElem? (i := 22) rfl)
theorem wd_431 : Cond.selects RX7 yX7_rewind yX7_rewind ∈ wsL_law := wr_18 (List.mem_of_getElem? (i := 23) rfl)
theorem wd_432 : Cond.code yX7_rewind cX7_rewind 1 none ∈ wsL_law := wr_19 (List.mem_of_getElem? (i := 0) rfl)
theorem wd_433 : Cond.methodLink RX1 40 yX7_readToken ∈ wsL_law := wr_19 (List.mem_of_getElem? (i := 1) rfl)
theorem wd_434 : Cond.instanceMethod yX7_readToken ∈ wsL_law := wr_19 (List.mem_of_getElem? (i := 2) rfl)
theorem wd_435 : Cond.selects RX7 yX7_readToken yX7_readToken ∈ wsL_law := wr_19 (List.mem_of_getElem? (i := 3) rfl)
theorem wd_436 : Cond.code yX7_readToken cX7_readToken 2 none ∈ wsL_law := wr_19 (List.mem_of_getElem? (i := 4) rfl)
theorem wd_437 : Cond.methodLink RX7 29 yX7_isAmong ∈ wsL_law := wr_19 (List.mem_of_getElem? (i := 5) rfl)
theorem wd_438 : Cond.instanceMethod yX7_isAmong ∈ wsL_law := wr_19 (List.mem_of_getElem? (i := 6) rfl)
theorem wd_439 : Cond.selects RX7 yX7_isAmong yX7_isAmong ∈ wsL_law := wr_19 (List.mem_of_getElem? (i := 7) rfl)
theorem wd_440 : Cond.code yX7_isAmong cX7_isAmong 4 (some .boolean) ∈ wsL_law := wr_19 (List.mem_of_getElem? (i := 8) rfl)
theorem wd_441 : Cond.methodLink RX7 33 yX7_endOfRun ∈ wsL_law := wr_19 (List.mem_of_getElem? (i := 9) rfl)
theorem wd_442 : Cond.instanceMethod yX7_endOfRun ∈ wsL_law := wr_19 (List.mem_of_getElem? (i := 10) rfl)
theorem wd_443 : Cond.selects RX7 yX7_endOfRun yX7_endOfRun ∈ wsL_law := wr_19 (List.mem_of_getElem? (i := 11) rfl)
theorem wd_444 : Cond.code yX7_endOfRun cX7_endOfRun 5 (some .int) ∈ wsL_law := wr_19 (List.mem_of_getElem? (i := 12) rfl)
theorem wd_445 : Cond.methodLink RX7 37 yX7_numberAt ∈ wsL_law := wr_19 (List.mem_of_getElem? (i := 13) rfl)
theorem wd_446 : Cond.instanceMethod yX7_numberAt ∈ wsL_law := wr_19 (List.mem_of_getElem? (i := 14) rfl)
theorem wd_447 : Cond.selects RX7 yX7_numberAt yX7_numberAt ∈ wsL_law := wr_19 (List.mem_of_getElem? (i := 15) rfl)
theorem wd_448 : Cond.code yX7_numberAt cX7_numberAt 5 (some .int) ∈ wsL_law := wr_19 (List.mem_of_getElem? (i := 16) rfl)
theorem wd_449 : Cond.methodLink RX1 46 yX1_step ∈ wsL_law := wr_19 (List.mem_of_getElem? (i := 17) rfl)
theorem wd_450 : Cond.instanceMethod yX1_step ∈ wsL_law := wr_19 (List.mem_of_getElem? (i := 18) rfl)
theorem wd_451 : Cond.selects RX1 yX1_step yX1_step ∈ wsL_law := wr_19 (List.mem_of_getElem? (i := 19) rfl)
theorem wd_452 : Cond.code yX1_step cX1_step 2 (some .int) ∈ wsL_law := wr_19 (List.mem_of_getElem? (i := 20) rfl)
theorem wd_453 : Cond.methodLink RX1 56 yX1_beginBook ∈ wsL_law := wr_19 (List.mem_of_getElem? (i := 21) rfl)
theorem wd_454 : Cond.instanceMethod yX1_beginBook ∈ wsL_law := wr_19 (List.mem_of_getElem? (i := 22) rfl)
theorem wd_455 : Cond.selects RX1 yX1_beginBook yX1_beginBook ∈ wsL_law := wr_19 (List.mem_of_getElem? (i := 23) rfl)
theorem wd_456 : Cond.code yX1_beginBook cX1_beginBook 1 (some .int) ∈ wsL_law := wr_20 (List.mem_of_getElem? (i := 0) rfl)
theorem wd_457 : Cond.methodLink RX1 77 yX7_isName ∈ wsL_law := wr_20 (List.mem_of_getElem? (i := 1) rfl)
theorem wd_458 : Cond.instanceMethod yX7_isName ∈ wsL_law := wr_20 (List.mem_of_getElem? (i := 2) rfl)
theorem wd_459 : Cond.selects RX7 yX7_isName yX7_isName ∈ wsL_law := wr_20 (List.mem_of_getElem? (i := 3) rfl)
theorem wd_460 : Cond.code yX7_isName cX7_isName 3 (some .boolean) ∈ wsL_law := wr_20 (List.mem_of_getElem? (i := 4) rfl)
theorem wd_461 : Cond.methodLink RX7 41 yJ0_length_8abf5 ∈ wsL_law := wr_20 (List.mem_of_getElem? (i := 5) rfl)
theorem wd_462 : Cond.instanceMethod yJ0_length_8abf5 ∈ wsL_law := wr_20 (List.mem_of_getElem? (i := 6) rfl)
theorem wd_463 : Cond.selects RJ0 yJ0_length_8abf5 yJ0_length_8abf5 ∈ wsL_law := wr_20 (List.mem_of_getElem? (i := 7) rfl)
theorem wd_464 : Cond.initialized RJ0 ∈ wsL_law := wr_20 (List.mem_of_getElem? (i := 8) rfl)
theorem wd_465 : Cond.code yJ0_length_8abf5 cJ0_length_8abf5 1 (some .int) ∈ wsL_law := wr_20 (List.mem_of_getElem? (i := 9) rfl)
theorem wd_466 : Cond.fieldLink RJ0 9 "java/lang/String" "value" "[B" ∈ wsL_law := wr_20 (List.mem_of_getElem? (i := 10) rfl)
theorem wd_467 : Cond.methodLink RJ0 335 yJ0_coder_7d493 ∈ wsL_law := wr_20 (List.mem_of_getElem? (i := 11) rfl)
theorem wd_468 : Cond.instanceMethod yJ0_coder_7d493 ∈ wsL_law := wr_20 (List.mem_of_getElem? (i := 12) rfl)
theorem wd_469 : Cond.selects RJ0 yJ0_coder_7d493 yJ0_coder_7d493 ∈ wsL_law := wr_20 (List.mem_of_getElem? (i := 13) rfl)
theorem wd_470 : Cond.code yJ0_coder_7d493 cJ0_coder_7d493 1 (some .byte) ∈ wsL_law := wr_20 (List.mem_of_getElem? (i := 14) rfl)
theorem wd_471 : Cond.fieldLink RJ0 38 "java/lang/String" "COMPACT_STRINGS" "Z" ∈ wsL_law := wr_20 (List.mem_of_getElem? (i := 15) rfl)
theorem wd_472 : Cond.fieldLink RJ0 15 "java/lang/String" "coder" "B" ∈ wsL_law := wr_20 (List.mem_of_getElem? (i := 16) rfl)
theorem wd_473 : Cond.methodLink RX7 46 yJ0_charAt_5068e ∈ wsL_law := wr_20 (List.mem_of_getElem? (i := 17) rfl)
theorem wd_474 : Cond.instanceMethod yJ0_charAt_5068e ∈ wsL_law := wr_20 (List.mem_of_getElem? (i := 18) rfl)
theorem wd_475 : Cond.selects RJ0 yJ0_charAt_5068e yJ0_charAt_5068e ∈ wsL_law := wr_20 (List.mem_of_getElem? (i := 19) rfl)
theorem wd_476 : Cond.code yJ0_charAt_5068e cJ0_charAt_5068e 2 (some .char) ∈ wsL_law := wr_20 (List.mem_of_getElem? (i := 20) rfl)
theorem wd_477 : Cond.methodLink RJ0 492 yJ0_isLatin1_aae02 ∈ wsL_law := wr_20 (List.mem_of_getElem? (i := 21) rfl)
theorem wd_478 : Cond.instanceMethod yJ0_isLatin1_aae02 ∈ wsL_law := wr_20 (List.mem_of_getElem? (i := 22) rfl)
theorem wd_479 : Cond.selects RJ0 yJ0_isLatin1_aae02 yJ0_isLatin1_aae02 ∈ wsL_law := wr_20 (List.mem_of_getElem? (i := 23) rfl)
theorem wd_480 : Cond.code yJ0_isLatin1_aae02 cJ0_isLatin1_aae02 1 (some .boolean) ∈ wsL_law := wr_21 (List.mem_of_getElem? (i := 0) rfl)
theorem wd_481 : Cond.methodLink RJ0 495 yJ1_charAt_3b067 ∈ wsL_law := wr_21 (List.mem_of_getElem? (i := 1) rfl)
theorem wd_482 : Cond.static yJ1_charAt_3b067 ∈ wsL_law := wr_21 (List.mem_of_getElem? (i := 2) rfl)
theorem wd_483 : Cond.initialized RJ1 ∈ wsL_law := wr_21 (List.mem_of_getElem? (i := 3) rfl)
theorem wd_484 : Cond.code yJ1_charAt_3b067 cJ1_charAt_3b067 2 (some .char) ∈ wsL_law := wr_21 (List.mem_of_getElem? (i := 4) rfl)
theorem wd_485 : Cond.methodLink RJ1 9 yJ0_checkIndex_df160 ∈ wsL_law := wr_21 (List.mem_of_getElem? (i := 5) rfl)
theorem wd_486 : Cond.static yJ0_checkIndex_df160 ∈ wsL_law := wr_21 (List.mem_of_getElem? (i := 6) rfl)
theorem wd_487 : Cond.code yJ0_checkIndex_df160 cJ0_checkIndex_df160 2 none ∈ wsL_law := wr_21 (List.mem_of_getElem? (i := 7) rfl)
theorem wd_488 : Cond.fieldLink RJ0 1053 "jdk/internal/util/Preconditions" "SIOOBE_FORMATTER" "Ljava/util/function/BiFunction;" ∈ wsL_law := wr_21 (List.mem_of_getElem? (i := 8) rfl)
theorem wd_489 : Cond.methodLink RJ0 1059 yJ3_checkIndex_8e157 ∈ wsL_law := wr_21 (List.mem_of_getElem? (i := 9) rfl)
theorem wd_490 : Cond.static yJ3_checkIndex_8e157 ∈ wsL_law := wr_21 (List.mem_of_getElem? (i := 10) rfl)
theorem wd_491 : Cond.initialized RJ3 ∈ wsL_law := wr_21 (List.mem_of_getElem? (i := 11) rfl)
theorem wd_492 : Cond.code yJ3_checkIndex_8e157 cJ3_checkIndex_8e157 3 (some .int) ∈ wsL_law := wr_21 (List.mem_of_getElem? (i := 12) rfl)
theorem wd_493 : Cond.methodLink RJ0 498 yJ2_charAt_3b067 ∈ wsL_law := wr_21 (List.mem_of_getElem? (i := 13) rfl)
theorem wd_494 : Cond.static yJ2_charAt_3b067 ∈ wsL_law := wr_21 (List.mem_of_getElem? (i := 14) rfl)
theorem wd_495 : Cond.initialized RJ2 ∈ wsL_law := wr_21 (List.mem_of_getElem? (i := 15) rfl)
theorem wd_496 : Cond.code yJ2_charAt_3b067 cJ2_charAt_3b067 2 (some .char) ∈ wsL_law := wr_21 (List.mem_of_getElem? (i := 16) rfl)
theorem wd_497 : Cond.methodLink RJ2 67 yJ2_checkIndex_2214a ∈ wsL_law := wr_21 (List.mem_of_getElem? (i := 17) rfl)
theorem wd_498 : Cond.static yJ2_checkIndex_2214a ∈ wsL_law := wr_21 (List.mem_of_getElem? (i := 18) rfl)
theorem wd_499 : Cond.code yJ2_checkIndex_2214a cJ2_checkIndex_2214a 2 none ∈ wsL_law := wr_21 (List.mem_of_getElem? (i := 19) rfl)
theorem wd_500 : Cond.methodLink RJ2 48 yJ2_length_9d52b ∈ wsL_law := wr_21 (List.mem_of_getElem? (i := 20) rfl)
theorem wd_501 : Cond.static yJ2_length_9d52b ∈ wsL_law := wr_21 (List.mem_of_getElem? (i := 21) rfl)
theorem wd_502 : Cond.code yJ2_length_9d52b cJ2_length_9d52b 1 (some .int) ∈ wsL_law := wr_21 (List.mem_of_getElem? (i := 22) rfl)
theorem wd_503 : Cond.methodLink RJ2 414 yJ0_checkIndex_df160 ∈ wsL_law := wr_21 (List.mem_of_getElem? (i := 23) rfl)
theorem wd_504 : Cond.methodLink RJ2 71 yJ2_getChar_3b067 ∈ wsL_law := wr_22 (List.mem_of_getElem? (i := 0) rfl)
theorem wd_505 : Cond.static yJ2_getChar_3b067 ∈ wsL_law := wr_22 (List.mem_of_getElem? (i := 1) rfl)
theorem wd_506 : Cond.code yJ2_getChar_3b067 cJ2_getChar_3b067 2 (some .char) ∈ wsL_law := wr_22 (List.mem_of_getElem? (i := 2) rfl)
theorem wd_507 : Cond.fieldLink RJ2 44 "java/lang/StringUTF16" "$assertionsDisabled" "Z" ∈ wsL_law := wr_22 (List.mem_of_getElem? (i := 3) rfl)
theorem wd_508 : Cond.fieldLink RJ2 59 "java/lang/StringUTF16" "HI_BYTE_SHIFT" "I" ∈ wsL_law := wr_22 (List.mem_of_getElem? (i := 4) rfl)
theorem wd_509 : Cond.fieldLink RJ2 63 "java/lang/StringUTF16" "LO_BYTE_SHIFT" "I" ∈ wsL_law := wr_22 (List.mem_of_getElem? (i := 5) rfl)
theorem wd_510 : Cond.methodLink RX1 72 yX1_go ∈ wsL_law := wr_22 (List.mem_of_getElem? (i := 6) rfl)
theorem wd_511 : Cond.instanceMethod yX1_go ∈ wsL_law := wr_22 (List.mem_of_getElem? (i := 7) rfl)
theorem wd_512 : Cond.selects RX1 yX1_go yX1_go ∈ wsL_law := wr_22 (List.mem_of_getElem? (i := 8) rfl)
theorem wd_513 : Cond.code yX1_go cX1_go 2 (some .int) ∈ wsL_law := wr_22 (List.mem_of_getElem? (i := 9) rfl)
theorem wd_514 : Cond.methodLink RX1 60 yX1_readWeek ∈ wsL_law := wr_22 (List.mem_of_getElem? (i := 10) rfl)
theorem wd_515 : Cond.instanceMethod yX1_readWeek ∈ wsL_law := wr_22 (List.mem_of_getElem? (i := 11) rfl)
theorem wd_516 : Cond.selects RX1 yX1_readWeek yX1_readWeek ∈ wsL_law := wr_22 (List.mem_of_getElem? (i := 12) rfl)
theorem wd_517 : Cond.code yX1_readWeek cX1_readWeek 1 (some .int) ∈ wsL_law := wr_22 (List.mem_of_getElem? (i := 13) rfl)
theorem wd_518 : Cond.fieldLink RX1 81 "NoteCounter$Tape" "tokenNumber" "I" ∈ wsL_law := wr_22 (List.mem_of_getElem? (i := 14) rfl)
theorem wd_519 : Cond.methodLink RX1 84 yX1_readNumber ∈ wsL_law := wr_22 (List.mem_of_getElem? (i := 15) rfl)
theorem wd_520 : Cond.instanceMethod yX1_readNumber ∈ wsL_law := wr_22 (List.mem_of_getElem? (i := 16) rfl)
theorem wd_521 : Cond.selects RX1 yX1_readNumber yX1_readNumber ∈ wsL_law := wr_22 (List.mem_of_getElem? (i := 17) rfl)
theorem wd_522 : Cond.code yX1_readNumber cX1_readNumber 3 (some .int) ∈ wsL_law := wr_22 (List.mem_of_getElem? (i := 18) rfl)
theorem wd_523 : Cond.methodLink RX1 63 yX1_beginEntry ∈ wsL_law := wr_22 (List.mem_of_getElem? (i := 19) rfl)
theorem wd_524 : Cond.instanceMethod yX1_beginEntry ∈ wsL_law := wr_22 (List.mem_of_getElem? (i := 20) rfl)
theorem wd_525 : Cond.selects RX1 yX1_beginEntry yX1_beginEntry ∈ wsL_law := wr_22 (List.mem_of_getElem? (i := 21) rfl)
theorem wd_526 : Cond.code yX1_beginEntry cX1_beginEntry 1 (some .int) ∈ wsL_law := wr_22 (List.mem_of_getElem? (i := 22) rfl)
theorem wd_527 : Cond.methodLink RX1 88 yX1_wordOfEntry ∈ wsL_law := wr_22 (List.mem_of_getElem? (i := 23) rfl)
theorem wd_528 : Cond.instanceMethod yX1_wordOfEntry ∈ wsL_law := wr_23 (List.mem_of_getElem? (i := 0) rfl)
theorem wd_529 : Cond.selects RX1 yX1_wordOfEntry yX1_wordOfEntry ∈ wsL_law := wr_23 (List.mem_of_getElem? (i := 1) rfl)
theorem wd_530 : Cond.code yX1_wordOfEntry cX1_wordOfEntry 1 (some .int) ∈ wsL_law := wr_23 (List.mem_of_getElem? (i := 2) rfl)
theorem wd_531 : Cond.methodLink RX1 91 yX2_hasRoomBehind ∈ wsL_law := wr_23 (List.mem_of_getElem? (i := 3) rfl)
theorem wd_532 : Cond.instanceMethod yX2_hasRoomBehind ∈ wsL_law := wr_23 (List.mem_of_getElem? (i := 4) rfl)
theorem wd_533 : Cond.selects RX2 yX2_hasRoomBehind yX2_hasRoomBehind ∈ wsL_law := wr_23 (List.mem_of_getElem? (i := 5) rfl)
theorem wd_534 : Cond.code yX2_hasRoomBehind cX2_hasRoomBehind 2 (some .boolean) ∈ wsL_law := wr_23 (List.mem_of_getElem? (i := 6) rfl)
theorem wd_535 : Cond.methodLink RX1 66 yX1_readBank ∈ wsL_law := wr_23 (List.mem_of_getElem? (i := 7) rfl)
theorem wd_536 : Cond.instanceMethod yX1_readBank ∈ wsL_law := wr_23 (List.mem_of_getElem? (i := 8) rfl)
theorem wd_537 : Cond.selects RX1 yX1_readBank yX1_readBank ∈ wsL_law := wr_23 (List.mem_of_getElem? (i := 9) rfl)
theorem wd_538 : Cond.code yX1_readBank cX1_readBank 2 (some .int) ∈ wsL_law := wr_23 (List.mem_of_getElem? (i := 10) rfl)
theorem wd_539 : Cond.methodLink RX1 69 yX1_readValue ∈ wsL_law := wr_23 (List.mem_of_getElem? (i := 11) rfl)
theorem wd_540 : Cond.instanceMethod yX1_readValue ∈ wsL_law := wr_23 (List.mem_of_getElem? (i := 12) rfl)
theorem wd_541 : Cond.selects RX1 yX1_readValue yX1_readValue ∈ wsL_law := wr_23 (List.mem_of_getElem? (i := 13) rfl)
theorem wd_542 : Cond.code yX1_readValue cX1_readValue 2 (some .int) ∈ wsL_law := wr_23 (List.mem_of_getElem? (i := 14) rfl)
theorem wd_543 : Cond.methodLink RX1 101 yX2_write ∈ wsL_law := wr_23 (List.mem_of_getElem? (i := 15) rfl)
theorem wd_544 : Cond.instanceMethod yX2_write ∈ wsL_law := wr_23 (List.mem_of_getElem? (i := 16) rfl)
theorem wd_545 : Cond.selects RX2 yX2_write yX2_write ∈ wsL_law := wr_23 (List.mem_of_getElem? (i := 17) rfl)
theorem wd_546 : Cond.code yX2_write cX2_write 7 none ∈ wsL_law := wr_23 (List.mem_of_getElem? (i := 18) rfl)
theorem wd_547 : Cond.methodLink RX1 50 yX2_keep ∈ wsL_law := wr_23 (List.mem_of_getElem? (i := 19) rfl)
theorem wd_548 : Cond.instanceMethod yX2_keep ∈ wsL_law := wr_23 (List.mem_of_getElem? (i := 20) rfl)
theorem wd_549 : Cond.selects RX2 yX2_keep yX2_keep ∈ wsL_law := wr_23 (List.mem_of_getElem? (i := 21) rfl)
theorem wd_550 : Cond.code yX2_keep cX2_keep 2 none ∈ wsL_law := wr_23 (List.mem_of_getElem? (i := 22) rfl)
theorem wd_551 : Cond.methodLink RX2 28 Lib.Math.min.name ∈ wsL_law := wr_23 (List.mem_of_getElem? (i := 23) rfl)
theorem wd_552 : Cond.methodLink RX10 216 yX7_empty ∈ wsL_law := wr_24 (List.mem_of_getElem? (i := 0) rfl)
theorem wd_553 : Cond.instanceMethod yX7_empty ∈ wsL_law := wr_24 (List.mem_of_getElem? (i := 1) rfl)
theorem wd_554 : Cond.selects RX7 yX7_empty yX7_empty ∈ wsL_law := wr_24 (List.mem_of_getElem? (i := 2) rfl)
theorem wd_555 : Cond.code yX7_empty cX7_empty 1 none ∈ wsL_law := wr_24 (List.mem_of_getElem? (i := 3) rfl)
theorem wd_556 : Cond.methodLink RL 72 yX11_books ∈ wsL_law := wr_24 (List.mem_of_getElem? (i := 4) rfl)
theorem wd_557 : Cond.instanceMethod yX11_books ∈ wsL_law := wr_24 (List.mem_of_getElem? (i := 5) rfl)
theorem wd_558 : Cond.selects RX11 yX11_books yX11_books ∈ wsL_law := wr_24 (List.mem_of_getElem? (i := 6) rfl)
theorem wd_559 : Cond.code yX11_books cX11_books 3 (some .int) ∈ wsL_law := wr_24 (List.mem_of_getElem? (i := 7) rfl)
theorem wd_560 : Cond.fieldLink RX11 175 "NoteCounterModel" "length" "I" ∈ wsL_law := wr_24 (List.mem_of_getElem? (i := 8) rfl)
theorem wd_561 : Cond.fieldLink RX11 178 "NoteCounterModel" "cursor" "I" ∈ wsL_law := wr_24 (List.mem_of_getElem? (i := 9) rfl)
theorem wd_562 : Cond.fieldLink RX11 199 "NoteCounterModel" "fault" "I" ∈ wsL_law := wr_24 (List.mem_of_getElem? (i := 10) rfl)
theorem wd_563 : Cond.fieldLink RX11 236 "NoteCounterModel" "entries" "I" ∈ wsL_law := wr_24 (List.mem_of_getElem? (i := 11) rfl)
theorem wd_564 : Cond.fieldLink RX11 230 "NoteCounterModel" "newEntries" "I" ∈ wsL_law := wr_24 (List.mem_of_getElem? (i := 12) rfl)
theorem wd_565 : Cond.fieldLink RX11 187 "NoteCounterModel" "token" "I" ∈ wsL_law := wr_24 (List.mem_of_getElem? (i := 13) rfl)
theorem wd_566 : Cond.constantLong RX11 239 (2003133803) ∈ wsL_law := wr_24 (List.mem_of_getElem? (i := 14) rfl)
theorem wd_567 : Cond.fieldLink RX11 244 "NoteCounterModel" "latest" "I" ∈ wsL_law := wr_24 (List.mem_of_getElem? (i := 15) rfl)
theorem wd_568 : Cond.constant RX11 247 (-1000100) ∈ wsL_law := wr_24 (List.mem_of_getElem? (i := 16) rfl)
theorem wd_569 : Cond.fieldLink RX11 202 "NoteCounterModel" "faultAt" "I" ∈ wsL_law := wr_24 (List.mem_of_getElem? (i := 17) rfl)
theorem wd_570 : Cond.methodLink RX11 209 yX11_step ∈ wsL_law := wr_24 (List.mem_of_getElem? (i := 18) rfl)
theorem wd_571 : Cond.instanceMethod yX11_step ∈ wsL_law := wr_24 (List.mem_of_getElem? (i := 19) rfl)
theorem wd_572 : Cond.selects RX11 yX11_step yX11_step ∈ wsL_law := wr_24 (List.mem_of_getElem? (i := 20) rfl)
theorem wd_573 : Cond.code yX11_step cX11_step 2 none ∈ wsL_law := wr_24 (List.mem_of_getElem? (i := 21) rfl)
theorem wd_574 : Cond.fieldLink RX11 184 "NoteCounterModel" "from" "I" ∈ wsL_law := wr_24 (List.mem_of_getElem? (i := 22) rfl)
theorem wd_575 : Cond.fieldLink RX11 196 "NoteCounterModel" "till" "I" ∈ wsL_law := wr_24 (List.mem_of_getElem? (i := 23) rfl)
theorem wd_576 : Cond.methodLink RX11 181 yX11_byteAt ∈ wsL_law := wr_25 (List.mem_of_getElem? (i := 0) rfl)
theorem wd_577 : Cond.instanceMethod yX11_byteAt ∈ wsL_law := wr_25 (List.mem_of_getElem? (i := 1) rfl)
theorem wd_578 : Cond.selects RX11 yX11_byteAt yX11_byteAt ∈ wsL_law := wr_25 (List.mem_of_getElem? (i := 2) rfl)
theorem wd_579 : Cond.code yX11_byteAt cX11_byteAt 2 (some .int) ∈ wsL_law := wr_25 (List.mem_of_getElem? (i := 3) rfl)
theorem wd_580 : Cond.methodLink RX11 190 yX11_isLetter ∈ wsL_law := wr_25 (List.mem_of_getElem? (i := 4) rfl)
theorem wd_581 : Cond.static yX11_isLetter ∈ wsL_law := wr_25 (List.mem_of_getElem? (i := 5) rfl)
theorem wd_582 : Cond.code yX11_isLetter cX11_isLetter 1 (some .boolean) ∈ wsL_law := wr_25 (List.mem_of_getElem? (i := 6) rfl)
theorem wd_583 : Cond.methodLink RX11 193 yX11_isFigure ∈ wsL_law := wr_25 (List.mem_of_getElem? (i := 7) rfl)
theorem wd_584 : Cond.static yX11_isFigure ∈ wsL_law := wr_25 (List.mem_of_getElem? (i := 8) rfl)
theorem wd_585 : Cond.code yX11_isFigure cX11_isFigure 1 (some .boolean) ∈ wsL_law := wr_25 (List.mem_of_getElem? (i := 9) rfl)
theorem wd_586 : Cond.methodLink RX11 216 yX11_word ∈ wsL_law := wr_25 (List.mem_of_getElem? (i := 10) rfl)
theorem wd_587 : Cond.instanceMethod yX11_word ∈ wsL_law := wr_25 (List.mem_of_getElem? (i := 11) rfl)
theorem wd_588 : Cond.selects RX11 yX11_word yX11_word ∈ wsL_law := wr_25 (List.mem_of_getElem? (i := 12) rfl)
theorem wd_589 : Cond.code yX11_word cX11_word 4 (some .long) ∈ wsL_law := wr_25 (List.mem_of_getElem? (i := 13) rfl)
theorem wd_590 : Cond.methodLink RX11 212 yX11_must ∈ wsL_law := wr_25 (List.mem_of_getElem? (i := 14) rfl)
theorem wd_591 : Cond.instanceMethod yX11_must ∈ wsL_law := wr_25 (List.mem_of_getElem? (i := 15) rfl)
theorem wd_592 : Cond.selects RX11 yX11_must yX11_must ∈ wsL_law := wr_25 (List.mem_of_getElem? (i := 16) rfl)
theorem wd_593 : Cond.code yX11_must cX11_must 2 none ∈ wsL_law := wr_25 (List.mem_of_getElem? (i := 17) rfl)
theorem wd_594 : Cond.methodLink RX11 205 yX11_bad ∈ wsL_law := wr_25 (List.mem_of_getElem? (i := 18) rfl)
theorem wd_595 : Cond.instanceMethod yX11_bad ∈ wsL_law := wr_25 (List.mem_of_getElem? (i := 19) rfl)
theorem wd_596 : Cond.selects RX11 yX11_bad yX11_bad ∈ wsL_law := wr_25 (List.mem_of_getElem? (i := 20) rfl)
theorem wd_597 : Cond.code yX11_bad cX11_bad 2 none ∈ wsL_law := wr_25 (List.mem_of_getElem? (i := 21) rfl)
theorem wd_598 : Cond.methodLink RX11 233 yX11_numberTo ∈ wsL_law := wr_25 (List.mem_of_getElem? (i := 22) rfl)
theorem wd_599 : Cond.instanceMethod yX11_numberTo ∈ wsL_law := wr_25 (List.mem_of_getElem? (i := 23) rfl)
theorem wd_600 : Cond.selects RX11 yX11_numberTo yX11_numberTo ∈ wsL_law := wr_26 (List.mem_of_getElem? (i := 0) rfl)
theorem wd_601 : Cond.code yX11_numberTo cX11_numberTo 4 (some .int) ∈ wsL_law := wr_26 (List.mem_of_getElem? (i := 1) rfl)
theorem wd_602 : Cond.methodLink RX11 241 yX11_readEntry ∈ wsL_law := wr_26 (List.mem_of_getElem? (i := 2) rfl)
theorem wd_603 : Cond.instanceMethod yX11_readEntry ∈ wsL_law := wr_26 (List.mem_of_getElem? (i := 3) rfl)
theorem wd_604 : Cond.selects RX11 yX11_readEntry yX11_readEntry ∈ wsL_law := wr_26 (List.mem_of_getElem? (i := 4) rfl)
theorem wd_605 : Cond.code yX11_readEntry cX11_readEntry 5 none ∈ wsL_law := wr_26 (List.mem_of_getElem? (i := 5) rfl)
theorem wd_606 : Cond.methodLink RX11 226 yX11_entryOfWord ∈ wsL_law := wr_26 (List.mem_of_getElem? (i := 6) rfl)
theorem wd_607 : Cond.instanceMethod yX11_entryOfWord ∈ wsL_law := wr_26 (List.mem_of_getElem? (i := 7) rfl)
theorem wd_608 : Cond.selects RX11 yX11_entryOfWord yX11_entryOfWord ∈ wsL_law := wr_26 (List.mem_of_getElem? (i := 8) rfl)
theorem wd_609 : Cond.code yX11_entryOfWord cX11_entryOfWord 3 (some .int) ∈ wsL_law := wr_26 (List.mem_of_getElem? (i := 9) rfl)
theorem wd_610 : Cond.constantLong RX11 220 (7300710) ∈ wsL_law := wr_26 (List.mem_of_getElem? (i := 10) rfl)
theorem wd_611 : Cond.constantLong RX11 222 (439721161573) ∈ wsL_law := wr_26 (List.mem_of_getElem? (i := 11) rfl)
theorem wd_612 : Cond.constantLong RX11 224 (32497644298331492) ∈ wsL_law := wr_26 (List.mem_of_getElem? (i := 12) rfl)
theorem wd_613 : Cond.methodLink RL 73 yX10_fault ∈ wsL_law := wr_26 (List.mem_of_getElem? (i := 13) rfl)
theorem wd_614 : Cond.instanceMethod yX10_fault ∈ wsL_law := wr_26 (List.mem_of_getElem? (i := 14) rfl)
theorem wd_615 : Cond.selects RX10 yX10_fault yX10_fault ∈ wsL_law := wr_26 (List.mem_of_getElem? (i := 15) rfl)
theorem wd_616 : Cond.code yX10_fault cX10_fault 1 (some .int) ∈ wsL_law := wr_26 (List.mem_of_getElem? (i := 16) rfl)
theorem wd_617 : Cond.methodLink RL 76 yX11_fault ∈ wsL_law := wr_26 (List.mem_of_getElem? (i := 17) rfl)
theorem wd_618 : Cond.instanceMethod yX11_fault ∈ wsL_law := wr_26 (List.mem_of_getElem? (i := 18) rfl)
theorem wd_619 : Cond.selects RX11 yX11_fault yX11_fault ∈ wsL_law := wr_26 (List.mem_of_getElem? (i := 19) rfl)
theorem wd_620 : Cond.code yX11_fault cX11_fault 1 (some .int) ∈ wsL_law := wr_26 (List.mem_of_getElem? (i := 20) rfl)
theorem wd_621 : Cond.methodLink RL 77 yX10_known ∈ wsL_law := wr_26 (List.mem_of_getElem? (i := 21) rfl)
theorem wd_622 : Cond.instanceMethod yX10_known ∈ wsL_law := wr_26 (List.mem_of_getElem? (i := 22) rfl)
theorem wd_623 : Cond.selects RX10 yX10_known yX10_known ∈ wsL_law := wr_26 (List.mem_of_getElem? (i := 23) rfl)
theorem wd_624 : Cond.code yX10_known cX10_known 6 (some .int) ∈ wsL_law := wr_27 (List.mem_of_getElem? (i := 0) rfl)
theorem wd_625 : Cond.methodLink RX10 223 yX10_newestBook ∈ wsL_law := wr_27 (List.mem_of_getElem? (i := 1) rfl)
theorem wd_626 : Cond.instanceMethod yX10_newestBook ∈ wsL_law := wr_27 (List.mem_of_getElem? (i := 2) rfl)
theorem wd_627 : Cond.selects RX10 yX10_newestBook yX10_newestBook ∈ wsL_law := wr_27 (List.mem_of_getElem? (i := 3) rfl)
theorem wd_628 : Cond.code yX10_newestBook cX10_newestBook 4 (some .int) ∈ wsL_law := wr_27 (List.mem_of_getElem? (i := 4) rfl)
theorem wd_629 : Cond.constant RX10 316 (-1000000) ∈ wsL_law := wr_27 (List.mem_of_getElem? (i := 5) rfl)
theorem wd_630 : Cond.methodLink RX10 226 yX2_off ∈ wsL_law := wr_27 (List.mem_of_getElem? (i := 6) rfl)
theorem wd_631 : Cond.instanceMethod yX2_off ∈ wsL_law := wr_27 (List.mem_of_getElem? (i := 7) rfl)
theorem wd_632 : Cond.selects RX2 yX2_off yX2_off ∈ wsL_law := wr_27 (List.mem_of_getElem? (i := 8) rfl)
theorem wd_633 : Cond.code yX2_off cX2_off 4 (some .int) ∈ wsL_law := wr_27 (List.mem_of_getElem? (i := 9) rfl)
theorem wd_634 : Cond.constant RX2 34 (-1000000) ∈ wsL_law := wr_27 (List.mem_of_getElem? (i := 10) rfl)
theorem wd_635 : Cond.methodLink RX2 39 yX2_latest ∈ wsL_law := wr_27 (List.mem_of_getElem? (i := 11) rfl)
theorem wd_636 : Cond.instanceMethod yX2_latest ∈ wsL_law := wr_27 (List.mem_of_getElem? (i := 12) rfl)
theorem wd_637 : Cond.selects RX2 yX2_latest yX2_latest ∈ wsL_law := wr_27 (List.mem_of_getElem? (i := 13) rfl)
theorem wd_638 : Cond.code yX2_latest cX2_latest 7 (some .int) ∈ wsL_law := wr_27 (List.mem_of_getElem? (i := 14) rfl)
theorem wd_639 : Cond.methodLink RX2 35 yX2_isKnown ∈ wsL_law := wr_27 (List.mem_of_getElem? (i := 15) rfl)
theorem wd_640 : Cond.instanceMethod yX2_isKnown ∈ wsL_law := wr_27 (List.mem_of_getElem? (i := 16) rfl)
theorem wd_641 : Cond.selects RX2 yX2_isKnown yX2_isKnown ∈ wsL_law := wr_27 (List.mem_of_getElem? (i := 17) rfl)
theorem wd_642 : Cond.code yX2_isKnown cX2_isKnown 5 (some .boolean) ∈ wsL_law := wr_27 (List.mem_of_getElem? (i := 18) rfl)
theorem wd_643 : Cond.methodLink RX10 229 yX2_latest ∈ wsL_law := wr_27 (List.mem_of_getElem? (i := 19) rfl)
theorem wd_644 : Cond.methodLink RX10 233 yX2_falsePlates ∈ wsL_law := wr_27 (List.mem_of_getElem? (i := 20) rfl)
theorem wd_645 : Cond.instanceMethod yX2_falsePlates ∈ wsL_law := wr_27 (List.mem_of_getElem? (i := 21) rfl)
theorem wd_646 : Cond.selects RX2 yX2_falsePlates yX2_falsePlates ∈ wsL_law := wr_27 (List.mem_of_getElem? (i := 22) rfl)
theorem wd_647 : Cond.code yX2_falsePlates cX2_falsePlates 5 (some .int) ∈ wsL_law := wr_27 (List.mem_of_getElem? (i := 23) rfl)
theorem wd_648 : Cond.methodLink RL 81 yX11_known ∈ wsL_law := wr_28 (List.mem_of_getElem? (i := 0) rfl)
theorem wd_649 : Cond.instanceMethod yX11_known ∈ wsL_law := wr_28 (List.mem_of_getElem? (i := 1) rfl)
theorem wd_650 : Cond.selects RX11 yX11_known yX11_known ∈ wsL_law := wr_28 (List.mem_of_getElem? (i := 2) rfl)
theorem wd_651 : Cond.code yX11_known cX11_known 5 (some .int) ∈ wsL_law := wr_28 (List.mem_of_getElem? (i := 3) rfl)
theorem wd_652 : Cond.methodLink RX11 255 yX11_isWeek ∈ wsL_law := wr_28 (List.mem_of_getElem? (i := 4) rfl)
theorem wd_653 : Cond.static yX11_isWeek ∈ wsL_law := wr_28 (List.mem_of_getElem? (i := 5) rfl)
theorem wd_654 : Cond.code yX11_isWeek cX11_isWeek 1 (some .boolean) ∈ wsL_law := wr_28 (List.mem_of_getElem? (i := 6) rfl)
theorem wd_655 : Cond.methodLink RX11 258 yX11_offOf ∈ wsL_law := wr_28 (List.mem_of_getElem? (i := 7) rfl)
theorem wd_656 : Cond.instanceMethod yX11_offOf ∈ wsL_law := wr_28 (List.mem_of_getElem? (i := 8) rfl)
theorem wd_657 : Cond.selects RX11 yX11_offOf yX11_offOf ∈ wsL_law := wr_28 (List.mem_of_getElem? (i := 9) rfl)
theorem wd_658 : Cond.code yX11_offOf cX11_offOf 5 (some .int) ∈ wsL_law := wr_28 (List.mem_of_getElem? (i := 10) rfl)
theorem wd_659 : Cond.methodLink RX11 251 yX11_saidOf ∈ wsL_law := wr_28 (List.mem_of_getElem? (i := 11) rfl)
theorem wd_660 : Cond.instanceMethod yX11_saidOf ∈ wsL_law := wr_28 (List.mem_of_getElem? (i := 12) rfl)
theorem wd_661 : Cond.selects RX11 yX11_saidOf yX11_saidOf ∈ wsL_law := wr_28 (List.mem_of_getElem? (i := 13) rfl)
theorem wd_662 : Cond.code yX11_saidOf cX11_saidOf 9 (some .int) ∈ wsL_law := wr_28 (List.mem_of_getElem? (i := 14) rfl)
theorem wd_663 : Cond.methodLink RX11 248 yX11_bookWeek ∈ wsL_law := wr_28 (List.mem_of_getElem? (i := 15) rfl)
theorem wd_664 : Cond.instanceMethod yX11_bookWeek ∈ wsL_law := wr_28 (List.mem_of_getElem? (i := 16) rfl)
theorem wd_665 : Cond.selects RX11 yX11_bookWeek yX11_bookWeek ∈ wsL_law := wr_28 (List.mem_of_getElem? (i := 17) rfl)
theorem wd_666 : Cond.code yX11_bookWeek cX11_bookWeek 4 (some .int) ∈ wsL_law := wr_28 (List.mem_of_getElem? (i := 18) rfl)
theorem wd_667 : Cond.methodLink RX11 262 yX11_falsePlates ∈ wsL_law := wr_28 (List.mem_of_getElem? (i := 19) rfl)
theorem wd_668 : Cond.instanceMethod yX11_falsePlates ∈ wsL_law := wr_28 (List.mem_of_getElem? (i := 20) rfl)
theorem wd_669 : Cond.selects RX11 yX11_falsePlates yX11_falsePlates ∈ wsL_law := wr_28 (List.mem_of_getElem? (i := 21) rfl)
theorem wd_670 : Cond.code yX11_falsePlates cX11_falsePlates 9 (some .int) ∈ wsL_law := wr_28 (List.mem_of_getElem? (i := 22) rfl)
theorem wd_671 : Cond.methodLink RL 82 yX10_note ∈ wsL_law := wr_28 (List.mem_of_getElem? (i := 23) rfl)
theorem wd_672 : Cond.instanceMethod yX10_note ∈ wsL_law := wr_29 (List.mem_of_getElem? (i := 0) rfl)
theorem wd_673 : Cond.selects RX10 yX10_note yX10_note ∈ wsL_law := wr_29 (List.mem_of_getElem? (i := 1) rfl)
theorem wd_674 : Cond.code yX10_note cX10_note 8 (some .int) ∈ wsL_law := wr_29 (List.mem_of_getElem? (i := 2) rfl)
theorem wd_676 : Cond.initialized RX4 ∈ wsL_law := wr_29 (List.mem_of_getElem? (i := 4) rfl)
theorem wd_677 : Cond.methodLink RX10 236 yX10_traderOf ∈ wsL_law := wr_29 (List.mem_of_getElem? (i := 5) rfl)
theorem wd_678 : Cond.instanceMethod yX10_traderOf ∈ wsL_law := wr_29 (List.mem_of_getElem? (i := 6) rfl)
theorem wd_679 : Cond.selects RX10 yX10_traderOf yX10_traderOf ∈ wsL_law := wr_29 (List.mem_of_getElem? (i := 7) rfl)
theorem wd_680 : Cond.code yX10_traderOf cX10_traderOf 2 (some (.object "NoteCounter$Trader")) ∈ wsL_law := wr_29 (List.mem_of_getElem? (i := 8) rfl)
theorem wd_681 : Cond.methodLink RX10 240 yX4_init ∈ wsL_law := wr_29 (List.mem_of_getElem? (i := 9) rfl)
theorem wd_684 : Cond.methodLink RX4 3 objectInit ∈ wsL_law := wr_29 (List.mem_of_getElem? (i := 12) rfl)
theorem wd_685 : Cond.fieldLink RX4 11 "NoteCounter$Note" "where" "I" ∈ wsL_law := wr_29 (List.mem_of_getElem? (i := 13) rfl)
theorem wd_686 : Cond.fieldLink RX4 15 "NoteCounter$Note" "handCount" "I" ∈ wsL_law := wr_29 (List.mem_of_getElem? (i := 14) rfl)
theorem wd_687 : Cond.fieldLink RX4 18 "NoteCounter$Note" "wasCut" "Z" ∈ wsL_law := wr_29 (List.mem_of_getElem? (i := 15) rfl)
theorem wd_688 : Cond.constant RX4 22 (-1000000) ∈ wsL_law := wr_29 (List.mem_of_getElem? (i := 16) rfl)
theorem wd_689 : Cond.fieldLink RX4 23 "NoteCounter$Note" "lastHolder" "I" ∈ wsL_law := wr_29 (List.mem_of_getElem? (i := 17) rfl)
theorem wd_690 : Cond.fieldLink RX4 26 "NoteCounter$Note" "stayedWith" "I" ∈ wsL_law := wr_29 (List.mem_of_getElem? (i := 18) rfl)
theorem wd_691 : Cond.fieldLink RX4 29 "NoteCounter$Note" "otherWith" "I" ∈ wsL_law := wr_29 (List.mem_of_getElem? (i := 19) rfl)
theorem wd_692 : Cond.fieldLink RX4 32 "NoteCounter$Note" "handTraders" "[I" ∈ wsL_law := wr_29 (List.mem_of_getElem? (i := 20) rfl)
theorem wd_693 : Cond.fieldLink RX4 36 "NoteCounter$Note" "handWeeks" "[I" ∈ wsL_law := wr_29 (List.mem_of_getElem? (i := 21) rfl)
theorem wd_694 : Cond.fieldLink RX4 39 "NoteCounter$Note" "number" "I" ∈ wsL_law := wr_29 (List.mem_of_getElem? (i := 22) rfl)
theorem wd_695 : Cond.fieldLink RX4 42 "NoteCounter$Note" "bank" "I" ∈ wsL_law := wr_29 (List.mem_of_getElem? (i := 23) rfl)
theorem wd_696 : Cond.fieldLink RX4 45 "NoteCounter$Note" "sum" "I" ∈ wsL_law := wr_30 (List.mem_of_getElem? (i := 0) rfl)
theorem wd_697 : Cond.fieldLink RX4 48 "NoteCounter$Note" "marks" "I" ∈ wsL_law := wr_30 (List.mem_of_getElem? (i := 1) rfl)
theorem wd_698 : Cond.fieldLink RX4 51 "NoteCounter$Note" "worn" "I" ∈ wsL_law := wr_30 (List.mem_of_getElem? (i := 2) rfl)
theorem wd_699 : Cond.methodLink RX10 243 yX4_handOn ∈ wsL_law := wr_30 (List.mem_of_getElem? (i := 3) rfl)
theorem wd_700 : Cond.instanceMethod yX4_handOn ∈ wsL_law := wr_30 (List.mem_of_getElem? (i := 4) rfl)
theorem wd_701 : Cond.selects RX4 yX4_handOn yX4_handOn ∈ wsL_law := wr_30 (List.mem_of_getElem? (i := 5) rfl)
theorem wd_702 : Cond.code yX4_handOn cX4_handOn 4 none ∈ wsL_law := wr_30 (List.mem_of_getElem? (i := 6) rfl)
theorem wd_703 : Cond.methodLink RL 85 yX11_note ∈ wsL_law := wr_30 (List.mem_of_getElem? (i := 7) rfl)
theorem wd_704 : Cond.instanceMethod yX11_note ∈ wsL_law := wr_30 (List.mem_of_getElem? (i := 8) rfl)
theorem wd_705 : Cond.selects RX11 yX11_note yX11_note ∈ wsL_law := wr_30 (List.mem_of_getElem? (i := 9) rfl)
theorem wd_706 : Cond.code yX11_note cX11_note 6 (some .int) ∈ wsL_law := wr_30 (List.mem_of_getElem? (i := 10) rfl)
theorem wd_707 : Cond.constantLong RX11 268 (100) ∈ wsL_law := wr_30 (List.mem_of_getElem? (i := 11) rfl)
theorem wd_708 : Cond.fieldLink RX11 265 "NoteCounterModel" "notes" "I" ∈ wsL_law := wr_30 (List.mem_of_getElem? (i := 12) rfl)
theorem wd_709 : Cond.methodLink RX11 270 yX11_isTrader ∈ wsL_law := wr_30 (List.mem_of_getElem? (i := 13) rfl)
theorem wd_710 : Cond.static yX11_isTrader ∈ wsL_law := wr_30 (List.mem_of_getElem? (i := 14) rfl)
theorem wd_711 : Cond.code yX11_isTrader cX11_isTrader 1 (some .boolean) ∈ wsL_law := wr_30 (List.mem_of_getElem? (i := 15) rfl)
theorem wd_712 : Cond.methodLink RX11 273 yX11_comeTo ∈ wsL_law := wr_30 (List.mem_of_getElem? (i := 16) rfl)
theorem wd_713 : Cond.instanceMethod yX11_comeTo ∈ wsL_law := wr_30 (List.mem_of_getElem? (i := 17) rfl)
theorem wd_714 : Cond.selects RX11 yX11_comeTo yX11_comeTo ∈ wsL_law := wr_30 (List.mem_of_getElem? (i := 18) rfl)
theorem wd_715 : Cond.code yX11_comeTo cX11_comeTo 4 none ∈ wsL_law := wr_30 (List.mem_of_getElem? (i := 19) rfl)
theorem wd_716 : Cond.methodLink RL 86 yX10_told ∈ wsL_law := wr_30 (List.mem_of_getElem? (i := 20) rfl)
theorem wd_717 : Cond.instanceMethod yX10_told ∈ wsL_law := wr_30 (List.mem_of_getElem? (i := 21) rfl)
theorem wd_718 : Cond.selects RX10 yX10_told yX10_told ∈ wsL_law := wr_30 (List.mem_of_getElem? (i := 22) rfl)
theorem wd_719 : Cond.code yX10_told cX10_told 4 (some .int) ∈ wsL_law := wr_30 (List.mem_of_getElem? (i := 23) rfl)
theorem wd_720 : Cond.fieldLink RX10 250 "NoteCounter$Note" "bank" "I" ∈ wsL_law := wr_31 (List.mem_of_getElem? (i := 0) rfl)
theorem wd_721 : Cond.fieldLink RX10 253 "NoteCounter$Note" "sum" "I" ∈ wsL_law := wr_31 (List.mem_of_getElem? (i := 1) rfl)
theorem wd_722 : Cond.fieldLink RX10 256 "NoteCounter$Note" "marks" "I" ∈ wsL_law := wr_31 (List.mem_of_getElem? (i := 2) rfl)
theorem wd_723 : Cond.fieldLink RX10 259 "NoteCounter$Note" "worn" "I" ∈ wsL_law := wr_31 (List.mem_of_getElem? (i := 3) rfl)
theorem wd_724 : Cond.fieldLink RX10 265 "NoteCounter$Note" "where" "I" ∈ wsL_law := wr_31 (List.mem_of_getElem? (i := 4) rfl)
theorem wd_725 : Cond.methodLink RX10 246 yX10_noteOf ∈ wsL_law := wr_31 (List.mem_of_getElem? (i := 5) rfl)
theorem wd_726 : Cond.instanceMethod yX10_noteOf ∈ wsL_law := wr_31 (List.mem_of_getElem? (i := 6) rfl)
theorem wd_727 : Cond.selects RX10 yX10_noteOf yX10_noteOf ∈ wsL_law := wr_31 (List.mem_of_getElem? (i := 7) rfl)
theorem wd_728 : Cond.code yX10_noteOf cX10_noteOf 2 (some (.object "NoteCounter$Note")) ∈ wsL_law := wr_31 (List.mem_of_getElem? (i := 8) rfl)
theorem wd_729 : Cond.methodLink RX10 262 yX4_holder ∈ wsL_law := wr_31 (List.mem_of_getElem? (i := 9) rfl)
theorem wd_730 : Cond.instanceMethod yX4_holder ∈ wsL_law := wr_31 (List.mem_of_getElem? (i := 10) rfl)
theorem wd_731 : Cond.selects RX4 yX4_holder yX4_holder ∈ wsL_law := wr_31 (List.mem_of_getElem? (i := 11) rfl)
theorem wd_732 : Cond.code yX4_holder cX4_holder 1 (some .int) ∈ wsL_law := wr_31 (List.mem_of_getElem? (i := 12) rfl)
theorem wd_733 : Cond.methodLink RL 89 yX11_told ∈ wsL_law := wr_31 (List.mem_of_getElem? (i := 13) rfl)
theorem wd_734 : Cond.instanceMethod yX11_told ∈ wsL_law := wr_31 (List.mem_of_getElem? (i := 14) rfl)
theorem wd_735 : Cond.selects RX11 yX11_told yX11_told ∈ wsL_law := wr_31 (List.mem_of_getElem? (i := 15) rfl)
theorem wd_736 : Cond.code yX11_told cX11_told 3 (some .int) ∈ wsL_law := wr_31 (List.mem_of_getElem? (i := 16) rfl)
theorem wd_737 : Cond.constantLong RX11 280 (6) ∈ wsL_law := wr_31 (List.mem_of_getElem? (i := 17) rfl)
theorem wd_738 : Cond.methodLink RX11 277 yX11_isNote ∈ wsL_law := wr_31 (List.mem_of_getElem? (i := 18) rfl)
theorem wd_739 : Cond.instanceMethod yX11_isNote ∈ wsL_law := wr_31 (List.mem_of_getElem? (i := 19) rfl)
theorem wd_740 : Cond.selects RX11 yX11_isNote yX11_isNote ∈ wsL_law := wr_31 (List.mem_of_getElem? (i := 20) rfl)
theorem wd_741 : Cond.code yX11_isNote cX11_isNote 2 (some .boolean) ∈ wsL_law := wr_31 (List.mem_of_getElem? (i := 21) rfl)
theorem wd_742 : Cond.methodLink RL 90 yX10_looks ∈ wsL_law := wr_31 (List.mem_of_getElem? (i := 22) rfl)
theorem wd_743 : Cond.instanceMethod yX10_looks ∈ wsL_law := wr_31 (List.mem_of_getElem? (i := 23) rfl)
theorem wd_744 : Cond.selects RX10 yX10_looks yX10_looks ∈ wsL_law := wr_32 (List.mem_of_getElem? (i := 0) rfl)
theorem wd_745 : Cond.code yX10_looks cX10_looks 6 (some .int) ∈ wsL_law := wr_32 (List.mem_of_getElem? (i := 1) rfl)
theorem wd_746 : Cond.methodLink RX10 268 yX4_isUnlike ∈ wsL_law := wr_32 (List.mem_of_getElem? (i := 2) rfl)
theorem wd_747 : Cond.instanceMethod yX4_isUnlike ∈ wsL_law := wr_32 (List.mem_of_getElem? (i := 3) rfl)
theorem wd_748 : Cond.selects RX4 yX4_isUnlike yX4_isUnlike ∈ wsL_law := wr_32 (List.mem_of_getElem? (i := 4) rfl)
theorem wd_749 : Cond.code yX4_isUnlike cX4_isUnlike 2 (some .boolean) ∈ wsL_law := wr_32 (List.mem_of_getElem? (i := 5) rfl)
theorem wd_750 : Cond.methodLink RX10 271 yX2_tellApart ∈ wsL_law := wr_32 (List.mem_of_getElem? (i := 6) rfl)
theorem wd_751 : Cond.instanceMethod yX2_tellApart ∈ wsL_law := wr_32 (List.mem_of_getElem? (i := 7) rfl)
theorem wd_752 : Cond.selects RX2 yX2_tellApart yX2_tellApart ∈ wsL_law := wr_32 (List.mem_of_getElem? (i := 8) rfl)
theorem wd_753 : Cond.code yX2_tellApart cX2_tellApart 5 (some .boolean) ∈ wsL_law := wr_32 (List.mem_of_getElem? (i := 9) rfl)
theorem wd_754 : Cond.fieldLink RX2 43 "NoteCounter$Note" "bank" "I" ∈ wsL_law := wr_32 (List.mem_of_getElem? (i := 10) rfl)
theorem wd_755 : Cond.methodLink RX2 48 yX4_isUnlike ∈ wsL_law := wr_32 (List.mem_of_getElem? (i := 11) rfl)
theorem wd_756 : Cond.methodLink RL 93 yX11_looks ∈ wsL_law := wr_32 (List.mem_of_getElem? (i := 12) rfl)
theorem wd_757 : Cond.instanceMethod yX11_looks ∈ wsL_law := wr_32 (List.mem_of_getElem? (i := 13) rfl)
theorem wd_758 : Cond.selects RX11 yX11_looks yX11_looks ∈ wsL_law := wr_32 (List.mem_of_getElem? (i := 14) rfl)
theorem wd_759 : Cond.code yX11_looks cX11_looks 4 (some .int) ∈ wsL_law := wr_32 (List.mem_of_getElem? (i := 15) rfl)
theorem wd_760 : Cond.methodLink RX11 288 yX11_looksLike ∈ wsL_law := wr_32 (List.mem_of_getElem? (i := 16) rfl)
theorem wd_761 : Cond.instanceMethod yX11_looksLike ∈ wsL_law := wr_32 (List.mem_of_getElem? (i := 17) rfl)
theorem wd_762 : Cond.selects RX11 yX11_looksLike yX11_looksLike ∈ wsL_law := wr_32 (List.mem_of_getElem? (i := 18) rfl)
theorem wd_763 : Cond.code yX11_looksLike cX11_looksLike 5 (some .int) ∈ wsL_law := wr_32 (List.mem_of_getElem? (i := 19) rfl)
theorem wd_764 : Cond.methodLink RX11 285 yX11_isFalse ∈ wsL_law := wr_32 (List.mem_of_getElem? (i := 20) rfl)
theorem wd_765 : Cond.instanceMethod yX11_isFalse ∈ wsL_law := wr_32 (List.mem_of_getElem? (i := 21) rfl)
theorem wd_766 : Cond.selects RX11 yX11_isFalse yX11_isFalse ∈ wsL_law := wr_32 (List.mem_of_getElem? (i := 22) rfl)
theorem wd_767 : Cond.code yX11_isFalse cX11_isFalse 2 (some .boolean) ∈ wsL_law := wr_32 (List.mem_of_getElem? (i := 23) rfl)
theorem wd_768 : Cond.methodLink RX11 282 yX11_isGhost ∈ wsL_law := wr_33 (List.mem_of_getElem? (i := 0) rfl)
theorem wd_769 : Cond.instanceMethod yX11_isGhost ∈ wsL_law := wr_33 (List.mem_of_getElem? (i := 1) rfl)
theorem wd_770 : Cond.selects RX11 yX11_isGhost yX11_isGhost ∈ wsL_law := wr_33 (List.mem_of_getElem? (i := 2) rfl)
theorem wd_771 : Cond.code yX11_isGhost cX11_isGhost 2 (some .boolean) ∈ wsL_law := wr_33 (List.mem_of_getElem? (i := 3) rfl)
theorem wd_772 : Cond.methodLink RL 94 yX10_worth ∈ wsL_law := wr_33 (List.mem_of_getElem? (i := 4) rfl)
theorem wd_773 : Cond.instanceMethod yX10_worth ∈ wsL_law := wr_33 (List.mem_of_getElem? (i := 5) rfl)
theorem wd_774 : Cond.selects RX10 yX10_worth yX10_worth ∈ wsL_law := wr_33 (List.mem_of_getElem? (i := 6) rfl)
theorem wd_775 : Cond.code yX10_worth cX10_worth 5 (some .int) ∈ wsL_law := wr_33 (List.mem_of_getElem? (i := 7) rfl)
theorem wd_776 : Cond.methodLink RX10 275 yX10_inTheHundred ∈ wsL_law := wr_33 (List.mem_of_getElem? (i := 8) rfl)
theorem wd_777 : Cond.instanceMethod yX10_inTheHundred ∈ wsL_law := wr_33 (List.mem_of_getElem? (i := 9) rfl)
theorem wd_778 : Cond.selects RX10 yX10_inTheHundred yX10_inTheHundred ∈ wsL_law := wr_33 (List.mem_of_getElem? (i := 10) rfl)
theorem wd_779 : Cond.code yX10_inTheHundred cX10_inTheHundred 8 (some .int) ∈ wsL_law := wr_33 (List.mem_of_getElem? (i := 11) rfl)
theorem wd_780 : Cond.methodLink RX10 379 Lib.Math.max.name ∈ wsL_law := wr_33 (List.mem_of_getElem? (i := 12) rfl)
theorem wd_781 : Cond.static Lib.Math.max.name ∈ wsL_law := wr_33 (List.mem_of_getElem? (i := 13) rfl)
theorem wd_782 : Cond.code Lib.Math.max.name Lib.Math.max.code 2 (some .int) ∈ wsL_law := wr_33 (List.mem_of_getElem? (i := 14) rfl)
theorem wd_783 : Cond.methodLink RL 97 yX11_worth ∈ wsL_law := wr_33 (List.mem_of_getElem? (i := 15) rfl)
theorem wd_784 : Cond.instanceMethod yX11_worth ∈ wsL_law := wr_33 (List.mem_of_getElem? (i := 16) rfl)
theorem wd_785 : Cond.selects RX11 yX11_worth yX11_worth ∈ wsL_law := wr_33 (List.mem_of_getElem? (i := 17) rfl)
theorem wd_786 : Cond.code yX11_worth cX11_worth 4 (some .int) ∈ wsL_law := wr_33 (List.mem_of_getElem? (i := 18) rfl)
theorem wd_787 : Cond.methodLink RX11 291 yX11_worthOf ∈ wsL_law := wr_33 (List.mem_of_getElem? (i := 19) rfl)
theorem wd_788 : Cond.instanceMethod yX11_worthOf ∈ wsL_law := wr_33 (List.mem_of_getElem? (i := 20) rfl)
theorem wd_789 : Cond.selects RX11 yX11_worthOf yX11_worthOf ∈ wsL_law := wr_33 (List.mem_of_getElem? (i := 21) rfl)
theorem wd_790 : Cond.code yX11_worthOf cX11_worthOf 8 (some .int) ∈ wsL_law := wr_33 (List.mem_of_getElem? (i := 22) rfl)
theorem wd_791 : Cond.methodLink RL 98 yX10_hands ∈ wsL_law := wr_33 (List.mem_of_getElem? (i := 23) rfl)
theorem wd_792 : Cond.instanceMethod yX10_hands ∈ wsL_law := wr_34 (List.mem_of_getElem? (i := 0) rfl)
theorem wd_793 : Cond.selects RX10 yX10_hands yX10_hands ∈ wsL_law := wr_34 (List.mem_of_getElem? (i := 1) rfl)
theorem wd_794 : Cond.code yX10_hands cX10_hands 5 (some .int) ∈ wsL_law := wr_34 (List.mem_of_getElem? (i := 2) rfl)
theorem wd_795 : Cond.fieldLink RX10 279 "NoteCounter$Note" "handCount" "I" ∈ wsL_law := wr_34 (List.mem_of_getElem? (i := 3) rfl)
theorem wd_796 : Cond.methodLink RX10 282 yX4_handTrader ∈ wsL_law := wr_34 (List.mem_of_getElem? (i := 4) rfl)
theorem wd_797 : Cond.instanceMethod yX4_handTrader ∈ wsL_law := wr_34 (List.mem_of_getElem? (i := 5) rfl)
theorem wd_798 : Cond.selects RX4 yX4_handTrader yX4_handTrader ∈ wsL_law := wr_34 (List.mem_of_getElem? (i := 6) rfl)
theorem wd_799 : Cond.code yX4_handTrader cX4_handTrader 2 (some .int) ∈ wsL_law := wr_34 (List.mem_of_getElem? (i := 7) rfl)
theorem wd_800 : Cond.methodLink RX10 285 yX4_handWeek ∈ wsL_law := wr_34 (List.mem_of_getElem? (i := 8) rfl)
theorem wd_801 : Cond.instanceMethod yX4_handWeek ∈ wsL_law := wr_34 (List.mem_of_getElem? (i := 9) rfl)
theorem wd_802 : Cond.selects RX4 yX4_handWeek yX4_handWeek ∈ wsL_law := wr_34 (List.mem_of_getElem? (i := 10) rfl)
theorem wd_803 : Cond.code yX4_handWeek cX4_handWeek 2 (some .int) ∈ wsL_law := wr_34 (List.mem_of_getElem? (i := 11) rfl)
theorem wd_804 : Cond.methodLink RL 101 yX11_hands ∈ wsL_law := wr_34 (List.mem_of_getElem? (i := 12) rfl)
theorem wd_805 : Cond.instanceMethod yX11_hands ∈ wsL_law := wr_34 (List.mem_of_getElem? (i := 13) rfl)
theorem wd_806 : Cond.selects RX11 yX11_hands yX11_hands ∈ wsL_law := wr_34 (List.mem_of_getElem? (i := 14) rfl)
theorem wd_807 : Cond.code yX11_hands cX11_hands 4 (some .int) ∈ wsL_law := wr_34 (List.mem_of_getElem? (i := 15) rfl)
theorem wd_808 : Cond.methodLink RL 102 yX10_trader ∈ wsL_law := wr_34 (List.mem_of_getElem? (i := 16) rfl)
theorem wd_809 : Cond.instanceMethod yX10_trader ∈ wsL_law := wr_34 (List.mem_of_getElem? (i := 17) rfl)
theorem wd_810 : Cond.selects RX10 yX10_trader yX10_trader ∈ wsL_law := wr_34 (List.mem_of_getElem? (i := 18) rfl)
theorem wd_811 : Cond.code yX10_trader cX10_trader 5 (some .int) ∈ wsL_law := wr_34 (List.mem_of_getElem? (i := 19) rfl)
theorem wd_812 : Cond.fieldLink RX10 288 "NoteCounter$Trader" "town" "I" ∈ wsL_law := wr_34 (List.mem_of_getElem? (i := 20) rfl)
theorem wd_813 : Cond.fieldLink RX10 289 "NoteCounter$Trader" "takes" "I" ∈ wsL_law := wr_34 (List.mem_of_getElem? (i := 21) rfl)
theorem wd_814 : Cond.methodLink RL 105 yX11_trader ∈ wsL_law := wr_34 (List.mem_of_getElem? (i := 22) rfl)
theorem wd_815 : Cond.instanceMethod yX11_trader ∈ wsL_law := wr_34 (List.mem_of_getElem? (i := 23) rfl)
theorem wd_816 : Cond.selects RX11 yX11_trader yX11_trader ∈ wsL_law := wr_35 (List.mem_of_getElem? (i := 0) rfl)
theorem wd_817 : Cond.code yX11_trader cX11_trader 4 (some .int) ∈ wsL_law := wr_35 (List.mem_of_getElem? (i := 1) rfl)
theorem wd_818 : Cond.methodLink RL 106 yX10_pay ∈ wsL_law := wr_35 (List.mem_of_getElem? (i := 2) rfl)
theorem wd_819 : Cond.instanceMethod yX10_pay ∈ wsL_law := wr_35 (List.mem_of_getElem? (i := 3) rfl)
theorem wd_820 : Cond.selects RX10 yX10_pay yX10_pay ∈ wsL_law := wr_35 (List.mem_of_getElem? (i := 4) rfl)
theorem wd_821 : Cond.code yX10_pay cX10_pay 9 (some .int) ∈ wsL_law := wr_35 (List.mem_of_getElem? (i := 5) rfl)
theorem wd_822 : Cond.fieldLink RX10 299 "NoteCounter$Note" "number" "I" ∈ wsL_law := wr_35 (List.mem_of_getElem? (i := 6) rfl)
theorem wd_823 : Cond.methodLink RX10 292 yX10_offerNotes ∈ wsL_law := wr_35 (List.mem_of_getElem? (i := 7) rfl)
theorem wd_824 : Cond.instanceMethod yX10_offerNotes ∈ wsL_law := wr_35 (List.mem_of_getElem? (i := 8) rfl)
theorem wd_825 : Cond.selects RX10 yX10_offerNotes yX10_offerNotes ∈ wsL_law := wr_35 (List.mem_of_getElem? (i := 9) rfl)
theorem wd_826 : Cond.code yX10_offerNotes cX10_offerNotes 6 none ∈ wsL_law := wr_35 (List.mem_of_getElem? (i := 10) rfl)
theorem wd_827 : Cond.methodLink RX10 384 yX4_isFullOfHands ∈ wsL_law := wr_35 (List.mem_of_getElem? (i := 11) rfl)
theorem wd_828 : Cond.instanceMethod yX4_isFullOfHands ∈ wsL_law := wr_35 (List.mem_of_getElem? (i := 12) rfl)
theorem wd_829 : Cond.selects RX4 yX4_isFullOfHands yX4_isFullOfHands ∈ wsL_law := wr_35 (List.mem_of_getElem? (i := 13) rfl)
theorem wd_830 : Cond.code yX4_isFullOfHands cX4_isFullOfHands 1 (some .boolean) ∈ wsL_law := wr_35 (List.mem_of_getElem? (i := 14) rfl)
theorem wd_831 : Cond.methodLink RX10 296 yX10_worstOffer ∈ wsL_law := wr_35 (List.mem_of_getElem? (i := 15) rfl)
theorem wd_832 : Cond.instanceMethod yX10_worstOffer ∈ wsL_law := wr_35 (List.mem_of_getElem? (i := 16) rfl)
theorem wd_833 : Cond.selects RX10 yX10_worstOffer yX10_worstOffer ∈ wsL_law := wr_35 (List.mem_of_getElem? (i := 17) rfl)
theorem wd_834 : Cond.code yX10_worstOffer cX10_worstOffer 4 (some .int) ∈ wsL_law := wr_35 (List.mem_of_getElem? (i := 18) rfl)
theorem wd_835 : Cond.methodLink RL 109 yX11_pay ∈ wsL_law := wr_35 (List.mem_of_getElem? (i := 19) rfl)
theorem wd_836 : Cond.instanceMethod yX11_pay ∈ wsL_law := wr_35 (List.mem_of_getElem? (i := 20) rfl)
theorem wd_837 : Cond.selects RX11 yX11_pay yX11_pay ∈ wsL_law := wr_35 (List.mem_of_getElem? (i := 21) rfl)
theorem wd_838 : Cond.code yX11_pay cX11_pay 9 (some .int) ∈ wsL_law := wr_35 (List.mem_of_getElem? (i := 22) rfl)
theorem wd_839 : Cond.constantLong RX11 294 (999) ∈ wsL_law := wr_35 (List.mem_of_getElem? (i := 23) rfl)
theorem wd_840 : Cond.methodLink RX11 296 yX11_inHundred ∈ wsL_law := wr_36 (List.mem_of_getElem? (i := 0) rfl)
theorem wd_841 : Cond.instanceMethod yX11_inHundred ∈ wsL_law := wr_36 (List.mem_of_getElem? (i := 1) rfl)
theorem wd_842 : Cond.selects RX11 yX11_inHundred yX11_inHundred ∈ wsL_law := wr_36 (List.mem_of_getElem? (i := 2) rfl)
theorem wd_843 : Cond.code yX11_inHundred cX11_inHundred 3 (some .int) ∈ wsL_law := wr_36 (List.mem_of_getElem? (i := 3) rfl)
theorem wd_844 : Cond.methodLink RL 110 yX10_bears ∈ wsL_law := wr_36 (List.mem_of_getElem? (i := 4) rfl)
theorem wd_845 : Cond.instanceMethod yX10_bears ∈ wsL_law := wr_36 (List.mem_of_getElem? (i := 5) rfl)
theorem wd_846 : Cond.selects RX10 yX10_bears yX10_bears ∈ wsL_law := wr_36 (List.mem_of_getElem? (i := 6) rfl)
theorem wd_847 : Cond.code yX10_bears cX10_bears 4 (some .int) ∈ wsL_law := wr_36 (List.mem_of_getElem? (i := 7) rfl)
theorem wd_848 : Cond.constant RX10 302 (-1000002) ∈ wsL_law := wr_36 (List.mem_of_getElem? (i := 8) rfl)
theorem wd_849 : Cond.methodLink RX10 303 yX4_bearer ∈ wsL_law := wr_36 (List.mem_of_getElem? (i := 9) rfl)
theorem wd_850 : Cond.instanceMethod yX4_bearer ∈ wsL_law := wr_36 (List.mem_of_getElem? (i := 10) rfl)
theorem wd_851 : Cond.selects RX4 yX4_bearer yX4_bearer ∈ wsL_law := wr_36 (List.mem_of_getElem? (i := 11) rfl)
theorem wd_852 : Cond.code yX4_bearer cX4_bearer 5 (some .int) ∈ wsL_law := wr_36 (List.mem_of_getElem? (i := 12) rfl)
theorem wd_853 : Cond.methodLink RX4 54 yX4_handWeek ∈ wsL_law := wr_36 (List.mem_of_getElem? (i := 13) rfl)
theorem wd_854 : Cond.methodLink RX4 58 yX4_handTrader ∈ wsL_law := wr_36 (List.mem_of_getElem? (i := 14) rfl)
theorem wd_855 : Cond.methodLink RL 113 yX11_bears ∈ wsL_law := wr_36 (List.mem_of_getElem? (i := 15) rfl)
theorem wd_856 : Cond.instanceMethod yX11_bears ∈ wsL_law := wr_36 (List.mem_of_getElem? (i := 16) rfl)
theorem wd_857 : Cond.selects RX11 yX11_bears yX11_bears ∈ wsL_law := wr_36 (List.mem_of_getElem? (i := 17) rfl)
theorem wd_858 : Cond.code yX11_bears cX11_bears 4 (some .int) ∈ wsL_law := wr_36 (List.mem_of_getElem? (i := 18) rfl)
theorem wd_859 : Cond.constant RX11 299 (-1000002) ∈ wsL_law := wr_36 (List.mem_of_getElem? (i := 19) rfl)
theorem wd_860 : Cond.methodLink RL 114 yX10_home ∈ wsL_law := wr_36 (List.mem_of_getElem? (i := 20) rfl)
theorem wd_861 : Cond.instanceMethod yX10_home ∈ wsL_law := wr_36 (List.mem_of_getElem? (i := 21) rfl)
theorem wd_862 : Cond.selects RX10 yX10_home yX10_home ∈ wsL_law := wr_36 (List.mem_of_getElem? (i := 22) rfl)
theorem wd_863 : Cond.code yX10_home cX10_home 4 (some .int) ∈ wsL_law := wr_36 (List.mem_of_getElem? (i := 23) rfl)
theorem wd_864 : Cond.methodLink RX10 306 yX0_payOut ∈ wsL_law := wr_37 (List.mem_of_getElem? (i := 0) rfl)
theorem wd_865 : Cond.instanceMethod yX0_payOut ∈ wsL_law := wr_37 (List.mem_of_getElem? (i := 1) rfl)
theorem wd_866 : Cond.selects RX0 yX0_payOut yX0_payOut ∈ wsL_law := wr_37 (List.mem_of_getElem? (i := 2) rfl)
theorem wd_867 : Cond.code yX0_payOut cX0_payOut 2 (some .int) ∈ wsL_law := wr_37 (List.mem_of_getElem? (i := 3) rfl)
theorem wd_868 : Cond.methodLink RL 117 yX11_home ∈ wsL_law := wr_37 (List.mem_of_getElem? (i := 4) rfl)
theorem wd_869 : Cond.instanceMethod yX11_home ∈ wsL_law := wr_37 (List.mem_of_getElem? (i := 5) rfl)
theorem wd_870 : Cond.selects RX11 yX11_home yX11_home ∈ wsL_law := wr_37 (List.mem_of_getElem? (i := 6) rfl)
theorem wd_871 : Cond.code yX11_home cX11_home 3 (some .int) ∈ wsL_law := wr_37 (List.mem_of_getElem? (i := 7) rfl)
theorem wd_872 : Cond.methodLink RL 118 yX10_cut ∈ wsL_law := wr_37 (List.mem_of_getElem? (i := 8) rfl)
theorem wd_873 : Cond.instanceMethod yX10_cut ∈ wsL_law := wr_37 (List.mem_of_getElem? (i := 9) rfl)
theorem wd_874 : Cond.selects RX10 yX10_cut yX10_cut ∈ wsL_law := wr_37 (List.mem_of_getElem? (i := 10) rfl)
theorem wd_875 : Cond.code yX10_cut cX10_cut 4 (some .int) ∈ wsL_law := wr_37 (List.mem_of_getElem? (i := 11) rfl)
theorem wd_876 : Cond.fieldLink RX10 309 "NoteCounter$Note" "wasCut" "Z" ∈ wsL_law := wr_37 (List.mem_of_getElem? (i := 12) rfl)
theorem wd_877 : Cond.methodLink RX10 312 yX4_halve ∈ wsL_law := wr_37 (List.mem_of_getElem? (i := 13) rfl)
theorem wd_878 : Cond.instanceMethod yX4_halve ∈ wsL_law := wr_37 (List.mem_of_getElem? (i := 14) rfl)
theorem wd_879 : Cond.selects RX4 yX4_halve yX4_halve ∈ wsL_law := wr_37 (List.mem_of_getElem? (i := 15) rfl)
theorem wd_880 : Cond.code yX4_halve cX4_halve 2 none ∈ wsL_law := wr_37 (List.mem_of_getElem? (i := 16) rfl)
theorem wd_881 : Cond.methodLink RL 121 yX11_cut ∈ wsL_law := wr_37 (List.mem_of_getElem? (i := 17) rfl)
theorem wd_882 : Cond.instanceMethod yX11_cut ∈ wsL_law := wr_37 (List.mem_of_getElem? (i := 18) rfl)
theorem wd_883 : Cond.selects RX11 yX11_cut yX11_cut ∈ wsL_law := wr_37 (List.mem_of_getElem? (i := 19) rfl)
theorem wd_884 : Cond.code yX11_cut cX11_cut 3 (some .int) ∈ wsL_law := wr_37 (List.mem_of_getElem? (i := 20) rfl)
theorem wd_885 : Cond.methodLink RL 122 yX10_half ∈ wsL_law := wr_37 (List.mem_of_getElem? (i := 21) rfl)
theorem wd_886 : Cond.instanceMethod yX10_half ∈ wsL_law := wr_37 (List.mem_of_getElem? (i := 22) rfl)
theorem wd_887 : Cond.selects RX10 yX10_half yX10_half ∈ wsL_law := wr_37 (List.mem_of_getElem? (i := 23) rfl)
theorem wd_888 : Cond.code yX10_half cX10_half 5 (some .int) ∈ wsL_law := wr_38 (List.mem_of_getElem? (i := 0) rfl)
theorem wd_889 : Cond.methodLink RX10 317 yX4_halfHolder ∈ wsL_law := wr_38 (List.mem_of_getElem? (i := 1) rfl)
theorem wd_890 : Cond.instanceMethod yX4_halfHolder ∈ wsL_law := wr_38 (List.mem_of_getElem? (i := 2) rfl)
theorem wd_891 : Cond.selects RX4 yX4_halfHolder yX4_halfHolder ∈ wsL_law := wr_38 (List.mem_of_getElem? (i := 3) rfl)
theorem wd_892 : Cond.code yX4_halfHolder cX4_halfHolder 2 (some .int) ∈ wsL_law := wr_38 (List.mem_of_getElem? (i := 4) rfl)
theorem wd_893 : Cond.methodLink RX10 320 yX4_moveHalf ∈ wsL_law := wr_38 (List.mem_of_getElem? (i := 5) rfl)
theorem wd_894 : Cond.instanceMethod yX4_moveHalf ∈ wsL_law := wr_38 (List.mem_of_getElem? (i := 6) rfl)
theorem wd_895 : Cond.selects RX4 yX4_moveHalf yX4_moveHalf ∈ wsL_law := wr_38 (List.mem_of_getElem? (i := 7) rfl)
theorem wd_896 : Cond.code yX4_moveHalf cX4_moveHalf 4 none ∈ wsL_law := wr_38 (List.mem_of_getElem? (i := 8) rfl)
theorem wd_897 : Cond.methodLink RX4 61 yX4_handOn ∈ wsL_law := wr_38 (List.mem_of_getElem? (i := 9) rfl)
theorem wd_898 : Cond.methodLink RX10 323 yX4_wouldBePaid ∈ wsL_law := wr_38 (List.mem_of_getElem? (i := 10) rfl)
theorem wd_899 : Cond.instanceMethod yX4_wouldBePaid ∈ wsL_law := wr_38 (List.mem_of_getElem? (i := 11) rfl)
theorem wd_900 : Cond.selects RX4 yX4_wouldBePaid yX4_wouldBePaid ∈ wsL_law := wr_38 (List.mem_of_getElem? (i := 12) rfl)
theorem wd_901 : Cond.code yX4_wouldBePaid cX4_wouldBePaid 1 (some .int) ∈ wsL_law := wr_38 (List.mem_of_getElem? (i := 13) rfl)
theorem wd_902 : Cond.methodLink RL 125 yX11_half ∈ wsL_law := wr_38 (List.mem_of_getElem? (i := 14) rfl)
theorem wd_903 : Cond.instanceMethod yX11_half ∈ wsL_law := wr_38 (List.mem_of_getElem? (i := 15) rfl)
theorem wd_904 : Cond.selects RX11 yX11_half yX11_half ∈ wsL_law := wr_38 (List.mem_of_getElem? (i := 16) rfl)
theorem wd_905 : Cond.code yX11_half cX11_half 5 (some .int) ∈ wsL_law := wr_38 (List.mem_of_getElem? (i := 17) rfl)
theorem wd_906 : Cond.methodLink RL 126 yX10_rates ∈ wsL_law := wr_38 (List.mem_of_getElem? (i := 18) rfl)
theorem wd_907 : Cond.instanceMethod yX10_rates ∈ wsL_law := wr_38 (List.mem_of_getElem? (i := 19) rfl)
theorem wd_908 : Cond.selects RX10 yX10_rates yX10_rates ∈ wsL_law := wr_38 (List.mem_of_getElem? (i := 20) rfl)
theorem wd_909 : Cond.code yX10_rates cX10_rates 6 (some .int) ∈ wsL_law := wr_38 (List.mem_of_getElem? (i := 21) rfl)
theorem wd_910 : Cond.methodLink RL 129 yX11_rates ∈ wsL_law := wr_38 (List.mem_of_getElem? (i := 22) rfl)
theorem wd_911 : Cond.instanceMethod yX11_rates ∈ wsL_law := wr_38 (List.mem_of_getElem? (i := 23) rfl)
theorem wd_912 : Cond.selects RX11 yX11_rates yX11_rates ∈ wsL_law := wr_39 (List.mem_of_getElem? (i := 0) rfl)
theorem wd_913 : Cond.code yX11_rates cX11_rates 6 (some .int) ∈ wsL_law := wr_39 (List.mem_of_getElem? (i := 1) rfl)
theorem wd_914 : Cond.methodLink RX11 300 yX11_lookItems ∈ wsL_law := wr_39 (List.mem_of_getElem? (i := 2) rfl)
theorem wd_915 : Cond.instanceMethod yX11_lookItems ∈ wsL_law := wr_39 (List.mem_of_getElem? (i := 3) rfl)
theorem wd_916 : Cond.selects RX11 yX11_lookItems yX11_lookItems ∈ wsL_law := wr_39 (List.mem_of_getElem? (i := 4) rfl)
theorem wd_917 : Cond.code yX11_lookItems cX11_lookItems 4 (some .int) ∈ wsL_law := wr_39 (List.mem_of_getElem? (i := 5) rfl)
theorem wd_918 : Cond.methodLink RL 130 yX10_way ∈ wsL_law := wr_39 (List.mem_of_getElem? (i := 6) rfl)
theorem wd_919 : Cond.instanceMethod yX10_way ∈ wsL_law := wr_39 (List.mem_of_getElem? (i := 7) rfl)
theorem wd_920 : Cond.selects RX10 yX10_way yX10_way ∈ wsL_law := wr_39 (List.mem_of_getElem? (i := 8) rfl)
theorem wd_921 : Cond.code yX10_way cX10_way 9 (some .int) ∈ wsL_law := wr_39 (List.mem_of_getElem? (i := 9) rfl)
theorem wd_922 : Cond.fieldLink RX10 338 "NoteCounter$Drover" "most" "I" ∈ wsL_law := wr_39 (List.mem_of_getElem? (i := 10) rfl)
theorem wd_923 : Cond.fieldLink RX10 341 "NoteCounter$Drover" "first" "I" ∈ wsL_law := wr_39 (List.mem_of_getElem? (i := 11) rfl)
theorem wd_924 : Cond.methodLink RX10 326 yX10_areDifferentNotes ∈ wsL_law := wr_39 (List.mem_of_getElem? (i := 12) rfl)
theorem wd_925 : Cond.instanceMethod yX10_areDifferentNotes ∈ wsL_law := wr_39 (List.mem_of_getElem? (i := 13) rfl)
theorem wd_926 : Cond.selects RX10 yX10_areDifferentNotes yX10_areDifferentNotes ∈ wsL_law := wr_39 (List.mem_of_getElem? (i := 14) rfl)
theorem wd_927 : Cond.code yX10_areDifferentNotes cX10_areDifferentNotes 7 (some .boolean) ∈ wsL_law := wr_39 (List.mem_of_getElem? (i := 15) rfl)
theorem wd_928 : Cond.methodLink RX10 330 yX10_tellDrover ∈ wsL_law := wr_39 (List.mem_of_getElem? (i := 16) rfl)
theorem wd_929 : Cond.instanceMethod yX10_tellDrover ∈ wsL_law := wr_39 (List.mem_of_getElem? (i := 17) rfl)
theorem wd_930 : Cond.selects RX10 yX10_tellDrover yX10_tellDrover ∈ wsL_law := wr_39 (List.mem_of_getElem? (i := 18) rfl)
theorem wd_931 : Cond.code yX10_tellDrover cX10_tellDrover 4 none ∈ wsL_law := wr_39 (List.mem_of_getElem? (i := 19) rfl)
theorem wd_932 : Cond.methodLink RX10 387 yX3_tellGain ∈ wsL_law := wr_39 (List.mem_of_getElem? (i := 20) rfl)
theorem wd_933 : Cond.instanceMethod yX3_tellGain ∈ wsL_law := wr_39 (List.mem_of_getElem? (i := 21) rfl)
theorem wd_934 : Cond.selects RX3 yX3_tellGain yX3_tellGain ∈ wsL_law := wr_39 (List.mem_of_getElem? (i := 22) rfl)
theorem wd_935 : Cond.code yX3_tellGain cX3_tellGain 4 none ∈ wsL_law := wr_39 (List.mem_of_getElem? (i := 23) rfl)
theorem wd_936 : Cond.methodLink RX10 334 yX3_plan ∈ wsL_law := wr_40 (List.mem_of_getElem? (i := 0) rfl)
theorem wd_937 : Cond.instanceMethod yX3_plan ∈ wsL_law := wr_40 (List.mem_of_getElem? (i := 1) rfl)
theorem wd_938 : Cond.selects RX3 yX3_plan yX3_plan ∈ wsL_law := wr_40 (List.mem_of_getElem? (i := 2) rfl)
theorem wd_939 : Cond.code yX3_plan cX3_plan 6 none ∈ wsL_law := wr_40 (List.mem_of_getElem? (i := 3) rfl)
theorem wd_940 : Cond.methodLink RX3 34 Lib.Math.min.name ∈ wsL_law := wr_40 (List.mem_of_getElem? (i := 4) rfl)
theorem wd_941 : Cond.methodLink RX3 40 yX3_endTheWay ∈ wsL_law := wr_40 (List.mem_of_getElem? (i := 5) rfl)
theorem wd_942 : Cond.instanceMethod yX3_endTheWay ∈ wsL_law := wr_40 (List.mem_of_getElem? (i := 6) rfl)
theorem wd_943 : Cond.selects RX3 yX3_endTheWay yX3_endTheWay ∈ wsL_law := wr_40 (List.mem_of_getElem? (i := 7) rfl)
theorem wd_944 : Cond.code yX3_endTheWay cX3_endTheWay 3 none ∈ wsL_law := wr_40 (List.mem_of_getElem? (i := 8) rfl)
theorem wd_945 : Cond.methodLink RX3 43 yX3_planMornings ∈ wsL_law := wr_40 (List.mem_of_getElem? (i := 9) rfl)
theorem wd_946 : Cond.instanceMethod yX3_planMornings ∈ wsL_law := wr_40 (List.mem_of_getElem? (i := 10) rfl)
theorem wd_947 : Cond.selects RX3 yX3_planMornings yX3_planMornings ∈ wsL_law := wr_40 (List.mem_of_getElem? (i := 11) rfl)
theorem wd_948 : Cond.code yX3_planMornings cX3_planMornings 4 none ∈ wsL_law := wr_40 (List.mem_of_getElem? (i := 12) rfl)
theorem wd_949 : Cond.methodLink RX3 55 yJ6_bitCount_0f7a4 ∈ wsL_law := wr_40 (List.mem_of_getElem? (i := 13) rfl)
theorem wd_950 : Cond.static yJ6_bitCount_0f7a4 ∈ wsL_law := wr_40 (List.mem_of_getElem? (i := 14) rfl)
theorem wd_951 : Cond.initialized RJ6 ∈ wsL_law := wr_40 (List.mem_of_getElem? (i := 15) rfl)
theorem wd_952 : Cond.code yJ6_bitCount_0f7a4 cJ6_bitCount_0f7a4 1 (some .int) ∈ wsL_law := wr_40 (List.mem_of_getElem? (i := 16) rfl)
theorem wd_953 : Cond.constant RJ6 265 (1431655765) ∈ wsL_law := wr_40 (List.mem_of_getElem? (i := 17) rfl)
theorem wd_954 : Cond.constant RJ6 266 (858993459) ∈ wsL_law := wr_40 (List.mem_of_getElem? (i := 18) rfl)
theorem wd_955 : Cond.constant RJ6 267 (252645135) ∈ wsL_law := wr_40 (List.mem_of_getElem? (i := 19) rfl)
theorem wd_956 : Cond.methodLink RX3 61 yX3_bestSale ∈ wsL_law := wr_40 (List.mem_of_getElem? (i := 20) rfl)
theorem wd_957 : Cond.instanceMethod yX3_bestSale ∈ wsL_law := wr_40 (List.mem_of_getElem? (i := 21) rfl)
theorem wd_958 : Cond.selects RX3 yX3_bestSale yX3_bestSale ∈ wsL_law := wr_40 (List.mem_of_getElem? (i := 22) rfl)
theorem wd_959 : Cond.code yX3_bestSale cX3_bestSale 7 (some .int) ∈ wsL_law := wr_40 (List.mem_of_getElem? (i := 23) rfl)
theorem wd_960 : Cond.methodLink RX3 64 Lib.Math.max.name ∈ wsL_law := wr_41 (List.mem_of_getElem? (i := 0) rfl)
theorem wd_961 : Cond.methodLink RX3 47 yX3_planEvenings ∈ wsL_law := wr_41 (List.mem_of_getElem? (i := 1) rfl)
theorem wd_962 : Cond.instanceMethod yX3_planEvenings ∈ wsL_law := wr_41 (List.mem_of_getElem? (i := 2) rfl)
theorem wd_963 : Cond.selects RX3 yX3_planEvenings yX3_planEvenings ∈ wsL_law := wr_41 (List.mem_of_getElem? (i := 3) rfl)
theorem wd_964 : Cond.code yX3_planEvenings cX3_planEvenings 5 none ∈ wsL_law := wr_41 (List.mem_of_getElem? (i := 4) rfl)
theorem wd_965 : Cond.methodLink RX3 67 yX3_bestMove ∈ wsL_law := wr_41 (List.mem_of_getElem? (i := 5) rfl)
theorem wd_966 : Cond.instanceMethod yX3_bestMove ∈ wsL_law := wr_41 (List.mem_of_getElem? (i := 6) rfl)
theorem wd_967 : Cond.selects RX3 yX3_bestMove yX3_bestMove ∈ wsL_law := wr_41 (List.mem_of_getElem? (i := 7) rfl)
theorem wd_968 : Cond.code yX3_bestMove cX3_bestMove 6 (some .int) ∈ wsL_law := wr_41 (List.mem_of_getElem? (i := 8) rfl)
theorem wd_969 : Cond.methodLink RX3 71 yX5_milesBetween ∈ wsL_law := wr_41 (List.mem_of_getElem? (i := 9) rfl)
theorem wd_970 : Cond.methodLink RX3 51 yX3_chooseFirst ∈ wsL_law := wr_41 (List.mem_of_getElem? (i := 10) rfl)
theorem wd_971 : Cond.instanceMethod yX3_chooseFirst ∈ wsL_law := wr_41 (List.mem_of_getElem? (i := 11) rfl)
theorem wd_972 : Cond.selects RX3 yX3_chooseFirst yX3_chooseFirst ∈ wsL_law := wr_41 (List.mem_of_getElem? (i := 12) rfl)
theorem wd_973 : Cond.code yX3_chooseFirst cX3_chooseFirst 7 none ∈ wsL_law := wr_41 (List.mem_of_getElem? (i := 13) rfl)
theorem wd_974 : Cond.constant RX3 76 (-1000000) ∈ wsL_law := wr_41 (List.mem_of_getElem? (i := 14) rfl)
theorem wd_975 : Cond.methodLink RX3 77 yX3_keepIfMore ∈ wsL_law := wr_41 (List.mem_of_getElem? (i := 15) rfl)
theorem wd_976 : Cond.instanceMethod yX3_keepIfMore ∈ wsL_law := wr_41 (List.mem_of_getElem? (i := 16) rfl)
theorem wd_977 : Cond.selects RX3 yX3_keepIfMore yX3_keepIfMore ∈ wsL_law := wr_41 (List.mem_of_getElem? (i := 17) rfl)
theorem wd_978 : Cond.code yX3_keepIfMore cX3_keepIfMore 4 none ∈ wsL_law := wr_41 (List.mem_of_getElem? (i := 18) rfl)
theorem wd_979 : Cond.methodLink RL 134 yX11_way ∈ wsL_law := wr_41 (List.mem_of_getElem? (i := 19) rfl)
theorem wd_980 : Cond.instanceMethod yX11_way ∈ wsL_law := wr_41 (List.mem_of_getElem? (i := 20) rfl)
theorem wd_981 : Cond.selects RX11 yX11_way yX11_way ∈ wsL_law := wr_41 (List.mem_of_getElem? (i := 21) rfl)
theorem wd_982 : Cond.code yX11_way cX11_way 15 (some .int) ∈ wsL_law := wr_41 (List.mem_of_getElem? (i := 22) rfl)
theorem wd_983 : Cond.methodLink RX11 306 yX11_mayGo ∈ wsL_law := wr_41 (List.mem_of_getElem? (i := 23) rfl)
theorem wd_984 : Cond.instanceMethod yX11_mayGo ∈ wsL_law := wr_42 (List.mem_of_getElem? (i := 0) rfl)
theorem wd_985 : Cond.selects RX11 yX11_mayGo yX11_mayGo ∈ wsL_law := wr_42 (List.mem_of_getElem? (i := 1) rfl)
theorem wd_986 : Cond.code yX11_mayGo cX11_mayGo 4 (some .boolean) ∈ wsL_law := wr_42 (List.mem_of_getElem? (i := 2) rfl)
theorem wd_987 : Cond.methodLink RX11 310 yX11_goesBy ∈ wsL_law := wr_42 (List.mem_of_getElem? (i := 3) rfl)
theorem wd_988 : Cond.instanceMethod yX11_goesBy ∈ wsL_law := wr_42 (List.mem_of_getElem? (i := 4) rfl)
theorem wd_989 : Cond.selects RX11 yX11_goesBy yX11_goesBy ∈ wsL_law := wr_42 (List.mem_of_getElem? (i := 5) rfl)
theorem wd_990 : Cond.code yX11_goesBy cX11_goesBy 8 (some .int) ∈ wsL_law := wr_42 (List.mem_of_getElem? (i := 6) rfl)
theorem wd_991 : Cond.methodLink RX11 303 yX11_brings ∈ wsL_law := wr_42 (List.mem_of_getElem? (i := 7) rfl)
theorem wd_992 : Cond.instanceMethod yX11_brings ∈ wsL_law := wr_42 (List.mem_of_getElem? (i := 8) rfl)
theorem wd_993 : Cond.selects RX11 yX11_brings yX11_brings ∈ wsL_law := wr_42 (List.mem_of_getElem? (i := 9) rfl)
theorem wd_994 : Cond.code yX11_brings cX11_brings 3 (some .int) ∈ wsL_law := wr_42 (List.mem_of_getElem? (i := 10) rfl)
theorem wd_995 : Cond.methodLink RL 135 yX10_kind ∈ wsL_law := wr_42 (List.mem_of_getElem? (i := 11) rfl)
theorem wd_996 : Cond.instanceMethod yX10_kind ∈ wsL_law := wr_42 (List.mem_of_getElem? (i := 12) rfl)
theorem wd_997 : Cond.selects RX10 yX10_kind yX10_kind ∈ wsL_law := wr_42 (List.mem_of_getElem? (i := 13) rfl)
theorem wd_998 : Cond.code yX10_kind cX10_kind 3 (some .int) ∈ wsL_law := wr_42 (List.mem_of_getElem? (i := 14) rfl)
theorem wd_999 : Cond.methodLink RX10 344 yX10_kindOf ∈ wsL_law := wr_42 (List.mem_of_getElem? (i := 15) rfl)
theorem wd_1000 : Cond.instanceMethod yX10_kindOf ∈ wsL_law := wr_42 (List.mem_of_getElem? (i := 16) rfl)
theorem wd_1001 : Cond.selects RX10 yX10_kindOf yX10_kindOf ∈ wsL_law := wr_42 (List.mem_of_getElem? (i := 17) rfl)
theorem wd_1002 : Cond.code yX10_kindOf cX10_kindOf 3 (some .int) ∈ wsL_law := wr_42 (List.mem_of_getElem? (i := 18) rfl)
theorem wd_1003 : Cond.methodLink RL 138 yX11_kind ∈ wsL_law := wr_42 (List.mem_of_getElem? (i := 19) rfl)
theorem wd_1004 : Cond.instanceMethod yX11_kind ∈ wsL_law := wr_42 (List.mem_of_getElem? (i := 20) rfl)
theorem wd_1005 : Cond.selects RX11 yX11_kind yX11_kind ∈ wsL_law := wr_42 (List.mem_of_getElem? (i := 21) rfl)
theorem wd_1006 : Cond.code yX11_kind cX11_kind 2 (some .int) ∈ wsL_law := wr_42 (List.mem_of_getElem? (i := 22) rfl)
theorem wd_1007 : Cond.methodLink RX11 314 yX11_kindOf ∈ wsL_law := wr_42 (List.mem_of_getElem? (i := 23) rfl)
theorem wd_1008 : Cond.instanceMethod yX11_kindOf ∈ wsL_law := wr_43 (List.mem_of_getElem? (i := 0) rfl)
theorem wd_1009 : Cond.selects RX11 yX11_kindOf yX11_kindOf ∈ wsL_law := wr_43 (List.mem_of_getElem? (i := 1) rfl)
theorem wd_1010 : Cond.code yX11_kindOf cX11_kindOf 2 (some .int) ∈ wsL_law := wr_43 (List.mem_of_getElem? (i := 2) rfl)
theorem wd_1011 : Cond.methodLink RL 139 yX10_as ∈ wsL_law := wr_43 (List.mem_of_getElem? (i := 3) rfl)
theorem wd_1012 : Cond.instanceMethod yX10_as ∈ wsL_law := wr_43 (List.mem_of_getElem? (i := 4) rfl)
theorem wd_1013 : Cond.selects RX10 yX10_as yX10_as ∈ wsL_law := wr_43 (List.mem_of_getElem? (i := 5) rfl)
theorem wd_1014 : Cond.code yX10_as cX10_as 4 (some .int) ∈ wsL_law := wr_43 (List.mem_of_getElem? (i := 6) rfl)
theorem wd_1015 : Cond.methodLink RX10 348 yX10_isOfKind ∈ wsL_law := wr_43 (List.mem_of_getElem? (i := 7) rfl)
theorem wd_1016 : Cond.static yX10_isOfKind ∈ wsL_law := wr_43 (List.mem_of_getElem? (i := 8) rfl)
theorem wd_1017 : Cond.code yX10_isOfKind cX10_isOfKind 2 (some .boolean) ∈ wsL_law := wr_43 (List.mem_of_getElem? (i := 9) rfl)
theorem wd_1018 : Cond.methodLink RL 142 yX11_as ∈ wsL_law := wr_43 (List.mem_of_getElem? (i := 10) rfl)
theorem wd_1019 : Cond.instanceMethod yX11_as ∈ wsL_law := wr_43 (List.mem_of_getElem? (i := 11) rfl)
theorem wd_1020 : Cond.selects RX11 yX11_as yX11_as ∈ wsL_law := wr_43 (List.mem_of_getElem? (i := 12) rfl)
theorem wd_1021 : Cond.code yX11_as cX11_as 3 (some .int) ∈ wsL_law := wr_43 (List.mem_of_getElem? (i := 13) rfl)
theorem wd_1022 : Cond.methodLink RX11 317 yX11_isOf ∈ wsL_law := wr_43 (List.mem_of_getElem? (i := 14) rfl)
theorem wd_1023 : Cond.static yX11_isOf ∈ wsL_law := wr_43 (List.mem_of_getElem? (i := 15) rfl)
theorem wd_1024 : Cond.code yX11_isOf cX11_isOf 2 (some .boolean) ∈ wsL_law := wr_43 (List.mem_of_getElem? (i := 16) rfl)
theorem wd_1025 : Cond.methodLink RL 143 yX10_ask ∈ wsL_law := wr_43 (List.mem_of_getElem? (i := 17) rfl)
theorem wd_1026 : Cond.instanceMethod yX10_ask ∈ wsL_law := wr_43 (List.mem_of_getElem? (i := 18) rfl)
theorem wd_1027 : Cond.selects RX10 yX10_ask yX10_ask ∈ wsL_law := wr_43 (List.mem_of_getElem? (i := 19) rfl)
theorem wd_1028 : Cond.code yX10_ask cX10_ask 5 (some .int) ∈ wsL_law := wr_43 (List.mem_of_getElem? (i := 20) rfl)
theorem wd_1029 : Cond.fieldLink RX10 352 "NoteCounter" "SIZE_BODIES" "[I" ∈ wsL_law := wr_43 (List.mem_of_getElem? (i := 21) rfl)
theorem wd_1030 : Cond.fieldLink RX10 355 "NoteCounter" "MARK_BODIES" "[I" ∈ wsL_law := wr_43 (List.mem_of_getElem? (i := 22) rfl)
theorem wd_1031 : Cond.methodLink RX10 351 yX8_empty ∈ wsL_law := wr_43 (List.mem_of_getElem? (i := 23) rfl)
theorem wd_1032 : Cond.instanceMethod yX8_empty ∈ wsL_law := wr_44 (List.mem_of_getElem? (i := 0) rfl)
theorem wd_1033 : Cond.selects RX8 yX8_empty yX8_empty ∈ wsL_law := wr_44 (List.mem_of_getElem? (i := 1) rfl)
theorem wd_1034 : Cond.code yX8_empty cX8_empty 1 none ∈ wsL_law := wr_44 (List.mem_of_getElem? (i := 2) rfl)
theorem wd_1035 : Cond.methodLink RX10 358 yX10_giveBody ∈ wsL_law := wr_44 (List.mem_of_getElem? (i := 3) rfl)
theorem wd_1036 : Cond.static yX10_giveBody ∈ wsL_law := wr_44 (List.mem_of_getElem? (i := 4) rfl)
theorem wd_1037 : Cond.code yX10_giveBody cX10_giveBody 6 (some .int) ∈ wsL_law := wr_44 (List.mem_of_getElem? (i := 5) rfl)
theorem wd_1038 : Cond.methodLink RX10 390 yX8_leave ∈ wsL_law := wr_44 (List.mem_of_getElem? (i := 6) rfl)
theorem wd_1039 : Cond.instanceMethod yX8_leave ∈ wsL_law := wr_44 (List.mem_of_getElem? (i := 7) rfl)
theorem wd_1040 : Cond.selects RX8 yX8_leave yX8_leave ∈ wsL_law := wr_44 (List.mem_of_getElem? (i := 8) rfl)
theorem wd_1041 : Cond.code yX8_leave cX8_leave 3 none ∈ wsL_law := wr_44 (List.mem_of_getElem? (i := 9) rfl)
theorem wd_1042 : Cond.methodLink RX10 367 yJ6_bitCount_0f7a4 ∈ wsL_law := wr_44 (List.mem_of_getElem? (i := 10) rfl)
theorem wd_1043 : Cond.methodLink RL 146 yX11_ask ∈ wsL_law := wr_44 (List.mem_of_getElem? (i := 11) rfl)
theorem wd_1044 : Cond.instanceMethod yX11_ask ∈ wsL_law := wr_44 (List.mem_of_getElem? (i := 12) rfl)
theorem wd_1045 : Cond.selects RX11 yX11_ask yX11_ask ∈ wsL_law := wr_44 (List.mem_of_getElem? (i := 13) rfl)
theorem wd_1046 : Cond.code yX11_ask cX11_ask 3 (some .int) ∈ wsL_law := wr_44 (List.mem_of_getElem? (i := 14) rfl)
theorem wd_1047 : Cond.fieldLink RX11 321 "NoteCounterModel" "traced" "I" ∈ wsL_law := wr_44 (List.mem_of_getElem? (i := 15) rfl)
theorem wd_1048 : Cond.methodLink RX11 333 yX11_sizeOf ∈ wsL_law := wr_44 (List.mem_of_getElem? (i := 16) rfl)
theorem wd_1049 : Cond.instanceMethod yX11_sizeOf ∈ wsL_law := wr_44 (List.mem_of_getElem? (i := 17) rfl)
theorem wd_1050 : Cond.selects RX11 yX11_sizeOf yX11_sizeOf ∈ wsL_law := wr_44 (List.mem_of_getElem? (i := 18) rfl)
theorem wd_1051 : Cond.code yX11_sizeOf cX11_sizeOf 4 (some .int) ∈ wsL_law := wr_44 (List.mem_of_getElem? (i := 19) rfl)
theorem wd_1052 : Cond.methodLink RX11 324 yX11_began ∈ wsL_law := wr_44 (List.mem_of_getElem? (i := 20) rfl)
theorem wd_1053 : Cond.instanceMethod yX11_began ∈ wsL_law := wr_44 (List.mem_of_getElem? (i := 21) rfl)
theorem wd_1054 : Cond.selects RX11 yX11_began yX11_began ∈ wsL_law := wr_44 (List.mem_of_getElem? (i := 22) rfl)
theorem wd_1055 : Cond.code yX11_began cX11_began 2 none ∈ wsL_law := wr_44 (List.mem_of_getElem? (i := 23) rfl)
theorem wd_1056 : Cond.methodLink RX11 327 yX11_markOf ∈ wsL_law := wr_45 (List.mem_of_getElem? (i := 0) rfl)
theorem wd_1057 : Cond.instanceMethod yX11_markOf ∈ wsL_law := wr_45 (List.mem_of_getElem? (i := 1) rfl)
theorem wd_1058 : Cond.selects RX11 yX11_markOf yX11_markOf ∈ wsL_law := wr_45 (List.mem_of_getElem? (i := 2) rfl)
theorem wd_1059 : Cond.code yX11_markOf cX11_markOf 3 (some .int) ∈ wsL_law := wr_45 (List.mem_of_getElem? (i := 3) rfl)
theorem wd_1060 : Cond.methodLink RX11 330 yX11_bits ∈ wsL_law := wr_45 (List.mem_of_getElem? (i := 4) rfl)
theorem wd_1061 : Cond.static yX11_bits ∈ wsL_law := wr_45 (List.mem_of_getElem? (i := 5) rfl)
theorem wd_1062 : Cond.code yX11_bits cX11_bits 3 (some .int) ∈ wsL_law := wr_45 (List.mem_of_getElem? (i := 6) rfl)
theorem wd_1063 : Cond.methodLink RL 147 yX10_trace ∈ wsL_law := wr_45 (List.mem_of_getElem? (i := 7) rfl)
theorem wd_1064 : Cond.instanceMethod yX10_trace ∈ wsL_law := wr_45 (List.mem_of_getElem? (i := 8) rfl)
theorem wd_1065 : Cond.selects RX10 yX10_trace yX10_trace ∈ wsL_law := wr_45 (List.mem_of_getElem? (i := 9) rfl)
theorem wd_1066 : Cond.code yX10_trace cX10_trace 2 (some .int) ∈ wsL_law := wr_45 (List.mem_of_getElem? (i := 10) rfl)
theorem wd_1067 : Cond.methodLink RX10 362 yX8_number ∈ wsL_law := wr_45 (List.mem_of_getElem? (i := 11) rfl)
theorem wd_1068 : Cond.instanceMethod yX8_number ∈ wsL_law := wr_45 (List.mem_of_getElem? (i := 12) rfl)
theorem wd_1069 : Cond.selects RX8 yX8_number yX8_number ∈ wsL_law := wr_45 (List.mem_of_getElem? (i := 13) rfl)
theorem wd_1070 : Cond.code yX8_number cX8_number 2 (some .int) ∈ wsL_law := wr_45 (List.mem_of_getElem? (i := 14) rfl)
theorem wd_1071 : Cond.constant RX8 19 (-1000000) ∈ wsL_law := wr_45 (List.mem_of_getElem? (i := 15) rfl)
theorem wd_1072 : Cond.methodLink RL 150 yX11_trace ∈ wsL_law := wr_45 (List.mem_of_getElem? (i := 16) rfl)
theorem wd_1073 : Cond.instanceMethod yX11_trace ∈ wsL_law := wr_45 (List.mem_of_getElem? (i := 17) rfl)
theorem wd_1074 : Cond.selects RX11 yX11_trace yX11_trace ∈ wsL_law := wr_45 (List.mem_of_getElem? (i := 18) rfl)
theorem wd_1075 : Cond.code yX11_trace cX11_trace 2 (some .int) ∈ wsL_law := wr_45 (List.mem_of_getElem? (i := 19) rfl)
theorem wd_1076 : Cond.methodLink RL 151 yX10_count ∈ wsL_law := wr_45 (List.mem_of_getElem? (i := 20) rfl)
theorem wd_1077 : Cond.instanceMethod yX10_count ∈ wsL_law := wr_45 (List.mem_of_getElem? (i := 21) rfl)
theorem wd_1078 : Cond.selects RX10 yX10_count yX10_count ∈ wsL_law := wr_45 (List.mem_of_getElem? (i := 22) rfl)
theorem wd_1079 : Cond.code yX10_count cX10_count 2 (some .int) ∈ wsL_law := wr_45 (List.mem_of_getElem? (i := 23) rfl)
theorem wd_1080 : Cond.methodLink RX10 364 yX10_sheetsThere ∈ wsL_law := wr_46 (List.mem_of_getElem? (i := 0) rfl)
theorem wd_1081 : Cond.instanceMethod yX10_sheetsThere ∈ wsL_law := wr_46 (List.mem_of_getElem? (i := 1) rfl)
theorem wd_1082 : Cond.selects RX10 yX10_sheetsThere yX10_sheetsThere ∈ wsL_law := wr_46 (List.mem_of_getElem? (i := 2) rfl)
theorem wd_1083 : Cond.code yX10_sheetsThere cX10_sheetsThere 4 (some .int) ∈ wsL_law := wr_46 (List.mem_of_getElem? (i := 3) rfl)
theorem wd_1084 : Cond.methodLink RX10 372 yX10_notesThatAre ∈ wsL_law := wr_46 (List.mem_of_getElem? (i := 4) rfl)
theorem wd_1085 : Cond.instanceMethod yX10_notesThatAre ∈ wsL_law := wr_46 (List.mem_of_getElem? (i := 5) rfl)
theorem wd_1086 : Cond.selects RX10 yX10_notesThatAre yX10_notesThatAre ∈ wsL_law := wr_46 (List.mem_of_getElem? (i := 6) rfl)
theorem wd_1087 : Cond.code yX10_notesThatAre cX10_notesThatAre 5 (some .int) ∈ wsL_law := wr_46 (List.mem_of_getElem? (i := 7) rfl)
theorem wd_1088 : Cond.methodLink RL 154 yX11_count ∈ wsL_law := wr_46 (List.mem_of_getElem? (i := 8) rfl)
theorem wd_1089 : Cond.instanceMethod yX11_count ∈ wsL_law := wr_46 (List.mem_of_getElem? (i := 9) rfl)
theorem wd_1090 : Cond.selects RX11 yX11_count yX11_count ∈ wsL_law := wr_46 (List.mem_of_getElem? (i := 10) rfl)
theorem wd_1091 : Cond.code yX11_count cX11_count 4 (some .int) ∈ wsL_law := wr_46 (List.mem_of_getElem? (i := 11) rfl)
theorem wd_1092 : Cond.methodLink RL 155 yX10_status ∈ wsL_law := wr_46 (List.mem_of_getElem? (i := 12) rfl)
theorem wd_1093 : Cond.instanceMethod yX10_status ∈ wsL_law := wr_46 (List.mem_of_getElem? (i := 13) rfl)
theorem wd_1094 : Cond.selects RX10 yX10_status yX10_status ∈ wsL_law := wr_46 (List.mem_of_getElem? (i := 14) rfl)
theorem wd_1095 : Cond.code yX10_status cX10_status 1 (some .int) ∈ wsL_law := wr_46 (List.mem_of_getElem? (i := 15) rfl)
theorem wd_1096 : Cond.methodLink RL 158 yX11_status ∈ wsL_law := wr_46 (List.mem_of_getElem? (i := 16) rfl)
theorem wd_1097 : Cond.instanceMethod yX11_status ∈ wsL_law := wr_46 (List.mem_of_getElem? (i := 17) rfl)
theorem wd_1098 : Cond.selects RX11 yX11_status yX11_status ∈ wsL_law := wr_46 (List.mem_of_getElem? (i := 18) rfl)
theorem wd_1099 : Cond.code yX11_status cX11_status 1 (some .int) ∈ wsL_law := wr_46 (List.mem_of_getElem? (i := 19) rfl)
theorem xc0 (g : xG) (i : Nat) : ∀ r, xc g 0 i r = .inr (10, xf0 g r) := fun _ => rfl
theorem xc2 (g : xG) (i : Nat) : ∀ r, xc g 2 i r = .inr (5, xf2 g r) := fun _ => rfl
theorem xc4 (g : xG) (i : Nat) : ∀ r, xc g 4 i r = .inr (2, xf4 g r) := fun _ => rfl
theorem xc5 (g : xG) (i : Nat) : ∀ r, xc g 5 i r = .inr (7, xf5 g r) := fun _ => rfl
theorem xc6 (g : xG) (i : Nat) : ∀ r, xc g 6 i r = .inr (1, xf6 g r) := fun _ => rfl
theorem xc11 (g : xG) (i : Nat) : ∀ r, xc g 11 i r = .inr (3, xf11 g r) := fun _ => rfl
theorem xc12 (g : xG) (i : Nat) : ∀ r, xc g 12 i r = .inr (8, xf12 g r) := fun _ => rfl
theorem xc24 (g : xG) (i : Nat) : ∀ r, xc g 24 i r = .inr (6, xf24 g i r) := fun _ => rfl
theorem xc26 (g : xG) (i : Nat) : ∀ r, xc g 26 i r = .inr (9, xf26 r) := fun _ => rfl
theorem xc27 (g : xG) (i : Nat) : ∀ r, xc g 27 i r = .inr (0, xf27 g i r) := fun _ => rfl
theorem xc29 (g : xG) (i : Nat) : ∀ r, xc g 29 i r = .inr (4, xf29 g i r) := fun _ => rfl
theorem xc40 (g : xG) (i : Nat) : ∀ r, xc g 40 i r = .inr (11, xf40 g r) := fun _ => rfl
theorem xc9 (g : xG) (i : Nat) : ∀ r, xc g 9 i r = xri g 1 24 r := fun _ => rfl
theorem xc10 (g : xG) (i : Nat) : ∀ r, xc g 10 i r = xri g 1 48 r := fun _ => rfl
theorem xc13 (g : xG) (i : Nat) : ∀ r, xc g 13 i r = xri g 1 36 r := fun _ => rfl
theorem xc14 (g : xG) (i : Nat) : ∀ r, xc g 14 i r = xri g 1 36 r := fun _ => rfl
theorem xc15 (g : xG) (i : Nat) : ∀ r, xc g 15 i r = xri g 1 40 r := fun _ => rfl
theorem xc16 (g : xG) (i : Nat) : ∀ r, xc g 16 i r = xri g 1 40 r := fun _ => rfl
theorem xc17 (g : xG) (i : Nat) : ∀ r, xc g 17 i r = xri g 1 40 r := fun _ => rfl
theorem xc18 (g : xG) (i : Nat) : ∀ r, xc g 18 i r = xri g 1 40 r := fun _ => rfl
theorem xc19 (g : xG) (i : Nat) : ∀ r, xc g 19 i r = xri g 0 400 r := fun _ => rfl
theorem xc20 (g : xG) (i : Nat) : ∀ r, xc g 20 i r = xri g 1 48 r := fun _ => rfl
theorem xc21 (g : xG) (i : Nat) : ∀ r, xc g 21 i r = xri g 1 1536 r := fun _ => rfl
theorem xc22 (g : xG) (i : Nat) : ∀ r, xc g 22 i r = xri g 1 1536 r := fun _ => rfl
theorem xc23 (g : xG) (i : Nat) : ∀ r, xc g 23 i r = xri g 1 16 r := fun _ => rfl
theorem xc25 (g : xG) (i : Nat) : ∀ r, xc g 25 i r = xri g 1 60 r := fun _ => rfl
theorem xc28 (g : xG) (i : Nat) : ∀ r, xc g 28 i r = xri g 1 8 r := fun _ => rfl
theorem xc30 (g : xG) (i : Nat) : ∀ r, xc g 30 i r = xri g 1 12 r := fun _ => rfl
theorem xc31 (g : xG) (i : Nat) : ∀ r, xc g 31 i r = xri g 1 12 r := fun _ => rfl
theorem xc52 (g : xG) (i : Nat) : ∀ r, xc g 52 i r = xri g 1 8 r := fun _ => rfl
theorem xc53 (g : xG) (i : Nat) : ∀ r, xc g 53 i r = xri g 1 8 r := fun _ => rfl
theorem xc54 (g : xG) (i : Nat) : ∀ r, xc g 54 i r = xri g 1 480 r := fun _ => rfl
theorem xc55 (g : xG) (i : Nat) : ∀ r, xc g 55 i r = xri g 1 36 r := fun _ => rfl
theorem xc56 (g : xG) (i : Nat) : ∀ r, xc g 56 i r = xri g 1 6 r := fun _ => rfl
theorem xc58 (g : xG) (i : Nat) : ∀ r, xc g 58 i r = xri g 1 8 r := fun _ => rfl
theorem xc59 (g : xG) (i : Nat) : ∀ r, xc g 59 i r = xri g 1 8 r := fun _ => rfl
theorem xc60 (g : xG) (i : Nat) : ∀ r, xc g 60 i r = xri g 1 8 r := fun _ => rfl
theorem xc61 (g : xG) (i : Nat) : ∀ r, xc g 61 i r = xri g 2 8 r := fun _ => rfl
theorem xc62 (g : xG) (i : Nat) : ∀ r, xc g 62 i r = xri g 1 64 r := fun _ => rfl
theorem xc65 (g : xG) (i : Nat) : ∀ r, xc g 65 i r = xri g 1 40 r := fun _ => rfl
theorem xc66 (g : xG) (i : Nat) : ∀ r, xc g 66 i r = xri g 1 40 r := fun _ => rfl
theorem xc67 (g : xG) (i : Nat) : ∀ r, xc g 67 i r = xri g 1 40 r := fun _ => rfl
theorem xc68 (g : xG) (i : Nat) : ∀ r, xc g 68 i r = xri g 1 40 r := fun _ => rfl
theorem xc70 (g : xG) (i : Nat) : ∀ r, xc g 70 i r = xri g 1 400 r := fun _ => rfl
theorem xc81 (g : xG) (i : Nat) : ∀ r, xc g 81 i r = xri g 1 24 r := fun _ => rfl
theorem xc82 (g : xG) (i : Nat) : ∀ r, xc g 82 i r = xri g 1 24 r := fun _ => rfl
theorem xc83 (g : xG) (i : Nat) : ∀ r, xc g 83 i r = xri g 1 24 r := fun _ => rfl
theorem xc84 (g : xG) (i : Nat) : ∀ r, xc g 84 i r = xri g 1 24 r := fun _ => rfl
theorem xc85 (g : xG) (i : Nat) : ∀ r, xc g 85 i r = xri g 1 24 r := fun _ => rfl
theorem xc86 (g : xG) (i : Nat) : ∀ r, xc g 86 i r = xri g 2 24 r := fun _ => rfl
theorem xc87 (g : xG) (i : Nat) : ∀ r, xc g 87 i r = xri g 2 24 r := fun _ => rfl
theorem xc88 (g : xG) (i : Nat) : ∀ r, xc g 88 i r = xri g 2 24 r := fun _ => rfl
theorem xc89 (g : xG) (i : Nat) : ∀ r, xc g 89 i r = xri g 2 24 r := fun _ => rfl
theorem xc90 (g : xG) (i : Nat) : ∀ r, xc g 90 i r = xri g 1 48 r := fun _ => rfl
theorem xc91 (g : xG) (i : Nat) : ∀ r, xc g 91 i r = xri g 1 24 r := fun _ => rfl
theorem xc92 (g : xG) (i : Nat) : ∀ r, xc g 92 i r = xri g 1 288 r := fun _ => rfl
theorem xc93 (g : xG) (i : Nat) : ∀ r, xc g 93 i r = xri g 1 288 r := fun _ => rfl
theorem xc94 (g : xG) (i : Nat) : ∀ r, xc g 94 i r = xri g 1 8 r := fun _ => rfl
theorem xc95 (g : xG) (i : Nat) : ∀ r, xc g 95 i r = xri g 1 8 r := fun _ => rfl
theorem xc96 (g : xG) (i : Nat) : ∀ r, xc g 96 i r = xri g 1 48 r := fun _ => rfl
theorem xc97 (g : xG) (i : Nat) : ∀ r, xc g 97 i r = xri g 1 10752 r := fun _ => rfl
theorem xc98 (g : xG) (i : Nat) : ∀ r, xc g 98 i r = xri g 1 8 r := fun _ => rfl
theorem xc99 (g : xG) (i : Nat) : ∀ r, xc g 99 i r = xri g 1 16 r := fun _ => rfl
theorem xc1 (g : xG) (i : Nat) : ∀ r, xc g 1 i r = xrq g 5 8 24 r := fun _ => rfl
theorem xc3 (g : xG) (i : Nat) : ∀ r, xc g 3 i r = xrq g 3 8 27 r := fun _ => rfl
theorem xc7 (g : xG) (i : Nat) : ∀ r, xc g 7 i r = xrq g 4 24 29 r := fun _ => rfl
theorem xc8 (g : xG) (i : Nat) : ∀ r, xc g 8 i r = xrq g 6 8 26 r := fun _ => rfl
theorem xe_0 (nb nn : Nat) : xEx nb nn 0 0 := ⟨rfl, by decide⟩
theorem xe_2 (nb nn : Nat) : xEx nb nn 2 0 := ⟨rfl, by decide⟩
theorem xe_4 (nb nn : Nat) : xEx nb nn 4 0 := ⟨rfl, by decide⟩
theorem xe_5 (nb nn : Nat) : xEx nb nn 5 0 := ⟨rfl, by decide⟩
theorem xe_6 (nb nn : Nat) : xEx nb nn 6 0 := ⟨rfl, by decide⟩
theorem xe_11 (nb nn : Nat) : xEx nb nn 11 0 := ⟨rfl, by decide⟩
theorem xe_12 (nb nn : Nat) : xEx nb nn 12 0 := ⟨rfl, by decide⟩
theorem xe_40 (nb nn : Nat) : xEx nb nn 40 0 := ⟨rfl, by decide⟩
theorem xe_9 (nb nn : Nat) : xEx nb nn 9 0 := ⟨rfl, by decide⟩
theorem xe_10 (nb nn : Nat) : xEx nb nn 10 0 := ⟨rfl, by decide⟩
theorem xe_13 (nb nn : Nat) : xEx nb nn 13 0 := ⟨rfl, by decide⟩
theorem xe_14 (nb nn : Nat) : xEx nb nn 14 0 := ⟨rfl, by decide⟩
theorem xe_15 (nb nn : Nat) : xEx nb nn 15 0 := ⟨rfl, by decide⟩
theorem xe_16 (nb nn : Nat) : xEx nb nn 16 0 := ⟨rfl, by decide⟩
theorem xe_17 (nb nn : Nat) : xEx nb nn 17 0 := ⟨rfl, by decide⟩
theorem xe_18 (nb nn : Nat) : xEx nb nn 18 0 := ⟨rfl, by decide⟩
theorem xe_19 (nb nn : Nat) : xEx nb nn 19 0 := ⟨rfl, by decide⟩
theorem xe_20 (nb nn : Nat) : xEx nb nn 20 0 := ⟨rfl, by decide⟩
theorem xe_21 (nb nn : Nat) : xEx nb nn 21 0 := ⟨rfl, by decide⟩
theorem xe_22 (nb nn : Nat) : xEx nb nn 22 0 := ⟨rfl, by decide⟩
theorem xe_23 (nb nn : Nat) : xEx nb nn 23 0 := ⟨rfl, by decide⟩
theorem xe_52 (nb nn : Nat) : xEx nb nn 52 0 := ⟨rfl, by decide⟩
theorem xe_53 (nb nn : Nat) : xEx nb nn 53 0 := ⟨rfl, by decide⟩
theorem xe_54 (nb nn : Nat) : xEx nb nn 54 0 := ⟨rfl, by decide⟩
theorem xe_55 (nb nn : Nat) : xEx nb nn 55 0 := ⟨rfl, by decide⟩
theorem xe_56 (nb nn : Nat) : xEx nb nn 56 0 := ⟨rfl, by decide⟩
theorem xe_58 (nb nn : Nat) : xEx nb nn 58 0 := ⟨rfl, by decide⟩
theorem xe_59 (nb nn : Nat) : xEx nb nn 59 0 := ⟨rfl, by decide⟩
theorem xe_60 (nb nn : Nat) : xEx nb nn 60 0 := ⟨rfl, by decide⟩
theorem xe_61 (nb nn : Nat) : xEx nb nn 61 0 := ⟨rfl, by decide⟩
theorem xe_62 (nb nn : Nat) : xEx nb nn 62 0 := ⟨rfl, by decide⟩
theorem xe_65 (nb nn : Nat) : xEx nb nn 65 0 := ⟨rfl, by decide⟩
theorem xe_66 (nb nn : Nat) : xEx nb nn 66 0 := ⟨rfl, by decide⟩
theorem xe_67 (nb nn : Nat) : xEx nb nn 67 0 := ⟨rfl, by decide⟩
theorem xe_68 (nb nn : Nat) : xEx nb nn 68 0 := ⟨rfl, by decide⟩
theorem xe_70 (nb nn : Nat) : xEx nb nn 70 0 := ⟨rfl, by decide⟩
theorem xe_81 (nb nn : Nat) : xEx nb nn 81 0 := ⟨rfl, by decide⟩
theorem xe_82 (nb nn : Nat) : xEx nb nn 82 0 := ⟨rfl, by decide⟩
theorem xe_83 (nb nn : Nat) : xEx nb nn 83 0 := ⟨rfl, by decide⟩
theorem xe_84 (nb nn : Nat) : xEx nb nn 84 0 := ⟨rfl, by decide⟩
theorem xe_85 (nb nn : Nat) : xEx nb nn 85 0 := ⟨rfl, by decide⟩
theorem xe_86 (nb nn : Nat) : xEx nb nn 86 0 := ⟨rfl, by decide⟩
theorem xe_87 (nb nn : Nat) : xEx nb nn 87 0 := ⟨rfl, by decide⟩
theorem xe_88 (nb nn : Nat) : xEx nb nn 88 0 := ⟨rfl, by decide⟩
theorem xe_89 (nb nn : Nat) : xEx nb nn 89 0 := ⟨rfl, by decide⟩
theorem xe_90 (nb nn : Nat) : xEx nb nn 90 0 := ⟨rfl, by decide⟩
theorem xe_91 (nb nn : Nat) : xEx nb nn 91 0 := ⟨rfl, by decide⟩
theorem xe_92 (nb nn : Nat) : xEx nb nn 92 0 := ⟨rfl, by decide⟩
theorem xe_93 (nb nn : Nat) : xEx nb nn 93 0 := ⟨rfl, by decide⟩
theorem xe_94 (nb nn : Nat) : xEx nb nn 94 0 := ⟨rfl, by decide⟩
theorem xe_95 (nb nn : Nat) : xEx nb nn 95 0 := ⟨rfl, by decide⟩
theorem xe_96 (nb nn : Nat) : xEx nb nn 96 0 := ⟨rfl, by decide⟩
theorem xe_97 (nb nn : Nat) : xEx nb nn 97 0 := ⟨rfl, by decide⟩
theorem xe_98 (nb nn : Nat) : xEx nb nn 98 0 := ⟨rfl, by decide⟩
theorem xe_99 (nb nn : Nat) : xEx nb nn 99 0 := ⟨rfl, by decide⟩
theorem xe_1 (nb nn : Nat) : xEx nb nn 1 0 := ⟨rfl, by decide⟩
theorem xe_3 (nb nn : Nat) : xEx nb nn 3 0 := ⟨rfl, by decide⟩
theorem xe_7 (nb nn : Nat) : xEx nb nn 7 0 := ⟨rfl, by decide⟩
theorem xe_8 (nb nn : Nat) : xEx nb nn 8 0 := ⟨rfl, by decide⟩
theorem inT_X0 {c0 : Cond} : ∀ w ∈ u_ws RX0 TX0 6, w ∈ c0 :: wsL_law := fun w h => List.mem_cons_of_mem _ (inlX0 w h)
theorem inT_X1 {c0 : Cond} : ∀ w ∈ u_ws RX1 TX1 7, w ∈ c0 :: wsL_law := fun w h => List.mem_cons_of_mem _ (inlX1 w h)
theorem inT_X2 {c0 : Cond} : ∀ w ∈ u_ws RX2 TX2 5, w ∈ c0 :: wsL_law := fun w h => List.mem_cons_of_mem _ (inlX2 w h)
theorem inT_X3 {c0 : Cond} : ∀ w ∈ u_ws RX3 TX3 7, w ∈ c0 :: wsL_law := fun w h => List.mem_cons_of_mem _ (inlX3 w h)
theorem inT_X4 {c0 : Cond} : ∀ w ∈ u_ws RX4 TX4 13, w ∈ c0 :: wsL_law := fun w h => List.mem_cons_of_mem _ (inlX4 w h)
theorem inT_X5 {c0 : Cond} : ∀ w ∈ u_ws RX5 TX5 2, w ∈ c0 :: wsL_law := fun w h => List.mem_cons_of_mem _ (inlX5 w h)
theorem inT_X6 {c0 : Cond} : ∀ w ∈ u_ws RX6 TX6 3, w ∈ c0 :: wsL_law := fun w h => List.mem_cons_of_mem _ (inlX6 w h)
theorem inT_X7 {c0 : Cond} : ∀ w ∈ u_ws RX7 TX7 6, w ∈ c0 :: wsL_law := fun w h => List.mem_cons_of_mem _ (inlX7 w h)
theorem inT_X8 {c0 : Cond} : ∀ w ∈ u_ws RX8 TX8 2, w ∈ c0 :: wsL_law := fun w h => List.mem_cons_of_mem _ (inlX8 w h)
theorem inT_X9 {c0 : Cond} : ∀ w ∈ u_ws RX9 TX9 2, w ∈ c0 :: wsL_law := fun w h => List.mem_cons_of_mem _ (inlX9 w h)
theorem inT_X10 {c0 : Cond} : ∀ w ∈ u_ws RX10 TX10 17, w ∈ c0 :: wsL_law := fun w h => List.mem_cons_of_mem _ (inlX10 w h)
theorem inT_X11 {c0 : Cond} : ∀ w ∈ u_ws RX11 TX11 51, w ∈ c0 :: wsL_law := fun w h => List.mem_cons_of_mem _ (inlX11 w h)
section XF
variable {p : Program} {l : Launch} {e : Env} {R : Room} {s : State} {m : MethodId} {args : Array Value} {below : List Frame} {meth : Method} {c : Code} {H : Heap} {locs : List Loc} {cells slots : Nat} {Q : State → Prop}
variable {cc : ByteArray} {pc : Nat} {ls : Array Slot} {rest : List Value} {g : xG} {L : List (Nat × Nat)} {M : xM} {sz : Nat} {H0 : Heap} {c0 : Cond} {i : Nat}
theorem gf_RX0_9 (hx : p.tables.exec = Jvm.exec) (hb : c.code = cc) (hts : ∀ w ∈ c0 :: wsL_law, w.before args s = true) (hown : s.vm.findClass RX0 = some m.cls) (hK : xK g s) (hP : xP g L M H) (he : (27, i) ∈ L) (hdg : decode cc pc = .ok (.getfield 9, 3)) (kk : W p l e R s m args below meth c H locs cells slots Q (F0 m (pc + 3) ls (.int (M 27 i 3) :: rest))) : W p l e R s m args below meth c H locs cells slots Q (F0 m pc ls (.ref (xad g 27 i) :: rest)) :=
  x_get hx hb hts inT_X0 hown hK hP he (xc27 g i) rfl 3 (by decide) (List.mem_cons_of_mem _ wd_315) rfl rfl rfl rfl hdg kk
theorem gf_RX0_15 (hx : p.tables.exec = Jvm.exec) (hb : c.code = cc) (hts : ∀ w ∈ c0 :: wsL_law, w.before args s = true) (hown : s.vm.findClass RX0 = some m.cls) (hK : xK g s) (hP : xP g L M H) (he : (27, i) ∈ L) (hdg : decode cc pc = .ok (.getfield 15, 3)) (kk : W p l e R s m args below meth c H locs cells slots Q (F0 m (pc + 3) ls (.int (M 27 i 4) :: rest))) : W p l e R s m args below meth c H locs cells slots Q (F0 m pc ls (.ref (xad g 27 i) :: rest)) :=
  x_get hx hb hts inT_X0 hown hK hP he (xc27 g i) rfl 4 (by decide) (List.mem_cons_of_mem _ wd_316) rfl rfl rfl rfl hdg kk
theorem gf_RX0_19 (hx : p.tables.exec = Jvm.exec) (hb : c.code = cc) (hts : ∀ w ∈ c0 :: wsL_law, w.before args s = true) (hown : s.vm.findClass RX0 = some m.cls) (hK : xK g s) (hP : xP g L M H) (he : (27, i) ∈ L) (hdg : decode cc pc = .ok (.getfield 19, 3)) (kk : W p l e R s m args below meth c H locs cells slots Q (F0 m (pc + 3) ls (.ref (xad g 28 i) :: rest))) : W p l e R s m args below meth c H locs cells slots Q (F0 m pc ls (.ref (xad g 27 i) :: rest)) :=
  x_get hx hb hts inT_X0 hown hK hP he (xc27 g i) rfl 5 (by decide) (List.mem_cons_of_mem _ wd_317) rfl rfl rfl rfl hdg kk
theorem gf_RX0_26 (hx : p.tables.exec = Jvm.exec) (hb : c.code = cc) (hts : ∀ w ∈ c0 :: wsL_law, w.before args s = true) (hown : s.vm.findClass RX0 = some m.cls) (hK : xK g s) (hP : xP g L M H) (he : (27, i) ∈ L) (hdg : decode cc pc = .ok (.getfield 26, 3)) (kk : W p l e R s m args below meth c H locs cells slots Q (F0 m (pc + 3) ls (.int (M 27 i 2) :: rest))) : W p l e R s m args below meth c H locs cells slots Q (F0 m pc ls (.ref (xad g 27 i) :: rest)) :=
  x_get hx hb hts inT_X0 hown hK hP he (xc27 g i) rfl 2 (by decide) (List.mem_cons_of_mem _ wd_319) rfl rfl rfl rfl hdg kk
theorem gf_RX1_11 (hx : p.tables.exec = Jvm.exec) (hb : c.code = cc) (hts : ∀ w ∈ c0 :: wsL_law, w.before args s = true) (hown : s.vm.findClass RX1 = some m.cls) (hK : xK g s) (hP : xP g L M H) (he : (6, i) ∈ L) (hdg : decode cc pc = .ok (.getfield 11, 3)) (kk : W p l e R s m args below meth c H locs cells slots Q (F0 m (pc + 3) ls (.int (M 6 i 2) :: rest))) : W p l e R s m args below meth c H locs cells slots Q (F0 m pc ls (.ref (xad g 6 i) :: rest)) :=
  x_get hx hb hts inT_X1 hown hK hP he (xc6 g i) rfl 2 (by decide) (List.mem_cons_of_mem _ wd_98) rfl rfl rfl rfl hdg kk
theorem gf_RX1_15 (hx : p.tables.exec = Jvm.exec) (hb : c.code = cc) (hts : ∀ w ∈ c0 :: wsL_law, w.before args s = true) (hown : s.vm.findClass RX1 = some m.cls) (hK : xK g s) (hP : xP g L M H) (he : (6, i) ∈ L) (hdg : decode cc pc = .ok (.getfield 15, 3)) (kk : W p l e R s m args below meth c H locs cells slots Q (F0 m (pc + 3) ls (.int (M 6 i 3) :: rest))) : W p l e R s m args below meth c H locs cells slots Q (F0 m pc ls (.ref (xad g 6 i) :: rest)) :=
  x_get hx hb hts inT_X1 hown hK hP he (xc6 g i) rfl 3 (by decide) (List.mem_cons_of_mem _ wd_99) rfl rfl rfl rfl hdg kk
theorem gf_RX1_18 (hx : p.tables.exec = Jvm.exec) (hb : c.code = cc) (hts : ∀ w ∈ c0 :: wsL_law, w.before args s = true) (hown : s.vm.findClass RX1 = some m.cls) (hK : xK g s) (hP : xP g L M H) (he : (6, i) ∈ L) (hdg : decode cc pc = .ok (.getfield 18, 3)) (kk : W p l e R s m args below meth c H locs cells slots Q (F0 m (pc + 3) ls (.int (M 6 i 4) :: rest))) : W p l e R s m args below meth c H locs cells slots Q (F0 m pc ls (.ref (xad g 6 i) :: rest)) :=
  x_get hx hb hts inT_X1 hown hK hP he (xc6 g i) rfl 4 (by decide) (List.mem_cons_of_mem _ wd_100) rfl rfl rfl rfl hdg kk
theorem gf_RX1_21 (hx : p.tables.exec = Jvm.exec) (hb : c.code = cc) (hts : ∀ w ∈ c0 :: wsL_law, w.before args s = true) (hown : s.vm.findClass RX1 = some m.cls) (hK : xK g s) (hP : xP g L M H) (he : (6, i) ∈ L) (hdg : decode cc pc = .ok (.getfield 21, 3)) (kk : W p l e R s m args below meth c H locs cells slots Q (F0 m (pc + 3) ls (.int (M 6 i 5) :: rest))) : W p l e R s m args below meth c H locs cells slots Q (F0 m pc ls (.ref (xad g 6 i) :: rest)) :=
  x_get hx hb hts inT_X1 hown hK hP he (xc6 g i) rfl 5 (by decide) (List.mem_cons_of_mem _ wd_101) rfl rfl rfl rfl hdg kk
theorem gf_RX1_24 (hx : p.tables.exec = Jvm.exec) (hb : c.code = cc) (hts : ∀ w ∈ c0 :: wsL_law, w.before args s = true) (hown : s.vm.findClass RX1 = some m.cls) (hK : xK g s) (hP : xP g L M H) (he : (6, i) ∈ L) (hdg : decode cc pc = .ok (.getfield 24, 3)) (kk : W p l e R s m args below meth c H locs cells slots Q (F0 m (pc + 3) ls (.int (M 6 i 6) :: rest))) : W p l e R s m args below meth c H locs cells slots Q (F0 m pc ls (.ref (xad g 6 i) :: rest)) :=
  x_get hx hb hts inT_X1 hown hK hP he (xc6 g i) rfl 6 (by decide) (List.mem_cons_of_mem _ wd_102) rfl rfl rfl rfl hdg kk
theorem gf_RX1_27 (hx : p.tables.exec = Jvm.exec) (hb : c.code = cc) (hts : ∀ w ∈ c0 :: wsL_law, w.before args s = true) (hown : s.vm.findClass RX1 = some m.cls) (hK : xK g s) (hP : xP g L M H) (he : (6, i) ∈ L) (hdg : decode cc pc = .ok (.getfield 27, 3)) (kk : W p l e R s m args below meth c H locs cells slots Q (F0 m (pc + 3) ls (.ref (xad g 5 0) :: rest))) : W p l e R s m args below meth c H locs cells slots Q (F0 m pc ls (.ref (xad g 6 i) :: rest)) :=
  x_get hx hb hts inT_X1 hown hK hP he (xc6 g i) rfl 0 (by decide) (List.mem_cons_of_mem _ wd_103) rfl rfl rfl rfl hdg kk
theorem gf_RX1_31 (hx : p.tables.exec = Jvm.exec) (hb : c.code = cc) (hts : ∀ w ∈ c0 :: wsL_law, w.before args s = true) (hown : s.vm.findClass RX1 = some m.cls) (hK : xK g s) (hP : xP g L M H) (he : (6, i) ∈ L) (hdg : decode cc pc = .ok (.getfield 31, 3)) (kk : W p l e R s m args below meth c H locs cells slots Q (F0 m (pc + 3) ls (.ref (xad g 4 0) :: rest))) : W p l e R s m args below meth c H locs cells slots Q (F0 m pc ls (.ref (xad g 6 i) :: rest)) :=
  x_get hx hb hts inT_X1 hown hK hP he (xc6 g i) rfl 1 (by decide) (List.mem_cons_of_mem _ wd_104) rfl rfl rfl rfl hdg kk
theorem gf_RX1_43 (hx : p.tables.exec = Jvm.exec) (hb : c.code = cc) (hts : ∀ w ∈ c0 :: wsL_law, w.before args s = true) (hown : s.vm.findClass RX1 = some m.cls) (hK : xK g s) (hP : xP g L M H) (he : (5, i) ∈ L) (hdg : decode cc pc = .ok (.getfield 43, 3)) (kk : W p l e R s m args below meth c H locs cells slots Q (F0 m (pc + 3) ls (.int (M 5 i 3) :: rest))) : W p l e R s m args below meth c H locs cells slots Q (F0 m pc ls (.ref (xad g 5 i) :: rest)) :=
  x_get hx hb hts inT_X7 hown hK hP he (xc5 g i) rfl 3 (by decide) (List.mem_cons_of_mem _ wd_428) rfl rfl rfl rfl hdg kk
theorem gf_RX1_81 (hx : p.tables.exec = Jvm.exec) (hb : c.code = cc) (hts : ∀ w ∈ c0 :: wsL_law, w.before args s = true) (hown : s.vm.findClass RX1 = some m.cls) (hK : xK g s) (hP : xP g L M H) (he : (5, i) ∈ L) (hdg : decode cc pc = .ok (.getfield 81, 3)) (kk : W p l e R s m args below meth c H locs cells slots Q (F0 m (pc + 3) ls (.int (M 5 i 5) :: rest))) : W p l e R s m args below meth c H locs cells slots Q (F0 m pc ls (.ref (xad g 5 i) :: rest)) :=
  x_get hx hb hts inT_X7 hown hK hP he (xc5 g i) rfl 5 (by decide) (List.mem_cons_of_mem _ wd_518) rfl rfl rfl rfl hdg kk
theorem gf_RX10_11 (hx : p.tables.exec = Jvm.exec) (hb : c.code = cc) (hts : ∀ w ∈ c0 :: wsL_law, w.before args s = true) (hown : s.vm.findClass RX10 = some m.cls) (hK : xK g s) (hP : xP g L M H) (he : (0, i) ∈ L) (hdg : decode cc pc = .ok (.getfield 11, 3)) (kk : W p l e R s m args below meth c H locs cells slots Q (F0 m (pc + 3) ls (.ref (xad g 1 0) :: rest))) : W p l e R s m args below meth c H locs cells slots Q (F0 m pc ls (.ref (xad g 0 i) :: rest)) :=
  x_get hx hb hts inT_X10 hown hK hP he (xc0 g i) rfl 0 (by decide) (List.mem_cons_of_mem _ wd_14) rfl rfl rfl rfl hdg kk
theorem gf_RX10_18 (hx : p.tables.exec = Jvm.exec) (hb : c.code = cc) (hts : ∀ w ∈ c0 :: wsL_law, w.before args s = true) (hown : s.vm.findClass RX10 = some m.cls) (hK : xK g s) (hP : xP g L M H) (he : (0, i) ∈ L) (hdg : decode cc pc = .ok (.getfield 18, 3)) (kk : W p l e R s m args below meth c H locs cells slots Q (F0 m (pc + 3) ls (.ref (xad g 2 0) :: rest))) : W p l e R s m args below meth c H locs cells slots Q (F0 m pc ls (.ref (xad g 0 i) :: rest)) :=
  x_get hx hb hts inT_X10 hown hK hP he (xc0 g i) rfl 1 (by decide) (List.mem_cons_of_mem _ wd_18) rfl rfl rfl rfl hdg kk
theorem gf_RX10_24 (hx : p.tables.exec = Jvm.exec) (hb : c.code = cc) (hts : ∀ w ∈ c0 :: wsL_law, w.before args s = true) (hown : s.vm.findClass RX10 = some m.cls) (hK : xK g s) (hP : xP g L M H) (he : (0, i) ∈ L) (hdg : decode cc pc = .ok (.getfield 24, 3)) (kk : W p l e R s m args below meth c H locs cells slots Q (F0 m (pc + 3) ls (.ref (xad g 3 0) :: rest))) : W p l e R s m args below meth c H locs cells slots Q (F0 m pc ls (.ref (xad g 0 i) :: rest)) :=
  x_get hx hb hts inT_X10 hown hK hP he (xc0 g i) rfl 2 (by decide) (List.mem_cons_of_mem _ wd_20) rfl rfl rfl rfl hdg kk
theorem gf_RX10_31 (hx : p.tables.exec = Jvm.exec) (hb : c.code = cc) (hts : ∀ w ∈ c0 :: wsL_law, w.before args s = true) (hown : s.vm.findClass RX10 = some m.cls) (hK : xK g s) (hP : xP g L M H) (he : (0, i) ∈ L) (hdg : decode cc pc = .ok (.getfield 31, 3)) (kk : W p l e R s m args below meth c H locs cells slots Q (F0 m (pc + 3) ls (.ref (xad g 4 0) :: rest))) : W p l e R s m args below meth c H locs cells slots Q (F0 m pc ls (.ref (xad g 0 i) :: rest)) :=
  x_get hx hb hts inT_X10 hown hK hP he (xc0 g i) rfl 3 (by decide) (List.mem_cons_of_mem _ wd_24) rfl rfl rfl rfl hdg kk
theorem gf_RX10_38 (hx : p.tables.exec = Jvm.exec) (hb : c.code = cc) (hts : ∀ w ∈ c0 :: wsL_law, w.before args s = true) (hown : s.vm.findClass RX10 = some m.cls) (hK : xK g s) (hP : xP g L M H) (he : (0, i) ∈ L) (hdg : decode cc pc = .ok (.getfield 38, 3)) (kk : W p l e R s m args below meth c H locs cells slots Q (F0 m (pc + 3) ls (.ref (xad g 5 0) :: rest))) : W p l e R s m args below meth c H locs cells slots Q (F0 m pc ls (.ref (xad g 0 i) :: rest)) :=
  x_get hx hb hts inT_X10 hown hK hP he (xc0 g i) rfl 4 (by decide) (List.mem_cons_of_mem _ wd_28) rfl rfl rfl rfl hdg kk
theorem gf_RX10_47 (hx : p.tables.exec = Jvm.exec) (hb : c.code = cc) (hts : ∀ w ∈ c0 :: wsL_law, w.before args s = true) (hown : s.vm.findClass RX10 = some m.cls) (hK : xK g s) (hP : xP g L M H) (he : (0, i) ∈ L) (hdg : decode cc pc = .ok (.getfield 47, 3)) (kk : W p l e R s m args below meth c H locs cells slots Q (F0 m (pc + 3) ls (.ref (xad g 6 0) :: rest))) : W p l e R s m args below meth c H locs cells slots Q (F0 m pc ls (.ref (xad g 0 i) :: rest)) :=
  x_get hx hb hts inT_X10 hown hK hP he (xc0 g i) rfl 5 (by decide) (List.mem_cons_of_mem _ wd_32) rfl rfl rfl rfl hdg kk
theorem gf_RX10_53 (hx : p.tables.exec = Jvm.exec) (hb : c.code = cc) (hts : ∀ w ∈ c0 :: wsL_law, w.before args s = true) (hown : s.vm.findClass RX10 = some m.cls) (hK : xK g s) (hP : xP g L M H) (he : (0, i) ∈ L) (hdg : decode cc pc = .ok (.getfield 53, 3)) (kk : W p l e R s m args below meth c H locs cells slots Q (F0 m (pc + 3) ls (.ref (xad g 7 0) :: rest))) : W p l e R s m args below meth c H locs cells slots Q (F0 m pc ls (.ref (xad g 0 i) :: rest)) :=
  x_get hx hb hts inT_X10 hown hK hP he (xc0 g i) rfl 6 (by decide) (List.mem_cons_of_mem _ wd_34) rfl rfl rfl rfl hdg kk
theorem gf_RX10_59 (hx : p.tables.exec = Jvm.exec) (hb : c.code = cc) (hts : ∀ w ∈ c0 :: wsL_law, w.before args s = true) (hown : s.vm.findClass RX10 = some m.cls) (hK : xK g s) (hP : xP g L M H) (he : (0, i) ∈ L) (hdg : decode cc pc = .ok (.getfield 59, 3)) (kk : W p l e R s m args below meth c H locs cells slots Q (F0 m (pc + 3) ls (.ref (xad g 8 0) :: rest))) : W p l e R s m args below meth c H locs cells slots Q (F0 m pc ls (.ref (xad g 0 i) :: rest)) :=
  x_get hx hb hts inT_X10 hown hK hP he (xc0 g i) rfl 7 (by decide) (List.mem_cons_of_mem _ wd_36) rfl rfl rfl rfl hdg kk
theorem gf_RX10_63 (hx : p.tables.exec = Jvm.exec) (hb : c.code = cc) (hts : ∀ w ∈ c0 :: wsL_law, w.before args s = true) (hown : s.vm.findClass RX10 = some m.cls) (hK : xK g s) (hP : xP g L M H) (he : (0, i) ∈ L) (hdg : decode cc pc = .ok (.getfield 63, 3)) (kk : W p l e R s m args below meth c H locs cells slots Q (F0 m (pc + 3) ls (.ref (xad g 9 0) :: rest))) : W p l e R s m args below meth c H locs cells slots Q (F0 m pc ls (.ref (xad g 0 i) :: rest)) :=
  x_get hx hb hts inT_X10 hown hK hP he (xc0 g i) rfl 8 (by decide) (List.mem_cons_of_mem _ wd_38) rfl rfl rfl rfl hdg kk
theorem gf_RX10_67 (hx : p.tables.exec = Jvm.exec) (hb : c.code = cc) (hts : ∀ w ∈ c0 :: wsL_law, w.before args s = true) (hown : s.vm.findClass RX10 = some m.cls) (hK : xK g s) (hP : xP g L M H) (he : (0, i) ∈ L) (hdg : decode cc pc = .ok (.getfield 67, 3)) (kk : W p l e R s m args below meth c H locs cells slots Q (F0 m (pc + 3) ls (.ref (xad g 10 0) :: rest))) : W p l e R s m args below meth c H locs cells slots Q (F0 m pc ls (.ref (xad g 0 i) :: rest)) :=
  x_get hx hb hts inT_X10 hown hK hP he (xc0 g i) rfl 9 (by decide) (List.mem_cons_of_mem _ wd_39) rfl rfl rfl rfl hdg kk
theorem gf_RX10_73 (hx : p.tables.exec = Jvm.exec) (hb : c.code = cc) (hts : ∀ w ∈ c0 :: wsL_law, w.before args s = true) (hown : s.vm.findClass RX10 = some m.cls) (hK : xK g s) (hP : xP g L M H) (he : (0, i) ∈ L) (hdg : decode cc pc = .ok (.getfield 73, 3)) (kk : W p l e R s m args below meth c H locs cells slots Q (F0 m (pc + 3) ls (.ref (xad g 11 0) :: rest))) : W p l e R s m args below meth c H locs cells slots Q (F0 m pc ls (.ref (xad g 0 i) :: rest)) :=
  x_get hx hb hts inT_X10 hown hK hP he (xc0 g i) rfl 10 (by decide) (List.mem_cons_of_mem _ wd_43) rfl rfl rfl rfl hdg kk
theorem gf_RX10_80 (hx : p.tables.exec = Jvm.exec) (hb : c.code = cc) (hts : ∀ w ∈ c0 :: wsL_law, w.before args s = true) (hown : s.vm.findClass RX10 = some m.cls) (hK : xK g s) (hP : xP g L M H) (he : (0, i) ∈ L) (hdg : decode cc pc = .ok (.getfield 80, 3)) (kk : W p l e R s m args below meth c H locs cells slots Q (F0 m (pc + 3) ls (.ref (xad g 12 0) :: rest))) : W p l e R s m args below meth c H locs cells slots Q (F0 m pc ls (.ref (xad g 0 i) :: rest)) :=
  x_get hx hb hts inT_X10 hown hK hP he (xc0 g i) rfl 11 (by decide) (List.mem_cons_of_mem _ wd_47) rfl rfl rfl rfl hdg kk
theorem gf_RX10_84 (hx : p.tables.exec = Jvm.exec) (hb : c.code = cc) (hts : ∀ w ∈ c0 :: wsL_law, w.before args s = true) (hown : s.vm.findClass RX10 = some m.cls) (hK : xK g s) (hP : xP g L M H) (he : (0, i) ∈ L) (hdg : decode cc pc = .ok (.getfield 84, 3)) (kk : W p l e R s m args below meth c H locs cells slots Q (F0 m (pc + 3) ls (.int (M 0 i 12) :: rest))) : W p l e R s m args below meth c H locs cells slots Q (F0 m pc ls (.ref (xad g 0 i) :: rest)) :=
  x_get hx hb hts inT_X10 hown hK hP he (xc0 g i) rfl 12 (by decide) (List.mem_cons_of_mem _ wd_48) rfl rfl rfl rfl hdg kk
theorem gf_RX10_88 (hx : p.tables.exec = Jvm.exec) (hb : c.code = cc) (hts : ∀ w ∈ c0 :: wsL_law, w.before args s = true) (hown : s.vm.findClass RX10 = some m.cls) (hK : xK g s) (hP : xP g L M H) (he : (0, i) ∈ L) (hdg : decode cc pc = .ok (.getfield 88, 3)) (kk : W p l e R s m args below meth c H locs cells slots Q (F0 m (pc + 3) ls (.int (M 0 i 13) :: rest))) : W p l e R s m args below meth c H locs cells slots Q (F0 m pc ls (.ref (xad g 0 i) :: rest)) :=
  x_get hx hb hts inT_X10 hown hK hP he (xc0 g i) rfl 13 (by decide) (List.mem_cons_of_mem _ wd_49) rfl rfl rfl rfl hdg kk
theorem gf_RX10_91 (hx : p.tables.exec = Jvm.exec) (hb : c.code = cc) (hts : ∀ w ∈ c0 :: wsL_law, w.before args s = true) (hown : s.vm.findClass RX10 = some m.cls) (hK : xK g s) (hP : xP g L M H) (he : (0, i) ∈ L) (hdg : decode cc pc = .ok (.getfield 91, 3)) (kk : W p l e R s m args below meth c H locs cells slots Q (F0 m (pc + 3) ls (.int (M 0 i 14) :: rest))) : W p l e R s m args below meth c H locs cells slots Q (F0 m pc ls (.ref (xad g 0 i) :: rest)) :=
  x_get hx hb hts inT_X10 hown hK hP he (xc0 g i) rfl 14 (by decide) (List.mem_cons_of_mem _ wd_50) rfl rfl rfl rfl hdg kk
theorem gf_RX10_94 (hx : p.tables.exec = Jvm.exec) (hb : c.code = cc) (hts : ∀ w ∈ c0 :: wsL_law, w.before args s = true) (hown : s.vm.findClass RX10 = some m.cls) (hK : xK g s) (hP : xP g L M H) (he : (0, i) ∈ L) (hdg : decode cc pc = .ok (.getfield 94, 3)) (kk : W p l e R s m args below meth c H locs cells slots Q (F0 m (pc + 3) ls (.int (M 0 i 15) :: rest))) : W p l e R s m args below meth c H locs cells slots Q (F0 m pc ls (.ref (xad g 0 i) :: rest)) :=
  x_get hx hb hts inT_X10 hown hK hP he (xc0 g i) rfl 15 (by decide) (List.mem_cons_of_mem _ wd_51) rfl rfl rfl rfl hdg kk
theorem gf_RX10_97 (hx : p.tables.exec = Jvm.exec) (hb : c.code = cc) (hts : ∀ w ∈ c0 :: wsL_law, w.before args s = true) (hown : s.vm.findClass RX10 = some m.cls) (hK : xK g s) (hP : xP g L M H) (he : (0, i) ∈ L) (hdg : decode cc pc = .ok (.getfield 97, 3)) (kk : W p l e R s m args below meth c H locs cells slots Q (F0 m (pc + 3) ls (.int (M 0 i 16) :: rest))) : W p l e R s m args below meth c H locs cells slots Q (F0 m pc ls (.ref (xad g 0 i) :: rest)) :=
  x_get hx hb hts inT_X10 hown hK hP he (xc0 g i) rfl 16 (by decide) (List.mem_cons_of_mem _ wd_52) rfl rfl rfl rfl hdg kk
theorem gf_RX10_133 (hx : p.tables.exec = Jvm.exec) (hb : c.code = cc) (hts : ∀ w ∈ c0 :: wsL_law, w.before args s = true) (hown : s.vm.findClass RX10 = some m.cls) (hK : xK g s) (hP : xP g L M H) (he : (24, i) ∈ L) (hdg : decode cc pc = .ok (.getfield 133, 3)) (kk : W p l e R s m args below meth c H locs cells slots Q (F0 m (pc + 3) ls (.int (M 24 i 1) :: rest))) : W p l e R s m args below meth c H locs cells slots Q (F0 m pc ls (.ref (xad g 24 i) :: rest)) :=
  x_get hx hb hts inT_X6 hown hK hP he (xc24 g i) rfl 1 (by decide) (List.mem_cons_of_mem _ wd_241) rfl rfl rfl rfl hdg kk
theorem gf_RX10_136 (hx : p.tables.exec = Jvm.exec) (hb : c.code = cc) (hts : ∀ w ∈ c0 :: wsL_law, w.before args s = true) (hown : s.vm.findClass RX10 = some m.cls) (hK : xK g s) (hP : xP g L M H) (he : (24, i) ∈ L) (hdg : decode cc pc = .ok (.getfield 136, 3)) (kk : W p l e R s m args below meth c H locs cells slots Q (F0 m (pc + 3) ls (.ref (xad g 25 i) :: rest))) : W p l e R s m args below meth c H locs cells slots Q (F0 m pc ls (.ref (xad g 24 i) :: rest)) :=
  x_get hx hb hts inT_X6 hown hK hP he (xc24 g i) rfl 0 (by decide) (List.mem_cons_of_mem _ wd_242) rfl rfl rfl rfl hdg kk
theorem gf_RX10_145 (hx : p.tables.exec = Jvm.exec) (hb : c.code = cc) (hts : ∀ w ∈ c0 :: wsL_law, w.before args s = true) (hown : s.vm.findClass RX10 = some m.cls) (hK : xK g s) (hP : xP g L M H) (he : (24, i) ∈ L) (hdg : decode cc pc = .ok (.getfield 145, 3)) (kk : W p l e R s m args below meth c H locs cells slots Q (F0 m (pc + 3) ls (.int (M 24 i 2) :: rest))) : W p l e R s m args below meth c H locs cells slots Q (F0 m pc ls (.ref (xad g 24 i) :: rest)) :=
  x_get hx hb hts inT_X6 hown hK hP he (xc24 g i) rfl 2 (by decide) (List.mem_cons_of_mem _ wd_255) rfl rfl rfl rfl hdg kk
theorem gf_RX10_173 (hx : p.tables.exec = Jvm.exec) (hb : c.code = cc) (hts : ∀ w ∈ c0 :: wsL_law, w.before args s = true) (hown : s.vm.findClass RX10 = some m.cls) (hK : xK g s) (hP : xP g L M H) (he : (27, i) ∈ L) (hdg : decode cc pc = .ok (.getfield 173, 3)) (kk : W p l e R s m args below meth c H locs cells slots Q (F0 m (pc + 3) ls (.int (M 27 i 0) :: rest))) : W p l e R s m args below meth c H locs cells slots Q (F0 m pc ls (.ref (xad g 27 i) :: rest)) :=
  x_get hx hb hts inT_X0 hown hK hP he (xc27 g i) rfl 0 (by decide) (List.mem_cons_of_mem _ wd_333) rfl rfl rfl rfl hdg kk
theorem gf_RX10_176 (hx : p.tables.exec = Jvm.exec) (hb : c.code = cc) (hts : ∀ w ∈ c0 :: wsL_law, w.before args s = true) (hown : s.vm.findClass RX10 = some m.cls) (hK : xK g s) (hP : xP g L M H) (he : (27, i) ∈ L) (hdg : decode cc pc = .ok (.getfield 176, 3)) (kk : W p l e R s m args below meth c H locs cells slots Q (F0 m (pc + 3) ls (.int (M 27 i 2) :: rest))) : W p l e R s m args below meth c H locs cells slots Q (F0 m pc ls (.ref (xad g 27 i) :: rest)) :=
  x_get hx hb hts inT_X0 hown hK hP he (xc27 g i) rfl 2 (by decide) (List.mem_cons_of_mem _ wd_334) rfl rfl rfl rfl hdg kk
theorem gf_RX10_179 (hx : p.tables.exec = Jvm.exec) (hb : c.code = cc) (hts : ∀ w ∈ c0 :: wsL_law, w.before args s = true) (hown : s.vm.findClass RX10 = some m.cls) (hK : xK g s) (hP : xP g L M H) (he : (27, i) ∈ L) (hdg : decode cc pc = .ok (.getfield 179, 3)) (kk : W p l e R s m args below meth c H locs cells slots Q (F0 m (pc + 3) ls (.int (M 27 i 1) :: rest))) : W p l e R s m args below meth c H locs cells slots Q (F0 m pc ls (.ref (xad g 27 i) :: rest)) :=
  x_get hx hb hts inT_X0 hown hK hP he (xc27 g i) rfl 1 (by decide) (List.mem_cons_of_mem _ wd_335) rfl rfl rfl rfl hdg kk
theorem gf_RX10_182 (hx : p.tables.exec = Jvm.exec) (hb : c.code = cc) (hts : ∀ w ∈ c0 :: wsL_law, w.before args s = true) (hown : s.vm.findClass RX10 = some m.cls) (hK : xK g s) (hP : xP g L M H) (he : (27, i) ∈ L) (hdg : decode cc pc = .ok (.getfield 182, 3)) (kk : W p l e R s m args below meth c H locs cells slots Q (F0 m (pc + 3) ls (.int (M 27 i 4) :: rest))) : W p l e R s m args below meth c H locs cells slots Q (F0 m pc ls (.ref (xad g 27 i) :: rest)) :=
  x_get hx hb hts inT_X0 hown hK hP he (xc27 g i) rfl 4 (by decide) (List.mem_cons_of_mem _ wd_336) rfl rfl rfl rfl hdg kk
theorem gf_RX10_186 (hx : p.tables.exec = Jvm.exec) (hb : c.code = cc) (hts : ∀ w ∈ c0 :: wsL_law, w.before args s = true) (hown : s.vm.findClass RX10 = some m.cls) (hK : xK g s) (hP : xP g L M H) (he : (27, i) ∈ L) (hdg : decode cc pc = .ok (.getfield 186, 3)) (kk : W p l e R s m args below meth c H locs cells slots Q (F0 m (pc + 3) ls (.int (M 27 i 3) :: rest))) : W p l e R s m args below meth c H locs cells slots Q (F0 m pc ls (.ref (xad g 27 i) :: rest)) :=
  x_get hx hb hts inT_X0 hown hK hP he (xc27 g i) rfl 3 (by decide) (List.mem_cons_of_mem _ wd_337) rfl rfl rfl rfl hdg kk
theorem gf_RX10_209 (hx : p.tables.exec = Jvm.exec) (hb : c.code = cc) (hts : ∀ w ∈ c0 :: wsL_law, w.before args s = true) (hown : s.vm.findClass RX10 = some m.cls) (hK : xK g s) (hP : xP g L M H) (he : (5, i) ∈ L) (hdg : decode cc pc = .ok (.getfield 209, 3)) (kk : W p l e R s m args below meth c H locs cells slots Q (F0 m (pc + 3) ls (.int (M 5 i 2) :: rest))) : W p l e R s m args below meth c H locs cells slots Q (F0 m pc ls (.ref (xad g 5 i) :: rest)) :=
  x_get hx hb hts inT_X7 hown hK hP he (xc5 g i) rfl 2 (by decide) (List.mem_cons_of_mem _ wd_402) rfl rfl rfl rfl hdg kk
theorem gf_RX10_213 (hx : p.tables.exec = Jvm.exec) (hb : c.code = cc) (hts : ∀ w ∈ c0 :: wsL_law, w.before args s = true) (hown : s.vm.findClass RX10 = some m.cls) (hK : xK g s) (hP : xP g L M H) (he : (5, i) ∈ L) (hdg : decode cc pc = .ok (.getfield 213, 3)) (kk : W p l e R s m args below meth c H locs cells slots Q (F0 m (pc + 3) ls (.int (M 5 i 4) :: rest))) : W p l e R s m args below meth c H locs cells slots Q (F0 m pc ls (.ref (xad g 5 i) :: rest)) :=
  x_get hx hb hts inT_X7 hown hK hP he (xc5 g i) rfl 4 (by decide) (List.mem_cons_of_mem _ wd_421) rfl rfl rfl rfl hdg kk
theorem gf_RX10_220 (hx : p.tables.exec = Jvm.exec) (hb : c.code = cc) (hts : ∀ w ∈ c0 :: wsL_law, w.before args s = true) (hown : s.vm.findClass RX10 = some m.cls) (hK : xK g s) (hP : xP g L M H) (he : (4, i) ∈ L) (hdg : decode cc pc = .ok (.getfield 220, 3)) (kk : W p l e R s m args below meth c H locs cells slots Q (F0 m (pc + 3) ls (.int (M 4 i 4) :: rest))) : W p l e R s m args below meth c H locs cells slots Q (F0 m pc ls (.ref (xad g 4 i) :: rest)) :=
  x_get hx hb hts inT_X2 hown hK hP he (xc4 g i) rfl 4 (by decide) (List.mem_cons_of_mem _ wd_423) rfl rfl rfl rfl hdg kk
theorem gf_RX10_250 (hx : p.tables.exec = Jvm.exec) (hb : c.code = cc) (hts : ∀ w ∈ c0 :: wsL_law, w.before args s = true) (hown : s.vm.findClass RX10 = some m.cls) (hK : xK g s) (hP : xP g L M H) (he : (29, i) ∈ L) (hdg : decode cc pc = .ok (.getfield 250, 3)) (kk : W p l e R s m args below meth c H locs cells slots Q (F0 m (pc + 3) ls (.int (M 29 i 1) :: rest))) : W p l e R s m args below meth c H locs cells slots Q (F0 m pc ls (.ref (xad g 29 i) :: rest)) :=
  x_get hx hb hts inT_X4 hown hK hP he (xc29 g i) rfl 1 (by decide) (List.mem_cons_of_mem _ wd_720) rfl rfl rfl rfl hdg kk
theorem gf_RX10_253 (hx : p.tables.exec = Jvm.exec) (hb : c.code = cc) (hts : ∀ w ∈ c0 :: wsL_law, w.before args s = true) (hown : s.vm.findClass RX10 = some m.cls) (hK : xK g s) (hP : xP g L M H) (he : (29, i) ∈ L) (hdg : decode cc pc = .ok (.getfield 253, 3)) (kk : W p l e R s m args below meth c H locs cells slots Q (F0 m (pc + 3) ls (.int (M 29 i 2) :: rest))) : W p l e R s m args below meth c H locs cells slots Q (F0 m pc ls (.ref (xad g 29 i) :: rest)) :=
  x_get hx hb hts inT_X4 hown hK hP he (xc29 g i) rfl 2 (by decide) (List.mem_cons_of_mem _ wd_721) rfl rfl rfl rfl hdg kk
theorem gf_RX10_256 (hx : p.tables.exec = Jvm.exec) (hb : c.code = cc) (hts : ∀ w ∈ c0 :: wsL_law, w.before args s = true) (hown : s.vm.findClass RX10 = some m.cls) (hK : xK g s) (hP : xP g L M H) (he : (29, i) ∈ L) (hdg : decode cc pc = .ok (.getfield 256, 3)) (kk : W p l e R s m args below meth c H locs cells slots Q (F0 m (pc + 3) ls (.int (M 29 i 3) :: rest))) : W p l e R s m args below meth c H locs cells slots Q (F0 m pc ls (.ref (xad g 29 i) :: rest)) :=
  x_get hx hb hts inT_X4 hown hK hP he (xc29 g i) rfl 3 (by decide) (List.mem_cons_of_mem _ wd_722) rfl rfl rfl rfl hdg kk
theorem gf_RX10_259 (hx : p.tables.exec = Jvm.exec) (hb : c.code = cc) (hts : ∀ w ∈ c0 :: wsL_law, w.before args s = true) (hown : s.vm.findClass RX10 = some m.cls) (hK : xK g s) (hP : xP g L M H) (he : (29, i) ∈ L) (hdg : decode cc pc = .ok (.getfield 259, 3)) (kk : W p l e R s m args below meth c H locs cells slots Q (F0 m (pc + 3) ls (.int (M 29 i 4) :: rest))) : W p l e R s m args below meth c H locs cells slots Q (F0 m pc ls (.ref (xad g 29 i) :: rest)) :=
  x_get hx hb hts inT_X4 hown hK hP he (xc29 g i) rfl 4 (by decide) (List.mem_cons_of_mem _ wd_723) rfl rfl rfl rfl hdg kk
theorem gf_RX10_265 (hx : p.tables.exec = Jvm.exec) (hb : c.code = cc) (hts : ∀ w ∈ c0 :: wsL_law, w.before args s = true) (hown : s.vm.findClass RX10 = some m.cls) (hK : xK g s) (hP : xP g L M H) (he : (29, i) ∈ L) (hdg : decode cc pc = .ok (.getfield 265, 3)) (kk : W p l e R s m args below meth c H locs cells slots Q (F0 m (pc + 3) ls (.int (M 29 i 5) :: rest))) : W p l e R s m args below meth c H locs cells slots Q (F0 m pc ls (.ref (xad g 29 i) :: rest)) :=
  x_get hx hb hts inT_X4 hown hK hP he (xc29 g i) rfl 5 (by decide) (List.mem_cons_of_mem _ wd_724) rfl rfl rfl rfl hdg kk
theorem gf_RX10_279 (hx : p.tables.exec = Jvm.exec) (hb : c.code = cc) (hts : ∀ w ∈ c0 :: wsL_law, w.before args s = true) (hown : s.vm.findClass RX10 = some m.cls) (hK : xK g s) (hP : xP g L M H) (he : (29, i) ∈ L) (hdg : decode cc pc = .ok (.getfield 279, 3)) (kk : W p l e R s m args below meth c H locs cells slots Q (F0 m (pc + 3) ls (.int (M 29 i 6) :: rest))) : W p l e R s m args below meth c H locs cells slots Q (F0 m pc ls (.ref (xad g 29 i) :: rest)) :=
  x_get hx hb hts inT_X4 hown hK hP he (xc29 g i) rfl 6 (by decide) (List.mem_cons_of_mem _ wd_795) rfl rfl rfl rfl hdg kk
theorem gf_RX10_288 (hx : p.tables.exec = Jvm.exec) (hb : c.code = cc) (hts : ∀ w ∈ c0 :: wsL_law, w.before args s = true) (hown : s.vm.findClass RX10 = some m.cls) (hK : xK g s) (hP : xP g L M H) (he : (26, i) ∈ L) (hdg : decode cc pc = .ok (.getfield 288, 3)) (kk : W p l e R s m args below meth c H locs cells slots Q (F0 m (pc + 3) ls (.int (M 26 i 0) :: rest))) : W p l e R s m args below meth c H locs cells slots Q (F0 m pc ls (.ref (xad g 26 i) :: rest)) :=
  x_get hx hb hts inT_X9 hown hK hP he (xc26 g i) rfl 0 (by decide) (List.mem_cons_of_mem _ wd_812) rfl rfl rfl rfl hdg kk
theorem gf_RX10_289 (hx : p.tables.exec = Jvm.exec) (hb : c.code = cc) (hts : ∀ w ∈ c0 :: wsL_law, w.before args s = true) (hown : s.vm.findClass RX10 = some m.cls) (hK : xK g s) (hP : xP g L M H) (he : (26, i) ∈ L) (hdg : decode cc pc = .ok (.getfield 289, 3)) (kk : W p l e R s m args below meth c H locs cells slots Q (F0 m (pc + 3) ls (.int (M 26 i 1) :: rest))) : W p l e R s m args below meth c H locs cells slots Q (F0 m pc ls (.ref (xad g 26 i) :: rest)) :=
  x_get hx hb hts inT_X9 hown hK hP he (xc26 g i) rfl 1 (by decide) (List.mem_cons_of_mem _ wd_813) rfl rfl rfl rfl hdg kk
theorem gf_RX10_299 (hx : p.tables.exec = Jvm.exec) (hb : c.code = cc) (hts : ∀ w ∈ c0 :: wsL_law, w.before args s = true) (hown : s.vm.findClass RX10 = some m.cls) (hK : xK g s) (hP : xP g L M H) (he : (29, i) ∈ L) (hdg : decode cc pc = .ok (.getfield 299, 3)) (kk : W p l e R s m args below meth c H locs cells slots Q (F0 m (pc + 3) ls (.int (M 29 i 0) :: rest))) : W p l e R s m args below meth c H locs cells slots Q (F0 m pc ls (.ref (xad g 29 i) :: rest)) :=
  x_get hx hb hts inT_X4 hown hK hP he (xc29 g i) rfl 0 (by decide) (List.mem_cons_of_mem _ wd_822) rfl rfl rfl rfl hdg kk
theorem gf_RX10_309 (hx : p.tables.exec = Jvm.exec) (hb : c.code = cc) (hts : ∀ w ∈ c0 :: wsL_law, w.before args s = true) (hown : s.vm.findClass RX10 = some m.cls) (hK : xK g s) (hP : xP g L M H) (he : (29, i) ∈ L) (hdg : decode cc pc = .ok (.getfield 309, 3)) (kk : W p l e R s m args below meth c H locs cells slots Q (F0 m (pc + 3) ls (.int (M 29 i 7) :: rest))) : W p l e R s m args below meth c H locs cells slots Q (F0 m pc ls (.ref (xad g 29 i) :: rest)) :=
  x_get hx hb hts inT_X4 hown hK hP he (xc29 g i) rfl 7 (by decide) (List.mem_cons_of_mem _ wd_876) rfl rfl rfl rfl hdg kk
theorem gf_RX10_338 (hx : p.tables.exec = Jvm.exec) (hb : c.code = cc) (hts : ∀ w ∈ c0 :: wsL_law, w.before args s = true) (hown : s.vm.findClass RX10 = some m.cls) (hK : xK g s) (hP : xP g L M H) (he : (11, i) ∈ L) (hdg : decode cc pc = .ok (.getfield 338, 3)) (kk : W p l e R s m args below meth c H locs cells slots Q (F0 m (pc + 3) ls (.int (M 11 i 5) :: rest))) : W p l e R s m args below meth c H locs cells slots Q (F0 m pc ls (.ref (xad g 11 i) :: rest)) :=
  x_get hx hb hts inT_X3 hown hK hP he (xc11 g i) rfl 5 (by decide) (List.mem_cons_of_mem _ wd_922) rfl rfl rfl rfl hdg kk
theorem gf_RX10_341 (hx : p.tables.exec = Jvm.exec) (hb : c.code = cc) (hts : ∀ w ∈ c0 :: wsL_law, w.before args s = true) (hown : s.vm.findClass RX10 = some m.cls) (hK : xK g s) (hP : xP g L M H) (he : (11, i) ∈ L) (hdg : decode cc pc = .ok (.getfield 341, 3)) (kk : W p l e R s m args below meth c H locs cells slots Q (F0 m (pc + 3) ls (.int (M 11 i 6) :: rest))) : W p l e R s m args below meth c H locs cells slots Q (F0 m pc ls (.ref (xad g 11 i) :: rest)) :=
  x_get hx hb hts inT_X3 hown hK hP he (xc11 g i) rfl 6 (by decide) (List.mem_cons_of_mem _ wd_923) rfl rfl rfl rfl hdg kk
theorem gf_RX11_7 (hx : p.tables.exec = Jvm.exec) (hb : c.code = cc) (hts : ∀ w ∈ c0 :: wsL_law, w.before args s = true) (hown : s.vm.findClass RX11 = some m.cls) (hK : xK g s) (hP : xP g L M H) (he : (40, i) ∈ L) (hdg : decode cc pc = .ok (.getfield 7, 3)) (kk : W p l e R s m args below meth c H locs cells slots Q (F0 m (pc + 3) ls (.ref (xad g 52 0) :: rest))) : W p l e R s m args below meth c H locs cells slots Q (F0 m pc ls (.ref (xad g 40 i) :: rest)) :=
  x_get hx hb hts inT_X11 hown hK hP he (xc40 g i) rfl 2 (by decide) (List.mem_cons_of_mem _ wd_135) rfl rfl rfl rfl hdg kk
theorem gf_RX11_13 (hx : p.tables.exec = Jvm.exec) (hb : c.code = cc) (hts : ∀ w ∈ c0 :: wsL_law, w.before args s = true) (hown : s.vm.findClass RX11 = some m.cls) (hK : xK g s) (hP : xP g L M H) (he : (40, i) ∈ L) (hdg : decode cc pc = .ok (.getfield 13, 3)) (kk : W p l e R s m args below meth c H locs cells slots Q (F0 m (pc + 3) ls (.ref (xad g 53 0) :: rest))) : W p l e R s m args below meth c H locs cells slots Q (F0 m pc ls (.ref (xad g 40 i) :: rest)) :=
  x_get hx hb hts inT_X11 hown hK hP he (xc40 g i) rfl 3 (by decide) (List.mem_cons_of_mem _ wd_136) rfl rfl rfl rfl hdg kk
theorem gf_RX11_16 (hx : p.tables.exec = Jvm.exec) (hb : c.code = cc) (hts : ∀ w ∈ c0 :: wsL_law, w.before args s = true) (hown : s.vm.findClass RX11 = some m.cls) (hK : xK g s) (hP : xP g L M H) (he : (40, i) ∈ L) (hdg : decode cc pc = .ok (.getfield 16, 3)) (kk : W p l e R s m args below meth c H locs cells slots Q (F0 m (pc + 3) ls (.ref (xad g 54 0) :: rest))) : W p l e R s m args below meth c H locs cells slots Q (F0 m pc ls (.ref (xad g 40 i) :: rest)) :=
  x_get hx hb hts inT_X11 hown hK hP he (xc40 g i) rfl 4 (by decide) (List.mem_cons_of_mem _ wd_137) rfl rfl rfl rfl hdg kk
theorem gf_RX11_19 (hx : p.tables.exec = Jvm.exec) (hb : c.code = cc) (hts : ∀ w ∈ c0 :: wsL_law, w.before args s = true) (hown : s.vm.findClass RX11 = some m.cls) (hK : xK g s) (hP : xP g L M H) (he : (40, i) ∈ L) (hdg : decode cc pc = .ok (.getfield 19, 3)) (kk : W p l e R s m args below meth c H locs cells slots Q (F0 m (pc + 3) ls (.ref (xad g 55 0) :: rest))) : W p l e R s m args below meth c H locs cells slots Q (F0 m pc ls (.ref (xad g 40 i) :: rest)) :=
  x_get hx hb hts inT_X11 hown hK hP he (xc40 g i) rfl 5 (by decide) (List.mem_cons_of_mem _ wd_138) rfl rfl rfl rfl hdg kk
theorem gf_RX11_22 (hx : p.tables.exec = Jvm.exec) (hb : c.code = cc) (hts : ∀ w ∈ c0 :: wsL_law, w.before args s = true) (hown : s.vm.findClass RX11 = some m.cls) (hK : xK g s) (hP : xP g L M H) (he : (40, i) ∈ L) (hdg : decode cc pc = .ok (.getfield 22, 3)) (kk : W p l e R s m args below meth c H locs cells slots Q (F0 m (pc + 3) ls (.ref (xad g 56 0) :: rest))) : W p l e R s m args below meth c H locs cells slots Q (F0 m pc ls (.ref (xad g 40 i) :: rest)) :=
  x_get hx hb hts inT_X11 hown hK hP he (xc40 g i) rfl 6 (by decide) (List.mem_cons_of_mem _ wd_139) rfl rfl rfl rfl hdg kk
theorem gf_RX11_25 (hx : p.tables.exec = Jvm.exec) (hb : c.code = cc) (hts : ∀ w ∈ c0 :: wsL_law, w.before args s = true) (hown : s.vm.findClass RX11 = some m.cls) (hK : xK g s) (hP : xP g L M H) (he : (40, i) ∈ L) (hdg : decode cc pc = .ok (.getfield 25, 3)) (kk : W p l e R s m args below meth c H locs cells slots Q (F0 m (pc + 3) ls (.ref (xad g 58 0) :: rest))) : W p l e R s m args below meth c H locs cells slots Q (F0 m pc ls (.ref (xad g 40 i) :: rest)) :=
  x_get hx hb hts inT_X11 hown hK hP he (xc40 g i) rfl 8 (by decide) (List.mem_cons_of_mem _ wd_140) rfl rfl rfl rfl hdg kk
theorem gf_RX11_28 (hx : p.tables.exec = Jvm.exec) (hb : c.code = cc) (hts : ∀ w ∈ c0 :: wsL_law, w.before args s = true) (hown : s.vm.findClass RX11 = some m.cls) (hK : xK g s) (hP : xP g L M H) (he : (40, i) ∈ L) (hdg : decode cc pc = .ok (.getfield 28, 3)) (kk : W p l e R s m args below meth c H locs cells slots Q (F0 m (pc + 3) ls (.ref (xad g 59 0) :: rest))) : W p l e R s m args below meth c H locs cells slots Q (F0 m pc ls (.ref (xad g 40 i) :: rest)) :=
  x_get hx hb hts inT_X11 hown hK hP he (xc40 g i) rfl 9 (by decide) (List.mem_cons_of_mem _ wd_141) rfl rfl rfl rfl hdg kk
theorem gf_RX11_31 (hx : p.tables.exec = Jvm.exec) (hb : c.code = cc) (hts : ∀ w ∈ c0 :: wsL_law, w.before args s = true) (hown : s.vm.findClass RX11 = some m.cls) (hK : xK g s) (hP : xP g L M H) (he : (40, i) ∈ L) (hdg : decode cc pc = .ok (.getfield 31, 3)) (kk : W p l e R s m args below meth c H locs cells slots Q (F0 m (pc + 3) ls (.ref (xad g 60 0) :: rest))) : W p l e R s m args below meth c H locs cells slots Q (F0 m pc ls (.ref (xad g 40 i) :: rest)) :=
  x_get hx hb hts inT_X11 hown hK hP he (xc40 g i) rfl 10 (by decide) (List.mem_cons_of_mem _ wd_142) rfl rfl rfl rfl hdg kk
theorem gf_RX11_34 (hx : p.tables.exec = Jvm.exec) (hb : c.code = cc) (hts : ∀ w ∈ c0 :: wsL_law, w.before args s = true) (hown : s.vm.findClass RX11 = some m.cls) (hK : xK g s) (hP : xP g L M H) (he : (40, i) ∈ L) (hdg : decode cc pc = .ok (.getfield 34, 3)) (kk : W p l e R s m args below meth c H locs cells slots Q (F0 m (pc + 3) ls (.ref (xad g 61 0) :: rest))) : W p l e R s m args below meth c H locs cells slots Q (F0 m pc ls (.ref (xad g 40 i) :: rest)) :=
  x_get hx hb hts inT_X11 hown hK hP he (xc40 g i) rfl 11 (by decide) (List.mem_cons_of_mem _ wd_144) rfl rfl rfl rfl hdg kk
theorem gf_RX11_38 (hx : p.tables.exec = Jvm.exec) (hb : c.code = cc) (hts : ∀ w ∈ c0 :: wsL_law, w.before args s = true) (hown : s.vm.findClass RX11 = some m.cls) (hK : xK g s) (hP : xP g L M H) (he : (40, i) ∈ L) (hdg : decode cc pc = .ok (.getfield 38, 3)) (kk : W p l e R s m args below meth c H locs cells slots Q (F0 m (pc + 3) ls (.ref (xad g 62 0) :: rest))) : W p l e R s m args below meth c H locs cells slots Q (F0 m pc ls (.ref (xad g 40 i) :: rest)) :=
  x_get hx hb hts inT_X11 hown hK hP he (xc40 g i) rfl 12 (by decide) (List.mem_cons_of_mem _ wd_145) rfl rfl rfl rfl hdg kk
theorem gf_RX11_41 (hx : p.tables.exec = Jvm.exec) (hb : c.code = cc) (hts : ∀ w ∈ c0 :: wsL_law, w.before args s = true) (hown : s.vm.findClass RX11 = some m.cls) (hK : xK g s) (hP : xP g L M H) (he : (40, i) ∈ L) (hdg : decode cc pc = .ok (.getfield 41, 3)) (kk : W p l e R s m args below meth c H locs cells slots Q (F0 m (pc + 3) ls (.ref (xad g 65 0) :: rest))) : W p l e R s m args below meth c H locs cells slots Q (F0 m pc ls (.ref (xad g 40 i) :: rest)) :=
  x_get hx hb hts inT_X11 hown hK hP he (xc40 g i) rfl 15 (by decide) (List.mem_cons_of_mem _ wd_146) rfl rfl rfl rfl hdg kk
theorem gf_RX11_44 (hx : p.tables.exec = Jvm.exec) (hb : c.code = cc) (hts : ∀ w ∈ c0 :: wsL_law, w.before args s = true) (hown : s.vm.findClass RX11 = some m.cls) (hK : xK g s) (hP : xP g L M H) (he : (40, i) ∈ L) (hdg : decode cc pc = .ok (.getfield 44, 3)) (kk : W p l e R s m args below meth c H locs cells slots Q (F0 m (pc + 3) ls (.ref (xad g 66 0) :: rest))) : W p l e R s m args below meth c H locs cells slots Q (F0 m pc ls (.ref (xad g 40 i) :: rest)) :=
  x_get hx hb hts inT_X11 hown hK hP he (xc40 g i) rfl 16 (by decide) (List.mem_cons_of_mem _ wd_147) rfl rfl rfl rfl hdg kk
theorem gf_RX11_47 (hx : p.tables.exec = Jvm.exec) (hb : c.code = cc) (hts : ∀ w ∈ c0 :: wsL_law, w.before args s = true) (hown : s.vm.findClass RX11 = some m.cls) (hK : xK g s) (hP : xP g L M H) (he : (40, i) ∈ L) (hdg : decode cc pc = .ok (.getfield 47, 3)) (kk : W p l e R s m args below meth c H locs cells slots Q (F0 m (pc + 3) ls (.ref (xad g 67 0) :: rest))) : W p l e R s m args below meth c H locs cells slots Q (F0 m pc ls (.ref (xad g 40 i) :: rest)) :=
  x_get hx hb hts inT_X11 hown hK hP he (xc40 g i) rfl 17 (by decide) (List.mem_cons_of_mem _ wd_148) rfl rfl rfl rfl hdg kk
theorem gf_RX11_50 (hx : p.tables.exec = Jvm.exec) (hb : c.code = cc) (hts : ∀ w ∈ c0 :: wsL_law, w.before args s = true) (hown : s.vm.findClass RX11 = some m.cls) (hK : xK g s) (hP : xP g L M H) (he : (40, i) ∈ L) (hdg : decode cc pc = .ok (.getfield 50, 3)) (kk : W p l e R s m args below meth c H locs cells slots Q (F0 m (pc + 3) ls (.ref (xad g 68 0) :: rest))) : W p l e R s m args below meth c H locs cells slots Q (F0 m pc ls (.ref (xad g 40 i) :: rest)) :=
  x_get hx hb hts inT_X11 hown hK hP he (xc40 g i) rfl 18 (by decide) (List.mem_cons_of_mem _ wd_149) rfl rfl rfl rfl hdg kk
theorem gf_RX11_53 (hx : p.tables.exec = Jvm.exec) (hb : c.code = cc) (hts : ∀ w ∈ c0 :: wsL_law, w.before args s = true) (hown : s.vm.findClass RX11 = some m.cls) (hK : xK g s) (hP : xP g L M H) (he : (40, i) ∈ L) (hdg : decode cc pc = .ok (.getfield 53, 3)) (kk : W p l e R s m args below meth c H locs cells slots Q (F0 m (pc + 3) ls (.ref (xad g 70 0) :: rest))) : W p l e R s m args below meth c H locs cells slots Q (F0 m pc ls (.ref (xad g 40 i) :: rest)) :=
  x_get hx hb hts inT_X11 hown hK hP he (xc40 g i) rfl 20 (by decide) (List.mem_cons_of_mem _ wd_150) rfl rfl rfl rfl hdg kk
theorem gf_RX11_56 (hx : p.tables.exec = Jvm.exec) (hb : c.code = cc) (hts : ∀ w ∈ c0 :: wsL_law, w.before args s = true) (hown : s.vm.findClass RX11 = some m.cls) (hK : xK g s) (hP : xP g L M H) (he : (40, i) ∈ L) (hdg : decode cc pc = .ok (.getfield 56, 3)) (kk : W p l e R s m args below meth c H locs cells slots Q (F0 m (pc + 3) ls (.ref (xad g 81 0) :: rest))) : W p l e R s m args below meth c H locs cells slots Q (F0 m pc ls (.ref (xad g 40 i) :: rest)) :=
  x_get hx hb hts inT_X11 hown hK hP he (xc40 g i) rfl 31 (by decide) (List.mem_cons_of_mem _ wd_151) rfl rfl rfl rfl hdg kk
theorem gf_RX11_59 (hx : p.tables.exec = Jvm.exec) (hb : c.code = cc) (hts : ∀ w ∈ c0 :: wsL_law, w.before args s = true) (hown : s.vm.findClass RX11 = some m.cls) (hK : xK g s) (hP : xP g L M H) (he : (40, i) ∈ L) (hdg : decode cc pc = .ok (.getfield 59, 3)) (kk : W p l e R s m args below meth c H locs cells slots Q (F0 m (pc + 3) ls (.ref (xad g 82 0) :: rest))) : W p l e R s m args below meth c H locs cells slots Q (F0 m pc ls (.ref (xad g 40 i) :: rest)) :=
  x_get hx hb hts inT_X11 hown hK hP he (xc40 g i) rfl 32 (by decide) (List.mem_cons_of_mem _ wd_152) rfl rfl rfl rfl hdg kk
theorem gf_RX11_62 (hx : p.tables.exec = Jvm.exec) (hb : c.code = cc) (hts : ∀ w ∈ c0 :: wsL_law, w.before args s = true) (hown : s.vm.findClass RX11 = some m.cls) (hK : xK g s) (hP : xP g L M H) (he : (40, i) ∈ L) (hdg : decode cc pc = .ok (.getfield 62, 3)) (kk : W p l e R s m args below meth c H locs cells slots Q (F0 m (pc + 3) ls (.ref (xad g 83 0) :: rest))) : W p l e R s m args below meth c H locs cells slots Q (F0 m pc ls (.ref (xad g 40 i) :: rest)) :=
  x_get hx hb hts inT_X11 hown hK hP he (xc40 g i) rfl 33 (by decide) (List.mem_cons_of_mem _ wd_153) rfl rfl rfl rfl hdg kk
theorem gf_RX11_65 (hx : p.tables.exec = Jvm.exec) (hb : c.code = cc) (hts : ∀ w ∈ c0 :: wsL_law, w.before args s = true) (hown : s.vm.findClass RX11 = some m.cls) (hK : xK g s) (hP : xP g L M H) (he : (40, i) ∈ L) (hdg : decode cc pc = .ok (.getfield 65, 3)) (kk : W p l e R s m args below meth c H locs cells slots Q (F0 m (pc + 3) ls (.ref (xad g 84 0) :: rest))) : W p l e R s m args below meth c H locs cells slots Q (F0 m pc ls (.ref (xad g 40 i) :: rest)) :=
  x_get hx hb hts inT_X11 hown hK hP he (xc40 g i) rfl 34 (by decide) (List.mem_cons_of_mem _ wd_154) rfl rfl rfl rfl hdg kk
theorem gf_RX11_68 (hx : p.tables.exec = Jvm.exec) (hb : c.code = cc) (hts : ∀ w ∈ c0 :: wsL_law, w.before args s = true) (hown : s.vm.findClass RX11 = some m.cls) (hK : xK g s) (hP : xP g L M H) (he : (40, i) ∈ L) (hdg : decode cc pc = .ok (.getfield 68, 3)) (kk : W p l e R s m args below meth c H locs cells slots Q (F0 m (pc + 3) ls (.ref (xad g 85 0) :: rest))) : W p l e R s m args below meth c H locs cells slots Q (F0 m pc ls (.ref (xad g 40 i) :: rest)) :=
  x_get hx hb hts inT_X11 hown hK hP he (xc40 g i) rfl 35 (by decide) (List.mem_cons_of_mem _ wd_155) rfl rfl rfl rfl hdg kk
theorem gf_RX11_71 (hx : p.tables.exec = Jvm.exec) (hb : c.code = cc) (hts : ∀ w ∈ c0 :: wsL_law, w.before args s = true) (hown : s.vm.findClass RX11 = some m.cls) (hK : xK g s) (hP : xP g L M H) (he : (40, i) ∈ L) (hdg : decode cc pc = .ok (.getfield 71, 3)) (kk : W p l e R s m args below meth c H locs cells slots Q (F0 m (pc + 3) ls (.ref (xad g 86 0) :: rest))) : W p l e R s m args below meth c H locs cells slots Q (F0 m pc ls (.ref (xad g 40 i) :: rest)) :=
  x_get hx hb hts inT_X11 hown hK hP he (xc40 g i) rfl 36 (by decide) (List.mem_cons_of_mem _ wd_156) rfl rfl rfl rfl hdg kk
theorem gf_RX11_74 (hx : p.tables.exec = Jvm.exec) (hb : c.code = cc) (hts : ∀ w ∈ c0 :: wsL_law, w.before args s = true) (hown : s.vm.findClass RX11 = some m.cls) (hK : xK g s) (hP : xP g L M H) (he : (40, i) ∈ L) (hdg : decode cc pc = .ok (.getfield 74, 3)) (kk : W p l e R s m args below meth c H locs cells slots Q (F0 m (pc + 3) ls (.ref (xad g 87 0) :: rest))) : W p l e R s m args below meth c H locs cells slots Q (F0 m pc ls (.ref (xad g 40 i) :: rest)) :=
  x_get hx hb hts inT_X11 hown hK hP he (xc40 g i) rfl 37 (by decide) (List.mem_cons_of_mem _ wd_157) rfl rfl rfl rfl hdg kk
theorem gf_RX11_77 (hx : p.tables.exec = Jvm.exec) (hb : c.code = cc) (hts : ∀ w ∈ c0 :: wsL_law, w.before args s = true) (hown : s.vm.findClass RX11 = some m.cls) (hK : xK g s) (hP : xP g L M H) (he : (40, i) ∈ L) (hdg : decode cc pc = .ok (.getfield 77, 3)) (kk : W p l e R s m args below meth c H locs cells slots Q (F0 m (pc + 3) ls (.ref (xad g 88 0) :: rest))) : W p l e R s m args below meth c H locs cells slots Q (F0 m pc ls (.ref (xad g 40 i) :: rest)) :=
  x_get hx hb hts inT_X11 hown hK hP he (xc40 g i) rfl 38 (by decide) (List.mem_cons_of_mem _ wd_158) rfl rfl rfl rfl hdg kk
theorem gf_RX11_80 (hx : p.tables.exec = Jvm.exec) (hb : c.code = cc) (hts : ∀ w ∈ c0 :: wsL_law, w.before args s = true) (hown : s.vm.findClass RX11 = some m.cls) (hK : xK g s) (hP : xP g L M H) (he : (40, i) ∈ L) (hdg : decode cc pc = .ok (.getfield 80, 3)) (kk : W p l e R s m args below meth c H locs cells slots Q (F0 m (pc + 3) ls (.ref (xad g 89 0) :: rest))) : W p l e R s m args below meth c H locs cells slots Q (F0 m pc ls (.ref (xad g 40 i) :: rest)) :=
  x_get hx hb hts inT_X11 hown hK hP he (xc40 g i) rfl 39 (by decide) (List.mem_cons_of_mem _ wd_159) rfl rfl rfl rfl hdg kk
theorem gf_RX11_83 (hx : p.tables.exec = Jvm.exec) (hb : c.code = cc) (hts : ∀ w ∈ c0 :: wsL_law, w.before args s = true) (hown : s.vm.findClass RX11 = some m.cls) (hK : xK g s) (hP : xP g L M H) (he : (40, i) ∈ L) (hdg : decode cc pc = .ok (.getfield 83, 3)) (kk : W p l e R s m args below meth c H locs cells slots Q (F0 m (pc + 3) ls (.ref (xad g 90 0) :: rest))) : W p l e R s m args below meth c H locs cells slots Q (F0 m pc ls (.ref (xad g 40 i) :: rest)) :=
  x_get hx hb hts inT_X11 hown hK hP he (xc40 g i) rfl 40 (by decide) (List.mem_cons_of_mem _ wd_160) rfl rfl rfl rfl hdg kk
theorem gf_RX11_86 (hx : p.tables.exec = Jvm.exec) (hb : c.code = cc) (hts : ∀ w ∈ c0 :: wsL_law, w.before args s = true) (hown : s.vm.findClass RX11 = some m.cls) (hK : xK g s) (hP : xP g L M H) (he : (40, i) ∈ L) (hdg : decode cc pc = .ok (.getfield 86, 3)) (kk : W p l e R s m args below meth c H locs cells slots Q (F0 m (pc + 3) ls (.ref (xad g 91 0) :: rest))) : W p l e R s m args below meth c H locs cells slots Q (F0 m pc ls (.ref (xad g 40 i) :: rest)) :=
  x_get hx hb hts inT_X11 hown hK hP he (xc40 g i) rfl 41 (by decide) (List.mem_cons_of_mem _ wd_161) rfl rfl rfl rfl hdg kk
theorem gf_RX11_89 (hx : p.tables.exec = Jvm.exec) (hb : c.code = cc) (hts : ∀ w ∈ c0 :: wsL_law, w.before args s = true) (hown : s.vm.findClass RX11 = some m.cls) (hK : xK g s) (hP : xP g L M H) (he : (40, i) ∈ L) (hdg : decode cc pc = .ok (.getfield 89, 3)) (kk : W p l e R s m args below meth c H locs cells slots Q (F0 m (pc + 3) ls (.ref (xad g 92 0) :: rest))) : W p l e R s m args below meth c H locs cells slots Q (F0 m pc ls (.ref (xad g 40 i) :: rest)) :=
  x_get hx hb hts inT_X11 hown hK hP he (xc40 g i) rfl 42 (by decide) (List.mem_cons_of_mem _ wd_162) rfl rfl rfl rfl hdg kk
theorem gf_RX11_92 (hx : p.tables.exec = Jvm.exec) (hb : c.code = cc) (hts : ∀ w ∈ c0 :: wsL_law, w.before args s = true) (hown : s.vm.findClass RX11 = some m.cls) (hK : xK g s) (hP : xP g L M H) (he : (40, i) ∈ L) (hdg : decode cc pc = .ok (.getfield 92, 3)) (kk : W p l e R s m args below meth c H locs cells slots Q (F0 m (pc + 3) ls (.ref (xad g 93 0) :: rest))) : W p l e R s m args below meth c H locs cells slots Q (F0 m pc ls (.ref (xad g 40 i) :: rest)) :=
  x_get hx hb hts inT_X11 hown hK hP he (xc40 g i) rfl 43 (by decide) (List.mem_cons_of_mem _ wd_163) rfl rfl rfl rfl hdg kk
theorem gf_RX11_95 (hx : p.tables.exec = Jvm.exec) (hb : c.code = cc) (hts : ∀ w ∈ c0 :: wsL_law, w.before args s = true) (hown : s.vm.findClass RX11 = some m.cls) (hK : xK g s) (hP : xP g L M H) (he : (40, i) ∈ L) (hdg : decode cc pc = .ok (.getfield 95, 3)) (kk : W p l e R s m args below meth c H locs cells slots Q (F0 m (pc + 3) ls (.ref (xad g 94 0) :: rest))) : W p l e R s m args below meth c H locs cells slots Q (F0 m pc ls (.ref (xad g 40 i) :: rest)) :=
  x_get hx hb hts inT_X11 hown hK hP he (xc40 g i) rfl 44 (by decide) (List.mem_cons_of_mem _ wd_164) rfl rfl rfl rfl hdg kk
theorem gf_RX11_98 (hx : p.tables.exec = Jvm.exec) (hb : c.code = cc) (hts : ∀ w ∈ c0 :: wsL_law, w.before args s = true) (hown : s.vm.findClass RX11 = some m.cls) (hK : xK g s) (hP : xP g L M H) (he : (40, i) ∈ L) (hdg : decode cc pc = .ok (.getfield 98, 3)) (kk : W p l e R s m args below meth c H locs cells slots Q (F0 m (pc + 3) ls (.ref (xad g 95 0) :: rest))) : W p l e R s m args below meth c H locs cells slots Q (F0 m pc ls (.ref (xad g 40 i) :: rest)) :=
  x_get hx hb hts inT_X11 hown hK hP he (xc40 g i) rfl 45 (by decide) (List.mem_cons_of_mem _ wd_165) rfl rfl rfl rfl hdg kk
theorem gf_RX11_101 (hx : p.tables.exec = Jvm.exec) (hb : c.code = cc) (hts : ∀ w ∈ c0 :: wsL_law, w.before args s = true) (hown : s.vm.findClass RX11 = some m.cls) (hK : xK g s) (hP : xP g L M H) (he : (40, i) ∈ L) (hdg : decode cc pc = .ok (.getfield 101, 3)) (kk : W p l e R s m args below meth c H locs cells slots Q (F0 m (pc + 3) ls (.ref (xad g 96 0) :: rest))) : W p l e R s m args below meth c H locs cells slots Q (F0 m pc ls (.ref (xad g 40 i) :: rest)) :=
  x_get hx hb hts inT_X11 hown hK hP he (xc40 g i) rfl 46 (by decide) (List.mem_cons_of_mem _ wd_166) rfl rfl rfl rfl hdg kk
theorem gf_RX11_104 (hx : p.tables.exec = Jvm.exec) (hb : c.code = cc) (hts : ∀ w ∈ c0 :: wsL_law, w.before args s = true) (hown : s.vm.findClass RX11 = some m.cls) (hK : xK g s) (hP : xP g L M H) (he : (40, i) ∈ L) (hdg : decode cc pc = .ok (.getfield 104, 3)) (kk : W p l e R s m args below meth c H locs cells slots Q (F0 m (pc + 3) ls (.ref (xad g 97 0) :: rest))) : W p l e R s m args below meth c H locs cells slots Q (F0 m pc ls (.ref (xad g 40 i) :: rest)) :=
  x_get hx hb hts inT_X11 hown hK hP he (xc40 g i) rfl 47 (by decide) (List.mem_cons_of_mem _ wd_167) rfl rfl rfl rfl hdg kk
theorem gf_RX11_107 (hx : p.tables.exec = Jvm.exec) (hb : c.code = cc) (hts : ∀ w ∈ c0 :: wsL_law, w.before args s = true) (hown : s.vm.findClass RX11 = some m.cls) (hK : xK g s) (hP : xP g L M H) (he : (40, i) ∈ L) (hdg : decode cc pc = .ok (.getfield 107, 3)) (kk : W p l e R s m args below meth c H locs cells slots Q (F0 m (pc + 3) ls (.ref (xad g 98 0) :: rest))) : W p l e R s m args below meth c H locs cells slots Q (F0 m pc ls (.ref (xad g 40 i) :: rest)) :=
  x_get hx hb hts inT_X11 hown hK hP he (xc40 g i) rfl 48 (by decide) (List.mem_cons_of_mem _ wd_168) rfl rfl rfl rfl hdg kk
theorem gf_RX11_110 (hx : p.tables.exec = Jvm.exec) (hb : c.code = cc) (hts : ∀ w ∈ c0 :: wsL_law, w.before args s = true) (hown : s.vm.findClass RX11 = some m.cls) (hK : xK g s) (hP : xP g L M H) (he : (40, i) ∈ L) (hdg : decode cc pc = .ok (.getfield 110, 3)) (kk : W p l e R s m args below meth c H locs cells slots Q (F0 m (pc + 3) ls (.ref (xad g 99 0) :: rest))) : W p l e R s m args below meth c H locs cells slots Q (F0 m pc ls (.ref (xad g 40 i) :: rest)) :=
  x_get hx hb hts inT_X11 hown hK hP he (xc40 g i) rfl 49 (by decide) (List.mem_cons_of_mem _ wd_169) rfl rfl rfl rfl hdg kk
theorem gf_RX11_117 (hx : p.tables.exec = Jvm.exec) (hb : c.code = cc) (hts : ∀ w ∈ c0 :: wsL_law, w.before args s = true) (hown : s.vm.findClass RX11 = some m.cls) (hK : xK g s) (hP : xP g L M H) (he : (40, i) ∈ L) (hdg : decode cc pc = .ok (.getfield 117, 3)) (kk : W p l e R s m args below meth c H locs cells slots Q (F0 m (pc + 3) ls (.int (M 40 i 1) :: rest))) : W p l e R s m args below meth c H locs cells slots Q (F0 m pc ls (.ref (xad g 40 i) :: rest)) :=
  x_get hx hb hts inT_X11 hown hK hP he (xc40 g i) rfl 1 (by decide) (List.mem_cons_of_mem _ wd_203) rfl rfl rfl rfl hdg kk
theorem gf_RX11_150 (hx : p.tables.exec = Jvm.exec) (hb : c.code = cc) (hts : ∀ w ∈ c0 :: wsL_law, w.before args s = true) (hown : s.vm.findClass RX11 = some m.cls) (hK : xK g s) (hP : xP g L M H) (he : (40, i) ∈ L) (hdg : decode cc pc = .ok (.getfield 150, 3)) (kk : W p l e R s m args below meth c H locs cells slots Q (F0 m (pc + 3) ls (.int (M 40 i 7) :: rest))) : W p l e R s m args below meth c H locs cells slots Q (F0 m pc ls (.ref (xad g 40 i) :: rest)) :=
  x_get hx hb hts inT_X11 hown hK hP he (xc40 g i) rfl 7 (by decide) (List.mem_cons_of_mem _ wd_327) rfl rfl rfl rfl hdg kk
theorem gf_RX11_167 (hx : p.tables.exec = Jvm.exec) (hb : c.code = cc) (hts : ∀ w ∈ c0 :: wsL_law, w.before args s = true) (hown : s.vm.findClass RX11 = some m.cls) (hK : xK g s) (hP : xP g L M H) (he : (40, i) ∈ L) (hdg : decode cc pc = .ok (.getfield 167, 3)) (kk : W p l e R s m args below meth c H locs cells slots Q (F0 m (pc + 3) ls (.int (M 40 i 13) :: rest))) : W p l e R s m args below meth c H locs cells slots Q (F0 m pc ls (.ref (xad g 40 i) :: rest)) :=
  x_get hx hb hts inT_X11 hown hK hP he (xc40 g i) rfl 13 (by decide) (List.mem_cons_of_mem _ wd_396) rfl rfl rfl rfl hdg kk
theorem gf_RX11_172 (hx : p.tables.exec = Jvm.exec) (hb : c.code = cc) (hts : ∀ w ∈ c0 :: wsL_law, w.before args s = true) (hown : s.vm.findClass RX11 = some m.cls) (hK : xK g s) (hP : xP g L M H) (he : (40, i) ∈ L) (hdg : decode cc pc = .ok (.getfield 172, 3)) (kk : W p l e R s m args below meth c H locs cells slots Q (F0 m (pc + 3) ls (.int (M 40 i 21) :: rest))) : W p l e R s m args below meth c H locs cells slots Q (F0 m pc ls (.ref (xad g 40 i) :: rest)) :=
  x_get hx hb hts inT_X11 hown hK hP he (xc40 g i) rfl 21 (by decide) (List.mem_cons_of_mem _ wd_416) rfl rfl rfl rfl hdg kk
theorem gf_RX11_175 (hx : p.tables.exec = Jvm.exec) (hb : c.code = cc) (hts : ∀ w ∈ c0 :: wsL_law, w.before args s = true) (hown : s.vm.findClass RX11 = some m.cls) (hK : xK g s) (hP : xP g L M H) (he : (40, i) ∈ L) (hdg : decode cc pc = .ok (.getfield 175, 3)) (kk : W p l e R s m args below meth c H locs cells slots Q (F0 m (pc + 3) ls (.int (M 40 i 23) :: rest))) : W p l e R s m args below meth c H locs cells slots Q (F0 m pc ls (.ref (xad g 40 i) :: rest)) :=
  x_get hx hb hts inT_X11 hown hK hP he (xc40 g i) rfl 23 (by decide) (List.mem_cons_of_mem _ wd_560) rfl rfl rfl rfl hdg kk
theorem gf_RX11_178 (hx : p.tables.exec = Jvm.exec) (hb : c.code = cc) (hts : ∀ w ∈ c0 :: wsL_law, w.before args s = true) (hown : s.vm.findClass RX11 = some m.cls) (hK : xK g s) (hP : xP g L M H) (he : (40, i) ∈ L) (hdg : decode cc pc = .ok (.getfield 178, 3)) (kk : W p l e R s m args below meth c H locs cells slots Q (F0 m (pc + 3) ls (.int (M 40 i 24) :: rest))) : W p l e R s m args below meth c H locs cells slots Q (F0 m pc ls (.ref (xad g 40 i) :: rest)) :=
  x_get hx hb hts inT_X11 hown hK hP he (xc40 g i) rfl 24 (by decide) (List.mem_cons_of_mem _ wd_561) rfl rfl rfl rfl hdg kk
theorem gf_RX11_184 (hx : p.tables.exec = Jvm.exec) (hb : c.code = cc) (hts : ∀ w ∈ c0 :: wsL_law, w.before args s = true) (hown : s.vm.findClass RX11 = some m.cls) (hK : xK g s) (hP : xP g L M H) (he : (40, i) ∈ L) (hdg : decode cc pc = .ok (.getfield 184, 3)) (kk : W p l e R s m args below meth c H locs cells slots Q (F0 m (pc + 3) ls (.int (M 40 i 26) :: rest))) : W p l e R s m args below meth c H locs cells slots Q (F0 m pc ls (.ref (xad g 40 i) :: rest)) :=
  x_get hx hb hts inT_X11 hown hK hP he (xc40 g i) rfl 26 (by decide) (List.mem_cons_of_mem _ wd_574) rfl rfl rfl rfl hdg kk
theorem gf_RX11_187 (hx : p.tables.exec = Jvm.exec) (hb : c.code = cc) (hts : ∀ w ∈ c0 :: wsL_law, w.before args s = true) (hown : s.vm.findClass RX11 = some m.cls) (hK : xK g s) (hP : xP g L M H) (he : (40, i) ∈ L) (hdg : decode cc pc = .ok (.getfield 187, 3)) (kk : W p l e R s m args below meth c H locs cells slots Q (F0 m (pc + 3) ls (.int (M 40 i 25) :: rest))) : W p l e R s m args below meth c H locs cells slots Q (F0 m pc ls (.ref (xad g 40 i) :: rest)) :=
  x_get hx hb hts inT_X11 hown hK hP he (xc40 g i) rfl 25 (by decide) (List.mem_cons_of_mem _ wd_565) rfl rfl rfl rfl hdg kk
theorem gf_RX11_196 (hx : p.tables.exec = Jvm.exec) (hb : c.code = cc) (hts : ∀ w ∈ c0 :: wsL_law, w.before args s = true) (hown : s.vm.findClass RX11 = some m.cls) (hK : xK g s) (hP : xP g L M H) (he : (40, i) ∈ L) (hdg : decode cc pc = .ok (.getfield 196, 3)) (kk : W p l e R s m args below meth c H locs cells slots Q (F0 m (pc + 3) ls (.int (M 40 i 27) :: rest))) : W p l e R s m args below meth c H locs cells slots Q (F0 m pc ls (.ref (xad g 40 i) :: rest)) :=
  x_get hx hb hts inT_X11 hown hK hP he (xc40 g i) rfl 27 (by decide) (List.mem_cons_of_mem _ wd_575) rfl rfl rfl rfl hdg kk
theorem gf_RX11_199 (hx : p.tables.exec = Jvm.exec) (hb : c.code = cc) (hts : ∀ w ∈ c0 :: wsL_law, w.before args s = true) (hown : s.vm.findClass RX11 = some m.cls) (hK : xK g s) (hP : xP g L M H) (he : (40, i) ∈ L) (hdg : decode cc pc = .ok (.getfield 199, 3)) (kk : W p l e R s m args below meth c H locs cells slots Q (F0 m (pc + 3) ls (.int (M 40 i 28) :: rest))) : W p l e R s m args below meth c H locs cells slots Q (F0 m pc ls (.ref (xad g 40 i) :: rest)) :=
  x_get hx hb hts inT_X11 hown hK hP he (xc40 g i) rfl 28 (by decide) (List.mem_cons_of_mem _ wd_562) rfl rfl rfl rfl hdg kk
theorem gf_RX11_202 (hx : p.tables.exec = Jvm.exec) (hb : c.code = cc) (hts : ∀ w ∈ c0 :: wsL_law, w.before args s = true) (hown : s.vm.findClass RX11 = some m.cls) (hK : xK g s) (hP : xP g L M H) (he : (40, i) ∈ L) (hdg : decode cc pc = .ok (.getfield 202, 3)) (kk : W p l e R s m args below meth c H locs cells slots Q (F0 m (pc + 3) ls (.int (M 40 i 29) :: rest))) : W p l e R s m args below meth c H locs cells slots Q (F0 m pc ls (.ref (xad g 40 i) :: rest)) :=
  x_get hx hb hts inT_X11 hown hK hP he (xc40 g i) rfl 29 (by decide) (List.mem_cons_of_mem _ wd_569) rfl rfl rfl rfl hdg kk
theorem gf_RX11_230 (hx : p.tables.exec = Jvm.exec) (hb : c.code = cc) (hts : ∀ w ∈ c0 :: wsL_law, w.before args s = true) (hown : s.vm.findClass RX11 = some m.cls) (hK : xK g s) (hP : xP g L M H) (he : (40, i) ∈ L) (hdg : decode cc pc = .ok (.getfield 230, 3)) (kk : W p l e R s m args below meth c H locs cells slots Q (F0 m (pc + 3) ls (.int (M 40 i 19) :: rest))) : W p l e R s m args below meth c H locs cells slots Q (F0 m pc ls (.ref (xad g 40 i) :: rest)) :=
  x_get hx hb hts inT_X11 hown hK hP he (xc40 g i) rfl 19 (by decide) (List.mem_cons_of_mem _ wd_564) rfl rfl rfl rfl hdg kk
theorem gf_RX11_236 (hx : p.tables.exec = Jvm.exec) (hb : c.code = cc) (hts : ∀ w ∈ c0 :: wsL_law, w.before args s = true) (hown : s.vm.findClass RX11 = some m.cls) (hK : xK g s) (hP : xP g L M H) (he : (40, i) ∈ L) (hdg : decode cc pc = .ok (.getfield 236, 3)) (kk : W p l e R s m args below meth c H locs cells slots Q (F0 m (pc + 3) ls (.int (M 40 i 14) :: rest))) : W p l e R s m args below meth c H locs cells slots Q (F0 m pc ls (.ref (xad g 40 i) :: rest)) :=
  x_get hx hb hts inT_X11 hown hK hP he (xc40 g i) rfl 14 (by decide) (List.mem_cons_of_mem _ wd_563) rfl rfl rfl rfl hdg kk
theorem gf_RX11_244 (hx : p.tables.exec = Jvm.exec) (hb : c.code = cc) (hts : ∀ w ∈ c0 :: wsL_law, w.before args s = true) (hown : s.vm.findClass RX11 = some m.cls) (hK : xK g s) (hP : xP g L M H) (he : (40, i) ∈ L) (hdg : decode cc pc = .ok (.getfield 244, 3)) (kk : W p l e R s m args below meth c H locs cells slots Q (F0 m (pc + 3) ls (.int (M 40 i 22) :: rest))) : W p l e R s m args below meth c H locs cells slots Q (F0 m pc ls (.ref (xad g 40 i) :: rest)) :=
  x_get hx hb hts inT_X11 hown hK hP he (xc40 g i) rfl 22 (by decide) (List.mem_cons_of_mem _ wd_567) rfl rfl rfl rfl hdg kk
theorem gf_RX11_265 (hx : p.tables.exec = Jvm.exec) (hb : c.code = cc) (hts : ∀ w ∈ c0 :: wsL_law, w.before args s = true) (hown : s.vm.findClass RX11 = some m.cls) (hK : xK g s) (hP : xP g L M H) (he : (40, i) ∈ L) (hdg : decode cc pc = .ok (.getfield 265, 3)) (kk : W p l e R s m args below meth c H locs cells slots Q (F0 m (pc + 3) ls (.int (M 40 i 30) :: rest))) : W p l e R s m args below meth c H locs cells slots Q (F0 m pc ls (.ref (xad g 40 i) :: rest)) :=
  x_get hx hb hts inT_X11 hown hK hP he (xc40 g i) rfl 30 (by decide) (List.mem_cons_of_mem _ wd_708) rfl rfl rfl rfl hdg kk
theorem gf_RX11_321 (hx : p.tables.exec = Jvm.exec) (hb : c.code = cc) (hts : ∀ w ∈ c0 :: wsL_law, w.before args s = true) (hown : s.vm.findClass RX11 = some m.cls) (hK : xK g s) (hP : xP g L M H) (he : (40, i) ∈ L) (hdg : decode cc pc = .ok (.getfield 321, 3)) (kk : W p l e R s m args below meth c H locs cells slots Q (F0 m (pc + 3) ls (.int (M 40 i 50) :: rest))) : W p l e R s m args below meth c H locs cells slots Q (F0 m pc ls (.ref (xad g 40 i) :: rest)) :=
  x_get hx hb hts inT_X11 hown hK hP he (xc40 g i) rfl 50 (by decide) (List.mem_cons_of_mem _ wd_1047) rfl rfl rfl rfl hdg kk
theorem gf_RX2_11 (hx : p.tables.exec = Jvm.exec) (hb : c.code = cc) (hts : ∀ w ∈ c0 :: wsL_law, w.before args s = true) (hown : s.vm.findClass RX2 = some m.cls) (hK : xK g s) (hP : xP g L M H) (he : (4, i) ∈ L) (hdg : decode cc pc = .ok (.getfield 11, 3)) (kk : W p l e R s m args below meth c H locs cells slots Q (F0 m (pc + 3) ls (.ref (xad g 15 0) :: rest))) : W p l e R s m args below meth c H locs cells slots Q (F0 m pc ls (.ref (xad g 4 i) :: rest)) :=
  x_get hx hb hts inT_X2 hown hK hP he (xc4 g i) rfl 0 (by decide) (List.mem_cons_of_mem _ wd_79) rfl rfl rfl rfl hdg kk
theorem gf_RX2_15 (hx : p.tables.exec = Jvm.exec) (hb : c.code = cc) (hts : ∀ w ∈ c0 :: wsL_law, w.before args s = true) (hown : s.vm.findClass RX2 = some m.cls) (hK : xK g s) (hP : xP g L M H) (he : (4, i) ∈ L) (hdg : decode cc pc = .ok (.getfield 15, 3)) (kk : W p l e R s m args below meth c H locs cells slots Q (F0 m (pc + 3) ls (.ref (xad g 16 0) :: rest))) : W p l e R s m args below meth c H locs cells slots Q (F0 m pc ls (.ref (xad g 4 i) :: rest)) :=
  x_get hx hb hts inT_X2 hown hK hP he (xc4 g i) rfl 1 (by decide) (List.mem_cons_of_mem _ wd_80) rfl rfl rfl rfl hdg kk
theorem gf_RX2_18 (hx : p.tables.exec = Jvm.exec) (hb : c.code = cc) (hts : ∀ w ∈ c0 :: wsL_law, w.before args s = true) (hown : s.vm.findClass RX2 = some m.cls) (hK : xK g s) (hP : xP g L M H) (he : (4, i) ∈ L) (hdg : decode cc pc = .ok (.getfield 18, 3)) (kk : W p l e R s m args below meth c H locs cells slots Q (F0 m (pc + 3) ls (.ref (xad g 17 0) :: rest))) : W p l e R s m args below meth c H locs cells slots Q (F0 m pc ls (.ref (xad g 4 i) :: rest)) :=
  x_get hx hb hts inT_X2 hown hK hP he (xc4 g i) rfl 2 (by decide) (List.mem_cons_of_mem _ wd_81) rfl rfl rfl rfl hdg kk
theorem gf_RX2_21 (hx : p.tables.exec = Jvm.exec) (hb : c.code = cc) (hts : ∀ w ∈ c0 :: wsL_law, w.before args s = true) (hown : s.vm.findClass RX2 = some m.cls) (hK : xK g s) (hP : xP g L M H) (he : (4, i) ∈ L) (hdg : decode cc pc = .ok (.getfield 21, 3)) (kk : W p l e R s m args below meth c H locs cells slots Q (F0 m (pc + 3) ls (.ref (xad g 18 0) :: rest))) : W p l e R s m args below meth c H locs cells slots Q (F0 m pc ls (.ref (xad g 4 i) :: rest)) :=
  x_get hx hb hts inT_X2 hown hK hP he (xc4 g i) rfl 3 (by decide) (List.mem_cons_of_mem _ wd_82) rfl rfl rfl rfl hdg kk
theorem gf_RX2_24 (hx : p.tables.exec = Jvm.exec) (hb : c.code = cc) (hts : ∀ w ∈ c0 :: wsL_law, w.before args s = true) (hown : s.vm.findClass RX2 = some m.cls) (hK : xK g s) (hP : xP g L M H) (he : (4, i) ∈ L) (hdg : decode cc pc = .ok (.getfield 24, 3)) (kk : W p l e R s m args below meth c H locs cells slots Q (F0 m (pc + 3) ls (.int (M 4 i 4) :: rest))) : W p l e R s m args below meth c H locs cells slots Q (F0 m pc ls (.ref (xad g 4 i) :: rest)) :=
  x_get hx hb hts inT_X2 hown hK hP he (xc4 g i) rfl 4 (by decide) (List.mem_cons_of_mem _ wd_83) rfl rfl rfl rfl hdg kk
theorem gf_RX2_43 (hx : p.tables.exec = Jvm.exec) (hb : c.code = cc) (hts : ∀ w ∈ c0 :: wsL_law, w.before args s = true) (hown : s.vm.findClass RX2 = some m.cls) (hK : xK g s) (hP : xP g L M H) (he : (29, i) ∈ L) (hdg : decode cc pc = .ok (.getfield 43, 3)) (kk : W p l e R s m args below meth c H locs cells slots Q (F0 m (pc + 3) ls (.int (M 29 i 1) :: rest))) : W p l e R s m args below meth c H locs cells slots Q (F0 m pc ls (.ref (xad g 29 i) :: rest)) :=
  x_get hx hb hts inT_X4 hown hK hP he (xc29 g i) rfl 1 (by decide) (List.mem_cons_of_mem _ wd_754) rfl rfl rfl rfl hdg kk
theorem gf_RX3_9 (hx : p.tables.exec = Jvm.exec) (hb : c.code = cc) (hts : ∀ w ∈ c0 :: wsL_law, w.before args s = true) (hown : s.vm.findClass RX3 = some m.cls) (hK : xK g s) (hP : xP g L M H) (he : (11, i) ∈ L) (hdg : decode cc pc = .ok (.getfield 9, 3)) (kk : W p l e R s m args below meth c H locs cells slots Q (F0 m (pc + 3) ls (.ref (xad g 20 0) :: rest))) : W p l e R s m args below meth c H locs cells slots Q (F0 m pc ls (.ref (xad g 11 i) :: rest)) :=
  x_get hx hb hts inT_X3 hown hK hP he (xc11 g i) rfl 0 (by decide) (List.mem_cons_of_mem _ wd_108) rfl rfl rfl rfl hdg kk
theorem gf_RX3_15 (hx : p.tables.exec = Jvm.exec) (hb : c.code = cc) (hts : ∀ w ∈ c0 :: wsL_law, w.before args s = true) (hown : s.vm.findClass RX3 = some m.cls) (hK : xK g s) (hP : xP g L M H) (he : (11, i) ∈ L) (hdg : decode cc pc = .ok (.getfield 15, 3)) (kk : W p l e R s m args below meth c H locs cells slots Q (F0 m (pc + 3) ls (.ref (xad g 21 0) :: rest))) : W p l e R s m args below meth c H locs cells slots Q (F0 m pc ls (.ref (xad g 11 i) :: rest)) :=
  x_get hx hb hts inT_X3 hown hK hP he (xc11 g i) rfl 1 (by decide) (List.mem_cons_of_mem _ wd_109) rfl rfl rfl rfl hdg kk
theorem gf_RX3_18 (hx : p.tables.exec = Jvm.exec) (hb : c.code = cc) (hts : ∀ w ∈ c0 :: wsL_law, w.before args s = true) (hown : s.vm.findClass RX3 = some m.cls) (hK : xK g s) (hP : xP g L M H) (he : (11, i) ∈ L) (hdg : decode cc pc = .ok (.getfield 18, 3)) (kk : W p l e R s m args below meth c H locs cells slots Q (F0 m (pc + 3) ls (.ref (xad g 22 0) :: rest))) : W p l e R s m args below meth c H locs cells slots Q (F0 m pc ls (.ref (xad g 11 i) :: rest)) :=
  x_get hx hb hts inT_X3 hown hK hP he (xc11 g i) rfl 2 (by decide) (List.mem_cons_of_mem _ wd_110) rfl rfl rfl rfl hdg kk
theorem gf_RX3_21 (hx : p.tables.exec = Jvm.exec) (hb : c.code = cc) (hts : ∀ w ∈ c0 :: wsL_law, w.before args s = true) (hown : s.vm.findClass RX3 = some m.cls) (hK : xK g s) (hP : xP g L M H) (he : (11, i) ∈ L) (hdg : decode cc pc = .ok (.getfield 21, 3)) (kk : W p l e R s m args below meth c H locs cells slots Q (F0 m (pc + 3) ls (.int (M 11 i 3) :: rest))) : W p l e R s m args below meth c H locs cells slots Q (F0 m pc ls (.ref (xad g 11 i) :: rest)) :=
  x_get hx hb hts inT_X3 hown hK hP he (xc11 g i) rfl 3 (by decide) (List.mem_cons_of_mem _ wd_111) rfl rfl rfl rfl hdg kk
theorem gf_RX3_25 (hx : p.tables.exec = Jvm.exec) (hb : c.code = cc) (hts : ∀ w ∈ c0 :: wsL_law, w.before args s = true) (hown : s.vm.findClass RX3 = some m.cls) (hK : xK g s) (hP : xP g L M H) (he : (11, i) ∈ L) (hdg : decode cc pc = .ok (.getfield 25, 3)) (kk : W p l e R s m args below meth c H locs cells slots Q (F0 m (pc + 3) ls (.int (M 11 i 4) :: rest))) : W p l e R s m args below meth c H locs cells slots Q (F0 m pc ls (.ref (xad g 11 i) :: rest)) :=
  x_get hx hb hts inT_X3 hown hK hP he (xc11 g i) rfl 4 (by decide) (List.mem_cons_of_mem _ wd_112) rfl rfl rfl rfl hdg kk
theorem gf_RX3_28 (hx : p.tables.exec = Jvm.exec) (hb : c.code = cc) (hts : ∀ w ∈ c0 :: wsL_law, w.before args s = true) (hown : s.vm.findClass RX3 = some m.cls) (hK : xK g s) (hP : xP g L M H) (he : (11, i) ∈ L) (hdg : decode cc pc = .ok (.getfield 28, 3)) (kk : W p l e R s m args below meth c H locs cells slots Q (F0 m (pc + 3) ls (.int (M 11 i 5) :: rest))) : W p l e R s m args below meth c H locs cells slots Q (F0 m pc ls (.ref (xad g 11 i) :: rest)) :=
  x_get hx hb hts inT_X3 hown hK hP he (xc11 g i) rfl 5 (by decide) (List.mem_cons_of_mem _ wd_113) rfl rfl rfl rfl hdg kk
theorem gf_RX4_11 (hx : p.tables.exec = Jvm.exec) (hb : c.code = cc) (hts : ∀ w ∈ c0 :: wsL_law, w.before args s = true) (hown : s.vm.findClass RX4 = some m.cls) (hK : xK g s) (hP : xP g L M H) (he : (29, i) ∈ L) (hdg : decode cc pc = .ok (.getfield 11, 3)) (kk : W p l e R s m args below meth c H locs cells slots Q (F0 m (pc + 3) ls (.int (M 29 i 5) :: rest))) : W p l e R s m args below meth c H locs cells slots Q (F0 m pc ls (.ref (xad g 29 i) :: rest)) :=
  x_get hx hb hts inT_X4 hown hK hP he (xc29 g i) rfl 5 (by decide) (List.mem_cons_of_mem _ wd_685) rfl rfl rfl rfl hdg kk
theorem gf_RX4_15 (hx : p.tables.exec = Jvm.exec) (hb : c.code = cc) (hts : ∀ w ∈ c0 :: wsL_law, w.before args s = true) (hown : s.vm.findClass RX4 = some m.cls) (hK : xK g s) (hP : xP g L M H) (he : (29, i) ∈ L) (hdg : decode cc pc = .ok (.getfield 15, 3)) (kk : W p l e R s m args below meth c H locs cells slots Q (F0 m (pc + 3) ls (.int (M 29 i 6) :: rest))) : W p l e R s m args below meth c H locs cells slots Q (F0 m pc ls (.ref (xad g 29 i) :: rest)) :=
  x_get hx hb hts inT_X4 hown hK hP he (xc29 g i) rfl 6 (by decide) (List.mem_cons_of_mem _ wd_686) rfl rfl rfl rfl hdg kk
theorem gf_RX4_23 (hx : p.tables.exec = Jvm.exec) (hb : c.code = cc) (hts : ∀ w ∈ c0 :: wsL_law, w.before args s = true) (hown : s.vm.findClass RX4 = some m.cls) (hK : xK g s) (hP : xP g L M H) (he : (29, i) ∈ L) (hdg : decode cc pc = .ok (.getfield 23, 3)) (kk : W p l e R s m args below meth c H locs cells slots Q (F0 m (pc + 3) ls (.int (M 29 i 8) :: rest))) : W p l e R s m args below meth c H locs cells slots Q (F0 m pc ls (.ref (xad g 29 i) :: rest)) :=
  x_get hx hb hts inT_X4 hown hK hP he (xc29 g i) rfl 8 (by decide) (List.mem_cons_of_mem _ wd_689) rfl rfl rfl rfl hdg kk
theorem gf_RX4_26 (hx : p.tables.exec = Jvm.exec) (hb : c.code = cc) (hts : ∀ w ∈ c0 :: wsL_law, w.before args s = true) (hown : s.vm.findClass RX4 = some m.cls) (hK : xK g s) (hP : xP g L M H) (he : (29, i) ∈ L) (hdg : decode cc pc = .ok (.getfield 26, 3)) (kk : W p l e R s m args below meth c H locs cells slots Q (F0 m (pc + 3) ls (.int (M 29 i 9) :: rest))) : W p l e R s m args below meth c H locs cells slots Q (F0 m pc ls (.ref (xad g 29 i) :: rest)) :=
  x_get hx hb hts inT_X4 hown hK hP he (xc29 g i) rfl 9 (by decide) (List.mem_cons_of_mem _ wd_690) rfl rfl rfl rfl hdg kk
theorem gf_RX4_29 (hx : p.tables.exec = Jvm.exec) (hb : c.code = cc) (hts : ∀ w ∈ c0 :: wsL_law, w.before args s = true) (hown : s.vm.findClass RX4 = some m.cls) (hK : xK g s) (hP : xP g L M H) (he : (29, i) ∈ L) (hdg : decode cc pc = .ok (.getfield 29, 3)) (kk : W p l e R s m args below meth c H locs cells slots Q (F0 m (pc + 3) ls (.int (M 29 i 10) :: rest))) : W p l e R s m args below meth c H locs cells slots Q (F0 m pc ls (.ref (xad g 29 i) :: rest)) :=
  x_get hx hb hts inT_X4 hown hK hP he (xc29 g i) rfl 10 (by decide) (List.mem_cons_of_mem _ wd_691) rfl rfl rfl rfl hdg kk
theorem gf_RX4_32 (hx : p.tables.exec = Jvm.exec) (hb : c.code = cc) (hts : ∀ w ∈ c0 :: wsL_law, w.before args s = true) (hown : s.vm.findClass RX4 = some m.cls) (hK : xK g s) (hP : xP g L M H) (he : (29, i) ∈ L) (hdg : decode cc pc = .ok (.getfield 32, 3)) (kk : W p l e R s m args below meth c H locs cells slots Q (F0 m (pc + 3) ls (.ref (xad g 30 i) :: rest))) : W p l e R s m args below meth c H locs cells slots Q (F0 m pc ls (.ref (xad g 29 i) :: rest)) :=
  x_get hx hb hts inT_X4 hown hK hP he (xc29 g i) rfl 11 (by decide) (List.mem_cons_of_mem _ wd_692) rfl rfl rfl rfl hdg kk
theorem gf_RX4_36 (hx : p.tables.exec = Jvm.exec) (hb : c.code = cc) (hts : ∀ w ∈ c0 :: wsL_law, w.before args s = true) (hown : s.vm.findClass RX4 = some m.cls) (hK : xK g s) (hP : xP g L M H) (he : (29, i) ∈ L) (hdg : decode cc pc = .ok (.getfield 36, 3)) (kk : W p l e R s m args below meth c H locs cells slots Q (F0 m (pc + 3) ls (.ref (xad g 31 i) :: rest))) : W p l e R s m args below meth c H locs cells slots Q (F0 m pc ls (.ref (xad g 29 i) :: rest)) :=
  x_get hx hb hts inT_X4 hown hK hP he (xc29 g i) rfl 12 (by decide) (List.mem_cons_of_mem _ wd_693) rfl rfl rfl rfl hdg kk
theorem gf_RX4_45 (hx : p.tables.exec = Jvm.exec) (hb : c.code = cc) (hts : ∀ w ∈ c0 :: wsL_law, w.before args s = true) (hown : s.vm.findClass RX4 = some m.cls) (hK : xK g s) (hP : xP g L M H) (he : (29, i) ∈ L) (hdg : decode cc pc = .ok (.getfield 45, 3)) (kk : W p l e R s m args below meth c H locs cells slots Q (F0 m (pc + 3) ls (.int (M 29 i 2) :: rest))) : W p l e R s m args below meth c H locs cells slots Q (F0 m pc ls (.ref (xad g 29 i) :: rest)) :=
  x_get hx hb hts inT_X4 hown hK hP he (xc29 g i) rfl 2 (by decide) (List.mem_cons_of_mem _ wd_696) rfl rfl rfl rfl hdg kk
theorem gf_RX4_48 (hx : p.tables.exec = Jvm.exec) (hb : c.code = cc) (hts : ∀ w ∈ c0 :: wsL_law, w.before args s = true) (hown : s.vm.findClass RX4 = some m.cls) (hK : xK g s) (hP : xP g L M H) (he : (29, i) ∈ L) (hdg : decode cc pc = .ok (.getfield 48, 3)) (kk : W p l e R s m args below meth c H locs cells slots Q (F0 m (pc + 3) ls (.int (M 29 i 3) :: rest))) : W p l e R s m args below meth c H locs cells slots Q (F0 m pc ls (.ref (xad g 29 i) :: rest)) :=
  x_get hx hb hts inT_X4 hown hK hP he (xc29 g i) rfl 3 (by decide) (List.mem_cons_of_mem _ wd_697) rfl rfl rfl rfl hdg kk
theorem gf_RX4_51 (hx : p.tables.exec = Jvm.exec) (hb : c.code = cc) (hts : ∀ w ∈ c0 :: wsL_law, w.before args s = true) (hown : s.vm.findClass RX4 = some m.cls) (hK : xK g s) (hP : xP g L M H) (he : (29, i) ∈ L) (hdg : decode cc pc = .ok (.getfield 51, 3)) (kk : W p l e R s m args below meth c H locs cells slots Q (F0 m (pc + 3) ls (.int (M 29 i 4) :: rest))) : W p l e R s m args below meth c H locs cells slots Q (F0 m pc ls (.ref (xad g 29 i) :: rest)) :=
  x_get hx hb hts inT_X4 hown hK hP he (xc29 g i) rfl 4 (by decide) (List.mem_cons_of_mem _ wd_698) rfl rfl rfl rfl hdg kk
theorem gf_RX5_9 (hx : p.tables.exec = Jvm.exec) (hb : c.code = cc) (hts : ∀ w ∈ c0 :: wsL_law, w.before args s = true) (hown : s.vm.findClass RX5 = some m.cls) (hK : xK g s) (hP : xP g L M H) (he : (2, i) ∈ L) (hdg : decode cc pc = .ok (.getfield 9, 3)) (kk : W p l e R s m args below meth c H locs cells slots Q (F0 m (pc + 3) ls (.ref (xad g 13 0) :: rest))) : W p l e R s m args below meth c H locs cells slots Q (F0 m pc ls (.ref (xad g 2 i) :: rest)) :=
  x_get hx hb hts inT_X5 hown hK hP he (xc2 g i) rfl 0 (by decide) (List.mem_cons_of_mem _ wd_61) rfl rfl rfl rfl hdg kk
theorem gf_RX5_15 (hx : p.tables.exec = Jvm.exec) (hb : c.code = cc) (hts : ∀ w ∈ c0 :: wsL_law, w.before args s = true) (hown : s.vm.findClass RX5 = some m.cls) (hK : xK g s) (hP : xP g L M H) (he : (2, i) ∈ L) (hdg : decode cc pc = .ok (.getfield 15, 3)) (kk : W p l e R s m args below meth c H locs cells slots Q (F0 m (pc + 3) ls (.ref (xad g 14 0) :: rest))) : W p l e R s m args below meth c H locs cells slots Q (F0 m pc ls (.ref (xad g 2 i) :: rest)) :=
  x_get hx hb hts inT_X5 hown hK hP he (xc2 g i) rfl 1 (by decide) (List.mem_cons_of_mem _ wd_62) rfl rfl rfl rfl hdg kk
theorem gf_RX6_9 (hx : p.tables.exec = Jvm.exec) (hb : c.code = cc) (hts : ∀ w ∈ c0 :: wsL_law, w.before args s = true) (hown : s.vm.findClass RX6 = some m.cls) (hK : xK g s) (hP : xP g L M H) (he : (24, i) ∈ L) (hdg : decode cc pc = .ok (.getfield 9, 3)) (kk : W p l e R s m args below meth c H locs cells slots Q (F0 m (pc + 3) ls (.ref (xad g 25 i) :: rest))) : W p l e R s m args below meth c H locs cells slots Q (F0 m pc ls (.ref (xad g 24 i) :: rest)) :=
  x_get hx hb hts inT_X6 hown hK hP he (xc24 g i) rfl 0 (by decide) (List.mem_cons_of_mem _ wd_123) rfl rfl rfl rfl hdg kk
theorem gf_RX6_13 (hx : p.tables.exec = Jvm.exec) (hb : c.code = cc) (hts : ∀ w ∈ c0 :: wsL_law, w.before args s = true) (hown : s.vm.findClass RX6 = some m.cls) (hK : xK g s) (hP : xP g L M H) (he : (24, i) ∈ L) (hdg : decode cc pc = .ok (.getfield 13, 3)) (kk : W p l e R s m args below meth c H locs cells slots Q (F0 m (pc + 3) ls (.int (M 24 i 1) :: rest))) : W p l e R s m args below meth c H locs cells slots Q (F0 m pc ls (.ref (xad g 24 i) :: rest)) :=
  x_get hx hb hts inT_X6 hown hK hP he (xc24 g i) rfl 1 (by decide) (List.mem_cons_of_mem _ wd_124) rfl rfl rfl rfl hdg kk
theorem gf_RX6_17 (hx : p.tables.exec = Jvm.exec) (hb : c.code = cc) (hts : ∀ w ∈ c0 :: wsL_law, w.before args s = true) (hown : s.vm.findClass RX6 = some m.cls) (hK : xK g s) (hP : xP g L M H) (he : (24, i) ∈ L) (hdg : decode cc pc = .ok (.getfield 17, 3)) (kk : W p l e R s m args below meth c H locs cells slots Q (F0 m (pc + 3) ls (.int (M 24 i 2) :: rest))) : W p l e R s m args below meth c H locs cells slots Q (F0 m pc ls (.ref (xad g 24 i) :: rest)) :=
  x_get hx hb hts inT_X6 hown hK hP he (xc24 g i) rfl 2 (by decide) (List.mem_cons_of_mem _ wd_125) rfl rfl rfl rfl hdg kk
theorem gf_RX7_9 (hx : p.tables.exec = Jvm.exec) (hb : c.code = cc) (hts : ∀ w ∈ c0 :: wsL_law, w.before args s = true) (hown : s.vm.findClass RX7 = some m.cls) (hK : xK g s) (hP : xP g L M H) (he : (5, i) ∈ L) (hdg : decode cc pc = .ok (.getfield 9, 3)) (kk : W p l e R s m args below meth c H locs cells slots Q (F0 m (pc + 3) ls (.ref (xad g 19 0) :: rest))) : W p l e R s m args below meth c H locs cells slots Q (F0 m pc ls (.ref (xad g 5 i) :: rest)) :=
  x_get hx hb hts inT_X7 hown hK hP he (xc5 g i) rfl 0 (by decide) (List.mem_cons_of_mem _ wd_88) rfl rfl rfl rfl hdg kk
theorem gf_RX7_13 (hx : p.tables.exec = Jvm.exec) (hb : c.code = cc) (hts : ∀ w ∈ c0 :: wsL_law, w.before args s = true) (hown : s.vm.findClass RX7 = some m.cls) (hK : xK g s) (hP : xP g L M H) (he : (5, i) ∈ L) (hdg : decode cc pc = .ok (.getfield 13, 3)) (kk : W p l e R s m args below meth c H locs cells slots Q (F0 m (pc + 3) ls (.int (M 5 i 1) :: rest))) : W p l e R s m args below meth c H locs cells slots Q (F0 m pc ls (.ref (xad g 5 i) :: rest)) :=
  x_get hx hb hts inT_X7 hown hK hP he (xc5 g i) rfl 1 (by decide) (List.mem_cons_of_mem _ wd_89) rfl rfl rfl rfl hdg kk
theorem gf_RX7_17 (hx : p.tables.exec = Jvm.exec) (hb : c.code = cc) (hts : ∀ w ∈ c0 :: wsL_law, w.before args s = true) (hown : s.vm.findClass RX7 = some m.cls) (hK : xK g s) (hP : xP g L M H) (he : (5, i) ∈ L) (hdg : decode cc pc = .ok (.getfield 17, 3)) (kk : W p l e R s m args below meth c H locs cells slots Q (F0 m (pc + 3) ls (.int (M 5 i 2) :: rest))) : W p l e R s m args below meth c H locs cells slots Q (F0 m pc ls (.ref (xad g 5 i) :: rest)) :=
  x_get hx hb hts inT_X7 hown hK hP he (xc5 g i) rfl 2 (by decide) (List.mem_cons_of_mem _ wd_90) rfl rfl rfl rfl hdg kk
theorem gf_RX7_20 (hx : p.tables.exec = Jvm.exec) (hb : c.code = cc) (hts : ∀ w ∈ c0 :: wsL_law, w.before args s = true) (hown : s.vm.findClass RX7 = some m.cls) (hK : xK g s) (hP : xP g L M H) (he : (5, i) ∈ L) (hdg : decode cc pc = .ok (.getfield 20, 3)) (kk : W p l e R s m args below meth c H locs cells slots Q (F0 m (pc + 3) ls (.int (M 5 i 3) :: rest))) : W p l e R s m args below meth c H locs cells slots Q (F0 m pc ls (.ref (xad g 5 i) :: rest)) :=
  x_get hx hb hts inT_X7 hown hK hP he (xc5 g i) rfl 3 (by decide) (List.mem_cons_of_mem _ wd_91) rfl rfl rfl rfl hdg kk
theorem gf_RX7_23 (hx : p.tables.exec = Jvm.exec) (hb : c.code = cc) (hts : ∀ w ∈ c0 :: wsL_law, w.before args s = true) (hown : s.vm.findClass RX7 = some m.cls) (hK : xK g s) (hP : xP g L M H) (he : (5, i) ∈ L) (hdg : decode cc pc = .ok (.getfield 23, 3)) (kk : W p l e R s m args below meth c H locs cells slots Q (F0 m (pc + 3) ls (.int (M 5 i 4) :: rest))) : W p l e R s m args below meth c H locs cells slots Q (F0 m pc ls (.ref (xad g 5 i) :: rest)) :=
  x_get hx hb hts inT_X7 hown hK hP he (xc5 g i) rfl 4 (by decide) (List.mem_cons_of_mem _ wd_92) rfl rfl rfl rfl hdg kk
theorem gf_RX8_11 (hx : p.tables.exec = Jvm.exec) (hb : c.code = cc) (hts : ∀ w ∈ c0 :: wsL_law, w.before args s = true) (hown : s.vm.findClass RX8 = some m.cls) (hK : xK g s) (hP : xP g L M H) (he : (12, i) ∈ L) (hdg : decode cc pc = .ok (.getfield 11, 3)) (kk : W p l e R s m args below meth c H locs cells slots Q (F0 m (pc + 3) ls (.ref (xad g 23 0) :: rest))) : W p l e R s m args below meth c H locs cells slots Q (F0 m pc ls (.ref (xad g 12 i) :: rest)) :=
  x_get hx hb hts inT_X8 hown hK hP he (xc12 g i) rfl 0 (by decide) (List.mem_cons_of_mem _ wd_118) rfl rfl rfl rfl hdg kk
theorem gf_RX8_15 (hx : p.tables.exec = Jvm.exec) (hb : c.code = cc) (hts : ∀ w ∈ c0 :: wsL_law, w.before args s = true) (hown : s.vm.findClass RX8 = some m.cls) (hK : xK g s) (hP : xP g L M H) (he : (12, i) ∈ L) (hdg : decode cc pc = .ok (.getfield 15, 3)) (kk : W p l e R s m args below meth c H locs cells slots Q (F0 m (pc + 3) ls (.int (M 12 i 1) :: rest))) : W p l e R s m args below meth c H locs cells slots Q (F0 m pc ls (.ref (xad g 12 i) :: rest)) :=
  x_get hx hb hts inT_X8 hown hK hP he (xc12 g i) rfl 1 (by decide) (List.mem_cons_of_mem _ wd_119) rfl rfl rfl rfl hdg kk
theorem pf_RX0_9 (hx : p.tables.exec = Jvm.exec) (hb : c.code = cc) (hts : ∀ w ∈ c0 :: wsL_law, w.before args s = true) (hown : s.vm.findClass RX0 = some m.cls) (hK : xK g s) (hP : xP g L M H) (hD : xD g L) (hS : va_S (xA g L sz) H0 H locs) (he : (27, i) ∈ L) {v : Int32} (hdg : decode cc pc = .ok (.putfield 9, 3)) (kk : ∀ (H1 : Heap) (locs1 : List Loc), xP g L (xup M 27 i 3 v) H1 → va_S (xA g L sz) H0 H1 locs1 → W p l e R s m args below meth c H1 locs1 cells slots Q (F0 m (pc + 3) ls rest)) : W p l e R s m args below meth c H locs cells slots Q (F0 m pc ls (.int v :: .ref (xad g 27 i) :: rest)) :=
  x_put hx hb hts inT_X0 tyX0_ok nmX0 hown hK hP hD hS he (xc27 g i) rfl 3 (by decide) (List.mem_cons_of_mem _ wd_315) rfl rfl rfl rfl rfl rfl (fun _ => Nat.le_of_ble_eq_true rfl) (fun _ => rfl) hdg kk
theorem pf_RX0_15 (hx : p.tables.exec = Jvm.exec) (hb : c.code = cc) (hts : ∀ w ∈ c0 :: wsL_law, w.before args s = true) (hown : s.vm.findClass RX0 = some m.cls) (hK : xK g s) (hP : xP g L M H) (hD : xD g L) (hS : va_S (xA g L sz) H0 H locs) (he : (27, i) ∈ L) {v : Int32} (hn : narrow .boolean (.int v) = .int v) (hf : fits .boolean (.int v) = true) (hdg : decode cc pc = .ok (.putfield 15, 3)) (kk : ∀ (H1 : Heap) (locs1 : List Loc), xP g L (xup M 27 i 4 v) H1 → va_S (xA g L sz) H0 H1 locs1 → W p l e R s m args below meth c H1 locs1 cells slots Q (F0 m (pc + 3) ls rest)) : W p l e R s m args below meth c H locs cells slots Q (F0 m pc ls (.int v :: .ref (xad g 27 i) :: rest)) :=
  x_put hx hb hts inT_X0 tyX0_ok nmX0 hown hK hP hD hS he (xc27 g i) rfl 4 (by decide) (List.mem_cons_of_mem _ wd_316) rfl rfl rfl rfl hn hf (fun _ => Nat.le_of_ble_eq_true rfl) (fun _ => rfl) hdg kk
theorem pf_RX0_26 (hx : p.tables.exec = Jvm.exec) (hb : c.code = cc) (hts : ∀ w ∈ c0 :: wsL_law, w.before args s = true) (hown : s.vm.findClass RX0 = some m.cls) (hK : xK g s) (hP : xP g L M H) (hD : xD g L) (hS : va_S (xA g L sz) H0 H locs) (he : (27, i) ∈ L) {v : Int32} (hdg : decode cc pc = .ok (.putfield 26, 3)) (kk : ∀ (H1 : Heap) (locs1 : List Loc), xP g L (xup M 27 i 2 v) H1 → va_S (xA g L sz) H0 H1 locs1 → W p l e R s m args below meth c H1 locs1 cells slots Q (F0 m (pc + 3) ls rest)) : W p l e R s m args below meth c H locs cells slots Q (F0 m pc ls (.int v :: .ref (xad g 27 i) :: rest)) :=
  x_put hx hb hts inT_X0 tyX0_ok nmX0 hown hK hP hD hS he (xc27 g i) rfl 2 (by decide) (List.mem_cons_of_mem _ wd_319) rfl rfl rfl rfl rfl rfl (fun _ => Nat.le_of_ble_eq_true rfl) (fun _ => rfl) hdg kk
theorem pf_RX1_11 (hx : p.tables.exec = Jvm.exec) (hb : c.code = cc) (hts : ∀ w ∈ c0 :: wsL_law, w.before args s = true) (hown : s.vm.findClass RX1 = some m.cls) (hK : xK g s) (hP : xP g L M H) (hD : xD g L) (hS : va_S (xA g L sz) H0 H locs) (he : (6, i) ∈ L) {v : Int32} (hdg : decode cc pc = .ok (.putfield 11, 3)) (kk : ∀ (H1 : Heap) (locs1 : List Loc), xP g L (xup M 6 i 2 v) H1 → va_S (xA g L sz) H0 H1 locs1 → W p l e R s m args below meth c H1 locs1 cells slots Q (F0 m (pc + 3) ls rest)) : W p l e R s m args below meth c H locs cells slots Q (F0 m pc ls (.int v :: .ref (xad g 6 i) :: rest)) :=
  x_put hx hb hts inT_X1 tyX1_ok nmX1 hown hK hP hD hS he (xc6 g i) rfl 2 (by decide) (List.mem_cons_of_mem _ wd_98) rfl rfl rfl rfl rfl rfl (fun _ => Nat.le_of_ble_eq_true rfl) (fun _ => rfl) hdg kk
theorem pf_RX1_15 (hx : p.tables.exec = Jvm.exec) (hb : c.code = cc) (hts : ∀ w ∈ c0 :: wsL_law, w.before args s = true) (hown : s.vm.findClass RX1 = some m.cls) (hK : xK g s) (hP : xP g L M H) (hD : xD g L) (hS : va_S (xA g L sz) H0 H locs) (he : (6, i) ∈ L) {v : Int32} (hdg : decode cc pc = .ok (.putfield 15, 3)) (kk : ∀ (H1 : Heap) (locs1 : List Loc), xP g L (xup M 6 i 3 v) H1 → va_S (xA g L sz) H0 H1 locs1 → W p l e R s m args below meth c H1 locs1 cells slots Q (F0 m (pc + 3) ls rest)) : W p l e R s m args below meth c H locs cells slots Q (F0 m pc ls (.int v :: .ref (xad g 6 i) :: rest)) :=
  x_put hx hb hts inT_X1 tyX1_ok nmX1 hown hK hP hD hS he (xc6 g i) rfl 3 (by decide) (List.mem_cons_of_mem _ wd_99) rfl rfl rfl rfl rfl rfl (fun _ => Nat.le_of_ble_eq_true rfl) (fun _ => rfl) hdg kk
theorem pf_RX1_18 (hx : p.tables.exec = Jvm.exec) (hb : c.code = cc) (hts : ∀ w ∈ c0 :: wsL_law, w.before args s = true) (hown : s.vm.findClass RX1 = some m.cls) (hK : xK g s) (hP : xP g L M H) (hD : xD g L) (hS : va_S (xA g L sz) H0 H locs) (he : (6, i) ∈ L) {v : Int32} (hdg : decode cc pc = .ok (.putfield 18, 3)) (kk : ∀ (H1 : Heap) (locs1 : List Loc), xP g L (xup M 6 i 4 v) H1 → va_S (xA g L sz) H0 H1 locs1 → W p l e R s m args below meth c H1 locs1 cells slots Q (F0 m (pc + 3) ls rest)) : W p l e R s m args below meth c H locs cells slots Q (F0 m pc ls (.int v :: .ref (xad g 6 i) :: rest)) :=
  x_put hx hb hts inT_X1 tyX1_ok nmX1 hown hK hP hD hS he (xc6 g i) rfl 4 (by decide) (List.mem_cons_of_mem _ wd_100) rfl rfl rfl rfl rfl rfl (fun _ => Nat.le_of_ble_eq_true rfl) (fun _ => rfl) hdg kk
theorem pf_RX1_21 (hx : p.tables.exec = Jvm.exec) (hb : c.code = cc) (hts : ∀ w ∈ c0 :: wsL_law, w.before args s = true) (hown : s.vm.findClass RX1 = some m.cls) (hK : xK g s) (hP : xP g L M H) (hD : xD g L) (hS : va_S (xA g L sz) H0 H locs) (he : (6, i) ∈ L) {v : Int32} (hdg : decode cc pc = .ok (.putfield 21, 3)) (kk : ∀ (H1 : Heap) (locs1 : List Loc), xP g L (xup M 6 i 5 v) H1 → va_S (xA g L sz) H0 H1 locs1 → W p l e R s m args below meth c H1 locs1 cells slots Q (F0 m (pc + 3) ls rest)) : W p l e R s m args below meth c H locs cells slots Q (F0 m pc ls (.int v :: .ref (xad g 6 i) :: rest)) :=
  x_put hx hb hts inT_X1 tyX1_ok nmX1 hown hK hP hD hS he (xc6 g i) rfl 5 (by decide) (List.mem_cons_of_mem _ wd_101) rfl rfl rfl rfl rfl rfl (fun _ => Nat.le_of_ble_eq_true rfl) (fun _ => rfl) hdg kk
theorem pf_RX1_24 (hx : p.tables.exec = Jvm.exec) (hb : c.code = cc) (hts : ∀ w ∈ c0 :: wsL_law, w.before args s = true) (hown : s.vm.findClass RX1 = some m.cls) (hK : xK g s) (hP : xP g L M H) (hD : xD g L) (hS : va_S (xA g L sz) H0 H locs) (he : (6, i) ∈ L) {v : Int32} (hdg : decode cc pc = .ok (.putfield 24, 3)) (kk : ∀ (H1 : Heap) (locs1 : List Loc), xP g L (xup M 6 i 6 v) H1 → va_S (xA g L sz) H0 H1 locs1 → W p l e R s m args below meth c H1 locs1 cells slots Q (F0 m (pc + 3) ls rest)) : W p l e R s m args below meth c H locs cells slots Q (F0 m pc ls (.int v :: .ref (xad g 6 i) :: rest)) :=
  x_put hx hb hts inT_X1 tyX1_ok nmX1 hown hK hP hD hS he (xc6 g i) rfl 6 (by decide) (List.mem_cons_of_mem _ wd_102) rfl rfl rfl rfl rfl rfl (fun _ => Nat.le_of_ble_eq_true rfl) (fun _ => rfl) hdg kk
theorem pf_RX10_84 (hx : p.tables.exec = Jvm.exec) (hb : c.code = cc) (hts : ∀ w ∈ c0 :: wsL_law, w.before args s = true) (hown : s.vm.findClass RX10 = some m.cls) (hK : xK g s) (hP : xP g L M H) (hD : xD g L) (hS : va_S (xA g L sz) H0 H locs) (he : (0, i) ∈ L) {v : Int32} (hdg : decode cc pc = .ok (.putfield 84, 3)) (kk : ∀ (H1 : Heap) (locs1 : List Loc), xP g L (xup M 0 i 12 v) H1 → va_S (xA g L sz) H0 H1 locs1 → W p l e R s m args below meth c H1 locs1 cells slots Q (F0 m (pc + 3) ls rest)) : W p l e R s m args below meth c H locs cells slots Q (F0 m pc ls (.int v :: .ref (xad g 0 i) :: rest)) :=
  x_put hx hb hts inT_X10 tyX10_ok nmX10 hown hK hP hD hS he (xc0 g i) rfl 12 (by decide) (List.mem_cons_of_mem _ wd_48) rfl rfl rfl rfl rfl rfl (fun _ => Nat.le_of_ble_eq_true rfl) (fun _ => rfl) hdg kk
theorem pf_RX10_88 (hx : p.tables.exec = Jvm.exec) (hb : c.code = cc) (hts : ∀ w ∈ c0 :: wsL_law, w.before args s = true) (hown : s.vm.findClass RX10 = some m.cls) (hK : xK g s) (hP : xP g L M H) (hD : xD g L) (hS : va_S (xA g L sz) H0 H locs) (he : (0, i) ∈ L) {v : Int32} (hdg : decode cc pc = .ok (.putfield 88, 3)) (kk : ∀ (H1 : Heap) (locs1 : List Loc), xP g L (xup M 0 i 13 v) H1 → va_S (xA g L sz) H0 H1 locs1 → W p l e R s m args below meth c H1 locs1 cells slots Q (F0 m (pc + 3) ls rest)) : W p l e R s m args below meth c H locs cells slots Q (F0 m pc ls (.int v :: .ref (xad g 0 i) :: rest)) :=
  x_put hx hb hts inT_X10 tyX10_ok nmX10 hown hK hP hD hS he (xc0 g i) rfl 13 (by decide) (List.mem_cons_of_mem _ wd_49) rfl rfl rfl rfl rfl rfl (fun _ => Nat.le_of_ble_eq_true rfl) (fun _ => rfl) hdg kk
theorem pf_RX10_91 (hx : p.tables.exec = Jvm.exec) (hb : c.code = cc) (hts : ∀ w ∈ c0 :: wsL_law, w.before args s = true) (hown : s.vm.findClass RX10 = some m.cls) (hK : xK g s) (hP : xP g L M H) (hD : xD g L) (hS : va_S (xA g L sz) H0 H locs) (he : (0, i) ∈ L) {v : Int32} (hdg : decode cc pc = .ok (.putfield 91, 3)) (kk : ∀ (H1 : Heap) (locs1 : List Loc), xP g L (xup M 0 i 14 v) H1 → va_S (xA g L sz) H0 H1 locs1 → W p l e R s m args below meth c H1 locs1 cells slots Q (F0 m (pc + 3) ls rest)) : W p l e R s m args below meth c H locs cells slots Q (F0 m pc ls (.int v :: .ref (xad g 0 i) :: rest)) :=
  x_put hx hb hts inT_X10 tyX10_ok nmX10 hown hK hP hD hS he (xc0 g i) rfl 14 (by decide) (List.mem_cons_of_mem _ wd_50) rfl rfl rfl rfl rfl rfl (fun _ => Nat.le_of_ble_eq_true rfl) (fun _ => rfl) hdg kk
theorem pf_RX10_94 (hx : p.tables.exec = Jvm.exec) (hb : c.code = cc) (hts : ∀ w ∈ c0 :: wsL_law, w.before args s = true) (hown : s.vm.findClass RX10 = some m.cls) (hK : xK g s) (hP : xP g L M H) (hD : xD g L) (hS : va_S (xA g L sz) H0 H locs) (he : (0, i) ∈ L) {v : Int32} (hdg : decode cc pc = .ok (.putfield 94, 3)) (kk : ∀ (H1 : Heap) (locs1 : List Loc), xP g L (xup M 0 i 15 v) H1 → va_S (xA g L sz) H0 H1 locs1 → W p l e R s m args below meth c H1 locs1 cells slots Q (F0 m (pc + 3) ls rest)) : W p l e R s m args below meth c H locs cells slots Q (F0 m pc ls (.int v :: .ref (xad g 0 i) :: rest)) :=
  x_put hx hb hts inT_X10 tyX10_ok nmX10 hown hK hP hD hS he (xc0 g i) rfl 15 (by decide) (List.mem_cons_of_mem _ wd_51) rfl rfl rfl rfl rfl rfl (fun _ => Nat.le_of_ble_eq_true rfl) (fun _ => rfl) hdg kk
theorem pf_RX10_97 (hx : p.tables.exec = Jvm.exec) (hb : c.code = cc) (hts : ∀ w ∈ c0 :: wsL_law, w.before args s = true) (hown : s.vm.findClass RX10 = some m.cls) (hK : xK g s) (hP : xP g L M H) (hD : xD g L) (hS : va_S (xA g L sz) H0 H locs) (he : (0, i) ∈ L) {v : Int32} (hdg : decode cc pc = .ok (.putfield 97, 3)) (kk : ∀ (H1 : Heap) (locs1 : List Loc), xP g L (xup M 0 i 16 v) H1 → va_S (xA g L sz) H0 H1 locs1 → W p l e R s m args below meth c H1 locs1 cells slots Q (F0 m (pc + 3) ls rest)) : W p l e R s m args below meth c H locs cells slots Q (F0 m pc ls (.int v :: .ref (xad g 0 i) :: rest)) :=
  x_put hx hb hts inT_X10 tyX10_ok nmX10 hown hK hP hD hS he (xc0 g i) rfl 16 (by decide) (List.mem_cons_of_mem _ wd_52) rfl rfl rfl rfl rfl rfl (fun _ => Nat.le_of_ble_eq_true rfl) (fun _ => rfl) hdg kk
theorem pf_RX10_265 (hx : p.tables.exec = Jvm.exec) (hb : c.code = cc) (hts : ∀ w ∈ c0 :: wsL_law, w.before args s = true) (hown : s.vm.findClass RX10 = some m.cls) (hK : xK g s) (hP : xP g L M H) (hD : xD g L) (hS : va_S (xA g L sz) H0 H locs) (he : (29, i) ∈ L) {v : Int32} (hdg : decode cc pc = .ok (.putfield 265, 3)) (kk : ∀ (H1 : Heap) (locs1 : List Loc), xP g L (xup M 29 i 5 v) H1 → va_S (xA g L sz) H0 H1 locs1 → W p l e R s m args below meth c H1 locs1 cells slots Q (F0 m (pc + 3) ls rest)) : W p l e R s m args below meth c H locs cells slots Q (F0 m pc ls (.int v :: .ref (xad g 29 i) :: rest)) :=
  x_put hx hb hts inT_X4 tyX4_ok nmX4 hown hK hP hD hS he (xc29 g i) rfl 5 (by decide) (List.mem_cons_of_mem _ wd_724) rfl rfl rfl rfl rfl rfl (fun _ => Nat.le_of_ble_eq_true rfl) (fun _ => rfl) hdg kk
theorem pf_RX10_288 (hx : p.tables.exec = Jvm.exec) (hb : c.code = cc) (hts : ∀ w ∈ c0 :: wsL_law, w.before args s = true) (hown : s.vm.findClass RX10 = some m.cls) (hK : xK g s) (hP : xP g L M H) (hD : xD g L) (hS : va_S (xA g L sz) H0 H locs) (he : (26, i) ∈ L) {v : Int32} (hdg : decode cc pc = .ok (.putfield 288, 3)) (kk : ∀ (H1 : Heap) (locs1 : List Loc), xP g L (xup M 26 i 0 v) H1 → va_S (xA g L sz) H0 H1 locs1 → W p l e R s m args below meth c H1 locs1 cells slots Q (F0 m (pc + 3) ls rest)) : W p l e R s m args below meth c H locs cells slots Q (F0 m pc ls (.int v :: .ref (xad g 26 i) :: rest)) :=
  x_put hx hb hts inT_X9 tyX9_ok nmX9 hown hK hP hD hS he (xc26 g i) rfl 0 (by decide) (List.mem_cons_of_mem _ wd_812) rfl rfl rfl rfl rfl rfl (fun _ => Nat.le_of_ble_eq_true rfl) (fun _ => rfl) hdg kk
theorem pf_RX10_289 (hx : p.tables.exec = Jvm.exec) (hb : c.code = cc) (hts : ∀ w ∈ c0 :: wsL_law, w.before args s = true) (hown : s.vm.findClass RX10 = some m.cls) (hK : xK g s) (hP : xP g L M H) (hD : xD g L) (hS : va_S (xA g L sz) H0 H locs) (he : (26, i) ∈ L) {v : Int32} (hdg : decode cc pc = .ok (.putfield 289, 3)) (kk : ∀ (H1 : Heap) (locs1 : List Loc), xP g L (xup M 26 i 1 v) H1 → va_S (xA g L sz) H0 H1 locs1 → W p l e R s m args below meth c H1 locs1 cells slots Q (F0 m (pc + 3) ls rest)) : W p l e R s m args below meth c H locs cells slots Q (F0 m pc ls (.int v :: .ref (xad g 26 i) :: rest)) :=
  x_put hx hb hts inT_X9 tyX9_ok nmX9 hown hK hP hD hS he (xc26 g i) rfl 1 (by decide) (List.mem_cons_of_mem _ wd_813) rfl rfl rfl rfl rfl rfl (fun _ => Nat.le_of_ble_eq_true rfl) (fun _ => rfl) hdg kk
theorem pf_RX11_113 (hx : p.tables.exec = Jvm.exec) (hb : c.code = cc) (hts : ∀ w ∈ c0 :: wsL_law, w.before args s = true) (hown : s.vm.findClass RX11 = some m.cls) (hK : xK g s) (hP : xP g L M H) (hD : xD g L) (hS : va_S (xA g L sz) H0 H locs) (he : (40, i) ∈ L) {v : Int32} (hdg : decode cc pc = .ok (.putfield 113, 3)) (kk : ∀ (H1 : Heap) (locs1 : List Loc), xP g L (xup M 40 i 0 v) H1 → va_S (xA g L sz) H0 H1 locs1 → W p l e R s m args below meth c H1 locs1 cells slots Q (F0 m (pc + 3) ls rest)) : W p l e R s m args below meth c H locs cells slots Q (F0 m pc ls (.int v :: .ref (xad g 40 i) :: rest)) :=
  x_put hx hb hts inT_X11 tyX11_ok nmX11 hown hK hP hD hS he (xc40 g i) rfl 0 (by decide) (List.mem_cons_of_mem _ wd_200) rfl rfl rfl rfl rfl rfl (fun _ => Nat.le_of_ble_eq_true rfl) (fun _ => rfl) hdg kk
theorem pf_RX11_117 (hx : p.tables.exec = Jvm.exec) (hb : c.code = cc) (hts : ∀ w ∈ c0 :: wsL_law, w.before args s = true) (hown : s.vm.findClass RX11 = some m.cls) (hK : xK g s) (hP : xP g L M H) (hD : xD g L) (hS : va_S (xA g L sz) H0 H locs) (he : (40, i) ∈ L) {v : Int32} (hdg : decode cc pc = .ok (.putfield 117, 3)) (kk : ∀ (H1 : Heap) (locs1 : List Loc), xP g L (xup M 40 i 1 v) H1 → va_S (xA g L sz) H0 H1 locs1 → W p l e R s m args below meth c H1 locs1 cells slots Q (F0 m (pc + 3) ls rest)) : W p l e R s m args below meth c H locs cells slots Q (F0 m pc ls (.int v :: .ref (xad g 40 i) :: rest)) :=
  x_put hx hb hts inT_X11 tyX11_ok nmX11 hown hK hP hD hS he (xc40 g i) rfl 1 (by decide) (List.mem_cons_of_mem _ wd_203) rfl rfl rfl rfl rfl rfl (fun _ => Nat.le_of_ble_eq_true rfl) (fun _ => rfl) hdg kk
theorem pf_RX11_150 (hx : p.tables.exec = Jvm.exec) (hb : c.code = cc) (hts : ∀ w ∈ c0 :: wsL_law, w.before args s = true) (hown : s.vm.findClass RX11 = some m.cls) (hK : xK g s) (hP : xP g L M H) (hD : xD g L) (hS : va_S (xA g L sz) H0 H locs) (he : (40, i) ∈ L) {v : Int32} (hdg : decode cc pc = .ok (.putfield 150, 3)) (kk : ∀ (H1 : Heap) (locs1 : List Loc), xP g L (xup M 40 i 7 v) H1 → va_S (xA g L sz) H0 H1 locs1 → W p l e R s m args below meth c H1 locs1 cells slots Q (F0 m (pc + 3) ls rest)) : W p l e R s m args below meth c H locs cells slots Q (F0 m pc ls (.int v :: .ref (xad g 40 i) :: rest)) :=
  x_put hx hb hts inT_X11 tyX11_ok nmX11 hown hK hP hD hS he (xc40 g i) rfl 7 (by decide) (List.mem_cons_of_mem _ wd_327) rfl rfl rfl rfl rfl rfl (fun _ => Nat.le_of_ble_eq_true rfl) (fun _ => rfl) hdg kk
theorem pf_RX11_167 (hx : p.tables.exec = Jvm.exec) (hb : c.code = cc) (hts : ∀ w ∈ c0 :: wsL_law, w.before args s = true) (hown : s.vm.findClass RX11 = some m.cls) (hK : xK g s) (hP : xP g L M H) (hD : xD g L) (hS : va_S (xA g L sz) H0 H locs) (he : (40, i) ∈ L) {v : Int32} (hdg : decode cc pc = .ok (.putfield 167, 3)) (kk : ∀ (H1 : Heap) (locs1 : List Loc), xP g L (xup M 40 i 13 v) H1 → va_S (xA g L sz) H0 H1 locs1 → W p l e R s m args below meth c H1 locs1 cells slots Q (F0 m (pc + 3) ls rest)) : W p l e R s m args below meth c H locs cells slots Q (F0 m pc ls (.int v :: .ref (xad g 40 i) :: rest)) :=
  x_put hx hb hts inT_X11 tyX11_ok nmX11 hown hK hP hD hS he (xc40 g i) rfl 13 (by decide) (List.mem_cons_of_mem _ wd_396) rfl rfl rfl rfl rfl rfl (fun _ => Nat.le_of_ble_eq_true rfl) (fun _ => rfl) hdg kk
theorem pf_RX11_172 (hx : p.tables.exec = Jvm.exec) (hb : c.code = cc) (hts : ∀ w ∈ c0 :: wsL_law, w.before args s = true) (hown : s.vm.findClass RX11 = some m.cls) (hK : xK g s) (hP : xP g L M H) (hD : xD g L) (hS : va_S (xA g L sz) H0 H locs) (he : (40, i) ∈ L) {v : Int32} (hdg : decode cc pc = .ok (.putfield 172, 3)) (kk : ∀ (H1 : Heap) (locs1 : List Loc), xP g L (xup M 40 i 21 v) H1 → va_S (xA g L sz) H0 H1 locs1 → W p l e R s m args below meth c H1 locs1 cells slots Q (F0 m (pc + 3) ls rest)) : W p l e R s m args below meth c H locs cells slots Q (F0 m pc ls (.int v :: .ref (xad g 40 i) :: rest)) :=
  x_put hx hb hts inT_X11 tyX11_ok nmX11 hown hK hP hD hS he (xc40 g i) rfl 21 (by decide) (List.mem_cons_of_mem _ wd_416) rfl rfl rfl rfl rfl rfl (fun _ => Nat.le_of_ble_eq_true rfl) (fun _ => rfl) hdg kk
theorem pf_RX11_175 (hx : p.tables.exec = Jvm.exec) (hb : c.code = cc) (hts : ∀ w ∈ c0 :: wsL_law, w.before args s = true) (hown : s.vm.findClass RX11 = some m.cls) (hK : xK g s) (hP : xP g L M H) (hD : xD g L) (hS : va_S (xA g L sz) H0 H locs) (he : (40, i) ∈ L) {v : Int32} (hdg : decode cc pc = .ok (.putfield 175, 3)) (kk : ∀ (H1 : Heap) (locs1 : List Loc), xP g L (xup M 40 i 23 v) H1 → va_S (xA g L sz) H0 H1 locs1 → W p l e R s m args below meth c H1 locs1 cells slots Q (F0 m (pc + 3) ls rest)) : W p l e R s m args below meth c H locs cells slots Q (F0 m pc ls (.int v :: .ref (xad g 40 i) :: rest)) :=
  x_put hx hb hts inT_X11 tyX11_ok nmX11 hown hK hP hD hS he (xc40 g i) rfl 23 (by decide) (List.mem_cons_of_mem _ wd_560) rfl rfl rfl rfl rfl rfl (fun _ => Nat.le_of_ble_eq_true rfl) (fun _ => rfl) hdg kk
theorem pf_RX11_178 (hx : p.tables.exec = Jvm.exec) (hb : c.code = cc) (hts : ∀ w ∈ c0 :: wsL_law, w.before args s = true) (hown : s.vm.findClass RX11 = some m.cls) (hK : xK g s) (hP : xP g L M H) (hD : xD g L) (hS : va_S (xA g L sz) H0 H locs) (he : (40, i) ∈ L) {v : Int32} (hdg : decode cc pc = .ok (.putfield 178, 3)) (kk : ∀ (H1 : Heap) (locs1 : List Loc), xP g L (xup M 40 i 24 v) H1 → va_S (xA g L sz) H0 H1 locs1 → W p l e R s m args below meth c H1 locs1 cells slots Q (F0 m (pc + 3) ls rest)) : W p l e R s m args below meth c H locs cells slots Q (F0 m pc ls (.int v :: .ref (xad g 40 i) :: rest)) :=
  x_put hx hb hts inT_X11 tyX11_ok nmX11 hown hK hP hD hS he (xc40 g i) rfl 24 (by decide) (List.mem_cons_of_mem _ wd_561) rfl rfl rfl rfl rfl rfl (fun _ => Nat.le_of_ble_eq_true rfl) (fun _ => rfl) hdg kk
theorem pf_RX11_184 (hx : p.tables.exec = Jvm.exec) (hb : c.code = cc) (hts : ∀ w ∈ c0 :: wsL_law, w.before args s = true) (hown : s.vm.findClass RX11 = some m.cls) (hK : xK g s) (hP : xP g L M H) (hD : xD g L) (hS : va_S (xA g L sz) H0 H locs) (he : (40, i) ∈ L) {v : Int32} (hdg : decode cc pc = .ok (.putfield 184, 3)) (kk : ∀ (H1 : Heap) (locs1 : List Loc), xP g L (xup M 40 i 26 v) H1 → va_S (xA g L sz) H0 H1 locs1 → W p l e R s m args below meth c H1 locs1 cells slots Q (F0 m (pc + 3) ls rest)) : W p l e R s m args below meth c H locs cells slots Q (F0 m pc ls (.int v :: .ref (xad g 40 i) :: rest)) :=
  x_put hx hb hts inT_X11 tyX11_ok nmX11 hown hK hP hD hS he (xc40 g i) rfl 26 (by decide) (List.mem_cons_of_mem _ wd_574) rfl rfl rfl rfl rfl rfl (fun _ => Nat.le_of_ble_eq_true rfl) (fun _ => rfl) hdg kk
theorem pf_RX11_187 (hx : p.tables.exec = Jvm.exec) (hb : c.code = cc) (hts : ∀ w ∈ c0 :: wsL_law, w.before args s = true) (hown : s.vm.findClass RX11 = some m.cls) (hK : xK g s) (hP : xP g L M H) (hD : xD g L) (hS : va_S (xA g L sz) H0 H locs) (he : (40, i) ∈ L) {v : Int32} (hdg : decode cc pc = .ok (.putfield 187, 3)) (kk : ∀ (H1 : Heap) (locs1 : List Loc), xP g L (xup M 40 i 25 v) H1 → va_S (xA g L sz) H0 H1 locs1 → W p l e R s m args below meth c H1 locs1 cells slots Q (F0 m (pc + 3) ls rest)) : W p l e R s m args below meth c H locs cells slots Q (F0 m pc ls (.int v :: .ref (xad g 40 i) :: rest)) :=
  x_put hx hb hts inT_X11 tyX11_ok nmX11 hown hK hP hD hS he (xc40 g i) rfl 25 (by decide) (List.mem_cons_of_mem _ wd_565) rfl rfl rfl rfl rfl rfl (fun _ => Nat.le_of_ble_eq_true rfl) (fun _ => rfl) hdg kk
theorem pf_RX11_196 (hx : p.tables.exec = Jvm.exec) (hb : c.code = cc) (hts : ∀ w ∈ c0 :: wsL_law, w.before args s = true) (hown : s.vm.findClass RX11 = some m.cls) (hK : xK g s) (hP : xP g L M H) (hD : xD g L) (hS : va_S (xA g L sz) H0 H locs) (he : (40, i) ∈ L) {v : Int32} (hdg : decode cc pc = .ok (.putfield 196, 3)) (kk : ∀ (H1 : Heap) (locs1 : List Loc), xP g L (xup M 40 i 27 v) H1 → va_S (xA g L sz) H0 H1 locs1 → W p l e R s m args below meth c H1 locs1 cells slots Q (F0 m (pc + 3) ls rest)) : W p l e R s m args below meth c H locs cells slots Q (F0 m pc ls (.int v :: .ref (xad g 40 i) :: rest)) :=
  x_put hx hb hts inT_X11 tyX11_ok nmX11 hown hK hP hD hS he (xc40 g i) rfl 27 (by decide) (List.mem_cons_of_mem _ wd_575) rfl rfl rfl rfl rfl rfl (fun _ => Nat.le_of_ble_eq_true rfl) (fun _ => rfl) hdg kk
theorem pf_RX11_199 (hx : p.tables.exec = Jvm.exec) (hb : c.code = cc) (hts : ∀ w ∈ c0 :: wsL_law, w.before args s = true) (hown : s.vm.findClass RX11 = some m.cls) (hK : xK g s) (hP : xP g L M H) (hD : xD g L) (hS : va_S (xA g L sz) H0 H locs) (he : (40, i) ∈ L) {v : Int32} (hdg : decode cc pc = .ok (.putfield 199, 3)) (kk : ∀ (H1 : Heap) (locs1 : List Loc), xP g L (xup M 40 i 28 v) H1 → va_S (xA g L sz) H0 H1 locs1 → W p l e R s m args below meth c H1 locs1 cells slots Q (F0 m (pc + 3) ls rest)) : W p l e R s m args below meth c H locs cells slots Q (F0 m pc ls (.int v :: .ref (xad g 40 i) :: rest)) :=
  x_put hx hb hts inT_X11 tyX11_ok nmX11 hown hK hP hD hS he (xc40 g i) rfl 28 (by decide) (List.mem_cons_of_mem _ wd_562) rfl rfl rfl rfl rfl rfl (fun _ => Nat.le_of_ble_eq_true rfl) (fun _ => rfl) hdg kk
theorem pf_RX11_202 (hx : p.tables.exec = Jvm.exec) (hb : c.code = cc) (hts : ∀ w ∈ c0 :: wsL_law, w.before args s = true) (hown : s.vm.findClass RX11 = some m.cls) (hK : xK g s) (hP : xP g L M H) (hD : xD g L) (hS : va_S (xA g L sz) H0 H locs) (he : (40, i) ∈ L) {v : Int32} (hdg : decode cc pc = .ok (.putfield 202, 3)) (kk : ∀ (H1 : Heap) (locs1 : List Loc), xP g L (xup M 40 i 29 v) H1 → va_S (xA g L sz) H0 H1 locs1 → W p l e R s m args below meth c H1 locs1 cells slots Q (F0 m (pc + 3) ls rest)) : W p l e R s m args below meth c H locs cells slots Q (F0 m pc ls (.int v :: .ref (xad g 40 i) :: rest)) :=
  x_put hx hb hts inT_X11 tyX11_ok nmX11 hown hK hP hD hS he (xc40 g i) rfl 29 (by decide) (List.mem_cons_of_mem _ wd_569) rfl rfl rfl rfl rfl rfl (fun _ => Nat.le_of_ble_eq_true rfl) (fun _ => rfl) hdg kk
theorem pf_RX11_230 (hx : p.tables.exec = Jvm.exec) (hb : c.code = cc) (hts : ∀ w ∈ c0 :: wsL_law, w.before args s = true) (hown : s.vm.findClass RX11 = some m.cls) (hK : xK g s) (hP : xP g L M H) (hD : xD g L) (hS : va_S (xA g L sz) H0 H locs) (he : (40, i) ∈ L) {v : Int32} (hdg : decode cc pc = .ok (.putfield 230, 3)) (kk : ∀ (H1 : Heap) (locs1 : List Loc), xP g L (xup M 40 i 19 v) H1 → va_S (xA g L sz) H0 H1 locs1 → W p l e R s m args below meth c H1 locs1 cells slots Q (F0 m (pc + 3) ls rest)) : W p l e R s m args below meth c H locs cells slots Q (F0 m pc ls (.int v :: .ref (xad g 40 i) :: rest)) :=
  x_put hx hb hts inT_X11 tyX11_ok nmX11 hown hK hP hD hS he (xc40 g i) rfl 19 (by decide) (List.mem_cons_of_mem _ wd_564) rfl rfl rfl rfl rfl rfl (fun _ => Nat.le_of_ble_eq_true rfl) (fun _ => rfl) hdg kk
theorem pf_RX11_236 (hx : p.tables.exec = Jvm.exec) (hb : c.code = cc) (hts : ∀ w ∈ c0 :: wsL_law, w.before args s = true) (hown : s.vm.findClass RX11 = some m.cls) (hK : xK g s) (hP : xP g L M H) (hD : xD g L) (hS : va_S (xA g L sz) H0 H locs) (he : (40, i) ∈ L) {v : Int32} (hdg : decode cc pc = .ok (.putfield 236, 3)) (kk : ∀ (H1 : Heap) (locs1 : List Loc), xP g L (xup M 40 i 14 v) H1 → va_S (xA g L sz) H0 H1 locs1 → W p l e R s m args below meth c H1 locs1 cells slots Q (F0 m (pc + 3) ls rest)) : W p l e R s m args below meth c H locs cells slots Q (F0 m pc ls (.int v :: .ref (xad g 40 i) :: rest)) :=
  x_put hx hb hts inT_X11 tyX11_ok nmX11 hown hK hP hD hS he (xc40 g i) rfl 14 (by decide) (List.mem_cons_of_mem _ wd_563) rfl rfl rfl rfl rfl rfl (fun _ => Nat.le_of_ble_eq_true rfl) (fun _ => rfl) hdg kk
theorem pf_RX11_244 (hx : p.tables.exec = Jvm.exec) (hb : c.code = cc) (hts : ∀ w ∈ c0 :: wsL_law, w.before args s = true) (hown : s.vm.findClass RX11 = some m.cls) (hK : xK g s) (hP : xP g L M H) (hD : xD g L) (hS : va_S (xA g L sz) H0 H locs) (he : (40, i) ∈ L) {v : Int32} (hdg : decode cc pc = .ok (.putfield 244, 3)) (kk : ∀ (H1 : Heap) (locs1 : List Loc), xP g L (xup M 40 i 22 v) H1 → va_S (xA g L sz) H0 H1 locs1 → W p l e R s m args below meth c H1 locs1 cells slots Q (F0 m (pc + 3) ls rest)) : W p l e R s m args below meth c H locs cells slots Q (F0 m pc ls (.int v :: .ref (xad g 40 i) :: rest)) :=
  x_put hx hb hts inT_X11 tyX11_ok nmX11 hown hK hP hD hS he (xc40 g i) rfl 22 (by decide) (List.mem_cons_of_mem _ wd_567) rfl rfl rfl rfl rfl rfl (fun _ => Nat.le_of_ble_eq_true rfl) (fun _ => rfl) hdg kk
theorem pf_RX11_265 (hx : p.tables.exec = Jvm.exec) (hb : c.code = cc) (hts : ∀ w ∈ c0 :: wsL_law, w.before args s = true) (hown : s.vm.findClass RX11 = some m.cls) (hK : xK g s) (hP : xP g L M H) (hD : xD g L) (hS : va_S (xA g L sz) H0 H locs) (he : (40, i) ∈ L) {v : Int32} (hdg : decode cc pc = .ok (.putfield 265, 3)) (kk : ∀ (H1 : Heap) (locs1 : List Loc), xP g L (xup M 40 i 30 v) H1 → va_S (xA g L sz) H0 H1 locs1 → W p l e R s m args below meth c H1 locs1 cells slots Q (F0 m (pc + 3) ls rest)) : W p l e R s m args below meth c H locs cells slots Q (F0 m pc ls (.int v :: .ref (xad g 40 i) :: rest)) :=
  x_put hx hb hts inT_X11 tyX11_ok nmX11 hown hK hP hD hS he (xc40 g i) rfl 30 (by decide) (List.mem_cons_of_mem _ wd_708) rfl rfl rfl rfl rfl rfl (fun _ => Nat.le_of_ble_eq_true rfl) (fun _ => rfl) hdg kk
theorem pf_RX11_321 (hx : p.tables.exec = Jvm.exec) (hb : c.code = cc) (hts : ∀ w ∈ c0 :: wsL_law, w.before args s = true) (hown : s.vm.findClass RX11 = some m.cls) (hK : xK g s) (hP : xP g L M H) (hD : xD g L) (hS : va_S (xA g L sz) H0 H locs) (he : (40, i) ∈ L) {v : Int32} (hdg : decode cc pc = .ok (.putfield 321, 3)) (kk : ∀ (H1 : Heap) (locs1 : List Loc), xP g L (xup M 40 i 50 v) H1 → va_S (xA g L sz) H0 H1 locs1 → W p l e R s m args below meth c H1 locs1 cells slots Q (F0 m (pc + 3) ls rest)) : W p l e R s m args below meth c H locs cells slots Q (F0 m pc ls (.int v :: .ref (xad g 40 i) :: rest)) :=
  x_put hx hb hts inT_X11 tyX11_ok nmX11 hown hK hP hD hS he (xc40 g i) rfl 50 (by decide) (List.mem_cons_of_mem _ wd_1047) rfl rfl rfl rfl rfl rfl (fun _ => Nat.le_of_ble_eq_true rfl) (fun _ => rfl) hdg kk
theorem pf_RX2_24 (hx : p.tables.exec = Jvm.exec) (hb : c.code = cc) (hts : ∀ w ∈ c0 :: wsL_law, w.before args s = true) (hown : s.vm.findClass RX2 = some m.cls) (hK : xK g s) (hP : xP g L M H) (hD : xD g L) (hS : va_S (xA g L sz) H0 H locs) (he : (4, i) ∈ L) {v : Int32} (hdg : decode cc pc = .ok (.putfield 24, 3)) (kk : ∀ (H1 : Heap) (locs1 : List Loc), xP g L (xup M 4 i 4 v) H1 → va_S (xA g L sz) H0 H1 locs1 → W p l e R s m args below meth c H1 locs1 cells slots Q (F0 m (pc + 3) ls rest)) : W p l e R s m args below meth c H locs cells slots Q (F0 m pc ls (.int v :: .ref (xad g 4 i) :: rest)) :=
  x_put hx hb hts inT_X2 tyX2_ok nmX2 hown hK hP hD hS he (xc4 g i) rfl 4 (by decide) (List.mem_cons_of_mem _ wd_83) rfl rfl rfl rfl rfl rfl (fun _ => Nat.le_of_ble_eq_true rfl) (fun _ => rfl) hdg kk
theorem pf_RX3_21 (hx : p.tables.exec = Jvm.exec) (hb : c.code = cc) (hts : ∀ w ∈ c0 :: wsL_law, w.before args s = true) (hown : s.vm.findClass RX3 = some m.cls) (hK : xK g s) (hP : xP g L M H) (hD : xD g L) (hS : va_S (xA g L sz) H0 H locs) (he : (11, i) ∈ L) {v : Int32} (hdg : decode cc pc = .ok (.putfield 21, 3)) (kk : ∀ (H1 : Heap) (locs1 : List Loc), xP g L (xup M 11 i 3 v) H1 → va_S (xA g L sz) H0 H1 locs1 → W p l e R s m args below meth c H1 locs1 cells slots Q (F0 m (pc + 3) ls rest)) : W p l e R s m args below meth c H locs cells slots Q (F0 m pc ls (.int v :: .ref (xad g 11 i) :: rest)) :=
  x_put hx hb hts inT_X3 tyX3_ok nmX3 hown hK hP hD hS he (xc11 g i) rfl 3 (by decide) (List.mem_cons_of_mem _ wd_111) rfl rfl rfl rfl rfl rfl (fun _ => Nat.le_of_ble_eq_true rfl) (fun _ => rfl) hdg kk
theorem pf_RX3_25 (hx : p.tables.exec = Jvm.exec) (hb : c.code = cc) (hts : ∀ w ∈ c0 :: wsL_law, w.before args s = true) (hown : s.vm.findClass RX3 = some m.cls) (hK : xK g s) (hP : xP g L M H) (hD : xD g L) (hS : va_S (xA g L sz) H0 H locs) (he : (11, i) ∈ L) {v : Int32} (hdg : decode cc pc = .ok (.putfield 25, 3)) (kk : ∀ (H1 : Heap) (locs1 : List Loc), xP g L (xup M 11 i 4 v) H1 → va_S (xA g L sz) H0 H1 locs1 → W p l e R s m args below meth c H1 locs1 cells slots Q (F0 m (pc + 3) ls rest)) : W p l e R s m args below meth c H locs cells slots Q (F0 m pc ls (.int v :: .ref (xad g 11 i) :: rest)) :=
  x_put hx hb hts inT_X3 tyX3_ok nmX3 hown hK hP hD hS he (xc11 g i) rfl 4 (by decide) (List.mem_cons_of_mem _ wd_112) rfl rfl rfl rfl rfl rfl (fun _ => Nat.le_of_ble_eq_true rfl) (fun _ => rfl) hdg kk
theorem pf_RX3_28 (hx : p.tables.exec = Jvm.exec) (hb : c.code = cc) (hts : ∀ w ∈ c0 :: wsL_law, w.before args s = true) (hown : s.vm.findClass RX3 = some m.cls) (hK : xK g s) (hP : xP g L M H) (hD : xD g L) (hS : va_S (xA g L sz) H0 H locs) (he : (11, i) ∈ L) {v : Int32} (hdg : decode cc pc = .ok (.putfield 28, 3)) (kk : ∀ (H1 : Heap) (locs1 : List Loc), xP g L (xup M 11 i 5 v) H1 → va_S (xA g L sz) H0 H1 locs1 → W p l e R s m args below meth c H1 locs1 cells slots Q (F0 m (pc + 3) ls rest)) : W p l e R s m args below meth c H locs cells slots Q (F0 m pc ls (.int v :: .ref (xad g 11 i) :: rest)) :=
  x_put hx hb hts inT_X3 tyX3_ok nmX3 hown hK hP hD hS he (xc11 g i) rfl 5 (by decide) (List.mem_cons_of_mem _ wd_113) rfl rfl rfl rfl rfl rfl (fun _ => Nat.le_of_ble_eq_true rfl) (fun _ => rfl) hdg kk
theorem pf_RX3_31 (hx : p.tables.exec = Jvm.exec) (hb : c.code = cc) (hts : ∀ w ∈ c0 :: wsL_law, w.before args s = true) (hown : s.vm.findClass RX3 = some m.cls) (hK : xK g s) (hP : xP g L M H) (hD : xD g L) (hS : va_S (xA g L sz) H0 H locs) (he : (11, i) ∈ L) {v : Int32} (hdg : decode cc pc = .ok (.putfield 31, 3)) (kk : ∀ (H1 : Heap) (locs1 : List Loc), xP g L (xup M 11 i 6 v) H1 → va_S (xA g L sz) H0 H1 locs1 → W p l e R s m args below meth c H1 locs1 cells slots Q (F0 m (pc + 3) ls rest)) : W p l e R s m args below meth c H locs cells slots Q (F0 m pc ls (.int v :: .ref (xad g 11 i) :: rest)) :=
  x_put hx hb hts inT_X3 tyX3_ok nmX3 hown hK hP hD hS he (xc11 g i) rfl 6 (by decide) (List.mem_cons_of_mem _ wd_114) rfl rfl rfl rfl rfl rfl (fun _ => Nat.le_of_ble_eq_true rfl) (fun _ => rfl) hdg kk
theorem pf_RX4_11 (hx : p.tables.exec = Jvm.exec) (hb : c.code = cc) (hts : ∀ w ∈ c0 :: wsL_law, w.before args s = true) (hown : s.vm.findClass RX4 = some m.cls) (hK : xK g s) (hP : xP g L M H) (hD : xD g L) (hS : va_S (xA g L sz) H0 H locs) (he : (29, i) ∈ L) {v : Int32} (hdg : decode cc pc = .ok (.putfield 11, 3)) (kk : ∀ (H1 : Heap) (locs1 : List Loc), xP g L (xup M 29 i 5 v) H1 → va_S (xA g L sz) H0 H1 locs1 → W p l e R s m args below meth c H1 locs1 cells slots Q (F0 m (pc + 3) ls rest)) : W p l e R s m args below meth c H locs cells slots Q (F0 m pc ls (.int v :: .ref (xad g 29 i) :: rest)) :=
  x_put hx hb hts inT_X4 tyX4_ok nmX4 hown hK hP hD hS he (xc29 g i) rfl 5 (by decide) (List.mem_cons_of_mem _ wd_685) rfl rfl rfl rfl rfl rfl (fun _ => Nat.le_of_ble_eq_true rfl) (fun _ => rfl) hdg kk
theorem pf_RX4_15 (hx : p.tables.exec = Jvm.exec) (hb : c.code = cc) (hts : ∀ w ∈ c0 :: wsL_law, w.before args s = true) (hown : s.vm.findClass RX4 = some m.cls) (hK : xK g s) (hP : xP g L M H) (hD : xD g L) (hS : va_S (xA g L sz) H0 H locs) (he : (29, i) ∈ L) {v : Int32} (hdg : decode cc pc = .ok (.putfield 15, 3)) (kk : ∀ (H1 : Heap) (locs1 : List Loc), xP g L (xup M 29 i 6 v) H1 → va_S (xA g L sz) H0 H1 locs1 → W p l e R s m args below meth c H1 locs1 cells slots Q (F0 m (pc + 3) ls rest)) : W p l e R s m args below meth c H locs cells slots Q (F0 m pc ls (.int v :: .ref (xad g 29 i) :: rest)) :=
  x_put hx hb hts inT_X4 tyX4_ok nmX4 hown hK hP hD hS he (xc29 g i) rfl 6 (by decide) (List.mem_cons_of_mem _ wd_686) rfl rfl rfl rfl rfl rfl (fun _ => Nat.le_of_ble_eq_true rfl) (fun _ => rfl) hdg kk
theorem pf_RX4_18 (hx : p.tables.exec = Jvm.exec) (hb : c.code = cc) (hts : ∀ w ∈ c0 :: wsL_law, w.before args s = true) (hown : s.vm.findClass RX4 = some m.cls) (hK : xK g s) (hP : xP g L M H) (hD : xD g L) (hS : va_S (xA g L sz) H0 H locs) (he : (29, i) ∈ L) {v : Int32} (hn : narrow .boolean (.int v) = .int v) (hf : fits .boolean (.int v) = true) (hdg : decode cc pc = .ok (.putfield 18, 3)) (kk : ∀ (H1 : Heap) (locs1 : List Loc), xP g L (xup M 29 i 7 v) H1 → va_S (xA g L sz) H0 H1 locs1 → W p l e R s m args below meth c H1 locs1 cells slots Q (F0 m (pc + 3) ls rest)) : W p l e R s m args below meth c H locs cells slots Q (F0 m pc ls (.int v :: .ref (xad g 29 i) :: rest)) :=
  x_put hx hb hts inT_X4 tyX4_ok nmX4 hown hK hP hD hS he (xc29 g i) rfl 7 (by decide) (List.mem_cons_of_mem _ wd_687) rfl rfl rfl rfl hn hf (fun _ => Nat.le_of_ble_eq_true rfl) (fun _ => rfl) hdg kk
theorem pf_RX4_23 (hx : p.tables.exec = Jvm.exec) (hb : c.code = cc) (hts : ∀ w ∈ c0 :: wsL_law, w.before args s = true) (hown : s.vm.findClass RX4 = some m.cls) (hK : xK g s) (hP : xP g L M H) (hD : xD g L) (hS : va_S (xA g L sz) H0 H locs) (he : (29, i) ∈ L) {v : Int32} (hdg : decode cc pc = .ok (.putfield 23, 3)) (kk : ∀ (H1 : Heap) (locs1 : List Loc), xP g L (xup M 29 i 8 v) H1 → va_S (xA g L sz) H0 H1 locs1 → W p l e R s m args below meth c H1 locs1 cells slots Q (F0 m (pc + 3) ls rest)) : W p l e R s m args below meth c H locs cells slots Q (F0 m pc ls (.int v :: .ref (xad g 29 i) :: rest)) :=
  x_put hx hb hts inT_X4 tyX4_ok nmX4 hown hK hP hD hS he (xc29 g i) rfl 8 (by decide) (List.mem_cons_of_mem _ wd_689) rfl rfl rfl rfl rfl rfl (fun _ => Nat.le_of_ble_eq_true rfl) (fun _ => rfl) hdg kk
theorem pf_RX4_26 (hx : p.tables.exec = Jvm.exec) (hb : c.code = cc) (hts : ∀ w ∈ c0 :: wsL_law, w.before args s = true) (hown : s.vm.findClass RX4 = some m.cls) (hK : xK g s) (hP : xP g L M H) (hD : xD g L) (hS : va_S (xA g L sz) H0 H locs) (he : (29, i) ∈ L) {v : Int32} (hdg : decode cc pc = .ok (.putfield 26, 3)) (kk : ∀ (H1 : Heap) (locs1 : List Loc), xP g L (xup M 29 i 9 v) H1 → va_S (xA g L sz) H0 H1 locs1 → W p l e R s m args below meth c H1 locs1 cells slots Q (F0 m (pc + 3) ls rest)) : W p l e R s m args below meth c H locs cells slots Q (F0 m pc ls (.int v :: .ref (xad g 29 i) :: rest)) :=
  x_put hx hb hts inT_X4 tyX4_ok nmX4 hown hK hP hD hS he (xc29 g i) rfl 9 (by decide) (List.mem_cons_of_mem _ wd_690) rfl rfl rfl rfl rfl rfl (fun _ => Nat.le_of_ble_eq_true rfl) (fun _ => rfl) hdg kk
theorem pf_RX4_29 (hx : p.tables.exec = Jvm.exec) (hb : c.code = cc) (hts : ∀ w ∈ c0 :: wsL_law, w.before args s = true) (hown : s.vm.findClass RX4 = some m.cls) (hK : xK g s) (hP : xP g L M H) (hD : xD g L) (hS : va_S (xA g L sz) H0 H locs) (he : (29, i) ∈ L) {v : Int32} (hdg : decode cc pc = .ok (.putfield 29, 3)) (kk : ∀ (H1 : Heap) (locs1 : List Loc), xP g L (xup M 29 i 10 v) H1 → va_S (xA g L sz) H0 H1 locs1 → W p l e R s m args below meth c H1 locs1 cells slots Q (F0 m (pc + 3) ls rest)) : W p l e R s m args below meth c H locs cells slots Q (F0 m pc ls (.int v :: .ref (xad g 29 i) :: rest)) :=
  x_put hx hb hts inT_X4 tyX4_ok nmX4 hown hK hP hD hS he (xc29 g i) rfl 10 (by decide) (List.mem_cons_of_mem _ wd_691) rfl rfl rfl rfl rfl rfl (fun _ => Nat.le_of_ble_eq_true rfl) (fun _ => rfl) hdg kk
theorem pf_RX6_13 (hx : p.tables.exec = Jvm.exec) (hb : c.code = cc) (hts : ∀ w ∈ c0 :: wsL_law, w.before args s = true) (hown : s.vm.findClass RX6 = some m.cls) (hK : xK g s) (hP : xP g L M H) (hD : xD g L) (hS : va_S (xA g L sz) H0 H locs) (he : (24, i) ∈ L) {v : Int32} (hdg : decode cc pc = .ok (.putfield 13, 3)) (kk : ∀ (H1 : Heap) (locs1 : List Loc), xP g L (xup M 24 i 1 v) H1 → va_S (xA g L sz) H0 H1 locs1 → W p l e R s m args below meth c H1 locs1 cells slots Q (F0 m (pc + 3) ls rest)) : W p l e R s m args below meth c H locs cells slots Q (F0 m pc ls (.int v :: .ref (xad g 24 i) :: rest)) :=
  x_put hx hb hts inT_X6 tyX6_ok nmX6 hown hK hP hD hS he (xc24 g i) rfl 1 (by decide) (List.mem_cons_of_mem _ wd_124) rfl rfl rfl rfl rfl rfl (fun _ => Nat.le_of_ble_eq_true rfl) (fun _ => rfl) hdg kk
theorem pf_RX6_17 (hx : p.tables.exec = Jvm.exec) (hb : c.code = cc) (hts : ∀ w ∈ c0 :: wsL_law, w.before args s = true) (hown : s.vm.findClass RX6 = some m.cls) (hK : xK g s) (hP : xP g L M H) (hD : xD g L) (hS : va_S (xA g L sz) H0 H locs) (he : (24, i) ∈ L) {v : Int32} (hdg : decode cc pc = .ok (.putfield 17, 3)) (kk : ∀ (H1 : Heap) (locs1 : List Loc), xP g L (xup M 24 i 2 v) H1 → va_S (xA g L sz) H0 H1 locs1 → W p l e R s m args below meth c H1 locs1 cells slots Q (F0 m (pc + 3) ls rest)) : W p l e R s m args below meth c H locs cells slots Q (F0 m pc ls (.int v :: .ref (xad g 24 i) :: rest)) :=
  x_put hx hb hts inT_X6 tyX6_ok nmX6 hown hK hP hD hS he (xc24 g i) rfl 2 (by decide) (List.mem_cons_of_mem _ wd_125) rfl rfl rfl rfl rfl rfl (fun _ => Nat.le_of_ble_eq_true rfl) (fun _ => rfl) hdg kk
theorem pf_RX7_13 (hx : p.tables.exec = Jvm.exec) (hb : c.code = cc) (hts : ∀ w ∈ c0 :: wsL_law, w.before args s = true) (hown : s.vm.findClass RX7 = some m.cls) (hK : xK g s) (hP : xP g L M H) (hD : xD g L) (hS : va_S (xA g L sz) H0 H locs) (he : (5, i) ∈ L) {v : Int32} (hdg : decode cc pc = .ok (.putfield 13, 3)) (kk : ∀ (H1 : Heap) (locs1 : List Loc), xP g L (xup M 5 i 1 v) H1 → va_S (xA g L sz) H0 H1 locs1 → W p l e R s m args below meth c H1 locs1 cells slots Q (F0 m (pc + 3) ls rest)) : W p l e R s m args below meth c H locs cells slots Q (F0 m pc ls (.int v :: .ref (xad g 5 i) :: rest)) :=
  x_put hx hb hts inT_X7 tyX7_ok nmX7 hown hK hP hD hS he (xc5 g i) rfl 1 (by decide) (List.mem_cons_of_mem _ wd_89) rfl rfl rfl rfl rfl rfl (fun _ => Nat.le_of_ble_eq_true rfl) (fun _ => rfl) hdg kk
theorem pf_RX7_17 (hx : p.tables.exec = Jvm.exec) (hb : c.code = cc) (hts : ∀ w ∈ c0 :: wsL_law, w.before args s = true) (hown : s.vm.findClass RX7 = some m.cls) (hK : xK g s) (hP : xP g L M H) (hD : xD g L) (hS : va_S (xA g L sz) H0 H locs) (he : (5, i) ∈ L) {v : Int32} (hdg : decode cc pc = .ok (.putfield 17, 3)) (kk : ∀ (H1 : Heap) (locs1 : List Loc), xP g L (xup M 5 i 2 v) H1 → va_S (xA g L sz) H0 H1 locs1 → W p l e R s m args below meth c H1 locs1 cells slots Q (F0 m (pc + 3) ls rest)) : W p l e R s m args below meth c H locs cells slots Q (F0 m pc ls (.int v :: .ref (xad g 5 i) :: rest)) :=
  x_put hx hb hts inT_X7 tyX7_ok nmX7 hown hK hP hD hS he (xc5 g i) rfl 2 (by decide) (List.mem_cons_of_mem _ wd_90) rfl rfl rfl rfl rfl rfl (fun _ => Nat.le_of_ble_eq_true rfl) (fun _ => rfl) hdg kk
theorem pf_RX7_20 (hx : p.tables.exec = Jvm.exec) (hb : c.code = cc) (hts : ∀ w ∈ c0 :: wsL_law, w.before args s = true) (hown : s.vm.findClass RX7 = some m.cls) (hK : xK g s) (hP : xP g L M H) (hD : xD g L) (hS : va_S (xA g L sz) H0 H locs) (he : (5, i) ∈ L) {v : Int32} (hdg : decode cc pc = .ok (.putfield 20, 3)) (kk : ∀ (H1 : Heap) (locs1 : List Loc), xP g L (xup M 5 i 3 v) H1 → va_S (xA g L sz) H0 H1 locs1 → W p l e R s m args below meth c H1 locs1 cells slots Q (F0 m (pc + 3) ls rest)) : W p l e R s m args below meth c H locs cells slots Q (F0 m pc ls (.int v :: .ref (xad g 5 i) :: rest)) :=
  x_put hx hb hts inT_X7 tyX7_ok nmX7 hown hK hP hD hS he (xc5 g i) rfl 3 (by decide) (List.mem_cons_of_mem _ wd_91) rfl rfl rfl rfl rfl rfl (fun _ => Nat.le_of_ble_eq_true rfl) (fun _ => rfl) hdg kk
theorem pf_RX7_23 (hx : p.tables.exec = Jvm.exec) (hb : c.code = cc) (hts : ∀ w ∈ c0 :: wsL_law, w.before args s = true) (hown : s.vm.findClass RX7 = some m.cls) (hK : xK g s) (hP : xP g L M H) (hD : xD g L) (hS : va_S (xA g L sz) H0 H locs) (he : (5, i) ∈ L) {v : Int32} (hdg : decode cc pc = .ok (.putfield 23, 3)) (kk : ∀ (H1 : Heap) (locs1 : List Loc), xP g L (xup M 5 i 4 v) H1 → va_S (xA g L sz) H0 H1 locs1 → W p l e R s m args below meth c H1 locs1 cells slots Q (F0 m (pc + 3) ls rest)) : W p l e R s m args below meth c H locs cells slots Q (F0 m pc ls (.int v :: .ref (xad g 5 i) :: rest)) :=
  x_put hx hb hts inT_X7 tyX7_ok nmX7 hown hK hP hD hS he (xc5 g i) rfl 4 (by decide) (List.mem_cons_of_mem _ wd_92) rfl rfl rfl rfl rfl rfl (fun _ => Nat.le_of_ble_eq_true rfl) (fun _ => rfl) hdg kk
theorem pf_RX7_26 (hx : p.tables.exec = Jvm.exec) (hb : c.code = cc) (hts : ∀ w ∈ c0 :: wsL_law, w.before args s = true) (hown : s.vm.findClass RX7 = some m.cls) (hK : xK g s) (hP : xP g L M H) (hD : xD g L) (hS : va_S (xA g L sz) H0 H locs) (he : (5, i) ∈ L) {v : Int32} (hdg : decode cc pc = .ok (.putfield 26, 3)) (kk : ∀ (H1 : Heap) (locs1 : List Loc), xP g L (xup M 5 i 5 v) H1 → va_S (xA g L sz) H0 H1 locs1 → W p l e R s m args below meth c H1 locs1 cells slots Q (F0 m (pc + 3) ls rest)) : W p l e R s m args below meth c H locs cells slots Q (F0 m pc ls (.int v :: .ref (xad g 5 i) :: rest)) :=
  x_put hx hb hts inT_X7 tyX7_ok nmX7 hown hK hP hD hS he (xc5 g i) rfl 5 (by decide) (List.mem_cons_of_mem _ wd_93) rfl rfl rfl rfl rfl rfl (fun _ => Nat.le_of_ble_eq_true rfl) (fun _ => rfl) hdg kk
theorem pf_RX8_15 (hx : p.tables.exec = Jvm.exec) (hb : c.code = cc) (hts : ∀ w ∈ c0 :: wsL_law, w.before args s = true) (hown : s.vm.findClass RX8 = some m.cls) (hK : xK g s) (hP : xP g L M H) (hD : xD g L) (hS : va_S (xA g L sz) H0 H locs) (he : (12, i) ∈ L) {v : Int32} (hdg : decode cc pc = .ok (.putfield 15, 3)) (kk : ∀ (H1 : Heap) (locs1 : List Loc), xP g L (xup M 12 i 1 v) H1 → va_S (xA g L sz) H0 H1 locs1 → W p l e R s m args below meth c H1 locs1 cells slots Q (F0 m (pc + 3) ls rest)) : W p l e R s m args below meth c H locs cells slots Q (F0 m pc ls (.int v :: .ref (xad g 12 i) :: rest)) :=
  x_put hx hb hts inT_X8 tyX8_ok nmX8 hown hK hP hD hS he (xc12 g i) rfl 1 (by decide) (List.mem_cons_of_mem _ wd_119) rfl rfl rfl rfl rfl rfl (fun _ => Nat.le_of_ble_eq_true rfl) (fun _ => rfl) hdg kk
end XF
theorem mt_J0_charAt_5068e : xMV RJ0 yJ0_charAt_5068e cJ0_charAt_5068e 2 (some .char) 1 := ⟨wd_474, wd_475, wd_464, wd_476, by decide +kernel⟩
theorem mt_J0_checkIndex_df160 : xMS yJ0_checkIndex_df160 cJ0_checkIndex_df160 2 none 2 := ⟨wd_486, wd_464, wd_487, by decide +kernel⟩
theorem mt_J0_coder_7d493 : xMV RJ0 yJ0_coder_7d493 cJ0_coder_7d493 1 (some .byte) 0 := ⟨wd_468, wd_469, wd_464, wd_470, by decide +kernel⟩
theorem mt_J0_isLatin1_aae02 : xMV RJ0 yJ0_isLatin1_aae02 cJ0_isLatin1_aae02 1 (some .boolean) 0 := ⟨wd_478, wd_479, wd_464, wd_480, by decide +kernel⟩
theorem mt_J0_length_8abf5 : xMV RJ0 yJ0_length_8abf5 cJ0_length_8abf5 1 (some .int) 0 := ⟨wd_462, wd_463, wd_464, wd_465, by decide +kernel⟩
theorem mt_J1_charAt_3b067 : xMS yJ1_charAt_3b067 cJ1_charAt_3b067 2 (some .char) 2 := ⟨wd_482, wd_483, wd_484, by decide +kernel⟩
theorem mt_J2_charAt_3b067 : xMS yJ2_charAt_3b067 cJ2_charAt_3b067 2 (some .char) 2 := ⟨wd_494, wd_495, wd_496, by decide +kernel⟩
theorem mt_J2_checkIndex_2214a : xMS yJ2_checkIndex_2214a cJ2_checkIndex_2214a 2 none 2 := ⟨wd_498, wd_495, wd_499, by decide +kernel⟩
theorem mt_J2_getChar_3b067 : xMS yJ2_getChar_3b067 cJ2_getChar_3b067 2 (some .char) 2 := ⟨wd_505, wd_495, wd_506, by decide +kernel⟩
theorem mt_J2_length_9d52b : xMS yJ2_length_9d52b cJ2_length_9d52b 1 (some .int) 1 := ⟨wd_501, wd_495, wd_502, by decide +kernel⟩
theorem mt_J3_checkIndex_8e157 : xMS yJ3_checkIndex_8e157 cJ3_checkIndex_8e157 3 (some .int) 3 := ⟨wd_490, wd_491, wd_492, by decide +kernel⟩
theorem mt_J6_bitCount_0f7a4 : xMS yJ6_bitCount_0f7a4 cJ6_bitCount_0f7a4 1 (some .int) 1 := ⟨wd_950, wd_951, wd_952, by decide +kernel⟩
theorem mt_X0_changeHeld : xMV RX0 yX0_changeHeld cX0_changeHeld 4 (some .int) 2 := ⟨wd_360, wd_361, wd_310, wd_362, by decide +kernel⟩
theorem mt_X0_changeNeed : xMV RX0 yX0_changeNeed cX0_changeNeed 3 (some .int) 1 := ⟨wd_356, wd_357, wd_310, wd_358, by decide +kernel⟩
theorem mt_X0_isInNeed : xMV RX0 yX0_isInNeed cX0_isInNeed 4 (some .boolean) 1 := ⟨wd_381, wd_382, wd_310, wd_383, by decide +kernel⟩
theorem mt_X0_payOut : xMV RX0 yX0_payOut cX0_payOut 2 (some .int) 1 := ⟨wd_865, wd_866, wd_310, wd_867, by decide +kernel⟩
theorem mt_X10_areDifferentNotes : xMV RX10 yX10_areDifferentNotes cX10_areDifferentNotes 7 (some .boolean) 3 := ⟨wd_925, wd_926, wd_2, wd_927, by decide +kernel⟩
theorem mt_X10_as : xMV RX10 yX10_as cX10_as 4 (some .int) 2 := ⟨wd_1012, wd_1013, wd_2, wd_1014, by decide +kernel⟩
theorem mt_X10_ask : xMV RX10 yX10_ask cX10_ask 5 (some .int) 2 := ⟨wd_1026, wd_1027, wd_2, wd_1028, by decide +kernel⟩
theorem mt_X10_bank : xMV RX10 yX10_bank cX10_bank 5 (some .int) 3 := ⟨wd_304, wd_305, wd_2, wd_306, by decide +kernel⟩
theorem mt_X10_bankOf : xMV RX10 yX10_bankOf cX10_bankOf 2 (some (.object "NoteCounter$Bank")) 1 := ⟨wd_339, wd_340, wd_2, wd_341, by decide +kernel⟩
theorem mt_X10_banksInNeed : xMV RX10 yX10_banksInNeed cX10_banksInNeed 5 (some .int) 1 := ⟨wd_377, wd_378, wd_2, wd_379, by decide +kernel⟩
theorem mt_X10_bears : xMV RX10 yX10_bears cX10_bears 4 (some .int) 2 := ⟨wd_845, wd_846, wd_2, wd_847, by decide +kernel⟩
theorem mt_X10_books : xMV RX10 yX10_books cX10_books 3 (some .int) 0 := ⟨wd_418, wd_419, wd_2, wd_420, by decide +kernel⟩
theorem mt_X10_copy : xMV RX10 yX10_copy cX10_copy 8 (some .int) 5 := ⟨wd_238, wd_239, wd_2, wd_240, by decide +kernel⟩
theorem mt_X10_count : xMV RX10 yX10_count cX10_count 2 (some .int) 1 := ⟨wd_1077, wd_1078, wd_2, wd_1079, by decide +kernel⟩
theorem mt_X10_cut : xMV RX10 yX10_cut cX10_cut 4 (some .int) 2 := ⟨wd_873, wd_874, wd_2, wd_875, by decide +kernel⟩
theorem mt_X10_drop : xMV RX10 yX10_drop cX10_drop 4 (some .int) 1 := ⟨wd_252, wd_253, wd_2, wd_254, by decide +kernel⟩
theorem mt_X10_falls : xMV RX10 yX10_falls cX10_falls 6 (some .int) 1 := ⟨wd_369, wd_370, wd_2, wd_371, by decide +kernel⟩
theorem mt_X10_far : xMV RX10 yX10_far cX10_far 3 (some .int) 2 := ⟨wd_286, wd_287, wd_2, wd_288, by decide +kernel⟩
theorem mt_X10_fault : xMV RX10 yX10_fault cX10_fault 1 (some .int) 0 := ⟨wd_614, wd_615, wd_2, wd_616, by decide +kernel⟩
theorem mt_X10_feed : xMV RX10 yX10_feed cX10_feed 4 (some .int) 2 := ⟨wd_399, wd_400, wd_2, wd_401, by decide +kernel⟩
theorem mt_X10_found : xMV RX10 yX10_found cX10_found 2 (some .int) 1 := ⟨wd_183, wd_184, wd_2, wd_185, by decide +kernel⟩
theorem mt_X10_foundNothing : xMV RX10 yX10_foundNothing cX10_foundNothing 2 (some .int) 1 := ⟨wd_193, wd_194, wd_2, wd_195, by decide +kernel⟩
theorem mt_X10_giveBody : xMS yX10_giveBody cX10_giveBody 6 (some .int) 5 := ⟨wd_1036, wd_2, wd_1037, by decide +kernel⟩
theorem mt_X10_half : xMV RX10 yX10_half cX10_half 5 (some .int) 3 := ⟨wd_886, wd_887, wd_2, wd_888, by decide +kernel⟩
theorem mt_X10_hands : xMV RX10 yX10_hands cX10_hands 5 (some .int) 3 := ⟨wd_792, wd_793, wd_2, wd_794, by decide +kernel⟩
theorem mt_X10_hold : xMV RX10 yX10_hold cX10_hold 5 (some .int) 3 := ⟨wd_352, wd_353, wd_2, wd_354, by decide +kernel⟩
theorem mt_X10_home : xMV RX10 yX10_home cX10_home 4 (some .int) 1 := ⟨wd_861, wd_862, wd_2, wd_863, by decide +kernel⟩
theorem mt_X10_house : xMV RX10 yX10_house cX10_house 4 (some .int) 2 := ⟨wd_330, wd_331, wd_2, wd_332, by decide +kernel⟩
theorem mt_X10_inTheHundred : xMV RX10 yX10_inTheHundred cX10_inTheHundred 8 (some .int) 3 := ⟨wd_777, wd_778, wd_2, wd_779, by decide +kernel⟩
theorem mt_X10_isOfKind : xMS yX10_isOfKind cX10_isOfKind 2 (some .boolean) 2 := ⟨wd_1016, wd_2, wd_1017, by decide +kernel⟩
theorem mt_X10_isTown : xMS yX10_isTown cX10_isTown 1 (some .boolean) 1 := ⟨wd_269, wd_2, wd_270, by decide +kernel⟩
theorem mt_X10_isUpTo : xMS yX10_isUpTo cX10_isUpTo 2 (some .boolean) 2 := ⟨wd_180, wd_2, wd_181, by decide +kernel⟩
theorem mt_X10_kind : xMV RX10 yX10_kind cX10_kind 3 (some .int) 1 := ⟨wd_996, wd_997, wd_2, wd_998, by decide +kernel⟩
theorem mt_X10_kindOf : xMV RX10 yX10_kindOf cX10_kindOf 3 (some .int) 1 := ⟨wd_1000, wd_1001, wd_2, wd_1002, by decide +kernel⟩
theorem mt_X10_known : xMV RX10 yX10_known cX10_known 6 (some .int) 4 := ⟨wd_622, wd_623, wd_2, wd_624, by decide +kernel⟩
theorem mt_X10_looks : xMV RX10 yX10_looks cX10_looks 6 (some .int) 3 := ⟨wd_743, wd_744, wd_2, wd_745, by decide +kernel⟩
theorem mt_X10_newestBook : xMV RX10 yX10_newestBook cX10_newestBook 4 (some .int) 2 := ⟨wd_626, wd_627, wd_2, wd_628, by decide +kernel⟩
theorem mt_X10_note : xMV RX10 yX10_note cX10_note 8 (some .int) 5 := ⟨wd_672, wd_673, wd_2, wd_674, by decide +kernel⟩
theorem mt_X10_noteOf : xMV RX10 yX10_noteOf cX10_noteOf 2 (some (.object "NoteCounter$Note")) 1 := ⟨wd_726, wd_727, wd_2, wd_728, by decide +kernel⟩
theorem mt_X10_notesThatAre : xMV RX10 yX10_notesThatAre cX10_notesThatAre 5 (some .int) 1 := ⟨wd_1085, wd_1086, wd_2, wd_1087, by decide +kernel⟩
theorem mt_X10_offerNotes : xMV RX10 yX10_offerNotes cX10_offerNotes 6 none 3 := ⟨wd_824, wd_825, wd_2, wd_826, by decide +kernel⟩
theorem mt_X10_pay : xMV RX10 yX10_pay cX10_pay 9 (some .int) 3 := ⟨wd_819, wd_820, wd_2, wd_821, by decide +kernel⟩
theorem mt_X10_rates : xMV RX10 yX10_rates cX10_rates 6 (some .int) 3 := ⟨wd_907, wd_908, wd_2, wd_909, by decide +kernel⟩
theorem mt_X10_road : xMV RX10 yX10_road cX10_road 5 (some .int) 3 := ⟨wd_265, wd_266, wd_2, wd_267, by decide +kernel⟩
theorem mt_X10_set : xMV RX10 yX10_set cX10_set 5 (some .int) 3 := ⟨wd_217, wd_218, wd_2, wd_219, by decide +kernel⟩
theorem mt_X10_sheet : xMV RX10 yX10_sheet cX10_sheet 5 (some .int) 3 := ⟨wd_171, wd_172, wd_2, wd_173, by decide +kernel⟩
theorem mt_X10_sheetOf : xMV RX10 yX10_sheetOf cX10_sheetOf 2 (some (.object "NoteCounter$Sheet")) 1 := ⟨wd_176, wd_177, wd_2, wd_178, by decide +kernel⟩
theorem mt_X10_sheetsThere : xMV RX10 yX10_sheetsThere cX10_sheetsThere 4 (some .int) 0 := ⟨wd_1081, wd_1082, wd_2, wd_1083, by decide +kernel⟩
theorem mt_X10_shutBanks : xMV RX10 yX10_shutBanks cX10_shutBanks 4 (some .int) 0 := ⟨wd_373, wd_374, wd_2, wd_375, by decide +kernel⟩
theorem mt_X10_status : xMV RX10 yX10_status cX10_status 1 (some .int) 0 := ⟨wd_1093, wd_1094, wd_2, wd_1095, by decide +kernel⟩
theorem mt_X10_tellDrover : xMV RX10 yX10_tellDrover cX10_tellDrover 4 none 2 := ⟨wd_929, wd_930, wd_2, wd_931, by decide +kernel⟩
theorem mt_X10_told : xMV RX10 yX10_told cX10_told 4 (some .int) 2 := ⟨wd_717, wd_718, wd_2, wd_719, by decide +kernel⟩
theorem mt_X10_trace : xMV RX10 yX10_trace cX10_trace 2 (some .int) 1 := ⟨wd_1064, wd_1065, wd_2, wd_1066, by decide +kernel⟩
theorem mt_X10_trader : xMV RX10 yX10_trader cX10_trader 5 (some .int) 3 := ⟨wd_809, wd_810, wd_2, wd_811, by decide +kernel⟩
theorem mt_X10_traderOf : xMV RX10 yX10_traderOf cX10_traderOf 2 (some (.object "NoteCounter$Trader")) 1 := ⟨wd_678, wd_679, wd_2, wd_680, by decide +kernel⟩
theorem mt_X10_way : xMV RX10 yX10_way cX10_way 9 (some .int) 6 := ⟨wd_919, wd_920, wd_2, wd_921, by decide +kernel⟩
theorem mt_X10_week : xMV RX10 yX10_week cX10_week 3 (some .int) 1 := ⟨wd_389, wd_390, wd_2, wd_391, by decide +kernel⟩
theorem mt_X10_worstOffer : xMV RX10 yX10_worstOffer cX10_worstOffer 4 (some .int) 0 := ⟨wd_832, wd_833, wd_2, wd_834, by decide +kernel⟩
theorem mt_X10_worth : xMV RX10 yX10_worth cX10_worth 5 (some .int) 3 := ⟨wd_773, wd_774, wd_2, wd_775, by decide +kernel⟩
theorem mt_X11_as : xMV RX11 yX11_as cX11_as 3 (some .int) 2 := ⟨wd_1019, wd_1020, wd_5, wd_1021, by decide +kernel⟩
theorem mt_X11_ask : xMV RX11 yX11_ask cX11_ask 3 (some .int) 2 := ⟨wd_1044, wd_1045, wd_5, wd_1046, by decide +kernel⟩
theorem mt_X11_bad : xMV RX11 yX11_bad cX11_bad 2 none 1 := ⟨wd_595, wd_596, wd_5, wd_597, by decide +kernel⟩
theorem mt_X11_bank : xMV RX11 yX11_bank cX11_bank 4 (some .int) 3 := ⟨wd_322, wd_323, wd_5, wd_324, by decide +kernel⟩
theorem mt_X11_bears : xMV RX11 yX11_bears cX11_bears 4 (some .int) 2 := ⟨wd_856, wd_857, wd_5, wd_858, by decide +kernel⟩
theorem mt_X11_began : xMV RX11 yX11_began cX11_began 2 none 1 := ⟨wd_1053, wd_1054, wd_5, wd_1055, by decide +kernel⟩
theorem mt_X11_bits : xMS yX11_bits cX11_bits 3 (some .int) 1 := ⟨wd_1061, wd_5, wd_1062, by decide +kernel⟩
theorem mt_X11_bookWeek : xMV RX11 yX11_bookWeek cX11_bookWeek 4 (some .int) 2 := ⟨wd_664, wd_665, wd_5, wd_666, by decide +kernel⟩
theorem mt_X11_books : xMV RX11 yX11_books cX11_books 3 (some .int) 0 := ⟨wd_557, wd_558, wd_5, wd_559, by decide +kernel⟩
theorem mt_X11_brings : xMV RX11 yX11_brings cX11_brings 3 (some .int) 2 := ⟨wd_992, wd_993, wd_5, wd_994, by decide +kernel⟩
theorem mt_X11_byteAt : xMV RX11 yX11_byteAt cX11_byteAt 2 (some .int) 1 := ⟨wd_577, wd_578, wd_5, wd_579, by decide +kernel⟩
theorem mt_X11_comeTo : xMV RX11 yX11_comeTo cX11_comeTo 4 none 2 := ⟨wd_713, wd_714, wd_5, wd_715, by decide +kernel⟩
theorem mt_X11_copy : xMV RX11 yX11_copy cX11_copy 9 (some .int) 5 := ⟨wd_248, wd_249, wd_5, wd_250, by decide +kernel⟩
theorem mt_X11_count : xMV RX11 yX11_count cX11_count 4 (some .int) 1 := ⟨wd_1089, wd_1090, wd_5, wd_1091, by decide +kernel⟩
theorem mt_X11_cut : xMV RX11 yX11_cut cX11_cut 3 (some .int) 2 := ⟨wd_882, wd_883, wd_5, wd_884, by decide +kernel⟩
theorem mt_X11_drop : xMV RX11 yX11_drop cX11_drop 2 (some .int) 1 := ⟨wd_261, wd_262, wd_5, wd_263, by decide +kernel⟩
theorem mt_X11_entryOfWord : xMV RX11 yX11_entryOfWord cX11_entryOfWord 3 (some .int) 0 := ⟨wd_607, wd_608, wd_5, wd_609, by decide +kernel⟩
theorem mt_X11_falls : xMV RX11 yX11_falls cX11_falls 9 (some .int) 1 := ⟨wd_385, wd_386, wd_5, wd_387, by decide +kernel⟩
theorem mt_X11_falsePlates : xMV RX11 yX11_falsePlates cX11_falsePlates 9 (some .int) 4 := ⟨wd_668, wd_669, wd_5, wd_670, by decide +kernel⟩
theorem mt_X11_far : xMV RX11 yX11_far cX11_far 3 (some .int) 2 := ⟨wd_295, wd_296, wd_5, wd_297, by decide +kernel⟩
theorem mt_X11_farFrom : xMV RX11 yX11_farFrom cX11_farFrom 7 (some .int) 2 := ⟨wd_299, wd_300, wd_5, wd_301, by decide +kernel⟩
theorem mt_X11_fault : xMV RX11 yX11_fault cX11_fault 1 (some .int) 0 := ⟨wd_618, wd_619, wd_5, wd_620, by decide +kernel⟩
theorem mt_X11_feed : xMV RX11 yX11_feed cX11_feed 5 (some .int) 2 := ⟨wd_412, wd_413, wd_5, wd_414, by decide +kernel⟩
theorem mt_X11_finding : xMV RX11 yX11_finding cX11_finding 2 (some .int) 1 := ⟨wd_212, wd_213, wd_5, wd_214, by decide +kernel⟩
theorem mt_X11_goesBy : xMV RX11 yX11_goesBy cX11_goesBy 8 (some .int) 6 := ⟨wd_988, wd_989, wd_5, wd_990, by decide +kernel⟩
theorem mt_X11_half : xMV RX11 yX11_half cX11_half 5 (some .int) 3 := ⟨wd_903, wd_904, wd_5, wd_905, by decide +kernel⟩
theorem mt_X11_hands : xMV RX11 yX11_hands cX11_hands 4 (some .int) 3 := ⟨wd_805, wd_806, wd_5, wd_807, by decide +kernel⟩
theorem mt_X11_hold : xMV RX11 yX11_hold cX11_hold 5 (some .int) 3 := ⟨wd_364, wd_365, wd_5, wd_366, by decide +kernel⟩
theorem mt_X11_home : xMV RX11 yX11_home cX11_home 3 (some .int) 1 := ⟨wd_869, wd_870, wd_5, wd_871, by decide +kernel⟩
theorem mt_X11_house : xMV RX11 yX11_house cX11_house 3 (some .int) 2 := ⟨wd_343, wd_344, wd_5, wd_345, by decide +kernel⟩
theorem mt_X11_in : xMS yX11_in cX11_in 6 (some .boolean) 3 := ⟨wd_209, wd_5, wd_210, by decide +kernel⟩
theorem mt_X11_inHundred : xMV RX11 yX11_inHundred cX11_inHundred 3 (some .int) 2 := ⟨wd_841, wd_842, wd_5, wd_843, by decide +kernel⟩
theorem mt_X11_isBank : xMV RX11 yX11_isBank cX11_isBank 2 (some .boolean) 1 := ⟨wd_348, wd_349, wd_5, wd_350, by decide +kernel⟩
theorem mt_X11_isFalse : xMV RX11 yX11_isFalse cX11_isFalse 2 (some .boolean) 1 := ⟨wd_765, wd_766, wd_5, wd_767, by decide +kernel⟩
theorem mt_X11_isFigure : xMS yX11_isFigure cX11_isFigure 1 (some .boolean) 1 := ⟨wd_584, wd_5, wd_585, by decide +kernel⟩
theorem mt_X11_isGhost : xMV RX11 yX11_isGhost cX11_isGhost 2 (some .boolean) 1 := ⟨wd_769, wd_770, wd_5, wd_771, by decide +kernel⟩
theorem mt_X11_isLetter : xMS yX11_isLetter cX11_isLetter 1 (some .boolean) 1 := ⟨wd_581, wd_5, wd_582, by decide +kernel⟩
theorem mt_X11_isNote : xMV RX11 yX11_isNote cX11_isNote 2 (some .boolean) 1 := ⟨wd_739, wd_740, wd_5, wd_741, by decide +kernel⟩
theorem mt_X11_isOf : xMS yX11_isOf cX11_isOf 2 (some .boolean) 2 := ⟨wd_1023, wd_5, wd_1024, by decide +kernel⟩
theorem mt_X11_isSheet : xMS yX11_isSheet cX11_isSheet 1 (some .boolean) 1 := ⟨wd_205, wd_5, wd_206, by decide +kernel⟩
theorem mt_X11_isTown : xMS yX11_isTown cX11_isTown 1 (some .boolean) 1 := ⟨wd_282, wd_5, wd_283, by decide +kernel⟩
theorem mt_X11_isTrader : xMS yX11_isTrader cX11_isTrader 1 (some .boolean) 1 := ⟨wd_710, wd_5, wd_711, by decide +kernel⟩
theorem mt_X11_isWeek : xMS yX11_isWeek cX11_isWeek 1 (some .boolean) 1 := ⟨wd_653, wd_5, wd_654, by decide +kernel⟩
theorem mt_X11_kind : xMV RX11 yX11_kind cX11_kind 2 (some .int) 1 := ⟨wd_1004, wd_1005, wd_5, wd_1006, by decide +kernel⟩
theorem mt_X11_kindOf : xMV RX11 yX11_kindOf cX11_kindOf 2 (some .int) 1 := ⟨wd_1008, wd_1009, wd_5, wd_1010, by decide +kernel⟩
theorem mt_X11_known : xMV RX11 yX11_known cX11_known 5 (some .int) 4 := ⟨wd_649, wd_650, wd_5, wd_651, by decide +kernel⟩
theorem mt_X11_lookItems : xMV RX11 yX11_lookItems cX11_lookItems 4 (some .int) 3 := ⟨wd_915, wd_916, wd_5, wd_917, by decide +kernel⟩
theorem mt_X11_looks : xMV RX11 yX11_looks cX11_looks 4 (some .int) 3 := ⟨wd_757, wd_758, wd_5, wd_759, by decide +kernel⟩
theorem mt_X11_looksLike : xMV RX11 yX11_looksLike cX11_looksLike 5 (some .int) 3 := ⟨wd_761, wd_762, wd_5, wd_763, by decide +kernel⟩
theorem mt_X11_markOf : xMV RX11 yX11_markOf cX11_markOf 3 (some .int) 2 := ⟨wd_1057, wd_1058, wd_5, wd_1059, by decide +kernel⟩
theorem mt_X11_mayGo : xMV RX11 yX11_mayGo cX11_mayGo 4 (some .boolean) 3 := ⟨wd_984, wd_985, wd_5, wd_986, by decide +kernel⟩
theorem mt_X11_must : xMV RX11 yX11_must cX11_must 2 none 1 := ⟨wd_591, wd_592, wd_5, wd_593, by decide +kernel⟩
theorem mt_X11_note : xMV RX11 yX11_note cX11_note 6 (some .int) 5 := ⟨wd_704, wd_705, wd_5, wd_706, by decide +kernel⟩
theorem mt_X11_numberTo : xMV RX11 yX11_numberTo cX11_numberTo 4 (some .int) 1 := ⟨wd_599, wd_600, wd_5, wd_601, by decide +kernel⟩
theorem mt_X11_offOf : xMV RX11 yX11_offOf cX11_offOf 5 (some .int) 3 := ⟨wd_656, wd_657, wd_5, wd_658, by decide +kernel⟩
theorem mt_X11_pay : xMV RX11 yX11_pay cX11_pay 9 (some .int) 3 := ⟨wd_836, wd_837, wd_5, wd_838, by decide +kernel⟩
theorem mt_X11_rates : xMV RX11 yX11_rates cX11_rates 6 (some .int) 3 := ⟨wd_911, wd_912, wd_5, wd_913, by decide +kernel⟩
theorem mt_X11_readEntry : xMV RX11 yX11_readEntry cX11_readEntry 5 none 1 := ⟨wd_603, wd_604, wd_5, wd_605, by decide +kernel⟩
theorem mt_X11_road : xMV RX11 yX11_road cX11_road 5 (some .int) 3 := ⟨wd_277, wd_278, wd_5, wd_279, by decide +kernel⟩
theorem mt_X11_saidOf : xMV RX11 yX11_saidOf cX11_saidOf 9 (some .int) 4 := ⟨wd_660, wd_661, wd_5, wd_662, by decide +kernel⟩
theorem mt_X11_set : xMV RX11 yX11_set cX11_set 4 (some .int) 3 := ⟨wd_234, wd_235, wd_5, wd_236, by decide +kernel⟩
theorem mt_X11_sheet : xMV RX11 yX11_sheet cX11_sheet 5 (some .int) 3 := ⟨wd_197, wd_198, wd_5, wd_199, by decide +kernel⟩
theorem mt_X11_sizeOf : xMV RX11 yX11_sizeOf cX11_sizeOf 4 (some .int) 2 := ⟨wd_1049, wd_1050, wd_5, wd_1051, by decide +kernel⟩
theorem mt_X11_status : xMV RX11 yX11_status cX11_status 1 (some .int) 0 := ⟨wd_1097, wd_1098, wd_5, wd_1099, by decide +kernel⟩
theorem mt_X11_step : xMV RX11 yX11_step cX11_step 2 none 0 := ⟨wd_571, wd_572, wd_5, wd_573, by decide +kernel⟩
theorem mt_X11_told : xMV RX11 yX11_told cX11_told 3 (some .int) 2 := ⟨wd_734, wd_735, wd_5, wd_736, by decide +kernel⟩
theorem mt_X11_trace : xMV RX11 yX11_trace cX11_trace 2 (some .int) 1 := ⟨wd_1073, wd_1074, wd_5, wd_1075, by decide +kernel⟩
theorem mt_X11_trader : xMV RX11 yX11_trader cX11_trader 4 (some .int) 3 := ⟨wd_815, wd_816, wd_5, wd_817, by decide +kernel⟩
theorem mt_X11_way : xMV RX11 yX11_way cX11_way 15 (some .int) 6 := ⟨wd_980, wd_981, wd_5, wd_982, by decide +kernel⟩
theorem mt_X11_week : xMV RX11 yX11_week cX11_week 3 (some .int) 1 := ⟨wd_393, wd_394, wd_5, wd_395, by decide +kernel⟩
theorem mt_X11_word : xMV RX11 yX11_word cX11_word 4 (some .long) 0 := ⟨wd_587, wd_588, wd_5, wd_589, by decide +kernel⟩
theorem mt_X11_worth : xMV RX11 yX11_worth cX11_worth 4 (some .int) 3 := ⟨wd_784, wd_785, wd_5, wd_786, by decide +kernel⟩
theorem mt_X11_worthOf : xMV RX11 yX11_worthOf cX11_worthOf 8 (some .int) 3 := ⟨wd_788, wd_789, wd_5, wd_790, by decide +kernel⟩
theorem mt_X1_beginBook : xMV RX1 yX1_beginBook cX1_beginBook 1 (some .int) 0 := ⟨wd_454, wd_455, wd_31, wd_456, by decide +kernel⟩
theorem mt_X1_beginEntry : xMV RX1 yX1_beginEntry cX1_beginEntry 1 (some .int) 0 := ⟨wd_524, wd_525, wd_31, wd_526, by decide +kernel⟩
theorem mt_X1_go : xMV RX1 yX1_go cX1_go 2 (some .int) 1 := ⟨wd_511, wd_512, wd_31, wd_513, by decide +kernel⟩
theorem mt_X1_readBank : xMV RX1 yX1_readBank cX1_readBank 2 (some .int) 1 := ⟨wd_536, wd_537, wd_31, wd_538, by decide +kernel⟩
theorem mt_X1_readNumber : xMV RX1 yX1_readNumber cX1_readNumber 3 (some .int) 2 := ⟨wd_520, wd_521, wd_31, wd_522, by decide +kernel⟩
theorem mt_X1_readTape : xMV RX1 yX1_readTape cX1_readTape 4 (some .int) 1 := ⟨wd_425, wd_426, wd_31, wd_427, by decide +kernel⟩
theorem mt_X1_readValue : xMV RX1 yX1_readValue cX1_readValue 2 (some .int) 0 := ⟨wd_540, wd_541, wd_31, wd_542, by decide +kernel⟩
theorem mt_X1_readWeek : xMV RX1 yX1_readWeek cX1_readWeek 1 (some .int) 0 := ⟨wd_515, wd_516, wd_31, wd_517, by decide +kernel⟩
theorem mt_X1_step : xMV RX1 yX1_step cX1_step 2 (some .int) 1 := ⟨wd_450, wd_451, wd_31, wd_452, by decide +kernel⟩
theorem mt_X1_wordOfEntry : xMV RX1 yX1_wordOfEntry cX1_wordOfEntry 1 (some .int) 0 := ⟨wd_528, wd_529, wd_31, wd_530, by decide +kernel⟩
theorem mt_X2_falsePlates : xMV RX2 yX2_falsePlates cX2_falsePlates 5 (some .int) 2 := ⟨wd_645, wd_646, wd_23, wd_647, by decide +kernel⟩
theorem mt_X2_hasRoomBehind : xMV RX2 yX2_hasRoomBehind cX2_hasRoomBehind 2 (some .boolean) 1 := ⟨wd_532, wd_533, wd_23, wd_534, by decide +kernel⟩
theorem mt_X2_isKnown : xMV RX2 yX2_isKnown cX2_isKnown 5 (some .boolean) 4 := ⟨wd_640, wd_641, wd_23, wd_642, by decide +kernel⟩
theorem mt_X2_keep : xMV RX2 yX2_keep cX2_keep 2 none 1 := ⟨wd_548, wd_549, wd_23, wd_550, by decide +kernel⟩
theorem mt_X2_latest : xMV RX2 yX2_latest cX2_latest 7 (some .int) 3 := ⟨wd_636, wd_637, wd_23, wd_638, by decide +kernel⟩
theorem mt_X2_off : xMV RX2 yX2_off cX2_off 4 (some .int) 2 := ⟨wd_631, wd_632, wd_23, wd_633, by decide +kernel⟩
theorem mt_X2_tellApart : xMV RX2 yX2_tellApart cX2_tellApart 5 (some .boolean) 2 := ⟨wd_751, wd_752, wd_23, wd_753, by decide +kernel⟩
theorem mt_X2_write : xMV RX2 yX2_write cX2_write 7 none 5 := ⟨wd_544, wd_545, wd_23, wd_546, by decide +kernel⟩
theorem mt_X3_bestMove : xMV RX3 yX3_bestMove cX3_bestMove 6 (some .int) 3 := ⟨wd_966, wd_967, wd_42, wd_968, by decide +kernel⟩
theorem mt_X3_bestSale : xMV RX3 yX3_bestSale cX3_bestSale 7 (some .int) 2 := ⟨wd_957, wd_958, wd_42, wd_959, by decide +kernel⟩
theorem mt_X3_chooseFirst : xMV RX3 yX3_chooseFirst cX3_chooseFirst 7 none 3 := ⟨wd_971, wd_972, wd_42, wd_973, by decide +kernel⟩
theorem mt_X3_endTheWay : xMV RX3 yX3_endTheWay cX3_endTheWay 3 none 0 := ⟨wd_942, wd_943, wd_42, wd_944, by decide +kernel⟩
theorem mt_X3_keepIfMore : xMV RX3 yX3_keepIfMore cX3_keepIfMore 4 none 3 := ⟨wd_976, wd_977, wd_42, wd_978, by decide +kernel⟩
theorem mt_X3_plan : xMV RX3 yX3_plan cX3_plan 6 none 4 := ⟨wd_937, wd_938, wd_42, wd_939, by decide +kernel⟩
theorem mt_X3_planEvenings : xMV RX3 yX3_planEvenings cX3_planEvenings 5 none 2 := ⟨wd_962, wd_963, wd_42, wd_964, by decide +kernel⟩
theorem mt_X3_planMornings : xMV RX3 yX3_planMornings cX3_planMornings 4 none 1 := ⟨wd_946, wd_947, wd_42, wd_948, by decide +kernel⟩
theorem mt_X3_tellGain : xMV RX3 yX3_tellGain cX3_tellGain 4 none 3 := ⟨wd_933, wd_934, wd_42, wd_935, by decide +kernel⟩
theorem mt_X4_bearer : xMV RX4 yX4_bearer cX4_bearer 5 (some .int) 2 := ⟨wd_850, wd_851, wd_676, wd_852, by decide +kernel⟩
theorem mt_X4_halfHolder : xMV RX4 yX4_halfHolder cX4_halfHolder 2 (some .int) 1 := ⟨wd_890, wd_891, wd_676, wd_892, by decide +kernel⟩
theorem mt_X4_halve : xMV RX4 yX4_halve cX4_halve 2 none 1 := ⟨wd_878, wd_879, wd_676, wd_880, by decide +kernel⟩
theorem mt_X4_handOn : xMV RX4 yX4_handOn cX4_handOn 4 none 2 := ⟨wd_700, wd_701, wd_676, wd_702, by decide +kernel⟩
theorem mt_X4_handTrader : xMV RX4 yX4_handTrader cX4_handTrader 2 (some .int) 1 := ⟨wd_797, wd_798, wd_676, wd_799, by decide +kernel⟩
theorem mt_X4_handWeek : xMV RX4 yX4_handWeek cX4_handWeek 2 (some .int) 1 := ⟨wd_801, wd_802, wd_676, wd_803, by decide +kernel⟩
theorem mt_X4_holder : xMV RX4 yX4_holder cX4_holder 1 (some .int) 0 := ⟨wd_730, wd_731, wd_676, wd_732, by decide +kernel⟩
theorem mt_X4_isFullOfHands : xMV RX4 yX4_isFullOfHands cX4_isFullOfHands 1 (some .boolean) 0 := ⟨wd_828, wd_829, wd_676, wd_830, by decide +kernel⟩
theorem mt_X4_isUnlike : xMV RX4 yX4_isUnlike cX4_isUnlike 2 (some .boolean) 1 := ⟨wd_747, wd_748, wd_676, wd_749, by decide +kernel⟩
theorem mt_X4_moveHalf : xMV RX4 yX4_moveHalf cX4_moveHalf 4 none 3 := ⟨wd_894, wd_895, wd_676, wd_896, by decide +kernel⟩
theorem mt_X4_wouldBePaid : xMV RX4 yX4_wouldBePaid cX4_wouldBePaid 1 (some .int) 0 := ⟨wd_899, wd_900, wd_676, wd_901, by decide +kernel⟩
theorem mt_X5_build : xMV RX5 yX5_build cX5_build 4 none 3 := ⟨wd_273, wd_274, wd_17, wd_275, by decide +kernel⟩
theorem mt_X5_fewestMiles : xMV RX5 yX5_fewestMiles cX5_fewestMiles 4 (some .int) 2 := ⟨wd_290, wd_291, wd_17, wd_292, by decide +kernel⟩
theorem mt_X5_measure : xMV RX5 yX5_measure cX5_measure 5 none 0 := ⟨wd_64, wd_65, wd_17, wd_66, by decide +kernel⟩
theorem mt_X5_milesBetween : xMV RX5 yX5_milesBetween cX5_milesBetween 3 (some .int) 2 := ⟨wd_73, wd_74, wd_17, wd_75, by decide +kernel⟩
theorem mt_X6_begin : xMV RX6 yX6_begin cX6_begin 4 none 2 := ⟨wd_188, wd_189, wd_54, wd_190, by decide +kernel⟩
theorem mt_X6_discard : xMV RX6 yX6_discard cX6_discard 1 none 0 := ⟨wd_257, wd_258, wd_54, wd_259, by decide +kernel⟩
theorem mt_X6_hasPlaces : xMV RX6 yX6_hasPlaces cX6_hasPlaces 3 (some .boolean) 2 := ⟨wd_225, wd_226, wd_54, wd_227, by decide +kernel⟩
theorem mt_X6_isMissing : xMV RX6 yX6_isMissing cX6_isMissing 1 (some .boolean) 0 := ⟨wd_221, wd_222, wd_54, wd_223, by decide +kernel⟩
theorem mt_X6_put : xMV RX6 yX6_put cX6_put 4 (some .int) 2 := ⟨wd_229, wd_230, wd_54, wd_231, by decide +kernel⟩
theorem mt_X7_append : xMV RX7 yX7_append cX7_append 5 none 2 := ⟨wd_408, wd_409, wd_27, wd_410, by decide +kernel⟩
theorem mt_X7_empty : xMV RX7 yX7_empty cX7_empty 1 none 0 := ⟨wd_553, wd_554, wd_27, wd_555, by decide +kernel⟩
theorem mt_X7_endOfRun : xMV RX7 yX7_endOfRun cX7_endOfRun 5 (some .int) 3 := ⟨wd_442, wd_443, wd_27, wd_444, by decide +kernel⟩
theorem mt_X7_hasRoom : xMV RX7 yX7_hasRoom cX7_hasRoom 2 (some .boolean) 1 := ⟨wd_404, wd_405, wd_27, wd_406, by decide +kernel⟩
theorem mt_X7_isAmong : xMV RX7 yX7_isAmong cX7_isAmong 4 (some .boolean) 3 := ⟨wd_438, wd_439, wd_27, wd_440, by decide +kernel⟩
theorem mt_X7_isName : xMV RX7 yX7_isName cX7_isName 3 (some .boolean) 1 := ⟨wd_458, wd_459, wd_27, wd_460, by decide +kernel⟩
theorem mt_X7_numberAt : xMV RX7 yX7_numberAt cX7_numberAt 5 (some .int) 2 := ⟨wd_446, wd_447, wd_27, wd_448, by decide +kernel⟩
theorem mt_X7_readToken : xMV RX7 yX7_readToken cX7_readToken 2 none 0 := ⟨wd_434, wd_435, wd_27, wd_436, by decide +kernel⟩
theorem mt_X7_rewind : xMV RX7 yX7_rewind cX7_rewind 1 none 0 := ⟨wd_430, wd_431, wd_27, wd_432, by decide +kernel⟩
theorem mt_X8_empty : xMV RX8 yX8_empty cX8_empty 1 none 0 := ⟨wd_1032, wd_1033, wd_46, wd_1034, by decide +kernel⟩
theorem mt_X8_leave : xMV RX8 yX8_leave cX8_leave 3 none 1 := ⟨wd_1039, wd_1040, wd_46, wd_1041, by decide +kernel⟩
theorem mt_X8_number : xMV RX8 yX8_number cX8_number 2 (some .int) 1 := ⟨wd_1068, wd_1069, wd_46, wd_1070, by decide +kernel⟩
