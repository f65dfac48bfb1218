theorem om_wsL_law0_r1 : ∀ w ∈ wsL_law0_r1, w ∈ Om := fun w h => om_0 (List.mem_append_left _ (List.mem_append_left _ (List.mem_append_left _ (List.mem_append_left _ (List.mem_append_left _ (List.mem_append_left _ (List.mem_append_left _ (List.mem_append_left _ (List.mem_append_left _ (List.mem_append_left _ (List.mem_append_left _ (List.mem_append_left _ (List.mem_append_left _ h)))))))))))))
theorem om_wsL_law0_r2 : ∀ w ∈ wsL_law0_r2, w ∈ Om := fun w h => om_0 (List.mem_append_left _ (List.mem_append_left _ (List.mem_append_left _ (List.mem_append_left _ (List.mem_append_left _ (List.mem_append_left _ (List.mem_append_left _ (List.mem_append_left _ (List.mem_append_left _ (List.mem_append_left _ (List.mem_append_left _ (List.mem_append_left _ (List.mem_append_right _ (List.mem_append_left _ h))))))))))))))
theorem om_wsL_law0_r3 : ∀ w ∈ wsL_law0_r3, w ∈ Om := fun w h => om_0 (List.mem_append_left _ (List.mem_append_left _ (List.mem_append_left _ (List.mem_append_left _ (List.mem_append_left _ (List.mem_append_left _ (List.mem_append_left _ (List.mem_append_left _ (List.mem_append_left _ (List.mem_append_left _ (List.mem_append_left _ (List.mem_append_left _ (List.mem_append_right _ (List.mem_append_right _ (List.mem_append_left _ h)))))))))))))))
theorem om_wsL_law0_r4 : ∀ w ∈ wsL_law0_r4, w ∈ Om := fun w h => om_0 (List.mem_append_left _ (List.mem_append_left _ (List.mem_append_left _ (List.mem_append_left _ (List.mem_append_left _ (List.mem_append_left _ (List.mem_append_left _ (List.mem_append_left _ (List.mem_append_left _ (List.mem_append_left _ (List.mem_append_left _ (List.mem_append_left _ (List.mem_append_right _ (List.mem_append_right _ (List.mem_append_right _ (List.mem_append_left _ h))))))))))))))))
theorem om_wsL_law0_r5 : ∀ w ∈ wsL_law0_r5, w ∈ Om := fun w h => om_0 (List.mem_append_left _ (List.mem_append_left _ (List.mem_append_left _ (List.mem_append_left _ (List.mem_append_left _ (List.mem_append_left _ (List.mem_append_left _ (List.mem_append_left _ (List.mem_append_left _ (List.mem_append_left _ (List.mem_append_left _ (List.mem_append_left _ (List.mem_append_right _ (List.mem_append_right _ (List.mem_append_right _ (List.mem_append_right _ (List.mem_append_left _ h)))))))))))))))))
theorem om_wsL_law0_r6 : ∀ w ∈ wsL_law0_r6, w ∈ Om := fun w h => om_0 (List.mem_append_left _ (List.mem_append_left _ (List.mem_append_left _ (List.mem_append_left _ (List.mem_append_left _ (List.mem_append_left _ (List.mem_append_left _ (List.mem_append_left _ (List.mem_append_left _ (List.mem_append_left _ (List.mem_append_left _ (List.mem_append_left _ (List.mem_append_right _ (List.mem_append_right _ (List.mem_append_right _ (List.mem_append_right _ (List.mem_append_right _ (List.mem_append_left _ h))))))))))))))))))
theorem om_wsL_law0_r7 : ∀ w ∈ wsL_law0_r7, w ∈ Om := fun w h => om_0 (List.mem_append_left _ (List.mem_append_left _ (List.mem_append_left _ (List.mem_append_left _ (List.mem_append_left _ (List.mem_append_left _ (List.mem_append_left _ (List.mem_append_left _ (List.mem_append_left _ (List.mem_append_left _ (List.mem_append_left _ (List.mem_append_left _ (List.mem_append_right _ (List.mem_append_right _ (List.mem_append_right _ (List.mem_append_right _ (List.mem_append_right _ (List.mem_append_right _ (List.mem_append_left _ h)))))))))))))))))))
theorem om_wsL_law0_r8 : ∀ w ∈ wsL_law0_r8, w ∈ Om := fun w h => om_0 (List.mem_append_left _ (List.mem_append_left _ (List.mem_append_left _ (List.mem_append_left _ (List.mem_append_left _ (List.mem_append_left _ (List.mem_append_left _ (List.mem_append_left _ (List.mem_append_left _ (List.mem_append_left _ (List.mem_append_left _ (List.mem_append_left _ (List.mem_append_right _ (List.mem_append_right _ (List.mem_append_right _ (List.mem_append_right _ (List.mem_append_right _ (List.mem_append_right _ (List.mem_append_right _ (List.mem_append_left _ h))))))))))))))))))))
theorem om_wsL_law0_r9 : ∀ w ∈ wsL_law0_r9, w ∈ Om := fun w h => om_0 (List.mem_append_left _ (List.mem_append_left _ (List.mem_append_left _ (List.mem_append_left _ (List.mem_append_left _ (List.mem_append_left _ (List.mem_append_left _ (List.mem_append_left _ (List.mem_append_left _ (List.mem_append_left _ (List.mem_append_left _ (List.mem_append_left _ (List.mem_append_right _ (List.mem_append_right _ (List.mem_append_right _ (List.mem_append_right _ (List.mem_append_right _ (List.mem_append_right _ (List.mem_append_right _ (List.mem_append_right _ (List.mem_append_left _ h)))))))))))))))))))))
theorem om_wsL_law0_r10 : ∀ w ∈ wsL_law0_r10, w ∈ Om := fun w h => om_0 (List.mem_append_left _ (List.mem_append_left _ (List.mem_append_left _ (List.mem_append_left _ (List.mem_append_left _ (List.mem_append_left _ (List.mem_append_left _ (List.mem_append_left _ (List.mem_append_left _ (List.mem_append_left _ (List.mem_append_left _ (List.mem_append_left _ (List.mem_append_right _ (List.mem_append_right _ (List.mem_append_right _ (List.mem_append_right _ (List.mem_append_right _ (List.mem_append_right _ (List.mem_append_right _ (List.mem_append_right _ (List.mem_append_right _ (List.mem_append_left _ h))))))))))))))))))))))
theorem om_wsL_law0_r11 : ∀ w ∈ wsL_law0_r11, w ∈ Om := fun w h => om_0 (List.mem_append_left _ (List.mem_append_left _ (List.mem_append_left _ (List.mem_append_left _ (List.mem_append_left _ (List.mem_append_left _ (List.mem_append_left _ (List.mem_append_left _ (List.mem_append_left _ (List.mem_append_left _ (List.mem_append_left _ (List.mem_append_left _ (List.mem_append_right _ (List.mem_append_right _ (List.mem_append_right _ (List.mem_append_right _ (List.mem_append_right _ (List.mem_append_right _ (List.mem_append_right _ (List.mem_append_right _ (List.mem_append_right _ (List.mem_append_right _ (List.mem_append_left _ h)))))))))))))))))))))))
theorem om_wsL_law0_r12 : ∀ w ∈ wsL_law0_r12, w ∈ Om := fun w h => om_0 (List.mem_append_left _ (List.mem_append_left _ (List.mem_append_left _ (List.mem_append_left _ (List.mem_append_left _ (List.mem_append_left _ (List.mem_append_left _ (List.mem_append_left _ (List.mem_append_left _ (List.mem_append_left _ (List.mem_append_left _ (List.mem_append_left _ (List.mem_append_right _ (List.mem_append_right _ (List.mem_append_right _ (List.mem_append_right _ (List.mem_append_right _ (List.mem_append_right _ (List.mem_append_right _ (List.mem_append_right _ (List.mem_append_right _ (List.mem_append_right _ (List.mem_append_right _ (List.mem_append_left _ h))))))))))))))))))))))))
theorem om_wsL_law0_r13 : ∀ w ∈ wsL_law0_r13, w ∈ Om := fun w h => om_0 (List.mem_append_left _ (List.mem_append_left _ (List.mem_append_left _ (List.mem_append_left _ (List.mem_append_left _ (List.mem_append_left _ (List.mem_append_left _ (List.mem_append_left _ (List.mem_append_left _ (List.mem_append_left _ (List.mem_append_left _ (List.mem_append_left _ (List.mem_append_right _ (List.mem_append_right _ (List.mem_append_right _ (List.mem_append_right _ (List.mem_append_right _ (List.mem_append_right _ (List.mem_append_right _ (List.mem_append_right _ (List.mem_append_right _ (List.mem_append_right _ (List.mem_append_right _ (List.mem_append_right _ (List.mem_append_left _ h)))))))))))))))))))))))))
theorem om_wsL_law0_r14 : ∀ w ∈ wsL_law0_r14, w ∈ Om := fun w h => om_0 (List.mem_append_left _ (List.mem_append_left _ (List.mem_append_left _ (List.mem_append_left _ (List.mem_append_left _ (List.mem_append_left _ (List.mem_append_left _ (List.mem_append_left _ (List.mem_append_left _ (List.mem_append_left _ (List.mem_append_left _ (List.mem_append_left _ (List.mem_append_right _ (List.mem_append_right _ (List.mem_append_right _ (List.mem_append_right _ (List.mem_append_right _ (List.mem_append_right _ (List.mem_append_right _ (List.mem_append_right _ (List.mem_append_right _ (List.mem_append_right _ (List.mem_append_right _ (List.mem_append_right _ (List.mem_append_right _ (List.mem_append_left _ h))))))))))))))))))))))))))
theorem om_wsL_law0_r15 : ∀ w ∈ wsL_law0_r15, w ∈ Om := fun w h => om_0 (List.mem_append_left _ (List.mem_append_left _ (List.mem_append_left _ (List.mem_append_left _ (List.mem_append_left _ (List.mem_append_left _ (List.mem_append_left _ (List.mem_append_left _ (List.mem_append_left _ (List.mem_append_left _ (List.mem_append_left _ (List.mem_append_left _ (List.mem_append_right _ (List.mem_append_right _ (List.mem_append_right _ (List.mem_append_right _ (List.mem_append_right _ (List.mem_append_right _ (List.mem_append_right _ (List.mem_append_right _ (List.mem_append_right _ (List.mem_append_right _ (List.mem_append_right _ (List.mem_append_right _ (List.mem_append_right _ (List.mem_append_right _ (List.mem_append_left _ h)))))))))))))))))))))))))))
theorem om_wsL_law0_r16 : ∀ w ∈ wsL_law0_r16, w ∈ Om := fun w h => om_0 (List.mem_append_left _ (List.mem_append_left _ (List.mem_append_left _ (List.mem_append_left _ (List.mem_append_left _ (List.mem_append_left _ (List.mem_append_left _ (List.mem_append_left _ (List.mem_append_left _ (List.mem_append_left _ (List.mem_append_left _ (List.mem_append_left _ (List.mem_append_right _ (List.mem_append_right _ (List.mem_append_right _ (List.mem_append_right _ (List.mem_append_right _ (List.mem_append_right _ (List.mem_append_right _ (List.mem_append_right _ (List.mem_append_right _ (List.mem_append_right _ (List.mem_append_right _ (List.mem_append_right _ (List.mem_append_right _ (List.mem_append_right _ (List.mem_append_right _ (List.mem_append_left _ h))))))))))))))))))))))))))))
theorem om_wsL_law0_r17 : ∀ w ∈ wsL_law0_r17, w ∈ Om := fun w h => om_0 (List.mem_append_left _ (List.mem_append_left _ (List.mem_append_left _ (List.mem_append_left _ (List.mem_append_left _ (List.mem_append_left _ (List.mem_append_left _ (List.mem_append_left _ (List.mem_append_left _ (List.mem_append_left _ (List.mem_append_left _ (List.mem_append_left _ (List.mem_append_right _ (List.mem_append_right _ (List.mem_append_right _ (List.mem_append_right _ (List.mem_append_right _ (List.mem_append_right _ (List.mem_append_right _ (List.mem_append_right _ (List.mem_append_right _ (List.mem_append_right _ (List.mem_append_right _ (List.mem_append_right _ (List.mem_append_right _ (List.mem_append_right _ (List.mem_append_right _ (List.mem_append_right _ (List.mem_append_left _ h)))))))))))))))))))))))))))))
theorem om_wsL_law0_r18 : ∀ w ∈ wsL_law0_r18, w ∈ Om := fun w h => om_0 (List.mem_append_left _ (List.mem_append_left _ (List.mem_append_left _ (List.mem_append_left _ (List.mem_append_left _ (List.mem_append_left _ (List.mem_append_left _ (List.mem_append_left _ (List.mem_append_left _ (List.mem_append_left _ (List.mem_append_left _ (List.mem_append_left _ (List.mem_append_right _ (List.mem_append_right _ (List.mem_append_right _ (List.mem_append_right _ (List.mem_append_right _ (List.mem_append_right _ (List.mem_append_right _ (List.mem_append_right _ (List.mem_append_right _ (List.mem_append_right _ (List.mem_append_right _ (List.mem_append_right _ (List.mem_append_right _ (List.mem_append_right _ (List.mem_append_right _ (List.mem_append_right _ (List.mem_append_right _ (List.mem_append_left _ h))))))))))))))))))))))))))))))
theorem om_wsL_law0_r19 : ∀ w ∈ wsL_law0_r19, w ∈ Om := fun w h => om_0 (List.mem_append_left _ (List.mem_append_left _ (List.mem_append_left _ (List.mem_append_left _ (List.mem_append_left _ (List.mem_append_left _ (List.mem_append_left _ (List.mem_append_left _ (List.mem_append_left _ (List.mem_append_left _ (List.mem_append_left _ (List.mem_append_left _ (List.mem_append_right _ (List.mem_append_right _ (List.mem_append_right _ (List.mem_append_right _ (List.mem_append_right _ (List.mem_append_right _ (List.mem_append_right _ (List.mem_append_right _ (List.mem_append_right _ (List.mem_append_right _ (List.mem_append_right _ (List.mem_append_right _ (List.mem_append_right _ (List.mem_append_right _ (List.mem_append_right _ (List.mem_append_right _ (List.mem_append_right _ (List.mem_append_right _ (List.mem_append_left _ h)))))))))))))))))))))))))))))))
theorem om_wsL_law0_r20 : ∀ w ∈ wsL_law0_r20, w ∈ Om := fun w h => om_0 (List.mem_append_left _ (List.mem_append_left _ (List.mem_append_left _ (List.mem_append_left _ (List.mem_append_left _ (List.mem_append_left _ (List.mem_append_left _ (List.mem_append_left _ (List.mem_append_left _ (List.mem_append_left _ (List.mem_append_left _ (List.mem_append_left _ (List.mem_append_right _ (List.mem_append_right _ (List.mem_append_right _ (List.mem_append_right _ (List.mem_append_right _ (List.mem_append_right _ (List.mem_append_right _ (List.mem_append_right _ (List.mem_append_right _ (List.mem_append_right _ (List.mem_append_right _ (List.mem_append_right _ (List.mem_append_right _ (List.mem_append_right _ (List.mem_append_right _ (List.mem_append_right _ (List.mem_append_right _ (List.mem_append_right _ (List.mem_append_right _ (List.mem_append_left _ h))))))))))))))))))))))))))))))))
theorem om_wsL_law0_r21 : ∀ w ∈ wsL_law0_r21, w ∈ Om := fun w h => om_0 (List.mem_append_left _ (List.mem_append_left _ (List.mem_append_left _ (List.mem_append_left _ (List.mem_append_left _ (List.mem_append_left _ (List.mem_append_left _ (List.mem_append_left _ (List.mem_append_left _ (List.mem_append_left _ (List.mem_append_left _ (List.mem_append_left _ (List.mem_append_right _ (List.mem_append_right _ (List.mem_append_right _ (List.mem_append_right _ (List.mem_append_right _ (List.mem_append_right _ (List.mem_append_right _ (List.mem_append_right _ (List.mem_append_right _ (List.mem_append_right _ (List.mem_append_right _ (List.mem_append_right _ (List.mem_append_right _ (List.mem_append_right _ (List.mem_append_right _ (List.mem_append_right _ (List.mem_append_right _ (List.mem_append_right _ (List.mem_append_right _ (List.mem_append_right _ (List.mem_append_left _ h)))))))))))))))))))))))))))))))))
theorem om_wsL_law0_r22 : ∀ w ∈ wsL_law0_r22, w ∈ Om := fun w h => om_0 (List.mem_append_left _ (List.mem_append_left _ (List.mem_append_left _ (List.mem_append_left _ (List.mem_append_left _ (List.mem_append_left _ (List.mem_append_left _ (List.mem_append_left _ (List.mem_append_left _ (List.mem_append_left _ (List.mem_append_left _ (List.mem_append_left _ (List.mem_append_right _ (List.mem_append_right _ (List.mem_append_right _ (List.mem_append_right _ (List.mem_append_right _ (List.mem_append_right _ (List.mem_append_right _ (List.mem_append_right _ (List.mem_append_right _ (List.mem_append_right _ (List.mem_append_right _ (List.mem_append_right _ (List.mem_append_right _ (List.mem_append_right _ (List.mem_append_right _ (List.mem_append_right _ (List.mem_append_right _ (List.mem_append_right _ (List.mem_append_right _ (List.mem_append_right _ (List.mem_append_right _ (List.mem_append_left _ h))))))))))))))))))))))))))))))))))
theorem om_wsL_law0_r23 : ∀ w ∈ wsL_law0_r23, w ∈ Om := fun w h => om_0 (List.mem_append_left _ (List.mem_append_left _ (List.mem_append_left _ (List.mem_append_left _ (List.mem_append_left _ (List.mem_append_left _ (List.mem_append_left _ (List.mem_append_left _ (List.mem_append_left _ (List.mem_append_left _ (List.mem_append_left _ (List.mem_append_left _ (List.mem_append_right _ (List.mem_append_right _ (List.mem_append_right _ (List.mem_append_right _ (List.mem_append_right _ (List.mem_append_right _ (List.mem_append_right _ (List.mem_append_right _ (List.mem_append_right _ (List.mem_append_right _ (List.mem_append_right _ (List.mem_append_right _ (List.mem_append_right _ (List.mem_append_right _ (List.mem_append_right _ (List.mem_append_right _ (List.mem_append_right _ (List.mem_append_right _ (List.mem_append_right _ (List.mem_append_right _ (List.mem_append_right _ (List.mem_append_right _ (List.mem_append_left _ h)))))))))))))))))))))))))))))))))))
theorem om_wsL_law0_r24 : ∀ w ∈ wsL_law0_r24, w ∈ Om := fun w h => om_0 (List.mem_append_left _ (List.mem_append_left _ (List.mem_append_left _ (List.mem_append_left _ (List.mem_append_left _ (List.mem_append_left _ (List.mem_append_left _ (List.mem_append_left _ (List.mem_append_left _ (List.mem_append_left _ (List.mem_append_left _ (List.mem_append_left _ (List.mem_append_right _ (List.mem_append_right _ (List.mem_append_right _ (List.mem_append_right _ (List.mem_append_right _ (List.mem_append_right _ (List.mem_append_right _ (List.mem_append_right _ (List.mem_append_right _ (List.mem_append_right _ (List.mem_append_right _ (List.mem_append_right _ (List.mem_append_right _ (List.mem_append_right _ (List.mem_append_right _ (List.mem_append_right _ (List.mem_append_right _ (List.mem_append_right _ (List.mem_append_right _ (List.mem_append_right _ (List.mem_append_right _ (List.mem_append_right _ (List.mem_append_right _ (List.mem_append_left _ h))))))))))))))))))))))))))))))))))))
theorem om_wsL_law0_r25 : ∀ w ∈ wsL_law0_r25, w ∈ Om := fun w h => om_0 (List.mem_append_left _ (List.mem_append_left _ (List.mem_append_left _ (List.mem_append_left _ (List.mem_append_left _ (List.mem_append_left _ (List.mem_append_left _ (List.mem_append_left _ (List.mem_append_left _ (List.mem_append_left _ (List.mem_append_left _ (List.mem_append_left _ (List.mem_append_right _ (List.mem_append_right _ (List.mem_append_right _ (List.mem_append_right _ (List.mem_append_right _ (List.mem_append_right _ (List.mem_append_right _ (List.mem_append_right _ (List.mem_append_right _ (List.mem_append_right _ (List.mem_append_right _ (List.mem_append_right _ (List.mem_append_right _ (List.mem_append_right _ (List.mem_append_right _ (List.mem_append_right _ (List.mem_append_right _ (List.mem_append_right _ (List.mem_append_right _ (List.mem_append_right _ (List.mem_append_right _ (List.mem_append_right _ (List.mem_append_right _ (List.mem_append_right _ (List.mem_append_left _ h)))))))))))))))))))))))))))))))))))))
theorem om_wsL_law0_r26 : ∀ w ∈ wsL_law0_r26, w ∈ Om := fun w h => om_0 (List.mem_append_left _ (List.mem_append_left _ (List.mem_append_left _ (List.mem_append_left _ (List.mem_append_left _ (List.mem_append_left _ (List.mem_append_left _ (List.mem_append_left _ (List.mem_append_left _ (List.mem_append_left _ (List.mem_append_left _ (List.mem_append_left _ (List.mem_append_right _ (List.mem_append_right _ (List.mem_append_right _ (List.mem_append_right _ (List.mem_append_right _ (List.mem_append_right _ (List.mem_append_right _ (List.mem_append_right _ (List.mem_append_right _ (List.mem_append_right _ (List.mem_append_right _ (List.mem_append_right _ (List.mem_append_right _ (List.mem_append_right _ (List.mem_append_right _ (List.mem_append_right _ (List.mem_append_right _ (List.mem_append_right _ (List.mem_append_right _ (List.mem_append_right _ (List.mem_append_right _ (List.mem_append_right _ (List.mem_append_right _ (List.mem_append_right _ (List.mem_append_right _ (List.mem_append_left _ h))))))))))))))))))))))))))))))))))))))
theorem om_wsL_law0_r27 : ∀ w ∈ wsL_law0_r27, w ∈ Om := fun w h => om_0 (List.mem_append_left _ (List.mem_append_left _ (List.mem_append_left _ (List.mem_append_left _ (List.mem_append_left _ (List.mem_append_left _ (List.mem_append_left _ (List.mem_append_left _ (List.mem_append_left _ (List.mem_append_left _ (List.mem_append_left _ (List.mem_append_left _ (List.mem_append_right _ (List.mem_append_right _ (List.mem_append_right _ (List.mem_append_right _ (List.mem_append_right _ (List.mem_append_right _ (List.mem_append_right _ (List.mem_append_right _ (List.mem_append_right _ (List.mem_append_right _ (List.mem_append_right _ (List.mem_append_right _ (List.mem_append_right _ (List.mem_append_right _ (List.mem_append_right _ (List.mem_append_right _ (List.mem_append_right _ (List.mem_append_right _ (List.mem_append_right _ (List.mem_append_right _ (List.mem_append_right _ (List.mem_append_right _ (List.mem_append_right _ (List.mem_append_right _ (List.mem_append_right _ (List.mem_append_right _ (List.mem_append_left _ h)))))))))))))))))))))))))))))))))))))))
theorem om_wsL_law0_r28 : ∀ w ∈ wsL_law0_r28, w ∈ Om := fun w h => om_0 (List.mem_append_left _ (List.mem_append_left _ (List.mem_append_left _ (List.mem_append_left _ (List.mem_append_left _ (List.mem_append_left _ (List.mem_append_left _ (List.mem_append_left _ (List.mem_append_left _ (List.mem_append_left _ (List.mem_append_left _ (List.mem_append_left _ (List.mem_append_right _ (List.mem_append_right _ (List.mem_append_right _ (List.mem_append_right _ (List.mem_append_right _ (List.mem_append_right _ (List.mem_append_right _ (List.mem_append_right _ (List.mem_append_right _ (List.mem_append_right _ (List.mem_append_right _ (List.mem_append_right _ (List.mem_append_right _ (List.mem_append_right _ (List.mem_append_right _ (List.mem_append_right _ (List.mem_append_right _ (List.mem_append_right _ (List.mem_append_right _ (List.mem_append_right _ (List.mem_append_right _ (List.mem_append_right _ (List.mem_append_right _ (List.mem_append_right _ (List.mem_append_right _ (List.mem_append_right _ (List.mem_append_right _ (List.mem_append_left _ h))))))))))))))))))))))))))))))))))))))))
theorem om_wsL_law0_r29 : ∀ w ∈ wsL_law0_r29, w ∈ Om := fun w h => om_0 (List.mem_append_left _ (List.mem_append_left _ (List.mem_append_left _ (List.mem_append_left _ (List.mem_append_left _ (List.mem_append_left _ (List.mem_append_left _ (List.mem_append_left _ (List.mem_append_left _ (List.mem_append_left _ (List.mem_append_left _ (List.mem_append_left _ (List.mem_append_right _ (List.mem_append_right _ (List.mem_append_right _ (List.mem_append_right _ (List.mem_append_right _ (List.mem_append_right _ (List.mem_append_right _ (List.mem_append_right _ (List.mem_append_right _ (List.mem_append_right _ (List.mem_append_right _ (List.mem_append_right _ (List.mem_append_right _ (List.mem_append_right _ (List.mem_append_right _ (List.mem_append_right _ (List.mem_append_right _ (List.mem_append_right _ (List.mem_append_right _ (List.mem_append_right _ (List.mem_append_right _ (List.mem_append_right _ (List.mem_append_right _ (List.mem_append_right _ (List.mem_append_right _ (List.mem_append_right _ (List.mem_append_right _ (List.mem_append_right _ (List.mem_append_left _ h)))))))))))))))))))))))))))))))))))))))))
theorem om_wsL_law0_r30 : ∀ w ∈ wsL_law0_r30, w ∈ Om := fun w h => om_0 (List.mem_append_left _ (List.mem_append_left _ (List.mem_append_left _ (List.mem_append_left _ (List.mem_append_left _ (List.mem_append_left _ (List.mem_append_left _ (List.mem_append_left _ (List.mem_append_left _ (List.mem_append_left _ (List.mem_append_left _ (List.mem_append_left _ (List.mem_append_right _ (List.mem_append_right _ (List.mem_append_right _ (List.mem_append_right _ (List.mem_append_right _ (List.mem_append_right _ (List.mem_append_right _ (List.mem_append_right _ (List.mem_append_right _ (List.mem_append_right _ (List.mem_append_right _ (List.mem_append_right _ (List.mem_append_right _ (List.mem_append_right _ (List.mem_append_right _ (List.mem_append_right _ (List.mem_append_right _ (List.mem_append_right _ (List.mem_append_right _ (List.mem_append_right _ (List.mem_append_right _ (List.mem_append_right _ (List.mem_append_right _ (List.mem_append_right _ (List.mem_append_right _ (List.mem_append_right _ (List.mem_append_right _ (List.mem_append_right _ (List.mem_append_right _ (List.mem_append_left _ h))))))))))))))))))))))))))))))))))))))))))
theorem om_wsL_law0_r31 : ∀ w ∈ wsL_law0_r31, w ∈ Om := fun w h => om_0 (List.mem_append_left _ (List.mem_append_left _ (List.mem_append_left _ (List.mem_append_left _ (List.mem_append_left _ (List.mem_append_left _ (List.mem_append_left _ (List.mem_append_left _ (List.mem_append_left _ (List.mem_append_left _ (List.mem_append_left _ (List.mem_append_left _ (List.mem_append_right _ (List.mem_append_right _ (List.mem_append_right _ (List.mem_append_right _ (List.mem_append_right _ (List.mem_append_right _ (List.mem_append_right _ (List.mem_append_right _ (List.mem_append_right _ (List.mem_append_right _ (List.mem_append_right _ (List.mem_append_right _ (List.mem_append_right _ (List.mem_append_right _ (List.mem_append_right _ (List.mem_append_right _ (List.mem_append_right _ (List.mem_append_right _ (List.mem_append_right _ (List.mem_append_right _ (List.mem_append_right _ (List.mem_append_right _ (List.mem_append_right _ (List.mem_append_right _ (List.mem_append_right _ (List.mem_append_right _ (List.mem_append_right _ (List.mem_append_right _ (List.mem_append_right _ (List.mem_append_right _ (List.mem_append_left _ h)))))))))))))))))))))))))))))))))))))))))))
theorem om_wsL_law0_r32 : ∀ w ∈ wsL_law0_r32, w ∈ Om := fun w h => om_0 (List.mem_append_left _ (List.mem_append_left _ (List.mem_append_left _ (List.mem_append_left _ (List.mem_append_left _ (List.mem_append_left _ (List.mem_append_left _ (List.mem_append_left _ (List.mem_append_left _ (List.mem_append_left _ (List.mem_append_left _ (List.mem_append_left _ (List.mem_append_right _ (List.mem_append_right _ (List.mem_append_right _ (List.mem_append_right _ (List.mem_append_right _ (List.mem_append_right _ (List.mem_append_right _ (List.mem_append_right _ (List.mem_append_right _ (List.mem_append_right _ (List.mem_append_right _ (List.mem_append_right _ (List.mem_append_right _ (List.mem_append_right _ (List.mem_append_right _ (List.mem_append_right _ (List.mem_append_right _ (List.mem_append_right _ (List.mem_append_right _ (List.mem_append_right _ (List.mem_append_right _ (List.mem_append_right _ (List.mem_append_right _ (List.mem_append_right _ (List.mem_append_right _ (List.mem_append_right _ (List.mem_append_right _ (List.mem_append_right _ (List.mem_append_right _ (List.mem_append_right _ (List.mem_append_right _ (List.mem_append_left _ h))))))))))))))))))))))))))))))))))))))))))))
theorem om_wsL_law0_r33 : ∀ w ∈ wsL_law0_r33, w ∈ Om := fun w h => om_0 (List.mem_append_left _ (List.mem_append_left _ (List.mem_append_left _ (List.mem_append_left _ (List.mem_append_left _ (List.mem_append_left _ (List.mem_append_left _ (List.mem_append_left _ (List.mem_append_left _ (List.mem_append_left _ (List.mem_append_left _ (List.mem_append_left _ (List.mem_append_right _ (List.mem_append_right _ (List.mem_append_right _ (List.mem_append_right _ (List.mem_append_right _ (List.mem_append_right _ (List.mem_append_right _ (List.mem_append_right _ (List.mem_append_right _ (List.mem_append_right _ (List.mem_append_right _ (List.mem_append_right _ (List.mem_append_right _ (List.mem_append_right _ (List.mem_append_right _ (List.mem_append_right _ (List.mem_append_right _ (List.mem_append_right _ (List.mem_append_right _ (List.mem_append_right _ (List.mem_append_right _ (List.mem_append_right _ (List.mem_append_right _ (List.mem_append_right _ (List.mem_append_right _ (List.mem_append_right _ (List.mem_append_right _ (List.mem_append_right _ (List.mem_append_right _ (List.mem_append_right _ (List.mem_append_right _ (List.mem_append_right _ (List.mem_append_left _ h)))))))))))))))))))))))))))))))))))))))))))))
theorem om_wsL_law0_r34 : ∀ w ∈ wsL_law0_r34, w ∈ Om := fun w h => om_0 (List.mem_append_left _ (List.mem_append_left _ (List.mem_append_left _ (List.mem_append_left _ (List.mem_append_left _ (List.mem_append_left _ (List.mem_append_left _ (List.mem_append_left _ (List.mem_append_left _ (List.mem_append_left _ (List.mem_append_left _ (List.mem_append_left _ (List.mem_append_right _ (List.mem_append_right _ (List.mem_append_right _ (List.mem_append_right _ (List.mem_append_right _ (List.mem_append_right _ (List.mem_append_right _ (List.mem_append_right _ (List.mem_append_right _ (List.mem_append_right _ (List.mem_append_right _ (List.mem_append_right _ (List.mem_append_right _ (List.mem_append_right _ (List.mem_append_right _ (List.mem_append_right _ (List.mem_append_right _ (List.mem_append_right _ (List.mem_append_right _ (List.mem_append_right _ (List.mem_append_right _ (List.mem_append_right _ (List.mem_append_right _ (List.mem_append_right _ (List.mem_append_right _ (List.mem_append_right _ (List.mem_append_right _ (List.mem_append_right _ (List.mem_append_right _ (List.mem_append_right _ (List.mem_append_right _ (List.mem_append_right _ (List.mem_append_right _ (List.mem_append_left _ h))))))))))))))))))))))))))))))))))))))))))))))
theorem om_wsL_law0_r35 : ∀ w ∈ wsL_law0_r35, w ∈ Om := fun w h => om_0 (List.mem_append_left _ (List.mem_append_left _ (List.mem_append_left _ (List.mem_append_left _ (List.mem_append_left _ (List.mem_append_left _ (List.mem_append_left _ (List.mem_append_left _ (List.mem_append_left _ (List.mem_append_left _ (List.mem_append_left _ (List.mem_append_left _ (List.mem_append_right _ (List.mem_append_right _ (List.mem_append_right _ (List.mem_append_right _ (List.mem_append_right _ (List.mem_append_right _ (List.mem_append_right _ (List.mem_append_right _ (List.mem_append_right _ (List.mem_append_right _ (List.mem_append_right _ (List.mem_append_right _ (List.mem_append_right _ (List.mem_append_right _ (List.mem_append_right _ (List.mem_append_right _ (List.mem_append_right _ (List.mem_append_right _ (List.mem_append_right _ (List.mem_append_right _ (List.mem_append_right _ (List.mem_append_right _ (List.mem_append_right _ (List.mem_append_right _ (List.mem_append_right _ (List.mem_append_right _ (List.mem_append_right _ (List.mem_append_right _ (List.mem_append_right _ (List.mem_append_right _ (List.mem_append_right _ (List.mem_append_right _ (List.mem_append_right _ (List.mem_append_right _ (List.mem_append_left _ h)))))))))))))))))))))))))))))))))))))))))))))))
theorem om_wsL_law0_r36 : ∀ w ∈ wsL_law0_r36, w ∈ Om := fun w h => om_0 (List.mem_append_left _ (List.mem_append_left _ (List.mem_append_left _ (List.mem_append_left _ (List.mem_append_left _ (List.mem_append_left _ (List.mem_append_left _ (List.mem_append_left _ (List.mem_append_left _ (List.mem_append_left _ (List.mem_append_left _ (List.mem_append_left _ (List.mem_append_right _ (List.mem_append_right _ (List.mem_append_right _ (List.mem_append_right _ (List.mem_append_right _ (List.mem_append_right _ (List.mem_append_right _ (List.mem_append_right _ (List.mem_append_right _ (List.mem_append_right _ (List.mem_append_right _ (List.mem_append_right _ (List.mem_append_right _ (List.mem_append_right _ (List.mem_append_right _ (List.mem_append_right _ (List.mem_append_right _ (List.mem_append_right _ (List.mem_append_right _ (List.mem_append_right _ (List.mem_append_right _ (List.mem_append_right _ (List.mem_append_right _ (List.mem_append_right _ (List.mem_append_right _ (List.mem_append_right _ (List.mem_append_right _ (List.mem_append_right _ (List.mem_append_right _ (List.mem_append_right _ (List.mem_append_right _ (List.mem_append_right _ (List.mem_append_right _ (List.mem_append_right _ (List.mem_append_right _ (List.mem_append_left _ h))))))))))))))))))))))))))))))))))))))))))))))))
theorem om_wsL_law0_r37 : ∀ w ∈ wsL_law0_r37, w ∈ Om := fun w h => om_0 (List.mem_append_left _ (List.mem_append_left _ (List.mem_append_left _ (List.mem_append_left _ (List.mem_append_left _ (List.mem_append_left _ (List.mem_append_left _ (List.mem_append_left _ (List.mem_append_left _ (List.mem_append_left _ (List.mem_append_left _ (List.mem_append_left _ (List.mem_append_right _ (List.mem_append_right _ (List.mem_append_right _ (List.mem_append_right _ (List.mem_append_right _ (List.mem_append_right _ (List.mem_append_right _ (List.mem_append_right _ (List.mem_append_right _ (List.mem_append_right _ (List.mem_append_right _ (List.mem_append_right _ (List.mem_append_right _ (List.mem_append_right _ (List.mem_append_right _ (List.mem_append_right _ (List.mem_append_right _ (List.mem_append_right _ (List.mem_append_right _ (List.mem_append_right _ (List.mem_append_right _ (List.mem_append_right _ (List.mem_append_right _ (List.mem_append_right _ (List.mem_append_right _ (List.mem_append_right _ (List.mem_append_right _ (List.mem_append_right _ (List.mem_append_right _ (List.mem_append_right _ (List.mem_append_right _ (List.mem_append_right _ (List.mem_append_right _ (List.mem_append_right _ (List.mem_append_right _ (List.mem_append_right _ (List.mem_append_left _ h)))))))))))))))))))))))))))))))))))))))))))))))))
theorem om_wsL_law0_r38 : ∀ w ∈ wsL_law0_r38, w ∈ Om := fun w h => om_0 (List.mem_append_left _ (List.mem_append_left _ (List.mem_append_left _ (List.mem_append_left _ (List.mem_append_left _ (List.mem_append_left _ (List.mem_append_left _ (List.mem_append_left _ (List.mem_append_left _ (List.mem_append_left _ (List.mem_append_left _ (List.mem_append_left _ (List.mem_append_right _ (List.mem_append_right _ (List.mem_append_right _ (List.mem_append_right _ (List.mem_append_right _ (List.mem_append_right _ (List.mem_append_right _ (List.mem_append_right _ (List.mem_append_right _ (List.mem_append_right _ (List.mem_append_right _ (List.mem_append_right _ (List.mem_append_right _ (List.mem_append_right _ (List.mem_append_right _ (List.mem_append_right _ (List.mem_append_right _ (List.mem_append_right _ (List.mem_append_right _ (List.mem_append_right _ (List.mem_append_right _ (List.mem_append_right _ (List.mem_append_right _ (List.mem_append_right _ (List.mem_append_right _ (List.mem_append_right _ (List.mem_append_right _ (List.mem_append_right _ (List.mem_append_right _ (List.mem_append_right _ (List.mem_append_right _ (List.mem_append_right _ (List.mem_append_right _ (List.mem_append_right _ (List.mem_append_right _ (List.mem_append_right _ (List.mem_append_right _ (List.mem_append_left _ h))))))))))))))))))))))))))))))))))))))))))))))))))
theorem om_wsL_law0_r39 : ∀ w ∈ wsL_law0_r39, w ∈ Om := fun w h => om_0 (List.mem_append_left _ (List.mem_append_left _ (List.mem_append_left _ (List.mem_append_left _ (List.mem_append_left _ (List.mem_append_left _ (List.mem_append_left _ (List.mem_append_left _ (List.mem_append_left _ (List.mem_append_left _ (List.mem_append_left _ (List.mem_append_left _ (List.mem_append_right _ (List.mem_append_right _ (List.mem_append_right _ (List.mem_append_right _ (List.mem_append_right _ (List.mem_append_right _ (List.mem_append_right _ (List.mem_append_right _ (List.mem_append_right _ (List.mem_append_right _ (List.mem_append_right _ (List.mem_append_right _ (List.mem_append_right _ (List.mem_append_right _ (List.mem_append_right _ (List.mem_append_right _ (List.mem_append_right _ (List.mem_append_right _ (List.mem_append_right _ (List.mem_append_right _ (List.mem_append_right _ (List.mem_append_right _ (List.mem_append_right _ (List.mem_append_right _ (List.mem_append_right _ (List.mem_append_right _ (List.mem_append_right _ (List.mem_append_right _ (List.mem_append_right _ (List.mem_append_right _ (List.mem_append_right _ (List.mem_append_right _ (List.mem_append_right _ (List.mem_append_right _ (List.mem_append_right _ (List.mem_append_right _ (List.mem_append_right _ (List.mem_append_right _ (List.mem_append_left _ h)))))))))))))))))))))))))))))))))))))))))))))))))))
theorem om_wsL_law0_r40 : ∀ w ∈ wsL_law0_r40, w ∈ Om := fun w h => om_0 (List.mem_append_left _ (List.mem_append_left _ (List.mem_append_left _ (List.mem_append_left _ (List.mem_append_left _ (List.mem_append_left _ (List.mem_append_left _ (List.mem_append_left _ (List.mem_append_left _ (List.mem_append_left _ (List.mem_append_left _ (List.mem_append_left _ (List.mem_append_right _ (List.mem_append_right _ (List.mem_append_right _ (List.mem_append_right _ (List.mem_append_right _ (List.mem_append_right _ (List.mem_append_right _ (List.mem_append_right _ (List.mem_append_right _ (List.mem_append_right _ (List.mem_append_right _ (List.mem_append_right _ (List.mem_append_right _ (List.mem_append_right _ (List.mem_append_right _ (List.mem_append_right _ (List.mem_append_right _ (List.mem_append_right _ (List.mem_append_right _ (List.mem_append_right _ (List.mem_append_right _ (List.mem_append_right _ (List.mem_append_right _ (List.mem_append_right _ (List.mem_append_right _ (List.mem_append_right _ (List.mem_append_right _ (List.mem_append_right _ (List.mem_append_right _ (List.mem_append_right _ (List.mem_append_right _ (List.mem_append_right _ (List.mem_append_right _ (List.mem_append_right _ (List.mem_append_right _ (List.mem_append_right _ (List.mem_append_right _ (List.mem_append_right _ (List.mem_append_right _ (List.mem_append_left _ h))))))))))))))))))))))))))))))))))))))))))))))))))))
theorem om_wsL_law0_r41 : ∀ w ∈ wsL_law0_r41, w ∈ Om := fun w h => om_0 (List.mem_append_left _ (List.mem_append_left _ (List.mem_append_left _ (List.mem_append_left _ (List.mem_append_left _ (List.mem_append_left _ (List.mem_append_left _ (List.mem_append_left _ (List.mem_append_left _ (List.mem_append_left _ (List.mem_append_left _ (List.mem_append_left _ (List.mem_append_right _ (List.mem_append_right _ (List.mem_append_right _ (List.mem_append_right _ (List.mem_append_right _ (List.mem_append_right _ (List.mem_append_right _ (List.mem_append_right _ (List.mem_append_right _ (List.mem_append_right _ (List.mem_append_right _ (List.mem_append_right _ (List.mem_append_right _ (List.mem_append_right _ (List.mem_append_right _ (List.mem_append_right _ (List.mem_append_right _ (List.mem_append_right _ (List.mem_append_right _ (List.mem_append_right _ (List.mem_append_right _ (List.mem_append_right _ (List.mem_append_right _ (List.mem_append_right _ (List.mem_append_right _ (List.mem_append_right _ (List.mem_append_right _ (List.mem_append_right _ (List.mem_append_right _ (List.mem_append_right _ (List.mem_append_right _ (List.mem_append_right _ (List.mem_append_right _ (List.mem_append_right _ (List.mem_append_right _ (List.mem_append_right _ (List.mem_append_right _ (List.mem_append_right _ (List.mem_append_right _ (List.mem_append_right _ (List.mem_append_left _ h)))))))))))))))))))))))))))))))))))))))))))))))))))))
theorem om_wsL_law0_r42 : ∀ w ∈ wsL_law0_r42, w ∈ Om := fun w h => om_0 (List.mem_append_left _ (List.mem_append_left _ (List.mem_append_left _ (List.mem_append_left _ (List.mem_append_left _ (List.mem_append_left _ (List.mem_append_left _ (List.mem_append_left _ (List.mem_append_left _ (List.mem_append_left _ (List.mem_append_left _ (List.mem_append_left _ (List.mem_append_right _ (List.mem_append_right _ (List.mem_append_right _ (List.mem_append_right _ (List.mem_append_right _ (List.mem_append_right _ (List.mem_append_right _ (List.mem_append_right _ (List.mem_append_right _ (List.mem_append_right _ (List.mem_append_right _ (List.mem_append_right _ (List.mem_append_right _ (List.mem_append_right _ (List.mem_append_right _ (List.mem_append_right _ (List.mem_append_right _ (List.mem_append_right _ (List.mem_append_right _ (List.mem_append_right _ (List.mem_append_right _ (List.mem_append_right _ (List.mem_append_right _ (List.mem_append_right _ (List.mem_append_right _ (List.mem_append_right _ (List.mem_append_right _ (List.mem_append_right _ (List.mem_append_right _ (List.mem_append_right _ (List.mem_append_right _ (List.mem_append_right _ (List.mem_append_right _ (List.mem_append_right _ (List.mem_append_right _ (List.mem_append_right _ (List.mem_append_right _ (List.mem_append_right _ (List.mem_append_right _ (List.mem_append_right _ (List.mem_append_right _ (List.mem_append_left _ h))))))))))))))))))))))))))))))))))))))))))))))))))))))
theorem om_wsL_law0_r43 : ∀ w ∈ wsL_law0_r43, w ∈ Om := fun w h => om_0 (List.mem_append_left _ (List.mem_append_left _ (List.mem_append_left _ (List.mem_append_left _ (List.mem_append_left _ (List.mem_append_left _ (List.mem_append_left _ (List.mem_append_left _ (List.mem_append_left _ (List.mem_append_left _ (List.mem_append_left _ (List.mem_append_left _ (List.mem_append_right _ (List.mem_append_right _ (List.mem_append_right _ (List.mem_append_right _ (List.mem_append_right _ (List.mem_append_right _ (List.mem_append_right _ (List.mem_append_right _ (List.mem_append_right _ (List.mem_append_right _ (List.mem_append_right _ (List.mem_append_right _ (List.mem_append_right _ (List.mem_append_right _ (List.mem_append_right _ (List.mem_append_right _ (List.mem_append_right _ (List.mem_append_right _ (List.mem_append_right _ (List.mem_append_right _ (List.mem_append_right _ (List.mem_append_right _ (List.mem_append_right _ (List.mem_append_right _ (List.mem_append_right _ (List.mem_append_right _ (List.mem_append_right _ (List.mem_append_right _ (List.mem_append_right _ (List.mem_append_right _ (List.mem_append_right _ (List.mem_append_right _ (List.mem_append_right _ (List.mem_append_right _ (List.mem_append_right _ (List.mem_append_right _ (List.mem_append_right _ (List.mem_append_right _ (List.mem_append_right _ (List.mem_append_right _ (List.mem_append_right _ (List.mem_append_right _ (List.mem_append_left _ h)))))))))))))))))))))))))))))))))))))))))))))))))))))))
theorem om_wsL_law0_r44 : ∀ w ∈ wsL_law0_r44, w ∈ Om := fun w h => om_0 (List.mem_append_left _ (List.mem_append_left _ (List.mem_append_left _ (List.mem_append_left _ (List.mem_append_left _ (List.mem_append_left _ (List.mem_append_left _ (List.mem_append_left _ (List.mem_append_left _ (List.mem_append_left _ (List.mem_append_left _ (List.mem_append_left _ (List.mem_append_right _ (List.mem_append_right _ (List.mem_append_right _ (List.mem_append_right _ (List.mem_append_right _ (List.mem_append_right _ (List.mem_append_right _ (List.mem_append_right _ (List.mem_append_right _ (List.mem_append_right _ (List.mem_append_right _ (List.mem_append_right _ (List.mem_append_right _ (List.mem_append_right _ (List.mem_append_right _ (List.mem_append_right _ (List.mem_append_right _ (List.mem_append_right _ (List.mem_append_right _ (List.mem_append_right _ (List.mem_append_right _ (List.mem_append_right _ (List.mem_append_right _ (List.mem_append_right _ (List.mem_append_right _ (List.mem_append_right _ (List.mem_append_right _ (List.mem_append_right _ (List.mem_append_right _ (List.mem_append_right _ (List.mem_append_right _ (List.mem_append_right _ (List.mem_append_right _ (List.mem_append_right _ (List.mem_append_right _ (List.mem_append_right _ (List.mem_append_right _ (List.mem_append_right _ (List.mem_append_right _ (List.mem_append_right _ (List.mem_append_right _ (List.mem_append_right _ (List.mem_append_right _ (List.mem_append_left _ h))))))))))))))))))))))))))))))))))))))))))))))))))))))))
theorem om_wsL_law0_r45 : ∀ w ∈ wsL_law0_r45, w ∈ Om := fun w h => om_0 (List.mem_append_left _ (List.mem_append_left _ (List.mem_append_left _ (List.mem_append_left _ (List.mem_append_left _ (List.mem_append_left _ (List.mem_append_left _ (List.mem_append_left _ (List.mem_append_left _ (List.mem_append_left _ (List.mem_append_left _ (List.mem_append_left _ (List.mem_append_right _ (List.mem_append_right _ (List.mem_append_right _ (List.mem_append_right _ (List.mem_append_right _ (List.mem_append_right _ (List.mem_append_right _ (List.mem_append_right _ (List.mem_append_right _ (List.mem_append_right _ (List.mem_append_right _ (List.mem_append_right _ (List.mem_append_right _ (List.mem_append_right _ (List.mem_append_right _ (List.mem_append_right _ (List.mem_append_right _ (List.mem_append_right _ (List.mem_append_right _ (List.mem_append_right _ (List.mem_append_right _ (List.mem_append_right _ (List.mem_append_right _ (List.mem_append_right _ (List.mem_append_right _ (List.mem_append_right _ (List.mem_append_right _ (List.mem_append_right _ (List.mem_append_right _ (List.mem_append_right _ (List.mem_append_right _ (List.mem_append_right _ (List.mem_append_right _ (List.mem_append_right _ (List.mem_append_right _ (List.mem_append_right _ (List.mem_append_right _ (List.mem_append_right _ (List.mem_append_right _ (List.mem_append_right _ (List.mem_append_right _ (List.mem_append_right _ (List.mem_append_right _ (List.mem_append_right _ (List.mem_append_left _ h)))))))))))))))))))))))))))))))))))))))))))))))))))))))))
theorem om_wsL_law0_r46 : ∀ w ∈ wsL_law0_r46, w ∈ Om := fun w h => om_0 (List.mem_append_left _ (List.mem_append_left _ (List.mem_append_left _ (List.mem_append_left _ (List.mem_append_left _ (List.mem_append_left _ (List.mem_append_left _ (List.mem_append_left _ (List.mem_append_left _ (List.mem_append_left _ (List.mem_append_left _ (List.mem_append_left _ (List.mem_append_right _ (List.mem_append_right _ (List.mem_append_right _ (List.mem_append_right _ (List.mem_append_right _ (List.mem_append_right _ (List.mem_append_right _ (List.mem_append_right _ (List.mem_append_right _ (List.mem_append_right _ (List.mem_append_right _ (List.mem_append_right _ (List.mem_append_right _ (List.mem_append_right _ (List.mem_append_right _ (List.mem_append_right _ (List.mem_append_right _ (List.mem_append_right _ (List.mem_append_right _ (List.mem_append_right _ (List.mem_append_right _ (List.mem_append_right _ (List.mem_append_right _ (List.mem_append_right _ (List.mem_append_right _ (List.mem_append_right _ (List.mem_append_right _ (List.mem_append_right _ (List.mem_append_right _ (List.mem_append_right _ (List.mem_append_right _ (List.mem_append_right _ (List.mem_append_right _ (List.mem_append_right _ (List.mem_append_right _ (List.mem_append_right _ (List.mem_append_right _ (List.mem_append_right _ (List.mem_append_right _ (List.mem_append_right _ (List.mem_append_right _ (List.mem_append_right _ (List.mem_append_right _ (List.mem_append_right _ (List.mem_append_right _ (List.mem_append_left _ h))))))))))))))))))))))))))))))))))))))))))))))))))))))))))
theorem om_wsL_law0_r47 : ∀ w ∈ wsL_law0_r47, w ∈ Om := fun w h => om_0 (List.mem_append_left _ (List.mem_append_left _ (List.mem_append_left _ (List.mem_append_left _ (List.mem_append_left _ (List.mem_append_left _ (List.mem_append_left _ (List.mem_append_left _ (List.mem_append_left _ (List.mem_append_left _ (List.mem_append_left _ (List.mem_append_left _ (List.mem_append_right _ (List.mem_append_right _ (List.mem_append_right _ (List.mem_append_right _ (List.mem_append_right _ (List.mem_append_right _ (List.mem_append_right _ (List.mem_append_right _ (List.mem_append_right _ (List.mem_append_right _ (List.mem_append_right _ (List.mem_append_right _ (List.mem_append_right _ (List.mem_append_right _ (List.mem_append_right _ (List.mem_append_right _ (List.mem_append_right _ (List.mem_append_right _ (List.mem_append_right _ (List.mem_append_right _ (List.mem_append_right _ (List.mem_append_right _ (List.mem_append_right _ (List.mem_append_right _ (List.mem_append_right _ (List.mem_append_right _ (List.mem_append_right _ (List.mem_append_right _ (List.mem_append_right _ (List.mem_append_right _ (List.mem_append_right _ (List.mem_append_right _ (List.mem_append_right _ (List.mem_append_right _ (List.mem_append_right _ (List.mem_append_right _ (List.mem_append_right _ (List.mem_append_right _ (List.mem_append_right _ (List.mem_append_right _ (List.mem_append_right _ (List.mem_append_right _ (List.mem_append_right _ (List.mem_append_right _ (List.mem_append_right _ (List.mem_append_right _ (List.mem_append_left _ h)))))))))))))))))))))))))))))))))))))))))))))))))))))))))))
theorem om_wsL_law0_r48 : ∀ w ∈ wsL_law0_r48, w ∈ Om := fun w h => om_0 (List.mem_append_left _ (List.mem_append_left _ (List.mem_append_left _ (List.mem_append_left _ (List.mem_append_left _ (List.mem_append_left _ (List.mem_append_left _ (List.mem_append_left _ (List.mem_append_left _ (List.mem_append_left _ (List.mem_append_left _ (List.mem_append_left _ (List.mem_append_right _ (List.mem_append_right _ (List.mem_append_right _ (List.mem_append_right _ (List.mem_append_right _ (List.mem_append_right _ (List.mem_append_right _ (List.mem_append_right _ (List.mem_append_right _ (List.mem_append_right _ (List.mem_append_right _ (List.mem_append_right _ (List.mem_append_right _ (List.mem_append_right _ (List.mem_append_right _ (List.mem_append_right _ (List.mem_append_right _ (List.mem_append_right _ (List.mem_append_right _ (List.mem_append_right _ (List.mem_append_right _ (List.mem_append_right _ (List.mem_append_right _ (List.mem_append_right _ (List.mem_append_right _ (List.mem_append_right _ (List.mem_append_right _ (List.mem_append_right _ (List.mem_append_right _ (List.mem_append_right _ (List.mem_append_right _ (List.mem_append_right _ (List.mem_append_right _ (List.mem_append_right _ (List.mem_append_right _ (List.mem_append_right _ (List.mem_append_right _ (List.mem_append_right _ (List.mem_append_right _ (List.mem_append_right _ (List.mem_append_right _ (List.mem_append_right _ (List.mem_append_right _ (List.mem_append_right _ (List.mem_append_right _ (List.mem_append_right _ (List.mem_append_right _ h)))))))))))))))))))))))))))))))))))))))))))))))))))))))))))
theorem om_wsX80 : ∀ w ∈ wsX80, w ∈ Om := fun w h => om_0 (List.mem_append_left _ (List.mem_append_left _ (List.mem_append_left _ (List.mem_append_left _ (List.mem_append_left _ (List.mem_append_left _ (List.mem_append_left _ (List.mem_append_left _ (List.mem_append_left _ (List.mem_append_left _ (List.mem_append_left _ (List.mem_append_right _ h))))))))))))
theorem om_wsX90 : ∀ w ∈ wsX90, w ∈ Om := fun w h => om_0 (List.mem_append_left _ (List.mem_append_left _ (List.mem_append_left _ (List.mem_append_left _ (List.mem_append_left _ (List.mem_append_left _ (List.mem_append_left _ (List.mem_append_left _ (List.mem_append_left _ (List.mem_append_left _ (List.mem_append_right _ h)))))))))))
theorem om_wsX40 : ∀ w ∈ wsX40, w ∈ Om := fun w h => om_0 (List.mem_append_left _ (List.mem_append_left _ (List.mem_append_left _ (List.mem_append_left _ (List.mem_append_left _ (List.mem_append_left _ (List.mem_append_left _ (List.mem_append_left _ (List.mem_append_left _ (List.mem_append_right _ h))))))))))
theorem om_wsX20 : ∀ w ∈ wsX20, w ∈ Om := fun w h => om_0 (List.mem_append_left _ (List.mem_append_left _ (List.mem_append_left _ (List.mem_append_left _ (List.mem_append_left _ (List.mem_append_left _ (List.mem_append_left _ (List.mem_append_left _ (List.mem_append_right _ h)))))))))
theorem om_wsX70 : ∀ w ∈ wsX70, w ∈ Om := fun w h => om_0 (List.mem_append_left _ (List.mem_append_left _ (List.mem_append_left _ (List.mem_append_left _ (List.mem_append_left _ (List.mem_append_left _ (List.mem_append_left _ (List.mem_append_right _ h))))))))
theorem om_wsX10 : ∀ w ∈ wsX10, w ∈ Om := fun w h => om_0 (List.mem_append_left _ (List.mem_append_left _ (List.mem_append_left _ (List.mem_append_left _ (List.mem_append_left _ (List.mem_append_left _ (List.mem_append_right _ h)))))))
theorem om_wsX60 : ∀ w ∈ wsX60, w ∈ Om := fun w h => om_0 (List.mem_append_left _ (List.mem_append_left _ (List.mem_append_left _ (List.mem_append_left _ (List.mem_append_left _ (List.mem_append_right _ h))))))
theorem om_wsJx4a65c0 : ∀ w ∈ wsJx4a65c0, w ∈ Om := fun w h => om_0 (List.mem_append_left _ (List.mem_append_left _ (List.mem_append_left _ (List.mem_append_left _ (List.mem_append_right _ h)))))
theorem om_wsJ00 : ∀ w ∈ wsJ00, w ∈ Om := fun w h => om_0 (List.mem_append_left _ (List.mem_append_left _ (List.mem_append_left _ (List.mem_append_right _ h))))
theorem om_wsX30 : ∀ w ∈ wsX30, w ∈ Om := fun w h => om_0 (List.mem_append_left _ (List.mem_append_left _ (List.mem_append_right _ h)))
theorem om_wsX00 : ∀ w ∈ wsX00, w ∈ Om := fun w h => om_0 (List.mem_append_left _ (List.mem_append_right _ h))
theorem uw_0 : ∀ w ∈ u_ws RJ0 TJ0 4, w ∈ Om := om_wsJ00
-- no word list of RJ4 in Om
theorem uw_2 : ∀ w ∈ u_ws RJx4a65c TJx4a65c 3, w ∈ Om := om_wsJx4a65c0
theorem uw_3 : ∀ w ∈ u_ws RX0 TX0 7, w ∈ Om := om_wsX00
theorem uw_4 : ∀ w ∈ u_ws RX1 TX1 1, w ∈ Om := om_wsX10
theorem uw_5 : ∀ w ∈ u_ws RX2 TX2 6, w ∈ Om := om_wsX20
theorem uw_6 : ∀ w ∈ u_ws RX3 TX3 7, w ∈ Om := om_wsX30
theorem uw_7 : ∀ w ∈ u_ws RX4 TX4 2, w ∈ Om := om_wsX40
theorem uw_8 : ∀ w ∈ u_ws RX6 TX6 6, w ∈ Om := om_wsX60
theorem uw_9 : ∀ w ∈ u_ws RX7 TX7 3, w ∈ Om := om_wsX70
theorem uw_10 : ∀ w ∈ u_ws RX8 TX8 8, w ∈ Om := om_wsX80
theorem uw_11 : ∀ w ∈ u_ws RX9 TX9 33, w ∈ Om := om_wsX90
theorem gf_J0_9 : GF RJ0 9 0 0 := ⟨_, _, _, rfl, uw_0, by decide, (om_wsL_law0_r9 _ (List.mem_of_getElem? (i := 9) rfl))⟩
theorem gf_J0_15 : GF RJ0 15 0 1 := ⟨_, _, _, rfl, uw_0, by decide, (om_wsL_law0_r9 _ (List.mem_of_getElem? (i := 15) rfl))⟩
theorem pf_J0_9 : PF RJ0 9 0 0 (.array .byte) true := ⟨_, _, _, tyJ0, rfl, uw_0, tyJ0_ok, nmJ0, by decide, (om_wsL_law0_r9 _ (List.mem_of_getElem? (i := 9) rfl)), rfl, (fun _ => rfl), by decide +kernel⟩
theorem pf_J0_15 : PF RJ0 15 0 1 (.byte) true := ⟨_, _, _, tyJ0, rfl, uw_0, tyJ0_ok, nmJ0, by decide, (om_wsL_law0_r9 _ (List.mem_of_getElem? (i := 15) rfl)), rfl, (fun _ => rfl), by decide +kernel⟩
theorem gf_Jx4a65c_9 : GF RJx4a65c 9 2 1 := ⟨_, _, _, rfl, uw_2, by decide, (om_wsL_law0_r3 _ (List.mem_of_getElem? (i := 19) rfl))⟩
theorem gf_Jx4a65c_48 : GF RJx4a65c 48 2 2 := ⟨_, _, _, rfl, uw_2, by decide, (om_wsL_law0_r8 _ (List.mem_of_getElem? (i := 2) rfl))⟩
theorem pf_Jx4a65c_9 : PF RJx4a65c 9 2 1 (.array (.object "java/lang/Object")) false := ⟨_, _, _, tyJx4a65c, rfl, uw_2, tyJx4a65c_ok, nmJx4a65c, by decide, (om_wsL_law0_r3 _ (List.mem_of_getElem? (i := 19) rfl)), rfl, (fun h => by cases h), by decide +kernel⟩
theorem pf_Jx4a65c_48 : PF RJx4a65c 48 2 2 (.int) false := ⟨_, _, _, tyJx4a65c, rfl, uw_2, tyJx4a65c_ok, nmJx4a65c, by decide, (om_wsL_law0_r8 _ (List.mem_of_getElem? (i := 2) rfl)), rfl, (fun h => by cases h), by decide +kernel⟩
theorem pf_Jxc12de_7 : PF RJxc12de 7 2 0 (.int) false := ⟨_, _, _, tyJx4a65c, rfl, uw_2, tyJx4a65c_ok, nmJx4a65c, by decide, (om_wsL_law0_r4 _ (List.mem_of_getElem? (i := 0) rfl)), rfl, (fun h => by cases h), by decide +kernel⟩
set_option maxRecDepth 20000 in
theorem nf_L_8 : NF RL 8 10 [.null, .null, .null, .null, .null, .int 0, .int 0, .int 0] := ⟨_, _, _, tyX8, rfl, rfl, uw_10, tyX8_ok, (om_wsL_law0_r1 _ (List.mem_of_getElem? (i := 0) rfl)), (om_wsL_law0_r1 _ (List.mem_of_getElem? (i := 1) rfl)), (om_wsL_law0_r1 _ (List.mem_of_getElem? (i := 2) rfl)), by decide +kernel, by decide +kernel⟩
set_option maxRecDepth 20000 in
theorem nf_L_64 : NF RL 64 11 [.int 0, .null, .null, .null, .null, .null, .null, .null, .null, .int 0, .int 0, .int 0, .int 0, .int 0, .null, .null, .null, .int 0, .int 0, .int 0, .null, .int 0, .int 0, .int 0, .int 0, .int 0, .int 0, .null, .null, .int 0, .int 0, .int 0, .int 0] := ⟨_, _, _, tyX9, rfl, rfl, uw_11, tyX9_ok, (om_wsL_law0_r1 _ (List.mem_of_getElem? (i := 3) rfl)), (om_wsL_law0_r1 _ (List.mem_of_getElem? (i := 4) rfl)), (om_wsL_law0_r1 _ (List.mem_of_getElem? (i := 5) rfl)), by decide +kernel, by decide +kernel⟩
theorem gf_X0_11 : GF RX0 11 3 0 := ⟨_, _, _, rfl, uw_3, by decide, (om_wsL_law0_r13 _ (List.mem_of_getElem? (i := 1) rfl))⟩
theorem gf_X0_15 : GF RX0 15 3 1 := ⟨_, _, _, rfl, uw_3, by decide, (om_wsL_law0_r13 _ (List.mem_of_getElem? (i := 12) rfl))⟩
theorem gf_X0_18 : GF RX0 18 3 2 := ⟨_, _, _, rfl, uw_3, by decide, (om_wsL_law0_r13 _ (List.mem_of_getElem? (i := 2) rfl))⟩
theorem gf_X0_26 : GF RX0 26 3 3 := ⟨_, _, _, rfl, uw_3, by decide, (om_wsL_law0_r13 _ (List.mem_of_getElem? (i := 8) rfl))⟩
theorem gf_X0_30 : GF RX0 30 3 4 := ⟨_, _, _, rfl, uw_3, by decide, (om_wsL_law0_r13 _ (List.mem_of_getElem? (i := 9) rfl))⟩
theorem gf_X0_33 : GF RX0 33 3 5 := ⟨_, _, _, rfl, uw_3, by decide, (om_wsL_law0_r13 _ (List.mem_of_getElem? (i := 10) rfl))⟩
theorem gf_X0_36 : GF RX0 36 3 6 := ⟨_, _, _, rfl, uw_3, by decide, (om_wsL_law0_r13 _ (List.mem_of_getElem? (i := 11) rfl))⟩
set_option maxRecDepth 20000 in
theorem nf_X0_9 : NF RX0 9 3 [.int 0, .int 0, .null, .long 0, .int 0, .int 0, .int 0] := ⟨_, _, _, tyX0, rfl, rfl, uw_3, tyX0_ok, (om_wsL_law0_r12 _ (List.mem_of_getElem? (i := 19) rfl)), (om_wsL_law0_r12 _ (List.mem_of_getElem? (i := 20) rfl)), (om_wsL_law0_r12 _ (List.mem_of_getElem? (i := 17) rfl)), by decide +kernel, by decide +kernel⟩
theorem pf_X0_11 : PF RX0 11 3 0 (.int) true := ⟨_, _, _, tyX0, rfl, uw_3, tyX0_ok, nmX0, by decide, (om_wsL_law0_r13 _ (List.mem_of_getElem? (i := 1) rfl)), rfl, (fun _ => rfl), by decide +kernel⟩
theorem pf_X0_15 : PF RX0 15 3 1 (.int) true := ⟨_, _, _, tyX0, rfl, uw_3, tyX0_ok, nmX0, by decide, (om_wsL_law0_r13 _ (List.mem_of_getElem? (i := 12) rfl)), rfl, (fun _ => rfl), by decide +kernel⟩
theorem pf_X0_18 : PF RX0 18 3 2 (.array (.object "PlainWords$Cond")) true := ⟨_, _, _, tyX0, rfl, uw_3, tyX0_ok, nmX0, by decide, (om_wsL_law0_r13 _ (List.mem_of_getElem? (i := 2) rfl)), rfl, (fun _ => rfl), by decide +kernel⟩
theorem pf_X0_26 : PF RX0 26 3 3 (.long) true := ⟨_, _, _, tyX0, rfl, uw_3, tyX0_ok, nmX0, by decide, (om_wsL_law0_r13 _ (List.mem_of_getElem? (i := 8) rfl)), rfl, (fun _ => rfl), by decide +kernel⟩
theorem pf_X0_30 : PF RX0 30 3 4 (.int) true := ⟨_, _, _, tyX0, rfl, uw_3, tyX0_ok, nmX0, by decide, (om_wsL_law0_r13 _ (List.mem_of_getElem? (i := 9) rfl)), rfl, (fun _ => rfl), by decide +kernel⟩
theorem pf_X0_33 : PF RX0 33 3 5 (.int) true := ⟨_, _, _, tyX0, rfl, uw_3, tyX0_ok, nmX0, by decide, (om_wsL_law0_r13 _ (List.mem_of_getElem? (i := 10) rfl)), rfl, (fun _ => rfl), by decide +kernel⟩
theorem pf_X0_36 : PF RX0 36 3 6 (.boolean) true := ⟨_, _, _, tyX0, rfl, uw_3, tyX0_ok, nmX0, by decide, (om_wsL_law0_r13 _ (List.mem_of_getElem? (i := 11) rfl)), rfl, (fun _ => rfl), by decide +kernel⟩
theorem gf_X1_12 : GF RX1 12 4 0 := ⟨_, _, _, rfl, uw_4, by decide, (om_wsL_law0_r3 _ (List.mem_of_getElem? (i := 14) rfl))⟩
theorem gf_X1_43 : GF RX1 43 6 4 := ⟨_, _, _, rfl, uw_6, by decide, (om_wsL_law0_r27 _ (List.mem_of_getElem? (i := 3) rfl))⟩
theorem gf_X1_119 : GF RX1 119 6 1 := ⟨_, _, _, rfl, uw_6, by decide, (om_wsL_law0_r46 _ (List.mem_of_getElem? (i := 16) rfl))⟩
theorem gf_X1_123 : GF RX1 123 6 2 := ⟨_, _, _, rfl, uw_6, by decide, (om_wsL_law0_r47 _ (List.mem_of_getElem? (i := 13) rfl))⟩
set_option maxRecDepth 20000 in
theorem nf_X1_9 : NF RX1 9 2 [.int 0, .null, .int 0] := ⟨_, _, _, tyJx4a65c, rfl, rfl, uw_2, tyJx4a65c_ok, (om_wsL_law0_r3 _ (List.mem_of_getElem? (i := 11) rfl)), (om_wsL_law0_r3 _ (List.mem_of_getElem? (i := 12) rfl)), (om_wsL_law0_r3 _ (List.mem_of_getElem? (i := 13) rfl)), by decide +kernel, by decide +kernel⟩
theorem pf_X1_12 : PF RX1 12 4 0 (.object "java/util/ArrayList") true := ⟨_, _, _, tyX1, rfl, uw_4, tyX1_ok, nmX1, by decide, (om_wsL_law0_r3 _ (List.mem_of_getElem? (i := 14) rfl)), rfl, (fun _ => rfl), by decide +kernel⟩
theorem gf_X2_12 : GF RX2 12 5 0 := ⟨_, _, _, rfl, uw_5, by decide, (om_wsL_law0_r2 _ (List.mem_of_getElem? (i := 21) rfl))⟩
theorem gf_X2_21 : GF RX2 21 5 1 := ⟨_, _, _, rfl, uw_5, by decide, (om_wsL_law0_r3 _ (List.mem_of_getElem? (i := 1) rfl))⟩
theorem gf_X2_27 : GF RX2 27 5 4 := ⟨_, _, _, rfl, uw_5, by decide, (om_wsL_law0_r3 _ (List.mem_of_getElem? (i := 3) rfl))⟩
theorem gf_X2_31 : GF RX2 31 5 2 := ⟨_, _, _, rfl, uw_5, by decide, (om_wsL_law0_r3 _ (List.mem_of_getElem? (i := 4) rfl))⟩
theorem gf_X2_35 : GF RX2 35 5 3 := ⟨_, _, _, rfl, uw_5, by decide, (om_wsL_law0_r3 _ (List.mem_of_getElem? (i := 5) rfl))⟩
theorem gf_X2_38 : GF RX2 38 5 5 := ⟨_, _, _, rfl, uw_5, by decide, (om_wsL_law0_r3 _ (List.mem_of_getElem? (i := 6) rfl))⟩
set_option maxRecDepth 20000 in
theorem nf_X2_9 : NF RX2 9 4 [.null] := ⟨_, _, _, tyX1, rfl, rfl, uw_4, tyX1_ok, (om_wsL_law0_r2 _ (List.mem_of_getElem? (i := 20) rfl)), (om_wsL_law0_r2 _ (List.mem_of_getElem? (i := 2) rfl)), (om_wsL_law0_r2 _ (List.mem_of_getElem? (i := 3) rfl)), by decide +kernel, by decide +kernel⟩
set_option maxRecDepth 20000 in
theorem nf_X2_18 : NF RX2 18 8 [.null, .null, .null, .int 0, .int 0, .int 0] := ⟨_, _, _, tyX6, rfl, rfl, uw_8, tyX6_ok, (om_wsL_law0_r2 _ (List.mem_of_getElem? (i := 22) rfl)), (om_wsL_law0_r2 _ (List.mem_of_getElem? (i := 23) rfl)), (om_wsL_law0_r3 _ (List.mem_of_getElem? (i := 0) rfl)), by decide +kernel, by decide +kernel⟩
set_option maxRecDepth 20000 in
theorem nf_X2_25 : NF RX2 25 6 [.int 0, .int 0, .int 0, .int 0, .null, .null, .null] := ⟨_, _, _, tyX3, rfl, rfl, uw_6, tyX3_ok, (om_wsL_law0_r12 _ (List.mem_of_getElem? (i := 1) rfl)), (om_wsL_law0_r12 _ (List.mem_of_getElem? (i := 2) rfl)), (om_wsL_law0_r12 _ (List.mem_of_getElem? (i := 3) rfl)), by decide +kernel, by decide +kernel⟩
theorem pf_X2_12 : PF RX2 12 5 0 (.object "PlainWords$Letter") true := ⟨_, _, _, tyX2, rfl, uw_5, tyX2_ok, nmX2, by decide, (om_wsL_law0_r2 _ (List.mem_of_getElem? (i := 21) rfl)), rfl, (fun _ => rfl), by decide +kernel⟩
theorem pf_X2_21 : PF RX2 21 5 1 (.object "PlainWords$Things") true := ⟨_, _, _, tyX2, rfl, uw_5, tyX2_ok, nmX2, by decide, (om_wsL_law0_r3 _ (List.mem_of_getElem? (i := 1) rfl)), rfl, (fun _ => rfl), by decide +kernel⟩
theorem pf_X2_27 : PF RX2 27 5 4 (.array .int) true := ⟨_, _, _, tyX2, rfl, uw_5, tyX2_ok, nmX2, by decide, (om_wsL_law0_r3 _ (List.mem_of_getElem? (i := 3) rfl)), rfl, (fun _ => rfl), by decide +kernel⟩
theorem pf_X2_31 : PF RX2 31 5 2 (.int) false := ⟨_, _, _, tyX2, rfl, uw_5, tyX2_ok, nmX2, by decide, (om_wsL_law0_r3 _ (List.mem_of_getElem? (i := 4) rfl)), rfl, (fun h => by cases h), by decide +kernel⟩
theorem pf_X2_35 : PF RX2 35 5 3 (.int) false := ⟨_, _, _, tyX2, rfl, uw_5, tyX2_ok, nmX2, by decide, (om_wsL_law0_r3 _ (List.mem_of_getElem? (i := 5) rfl)), rfl, (fun h => by cases h), by decide +kernel⟩
theorem pf_X2_38 : PF RX2 38 5 5 (.int) false := ⟨_, _, _, tyX2, rfl, uw_5, tyX2_ok, nmX2, by decide, (om_wsL_law0_r3 _ (List.mem_of_getElem? (i := 6) rfl)), rfl, (fun h => by cases h), by decide +kernel⟩
theorem gf_X3_9 : GF RX3 9 6 0 := ⟨_, _, _, rfl, uw_6, by decide, (om_wsL_law0_r16 _ (List.mem_of_getElem? (i := 16) rfl))⟩
theorem gf_X3_15 : GF RX3 15 6 1 := ⟨_, _, _, rfl, uw_6, by decide, (om_wsL_law0_r16 _ (List.mem_of_getElem? (i := 17) rfl))⟩
theorem gf_X3_18 : GF RX3 18 6 2 := ⟨_, _, _, rfl, uw_6, by decide, (om_wsL_law0_r16 _ (List.mem_of_getElem? (i := 18) rfl))⟩
theorem gf_X3_21 : GF RX3 21 6 3 := ⟨_, _, _, rfl, uw_6, by decide, (om_wsL_law0_r16 _ (List.mem_of_getElem? (i := 19) rfl))⟩
theorem gf_X3_25 : GF RX3 25 6 4 := ⟨_, _, _, rfl, uw_6, by decide, (om_wsL_law0_r16 _ (List.mem_of_getElem? (i := 20) rfl))⟩
theorem gf_X3_29 : GF RX3 29 6 5 := ⟨_, _, _, rfl, uw_6, by decide, (om_wsL_law0_r16 _ (List.mem_of_getElem? (i := 21) rfl))⟩
theorem gf_X3_33 : GF RX3 33 6 6 := ⟨_, _, _, rfl, uw_6, by decide, (om_wsL_law0_r16 _ (List.mem_of_getElem? (i := 22) rfl))⟩
theorem gf_X3_43 : GF RX3 43 3 6 := ⟨_, _, _, rfl, uw_3, by decide, (om_wsL_law0_r32 _ (List.mem_of_getElem? (i := 15) rfl))⟩
theorem gf_X3_80 : GF RX3 80 3 3 := ⟨_, _, _, rfl, uw_3, by decide, (om_wsL_law0_r41 _ (List.mem_of_getElem? (i := 14) rfl))⟩
theorem gf_X3_87 : GF RX3 87 3 4 := ⟨_, _, _, rfl, uw_3, by decide, (om_wsL_law0_r35 _ (List.mem_of_getElem? (i := 4) rfl))⟩
theorem gf_X3_90 : GF RX3 90 3 5 := ⟨_, _, _, rfl, uw_3, by decide, (om_wsL_law0_r35 _ (List.mem_of_getElem? (i := 9) rfl))⟩
set_option maxRecDepth 20000 in
theorem nf_X3_10 : NF RX3 10 6 [.int 0, .int 0, .int 0, .int 0, .null, .null, .null] := ⟨_, _, _, tyX3, rfl, rfl, uw_6, tyX3_ok, (om_wsL_law0_r27 _ (List.mem_of_getElem? (i := 12) rfl)), (om_wsL_law0_r12 _ (List.mem_of_getElem? (i := 2) rfl)), (om_wsL_law0_r12 _ (List.mem_of_getElem? (i := 3) rfl)), by decide +kernel, by decide +kernel⟩
theorem pf_X3_9 : PF RX3 9 6 0 (.int) true := ⟨_, _, _, tyX3, rfl, uw_6, tyX3_ok, nmX3, by decide, (om_wsL_law0_r16 _ (List.mem_of_getElem? (i := 16) rfl)), rfl, (fun _ => rfl), by decide +kernel⟩
theorem pf_X3_15 : PF RX3 15 6 1 (.int) true := ⟨_, _, _, tyX3, rfl, uw_6, tyX3_ok, nmX3, by decide, (om_wsL_law0_r16 _ (List.mem_of_getElem? (i := 17) rfl)), rfl, (fun _ => rfl), by decide +kernel⟩
theorem pf_X3_18 : PF RX3 18 6 2 (.int) true := ⟨_, _, _, tyX3, rfl, uw_6, tyX3_ok, nmX3, by decide, (om_wsL_law0_r16 _ (List.mem_of_getElem? (i := 18) rfl)), rfl, (fun _ => rfl), by decide +kernel⟩
theorem pf_X3_21 : PF RX3 21 6 3 (.boolean) true := ⟨_, _, _, tyX3, rfl, uw_6, tyX3_ok, nmX3, by decide, (om_wsL_law0_r16 _ (List.mem_of_getElem? (i := 19) rfl)), rfl, (fun _ => rfl), by decide +kernel⟩
theorem pf_X3_25 : PF RX3 25 6 4 (.array .int) true := ⟨_, _, _, tyX3, rfl, uw_6, tyX3_ok, nmX3, by decide, (om_wsL_law0_r16 _ (List.mem_of_getElem? (i := 20) rfl)), rfl, (fun _ => rfl), by decide +kernel⟩
theorem pf_X3_29 : PF RX3 29 6 5 (.object "PlainWords$Cond") true := ⟨_, _, _, tyX3, rfl, uw_6, tyX3_ok, nmX3, by decide, (om_wsL_law0_r16 _ (List.mem_of_getElem? (i := 21) rfl)), rfl, (fun _ => rfl), by decide +kernel⟩
theorem pf_X3_33 : PF RX3 33 6 6 (.object "PlainWords$Cond") true := ⟨_, _, _, tyX3, rfl, uw_6, tyX3_ok, nmX3, by decide, (om_wsL_law0_r16 _ (List.mem_of_getElem? (i := 22) rfl)), rfl, (fun _ => rfl), by decide +kernel⟩
theorem gf_X4_11 : GF RX4 11 7 0 := ⟨_, _, _, rfl, uw_7, by decide, (om_wsL_law0_r2 _ (List.mem_of_getElem? (i := 14) rfl))⟩
theorem gf_X4_15 : GF RX4 15 7 1 := ⟨_, _, _, rfl, uw_7, by decide, (om_wsL_law0_r2 _ (List.mem_of_getElem? (i := 15) rfl))⟩
theorem pf_X4_11 : PF RX4 11 7 0 (.array .byte) true := ⟨_, _, _, tyX4, rfl, uw_7, tyX4_ok, nmX4, by decide, (om_wsL_law0_r2 _ (List.mem_of_getElem? (i := 14) rfl)), rfl, (fun _ => rfl), by decide +kernel⟩
theorem pf_X4_15 : PF RX4 15 7 1 (.int) false := ⟨_, _, _, tyX4, rfl, uw_7, tyX4_ok, nmX4, by decide, (om_wsL_law0_r2 _ (List.mem_of_getElem? (i := 15) rfl)), rfl, (fun h => by cases h), by decide +kernel⟩
theorem gf_X6_11 : GF RX6 11 8 0 := ⟨_, _, _, rfl, uw_8, by decide, (om_wsL_law0_r4 _ (List.mem_of_getElem? (i := 10) rfl))⟩
theorem gf_X6_17 : GF RX6 17 8 1 := ⟨_, _, _, rfl, uw_8, by decide, (om_wsL_law0_r4 _ (List.mem_of_getElem? (i := 11) rfl))⟩
theorem gf_X6_20 : GF RX6 20 8 2 := ⟨_, _, _, rfl, uw_8, by decide, (om_wsL_law0_r4 _ (List.mem_of_getElem? (i := 12) rfl))⟩
theorem gf_X6_23 : GF RX6 23 8 3 := ⟨_, _, _, rfl, uw_8, by decide, (om_wsL_law0_r4 _ (List.mem_of_getElem? (i := 13) rfl))⟩
theorem gf_X6_27 : GF RX6 27 8 4 := ⟨_, _, _, rfl, uw_8, by decide, (om_wsL_law0_r4 _ (List.mem_of_getElem? (i := 14) rfl))⟩
theorem gf_X6_30 : GF RX6 30 8 5 := ⟨_, _, _, rfl, uw_8, by decide, (om_wsL_law0_r4 _ (List.mem_of_getElem? (i := 15) rfl))⟩
theorem gf_X6_39 : GF RX6 39 7 1 := ⟨_, _, _, rfl, uw_7, by decide, (om_wsL_law0_r8 _ (List.mem_of_getElem? (i := 7) rfl))⟩
theorem pf_X6_11 : PF RX6 11 8 0 (.array .int) true := ⟨_, _, _, tyX6, rfl, uw_8, tyX6_ok, nmX6, by decide, (om_wsL_law0_r4 _ (List.mem_of_getElem? (i := 10) rfl)), rfl, (fun _ => rfl), by decide +kernel⟩
theorem pf_X6_17 : PF RX6 17 8 1 (.array .int) true := ⟨_, _, _, tyX6, rfl, uw_8, tyX6_ok, nmX6, by decide, (om_wsL_law0_r4 _ (List.mem_of_getElem? (i := 11) rfl)), rfl, (fun _ => rfl), by decide +kernel⟩
theorem pf_X6_20 : PF RX6 20 8 2 (.array .int) true := ⟨_, _, _, tyX6, rfl, uw_8, tyX6_ok, nmX6, by decide, (om_wsL_law0_r4 _ (List.mem_of_getElem? (i := 12) rfl)), rfl, (fun _ => rfl), by decide +kernel⟩
theorem pf_X6_23 : PF RX6 23 8 3 (.int) false := ⟨_, _, _, tyX6, rfl, uw_8, tyX6_ok, nmX6, by decide, (om_wsL_law0_r4 _ (List.mem_of_getElem? (i := 13) rfl)), rfl, (fun h => by cases h), by decide +kernel⟩
theorem pf_X6_27 : PF RX6 27 8 4 (.int) false := ⟨_, _, _, tyX6, rfl, uw_8, tyX6_ok, nmX6, by decide, (om_wsL_law0_r4 _ (List.mem_of_getElem? (i := 14) rfl)), rfl, (fun h => by cases h), by decide +kernel⟩
theorem pf_X6_30 : PF RX6 30 8 5 (.int) false := ⟨_, _, _, tyX6, rfl, uw_8, tyX6_ok, nmX6, by decide, (om_wsL_law0_r4 _ (List.mem_of_getElem? (i := 15) rfl)), rfl, (fun h => by cases h), by decide +kernel⟩
theorem gf_X7_11 : GF RX7 11 9 0 := ⟨_, _, _, rfl, uw_9, by decide, (om_wsL_law0_r4 _ (List.mem_of_getElem? (i := 20) rfl))⟩
theorem gf_X7_17 : GF RX7 17 9 1 := ⟨_, _, _, rfl, uw_9, by decide, (om_wsL_law0_r4 _ (List.mem_of_getElem? (i := 21) rfl))⟩
theorem gf_X7_21 : GF RX7 21 9 2 := ⟨_, _, _, rfl, uw_9, by decide, (om_wsL_law0_r4 _ (List.mem_of_getElem? (i := 22) rfl))⟩
theorem gf_X7_42 : GF RX7 42 6 5 := ⟨_, _, _, rfl, uw_6, by decide, (om_wsL_law0_r43 _ (List.mem_of_getElem? (i := 14) rfl))⟩
theorem gf_X7_57 : GF RX7 57 6 3 := ⟨_, _, _, rfl, uw_6, by decide, (om_wsL_law0_r43 _ (List.mem_of_getElem? (i := 15) rfl))⟩
theorem gf_X7_60 : GF RX7 60 6 4 := ⟨_, _, _, rfl, uw_6, by decide, (om_wsL_law0_r43 _ (List.mem_of_getElem? (i := 16) rfl))⟩
theorem gf_X7_68 : GF RX7 68 6 1 := ⟨_, _, _, rfl, uw_6, by decide, (om_wsL_law0_r43 _ (List.mem_of_getElem? (i := 17) rfl))⟩
theorem gf_X7_74 : GF RX7 74 6 0 := ⟨_, _, _, rfl, uw_6, by decide, (om_wsL_law0_r43 _ (List.mem_of_getElem? (i := 18) rfl))⟩
theorem gf_X7_80 : GF RX7 80 6 6 := ⟨_, _, _, rfl, uw_6, by decide, (om_wsL_law0_r43 _ (List.mem_of_getElem? (i := 19) rfl))⟩
theorem gf_X7_83 : GF RX7 83 6 2 := ⟨_, _, _, rfl, uw_6, by decide, (om_wsL_law0_r43 _ (List.mem_of_getElem? (i := 20) rfl))⟩
theorem gf_X7_89 : GF RX7 89 3 0 := ⟨_, _, _, rfl, uw_3, by decide, (om_wsL_law0_r44 _ (List.mem_of_getElem? (i := 12) rfl))⟩
theorem gf_X7_94 : GF RX7 94 3 1 := ⟨_, _, _, rfl, uw_3, by decide, (om_wsL_law0_r44 _ (List.mem_of_getElem? (i := 13) rfl))⟩
theorem gf_X7_97 : GF RX7 97 3 2 := ⟨_, _, _, rfl, uw_3, by decide, (om_wsL_law0_r44 _ (List.mem_of_getElem? (i := 14) rfl))⟩
theorem pf_X7_11 : PF RX7 11 9 0 (.array .byte) true := ⟨_, _, _, tyX7, rfl, uw_9, tyX7_ok, nmX7, by decide, (om_wsL_law0_r4 _ (List.mem_of_getElem? (i := 20) rfl)), rfl, (fun _ => rfl), by decide +kernel⟩
theorem pf_X7_17 : PF RX7 17 9 1 (.int) false := ⟨_, _, _, tyX7, rfl, uw_9, tyX7_ok, nmX7, by decide, (om_wsL_law0_r4 _ (List.mem_of_getElem? (i := 21) rfl)), rfl, (fun h => by cases h), by decide +kernel⟩
theorem pf_X7_21 : PF RX7 21 9 2 (.boolean) false := ⟨_, _, _, tyX7, rfl, uw_9, tyX7_ok, nmX7, by decide, (om_wsL_law0_r4 _ (List.mem_of_getElem? (i := 22) rfl)), rfl, (fun h => by cases h), by decide +kernel⟩
theorem gf_X8_10 : GF RX8 10 10 0 := ⟨_, _, _, rfl, uw_10, by decide, (om_wsL_law0_r1 _ (List.mem_of_getElem? (i := 16) rfl))⟩
theorem gf_X8_19 : GF RX8 19 10 1 := ⟨_, _, _, rfl, uw_10, by decide, (om_wsL_law0_r1 _ (List.mem_of_getElem? (i := 20) rfl))⟩
theorem gf_X8_26 : GF RX8 26 10 2 := ⟨_, _, _, rfl, uw_10, by decide, (om_wsL_law0_r2 _ (List.mem_of_getElem? (i := 0) rfl))⟩
theorem gf_X8_33 : GF RX8 33 10 3 := ⟨_, _, _, rfl, uw_10, by decide, (om_wsL_law0_r2 _ (List.mem_of_getElem? (i := 4) rfl))⟩
theorem gf_X8_37 : GF RX8 37 10 4 := ⟨_, _, _, rfl, uw_10, by decide, (om_wsL_law0_r2 _ (List.mem_of_getElem? (i := 5) rfl))⟩
theorem gf_X8_40 : GF RX8 40 10 5 := ⟨_, _, _, rfl, uw_10, by decide, (om_wsL_law0_r2 _ (List.mem_of_getElem? (i := 6) rfl))⟩
theorem gf_X8_44 : GF RX8 44 10 6 := ⟨_, _, _, rfl, uw_10, by decide, (om_wsL_law0_r2 _ (List.mem_of_getElem? (i := 7) rfl))⟩
theorem gf_X8_47 : GF RX8 47 10 7 := ⟨_, _, _, rfl, uw_10, by decide, (om_wsL_law0_r2 _ (List.mem_of_getElem? (i := 8) rfl))⟩
theorem gf_X8_50 : GF RX8 50 7 1 := ⟨_, _, _, rfl, uw_7, by decide, (om_wsL_law0_r6 _ (List.mem_of_getElem? (i := 1) rfl))⟩
theorem gf_X8_76 : GF RX8 76 5 0 := ⟨_, _, _, rfl, uw_5, by decide, (om_wsL_law0_r7 _ (List.mem_of_getElem? (i := 11) rfl))⟩
theorem gf_X8_139 : GF RX8 139 9 1 := ⟨_, _, _, rfl, uw_9, by decide, (om_wsL_law0_r42 _ (List.mem_of_getElem? (i := 22) rfl))⟩
theorem gf_X8_140 : GF RX8 140 9 0 := ⟨_, _, _, rfl, uw_9, by decide, (om_wsL_law0_r42 _ (List.mem_of_getElem? (i := 23) rfl))⟩
set_option maxRecDepth 20000 in
theorem nf_X8_7 : NF RX8 7 7 [.null, .int 0] := ⟨_, _, _, tyX4, rfl, rfl, uw_7, tyX4_ok, (om_wsL_law0_r1 _ (List.mem_of_getElem? (i := 13) rfl)), (om_wsL_law0_r1 _ (List.mem_of_getElem? (i := 14) rfl)), (om_wsL_law0_r1 _ (List.mem_of_getElem? (i := 15) rfl)), by decide +kernel, by decide +kernel⟩
set_option maxRecDepth 20000 in
theorem nf_X8_16 : NF RX8 16 5 [.null, .null, .int 0, .int 0, .null, .int 0] := ⟨_, _, _, tyX2, rfl, rfl, uw_5, tyX2_ok, (om_wsL_law0_r1 _ (List.mem_of_getElem? (i := 17) rfl)), (om_wsL_law0_r1 _ (List.mem_of_getElem? (i := 18) rfl)), (om_wsL_law0_r1 _ (List.mem_of_getElem? (i := 19) rfl)), by decide +kernel, by decide +kernel⟩
set_option maxRecDepth 20000 in
theorem nf_X8_23 : NF RX8 23 9 [.null, .int 0, .int 0] := ⟨_, _, _, tyX7, rfl, rfl, uw_9, tyX7_ok, (om_wsL_law0_r1 _ (List.mem_of_getElem? (i := 21) rfl)), (om_wsL_law0_r1 _ (List.mem_of_getElem? (i := 22) rfl)), (om_wsL_law0_r1 _ (List.mem_of_getElem? (i := 23) rfl)), by decide +kernel, by decide +kernel⟩
set_option maxRecDepth 20000 in
theorem nf_X8_30 : NF RX8 30 4 [.null] := ⟨_, _, _, tyX1, rfl, rfl, uw_4, tyX1_ok, (om_wsL_law0_r2 _ (List.mem_of_getElem? (i := 1) rfl)), (om_wsL_law0_r2 _ (List.mem_of_getElem? (i := 2) rfl)), (om_wsL_law0_r2 _ (List.mem_of_getElem? (i := 3) rfl)), by decide +kernel, by decide +kernel⟩
theorem pf_X8_10 : PF RX8 10 10 0 (.object "PlainWords$Tape") true := ⟨_, _, _, tyX8, rfl, uw_10, tyX8_ok, nmX8, by decide, (om_wsL_law0_r1 _ (List.mem_of_getElem? (i := 16) rfl)), rfl, (fun _ => rfl), by decide +kernel⟩
theorem pf_X8_19 : PF RX8 19 10 1 (.object "PlainWords$Reader") true := ⟨_, _, _, tyX8, rfl, uw_10, tyX8_ok, nmX8, by decide, (om_wsL_law0_r1 _ (List.mem_of_getElem? (i := 20) rfl)), rfl, (fun _ => rfl), by decide +kernel⟩
theorem pf_X8_26 : PF RX8 26 10 2 (.object "PlainWords$Writer") true := ⟨_, _, _, tyX8, rfl, uw_10, tyX8_ok, nmX8, by decide, (om_wsL_law0_r2 _ (List.mem_of_getElem? (i := 0) rfl)), rfl, (fun _ => rfl), by decide +kernel⟩
theorem pf_X8_33 : PF RX8 33 10 3 (.object "PlainWords$Letter") true := ⟨_, _, _, tyX8, rfl, uw_10, tyX8_ok, nmX8, by decide, (om_wsL_law0_r2 _ (List.mem_of_getElem? (i := 4) rfl)), rfl, (fun _ => rfl), by decide +kernel⟩
theorem pf_X8_37 : PF RX8 37 10 4 (.object "PlainWords$Letter") true := ⟨_, _, _, tyX8, rfl, uw_10, tyX8_ok, nmX8, by decide, (om_wsL_law0_r2 _ (List.mem_of_getElem? (i := 5) rfl)), rfl, (fun _ => rfl), by decide +kernel⟩
theorem pf_X8_40 : PF RX8 40 10 5 (.int) false := ⟨_, _, _, tyX8, rfl, uw_10, tyX8_ok, nmX8, by decide, (om_wsL_law0_r2 _ (List.mem_of_getElem? (i := 6) rfl)), rfl, (fun h => by cases h), by decide +kernel⟩
theorem pf_X8_44 : PF RX8 44 10 6 (.int) false := ⟨_, _, _, tyX8, rfl, uw_10, tyX8_ok, nmX8, by decide, (om_wsL_law0_r2 _ (List.mem_of_getElem? (i := 7) rfl)), rfl, (fun h => by cases h), by decide +kernel⟩
theorem pf_X8_47 : PF RX8 47 10 7 (.int) false := ⟨_, _, _, tyX8, rfl, uw_10, tyX8_ok, nmX8, by decide, (om_wsL_law0_r2 _ (List.mem_of_getElem? (i := 8) rfl)), rfl, (fun h => by cases h), by decide +kernel⟩
theorem gf_X9_9 : GF RX9 9 11 1 := ⟨_, _, _, rfl, uw_11, by decide, (om_wsL_law0_r5 _ (List.mem_of_getElem? (i := 4) rfl))⟩
theorem gf_X9_13 : GF RX9 13 11 2 := ⟨_, _, _, rfl, uw_11, by decide, (om_wsL_law0_r5 _ (List.mem_of_getElem? (i := 5) rfl))⟩
theorem gf_X9_16 : GF RX9 16 11 3 := ⟨_, _, _, rfl, uw_11, by decide, (om_wsL_law0_r5 _ (List.mem_of_getElem? (i := 6) rfl))⟩
theorem gf_X9_19 : GF RX9 19 11 4 := ⟨_, _, _, rfl, uw_11, by decide, (om_wsL_law0_r5 _ (List.mem_of_getElem? (i := 7) rfl))⟩
theorem gf_X9_22 : GF RX9 22 11 5 := ⟨_, _, _, rfl, uw_11, by decide, (om_wsL_law0_r5 _ (List.mem_of_getElem? (i := 8) rfl))⟩
theorem gf_X9_25 : GF RX9 25 11 6 := ⟨_, _, _, rfl, uw_11, by decide, (om_wsL_law0_r5 _ (List.mem_of_getElem? (i := 10) rfl))⟩
theorem gf_X9_29 : GF RX9 29 11 7 := ⟨_, _, _, rfl, uw_11, by decide, (om_wsL_law0_r5 _ (List.mem_of_getElem? (i := 11) rfl))⟩
theorem gf_X9_33 : GF RX9 33 11 8 := ⟨_, _, _, rfl, uw_11, by decide, (om_wsL_law0_r5 _ (List.mem_of_getElem? (i := 13) rfl))⟩
theorem gf_X9_36 : GF RX9 36 11 14 := ⟨_, _, _, rfl, uw_11, by decide, (om_wsL_law0_r5 _ (List.mem_of_getElem? (i := 14) rfl))⟩
theorem gf_X9_39 : GF RX9 39 11 15 := ⟨_, _, _, rfl, uw_11, by decide, (om_wsL_law0_r5 _ (List.mem_of_getElem? (i := 15) rfl))⟩
theorem gf_X9_42 : GF RX9 42 11 16 := ⟨_, _, _, rfl, uw_11, by decide, (om_wsL_law0_r5 _ (List.mem_of_getElem? (i := 16) rfl))⟩
theorem gf_X9_45 : GF RX9 45 11 20 := ⟨_, _, _, rfl, uw_11, by decide, (om_wsL_law0_r5 _ (List.mem_of_getElem? (i := 17) rfl))⟩
theorem gf_X9_49 : GF RX9 49 11 25 := ⟨_, _, _, rfl, uw_11, by decide, (om_wsL_law0_r5 _ (List.mem_of_getElem? (i := 18) rfl))⟩
theorem gf_X9_53 : GF RX9 53 11 27 := ⟨_, _, _, rfl, uw_11, by decide, (om_wsL_law0_r5 _ (List.mem_of_getElem? (i := 19) rfl))⟩
theorem gf_X9_56 : GF RX9 56 11 28 := ⟨_, _, _, rfl, uw_11, by decide, (om_wsL_law0_r5 _ (List.mem_of_getElem? (i := 20) rfl))⟩
theorem gf_X9_59 : GF RX9 59 11 0 := ⟨_, _, _, rfl, uw_11, by decide, (om_wsL_law0_r6 _ (List.mem_of_getElem? (i := 10) rfl))⟩
theorem gf_X9_62 : GF RX9 62 11 17 := ⟨_, _, _, rfl, uw_11, by decide, (om_wsL_law0_r22 _ (List.mem_of_getElem? (i := 10) rfl))⟩
theorem gf_X9_65 : GF RX9 65 11 18 := ⟨_, _, _, rfl, uw_11, by decide, (om_wsL_law0_r33 _ (List.mem_of_getElem? (i := 19) rfl))⟩
theorem gf_X9_86 : GF RX9 86 11 19 := ⟨_, _, _, rfl, uw_11, by decide, (om_wsL_law0_r23 _ (List.mem_of_getElem? (i := 20) rfl))⟩
theorem gf_X9_96 : GF RX9 96 11 21 := ⟨_, _, _, rfl, uw_11, by decide, (om_wsL_law0_r6 _ (List.mem_of_getElem? (i := 11) rfl))⟩
theorem gf_X9_99 : GF RX9 99 11 22 := ⟨_, _, _, rfl, uw_11, by decide, (om_wsL_law0_r21 _ (List.mem_of_getElem? (i := 3) rfl))⟩
theorem gf_X9_102 : GF RX9 102 11 23 := ⟨_, _, _, rfl, uw_11, by decide, (om_wsL_law0_r20 _ (List.mem_of_getElem? (i := 17) rfl))⟩
theorem gf_X9_109 : GF RX9 109 11 24 := ⟨_, _, _, rfl, uw_11, by decide, (om_wsL_law0_r20 _ (List.mem_of_getElem? (i := 18) rfl))⟩
theorem gf_X9_135 : GF RX9 135 11 26 := ⟨_, _, _, rfl, uw_11, by decide, (om_wsL_law0_r22 _ (List.mem_of_getElem? (i := 11) rfl))⟩
theorem gf_X9_216 : GF RX9 216 11 9 := ⟨_, _, _, rfl, uw_11, by decide, (om_wsL_law0_r20 _ (List.mem_of_getElem? (i := 19) rfl))⟩
theorem gf_X9_219 : GF RX9 219 11 13 := ⟨_, _, _, rfl, uw_11, by decide, (om_wsL_law0_r20 _ (List.mem_of_getElem? (i := 20) rfl))⟩
theorem gf_X9_223 : GF RX9 223 11 11 := ⟨_, _, _, rfl, uw_11, by decide, (om_wsL_law0_r20 _ (List.mem_of_getElem? (i := 21) rfl))⟩
theorem gf_X9_226 : GF RX9 226 11 12 := ⟨_, _, _, rfl, uw_11, by decide, (om_wsL_law0_r20 _ (List.mem_of_getElem? (i := 22) rfl))⟩
theorem gf_X9_232 : GF RX9 232 11 10 := ⟨_, _, _, rfl, uw_11, by decide, (om_wsL_law0_r25 _ (List.mem_of_getElem? (i := 13) rfl))⟩
theorem gf_X9_235 : GF RX9 235 11 29 := ⟨_, _, _, rfl, uw_11, by decide, (om_wsL_law0_r36 _ (List.mem_of_getElem? (i := 22) rfl))⟩
theorem gf_X9_238 : GF RX9 238 11 31 := ⟨_, _, _, rfl, uw_11, by decide, (om_wsL_law0_r37 _ (List.mem_of_getElem? (i := 4) rfl))⟩
theorem gf_X9_245 : GF RX9 245 11 30 := ⟨_, _, _, rfl, uw_11, by decide, (om_wsL_law0_r36 _ (List.mem_of_getElem? (i := 23) rfl))⟩
theorem gf_X9_316 : GF RX9 316 11 32 := ⟨_, _, _, rfl, uw_11, by decide, (om_wsL_law0_r36 _ (List.mem_of_getElem? (i := 5) rfl))⟩
theorem pf_X9_9 : PF RX9 9 11 1 (.array .int) true := ⟨_, _, _, tyX9, rfl, uw_11, tyX9_ok, nmX9, by decide, (om_wsL_law0_r5 _ (List.mem_of_getElem? (i := 4) rfl)), rfl, (fun _ => rfl), by decide +kernel⟩
theorem pf_X9_13 : PF RX9 13 11 2 (.array .int) true := ⟨_, _, _, tyX9, rfl, uw_11, tyX9_ok, nmX9, by decide, (om_wsL_law0_r5 _ (List.mem_of_getElem? (i := 5) rfl)), rfl, (fun _ => rfl), by decide +kernel⟩
theorem pf_X9_16 : PF RX9 16 11 3 (.array .int) true := ⟨_, _, _, tyX9, rfl, uw_11, tyX9_ok, nmX9, by decide, (om_wsL_law0_r5 _ (List.mem_of_getElem? (i := 6) rfl)), rfl, (fun _ => rfl), by decide +kernel⟩
theorem pf_X9_19 : PF RX9 19 11 4 (.array .int) true := ⟨_, _, _, tyX9, rfl, uw_11, tyX9_ok, nmX9, by decide, (om_wsL_law0_r5 _ (List.mem_of_getElem? (i := 7) rfl)), rfl, (fun _ => rfl), by decide +kernel⟩
theorem pf_X9_22 : PF RX9 22 11 5 (.array .int) true := ⟨_, _, _, tyX9, rfl, uw_11, tyX9_ok, nmX9, by decide, (om_wsL_law0_r5 _ (List.mem_of_getElem? (i := 8) rfl)), rfl, (fun _ => rfl), by decide +kernel⟩
theorem pf_X9_25 : PF RX9 25 11 6 (.array .boolean) true := ⟨_, _, _, tyX9, rfl, uw_11, tyX9_ok, nmX9, by decide, (om_wsL_law0_r5 _ (List.mem_of_getElem? (i := 10) rfl)), rfl, (fun _ => rfl), by decide +kernel⟩
theorem pf_X9_29 : PF RX9 29 11 7 (.array .int) true := ⟨_, _, _, tyX9, rfl, uw_11, tyX9_ok, nmX9, by decide, (om_wsL_law0_r5 _ (List.mem_of_getElem? (i := 11) rfl)), rfl, (fun _ => rfl), by decide +kernel⟩
theorem pf_X9_33 : PF RX9 33 11 8 (.array .int) true := ⟨_, _, _, tyX9, rfl, uw_11, tyX9_ok, nmX9, by decide, (om_wsL_law0_r5 _ (List.mem_of_getElem? (i := 13) rfl)), rfl, (fun _ => rfl), by decide +kernel⟩
theorem pf_X9_36 : PF RX9 36 11 14 (.array .int) true := ⟨_, _, _, tyX9, rfl, uw_11, tyX9_ok, nmX9, by decide, (om_wsL_law0_r5 _ (List.mem_of_getElem? (i := 14) rfl)), rfl, (fun _ => rfl), by decide +kernel⟩
theorem pf_X9_39 : PF RX9 39 11 15 (.array .int) true := ⟨_, _, _, tyX9, rfl, uw_11, tyX9_ok, nmX9, by decide, (om_wsL_law0_r5 _ (List.mem_of_getElem? (i := 15) rfl)), rfl, (fun _ => rfl), by decide +kernel⟩
theorem pf_X9_42 : PF RX9 42 11 16 (.array .int) true := ⟨_, _, _, tyX9, rfl, uw_11, tyX9_ok, nmX9, by decide, (om_wsL_law0_r5 _ (List.mem_of_getElem? (i := 16) rfl)), rfl, (fun _ => rfl), by decide +kernel⟩
theorem pf_X9_45 : PF RX9 45 11 20 (.array .byte) true := ⟨_, _, _, tyX9, rfl, uw_11, tyX9_ok, nmX9, by decide, (om_wsL_law0_r5 _ (List.mem_of_getElem? (i := 17) rfl)), rfl, (fun _ => rfl), by decide +kernel⟩
theorem pf_X9_49 : PF RX9 49 11 25 (.int) false := ⟨_, _, _, tyX9, rfl, uw_11, tyX9_ok, nmX9, by decide, (om_wsL_law0_r5 _ (List.mem_of_getElem? (i := 18) rfl)), rfl, (fun h => by cases h), by decide +kernel⟩
theorem pf_X9_53 : PF RX9 53 11 27 (.array .int) true := ⟨_, _, _, tyX9, rfl, uw_11, tyX9_ok, nmX9, by decide, (om_wsL_law0_r5 _ (List.mem_of_getElem? (i := 19) rfl)), rfl, (fun _ => rfl), by decide +kernel⟩
theorem pf_X9_56 : PF RX9 56 11 28 (.array .byte) true := ⟨_, _, _, tyX9, rfl, uw_11, tyX9_ok, nmX9, by decide, (om_wsL_law0_r5 _ (List.mem_of_getElem? (i := 20) rfl)), rfl, (fun _ => rfl), by decide +kernel⟩
theorem pf_X9_59 : PF RX9 59 11 0 (.int) false := ⟨_, _, _, tyX9, rfl, uw_11, tyX9_ok, nmX9, by decide, (om_wsL_law0_r6 _ (List.mem_of_getElem? (i := 10) rfl)), rfl, (fun h => by cases h), by decide +kernel⟩
theorem pf_X9_62 : PF RX9 62 11 17 (.int) false := ⟨_, _, _, tyX9, rfl, uw_11, tyX9_ok, nmX9, by decide, (om_wsL_law0_r22 _ (List.mem_of_getElem? (i := 10) rfl)), rfl, (fun h => by cases h), by decide +kernel⟩
theorem pf_X9_65 : PF RX9 65 11 18 (.int) false := ⟨_, _, _, tyX9, rfl, uw_11, tyX9_ok, nmX9, by decide, (om_wsL_law0_r33 _ (List.mem_of_getElem? (i := 19) rfl)), rfl, (fun h => by cases h), by decide +kernel⟩
theorem pf_X9_86 : PF RX9 86 11 19 (.int) false := ⟨_, _, _, tyX9, rfl, uw_11, tyX9_ok, nmX9, by decide, (om_wsL_law0_r23 _ (List.mem_of_getElem? (i := 20) rfl)), rfl, (fun h => by cases h), by decide +kernel⟩
theorem pf_X9_96 : PF RX9 96 11 21 (.int) false := ⟨_, _, _, tyX9, rfl, uw_11, tyX9_ok, nmX9, by decide, (om_wsL_law0_r6 _ (List.mem_of_getElem? (i := 11) rfl)), rfl, (fun h => by cases h), by decide +kernel⟩
theorem pf_X9_99 : PF RX9 99 11 22 (.int) false := ⟨_, _, _, tyX9, rfl, uw_11, tyX9_ok, nmX9, by decide, (om_wsL_law0_r21 _ (List.mem_of_getElem? (i := 3) rfl)), rfl, (fun h => by cases h), by decide +kernel⟩
theorem pf_X9_102 : PF RX9 102 11 23 (.int) false := ⟨_, _, _, tyX9, rfl, uw_11, tyX9_ok, nmX9, by decide, (om_wsL_law0_r20 _ (List.mem_of_getElem? (i := 17) rfl)), rfl, (fun h => by cases h), by decide +kernel⟩
theorem pf_X9_109 : PF RX9 109 11 24 (.int) false := ⟨_, _, _, tyX9, rfl, uw_11, tyX9_ok, nmX9, by decide, (om_wsL_law0_r20 _ (List.mem_of_getElem? (i := 18) rfl)), rfl, (fun h => by cases h), by decide +kernel⟩
theorem pf_X9_135 : PF RX9 135 11 26 (.int) false := ⟨_, _, _, tyX9, rfl, uw_11, tyX9_ok, nmX9, by decide, (om_wsL_law0_r22 _ (List.mem_of_getElem? (i := 11) rfl)), rfl, (fun h => by cases h), by decide +kernel⟩
theorem pf_X9_216 : PF RX9 216 11 9 (.int) false := ⟨_, _, _, tyX9, rfl, uw_11, tyX9_ok, nmX9, by decide, (om_wsL_law0_r20 _ (List.mem_of_getElem? (i := 19) rfl)), rfl, (fun h => by cases h), by decide +kernel⟩
theorem pf_X9_219 : PF RX9 219 11 13 (.boolean) false := ⟨_, _, _, tyX9, rfl, uw_11, tyX9_ok, nmX9, by decide, (om_wsL_law0_r20 _ (List.mem_of_getElem? (i := 20) rfl)), rfl, (fun h => by cases h), by decide +kernel⟩
theorem pf_X9_223 : PF RX9 223 11 11 (.int) false := ⟨_, _, _, tyX9, rfl, uw_11, tyX9_ok, nmX9, by decide, (om_wsL_law0_r20 _ (List.mem_of_getElem? (i := 21) rfl)), rfl, (fun h => by cases h), by decide +kernel⟩
theorem pf_X9_226 : PF RX9 226 11 12 (.int) false := ⟨_, _, _, tyX9, rfl, uw_11, tyX9_ok, nmX9, by decide, (om_wsL_law0_r20 _ (List.mem_of_getElem? (i := 22) rfl)), rfl, (fun h => by cases h), by decide +kernel⟩
theorem pf_X9_232 : PF RX9 232 11 10 (.int) false := ⟨_, _, _, tyX9, rfl, uw_11, tyX9_ok, nmX9, by decide, (om_wsL_law0_r25 _ (List.mem_of_getElem? (i := 13) rfl)), rfl, (fun h => by cases h), by decide +kernel⟩
theorem pf_X9_235 : PF RX9 235 11 29 (.int) false := ⟨_, _, _, tyX9, rfl, uw_11, tyX9_ok, nmX9, by decide, (om_wsL_law0_r36 _ (List.mem_of_getElem? (i := 22) rfl)), rfl, (fun h => by cases h), by decide +kernel⟩
theorem pf_X9_238 : PF RX9 238 11 31 (.boolean) false := ⟨_, _, _, tyX9, rfl, uw_11, tyX9_ok, nmX9, by decide, (om_wsL_law0_r37 _ (List.mem_of_getElem? (i := 4) rfl)), rfl, (fun h => by cases h), by decide +kernel⟩
theorem pf_X9_245 : PF RX9 245 11 30 (.int) false := ⟨_, _, _, tyX9, rfl, uw_11, tyX9_ok, nmX9, by decide, (om_wsL_law0_r36 _ (List.mem_of_getElem? (i := 23) rfl)), rfl, (fun h => by cases h), by decide +kernel⟩
theorem pf_X9_316 : PF RX9 316 11 32 (.int) false := ⟨_, _, _, tyX9, rfl, uw_11, tyX9_ok, nmX9, by decide, (om_wsL_law0_r36 _ (List.mem_of_getElem? (i := 5) rfl)), rfl, (fun h => by cases h), by decide +kernel⟩
theorem cw_X8_init : CW yX8_init cX8_init 1 none 0 := ⟨(om_wsL_law0_r1 _ (List.mem_of_getElem? (i := 2) rfl)), (om_wsL_law0_r1 _ (List.mem_of_getElem? (i := 9) rfl)), by decide +kernel, by decide +kernel, by decide +kernel, by decide⟩
theorem cw_X4_init : CW yX4_init cX4_init 1 none 0 := ⟨(om_wsL_law0_r1 _ (List.mem_of_getElem? (i := 15) rfl)), (om_wsL_law0_r2 _ (List.mem_of_getElem? (i := 11) rfl)), by decide +kernel, by decide +kernel, by decide +kernel, by decide⟩
theorem cw_X2_init : CW yX2_init cX2_init 1 none 0 := ⟨(om_wsL_law0_r1 _ (List.mem_of_getElem? (i := 19) rfl)), (om_wsL_law0_r2 _ (List.mem_of_getElem? (i := 18) rfl)), by decide +kernel, by decide +kernel, by decide +kernel, by decide⟩
theorem cw_X1_init : CW yX1_init cX1_init 1 none 0 := ⟨(om_wsL_law0_r2 _ (List.mem_of_getElem? (i := 3) rfl)), (om_wsL_law0_r3 _ (List.mem_of_getElem? (i := 9) rfl)), by decide +kernel, by decide +kernel, by decide +kernel, by decide⟩
theorem cw_Jx4a65c_init_da8c8 : CW yJx4a65c_init_da8c8 cJx4a65c_init_da8c8 1 none 0 := ⟨(om_wsL_law0_r3 _ (List.mem_of_getElem? (i := 13) rfl)), (om_wsL_law0_r3 _ (List.mem_of_getElem? (i := 17) rfl)), by decide +kernel, by decide +kernel, by decide +kernel, by decide⟩
theorem cw_Jxc12de_init_da8c8 : CW yJxc12de_init_da8c8 cJxc12de_init_da8c8 1 none 0 := ⟨(om_wsL_law0_r3 _ (List.mem_of_getElem? (i := 22) rfl)), (om_wsL_law0_r3 _ (List.mem_of_getElem? (i := 23) rfl)), by decide +kernel, by decide +kernel, by decide +kernel, by decide⟩
theorem cw_Jxa1e45_init_da8c8 : CW yJxa1e45_init_da8c8 cJxa1e45_init_da8c8 1 none 0 := ⟨(om_wsL_law0_r4 _ (List.mem_of_getElem? (i := 3) rfl)), (om_wsL_law0_r4 _ (List.mem_of_getElem? (i := 4) rfl)), by decide +kernel, by decide +kernel, by decide +kernel, by decide⟩
theorem cw_X6_init : CW yX6_init cX6_init 1 none 0 := ⟨(om_wsL_law0_r3 _ (List.mem_of_getElem? (i := 0) rfl)), (om_wsL_law0_r4 _ (List.mem_of_getElem? (i := 8) rfl)), by decide +kernel, by decide +kernel, by decide +kernel, by decide⟩
theorem cw_X7_init : CW yX7_init cX7_init 1 none 0 := ⟨(om_wsL_law0_r1 _ (List.mem_of_getElem? (i := 23) rfl)), (om_wsL_law0_r4 _ (List.mem_of_getElem? (i := 18) rfl)), by decide +kernel, by decide +kernel, by decide +kernel, by decide⟩
theorem cw_X9_init : CW yX9_init cX9_init 1 none 0 := ⟨(om_wsL_law0_r1 _ (List.mem_of_getElem? (i := 5) rfl)), (om_wsL_law0_r5 _ (List.mem_of_getElem? (i := 2) rfl)), by decide +kernel, by decide +kernel, by decide +kernel, by decide⟩
theorem cw_X8_feed : CW yX8_feed cX8_feed 6 (some .int) 5 := ⟨(om_wsL_law0_r1 _ (List.mem_of_getElem? (i := 2) rfl)), (om_wsL_law0_r6 _ (List.mem_of_getElem? (i := 0) rfl)), by decide +kernel, by decide +kernel, by decide +kernel, by decide⟩
theorem cw_X4_addNumber : CW yX4_addNumber cX4_addNumber 3 none 1 := ⟨(om_wsL_law0_r1 _ (List.mem_of_getElem? (i := 15) rfl)), (om_wsL_law0_r6 _ (List.mem_of_getElem? (i := 5) rfl)), by decide +kernel, by decide +kernel, by decide +kernel, by decide⟩
theorem cw_X9_feed : CW yX9_feed cX9_feed 7 (some .int) 5 := ⟨(om_wsL_law0_r1 _ (List.mem_of_getElem? (i := 5) rfl)), (om_wsL_law0_r6 _ (List.mem_of_getElem? (i := 9) rfl)), by decide +kernel, by decide +kernel, by decide +kernel, by decide⟩
theorem cw_X8_end : CW yX8_end cX8_end 2 (some .boolean) 1 := ⟨(om_wsL_law0_r1 _ (List.mem_of_getElem? (i := 2) rfl)), (om_wsL_law0_r6 _ (List.mem_of_getElem? (i := 15) rfl)), by decide +kernel, by decide +kernel, by decide +kernel, by decide⟩
theorem cw_X4_cut : CW yX4_cut cX4_cut 2 (some .boolean) 1 := ⟨(om_wsL_law0_r1 _ (List.mem_of_getElem? (i := 15) rfl)), (om_wsL_law0_r6 _ (List.mem_of_getElem? (i := 19) rfl)), by decide +kernel, by decide +kernel, by decide +kernel, by decide⟩
theorem cw_X9_end : CW yX9_end cX9_end 2 (some .boolean) 1 := ⟨(om_wsL_law0_r1 _ (List.mem_of_getElem? (i := 5) rfl)), (om_wsL_law0_r6 _ (List.mem_of_getElem? (i := 23) rfl)), by decide +kernel, by decide +kernel, by decide +kernel, by decide⟩
theorem cw_X8_letter : CW yX8_letter cX8_letter 2 (some .int) 0 := ⟨(om_wsL_law0_r1 _ (List.mem_of_getElem? (i := 2) rfl)), (om_wsL_law0_r7 _ (List.mem_of_getElem? (i := 8) rfl)), by decide +kernel, by decide +kernel, by decide +kernel, by decide⟩
theorem cw_X2_read : CW yX2_read cX2_read 4 (some .boolean) 1 := ⟨(om_wsL_law0_r1 _ (List.mem_of_getElem? (i := 19) rfl)), (om_wsL_law0_r7 _ (List.mem_of_getElem? (i := 15) rfl)), by decide +kernel, by decide +kernel, by decide +kernel, by decide⟩
theorem cw_X1_clear : CW yX1_clear cX1_clear 1 none 0 := ⟨(om_wsL_law0_r2 _ (List.mem_of_getElem? (i := 3) rfl)), (om_wsL_law0_r7 _ (List.mem_of_getElem? (i := 19) rfl)), by decide +kernel, by decide +kernel, by decide +kernel, by decide⟩
theorem cw_Jx4a65c_clear_da8c8 : CW yJx4a65c_clear_da8c8 cJx4a65c_clear_da8c8 4 none 0 := ⟨(om_wsL_law0_r3 _ (List.mem_of_getElem? (i := 13) rfl)), (om_wsL_law0_r7 _ (List.mem_of_getElem? (i := 23) rfl)), by decide +kernel, by decide +kernel, by decide +kernel, by decide⟩
theorem cw_X6_split : CW yX6_split cX6_split 6 none 1 := ⟨(om_wsL_law0_r3 _ (List.mem_of_getElem? (i := 0) rfl)), (om_wsL_law0_r8 _ (List.mem_of_getElem? (i := 6) rfl)), by decide +kernel, by decide +kernel, by decide +kernel, by decide⟩
theorem cw_X4_at : CW yX4_at cX4_at 2 (some .int) 1 := ⟨(om_wsL_law0_r1 _ (List.mem_of_getElem? (i := 15) rfl)), (om_wsL_law0_r8 _ (List.mem_of_getElem? (i := 11) rfl)), by decide +kernel, by decide +kernel, by decide +kernel, by decide⟩
theorem cw_X6_isLetter : CW yX6_isLetter cX6_isLetter 1 (some .boolean) 1 := ⟨(om_wsL_law0_r3 _ (List.mem_of_getElem? (i := 0) rfl)), (om_wsL_law0_r8 _ (List.mem_of_getElem? (i := 14) rfl)), by decide +kernel, by decide +kernel, by decide +kernel, by decide⟩
theorem cw_X6_wordEnd : CW yX6_wordEnd cX6_wordEnd 3 (some .int) 2 := ⟨(om_wsL_law0_r3 _ (List.mem_of_getElem? (i := 0) rfl)), (om_wsL_law0_r8 _ (List.mem_of_getElem? (i := 17) rfl)), by decide +kernel, by decide +kernel, by decide +kernel, by decide⟩
theorem cw_X6_wordIn : CW yX6_wordIn cX6_wordIn 4 (some .int) 3 := ⟨(om_wsL_law0_r3 _ (List.mem_of_getElem? (i := 0) rfl)), (om_wsL_law0_r8 _ (List.mem_of_getElem? (i := 20) rfl)), by decide +kernel, by decide +kernel, by decide +kernel, by decide⟩
theorem cw_X5_text : CW yX5_text cX5_text 1 (some (.object "java/lang/String")) 1 := ⟨(om_wsL_law0_r8 _ (List.mem_of_getElem? (i := 23) rfl)), (om_wsL_law0_r9 _ (List.mem_of_getElem? (i := 0) rfl)), by decide +kernel, by decide +kernel, by decide +kernel, by decide⟩
theorem cw_X6_stands : CW yX6_stands cX6_stands 5 (some .boolean) 4 := ⟨(om_wsL_law0_r3 _ (List.mem_of_getElem? (i := 0) rfl)), (om_wsL_law0_r9 _ (List.mem_of_getElem? (i := 3) rfl)), by decide +kernel, by decide +kernel, by decide +kernel, by decide⟩
theorem cw_J0_length_8abf5 : CW yJ0_length_8abf5 cJ0_length_8abf5 1 (some .int) 0 := ⟨(om_wsL_law0_r9 _ (List.mem_of_getElem? (i := 7) rfl)), (om_wsL_law0_r9 _ (List.mem_of_getElem? (i := 8) rfl)), by decide +kernel, by decide +kernel, by decide +kernel, by decide⟩
theorem cw_J0_coder_7d493 : CW yJ0_coder_7d493 cJ0_coder_7d493 1 (some .byte) 0 := ⟨(om_wsL_law0_r9 _ (List.mem_of_getElem? (i := 7) rfl)), (om_wsL_law0_r9 _ (List.mem_of_getElem? (i := 13) rfl)), by decide +kernel, by decide +kernel, by decide +kernel, by decide⟩
theorem cw_J0_charAt_5068e : CW yJ0_charAt_5068e cJ0_charAt_5068e 2 (some .char) 1 := ⟨(om_wsL_law0_r9 _ (List.mem_of_getElem? (i := 7) rfl)), (om_wsL_law0_r9 _ (List.mem_of_getElem? (i := 19) rfl)), by decide +kernel, by decide +kernel, by decide +kernel, by decide⟩
theorem cw_J0_isLatin1_aae02 : CW yJ0_isLatin1_aae02 cJ0_isLatin1_aae02 1 (some .boolean) 0 := ⟨(om_wsL_law0_r9 _ (List.mem_of_getElem? (i := 7) rfl)), (om_wsL_law0_r9 _ (List.mem_of_getElem? (i := 23) rfl)), by decide +kernel, by decide +kernel, by decide +kernel, by decide⟩
theorem cw_J1_charAt_3b067 : CW yJ1_charAt_3b067 cJ1_charAt_3b067 2 (some .char) 2 := ⟨(om_wsL_law0_r10 _ (List.mem_of_getElem? (i := 2) rfl)), (om_wsL_law0_r10 _ (List.mem_of_getElem? (i := 3) rfl)), by decide +kernel, by decide +kernel, by decide +kernel, by decide⟩
theorem cw_J0_checkIndex_df160 : CW yJ0_checkIndex_df160 cJ0_checkIndex_df160 2 none 2 := ⟨(om_wsL_law0_r9 _ (List.mem_of_getElem? (i := 7) rfl)), (om_wsL_law0_r10 _ (List.mem_of_getElem? (i := 6) rfl)), by decide +kernel, by decide +kernel, by decide +kernel, by decide⟩
theorem cw_J3_checkIndex_8e157 : CW yJ3_checkIndex_8e157 cJ3_checkIndex_8e157 3 (some .int) 3 := ⟨(om_wsL_law0_r10 _ (List.mem_of_getElem? (i := 10) rfl)), (om_wsL_law0_r10 _ (List.mem_of_getElem? (i := 11) rfl)), by decide +kernel, by decide +kernel, by decide +kernel, by decide⟩
theorem cw_J2_charAt_3b067 : CW yJ2_charAt_3b067 cJ2_charAt_3b067 2 (some .char) 2 := ⟨(om_wsL_law0_r10 _ (List.mem_of_getElem? (i := 14) rfl)), (om_wsL_law0_r10 _ (List.mem_of_getElem? (i := 15) rfl)), by decide +kernel, by decide +kernel, by decide +kernel, by decide⟩
theorem cw_J2_checkIndex_2214a : CW yJ2_checkIndex_2214a cJ2_checkIndex_2214a 2 none 2 := ⟨(om_wsL_law0_r10 _ (List.mem_of_getElem? (i := 14) rfl)), (om_wsL_law0_r10 _ (List.mem_of_getElem? (i := 18) rfl)), by decide +kernel, by decide +kernel, by decide +kernel, by decide⟩
theorem cw_J2_length_9d52b : CW yJ2_length_9d52b cJ2_length_9d52b 1 (some .int) 1 := ⟨(om_wsL_law0_r10 _ (List.mem_of_getElem? (i := 14) rfl)), (om_wsL_law0_r10 _ (List.mem_of_getElem? (i := 21) rfl)), by decide +kernel, by decide +kernel, by decide +kernel, by decide⟩
theorem cw_J2_getChar_3b067 : CW yJ2_getChar_3b067 cJ2_getChar_3b067 2 (some .char) 2 := ⟨(om_wsL_law0_r10 _ (List.mem_of_getElem? (i := 14) rfl)), (om_wsL_law0_r11 _ (List.mem_of_getElem? (i := 1) rfl)), by decide +kernel, by decide +kernel, by decide +kernel, by decide⟩
theorem cw_X6_add : CW yX6_add cX6_add 4 none 3 := ⟨(om_wsL_law0_r3 _ (List.mem_of_getElem? (i := 0) rfl)), (om_wsL_law0_r11 _ (List.mem_of_getElem? (i := 8) rfl)), by decide +kernel, by decide +kernel, by decide +kernel, by decide⟩
theorem cw_X6_isDigit : CW yX6_isDigit cX6_isDigit 1 (some .boolean) 1 := ⟨(om_wsL_law0_r3 _ (List.mem_of_getElem? (i := 0) rfl)), (om_wsL_law0_r11 _ (List.mem_of_getElem? (i := 11) rfl)), by decide +kernel, by decide +kernel, by decide +kernel, by decide⟩
theorem cw_X6_numberEnd : CW yX6_numberEnd cX6_numberEnd 3 (some .int) 2 := ⟨(om_wsL_law0_r3 _ (List.mem_of_getElem? (i := 0) rfl)), (om_wsL_law0_r11 _ (List.mem_of_getElem? (i := 14) rfl)), by decide +kernel, by decide +kernel, by decide +kernel, by decide⟩
theorem cw_X6_numberIn : CW yX6_numberIn cX6_numberIn 5 (some .int) 3 := ⟨(om_wsL_law0_r3 _ (List.mem_of_getElem? (i := 0) rfl)), (om_wsL_law0_r11 _ (List.mem_of_getElem? (i := 17) rfl)), by decide +kernel, by decide +kernel, by decide +kernel, by decide⟩
theorem cw_X5_sign : CW yX5_sign cX5_sign 1 (some .int) 1 := ⟨(om_wsL_law0_r8 _ (List.mem_of_getElem? (i := 23) rfl)), (om_wsL_law0_r11 _ (List.mem_of_getElem? (i := 20) rfl)), by decide +kernel, by decide +kernel, by decide +kernel, by decide⟩
theorem cw_X2_readSentence : CW yX2_readSentence cX2_readSentence 5 (some .boolean) 0 := ⟨(om_wsL_law0_r1 _ (List.mem_of_getElem? (i := 19) rfl)), (om_wsL_law0_r12 _ (List.mem_of_getElem? (i := 0) rfl)), by decide +kernel, by decide +kernel, by decide +kernel, by decide⟩
theorem cw_X6_take : CW yX6_take cX6_take 3 (some .boolean) 1 := ⟨(om_wsL_law0_r3 _ (List.mem_of_getElem? (i := 0) rfl)), (om_wsL_law0_r12 _ (List.mem_of_getElem? (i := 7) rfl)), by decide +kernel, by decide +kernel, by decide +kernel, by decide⟩
theorem cw_X2_readCond : CW yX2_readCond cX2_readCond 4 (some (.object "PlainWords$Cond")) 1 := ⟨(om_wsL_law0_r1 _ (List.mem_of_getElem? (i := 19) rfl)), (om_wsL_law0_r12 _ (List.mem_of_getElem? (i := 11) rfl)), by decide +kernel, by decide +kernel, by decide +kernel, by decide⟩
theorem cw_X0_joined : CW yX0_joined cX0_joined 7 (some (.object "PlainWords$Cond")) 3 := ⟨(om_wsL_law0_r12 _ (List.mem_of_getElem? (i := 17) rfl)), (om_wsL_law0_r12 _ (List.mem_of_getElem? (i := 18) rfl)), by decide +kernel, by decide +kernel, by decide +kernel, by decide⟩
theorem cw_X0_rowOf : CW yX0_rowOf cX0_rowOf 3 (some (.array (.object "PlainWords$Cond"))) 1 := ⟨(om_wsL_law0_r12 _ (List.mem_of_getElem? (i := 17) rfl)), (om_wsL_law0_r13 _ (List.mem_of_getElem? (i := 0) rfl)), by decide +kernel, by decide +kernel, by decide +kernel, by decide⟩
theorem cw_X0_init_ : CW yX0_init_ cX0_init_ 14 none 2 := ⟨(om_wsL_law0_r12 _ (List.mem_of_getElem? (i := 17) rfl)), (om_wsL_law0_r13 _ (List.mem_of_getElem? (i := 5) rfl)), by decide +kernel, by decide +kernel, by decide +kernel, by decide⟩
theorem cw_X2_readAll : CW yX2_readAll cX2_readAll 4 (some (.object "PlainWords$Cond")) 1 := ⟨(om_wsL_law0_r1 _ (List.mem_of_getElem? (i := 19) rfl)), (om_wsL_law0_r13 _ (List.mem_of_getElem? (i := 13) rfl)), by decide +kernel, by decide +kernel, by decide +kernel, by decide⟩
theorem cw_X2_readItem : CW yX2_readItem cX2_readItem 3 (some (.object "PlainWords$Cond")) 1 := ⟨(om_wsL_law0_r1 _ (List.mem_of_getElem? (i := 19) rfl)), (om_wsL_law0_r13 _ (List.mem_of_getElem? (i := 17) rfl)), by decide +kernel, by decide +kernel, by decide +kernel, by decide⟩
theorem cw_X6_takeNumber : CW yX6_takeNumber cX6_takeNumber 4 (some .int) 2 := ⟨(om_wsL_law0_r3 _ (List.mem_of_getElem? (i := 0) rfl)), (om_wsL_law0_r13 _ (List.mem_of_getElem? (i := 21) rfl)), by decide +kernel, by decide +kernel, by decide +kernel, by decide⟩
theorem cw_X6_value : CW yX6_value cX6_value 1 (some .int) 0 := ⟨(om_wsL_law0_r3 _ (List.mem_of_getElem? (i := 0) rfl)), (om_wsL_law0_r14 _ (List.mem_of_getElem? (i := 1) rfl)), by decide +kernel, by decide +kernel, by decide +kernel, by decide⟩
theorem cw_X0_ofCase : CW yX0_ofCase cX0_ofCase 1 (some (.object "PlainWords$Cond")) 1 := ⟨(om_wsL_law0_r12 _ (List.mem_of_getElem? (i := 17) rfl)), (om_wsL_law0_r14 _ (List.mem_of_getElem? (i := 4) rfl)), by decide +kernel, by decide +kernel, by decide +kernel, by decide⟩
theorem cw_X0_init : CW yX0_init cX0_init 2 none 1 := ⟨(om_wsL_law0_r12 _ (List.mem_of_getElem? (i := 17) rfl)), (om_wsL_law0_r14 _ (List.mem_of_getElem? (i := 7) rfl)), by decide +kernel, by decide +kernel, by decide +kernel, by decide⟩
theorem cw_X0_negated : CW yX0_negated cX0_negated 2 (some (.object "PlainWords$Cond")) 1 := ⟨(om_wsL_law0_r12 _ (List.mem_of_getElem? (i := 17) rfl)), (om_wsL_law0_r14 _ (List.mem_of_getElem? (i := 11) rfl)), by decide +kernel, by decide +kernel, by decide +kernel, by decide⟩
theorem cw_X6_sees : CW yX6_sees cX6_sees 2 (some .boolean) 1 := ⟨(om_wsL_law0_r3 _ (List.mem_of_getElem? (i := 0) rfl)), (om_wsL_law0_r14 _ (List.mem_of_getElem? (i := 15) rfl)), by decide +kernel, by decide +kernel, by decide +kernel, by decide⟩
theorem cw_X2_readPassive : CW yX2_readPassive cX2_readPassive 1 (some .boolean) 0 := ⟨(om_wsL_law0_r1 _ (List.mem_of_getElem? (i := 19) rfl)), (om_wsL_law0_r14 _ (List.mem_of_getElem? (i := 19) rfl)), by decide +kernel, by decide +kernel, by decide +kernel, by decide⟩
theorem cw_X2_readActs : CW yX2_readActs cX2_readActs 3 (some .boolean) 0 := ⟨(om_wsL_law0_r1 _ (List.mem_of_getElem? (i := 19) rfl)), (om_wsL_law0_r14 _ (List.mem_of_getElem? (i := 23) rfl)), by decide +kernel, by decide +kernel, by decide +kernel, by decide⟩
theorem cw_X2_readAct : CW yX2_readAct cX2_readAct 2 (some .boolean) 0 := ⟨(om_wsL_law0_r1 _ (List.mem_of_getElem? (i := 19) rfl)), (om_wsL_law0_r15 _ (List.mem_of_getElem? (i := 3) rfl)), by decide +kernel, by decide +kernel, by decide +kernel, by decide⟩
theorem cw_X2_isTold : CW yX2_isTold cX2_isTold 3 (some .boolean) 1 := ⟨(om_wsL_law0_r1 _ (List.mem_of_getElem? (i := 19) rfl)), (om_wsL_law0_r15 _ (List.mem_of_getElem? (i := 8) rfl)), by decide +kernel, by decide +kernel, by decide +kernel, by decide⟩
theorem cw_X2_readMode : CW yX2_readMode cX2_readMode 1 (some .boolean) 0 := ⟨(om_wsL_law0_r1 _ (List.mem_of_getElem? (i := 19) rfl)), (om_wsL_law0_r15 _ (List.mem_of_getElem? (i := 12) rfl)), by decide +kernel, by decide +kernel, by decide +kernel, by decide⟩
theorem cw_X2_readWho : CW yX2_readWho cX2_readWho 1 (some .boolean) 0 := ⟨(om_wsL_law0_r1 _ (List.mem_of_getElem? (i := 19) rfl)), (om_wsL_law0_r15 _ (List.mem_of_getElem? (i := 16) rfl)), by decide +kernel, by decide +kernel, by decide +kernel, by decide⟩
theorem cw_X2_readActive : CW yX2_readActive cX2_readActive 1 (some .boolean) 0 := ⟨(om_wsL_law0_r1 _ (List.mem_of_getElem? (i := 19) rfl)), (om_wsL_law0_r15 _ (List.mem_of_getElem? (i := 20) rfl)), by decide +kernel, by decide +kernel, by decide +kernel, by decide⟩
theorem cw_X2_actsTold : CW yX2_actsTold cX2_actsTold 2 (some (.array .int)) 0 := ⟨(om_wsL_law0_r1 _ (List.mem_of_getElem? (i := 19) rfl)), (om_wsL_law0_r16 _ (List.mem_of_getElem? (i := 0) rfl)), by decide +kernel, by decide +kernel, by decide +kernel, by decide⟩
theorem cw_X3_init : CW yX3_init cX3_init 8 none 7 := ⟨(om_wsL_law0_r12 _ (List.mem_of_getElem? (i := 3) rfl)), (om_wsL_law0_r16 _ (List.mem_of_getElem? (i := 14) rfl)), by decide +kernel, by decide +kernel, by decide +kernel, by decide⟩
theorem cw_X1_add : CW yX1_add cX1_add 2 none 1 := ⟨(om_wsL_law0_r2 _ (List.mem_of_getElem? (i := 3) rfl)), (om_wsL_law0_r17 _ (List.mem_of_getElem? (i := 2) rfl)), by decide +kernel, by decide +kernel, by decide +kernel, by decide⟩
theorem cw_Jx4a65c_size_8abf5 : CW yJx4a65c_size_8abf5 cJx4a65c_size_8abf5 1 (some .int) 0 := ⟨(om_wsL_law0_r3 _ (List.mem_of_getElem? (i := 13) rfl)), (om_wsL_law0_r17 _ (List.mem_of_getElem? (i := 6) rfl)), by decide +kernel, by decide +kernel, by decide +kernel, by decide⟩
theorem cw_Jx4a65c_add_9ea2d : CW yJx4a65c_add_9ea2d cJx4a65c_add_9ea2d 2 (some .boolean) 1 := ⟨(om_wsL_law0_r3 _ (List.mem_of_getElem? (i := 13) rfl)), (om_wsL_law0_r17 _ (List.mem_of_getElem? (i := 10) rfl)), by decide +kernel, by decide +kernel, by decide +kernel, by decide⟩
theorem cw_Jx4a65c_add_72be8 : CW yJx4a65c_add_72be8 cJx4a65c_add_72be8 4 none 3 := ⟨(om_wsL_law0_r3 _ (List.mem_of_getElem? (i := 13) rfl)), (om_wsL_law0_r17 _ (List.mem_of_getElem? (i := 14) rfl)), by decide +kernel, by decide +kernel, by decide +kernel, by decide⟩
theorem cw_Jx4a65c_grow_d5877 : CW yJx4a65c_grow_d5877 cJx4a65c_grow_d5877 1 (some (.array (.object "java/lang/Object"))) 0 := ⟨(om_wsL_law0_r3 _ (List.mem_of_getElem? (i := 13) rfl)), (om_wsL_law0_r17 _ (List.mem_of_getElem? (i := 18) rfl)), by decide +kernel, by decide +kernel, by decide +kernel, by decide⟩
theorem cw_Jx4a65c_grow_92f84 : CW yJx4a65c_grow_92f84 cJx4a65c_grow_92f84 4 (some (.array (.object "java/lang/Object"))) 1 := ⟨(om_wsL_law0_r3 _ (List.mem_of_getElem? (i := 13) rfl)), (om_wsL_law0_r17 _ (List.mem_of_getElem? (i := 22) rfl)), by decide +kernel, by decide +kernel, by decide +kernel, by decide⟩
theorem cw_J8_newLength_cabcc : CW yJ8_newLength_cabcc cJ8_newLength_cabcc 4 (some .int) 3 := ⟨(om_wsL_law0_r18 _ (List.mem_of_getElem? (i := 3) rfl)), (om_wsL_law0_r18 _ (List.mem_of_getElem? (i := 4) rfl)), by decide +kernel, by decide +kernel, by decide +kernel, by decide⟩
theorem cw_J8_hugeLength_7cf53 : CW yJ8_hugeLength_7cf53 cJ8_hugeLength_7cf53 3 (some .int) 2 := ⟨(om_wsL_law0_r18 _ (List.mem_of_getElem? (i := 3) rfl)), (om_wsL_law0_r18 _ (List.mem_of_getElem? (i := 9) rfl)), by decide +kernel, by decide +kernel, by decide +kernel, by decide⟩
theorem cw_J7_copyOf_1904c : CW yJ7_copyOf_1904c cJ7_copyOf_1904c 2 (some (.array (.object "java/lang/Object"))) 2 := ⟨(om_wsL_law0_r18 _ (List.mem_of_getElem? (i := 12) rfl)), (om_wsL_law0_r18 _ (List.mem_of_getElem? (i := 13) rfl)), by decide +kernel, by decide +kernel, by decide +kernel, by decide⟩
theorem cw_J7_copyOf_6403c : CW yJ7_copyOf_6403c cJ7_copyOf_6403c 4 (some (.array (.object "java/lang/Object"))) 3 := ⟨(om_wsL_law0_r18 _ (List.mem_of_getElem? (i := 12) rfl)), (om_wsL_law0_r18 _ (List.mem_of_getElem? (i := 20) rfl)), by decide +kernel, by decide +kernel, by decide +kernel, by decide⟩
theorem cw_X2_stoppedAt : CW yX2_stoppedAt cX2_stoppedAt 1 (some .int) 0 := ⟨(om_wsL_law0_r1 _ (List.mem_of_getElem? (i := 19) rfl)), (om_wsL_law0_r19 _ (List.mem_of_getElem? (i := 4) rfl)), by decide +kernel, by decide +kernel, by decide +kernel, by decide⟩
theorem cw_X6_begin : CW yX6_begin cX6_begin 1 (some .int) 0 := ⟨(om_wsL_law0_r3 _ (List.mem_of_getElem? (i := 0) rfl)), (om_wsL_law0_r19 _ (List.mem_of_getElem? (i := 8) rfl)), by decide +kernel, by decide +kernel, by decide +kernel, by decide⟩
theorem cw_X1_become : CW yX1_become cX1_become 3 none 1 := ⟨(om_wsL_law0_r2 _ (List.mem_of_getElem? (i := 3) rfl)), (om_wsL_law0_r19 _ (List.mem_of_getElem? (i := 12) rfl)), by decide +kernel, by decide +kernel, by decide +kernel, by decide⟩
theorem cw_X1_size : CW yX1_size cX1_size 1 (some .int) 0 := ⟨(om_wsL_law0_r2 _ (List.mem_of_getElem? (i := 3) rfl)), (om_wsL_law0_r19 _ (List.mem_of_getElem? (i := 16) rfl)), by decide +kernel, by decide +kernel, by decide +kernel, by decide⟩
theorem cw_X1_at : CW yX1_at cX1_at 2 (some (.object "PlainWords$Sentence")) 1 := ⟨(om_wsL_law0_r2 _ (List.mem_of_getElem? (i := 3) rfl)), (om_wsL_law0_r19 _ (List.mem_of_getElem? (i := 20) rfl)), by decide +kernel, by decide +kernel, by decide +kernel, by decide⟩
theorem cw_Jx4a65c_get_915e3 : CW yJx4a65c_get_915e3 cJx4a65c_get_915e3 2 (some (.object "java/lang/Object")) 1 := ⟨(om_wsL_law0_r3 _ (List.mem_of_getElem? (i := 13) rfl)), (om_wsL_law0_r20 _ (List.mem_of_getElem? (i := 1) rfl)), by decide +kernel, by decide +kernel, by decide +kernel, by decide⟩
theorem cw_J15_checkIndex_7cf53 : CW yJ15_checkIndex_7cf53 cJ15_checkIndex_7cf53 2 (some .int) 2 := ⟨(om_wsL_law0_r20 _ (List.mem_of_getElem? (i := 4) rfl)), (om_wsL_law0_r20 _ (List.mem_of_getElem? (i := 5) rfl)), by decide +kernel, by decide +kernel, by decide +kernel, by decide⟩
theorem cw_Jx4a65c_elementData_915e3 : CW yJx4a65c_elementData_915e3 cJx4a65c_elementData_915e3 2 (some (.object "java/lang/Object")) 1 := ⟨(om_wsL_law0_r3 _ (List.mem_of_getElem? (i := 13) rfl)), (om_wsL_law0_r20 _ (List.mem_of_getElem? (i := 10) rfl)), by decide +kernel, by decide +kernel, by decide +kernel, by decide⟩
theorem cw_X9_letter : CW yX9_letter cX9_letter 3 (some .int) 0 := ⟨(om_wsL_law0_r1 _ (List.mem_of_getElem? (i := 5) rfl)), (om_wsL_law0_r20 _ (List.mem_of_getElem? (i := 16) rfl)), by decide +kernel, by decide +kernel, by decide +kernel, by decide⟩
theorem cw_X9_readAll : CW yX9_readAll cX9_readAll 2 (some .int) 0 := ⟨(om_wsL_law0_r1 _ (List.mem_of_getElem? (i := 5) rfl)), (om_wsL_law0_r21 _ (List.mem_of_getElem? (i := 2) rfl)), by decide +kernel, by decide +kernel, by decide +kernel, by decide⟩
theorem cw_X9_readSentence : CW yX9_readSentence cX9_readSentence 2 (some .boolean) 1 := ⟨(om_wsL_law0_r1 _ (List.mem_of_getElem? (i := 5) rfl)), (om_wsL_law0_r21 _ (List.mem_of_getElem? (i := 7) rfl)), by decide +kernel, by decide +kernel, by decide +kernel, by decide⟩
theorem cw_X9_passes : CW yX9_passes cX9_passes 2 (some .boolean) 1 := ⟨(om_wsL_law0_r1 _ (List.mem_of_getElem? (i := 5) rfl)), (om_wsL_law0_r21 _ (List.mem_of_getElem? (i := 11) rfl)), by decide +kernel, by decide +kernel, by decide +kernel, by decide⟩
theorem cw_X9_word : CW yX9_word cX9_word 1 none 0 := ⟨(om_wsL_law0_r1 _ (List.mem_of_getElem? (i := 5) rfl)), (om_wsL_law0_r21 _ (List.mem_of_getElem? (i := 15) rfl)), by decide +kernel, by decide +kernel, by decide +kernel, by decide⟩
theorem cw_X9_blanks : CW yX9_blanks cX9_blanks 1 none 0 := ⟨(om_wsL_law0_r1 _ (List.mem_of_getElem? (i := 5) rfl)), (om_wsL_law0_r21 _ (List.mem_of_getElem? (i := 19) rfl)), by decide +kernel, by decide +kernel, by decide +kernel, by decide⟩
theorem cw_X9_isAt : CW yX9_isAt cX9_isAt 3 (some .boolean) 2 := ⟨(om_wsL_law0_r1 _ (List.mem_of_getElem? (i := 5) rfl)), (om_wsL_law0_r21 _ (List.mem_of_getElem? (i := 23) rfl)), by decide +kernel, by decide +kernel, by decide +kernel, by decide⟩
theorem cw_X9_isWord : CW yX9_isWord cX9_isWord 4 (some .boolean) 1 := ⟨(om_wsL_law0_r1 _ (List.mem_of_getElem? (i := 5) rfl)), (om_wsL_law0_r22 _ (List.mem_of_getElem? (i := 3) rfl)), by decide +kernel, by decide +kernel, by decide +kernel, by decide⟩
theorem cw_X9_readInto : CW yX9_readInto cX9_readInto 3 (some .boolean) 1 := ⟨(om_wsL_law0_r1 _ (List.mem_of_getElem? (i := 5) rfl)), (om_wsL_law0_r22 _ (List.mem_of_getElem? (i := 9) rfl)), by decide +kernel, by decide +kernel, by decide +kernel, by decide⟩
theorem cw_X9_readCond : CW yX9_readCond cX9_readCond 3 (some .int) 0 := ⟨(om_wsL_law0_r1 _ (List.mem_of_getElem? (i := 5) rfl)), (om_wsL_law0_r22 _ (List.mem_of_getElem? (i := 15) rfl)), by decide +kernel, by decide +kernel, by decide +kernel, by decide⟩
theorem cw_X9_place : CW yX9_place cX9_place 2 (some .int) 1 := ⟨(om_wsL_law0_r1 _ (List.mem_of_getElem? (i := 5) rfl)), (om_wsL_law0_r22 _ (List.mem_of_getElem? (i := 22) rfl)), by decide +kernel, by decide +kernel, by decide +kernel, by decide⟩
theorem cw_X9_puts : CW yX9_puts cX9_puts 4 none 2 := ⟨(om_wsL_law0_r1 _ (List.mem_of_getElem? (i := 5) rfl)), (om_wsL_law0_r23 _ (List.mem_of_getElem? (i := 2) rfl)), by decide +kernel, by decide +kernel, by decide +kernel, by decide⟩
theorem cw_X9_readAllOf : CW yX9_readAllOf cX9_readAllOf 3 (some .int) 0 := ⟨(om_wsL_law0_r1 _ (List.mem_of_getElem? (i := 5) rfl)), (om_wsL_law0_r23 _ (List.mem_of_getElem? (i := 3) rfl)), by decide +kernel, by decide +kernel, by decide +kernel, by decide⟩
theorem cw_X9_readItem : CW yX9_readItem cX9_readItem 3 (some .int) 0 := ⟨(om_wsL_law0_r1 _ (List.mem_of_getElem? (i := 5) rfl)), (om_wsL_law0_r23 _ (List.mem_of_getElem? (i := 7) rfl)), by decide +kernel, by decide +kernel, by decide +kernel, by decide⟩
theorem cw_X9_sign : CW yX9_sign cX9_sign 2 (some .boolean) 1 := ⟨(om_wsL_law0_r1 _ (List.mem_of_getElem? (i := 5) rfl)), (om_wsL_law0_r23 _ (List.mem_of_getElem? (i := 11) rfl)), by decide +kernel, by decide +kernel, by decide +kernel, by decide⟩
theorem cw_X9_number : CW yX9_number cX9_number 4 (some .int) 2 := ⟨(om_wsL_law0_r1 _ (List.mem_of_getElem? (i := 5) rfl)), (om_wsL_law0_r23 _ (List.mem_of_getElem? (i := 15) rfl)), by decide +kernel, by decide +kernel, by decide +kernel, by decide⟩
theorem cw_X9_laysAll : CW yX9_laysAll cX9_laysAll 3 none 2 := ⟨(om_wsL_law0_r1 _ (List.mem_of_getElem? (i := 5) rfl)), (om_wsL_law0_r23 _ (List.mem_of_getElem? (i := 19) rfl)), by decide +kernel, by decide +kernel, by decide +kernel, by decide⟩
theorem cw_X9_lays : CW yX9_lays cX9_lays 3 none 2 := ⟨(om_wsL_law0_r1 _ (List.mem_of_getElem? (i := 5) rfl)), (om_wsL_law0_r24 _ (List.mem_of_getElem? (i := 0) rfl)), by decide +kernel, by decide +kernel, by decide +kernel, by decide⟩
theorem cw_X9_size : CW yX9_size cX9_size 5 (some .int) 2 := ⟨(om_wsL_law0_r1 _ (List.mem_of_getElem? (i := 5) rfl)), (om_wsL_law0_r24 _ (List.mem_of_getElem? (i := 4) rfl)), by decide +kernel, by decide +kernel, by decide +kernel, by decide⟩
theorem cw_X9_laysThose : CW yX9_laysThose cX9_laysThose 5 none 3 := ⟨(om_wsL_law0_r1 _ (List.mem_of_getElem? (i := 5) rfl)), (om_wsL_law0_r24 _ (List.mem_of_getElem? (i := 8) rfl)), by decide +kernel, by decide +kernel, by decide +kernel, by decide⟩
theorem cw_X9_readBody : CW yX9_readBody cX9_readBody 2 (some .boolean) 1 := ⟨(om_wsL_law0_r1 _ (List.mem_of_getElem? (i := 5) rfl)), (om_wsL_law0_r24 _ (List.mem_of_getElem? (i := 12) rfl)), by decide +kernel, by decide +kernel, by decide +kernel, by decide⟩
theorem cw_X9_readWho : CW yX9_readWho cX9_readWho 1 (some .int) 0 := ⟨(om_wsL_law0_r1 _ (List.mem_of_getElem? (i := 5) rfl)), (om_wsL_law0_r24 _ (List.mem_of_getElem? (i := 16) rfl)), by decide +kernel, by decide +kernel, by decide +kernel, by decide⟩
theorem cw_X9_readMode : CW yX9_readMode cX9_readMode 2 (some .boolean) 1 := ⟨(om_wsL_law0_r1 _ (List.mem_of_getElem? (i := 5) rfl)), (om_wsL_law0_r24 _ (List.mem_of_getElem? (i := 20) rfl)), by decide +kernel, by decide +kernel, by decide +kernel, by decide⟩
theorem cw_X9_readActs : CW yX9_readActs cX9_readActs 6 (some .boolean) 2 := ⟨(om_wsL_law0_r1 _ (List.mem_of_getElem? (i := 5) rfl)), (om_wsL_law0_r25 _ (List.mem_of_getElem? (i := 0) rfl)), by decide +kernel, by decide +kernel, by decide +kernel, by decide⟩
theorem cw_X9_throwsIf : CW yX9_throwsIf cX9_throwsIf 3 (some .boolean) 2 := ⟨(om_wsL_law0_r1 _ (List.mem_of_getElem? (i := 5) rfl)), (om_wsL_law0_r25 _ (List.mem_of_getElem? (i := 4) rfl)), by decide +kernel, by decide +kernel, by decide +kernel, by decide⟩
theorem cw_X9_copies : CW yX9_copies cX9_copies 5 none 2 := ⟨(om_wsL_law0_r1 _ (List.mem_of_getElem? (i := 5) rfl)), (om_wsL_law0_r25 _ (List.mem_of_getElem? (i := 8) rfl)), by decide +kernel, by decide +kernel, by decide +kernel, by decide⟩
theorem cw_X9_renews : CW yX9_renews cX9_renews 2 none 0 := ⟨(om_wsL_law0_r1 _ (List.mem_of_getElem? (i := 5) rfl)), (om_wsL_law0_r25 _ (List.mem_of_getElem? (i := 12) rfl)), by decide +kernel, by decide +kernel, by decide +kernel, by decide⟩
theorem cw_X9_thrown : CW yX9_thrown cX9_thrown 1 (some .int) 0 := ⟨(om_wsL_law0_r1 _ (List.mem_of_getElem? (i := 5) rfl)), (om_wsL_law0_r25 _ (List.mem_of_getElem? (i := 17) rfl)), by decide +kernel, by decide +kernel, by decide +kernel, by decide⟩
theorem cw_X8_fault : CW yX8_fault cX8_fault 1 (some .int) 0 := ⟨(om_wsL_law0_r1 _ (List.mem_of_getElem? (i := 2) rfl)), (om_wsL_law0_r25 _ (List.mem_of_getElem? (i := 21) rfl)), by decide +kernel, by decide +kernel, by decide +kernel, by decide⟩
theorem cw_X9_fault : CW yX9_fault cX9_fault 1 (some .int) 0 := ⟨(om_wsL_law0_r1 _ (List.mem_of_getElem? (i := 5) rfl)), (om_wsL_law0_r26 _ (List.mem_of_getElem? (i := 1) rfl)), by decide +kernel, by decide +kernel, by decide +kernel, by decide⟩
theorem cw_X8_part : CW yX8_part cX8_part 2 (some .boolean) 1 := ⟨(om_wsL_law0_r1 _ (List.mem_of_getElem? (i := 2) rfl)), (om_wsL_law0_r26 _ (List.mem_of_getElem? (i := 10) rfl)), by decide +kernel, by decide +kernel, by decide +kernel, by decide⟩
theorem cw_X8_needSentence : CW yX8_needSentence cX8_needSentence 2 none 1 := ⟨(om_wsL_law0_r1 _ (List.mem_of_getElem? (i := 2) rfl)), (om_wsL_law0_r26 _ (List.mem_of_getElem? (i := 14) rfl)), by decide +kernel, by decide +kernel, by decide +kernel, by decide⟩
theorem cw_X8_needLetter : CW yX8_needLetter cX8_needLetter 1 none 0 := ⟨(om_wsL_law0_r1 _ (List.mem_of_getElem? (i := 2) rfl)), (om_wsL_law0_r26 _ (List.mem_of_getElem? (i := 20) rfl)), by decide +kernel, by decide +kernel, by decide +kernel, by decide⟩
theorem cw_X1_partAt : CW yX1_partAt cX1_partAt 5 (some .boolean) 1 := ⟨(om_wsL_law0_r2 _ (List.mem_of_getElem? (i := 3) rfl)), (om_wsL_law0_r27 _ (List.mem_of_getElem? (i := 2) rfl)), by decide +kernel, by decide +kernel, by decide +kernel, by decide⟩
theorem cw_X3_withAct : CW yX3_withAct cX3_withAct 3 (some (.object "PlainWords$Sentence")) 1 := ⟨(om_wsL_law0_r12 _ (List.mem_of_getElem? (i := 3) rfl)), (om_wsL_law0_r27 _ (List.mem_of_getElem? (i := 7) rfl)), by decide +kernel, by decide +kernel, by decide +kernel, by decide⟩
theorem cw_X3_withActs : CW yX3_withActs cX3_withActs 2 (some (.object "PlainWords$Sentence")) 1 := ⟨(om_wsL_law0_r12 _ (List.mem_of_getElem? (i := 3) rfl)), (om_wsL_law0_r27 _ (List.mem_of_getElem? (i := 11) rfl)), by decide +kernel, by decide +kernel, by decide +kernel, by decide⟩
theorem cw_Jx4a65c_set_bcc79 : CW yJx4a65c_set_bcc79 cJx4a65c_set_bcc79 4 (some (.object "java/lang/Object")) 2 := ⟨(om_wsL_law0_r3 _ (List.mem_of_getElem? (i := 13) rfl)), (om_wsL_law0_r27 _ (List.mem_of_getElem? (i := 17) rfl)), by decide +kernel, by decide +kernel, by decide +kernel, by decide⟩
theorem cw_Jx4a65c_add_7a177 : CW yJx4a65c_add_7a177 cJx4a65c_add_7a177 5 none 2 := ⟨(om_wsL_law0_r3 _ (List.mem_of_getElem? (i := 13) rfl)), (om_wsL_law0_r27 _ (List.mem_of_getElem? (i := 21) rfl)), by decide +kernel, by decide +kernel, by decide +kernel, by decide⟩
theorem cw_Jx4a65c_rangeCheckForAdd_d00df : CW yJx4a65c_rangeCheckForAdd_d00df cJx4a65c_rangeCheckForAdd_d00df 2 none 1 := ⟨(om_wsL_law0_r3 _ (List.mem_of_getElem? (i := 13) rfl)), (om_wsL_law0_r28 _ (List.mem_of_getElem? (i := 2) rfl)), by decide +kernel, by decide +kernel, by decide +kernel, by decide⟩
theorem cw_X8_tallied : CW yX8_tallied cX8_tallied 2 (some .boolean) 1 := ⟨(om_wsL_law0_r1 _ (List.mem_of_getElem? (i := 2) rfl)), (om_wsL_law0_r28 _ (List.mem_of_getElem? (i := 6) rfl)), by decide +kernel, by decide +kernel, by decide +kernel, by decide⟩
theorem cw_X9_part : CW yX9_part cX9_part 5 (some .boolean) 1 := ⟨(om_wsL_law0_r1 _ (List.mem_of_getElem? (i := 5) rfl)), (om_wsL_law0_r28 _ (List.mem_of_getElem? (i := 10) rfl)), by decide +kernel, by decide +kernel, by decide +kernel, by decide⟩
theorem cw_X9_refuses : CW yX9_refuses cX9_refuses 2 (some .boolean) 1 := ⟨(om_wsL_law0_r1 _ (List.mem_of_getElem? (i := 5) rfl)), (om_wsL_law0_r28 _ (List.mem_of_getElem? (i := 14) rfl)), by decide +kernel, by decide +kernel, by decide +kernel, by decide⟩
theorem cw_X9_noSentence : CW yX9_noSentence cX9_noSentence 2 (some .boolean) 1 := ⟨(om_wsL_law0_r1 _ (List.mem_of_getElem? (i := 5) rfl)), (om_wsL_law0_r28 _ (List.mem_of_getElem? (i := 18) rfl)), by decide +kernel, by decide +kernel, by decide +kernel, by decide⟩
theorem cw_X9_in : CW yX9_in cX9_in 3 (some .boolean) 3 := ⟨(om_wsL_law0_r1 _ (List.mem_of_getElem? (i := 5) rfl)), (om_wsL_law0_r28 _ (List.mem_of_getElem? (i := 21) rfl)), by decide +kernel, by decide +kernel, by decide +kernel, by decide⟩
theorem cw_X8_melt : CW yX8_melt cX8_melt 2 (some .boolean) 1 := ⟨(om_wsL_law0_r1 _ (List.mem_of_getElem? (i := 2) rfl)), (om_wsL_law0_r29 _ (List.mem_of_getElem? (i := 4) rfl)), by decide +kernel, by decide +kernel, by decide +kernel, by decide⟩
theorem cw_X1_meltAt : CW yX1_meltAt cX1_meltAt 2 (some .boolean) 1 := ⟨(om_wsL_law0_r2 _ (List.mem_of_getElem? (i := 3) rfl)), (om_wsL_law0_r29 _ (List.mem_of_getElem? (i := 8) rfl)), by decide +kernel, by decide +kernel, by decide +kernel, by decide⟩
theorem cw_X3_canMelt : CW yX3_canMelt cX3_canMelt 6 (some .boolean) 1 := ⟨(om_wsL_law0_r12 _ (List.mem_of_getElem? (i := 3) rfl)), (om_wsL_law0_r29 _ (List.mem_of_getElem? (i := 12) rfl)), by decide +kernel, by decide +kernel, by decide +kernel, by decide⟩
theorem cw_X3_asksLike : CW yX3_asksLike cX3_asksLike 2 (some .boolean) 1 := ⟨(om_wsL_law0_r12 _ (List.mem_of_getElem? (i := 3) rfl)), (om_wsL_law0_r29 _ (List.mem_of_getElem? (i := 16) rfl)), by decide +kernel, by decide +kernel, by decide +kernel, by decide⟩
theorem cw_X3_names : CW yX3_names cX3_names 6 (some .boolean) 1 := ⟨(om_wsL_law0_r12 _ (List.mem_of_getElem? (i := 3) rfl)), (om_wsL_law0_r29 _ (List.mem_of_getElem? (i := 20) rfl)), by decide +kernel, by decide +kernel, by decide +kernel, by decide⟩
theorem cw_X0_alike : CW yX0_alike cX0_alike 4 (some .boolean) 3 := ⟨(om_wsL_law0_r12 _ (List.mem_of_getElem? (i := 17) rfl)), (om_wsL_law0_r29 _ (List.mem_of_getElem? (i := 22) rfl)), by decide +kernel, by decide +kernel, by decide +kernel, by decide⟩
theorem cw_X3_melted : CW yX3_melted cX3_melted 3 (some (.object "PlainWords$Sentence")) 1 := ⟨(om_wsL_law0_r12 _ (List.mem_of_getElem? (i := 3) rfl)), (om_wsL_law0_r30 _ (List.mem_of_getElem? (i := 3) rfl)), by decide +kernel, by decide +kernel, by decide +kernel, by decide⟩
theorem cw_Jx4a65c_remove_915e3 : CW yJx4a65c_remove_915e3 cJx4a65c_remove_915e3 4 (some (.object "java/lang/Object")) 1 := ⟨(om_wsL_law0_r3 _ (List.mem_of_getElem? (i := 13) rfl)), (om_wsL_law0_r30 _ (List.mem_of_getElem? (i := 8) rfl)), by decide +kernel, by decide +kernel, by decide +kernel, by decide⟩
theorem cw_Jx4a65c_fastRemove_b59b0 : CW yJx4a65c_fastRemove_b59b0 cJx4a65c_fastRemove_b59b0 4 none 2 := ⟨(om_wsL_law0_r3 _ (List.mem_of_getElem? (i := 13) rfl)), (om_wsL_law0_r30 _ (List.mem_of_getElem? (i := 12) rfl)), by decide +kernel, by decide +kernel, by decide +kernel, by decide⟩
theorem cw_X9_melt : CW yX9_melt cX9_melt 6 (some .boolean) 1 := ⟨(om_wsL_law0_r1 _ (List.mem_of_getElem? (i := 5) rfl)), (om_wsL_law0_r30 _ (List.mem_of_getElem? (i := 16) rfl)), by decide +kernel, by decide +kernel, by decide +kernel, by decide⟩
theorem cw_X9_areAlike : CW yX9_areAlike cX9_areAlike 6 (some .boolean) 2 := ⟨(om_wsL_law0_r1 _ (List.mem_of_getElem? (i := 5) rfl)), (om_wsL_law0_r30 _ (List.mem_of_getElem? (i := 20) rfl)), by decide +kernel, by decide +kernel, by decide +kernel, by decide⟩
theorem cw_X8_turn : CW yX8_turn cX8_turn 2 (some .boolean) 1 := ⟨(om_wsL_law0_r1 _ (List.mem_of_getElem? (i := 2) rfl)), (om_wsL_law0_r31 _ (List.mem_of_getElem? (i := 3) rfl)), by decide +kernel, by decide +kernel, by decide +kernel, by decide⟩
theorem cw_X1_turnAt : CW yX1_turnAt cX1_turnAt 3 (some .boolean) 1 := ⟨(om_wsL_law0_r2 _ (List.mem_of_getElem? (i := 3) rfl)), (om_wsL_law0_r31 _ (List.mem_of_getElem? (i := 7) rfl)), by decide +kernel, by decide +kernel, by decide +kernel, by decide⟩
theorem cw_X3_canTurn : CW yX3_canTurn cX3_canTurn 1 (some .boolean) 0 := ⟨(om_wsL_law0_r12 _ (List.mem_of_getElem? (i := 3) rfl)), (om_wsL_law0_r31 _ (List.mem_of_getElem? (i := 11) rfl)), by decide +kernel, by decide +kernel, by decide +kernel, by decide⟩
theorem cw_X3_turned : CW yX3_turned cX3_turned 1 (some (.object "PlainWords$Sentence")) 0 := ⟨(om_wsL_law0_r12 _ (List.mem_of_getElem? (i := 3) rfl)), (om_wsL_law0_r31 _ (List.mem_of_getElem? (i := 15) rfl)), by decide +kernel, by decide +kernel, by decide +kernel, by decide⟩
theorem cw_X9_turn : CW yX9_turn cX9_turn 2 (some .boolean) 1 := ⟨(om_wsL_law0_r1 _ (List.mem_of_getElem? (i := 5) rfl)), (om_wsL_law0_r31 _ (List.mem_of_getElem? (i := 19) rfl)), by decide +kernel, by decide +kernel, by decide +kernel, by decide⟩
theorem cw_X9_turnsRound : CW yX9_turnsRound cX9_turnsRound 2 (some .boolean) 1 := ⟨(om_wsL_law0_r1 _ (List.mem_of_getElem? (i := 5) rfl)), (om_wsL_law0_r31 _ (List.mem_of_getElem? (i := 23) rfl)), by decide +kernel, by decide +kernel, by decide +kernel, by decide⟩
theorem cw_X8_ease : CW yX8_ease cX8_ease 2 (some .boolean) 1 := ⟨(om_wsL_law0_r1 _ (List.mem_of_getElem? (i := 2) rfl)), (om_wsL_law0_r32 _ (List.mem_of_getElem? (i := 6) rfl)), by decide +kernel, by decide +kernel, by decide +kernel, by decide⟩
theorem cw_X1_easeAt : CW yX1_easeAt cX1_easeAt 3 (some .boolean) 1 := ⟨(om_wsL_law0_r2 _ (List.mem_of_getElem? (i := 3) rfl)), (om_wsL_law0_r32 _ (List.mem_of_getElem? (i := 10) rfl)), by decide +kernel, by decide +kernel, by decide +kernel, by decide⟩
theorem cw_X3_canEase : CW yX3_canEase cX3_canEase 1 (some .boolean) 0 := ⟨(om_wsL_law0_r12 _ (List.mem_of_getElem? (i := 3) rfl)), (om_wsL_law0_r32 _ (List.mem_of_getElem? (i := 14) rfl)), by decide +kernel, by decide +kernel, by decide +kernel, by decide⟩
theorem cw_X3_eased : CW yX3_eased cX3_eased 3 (some (.object "PlainWords$Sentence")) 0 := ⟨(om_wsL_law0_r12 _ (List.mem_of_getElem? (i := 3) rfl)), (om_wsL_law0_r32 _ (List.mem_of_getElem? (i := 19) rfl)), by decide +kernel, by decide +kernel, by decide +kernel, by decide⟩
theorem cw_X0_eased : CW yX0_eased cX0_eased 5 (some (.object "PlainWords$Cond")) 2 := ⟨(om_wsL_law0_r12 _ (List.mem_of_getElem? (i := 17) rfl)), (om_wsL_law0_r32 _ (List.mem_of_getElem? (i := 23) rfl)), by decide +kernel, by decide +kernel, by decide +kernel, by decide⟩
theorem cw_X9_ease : CW yX9_ease cX9_ease 2 (some .boolean) 1 := ⟨(om_wsL_law0_r1 _ (List.mem_of_getElem? (i := 5) rfl)), (om_wsL_law0_r33 _ (List.mem_of_getElem? (i := 6) rfl)), by decide +kernel, by decide +kernel, by decide +kernel, by decide⟩
theorem cw_X9_eases : CW yX9_eases cX9_eases 7 (some .boolean) 1 := ⟨(om_wsL_law0_r1 _ (List.mem_of_getElem? (i := 5) rfl)), (om_wsL_law0_r33 _ (List.mem_of_getElem? (i := 10) rfl)), by decide +kernel, by decide +kernel, by decide +kernel, by decide⟩
theorem cw_X9_notsOf : CW yX9_notsOf cX9_notsOf 5 (some .int) 1 := ⟨(om_wsL_law0_r1 _ (List.mem_of_getElem? (i := 5) rfl)), (om_wsL_law0_r33 _ (List.mem_of_getElem? (i := 14) rfl)), by decide +kernel, by decide +kernel, by decide +kernel, by decide⟩
theorem cw_X9_treeOf : CW yX9_treeOf cX9_treeOf 2 (some .int) 1 := ⟨(om_wsL_law0_r1 _ (List.mem_of_getElem? (i := 5) rfl)), (om_wsL_law0_r33 _ (List.mem_of_getElem? (i := 18) rfl)), by decide +kernel, by decide +kernel, by decide +kernel, by decide⟩
theorem cw_X9_tree : CW yX9_tree cX9_tree 6 (some .int) 1 := ⟨(om_wsL_law0_r1 _ (List.mem_of_getElem? (i := 5) rfl)), (om_wsL_law0_r33 _ (List.mem_of_getElem? (i := 23) rfl)), by decide +kernel, by decide +kernel, by decide +kernel, by decide⟩
theorem cw_X9_eased : CW yX9_eased cX9_eased 4 (some .int) 1 := ⟨(om_wsL_law0_r1 _ (List.mem_of_getElem? (i := 5) rfl)), (om_wsL_law0_r34 _ (List.mem_of_getElem? (i := 3) rfl)), by decide +kernel, by decide +kernel, by decide +kernel, by decide⟩
theorem cw_X8_plainest : CW yX8_plainest cX8_plainest 1 (some .int) 0 := ⟨(om_wsL_law0_r1 _ (List.mem_of_getElem? (i := 2) rfl)), (om_wsL_law0_r34 _ (List.mem_of_getElem? (i := 10) rfl)), by decide +kernel, by decide +kernel, by decide +kernel, by decide⟩
theorem cw_X1_becomePlainest : CW yX1_becomePlainest cX1_becomePlainest 3 none 1 := ⟨(om_wsL_law0_r2 _ (List.mem_of_getElem? (i := 3) rfl)), (om_wsL_law0_r34 _ (List.mem_of_getElem? (i := 14) rfl)), by decide +kernel, by decide +kernel, by decide +kernel, by decide⟩
theorem cw_X1_addPlainest : CW yX1_addPlainest cX1_addPlainest 12 none 1 := ⟨(om_wsL_law0_r2 _ (List.mem_of_getElem? (i := 3) rfl)), (om_wsL_law0_r34 _ (List.mem_of_getElem? (i := 18) rfl)), by decide +kernel, by decide +kernel, by decide +kernel, by decide⟩
theorem cw_X3_price : CW yX3_price cX3_price 3 (some .int) 1 := ⟨(om_wsL_law0_r12 _ (List.mem_of_getElem? (i := 3) rfl)), (om_wsL_law0_r34 _ (List.mem_of_getElem? (i := 22) rfl)), by decide +kernel, by decide +kernel, by decide +kernel, by decide⟩
theorem cw_X3_words : CW yX3_words cX3_words 3 (some .int) 1 := ⟨(om_wsL_law0_r12 _ (List.mem_of_getElem? (i := 3) rfl)), (om_wsL_law0_r35 _ (List.mem_of_getElem? (i := 3) rfl)), by decide +kernel, by decide +kernel, by decide +kernel, by decide⟩
theorem cw_X3_nots : CW yX3_nots cX3_nots 1 (some .int) 0 := ⟨(om_wsL_law0_r12 _ (List.mem_of_getElem? (i := 3) rfl)), (om_wsL_law0_r35 _ (List.mem_of_getElem? (i := 8) rfl)), by decide +kernel, by decide +kernel, by decide +kernel, by decide⟩
theorem cw_J6_bitCount_0f7a4 : CW yJ6_bitCount_0f7a4 cJ6_bitCount_0f7a4 1 (some .int) 1 := ⟨(om_wsL_law0_r35 _ (List.mem_of_getElem? (i := 12) rfl)), (om_wsL_law0_r35 _ (List.mem_of_getElem? (i := 13) rfl)), by decide +kernel, by decide +kernel, by decide +kernel, by decide⟩
theorem cw_X1_addWhole : CW yX1_addWhole cX1_addWhole 4 none 2 := ⟨(om_wsL_law0_r2 _ (List.mem_of_getElem? (i := 3) rfl)), (om_wsL_law0_r35 _ (List.mem_of_getElem? (i := 20) rfl)), by decide +kernel, by decide +kernel, by decide +kernel, by decide⟩
theorem cw_X1_price : CW yX1_price cX1_price 4 (some .int) 0 := ⟨(om_wsL_law0_r2 _ (List.mem_of_getElem? (i := 3) rfl)), (om_wsL_law0_r36 _ (List.mem_of_getElem? (i := 0) rfl)), by decide +kernel, by decide +kernel, by decide +kernel, by decide⟩
theorem cw_X9_plainest : CW yX9_plainest cX9_plainest 6 (some .int) 0 := ⟨(om_wsL_law0_r1 _ (List.mem_of_getElem? (i := 5) rfl)), (om_wsL_law0_r36 _ (List.mem_of_getElem? (i := 4) rfl)), by decide +kernel, by decide +kernel, by decide +kernel, by decide⟩
theorem cw_X9_tries : CW yX9_tries cX9_tries 5 (some .int) 2 := ⟨(om_wsL_law0_r1 _ (List.mem_of_getElem? (i := 5) rfl)), (om_wsL_law0_r36 _ (List.mem_of_getElem? (i := 9) rfl)), by decide +kernel, by decide +kernel, by decide +kernel, by decide⟩
theorem cw_X9_costOfAll : CW yX9_costOfAll cX9_costOfAll 5 (some .int) 2 := ⟨(om_wsL_law0_r1 _ (List.mem_of_getElem? (i := 5) rfl)), (om_wsL_law0_r36 _ (List.mem_of_getElem? (i := 13) rfl)), by decide +kernel, by decide +kernel, by decide +kernel, by decide⟩
theorem cw_X9_costOf : CW yX9_costOf cX9_costOf 3 (some .int) 1 := ⟨(om_wsL_law0_r1 _ (List.mem_of_getElem? (i := 5) rfl)), (om_wsL_law0_r36 _ (List.mem_of_getElem? (i := 17) rfl)), by decide +kernel, by decide +kernel, by decide +kernel, by decide⟩
theorem cw_X9_wordsOf : CW yX9_wordsOf cX9_wordsOf 2 (some .int) 1 := ⟨(om_wsL_law0_r1 _ (List.mem_of_getElem? (i := 5) rfl)), (om_wsL_law0_r36 _ (List.mem_of_getElem? (i := 21) rfl)), by decide +kernel, by decide +kernel, by decide +kernel, by decide⟩
theorem cw_X9_putSentence : CW yX9_putSentence cX9_putSentence 2 none 1 := ⟨(om_wsL_law0_r1 _ (List.mem_of_getElem? (i := 5) rfl)), (om_wsL_law0_r37 _ (List.mem_of_getElem? (i := 3) rfl)), by decide +kernel, by decide +kernel, by decide +kernel, by decide⟩
theorem cw_X9_putWord : CW yX9_putWord cX9_putWord 2 none 1 := ⟨(om_wsL_law0_r1 _ (List.mem_of_getElem? (i := 5) rfl)), (om_wsL_law0_r37 _ (List.mem_of_getElem? (i := 8) rfl)), by decide +kernel, by decide +kernel, by decide +kernel, by decide⟩
theorem cw_X9_put : CW yX9_put cX9_put 4 none 2 := ⟨(om_wsL_law0_r1 _ (List.mem_of_getElem? (i := 5) rfl)), (om_wsL_law0_r37 _ (List.mem_of_getElem? (i := 12) rfl)), by decide +kernel, by decide +kernel, by decide +kernel, by decide⟩
theorem cw_X9_putCond : CW yX9_putCond cX9_putCond 7 none 2 := ⟨(om_wsL_law0_r1 _ (List.mem_of_getElem? (i := 5) rfl)), (om_wsL_law0_r37 _ (List.mem_of_getElem? (i := 16) rfl)), by decide +kernel, by decide +kernel, by decide +kernel, by decide⟩
theorem cw_X9_putNumber : CW yX9_putNumber cX9_putNumber 3 none 1 := ⟨(om_wsL_law0_r1 _ (List.mem_of_getElem? (i := 5) rfl)), (om_wsL_law0_r37 _ (List.mem_of_getElem? (i := 20) rfl)), by decide +kernel, by decide +kernel, by decide +kernel, by decide⟩
theorem cw_X9_putOpen : CW yX9_putOpen cX9_putOpen 1 none 0 := ⟨(om_wsL_law0_r1 _ (List.mem_of_getElem? (i := 5) rfl)), (om_wsL_law0_r38 _ (List.mem_of_getElem? (i := 0) rfl)), by decide +kernel, by decide +kernel, by decide +kernel, by decide⟩
theorem cw_X9_putActs : CW yX9_putActs cX9_putActs 3 none 1 := ⟨(om_wsL_law0_r1 _ (List.mem_of_getElem? (i := 5) rfl)), (om_wsL_law0_r38 _ (List.mem_of_getElem? (i := 4) rfl)), by decide +kernel, by decide +kernel, by decide +kernel, by decide⟩
theorem cw_X9_putMode : CW yX9_putMode cX9_putMode 2 none 1 := ⟨(om_wsL_law0_r1 _ (List.mem_of_getElem? (i := 5) rfl)), (om_wsL_law0_r38 _ (List.mem_of_getElem? (i := 8) rfl)), by decide +kernel, by decide +kernel, by decide +kernel, by decide⟩
theorem cw_X9_putWho : CW yX9_putWho cX9_putWho 2 none 1 := ⟨(om_wsL_law0_r1 _ (List.mem_of_getElem? (i := 5) rfl)), (om_wsL_law0_r38 _ (List.mem_of_getElem? (i := 12) rfl)), by decide +kernel, by decide +kernel, by decide +kernel, by decide⟩
theorem cw_X9_isFewer : CW yX9_isFewer cX9_isFewer 3 (some .boolean) 2 := ⟨(om_wsL_law0_r1 _ (List.mem_of_getElem? (i := 5) rfl)), (om_wsL_law0_r38 _ (List.mem_of_getElem? (i := 15) rfl)), by decide +kernel, by decide +kernel, by decide +kernel, by decide⟩
theorem cw_X8_again : CW yX8_again cX8_again 1 none 0 := ⟨(om_wsL_law0_r1 _ (List.mem_of_getElem? (i := 2) rfl)), (om_wsL_law0_r38 _ (List.mem_of_getElem? (i := 23) rfl)), by decide +kernel, by decide +kernel, by decide +kernel, by decide⟩
theorem cw_X9_again : CW yX9_again cX9_again 1 none 0 := ⟨(om_wsL_law0_r1 _ (List.mem_of_getElem? (i := 5) rfl)), (om_wsL_law0_r39 _ (List.mem_of_getElem? (i := 3) rfl)), by decide +kernel, by decide +kernel, by decide +kernel, by decide⟩
theorem cw_X8_cost : CW yX8_cost cX8_cost 2 (some .int) 1 := ⟨(om_wsL_law0_r1 _ (List.mem_of_getElem? (i := 2) rfl)), (om_wsL_law0_r39 _ (List.mem_of_getElem? (i := 10) rfl)), by decide +kernel, by decide +kernel, by decide +kernel, by decide⟩
theorem cw_X8_chosen : CW yX8_chosen cX8_chosen 2 (some (.object "PlainWords$Letter")) 1 := ⟨(om_wsL_law0_r1 _ (List.mem_of_getElem? (i := 2) rfl)), (om_wsL_law0_r39 _ (List.mem_of_getElem? (i := 14) rfl)), by decide +kernel, by decide +kernel, by decide +kernel, by decide⟩
theorem cw_X9_cost : CW yX9_cost cX9_cost 2 (some .int) 1 := ⟨(om_wsL_law0_r1 _ (List.mem_of_getElem? (i := 5) rfl)), (om_wsL_law0_r39 _ (List.mem_of_getElem? (i := 18) rfl)), by decide +kernel, by decide +kernel, by decide +kernel, by decide⟩
theorem cw_X8_look : CW yX8_look cX8_look 3 (some .int) 2 := ⟨(om_wsL_law0_r1 _ (List.mem_of_getElem? (i := 2) rfl)), (om_wsL_law0_r40 _ (List.mem_of_getElem? (i := 2) rfl)), by decide +kernel, by decide +kernel, by decide +kernel, by decide⟩
theorem cw_X3_trait : CW yX3_trait cX3_trait 2 (some .int) 1 := ⟨(om_wsL_law0_r12 _ (List.mem_of_getElem? (i := 3) rfl)), (om_wsL_law0_r40 _ (List.mem_of_getElem? (i := 9) rfl)), by decide +kernel, by decide +kernel, by decide +kernel, by decide⟩
theorem cw_X9_look : CW yX9_look cX9_look 4 (some .int) 2 := ⟨(om_wsL_law0_r1 _ (List.mem_of_getElem? (i := 5) rfl)), (om_wsL_law0_r40 _ (List.mem_of_getElem? (i := 14) rfl)), by decide +kernel, by decide +kernel, by decide +kernel, by decide⟩
theorem cw_X8_same : CW yX8_same cX8_same 1 (some .boolean) 0 := ⟨(om_wsL_law0_r1 _ (List.mem_of_getElem? (i := 2) rfl)), (om_wsL_law0_r40 _ (List.mem_of_getElem? (i := 21) rfl)), by decide +kernel, by decide +kernel, by decide +kernel, by decide⟩
theorem cw_X1_isWithin : CW yX1_isWithin cX1_isWithin 8 (some .boolean) 1 := ⟨(om_wsL_law0_r2 _ (List.mem_of_getElem? (i := 3) rfl)), (om_wsL_law0_r41 _ (List.mem_of_getElem? (i := 1) rfl)), by decide +kernel, by decide +kernel, by decide +kernel, by decide⟩
theorem cw_X1_casesAsking : CW yX1_casesAsking cX1_casesAsking 7 (some .long) 2 := ⟨(om_wsL_law0_r2 _ (List.mem_of_getElem? (i := 3) rfl)), (om_wsL_law0_r41 _ (List.mem_of_getElem? (i := 6) rfl)), by decide +kernel, by decide +kernel, by decide +kernel, by decide⟩
theorem cw_X3_truth : CW yX3_truth cX3_truth 3 (some .long) 0 := ⟨(om_wsL_law0_r12 _ (List.mem_of_getElem? (i := 3) rfl)), (om_wsL_law0_r41 _ (List.mem_of_getElem? (i := 12) rfl)), by decide +kernel, by decide +kernel, by decide +kernel, by decide⟩
theorem cw_X9_same : CW yX9_same cX9_same 1 (some .boolean) 0 := ⟨(om_wsL_law0_r1 _ (List.mem_of_getElem? (i := 5) rfl)), (om_wsL_law0_r41 _ (List.mem_of_getElem? (i := 18) rfl)), by decide +kernel, by decide +kernel, by decide +kernel, by decide⟩
theorem cw_X9_isWithin : CW yX9_isWithin cX9_isWithin 8 (some .boolean) 4 := ⟨(om_wsL_law0_r1 _ (List.mem_of_getElem? (i := 5) rfl)), (om_wsL_law0_r41 _ (List.mem_of_getElem? (i := 22) rfl)), by decide +kernel, by decide +kernel, by decide +kernel, by decide⟩
theorem cw_X9_counts : CW yX9_counts cX9_counts 3 (some .boolean) 2 := ⟨(om_wsL_law0_r1 _ (List.mem_of_getElem? (i := 5) rfl)), (om_wsL_law0_r42 _ (List.mem_of_getElem? (i := 2) rfl)), by decide +kernel, by decide +kernel, by decide +kernel, by decide⟩
theorem cw_X9_isSo : CW yX9_isSo cX9_isSo 9 (some .boolean) 2 := ⟨(om_wsL_law0_r1 _ (List.mem_of_getElem? (i := 5) rfl)), (om_wsL_law0_r42 _ (List.mem_of_getElem? (i := 6) rfl)), by decide +kernel, by decide +kernel, by decide +kernel, by decide⟩
theorem cw_X9_asks : CW yX9_asks cX9_asks 9 (some .boolean) 7 := ⟨(om_wsL_law0_r1 _ (List.mem_of_getElem? (i := 5) rfl)), (om_wsL_law0_r42 _ (List.mem_of_getElem? (i := 10) rfl)), by decide +kernel, by decide +kernel, by decide +kernel, by decide⟩
theorem cw_X9_hasAct : CW yX9_hasAct cX9_hasAct 5 (some .boolean) 2 := ⟨(om_wsL_law0_r1 _ (List.mem_of_getElem? (i := 5) rfl)), (om_wsL_law0_r42 _ (List.mem_of_getElem? (i := 14) rfl)), by decide +kernel, by decide +kernel, by decide +kernel, by decide⟩
theorem cw_X8_write : CW yX8_write cX8_write 1 (some .int) 0 := ⟨(om_wsL_law0_r1 _ (List.mem_of_getElem? (i := 2) rfl)), (om_wsL_law0_r42 _ (List.mem_of_getElem? (i := 21) rfl)), by decide +kernel, by decide +kernel, by decide +kernel, by decide⟩
theorem cw_X7_writeLetter : CW yX7_writeLetter cX7_writeLetter 3 none 1 := ⟨(om_wsL_law0_r1 _ (List.mem_of_getElem? (i := 23) rfl)), (om_wsL_law0_r43 _ (List.mem_of_getElem? (i := 3) rfl)), by decide +kernel, by decide +kernel, by decide +kernel, by decide⟩
theorem cw_X7_put : CW yX7_put cX7_put 2 none 1 := ⟨(om_wsL_law0_r1 _ (List.mem_of_getElem? (i := 23) rfl)), (om_wsL_law0_r43 _ (List.mem_of_getElem? (i := 8) rfl)), by decide +kernel, by decide +kernel, by decide +kernel, by decide⟩
theorem cw_X7_writeSentence : CW yX7_writeSentence cX7_writeSentence 2 none 1 := ⟨(om_wsL_law0_r1 _ (List.mem_of_getElem? (i := 23) rfl)), (om_wsL_law0_r43 _ (List.mem_of_getElem? (i := 13) rfl)), by decide +kernel, by decide +kernel, by decide +kernel, by decide⟩
theorem cw_X7_writeWord : CW yX7_writeWord cX7_writeWord 4 none 1 := ⟨(om_wsL_law0_r1 _ (List.mem_of_getElem? (i := 23) rfl)), (om_wsL_law0_r44 _ (List.mem_of_getElem? (i := 0) rfl)), by decide +kernel, by decide +kernel, by decide +kernel, by decide⟩
theorem cw_X7_blank : CW yX7_blank cX7_blank 1 none 0 := ⟨(om_wsL_law0_r1 _ (List.mem_of_getElem? (i := 23) rfl)), (om_wsL_law0_r44 _ (List.mem_of_getElem? (i := 4) rfl)), by decide +kernel, by decide +kernel, by decide +kernel, by decide⟩
theorem cw_X7_writeCond : CW yX7_writeCond cX7_writeCond 4 none 2 := ⟨(om_wsL_law0_r1 _ (List.mem_of_getElem? (i := 23) rfl)), (om_wsL_law0_r44 _ (List.mem_of_getElem? (i := 11) rfl)), by decide +kernel, by decide +kernel, by decide +kernel, by decide⟩
theorem cw_X7_writeNumber : CW yX7_writeNumber cX7_writeNumber 2 none 1 := ⟨(om_wsL_law0_r1 _ (List.mem_of_getElem? (i := 23) rfl)), (om_wsL_law0_r44 _ (List.mem_of_getElem? (i := 18) rfl)), by decide +kernel, by decide +kernel, by decide +kernel, by decide⟩
theorem cw_X7_writePiece : CW yX7_writePiece cX7_writePiece 5 none 3 := ⟨(om_wsL_law0_r1 _ (List.mem_of_getElem? (i := 23) rfl)), (om_wsL_law0_r44 _ (List.mem_of_getElem? (i := 22) rfl)), by decide +kernel, by decide +kernel, by decide +kernel, by decide⟩
theorem cw_X7_writeActs : CW yX7_writeActs cX7_writeActs 3 none 1 := ⟨(om_wsL_law0_r1 _ (List.mem_of_getElem? (i := 23) rfl)), (om_wsL_law0_r45 _ (List.mem_of_getElem? (i := 2) rfl)), by decide +kernel, by decide +kernel, by decide +kernel, by decide⟩
theorem cw_X7_writeMode : CW yX7_writeMode cX7_writeMode 2 none 1 := ⟨(om_wsL_law0_r1 _ (List.mem_of_getElem? (i := 23) rfl)), (om_wsL_law0_r45 _ (List.mem_of_getElem? (i := 6) rfl)), by decide +kernel, by decide +kernel, by decide +kernel, by decide⟩
theorem cw_X7_writeDone : CW yX7_writeDone cX7_writeDone 2 none 1 := ⟨(om_wsL_law0_r1 _ (List.mem_of_getElem? (i := 23) rfl)), (om_wsL_law0_r45 _ (List.mem_of_getElem? (i := 10) rfl)), by decide +kernel, by decide +kernel, by decide +kernel, by decide⟩
theorem cw_X4_become : CW yX4_become cX4_become 3 none 2 := ⟨(om_wsL_law0_r1 _ (List.mem_of_getElem? (i := 15) rfl)), (om_wsL_law0_r45 _ (List.mem_of_getElem? (i := 14) rfl)), by decide +kernel, by decide +kernel, by decide +kernel, by decide⟩
theorem cw_X9_write : CW yX9_write cX9_write 2 (some .int) 0 := ⟨(om_wsL_law0_r1 _ (List.mem_of_getElem? (i := 5) rfl)), (om_wsL_law0_r45 _ (List.mem_of_getElem? (i := 19) rfl)), by decide +kernel, by decide +kernel, by decide +kernel, by decide⟩
theorem cw_X8_taped : CW yX8_taped cX8_taped 2 (some .int) 1 := ⟨(om_wsL_law0_r1 _ (List.mem_of_getElem? (i := 2) rfl)), (om_wsL_law0_r45 _ (List.mem_of_getElem? (i := 23) rfl)), by decide +kernel, by decide +kernel, by decide +kernel, by decide⟩
theorem cw_X9_taped : CW yX9_taped cX9_taped 2 (some .int) 1 := ⟨(om_wsL_law0_r1 _ (List.mem_of_getElem? (i := 5) rfl)), (om_wsL_law0_r46 _ (List.mem_of_getElem? (i := 4) rfl)), by decide +kernel, by decide +kernel, by decide +kernel, by decide⟩
theorem cw_X8_ask : CW yX8_ask cX8_ask 5 (some .int) 4 := ⟨(om_wsL_law0_r1 _ (List.mem_of_getElem? (i := 2) rfl)), (om_wsL_law0_r46 _ (List.mem_of_getElem? (i := 11) rfl)), by decide +kernel, by decide +kernel, by decide +kernel, by decide⟩
theorem cw_X1_modesAsked : CW yX1_modesAsked cX1_modesAsked 7 (some .int) 3 := ⟨(om_wsL_law0_r2 _ (List.mem_of_getElem? (i := 3) rfl)), (om_wsL_law0_r46 _ (List.mem_of_getElem? (i := 15) rfl)), by decide +kernel, by decide +kernel, by decide +kernel, by decide⟩
theorem cw_X3_asks : CW yX3_asks cX3_asks 4 (some .boolean) 3 := ⟨(om_wsL_law0_r12 _ (List.mem_of_getElem? (i := 3) rfl)), (om_wsL_law0_r46 _ (List.mem_of_getElem? (i := 20) rfl)), by decide +kernel, by decide +kernel, by decide +kernel, by decide⟩
theorem cw_X9_ask : CW yX9_ask cX9_ask 8 (some .int) 4 := ⟨(om_wsL_law0_r1 _ (List.mem_of_getElem? (i := 5) rfl)), (om_wsL_law0_r47 _ (List.mem_of_getElem? (i := 1) rfl)), by decide +kernel, by decide +kernel, by decide +kernel, by decide⟩
theorem cw_X8_days : CW yX8_days cX8_days 4 (some .int) 3 := ⟨(om_wsL_law0_r1 _ (List.mem_of_getElem? (i := 2) rfl)), (om_wsL_law0_r47 _ (List.mem_of_getElem? (i := 8) rfl)), by decide +kernel, by decide +kernel, by decide +kernel, by decide⟩
theorem cw_X1_leastDays : CW yX1_leastDays cX1_leastDays 7 (some .int) 3 := ⟨(om_wsL_law0_r2 _ (List.mem_of_getElem? (i := 3) rfl)), (om_wsL_law0_r47 _ (List.mem_of_getElem? (i := 12) rfl)), by decide +kernel, by decide +kernel, by decide +kernel, by decide⟩
theorem cw_X9_days : CW yX9_days cX9_days 6 (some .int) 3 := ⟨(om_wsL_law0_r1 _ (List.mem_of_getElem? (i := 5) rfl)), (om_wsL_law0_r47 _ (List.mem_of_getElem? (i := 18) rfl)), by decide +kernel, by decide +kernel, by decide +kernel, by decide⟩
theorem cw_X8_count : CW yX8_count cX8_count 2 (some .int) 1 := ⟨(om_wsL_law0_r1 _ (List.mem_of_getElem? (i := 2) rfl)), (om_wsL_law0_r47 _ (List.mem_of_getElem? (i := 23) rfl)), by decide +kernel, by decide +kernel, by decide +kernel, by decide⟩
theorem cw_X9_count : CW yX9_count cX9_count 2 (some .int) 1 := ⟨(om_wsL_law0_r1 _ (List.mem_of_getElem? (i := 5) rfl)), (om_wsL_law0_r48 _ (List.mem_of_getElem? (i := 3) rfl)), by decide +kernel, by decide +kernel, by decide +kernel, by decide⟩
theorem ml_L_63 : Cond.methodLink RL 63 yX8_init ∈ Om := (om_wsL_law0_r1 _ (List.mem_of_getElem? (i := 7) rfl))
theorem im_X8_init : Cond.instanceMethod yX8_init ∈ Om := (om_wsL_law0_r1 _ (List.mem_of_getElem? (i := 8) rfl))
theorem ml_X8_9 : Cond.methodLink RX8 9 yX4_init ∈ Om := (om_wsL_law0_r2 _ (List.mem_of_getElem? (i := 9) rfl))
theorem im_X4_init : Cond.instanceMethod yX4_init ∈ Om := (om_wsL_law0_r2 _ (List.mem_of_getElem? (i := 10) rfl))
theorem ml_X8_18 : Cond.methodLink RX8 18 yX2_init ∈ Om := (om_wsL_law0_r2 _ (List.mem_of_getElem? (i := 16) rfl))
theorem im_X2_init : Cond.instanceMethod yX2_init ∈ Om := (om_wsL_law0_r2 _ (List.mem_of_getElem? (i := 17) rfl))
theorem ml_X2_11 : Cond.methodLink RX2 11 yX1_init ∈ Om := (om_wsL_law0_r3 _ (List.mem_of_getElem? (i := 7) rfl))
theorem im_X1_init : Cond.instanceMethod yX1_init ∈ Om := (om_wsL_law0_r3 _ (List.mem_of_getElem? (i := 8) rfl))
theorem ml_X1_11 : Cond.methodLink RX1 11 yJx4a65c_init_da8c8 ∈ Om := (om_wsL_law0_r3 _ (List.mem_of_getElem? (i := 15) rfl))
theorem im_Jx4a65c_init_da8c8 : Cond.instanceMethod yJx4a65c_init_da8c8 ∈ Om := (om_wsL_law0_r3 _ (List.mem_of_getElem? (i := 16) rfl))
theorem ml_Jx4a65c_1 : Cond.methodLink RJx4a65c 1 yJxc12de_init_da8c8 ∈ Om := (om_wsL_law0_r3 _ (List.mem_of_getElem? (i := 20) rfl))
theorem im_Jxc12de_init_da8c8 : Cond.instanceMethod yJxc12de_init_da8c8 ∈ Om := (om_wsL_law0_r3 _ (List.mem_of_getElem? (i := 21) rfl))
theorem ml_Jxc12de_1 : Cond.methodLink RJxc12de 1 yJxa1e45_init_da8c8 ∈ Om := (om_wsL_law0_r4 _ (List.mem_of_getElem? (i := 1) rfl))
theorem im_Jxa1e45_init_da8c8 : Cond.instanceMethod yJxa1e45_init_da8c8 ∈ Om := (om_wsL_law0_r4 _ (List.mem_of_getElem? (i := 2) rfl))
theorem ml_X2_20 : Cond.methodLink RX2 20 yX6_init ∈ Om := (om_wsL_law0_r4 _ (List.mem_of_getElem? (i := 6) rfl))
theorem im_X6_init : Cond.instanceMethod yX6_init ∈ Om := (om_wsL_law0_r4 _ (List.mem_of_getElem? (i := 7) rfl))
theorem ml_X8_25 : Cond.methodLink RX8 25 yX7_init ∈ Om := (om_wsL_law0_r4 _ (List.mem_of_getElem? (i := 16) rfl))
theorem im_X7_init : Cond.instanceMethod yX7_init ∈ Om := (om_wsL_law0_r4 _ (List.mem_of_getElem? (i := 17) rfl))
theorem ml_X8_32 : Cond.methodLink RX8 32 yX1_init ∈ Om := (om_wsL_law0_r4 _ (List.mem_of_getElem? (i := 23) rfl))
theorem ml_L_66 : Cond.methodLink RL 66 yX9_init ∈ Om := (om_wsL_law0_r5 _ (List.mem_of_getElem? (i := 0) rfl))
theorem im_X9_init : Cond.instanceMethod yX9_init ∈ Om := (om_wsL_law0_r5 _ (List.mem_of_getElem? (i := 1) rfl))
theorem kc_X9_32 : Cond.constant RX9 32 (84000) ∈ Om := (om_wsL_law0_r5 _ (List.mem_of_getElem? (i := 12) rfl))
theorem ml_L_67 : Cond.methodLink RL 67 yX8_feed ∈ Om := (om_wsL_law0_r5 _ (List.mem_of_getElem? (i := 21) rfl))
theorem im_X8_feed : Cond.instanceMethod yX8_feed ∈ Om := (om_wsL_law0_r5 _ (List.mem_of_getElem? (i := 22) rfl))
theorem sl_X8_feed : Cond.selects RX8 yX8_feed yX8_feed ∈ Om := (om_wsL_law0_r5 _ (List.mem_of_getElem? (i := 23) rfl))
theorem ml_X8_53 : Cond.methodLink RX8 53 yX4_addNumber ∈ Om := (om_wsL_law0_r6 _ (List.mem_of_getElem? (i := 2) rfl))
theorem im_X4_addNumber : Cond.instanceMethod yX4_addNumber ∈ Om := (om_wsL_law0_r6 _ (List.mem_of_getElem? (i := 3) rfl))
theorem sl_X4_addNumber : Cond.selects RX4 yX4_addNumber yX4_addNumber ∈ Om := (om_wsL_law0_r6 _ (List.mem_of_getElem? (i := 4) rfl))
theorem ml_L_71 : Cond.methodLink RL 71 yX9_feed ∈ Om := (om_wsL_law0_r6 _ (List.mem_of_getElem? (i := 6) rfl))
theorem im_X9_feed : Cond.instanceMethod yX9_feed ∈ Om := (om_wsL_law0_r6 _ (List.mem_of_getElem? (i := 7) rfl))
theorem sl_X9_feed : Cond.selects RX9 yX9_feed yX9_feed ∈ Om := (om_wsL_law0_r6 _ (List.mem_of_getElem? (i := 8) rfl))
theorem ml_L_72 : Cond.methodLink RL 72 yX8_end ∈ Om := (om_wsL_law0_r6 _ (List.mem_of_getElem? (i := 12) rfl))
theorem im_X8_end : Cond.instanceMethod yX8_end ∈ Om := (om_wsL_law0_r6 _ (List.mem_of_getElem? (i := 13) rfl))
theorem sl_X8_end : Cond.selects RX8 yX8_end yX8_end ∈ Om := (om_wsL_law0_r6 _ (List.mem_of_getElem? (i := 14) rfl))
theorem ml_X8_57 : Cond.methodLink RX8 57 yX4_cut ∈ Om := (om_wsL_law0_r6 _ (List.mem_of_getElem? (i := 16) rfl))
theorem im_X4_cut : Cond.instanceMethod yX4_cut ∈ Om := (om_wsL_law0_r6 _ (List.mem_of_getElem? (i := 17) rfl))
theorem sl_X4_cut : Cond.selects RX4 yX4_cut yX4_cut ∈ Om := (om_wsL_law0_r6 _ (List.mem_of_getElem? (i := 18) rfl))
theorem ml_L_75 : Cond.methodLink RL 75 yX9_end ∈ Om := (om_wsL_law0_r6 _ (List.mem_of_getElem? (i := 20) rfl))
theorem im_X9_end : Cond.instanceMethod yX9_end ∈ Om := (om_wsL_law0_r6 _ (List.mem_of_getElem? (i := 21) rfl))
theorem sl_X9_end : Cond.selects RX9 yX9_end yX9_end ∈ Om := (om_wsL_law0_r6 _ (List.mem_of_getElem? (i := 22) rfl))
theorem ml_L_76 : Cond.methodLink RL 76 yL_letter ∈ Om := (om_wsL_law0_r7 _ (List.mem_of_getElem? (i := 0) rfl))
theorem sm_L_letter : Cond.static yL_letter ∈ Om := (om_wsL_law0_r7 _ (List.mem_of_getElem? (i := 1) rfl))
theorem ml_L_7 : Cond.methodLink RL 7 yX8_letter ∈ Om := (om_wsL_law0_r7 _ (List.mem_of_getElem? (i := 5) rfl))
theorem im_X8_letter : Cond.instanceMethod yX8_letter ∈ Om := (om_wsL_law0_r7 _ (List.mem_of_getElem? (i := 6) rfl))
theorem sl_X8_letter : Cond.selects RX8 yX8_letter yX8_letter ∈ Om := (om_wsL_law0_r7 _ (List.mem_of_getElem? (i := 7) rfl))
theorem ml_X8_61 : Cond.methodLink RX8 61 yX2_read ∈ Om := (om_wsL_law0_r7 _ (List.mem_of_getElem? (i := 12) rfl))
theorem im_X2_read : Cond.instanceMethod yX2_read ∈ Om := (om_wsL_law0_r7 _ (List.mem_of_getElem? (i := 13) rfl))
theorem sl_X2_read : Cond.selects RX2 yX2_read yX2_read ∈ Om := (om_wsL_law0_r7 _ (List.mem_of_getElem? (i := 14) rfl))
theorem ml_X2_41 : Cond.methodLink RX2 41 yX1_clear ∈ Om := (om_wsL_law0_r7 _ (List.mem_of_getElem? (i := 16) rfl))
theorem im_X1_clear : Cond.instanceMethod yX1_clear ∈ Om := (om_wsL_law0_r7 _ (List.mem_of_getElem? (i := 17) rfl))
theorem sl_X1_clear : Cond.selects RX1 yX1_clear yX1_clear ∈ Om := (om_wsL_law0_r7 _ (List.mem_of_getElem? (i := 18) rfl))
theorem ml_X1_28 : Cond.methodLink RX1 28 yJx4a65c_clear_da8c8 ∈ Om := (om_wsL_law0_r7 _ (List.mem_of_getElem? (i := 20) rfl))
theorem im_Jx4a65c_clear_da8c8 : Cond.instanceMethod yJx4a65c_clear_da8c8 ∈ Om := (om_wsL_law0_r7 _ (List.mem_of_getElem? (i := 21) rfl))
theorem sl_Jx4a65c_clear_da8c8 : Cond.selects RJx4a65c yJx4a65c_clear_da8c8 yJx4a65c_clear_da8c8 ∈ Om := (om_wsL_law0_r7 _ (List.mem_of_getElem? (i := 22) rfl))
theorem ml_X2_44 : Cond.methodLink RX2 44 yX6_split ∈ Om := (om_wsL_law0_r8 _ (List.mem_of_getElem? (i := 3) rfl))
theorem im_X6_split : Cond.instanceMethod yX6_split ∈ Om := (om_wsL_law0_r8 _ (List.mem_of_getElem? (i := 4) rfl))
theorem sl_X6_split : Cond.selects RX6 yX6_split yX6_split ∈ Om := (om_wsL_law0_r8 _ (List.mem_of_getElem? (i := 5) rfl))
theorem ml_X6_40 : Cond.methodLink RX6 40 yX4_at ∈ Om := (om_wsL_law0_r8 _ (List.mem_of_getElem? (i := 8) rfl))
theorem im_X4_at : Cond.instanceMethod yX4_at ∈ Om := (om_wsL_law0_r8 _ (List.mem_of_getElem? (i := 9) rfl))
theorem sl_X4_at : Cond.selects RX4 yX4_at yX4_at ∈ Om := (om_wsL_law0_r8 _ (List.mem_of_getElem? (i := 10) rfl))
theorem ml_X6_43 : Cond.methodLink RX6 43 yX6_isLetter ∈ Om := (om_wsL_law0_r8 _ (List.mem_of_getElem? (i := 12) rfl))
theorem sm_X6_isLetter : Cond.static yX6_isLetter ∈ Om := (om_wsL_law0_r8 _ (List.mem_of_getElem? (i := 13) rfl))
theorem ml_X6_47 : Cond.methodLink RX6 47 yX6_wordEnd ∈ Om := (om_wsL_law0_r8 _ (List.mem_of_getElem? (i := 15) rfl))
theorem sm_X6_wordEnd : Cond.static yX6_wordEnd ∈ Om := (om_wsL_law0_r8 _ (List.mem_of_getElem? (i := 16) rfl))
theorem ml_X6_51 : Cond.methodLink RX6 51 yX6_wordIn ∈ Om := (om_wsL_law0_r8 _ (List.mem_of_getElem? (i := 18) rfl))
theorem sm_X6_wordIn : Cond.static yX6_wordIn ∈ Om := (om_wsL_law0_r8 _ (List.mem_of_getElem? (i := 19) rfl))
theorem ml_X6_71 : Cond.methodLink RX6 71 yX5_text ∈ Om := (om_wsL_law0_r8 _ (List.mem_of_getElem? (i := 21) rfl))
theorem sm_X5_text : Cond.static yX5_text ∈ Om := (om_wsL_law0_r8 _ (List.mem_of_getElem? (i := 22) rfl))
theorem ml_X6_75 : Cond.methodLink RX6 75 yX6_stands ∈ Om := (om_wsL_law0_r9 _ (List.mem_of_getElem? (i := 1) rfl))
theorem sm_X6_stands : Cond.static yX6_stands ∈ Om := (om_wsL_law0_r9 _ (List.mem_of_getElem? (i := 2) rfl))
theorem ml_X6_79 : Cond.methodLink RX6 79 yJ0_length_8abf5 ∈ Om := (om_wsL_law0_r9 _ (List.mem_of_getElem? (i := 4) rfl))
theorem im_J0_length_8abf5 : Cond.instanceMethod yJ0_length_8abf5 ∈ Om := (om_wsL_law0_r9 _ (List.mem_of_getElem? (i := 5) rfl))
theorem sl_J0_length_8abf5 : Cond.selects RJ0 yJ0_length_8abf5 yJ0_length_8abf5 ∈ Om := (om_wsL_law0_r9 _ (List.mem_of_getElem? (i := 6) rfl))
theorem ml_J0_335 : Cond.methodLink RJ0 335 yJ0_coder_7d493 ∈ Om := (om_wsL_law0_r9 _ (List.mem_of_getElem? (i := 10) rfl))
theorem im_J0_coder_7d493 : Cond.instanceMethod yJ0_coder_7d493 ∈ Om := (om_wsL_law0_r9 _ (List.mem_of_getElem? (i := 11) rfl))
theorem sl_J0_coder_7d493 : Cond.selects RJ0 yJ0_coder_7d493 yJ0_coder_7d493 ∈ Om := (om_wsL_law0_r9 _ (List.mem_of_getElem? (i := 12) rfl))
theorem ml_X6_84 : Cond.methodLink RX6 84 yJ0_charAt_5068e ∈ Om := (om_wsL_law0_r9 _ (List.mem_of_getElem? (i := 16) rfl))
theorem im_J0_charAt_5068e : Cond.instanceMethod yJ0_charAt_5068e ∈ Om := (om_wsL_law0_r9 _ (List.mem_of_getElem? (i := 17) rfl))
theorem sl_J0_charAt_5068e : Cond.selects RJ0 yJ0_charAt_5068e yJ0_charAt_5068e ∈ Om := (om_wsL_law0_r9 _ (List.mem_of_getElem? (i := 18) rfl))
theorem ml_J0_492 : Cond.methodLink RJ0 492 yJ0_isLatin1_aae02 ∈ Om := (om_wsL_law0_r9 _ (List.mem_of_getElem? (i := 20) rfl))
theorem im_J0_isLatin1_aae02 : Cond.instanceMethod yJ0_isLatin1_aae02 ∈ Om := (om_wsL_law0_r9 _ (List.mem_of_getElem? (i := 21) rfl))
theorem sl_J0_isLatin1_aae02 : Cond.selects RJ0 yJ0_isLatin1_aae02 yJ0_isLatin1_aae02 ∈ Om := (om_wsL_law0_r9 _ (List.mem_of_getElem? (i := 22) rfl))
theorem ml_J0_495 : Cond.methodLink RJ0 495 yJ1_charAt_3b067 ∈ Om := (om_wsL_law0_r10 _ (List.mem_of_getElem? (i := 0) rfl))
theorem sm_J1_charAt_3b067 : Cond.static yJ1_charAt_3b067 ∈ Om := (om_wsL_law0_r10 _ (List.mem_of_getElem? (i := 1) rfl))
theorem ml_J1_9 : Cond.methodLink RJ1 9 yJ0_checkIndex_df160 ∈ Om := (om_wsL_law0_r10 _ (List.mem_of_getElem? (i := 4) rfl))
theorem sm_J0_checkIndex_df160 : Cond.static yJ0_checkIndex_df160 ∈ Om := (om_wsL_law0_r10 _ (List.mem_of_getElem? (i := 5) rfl))
theorem ml_J0_1059 : Cond.methodLink RJ0 1059 yJ3_checkIndex_8e157 ∈ Om := (om_wsL_law0_r10 _ (List.mem_of_getElem? (i := 8) rfl))
theorem sm_J3_checkIndex_8e157 : Cond.static yJ3_checkIndex_8e157 ∈ Om := (om_wsL_law0_r10 _ (List.mem_of_getElem? (i := 9) rfl))
theorem ml_J0_498 : Cond.methodLink RJ0 498 yJ2_charAt_3b067 ∈ Om := (om_wsL_law0_r10 _ (List.mem_of_getElem? (i := 12) rfl))
theorem sm_J2_charAt_3b067 : Cond.static yJ2_charAt_3b067 ∈ Om := (om_wsL_law0_r10 _ (List.mem_of_getElem? (i := 13) rfl))
theorem ml_J2_67 : Cond.methodLink RJ2 67 yJ2_checkIndex_2214a ∈ Om := (om_wsL_law0_r10 _ (List.mem_of_getElem? (i := 16) rfl))
theorem sm_J2_checkIndex_2214a : Cond.static yJ2_checkIndex_2214a ∈ Om := (om_wsL_law0_r10 _ (List.mem_of_getElem? (i := 17) rfl))
theorem ml_J2_48 : Cond.methodLink RJ2 48 yJ2_length_9d52b ∈ Om := (om_wsL_law0_r10 _ (List.mem_of_getElem? (i := 19) rfl))
theorem sm_J2_length_9d52b : Cond.static yJ2_length_9d52b ∈ Om := (om_wsL_law0_r10 _ (List.mem_of_getElem? (i := 20) rfl))
theorem ml_J2_414 : Cond.methodLink RJ2 414 yJ0_checkIndex_df160 ∈ Om := (om_wsL_law0_r10 _ (List.mem_of_getElem? (i := 22) rfl))
theorem ml_J2_71 : Cond.methodLink RJ2 71 yJ2_getChar_3b067 ∈ Om := (om_wsL_law0_r10 _ (List.mem_of_getElem? (i := 23) rfl))
theorem sm_J2_getChar_3b067 : Cond.static yJ2_getChar_3b067 ∈ Om := (om_wsL_law0_r11 _ (List.mem_of_getElem? (i := 0) rfl))
theorem ml_X6_55 : Cond.methodLink RX6 55 yX6_add ∈ Om := (om_wsL_law0_r11 _ (List.mem_of_getElem? (i := 5) rfl))
theorem im_X6_add : Cond.instanceMethod yX6_add ∈ Om := (om_wsL_law0_r11 _ (List.mem_of_getElem? (i := 6) rfl))
theorem sl_X6_add : Cond.selects RX6 yX6_add yX6_add ∈ Om := (om_wsL_law0_r11 _ (List.mem_of_getElem? (i := 7) rfl))
theorem ml_X6_59 : Cond.methodLink RX6 59 yX6_isDigit ∈ Om := (om_wsL_law0_r11 _ (List.mem_of_getElem? (i := 9) rfl))
theorem sm_X6_isDigit : Cond.static yX6_isDigit ∈ Om := (om_wsL_law0_r11 _ (List.mem_of_getElem? (i := 10) rfl))
theorem ml_X6_62 : Cond.methodLink RX6 62 yX6_numberEnd ∈ Om := (om_wsL_law0_r11 _ (List.mem_of_getElem? (i := 12) rfl))
theorem sm_X6_numberEnd : Cond.static yX6_numberEnd ∈ Om := (om_wsL_law0_r11 _ (List.mem_of_getElem? (i := 13) rfl))
theorem ml_X6_65 : Cond.methodLink RX6 65 yX6_numberIn ∈ Om := (om_wsL_law0_r11 _ (List.mem_of_getElem? (i := 15) rfl))
theorem sm_X6_numberIn : Cond.static yX6_numberIn ∈ Om := (om_wsL_law0_r11 _ (List.mem_of_getElem? (i := 16) rfl))
theorem ml_X6_68 : Cond.methodLink RX6 68 yX5_sign ∈ Om := (om_wsL_law0_r11 _ (List.mem_of_getElem? (i := 18) rfl))
theorem sm_X5_sign : Cond.static yX5_sign ∈ Om := (om_wsL_law0_r11 _ (List.mem_of_getElem? (i := 19) rfl))
theorem ml_X2_48 : Cond.methodLink RX2 48 yX2_readSentence ∈ Om := (om_wsL_law0_r11 _ (List.mem_of_getElem? (i := 21) rfl))
theorem im_X2_readSentence : Cond.instanceMethod yX2_readSentence ∈ Om := (om_wsL_law0_r11 _ (List.mem_of_getElem? (i := 22) rfl))
theorem sl_X2_readSentence : Cond.selects RX2 yX2_readSentence yX2_readSentence ∈ Om := (om_wsL_law0_r11 _ (List.mem_of_getElem? (i := 23) rfl))
theorem ml_X2_54 : Cond.methodLink RX2 54 yX6_take ∈ Om := (om_wsL_law0_r12 _ (List.mem_of_getElem? (i := 4) rfl))
theorem im_X6_take : Cond.instanceMethod yX6_take ∈ Om := (om_wsL_law0_r12 _ (List.mem_of_getElem? (i := 5) rfl))
theorem sl_X6_take : Cond.selects RX6 yX6_take yX6_take ∈ Om := (om_wsL_law0_r12 _ (List.mem_of_getElem? (i := 6) rfl))
theorem ml_X2_65 : Cond.methodLink RX2 65 yX2_readCond ∈ Om := (om_wsL_law0_r12 _ (List.mem_of_getElem? (i := 8) rfl))
theorem im_X2_readCond : Cond.instanceMethod yX2_readCond ∈ Om := (om_wsL_law0_r12 _ (List.mem_of_getElem? (i := 9) rfl))
theorem sl_X2_readCond : Cond.selects RX2 yX2_readCond yX2_readCond ∈ Om := (om_wsL_law0_r12 _ (List.mem_of_getElem? (i := 10) rfl))
theorem ml_X2_122 : Cond.methodLink RX2 122 yX2_readAll ∈ Om := (om_wsL_law0_r12 _ (List.mem_of_getElem? (i := 12) rfl))
theorem im_X2_readAll : Cond.instanceMethod yX2_readAll ∈ Om := (om_wsL_law0_r12 _ (List.mem_of_getElem? (i := 13) rfl))
theorem sl_X2_readAll : Cond.selects RX2 yX2_readAll yX2_readAll ∈ Om := (om_wsL_law0_r12 _ (List.mem_of_getElem? (i := 14) rfl))
theorem ml_X2_129 : Cond.methodLink RX2 129 yX0_joined ∈ Om := (om_wsL_law0_r12 _ (List.mem_of_getElem? (i := 15) rfl))
theorem sm_X0_joined : Cond.static yX0_joined ∈ Om := (om_wsL_law0_r12 _ (List.mem_of_getElem? (i := 16) rfl))
theorem ml_X0_48 : Cond.methodLink RX0 48 yX0_rowOf ∈ Om := (om_wsL_law0_r12 _ (List.mem_of_getElem? (i := 21) rfl))
theorem im_X0_rowOf : Cond.instanceMethod yX0_rowOf ∈ Om := (om_wsL_law0_r12 _ (List.mem_of_getElem? (i := 22) rfl))
theorem sl_X0_rowOf : Cond.selects RX0 yX0_rowOf yX0_rowOf ∈ Om := (om_wsL_law0_r12 _ (List.mem_of_getElem? (i := 23) rfl))
theorem ml_X0_45 : Cond.methodLink RX0 45 yX0_init_ ∈ Om := (om_wsL_law0_r13 _ (List.mem_of_getElem? (i := 3) rfl))
theorem im_X0_init_ : Cond.instanceMethod yX0_init_ ∈ Om := (om_wsL_law0_r13 _ (List.mem_of_getElem? (i := 4) rfl))
theorem kc_X0_40 : Cond.constantLong RX0 40 (-1) ∈ Om := (om_wsL_law0_r13 _ (List.mem_of_getElem? (i := 7) rfl))
theorem ml_X2_133 : Cond.methodLink RX2 133 yX2_readItem ∈ Om := (om_wsL_law0_r13 _ (List.mem_of_getElem? (i := 14) rfl))
theorem im_X2_readItem : Cond.instanceMethod yX2_readItem ∈ Om := (om_wsL_law0_r13 _ (List.mem_of_getElem? (i := 15) rfl))
theorem sl_X2_readItem : Cond.selects RX2 yX2_readItem yX2_readItem ∈ Om := (om_wsL_law0_r13 _ (List.mem_of_getElem? (i := 16) rfl))
theorem ml_X2_75 : Cond.methodLink RX2 75 yX6_takeNumber ∈ Om := (om_wsL_law0_r13 _ (List.mem_of_getElem? (i := 18) rfl))
theorem im_X6_takeNumber : Cond.instanceMethod yX6_takeNumber ∈ Om := (om_wsL_law0_r13 _ (List.mem_of_getElem? (i := 19) rfl))
theorem sl_X6_takeNumber : Cond.selects RX6 yX6_takeNumber yX6_takeNumber ∈ Om := (om_wsL_law0_r13 _ (List.mem_of_getElem? (i := 20) rfl))
theorem ml_X6_35 : Cond.methodLink RX6 35 yX6_value ∈ Om := (om_wsL_law0_r13 _ (List.mem_of_getElem? (i := 22) rfl))
theorem im_X6_value : Cond.instanceMethod yX6_value ∈ Om := (om_wsL_law0_r13 _ (List.mem_of_getElem? (i := 23) rfl))
theorem sl_X6_value : Cond.selects RX6 yX6_value yX6_value ∈ Om := (om_wsL_law0_r14 _ (List.mem_of_getElem? (i := 0) rfl))
theorem ml_X2_136 : Cond.methodLink RX2 136 yX0_ofCase ∈ Om := (om_wsL_law0_r14 _ (List.mem_of_getElem? (i := 2) rfl))
theorem sm_X0_ofCase : Cond.static yX0_ofCase ∈ Om := (om_wsL_law0_r14 _ (List.mem_of_getElem? (i := 3) rfl))
theorem ml_X0_42 : Cond.methodLink RX0 42 yX0_init ∈ Om := (om_wsL_law0_r14 _ (List.mem_of_getElem? (i := 5) rfl))
theorem im_X0_init : Cond.instanceMethod yX0_init ∈ Om := (om_wsL_law0_r14 _ (List.mem_of_getElem? (i := 6) rfl))
theorem ml_X2_139 : Cond.methodLink RX2 139 yX0_negated ∈ Om := (om_wsL_law0_r14 _ (List.mem_of_getElem? (i := 9) rfl))
theorem sm_X0_negated : Cond.static yX0_negated ∈ Om := (om_wsL_law0_r14 _ (List.mem_of_getElem? (i := 10) rfl))
theorem ml_X2_58 : Cond.methodLink RX2 58 yX6_sees ∈ Om := (om_wsL_law0_r14 _ (List.mem_of_getElem? (i := 12) rfl))
theorem im_X6_sees : Cond.instanceMethod yX6_sees ∈ Om := (om_wsL_law0_r14 _ (List.mem_of_getElem? (i := 13) rfl))
theorem sl_X6_sees : Cond.selects RX6 yX6_sees yX6_sees ∈ Om := (om_wsL_law0_r14 _ (List.mem_of_getElem? (i := 14) rfl))
theorem ml_X2_69 : Cond.methodLink RX2 69 yX2_readPassive ∈ Om := (om_wsL_law0_r14 _ (List.mem_of_getElem? (i := 16) rfl))
theorem im_X2_readPassive : Cond.instanceMethod yX2_readPassive ∈ Om := (om_wsL_law0_r14 _ (List.mem_of_getElem? (i := 17) rfl))
theorem sl_X2_readPassive : Cond.selects RX2 yX2_readPassive yX2_readPassive ∈ Om := (om_wsL_law0_r14 _ (List.mem_of_getElem? (i := 18) rfl))
theorem ml_X2_96 : Cond.methodLink RX2 96 yX2_readActs ∈ Om := (om_wsL_law0_r14 _ (List.mem_of_getElem? (i := 20) rfl))
theorem im_X2_readActs : Cond.instanceMethod yX2_readActs ∈ Om := (om_wsL_law0_r14 _ (List.mem_of_getElem? (i := 21) rfl))
theorem sl_X2_readActs : Cond.selects RX2 yX2_readActs yX2_readActs ∈ Om := (om_wsL_law0_r14 _ (List.mem_of_getElem? (i := 22) rfl))
theorem ml_X2_99 : Cond.methodLink RX2 99 yX2_readAct ∈ Om := (om_wsL_law0_r15 _ (List.mem_of_getElem? (i := 0) rfl))
theorem im_X2_readAct : Cond.instanceMethod yX2_readAct ∈ Om := (om_wsL_law0_r15 _ (List.mem_of_getElem? (i := 1) rfl))
theorem sl_X2_readAct : Cond.selects RX2 yX2_readAct yX2_readAct ∈ Om := (om_wsL_law0_r15 _ (List.mem_of_getElem? (i := 2) rfl))
theorem ml_X2_102 : Cond.methodLink RX2 102 yX6_value ∈ Om := (om_wsL_law0_r15 _ (List.mem_of_getElem? (i := 4) rfl))
theorem ml_X2_105 : Cond.methodLink RX2 105 yX2_isTold ∈ Om := (om_wsL_law0_r15 _ (List.mem_of_getElem? (i := 5) rfl))
theorem im_X2_isTold : Cond.instanceMethod yX2_isTold ∈ Om := (om_wsL_law0_r15 _ (List.mem_of_getElem? (i := 6) rfl))
theorem sl_X2_isTold : Cond.selects RX2 yX2_isTold yX2_isTold ∈ Om := (om_wsL_law0_r15 _ (List.mem_of_getElem? (i := 7) rfl))
theorem ml_X2_93 : Cond.methodLink RX2 93 yX2_readMode ∈ Om := (om_wsL_law0_r15 _ (List.mem_of_getElem? (i := 9) rfl))
theorem im_X2_readMode : Cond.instanceMethod yX2_readMode ∈ Om := (om_wsL_law0_r15 _ (List.mem_of_getElem? (i := 10) rfl))
theorem sl_X2_readMode : Cond.selects RX2 yX2_readMode yX2_readMode ∈ Om := (om_wsL_law0_r15 _ (List.mem_of_getElem? (i := 11) rfl))
theorem ml_X2_90 : Cond.methodLink RX2 90 yX2_readWho ∈ Om := (om_wsL_law0_r15 _ (List.mem_of_getElem? (i := 13) rfl))
theorem im_X2_readWho : Cond.instanceMethod yX2_readWho ∈ Om := (om_wsL_law0_r15 _ (List.mem_of_getElem? (i := 14) rfl))
theorem sl_X2_readWho : Cond.selects RX2 yX2_readWho yX2_readWho ∈ Om := (om_wsL_law0_r15 _ (List.mem_of_getElem? (i := 15) rfl))
theorem ml_X2_72 : Cond.methodLink RX2 72 yX2_readActive ∈ Om := (om_wsL_law0_r15 _ (List.mem_of_getElem? (i := 17) rfl))
theorem im_X2_readActive : Cond.instanceMethod yX2_readActive ∈ Om := (om_wsL_law0_r15 _ (List.mem_of_getElem? (i := 18) rfl))
theorem sl_X2_readActive : Cond.selects RX2 yX2_readActive yX2_readActive ∈ Om := (om_wsL_law0_r15 _ (List.mem_of_getElem? (i := 19) rfl))
theorem ml_X2_79 : Cond.methodLink RX2 79 yX2_actsTold ∈ Om := (om_wsL_law0_r15 _ (List.mem_of_getElem? (i := 21) rfl))
theorem im_X2_actsTold : Cond.instanceMethod yX2_actsTold ∈ Om := (om_wsL_law0_r15 _ (List.mem_of_getElem? (i := 22) rfl))
theorem sl_X2_actsTold : Cond.selects RX2 yX2_actsTold yX2_actsTold ∈ Om := (om_wsL_law0_r15 _ (List.mem_of_getElem? (i := 23) rfl))
theorem ml_X2_83 : Cond.methodLink RX2 83 yX3_init ∈ Om := (om_wsL_law0_r16 _ (List.mem_of_getElem? (i := 12) rfl))
theorem im_X3_init : Cond.instanceMethod yX3_init ∈ Om := (om_wsL_law0_r16 _ (List.mem_of_getElem? (i := 13) rfl))
theorem ml_X2_86 : Cond.methodLink RX2 86 yX1_add ∈ Om := (om_wsL_law0_r16 _ (List.mem_of_getElem? (i := 23) rfl))
theorem im_X1_add : Cond.instanceMethod yX1_add ∈ Om := (om_wsL_law0_r17 _ (List.mem_of_getElem? (i := 0) rfl))
theorem sl_X1_add : Cond.selects RX1 yX1_add yX1_add ∈ Om := (om_wsL_law0_r17 _ (List.mem_of_getElem? (i := 1) rfl))
theorem ml_X1_18 : Cond.methodLink RX1 18 yJx4a65c_size_8abf5 ∈ Om := (om_wsL_law0_r17 _ (List.mem_of_getElem? (i := 3) rfl))
theorem im_Jx4a65c_size_8abf5 : Cond.instanceMethod yJx4a65c_size_8abf5 ∈ Om := (om_wsL_law0_r17 _ (List.mem_of_getElem? (i := 4) rfl))
theorem sl_Jx4a65c_size_8abf5 : Cond.selects RJx4a65c yJx4a65c_size_8abf5 yJx4a65c_size_8abf5 ∈ Om := (om_wsL_law0_r17 _ (List.mem_of_getElem? (i := 5) rfl))
theorem ml_X1_31 : Cond.methodLink RX1 31 yJx4a65c_add_9ea2d ∈ Om := (om_wsL_law0_r17 _ (List.mem_of_getElem? (i := 7) rfl))
theorem im_Jx4a65c_add_9ea2d : Cond.instanceMethod yJx4a65c_add_9ea2d ∈ Om := (om_wsL_law0_r17 _ (List.mem_of_getElem? (i := 8) rfl))
theorem sl_Jx4a65c_add_9ea2d : Cond.selects RJx4a65c yJx4a65c_add_9ea2d yJx4a65c_add_9ea2d ∈ Om := (om_wsL_law0_r17 _ (List.mem_of_getElem? (i := 9) rfl))
theorem ml_Jx4a65c_131 : Cond.methodLink RJx4a65c 131 yJx4a65c_add_72be8 ∈ Om := (om_wsL_law0_r17 _ (List.mem_of_getElem? (i := 11) rfl))
theorem im_Jx4a65c_add_72be8 : Cond.instanceMethod yJx4a65c_add_72be8 ∈ Om := (om_wsL_law0_r17 _ (List.mem_of_getElem? (i := 12) rfl))
theorem sl_Jx4a65c_add_72be8 : Cond.selects RJx4a65c yJx4a65c_add_72be8 yJx4a65c_add_72be8 ∈ Om := (om_wsL_law0_r17 _ (List.mem_of_getElem? (i := 13) rfl))
theorem ml_Jx4a65c_129 : Cond.methodLink RJx4a65c 129 yJx4a65c_grow_d5877 ∈ Om := (om_wsL_law0_r17 _ (List.mem_of_getElem? (i := 15) rfl))
theorem im_Jx4a65c_grow_d5877 : Cond.instanceMethod yJx4a65c_grow_d5877 ∈ Om := (om_wsL_law0_r17 _ (List.mem_of_getElem? (i := 16) rfl))
theorem sl_Jx4a65c_grow_d5877 : Cond.selects RJx4a65c yJx4a65c_grow_d5877 yJx4a65c_grow_d5877 ∈ Om := (om_wsL_law0_r17 _ (List.mem_of_getElem? (i := 17) rfl))
theorem ml_Jx4a65c_69 : Cond.methodLink RJx4a65c 69 yJx4a65c_grow_92f84 ∈ Om := (om_wsL_law0_r17 _ (List.mem_of_getElem? (i := 19) rfl))
theorem im_Jx4a65c_grow_92f84 : Cond.instanceMethod yJx4a65c_grow_92f84 ∈ Om := (om_wsL_law0_r17 _ (List.mem_of_getElem? (i := 20) rfl))
theorem sl_Jx4a65c_grow_92f84 : Cond.selects RJx4a65c yJx4a65c_grow_92f84 yJx4a65c_grow_92f84 ∈ Om := (om_wsL_law0_r17 _ (List.mem_of_getElem? (i := 21) rfl))
theorem ml_Jx4a65c_73 : Cond.methodLink RJx4a65c 73 yJ8_newLength_cabcc ∈ Om := (om_wsL_law0_r18 _ (List.mem_of_getElem? (i := 1) rfl))
theorem sm_J8_newLength_cabcc : Cond.static yJ8_newLength_cabcc ∈ Om := (om_wsL_law0_r18 _ (List.mem_of_getElem? (i := 2) rfl))
theorem kc_J8_200 : Cond.constant RJ8 200 (2147483639) ∈ Om := (om_wsL_law0_r18 _ (List.mem_of_getElem? (i := 6) rfl))
theorem ml_J8_201 : Cond.methodLink RJ8 201 yJ8_hugeLength_7cf53 ∈ Om := (om_wsL_law0_r18 _ (List.mem_of_getElem? (i := 7) rfl))
theorem sm_J8_hugeLength_7cf53 : Cond.static yJ8_hugeLength_7cf53 ∈ Om := (om_wsL_law0_r18 _ (List.mem_of_getElem? (i := 8) rfl))
theorem ml_Jx4a65c_66 : Cond.methodLink RJx4a65c 66 yJ7_copyOf_1904c ∈ Om := (om_wsL_law0_r18 _ (List.mem_of_getElem? (i := 10) rfl))
theorem sm_J7_copyOf_1904c : Cond.static yJ7_copyOf_1904c ∈ Om := (om_wsL_law0_r18 _ (List.mem_of_getElem? (i := 11) rfl))
theorem ml_J7_300 : Cond.methodLink RJ7 300 yJ7_copyOf_6403c ∈ Om := (om_wsL_law0_r18 _ (List.mem_of_getElem? (i := 18) rfl))
theorem sm_J7_copyOf_6403c : Cond.static yJ7_copyOf_6403c ∈ Om := (om_wsL_law0_r18 _ (List.mem_of_getElem? (i := 19) rfl))
theorem ml_X8_65 : Cond.methodLink RX8 65 yX2_stoppedAt ∈ Om := (om_wsL_law0_r19 _ (List.mem_of_getElem? (i := 1) rfl))
theorem im_X2_stoppedAt : Cond.instanceMethod yX2_stoppedAt ∈ Om := (om_wsL_law0_r19 _ (List.mem_of_getElem? (i := 2) rfl))
theorem sl_X2_stoppedAt : Cond.selects RX2 yX2_stoppedAt yX2_stoppedAt ∈ Om := (om_wsL_law0_r19 _ (List.mem_of_getElem? (i := 3) rfl))
theorem ml_X2_61 : Cond.methodLink RX2 61 yX6_begin ∈ Om := (om_wsL_law0_r19 _ (List.mem_of_getElem? (i := 5) rfl))
theorem im_X6_begin : Cond.instanceMethod yX6_begin ∈ Om := (om_wsL_law0_r19 _ (List.mem_of_getElem? (i := 6) rfl))
theorem sl_X6_begin : Cond.selects RX6 yX6_begin yX6_begin ∈ Om := (om_wsL_law0_r19 _ (List.mem_of_getElem? (i := 7) rfl))
theorem ml_X8_79 : Cond.methodLink RX8 79 yX1_become ∈ Om := (om_wsL_law0_r19 _ (List.mem_of_getElem? (i := 9) rfl))
theorem im_X1_become : Cond.instanceMethod yX1_become ∈ Om := (om_wsL_law0_r19 _ (List.mem_of_getElem? (i := 10) rfl))
theorem sl_X1_become : Cond.selects RX1 yX1_become yX1_become ∈ Om := (om_wsL_law0_r19 _ (List.mem_of_getElem? (i := 11) rfl))
theorem ml_X1_35 : Cond.methodLink RX1 35 yX1_size ∈ Om := (om_wsL_law0_r19 _ (List.mem_of_getElem? (i := 13) rfl))
theorem im_X1_size : Cond.instanceMethod yX1_size ∈ Om := (om_wsL_law0_r19 _ (List.mem_of_getElem? (i := 14) rfl))
theorem sl_X1_size : Cond.selects RX1 yX1_size yX1_size ∈ Om := (om_wsL_law0_r19 _ (List.mem_of_getElem? (i := 15) rfl))
theorem ml_X1_36 : Cond.methodLink RX1 36 yX1_at ∈ Om := (om_wsL_law0_r19 _ (List.mem_of_getElem? (i := 17) rfl))
theorem im_X1_at : Cond.instanceMethod yX1_at ∈ Om := (om_wsL_law0_r19 _ (List.mem_of_getElem? (i := 18) rfl))
theorem sl_X1_at : Cond.selects RX1 yX1_at yX1_at ∈ Om := (om_wsL_law0_r19 _ (List.mem_of_getElem? (i := 19) rfl))
theorem ml_X1_22 : Cond.methodLink RX1 22 yJx4a65c_get_915e3 ∈ Om := (om_wsL_law0_r19 _ (List.mem_of_getElem? (i := 22) rfl))
theorem im_Jx4a65c_get_915e3 : Cond.instanceMethod yJx4a65c_get_915e3 ∈ Om := (om_wsL_law0_r19 _ (List.mem_of_getElem? (i := 23) rfl))
theorem sl_Jx4a65c_get_915e3 : Cond.selects RJx4a65c yJx4a65c_get_915e3 yJx4a65c_get_915e3 ∈ Om := (om_wsL_law0_r20 _ (List.mem_of_getElem? (i := 0) rfl))
theorem ml_Jx4a65c_118 : Cond.methodLink RJx4a65c 118 yJ15_checkIndex_7cf53 ∈ Om := (om_wsL_law0_r20 _ (List.mem_of_getElem? (i := 2) rfl))
theorem sm_J15_checkIndex_7cf53 : Cond.static yJ15_checkIndex_7cf53 ∈ Om := (om_wsL_law0_r20 _ (List.mem_of_getElem? (i := 3) rfl))
theorem ml_J15_105 : Cond.methodLink RJ15 105 yJ3_checkIndex_8e157 ∈ Om := (om_wsL_law0_r20 _ (List.mem_of_getElem? (i := 6) rfl))
theorem ml_Jx4a65c_123 : Cond.methodLink RJx4a65c 123 yJx4a65c_elementData_915e3 ∈ Om := (om_wsL_law0_r20 _ (List.mem_of_getElem? (i := 7) rfl))
theorem im_Jx4a65c_elementData_915e3 : Cond.instanceMethod yJx4a65c_elementData_915e3 ∈ Om := (om_wsL_law0_r20 _ (List.mem_of_getElem? (i := 8) rfl))
theorem sl_Jx4a65c_elementData_915e3 : Cond.selects RJx4a65c yJx4a65c_elementData_915e3 yJx4a65c_elementData_915e3 ∈ Om := (om_wsL_law0_r20 _ (List.mem_of_getElem? (i := 9) rfl))
theorem ml_X1_40 : Cond.methodLink RX1 40 yX1_add ∈ Om := (om_wsL_law0_r20 _ (List.mem_of_getElem? (i := 11) rfl))
theorem ml_X8_83 : Cond.methodLink RX8 83 yX1_size ∈ Om := (om_wsL_law0_r20 _ (List.mem_of_getElem? (i := 12) rfl))
theorem ml_L_81 : Cond.methodLink RL 81 yX9_letter ∈ Om := (om_wsL_law0_r20 _ (List.mem_of_getElem? (i := 13) rfl))
theorem im_X9_letter : Cond.instanceMethod yX9_letter ∈ Om := (om_wsL_law0_r20 _ (List.mem_of_getElem? (i := 14) rfl))
theorem sl_X9_letter : Cond.selects RX9 yX9_letter yX9_letter ∈ Om := (om_wsL_law0_r20 _ (List.mem_of_getElem? (i := 15) rfl))
theorem ml_X9_206 : Cond.methodLink RX9 206 yX9_readAll ∈ Om := (om_wsL_law0_r20 _ (List.mem_of_getElem? (i := 23) rfl))
theorem im_X9_readAll : Cond.instanceMethod yX9_readAll ∈ Om := (om_wsL_law0_r21 _ (List.mem_of_getElem? (i := 0) rfl))
theorem sl_X9_readAll : Cond.selects RX9 yX9_readAll yX9_readAll ∈ Om := (om_wsL_law0_r21 _ (List.mem_of_getElem? (i := 1) rfl))
theorem ml_X9_203 : Cond.methodLink RX9 203 yX9_readSentence ∈ Om := (om_wsL_law0_r21 _ (List.mem_of_getElem? (i := 4) rfl))
theorem im_X9_readSentence : Cond.instanceMethod yX9_readSentence ∈ Om := (om_wsL_law0_r21 _ (List.mem_of_getElem? (i := 5) rfl))
theorem sl_X9_readSentence : Cond.selects RX9 yX9_readSentence yX9_readSentence ∈ Om := (om_wsL_law0_r21 _ (List.mem_of_getElem? (i := 6) rfl))
theorem ml_X9_143 : Cond.methodLink RX9 143 yX9_passes ∈ Om := (om_wsL_law0_r21 _ (List.mem_of_getElem? (i := 8) rfl))
theorem im_X9_passes : Cond.instanceMethod yX9_passes ∈ Om := (om_wsL_law0_r21 _ (List.mem_of_getElem? (i := 9) rfl))
theorem sl_X9_passes : Cond.selects RX9 yX9_passes yX9_passes ∈ Om := (om_wsL_law0_r21 _ (List.mem_of_getElem? (i := 10) rfl))
theorem ml_X9_124 : Cond.methodLink RX9 124 yX9_word ∈ Om := (om_wsL_law0_r21 _ (List.mem_of_getElem? (i := 12) rfl))
theorem im_X9_word : Cond.instanceMethod yX9_word ∈ Om := (om_wsL_law0_r21 _ (List.mem_of_getElem? (i := 13) rfl))
theorem sl_X9_word : Cond.selects RX9 yX9_word yX9_word ∈ Om := (om_wsL_law0_r21 _ (List.mem_of_getElem? (i := 14) rfl))
theorem ml_X9_112 : Cond.methodLink RX9 112 yX9_blanks ∈ Om := (om_wsL_law0_r21 _ (List.mem_of_getElem? (i := 16) rfl))
theorem im_X9_blanks : Cond.instanceMethod yX9_blanks ∈ Om := (om_wsL_law0_r21 _ (List.mem_of_getElem? (i := 17) rfl))
theorem sl_X9_blanks : Cond.selects RX9 yX9_blanks yX9_blanks ∈ Om := (om_wsL_law0_r21 _ (List.mem_of_getElem? (i := 18) rfl))
theorem ml_X9_105 : Cond.methodLink RX9 105 yX9_isAt ∈ Om := (om_wsL_law0_r21 _ (List.mem_of_getElem? (i := 20) rfl))
theorem im_X9_isAt : Cond.instanceMethod yX9_isAt ∈ Om := (om_wsL_law0_r21 _ (List.mem_of_getElem? (i := 21) rfl))
theorem sl_X9_isAt : Cond.selects RX9 yX9_isAt yX9_isAt ∈ Om := (om_wsL_law0_r21 _ (List.mem_of_getElem? (i := 22) rfl))
theorem ml_X9_127 : Cond.methodLink RX9 127 yX9_isWord ∈ Om := (om_wsL_law0_r22 _ (List.mem_of_getElem? (i := 0) rfl))
theorem im_X9_isWord : Cond.instanceMethod yX9_isWord ∈ Om := (om_wsL_law0_r22 _ (List.mem_of_getElem? (i := 1) rfl))
theorem sl_X9_isWord : Cond.selects RX9 yX9_isWord yX9_isWord ∈ Om := (om_wsL_law0_r22 _ (List.mem_of_getElem? (i := 2) rfl))
theorem ml_X9_115 : Cond.methodLink RX9 115 yJ0_length_8abf5 ∈ Om := (om_wsL_law0_r22 _ (List.mem_of_getElem? (i := 4) rfl))
theorem ml_X9_120 : Cond.methodLink RX9 120 yJ0_charAt_5068e ∈ Om := (om_wsL_law0_r22 _ (List.mem_of_getElem? (i := 5) rfl))
theorem ml_X9_193 : Cond.methodLink RX9 193 yX9_readInto ∈ Om := (om_wsL_law0_r22 _ (List.mem_of_getElem? (i := 6) rfl))
theorem im_X9_readInto : Cond.instanceMethod yX9_readInto ∈ Om := (om_wsL_law0_r22 _ (List.mem_of_getElem? (i := 7) rfl))
theorem sl_X9_readInto : Cond.selects RX9 yX9_readInto yX9_readInto ∈ Om := (om_wsL_law0_r22 _ (List.mem_of_getElem? (i := 8) rfl))
theorem ml_X9_138 : Cond.methodLink RX9 138 yX9_readCond ∈ Om := (om_wsL_law0_r22 _ (List.mem_of_getElem? (i := 12) rfl))
theorem im_X9_readCond : Cond.instanceMethod yX9_readCond ∈ Om := (om_wsL_law0_r22 _ (List.mem_of_getElem? (i := 13) rfl))
theorem sl_X9_readCond : Cond.selects RX9 yX9_readCond yX9_readCond ∈ Om := (om_wsL_law0_r22 _ (List.mem_of_getElem? (i := 14) rfl))
theorem ml_X9_156 : Cond.methodLink RX9 156 yX9_readAllOf ∈ Om := (om_wsL_law0_r22 _ (List.mem_of_getElem? (i := 16) rfl))
theorem im_X9_readAllOf : Cond.instanceMethod yX9_readAllOf ∈ Om := (om_wsL_law0_r22 _ (List.mem_of_getElem? (i := 17) rfl))
theorem sl_X9_readAllOf : Cond.selects RX9 yX9_readAllOf yX9_readAllOf ∈ Om := (om_wsL_law0_r22 _ (List.mem_of_getElem? (i := 18) rfl))
theorem ml_X9_68 : Cond.methodLink RX9 68 yX9_place ∈ Om := (om_wsL_law0_r22 _ (List.mem_of_getElem? (i := 19) rfl))
theorem im_X9_place : Cond.instanceMethod yX9_place ∈ Om := (om_wsL_law0_r22 _ (List.mem_of_getElem? (i := 20) rfl))
theorem sl_X9_place : Cond.selects RX9 yX9_place yX9_place ∈ Om := (om_wsL_law0_r22 _ (List.mem_of_getElem? (i := 21) rfl))
theorem ml_X9_75 : Cond.methodLink RX9 75 yX9_puts ∈ Om := (om_wsL_law0_r22 _ (List.mem_of_getElem? (i := 23) rfl))
theorem im_X9_puts : Cond.instanceMethod yX9_puts ∈ Om := (om_wsL_law0_r23 _ (List.mem_of_getElem? (i := 0) rfl))
theorem sl_X9_puts : Cond.selects RX9 yX9_puts yX9_puts ∈ Om := (om_wsL_law0_r23 _ (List.mem_of_getElem? (i := 1) rfl))
theorem ml_X9_146 : Cond.methodLink RX9 146 yX9_readItem ∈ Om := (om_wsL_law0_r23 _ (List.mem_of_getElem? (i := 4) rfl))
theorem im_X9_readItem : Cond.instanceMethod yX9_readItem ∈ Om := (om_wsL_law0_r23 _ (List.mem_of_getElem? (i := 5) rfl))
theorem sl_X9_readItem : Cond.selects RX9 yX9_readItem yX9_readItem ∈ Om := (om_wsL_law0_r23 _ (List.mem_of_getElem? (i := 6) rfl))
theorem ml_X9_131 : Cond.methodLink RX9 131 yX9_sign ∈ Om := (om_wsL_law0_r23 _ (List.mem_of_getElem? (i := 8) rfl))
theorem im_X9_sign : Cond.instanceMethod yX9_sign ∈ Om := (om_wsL_law0_r23 _ (List.mem_of_getElem? (i := 9) rfl))
theorem sl_X9_sign : Cond.selects RX9 yX9_sign yX9_sign ∈ Om := (om_wsL_law0_r23 _ (List.mem_of_getElem? (i := 10) rfl))
theorem ml_X9_151 : Cond.methodLink RX9 151 yX9_number ∈ Om := (om_wsL_law0_r23 _ (List.mem_of_getElem? (i := 12) rfl))
theorem im_X9_number : Cond.instanceMethod yX9_number ∈ Om := (om_wsL_law0_r23 _ (List.mem_of_getElem? (i := 13) rfl))
theorem sl_X9_number : Cond.selects RX9 yX9_number yX9_number ∈ Om := (om_wsL_law0_r23 _ (List.mem_of_getElem? (i := 14) rfl))
theorem ml_X9_161 : Cond.methodLink RX9 161 yX9_laysAll ∈ Om := (om_wsL_law0_r23 _ (List.mem_of_getElem? (i := 16) rfl))
theorem im_X9_laysAll : Cond.instanceMethod yX9_laysAll ∈ Om := (om_wsL_law0_r23 _ (List.mem_of_getElem? (i := 17) rfl))
theorem sl_X9_laysAll : Cond.selects RX9 yX9_laysAll yX9_laysAll ∈ Om := (om_wsL_law0_r23 _ (List.mem_of_getElem? (i := 18) rfl))
theorem ml_X9_89 : Cond.methodLink RX9 89 yX9_lays ∈ Om := (om_wsL_law0_r23 _ (List.mem_of_getElem? (i := 21) rfl))
theorem im_X9_lays : Cond.instanceMethod yX9_lays ∈ Om := (om_wsL_law0_r23 _ (List.mem_of_getElem? (i := 22) rfl))
theorem sl_X9_lays : Cond.selects RX9 yX9_lays yX9_lays ∈ Om := (om_wsL_law0_r23 _ (List.mem_of_getElem? (i := 23) rfl))
theorem ml_X9_82 : Cond.methodLink RX9 82 yX9_size ∈ Om := (om_wsL_law0_r24 _ (List.mem_of_getElem? (i := 1) rfl))
theorem im_X9_size : Cond.instanceMethod yX9_size ∈ Om := (om_wsL_law0_r24 _ (List.mem_of_getElem? (i := 2) rfl))
theorem sl_X9_size : Cond.selects RX9 yX9_size yX9_size ∈ Om := (om_wsL_law0_r24 _ (List.mem_of_getElem? (i := 3) rfl))
theorem ml_X9_92 : Cond.methodLink RX9 92 yX9_laysThose ∈ Om := (om_wsL_law0_r24 _ (List.mem_of_getElem? (i := 5) rfl))
theorem im_X9_laysThose : Cond.instanceMethod yX9_laysThose ∈ Om := (om_wsL_law0_r24 _ (List.mem_of_getElem? (i := 6) rfl))
theorem sl_X9_laysThose : Cond.selects RX9 yX9_laysThose yX9_laysThose ∈ Om := (om_wsL_law0_r24 _ (List.mem_of_getElem? (i := 7) rfl))
theorem ml_X9_196 : Cond.methodLink RX9 196 yX9_readBody ∈ Om := (om_wsL_law0_r24 _ (List.mem_of_getElem? (i := 9) rfl))
theorem im_X9_readBody : Cond.instanceMethod yX9_readBody ∈ Om := (om_wsL_law0_r24 _ (List.mem_of_getElem? (i := 10) rfl))
theorem sl_X9_readBody : Cond.selects RX9 yX9_readBody yX9_readBody ∈ Om := (om_wsL_law0_r24 _ (List.mem_of_getElem? (i := 11) rfl))
theorem ml_X9_175 : Cond.methodLink RX9 175 yX9_readWho ∈ Om := (om_wsL_law0_r24 _ (List.mem_of_getElem? (i := 13) rfl))
theorem im_X9_readWho : Cond.instanceMethod yX9_readWho ∈ Om := (om_wsL_law0_r24 _ (List.mem_of_getElem? (i := 14) rfl))
theorem sl_X9_readWho : Cond.selects RX9 yX9_readWho yX9_readWho ∈ Om := (om_wsL_law0_r24 _ (List.mem_of_getElem? (i := 15) rfl))
theorem ml_X9_178 : Cond.methodLink RX9 178 yX9_readMode ∈ Om := (om_wsL_law0_r24 _ (List.mem_of_getElem? (i := 17) rfl))
theorem im_X9_readMode : Cond.instanceMethod yX9_readMode ∈ Om := (om_wsL_law0_r24 _ (List.mem_of_getElem? (i := 18) rfl))
theorem sl_X9_readMode : Cond.selects RX9 yX9_readMode yX9_readMode ∈ Om := (om_wsL_law0_r24 _ (List.mem_of_getElem? (i := 19) rfl))
theorem ml_X9_181 : Cond.methodLink RX9 181 yX9_readActs ∈ Om := (om_wsL_law0_r24 _ (List.mem_of_getElem? (i := 21) rfl))
theorem im_X9_readActs : Cond.instanceMethod yX9_readActs ∈ Om := (om_wsL_law0_r24 _ (List.mem_of_getElem? (i := 22) rfl))
theorem sl_X9_readActs : Cond.selects RX9 yX9_readActs yX9_readActs ∈ Om := (om_wsL_law0_r24 _ (List.mem_of_getElem? (i := 23) rfl))
theorem ml_X9_209 : Cond.methodLink RX9 209 yX9_throwsIf ∈ Om := (om_wsL_law0_r25 _ (List.mem_of_getElem? (i := 1) rfl))
theorem im_X9_throwsIf : Cond.instanceMethod yX9_throwsIf ∈ Om := (om_wsL_law0_r25 _ (List.mem_of_getElem? (i := 2) rfl))
theorem sl_X9_throwsIf : Cond.selects RX9 yX9_throwsIf yX9_throwsIf ∈ Om := (om_wsL_law0_r25 _ (List.mem_of_getElem? (i := 3) rfl))
theorem ml_X9_213 : Cond.methodLink RX9 213 yX9_copies ∈ Om := (om_wsL_law0_r25 _ (List.mem_of_getElem? (i := 5) rfl))
theorem im_X9_copies : Cond.instanceMethod yX9_copies ∈ Om := (om_wsL_law0_r25 _ (List.mem_of_getElem? (i := 6) rfl))
theorem sl_X9_copies : Cond.selects RX9 yX9_copies yX9_copies ∈ Om := (om_wsL_law0_r25 _ (List.mem_of_getElem? (i := 7) rfl))
theorem ml_X9_229 : Cond.methodLink RX9 229 yX9_renews ∈ Om := (om_wsL_law0_r25 _ (List.mem_of_getElem? (i := 9) rfl))
theorem im_X9_renews : Cond.instanceMethod yX9_renews ∈ Om := (om_wsL_law0_r25 _ (List.mem_of_getElem? (i := 10) rfl))
theorem sl_X9_renews : Cond.selects RX9 yX9_renews yX9_renews ∈ Om := (om_wsL_law0_r25 _ (List.mem_of_getElem? (i := 11) rfl))
theorem ml_L_82 : Cond.methodLink RL 82 yX9_thrown ∈ Om := (om_wsL_law0_r25 _ (List.mem_of_getElem? (i := 14) rfl))
theorem im_X9_thrown : Cond.instanceMethod yX9_thrown ∈ Om := (om_wsL_law0_r25 _ (List.mem_of_getElem? (i := 15) rfl))
theorem sl_X9_thrown : Cond.selects RX9 yX9_thrown yX9_thrown ∈ Om := (om_wsL_law0_r25 _ (List.mem_of_getElem? (i := 16) rfl))
theorem ml_L_85 : Cond.methodLink RL 85 yX8_fault ∈ Om := (om_wsL_law0_r25 _ (List.mem_of_getElem? (i := 18) rfl))
theorem im_X8_fault : Cond.instanceMethod yX8_fault ∈ Om := (om_wsL_law0_r25 _ (List.mem_of_getElem? (i := 19) rfl))
theorem sl_X8_fault : Cond.selects RX8 yX8_fault yX8_fault ∈ Om := (om_wsL_law0_r25 _ (List.mem_of_getElem? (i := 20) rfl))
theorem ml_L_88 : Cond.methodLink RL 88 yX9_fault ∈ Om := (om_wsL_law0_r25 _ (List.mem_of_getElem? (i := 22) rfl))
theorem im_X9_fault : Cond.instanceMethod yX9_fault ∈ Om := (om_wsL_law0_r25 _ (List.mem_of_getElem? (i := 23) rfl))
theorem sl_X9_fault : Cond.selects RX9 yX9_fault yX9_fault ∈ Om := (om_wsL_law0_r26 _ (List.mem_of_getElem? (i := 0) rfl))
theorem ml_L_89 : Cond.methodLink RL 89 yL_part ∈ Om := (om_wsL_law0_r26 _ (List.mem_of_getElem? (i := 2) rfl))
theorem sm_L_part : Cond.static yL_part ∈ Om := (om_wsL_law0_r26 _ (List.mem_of_getElem? (i := 3) rfl))
theorem ml_L_15 : Cond.methodLink RL 15 yX8_part ∈ Om := (om_wsL_law0_r26 _ (List.mem_of_getElem? (i := 7) rfl))
theorem im_X8_part : Cond.instanceMethod yX8_part ∈ Om := (om_wsL_law0_r26 _ (List.mem_of_getElem? (i := 8) rfl))
theorem sl_X8_part : Cond.selects RX8 yX8_part yX8_part ∈ Om := (om_wsL_law0_r26 _ (List.mem_of_getElem? (i := 9) rfl))
theorem ml_X8_85 : Cond.methodLink RX8 85 yX8_needSentence ∈ Om := (om_wsL_law0_r26 _ (List.mem_of_getElem? (i := 11) rfl))
theorem im_X8_needSentence : Cond.instanceMethod yX8_needSentence ∈ Om := (om_wsL_law0_r26 _ (List.mem_of_getElem? (i := 12) rfl))
theorem sl_X8_needSentence : Cond.selects RX8 yX8_needSentence yX8_needSentence ∈ Om := (om_wsL_law0_r26 _ (List.mem_of_getElem? (i := 13) rfl))
theorem ml_X8_104 : Cond.methodLink RX8 104 yX8_needLetter ∈ Om := (om_wsL_law0_r26 _ (List.mem_of_getElem? (i := 17) rfl))
theorem im_X8_needLetter : Cond.instanceMethod yX8_needLetter ∈ Om := (om_wsL_law0_r26 _ (List.mem_of_getElem? (i := 18) rfl))
theorem sl_X8_needLetter : Cond.selects RX8 yX8_needLetter yX8_needLetter ∈ Om := (om_wsL_law0_r26 _ (List.mem_of_getElem? (i := 19) rfl))
theorem ml_X8_88 : Cond.methodLink RX8 88 yX1_partAt ∈ Om := (om_wsL_law0_r26 _ (List.mem_of_getElem? (i := 23) rfl))
theorem im_X1_partAt : Cond.instanceMethod yX1_partAt ∈ Om := (om_wsL_law0_r27 _ (List.mem_of_getElem? (i := 0) rfl))
theorem sl_X1_partAt : Cond.selects RX1 yX1_partAt yX1_partAt ∈ Om := (om_wsL_law0_r27 _ (List.mem_of_getElem? (i := 1) rfl))
theorem ml_X1_47 : Cond.methodLink RX1 47 yX3_withAct ∈ Om := (om_wsL_law0_r27 _ (List.mem_of_getElem? (i := 4) rfl))
theorem im_X3_withAct : Cond.instanceMethod yX3_withAct ∈ Om := (om_wsL_law0_r27 _ (List.mem_of_getElem? (i := 5) rfl))
theorem sl_X3_withAct : Cond.selects RX3 yX3_withAct yX3_withAct ∈ Om := (om_wsL_law0_r27 _ (List.mem_of_getElem? (i := 6) rfl))
theorem ml_X3_39 : Cond.methodLink RX3 39 yX3_withActs ∈ Om := (om_wsL_law0_r27 _ (List.mem_of_getElem? (i := 8) rfl))
theorem im_X3_withActs : Cond.instanceMethod yX3_withActs ∈ Om := (om_wsL_law0_r27 _ (List.mem_of_getElem? (i := 9) rfl))
theorem sl_X3_withActs : Cond.selects RX3 yX3_withActs yX3_withActs ∈ Om := (om_wsL_law0_r27 _ (List.mem_of_getElem? (i := 10) rfl))
theorem ml_X3_36 : Cond.methodLink RX3 36 yX3_init ∈ Om := (om_wsL_law0_r27 _ (List.mem_of_getElem? (i := 13) rfl))
theorem ml_X1_50 : Cond.methodLink RX1 50 yJx4a65c_set_bcc79 ∈ Om := (om_wsL_law0_r27 _ (List.mem_of_getElem? (i := 14) rfl))
theorem im_Jx4a65c_set_bcc79 : Cond.instanceMethod yJx4a65c_set_bcc79 ∈ Om := (om_wsL_law0_r27 _ (List.mem_of_getElem? (i := 15) rfl))
theorem sl_Jx4a65c_set_bcc79 : Cond.selects RJx4a65c yJx4a65c_set_bcc79 yJx4a65c_set_bcc79 ∈ Om := (om_wsL_law0_r27 _ (List.mem_of_getElem? (i := 16) rfl))
theorem ml_X1_54 : Cond.methodLink RX1 54 yJx4a65c_add_7a177 ∈ Om := (om_wsL_law0_r27 _ (List.mem_of_getElem? (i := 18) rfl))
theorem im_Jx4a65c_add_7a177 : Cond.instanceMethod yJx4a65c_add_7a177 ∈ Om := (om_wsL_law0_r27 _ (List.mem_of_getElem? (i := 19) rfl))
theorem sl_Jx4a65c_add_7a177 : Cond.selects RJx4a65c yJx4a65c_add_7a177 yJx4a65c_add_7a177 ∈ Om := (om_wsL_law0_r27 _ (List.mem_of_getElem? (i := 20) rfl))
theorem ml_Jx4a65c_135 : Cond.methodLink RJx4a65c 135 yJx4a65c_rangeCheckForAdd_d00df ∈ Om := (om_wsL_law0_r27 _ (List.mem_of_getElem? (i := 23) rfl))
theorem im_Jx4a65c_rangeCheckForAdd_d00df : Cond.instanceMethod yJx4a65c_rangeCheckForAdd_d00df ∈ Om := (om_wsL_law0_r28 _ (List.mem_of_getElem? (i := 0) rfl))
theorem sl_Jx4a65c_rangeCheckForAdd_d00df : Cond.selects RJx4a65c yJx4a65c_rangeCheckForAdd_d00df yJx4a65c_rangeCheckForAdd_d00df ∈ Om := (om_wsL_law0_r28 _ (List.mem_of_getElem? (i := 1) rfl))
theorem ml_X8_91 : Cond.methodLink RX8 91 yX8_tallied ∈ Om := (om_wsL_law0_r28 _ (List.mem_of_getElem? (i := 3) rfl))
theorem im_X8_tallied : Cond.instanceMethod yX8_tallied ∈ Om := (om_wsL_law0_r28 _ (List.mem_of_getElem? (i := 4) rfl))
theorem sl_X8_tallied : Cond.selects RX8 yX8_tallied yX8_tallied ∈ Om := (om_wsL_law0_r28 _ (List.mem_of_getElem? (i := 5) rfl))
theorem ml_L_92 : Cond.methodLink RL 92 yX9_part ∈ Om := (om_wsL_law0_r28 _ (List.mem_of_getElem? (i := 7) rfl))
theorem im_X9_part : Cond.instanceMethod yX9_part ∈ Om := (om_wsL_law0_r28 _ (List.mem_of_getElem? (i := 8) rfl))
theorem sl_X9_part : Cond.selects RX9 yX9_part yX9_part ∈ Om := (om_wsL_law0_r28 _ (List.mem_of_getElem? (i := 9) rfl))
theorem ml_X9_301 : Cond.methodLink RX9 301 yX9_refuses ∈ Om := (om_wsL_law0_r28 _ (List.mem_of_getElem? (i := 11) rfl))
theorem im_X9_refuses : Cond.instanceMethod yX9_refuses ∈ Om := (om_wsL_law0_r28 _ (List.mem_of_getElem? (i := 12) rfl))
theorem sl_X9_refuses : Cond.selects RX9 yX9_refuses yX9_refuses ∈ Om := (om_wsL_law0_r28 _ (List.mem_of_getElem? (i := 13) rfl))
theorem ml_X9_298 : Cond.methodLink RX9 298 yX9_noSentence ∈ Om := (om_wsL_law0_r28 _ (List.mem_of_getElem? (i := 15) rfl))
theorem im_X9_noSentence : Cond.instanceMethod yX9_noSentence ∈ Om := (om_wsL_law0_r28 _ (List.mem_of_getElem? (i := 16) rfl))
theorem sl_X9_noSentence : Cond.selects RX9 yX9_noSentence yX9_noSentence ∈ Om := (om_wsL_law0_r28 _ (List.mem_of_getElem? (i := 17) rfl))
theorem ml_X9_294 : Cond.methodLink RX9 294 yX9_in ∈ Om := (om_wsL_law0_r28 _ (List.mem_of_getElem? (i := 19) rfl))
theorem sm_X9_in : Cond.static yX9_in ∈ Om := (om_wsL_law0_r28 _ (List.mem_of_getElem? (i := 20) rfl))
theorem ml_L_93 : Cond.methodLink RL 93 yL_melt ∈ Om := (om_wsL_law0_r28 _ (List.mem_of_getElem? (i := 22) rfl))
theorem sm_L_melt : Cond.static yL_melt ∈ Om := (om_wsL_law0_r28 _ (List.mem_of_getElem? (i := 23) rfl))
theorem ml_L_23 : Cond.methodLink RL 23 yX8_melt ∈ Om := (om_wsL_law0_r29 _ (List.mem_of_getElem? (i := 1) rfl))
theorem im_X8_melt : Cond.instanceMethod yX8_melt ∈ Om := (om_wsL_law0_r29 _ (List.mem_of_getElem? (i := 2) rfl))
theorem sl_X8_melt : Cond.selects RX8 yX8_melt yX8_melt ∈ Om := (om_wsL_law0_r29 _ (List.mem_of_getElem? (i := 3) rfl))
theorem ml_X8_95 : Cond.methodLink RX8 95 yX1_meltAt ∈ Om := (om_wsL_law0_r29 _ (List.mem_of_getElem? (i := 5) rfl))
theorem im_X1_meltAt : Cond.instanceMethod yX1_meltAt ∈ Om := (om_wsL_law0_r29 _ (List.mem_of_getElem? (i := 6) rfl))
theorem sl_X1_meltAt : Cond.selects RX1 yX1_meltAt yX1_meltAt ∈ Om := (om_wsL_law0_r29 _ (List.mem_of_getElem? (i := 7) rfl))
theorem ml_X1_57 : Cond.methodLink RX1 57 yX3_canMelt ∈ Om := (om_wsL_law0_r29 _ (List.mem_of_getElem? (i := 9) rfl))
theorem im_X3_canMelt : Cond.instanceMethod yX3_canMelt ∈ Om := (om_wsL_law0_r29 _ (List.mem_of_getElem? (i := 10) rfl))
theorem sl_X3_canMelt : Cond.selects RX3 yX3_canMelt yX3_canMelt ∈ Om := (om_wsL_law0_r29 _ (List.mem_of_getElem? (i := 11) rfl))
theorem ml_X3_60 : Cond.methodLink RX3 60 yX3_asksLike ∈ Om := (om_wsL_law0_r29 _ (List.mem_of_getElem? (i := 13) rfl))
theorem im_X3_asksLike : Cond.instanceMethod yX3_asksLike ∈ Om := (om_wsL_law0_r29 _ (List.mem_of_getElem? (i := 14) rfl))
theorem sl_X3_asksLike : Cond.selects RX3 yX3_asksLike yX3_asksLike ∈ Om := (om_wsL_law0_r29 _ (List.mem_of_getElem? (i := 15) rfl))
theorem ml_X3_64 : Cond.methodLink RX3 64 yX3_names ∈ Om := (om_wsL_law0_r29 _ (List.mem_of_getElem? (i := 17) rfl))
theorem im_X3_names : Cond.instanceMethod yX3_names ∈ Om := (om_wsL_law0_r29 _ (List.mem_of_getElem? (i := 18) rfl))
theorem sl_X3_names : Cond.selects RX3 yX3_names yX3_names ∈ Om := (om_wsL_law0_r29 _ (List.mem_of_getElem? (i := 19) rfl))
theorem sm_X0_alike : Cond.static yX0_alike ∈ Om := (om_wsL_law0_r29 _ (List.mem_of_getElem? (i := 21) rfl))
theorem ml_X0_64 : Cond.methodLink RX0 64 yX0_alike ∈ Om := (om_wsL_law0_r29 _ (List.mem_of_getElem? (i := 23) rfl))
theorem ml_X1_61 : Cond.methodLink RX1 61 yX3_melted ∈ Om := (om_wsL_law0_r30 _ (List.mem_of_getElem? (i := 0) rfl))
theorem im_X3_melted : Cond.instanceMethod yX3_melted ∈ Om := (om_wsL_law0_r30 _ (List.mem_of_getElem? (i := 1) rfl))
theorem sl_X3_melted : Cond.selects RX3 yX3_melted yX3_melted ∈ Om := (om_wsL_law0_r30 _ (List.mem_of_getElem? (i := 2) rfl))
theorem ml_X1_65 : Cond.methodLink RX1 65 yJx4a65c_remove_915e3 ∈ Om := (om_wsL_law0_r30 _ (List.mem_of_getElem? (i := 5) rfl))
theorem im_Jx4a65c_remove_915e3 : Cond.instanceMethod yJx4a65c_remove_915e3 ∈ Om := (om_wsL_law0_r30 _ (List.mem_of_getElem? (i := 6) rfl))
theorem sl_Jx4a65c_remove_915e3 : Cond.selects RJx4a65c yJx4a65c_remove_915e3 yJx4a65c_remove_915e3 ∈ Om := (om_wsL_law0_r30 _ (List.mem_of_getElem? (i := 7) rfl))
theorem ml_Jx4a65c_144 : Cond.methodLink RJx4a65c 144 yJx4a65c_fastRemove_b59b0 ∈ Om := (om_wsL_law0_r30 _ (List.mem_of_getElem? (i := 9) rfl))
theorem im_Jx4a65c_fastRemove_b59b0 : Cond.instanceMethod yJx4a65c_fastRemove_b59b0 ∈ Om := (om_wsL_law0_r30 _ (List.mem_of_getElem? (i := 10) rfl))
theorem sl_Jx4a65c_fastRemove_b59b0 : Cond.selects RJx4a65c yJx4a65c_fastRemove_b59b0 yJx4a65c_fastRemove_b59b0 ∈ Om := (om_wsL_law0_r30 _ (List.mem_of_getElem? (i := 11) rfl))
theorem ml_L_95 : Cond.methodLink RL 95 yX9_melt ∈ Om := (om_wsL_law0_r30 _ (List.mem_of_getElem? (i := 13) rfl))
theorem im_X9_melt : Cond.instanceMethod yX9_melt ∈ Om := (om_wsL_law0_r30 _ (List.mem_of_getElem? (i := 14) rfl))
theorem sl_X9_melt : Cond.selects RX9 yX9_melt yX9_melt ∈ Om := (om_wsL_law0_r30 _ (List.mem_of_getElem? (i := 15) rfl))
theorem ml_X9_304 : Cond.methodLink RX9 304 yX9_areAlike ∈ Om := (om_wsL_law0_r30 _ (List.mem_of_getElem? (i := 17) rfl))
theorem im_X9_areAlike : Cond.instanceMethod yX9_areAlike ∈ Om := (om_wsL_law0_r30 _ (List.mem_of_getElem? (i := 18) rfl))
theorem sl_X9_areAlike : Cond.selects RX9 yX9_areAlike yX9_areAlike ∈ Om := (om_wsL_law0_r30 _ (List.mem_of_getElem? (i := 19) rfl))
theorem ml_L_96 : Cond.methodLink RL 96 yL_turn ∈ Om := (om_wsL_law0_r30 _ (List.mem_of_getElem? (i := 21) rfl))
theorem sm_L_turn : Cond.static yL_turn ∈ Om := (om_wsL_law0_r30 _ (List.mem_of_getElem? (i := 22) rfl))
theorem ml_L_26 : Cond.methodLink RL 26 yX8_turn ∈ Om := (om_wsL_law0_r31 _ (List.mem_of_getElem? (i := 0) rfl))
theorem im_X8_turn : Cond.instanceMethod yX8_turn ∈ Om := (om_wsL_law0_r31 _ (List.mem_of_getElem? (i := 1) rfl))
theorem sl_X8_turn : Cond.selects RX8 yX8_turn yX8_turn ∈ Om := (om_wsL_law0_r31 _ (List.mem_of_getElem? (i := 2) rfl))
theorem ml_X8_98 : Cond.methodLink RX8 98 yX1_turnAt ∈ Om := (om_wsL_law0_r31 _ (List.mem_of_getElem? (i := 4) rfl))
theorem im_X1_turnAt : Cond.instanceMethod yX1_turnAt ∈ Om := (om_wsL_law0_r31 _ (List.mem_of_getElem? (i := 5) rfl))
theorem sl_X1_turnAt : Cond.selects RX1 yX1_turnAt yX1_turnAt ∈ Om := (om_wsL_law0_r31 _ (List.mem_of_getElem? (i := 6) rfl))
theorem ml_X1_68 : Cond.methodLink RX1 68 yX3_canTurn ∈ Om := (om_wsL_law0_r31 _ (List.mem_of_getElem? (i := 8) rfl))
theorem im_X3_canTurn : Cond.instanceMethod yX3_canTurn ∈ Om := (om_wsL_law0_r31 _ (List.mem_of_getElem? (i := 9) rfl))
theorem sl_X3_canTurn : Cond.selects RX3 yX3_canTurn yX3_canTurn ∈ Om := (om_wsL_law0_r31 _ (List.mem_of_getElem? (i := 10) rfl))
theorem ml_X1_72 : Cond.methodLink RX1 72 yX3_turned ∈ Om := (om_wsL_law0_r31 _ (List.mem_of_getElem? (i := 12) rfl))
theorem im_X3_turned : Cond.instanceMethod yX3_turned ∈ Om := (om_wsL_law0_r31 _ (List.mem_of_getElem? (i := 13) rfl))
theorem sl_X3_turned : Cond.selects RX3 yX3_turned yX3_turned ∈ Om := (om_wsL_law0_r31 _ (List.mem_of_getElem? (i := 14) rfl))
theorem ml_L_98 : Cond.methodLink RL 98 yX9_turn ∈ Om := (om_wsL_law0_r31 _ (List.mem_of_getElem? (i := 16) rfl))
theorem im_X9_turn : Cond.instanceMethod yX9_turn ∈ Om := (om_wsL_law0_r31 _ (List.mem_of_getElem? (i := 17) rfl))
theorem sl_X9_turn : Cond.selects RX9 yX9_turn yX9_turn ∈ Om := (om_wsL_law0_r31 _ (List.mem_of_getElem? (i := 18) rfl))
theorem ml_X9_307 : Cond.methodLink RX9 307 yX9_turnsRound ∈ Om := (om_wsL_law0_r31 _ (List.mem_of_getElem? (i := 20) rfl))
theorem im_X9_turnsRound : Cond.instanceMethod yX9_turnsRound ∈ Om := (om_wsL_law0_r31 _ (List.mem_of_getElem? (i := 21) rfl))
theorem sl_X9_turnsRound : Cond.selects RX9 yX9_turnsRound yX9_turnsRound ∈ Om := (om_wsL_law0_r31 _ (List.mem_of_getElem? (i := 22) rfl))
theorem ml_L_99 : Cond.methodLink RL 99 yL_ease ∈ Om := (om_wsL_law0_r32 _ (List.mem_of_getElem? (i := 0) rfl))
theorem sm_L_ease : Cond.static yL_ease ∈ Om := (om_wsL_law0_r32 _ (List.mem_of_getElem? (i := 1) rfl))
theorem ml_L_29 : Cond.methodLink RL 29 yX8_ease ∈ Om := (om_wsL_law0_r32 _ (List.mem_of_getElem? (i := 3) rfl))
theorem im_X8_ease : Cond.instanceMethod yX8_ease ∈ Om := (om_wsL_law0_r32 _ (List.mem_of_getElem? (i := 4) rfl))
theorem sl_X8_ease : Cond.selects RX8 yX8_ease yX8_ease ∈ Om := (om_wsL_law0_r32 _ (List.mem_of_getElem? (i := 5) rfl))
theorem ml_X8_101 : Cond.methodLink RX8 101 yX1_easeAt ∈ Om := (om_wsL_law0_r32 _ (List.mem_of_getElem? (i := 7) rfl))
theorem im_X1_easeAt : Cond.instanceMethod yX1_easeAt ∈ Om := (om_wsL_law0_r32 _ (List.mem_of_getElem? (i := 8) rfl))
theorem sl_X1_easeAt : Cond.selects RX1 yX1_easeAt yX1_easeAt ∈ Om := (om_wsL_law0_r32 _ (List.mem_of_getElem? (i := 9) rfl))
theorem ml_X1_76 : Cond.methodLink RX1 76 yX3_canEase ∈ Om := (om_wsL_law0_r32 _ (List.mem_of_getElem? (i := 11) rfl))
theorem im_X3_canEase : Cond.instanceMethod yX3_canEase ∈ Om := (om_wsL_law0_r32 _ (List.mem_of_getElem? (i := 12) rfl))
theorem sl_X3_canEase : Cond.selects RX3 yX3_canEase yX3_canEase ∈ Om := (om_wsL_law0_r32 _ (List.mem_of_getElem? (i := 13) rfl))
theorem ml_X1_79 : Cond.methodLink RX1 79 yX3_eased ∈ Om := (om_wsL_law0_r32 _ (List.mem_of_getElem? (i := 16) rfl))
theorem im_X3_eased : Cond.instanceMethod yX3_eased ∈ Om := (om_wsL_law0_r32 _ (List.mem_of_getElem? (i := 17) rfl))
theorem sl_X3_eased : Cond.selects RX3 yX3_eased yX3_eased ∈ Om := (om_wsL_law0_r32 _ (List.mem_of_getElem? (i := 18) rfl))
theorem ml_X3_48 : Cond.methodLink RX3 48 yX0_negated ∈ Om := (om_wsL_law0_r32 _ (List.mem_of_getElem? (i := 20) rfl))
theorem ml_X3_52 : Cond.methodLink RX3 52 yX0_joined ∈ Om := (om_wsL_law0_r32 _ (List.mem_of_getElem? (i := 21) rfl))
theorem sm_X0_eased : Cond.static yX0_eased ∈ Om := (om_wsL_law0_r32 _ (List.mem_of_getElem? (i := 22) rfl))
theorem ml_X0_52 : Cond.methodLink RX0 52 yX0_eased ∈ Om := (om_wsL_law0_r33 _ (List.mem_of_getElem? (i := 0) rfl))
theorem ml_X0_56 : Cond.methodLink RX0 56 yX0_negated ∈ Om := (om_wsL_law0_r33 _ (List.mem_of_getElem? (i := 1) rfl))
theorem ml_X0_60 : Cond.methodLink RX0 60 yX0_joined ∈ Om := (om_wsL_law0_r33 _ (List.mem_of_getElem? (i := 2) rfl))
theorem ml_L_101 : Cond.methodLink RL 101 yX9_ease ∈ Om := (om_wsL_law0_r33 _ (List.mem_of_getElem? (i := 3) rfl))
theorem im_X9_ease : Cond.instanceMethod yX9_ease ∈ Om := (om_wsL_law0_r33 _ (List.mem_of_getElem? (i := 4) rfl))
theorem sl_X9_ease : Cond.selects RX9 yX9_ease yX9_ease ∈ Om := (om_wsL_law0_r33 _ (List.mem_of_getElem? (i := 5) rfl))
theorem ml_X9_313 : Cond.methodLink RX9 313 yX9_eases ∈ Om := (om_wsL_law0_r33 _ (List.mem_of_getElem? (i := 7) rfl))
theorem im_X9_eases : Cond.instanceMethod yX9_eases ∈ Om := (om_wsL_law0_r33 _ (List.mem_of_getElem? (i := 8) rfl))
theorem sl_X9_eases : Cond.selects RX9 yX9_eases yX9_eases ∈ Om := (om_wsL_law0_r33 _ (List.mem_of_getElem? (i := 9) rfl))
theorem ml_X9_283 : Cond.methodLink RX9 283 yX9_notsOf ∈ Om := (om_wsL_law0_r33 _ (List.mem_of_getElem? (i := 11) rfl))
theorem im_X9_notsOf : Cond.instanceMethod yX9_notsOf ∈ Om := (om_wsL_law0_r33 _ (List.mem_of_getElem? (i := 12) rfl))
theorem sl_X9_notsOf : Cond.selects RX9 yX9_notsOf yX9_notsOf ∈ Om := (om_wsL_law0_r33 _ (List.mem_of_getElem? (i := 13) rfl))
theorem ml_X9_310 : Cond.methodLink RX9 310 yX9_treeOf ∈ Om := (om_wsL_law0_r33 _ (List.mem_of_getElem? (i := 15) rfl))
theorem im_X9_treeOf : Cond.instanceMethod yX9_treeOf ∈ Om := (om_wsL_law0_r33 _ (List.mem_of_getElem? (i := 16) rfl))
theorem sl_X9_treeOf : Cond.selects RX9 yX9_treeOf yX9_treeOf ∈ Om := (om_wsL_law0_r33 _ (List.mem_of_getElem? (i := 17) rfl))
theorem ml_X9_72 : Cond.methodLink RX9 72 yX9_tree ∈ Om := (om_wsL_law0_r33 _ (List.mem_of_getElem? (i := 20) rfl))
theorem im_X9_tree : Cond.instanceMethod yX9_tree ∈ Om := (om_wsL_law0_r33 _ (List.mem_of_getElem? (i := 21) rfl))
theorem sl_X9_tree : Cond.selects RX9 yX9_tree yX9_tree ∈ Om := (om_wsL_law0_r33 _ (List.mem_of_getElem? (i := 22) rfl))
theorem ml_X9_79 : Cond.methodLink RX9 79 yX9_eased ∈ Om := (om_wsL_law0_r34 _ (List.mem_of_getElem? (i := 0) rfl))
theorem im_X9_eased : Cond.instanceMethod yX9_eased ∈ Om := (om_wsL_law0_r34 _ (List.mem_of_getElem? (i := 1) rfl))
theorem sl_X9_eased : Cond.selects RX9 yX9_eased yX9_eased ∈ Om := (om_wsL_law0_r34 _ (List.mem_of_getElem? (i := 2) rfl))
theorem ml_L_102 : Cond.methodLink RL 102 yL_plainest ∈ Om := (om_wsL_law0_r34 _ (List.mem_of_getElem? (i := 4) rfl))
theorem sm_L_plainest : Cond.static yL_plainest ∈ Om := (om_wsL_law0_r34 _ (List.mem_of_getElem? (i := 5) rfl))
theorem ml_L_32 : Cond.methodLink RL 32 yX8_plainest ∈ Om := (om_wsL_law0_r34 _ (List.mem_of_getElem? (i := 7) rfl))
theorem im_X8_plainest : Cond.instanceMethod yX8_plainest ∈ Om := (om_wsL_law0_r34 _ (List.mem_of_getElem? (i := 8) rfl))
theorem sl_X8_plainest : Cond.selects RX8 yX8_plainest yX8_plainest ∈ Om := (om_wsL_law0_r34 _ (List.mem_of_getElem? (i := 9) rfl))
theorem ml_X8_107 : Cond.methodLink RX8 107 yX1_becomePlainest ∈ Om := (om_wsL_law0_r34 _ (List.mem_of_getElem? (i := 11) rfl))
theorem im_X1_becomePlainest : Cond.instanceMethod yX1_becomePlainest ∈ Om := (om_wsL_law0_r34 _ (List.mem_of_getElem? (i := 12) rfl))
theorem sl_X1_becomePlainest : Cond.selects RX1 yX1_becomePlainest yX1_becomePlainest ∈ Om := (om_wsL_law0_r34 _ (List.mem_of_getElem? (i := 13) rfl))
theorem ml_X1_86 : Cond.methodLink RX1 86 yX1_addPlainest ∈ Om := (om_wsL_law0_r34 _ (List.mem_of_getElem? (i := 15) rfl))
theorem im_X1_addPlainest : Cond.instanceMethod yX1_addPlainest ∈ Om := (om_wsL_law0_r34 _ (List.mem_of_getElem? (i := 16) rfl))
theorem sl_X1_addPlainest : Cond.selects RX1 yX1_addPlainest yX1_addPlainest ∈ Om := (om_wsL_law0_r34 _ (List.mem_of_getElem? (i := 17) rfl))
theorem ml_X1_82 : Cond.methodLink RX1 82 yX3_price ∈ Om := (om_wsL_law0_r34 _ (List.mem_of_getElem? (i := 19) rfl))
theorem im_X3_price : Cond.instanceMethod yX3_price ∈ Om := (om_wsL_law0_r34 _ (List.mem_of_getElem? (i := 20) rfl))
theorem sl_X3_price : Cond.selects RX3 yX3_price yX3_price ∈ Om := (om_wsL_law0_r34 _ (List.mem_of_getElem? (i := 21) rfl))
theorem ml_X3_93 : Cond.methodLink RX3 93 yX3_words ∈ Om := (om_wsL_law0_r35 _ (List.mem_of_getElem? (i := 0) rfl))
theorem im_X3_words : Cond.instanceMethod yX3_words ∈ Om := (om_wsL_law0_r35 _ (List.mem_of_getElem? (i := 1) rfl))
theorem sl_X3_words : Cond.selects RX3 yX3_words yX3_words ∈ Om := (om_wsL_law0_r35 _ (List.mem_of_getElem? (i := 2) rfl))
theorem ml_X3_96 : Cond.methodLink RX3 96 yX3_nots ∈ Om := (om_wsL_law0_r35 _ (List.mem_of_getElem? (i := 5) rfl))
theorem im_X3_nots : Cond.instanceMethod yX3_nots ∈ Om := (om_wsL_law0_r35 _ (List.mem_of_getElem? (i := 6) rfl))
theorem sl_X3_nots : Cond.selects RX3 yX3_nots yX3_nots ∈ Om := (om_wsL_law0_r35 _ (List.mem_of_getElem? (i := 7) rfl))
theorem ml_X1_89 : Cond.methodLink RX1 89 yJ6_bitCount_0f7a4 ∈ Om := (om_wsL_law0_r35 _ (List.mem_of_getElem? (i := 10) rfl))
theorem sm_J6_bitCount_0f7a4 : Cond.static yJ6_bitCount_0f7a4 ∈ Om := (om_wsL_law0_r35 _ (List.mem_of_getElem? (i := 11) rfl))
theorem kc_J6_265 : Cond.constant RJ6 265 (1431655765) ∈ Om := (om_wsL_law0_r35 _ (List.mem_of_getElem? (i := 14) rfl))
theorem kc_J6_266 : Cond.constant RJ6 266 (858993459) ∈ Om := (om_wsL_law0_r35 _ (List.mem_of_getElem? (i := 15) rfl))
theorem kc_J6_267 : Cond.constant RJ6 267 (252645135) ∈ Om := (om_wsL_law0_r35 _ (List.mem_of_getElem? (i := 16) rfl))
theorem ml_X1_94 : Cond.methodLink RX1 94 yX1_addWhole ∈ Om := (om_wsL_law0_r35 _ (List.mem_of_getElem? (i := 17) rfl))
theorem im_X1_addWhole : Cond.instanceMethod yX1_addWhole ∈ Om := (om_wsL_law0_r35 _ (List.mem_of_getElem? (i := 18) rfl))
theorem sl_X1_addWhole : Cond.selects RX1 yX1_addWhole yX1_addWhole ∈ Om := (om_wsL_law0_r35 _ (List.mem_of_getElem? (i := 19) rfl))
theorem ml_X8_110 : Cond.methodLink RX8 110 yX1_price ∈ Om := (om_wsL_law0_r35 _ (List.mem_of_getElem? (i := 21) rfl))
theorem im_X1_price : Cond.instanceMethod yX1_price ∈ Om := (om_wsL_law0_r35 _ (List.mem_of_getElem? (i := 22) rfl))
theorem sl_X1_price : Cond.selects RX1 yX1_price yX1_price ∈ Om := (om_wsL_law0_r35 _ (List.mem_of_getElem? (i := 23) rfl))
theorem ml_L_104 : Cond.methodLink RL 104 yX9_plainest ∈ Om := (om_wsL_law0_r36 _ (List.mem_of_getElem? (i := 1) rfl))
theorem im_X9_plainest : Cond.instanceMethod yX9_plainest ∈ Om := (om_wsL_law0_r36 _ (List.mem_of_getElem? (i := 2) rfl))
theorem sl_X9_plainest : Cond.selects RX9 yX9_plainest yX9_plainest ∈ Om := (om_wsL_law0_r36 _ (List.mem_of_getElem? (i := 3) rfl))
theorem ml_X9_319 : Cond.methodLink RX9 319 yX9_tries ∈ Om := (om_wsL_law0_r36 _ (List.mem_of_getElem? (i := 6) rfl))
theorem im_X9_tries : Cond.instanceMethod yX9_tries ∈ Om := (om_wsL_law0_r36 _ (List.mem_of_getElem? (i := 7) rfl))
theorem sl_X9_tries : Cond.selects RX9 yX9_tries yX9_tries ∈ Om := (om_wsL_law0_r36 _ (List.mem_of_getElem? (i := 8) rfl))
theorem ml_X9_289 : Cond.methodLink RX9 289 yX9_costOfAll ∈ Om := (om_wsL_law0_r36 _ (List.mem_of_getElem? (i := 10) rfl))
theorem im_X9_costOfAll : Cond.instanceMethod yX9_costOfAll ∈ Om := (om_wsL_law0_r36 _ (List.mem_of_getElem? (i := 11) rfl))
theorem sl_X9_costOfAll : Cond.selects RX9 yX9_costOfAll yX9_costOfAll ∈ Om := (om_wsL_law0_r36 _ (List.mem_of_getElem? (i := 12) rfl))
theorem ml_X9_286 : Cond.methodLink RX9 286 yX9_costOf ∈ Om := (om_wsL_law0_r36 _ (List.mem_of_getElem? (i := 14) rfl))
theorem im_X9_costOf : Cond.instanceMethod yX9_costOf ∈ Om := (om_wsL_law0_r36 _ (List.mem_of_getElem? (i := 15) rfl))
theorem sl_X9_costOf : Cond.selects RX9 yX9_costOf yX9_costOf ∈ Om := (om_wsL_law0_r36 _ (List.mem_of_getElem? (i := 16) rfl))
theorem ml_X9_280 : Cond.methodLink RX9 280 yX9_wordsOf ∈ Om := (om_wsL_law0_r36 _ (List.mem_of_getElem? (i := 18) rfl))
theorem im_X9_wordsOf : Cond.instanceMethod yX9_wordsOf ∈ Om := (om_wsL_law0_r36 _ (List.mem_of_getElem? (i := 19) rfl))
theorem sl_X9_wordsOf : Cond.selects RX9 yX9_wordsOf yX9_wordsOf ∈ Om := (om_wsL_law0_r36 _ (List.mem_of_getElem? (i := 20) rfl))
theorem ml_X9_277 : Cond.methodLink RX9 277 yX9_putSentence ∈ Om := (om_wsL_law0_r37 _ (List.mem_of_getElem? (i := 0) rfl))
theorem im_X9_putSentence : Cond.instanceMethod yX9_putSentence ∈ Om := (om_wsL_law0_r37 _ (List.mem_of_getElem? (i := 1) rfl))
theorem sl_X9_putSentence : Cond.selects RX9 yX9_putSentence yX9_putSentence ∈ Om := (om_wsL_law0_r37 _ (List.mem_of_getElem? (i := 2) rfl))
theorem ml_X9_250 : Cond.methodLink RX9 250 yX9_putWord ∈ Om := (om_wsL_law0_r37 _ (List.mem_of_getElem? (i := 5) rfl))
theorem im_X9_putWord : Cond.instanceMethod yX9_putWord ∈ Om := (om_wsL_law0_r37 _ (List.mem_of_getElem? (i := 6) rfl))
theorem sl_X9_putWord : Cond.selects RX9 yX9_putWord yX9_putWord ∈ Om := (om_wsL_law0_r37 _ (List.mem_of_getElem? (i := 7) rfl))
theorem ml_X9_241 : Cond.methodLink RX9 241 yX9_put ∈ Om := (om_wsL_law0_r37 _ (List.mem_of_getElem? (i := 9) rfl))
theorem im_X9_put : Cond.instanceMethod yX9_put ∈ Om := (om_wsL_law0_r37 _ (List.mem_of_getElem? (i := 10) rfl))
theorem sl_X9_put : Cond.selects RX9 yX9_put yX9_put ∈ Om := (om_wsL_law0_r37 _ (List.mem_of_getElem? (i := 11) rfl))
theorem ml_X9_258 : Cond.methodLink RX9 258 yX9_putCond ∈ Om := (om_wsL_law0_r37 _ (List.mem_of_getElem? (i := 13) rfl))
theorem im_X9_putCond : Cond.instanceMethod yX9_putCond ∈ Om := (om_wsL_law0_r37 _ (List.mem_of_getElem? (i := 14) rfl))
theorem sl_X9_putCond : Cond.selects RX9 yX9_putCond yX9_putCond ∈ Om := (om_wsL_law0_r37 _ (List.mem_of_getElem? (i := 15) rfl))
theorem ml_X9_254 : Cond.methodLink RX9 254 yX9_putNumber ∈ Om := (om_wsL_law0_r37 _ (List.mem_of_getElem? (i := 17) rfl))
theorem im_X9_putNumber : Cond.instanceMethod yX9_putNumber ∈ Om := (om_wsL_law0_r37 _ (List.mem_of_getElem? (i := 18) rfl))
theorem sl_X9_putNumber : Cond.selects RX9 yX9_putNumber yX9_putNumber ∈ Om := (om_wsL_law0_r37 _ (List.mem_of_getElem? (i := 19) rfl))
theorem ml_X9_261 : Cond.methodLink RX9 261 yX9_putOpen ∈ Om := (om_wsL_law0_r37 _ (List.mem_of_getElem? (i := 21) rfl))
theorem im_X9_putOpen : Cond.instanceMethod yX9_putOpen ∈ Om := (om_wsL_law0_r37 _ (List.mem_of_getElem? (i := 22) rfl))
theorem sl_X9_putOpen : Cond.selects RX9 yX9_putOpen yX9_putOpen ∈ Om := (om_wsL_law0_r37 _ (List.mem_of_getElem? (i := 23) rfl))
theorem ml_X9_268 : Cond.methodLink RX9 268 yX9_putActs ∈ Om := (om_wsL_law0_r38 _ (List.mem_of_getElem? (i := 1) rfl))
theorem im_X9_putActs : Cond.instanceMethod yX9_putActs ∈ Om := (om_wsL_law0_r38 _ (List.mem_of_getElem? (i := 2) rfl))
theorem sl_X9_putActs : Cond.selects RX9 yX9_putActs yX9_putActs ∈ Om := (om_wsL_law0_r38 _ (List.mem_of_getElem? (i := 3) rfl))
theorem ml_X9_271 : Cond.methodLink RX9 271 yX9_putMode ∈ Om := (om_wsL_law0_r38 _ (List.mem_of_getElem? (i := 5) rfl))
theorem im_X9_putMode : Cond.instanceMethod yX9_putMode ∈ Om := (om_wsL_law0_r38 _ (List.mem_of_getElem? (i := 6) rfl))
theorem sl_X9_putMode : Cond.selects RX9 yX9_putMode yX9_putMode ∈ Om := (om_wsL_law0_r38 _ (List.mem_of_getElem? (i := 7) rfl))
theorem ml_X9_274 : Cond.methodLink RX9 274 yX9_putWho ∈ Om := (om_wsL_law0_r38 _ (List.mem_of_getElem? (i := 9) rfl))
theorem im_X9_putWho : Cond.instanceMethod yX9_putWho ∈ Om := (om_wsL_law0_r38 _ (List.mem_of_getElem? (i := 10) rfl))
theorem sl_X9_putWho : Cond.selects RX9 yX9_putWho yX9_putWho ∈ Om := (om_wsL_law0_r38 _ (List.mem_of_getElem? (i := 11) rfl))
theorem ml_X9_322 : Cond.methodLink RX9 322 yX9_isFewer ∈ Om := (om_wsL_law0_r38 _ (List.mem_of_getElem? (i := 13) rfl))
theorem sm_X9_isFewer : Cond.static yX9_isFewer ∈ Om := (om_wsL_law0_r38 _ (List.mem_of_getElem? (i := 14) rfl))
theorem ml_X9_325 : Cond.methodLink RX9 325 yJ6_bitCount_0f7a4 ∈ Om := (om_wsL_law0_r38 _ (List.mem_of_getElem? (i := 16) rfl))
theorem ml_L_105 : Cond.methodLink RL 105 yL_again ∈ Om := (om_wsL_law0_r38 _ (List.mem_of_getElem? (i := 17) rfl))
theorem sm_L_again : Cond.static yL_again ∈ Om := (om_wsL_law0_r38 _ (List.mem_of_getElem? (i := 18) rfl))
theorem ml_L_35 : Cond.methodLink RL 35 yX8_again ∈ Om := (om_wsL_law0_r38 _ (List.mem_of_getElem? (i := 20) rfl))
theorem im_X8_again : Cond.instanceMethod yX8_again ∈ Om := (om_wsL_law0_r38 _ (List.mem_of_getElem? (i := 21) rfl))
theorem sl_X8_again : Cond.selects RX8 yX8_again yX8_again ∈ Om := (om_wsL_law0_r38 _ (List.mem_of_getElem? (i := 22) rfl))
theorem ml_L_108 : Cond.methodLink RL 108 yX9_again ∈ Om := (om_wsL_law0_r39 _ (List.mem_of_getElem? (i := 0) rfl))
theorem im_X9_again : Cond.instanceMethod yX9_again ∈ Om := (om_wsL_law0_r39 _ (List.mem_of_getElem? (i := 1) rfl))
theorem sl_X9_again : Cond.selects RX9 yX9_again yX9_again ∈ Om := (om_wsL_law0_r39 _ (List.mem_of_getElem? (i := 2) rfl))
theorem ml_L_109 : Cond.methodLink RL 109 yL_cost ∈ Om := (om_wsL_law0_r39 _ (List.mem_of_getElem? (i := 4) rfl))
theorem sm_L_cost : Cond.static yL_cost ∈ Om := (om_wsL_law0_r39 _ (List.mem_of_getElem? (i := 5) rfl))
theorem ml_L_38 : Cond.methodLink RL 38 yX8_cost ∈ Om := (om_wsL_law0_r39 _ (List.mem_of_getElem? (i := 7) rfl))
theorem im_X8_cost : Cond.instanceMethod yX8_cost ∈ Om := (om_wsL_law0_r39 _ (List.mem_of_getElem? (i := 8) rfl))
theorem sl_X8_cost : Cond.selects RX8 yX8_cost yX8_cost ∈ Om := (om_wsL_law0_r39 _ (List.mem_of_getElem? (i := 9) rfl))
theorem ml_X8_113 : Cond.methodLink RX8 113 yX8_chosen ∈ Om := (om_wsL_law0_r39 _ (List.mem_of_getElem? (i := 11) rfl))
theorem im_X8_chosen : Cond.instanceMethod yX8_chosen ∈ Om := (om_wsL_law0_r39 _ (List.mem_of_getElem? (i := 12) rfl))
theorem sl_X8_chosen : Cond.selects RX8 yX8_chosen yX8_chosen ∈ Om := (om_wsL_law0_r39 _ (List.mem_of_getElem? (i := 13) rfl))
theorem ml_L_112 : Cond.methodLink RL 112 yX9_cost ∈ Om := (om_wsL_law0_r39 _ (List.mem_of_getElem? (i := 15) rfl))
theorem im_X9_cost : Cond.instanceMethod yX9_cost ∈ Om := (om_wsL_law0_r39 _ (List.mem_of_getElem? (i := 16) rfl))
theorem sl_X9_cost : Cond.selects RX9 yX9_cost yX9_cost ∈ Om := (om_wsL_law0_r39 _ (List.mem_of_getElem? (i := 17) rfl))
theorem ml_L_113 : Cond.methodLink RL 113 yL_look ∈ Om := (om_wsL_law0_r39 _ (List.mem_of_getElem? (i := 19) rfl))
theorem sm_L_look : Cond.static yL_look ∈ Om := (om_wsL_law0_r39 _ (List.mem_of_getElem? (i := 20) rfl))
theorem ml_L_42 : Cond.methodLink RL 42 yX8_look ∈ Om := (om_wsL_law0_r39 _ (List.mem_of_getElem? (i := 23) rfl))
theorem im_X8_look : Cond.instanceMethod yX8_look ∈ Om := (om_wsL_law0_r40 _ (List.mem_of_getElem? (i := 0) rfl))
theorem sl_X8_look : Cond.selects RX8 yX8_look yX8_look ∈ Om := (om_wsL_law0_r40 _ (List.mem_of_getElem? (i := 1) rfl))
theorem ml_X8_122 : Cond.methodLink RX8 122 yX1_at ∈ Om := (om_wsL_law0_r40 _ (List.mem_of_getElem? (i := 5) rfl))
theorem ml_X8_126 : Cond.methodLink RX8 126 yX3_trait ∈ Om := (om_wsL_law0_r40 _ (List.mem_of_getElem? (i := 6) rfl))
theorem im_X3_trait : Cond.instanceMethod yX3_trait ∈ Om := (om_wsL_law0_r40 _ (List.mem_of_getElem? (i := 7) rfl))
theorem sl_X3_trait : Cond.selects RX3 yX3_trait yX3_trait ∈ Om := (om_wsL_law0_r40 _ (List.mem_of_getElem? (i := 8) rfl))
theorem ml_X3_105 : Cond.methodLink RX3 105 yX3_price ∈ Om := (om_wsL_law0_r40 _ (List.mem_of_getElem? (i := 10) rfl))
theorem ml_L_116 : Cond.methodLink RL 116 yX9_look ∈ Om := (om_wsL_law0_r40 _ (List.mem_of_getElem? (i := 11) rfl))
theorem im_X9_look : Cond.instanceMethod yX9_look ∈ Om := (om_wsL_law0_r40 _ (List.mem_of_getElem? (i := 12) rfl))
theorem sl_X9_look : Cond.selects RX9 yX9_look yX9_look ∈ Om := (om_wsL_law0_r40 _ (List.mem_of_getElem? (i := 13) rfl))
theorem ml_L_117 : Cond.methodLink RL 117 yL_same ∈ Om := (om_wsL_law0_r40 _ (List.mem_of_getElem? (i := 15) rfl))
theorem sm_L_same : Cond.static yL_same ∈ Om := (om_wsL_law0_r40 _ (List.mem_of_getElem? (i := 16) rfl))
theorem ml_L_48 : Cond.methodLink RL 48 yX8_same ∈ Om := (om_wsL_law0_r40 _ (List.mem_of_getElem? (i := 18) rfl))
theorem im_X8_same : Cond.instanceMethod yX8_same ∈ Om := (om_wsL_law0_r40 _ (List.mem_of_getElem? (i := 19) rfl))
theorem sl_X8_same : Cond.selects RX8 yX8_same yX8_same ∈ Om := (om_wsL_law0_r40 _ (List.mem_of_getElem? (i := 20) rfl))
theorem ml_X8_132 : Cond.methodLink RX8 132 yX1_isWithin ∈ Om := (om_wsL_law0_r40 _ (List.mem_of_getElem? (i := 22) rfl))
theorem im_X1_isWithin : Cond.instanceMethod yX1_isWithin ∈ Om := (om_wsL_law0_r40 _ (List.mem_of_getElem? (i := 23) rfl))
theorem sl_X1_isWithin : Cond.selects RX1 yX1_isWithin yX1_isWithin ∈ Om := (om_wsL_law0_r41 _ (List.mem_of_getElem? (i := 0) rfl))
theorem kc_X1_102 : Cond.constantLong RX1 102 (-1) ∈ Om := (om_wsL_law0_r41 _ (List.mem_of_getElem? (i := 2) rfl))
theorem ml_X1_98 : Cond.methodLink RX1 98 yX1_casesAsking ∈ Om := (om_wsL_law0_r41 _ (List.mem_of_getElem? (i := 3) rfl))
theorem im_X1_casesAsking : Cond.instanceMethod yX1_casesAsking ∈ Om := (om_wsL_law0_r41 _ (List.mem_of_getElem? (i := 4) rfl))
theorem sl_X1_casesAsking : Cond.selects RX1 yX1_casesAsking yX1_casesAsking ∈ Om := (om_wsL_law0_r41 _ (List.mem_of_getElem? (i := 5) rfl))
theorem ml_X1_104 : Cond.methodLink RX1 104 yX3_asksLike ∈ Om := (om_wsL_law0_r41 _ (List.mem_of_getElem? (i := 7) rfl))
theorem ml_X1_107 : Cond.methodLink RX1 107 yX3_names ∈ Om := (om_wsL_law0_r41 _ (List.mem_of_getElem? (i := 8) rfl))
theorem ml_X1_111 : Cond.methodLink RX1 111 yX3_truth ∈ Om := (om_wsL_law0_r41 _ (List.mem_of_getElem? (i := 9) rfl))
theorem im_X3_truth : Cond.instanceMethod yX3_truth ∈ Om := (om_wsL_law0_r41 _ (List.mem_of_getElem? (i := 10) rfl))
theorem sl_X3_truth : Cond.selects RX3 yX3_truth yX3_truth ∈ Om := (om_wsL_law0_r41 _ (List.mem_of_getElem? (i := 11) rfl))
theorem kc_X3_78 : Cond.constantLong RX3 78 (-1) ∈ Om := (om_wsL_law0_r41 _ (List.mem_of_getElem? (i := 13) rfl))
theorem ml_L_119 : Cond.methodLink RL 119 yX9_same ∈ Om := (om_wsL_law0_r41 _ (List.mem_of_getElem? (i := 15) rfl))
theorem im_X9_same : Cond.instanceMethod yX9_same ∈ Om := (om_wsL_law0_r41 _ (List.mem_of_getElem? (i := 16) rfl))
theorem sl_X9_same : Cond.selects RX9 yX9_same yX9_same ∈ Om := (om_wsL_law0_r41 _ (List.mem_of_getElem? (i := 17) rfl))
theorem ml_X9_343 : Cond.methodLink RX9 343 yX9_isWithin ∈ Om := (om_wsL_law0_r41 _ (List.mem_of_getElem? (i := 19) rfl))
theorem im_X9_isWithin : Cond.instanceMethod yX9_isWithin ∈ Om := (om_wsL_law0_r41 _ (List.mem_of_getElem? (i := 20) rfl))
theorem sl_X9_isWithin : Cond.selects RX9 yX9_isWithin yX9_isWithin ∈ Om := (om_wsL_law0_r41 _ (List.mem_of_getElem? (i := 21) rfl))
theorem ml_X9_336 : Cond.methodLink RX9 336 yX9_counts ∈ Om := (om_wsL_law0_r41 _ (List.mem_of_getElem? (i := 23) rfl))
theorem im_X9_counts : Cond.instanceMethod yX9_counts ∈ Om := (om_wsL_law0_r42 _ (List.mem_of_getElem? (i := 0) rfl))
theorem sl_X9_counts : Cond.selects RX9 yX9_counts yX9_counts ∈ Om := (om_wsL_law0_r42 _ (List.mem_of_getElem? (i := 1) rfl))
theorem ml_X9_330 : Cond.methodLink RX9 330 yX9_isSo ∈ Om := (om_wsL_law0_r42 _ (List.mem_of_getElem? (i := 3) rfl))
theorem im_X9_isSo : Cond.instanceMethod yX9_isSo ∈ Om := (om_wsL_law0_r42 _ (List.mem_of_getElem? (i := 4) rfl))
theorem sl_X9_isSo : Cond.selects RX9 yX9_isSo yX9_isSo ∈ Om := (om_wsL_law0_r42 _ (List.mem_of_getElem? (i := 5) rfl))
theorem ml_X9_339 : Cond.methodLink RX9 339 yX9_asks ∈ Om := (om_wsL_law0_r42 _ (List.mem_of_getElem? (i := 7) rfl))
theorem im_X9_asks : Cond.instanceMethod yX9_asks ∈ Om := (om_wsL_law0_r42 _ (List.mem_of_getElem? (i := 8) rfl))
theorem sl_X9_asks : Cond.selects RX9 yX9_asks yX9_asks ∈ Om := (om_wsL_law0_r42 _ (List.mem_of_getElem? (i := 9) rfl))
theorem ml_X9_333 : Cond.methodLink RX9 333 yX9_hasAct ∈ Om := (om_wsL_law0_r42 _ (List.mem_of_getElem? (i := 11) rfl))
theorem im_X9_hasAct : Cond.instanceMethod yX9_hasAct ∈ Om := (om_wsL_law0_r42 _ (List.mem_of_getElem? (i := 12) rfl))
theorem sl_X9_hasAct : Cond.selects RX9 yX9_hasAct yX9_hasAct ∈ Om := (om_wsL_law0_r42 _ (List.mem_of_getElem? (i := 13) rfl))
theorem ml_L_120 : Cond.methodLink RL 120 yL_write ∈ Om := (om_wsL_law0_r42 _ (List.mem_of_getElem? (i := 15) rfl))
theorem sm_L_write : Cond.static yL_write ∈ Om := (om_wsL_law0_r42 _ (List.mem_of_getElem? (i := 16) rfl))
theorem ml_L_52 : Cond.methodLink RL 52 yX8_write ∈ Om := (om_wsL_law0_r42 _ (List.mem_of_getElem? (i := 18) rfl))
theorem im_X8_write : Cond.instanceMethod yX8_write ∈ Om := (om_wsL_law0_r42 _ (List.mem_of_getElem? (i := 19) rfl))
theorem sl_X8_write : Cond.selects RX8 yX8_write yX8_write ∈ Om := (om_wsL_law0_r42 _ (List.mem_of_getElem? (i := 20) rfl))
theorem ml_X8_136 : Cond.methodLink RX8 136 yX7_writeLetter ∈ Om := (om_wsL_law0_r43 _ (List.mem_of_getElem? (i := 0) rfl))
theorem im_X7_writeLetter : Cond.instanceMethod yX7_writeLetter ∈ Om := (om_wsL_law0_r43 _ (List.mem_of_getElem? (i := 1) rfl))
theorem sl_X7_writeLetter : Cond.selects RX7 yX7_writeLetter yX7_writeLetter ∈ Om := (om_wsL_law0_r43 _ (List.mem_of_getElem? (i := 2) rfl))
theorem ml_X7_25 : Cond.methodLink RX7 25 yX1_size ∈ Om := (om_wsL_law0_r43 _ (List.mem_of_getElem? (i := 4) rfl))
theorem ml_X7_30 : Cond.methodLink RX7 30 yX7_put ∈ Om := (om_wsL_law0_r43 _ (List.mem_of_getElem? (i := 5) rfl))
theorem im_X7_put : Cond.instanceMethod yX7_put ∈ Om := (om_wsL_law0_r43 _ (List.mem_of_getElem? (i := 6) rfl))
theorem sl_X7_put : Cond.selects RX7 yX7_put yX7_put ∈ Om := (om_wsL_law0_r43 _ (List.mem_of_getElem? (i := 7) rfl))
theorem ml_X7_34 : Cond.methodLink RX7 34 yX1_at ∈ Om := (om_wsL_law0_r43 _ (List.mem_of_getElem? (i := 9) rfl))
theorem ml_X7_38 : Cond.methodLink RX7 38 yX7_writeSentence ∈ Om := (om_wsL_law0_r43 _ (List.mem_of_getElem? (i := 10) rfl))
theorem im_X7_writeSentence : Cond.instanceMethod yX7_writeSentence ∈ Om := (om_wsL_law0_r43 _ (List.mem_of_getElem? (i := 11) rfl))
theorem sl_X7_writeSentence : Cond.selects RX7 yX7_writeSentence yX7_writeSentence ∈ Om := (om_wsL_law0_r43 _ (List.mem_of_getElem? (i := 12) rfl))
theorem ml_X7_50 : Cond.methodLink RX7 50 yX7_writeWord ∈ Om := (om_wsL_law0_r43 _ (List.mem_of_getElem? (i := 21) rfl))
theorem im_X7_writeWord : Cond.instanceMethod yX7_writeWord ∈ Om := (om_wsL_law0_r43 _ (List.mem_of_getElem? (i := 22) rfl))
theorem sl_X7_writeWord : Cond.selects RX7 yX7_writeWord yX7_writeWord ∈ Om := (om_wsL_law0_r43 _ (List.mem_of_getElem? (i := 23) rfl))
theorem ml_X7_105 : Cond.methodLink RX7 105 yX7_blank ∈ Om := (om_wsL_law0_r44 _ (List.mem_of_getElem? (i := 1) rfl))
theorem im_X7_blank : Cond.instanceMethod yX7_blank ∈ Om := (om_wsL_law0_r44 _ (List.mem_of_getElem? (i := 2) rfl))
theorem sl_X7_blank : Cond.selects RX7 yX7_blank yX7_blank ∈ Om := (om_wsL_law0_r44 _ (List.mem_of_getElem? (i := 3) rfl))
theorem ml_X7_108 : Cond.methodLink RX7 108 yX5_text ∈ Om := (om_wsL_law0_r44 _ (List.mem_of_getElem? (i := 5) rfl))
theorem ml_X7_112 : Cond.methodLink RX7 112 yJ0_length_8abf5 ∈ Om := (om_wsL_law0_r44 _ (List.mem_of_getElem? (i := 6) rfl))
theorem ml_X7_117 : Cond.methodLink RX7 117 yJ0_charAt_5068e ∈ Om := (om_wsL_law0_r44 _ (List.mem_of_getElem? (i := 7) rfl))
theorem ml_X7_53 : Cond.methodLink RX7 53 yX7_writeCond ∈ Om := (om_wsL_law0_r44 _ (List.mem_of_getElem? (i := 8) rfl))
theorem im_X7_writeCond : Cond.instanceMethod yX7_writeCond ∈ Om := (om_wsL_law0_r44 _ (List.mem_of_getElem? (i := 9) rfl))
theorem sl_X7_writeCond : Cond.selects RX7 yX7_writeCond yX7_writeCond ∈ Om := (om_wsL_law0_r44 _ (List.mem_of_getElem? (i := 10) rfl))
theorem ml_X7_86 : Cond.methodLink RX7 86 yX7_writeNumber ∈ Om := (om_wsL_law0_r44 _ (List.mem_of_getElem? (i := 15) rfl))
theorem im_X7_writeNumber : Cond.instanceMethod yX7_writeNumber ∈ Om := (om_wsL_law0_r44 _ (List.mem_of_getElem? (i := 16) rfl))
theorem sl_X7_writeNumber : Cond.selects RX7 yX7_writeNumber yX7_writeNumber ∈ Om := (om_wsL_law0_r44 _ (List.mem_of_getElem? (i := 17) rfl))
theorem ml_X7_101 : Cond.methodLink RX7 101 yX7_writePiece ∈ Om := (om_wsL_law0_r44 _ (List.mem_of_getElem? (i := 19) rfl))
theorem im_X7_writePiece : Cond.instanceMethod yX7_writePiece ∈ Om := (om_wsL_law0_r44 _ (List.mem_of_getElem? (i := 20) rfl))
theorem sl_X7_writePiece : Cond.selects RX7 yX7_writePiece yX7_writePiece ∈ Om := (om_wsL_law0_r44 _ (List.mem_of_getElem? (i := 21) rfl))
theorem ml_X7_64 : Cond.methodLink RX7 64 yX7_writeActs ∈ Om := (om_wsL_law0_r44 _ (List.mem_of_getElem? (i := 23) rfl))
theorem im_X7_writeActs : Cond.instanceMethod yX7_writeActs ∈ Om := (om_wsL_law0_r45 _ (List.mem_of_getElem? (i := 0) rfl))
theorem sl_X7_writeActs : Cond.selects RX7 yX7_writeActs yX7_writeActs ∈ Om := (om_wsL_law0_r45 _ (List.mem_of_getElem? (i := 1) rfl))
theorem ml_X7_71 : Cond.methodLink RX7 71 yX7_writeMode ∈ Om := (om_wsL_law0_r45 _ (List.mem_of_getElem? (i := 3) rfl))
theorem im_X7_writeMode : Cond.instanceMethod yX7_writeMode ∈ Om := (om_wsL_law0_r45 _ (List.mem_of_getElem? (i := 4) rfl))
theorem sl_X7_writeMode : Cond.selects RX7 yX7_writeMode yX7_writeMode ∈ Om := (om_wsL_law0_r45 _ (List.mem_of_getElem? (i := 5) rfl))
theorem ml_X7_77 : Cond.methodLink RX7 77 yX7_writeDone ∈ Om := (om_wsL_law0_r45 _ (List.mem_of_getElem? (i := 7) rfl))
theorem im_X7_writeDone : Cond.instanceMethod yX7_writeDone ∈ Om := (om_wsL_law0_r45 _ (List.mem_of_getElem? (i := 8) rfl))
theorem sl_X7_writeDone : Cond.selects RX7 yX7_writeDone yX7_writeDone ∈ Om := (om_wsL_law0_r45 _ (List.mem_of_getElem? (i := 9) rfl))
theorem ml_X8_144 : Cond.methodLink RX8 144 yX4_become ∈ Om := (om_wsL_law0_r45 _ (List.mem_of_getElem? (i := 11) rfl))
theorem im_X4_become : Cond.instanceMethod yX4_become ∈ Om := (om_wsL_law0_r45 _ (List.mem_of_getElem? (i := 12) rfl))
theorem sl_X4_become : Cond.selects RX4 yX4_become yX4_become ∈ Om := (om_wsL_law0_r45 _ (List.mem_of_getElem? (i := 13) rfl))
theorem ml_L_122 : Cond.methodLink RL 122 yX9_write ∈ Om := (om_wsL_law0_r45 _ (List.mem_of_getElem? (i := 16) rfl))
theorem im_X9_write : Cond.instanceMethod yX9_write ∈ Om := (om_wsL_law0_r45 _ (List.mem_of_getElem? (i := 17) rfl))
theorem sl_X9_write : Cond.selects RX9 yX9_write yX9_write ∈ Om := (om_wsL_law0_r45 _ (List.mem_of_getElem? (i := 18) rfl))
theorem ml_L_123 : Cond.methodLink RL 123 yX8_taped ∈ Om := (om_wsL_law0_r45 _ (List.mem_of_getElem? (i := 20) rfl))
theorem im_X8_taped : Cond.instanceMethod yX8_taped ∈ Om := (om_wsL_law0_r45 _ (List.mem_of_getElem? (i := 21) rfl))
theorem sl_X8_taped : Cond.selects RX8 yX8_taped yX8_taped ∈ Om := (om_wsL_law0_r45 _ (List.mem_of_getElem? (i := 22) rfl))
theorem ml_X8_147 : Cond.methodLink RX8 147 yX4_at ∈ Om := (om_wsL_law0_r46 _ (List.mem_of_getElem? (i := 0) rfl))
theorem ml_L_127 : Cond.methodLink RL 127 yX9_taped ∈ Om := (om_wsL_law0_r46 _ (List.mem_of_getElem? (i := 1) rfl))
theorem im_X9_taped : Cond.instanceMethod yX9_taped ∈ Om := (om_wsL_law0_r46 _ (List.mem_of_getElem? (i := 2) rfl))
theorem sl_X9_taped : Cond.selects RX9 yX9_taped yX9_taped ∈ Om := (om_wsL_law0_r46 _ (List.mem_of_getElem? (i := 3) rfl))
theorem ml_L_128 : Cond.methodLink RL 128 yL_ask ∈ Om := (om_wsL_law0_r46 _ (List.mem_of_getElem? (i := 5) rfl))
theorem sm_L_ask : Cond.static yL_ask ∈ Om := (om_wsL_law0_r46 _ (List.mem_of_getElem? (i := 6) rfl))
theorem ml_L_55 : Cond.methodLink RL 55 yX8_ask ∈ Om := (om_wsL_law0_r46 _ (List.mem_of_getElem? (i := 8) rfl))
theorem im_X8_ask : Cond.instanceMethod yX8_ask ∈ Om := (om_wsL_law0_r46 _ (List.mem_of_getElem? (i := 9) rfl))
theorem sl_X8_ask : Cond.selects RX8 yX8_ask yX8_ask ∈ Om := (om_wsL_law0_r46 _ (List.mem_of_getElem? (i := 10) rfl))
theorem ml_X8_149 : Cond.methodLink RX8 149 yX1_modesAsked ∈ Om := (om_wsL_law0_r46 _ (List.mem_of_getElem? (i := 12) rfl))
theorem im_X1_modesAsked : Cond.instanceMethod yX1_modesAsked ∈ Om := (om_wsL_law0_r46 _ (List.mem_of_getElem? (i := 13) rfl))
theorem sl_X1_modesAsked : Cond.selects RX1 yX1_modesAsked yX1_modesAsked ∈ Om := (om_wsL_law0_r46 _ (List.mem_of_getElem? (i := 14) rfl))
theorem ml_X1_115 : Cond.methodLink RX1 115 yX3_asks ∈ Om := (om_wsL_law0_r46 _ (List.mem_of_getElem? (i := 17) rfl))
theorem im_X3_asks : Cond.instanceMethod yX3_asks ∈ Om := (om_wsL_law0_r46 _ (List.mem_of_getElem? (i := 18) rfl))
theorem sl_X3_asks : Cond.selects RX3 yX3_asks yX3_asks ∈ Om := (om_wsL_law0_r46 _ (List.mem_of_getElem? (i := 19) rfl))
theorem ml_X3_84 : Cond.methodLink RX3 84 yX3_truth ∈ Om := (om_wsL_law0_r46 _ (List.mem_of_getElem? (i := 21) rfl))
theorem ml_L_131 : Cond.methodLink RL 131 yX9_ask ∈ Om := (om_wsL_law0_r46 _ (List.mem_of_getElem? (i := 22) rfl))
theorem im_X9_ask : Cond.instanceMethod yX9_ask ∈ Om := (om_wsL_law0_r46 _ (List.mem_of_getElem? (i := 23) rfl))
theorem sl_X9_ask : Cond.selects RX9 yX9_ask yX9_ask ∈ Om := (om_wsL_law0_r47 _ (List.mem_of_getElem? (i := 0) rfl))
theorem ml_L_132 : Cond.methodLink RL 132 yL_days ∈ Om := (om_wsL_law0_r47 _ (List.mem_of_getElem? (i := 2) rfl))
theorem sm_L_days : Cond.static yL_days ∈ Om := (om_wsL_law0_r47 _ (List.mem_of_getElem? (i := 3) rfl))
theorem ml_L_59 : Cond.methodLink RL 59 yX8_days ∈ Om := (om_wsL_law0_r47 _ (List.mem_of_getElem? (i := 5) rfl))
theorem im_X8_days : Cond.instanceMethod yX8_days ∈ Om := (om_wsL_law0_r47 _ (List.mem_of_getElem? (i := 6) rfl))
theorem sl_X8_days : Cond.selects RX8 yX8_days yX8_days ∈ Om := (om_wsL_law0_r47 _ (List.mem_of_getElem? (i := 7) rfl))
theorem ml_X8_153 : Cond.methodLink RX8 153 yX1_leastDays ∈ Om := (om_wsL_law0_r47 _ (List.mem_of_getElem? (i := 9) rfl))
theorem im_X1_leastDays : Cond.instanceMethod yX1_leastDays ∈ Om := (om_wsL_law0_r47 _ (List.mem_of_getElem? (i := 10) rfl))
theorem sl_X1_leastDays : Cond.selects RX1 yX1_leastDays yX1_leastDays ∈ Om := (om_wsL_law0_r47 _ (List.mem_of_getElem? (i := 11) rfl))
theorem ml_L_135 : Cond.methodLink RL 135 yX9_days ∈ Om := (om_wsL_law0_r47 _ (List.mem_of_getElem? (i := 15) rfl))
theorem im_X9_days : Cond.instanceMethod yX9_days ∈ Om := (om_wsL_law0_r47 _ (List.mem_of_getElem? (i := 16) rfl))
theorem sl_X9_days : Cond.selects RX9 yX9_days yX9_days ∈ Om := (om_wsL_law0_r47 _ (List.mem_of_getElem? (i := 17) rfl))
theorem ml_L_136 : Cond.methodLink RL 136 yX8_count ∈ Om := (om_wsL_law0_r47 _ (List.mem_of_getElem? (i := 20) rfl))
theorem im_X8_count : Cond.instanceMethod yX8_count ∈ Om := (om_wsL_law0_r47 _ (List.mem_of_getElem? (i := 21) rfl))
theorem sl_X8_count : Cond.selects RX8 yX8_count yX8_count ∈ Om := (om_wsL_law0_r47 _ (List.mem_of_getElem? (i := 22) rfl))
theorem ml_L_139 : Cond.methodLink RL 139 yX9_count ∈ Om := (om_wsL_law0_r48 _ (List.mem_of_getElem? (i := 0) rfl))
theorem im_X9_count : Cond.instanceMethod yX9_count ∈ Om := (om_wsL_law0_r48 _ (List.mem_of_getElem? (i := 1) rfl))
theorem sl_X9_count : Cond.selects RX9 yX9_count yX9_count ∈ Om := (om_wsL_law0_r48 _ (List.mem_of_getElem? (i := 2) rfl))
