/-! the law's words, chunk by chunk -/
def v_tl44 : List Cond := wsL_law_r44
def v_tl43 : List Cond := wsL_law_r43 ++ v_tl44
def v_tl42 : List Cond := wsL_law_r42 ++ v_tl43
def v_tl41 : List Cond := wsL_law_r41 ++ v_tl42
def v_tl40 : List Cond := wsL_law_r40 ++ v_tl41
def v_tl39 : List Cond := wsL_law_r39 ++ v_tl40
def v_tl38 : List Cond := wsL_law_r38 ++ v_tl39
def v_tl37 : List Cond := wsL_law_r37 ++ v_tl38
def v_tl36 : List Cond := wsL_law_r36 ++ v_tl37
def v_tl35 : List Cond := wsL_law_r35 ++ v_tl36
def v_tl34 : List Cond := wsL_law_r34 ++ v_tl35
def v_tl33 : List Cond := wsL_law_r33 ++ v_tl34
def v_tl32 : List Cond := wsL_law_r32 ++ v_tl33
def v_tl31 : List Cond := wsL_law_r31 ++ v_tl32
def v_tl30 : List Cond := wsL_law_r30 ++ v_tl31
def v_tl29 : List Cond := wsL_law_r29 ++ v_tl30
def v_tl28 : List Cond := wsL_law_r28 ++ v_tl29
def v_tl27 : List Cond := wsL_law_r27 ++ v_tl28
def v_tl26 : List Cond := wsL_law_r26 ++ v_tl27
def v_tl25 : List Cond := wsL_law_r25 ++ v_tl26
def v_tl24 : List Cond := wsL_law_r24 ++ v_tl25
def v_tl23 : List Cond := wsL_law_r23 ++ v_tl24
def v_tl22 : List Cond := wsL_law_r22 ++ v_tl23
def v_tl21 : List Cond := wsL_law_r21 ++ v_tl22
def v_tl20 : List Cond := wsL_law_r20 ++ v_tl21
def v_tl19 : List Cond := wsL_law_r19 ++ v_tl20
def v_tl18 : List Cond := wsL_law_r18 ++ v_tl19
def v_tl17 : List Cond := wsL_law_r17 ++ v_tl18
def v_tl16 : List Cond := wsL_law_r16 ++ v_tl17
def v_tl15 : List Cond := wsL_law_r15 ++ v_tl16
def v_tl14 : List Cond := wsL_law_r14 ++ v_tl15
def v_tl13 : List Cond := wsL_law_r13 ++ v_tl14
def v_tl12 : List Cond := wsL_law_r12 ++ v_tl13
def v_tl11 : List Cond := wsL_law_r11 ++ v_tl12
def v_tl10 : List Cond := wsL_law_r10 ++ v_tl11
def v_tl9 : List Cond := wsL_law_r9 ++ v_tl10
def v_tl8 : List Cond := wsL_law_r8 ++ v_tl9
def v_tl7 : List Cond := wsL_law_r7 ++ v_tl8
def v_tl6 : List Cond := wsL_law_r6 ++ v_tl7
def v_tl5 : List Cond := wsL_law_r5 ++ v_tl6
def v_tl4 : List Cond := wsL_law_r4 ++ v_tl5
def v_tl3 : List Cond := wsL_law_r3 ++ v_tl4
def v_tl2 : List Cond := wsL_law_r2 ++ v_tl3
def v_tl1 : List Cond := wsL_law_r1 ++ v_tl2
theorem v_t1 : ∀ w ∈ v_tl1, w ∈ wsL_law := fun w h => List.mem_append_left _ (List.mem_append_left _ (List.mem_append_left _ (List.mem_append_left _ (List.mem_append_left _ (List.mem_append_left _ (List.mem_append_left _ (List.mem_append_left _ (List.mem_append_left _ (List.mem_append_left _ (List.mem_append_left _ (List.mem_append_left _ h)))))))))))
theorem v_t2 : ∀ w ∈ v_tl2, w ∈ wsL_law := fun w h => v_t1 w (List.mem_append_right _ h)
theorem v_t3 : ∀ w ∈ v_tl3, w ∈ wsL_law := fun w h => v_t2 w (List.mem_append_right _ h)
theorem v_t4 : ∀ w ∈ v_tl4, w ∈ wsL_law := fun w h => v_t3 w (List.mem_append_right _ h)
theorem v_t5 : ∀ w ∈ v_tl5, w ∈ wsL_law := fun w h => v_t4 w (List.mem_append_right _ h)
theorem v_t6 : ∀ w ∈ v_tl6, w ∈ wsL_law := fun w h => v_t5 w (List.mem_append_right _ h)
theorem v_t7 : ∀ w ∈ v_tl7, w ∈ wsL_law := fun w h => v_t6 w (List.mem_append_right _ h)
theorem v_t8 : ∀ w ∈ v_tl8, w ∈ wsL_law := fun w h => v_t7 w (List.mem_append_right _ h)
theorem v_t9 : ∀ w ∈ v_tl9, w ∈ wsL_law := fun w h => v_t8 w (List.mem_append_right _ h)
theorem v_t10 : ∀ w ∈ v_tl10, w ∈ wsL_law := fun w h => v_t9 w (List.mem_append_right _ h)
theorem v_t11 : ∀ w ∈ v_tl11, w ∈ wsL_law := fun w h => v_t10 w (List.mem_append_right _ h)
theorem v_t12 : ∀ w ∈ v_tl12, w ∈ wsL_law := fun w h => v_t11 w (List.mem_append_right _ h)
theorem v_t13 : ∀ w ∈ v_tl13, w ∈ wsL_law := fun w h => v_t12 w (List.mem_append_right _ h)
theorem v_t14 : ∀ w ∈ v_tl14, w ∈ wsL_law := fun w h => v_t13 w (List.mem_append_right _ h)
theorem v_t15 : ∀ w ∈ v_tl15, w ∈ wsL_law := fun w h => v_t14 w (List.mem_append_right _ h)
theorem v_t16 : ∀ w ∈ v_tl16, w ∈ wsL_law := fun w h => v_t15 w (List.mem_append_right _ h)
theorem v_t17 : ∀ w ∈ v_tl17, w ∈ wsL_law := fun w h => v_t16 w (List.mem_append_right _ h)
theorem v_t18 : ∀ w ∈ v_tl18, w ∈ wsL_law := fun w h => v_t17 w (List.mem_append_right _ h)
theorem v_t19 : ∀ w ∈ v_tl19, w ∈ wsL_law := fun w h => v_t18 w (List.mem_append_right _ h)
theorem v_t20 : ∀ w ∈ v_tl20, w ∈ wsL_law := fun w h => v_t19 w (List.mem_append_right _ h)
theorem v_t21 : ∀ w ∈ v_tl21, w ∈ wsL_law := fun w h => v_t20 w (List.mem_append_right _ h)
theorem v_t22 : ∀ w ∈ v_tl22, w ∈ wsL_law := fun w h => v_t21 w (List.mem_append_right _ h)
theorem v_t23 : ∀ w ∈ v_tl23, w ∈ wsL_law := fun w h => v_t22 w (List.mem_append_right _ h)
theorem v_t24 : ∀ w ∈ v_tl24, w ∈ wsL_law := fun w h => v_t23 w (List.mem_append_right _ h)
theorem v_t25 : ∀ w ∈ v_tl25, w ∈ wsL_law := fun w h => v_t24 w (List.mem_append_right _ h)
theorem v_t26 : ∀ w ∈ v_tl26, w ∈ wsL_law := fun w h => v_t25 w (List.mem_append_right _ h)
theorem v_t27 : ∀ w ∈ v_tl27, w ∈ wsL_law := fun w h => v_t26 w (List.mem_append_right _ h)
theorem v_t28 : ∀ w ∈ v_tl28, w ∈ wsL_law := fun w h => v_t27 w (List.mem_append_right _ h)
theorem v_t29 : ∀ w ∈ v_tl29, w ∈ wsL_law := fun w h => v_t28 w (List.mem_append_right _ h)
theorem v_t30 : ∀ w ∈ v_tl30, w ∈ wsL_law := fun w h => v_t29 w (List.mem_append_right _ h)
theorem v_t31 : ∀ w ∈ v_tl31, w ∈ wsL_law := fun w h => v_t30 w (List.mem_append_right _ h)
theorem v_t32 : ∀ w ∈ v_tl32, w ∈ wsL_law := fun w h => v_t31 w (List.mem_append_right _ h)
theorem v_t33 : ∀ w ∈ v_tl33, w ∈ wsL_law := fun w h => v_t32 w (List.mem_append_right _ h)
theorem v_t34 : ∀ w ∈ v_tl34, w ∈ wsL_law := fun w h => v_t33 w (List.mem_append_right _ h)
theorem v_t35 : ∀ w ∈ v_tl35, w ∈ wsL_law := fun w h => v_t34 w (List.mem_append_right _ h)
theorem v_t36 : ∀ w ∈ v_tl36, w ∈ wsL_law := fun w h => v_t35 w (List.mem_append_right _ h)
theorem v_t37 : ∀ w ∈ v_tl37, w ∈ wsL_law := fun w h => v_t36 w (List.mem_append_right _ h)
theorem v_t38 : ∀ w ∈ v_tl38, w ∈ wsL_law := fun w h => v_t37 w (List.mem_append_right _ h)
theorem v_t39 : ∀ w ∈ v_tl39, w ∈ wsL_law := fun w h => v_t38 w (List.mem_append_right _ h)
theorem v_t40 : ∀ w ∈ v_tl40, w ∈ wsL_law := fun w h => v_t39 w (List.mem_append_right _ h)
theorem v_t41 : ∀ w ∈ v_tl41, w ∈ wsL_law := fun w h => v_t40 w (List.mem_append_right _ h)
theorem v_t42 : ∀ w ∈ v_tl42, w ∈ wsL_law := fun w h => v_t41 w (List.mem_append_right _ h)
theorem v_t43 : ∀ w ∈ v_tl43, w ∈ wsL_law := fun w h => v_t42 w (List.mem_append_right _ h)
theorem v_t44 : ∀ w ∈ v_tl44, w ∈ wsL_law := fun w h => v_t43 w (List.mem_append_right _ h)
theorem v_r1 : ∀ w ∈ wsL_law_r1, w ∈ wsL_law := fun w h => v_t1 w (List.mem_append_left _ h)
theorem v_r2 : ∀ w ∈ wsL_law_r2, w ∈ wsL_law := fun w h => v_t2 w (List.mem_append_left _ h)
theorem v_r3 : ∀ w ∈ wsL_law_r3, w ∈ wsL_law := fun w h => v_t3 w (List.mem_append_left _ h)
theorem v_r4 : ∀ w ∈ wsL_law_r4, w ∈ wsL_law := fun w h => v_t4 w (List.mem_append_left _ h)
theorem v_r5 : ∀ w ∈ wsL_law_r5, w ∈ wsL_law := fun w h => v_t5 w (List.mem_append_left _ h)
theorem v_r6 : ∀ w ∈ wsL_law_r6, w ∈ wsL_law := fun w h => v_t6 w (List.mem_append_left _ h)
theorem v_r7 : ∀ w ∈ wsL_law_r7, w ∈ wsL_law := fun w h => v_t7 w (List.mem_append_left _ h)
theorem v_r8 : ∀ w ∈ wsL_law_r8, w ∈ wsL_law := fun w h => v_t8 w (List.mem_append_left _ h)
theorem v_r9 : ∀ w ∈ wsL_law_r9, w ∈ wsL_law := fun w h => v_t9 w (List.mem_append_left _ h)
theorem v_r10 : ∀ w ∈ wsL_law_r10, w ∈ wsL_law := fun w h => v_t10 w (List.mem_append_left _ h)
theorem v_r11 : ∀ w ∈ wsL_law_r11, w ∈ wsL_law := fun w h => v_t11 w (List.mem_append_left _ h)
theorem v_r12 : ∀ w ∈ wsL_law_r12, w ∈ wsL_law := fun w h => v_t12 w (List.mem_append_left _ h)
theorem v_r13 : ∀ w ∈ wsL_law_r13, w ∈ wsL_law := fun w h => v_t13 w (List.mem_append_left _ h)
theorem v_r14 : ∀ w ∈ wsL_law_r14, w ∈ wsL_law := fun w h => v_t14 w (List.mem_append_left _ h)
theorem v_r15 : ∀ w ∈ wsL_law_r15, w ∈ wsL_law := fun w h => v_t15 w (List.mem_append_left _ h)
theorem v_r16 : ∀ w ∈ wsL_law_r16, w ∈ wsL_law := fun w h => v_t16 w (List.mem_append_left _ h)
theorem v_r17 : ∀ w ∈ wsL_law_r17, w ∈ wsL_law := fun w h => v_t17 w (List.mem_append_left _ h)
theorem v_r18 : ∀ w ∈ wsL_law_r18, w ∈ wsL_law := fun w h => v_t18 w (List.mem_append_left _ h)
theorem v_r19 : ∀ w ∈ wsL_law_r19, w ∈ wsL_law := fun w h => v_t19 w (List.mem_append_left _ h)
theorem v_r20 : ∀ w ∈ wsL_law_r20, w ∈ wsL_law := fun w h => v_t20 w (List.mem_append_left _ h)
theorem v_r21 : ∀ w ∈ wsL_law_r21, w ∈ wsL_law := fun w h => v_t21 w (List.mem_append_left _ h)
theorem v_r22 : ∀ w ∈ wsL_law_r22, w ∈ wsL_law := fun w h => v_t22 w (List.mem_append_left _ h)
theorem v_r23 : ∀ w ∈ wsL_law_r23, w ∈ wsL_law := fun w h => v_t23 w (List.mem_append_left _ h)
theorem v_r24 : ∀ w ∈ wsL_law_r24, w ∈ wsL_law := fun w h => v_t24 w (List.mem_append_left _ h)
theorem v_r25 : ∀ w ∈ wsL_law_r25, w ∈ wsL_law := fun w h => v_t25 w (List.mem_append_left _ h)
theorem v_r26 : ∀ w ∈ wsL_law_r26, w ∈ wsL_law := fun w h => v_t26 w (List.mem_append_left _ h)
theorem v_r27 : ∀ w ∈ wsL_law_r27, w ∈ wsL_law := fun w h => v_t27 w (List.mem_append_left _ h)
theorem v_r28 : ∀ w ∈ wsL_law_r28, w ∈ wsL_law := fun w h => v_t28 w (List.mem_append_left _ h)
theorem v_r29 : ∀ w ∈ wsL_law_r29, w ∈ wsL_law := fun w h => v_t29 w (List.mem_append_left _ h)
theorem v_r30 : ∀ w ∈ wsL_law_r30, w ∈ wsL_law := fun w h => v_t30 w (List.mem_append_left _ h)
theorem v_r31 : ∀ w ∈ wsL_law_r31, w ∈ wsL_law := fun w h => v_t31 w (List.mem_append_left _ h)
theorem v_r32 : ∀ w ∈ wsL_law_r32, w ∈ wsL_law := fun w h => v_t32 w (List.mem_append_left _ h)
theorem v_r33 : ∀ w ∈ wsL_law_r33, w ∈ wsL_law := fun w h => v_t33 w (List.mem_append_left _ h)
theorem v_r34 : ∀ w ∈ wsL_law_r34, w ∈ wsL_law := fun w h => v_t34 w (List.mem_append_left _ h)
theorem v_r35 : ∀ w ∈ wsL_law_r35, w ∈ wsL_law := fun w h => v_t35 w (List.mem_append_left _ h)
theorem v_r36 : ∀ w ∈ wsL_law_r36, w ∈ wsL_law := fun w h => v_t36 w (List.mem_append_left _ h)
theorem v_r37 : ∀ w ∈ wsL_law_r37, w ∈ wsL_law := fun w h => v_t37 w (List.mem_append_left _ h)
theorem v_r38 : ∀ w ∈ wsL_law_r38, w ∈ wsL_law := fun w h => v_t38 w (List.mem_append_left _ h)
theorem v_r39 : ∀ w ∈ wsL_law_r39, w ∈ wsL_law := fun w h => v_t39 w (List.mem_append_left _ h)
theorem v_r40 : ∀ w ∈ wsL_law_r40, w ∈ wsL_law := fun w h => v_t40 w (List.mem_append_left _ h)
theorem v_r41 : ∀ w ∈ wsL_law_r41, w ∈ wsL_law := fun w h => v_t41 w (List.mem_append_left _ h)
theorem v_r42 : ∀ w ∈ wsL_law_r42, w ∈ wsL_law := fun w h => v_t42 w (List.mem_append_left _ h)
theorem v_r43 : ∀ w ∈ wsL_law_r43, w ∈ wsL_law := fun w h => v_t43 w (List.mem_append_left _ h)
theorem v_r44 : ∀ w ∈ wsL_law_r44, w ∈ wsL_law := fun w h => v_t44 w h
set_option maxRecDepth 100000 in
theorem v_good_all : wsL_law.all goodWord = true := by decide +kernel
