/-! the law's words, chunk by chunk -/
def v_tl78 : List Cond := wsL_law_r78
def v_tl77 : List Cond := wsL_law_r77 ++ v_tl78
def v_tl76 : List Cond := wsL_law_r76 ++ v_tl77
def v_tl75 : List Cond := wsL_law_r75 ++ v_tl76
def v_tl74 : List Cond := wsL_law_r74 ++ v_tl75
def v_tl73 : List Cond := wsL_law_r73 ++ v_tl74
def v_tl72 : List Cond := wsL_law_r72 ++ v_tl73
def v_tl71 : List Cond := wsL_law_r71 ++ v_tl72
def v_tl70 : List Cond := wsL_law_r70 ++ v_tl71
def v_tl69 : List Cond := wsL_law_r69 ++ v_tl70
def v_tl68 : List Cond := wsL_law_r68 ++ v_tl69
def v_tl67 : List Cond := wsL_law_r67 ++ v_tl68
def v_tl66 : List Cond := wsL_law_r66 ++ v_tl67
def v_tl65 : List Cond := wsL_law_r65 ++ v_tl66
def v_tl64 : List Cond := wsL_law_r64 ++ v_tl65
def v_tl63 : List Cond := wsL_law_r63 ++ v_tl64
def v_tl62 : List Cond := wsL_law_r62 ++ v_tl63
def v_tl61 : List Cond := wsL_law_r61 ++ v_tl62
def v_tl60 : List Cond := wsL_law_r60 ++ v_tl61
def v_tl59 : List Cond := wsL_law_r59 ++ v_tl60
def v_tl58 : List Cond := wsL_law_r58 ++ v_tl59
def v_tl57 : List Cond := wsL_law_r57 ++ v_tl58
def v_tl56 : List Cond := wsL_law_r56 ++ v_tl57
def v_tl55 : List Cond := wsL_law_r55 ++ v_tl56
def v_tl54 : List Cond := wsL_law_r54 ++ v_tl55
def v_tl53 : List Cond := wsL_law_r53 ++ v_tl54
def v_tl52 : List Cond := wsL_law_r52 ++ v_tl53
def v_tl51 : List Cond := wsL_law_r51 ++ v_tl52
def v_tl50 : List Cond := wsL_law_r50 ++ v_tl51
def v_tl49 : List Cond := wsL_law_r49 ++ v_tl50
def v_tl48 : List Cond := wsL_law_r48 ++ v_tl49
def v_tl47 : List Cond := wsL_law_r47 ++ v_tl48
def v_tl46 : List Cond := wsL_law_r46 ++ v_tl47
def v_tl45 : List Cond := wsL_law_r45 ++ v_tl46
def v_tl44 : List Cond := wsL_law_r44 ++ v_tl45
def v_tl43 : List Cond := wsL_law_r43 ++ v_tl44
def v_tl42 : List Cond := wsL_law_r42 ++ v_tl43
def v_tl41 : List Cond := wsL_law_r41 ++ v_tl42
def v_tl40 : List Cond := wsL_law_r40 ++ v_tl41
def v_tl39 : List Cond := wsL_law_r39 ++ v_tl40
def v_tl38 : List Cond := wsL_law_r38 ++ v_tl39
def v_tl37 : List Cond := wsL_law_r37 ++ v_tl38
def v_tl36 : List Cond := wsL_law_r36 ++ v_tl37
def v_tl35 : List Cond := wsL_law_r35 ++ v_tl36
def v_tl34 : List Cond := wsL_law_r34 ++ v_tl35
def v_tl33 : List Cond := wsL_law_r33 ++ v_tl34
def v_tl32 : List Cond := wsL_law_r32 ++ v_tl33
def v_tl31 : List Cond := wsL_law_r31 ++ v_tl32
def v_tl30 : List Cond := wsL_law_r30 ++ v_tl31
def v_tl29 : List Cond := wsL_law_r29 ++ v_tl30
def v_tl28 : List Cond := wsL_law_r28 ++ v_tl29
def v_tl27 : List Cond := wsL_law_r27 ++ v_tl28
def v_tl26 : List Cond := wsL_law_r26 ++ v_tl27
def v_tl25 : List Cond := wsL_law_r25 ++ v_tl26
def v_tl24 : List Cond := wsL_law_r24 ++ v_tl25
def v_tl23 : List Cond := wsL_law_r23 ++ v_tl24
def v_tl22 : List Cond := wsL_law_r22 ++ v_tl23
def v_tl21 : List Cond := wsL_law_r21 ++ v_tl22
def v_tl20 : List Cond := wsL_law_r20 ++ v_tl21
def v_tl19 : List Cond := wsL_law_r19 ++ v_tl20
def v_tl18 : List Cond := wsL_law_r18 ++ v_tl19
def v_tl17 : List Cond := wsL_law_r17 ++ v_tl18
def v_tl16 : List Cond := wsL_law_r16 ++ v_tl17
def v_tl15 : List Cond := wsL_law_r15 ++ v_tl16
def v_tl14 : List Cond := wsL_law_r14 ++ v_tl15
def v_tl13 : List Cond := wsL_law_r13 ++ v_tl14
def v_tl12 : List Cond := wsL_law_r12 ++ v_tl13
def v_tl11 : List Cond := wsL_law_r11 ++ v_tl12
def v_tl10 : List Cond := wsL_law_r10 ++ v_tl11
def v_tl9 : List Cond := wsL_law_r9 ++ v_tl10
def v_tl8 : List Cond := wsL_law_r8 ++ v_tl9
def v_tl7 : List Cond := wsL_law_r7 ++ v_tl8
def v_tl6 : List Cond := wsL_law_r6 ++ v_tl7
def v_tl5 : List Cond := wsL_law_r5 ++ v_tl6
def v_tl4 : List Cond := wsL_law_r4 ++ v_tl5
def v_tl3 : List Cond := wsL_law_r3 ++ v_tl4
def v_tl2 : List Cond := wsL_law_r2 ++ v_tl3
def v_tl1 : List Cond := wsL_law_r1 ++ v_tl2
theorem v_t1 : ∀ w ∈ v_tl1, w ∈ wsL_law := fun w h => List.mem_append_left _ (List.mem_append_left _ (List.mem_append_left _ (List.mem_append_left _ (List.mem_append_left _ (List.mem_append_left _ (List.mem_append_left _ (List.mem_append_left _ (List.mem_append_left _ (List.mem_append_left _ (List.mem_append_left _ (List.mem_append_left _ (List.mem_append_left _ h))))))))))))
theorem v_t2 : ∀ w ∈ v_tl2, w ∈ wsL_law := fun w h => v_t1 w (List.mem_append_right _ h)
theorem v_t3 : ∀ w ∈ v_tl3, w ∈ wsL_law := fun w h => v_t2 w (List.mem_append_right _ h)
theorem v_t4 : ∀ w ∈ v_tl4, w ∈ wsL_law := fun w h => v_t3 w (List.mem_append_right _ h)
theorem v_t5 : ∀ w ∈ v_tl5, w ∈ wsL_law := fun w h => v_t4 w (List.mem_append_right _ h)
theorem v_t6 : ∀ w ∈ v_tl6, w ∈ wsL_law := fun w h => v_t5 w (List.mem_append_right _ h)
theorem v_t7 : ∀ w ∈ v_tl7, w ∈ wsL_law := fun w h => v_t6 w (List.mem_append_right _ h)
theorem v_t8 : ∀ w ∈ v_tl8, w ∈ wsL_law := fun w h => v_t7 w (List.mem_append_right _ h)
theorem v_t9 : ∀ w ∈ v_tl9, w ∈ wsL_law := fun w h => v_t8 w (List.mem_append_right _ h)
theorem v_t10 : ∀ w ∈ v_tl10, w ∈ wsL_law := fun w h => v_t9 w (List.mem_append_right _ h)
theorem v_t11 : ∀ w ∈ v_tl11, w ∈ wsL_law := fun w h => v_t10 w (List.mem_append_right _ h)
theorem v_t12 : ∀ w ∈ v_tl12, w ∈ wsL_law := fun w h => v_t11 w (List.mem_append_right _ h)
theorem v_t13 : ∀ w ∈ v_tl13, w ∈ wsL_law := fun w h => v_t12 w (List.mem_append_right _ h)
theorem v_t14 : ∀ w ∈ v_tl14, w ∈ wsL_law := fun w h => v_t13 w (List.mem_append_right _ h)
theorem v_t15 : ∀ w ∈ v_tl15, w ∈ wsL_law := fun w h => v_t14 w (List.mem_append_right _ h)
theorem v_t16 : ∀ w ∈ v_tl16, w ∈ wsL_law := fun w h => v_t15 w (List.mem_append_right _ h)
theorem v_t17 : ∀ w ∈ v_tl17, w ∈ wsL_law := fun w h => v_t16 w (List.mem_append_right _ h)
theorem v_t18 : ∀ w ∈ v_tl18, w ∈ wsL_law := fun w h => v_t17 w (List.mem_append_right _ h)
theorem v_t19 : ∀ w ∈ v_tl19, w ∈ wsL_law := fun w h => v_t18 w (List.mem_append_right _ h)
theorem v_t20 : ∀ w ∈ v_tl20, w ∈ wsL_law := fun w h => v_t19 w (List.mem_append_right _ h)
theorem v_t21 : ∀ w ∈ v_tl21, w ∈ wsL_law := fun w h => v_t20 w (List.mem_append_right _ h)
theorem v_t22 : ∀ w ∈ v_tl22, w ∈ wsL_law := fun w h => v_t21 w (List.mem_append_right _ h)
theorem v_t23 : ∀ w ∈ v_tl23, w ∈ wsL_law := fun w h => v_t22 w (List.mem_append_right _ h)
theorem v_t24 : ∀ w ∈ v_tl24, w ∈ wsL_law := fun w h => v_t23 w (List.mem_append_right _ h)
theorem v_t25 : ∀ w ∈ v_tl25, w ∈ wsL_law := fun w h => v_t24 w (List.mem_append_right _ h)
theorem v_t26 : ∀ w ∈ v_tl26, w ∈ wsL_law := fun w h => v_t25 w (List.mem_append_right _ h)
theorem v_t27 : ∀ w ∈ v_tl27, w ∈ wsL_law := fun w h => v_t26 w (List.mem_append_right _ h)
theorem v_t28 : ∀ w ∈ v_tl28, w ∈ wsL_law := fun w h => v_t27 w (List.mem_append_right _ h)
theorem v_t29 : ∀ w ∈ v_tl29, w ∈ wsL_law := fun w h => v_t28 w (List.mem_append_right _ h)
theorem v_t30 : ∀ w ∈ v_tl30, w ∈ wsL_law := fun w h => v_t29 w (List.mem_append_right _ h)
theorem v_t31 : ∀ w ∈ v_tl31, w ∈ wsL_law := fun w h => v_t30 w (List.mem_append_right _ h)
theorem v_t32 : ∀ w ∈ v_tl32, w ∈ wsL_law := fun w h => v_t31 w (List.mem_append_right _ h)
theorem v_t33 : ∀ w ∈ v_tl33, w ∈ wsL_law := fun w h => v_t32 w (List.mem_append_right _ h)
theorem v_t34 : ∀ w ∈ v_tl34, w ∈ wsL_law := fun w h => v_t33 w (List.mem_append_right _ h)
theorem v_t35 : ∀ w ∈ v_tl35, w ∈ wsL_law := fun w h => v_t34 w (List.mem_append_right _ h)
theorem v_t36 : ∀ w ∈ v_tl36, w ∈ wsL_law := fun w h => v_t35 w (List.mem_append_right _ h)
theorem v_t37 : ∀ w ∈ v_tl37, w ∈ wsL_law := fun w h => v_t36 w (List.mem_append_right _ h)
theorem v_t38 : ∀ w ∈ v_tl38, w ∈ wsL_law := fun w h => v_t37 w (List.mem_append_right _ h)
theorem v_t39 : ∀ w ∈ v_tl39, w ∈ wsL_law := fun w h => v_t38 w (List.mem_append_right _ h)
theorem v_t40 : ∀ w ∈ v_tl40, w ∈ wsL_law := fun w h => v_t39 w (List.mem_append_right _ h)
theorem v_t41 : ∀ w ∈ v_tl41, w ∈ wsL_law := fun w h => v_t40 w (List.mem_append_right _ h)
theorem v_t42 : ∀ w ∈ v_tl42, w ∈ wsL_law := fun w h => v_t41 w (List.mem_append_right _ h)
theorem v_t43 : ∀ w ∈ v_tl43, w ∈ wsL_law := fun w h => v_t42 w (List.mem_append_right _ h)
theorem v_t44 : ∀ w ∈ v_tl44, w ∈ wsL_law := fun w h => v_t43 w (List.mem_append_right _ h)
theorem v_t45 : ∀ w ∈ v_tl45, w ∈ wsL_law := fun w h => v_t44 w (List.mem_append_right _ h)
theorem v_t46 : ∀ w ∈ v_tl46, w ∈ wsL_law := fun w h => v_t45 w (List.mem_append_right _ h)
theorem v_t47 : ∀ w ∈ v_tl47, w ∈ wsL_law := fun w h => v_t46 w (List.mem_append_right _ h)
theorem v_t48 : ∀ w ∈ v_tl48, w ∈ wsL_law := fun w h => v_t47 w (List.mem_append_right _ h)
theorem v_t49 : ∀ w ∈ v_tl49, w ∈ wsL_law := fun w h => v_t48 w (List.mem_append_right _ h)
theorem v_t50 : ∀ w ∈ v_tl50, w ∈ wsL_law := fun w h => v_t49 w (List.mem_append_right _ h)
theorem v_t51 : ∀ w ∈ v_tl51, w ∈ wsL_law := fun w h => v_t50 w (List.mem_append_right _ h)
theorem v_t52 : ∀ w ∈ v_tl52, w ∈ wsL_law := fun w h => v_t51 w (List.mem_append_right _ h)
theorem v_t53 : ∀ w ∈ v_tl53, w ∈ wsL_law := fun w h => v_t52 w (List.mem_append_right _ h)
theorem v_t54 : ∀ w ∈ v_tl54, w ∈ wsL_law := fun w h => v_t53 w (List.mem_append_right _ h)
theorem v_t55 : ∀ w ∈ v_tl55, w ∈ wsL_law := fun w h => v_t54 w (List.mem_append_right _ h)
theorem v_t56 : ∀ w ∈ v_tl56, w ∈ wsL_law := fun w h => v_t55 w (List.mem_append_right _ h)
theorem v_t57 : ∀ w ∈ v_tl57, w ∈ wsL_law := fun w h => v_t56 w (List.mem_append_right _ h)
theorem v_t58 : ∀ w ∈ v_tl58, w ∈ wsL_law := fun w h => v_t57 w (List.mem_append_right _ h)
theorem v_t59 : ∀ w ∈ v_tl59, w ∈ wsL_law := fun w h => v_t58 w (List.mem_append_right _ h)
theorem v_t60 : ∀ w ∈ v_tl60, w ∈ wsL_law := fun w h => v_t59 w (List.mem_append_right _ h)
theorem v_t61 : ∀ w ∈ v_tl61, w ∈ wsL_law := fun w h => v_t60 w (List.mem_append_right _ h)
theorem v_t62 : ∀ w ∈ v_tl62, w ∈ wsL_law := fun w h => v_t61 w (List.mem_append_right _ h)
theorem v_t63 : ∀ w ∈ v_tl63, w ∈ wsL_law := fun w h => v_t62 w (List.mem_append_right _ h)
theorem v_t64 : ∀ w ∈ v_tl64, w ∈ wsL_law := fun w h => v_t63 w (List.mem_append_right _ h)
theorem v_t65 : ∀ w ∈ v_tl65, w ∈ wsL_law := fun w h => v_t64 w (List.mem_append_right _ h)
theorem v_t66 : ∀ w ∈ v_tl66, w ∈ wsL_law := fun w h => v_t65 w (List.mem_append_right _ h)
theorem v_t67 : ∀ w ∈ v_tl67, w ∈ wsL_law := fun w h => v_t66 w (List.mem_append_right _ h)
theorem v_t68 : ∀ w ∈ v_tl68, w ∈ wsL_law := fun w h => v_t67 w (List.mem_append_right _ h)
theorem v_t69 : ∀ w ∈ v_tl69, w ∈ wsL_law := fun w h => v_t68 w (List.mem_append_right _ h)
theorem v_t70 : ∀ w ∈ v_tl70, w ∈ wsL_law := fun w h => v_t69 w (List.mem_append_right _ h)
theorem v_t71 : ∀ w ∈ v_tl71, w ∈ wsL_law := fun w h => v_t70 w (List.mem_append_right _ h)
theorem v_t72 : ∀ w ∈ v_tl72, w ∈ wsL_law := fun w h => v_t71 w (List.mem_append_right _ h)
theorem v_t73 : ∀ w ∈ v_tl73, w ∈ wsL_law := fun w h => v_t72 w (List.mem_append_right _ h)
theorem v_t74 : ∀ w ∈ v_tl74, w ∈ wsL_law := fun w h => v_t73 w (List.mem_append_right _ h)
theorem v_t75 : ∀ w ∈ v_tl75, w ∈ wsL_law := fun w h => v_t74 w (List.mem_append_right _ h)
theorem v_t76 : ∀ w ∈ v_tl76, w ∈ wsL_law := fun w h => v_t75 w (List.mem_append_right _ h)
theorem v_t77 : ∀ w ∈ v_tl77, w ∈ wsL_law := fun w h => v_t76 w (List.mem_append_right _ h)
theorem v_t78 : ∀ w ∈ v_tl78, w ∈ wsL_law := fun w h => v_t77 w (List.mem_append_right _ h)
theorem v_r1 : ∀ w ∈ wsL_law_r1, w ∈ wsL_law := fun w h => v_t1 w (List.mem_append_left _ h)
theorem v_r2 : ∀ w ∈ wsL_law_r2, w ∈ wsL_law := fun w h => v_t2 w (List.mem_append_left _ h)
theorem v_r3 : ∀ w ∈ wsL_law_r3, w ∈ wsL_law := fun w h => v_t3 w (List.mem_append_left _ h)
theorem v_r4 : ∀ w ∈ wsL_law_r4, w ∈ wsL_law := fun w h => v_t4 w (List.mem_append_left _ h)
theorem v_r5 : ∀ w ∈ wsL_law_r5, w ∈ wsL_law := fun w h => v_t5 w (List.mem_append_left _ h)
theorem v_r6 : ∀ w ∈ wsL_law_r6, w ∈ wsL_law := fun w h => v_t6 w (List.mem_append_left _ h)
theorem v_r7 : ∀ w ∈ wsL_law_r7, w ∈ wsL_law := fun w h => v_t7 w (List.mem_append_left _ h)
theorem v_r8 : ∀ w ∈ wsL_law_r8, w ∈ wsL_law := fun w h => v_t8 w (List.mem_append_left _ h)
theorem v_r9 : ∀ w ∈ wsL_law_r9, w ∈ wsL_law := fun w h => v_t9 w (List.mem_append_left _ h)
theorem v_r10 : ∀ w ∈ wsL_law_r10, w ∈ wsL_law := fun w h => v_t10 w (List.mem_append_left _ h)
theorem v_r11 : ∀ w ∈ wsL_law_r11, w ∈ wsL_law := fun w h => v_t11 w (List.mem_append_left _ h)
theorem v_r12 : ∀ w ∈ wsL_law_r12, w ∈ wsL_law := fun w h => v_t12 w (List.mem_append_left _ h)
theorem v_r13 : ∀ w ∈ wsL_law_r13, w ∈ wsL_law := fun w h => v_t13 w (List.mem_append_left _ h)
theorem v_r14 : ∀ w ∈ wsL_law_r14, w ∈ wsL_law := fun w h => v_t14 w (List.mem_append_left _ h)
theorem v_r15 : ∀ w ∈ wsL_law_r15, w ∈ wsL_law := fun w h => v_t15 w (List.mem_append_left _ h)
theorem v_r16 : ∀ w ∈ wsL_law_r16, w ∈ wsL_law := fun w h => v_t16 w (List.mem_append_left _ h)
theorem v_r17 : ∀ w ∈ wsL_law_r17, w ∈ wsL_law := fun w h => v_t17 w (List.mem_append_left _ h)
theorem v_r18 : ∀ w ∈ wsL_law_r18, w ∈ wsL_law := fun w h => v_t18 w (List.mem_append_left _ h)
theorem v_r19 : ∀ w ∈ wsL_law_r19, w ∈ wsL_law := fun w h => v_t19 w (List.mem_append_left _ h)
theorem v_r20 : ∀ w ∈ wsL_law_r20, w ∈ wsL_law := fun w h => v_t20 w (List.mem_append_left _ h)
theorem v_r21 : ∀ w ∈ wsL_law_r21, w ∈ wsL_law := fun w h => v_t21 w (List.mem_append_left _ h)
theorem v_r22 : ∀ w ∈ wsL_law_r22, w ∈ wsL_law := fun w h => v_t22 w (List.mem_append_left _ h)
theorem v_r23 : ∀ w ∈ wsL_law_r23, w ∈ wsL_law := fun w h => v_t23 w (List.mem_append_left _ h)
theorem v_r24 : ∀ w ∈ wsL_law_r24, w ∈ wsL_law := fun w h => v_t24 w (List.mem_append_left _ h)
theorem v_r25 : ∀ w ∈ wsL_law_r25, w ∈ wsL_law := fun w h => v_t25 w (List.mem_append_left _ h)
theorem v_r26 : ∀ w ∈ wsL_law_r26, w ∈ wsL_law := fun w h => v_t26 w (List.mem_append_left _ h)
theorem v_r27 : ∀ w ∈ wsL_law_r27, w ∈ wsL_law := fun w h => v_t27 w (List.mem_append_left _ h)
theorem v_r28 : ∀ w ∈ wsL_law_r28, w ∈ wsL_law := fun w h => v_t28 w (List.mem_append_left _ h)
theorem v_r29 : ∀ w ∈ wsL_law_r29, w ∈ wsL_law := fun w h => v_t29 w (List.mem_append_left _ h)
theorem v_r30 : ∀ w ∈ wsL_law_r30, w ∈ wsL_law := fun w h => v_t30 w (List.mem_append_left _ h)
theorem v_r31 : ∀ w ∈ wsL_law_r31, w ∈ wsL_law := fun w h => v_t31 w (List.mem_append_left _ h)
theorem v_r32 : ∀ w ∈ wsL_law_r32, w ∈ wsL_law := fun w h => v_t32 w (List.mem_append_left _ h)
theorem v_r33 : ∀ w ∈ wsL_law_r33, w ∈ wsL_law := fun w h => v_t33 w (List.mem_append_left _ h)
theorem v_r34 : ∀ w ∈ wsL_law_r34, w ∈ wsL_law := fun w h => v_t34 w (List.mem_append_left _ h)
theorem v_r35 : ∀ w ∈ wsL_law_r35, w ∈ wsL_law := fun w h => v_t35 w (List.mem_append_left _ h)
theorem v_r36 : ∀ w ∈ wsL_law_r36, w ∈ wsL_law := fun w h => v_t36 w (List.mem_append_left _ h)
theorem v_r37 : ∀ w ∈ wsL_law_r37, w ∈ wsL_law := fun w h => v_t37 w (List.mem_append_left _ h)
theorem v_r38 : ∀ w ∈ wsL_law_r38, w ∈ wsL_law := fun w h => v_t38 w (List.mem_append_left _ h)
theorem v_r39 : ∀ w ∈ wsL_law_r39, w ∈ wsL_law := fun w h => v_t39 w (List.mem_append_left _ h)
theorem v_r40 : ∀ w ∈ wsL_law_r40, w ∈ wsL_law := fun w h => v_t40 w (List.mem_append_left _ h)
theorem v_r41 : ∀ w ∈ wsL_law_r41, w ∈ wsL_law := fun w h => v_t41 w (List.mem_append_left _ h)
theorem v_r42 : ∀ w ∈ wsL_law_r42, w ∈ wsL_law := fun w h => v_t42 w (List.mem_append_left _ h)
theorem v_r43 : ∀ w ∈ wsL_law_r43, w ∈ wsL_law := fun w h => v_t43 w (List.mem_append_left _ h)
theorem v_r44 : ∀ w ∈ wsL_law_r44, w ∈ wsL_law := fun w h => v_t44 w (List.mem_append_left _ h)
theorem v_r45 : ∀ w ∈ wsL_law_r45, w ∈ wsL_law := fun w h => v_t45 w (List.mem_append_left _ h)
theorem v_r46 : ∀ w ∈ wsL_law_r46, w ∈ wsL_law := fun w h => v_t46 w (List.mem_append_left _ h)
theorem v_r47 : ∀ w ∈ wsL_law_r47, w ∈ wsL_law := fun w h => v_t47 w (List.mem_append_left _ h)
theorem v_r48 : ∀ w ∈ wsL_law_r48, w ∈ wsL_law := fun w h => v_t48 w (List.mem_append_left _ h)
theorem v_r49 : ∀ w ∈ wsL_law_r49, w ∈ wsL_law := fun w h => v_t49 w (List.mem_append_left _ h)
theorem v_r50 : ∀ w ∈ wsL_law_r50, w ∈ wsL_law := fun w h => v_t50 w (List.mem_append_left _ h)
theorem v_r51 : ∀ w ∈ wsL_law_r51, w ∈ wsL_law := fun w h => v_t51 w (List.mem_append_left _ h)
theorem v_r52 : ∀ w ∈ wsL_law_r52, w ∈ wsL_law := fun w h => v_t52 w (List.mem_append_left _ h)
theorem v_r53 : ∀ w ∈ wsL_law_r53, w ∈ wsL_law := fun w h => v_t53 w (List.mem_append_left _ h)
theorem v_r54 : ∀ w ∈ wsL_law_r54, w ∈ wsL_law := fun w h => v_t54 w (List.mem_append_left _ h)
theorem v_r55 : ∀ w ∈ wsL_law_r55, w ∈ wsL_law := fun w h => v_t55 w (List.mem_append_left _ h)
theorem v_r56 : ∀ w ∈ wsL_law_r56, w ∈ wsL_law := fun w h => v_t56 w (List.mem_append_left _ h)
theorem v_r57 : ∀ w ∈ wsL_law_r57, w ∈ wsL_law := fun w h => v_t57 w (List.mem_append_left _ h)
theorem v_r58 : ∀ w ∈ wsL_law_r58, w ∈ wsL_law := fun w h => v_t58 w (List.mem_append_left _ h)
theorem v_r59 : ∀ w ∈ wsL_law_r59, w ∈ wsL_law := fun w h => v_t59 w (List.mem_append_left _ h)
theorem v_r60 : ∀ w ∈ wsL_law_r60, w ∈ wsL_law := fun w h => v_t60 w (List.mem_append_left _ h)
theorem v_r61 : ∀ w ∈ wsL_law_r61, w ∈ wsL_law := fun w h => v_t61 w (List.mem_append_left _ h)
theorem v_r62 : ∀ w ∈ wsL_law_r62, w ∈ wsL_law := fun w h => v_t62 w (List.mem_append_left _ h)
theorem v_r63 : ∀ w ∈ wsL_law_r63, w ∈ wsL_law := fun w h => v_t63 w (List.mem_append_left _ h)
theorem v_r64 : ∀ w ∈ wsL_law_r64, w ∈ wsL_law := fun w h => v_t64 w (List.mem_append_left _ h)
theorem v_r65 : ∀ w ∈ wsL_law_r65, w ∈ wsL_law := fun w h => v_t65 w (List.mem_append_left _ h)
theorem v_r66 : ∀ w ∈ wsL_law_r66, w ∈ wsL_law := fun w h => v_t66 w (List.mem_append_left _ h)
theorem v_r67 : ∀ w ∈ wsL_law_r67, w ∈ wsL_law := fun w h => v_t67 w (List.mem_append_left _ h)
theorem v_r68 : ∀ w ∈ wsL_law_r68, w ∈ wsL_law := fun w h => v_t68 w (List.mem_append_left _ h)
theorem v_r69 : ∀ w ∈ wsL_law_r69, w ∈ wsL_law := fun w h => v_t69 w (List.mem_append_left _ h)
theorem v_r70 : ∀ w ∈ wsL_law_r70, w ∈ wsL_law := fun w h => v_t70 w (List.mem_append_left _ h)
theorem v_r71 : ∀ w ∈ wsL_law_r71, w ∈ wsL_law := fun w h => v_t71 w (List.mem_append_left _ h)
theorem v_r72 : ∀ w ∈ wsL_law_r72, w ∈ wsL_law := fun w h => v_t72 w (List.mem_append_left _ h)
theorem v_r73 : ∀ w ∈ wsL_law_r73, w ∈ wsL_law := fun w h => v_t73 w (List.mem_append_left _ h)
theorem v_r74 : ∀ w ∈ wsL_law_r74, w ∈ wsL_law := fun w h => v_t74 w (List.mem_append_left _ h)
theorem v_r75 : ∀ w ∈ wsL_law_r75, w ∈ wsL_law := fun w h => v_t75 w (List.mem_append_left _ h)
theorem v_r76 : ∀ w ∈ wsL_law_r76, w ∈ wsL_law := fun w h => v_t76 w (List.mem_append_left _ h)
theorem v_r77 : ∀ w ∈ wsL_law_r77, w ∈ wsL_law := fun w h => v_t77 w (List.mem_append_left _ h)
theorem v_r78 : ∀ w ∈ wsL_law_r78, w ∈ wsL_law := fun w h => v_t78 w h
set_option maxRecDepth 100000 in
theorem v_good_all : wsL_law.all goodWord = true := by decide +kernel
