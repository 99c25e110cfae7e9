set_option maxRecDepth 20000 in
theorem gX4_link_X4_isRole : GoodIn wsX4_link (va_wsS RX4 50 yX4_isRole wsX4_isRole) := goodIn_app (goodIn_of _ (by decide +kernel)) ggX4_link_X4_isRole
set_option maxRecDepth 20000 in
theorem ggX4_link_X4_linked : GoodIn wsX4_link wsX4_linked := goodIn_r _ [13] rfl (by decide +kernel)
set_option maxRecDepth 20000 in
theorem gX4_link_X4_linked : GoodIn wsX4_link (va_wsS RX4 81 yX4_linked wsX4_linked) := goodIn_app (goodIn_of _ (by decide +kernel)) ggX4_link_X4_linked
set_option maxRecDepth 20000 in
theorem ggX4_link_X4_follows : GoodIn wsX4_link wsX4_follows := goodIn_r _ [17, 18, 19, 20, 21, 5, 22, 23, 7, 24, 25, 26, 27, 28, 29, 30, 31, 32, 33, 34, 35, 36, 37, 38, 39, 11, 12, 13, 40, 41, 42, 43, 44, 45, 46, 47, 48, 49, 50, 51, 52, 53, 54, 55, 56, 57, 58, 59, 60, 61, 62, 63, 64, 65, 66, 67, 68, 69, 70, 71] rfl (by decide +kernel)
set_option maxRecDepth 20000 in
theorem gX4_link_X4_follows : GoodIn wsX4_link (wsV RX4 103 RX4 yX4_follows wsX4_follows) := goodIn_app (goodIn_of _ (by decide +kernel)) ggX4_link_X4_follows
set_option maxRecDepth 20000 in
theorem ggX4_rounds_X4_reckon : GoodIn wsX4_rounds wsX4_reckon := goodIn_r _ [7, 8, 9, 10, 11, 12, 2, 13, 14, 15, 16, 17, 6, 18, 19, 20, 21, 22, 23, 24, 25, 26, 27, 28, 29, 30, 31, 32, 33, 34, 35, 36, 37, 38, 39, 40, 41, 42, 43, 44, 45, 46, 47, 48, 49, 50, 51, 52, 53, 54, 55, 56, 57, 58, 59, 60] rfl (by decide +kernel)
set_option maxRecDepth 20000 in
theorem gX4_rounds_X4_reckon : GoodIn wsX4_rounds (wsV RX4 100 RX4 yX4_reckon wsX4_reckon) := goodIn_app (goodIn_of _ (by decide +kernel)) ggX4_rounds_X4_reckon
set_option maxRecDepth 20000 in
theorem ggX4_facts_X4_reckon : GoodIn wsX4_facts wsX4_reckon := goodIn_r _ [7, 8, 9, 10, 11, 12, 13, 14, 2, 15, 16, 17, 6, 18, 19, 20, 21, 22, 23, 24, 25, 26, 27, 28, 29, 30, 31, 32, 33, 34, 35, 36, 37, 38, 39, 40, 41, 42, 43, 44, 45, 46, 47, 48, 49, 50, 51, 52, 53, 54, 55, 56, 57, 58, 59, 60] rfl (by decide +kernel)
set_option maxRecDepth 20000 in
theorem gX4_facts_X4_reckon : GoodIn wsX4_facts (wsV RX4 100 RX4 yX4_reckon wsX4_reckon) := goodIn_app (goodIn_of _ (by decide +kernel)) ggX4_facts_X4_reckon
set_option maxRecDepth 20000 in
theorem ggX4_fact_X4_reckon : GoodIn wsX4_fact wsX4_reckon := goodIn_r _ [8, 9, 10, 11, 12, 13, 14, 15, 1, 3, 16, 17, 7, 18, 19, 20, 21, 22, 23, 24, 25, 26, 27, 28, 29, 30, 31, 32, 33, 34, 35, 36, 37, 38, 39, 40, 41, 42, 43, 44, 45, 46, 47, 48, 49, 50, 51, 52, 53, 54, 55, 56, 57, 58, 59, 60] rfl (by decide +kernel)
set_option maxRecDepth 20000 in
theorem gX4_fact_X4_reckon : GoodIn wsX4_fact (wsV RX4 100 RX4 yX4_reckon wsX4_reckon) := goodIn_app (goodIn_of _ (by decide +kernel)) ggX4_fact_X4_reckon
set_option maxRecDepth 20000 in
theorem ggX4_told_X4_follows : GoodIn wsX4_told wsX4_follows := goodIn_r _ [10, 2, 11, 12, 13, 9, 14, 15, 16, 17, 18, 19, 20, 21, 22, 23, 24, 25, 26, 27, 28, 29, 3, 4, 5, 30, 31, 32, 33, 34, 35, 36, 37, 38, 39, 40, 41, 42, 43, 44, 45, 46, 47, 48, 49, 50, 51, 52, 53, 54, 55, 56, 57, 58, 59, 60, 61, 62, 63, 64] rfl (by decide +kernel)
set_option maxRecDepth 20000 in
theorem gX4_told_X4_follows : GoodIn wsX4_told (wsV RX4 103 RX4 yX4_follows wsX4_follows) := goodIn_app (goodIn_of _ (by decide +kernel)) ggX4_told_X4_follows
set_option maxRecDepth 20000 in
theorem ggX4_trace_X4_follows : GoodIn wsX4_trace wsX4_follows := goodIn_r _ [13, 14, 15, 16, 17, 12, 18, 19, 20, 21, 22, 23, 24, 6, 7, 25, 26, 27, 28, 29, 30, 31, 32, 4, 5, 33, 34, 35, 36, 37, 38, 39, 40, 41, 42, 43, 44, 45, 46, 47, 48, 49, 50, 51, 56, 57, 58, 59, 60, 61, 62, 63, 64, 65, 66, 67, 68, 69, 70, 71] rfl (by decide +kernel)
set_option maxRecDepth 20000 in
theorem gX4_trace_X4_follows : GoodIn wsX4_trace (wsV RX4 103 RX4 yX4_follows wsX4_follows) := goodIn_app (goodIn_of _ (by decide +kernel)) ggX4_trace_X4_follows
set_option maxRecDepth 20000 in
theorem ggX4_trace_X4_want : GoodIn wsX4_trace wsX4_want := goodIn_r _ [55, 3, 56, 57, 58, 59, 60, 61, 62, 63, 64, 65, 66, 67, 68, 69, 70, 71] rfl (by decide +kernel)
set_option maxRecDepth 20000 in
theorem gX4_trace_X4_want : GoodIn wsX4_trace (wsV RX4 109 RX4 yX4_want wsX4_want) := goodIn_app (goodIn_of _ (by decide +kernel)) ggX4_trace_X4_want
set_option maxRecDepth 20000 in
theorem ggX4_empty_X4_sub : GoodIn wsX4_empty wsX4_sub := goodIn_r _ [6, 1, 7, 8, 9, 5, 10, 11, 12, 13, 14, 15, 16, 17, 18, 19, 20, 21, 22, 23, 24, 25, 26, 27, 28, 29, 30, 31, 32, 33, 34, 35, 36, 37, 38, 39, 40, 41, 42, 43, 44, 45, 46, 47, 48, 49, 50, 51, 52, 53, 54, 55, 56, 57, 58, 59, 60, 61, 62, 63, 64, 65, 66, 67, 68, 69, 70, 71, 72] rfl (by decide +kernel)
set_option maxRecDepth 20000 in
theorem gX4_empty_X4_sub : GoodIn wsX4_empty (wsV RX4 112 RX4 yX4_sub wsX4_sub) := goodIn_app (goodIn_of _ (by decide +kernel)) ggX4_empty_X4_sub
set_option maxRecDepth 20000 in
theorem ggX4_both_X4_code : GoodIn wsX4_both wsX4_code := goodIn_r _ [4] rfl (by decide +kernel)
set_option maxRecDepth 20000 in
theorem gX4_both_X4_code : GoodIn wsX4_both (va_wsS RX4 73 yX4_code wsX4_code) := goodIn_app (goodIn_of _ (by decide +kernel)) ggX4_both_X4_code
set_option maxRecDepth 20000 in
theorem ggX4_both_X4_follows : GoodIn wsX4_both wsX4_follows := goodIn_r _ [8, 9, 10, 11, 12, 3, 13, 14, 15, 16, 17, 18, 19, 20, 21, 1, 2, 4, 22, 23, 24, 25, 26, 27, 28, 29, 30, 31, 32, 33, 34, 35, 36, 37, 38, 39, 40, 41, 42, 43, 44, 45, 46, 47, 48, 49, 50, 51, 52, 53, 54, 55, 56, 57, 58, 59, 60, 61, 62, 63] rfl (by decide +kernel)
set_option maxRecDepth 20000 in
theorem gX4_both_X4_follows : GoodIn wsX4_both (wsV RX4 103 RX4 yX4_follows wsX4_follows) := goodIn_app (goodIn_of _ (by decide +kernel)) ggX4_both_X4_follows
set_option maxRecDepth 20000 in
theorem ggX4_same_X4_isClass : GoodIn wsX4_same wsX4_isClass := goodIn_r _ [6, 7, 57, 58, 59, 60, 61, 62, 63, 64, 65, 66, 67, 68, 69, 70, 71, 72] rfl (by decide +kernel)
set_option maxRecDepth 20000 in
theorem gX4_same_X4_isClass : GoodIn wsX4_same (wsV RX4 46 RX4 yX4_isClass wsX4_isClass) := goodIn_app (goodIn_of _ (by decide +kernel)) ggX4_same_X4_isClass
set_option maxRecDepth 20000 in
theorem ggX4_same_X4_both : GoodIn wsX4_same wsX4_both := goodIn_r _ [11, 12, 13, 5, 14, 15, 16, 17, 18, 19, 20, 21, 22, 23, 24, 7, 25, 26, 27, 28, 29, 30, 31, 32, 33, 34, 35, 36, 37, 38, 39, 40, 41, 42, 43, 44, 45, 46, 47, 48, 49, 50, 51, 52, 53, 54, 55, 56, 57, 58, 59, 60, 61, 62, 63, 64, 65, 66, 67, 68, 69, 70, 71, 72] rfl (by decide +kernel)
set_option maxRecDepth 20000 in
theorem gX4_same_X4_both : GoodIn wsX4_same (wsV RX4 115 RX4 yX4_both wsX4_both) := goodIn_app (goodIn_of _ (by decide +kernel)) ggX4_same_X4_both
set_option maxRecDepth 20000 in
theorem ggX4_isAbove_X4_code : GoodIn wsX4_isAbove wsX4_code := goodIn_r _ [4] rfl (by decide +kernel)
set_option maxRecDepth 20000 in
theorem gX4_isAbove_X4_code : GoodIn wsX4_isAbove (va_wsS RX4 73 yX4_code wsX4_code) := goodIn_app (goodIn_of _ (by decide +kernel)) ggX4_isAbove_X4_code
set_option maxRecDepth 20000 in
theorem ggX4_isAbove_X4_follows : GoodIn wsX4_isAbove wsX4_follows := goodIn_r _ [8, 9, 10, 11, 12, 3, 13, 14, 15, 16, 17, 18, 19, 20, 21, 1, 2, 4, 22, 23, 24, 25, 26, 27, 28, 29, 30, 31, 32, 33, 34, 35, 36, 37, 38, 39, 40, 41, 42, 43, 44, 45, 46, 47, 52, 53, 54, 55, 56, 57, 58, 59, 60, 61, 62, 63, 64, 65, 66, 67] rfl (by decide +kernel)
set_option maxRecDepth 20000 in
theorem gX4_isAbove_X4_follows : GoodIn wsX4_isAbove (wsV RX4 103 RX4 yX4_follows wsX4_follows) := goodIn_app (goodIn_of _ (by decide +kernel)) ggX4_isAbove_X4_follows
set_option maxRecDepth 20000 in
theorem ggX4_isAbove_X4_both : GoodIn wsX4_isAbove wsX4_both := goodIn_r _ [51, 1, 2, 3, 4, 5, 6, 7, 8, 9, 10, 11, 12, 13, 14, 15, 16, 17, 18, 19, 20, 21, 22, 23, 24, 25, 26, 27, 28, 29, 30, 31, 32, 33, 34, 35, 36, 37, 38, 39, 40, 41, 42, 43, 44, 45, 46, 47, 52, 53, 54, 55, 56, 57, 58, 59, 60, 61, 62, 63, 64, 65, 66, 67] rfl (by decide +kernel)
set_option maxRecDepth 20000 in
theorem gX4_isAbove_X4_both : GoodIn wsX4_isAbove (wsV RX4 115 RX4 yX4_both wsX4_both) := goodIn_app (goodIn_of _ (by decide +kernel)) ggX4_isAbove_X4_both
set_option maxRecDepth 20000 in
theorem ggX4_isParent_X4_isAbove : GoodIn wsX4_isParent wsX4_isAbove := goodIn_r _ [6, 7, 8, 5, 9, 10, 11, 12, 13, 14, 15, 16, 17, 18, 19, 1, 20, 21, 22, 23, 24, 25, 26, 27, 28, 29, 30, 31, 32, 33, 34, 35, 36, 37, 38, 39, 40, 41, 42, 43, 44, 45, 46, 47, 48, 49, 50, 51, 52, 53, 54, 55, 65, 66, 67, 68, 69, 70, 71, 72, 73, 74, 75, 76, 77, 78, 79, 80] rfl (by decide +kernel)
set_option maxRecDepth 20000 in
theorem gX4_isParent_X4_isAbove : GoodIn wsX4_isParent (wsV RX4 118 RX4 yX4_isAbove wsX4_isAbove) := goodIn_app (goodIn_of _ (by decide +kernel)) ggX4_isParent_X4_isAbove
set_option maxRecDepth 20000 in
theorem ggX4_isParent_X4_same : GoodIn wsX4_isParent wsX4_same := goodIn_r _ [59, 60, 61, 62, 63, 5, 64, 1, 52, 53, 54, 55, 7, 8, 9, 10, 11, 12, 13, 14, 15, 16, 17, 18, 19, 20, 21, 22, 23, 24, 25, 26, 27, 28, 29, 30, 31, 32, 33, 34, 35, 36, 37, 38, 39, 40, 41, 42, 43, 44, 45, 46, 47, 48, 49, 50, 51, 65, 66, 67, 68, 69, 70, 71, 72, 73, 74, 75, 76, 77, 78, 79, 80] rfl (by decide +kernel)
set_option maxRecDepth 20000 in
theorem gX4_isParent_X4_same : GoodIn wsX4_isParent (wsV RX4 121 RX4 yX4_same wsX4_same) := goodIn_app (goodIn_of _ (by decide +kernel)) ggX4_isParent_X4_same
set_option maxRecDepth 20000 in
theorem ggX4_parent_X4_isClass : GoodIn wsX4_parent wsX4_isClass := goodIn_r _ [7, 2, 69, 70, 71, 72, 73, 74, 75, 76, 77, 78, 79, 80, 81, 82, 83, 84] rfl (by decide +kernel)
set_option maxRecDepth 20000 in
theorem gX4_parent_X4_isClass : GoodIn wsX4_parent (wsV RX4 46 RX4 yX4_isClass wsX4_isClass) := goodIn_app (goodIn_of _ (by decide +kernel)) ggX4_parent_X4_isClass
set_option maxRecDepth 20000 in
theorem ggX4_parent_X4_code : GoodIn wsX4_parent wsX4_code := goodIn_r _ [10] rfl (by decide +kernel)
set_option maxRecDepth 20000 in
theorem gX4_parent_X4_code : GoodIn wsX4_parent (va_wsS RX4 73 yX4_code wsX4_code) := goodIn_app (goodIn_of _ (by decide +kernel)) ggX4_parent_X4_code
set_option maxRecDepth 20000 in
theorem ggX4_parent_X4_follows : GoodIn wsX4_parent wsX4_follows := goodIn_r _ [14, 15, 16, 17, 18, 6, 19, 20, 2, 21, 22, 23, 24, 25, 26, 8, 9, 10, 27, 28, 29, 30, 31, 32, 33, 34, 35, 36, 37, 38, 39, 40, 41, 42, 43, 44, 45, 46, 47, 48, 49, 50, 51, 52, 69, 70, 71, 72, 73, 74, 75, 76, 77, 78, 79, 80, 81, 82, 83, 84] rfl (by decide +kernel)
set_option maxRecDepth 20000 in
theorem gX4_parent_X4_follows : GoodIn wsX4_parent (wsV RX4 103 RX4 yX4_follows wsX4_follows) := goodIn_app (goodIn_of _ (by decide +kernel)) ggX4_parent_X4_follows
set_option maxRecDepth 20000 in
theorem ggX4_parent_X4_isParent : GoodIn wsX4_parent wsX4_isParent := goodIn_r _ [56, 2, 57, 58, 59, 6, 60, 8, 9, 10, 11, 12, 13, 14, 15, 16, 17, 18, 19, 20, 21, 22, 23, 24, 25, 26, 27, 28, 29, 30, 31, 32, 33, 34, 35, 36, 37, 38, 39, 40, 41, 42, 43, 44, 45, 46, 47, 48, 49, 50, 51, 52, 61, 62, 63, 64, 65, 66, 67, 68, 1, 3, 4, 5, 7, 69, 70, 71, 72, 73, 74, 75, 76, 77, 78, 79, 80, 81, 82, 83, 84] rfl (by decide +kernel)
set_option maxRecDepth 20000 in
theorem gX4_parent_X4_isParent : GoodIn wsX4_parent (wsV RX4 124 RX4 yX4_isParent wsX4_isParent) := goodIn_app (goodIn_of _ (by decide +kernel)) ggX4_parent_X4_isParent
