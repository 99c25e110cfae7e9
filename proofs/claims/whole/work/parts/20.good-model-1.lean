set_option maxRecDepth 20000 in
theorem ggX4_fits_X4_isClass : GoodIn wsX4_fits wsX4_isClass := goodIn_r _ [5, 6, 10, 11, 12, 13, 14, 15, 16, 17, 18, 19, 20, 21, 22, 23, 24, 25] (by decide +kernel) (by decide +kernel)
set_option maxRecDepth 20000 in
theorem gX4_fits_X4_isClass : GoodIn wsX4_fits (wsV RX4 46 RX4 yX4_isClass wsX4_isClass) := goodIn_app (goodIn_of _ (by decide +kernel)) ggX4_fits_X4_isClass
set_option maxRecDepth 20000 in
theorem ggX4_fits_X4_isRole : GoodIn wsX4_fits wsX4_isRole := goodIn_r _ [9] (by decide +kernel) (by decide +kernel)
set_option maxRecDepth 20000 in
theorem gX4_fits_X4_isRole : GoodIn wsX4_fits (va_wsS RX4 50 yX4_isRole wsX4_isRole) := goodIn_app (goodIn_of _ (by decide +kernel)) ggX4_fits_X4_isRole
set_option maxRecDepth 20000 in
theorem ggX4_axiom_X4_wants : GoodIn wsX4_axiom wsX4_wants := goodIn_r _ [8] (by decide +kernel) (by decide +kernel)
set_option maxRecDepth 20000 in
theorem gX4_axiom_X4_wants : GoodIn wsX4_axiom (va_wsS RX4 53 yX4_wants wsX4_wants) := goodIn_app (goodIn_of _ (by decide +kernel)) ggX4_axiom_X4_wants
set_option maxRecDepth 20000 in
theorem ggX4_axiom_X4_fits : GoodIn wsX4_axiom wsX4_fits := goodIn_r _ [12, 13, 14, 15, 7, 16, 17, 18, 19, 20, 21, 22, 23, 24, 25, 26, 27, 28, 29, 30, 31, 32, 33, 34, 35, 36] (by decide +kernel) (by decide +kernel)
set_option maxRecDepth 20000 in
theorem gX4_axiom_X4_fits : GoodIn wsX4_axiom (wsV RX4 57 RX4 yX4_fits wsX4_fits) := goodIn_app (goodIn_of _ (by decide +kernel)) ggX4_axiom_X4_fits
set_option maxRecDepth 20000 in
theorem ggX4_give_X4_has : GoodIn wsX4_give wsX4_has := goodIn_r _ [11, 1, 6, 12, 13, 14, 15, 16, 17, 18, 19, 20, 21, 22, 23, 24, 25, 26, 27] (by decide +kernel) (by decide +kernel)
set_option maxRecDepth 20000 in
theorem gX4_give_X4_has : GoodIn wsX4_give (wsV RX4 67 RX4 yX4_has wsX4_has) := goodIn_app (goodIn_of _ (by decide +kernel)) ggX4_give_X4_has
set_option maxRecDepth 20000 in
theorem ggX4_one_X4_code : GoodIn wsX4_one wsX4_code := goodIn_r _ [6] (by decide +kernel) (by decide +kernel)
set_option maxRecDepth 20000 in
theorem gX4_one_X4_code : GoodIn wsX4_one (va_wsS RX4 73 yX4_code wsX4_code) := goodIn_app (goodIn_of _ (by decide +kernel)) ggX4_one_X4_code
set_option maxRecDepth 20000 in
theorem ggX4_one_X4_give : GoodIn wsX4_one wsX4_give := goodIn_r _ [10, 11, 12, 13, 14, 15, 16, 17, 18, 19, 5, 20, 28, 29, 30, 31, 32, 33, 34, 35, 36, 37, 38, 39, 40, 41, 42, 43] (by decide +kernel) (by decide +kernel)
set_option maxRecDepth 20000 in
theorem gX4_one_X4_give : GoodIn wsX4_one (wsV RX4 77 RX4 yX4_give wsX4_give) := goodIn_app (goodIn_of _ (by decide +kernel)) ggX4_one_X4_give
set_option maxRecDepth 20000 in
theorem ggX4_one_X4_linked : GoodIn wsX4_one wsX4_linked := goodIn_r _ [23] (by decide +kernel) (by decide +kernel)
set_option maxRecDepth 20000 in
theorem gX4_one_X4_linked : GoodIn wsX4_one (va_wsS RX4 81 yX4_linked wsX4_linked) := goodIn_app (goodIn_of _ (by decide +kernel)) ggX4_one_X4_linked
set_option maxRecDepth 20000 in
theorem ggX4_one_X4_two : GoodIn wsX4_one wsX4_two := goodIn_r _ [27, 1, 2, 21, 22, 5, 23, 3, 4, 6, 7, 8, 9, 10, 11, 12, 13, 14, 15, 16, 17, 18, 19, 20, 28, 29, 30, 31, 32, 33, 34, 35, 36, 37, 38, 39, 40, 41, 42, 43] (by decide +kernel) (by decide +kernel)
set_option maxRecDepth 20000 in
theorem gX4_one_X4_two : GoodIn wsX4_one (wsV RX4 85 RX4 yX4_two wsX4_two) := goodIn_app (goodIn_of _ (by decide +kernel)) ggX4_one_X4_two
set_option maxRecDepth 20000 in
theorem ggX4_two_X4_linked : GoodIn wsX4_two wsX4_linked := goodIn_r _ [6] (by decide +kernel) (by decide +kernel)
set_option maxRecDepth 20000 in
theorem gX4_two_X4_linked : GoodIn wsX4_two (va_wsS RX4 81 yX4_linked wsX4_linked) := goodIn_app (goodIn_of _ (by decide +kernel)) ggX4_two_X4_linked
set_option maxRecDepth 20000 in
theorem ggX4_two_X4_code : GoodIn wsX4_two wsX4_code := goodIn_r _ [9] (by decide +kernel) (by decide +kernel)
set_option maxRecDepth 20000 in
theorem gX4_two_X4_code : GoodIn wsX4_two (va_wsS RX4 73 yX4_code wsX4_code) := goodIn_app (goodIn_of _ (by decide +kernel)) ggX4_two_X4_code
set_option maxRecDepth 20000 in
theorem ggX4_two_X4_give : GoodIn wsX4_two wsX4_give := goodIn_r _ [13, 14, 15, 16, 17, 18, 19, 20, 21, 22, 5, 23, 24, 25, 26, 27, 28, 29, 30, 31, 32, 33, 34, 35, 36, 37, 38, 39] (by decide +kernel) (by decide +kernel)
set_option maxRecDepth 20000 in
theorem gX4_two_X4_give : GoodIn wsX4_two (wsV RX4 77 RX4 yX4_give wsX4_give) := goodIn_app (goodIn_of _ (by decide +kernel)) ggX4_two_X4_give
set_option maxRecDepth 20000 in
theorem ggX4_reckon_X4_code : GoodIn wsX4_reckon wsX4_code := goodIn_r _ [13] (by decide +kernel) (by decide +kernel)
set_option maxRecDepth 20000 in
theorem gX4_reckon_X4_code : GoodIn wsX4_reckon (va_wsS RX4 73 yX4_code wsX4_code) := goodIn_app (goodIn_of _ (by decide +kernel)) ggX4_reckon_X4_code
set_option maxRecDepth 20000 in
theorem ggX4_reckon_X4_start : GoodIn wsX4_reckon wsX4_start := goodIn_r _ [17, 2, 18, 19, 20, 40, 41, 42, 43, 44, 45, 46, 47, 48, 49, 50, 51, 52, 53, 54, 55] (by decide +kernel) (by decide +kernel)
set_option maxRecDepth 20000 in
theorem gX4_reckon_X4_start : GoodIn wsX4_reckon (wsV RX4 89 RX4 yX4_start wsX4_start) := goodIn_app (goodIn_of _ (by decide +kernel)) ggX4_reckon_X4_start
set_option maxRecDepth 20000 in
theorem ggX4_reckon_X4_linked : GoodIn wsX4_reckon wsX4_linked := goodIn_r _ [23] (by decide +kernel) (by decide +kernel)
set_option maxRecDepth 20000 in
theorem gX4_reckon_X4_linked : GoodIn wsX4_reckon (va_wsS RX4 81 yX4_linked wsX4_linked) := goodIn_app (goodIn_of _ (by decide +kernel)) ggX4_reckon_X4_linked
set_option maxRecDepth 20000 in
theorem ggX4_reckon_X4_one : GoodIn wsX4_reckon wsX4_one := goodIn_r _ [27, 5, 3, 10, 11, 12, 13, 28, 29, 30, 31, 2, 18, 19, 20, 7, 6, 32, 33, 34, 35, 21, 22, 23, 36, 37, 38, 39, 40, 41, 42, 43, 44, 45, 46, 47, 48, 49, 50, 51, 52, 53, 54, 55] (by decide +kernel) (by decide +kernel)
set_option maxRecDepth 20000 in
theorem gX4_reckon_X4_one : GoodIn wsX4_reckon (wsV RX4 93 RX4 yX4_one wsX4_one) := goodIn_app (goodIn_of _ (by decide +kernel)) ggX4_reckon_X4_one
set_option maxRecDepth 20000 in
theorem ggX4_reckon_X4_give : GoodIn wsX4_reckon wsX4_give := goodIn_r _ [31, 2, 18, 19, 20, 7, 6, 32, 33, 34, 12, 35, 40, 41, 42, 43, 44, 45, 46, 47, 48, 49, 50, 51, 52, 53, 54, 55] (by decide +kernel) (by decide +kernel)
set_option maxRecDepth 20000 in
theorem gX4_reckon_X4_give : GoodIn wsX4_reckon (wsV RX4 77 RX4 yX4_give wsX4_give) := goodIn_app (goodIn_of _ (by decide +kernel)) ggX4_reckon_X4_give
set_option maxRecDepth 20000 in
theorem ggX4_follows_X4_reckon : GoodIn wsX4_follows wsX4_reckon := goodIn_r _ [6, 7, 1, 8, 9, 10, 11, 12, 13, 14, 15, 16, 5, 17, 18, 19, 20, 21, 22, 23, 24, 25, 26, 27, 28, 29, 30, 31, 32, 33, 34, 35, 36, 37, 38, 39, 40, 41, 42, 43, 44, 45, 46, 47, 48, 49, 50, 51, 52, 53, 54, 55, 56, 57, 58, 59] (by decide +kernel) (by decide +kernel)
set_option maxRecDepth 20000 in
theorem gX4_follows_X4_reckon : GoodIn wsX4_follows (wsV RX4 100 RX4 yX4_reckon wsX4_reckon) := goodIn_app (goodIn_of _ (by decide +kernel)) ggX4_follows_X4_reckon
set_option maxRecDepth 20000 in
theorem ggX4_sub_X4_isClass : GoodIn wsX4_sub wsX4_isClass := goodIn_r _ [6, 7, 53, 54, 55, 56, 57, 58, 59, 60, 61, 62, 63, 64, 65, 66, 67, 68] (by decide +kernel) (by decide +kernel)
set_option maxRecDepth 20000 in
theorem gX4_sub_X4_isClass : GoodIn wsX4_sub (wsV RX4 46 RX4 yX4_isClass wsX4_isClass) := goodIn_app (goodIn_of _ (by decide +kernel)) ggX4_sub_X4_isClass
set_option maxRecDepth 20000 in
theorem ggX4_sub_X4_code : GoodIn wsX4_sub wsX4_code := goodIn_r _ [10] (by decide +kernel) (by decide +kernel)
set_option maxRecDepth 20000 in
theorem gX4_sub_X4_code : GoodIn wsX4_sub (va_wsS RX4 73 yX4_code wsX4_code) := goodIn_app (goodIn_of _ (by decide +kernel)) ggX4_sub_X4_code
set_option maxRecDepth 20000 in
theorem ggX4_sub_X4_follows : GoodIn wsX4_sub wsX4_follows := goodIn_r _ [14, 15, 16, 17, 18, 5, 19, 20, 7, 21, 22, 23, 24, 25, 26, 8, 9, 10, 27, 28, 29, 30, 31, 32, 33, 34, 35, 36, 37, 38, 39, 40, 41, 42, 43, 44, 45, 46, 47, 48, 49, 50, 51, 52, 53, 54, 55, 56, 57, 58, 59, 60, 61, 62, 63, 64, 65, 66, 67, 68] (by decide +kernel) (by decide +kernel)
set_option maxRecDepth 20000 in
theorem gX4_sub_X4_follows : GoodIn wsX4_sub (wsV RX4 103 RX4 yX4_follows wsX4_follows) := goodIn_app (goodIn_of _ (by decide +kernel)) ggX4_sub_X4_follows
set_option maxRecDepth 20000 in
theorem ggX4_link_X4_isClass : GoodIn wsX4_link wsX4_isClass := goodIn_r _ [6, 7, 56, 57, 58, 59, 60, 61, 62, 63, 64, 65, 66, 67, 68, 69, 70, 71] (by decide +kernel) (by decide +kernel)
set_option maxRecDepth 20000 in
theorem gX4_link_X4_isClass : GoodIn wsX4_link (wsV RX4 46 RX4 yX4_isClass wsX4_isClass) := goodIn_app (goodIn_of _ (by decide +kernel)) ggX4_link_X4_isClass
set_option maxRecDepth 20000 in
theorem ggX4_link_X4_isRole : GoodIn wsX4_link wsX4_isRole := goodIn_r _ [10] (by decide +kernel) (by decide +kernel)
