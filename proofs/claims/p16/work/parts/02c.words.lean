set_option maxRecDepth 20000 in
theorem ggX1_setLoan_X1_tellWalked : GoodIn wsX1_setLoan wsX1_tellWalked := goodIn_r _ [6, 7, 8, 9, 1, 10, 11, 12, 5, 13, 14, 15, 16, 17, 18, 19, 20, 21] (by decide +kernel) (by decide +kernel)
set_option maxRecDepth 20000 in
theorem gX1_setLoan_X1_tellWalked : GoodIn wsX1_setLoan (wsV RX1 32 RX1 yX1_tellWalked wsX1_tellWalked) := goodIn_app (goodIn_of _ (by decide +kernel)) ggX1_setLoan_X1_tellWalked
set_option maxRecDepth 20000 in
theorem ggX1_setBar_X1_tellWalked : GoodIn wsX1_setBar wsX1_tellWalked := goodIn_r _ [6, 7, 8, 1, 9, 10, 11, 12, 5, 13, 14, 15, 16, 17, 18, 19, 20, 21] (by decide +kernel) (by decide +kernel)
set_option maxRecDepth 20000 in
theorem gX1_setBar_X1_tellWalked : GoodIn wsX1_setBar (wsV RX1 32 RX1 yX1_tellWalked wsX1_tellWalked) := goodIn_app (goodIn_of _ (by decide +kernel)) ggX1_setBar_X1_tellWalked
set_option maxRecDepth 20000 in
theorem ggX1_halveLoans_X1_tellWalked : GoodIn wsX1_halveLoans wsX1_tellWalked := goodIn_r _ [6, 7, 8, 9, 1, 10, 11, 12, 5, 13, 14, 15, 16, 17, 18, 19, 20, 21] (by decide +kernel) (by decide +kernel)
set_option maxRecDepth 20000 in
theorem gX1_halveLoans_X1_tellWalked : GoodIn wsX1_halveLoans (wsV RX1 32 RX1 yX1_tellWalked wsX1_tellWalked) := goodIn_app (goodIn_of _ (by decide +kernel)) ggX1_halveLoans_X1_tellWalked
set_option maxRecDepth 20000 in
theorem ggX1_tellWalked_X1_tellNeighbour : GoodIn wsX1_tellWalked wsX1_tellNeighbour := goodIn_r _ [9, 10, 1, 11, 2, 12, 13, 14, 15, 16, 17] (by decide +kernel) (by decide +kernel)
set_option maxRecDepth 20000 in
theorem gX1_tellWalked_X1_tellNeighbour : GoodIn wsX1_tellWalked (wsV RX1 35 RX1 yX1_tellNeighbour wsX1_tellNeighbour) := goodIn_app (goodIn_of _ (by decide +kernel)) ggX1_tellWalked_X1_tellNeighbour
set_option maxRecDepth 20000 in
theorem ggX3_settle_X3_lowestUnsettled : GoodIn wsX3_settle wsX3_lowestUnsettled := goodIn_r _ [6, 7, 46, 47, 48, 49, 50] (by decide +kernel) (by decide +kernel)
set_option maxRecDepth 20000 in
theorem gX3_settle_X3_lowestUnsettled : GoodIn wsX3_settle (wsV RX3 32 RX3 yX3_lowestUnsettled wsX3_lowestUnsettled) := goodIn_app (goodIn_of _ (by decide +kernel)) ggX3_settle_X3_lowestUnsettled
set_option maxRecDepth 20000 in
theorem ggX3_settle_X3_push : GoodIn wsX3_settle wsX3_push := goodIn_r _ [11, 7, 12, 13, 14, 15, 16, 17, 5, 18, 19, 20, 21, 22, 23, 24, 25, 26, 27, 28, 29, 30, 31, 32, 33, 34, 35, 36, 37, 38, 39, 40, 41, 42, 43, 44, 45, 46, 47, 48, 49, 50, 51, 52, 53, 54, 55, 56] (by decide +kernel) (by decide +kernel)
set_option maxRecDepth 20000 in
theorem gX3_settle_X3_push : GoodIn wsX3_settle (wsV RX3 37 RX3 yX3_push wsX3_push) := goodIn_app (goodIn_of _ (by decide +kernel)) ggX3_settle_X3_push
set_option maxRecDepth 20000 in
theorem ggX3_mend_X3_takeBack : GoodIn wsX3_mend wsX3_takeBack := goodIn_r _ [5, 6, 7, 38, 39, 40, 41, 42] (by decide +kernel) (by decide +kernel)
set_option maxRecDepth 20000 in
theorem gX3_mend_X3_takeBack : GoodIn wsX3_mend (wsV RX3 41 RX3 yX3_takeBack wsX3_takeBack) := goodIn_app (goodIn_of _ (by decide +kernel)) ggX3_mend_X3_takeBack
set_option maxRecDepth 20000 in
theorem ggX3_mend_X3_send : GoodIn wsX3_mend wsX3_send := goodIn_r _ [11, 12, 13, 14, 15, 16, 17, 18, 19, 20, 21, 22, 23, 24, 25, 26, 4, 27, 7, 6, 28, 29, 30, 31, 32, 33, 34, 35, 36, 37, 38, 39, 40, 41, 42, 43, 44, 45, 46, 47, 48] (by decide +kernel) (by decide +kernel)
set_option maxRecDepth 20000 in
theorem gX3_mend_X3_send : GoodIn wsX3_mend (wsV RX3 45 RX3 yX3_send wsX3_send) := goodIn_app (goodIn_of _ (by decide +kernel)) ggX3_mend_X3_send
set_option maxRecDepth 20000 in
theorem ggX3_push_X3_send : GoodIn wsX3_push wsX3_send := goodIn_r _ [9, 10, 11, 12, 13, 14, 15, 16, 17, 18, 19, 20, 21, 22, 23, 24, 8, 25, 1, 26, 27, 28, 29, 30, 31, 32, 33, 34, 35, 36, 37, 38, 39, 40, 41, 42, 43, 44, 45, 46, 47] (by decide +kernel) (by decide +kernel)
set_option maxRecDepth 20000 in
theorem gX3_push_X3_send : GoodIn wsX3_push (wsV RX3 45 RX3 yX3_send wsX3_send) := goodIn_app (goodIn_of _ (by decide +kernel)) ggX3_push_X3_send
set_option maxRecDepth 20000 in
theorem ggX3_send_X1_neighbourCount : GoodIn wsX3_send wsX1_neighbourCount := goodIn_r _ [6, 7, 35, 36, 37, 38, 39, 40] (by decide +kernel) (by decide +kernel)
set_option maxRecDepth 20000 in
theorem gX3_send_X1_neighbourCount : GoodIn wsX3_send (wsV RX3 51 RX1 yX1_neighbourCount wsX1_neighbourCount) := goodIn_app (goodIn_of _ (by decide +kernel)) ggX3_send_X1_neighbourCount
set_option maxRecDepth 20000 in
theorem ggX3_send_X1_weightOfAll : GoodIn wsX3_send wsX1_weightOfAll := goodIn_r _ [11, 12, 35, 36, 37, 38, 39, 40] (by decide +kernel) (by decide +kernel)
set_option maxRecDepth 20000 in
theorem gX3_send_X1_weightOfAll : GoodIn wsX3_send (wsV RX3 56 RX1 yX1_weightOfAll wsX1_weightOfAll) := goodIn_app (goodIn_of _ (by decide +kernel)) ggX3_send_X1_weightOfAll
set_option maxRecDepth 20000 in
theorem ggX3_send_X3_give : GoodIn wsX3_send wsX3_give := goodIn_r _ [17, 18, 19, 30, 31, 32, 33, 34] (by decide +kernel) (by decide +kernel)
set_option maxRecDepth 20000 in
theorem gX3_send_X3_give : GoodIn wsX3_send (wsV RX3 59 RX3 yX3_give wsX3_give) := goodIn_app (goodIn_of _ (by decide +kernel)) ggX3_send_X3_give
set_option maxRecDepth 20000 in
theorem ggX3_send_X1_neighbour : GoodIn wsX3_send wsX1_neighbour := goodIn_r _ [23, 24, 35, 36, 37, 38, 39, 40] (by decide +kernel) (by decide +kernel)
set_option maxRecDepth 20000 in
theorem gX3_send_X1_neighbour : GoodIn wsX3_send (wsV RX3 63 RX1 yX1_neighbour wsX1_neighbour) := goodIn_app (goodIn_of _ (by decide +kernel)) ggX3_send_X1_neighbour
set_option maxRecDepth 20000 in
theorem ggX3_send_X1_walkedWeight : GoodIn wsX3_send wsX1_walkedWeight := goodIn_r _ [28, 29, 35, 36, 37, 38, 39, 40] (by decide +kernel) (by decide +kernel)
set_option maxRecDepth 20000 in
theorem gX3_send_X1_walkedWeight : GoodIn wsX3_send (wsV RX3 67 RX1 yX1_walkedWeight wsX1_walkedWeight) := goodIn_app (goodIn_of _ (by decide +kernel)) ggX3_send_X1_walkedWeight
set_option maxRecDepth 20000 in
theorem ggX4_init_X1_init : GoodIn wsX4_init wsX1_init := goodIn_r _ [27, 28, 2, 3, 29, 30, 31, 32, 33, 34, 35, 36, 131, 132, 133, 134, 135, 136] (by decide +kernel) (by decide +kernel)
set_option maxRecDepth 20000 in
theorem gX4_init_X1_init_n11 : GoodIn wsX4_init (wsX1_init) := ggX4_init_X1_init
set_option maxRecDepth 20000 in
theorem ggX4_init_X2_init : GoodIn wsX4_init wsX2_init := goodIn_r _ [38, 39, 2, 3, 40, 41, 30, 42, 43, 44, 144, 145, 146, 147] (by decide +kernel) (by decide +kernel)
set_option maxRecDepth 20000 in
theorem gX4_init_X2_init_n24 : GoodIn wsX4_init (wsX2_init) := ggX4_init_X2_init
set_option maxRecDepth 20000 in
theorem ggX4_init_X0_init : GoodIn wsX4_init wsX0_init := goodIn_r _ [46, 47, 2, 3, 48, 49, 50, 51, 52, 148, 149, 150] (by decide +kernel) (by decide +kernel)
set_option maxRecDepth 20000 in
theorem gX4_init_X0_init_n31 : GoodIn wsX4_init (wsX0_init) := ggX4_init_X0_init
set_option maxRecDepth 20000 in
theorem ggX4_init_J4_init_da8c8 : GoodIn wsX4_init wsJ4_init_da8c8 := goodIn_r _ [55, 56, 57, 58, 59, 60, 2, 3, 61, 62, 63, 64, 65, 66, 67, 68, 69, 70, 71, 72, 151, 152, 153, 154] (by decide +kernel) (by decide +kernel)
set_option maxRecDepth 20000 in
theorem gX4_init_J4_init_da8c8 : GoodIn wsX4_init (wsJ4_init_da8c8) := ggX4_init_J4_init_da8c8
set_option maxRecDepth 20000 in
theorem ggX4_init_X3_init : GoodIn wsX4_init wsX3_init := goodIn_r _ [75, 76, 2, 3, 40, 77, 78, 79, 80, 81, 82, 155, 156, 157, 158, 159] (by decide +kernel) (by decide +kernel)
set_option maxRecDepth 20000 in
theorem gX4_init_X3_init : GoodIn wsX4_init (wsX3_init) := ggX4_init_X3_init
set_option maxRecDepth 20000 in
theorem ggX4_init_X4_beginWalks : GoodIn wsX4_init wsX4_beginWalks := goodIn_r _ [87, 9, 7, 22, 23, 88, 89, 90, 25, 91, 77, 78, 80, 82, 92, 93, 94, 95, 96, 97, 98, 99, 100, 101, 102, 103, 104, 105, 106, 81, 107, 108, 109, 110, 111, 112, 113, 6, 114, 35, 115, 116, 117, 118, 36, 119, 120, 121, 122, 123, 124, 125, 126, 34, 127, 128, 129, 130, 33, 137, 138, 139, 140, 141, 142, 143, 155, 156, 157, 158, 159, 131, 132, 133, 134, 135, 136] (by decide +kernel) (by decide +kernel)
set_option maxRecDepth 20000 in
theorem gX4_init_X4_beginWalks : GoodIn wsX4_init (wsV RX4 53 RX4 yX4_beginWalks wsX4_beginWalks) := goodIn_app (goodIn_of _ (by decide +kernel)) ggX4_init_X4_beginWalks
set_option maxRecDepth 20000 in
theorem ggX4_loan_X4_checkReader : GoodIn wsX4_loan wsX4_checkReader := goodIn_ca (goodIn_r _ [9, 10, 11] (by decide +kernel) (by decide +kernel)) (goodIn_sub (fun _ h => List.mem_cons_of_mem _ (List.mem_append_left _ (List.mem_append_right _ h))) (by decide +kernel))
set_option maxRecDepth 20000 in
theorem gX4_loan_X4_checkReader : GoodIn wsX4_loan (va_wsS RX4 56 yX4_checkReader wsX4_checkReader) := goodIn_app (goodIn_of _ (by decide +kernel)) ggX4_loan_X4_checkReader
set_option maxRecDepth 20000 in
theorem ggX4_loan_X4_checkBook : GoodIn wsX4_loan wsX4_checkBook := goodIn_ca (goodIn_r _ [14, 10, 11] (by decide +kernel) (by decide +kernel)) (goodIn_sub (fun _ h => List.mem_cons_of_mem _ (List.mem_append_left _ (List.mem_append_right _ h))) (by decide +kernel))
set_option maxRecDepth 20000 in
theorem gX4_loan_X4_checkBook : GoodIn wsX4_loan (va_wsS RX4 59 yX4_checkBook wsX4_checkBook) := goodIn_app (goodIn_of _ (by decide +kernel)) ggX4_loan_X4_checkBook
set_option maxRecDepth 20000 in
theorem ggX4_loan_X4_checkRange : GoodIn wsX4_loan wsX4_checkRange := goodIn_ca (goodIn_r _ [17, 18, 19] (by decide +kernel) (by decide +kernel)) (goodIn_sub (fun _ h => List.mem_cons_of_mem _ (List.mem_append_right _ h)) (by decide +kernel))
set_option maxRecDepth 20000 in
theorem gX4_loan_X4_checkRange : GoodIn wsX4_loan (va_wsS RX4 62 yX4_checkRange wsX4_checkRange) := goodIn_app (goodIn_of _ (by decide +kernel)) ggX4_loan_X4_checkRange
set_option maxRecDepth 20000 in
theorem ggX4_loan_X1_loanWeight : GoodIn wsX4_loan wsX1_loanWeight := goodIn_r _ [24, 25, 109, 110, 111, 112, 113, 114] (by decide +kernel) (by decide +kernel)
set_option maxRecDepth 20000 in
theorem gX4_loan_X1_loanWeight : GoodIn wsX4_loan (wsV RX4 66 RX1 yX1_loanWeight wsX1_loanWeight) := goodIn_app (goodIn_of _ (by decide +kernel)) ggX4_loan_X1_loanWeight
set_option maxRecDepth 20000 in
theorem ggX4_loan_X1_setLoan : GoodIn wsX4_loan wsX1_setLoan := goodIn_r _ [29, 25, 30, 31, 32, 23, 33, 34, 35, 36, 37, 38, 39, 40, 41, 42, 109, 110, 111, 112, 113, 114] (by decide +kernel) (by decide +kernel)
set_option maxRecDepth 20000 in
theorem gX4_loan_X1_setLoan : GoodIn wsX4_loan (wsV RX4 75 RX1 yX1_setLoan wsX1_setLoan) := goodIn_app (goodIn_of _ (by decide +kernel)) ggX4_loan_X1_setLoan
set_option maxRecDepth 20000 in
theorem ggX4_loan_X4_mendWalks : GoodIn wsX4_loan wsX4_mendWalks := goodIn_r _ [46, 47, 1, 48, 49, 50, 51, 52, 53, 54, 55, 56, 57, 58, 59, 60, 61, 62, 63, 64, 65, 66, 67, 68, 23, 69, 34, 70, 71, 72, 73, 35, 74, 75, 76, 77, 78, 79, 80, 81, 42, 82, 83, 84, 85, 41, 86, 87, 88, 89, 90, 91, 92, 93, 94, 95, 96, 97, 98, 99, 100, 101, 102, 103, 104, 105, 106, 107, 108, 115, 116, 117, 118, 119, 109, 110, 111, 112, 113, 114] (by decide +kernel) (by decide +kernel)
set_option maxRecDepth 20000 in
theorem gX4_loan_X4_mendWalks : GoodIn wsX4_loan (wsV RX4 78 RX4 yX4_mendWalks wsX4_mendWalks) := goodIn_app (goodIn_of _ (by decide +kernel)) ggX4_loan_X4_mendWalks
set_option maxRecDepth 20000 in
theorem ggX4_strike_X4_checkReader : GoodIn wsX4_strike wsX4_checkReader := goodIn_ca (goodIn_r _ [7, 8, 9] (by decide +kernel) (by decide +kernel)) (goodIn_sub (fun _ h => List.mem_cons_of_mem _ (List.mem_append_right _ h)) (by decide +kernel))
set_option maxRecDepth 20000 in
theorem gX4_strike_X4_checkReader : GoodIn wsX4_strike (va_wsS RX4 56 yX4_checkReader wsX4_checkReader) := goodIn_app (goodIn_of _ (by decide +kernel)) ggX4_strike_X4_checkReader
set_option maxRecDepth 20000 in
theorem ggX4_strike_X4_checkBook : GoodIn wsX4_strike wsX4_checkBook := goodIn_ca (goodIn_r _ [12, 8, 9] (by decide +kernel) (by decide +kernel)) (goodIn_sub (fun _ h => List.mem_cons_of_mem _ (List.mem_append_right _ h)) (by decide +kernel))
set_option maxRecDepth 20000 in
theorem gX4_strike_X4_checkBook : GoodIn wsX4_strike (va_wsS RX4 59 yX4_checkBook wsX4_checkBook) := goodIn_app (goodIn_of _ (by decide +kernel)) ggX4_strike_X4_checkBook
set_option maxRecDepth 20000 in
theorem ggX4_strike_X1_loanWeight : GoodIn wsX4_strike wsX1_loanWeight := goodIn_r _ [17, 18, 102, 103, 104, 105, 106, 107] (by decide +kernel) (by decide +kernel)
set_option maxRecDepth 20000 in
theorem gX4_strike_X1_loanWeight : GoodIn wsX4_strike (wsV RX4 66 RX1 yX1_loanWeight wsX1_loanWeight) := goodIn_app (goodIn_of _ (by decide +kernel)) ggX4_strike_X1_loanWeight
set_option maxRecDepth 20000 in
theorem ggX4_strike_X1_setLoan : GoodIn wsX4_strike wsX1_setLoan := goodIn_r _ [22, 18, 23, 24, 25, 16, 26, 27, 28, 29, 30, 31, 32, 33, 34, 35, 102, 103, 104, 105, 106, 107] (by decide +kernel) (by decide +kernel)
set_option maxRecDepth 20000 in
theorem gX4_strike_X1_setLoan : GoodIn wsX4_strike (wsV RX4 75 RX1 yX1_setLoan wsX1_setLoan) := goodIn_app (goodIn_of _ (by decide +kernel)) ggX4_strike_X1_setLoan
set_option maxRecDepth 20000 in
theorem ggX4_strike_X4_mendWalks : GoodIn wsX4_strike wsX4_mendWalks := goodIn_r _ [39, 40, 3, 41, 42, 43, 44, 45, 46, 47, 48, 49, 50, 51, 52, 53, 54, 55, 56, 57, 58, 59, 60, 61, 16, 62, 27, 63, 64, 65, 66, 28, 67, 68, 69, 70, 71, 72, 73, 74, 35, 75, 76, 77, 78, 34, 79, 80, 81, 82, 83, 84, 85, 86, 87, 88, 89, 90, 91, 92, 93, 94, 95, 96, 97, 98, 99, 100, 101, 108, 109, 110, 111, 112, 102, 103, 104, 105, 106, 107] (by decide +kernel) (by decide +kernel)
set_option maxRecDepth 20000 in
theorem gX4_strike_X4_mendWalks : GoodIn wsX4_strike (wsV RX4 78 RX4 yX4_mendWalks wsX4_mendWalks) := goodIn_app (goodIn_of _ (by decide +kernel)) ggX4_strike_X4_mendWalks
set_option maxRecDepth 20000 in
theorem ggX4_fade_X1_halveLoans : GoodIn wsX4_fade wsX1_halveLoans := goodIn_r _ [6, 7, 8, 9, 10, 5, 11, 12, 13, 14, 15, 16, 17, 18, 19, 20, 88, 89, 90, 91, 92, 93] (by decide +kernel) (by decide +kernel)
set_option maxRecDepth 20000 in
theorem gX4_fade_X1_halveLoans : GoodIn wsX4_fade (wsV RX4 88 RX1 yX1_halveLoans wsX1_halveLoans) := goodIn_app (goodIn_of _ (by decide +kernel)) ggX4_fade_X1_halveLoans
set_option maxRecDepth 20000 in
theorem ggX4_fade_X4_mendWalks : GoodIn wsX4_fade wsX4_mendWalks := goodIn_r _ [25, 26, 1, 27, 28, 29, 30, 31, 32, 33, 34, 35, 36, 37, 38, 39, 40, 41, 42, 43, 44, 45, 46, 47, 5, 48, 12, 49, 50, 51, 52, 13, 53, 54, 55, 56, 57, 58, 59, 60, 20, 61, 62, 63, 64, 19, 65, 66, 67, 68, 69, 70, 71, 72, 73, 74, 75, 76, 77, 78, 79, 80, 81, 82, 83, 84, 85, 86, 87, 94, 95, 96, 97, 98, 88, 89, 90, 91, 92, 93] (by decide +kernel) (by decide +kernel)
set_option maxRecDepth 20000 in
theorem gX4_fade_X4_mendWalks : GoodIn wsX4_fade (wsV RX4 78 RX4 yX4_mendWalks wsX4_mendWalks) := goodIn_app (goodIn_of _ (by decide +kernel)) ggX4_fade_X4_mendWalks
set_option maxRecDepth 20000 in
theorem ggX4_bar_X4_checkBook : GoodIn wsX4_bar wsX4_checkBook := goodIn_ca (goodIn_r _ [5, 6, 7] (by decide +kernel) (by decide +kernel)) (goodIn_sub (fun _ h => List.mem_cons_of_mem _ (List.mem_append_left _ (List.mem_append_right _ h))) (by decide +kernel))
set_option maxRecDepth 20000 in
theorem gX4_bar_X4_checkBook : GoodIn wsX4_bar (va_wsS RX4 59 yX4_checkBook wsX4_checkBook) := goodIn_app (goodIn_of _ (by decide +kernel)) ggX4_bar_X4_checkBook
set_option maxRecDepth 20000 in
theorem ggX4_bar_X4_checkRange : GoodIn wsX4_bar wsX4_checkRange := goodIn_ca (goodIn_r _ [10, 11, 12] (by decide +kernel) (by decide +kernel)) (goodIn_sub (fun _ h => List.mem_cons_of_mem _ (List.mem_append_right _ h)) (by decide +kernel))
set_option maxRecDepth 20000 in
theorem gX4_bar_X4_checkRange : GoodIn wsX4_bar (va_wsS RX4 62 yX4_checkRange wsX4_checkRange) := goodIn_app (goodIn_of _ (by decide +kernel)) ggX4_bar_X4_checkRange
set_option maxRecDepth 20000 in
theorem ggX4_bar_X1_barOf : GoodIn wsX4_bar wsX1_barOf := goodIn_r _ [17, 18, 102, 103, 104, 105, 106, 107] (by decide +kernel) (by decide +kernel)
set_option maxRecDepth 20000 in
theorem gX4_bar_X1_barOf : GoodIn wsX4_bar (wsV RX4 92 RX1 yX1_barOf wsX1_barOf) := goodIn_app (goodIn_of _ (by decide +kernel)) ggX4_bar_X1_barOf
set_option maxRecDepth 20000 in
theorem ggX4_bar_X1_setBar : GoodIn wsX4_bar wsX1_setBar := goodIn_r _ [22, 18, 23, 24, 25, 16, 26, 27, 28, 29, 30, 31, 32, 33, 34, 35, 102, 103, 104, 105, 106, 107] (by decide +kernel) (by decide +kernel)
set_option maxRecDepth 20000 in
theorem gX4_bar_X1_setBar : GoodIn wsX4_bar (wsV RX4 96 RX1 yX1_setBar wsX1_setBar) := goodIn_app (goodIn_of _ (by decide +kernel)) ggX4_bar_X1_setBar
set_option maxRecDepth 20000 in
theorem ggX4_bar_X4_mendWalks : GoodIn wsX4_bar wsX4_mendWalks := goodIn_r _ [39, 40, 1, 41, 42, 43, 44, 45, 46, 47, 48, 49, 50, 51, 52, 53, 54, 55, 56, 57, 58, 59, 60, 61, 16, 62, 27, 63, 64, 65, 66, 28, 67, 68, 69, 70, 71, 72, 73, 74, 35, 75, 76, 77, 78, 34, 79, 80, 81, 82, 83, 84, 85, 86, 87, 88, 89, 90, 91, 92, 93, 94, 95, 96, 97, 98, 99, 100, 101, 108, 109, 110, 111, 112, 102, 103, 104, 105, 106, 107] (by decide +kernel) (by decide +kernel)
set_option maxRecDepth 20000 in
theorem gX4_bar_X4_mendWalks : GoodIn wsX4_bar (wsV RX4 78 RX4 yX4_mendWalks wsX4_mendWalks) := goodIn_app (goodIn_of _ (by decide +kernel)) ggX4_bar_X4_mendWalks
set_option maxRecDepth 20000 in
theorem ggX4_walk_X4_checkRange : GoodIn wsX4_walk wsX4_checkRange := goodIn_ca (goodIn_r _ [7, 8, 9] (by decide +kernel) (by decide +kernel)) (goodIn_sub (fun _ h => List.mem_cons_of_mem _ (List.mem_append_right _ h)) (by decide +kernel))
set_option maxRecDepth 20000 in
theorem gX4_walk_X4_checkRange : GoodIn wsX4_walk (va_wsS RX4 62 yX4_checkRange wsX4_checkRange) := goodIn_app (goodIn_of _ (by decide +kernel)) ggX4_walk_X4_checkRange
set_option maxRecDepth 20000 in
theorem ggX4_walk_X4_beginWalks : GoodIn wsX4_walk wsX4_beginWalks := goodIn_r _ [13, 14, 15, 2, 3, 16, 17, 18, 19, 20, 21, 22, 23, 24, 25, 26, 27, 28, 29, 30, 31, 32, 33, 34, 35, 36, 37, 38, 39, 40, 41, 42, 43, 44, 45, 46, 47, 48, 49, 50, 51, 52, 53, 54, 55, 56, 57, 58, 59, 60, 61, 62, 63, 64, 65, 66, 67, 68, 69, 70, 71, 72, 73, 74, 75, 76, 77, 78, 79, 80, 81, 82, 83, 84, 85, 86, 87] (by decide +kernel) (by decide +kernel)
set_option maxRecDepth 20000 in
theorem gX4_walk_X4_beginWalks : GoodIn wsX4_walk (wsV RX4 53 RX4 yX4_beginWalks wsX4_beginWalks) := goodIn_app (goodIn_of _ (by decide +kernel)) ggX4_walk_X4_beginWalks
set_option maxRecDepth 20000 in
theorem ggX4_landed_X4_checkReader : GoodIn wsX4_landed wsX4_checkReader := goodIn_ca (goodIn_r _ [5, 6, 7] (by decide +kernel) (by decide +kernel)) (goodIn_sub (fun _ h => List.mem_cons_of_mem _ (List.mem_append_right _ h)) (by decide +kernel))
set_option maxRecDepth 20000 in
theorem gX4_landed_X4_checkReader : GoodIn wsX4_landed (va_wsS RX4 56 yX4_checkReader wsX4_checkReader) := goodIn_app (goodIn_of _ (by decide +kernel)) ggX4_landed_X4_checkReader
set_option maxRecDepth 20000 in
theorem ggX4_landed_X4_checkNode : GoodIn wsX4_landed wsX4_checkNode := goodIn_ca (goodIn_r _ [10, 6, 7] (by decide +kernel) (by decide +kernel)) (goodIn_sub (fun _ h => List.mem_cons_of_mem _ (List.mem_append_right _ h)) (by decide +kernel))
set_option maxRecDepth 20000 in
theorem gX4_landed_X4_checkNode : GoodIn wsX4_landed (va_wsS RX4 101 yX4_checkNode wsX4_checkNode) := goodIn_app (goodIn_of _ (by decide +kernel)) ggX4_landed_X4_checkNode
set_option maxRecDepth 20000 in
theorem ggX4_landed_X3_landedAt : GoodIn wsX4_landed wsX3_landedAt := goodIn_r _ [15, 16, 24, 25, 26, 27, 28] (by decide +kernel) (by decide +kernel)
set_option maxRecDepth 20000 in
theorem gX4_landed_X3_landedAt : GoodIn wsX4_landed (wsV RX4 104 RX3 yX3_landedAt wsX3_landedAt) := goodIn_app (goodIn_of _ (by decide +kernel)) ggX4_landed_X3_landedAt
set_option maxRecDepth 20000 in
theorem ggX4_rest_X4_checkReader : GoodIn wsX4_rest wsX4_checkReader := goodIn_ca (goodIn_r _ [5, 6, 7] (by decide +kernel) (by decide +kernel)) (goodIn_sub (fun _ h => List.mem_cons_of_mem _ (List.mem_append_right _ h)) (by decide +kernel))
set_option maxRecDepth 20000 in
theorem gX4_rest_X4_checkReader : GoodIn wsX4_rest (va_wsS RX4 56 yX4_checkReader wsX4_checkReader) := goodIn_app (goodIn_of _ (by decide +kernel)) ggX4_rest_X4_checkReader
set_option maxRecDepth 20000 in
theorem ggX4_rest_X4_checkNode : GoodIn wsX4_rest wsX4_checkNode := goodIn_ca (goodIn_r _ [10, 6, 7] (by decide +kernel) (by decide +kernel)) (goodIn_sub (fun _ h => List.mem_cons_of_mem _ (List.mem_append_right _ h)) (by decide +kernel))
set_option maxRecDepth 20000 in
theorem gX4_rest_X4_checkNode : GoodIn wsX4_rest (va_wsS RX4 101 yX4_checkNode wsX4_checkNode) := goodIn_app (goodIn_of _ (by decide +kernel)) ggX4_rest_X4_checkNode
set_option maxRecDepth 20000 in
theorem ggX4_rest_X3_restOf : GoodIn wsX4_rest wsX3_restOf := goodIn_r _ [15, 16, 24, 25, 26, 27, 28] (by decide +kernel) (by decide +kernel)
set_option maxRecDepth 20000 in
theorem gX4_rest_X3_restOf : GoodIn wsX4_rest (wsV RX4 108 RX3 yX3_restOf wsX3_restOf) := goodIn_app (goodIn_of _ (by decide +kernel)) ggX4_rest_X3_restOf
set_option maxRecDepth 20000 in
theorem ggX4_sent_X4_checkReader : GoodIn wsX4_sent wsX4_checkReader := goodIn_ca (goodIn_r _ [5, 6, 7] (by decide +kernel) (by decide +kernel)) (goodIn_sub (fun _ h => List.mem_cons_of_mem _ (List.mem_append_right _ h)) (by decide +kernel))
set_option maxRecDepth 20000 in
theorem gX4_sent_X4_checkReader : GoodIn wsX4_sent (va_wsS RX4 56 yX4_checkReader wsX4_checkReader) := goodIn_app (goodIn_of _ (by decide +kernel)) ggX4_sent_X4_checkReader
set_option maxRecDepth 20000 in
theorem ggX4_sent_X4_checkNode : GoodIn wsX4_sent wsX4_checkNode := goodIn_ca (goodIn_r _ [10, 6, 7] (by decide +kernel) (by decide +kernel)) (goodIn_sub (fun _ h => List.mem_cons_of_mem _ (List.mem_append_right _ h)) (by decide +kernel))
set_option maxRecDepth 20000 in
theorem gX4_sent_X4_checkNode : GoodIn wsX4_sent (va_wsS RX4 101 yX4_checkNode wsX4_checkNode) := goodIn_app (goodIn_of _ (by decide +kernel)) ggX4_sent_X4_checkNode
set_option maxRecDepth 20000 in
theorem ggX4_sent_X3_sentTo : GoodIn wsX4_sent wsX3_sentTo := goodIn_r _ [15, 16, 24, 25, 26, 27, 28] (by decide +kernel) (by decide +kernel)
set_option maxRecDepth 20000 in
theorem gX4_sent_X3_sentTo : GoodIn wsX4_sent (wsV RX4 111 RX3 yX3_sentTo wsX3_sentTo) := goodIn_app (goodIn_of _ (by decide +kernel)) ggX4_sent_X3_sentTo
set_option maxRecDepth 20000 in
theorem ggX4_pushes_X3_pushCount : GoodIn wsX4_pushes wsX3_pushCount := goodIn_r _ [6, 7, 15, 16, 17, 18, 19] (by decide +kernel) (by decide +kernel)
set_option maxRecDepth 20000 in
theorem gX4_pushes_X3_pushCount : GoodIn wsX4_pushes (wsV RX4 115 RX3 yX3_pushCount wsX3_pushCount) := goodIn_app (goodIn_of _ (by decide +kernel)) ggX4_pushes_X3_pushCount
set_option maxRecDepth 20000 in
theorem ggX4_text_X4_checkReader : GoodIn wsX4_text wsX4_checkReader := goodIn_ca (goodIn_r _ [5, 6, 7] (by decide +kernel) (by decide +kernel)) (goodIn_sub (fun _ h => List.mem_cons_of_mem _ (List.mem_append_right _ h)) (by decide +kernel))
set_option maxRecDepth 20000 in
theorem gX4_text_X4_checkReader : GoodIn wsX4_text (va_wsS RX4 56 yX4_checkReader wsX4_checkReader) := goodIn_app (goodIn_of _ (by decide +kernel)) ggX4_text_X4_checkReader
set_option maxRecDepth 20000 in
theorem ggX4_text_X4_checkBook : GoodIn wsX4_text wsX4_checkBook := goodIn_ca (goodIn_r _ [10, 6, 7] (by decide +kernel) (by decide +kernel)) (goodIn_sub (fun _ h => List.mem_cons_of_mem _ (List.mem_append_right _ h)) (by decide +kernel))
set_option maxRecDepth 20000 in
theorem gX4_text_X4_checkBook : GoodIn wsX4_text (va_wsS RX4 59 yX4_checkBook wsX4_checkBook) := goodIn_app (goodIn_of _ (by decide +kernel)) ggX4_text_X4_checkBook
set_option maxRecDepth 20000 in
theorem ggX4_text_X4_checkPlace : GoodIn wsX4_text wsX4_checkPlace := goodIn_ca (goodIn_r _ [13, 6, 7] (by decide +kernel) (by decide +kernel)) (goodIn_sub (fun _ h => List.mem_cons_of_mem _ (List.mem_append_right _ h)) (by decide +kernel))
set_option maxRecDepth 20000 in
theorem gX4_text_X4_checkPlace : GoodIn wsX4_text (va_wsS RX4 118 yX4_checkPlace wsX4_checkPlace) := goodIn_app (goodIn_of _ (by decide +kernel)) ggX4_text_X4_checkPlace
set_option maxRecDepth 20000 in
theorem ggX4_text_X4_writeLine : GoodIn wsX4_text wsX4_writeLine := goodIn_r _ [17, 1, 18, 19, 20, 21, 22, 23, 24, 25, 26, 27, 28, 29, 30, 31, 32, 33, 34, 35, 36, 37, 38, 39, 40, 41, 42, 43, 44, 45, 46, 47, 48, 49, 50, 51, 52, 53, 54, 55, 56, 57, 58, 59, 60, 61, 62, 63, 64, 65, 66, 67, 68, 69, 70, 71, 72, 73, 74, 75, 76, 77, 78, 79, 80, 81, 82, 83, 84, 85, 86, 87, 88, 89, 90, 91, 92, 93, 94, 95, 96, 97, 98, 99, 100, 101, 102, 103, 104, 105, 106, 107, 108, 109, 110, 111, 112, 113, 114, 115, 116, 117, 118, 119, 120, 121, 122, 123, 124, 125, 126, 127, 128, 129, 130, 131, 132, 133, 134, 135, 136, 137, 138, 139, 140, 141, 142, 143, 144, 145, 146, 147, 148, 149, 150, 151, 152, 153, 154, 155, 156, 157, 158, 159, 160, 161, 162, 163, 164, 165, 166, 167, 168, 169, 170, 171, 172, 173, 174, 175, 176, 177, 178, 179, 180, 181, 182, 183, 184, 185, 186, 187, 188, 189, 190, 191, 192, 193, 194, 195, 196, 197, 198, 199, 200, 201, 202, 203, 204, 205, 206, 207, 208, 209, 210, 211, 212, 213, 214, 215, 216, 217, 218, 219, 220, 221, 222, 223, 224, 225, 226, 227, 228, 229, 230, 231, 232, 233, 234, 235, 236, 237, 238, 239, 240, 241, 242, 243, 244, 245, 246, 247, 248, 249, 250, 251, 252, 253, 254, 255, 256, 4, 257, 279, 280, 281, 282, 283, 284, 285, 286, 287, 288, 289, 290, 291, 292, 293, 294, 295, 296, 297, 298, 299, 300, 301, 302, 303, 304, 305, 306, 307, 308, 309, 310, 311] (by decide +kernel) (by decide +kernel)
set_option maxRecDepth 20000 in
theorem gX4_text_X4_writeLine : GoodIn wsX4_text (wsV RX4 147 RX4 yX4_writeLine wsX4_writeLine) := goodIn_app (goodIn_of _ (by decide +kernel)) ggX4_text_X4_writeLine
set_option maxRecDepth 20000 in
theorem ggX4_text_J4_length_8abf5 : GoodIn wsX4_text wsJ4_length_8abf5 := goodIn_r _ [261, 262, 263, 26, 264, 28, 265, 33, 292, 293, 294, 295] (by decide +kernel) (by decide +kernel)
set_option maxRecDepth 20000 in
theorem gX4_text_J4_length_8abf5 : GoodIn wsX4_text (wsV RX4 150 RJ4 yJ4_length_8abf5 wsJ4_length_8abf5) := goodIn_app (goodIn_of _ (by decide +kernel)) ggX4_text_J4_length_8abf5
set_option maxRecDepth 20000 in
theorem ggX4_text_J4_charAt_5068e : GoodIn wsX4_text wsJ4_charAt_5068e := goodIn_r _ [269, 270, 271, 26, 272, 28, 273, 41, 34, 33, 274, 72, 54, 73, 275, 220, 135, 221, 137, 222, 223, 140, 224, 276, 277, 101, 278, 126, 145, 146, 130, 131, 132, 292, 293, 294, 295] (by decide +kernel) (by decide +kernel)
set_option maxRecDepth 20000 in
theorem gX4_text_J4_charAt_5068e : GoodIn wsX4_text (wsV RX4 153 RJ4 yJ4_charAt_5068e wsJ4_charAt_5068e) := goodIn_app (goodIn_of _ (by decide +kernel)) ggX4_text_J4_charAt_5068e
set_option maxRecDepth 20000 in
theorem ggX4_beginWalks_X3_begin : GoodIn wsX4_beginWalks wsX3_begin := goodIn_r _ [9, 10, 11, 12, 13, 14, 66, 67, 68, 69, 70] (by decide +kernel) (by decide +kernel)
set_option maxRecDepth 20000 in
theorem gX4_beginWalks_X3_begin : GoodIn wsX4_beginWalks (wsV RX4 173 RX3 yX3_begin wsX3_begin) := goodIn_app (goodIn_of _ (by decide +kernel)) ggX4_beginWalks_X3_begin
set_option maxRecDepth 20000 in
theorem ggX4_beginWalks_X3_settle : GoodIn wsX4_beginWalks wsX3_settle := goodIn_r _ [18, 19, 20, 21, 22, 8, 23, 11, 24, 25, 26, 27, 28, 10, 29, 30, 31, 32, 33, 13, 34, 35, 36, 37, 38, 39, 40, 41, 42, 43, 44, 45, 46, 47, 48, 12, 49, 50, 51, 52, 53, 54, 55, 56, 57, 58, 66, 67, 68, 69, 70, 71, 72, 73, 74, 75, 76] (by decide +kernel) (by decide +kernel)
set_option maxRecDepth 20000 in
theorem gX4_beginWalks_X3_settle : GoodIn wsX4_beginWalks (wsV RX4 176 RX3 yX3_settle wsX3_settle) := goodIn_app (goodIn_of _ (by decide +kernel)) ggX4_beginWalks_X3_settle
set_option maxRecDepth 20000 in
theorem ggX4_mendWalks_X3_mend : GoodIn wsX4_mendWalks wsX3_mend := goodIn_r _ [9, 10, 11, 12, 8, 13, 14, 15, 16, 17, 18, 19, 20, 21, 22, 23, 24, 25, 26, 27, 28, 29, 30, 31, 32, 33, 34, 35, 36, 37, 38, 39, 40, 41, 42, 43, 44, 45, 69, 70, 71, 72, 73, 74, 75, 76, 77, 78, 79] (by decide +kernel) (by decide +kernel)
set_option maxRecDepth 20000 in
theorem gX4_mendWalks_X3_mend : GoodIn wsX4_mendWalks (wsV RX4 179 RX3 yX3_mend wsX3_mend) := goodIn_app (goodIn_of _ (by decide +kernel)) ggX4_mendWalks_X3_mend
set_option maxRecDepth 20000 in
theorem ggX4_mendWalks_X3_settle : GoodIn wsX4_mendWalks wsX3_settle := goodIn_r _ [49, 50, 51, 52, 53, 8, 54, 15, 55, 56, 57, 58, 59, 60, 61, 16, 17, 18, 19, 20, 21, 22, 23, 24, 25, 26, 27, 28, 29, 30, 31, 32, 33, 34, 35, 14, 36, 37, 38, 39, 40, 41, 42, 43, 44, 45, 69, 70, 71, 72, 73, 74, 75, 76, 77, 78, 79] (by decide +kernel) (by decide +kernel)
set_option maxRecDepth 20000 in
theorem gX4_mendWalks_X3_settle : GoodIn wsX4_mendWalks (wsV RX4 176 RX3 yX3_settle wsX3_settle) := goodIn_app (goodIn_of _ (by decide +kernel)) ggX4_mendWalks_X3_settle
set_option maxRecDepth 20000 in
theorem ggX4_writeLine_J4_setLength_d00df : GoodIn wsX4_writeLine wsJ4_setLength_d00df := goodIn_r _ [7, 8, 9, 10, 11, 12, 13, 14, 15, 16, 17, 18, 19, 20, 21, 22, 23, 24, 25, 26, 27, 28, 29, 30, 31, 32, 33, 34, 35, 36, 37, 38, 39, 40, 41, 42, 43, 44, 45, 46, 47, 48, 49, 50, 51, 52, 53, 54, 55, 56, 57, 58, 59, 60, 61, 62, 63, 64, 65, 66, 67, 68, 69, 70, 71, 72, 73, 74, 75, 76, 77, 78, 79, 6, 80, 81, 82, 83, 84, 85, 86, 87, 250, 251, 252, 253, 254, 255, 256, 257, 258, 259, 260, 261, 262, 263, 264, 265] (by decide +kernel) (by decide +kernel)
set_option maxRecDepth 20000 in
theorem gX4_writeLine_J4_setLength_d00df : GoodIn wsX4_writeLine (wsV RX4 210 RJ4 yJ4_setLength_d00df wsJ4_setLength_d00df) := goodIn_app (goodIn_of _ (by decide +kernel)) ggX4_writeLine_J4_setLength_d00df
set_option maxRecDepth 20000 in
theorem ggX4_writeLine_X1_loanWeight : GoodIn wsX4_writeLine wsX1_loanWeight := goodIn_r _ [92, 93, 266, 267, 268, 269, 270, 271] (by decide +kernel) (by decide +kernel)
set_option maxRecDepth 20000 in
theorem gX4_writeLine_X1_loanWeight : GoodIn wsX4_writeLine (wsV RX4 66 RX1 yX1_loanWeight wsX1_loanWeight) := goodIn_app (goodIn_of _ (by decide +kernel)) ggX4_writeLine_X1_loanWeight
set_option maxRecDepth 20000 in
theorem ggX4_writeLine_J4_append_15ec4 : GoodIn wsX4_writeLine wsJ4_append_15ec4 := goodIn_r _ [97, 98, 99, 10, 100, 12, 101, 17, 102, 103, 104, 105, 106, 18, 20, 21, 22, 23, 24, 25, 26, 27, 28, 29, 30, 31, 32, 33, 34, 35, 36, 37, 38, 39, 40, 41, 42, 43, 44, 45, 46, 47, 48, 49, 50, 51, 52, 53, 54, 55, 56, 57, 58, 59, 60, 61, 62, 63, 64, 65, 66, 67, 107, 108, 85, 109, 110, 111, 112, 113, 114, 115, 116, 117, 118, 119, 120, 121, 122, 123, 124, 125, 126, 127, 128, 129, 130, 131, 132, 133, 134, 135, 136, 137, 138, 139, 140, 141, 142, 143, 144, 145, 146, 147, 148, 149, 150, 151, 152, 153, 154, 155, 156, 157, 158, 159, 160, 161, 162, 163, 164, 165, 166, 70, 167, 168, 169, 170, 171, 172, 173, 174, 175, 176, 177, 178, 179, 180, 181, 182, 183, 184, 185, 256, 257, 258, 259, 272, 273, 274, 275] (by decide +kernel) (by decide +kernel)
set_option maxRecDepth 20000 in
theorem gX4_writeLine_J4_append_15ec4 : GoodIn wsX4_writeLine (wsV RX4 215 RJ4 yJ4_append_15ec4 wsJ4_append_15ec4) := goodIn_app (goodIn_of _ (by decide +kernel)) ggX4_writeLine_J4_append_15ec4
set_option maxRecDepth 20000 in
theorem ggX4_writeLine_J4_append_cf468 : GoodIn wsX4_writeLine wsJ4_append_cf468 := goodIn_r _ [189, 190, 191, 10, 192, 12, 193, 17, 18, 20, 21, 22, 23, 24, 25, 26, 27, 28, 29, 30, 31, 32, 33, 34, 35, 36, 37, 38, 39, 40, 41, 42, 43, 44, 45, 46, 47, 48, 49, 50, 51, 52, 53, 54, 55, 56, 57, 58, 59, 60, 61, 62, 63, 64, 65, 66, 67, 194, 195, 70, 196, 153, 154, 155, 156, 157, 158, 159, 85, 160, 161, 162, 163, 164, 165, 166, 167, 168, 169, 170, 171, 172, 173, 114, 115, 116, 174, 175, 119, 176, 121, 177, 178, 124, 179, 126, 127, 128, 110, 129, 130, 197, 198, 199, 200, 201, 202, 203, 204, 205, 206, 207, 208, 256, 257, 258, 259] (by decide +kernel) (by decide +kernel)
set_option maxRecDepth 20000 in
theorem gX4_writeLine_J4_append_cf468 : GoodIn wsX4_writeLine (wsV RX4 219 RJ4 yJ4_append_cf468 wsJ4_append_cf468) := goodIn_app (goodIn_of _ (by decide +kernel)) ggX4_writeLine_J4_append_cf468
set_option maxRecDepth 20000 in
theorem ggX4_writeLine_J4_append_bf812 : GoodIn wsX4_writeLine wsJ4_append_bf812 := goodIn_r _ [212, 213, 214, 10, 215, 12, 216, 17, 18, 217, 218, 219, 220, 20, 21, 22, 23, 24, 25, 26, 27, 28, 29, 30, 31, 32, 33, 34, 35, 36, 37, 38, 39, 40, 41, 42, 43, 44, 45, 46, 47, 48, 49, 50, 51, 52, 53, 54, 55, 56, 57, 58, 59, 60, 61, 62, 63, 64, 65, 66, 67, 221, 222, 223, 224, 225, 226, 227, 85, 228, 110, 111, 112, 113, 114, 115, 116, 117, 118, 119, 120, 121, 122, 123, 124, 125, 229, 230, 231, 232, 233, 126, 127, 128, 129, 130, 256, 257, 258, 259] (by decide +kernel) (by decide +kernel)
set_option maxRecDepth 20000 in
theorem gX4_writeLine_J4_append_bf812 : GoodIn wsX4_writeLine (wsV RX4 222 RJ4 yJ4_append_bf812 wsJ4_append_bf812) := goodIn_app (goodIn_of _ (by decide +kernel)) ggX4_writeLine_J4_append_bf812
set_option maxRecDepth 20000 in
theorem ggX4_writeLine_X1_barOf : GoodIn wsX4_writeLine wsX1_barOf := goodIn_r _ [237, 238, 266, 267, 268, 269, 270, 271] (by decide +kernel) (by decide +kernel)
set_option maxRecDepth 20000 in
theorem gX4_writeLine_X1_barOf : GoodIn wsX4_writeLine (wsV RX4 92 RX1 yX1_barOf wsX1_barOf) := goodIn_app (goodIn_of _ (by decide +kernel)) ggX4_writeLine_X1_barOf
set_option maxRecDepth 20000 in
theorem ggX4_writeLine_X4_barText : GoodIn wsX4_writeLine wsX4_barText := goodIn_r _ [242] (by decide +kernel) (by decide +kernel)
set_option maxRecDepth 20000 in
theorem gX4_writeLine_X4_barText : GoodIn wsX4_writeLine (va_wsS RX4 227 yX4_barText wsX4_barText) := goodIn_app (goodIn_of _ (by decide +kernel)) ggX4_writeLine_X4_barText
set_option maxRecDepth 20000 in
theorem ggJ5_init_d00df_J2_newBytesFor_77867 : GoodIn wsJ5_init_d00df wsJ2_newBytesFor_77867 := goodIn_r _ [11, 5, 12, 13, 10, 14, 15] (by decide +kernel) (by decide +kernel)
set_option maxRecDepth 20000 in
theorem gJ5_init_d00df_J2_newBytesFor_77867 : GoodIn wsJ5_init_d00df (va_wsS RJ5 26 yJ2_newBytesFor_77867 wsJ2_newBytesFor_77867) := goodIn_app (goodIn_of _ (by decide +kernel)) ggJ5_init_d00df_J2_newBytesFor_77867
set_option maxRecDepth 20000 in
theorem ggJ5_ensureCapacityInternal_d00df_J5_newCapacity_0f7a4 : GoodIn wsJ5_ensureCapacityInternal_d00df wsJ5_newCapacity_0f7a4 := goodIn_r _ [8, 1, 2, 9, 10, 11, 12, 13, 14, 15, 16, 17, 18, 19, 20, 21, 40, 41, 42, 43] (by decide +kernel) (by decide +kernel)
set_option maxRecDepth 20000 in
theorem gJ5_ensureCapacityInternal_d00df_J5_newCapacity_0f7a4_u104J4 : GoodIn wsJ5_ensureCapacityInternal_d00df (va_wsU RJ5 104 RJ4 "java/lang/AbstractStringBuilder" ⟨"java/lang/AbstractStringBuilder", "newCapacity", "(I)I"⟩ yJ5_newCapacity_0f7a4 wsJ5_newCapacity_0f7a4) := goodIn_app (goodIn_of _ (by decide +kernel)) ggJ5_ensureCapacityInternal_d00df_J5_newCapacity_0f7a4
set_option maxRecDepth 20000 in
theorem ggJ5_ensureCapacityInternal_d00df_J7_copyOf_9075b : GoodIn wsJ5_ensureCapacityInternal_d00df wsJ7_copyOf_9075b := goodIn_r _ [25, 26, 27, 28, 29, 30, 31, 32, 33, 34, 16, 35, 36, 37, 38, 39] (by decide +kernel) (by decide +kernel)
set_option maxRecDepth 20000 in
theorem gJ5_ensureCapacityInternal_d00df_J7_copyOf_9075b : GoodIn wsJ5_ensureCapacityInternal_d00df (va_wsS RJ5 108 yJ7_copyOf_9075b wsJ7_copyOf_9075b) := goodIn_app (goodIn_of _ (by decide +kernel)) ggJ5_ensureCapacityInternal_d00df_J7_copyOf_9075b
set_option maxRecDepth 20000 in
theorem ggJ5_newCapacity_0f7a4_J8_newLength_cabcc : GoodIn wsJ5_newCapacity_0f7a4 wsJ8_newLength_cabcc := goodIn_r _ [7, 8, 9, 10, 11, 12, 13, 14, 6, 15] (by decide +kernel) (by decide +kernel)
set_option maxRecDepth 20000 in
theorem gJ5_newCapacity_0f7a4_J8_newLength_cabcc : GoodIn wsJ5_newCapacity_0f7a4 (va_wsS RJ5 114 yJ8_newLength_cabcc wsJ8_newLength_cabcc) := goodIn_app (goodIn_of _ (by decide +kernel)) ggJ5_newCapacity_0f7a4_J8_newLength_cabcc
set_option maxRecDepth 20000 in
theorem ggJ5_inflate_da8c8_J5_isLatin1_aae02 : GoodIn wsJ5_inflate_da8c8 wsJ5_isLatin1_aae02 := goodIn_r _ [9, 10, 3, 48, 49, 50, 51] (by decide +kernel) (by decide +kernel)
set_option maxRecDepth 20000 in
theorem gJ5_inflate_da8c8_J5_isLatin1_aae02_u83J4 : GoodIn wsJ5_inflate_da8c8 (va_wsU RJ5 83 RJ4 "java/lang/AbstractStringBuilder" ⟨"java/lang/AbstractStringBuilder", "isLatin1", "()Z"⟩ yJ5_isLatin1_aae02 wsJ5_isLatin1_aae02) := goodIn_app (goodIn_of _ (by decide +kernel)) ggJ5_inflate_da8c8_J5_isLatin1_aae02
set_option maxRecDepth 20000 in
theorem ggJ5_inflate_da8c8_J2_newBytesFor_77867 : GoodIn wsJ5_inflate_da8c8 wsJ2_newBytesFor_77867 := goodIn_r _ [14, 15, 16, 17, 13, 18, 19] (by decide +kernel) (by decide +kernel)
set_option maxRecDepth 20000 in
theorem gJ5_inflate_da8c8_J2_newBytesFor_77867 : GoodIn wsJ5_inflate_da8c8 (va_wsS RJ5 26 yJ2_newBytesFor_77867 wsJ2_newBytesFor_77867) := goodIn_app (goodIn_of _ (by decide +kernel)) ggJ5_inflate_da8c8_J2_newBytesFor_77867
set_option maxRecDepth 20000 in
theorem ggJ5_inflate_da8c8_J1_inflate_0e8fd : GoodIn wsJ5_inflate_da8c8 wsJ1_inflate_0e8fd := goodIn_r _ [23, 24, 25, 13, 26, 27, 28, 29, 30, 31, 32, 33, 34, 35, 36, 37, 38, 39, 40, 41, 42, 43, 44, 45, 46, 47] (by decide +kernel) (by decide +kernel)
set_option maxRecDepth 20000 in
theorem gJ5_inflate_da8c8_J1_inflate_0e8fd : GoodIn wsJ5_inflate_da8c8 (va_wsS RJ5 125 yJ1_inflate_0e8fd wsJ1_inflate_0e8fd) := goodIn_app (goodIn_of _ (by decide +kernel)) ggJ5_inflate_da8c8_J1_inflate_0e8fd
set_option maxRecDepth 20000 in
theorem ggJ5_setLength_d00df_J5_ensureCapacityInternal_d00df : GoodIn wsJ5_setLength_d00df wsJ5_ensureCapacityInternal_d00df := goodIn_r _ [12, 5, 13, 14, 15, 16, 17, 11, 18, 19, 20, 21, 22, 23, 24, 25, 26, 27, 28, 29, 30, 31, 32, 33, 34, 35, 36, 37, 38, 39, 40, 41, 42, 43, 44, 45, 46, 47, 48, 49, 83, 84, 85, 86] (by decide +kernel) (by decide +kernel)
set_option maxRecDepth 20000 in
theorem gJ5_setLength_d00df_J5_ensureCapacityInternal_d00df_u100J4 : GoodIn wsJ5_setLength_d00df (va_wsU RJ5 100 RJ4 "java/lang/AbstractStringBuilder" ⟨"java/lang/AbstractStringBuilder", "ensureCapacityInternal", "(I)V"⟩ yJ5_ensureCapacityInternal_d00df wsJ5_ensureCapacityInternal_d00df) := goodIn_app (goodIn_of _ (by decide +kernel)) ggJ5_setLength_d00df_J5_ensureCapacityInternal_d00df
set_option maxRecDepth 20000 in
theorem ggJ5_setLength_d00df_J5_isLatin1_aae02 : GoodIn wsJ5_setLength_d00df wsJ5_isLatin1_aae02 := goodIn_r _ [54, 55, 13, 83, 84, 85, 86] (by decide +kernel) (by decide +kernel)
set_option maxRecDepth 20000 in
theorem gJ5_setLength_d00df_J5_isLatin1_aae02_u83J4 : GoodIn wsJ5_setLength_d00df (va_wsU RJ5 83 RJ4 "java/lang/AbstractStringBuilder" ⟨"java/lang/AbstractStringBuilder", "isLatin1", "()Z"⟩ yJ5_isLatin1_aae02 wsJ5_isLatin1_aae02) := goodIn_app (goodIn_of _ (by decide +kernel)) ggJ5_setLength_d00df_J5_isLatin1_aae02
set_option maxRecDepth 20000 in
theorem ggJ5_setLength_d00df_J1_fillNull_b72d1 : GoodIn wsJ5_setLength_d00df wsJ1_fillNull_b72d1 := goodIn_r _ [59, 60, 61, 34, 62, 63, 64, 65, 66, 67, 68, 69, 70, 71, 83, 84, 85, 86, 87, 88, 89, 90, 91, 92] (by decide +kernel) (by decide +kernel)
set_option maxRecDepth 20000 in
theorem gJ5_setLength_d00df_J1_fillNull_b72d1 : GoodIn wsJ5_setLength_d00df (va_wsS RJ5 133 yJ1_fillNull_b72d1 wsJ1_fillNull_b72d1) := goodIn_app (goodIn_of _ (by decide +kernel)) ggJ5_setLength_d00df_J1_fillNull_b72d1
set_option maxRecDepth 20000 in
theorem ggJ5_setLength_d00df_J2_fillNull_b72d1 : GoodIn wsJ5_setLength_d00df wsJ2_fillNull_b72d1 := goodIn_r _ [75, 76, 61, 34, 62, 63, 64, 65, 66, 67, 68, 69, 70, 71, 83, 84, 85, 86, 87, 88, 89, 90, 91, 92] (by decide +kernel) (by decide +kernel)
set_option maxRecDepth 20000 in
theorem gJ5_setLength_d00df_J2_fillNull_b72d1 : GoodIn wsJ5_setLength_d00df (va_wsS RJ5 137 yJ2_fillNull_b72d1 wsJ2_fillNull_b72d1) := goodIn_app (goodIn_of _ (by decide +kernel)) ggJ5_setLength_d00df_J2_fillNull_b72d1
set_option maxRecDepth 20000 in
theorem ggJ5_charAt_5068e_J0_checkIndex_df160 : GoodIn wsJ5_charAt_5068e wsJ0_checkIndex_df160 := goodIn_r _ [11, 12, 13, 14, 15, 16] (by decide +kernel) (by decide +kernel)
set_option maxRecDepth 20000 in
theorem gJ5_charAt_5068e_J0_checkIndex_df160 : GoodIn wsJ5_charAt_5068e (va_wsS RJ5 144 yJ0_checkIndex_df160 wsJ0_checkIndex_df160) := goodIn_app (goodIn_of _ (by decide +kernel)) ggJ5_charAt_5068e_J0_checkIndex_df160
set_option maxRecDepth 20000 in
theorem ggJ5_charAt_5068e_J2_getChar_3b067 : GoodIn wsJ5_charAt_5068e wsJ2_getChar_3b067 := goodIn_r _ [20, 21, 22, 23, 24, 25, 19, 26] (by decide +kernel) (by decide +kernel)
set_option maxRecDepth 20000 in
theorem gJ5_charAt_5068e_J2_getChar_3b067 : GoodIn wsJ5_charAt_5068e (va_wsS RJ5 148 yJ2_getChar_3b067 wsJ2_getChar_3b067) := goodIn_app (goodIn_of _ (by decide +kernel)) ggJ5_charAt_5068e_J2_getChar_3b067
set_option maxRecDepth 20000 in
theorem ggJ5_append_cf1ce_J5_appendNull_278bc : GoodIn wsJ5_append_cf1ce wsJ5_appendNull_278bc := goodIn_r _ [7, 1, 8, 9, 10, 11, 12, 6, 13, 14, 15, 16, 17, 18, 19, 20, 21, 22, 23, 24, 25, 26, 27, 28, 29, 30, 31, 32, 33, 34, 35, 36, 37, 38, 39, 40, 41, 42, 43, 44, 45, 46, 47, 48, 49, 50, 51, 52, 53, 54, 55, 56, 57, 58, 59, 60, 61, 62, 63, 64, 65, 66, 67, 68, 69, 70, 71, 72, 73, 74, 75, 76, 77, 78, 79, 80, 81, 138, 139, 140, 141] (by decide +kernel) (by decide +kernel)
set_option maxRecDepth 20000 in
theorem gJ5_append_cf1ce_J5_appendNull_278bc_u204J4 : GoodIn wsJ5_append_cf1ce (va_wsU RJ5 204 RJ4 "java/lang/AbstractStringBuilder" ⟨"java/lang/AbstractStringBuilder", "appendNull", "()Ljava/lang/AbstractStringBuilder;"⟩ yJ5_appendNull_278bc wsJ5_appendNull_278bc) := goodIn_app (goodIn_of _ (by decide +kernel)) ggJ5_append_cf1ce_J5_appendNull_278bc
set_option maxRecDepth 20000 in
theorem ggJ5_append_cf1ce_J0_length_8abf5 : GoodIn wsJ5_append_cf1ce wsJ0_length_8abf5 := goodIn_r _ [85, 86, 87, 88, 89, 70, 90, 91, 92, 142, 143, 144, 145] (by decide +kernel) (by decide +kernel)
set_option maxRecDepth 20000 in
theorem gJ5_append_cf1ce_J0_length_8abf5 : GoodIn wsJ5_append_cf1ce (wsV RJ5 32 RJ0 yJ0_length_8abf5 wsJ0_length_8abf5) := goodIn_app (goodIn_of _ (by decide +kernel)) ggJ5_append_cf1ce_J0_length_8abf5
set_option maxRecDepth 20000 in
theorem ggJ5_append_cf1ce_J5_ensureCapacityInternal_d00df : GoodIn wsJ5_append_cf1ce wsJ5_ensureCapacityInternal_d00df := goodIn_r _ [13, 8, 14, 15, 16, 17, 18, 6, 19, 20, 21, 22, 23, 24, 25, 26, 27, 28, 29, 30, 31, 32, 33, 34, 35, 36, 37, 38, 39, 40, 41, 42, 43, 44, 45, 46, 47, 48, 49, 50, 138, 139, 140, 141] (by decide +kernel) (by decide +kernel)
set_option maxRecDepth 20000 in
theorem gJ5_append_cf1ce_J5_ensureCapacityInternal_d00df_u100J4 : GoodIn wsJ5_append_cf1ce (va_wsU RJ5 100 RJ4 "java/lang/AbstractStringBuilder" ⟨"java/lang/AbstractStringBuilder", "ensureCapacityInternal", "(I)V"⟩ yJ5_ensureCapacityInternal_d00df wsJ5_ensureCapacityInternal_d00df) := goodIn_app (goodIn_of _ (by decide +kernel)) ggJ5_append_cf1ce_J5_ensureCapacityInternal_d00df
set_option maxRecDepth 20000 in
theorem ggJ5_append_cf1ce_J5_putStringAt_47b60 : GoodIn wsJ5_append_cf1ce wsJ5_putStringAt_47b60 := goodIn_r _ [97, 8, 14, 98, 99, 100, 101, 6, 102, 56, 103, 88, 89, 70, 90, 91, 92, 104, 105, 106, 107, 108, 1, 51, 52, 53, 54, 55, 109, 110, 59, 111, 43, 112, 113, 114, 115, 116, 117, 118, 119, 120, 121, 122, 123, 124, 125, 65, 66, 67, 126, 127, 128, 72, 129, 130, 75, 131, 77, 78, 79, 61, 80, 81, 132, 133, 134, 135, 86, 136, 48, 49, 50, 87, 137, 138, 139, 140, 141, 142, 143, 144, 145] (by decide +kernel) (by decide +kernel)
set_option maxRecDepth 20000 in
theorem gJ5_append_cf1ce_J5_putStringAt_47b60_u208J4 : GoodIn wsJ5_append_cf1ce (va_wsU RJ5 208 RJ4 "java/lang/AbstractStringBuilder" ⟨"java/lang/AbstractStringBuilder", "putStringAt", "(ILjava/lang/String;)V"⟩ yJ5_putStringAt_47b60 wsJ5_putStringAt_47b60) := goodIn_app (goodIn_of _ (by decide +kernel)) ggJ5_append_cf1ce_J5_putStringAt_47b60
set_option maxRecDepth 20000 in
theorem ggJ5_appendNull_278bc_J5_ensureCapacityInternal_d00df : GoodIn wsJ5_appendNull_278bc wsJ5_ensureCapacityInternal_d00df := goodIn_r _ [8, 2, 9, 10, 11, 12, 13, 7, 14, 15, 16, 17, 18, 19, 20, 21, 22, 23, 24, 25, 26, 27, 28, 29, 30, 31, 32, 33, 34, 35, 36, 37, 38, 39, 40, 41, 42, 43, 44, 45, 77, 78, 79, 80] (by decide +kernel) (by decide +kernel)
set_option maxRecDepth 20000 in
theorem gJ5_appendNull_278bc_J5_ensureCapacityInternal_d00df_u100J4 : GoodIn wsJ5_appendNull_278bc (va_wsU RJ5 100 RJ4 "java/lang/AbstractStringBuilder" ⟨"java/lang/AbstractStringBuilder", "ensureCapacityInternal", "(I)V"⟩ yJ5_ensureCapacityInternal_d00df wsJ5_ensureCapacityInternal_d00df) := goodIn_app (goodIn_of _ (by decide +kernel)) ggJ5_appendNull_278bc_J5_ensureCapacityInternal_d00df
set_option maxRecDepth 20000 in
theorem ggJ5_appendNull_278bc_J5_isLatin1_aae02 : GoodIn wsJ5_appendNull_278bc wsJ5_isLatin1_aae02 := goodIn_r _ [50, 51, 9, 77, 78, 79, 80] (by decide +kernel) (by decide +kernel)
set_option maxRecDepth 20000 in
theorem gJ5_appendNull_278bc_J5_isLatin1_aae02_u83J4 : GoodIn wsJ5_appendNull_278bc (va_wsU RJ5 83 RJ4 "java/lang/AbstractStringBuilder" ⟨"java/lang/AbstractStringBuilder", "isLatin1", "()Z"⟩ yJ5_isLatin1_aae02 wsJ5_isLatin1_aae02) := goodIn_app (goodIn_of _ (by decide +kernel)) ggJ5_appendNull_278bc_J5_isLatin1_aae02
set_option maxRecDepth 20000 in
theorem ggJ5_appendNull_278bc_J2_putCharsAt_cd4e5 : GoodIn wsJ5_appendNull_278bc wsJ2_putCharsAt_cd4e5 := goodIn_r _ [55, 56, 57, 58, 54, 59, 60, 61, 62, 63, 64, 65, 66, 67, 68, 69, 70, 71, 72, 73, 74, 75, 76] (by decide +kernel) (by decide +kernel)
set_option maxRecDepth 20000 in
theorem gJ5_appendNull_278bc_J2_putCharsAt_cd4e5 : GoodIn wsJ5_appendNull_278bc (va_wsS RJ5 226 yJ2_putCharsAt_cd4e5 wsJ2_putCharsAt_cd4e5) := goodIn_app (goodIn_of _ (by decide +kernel)) ggJ5_appendNull_278bc_J2_putCharsAt_cd4e5
set_option maxRecDepth 20000 in
theorem ggJ5_append_3fe6f_J5_ensureCapacityInternal_d00df : GoodIn wsJ5_append_3fe6f wsJ5_ensureCapacityInternal_d00df := goodIn_r _ [8, 2, 9, 10, 11, 12, 13, 7, 14, 15, 16, 17, 18, 19, 20, 21, 22, 23, 24, 25, 26, 27, 28, 29, 30, 31, 32, 33, 34, 35, 36, 37, 38, 39, 40, 41, 42, 43, 44, 45, 108, 109, 110, 111] (by decide +kernel) (by decide +kernel)
set_option maxRecDepth 20000 in
theorem gJ5_append_3fe6f_J5_ensureCapacityInternal_d00df_u100J4 : GoodIn wsJ5_append_3fe6f (va_wsU RJ5 100 RJ4 "java/lang/AbstractStringBuilder" ⟨"java/lang/AbstractStringBuilder", "ensureCapacityInternal", "(I)V"⟩ yJ5_ensureCapacityInternal_d00df wsJ5_ensureCapacityInternal_d00df) := goodIn_app (goodIn_of _ (by decide +kernel)) ggJ5_append_3fe6f_J5_ensureCapacityInternal_d00df
set_option maxRecDepth 20000 in
theorem ggJ5_append_3fe6f_J5_isLatin1_aae02 : GoodIn wsJ5_append_3fe6f wsJ5_isLatin1_aae02 := goodIn_r _ [50, 51, 9, 108, 109, 110, 111] (by decide +kernel) (by decide +kernel)
set_option maxRecDepth 20000 in
theorem gJ5_append_3fe6f_J5_isLatin1_aae02_u83J4 : GoodIn wsJ5_append_3fe6f (va_wsU RJ5 83 RJ4 "java/lang/AbstractStringBuilder" ⟨"java/lang/AbstractStringBuilder", "isLatin1", "()Z"⟩ yJ5_isLatin1_aae02 wsJ5_isLatin1_aae02) := goodIn_app (goodIn_of _ (by decide +kernel)) ggJ5_append_3fe6f_J5_isLatin1_aae02
set_option maxRecDepth 20000 in
theorem ggJ5_append_3fe6f_J1_canEncode_fc78d : GoodIn wsJ5_append_3fe6f wsJ1_canEncode_fc78d := goodIn_r _ [55] (by decide +kernel) (by decide +kernel)
set_option maxRecDepth 20000 in
theorem gJ5_append_3fe6f_J1_canEncode_fc78d : GoodIn wsJ5_append_3fe6f (va_wsS RJ5 191 yJ1_canEncode_fc78d wsJ1_canEncode_fc78d) := goodIn_app (goodIn_of _ (by decide +kernel)) ggJ5_append_3fe6f_J1_canEncode_fc78d
set_option maxRecDepth 20000 in
theorem ggJ5_append_3fe6f_J5_inflate_da8c8 : GoodIn wsJ5_append_3fe6f wsJ5_inflate_da8c8 := goodIn_r _ [60, 2, 1, 9, 46, 47, 48, 49, 7, 50, 51, 61, 62, 63, 64, 38, 65, 66, 67, 68, 69, 70, 54, 71, 72, 73, 74, 75, 76, 77, 78, 79, 80, 81, 82, 83, 84, 85, 86, 87, 88, 89, 90, 91, 92, 93, 94, 95, 108, 109, 110, 111] (by decide +kernel) (by decide +kernel)
set_option maxRecDepth 20000 in
theorem gJ5_append_3fe6f_J5_inflate_da8c8_u195J4 : GoodIn wsJ5_append_3fe6f (va_wsU RJ5 195 RJ4 "java/lang/AbstractStringBuilder" ⟨"java/lang/AbstractStringBuilder", "inflate", "()V"⟩ yJ5_inflate_da8c8 wsJ5_inflate_da8c8) := goodIn_app (goodIn_of _ (by decide +kernel)) ggJ5_append_3fe6f_J5_inflate_da8c8
set_option maxRecDepth 20000 in
theorem ggJ5_append_3fe6f_J2_putCharSB_b72d1 : GoodIn wsJ5_append_3fe6f wsJ2_putCharSB_b72d1 := goodIn_r _ [98, 99, 100, 63, 101, 78, 79, 80, 102, 103, 83, 104, 85, 105, 106, 88, 107, 90, 91, 92, 93, 94, 95] (by decide +kernel) (by decide +kernel)
set_option maxRecDepth 20000 in
theorem gJ5_append_3fe6f_J2_putCharSB_b72d1 : GoodIn wsJ5_append_3fe6f (va_wsS RJ5 197 yJ2_putCharSB_b72d1 wsJ2_putCharSB_b72d1) := goodIn_app (goodIn_of _ (by decide +kernel)) ggJ5_append_3fe6f_J2_putCharSB_b72d1
set_option maxRecDepth 20000 in
theorem ggJ5_append_c97b9_J6_stringSize_0f7a4 : GoodIn wsJ5_append_c97b9 wsJ6_stringSize_0f7a4 := goodIn_r _ [6] (by decide +kernel) (by decide +kernel)
set_option maxRecDepth 20000 in
theorem gJ5_append_c97b9_J6_stringSize_0f7a4 : GoodIn wsJ5_append_c97b9 (va_wsS RJ5 245 yJ6_stringSize_0f7a4 wsJ6_stringSize_0f7a4) := goodIn_app (goodIn_of _ (by decide +kernel)) ggJ5_append_c97b9_J6_stringSize_0f7a4
set_option maxRecDepth 20000 in
theorem ggJ5_append_c97b9_J5_ensureCapacityInternal_d00df : GoodIn wsJ5_append_c97b9 wsJ5_ensureCapacityInternal_d00df := goodIn_r _ [12, 2, 13, 14, 15, 16, 17, 11, 18, 19, 20, 21, 22, 23, 24, 25, 26, 27, 28, 29, 30, 31, 32, 33, 34, 35, 36, 37, 38, 39, 40, 41, 42, 43, 44, 45, 46, 47, 48, 49, 91, 92, 93, 94] (by decide +kernel) (by decide +kernel)
set_option maxRecDepth 20000 in
theorem gJ5_append_c97b9_J5_ensureCapacityInternal_d00df_u100J4 : GoodIn wsJ5_append_c97b9 (va_wsU RJ5 100 RJ4 "java/lang/AbstractStringBuilder" ⟨"java/lang/AbstractStringBuilder", "ensureCapacityInternal", "(I)V"⟩ yJ5_ensureCapacityInternal_d00df wsJ5_ensureCapacityInternal_d00df) := goodIn_app (goodIn_of _ (by decide +kernel)) ggJ5_append_c97b9_J5_ensureCapacityInternal_d00df
set_option maxRecDepth 20000 in
theorem ggJ5_append_c97b9_J5_isLatin1_aae02 : GoodIn wsJ5_append_c97b9 wsJ5_isLatin1_aae02 := goodIn_r _ [54, 55, 13, 91, 92, 93, 94] (by decide +kernel) (by decide +kernel)
set_option maxRecDepth 20000 in
theorem gJ5_append_c97b9_J5_isLatin1_aae02_u83J4 : GoodIn wsJ5_append_c97b9 (va_wsU RJ5 83 RJ4 "java/lang/AbstractStringBuilder" ⟨"java/lang/AbstractStringBuilder", "isLatin1", "()Z"⟩ yJ5_isLatin1_aae02 wsJ5_isLatin1_aae02) := goodIn_app (goodIn_of _ (by decide +kernel)) ggJ5_append_c97b9_J5_isLatin1_aae02
set_option maxRecDepth 20000 in
theorem ggJ5_append_c97b9_J6_getChars_ba4f3 : GoodIn wsJ5_append_c97b9 wsJ6_getChars_ba4f3 := goodIn_r _ [58, 59, 60] (by decide +kernel) (by decide +kernel)
set_option maxRecDepth 20000 in
theorem gJ5_append_c97b9_J6_getChars_ba4f3 : GoodIn wsJ5_append_c97b9 (va_wsS RJ5 248 yJ6_getChars_ba4f3 wsJ6_getChars_ba4f3) := goodIn_app (goodIn_of _ (by decide +kernel)) ggJ5_append_c97b9_J6_getChars_ba4f3
set_option maxRecDepth 20000 in
theorem ggJ5_append_c97b9_J2_getChars_46870 : GoodIn wsJ5_append_c97b9 wsJ2_getChars_46870 := goodIn_r _ [64, 65, 66, 67, 63, 68, 69, 70, 71, 72, 73, 74, 75, 76, 77, 78, 79, 80, 81, 82, 83, 84, 85, 86, 87, 88, 89, 90] (by decide +kernel) (by decide +kernel)
set_option maxRecDepth 20000 in
theorem gJ5_append_c97b9_J2_getChars_46870 : GoodIn wsJ5_append_c97b9 (va_wsS RJ5 251 yJ2_getChars_46870 wsJ2_getChars_46870) := goodIn_app (goodIn_of _ (by decide +kernel)) ggJ5_append_c97b9_J2_getChars_46870
set_option maxRecDepth 20000 in
theorem ggJ5_inflateIfNeededFor_a7421_J0_coder_7d493 : GoodIn wsJ5_inflateIfNeededFor_a7421 wsJ0_coder_7d493 := goodIn_r _ [7, 8, 9, 63, 64, 65, 66] (by decide +kernel) (by decide +kernel)
set_option maxRecDepth 20000 in
theorem gJ5_inflateIfNeededFor_a7421_J0_coder_7d493 : GoodIn wsJ5_inflateIfNeededFor_a7421 (wsV RJ5 40 RJ0 yJ0_coder_7d493 wsJ0_coder_7d493) := goodIn_app (goodIn_of _ (by decide +kernel)) ggJ5_inflateIfNeededFor_a7421_J0_coder_7d493
set_option maxRecDepth 20000 in
theorem ggJ5_inflateIfNeededFor_a7421_J5_inflate_da8c8 : GoodIn wsJ5_inflateIfNeededFor_a7421 wsJ5_inflate_da8c8 := goodIn_r _ [15, 16, 17, 2, 18, 19, 20, 21, 14, 22, 1, 23, 24, 25, 26, 27, 28, 29, 30, 31, 32, 33, 34, 35, 36, 37, 38, 39, 40, 41, 42, 43, 44, 45, 46, 6, 47, 48, 49, 50, 51, 52, 53, 54, 55, 56, 57, 58, 59, 60, 61, 62] (by decide +kernel) (by decide +kernel)
set_option maxRecDepth 20000 in
theorem gJ5_inflateIfNeededFor_a7421_J5_inflate_da8c8_u195J4 : GoodIn wsJ5_inflateIfNeededFor_a7421 (va_wsU RJ5 195 RJ4 "java/lang/AbstractStringBuilder" ⟨"java/lang/AbstractStringBuilder", "inflate", "()V"⟩ yJ5_inflate_da8c8 wsJ5_inflate_da8c8) := goodIn_app (goodIn_of _ (by decide +kernel)) ggJ5_inflateIfNeededFor_a7421_J5_inflate_da8c8
set_option maxRecDepth 20000 in
theorem ggJ5_putStringAt_47b60_J5_inflateIfNeededFor_a7421 : GoodIn wsJ5_putStringAt_47b60 wsJ5_inflateIfNeededFor_a7421 := goodIn_r _ [8, 9, 2, 10, 11, 12, 13, 14, 15, 16, 17, 18, 19, 20, 7, 21, 1, 22, 23, 24, 25, 26, 27, 28, 29, 30, 31, 32, 33, 34, 35, 36, 37, 38, 39, 40, 41, 42, 43, 44, 45, 46, 47, 48, 49, 50, 51, 52, 53, 54, 55, 56, 57, 58, 59, 60, 61, 62, 63, 75, 76, 77, 78, 79, 80, 81, 82] (by decide +kernel) (by decide +kernel)
set_option maxRecDepth 20000 in
theorem gJ5_putStringAt_47b60_J5_inflateIfNeededFor_a7421_u397J4 : GoodIn wsJ5_putStringAt_47b60 (va_wsU RJ5 397 RJ4 "java/lang/AbstractStringBuilder" ⟨"java/lang/AbstractStringBuilder", "inflateIfNeededFor", "(Ljava/lang/String;)V"⟩ yJ5_inflateIfNeededFor_a7421 wsJ5_inflateIfNeededFor_a7421) := goodIn_app (goodIn_of _ (by decide +kernel)) ggJ5_putStringAt_47b60_J5_inflateIfNeededFor_a7421
set_option maxRecDepth 20000 in
theorem ggJ5_putStringAt_47b60_J0_getBytes_840e7 : GoodIn wsJ5_putStringAt_47b60 wsJ0_getBytes_840e7 := goodIn_r _ [67, 68, 69, 70, 71, 72, 73, 11, 12, 13, 14, 15, 16, 74, 38, 39, 40, 41, 42, 30, 43, 44, 45, 46, 47, 48, 49, 50, 51, 52, 53, 54, 55, 56, 57, 58, 59, 60, 61, 62, 63, 79, 80, 81, 82] (by decide +kernel) (by decide +kernel)
set_option maxRecDepth 20000 in
theorem gJ5_putStringAt_47b60_J0_getBytes_840e7 : GoodIn wsJ5_putStringAt_47b60 (wsV RJ5 399 RJ0 yJ0_getBytes_840e7 wsJ0_getBytes_840e7) := goodIn_app (goodIn_of _ (by decide +kernel)) ggJ5_putStringAt_47b60_J0_getBytes_840e7
set_option maxRecDepth 20000 in
theorem ggJx00060_init_d00df_J4_init_da8c8 : GoodIn wsJx00060_init_d00df wsJ4_init_da8c8 := goodIn_r _ [6, 7, 8, 9, 10, 11, 12, 13, 14, 15, 16, 17, 18, 19, 20, 21, 22, 23, 24, 25, 236, 237, 238, 239] (by decide +kernel) (by decide +kernel)
set_option maxRecDepth 20000 in
theorem gJx00060_init_d00df_J4_init_da8c8 : GoodIn wsJx00060_init_d00df (wsJ4_init_da8c8) := ggJx00060_init_d00df_J4_init_da8c8
set_option maxRecDepth 20000 in
theorem ggJx00060_init_d00df_J4_append_15ec4 : GoodIn wsJx00060_init_d00df wsJ4_append_15ec4 := goodIn_r _ [29, 30, 31, 32, 33, 9, 34, 35, 36, 37, 38, 39, 40, 16, 41, 42, 43, 44, 45, 17, 46, 47, 48, 49, 50, 51, 52, 53, 54, 55, 56, 57, 58, 59, 60, 61, 62, 63, 64, 65, 66, 67, 68, 69, 70, 71, 72, 73, 15, 74, 75, 76, 77, 78, 79, 80, 81, 82, 83, 84, 85, 14, 86, 87, 20, 88, 89, 90, 91, 92, 93, 94, 95, 96, 97, 98, 99, 100, 101, 102, 103, 104, 105, 106, 107, 108, 109, 110, 111, 112, 113, 114, 115, 116, 117, 118, 119, 120, 121, 122, 123, 124, 125, 126, 127, 128, 129, 130, 131, 132, 133, 134, 135, 136, 18, 19, 21, 22, 23, 24, 25, 137, 138, 139, 140, 141, 142, 143, 144, 145, 146, 147, 148, 149, 150, 151, 152, 153, 154, 155, 156, 157, 158, 236, 237, 238, 239, 240, 241, 242, 243] (by decide +kernel) (by decide +kernel)
set_option maxRecDepth 20000 in
theorem gJx00060_init_d00df_J4_append_15ec4 : GoodIn wsJx00060_init_d00df (wsV RJx00060 15 RJ4 yJ4_append_15ec4 wsJ4_append_15ec4) := goodIn_app (goodIn_of _ (by decide +kernel)) ggJx00060_init_d00df_J4_append_15ec4
set_option maxRecDepth 20000 in
theorem ggJx00060_init_d00df_J4_append_bf812 : GoodIn wsJx00060_init_d00df wsJ4_append_bf812 := goodIn_r _ [162, 163, 164, 32, 165, 9, 166, 35, 16, 167, 168, 169, 170, 41, 42, 43, 44, 45, 17, 46, 47, 48, 49, 50, 51, 52, 53, 54, 55, 56, 57, 58, 59, 60, 61, 62, 63, 64, 65, 66, 67, 68, 69, 70, 71, 72, 73, 15, 74, 75, 76, 77, 78, 79, 80, 81, 82, 83, 84, 85, 14, 171, 172, 173, 174, 175, 176, 177, 20, 178, 89, 90, 91, 92, 93, 94, 95, 96, 97, 98, 99, 100, 101, 102, 103, 104, 179, 180, 181, 182, 183, 105, 106, 107, 108, 109, 236, 237, 238, 239] (by decide +kernel) (by decide +kernel)
set_option maxRecDepth 20000 in
theorem gJx00060_init_d00df_J4_append_bf812 : GoodIn wsJx00060_init_d00df (wsV RJx00060 19 RJ4 yJ4_append_bf812 wsJ4_append_bf812) := goodIn_app (goodIn_of _ (by decide +kernel)) ggJx00060_init_d00df_J4_append_bf812
set_option maxRecDepth 20000 in
theorem ggJx00060_init_d00df_J4_toString_0e30d : GoodIn wsJx00060_init_d00df wsJ4_toString_0e30d := goodIn_r _ [187, 188, 189, 98, 190, 191, 192, 193, 194, 195, 196, 12, 13, 120, 114, 119, 197, 198, 199, 200, 201, 9, 202, 16, 203, 204, 205, 206, 207, 3, 208, 209, 32, 210, 211, 35, 212, 82, 83, 84, 85, 14, 17, 213, 214, 66, 215, 68, 69, 70, 71, 72, 73, 216, 217, 218, 15, 74, 75, 58, 76, 77, 78, 79, 80, 219, 220, 221, 222, 2, 223, 224, 20, 225, 226, 227, 228, 144, 145, 146, 93, 94, 95, 147, 148, 149, 100, 150, 151, 103, 152, 229, 230, 231, 89, 108, 109, 22, 23, 24, 25, 232, 233, 234, 235, 240, 241, 242, 243, 236, 237, 238, 239] (by decide +kernel) (by decide +kernel)
set_option maxRecDepth 20000 in
theorem gJx00060_init_d00df_J4_toString_0e30d : GoodIn wsJx00060_init_d00df (wsV RJx00060 22 RJ4 yJ4_toString_0e30d wsJ4_toString_0e30d) := goodIn_app (goodIn_of _ (by decide +kernel)) ggJx00060_init_d00df_J4_toString_0e30d
set_option maxRecDepth 20000 in
theorem ggJ0_init_81219_J0_init_db425 : GoodIn wsJ0_init_81219 wsJ0_init_db425 := goodIn_r _ [4, 5, 6, 7, 8, 9, 10, 11, 12, 13, 14, 15, 16, 17, 18, 19, 20, 21, 22, 23, 24, 25, 26, 27, 28, 29, 30, 31, 32, 33, 34, 35, 36, 37, 38, 39, 40, 41, 42, 43, 44, 45, 46, 47, 48, 49, 50, 51, 52, 53, 54, 55, 56, 57, 58, 59, 60, 61, 62, 63, 64, 65, 66, 67, 68, 69, 70, 71, 72, 73, 74, 75, 76, 77, 78, 79, 3, 80, 81, 82, 83, 84, 85, 86, 87, 88, 89, 90, 91, 92, 93, 94, 95, 96, 97, 98, 99, 100, 101, 102, 103, 104, 105, 106, 107] (by decide +kernel) (by decide +kernel)
set_option maxRecDepth 20000 in
theorem gJ0_init_81219_J0_init_db425 : GoodIn wsJ0_init_81219 (wsJ0_init_db425) := ggJ0_init_81219_J0_init_db425
set_option maxRecDepth 20000 in
theorem ggJ0_length_8abf5_J0_coder_7d493 : GoodIn wsJ0_length_8abf5 wsJ0_coder_7d493 := goodIn_r _ [6, 7, 8, 9, 10, 11, 12] (by decide +kernel) (by decide +kernel)
set_option maxRecDepth 20000 in
theorem gJ0_length_8abf5_J0_coder_7d493 : GoodIn wsJ0_length_8abf5 (wsV RJ0 335 RJ0 yJ0_coder_7d493 wsJ0_coder_7d493) := goodIn_app (goodIn_of _ (by decide +kernel)) ggJ0_length_8abf5_J0_coder_7d493
set_option maxRecDepth 20000 in
theorem ggJ0_getBytes_840e7_J0_coder_7d493 : GoodIn wsJ0_getBytes_840e7 wsJ0_coder_7d493 := goodIn_r _ [10, 11, 12, 41, 42, 43, 44] (by decide +kernel) (by decide +kernel)
set_option maxRecDepth 20000 in
theorem gJ0_getBytes_840e7_J0_coder_7d493 : GoodIn wsJ0_getBytes_840e7 (wsV RJ0 335 RJ0 yJ0_coder_7d493 wsJ0_coder_7d493) := goodIn_app (goodIn_of _ (by decide +kernel)) ggJ0_getBytes_840e7_J0_coder_7d493
set_option maxRecDepth 20000 in
theorem ggJ0_getBytes_840e7_J1_inflate_0e8fd : GoodIn wsJ0_getBytes_840e7 wsJ1_inflate_0e8fd := goodIn_r _ [16, 17, 18, 19, 20, 21, 22, 23, 24, 25, 26, 27, 28, 9, 29, 30, 31, 32, 33, 34, 35, 36, 37, 38, 39, 40] (by decide +kernel) (by decide +kernel)
set_option maxRecDepth 20000 in
theorem gJ0_getBytes_840e7_J1_inflate_0e8fd : GoodIn wsJ0_getBytes_840e7 (va_wsS RJ0 106 yJ1_inflate_0e8fd wsJ1_inflate_0e8fd) := goodIn_app (goodIn_of _ (by decide +kernel)) ggJ0_getBytes_840e7_J1_inflate_0e8fd
set_option maxRecDepth 20000 in
theorem ggJ0_init_db425_J5_getValue_6d5f1 : GoodIn wsJ0_init_db425 wsJ5_getValue_6d5f1 := goodIn_r _ [13, 14, 101, 102, 103, 104] (by decide +kernel) (by decide +kernel)
set_option maxRecDepth 20000 in
theorem gJ0_init_db425_J5_getValue_6d5f1_u552J4 : GoodIn wsJ0_init_db425 (va_wsU RJ0 552 RJ4 "java/lang/AbstractStringBuilder" ⟨"java/lang/AbstractStringBuilder", "getValue", "()[B"⟩ yJ5_getValue_6d5f1 wsJ5_getValue_6d5f1) := goodIn_app (goodIn_of _ (by decide +kernel)) ggJ0_init_db425_J5_getValue_6d5f1
set_option maxRecDepth 20000 in
theorem ggJ0_init_db425_J4_length_8abf5 : GoodIn wsJ0_init_db425 wsJ4_length_8abf5 := goodIn_r _ [21, 22, 16, 23, 24, 12, 25, 26, 101, 102, 103, 104] (by decide +kernel) (by decide +kernel)
set_option maxRecDepth 20000 in
theorem gJ0_init_db425_J4_length_8abf5_u549J4 : GoodIn wsJ0_init_db425 (va_wsO RJ0 549 RJ4 "java/lang/AbstractStringBuilder" ⟨"java/lang/AbstractStringBuilder", "length", "()I"⟩ yJ4_length_8abf5 wsJ4_length_8abf5) := goodIn_app (goodIn_of _ (by decide +kernel)) ggJ0_init_db425_J4_length_8abf5
set_option maxRecDepth 20000 in
theorem ggJ0_init_db425_J5_isLatin1_aae02 : GoodIn wsJ0_init_db425 wsJ5_isLatin1_aae02 := goodIn_r _ [31, 32, 33, 101, 102, 103, 104] (by decide +kernel) (by decide +kernel)
set_option maxRecDepth 20000 in
theorem gJ0_init_db425_J5_isLatin1_aae02_u1047J4 : GoodIn wsJ0_init_db425 (va_wsU RJ0 1047 RJ4 "java/lang/AbstractStringBuilder" ⟨"java/lang/AbstractStringBuilder", "isLatin1", "()Z"⟩ yJ5_isLatin1_aae02 wsJ5_isLatin1_aae02) := goodIn_app (goodIn_of _ (by decide +kernel)) ggJ0_init_db425_J5_isLatin1_aae02
set_option maxRecDepth 20000 in
theorem ggJ0_init_db425_J7_copyOfRange_39247 : GoodIn wsJ0_init_db425 wsJ7_copyOfRange_39247 := goodIn_r _ [37, 38, 39, 40, 41, 42, 43, 44, 45, 36, 46, 47, 48, 49, 50, 51, 52, 53, 54, 55, 56, 57, 58, 59, 60, 20, 101, 102, 103, 104] (by decide +kernel) (by decide +kernel)
set_option maxRecDepth 20000 in
theorem gJ0_init_db425_J7_copyOfRange_39247 : GoodIn wsJ0_init_db425 (va_wsS RJ0 54 yJ7_copyOfRange_39247 wsJ7_copyOfRange_39247) := goodIn_app (goodIn_of _ (by decide +kernel)) ggJ0_init_db425_J7_copyOfRange_39247
set_option maxRecDepth 20000 in
theorem ggJ0_init_db425_J2_compress_39247 : GoodIn wsJ0_init_db425 wsJ2_compress_39247 := goodIn_r _ [64, 47, 65, 66, 63, 67, 68, 69, 70, 71, 72, 73, 74, 75, 76, 77, 78, 79, 80, 81, 82, 83, 84, 85, 86, 87, 88, 89, 90, 91, 92, 93, 35, 36, 37, 38, 39, 40, 41, 42, 43, 44, 45, 46, 48, 49, 50, 51, 52, 53, 54, 55, 56, 57, 58, 59, 60, 20, 101, 102, 103, 104] (by decide +kernel) (by decide +kernel)
set_option maxRecDepth 20000 in
theorem gJ0_init_db425_J2_compress_39247 : GoodIn wsJ0_init_db425 (va_wsS RJ0 1051 yJ2_compress_39247 wsJ2_compress_39247) := goodIn_app (goodIn_of _ (by decide +kernel)) ggJ0_init_db425_J2_compress_39247
set_option maxRecDepth 20000 in
theorem ggJ0_init_db425_J2_coderFromArrayLen_85cad : GoodIn wsJ0_init_db425 wsJ2_coderFromArrayLen_85cad := goodIn_r _ [96] (by decide +kernel) (by decide +kernel)
set_option maxRecDepth 20000 in
theorem gJ0_init_db425_J2_coderFromArrayLen_85cad : GoodIn wsJ0_init_db425 (va_wsS RJ0 47 yJ2_coderFromArrayLen_85cad wsJ2_coderFromArrayLen_85cad) := goodIn_app (goodIn_of _ (by decide +kernel)) ggJ0_init_db425_J2_coderFromArrayLen_85cad
set_option maxRecDepth 20000 in
theorem ggJ0_checkIndex_df160_J3_checkIndex_8e157 : GoodIn wsJ0_checkIndex_df160 wsJ3_checkIndex_8e157 := goodIn_r _ [5] (by decide +kernel) (by decide +kernel)
set_option maxRecDepth 20000 in
theorem gJ0_checkIndex_df160_J3_checkIndex_8e157 : GoodIn wsJ0_checkIndex_df160 (va_wsS RJ0 1059 yJ3_checkIndex_8e157 wsJ3_checkIndex_8e157) := goodIn_app (goodIn_of _ (by decide +kernel)) ggJ0_checkIndex_df160_J3_checkIndex_8e157
set_option maxRecDepth 20000 in
theorem ggJ0_checkBoundsOffCount_cabcc_J3_checkFromIndexSize_8c36e : GoodIn wsJ0_checkBoundsOffCount_cabcc wsJ3_checkFromIndexSize_8c36e := goodIn_r _ [5] (by decide +kernel) (by decide +kernel)
set_option maxRecDepth 20000 in
theorem gJ0_checkBoundsOffCount_cabcc_J3_checkFromIndexSize_8c36e : GoodIn wsJ0_checkBoundsOffCount_cabcc (va_wsS RJ0 1065 yJ3_checkFromIndexSize_8c36e wsJ3_checkFromIndexSize_8c36e) := goodIn_app (goodIn_of _ (by decide +kernel)) ggJ0_checkBoundsOffCount_cabcc_J3_checkFromIndexSize_8c36e
set_option maxRecDepth 20000 in
theorem ggJ0_checkBoundsBeginEnd_23922_J3_checkFromToIndex_8c36e : GoodIn wsJ0_checkBoundsBeginEnd_23922 wsJ3_checkFromToIndex_8c36e := goodIn_r _ [5] (by decide +kernel) (by decide +kernel)
set_option maxRecDepth 20000 in
theorem gJ0_checkBoundsBeginEnd_23922_J3_checkFromToIndex_8c36e : GoodIn wsJ0_checkBoundsBeginEnd_23922 (va_wsS RJ0 1062 yJ3_checkFromToIndex_8c36e wsJ3_checkFromToIndex_8c36e) := goodIn_app (goodIn_of _ (by decide +kernel)) ggJ0_checkBoundsBeginEnd_23922_J3_checkFromToIndex_8c36e
set_option maxRecDepth 20000 in
theorem ggJ4_init_da8c8_J5_init_d00df : GoodIn wsJ4_init_da8c8 wsJ5_init_d00df := goodIn_r _ [4, 5, 6, 7, 8, 9, 10, 11, 12, 13, 14, 15, 16, 17, 18, 19, 20, 21, 22, 23] (by decide +kernel) (by decide +kernel)
set_option maxRecDepth 20000 in
theorem gJ4_init_da8c8_J5_init_d00df : GoodIn wsJ4_init_da8c8 (wsJ5_init_d00df) := ggJ4_init_da8c8_J5_init_d00df
set_option maxRecDepth 20000 in
theorem ggJ4_append_15ec4_J5_append_cf1ce : GoodIn wsJ4_append_15ec4 wsJ5_append_cf1ce := goodIn_r _ [6, 7, 8, 9, 10, 11, 5, 12, 13, 14, 15, 16, 17, 18, 19, 20, 21, 22, 23, 24, 25, 26, 27, 28, 29, 30, 31, 32, 33, 34, 35, 36, 37, 38, 39, 40, 41, 42, 43, 44, 45, 46, 47, 48, 49, 50, 51, 52, 53, 54, 55, 56, 57, 58, 59, 60, 61, 62, 63, 64, 65, 66, 67, 68, 69, 70, 71, 72, 73, 74, 75, 76, 77, 78, 79, 80, 81, 82, 83, 84, 85, 86, 87, 88, 89, 90, 91, 92, 93, 94, 95, 96, 97, 98, 99, 100, 101, 102, 103, 104, 105, 106, 107, 108, 109, 110, 111, 112, 113, 114, 115, 116, 117, 118, 119, 120, 121, 122, 123, 124, 125, 126, 127, 128, 129, 130, 131, 132, 133, 134, 135, 136, 137, 138, 139, 140, 141, 142, 143, 144, 145, 146, 147, 148, 149, 150] (by decide +kernel) (by decide +kernel)
set_option maxRecDepth 20000 in
theorem gJ4_append_15ec4_J5_append_cf1ce_s29 : GoodIn wsJ4_append_15ec4 (va_wsSU RJ4 29 yJ5_append_cf1ce wsJ5_append_cf1ce) := goodIn_app (goodIn_of _ (by decide +kernel)) ggJ4_append_15ec4_J5_append_cf1ce
set_option maxRecDepth 20000 in
theorem ggJ4_append_cf468_J5_append_3fe6f : GoodIn wsJ4_append_cf468 wsJ5_append_3fe6f := goodIn_r _ [6, 7, 8, 9, 10, 11, 12, 5, 13, 14, 15, 16, 17, 18, 19, 20, 21, 22, 23, 24, 25, 26, 27, 28, 29, 30, 31, 32, 33, 34, 35, 36, 37, 38, 39, 40, 41, 42, 43, 44, 45, 46, 47, 48, 49, 50, 51, 52, 53, 54, 55, 56, 57, 58, 59, 60, 61, 62, 63, 64, 65, 66, 67, 68, 69, 70, 71, 72, 73, 74, 75, 76, 77, 78, 79, 80, 81, 82, 83, 84, 85, 86, 87, 88, 89, 90, 91, 92, 93, 94, 95, 96, 97, 98, 99, 100, 101, 102, 103, 104, 105, 106, 107, 108, 109, 110, 111, 112, 113, 114, 115, 116] (by decide +kernel) (by decide +kernel)
set_option maxRecDepth 20000 in
theorem gJ4_append_cf468_J5_append_3fe6f_s50 : GoodIn wsJ4_append_cf468 (va_wsSU RJ4 50 yJ5_append_3fe6f wsJ5_append_3fe6f) := goodIn_app (goodIn_of _ (by decide +kernel)) ggJ4_append_cf468_J5_append_3fe6f
set_option maxRecDepth 20000 in
theorem ggJ4_append_bf812_J5_append_c97b9 : GoodIn wsJ4_append_bf812 wsJ5_append_c97b9 := goodIn_r _ [6, 7, 8, 9, 10, 11, 12, 13, 14, 15, 16, 5, 17, 18, 19, 20, 21, 22, 23, 24, 25, 26, 27, 28, 29, 30, 31, 32, 33, 34, 35, 36, 37, 38, 39, 40, 41, 42, 43, 44, 45, 46, 47, 48, 49, 50, 51, 52, 53, 54, 55, 56, 57, 58, 59, 60, 61, 62, 63, 64, 65, 66, 67, 68, 69, 70, 71, 72, 73, 74, 75, 76, 77, 78, 79, 80, 81, 82, 83, 84, 85, 86, 87, 88, 89, 90, 91, 92, 93, 94, 95, 96, 97, 98, 99] (by decide +kernel) (by decide +kernel)
set_option maxRecDepth 20000 in
theorem gJ4_append_bf812_J5_append_c97b9_s53 : GoodIn wsJ4_append_bf812 (va_wsSU RJ4 53 yJ5_append_c97b9 wsJ5_append_c97b9) := goodIn_app (goodIn_of _ (by decide +kernel)) ggJ4_append_bf812_J5_append_c97b9
set_option maxRecDepth 20000 in
theorem ggJ4_toString_0e30d_J0_init_81219 : GoodIn wsJ4_toString_0e30d wsJ0_init_81219 := goodIn_r _ [6, 7, 8, 3, 9, 10, 11, 12, 13, 14, 15, 16, 17, 18, 19, 20, 21, 22, 23, 24, 25, 26, 27, 28, 29, 30, 31, 32, 33, 34, 35, 36, 37, 38, 39, 40, 41, 42, 43, 44, 45, 46, 47, 48, 49, 50, 51, 52, 53, 54, 55, 56, 57, 58, 59, 60, 61, 62, 63, 64, 65, 66, 67, 68, 69, 70, 71, 72, 73, 74, 75, 76, 77, 78, 79, 80, 81, 82, 83, 84, 85, 86, 87, 88, 89, 90, 91, 92, 93, 94, 95, 96, 97, 98, 99, 100, 101, 102, 103, 104, 105, 106, 107, 108, 109, 110, 111, 112] (by decide +kernel) (by decide +kernel)
set_option maxRecDepth 20000 in
theorem gJ4_toString_0e30d_J0_init_81219 : GoodIn wsJ4_toString_0e30d (wsJ0_init_81219) := ggJ4_toString_0e30d_J0_init_81219
set_option maxRecDepth 20000 in
theorem ggJ4_charAt_5068e_J5_charAt_5068e : GoodIn wsJ4_charAt_5068e wsJ5_charAt_5068e := goodIn_r _ [6, 7, 8, 9, 10, 11, 12, 13, 14, 15, 16, 17, 18, 19, 20, 21, 22, 23, 24, 25, 26, 27, 28, 29, 30, 31, 32, 33, 34, 35, 36] (by decide +kernel) (by decide +kernel)
set_option maxRecDepth 20000 in
theorem gJ4_charAt_5068e_J5_charAt_5068e_s329 : GoodIn wsJ4_charAt_5068e (va_wsSU RJ4 329 yJ5_charAt_5068e wsJ5_charAt_5068e) := goodIn_app (goodIn_of _ (by decide +kernel)) ggJ4_charAt_5068e_J5_charAt_5068e
set_option maxRecDepth 20000 in
theorem ggJ4_setLength_d00df_J5_setLength_d00df : GoodIn wsJ4_setLength_d00df wsJ5_setLength_d00df := goodIn_r _ [6, 7, 8, 9, 10, 11, 12, 13, 14, 15, 16, 5, 17, 18, 19, 20, 21, 22, 23, 24, 25, 26, 27, 28, 29, 30, 31, 32, 33, 34, 35, 36, 37, 38, 39, 40, 41, 42, 43, 44, 45, 46, 47, 48, 49, 50, 51, 52, 53, 54, 55, 56, 57, 58, 59, 60, 61, 62, 63, 64, 65, 66, 67, 68, 69, 70, 71, 72, 73, 74, 75, 76, 77, 78, 79, 80, 81, 82, 83, 84, 85, 86, 87, 88, 89, 90, 91, 92, 93, 94, 95, 96, 97] (by decide +kernel) (by decide +kernel)
set_option maxRecDepth 20000 in
theorem gJ4_setLength_d00df_J5_setLength_d00df_s333 : GoodIn wsJ4_setLength_d00df (va_wsSU RJ4 333 yJ5_setLength_d00df wsJ5_setLength_d00df) := goodIn_app (goodIn_of _ (by decide +kernel)) ggJ4_setLength_d00df_J5_setLength_d00df
set_option maxRecDepth 20000 in
theorem ggJ4_length_8abf5_J5_length_8abf5 : GoodIn wsJ4_length_8abf5 wsJ5_length_8abf5 := goodIn_r _ [6, 7, 8, 9, 10, 11] (by decide +kernel) (by decide +kernel)
set_option maxRecDepth 20000 in
theorem gJ4_length_8abf5_J5_length_8abf5_s343 : GoodIn wsJ4_length_8abf5 (va_wsSU RJ4 343 yJ5_length_8abf5 wsJ5_length_8abf5) := goodIn_app (goodIn_of _ (by decide +kernel)) ggJ4_length_8abf5_J5_length_8abf5
set_option maxRecDepth 20000 in
theorem ggJx7c733_init_d00df_J4_init_da8c8 : GoodIn wsJx7c733_init_d00df wsJ4_init_da8c8 := goodIn_r _ [6, 7, 8, 9, 10, 11, 12, 13, 14, 15, 16, 17, 18, 19, 20, 21, 22, 23, 24, 25, 236, 237, 238, 239] (by decide +kernel) (by decide +kernel)
set_option maxRecDepth 20000 in
theorem gJx7c733_init_d00df_J4_init_da8c8 : GoodIn wsJx7c733_init_d00df (wsJ4_init_da8c8) := ggJx7c733_init_d00df_J4_init_da8c8
set_option maxRecDepth 20000 in
theorem ggJx7c733_init_d00df_J4_append_15ec4 : GoodIn wsJx7c733_init_d00df wsJ4_append_15ec4 := goodIn_r _ [29, 30, 31, 32, 33, 9, 34, 35, 36, 37, 38, 39, 40, 16, 41, 42, 43, 44, 45, 17, 46, 47, 48, 49, 50, 51, 52, 53, 54, 55, 56, 57, 58, 59, 60, 61, 62, 63, 64, 65, 66, 67, 68, 69, 70, 71, 72, 73, 15, 74, 75, 76, 77, 78, 79, 80, 81, 82, 83, 84, 85, 14, 86, 87, 20, 88, 89, 90, 91, 92, 93, 94, 95, 96, 97, 98, 99, 100, 101, 102, 103, 104, 105, 106, 107, 108, 109, 110, 111, 112, 113, 114, 115, 116, 117, 118, 119, 120, 121, 122, 123, 124, 125, 126, 127, 128, 129, 130, 131, 132, 133, 134, 135, 136, 18, 19, 21, 22, 23, 24, 25, 137, 138, 139, 140, 141, 142, 143, 144, 145, 146, 147, 148, 149, 150, 151, 152, 153, 154, 155, 156, 157, 158, 236, 237, 238, 239, 240, 241, 242, 243] (by decide +kernel) (by decide +kernel)
set_option maxRecDepth 20000 in
theorem gJx7c733_init_d00df_J4_append_15ec4 : GoodIn wsJx7c733_init_d00df (wsV RJx7c733 15 RJ4 yJ4_append_15ec4 wsJ4_append_15ec4) := goodIn_app (goodIn_of _ (by decide +kernel)) ggJx7c733_init_d00df_J4_append_15ec4
set_option maxRecDepth 20000 in
theorem ggJx7c733_init_d00df_J4_append_bf812 : GoodIn wsJx7c733_init_d00df wsJ4_append_bf812 := goodIn_r _ [162, 163, 164, 32, 165, 9, 166, 35, 16, 167, 168, 169, 170, 41, 42, 43, 44, 45, 17, 46, 47, 48, 49, 50, 51, 52, 53, 54, 55, 56, 57, 58, 59, 60, 61, 62, 63, 64, 65, 66, 67, 68, 69, 70, 71, 72, 73, 15, 74, 75, 76, 77, 78, 79, 80, 81, 82, 83, 84, 85, 14, 171, 172, 173, 174, 175, 176, 177, 20, 178, 89, 90, 91, 92, 93, 94, 95, 96, 97, 98, 99, 100, 101, 102, 103, 104, 179, 180, 181, 182, 183, 105, 106, 107, 108, 109, 236, 237, 238, 239] (by decide +kernel) (by decide +kernel)
set_option maxRecDepth 20000 in
theorem gJx7c733_init_d00df_J4_append_bf812 : GoodIn wsJx7c733_init_d00df (wsV RJx7c733 19 RJ4 yJ4_append_bf812 wsJ4_append_bf812) := goodIn_app (goodIn_of _ (by decide +kernel)) ggJx7c733_init_d00df_J4_append_bf812
set_option maxRecDepth 20000 in
theorem ggJx7c733_init_d00df_J4_toString_0e30d : GoodIn wsJx7c733_init_d00df wsJ4_toString_0e30d := goodIn_r _ [187, 188, 189, 98, 190, 191, 192, 193, 194, 195, 196, 12, 13, 120, 114, 119, 197, 198, 199, 200, 201, 9, 202, 16, 203, 204, 205, 206, 207, 3, 208, 209, 32, 210, 211, 35, 212, 82, 83, 84, 85, 14, 17, 213, 214, 66, 215, 68, 69, 70, 71, 72, 73, 216, 217, 218, 15, 74, 75, 58, 76, 77, 78, 79, 80, 219, 220, 221, 222, 2, 223, 224, 20, 225, 226, 227, 228, 144, 145, 146, 93, 94, 95, 147, 148, 149, 100, 150, 151, 103, 152, 229, 230, 231, 89, 108, 109, 22, 23, 24, 25, 232, 233, 234, 235, 240, 241, 242, 243, 236, 237, 238, 239] (by decide +kernel) (by decide +kernel)
set_option maxRecDepth 20000 in
theorem gJx7c733_init_d00df_J4_toString_0e30d : GoodIn wsJx7c733_init_d00df (wsV RJx7c733 22 RJ4 yJ4_toString_0e30d wsJ4_toString_0e30d) := goodIn_app (goodIn_of _ (by decide +kernel)) ggJx7c733_init_d00df_J4_toString_0e30d
set_option maxRecDepth 20000 in
theorem ggJ1_fillNull_b72d1_J7_fill_eb02e : GoodIn wsJ1_fillNull_b72d1 wsJ7_fill_eb02e := goodIn_r _ [4, 5, 6, 3, 7, 8, 9, 10, 11, 12, 13, 14, 15, 16, 17, 18, 19, 20, 21, 22, 23] (by decide +kernel) (by decide +kernel)
set_option maxRecDepth 20000 in
theorem gJ1_fillNull_b72d1_J7_fill_eb02e : GoodIn wsJ1_fillNull_b72d1 (va_wsS RJ1 236 yJ7_fill_eb02e wsJ7_fill_eb02e) := goodIn_app (goodIn_of _ (by decide +kernel)) ggJ1_fillNull_b72d1_J7_fill_eb02e
set_option maxRecDepth 20000 in
theorem ggJ1_inflate_0e8fd_J2_inflate_0e8fd : GoodIn wsJ1_inflate_0e8fd wsJ2_inflate_0e8fd := goodIn_r _ [4, 5, 6, 3, 7, 8, 9, 10, 11, 12, 13, 14, 15, 16, 17, 18, 19, 20, 21, 22, 23, 24, 25] (by decide +kernel) (by decide +kernel)
set_option maxRecDepth 20000 in
theorem gJ1_inflate_0e8fd_J2_inflate_0e8fd : GoodIn wsJ1_inflate_0e8fd (va_wsS RJ1 240 yJ2_inflate_0e8fd wsJ2_inflate_0e8fd) := goodIn_app (goodIn_of _ (by decide +kernel)) ggJ1_inflate_0e8fd_J2_inflate_0e8fd
set_option maxRecDepth 20000 in
theorem ggJ7_fill_eb02e_J7_rangeCheck_23922 : GoodIn wsJ7_fill_eb02e wsJ7_rangeCheck_23922 := goodIn_r _ [4, 5, 6, 7, 8, 9, 10, 11, 12, 13, 14, 15, 16, 17, 18, 19, 20] (by decide +kernel) (by decide +kernel)
set_option maxRecDepth 20000 in
theorem gJ7_fill_eb02e_J7_rangeCheck_23922 : GoodIn wsJ7_fill_eb02e (va_wsS RJ7 13 yJ7_rangeCheck_23922 wsJ7_rangeCheck_23922) := goodIn_app (goodIn_of _ (by decide +kernel)) ggJ7_fill_eb02e_J7_rangeCheck_23922
set_option maxRecDepth 20000 in
theorem ggJ7_copyOfRange_39247_J7_copyOfRangeByte_39247 : GoodIn wsJ7_copyOfRange_39247 wsJ7_copyOfRangeByte_39247 := goodIn_r _ [10, 11, 12, 13, 14, 15, 16, 17, 18, 19, 20, 21, 9, 22, 23, 24, 25, 26, 27, 28, 29] (by decide +kernel) (by decide +kernel)
set_option maxRecDepth 20000 in
theorem gJ7_copyOfRange_39247_J7_copyOfRangeByte_39247 : GoodIn wsJ7_copyOfRange_39247 (va_wsS RJ7 339 yJ7_copyOfRangeByte_39247 wsJ7_copyOfRangeByte_39247) := goodIn_app (goodIn_of _ (by decide +kernel)) ggJ7_copyOfRange_39247_J7_copyOfRangeByte_39247
set_option maxRecDepth 20000 in
theorem ggJ7_copyOfRangeByte_39247_J7_checkLength_df160 : GoodIn wsJ7_copyOfRangeByte_39247 wsJ7_checkLength_df160 := goodIn_r _ [13, 14, 15, 16, 17, 18, 19, 20] (by decide +kernel) (by decide +kernel)
set_option maxRecDepth 20000 in
theorem gJ7_copyOfRangeByte_39247_J7_checkLength_df160 : GoodIn wsJ7_copyOfRangeByte_39247 (va_wsS RJ7 343 yJ7_checkLength_df160 wsJ7_checkLength_df160) := goodIn_app (goodIn_of _ (by decide +kernel)) ggJ7_copyOfRangeByte_39247_J7_checkLength_df160
set_option maxRecDepth 20000 in
theorem ggJ8_newLength_cabcc_J8_hugeLength_7cf53 : GoodIn wsJ8_newLength_cabcc wsJ8_hugeLength_7cf53 := goodIn_r _ [9, 5] (by decide +kernel) (by decide +kernel)
set_option maxRecDepth 20000 in
theorem gJ8_newLength_cabcc_J8_hugeLength_7cf53 : GoodIn wsJ8_newLength_cabcc (va_wsS RJ8 201 yJ8_hugeLength_7cf53 wsJ8_hugeLength_7cf53) := goodIn_app (goodIn_of _ (by decide +kernel)) ggJ8_newLength_cabcc_J8_hugeLength_7cf53
set_option maxRecDepth 20000 in
theorem ggL_does_X4_loan : GoodIn wsL_does wsX4_loan := goodIn_ca (goodIn_ca (goodIn_r _ [8, 9, 10, 11, 12, 13, 14, 15, 7, 16, 17, 18, 19, 20, 21, 22, 23, 24, 25, 26, 27, 28, 29, 30, 31, 32, 33, 34, 35, 36, 37, 38, 39, 40, 41, 42, 43, 44, 45, 46, 47, 48, 49, 50, 51, 52, 53, 54, 55, 56, 57, 58, 59, 60, 61, 62, 63, 64, 65, 66, 67, 68, 69, 70, 71, 72, 73, 74, 75, 76, 77, 78, 79, 80, 81, 82, 83, 84, 85, 86, 87, 88, 89, 90, 91, 92, 93, 94, 95, 96, 97, 98, 99, 100, 101, 102, 103, 104, 105, 106, 107, 108, 146, 147, 148, 149, 150, 151, 152, 153, 154, 155, 156, 157, 158, 159, 160, 161, 162, 163] (by decide +kernel) (by decide +kernel)) (goodIn_sub (fun _ h => List.mem_cons_of_mem _ (List.mem_append_left _ (List.mem_append_left _ (List.mem_append_right _ h)))) (by decide +kernel))) (goodIn_sub (fun _ h => List.mem_cons_of_mem _ (List.mem_append_left _ (List.mem_append_right _ h))) (by decide +kernel))
set_option maxRecDepth 20000 in
theorem gL_does_X4_loan : GoodIn wsL_does (wsV RL 9 RX4 yX4_loan wsX4_loan) := goodIn_app (goodIn_of _ (by decide +kernel)) ggL_does_X4_loan
set_option maxRecDepth 20000 in
theorem ggL_does_X4_strike : GoodIn wsL_does wsX4_strike := goodIn_ca (goodIn_ca (goodIn_r _ [112, 113, 114, 9, 14, 15, 7, 16, 17, 18, 19, 20, 21, 27, 28, 29, 30, 31, 32, 33, 34, 35, 36, 37, 38, 39, 40, 41, 42, 43, 44, 45, 46, 47, 48, 49, 50, 51, 52, 53, 54, 55, 56, 57, 58, 59, 60, 61, 62, 63, 64, 65, 66, 67, 68, 69, 70, 71, 72, 73, 74, 75, 76, 77, 78, 79, 80, 81, 82, 83, 84, 85, 86, 87, 88, 89, 90, 91, 92, 93, 94, 95, 96, 97, 98, 99, 100, 101, 102, 103, 104, 105, 106, 107, 108, 146, 147, 148, 149, 150, 151, 152, 153, 154, 155, 156, 157, 158, 159, 160, 161, 162, 163] (by decide +kernel) (by decide +kernel)) (goodIn_sub (fun _ h => List.mem_cons_of_mem _ (List.mem_append_right _ h)) (by decide +kernel))) (goodIn_sub (fun _ h => List.mem_cons_of_mem _ (List.mem_append_left _ (List.mem_append_left _ (List.mem_append_right _ h)))) (by decide +kernel))
set_option maxRecDepth 20000 in
theorem gL_does_X4_strike : GoodIn wsL_does (wsV RL 15 RX4 yX4_strike wsX4_strike) := goodIn_app (goodIn_of _ (by decide +kernel)) ggL_does_X4_strike
set_option maxRecDepth 20000 in
theorem ggL_does_X4_bar : GoodIn wsL_does wsX4_bar := goodIn_ca (goodIn_ca (goodIn_r _ [118, 9, 19, 20, 7, 21, 17, 18, 22, 23, 24, 25, 26, 119, 120, 121, 30, 122, 43, 123, 124, 125, 126, 37, 38, 39, 40, 41, 42, 32, 44, 45, 46, 47, 48, 49, 50, 51, 52, 53, 54, 55, 56, 57, 58, 59, 60, 61, 62, 63, 64, 65, 66, 67, 68, 69, 70, 71, 72, 73, 74, 75, 76, 77, 78, 79, 80, 81, 82, 83, 84, 85, 86, 87, 88, 89, 90, 91, 92, 93, 94, 95, 96, 97, 98, 99, 100, 101, 102, 103, 104, 105, 106, 107, 108, 146, 147, 148, 149, 150, 151, 152, 153, 154, 155, 156, 157, 158, 159, 160, 161, 162, 163] (by decide +kernel) (by decide +kernel)) (goodIn_sub (fun _ h => List.mem_cons_of_mem _ (List.mem_append_left _ (List.mem_append_left _ (List.mem_append_right _ h)))) (by decide +kernel))) (goodIn_sub (fun _ h => List.mem_cons_of_mem _ (List.mem_append_left _ (List.mem_append_right _ h))) (by decide +kernel))
set_option maxRecDepth 20000 in
theorem gL_does_X4_bar : GoodIn wsL_does (wsV RL 19 RX4 yX4_bar wsX4_bar) := goodIn_app (goodIn_of _ (by decide +kernel)) ggL_does_X4_bar
set_option maxRecDepth 20000 in
theorem ggL_does_X4_rest : GoodIn wsL_does wsX4_rest := goodIn_ca (goodIn_r _ [130, 54, 14, 15, 7, 16, 17, 18, 131, 132, 133, 134, 135, 136, 60, 137, 67, 146, 147, 148, 149, 150, 151, 152, 159, 160, 161, 162, 163] (by decide +kernel) (by decide +kernel)) (goodIn_sub (fun _ h => List.mem_cons_of_mem _ (List.mem_append_left _ (List.mem_append_left _ (List.mem_append_right _ h)))) (by decide +kernel))
set_option maxRecDepth 20000 in
theorem gL_does_X4_rest : GoodIn wsL_does (wsV RL 22 RX4 yX4_rest wsX4_rest) := goodIn_app (goodIn_of _ (by decide +kernel)) ggL_does_X4_rest
set_option maxRecDepth 20000 in
theorem ggL_does_X4_fade : GoodIn wsL_does wsX4_fade := goodIn_r _ [141, 9, 142, 143, 144, 30, 145, 32, 37, 38, 39, 40, 41, 42, 43, 44, 45, 46, 47, 48, 49, 50, 51, 52, 7, 53, 54, 55, 56, 57, 58, 59, 60, 61, 62, 63, 64, 65, 66, 67, 68, 69, 70, 71, 72, 73, 74, 75, 76, 77, 78, 79, 80, 81, 82, 83, 84, 85, 86, 87, 88, 89, 90, 91, 92, 93, 94, 95, 96, 97, 98, 99, 100, 101, 102, 103, 104, 105, 106, 107, 108, 146, 147, 148, 149, 150, 151, 152, 153, 154, 155, 156, 157, 158, 159, 160, 161, 162, 163] (by decide +kernel) (by decide +kernel)
set_option maxRecDepth 20000 in
theorem gL_does_X4_fade : GoodIn wsL_does (wsV RL 25 RX4 yX4_fade wsX4_fade) := goodIn_app (goodIn_of _ (by decide +kernel)) ggL_does_X4_fade
set_option maxRecDepth 20000 in
theorem ggL_walks_X4_walk : GoodIn wsL_walks wsX4_walk := goodIn_ca (goodIn_r _ [6, 7, 8, 9, 10, 11, 5, 12, 13, 14, 15, 16, 17, 18, 19, 20, 21, 22, 23, 24, 25, 26, 27, 28, 29, 30, 31, 32, 33, 34, 35, 36, 37, 38, 39, 40, 41, 42, 43, 44, 45, 46, 47, 48, 49, 50, 51, 52, 53, 54, 55, 56, 57, 58, 59, 60, 61, 62, 63, 64, 65, 66, 67, 68, 69, 70, 71, 72, 73, 74, 75, 76, 77, 78, 79, 80, 81, 82, 83, 84, 85, 86, 87, 88, 89, 90, 91, 92] (by decide +kernel) (by decide +kernel)) (goodIn_sub (fun _ h => List.mem_cons_of_mem _ (List.mem_append_right _ h)) (by decide +kernel))
set_option maxRecDepth 20000 in
theorem gL_walks_X4_walk : GoodIn wsL_walks (wsV RL 35 RX4 yX4_walk wsX4_walk) := goodIn_app (goodIn_of _ (by decide +kernel)) ggL_walks_X4_walk
set_option maxRecDepth 20000 in
theorem ggL_tell_L_low : GoodIn wsL_tell wsL_low := goodIn_r _ [5, 6] (by decide +kernel) (by decide +kernel)
set_option maxRecDepth 20000 in
theorem gL_tell_L_low : GoodIn wsL_tell (va_wsS RL 39 yL_low wsL_low) := goodIn_app (goodIn_of _ (by decide +kernel)) ggL_tell_L_low
set_option maxRecDepth 20000 in
theorem ggL_tell_X4_landed : GoodIn wsL_tell wsX4_landed := goodIn_ca (goodIn_r _ [11, 12, 13, 14, 10, 15, 16, 17, 18, 19, 20, 21, 22, 23, 24, 25, 26, 330, 331, 332, 333, 334, 335, 336, 337, 338, 339, 340, 341] (by decide +kernel) (by decide +kernel)) (goodIn_sub (fun _ h => List.mem_cons_of_mem _ (List.mem_append_right _ h)) (by decide +kernel))
set_option maxRecDepth 20000 in
theorem gL_tell_X4_landed : GoodIn wsL_tell (wsV RL 44 RX4 yX4_landed wsX4_landed) := goodIn_app (goodIn_of _ (by decide +kernel)) ggL_tell_X4_landed
set_option maxRecDepth 20000 in
theorem ggL_tell_X4_rest : GoodIn wsL_tell wsX4_rest := goodIn_ca (goodIn_r _ [30, 12, 13, 14, 10, 15, 16, 17, 18, 19, 20, 31, 32, 33, 24, 34, 35, 330, 331, 332, 333, 334, 335, 336, 337, 338, 339, 340, 341] (by decide +kernel) (by decide +kernel)) (goodIn_sub (fun _ h => List.mem_cons_of_mem _ (List.mem_append_right _ h)) (by decide +kernel))
set_option maxRecDepth 20000 in
theorem gL_tell_X4_rest : GoodIn wsL_tell (wsV RL 22 RX4 yX4_rest wsX4_rest) := goodIn_app (goodIn_of _ (by decide +kernel)) ggL_tell_X4_rest
set_option maxRecDepth 20000 in
theorem ggL_tell_X4_sent : GoodIn wsL_tell wsX4_sent := goodIn_ca (goodIn_r _ [39, 12, 13, 14, 10, 15, 16, 17, 18, 19, 20, 40, 41, 42, 24, 43, 44, 330, 331, 332, 333, 334, 335, 336, 337, 338, 339, 340, 341] (by decide +kernel) (by decide +kernel)) (goodIn_sub (fun _ h => List.mem_cons_of_mem _ (List.mem_append_right _ h)) (by decide +kernel))
set_option maxRecDepth 20000 in
theorem gL_tell_X4_sent : GoodIn wsL_tell (wsV RL 47 RX4 yX4_sent wsX4_sent) := goodIn_app (goodIn_of _ (by decide +kernel)) ggL_tell_X4_sent
set_option maxRecDepth 20000 in
theorem ggL_tell_X4_text : GoodIn wsL_tell wsX4_text := goodIn_ca (goodIn_r _ [48, 49, 13, 14, 10, 15, 16, 17, 50, 51, 52, 53, 54, 55, 56, 57, 58, 59, 60, 61, 62, 63, 64, 65, 66, 67, 68, 69, 70, 71, 72, 73, 74, 75, 76, 77, 78, 79, 80, 81, 82, 83, 84, 85, 86, 87, 88, 89, 90, 91, 92, 93, 94, 95, 96, 97, 98, 99, 100, 101, 102, 103, 104, 105, 106, 107, 108, 109, 110, 111, 112, 113, 114, 115, 116, 117, 118, 119, 120, 121, 122, 123, 124, 125, 126, 127, 128, 129, 130, 131, 132, 133, 134, 135, 136, 137, 138, 139, 140, 141, 142, 143, 144, 145, 146, 147, 148, 149, 150, 151, 152, 153, 154, 155, 156, 157, 158, 159, 160, 161, 162, 163, 164, 165, 166, 167, 168, 169, 170, 171, 172, 173, 174, 175, 176, 177, 178, 179, 180, 181, 182, 183, 184, 185, 186, 187, 188, 189, 190, 191, 192, 193, 194, 195, 196, 197, 198, 199, 200, 201, 202, 203, 204, 205, 206, 207, 208, 209, 210, 211, 212, 213, 214, 215, 216, 217, 218, 219, 220, 221, 222, 223, 224, 225, 226, 227, 228, 229, 230, 231, 232, 233, 234, 235, 236, 237, 238, 239, 240, 241, 242, 243, 244, 245, 246, 247, 248, 249, 250, 251, 252, 253, 254, 255, 256, 257, 258, 259, 260, 261, 262, 263, 264, 265, 266, 267, 268, 269, 270, 271, 272, 273, 274, 275, 276, 277, 278, 279, 280, 281, 282, 283, 284, 285, 286, 287, 288, 289, 290, 291, 292, 293, 294, 295, 296, 297, 298, 299, 300, 301, 302, 303, 304, 305, 306, 307, 308, 309, 310, 311, 312, 313, 314, 315, 316, 317, 318, 319, 320, 330, 331, 332, 333, 334, 335, 336, 342, 343, 344, 345, 346, 347, 348, 349, 350, 351, 352, 353, 354, 355, 356, 357, 358, 359, 360, 361, 362, 363, 364, 365, 366, 367] (by decide +kernel) (by decide +kernel)) (goodIn_sub (fun _ h => List.mem_cons_of_mem _ (List.mem_append_right _ h)) (by decide +kernel))
set_option maxRecDepth 20000 in
theorem gL_tell_X4_text : GoodIn wsL_tell (wsV RL 50 RX4 yX4_text wsX4_text) := goodIn_app (goodIn_of _ (by decide +kernel)) ggL_tell_X4_text
set_option maxRecDepth 20000 in
theorem ggL_tell_X4_pushes : GoodIn wsL_tell wsX4_pushes := goodIn_r _ [324, 12, 325, 326, 327, 24, 328, 329, 330, 331, 332, 333, 334, 335, 336, 337, 338, 339, 340, 341] (by decide +kernel) (by decide +kernel)
set_option maxRecDepth 20000 in
theorem gL_tell_X4_pushes : GoodIn wsL_tell (wsV RL 54 RX4 yX4_pushes wsX4_pushes) := goodIn_app (goodIn_of _ (by decide +kernel)) ggL_tell_X4_pushes
set_option maxRecDepth 20000 in
theorem ggL_asks_L_low : GoodIn wsL_asks wsL_low := goodIn_r _ [5, 6] (by decide +kernel) (by decide +kernel)
set_option maxRecDepth 20000 in
theorem gL_asks_L_low : GoodIn wsL_asks (va_wsS RL 39 yL_low wsL_low) := goodIn_app (goodIn_of _ (by decide +kernel)) ggL_asks_L_low
set_option maxRecDepth 20000 in
theorem ggL_asks_X4_landed : GoodIn wsL_asks wsX4_landed := goodIn_ca (goodIn_r _ [11, 12, 13, 14, 10, 15, 16, 17, 18, 19, 20, 21, 22, 23, 24, 25, 26, 45, 46, 47, 48, 49, 50, 51, 52, 53, 54, 55, 56] (by decide +kernel) (by decide +kernel)) (goodIn_sub (fun _ h => List.mem_cons_of_mem _ (List.mem_append_right _ h)) (by decide +kernel))
set_option maxRecDepth 20000 in
theorem gL_asks_X4_landed : GoodIn wsL_asks (wsV RL 44 RX4 yX4_landed wsX4_landed) := goodIn_app (goodIn_of _ (by decide +kernel)) ggL_asks_X4_landed
set_option maxRecDepth 20000 in
theorem ggL_asks_X4_rest : GoodIn wsL_asks wsX4_rest := goodIn_ca (goodIn_r _ [30, 12, 13, 14, 10, 15, 16, 17, 18, 19, 20, 31, 32, 33, 24, 34, 35, 45, 46, 47, 48, 49, 50, 51, 52, 53, 54, 55, 56] (by decide +kernel) (by decide +kernel)) (goodIn_sub (fun _ h => List.mem_cons_of_mem _ (List.mem_append_right _ h)) (by decide +kernel))
set_option maxRecDepth 20000 in
theorem gL_asks_X4_rest : GoodIn wsL_asks (wsV RL 22 RX4 yX4_rest wsX4_rest) := goodIn_app (goodIn_of _ (by decide +kernel)) ggL_asks_X4_rest
set_option maxRecDepth 20000 in
theorem ggL_asks_X4_sent : GoodIn wsL_asks wsX4_sent := goodIn_ca (goodIn_r _ [39, 12, 13, 14, 10, 15, 16, 17, 18, 19, 20, 40, 41, 42, 24, 43, 44, 45, 46, 47, 48, 49, 50, 51, 52, 53, 54, 55, 56] (by decide +kernel) (by decide +kernel)) (goodIn_sub (fun _ h => List.mem_cons_of_mem _ (List.mem_append_right _ h)) (by decide +kernel))
set_option maxRecDepth 20000 in
theorem gL_asks_X4_sent : GoodIn wsL_asks (wsV RL 47 RX4 yX4_sent wsX4_sent) := goodIn_app (goodIn_of _ (by decide +kernel)) ggL_asks_X4_sent
set_option maxRecDepth 20000 in
theorem ggL_act_L_low : GoodIn wsL_act wsL_low := goodIn_r _ [4, 5] (by decide +kernel) (by decide +kernel)
set_option maxRecDepth 20000 in
theorem gL_act_L_low : GoodIn wsL_act (va_wsS RL 39 yL_low wsL_low) := goodIn_app (goodIn_of _ (by decide +kernel)) ggL_act_L_low
set_option maxRecDepth 20000 in
theorem ggL_act_L_does : GoodIn wsL_act wsL_does := goodIn_ca (goodIn_ca (goodIn_ca (goodIn_r _ [8, 9, 10, 11, 12, 13, 14, 15, 16, 17, 18, 19, 20, 21, 22, 23, 24, 25, 26, 27, 28, 29, 30, 31, 32, 33, 34, 35, 36, 37, 38, 39, 40, 41, 42, 43, 44, 45, 46, 47, 48, 49, 50, 51, 52, 53, 54, 55, 56, 57, 58, 59, 60, 61, 62, 63, 64, 65, 66, 67, 68, 69, 70, 71, 72, 73, 74, 75, 76, 77, 78, 79, 80, 81, 82, 83, 84, 85, 86, 87, 88, 89, 90, 91, 92, 93, 94, 95, 96, 97, 98, 99, 100, 101, 102, 103, 104, 105, 106, 107, 108, 109, 110, 111, 112, 113, 114, 115, 116, 117, 118, 119, 120, 121, 122, 123, 124, 125, 126, 127, 128, 129, 130, 131, 132, 133, 134, 135, 136, 137, 138, 139, 140, 141, 142, 143, 144, 145, 146, 147, 148, 149, 150, 151, 152, 153, 154, 155, 156, 157, 158, 159, 160, 161, 162, 163, 164, 165, 166, 167, 168, 169, 170, 171] (by decide +kernel) (by decide +kernel)) (goodIn_sub (fun _ h => List.mem_cons_of_mem _ (List.mem_append_left _ (List.mem_append_left _ (List.mem_append_right _ h)))) (by decide +kernel))) (goodIn_sub (fun _ h => List.mem_cons_of_mem _ (List.mem_append_left _ (List.mem_append_right _ h))) (by decide +kernel))) (goodIn_sub (fun _ h => List.mem_cons_of_mem _ (List.mem_append_right _ h)) (by decide +kernel))
set_option maxRecDepth 20000 in
theorem gL_act_L_does : GoodIn wsL_act (va_wsS RL 59 yL_does wsL_does) := goodIn_app (goodIn_of _ (by decide +kernel)) ggL_act_L_does
