set_option maxRecDepth 20000 in
theorem ggX0_init_X5_init : GoodIn wsX0_init wsX5_init := goodIn_r _ [5, 6, 7, 8, 9, 10, 11, 12, 13, 14, 15, 16, 17, 18, 19, 20, 21, 22, 23, 24, 25] (by decide +kernel) (by decide +kernel)
set_option maxRecDepth 20000 in
theorem gX0_init_X5_init_n1 : GoodIn wsX0_init (wsX5_init) := ggX0_init_X5_init
set_option maxRecDepth 20000 in
theorem ggX0_accept_X6_voteOf : GoodIn wsX0_accept wsX6_voteOf := goodIn_r _ [5] (by decide +kernel) (by decide +kernel)
set_option maxRecDepth 20000 in
theorem gX0_accept_X6_voteOf_n17 : GoodIn wsX0_accept (wsX6_voteOf) := ggX0_accept_X6_voteOf
set_option maxRecDepth 20000 in
theorem ggX1_init_X5_init : GoodIn wsX1_init wsX5_init := goodIn_r _ [8, 9, 10, 11, 12, 23, 24, 25, 13, 14, 15, 16, 17, 18, 19, 20, 21, 22, 26, 27, 28] (by decide +kernel) (by decide +kernel)
set_option maxRecDepth 20000 in
theorem gX1_init_X5_init_n3 : GoodIn wsX1_init (wsX5_init) := ggX1_init_X5_init
set_option maxRecDepth 20000 in
theorem ggX1_startAsking_J7_fill_53178 : GoodIn wsX1_startAsking wsJ7_fill_53178 := goodIn_r _ [9] (by decide +kernel) (by decide +kernel)
set_option maxRecDepth 20000 in
theorem gX1_startAsking_J7_fill_53178 : GoodIn wsX1_startAsking (va_wsS RX1 37 yJ7_fill_53178 wsJ7_fill_53178) := goodIn_app (goodIn_of _ (by decide +kernel)) ggX1_startAsking_J7_fill_53178
set_option maxRecDepth 20000 in
theorem ggX1_oneMoreIsEnough_J6_bitCount_0f7a4 : GoodIn wsX1_oneMoreIsEnough wsJ6_bitCount_0f7a4 := goodIn_r _ [6, 7, 8, 9] (by decide +kernel) (by decide +kernel)
set_option maxRecDepth 20000 in
theorem gX1_oneMoreIsEnough_J6_bitCount_0f7a4 : GoodIn wsX1_oneMoreIsEnough (va_wsS RX1 43 yJ6_bitCount_0f7a4 wsJ6_bitCount_0f7a4) := goodIn_app (goodIn_of _ (by decide +kernel)) ggX1_oneMoreIsEnough_J6_bitCount_0f7a4
set_option maxRecDepth 20000 in
theorem ggX1_decisionAfter_X1_outcomeAfter : GoodIn wsX1_decisionAfter wsX1_outcomeAfter := goodIn_r _ [7, 2, 8, 9, 10, 11, 12, 13, 14, 6, 15, 16, 17, 18, 19, 20, 21, 22, 23, 24, 25, 26, 27, 28] (by decide +kernel) (by decide +kernel)
set_option maxRecDepth 20000 in
theorem gX1_decisionAfter_X1_outcomeAfter : GoodIn wsX1_decisionAfter (wsV RX1 52 RX1 yX1_outcomeAfter wsX1_outcomeAfter) := goodIn_app (goodIn_of _ (by decide +kernel)) ggX1_decisionAfter_X1_outcomeAfter
set_option maxRecDepth 20000 in
theorem ggX1_see_X1_outcomeAfter : GoodIn wsX1_see wsX1_outcomeAfter := goodIn_r _ [9, 2, 1, 10, 11, 12, 13, 14, 15, 8, 16, 3, 17, 18, 23, 24, 25, 26, 27, 28, 29, 30, 31, 32] (by decide +kernel) (by decide +kernel)
set_option maxRecDepth 20000 in
theorem gX1_see_X1_outcomeAfter : GoodIn wsX1_see (wsV RX1 52 RX1 yX1_outcomeAfter wsX1_outcomeAfter) := goodIn_app (goodIn_of _ (by decide +kernel)) ggX1_see_X1_outcomeAfter
set_option maxRecDepth 20000 in
theorem ggX1_see_X1_decisionAfter : GoodIn wsX1_see wsX1_decisionAfter := goodIn_r _ [22, 4, 2, 5, 6, 7, 8, 9, 1, 10, 11, 12, 13, 14, 15, 16, 3, 17, 18, 23, 24, 25, 26, 27, 28, 29, 30, 31, 32] (by decide +kernel) (by decide +kernel)
set_option maxRecDepth 20000 in
theorem gX1_see_X1_decisionAfter : GoodIn wsX1_see (wsV RX1 56 RX1 yX1_decisionAfter wsX1_decisionAfter) := goodIn_app (goodIn_of _ (by decide +kernel)) ggX1_see_X1_decisionAfter
set_option maxRecDepth 20000 in
theorem ggX1_see_X6_ballotOf : GoodIn wsX1_see wsX6_ballotOf := goodIn_r _ [12] (by decide +kernel) (by decide +kernel)
set_option maxRecDepth 20000 in
theorem gX1_see_X6_ballotOf_n59 : GoodIn wsX1_see (wsX6_ballotOf) := ggX1_see_X6_ballotOf
set_option maxRecDepth 20000 in
theorem ggX1_outcomeAfter_X6_ballotOf : GoodIn wsX1_outcomeAfter wsX6_ballotOf := goodIn_r _ [5] (by decide +kernel) (by decide +kernel)
set_option maxRecDepth 20000 in
theorem gX1_outcomeAfter_X6_ballotOf_n59 : GoodIn wsX1_outcomeAfter (wsX6_ballotOf) := ggX1_outcomeAfter_X6_ballotOf
set_option maxRecDepth 20000 in
theorem ggX1_outcomeAfter_X1_sightOf : GoodIn wsX1_outcomeAfter wsX1_sightOf := goodIn_r _ [10, 2, 11, 14, 15, 16, 17, 18, 19, 20, 21, 22, 23] (by decide +kernel) (by decide +kernel)
set_option maxRecDepth 20000 in
theorem gX1_outcomeAfter_X1_sightOf : GoodIn wsX1_outcomeAfter (wsV RX1 62 RX1 yX1_sightOf wsX1_sightOf) := goodIn_app (goodIn_of _ (by decide +kernel)) ggX1_outcomeAfter_X1_sightOf
set_option maxRecDepth 20000 in
theorem ggX1_outcomeAfter_X6_wordOf : GoodIn wsX1_outcomeAfter wsX6_wordOf := goodIn_r _ [13] (by decide +kernel) (by decide +kernel)
set_option maxRecDepth 20000 in
theorem gX1_outcomeAfter_X6_wordOf_n66 : GoodIn wsX1_outcomeAfter (wsX6_wordOf) := ggX1_outcomeAfter_X6_wordOf
set_option maxRecDepth 20000 in
theorem ggX1_forget_J7_fill_53178 : GoodIn wsX1_forget wsJ7_fill_53178 := goodIn_r _ [10] (by decide +kernel) (by decide +kernel)
set_option maxRecDepth 20000 in
theorem gX1_forget_J7_fill_53178 : GoodIn wsX1_forget (va_wsS RX1 37 yJ7_fill_53178 wsJ7_fill_53178) := goodIn_app (goodIn_of _ (by decide +kernel)) ggX1_forget_J7_fill_53178
set_option maxRecDepth 20000 in
theorem ggX2_enter_J6_bitCount_0f7a4 : GoodIn wsX2_enter wsJ6_bitCount_0f7a4 := goodIn_r _ [8, 9, 10, 11] (by decide +kernel) (by decide +kernel)
set_option maxRecDepth 20000 in
theorem gX2_enter_J6_bitCount_0f7a4 : GoodIn wsX2_enter (va_wsS RX2 26 yJ6_bitCount_0f7a4 wsJ6_bitCount_0f7a4) := goodIn_app (goodIn_of _ (by decide +kernel)) ggX2_enter_J6_bitCount_0f7a4
set_option maxRecDepth 20000 in
theorem ggX4_init_X5_init : GoodIn wsX4_init wsX5_init := goodIn_r _ [4, 5, 6, 7, 8, 12, 13, 14, 15, 16, 17, 18, 19, 20, 21, 22, 23, 24, 9, 10, 11] (by decide +kernel) (by decide +kernel)
set_option maxRecDepth 20000 in
theorem gX4_init_X5_init_n1 : GoodIn wsX4_init (wsX5_init) := ggX4_init_X5_init
set_option maxRecDepth 20000 in
theorem ggX6_init_X4_init : GoodIn wsX6_init wsX4_init := goodIn_r _ [25, 26, 27, 28, 29, 30, 2, 3, 31, 66, 67, 68, 69, 70, 71, 72, 73, 74, 75, 76, 77, 78, 79, 80, 81] (by decide +kernel) (by decide +kernel)
set_option maxRecDepth 20000 in
theorem gX6_init_X4_init_n15 : GoodIn wsX6_init (wsX4_init) := ggX6_init_X4_init
set_option maxRecDepth 20000 in
theorem ggX6_init_X0_init : GoodIn wsX6_init wsX0_init := goodIn_r _ [34, 35, 36, 27, 28, 29, 30, 2, 3, 31, 69, 70, 71, 72, 73, 74, 75, 76, 77, 78, 79, 80, 81, 66, 67, 68] (by decide +kernel) (by decide +kernel)
set_option maxRecDepth 20000 in
theorem gX6_init_X0_init : GoodIn wsX6_init (wsX0_init) := ggX6_init_X0_init
set_option maxRecDepth 20000 in
theorem ggX6_init_X1_init : GoodIn wsX6_init wsX1_init := goodIn_r _ [39, 40, 35, 41, 42, 43, 27, 28, 29, 30, 2, 3, 31, 72, 73, 74, 75, 76, 77, 78, 79, 80, 81, 69, 70, 71, 66, 67, 68] (by decide +kernel) (by decide +kernel)
set_option maxRecDepth 20000 in
theorem gX6_init_X1_init : GoodIn wsX6_init (wsX1_init) := ggX6_init_X1_init
set_option maxRecDepth 20000 in
theorem ggX6_init_X3_init : GoodIn wsX6_init wsX3_init := goodIn_r _ [46, 47, 2, 3, 48, 35, 49, 82, 83, 84, 85] (by decide +kernel) (by decide +kernel)
set_option maxRecDepth 20000 in
theorem gX6_init_X3_init : GoodIn wsX6_init (wsX3_init) := ggX6_init_X3_init
set_option maxRecDepth 20000 in
theorem ggX6_init_X2_init : GoodIn wsX6_init wsX2_init := goodIn_r _ [52, 53, 2, 3, 54, 35, 55, 56, 57, 58, 86, 87, 88, 89] (by decide +kernel) (by decide +kernel)
set_option maxRecDepth 20000 in
theorem gX6_init_X2_init : GoodIn wsX6_init (wsX2_init) := ggX6_init_X2_init
set_option maxRecDepth 20000 in
theorem ggX6_prepare_X6_checkOne : GoodIn wsX6_prepare wsX6_checkOne := goodIn_ca (goodIn_r _ [5, 6, 7] (by decide +kernel) (by decide +kernel)) (goodIn_sub (fun _ h => List.mem_cons_of_mem _ (List.mem_append_right _ h)) (by decide +kernel))
set_option maxRecDepth 20000 in
theorem gX6_prepare_X6_checkOne : GoodIn wsX6_prepare (va_wsS RX6 48 yX6_checkOne wsX6_checkOne) := goodIn_app (goodIn_of _ (by decide +kernel)) ggX6_prepare_X6_checkOne
set_option maxRecDepth 20000 in
theorem ggX6_prepare_X6_propose : GoodIn wsX6_prepare wsX6_propose := goodIn_r _ [11, 1, 12, 13, 14, 15, 16, 17, 18, 19, 20, 21, 22, 23, 24, 25, 26, 4, 27, 28, 29, 30, 31, 32, 33, 34, 35, 36, 37, 38, 39, 40, 41, 42, 43, 44, 45, 46, 47, 48, 49, 50, 51, 52, 53, 54, 55, 56, 57, 58, 59, 60, 61] (by decide +kernel) (by decide +kernel)
set_option maxRecDepth 20000 in
theorem gX6_prepare_X6_propose : GoodIn wsX6_prepare (wsV RX6 51 RX6 yX6_propose wsX6_propose) := goodIn_app (goodIn_of _ (by decide +kernel)) ggX6_prepare_X6_propose
set_option maxRecDepth 20000 in
theorem ggX6_refuse_X6_checkOne : GoodIn wsX6_refuse wsX6_checkOne := goodIn_ca (goodIn_r _ [5, 6, 7] (by decide +kernel) (by decide +kernel)) (goodIn_sub (fun _ h => List.mem_cons_of_mem _ (List.mem_append_right _ h)) (by decide +kernel))
set_option maxRecDepth 20000 in
theorem gX6_refuse_X6_checkOne : GoodIn wsX6_refuse (va_wsS RX6 48 yX6_checkOne wsX6_checkOne) := goodIn_app (goodIn_of _ (by decide +kernel)) ggX6_refuse_X6_checkOne
set_option maxRecDepth 20000 in
theorem ggX6_refuse_X6_propose : GoodIn wsX6_refuse wsX6_propose := goodIn_r _ [11, 1, 12, 13, 14, 15, 16, 17, 18, 19, 20, 21, 22, 23, 24, 25, 26, 4, 27, 28, 29, 30, 31, 32, 33, 34, 35, 36, 37, 38, 39, 40, 41, 42, 43, 44, 45, 46, 47, 48, 49, 50, 51, 52, 53, 54, 55, 56, 57, 58, 59, 60, 61] (by decide +kernel) (by decide +kernel)
set_option maxRecDepth 20000 in
theorem gX6_refuse_X6_propose : GoodIn wsX6_refuse (wsV RX6 51 RX6 yX6_propose wsX6_propose) := goodIn_app (goodIn_of _ (by decide +kernel)) ggX6_refuse_X6_propose
set_option maxRecDepth 20000 in
theorem ggX6_resend_X6_checkOne : GoodIn wsX6_resend wsX6_checkOne := goodIn_ca (goodIn_r _ [11, 12, 13] (by decide +kernel) (by decide +kernel)) (goodIn_sub (fun _ h => List.mem_cons_of_mem _ (List.mem_append_right _ h)) (by decide +kernel))
set_option maxRecDepth 20000 in
theorem gX6_resend_X6_checkOne : GoodIn wsX6_resend (va_wsS RX6 48 yX6_checkOne wsX6_checkOne) := goodIn_app (goodIn_of _ (by decide +kernel)) ggX6_resend_X6_checkOne
set_option maxRecDepth 20000 in
theorem ggX6_resend_X3_hasRoomFor : GoodIn wsX6_resend wsX3_hasRoomFor := goodIn_r _ [18, 19, 54, 55, 56, 57] (by decide +kernel) (by decide +kernel)
set_option maxRecDepth 20000 in
theorem gX6_resend_X3_hasRoomFor : GoodIn wsX6_resend (wsV RX6 63 RX3 yX3_hasRoomFor wsX3_hasRoomFor) := goodIn_app (goodIn_of _ (by decide +kernel)) ggX6_resend_X3_hasRoomFor
set_option maxRecDepth 20000 in
theorem ggX6_resend_X6_sendVotes : GoodIn wsX6_resend wsX6_sendVotes := goodIn_r _ [23, 6, 5, 24, 25, 26, 17, 27, 19, 28, 29, 30, 31, 32, 33, 34, 35, 36, 37, 54, 55, 56, 57] (by decide +kernel) (by decide +kernel)
set_option maxRecDepth 20000 in
theorem gX6_resend_X6_sendVotes : GoodIn wsX6_resend (wsV RX6 70 RX6 yX6_sendVotes wsX6_sendVotes) := goodIn_app (goodIn_of _ (by decide +kernel)) ggX6_resend_X6_sendVotes
set_option maxRecDepth 20000 in
theorem ggX6_question_X6_checkOne : GoodIn wsX6_question wsX6_checkOne := goodIn_ca (goodIn_r _ [8, 9, 10] (by decide +kernel) (by decide +kernel)) (goodIn_sub (fun _ h => List.mem_cons_of_mem _ (List.mem_append_right _ h)) (by decide +kernel))
set_option maxRecDepth 20000 in
theorem gX6_question_X6_checkOne : GoodIn wsX6_question (va_wsS RX6 48 yX6_checkOne wsX6_checkOne) := goodIn_app (goodIn_of _ (by decide +kernel)) ggX6_question_X6_checkOne
set_option maxRecDepth 20000 in
theorem ggX6_question_X3_hasRoomFor : GoodIn wsX6_question wsX3_hasRoomFor := goodIn_r _ [15, 16, 47, 48, 49, 50] (by decide +kernel) (by decide +kernel)
set_option maxRecDepth 20000 in
theorem gX6_question_X3_hasRoomFor : GoodIn wsX6_question (wsV RX6 63 RX3 yX3_hasRoomFor wsX3_hasRoomFor) := goodIn_app (goodIn_of _ (by decide +kernel)) ggX6_question_X3_hasRoomFor
set_option maxRecDepth 20000 in
theorem ggX6_question_X3_send : GoodIn wsX6_question wsX3_send := goodIn_r _ [20, 16, 21, 22, 23, 47, 48, 49, 50] (by decide +kernel) (by decide +kernel)
set_option maxRecDepth 20000 in
theorem gX6_question_X3_send : GoodIn wsX6_question (wsV RX6 74 RX3 yX3_send wsX3_send) := goodIn_app (goodIn_of _ (by decide +kernel)) ggX6_question_X3_send
set_option maxRecDepth 20000 in
theorem ggX6_begin_X6_checkOne : GoodIn wsX6_begin wsX6_checkOne := goodIn_ca (goodIn_r _ [13, 14, 15] (by decide +kernel) (by decide +kernel)) (goodIn_sub (fun _ h => List.mem_cons_of_mem _ (List.mem_append_right _ h)) (by decide +kernel))
set_option maxRecDepth 20000 in
theorem gX6_begin_X6_checkOne : GoodIn wsX6_begin (va_wsS RX6 48 yX6_checkOne wsX6_checkOne) := goodIn_app (goodIn_of _ (by decide +kernel)) ggX6_begin_X6_checkOne
set_option maxRecDepth 20000 in
theorem ggX6_begin_X6_leastOwnAbove : GoodIn wsX6_begin wsX6_leastOwnAbove := goodIn_r _ [18] (by decide +kernel) (by decide +kernel)
set_option maxRecDepth 20000 in
theorem gX6_begin_X6_leastOwnAbove : GoodIn wsX6_begin (va_wsS RX6 81 yX6_leastOwnAbove wsX6_leastOwnAbove) := goodIn_app (goodIn_of _ (by decide +kernel)) ggX6_begin_X6_leastOwnAbove
set_option maxRecDepth 20000 in
theorem ggX6_begin_X3_hasRoomFor : GoodIn wsX6_begin wsX3_hasRoomFor := goodIn_r _ [23, 24, 73, 74, 75, 76] (by decide +kernel) (by decide +kernel)
set_option maxRecDepth 20000 in
theorem gX6_begin_X3_hasRoomFor : GoodIn wsX6_begin (wsV RX6 63 RX3 yX3_hasRoomFor wsX3_hasRoomFor) := goodIn_app (goodIn_of _ (by decide +kernel)) ggX6_begin_X3_hasRoomFor
set_option maxRecDepth 20000 in
theorem ggX6_begin_X1_startAsking : GoodIn wsX6_begin wsX1_startAsking := goodIn_r _ [29, 30, 31, 32, 33, 34, 35, 36, 37, 38, 57, 58, 59, 60, 61, 62, 63, 64, 65, 66] (by decide +kernel) (by decide +kernel)
set_option maxRecDepth 20000 in
theorem gX6_begin_X1_startAsking : GoodIn wsX6_begin (wsV RX6 89 RX1 yX1_startAsking wsX1_startAsking) := goodIn_app (goodIn_of _ (by decide +kernel)) ggX6_begin_X1_startAsking
set_option maxRecDepth 20000 in
theorem ggX6_begin_X3_send : GoodIn wsX6_begin wsX3_send := goodIn_r _ [42, 24, 43, 44, 45, 73, 74, 75, 76] (by decide +kernel) (by decide +kernel)
set_option maxRecDepth 20000 in
theorem gX6_begin_X3_send : GoodIn wsX6_begin (wsV RX6 74 RX3 yX3_send wsX3_send) := goodIn_app (goodIn_of _ (by decide +kernel)) ggX6_begin_X3_send
set_option maxRecDepth 20000 in
theorem ggX6_begin_X6_sendDecisions : GoodIn wsX6_begin wsX6_sendDecisions := goodIn_r _ [49, 5, 8, 39, 40, 41, 22, 42, 24, 43, 44, 45, 50, 51, 52, 53, 54, 55, 56, 73, 74, 75, 76] (by decide +kernel) (by decide +kernel)
set_option maxRecDepth 20000 in
theorem gX6_begin_X6_sendDecisions : GoodIn wsX6_begin (wsV RX6 95 RX6 yX6_sendDecisions wsX6_sendDecisions) := goodIn_app (goodIn_of _ (by decide +kernel)) ggX6_begin_X6_sendDecisions
set_option maxRecDepth 20000 in
theorem ggX6_deliver_X6_checkOne : GoodIn wsX6_deliver wsX6_checkOne := goodIn_ca (goodIn_r _ [6, 7, 8] (by decide +kernel) (by decide +kernel)) (goodIn_sub (fun _ h => List.mem_cons_of_mem _ (List.mem_append_right _ h)) (by decide +kernel))
set_option maxRecDepth 20000 in
theorem gX6_deliver_X6_checkOne : GoodIn wsX6_deliver (va_wsS RX6 48 yX6_checkOne wsX6_checkOne) := goodIn_app (goodIn_of _ (by decide +kernel)) ggX6_deliver_X6_checkOne
set_option maxRecDepth 20000 in
theorem ggX6_deliver_X6_bring : GoodIn wsX6_deliver wsX6_bring := goodIn_r _ [12, 1, 13, 14, 15, 16, 17, 18, 19, 20, 21, 22, 23, 24, 5, 25, 26, 27, 28, 29, 30, 31, 32, 33, 34, 35, 36, 37, 38, 39, 40, 41, 42, 43, 44, 45, 46, 47, 48, 49, 50, 51, 52, 53, 54, 55, 56, 57, 58, 59, 60, 61, 62, 63, 64, 65, 66, 67, 68, 69, 70, 71, 72, 73, 74, 75, 76, 77, 78, 79, 80, 81, 82, 83, 84, 85, 86, 87, 88, 89, 90, 91, 92, 93, 94, 95, 96, 97, 98, 99, 100, 101, 102, 103, 104, 105, 106, 107, 108, 109, 110, 111, 112, 113, 114, 115, 116, 117, 118, 119, 120, 121, 122, 123, 124, 125, 126, 127, 128, 129, 130, 131, 132, 133, 134, 135, 136, 137, 138, 139, 140, 141, 142, 143, 144, 145, 146, 147, 148, 149, 150, 151, 152, 153, 154, 155, 156, 157, 158, 159, 160, 161, 162, 163, 164, 165, 166, 167, 168, 169, 170, 171, 172, 173, 174, 175, 176, 177, 178, 179, 180, 181, 182, 183, 184, 185, 186, 187, 188, 189, 190, 191, 192, 193, 194, 195, 196, 197, 198, 199, 200, 201, 202, 203, 204, 205, 206, 207, 208, 209, 210, 211, 212, 213, 214, 215, 216] (by decide +kernel) (by decide +kernel)
set_option maxRecDepth 20000 in
theorem gX6_deliver_X6_bring : GoodIn wsX6_deliver (wsV RX6 101 RX6 yX6_bring wsX6_bring) := goodIn_app (goodIn_of _ (by decide +kernel)) ggX6_deliver_X6_bring
set_option maxRecDepth 20000 in
theorem ggX6_drop_X6_checkOne : GoodIn wsX6_drop wsX6_checkOne := goodIn_ca (goodIn_r _ [6, 7, 8] (by decide +kernel) (by decide +kernel)) (goodIn_sub (fun _ h => List.mem_cons_of_mem _ (List.mem_append_right _ h)) (by decide +kernel))
set_option maxRecDepth 20000 in
theorem gX6_drop_X6_checkOne : GoodIn wsX6_drop (va_wsS RX6 48 yX6_checkOne wsX6_checkOne) := goodIn_app (goodIn_of _ (by decide +kernel)) ggX6_drop_X6_checkOne
set_option maxRecDepth 20000 in
theorem ggX6_drop_X3_remove : GoodIn wsX6_drop wsX3_remove := goodIn_r _ [13, 14, 15, 16, 17, 18, 19, 20, 28, 29, 30, 31] (by decide +kernel) (by decide +kernel)
set_option maxRecDepth 20000 in
theorem gX6_drop_X3_remove : GoodIn wsX6_drop (wsV RX6 105 RX3 yX3_remove wsX3_remove) := goodIn_app (goodIn_of _ (by decide +kernel)) ggX6_drop_X3_remove
set_option maxRecDepth 20000 in
theorem ggX6_copy_X6_checkOne : GoodIn wsX6_copy wsX6_checkOne := goodIn_ca (goodIn_r _ [6, 7, 8] (by decide +kernel) (by decide +kernel)) (goodIn_sub (fun _ h => List.mem_cons_of_mem _ (List.mem_append_right _ h)) (by decide +kernel))
set_option maxRecDepth 20000 in
theorem gX6_copy_X6_checkOne : GoodIn wsX6_copy (va_wsS RX6 48 yX6_checkOne wsX6_checkOne) := goodIn_app (goodIn_of _ (by decide +kernel)) ggX6_copy_X6_checkOne
set_option maxRecDepth 20000 in
theorem ggX6_copy_X3_hasRoomFor : GoodIn wsX6_copy wsX3_hasRoomFor := goodIn_r _ [13, 14, 33, 34, 35, 36] (by decide +kernel) (by decide +kernel)
set_option maxRecDepth 20000 in
theorem gX6_copy_X3_hasRoomFor : GoodIn wsX6_copy (wsV RX6 63 RX3 yX3_hasRoomFor wsX3_hasRoomFor) := goodIn_app (goodIn_of _ (by decide +kernel)) ggX6_copy_X3_hasRoomFor
set_option maxRecDepth 20000 in
theorem ggX6_copy_X3_sendLike : GoodIn wsX6_copy wsX3_sendLike := goodIn_r _ [18, 14, 19, 20, 21, 22, 23, 24, 25, 33, 34, 35, 36] (by decide +kernel) (by decide +kernel)
set_option maxRecDepth 20000 in
theorem gX6_copy_X3_sendLike : GoodIn wsX6_copy (wsV RX6 108 RX3 yX3_sendLike wsX3_sendLike) := goodIn_app (goodIn_of _ (by decide +kernel)) ggX6_copy_X3_sendLike
set_option maxRecDepth 20000 in
theorem ggX6_calm_X6_bring : GoodIn wsX6_calm wsX6_bring := goodIn_r _ [9, 3, 10, 11, 12, 13, 14, 15, 16, 17, 18, 19, 20, 21, 8, 22, 23, 24, 25, 26, 27, 28, 29, 30, 31, 32, 33, 34, 35, 36, 37, 38, 39, 40, 41, 42, 43, 44, 45, 46, 47, 48, 49, 50, 51, 52, 53, 54, 55, 56, 57, 58, 59, 60, 61, 62, 63, 64, 65, 66, 67, 68, 69, 70, 71, 72, 73, 74, 75, 76, 77, 78, 79, 80, 81, 82, 83, 84, 85, 86, 87, 88, 89, 90, 91, 92, 93, 94, 95, 96, 97, 98, 99, 100, 101, 102, 103, 104, 105, 106, 107, 108, 109, 110, 111, 112, 113, 114, 115, 116, 117, 118, 119, 120, 121, 122, 123, 124, 125, 126, 127, 128, 129, 130, 131, 132, 133, 134, 135, 136, 137, 138, 139, 140, 141, 142, 143, 144, 145, 146, 147, 148, 149, 150, 151, 152, 153, 154, 155, 156, 157, 158, 159, 160, 161, 162, 163, 164, 165, 166, 167, 168, 169, 170, 171, 172, 173, 174, 175, 176, 177, 178, 179, 180, 181, 182, 183, 184, 185, 186, 187, 188, 189, 190, 191, 192, 193, 194, 195, 196, 197, 198, 199, 200, 201, 202, 203, 204, 205, 206, 207, 208, 209, 210, 211, 212, 213] (by decide +kernel) (by decide +kernel)
set_option maxRecDepth 20000 in
theorem gX6_calm_X6_bring : GoodIn wsX6_calm (wsV RX6 101 RX6 yX6_bring wsX6_bring) := goodIn_app (goodIn_of _ (by decide +kernel)) ggX6_calm_X6_bring
set_option maxRecDepth 20000 in
theorem ggX6_crash_X6_memberOf : GoodIn wsX6_crash wsX6_memberOf := goodIn_ca (goodIn_ca (goodIn_r _ [6, 7, 8, 9, 10, 11, 12, 13, 5, 14, 15, 16, 55, 56, 57, 58, 59, 60, 61] (by decide +kernel) (by decide +kernel)) (goodIn_sub (fun _ h => List.mem_cons_of_mem _ (List.mem_append_left _ (List.mem_append_right _ h))) (by decide +kernel))) (goodIn_sub (fun _ h => List.mem_cons_of_mem _ (List.mem_append_right _ h)) (by decide +kernel))
set_option maxRecDepth 20000 in
theorem gX6_crash_X6_memberOf : GoodIn wsX6_crash (wsV RX6 118 RX6 yX6_memberOf wsX6_memberOf) := goodIn_app (goodIn_of _ (by decide +kernel)) ggX6_crash_X6_memberOf
set_option maxRecDepth 20000 in
theorem ggX6_crash_X5_forget : GoodIn wsX6_crash wsX5_forget := goodIn_r _ [22] (by decide +kernel) (by decide +kernel)
set_option maxRecDepth 20000 in
theorem gX6_crash_X5_forget_u125X0 : GoodIn wsX6_crash (va_wsU RX6 125 RX0 "CommitCouncil$Member" ⟨"CommitCouncil$Member", "forget", "()V"⟩ yX5_forget wsX5_forget) := goodIn_app (goodIn_of _ (by decide +kernel)) ggX6_crash_X5_forget
set_option maxRecDepth 20000 in
theorem ggX6_crash_X1_forget : GoodIn wsX6_crash wsX1_forget := goodIn_r _ [27, 28, 29, 30, 31, 32, 33, 34, 35, 36, 37, 42, 43, 44, 45, 46, 47, 48, 49, 50, 51] (by decide +kernel) (by decide +kernel)
set_option maxRecDepth 20000 in
theorem gX6_crash_X1_forget_u125X1 : GoodIn wsX6_crash (va_wsO RX6 125 RX1 "CommitCouncil$Member" ⟨"CommitCouncil$Member", "forget", "()V"⟩ yX1_forget wsX1_forget) := goodIn_app (goodIn_of _ (by decide +kernel)) ggX6_crash_X1_forget
set_option maxRecDepth 20000 in
theorem gX6_crash_X5_forget_u125X4 : GoodIn wsX6_crash (va_wsU RX6 125 RX4 "CommitCouncil$Member" ⟨"CommitCouncil$Member", "forget", "()V"⟩ yX5_forget wsX5_forget) := goodIn_app (goodIn_of _ (by decide +kernel)) ggX6_crash_X5_forget
set_option maxRecDepth 20000 in
theorem ggX6_recover_X6_memberOf : GoodIn wsX6_recover wsX6_memberOf := goodIn_ca (goodIn_ca (goodIn_r _ [6, 7, 8, 9, 10, 11, 12, 13, 5, 14, 15, 16, 33, 34, 35, 36, 37, 38, 39] (by decide +kernel) (by decide +kernel)) (goodIn_sub (fun _ h => List.mem_cons_of_mem _ (List.mem_append_left _ (List.mem_append_right _ h))) (by decide +kernel))) (goodIn_sub (fun _ h => List.mem_cons_of_mem _ (List.mem_append_right _ h)) (by decide +kernel))
set_option maxRecDepth 20000 in
theorem gX6_recover_X6_memberOf : GoodIn wsX6_recover (wsV RX6 118 RX6 yX6_memberOf wsX6_memberOf) := goodIn_app (goodIn_of _ (by decide +kernel)) ggX6_recover_X6_memberOf
set_option maxRecDepth 20000 in
theorem ggX6_message_X6_checkOne : GoodIn wsX6_message wsX6_checkOne := goodIn_ca (goodIn_r _ [6, 7, 8] (by decide +kernel) (by decide +kernel)) (goodIn_sub (fun _ h => List.mem_cons_of_mem _ (List.mem_append_right _ h)) (by decide +kernel))
set_option maxRecDepth 20000 in
theorem gX6_message_X6_checkOne : GoodIn wsX6_message (va_wsS RX6 48 yX6_checkOne wsX6_checkOne) := goodIn_app (goodIn_of _ (by decide +kernel)) ggX6_message_X6_checkOne
set_option maxRecDepth 20000 in
theorem ggX6_message_X3_part : GoodIn wsX6_message wsX3_part := goodIn_r _ [13, 14, 15, 16, 24, 25, 26, 27] (by decide +kernel) (by decide +kernel)
set_option maxRecDepth 20000 in
theorem gX6_message_X3_part : GoodIn wsX6_message (wsV RX6 128 RX3 yX3_part wsX3_part) := goodIn_app (goodIn_of _ (by decide +kernel)) ggX6_message_X3_part
set_option maxRecDepth 20000 in
theorem ggX6_told_X6_checkOne : GoodIn wsX6_told wsX6_checkOne := goodIn_ca (goodIn_r _ [7, 8, 9] (by decide +kernel) (by decide +kernel)) (goodIn_sub (fun _ h => List.mem_cons_of_mem _ (List.mem_append_right _ h)) (by decide +kernel))
set_option maxRecDepth 20000 in
theorem gX6_told_X6_checkOne : GoodIn wsX6_told (va_wsS RX6 48 yX6_checkOne wsX6_checkOne) := goodIn_app (goodIn_of _ (by decide +kernel)) ggX6_told_X6_checkOne
set_option maxRecDepth 20000 in
theorem ggX6_told_X3_part : GoodIn wsX6_told wsX3_part := goodIn_r _ [14, 15, 16, 17, 35, 36, 37, 38] (by decide +kernel) (by decide +kernel)
set_option maxRecDepth 20000 in
theorem gX6_told_X3_part : GoodIn wsX6_told (wsV RX6 128 RX3 yX3_part wsX3_part) := goodIn_app (goodIn_of _ (by decide +kernel)) ggX6_told_X3_part
set_option maxRecDepth 20000 in
theorem ggX6_told_X3_tidings : GoodIn wsX6_told wsX3_tidings := goodIn_r _ [21, 15, 17, 16, 35, 36, 37, 38] (by decide +kernel) (by decide +kernel)
set_option maxRecDepth 20000 in
theorem gX6_told_X3_tidings : GoodIn wsX6_told (wsV RX6 131 RX3 yX3_tidings wsX3_tidings) := goodIn_app (goodIn_of _ (by decide +kernel)) ggX6_told_X3_tidings
set_option maxRecDepth 20000 in
theorem ggX6_told_X6_ballotOf : GoodIn wsX6_told wsX6_ballotOf := goodIn_r _ [24] (by decide +kernel) (by decide +kernel)
set_option maxRecDepth 20000 in
theorem gX6_told_X6_ballotOf : GoodIn wsX6_told (va_wsS RX6 134 yX6_ballotOf wsX6_ballotOf) := goodIn_app (goodIn_of _ (by decide +kernel)) ggX6_told_X6_ballotOf
set_option maxRecDepth 20000 in
theorem ggX6_told_X6_wordOf : GoodIn wsX6_told wsX6_wordOf := goodIn_r _ [27] (by decide +kernel) (by decide +kernel)
set_option maxRecDepth 20000 in
theorem gX6_told_X6_wordOf : GoodIn wsX6_told (va_wsS RX6 137 yX6_wordOf wsX6_wordOf) := goodIn_app (goodIn_of _ (by decide +kernel)) ggX6_told_X6_wordOf
set_option maxRecDepth 20000 in
theorem ggX6_manager_X6_checkOne : GoodIn wsX6_manager wsX6_checkOne := goodIn_ca (goodIn_r _ [8, 9, 10] (by decide +kernel) (by decide +kernel)) (goodIn_sub (fun _ h => List.mem_cons_of_mem _ (List.mem_append_right _ h)) (by decide +kernel))
set_option maxRecDepth 20000 in
theorem gX6_manager_X6_checkOne : GoodIn wsX6_manager (va_wsS RX6 48 yX6_checkOne wsX6_checkOne) := goodIn_app (goodIn_of _ (by decide +kernel)) ggX6_manager_X6_checkOne
set_option maxRecDepth 20000 in
theorem ggX6_acceptor_X6_checkOne : GoodIn wsX6_acceptor wsX6_checkOne := goodIn_ca (goodIn_r _ [10, 11, 12] (by decide +kernel) (by decide +kernel)) (goodIn_sub (fun _ h => List.mem_cons_of_mem _ (List.mem_append_right _ h)) (by decide +kernel))
set_option maxRecDepth 20000 in
theorem gX6_acceptor_X6_checkOne : GoodIn wsX6_acceptor (va_wsS RX6 48 yX6_checkOne wsX6_checkOne) := goodIn_app (goodIn_of _ (by decide +kernel)) ggX6_acceptor_X6_checkOne
set_option maxRecDepth 20000 in
theorem ggX6_acceptor_X6_ballotOf : GoodIn wsX6_acceptor wsX6_ballotOf := goodIn_r _ [15] (by decide +kernel) (by decide +kernel)
set_option maxRecDepth 20000 in
theorem gX6_acceptor_X6_ballotOf : GoodIn wsX6_acceptor (va_wsS RX6 134 yX6_ballotOf wsX6_ballotOf) := goodIn_app (goodIn_of _ (by decide +kernel)) ggX6_acceptor_X6_ballotOf
set_option maxRecDepth 20000 in
theorem ggX6_acceptor_X6_wordOf : GoodIn wsX6_acceptor wsX6_wordOf := goodIn_r _ [18] (by decide +kernel) (by decide +kernel)
set_option maxRecDepth 20000 in
theorem gX6_acceptor_X6_wordOf : GoodIn wsX6_acceptor (va_wsS RX6 137 yX6_wordOf wsX6_wordOf) := goodIn_app (goodIn_of _ (by decide +kernel)) ggX6_acceptor_X6_wordOf
set_option maxRecDepth 20000 in
theorem ggX6_leader_X6_checkOne : GoodIn wsX6_leader wsX6_checkOne := goodIn_ca (goodIn_r _ [12, 13, 14] (by decide +kernel) (by decide +kernel)) (goodIn_sub (fun _ h => List.mem_cons_of_mem _ (List.mem_append_right _ h)) (by decide +kernel))
set_option maxRecDepth 20000 in
theorem gX6_leader_X6_checkOne : GoodIn wsX6_leader (va_wsS RX6 48 yX6_checkOne wsX6_checkOne) := goodIn_app (goodIn_of _ (by decide +kernel)) ggX6_leader_X6_checkOne
set_option maxRecDepth 20000 in
theorem ggX6_leader_J6_bitCount_0f7a4 : GoodIn wsX6_leader wsJ6_bitCount_0f7a4 := goodIn_r _ [18, 19, 20, 21] (by decide +kernel) (by decide +kernel)
set_option maxRecDepth 20000 in
theorem gX6_leader_J6_bitCount_0f7a4 : GoodIn wsX6_leader (va_wsS RX6 157 yJ6_bitCount_0f7a4 wsJ6_bitCount_0f7a4) := goodIn_app (goodIn_of _ (by decide +kernel)) ggX6_leader_J6_bitCount_0f7a4
set_option maxRecDepth 20000 in
theorem ggX6_outcome_X6_checkOne : GoodIn wsX6_outcome wsX6_checkOne := goodIn_ca (goodIn_r _ [7, 8, 9] (by decide +kernel) (by decide +kernel)) (goodIn_sub (fun _ h => List.mem_cons_of_mem _ (List.mem_append_right _ h)) (by decide +kernel))
set_option maxRecDepth 20000 in
theorem gX6_outcome_X6_checkOne : GoodIn wsX6_outcome (va_wsS RX6 48 yX6_checkOne wsX6_checkOne) := goodIn_app (goodIn_of _ (by decide +kernel)) ggX6_outcome_X6_checkOne
set_option maxRecDepth 20000 in
theorem ggX6_seen_X6_checkOne : GoodIn wsX6_seen wsX6_checkOne := goodIn_ca (goodIn_r _ [7, 8, 9] (by decide +kernel) (by decide +kernel)) (goodIn_sub (fun _ h => List.mem_cons_of_mem _ (List.mem_append_right _ h)) (by decide +kernel))
set_option maxRecDepth 20000 in
theorem gX6_seen_X6_checkOne : GoodIn wsX6_seen (va_wsS RX6 48 yX6_checkOne wsX6_checkOne) := goodIn_app (goodIn_of _ (by decide +kernel)) ggX6_seen_X6_checkOne
set_option maxRecDepth 20000 in
theorem ggX6_seen_X1_sightOf : GoodIn wsX6_seen wsX1_sightOf := goodIn_r _ [14, 15, 16, 27, 28, 29, 30, 31, 32, 33, 34, 35, 36] (by decide +kernel) (by decide +kernel)
set_option maxRecDepth 20000 in
theorem gX6_seen_X1_sightOf : GoodIn wsX6_seen (wsV RX6 165 RX1 yX1_sightOf wsX1_sightOf) := goodIn_app (goodIn_of _ (by decide +kernel)) ggX6_seen_X1_sightOf
set_option maxRecDepth 20000 in
theorem ggX6_seen_X6_ballotOf : GoodIn wsX6_seen wsX6_ballotOf := goodIn_r _ [19] (by decide +kernel) (by decide +kernel)
set_option maxRecDepth 20000 in
theorem gX6_seen_X6_ballotOf : GoodIn wsX6_seen (va_wsS RX6 134 yX6_ballotOf wsX6_ballotOf) := goodIn_app (goodIn_of _ (by decide +kernel)) ggX6_seen_X6_ballotOf
set_option maxRecDepth 20000 in
theorem ggX6_chosen_X6_checkOne : GoodIn wsX6_chosen wsX6_checkOne := goodIn_ca (goodIn_r _ [7, 8, 9] (by decide +kernel) (by decide +kernel)) (goodIn_sub (fun _ h => List.mem_cons_of_mem _ (List.mem_append_right _ h)) (by decide +kernel))
set_option maxRecDepth 20000 in
theorem gX6_chosen_X6_checkOne : GoodIn wsX6_chosen (va_wsS RX6 48 yX6_checkOne wsX6_checkOne) := goodIn_app (goodIn_of _ (by decide +kernel)) ggX6_chosen_X6_checkOne
set_option maxRecDepth 20000 in
theorem ggX6_count_X6_howManyUp : GoodIn wsX6_count wsX6_howManyUp := goodIn_ca (goodIn_ca (goodIn_r _ [12, 13, 14, 15, 16, 11, 17, 18, 19, 1, 2, 20, 21, 22, 23, 24, 25, 42, 43, 44, 45, 46, 47, 48, 49, 50, 51, 52, 53, 54, 55, 56, 57, 31, 32, 33, 34, 35, 36, 37] (by decide +kernel) (by decide +kernel)) (goodIn_sub (fun _ h => List.mem_cons_of_mem _ (List.mem_append_left _ (List.mem_append_right _ h))) (by decide +kernel))) (goodIn_sub (fun _ h => List.mem_cons_of_mem _ (List.mem_append_right _ h)) (by decide +kernel))
set_option maxRecDepth 20000 in
theorem gX6_count_X6_howManyUp : GoodIn wsX6_count (wsV RX6 177 RX6 yX6_howManyUp wsX6_howManyUp) := goodIn_app (goodIn_of _ (by decide +kernel)) ggX6_count_X6_howManyUp
set_option maxRecDepth 20000 in
theorem ggX6_count_X6_howManyManagers : GoodIn wsX6_count wsX6_howManyManagers := goodIn_r _ [29, 1, 30, 31, 32, 33, 34, 35, 36, 37, 55, 56, 57] (by decide +kernel) (by decide +kernel)
set_option maxRecDepth 20000 in
theorem gX6_count_X6_howManyManagers : GoodIn wsX6_count (wsV RX6 180 RX6 yX6_howManyManagers wsX6_howManyManagers) := goodIn_app (goodIn_of _ (by decide +kernel)) ggX6_count_X6_howManyManagers
set_option maxRecDepth 20000 in
theorem ggX6_astray_X6_howManyManagers : GoodIn wsX6_astray wsX6_howManyManagers := goodIn_r _ [12, 1, 2, 18, 19, 20, 21, 22, 23, 24, 25, 26, 27] (by decide +kernel) (by decide +kernel)
set_option maxRecDepth 20000 in
theorem gX6_astray_X6_howManyManagers : GoodIn wsX6_astray (wsV RX6 180 RX6 yX6_howManyManagers wsX6_howManyManagers) := goodIn_app (goodIn_of _ (by decide +kernel)) ggX6_astray_X6_howManyManagers
set_option maxRecDepth 20000 in
theorem ggX6_astray_X6_isBackedByChosen : GoodIn wsX6_astray wsX6_isBackedByChosen := goodIn_r _ [16, 1, 4, 17, 18, 19, 20, 21, 22, 23, 24, 28, 29, 30, 31] (by decide +kernel) (by decide +kernel)
set_option maxRecDepth 20000 in
theorem gX6_astray_X6_isBackedByChosen : GoodIn wsX6_astray (wsV RX6 187 RX6 yX6_isBackedByChosen wsX6_isBackedByChosen) := goodIn_app (goodIn_of _ (by decide +kernel)) ggX6_astray_X6_isBackedByChosen
set_option maxRecDepth 20000 in
theorem ggX6_leaderOf_J9_floorMod_7cf53 : GoodIn wsX6_leaderOf wsJ9_floorMod_7cf53 := goodIn_r _ [4] (by decide +kernel) (by decide +kernel)
set_option maxRecDepth 20000 in
theorem gX6_leaderOf_J9_floorMod_7cf53 : GoodIn wsX6_leaderOf (va_wsS RX6 195 yJ9_floorMod_7cf53 wsJ9_floorMod_7cf53) := goodIn_app (goodIn_of _ (by decide +kernel)) ggX6_leaderOf_J9_floorMod_7cf53
set_option maxRecDepth 20000 in
theorem ggX6_howManyUp_X6_memberOf : GoodIn wsX6_howManyUp wsX6_memberOf := goodIn_ca (goodIn_ca (goodIn_r _ [6, 7, 8, 9, 10, 11, 12, 13, 5, 14, 15, 16, 33, 34, 35, 36, 37, 38, 39] (by decide +kernel) (by decide +kernel)) (goodIn_sub (fun _ h => List.mem_cons_of_mem _ (List.mem_append_left _ (List.mem_append_right _ h))) (by decide +kernel))) (goodIn_sub (fun _ h => List.mem_cons_of_mem _ (List.mem_append_right _ h)) (by decide +kernel))
set_option maxRecDepth 20000 in
theorem gX6_howManyUp_X6_memberOf : GoodIn wsX6_howManyUp (wsV RX6 118 RX6 yX6_memberOf wsX6_memberOf) := goodIn_app (goodIn_of _ (by decide +kernel)) ggX6_howManyUp_X6_memberOf
set_option maxRecDepth 20000 in
theorem ggX6_memberOf_X6_checkOne : GoodIn wsX6_memberOf wsX6_checkOne := goodIn_ca (goodIn_r _ [9, 10, 11] (by decide +kernel) (by decide +kernel)) (goodIn_sub (fun _ h => List.mem_cons_of_mem _ (List.mem_append_right _ h)) (by decide +kernel))
set_option maxRecDepth 20000 in
theorem gX6_memberOf_X6_checkOne : GoodIn wsX6_memberOf (va_wsS RX6 48 yX6_checkOne wsX6_checkOne) := goodIn_app (goodIn_of _ (by decide +kernel)) ggX6_memberOf_X6_checkOne
set_option maxRecDepth 20000 in
theorem ggX6_propose_X3_hasRoomFor : GoodIn wsX6_propose wsX3_hasRoomFor := goodIn_r _ [12, 13, 49, 50, 51, 52] (by decide +kernel) (by decide +kernel)
set_option maxRecDepth 20000 in
theorem gX6_propose_X3_hasRoomFor : GoodIn wsX6_propose (wsV RX6 63 RX3 yX3_hasRoomFor wsX3_hasRoomFor) := goodIn_app (goodIn_of _ (by decide +kernel)) ggX6_propose_X3_hasRoomFor
set_option maxRecDepth 20000 in
theorem ggX6_propose_X6_sendVotes : GoodIn wsX6_propose wsX6_sendVotes := goodIn_r _ [18, 6, 5, 19, 20, 21, 11, 22, 13, 23, 24, 25, 26, 27, 28, 29, 30, 31, 32, 49, 50, 51, 52] (by decide +kernel) (by decide +kernel)
set_option maxRecDepth 20000 in
theorem gX6_propose_X6_sendVotes : GoodIn wsX6_propose (wsV RX6 70 RX6 yX6_sendVotes wsX6_sendVotes) := goodIn_app (goodIn_of _ (by decide +kernel)) ggX6_propose_X6_sendVotes
set_option maxRecDepth 20000 in
theorem ggX6_sendVotes_X3_send : GoodIn wsX6_sendVotes wsX3_send := goodIn_r _ [7, 8, 9, 10, 11, 19, 20, 21, 22] (by decide +kernel) (by decide +kernel)
set_option maxRecDepth 20000 in
theorem gX6_sendVotes_X3_send : GoodIn wsX6_sendVotes (wsV RX6 74 RX3 yX3_send wsX3_send) := goodIn_app (goodIn_of _ (by decide +kernel)) ggX6_sendVotes_X3_send
set_option maxRecDepth 20000 in
theorem ggX6_sendDecisions_X3_send : GoodIn wsX6_sendDecisions wsX3_send := goodIn_r _ [7, 8, 9, 10, 11, 19, 20, 21, 22] (by decide +kernel) (by decide +kernel)
set_option maxRecDepth 20000 in
theorem gX6_sendDecisions_X3_send : GoodIn wsX6_sendDecisions (wsV RX6 74 RX3 yX3_send wsX3_send) := goodIn_app (goodIn_of _ (by decide +kernel)) ggX6_sendDecisions_X3_send
set_option maxRecDepth 20000 in
theorem ggX6_bring_X3_part : GoodIn wsX6_bring wsX3_part := goodIn_r _ [7, 8, 9, 10, 183, 184, 185, 186] (by decide +kernel) (by decide +kernel)
set_option maxRecDepth 20000 in
theorem gX6_bring_X3_part : GoodIn wsX6_bring (wsV RX6 128 RX3 yX3_part wsX3_part) := goodIn_app (goodIn_of _ (by decide +kernel)) ggX6_bring_X3_part
set_option maxRecDepth 20000 in
theorem ggX6_bring_X6_isUp : GoodIn wsX6_bring wsX6_isUp := goodIn_r _ [15, 16, 17, 18, 19, 20, 21, 22, 23, 24, 176, 177, 178, 179, 180, 181, 182, 187, 188, 189, 190, 191, 192, 193, 194, 195, 196, 197, 198, 199, 200, 201, 202] (by decide +kernel) (by decide +kernel)
set_option maxRecDepth 20000 in
theorem gX6_bring_X6_isUp : GoodIn wsX6_bring (wsV RX6 202 RX6 yX6_isUp wsX6_isUp) := goodIn_app (goodIn_of _ (by decide +kernel)) ggX6_bring_X6_isUp
set_option maxRecDepth 20000 in
theorem ggX6_bring_X6_answersTo : GoodIn wsX6_bring wsX6_answersTo := goodIn_r _ [28, 1, 16, 29, 19, 30, 22, 3, 4, 5, 6, 7, 8, 9, 10, 31, 32, 14, 33, 34, 35, 36, 37, 38, 39, 40, 41, 42, 43, 44, 45, 46, 47, 48, 49, 50, 51, 52, 53, 54, 55, 56, 57, 58, 59, 60, 61, 62, 63, 64, 65, 66, 67, 68, 69, 70, 71, 72, 176, 177, 178, 179, 180, 181, 182, 187, 188, 189, 190, 191, 192, 193, 194, 195, 196, 197, 198, 199, 183, 184, 185, 186] (by decide +kernel) (by decide +kernel)
set_option maxRecDepth 20000 in
theorem gX6_bring_X6_answersTo : GoodIn wsX6_bring (wsV RX6 206 RX6 yX6_answersTo wsX6_answersTo) := goodIn_app (goodIn_of _ (by decide +kernel)) ggX6_bring_X6_answersTo
set_option maxRecDepth 20000 in
theorem ggX6_bring_X3_hasRoomFor : GoodIn wsX6_bring wsX3_hasRoomFor := goodIn_r _ [76, 8, 183, 184, 185, 186] (by decide +kernel) (by decide +kernel)
set_option maxRecDepth 20000 in
theorem gX6_bring_X3_hasRoomFor : GoodIn wsX6_bring (wsV RX6 63 RX3 yX3_hasRoomFor wsX3_hasRoomFor) := goodIn_app (goodIn_of _ (by decide +kernel)) ggX6_bring_X3_hasRoomFor
set_option maxRecDepth 20000 in
theorem ggX6_bring_X6_take : GoodIn wsX6_bring wsX6_take := goodIn_r _ [80, 19, 1, 22, 81, 30, 82, 83, 84, 14, 85, 16, 29, 86, 3, 4, 5, 6, 7, 8, 9, 10, 87, 88, 89, 90, 91, 92, 93, 32, 33, 94, 95, 96, 97, 98, 99, 100, 101, 102, 103, 67, 68, 69, 70, 71, 72, 104, 105, 106, 107, 108, 109, 110, 111, 112, 113, 114, 115, 116, 117, 31, 118, 119, 120, 37, 121, 45, 40, 52, 39, 41, 42, 43, 44, 46, 47, 48, 49, 50, 51, 53, 54, 122, 35, 36, 38, 123, 124, 125, 126, 127, 128, 129, 130, 131, 132, 133, 134, 135, 136, 137, 138, 139, 140, 141, 142, 143, 144, 145, 146, 147, 148, 149, 150, 151, 152, 55, 56, 57, 58, 59, 60, 61, 62, 63, 64, 65, 66, 153, 154, 155, 156, 157, 158, 159, 160, 161, 162, 163, 164, 165, 166, 167, 168, 169, 170, 171, 176, 177, 178, 179, 180, 181, 182, 200, 201, 202, 190, 191, 192, 193, 194, 195, 196, 197, 198, 199, 187, 188, 189, 183, 184, 185, 186, 203, 204, 205, 206] (by decide +kernel) (by decide +kernel)
set_option maxRecDepth 20000 in
theorem gX6_bring_X6_take : GoodIn wsX6_bring (wsV RX6 210 RX6 yX6_take wsX6_take) := goodIn_app (goodIn_of _ (by decide +kernel)) ggX6_bring_X6_take
set_option maxRecDepth 20000 in
theorem ggX6_bring_X3_remove : GoodIn wsX6_bring wsX3_remove := goodIn_r _ [175, 8, 9, 10, 143, 144, 145, 146, 183, 184, 185, 186] (by decide +kernel) (by decide +kernel)
set_option maxRecDepth 20000 in
theorem gX6_bring_X3_remove : GoodIn wsX6_bring (wsV RX6 105 RX3 yX3_remove wsX3_remove) := goodIn_app (goodIn_of _ (by decide +kernel)) ggX6_bring_X3_remove
set_option maxRecDepth 20000 in
theorem ggX6_answersTo_X3_part : GoodIn wsX6_answersTo wsX3_part := goodIn_r _ [11, 12, 13, 14, 78, 79, 80, 81] (by decide +kernel) (by decide +kernel)
set_option maxRecDepth 20000 in
theorem gX6_answersTo_X3_part : GoodIn wsX6_answersTo (wsV RX6 128 RX3 yX3_part wsX3_part) := goodIn_app (goodIn_of _ (by decide +kernel)) ggX6_answersTo_X3_part
set_option maxRecDepth 20000 in
theorem ggX6_answersTo_X6_voteOf : GoodIn wsX6_answersTo wsX6_voteOf := goodIn_r _ [18] (by decide +kernel) (by decide +kernel)
set_option maxRecDepth 20000 in
theorem gX6_answersTo_X6_voteOf : GoodIn wsX6_answersTo (va_wsS RX6 213 yX6_voteOf wsX6_voteOf) := goodIn_app (goodIn_of _ (by decide +kernel)) ggX6_answersTo_X6_voteOf
set_option maxRecDepth 20000 in
theorem ggX6_answersTo_X1_decisionAfter : GoodIn wsX6_answersTo wsX1_decisionAfter := goodIn_r _ [23, 24, 25, 26, 27, 28, 22, 29, 30, 31, 17, 32, 33, 34, 35, 36, 37, 38, 39, 68, 69, 70, 71, 72, 73, 74, 75, 76, 77] (by decide +kernel) (by decide +kernel)
set_option maxRecDepth 20000 in
theorem gX6_answersTo_X1_decisionAfter : GoodIn wsX6_answersTo (wsV RX6 216 RX1 yX1_decisionAfter wsX1_decisionAfter) := goodIn_app (goodIn_of _ (by decide +kernel)) ggX6_answersTo_X1_decisionAfter
set_option maxRecDepth 20000 in
theorem ggX6_answersTo_X1_keeps : GoodIn wsX6_answersTo wsX1_keeps := goodIn_r _ [43, 44, 45, 46, 68, 69, 70, 71, 72, 73, 74, 75, 76, 77] (by decide +kernel) (by decide +kernel)
set_option maxRecDepth 20000 in
theorem gX6_answersTo_X1_keeps : GoodIn wsX6_answersTo (wsV RX6 219 RX1 yX1_keeps wsX1_keeps) := goodIn_app (goodIn_of _ (by decide +kernel)) ggX6_answersTo_X1_keeps
set_option maxRecDepth 20000 in
theorem ggX6_answersTo_X1_oneMoreIsEnough : GoodIn wsX6_answersTo wsX1_oneMoreIsEnough := goodIn_r _ [50, 46, 30, 51, 52, 53, 54, 55, 56, 57, 68, 69, 70, 71, 72, 73, 74, 75, 76, 77] (by decide +kernel) (by decide +kernel)
set_option maxRecDepth 20000 in
theorem gX6_answersTo_X1_oneMoreIsEnough : GoodIn wsX6_answersTo (wsV RX6 222 RX1 yX1_oneMoreIsEnough wsX1_oneMoreIsEnough) := goodIn_app (goodIn_of _ (by decide +kernel)) ggX6_answersTo_X1_oneMoreIsEnough
set_option maxRecDepth 20000 in
theorem ggX6_take_X6_takeVote : GoodIn wsX6_take wsX6_takeVote := goodIn_r _ [10, 2, 11, 12, 13, 14, 15, 16, 17, 18, 19, 20, 21, 22, 23, 24, 25, 26, 27, 28, 29, 9, 30, 31, 32, 33, 34, 35, 36, 37, 38, 39, 40, 41, 42, 43, 44, 45, 46, 47, 48, 49, 50, 51, 148, 149, 150, 151, 152, 153, 154, 168, 169, 170, 171, 172, 173, 174, 175, 176, 177, 178] (by decide +kernel) (by decide +kernel)
set_option maxRecDepth 20000 in
theorem gX6_take_X6_takeVote : GoodIn wsX6_take (wsV RX6 226 RX6 yX6_takeVote wsX6_takeVote) := goodIn_app (goodIn_of _ (by decide +kernel)) ggX6_take_X6_takeVote
set_option maxRecDepth 20000 in
theorem ggX6_take_X6_takeVoted : GoodIn wsX6_take wsX6_takeVoted := goodIn_r _ [55, 2, 56, 57, 58, 59, 60, 5, 14, 15, 16, 17, 18, 19, 20, 21, 61, 29, 9, 30, 62, 63, 64, 65, 66, 67, 68, 69, 70, 71, 72, 73, 74, 75, 76, 77, 78, 79, 80, 81, 82, 83, 84, 85, 86, 87, 88, 89, 90, 3, 47, 48, 49, 50, 51, 148, 149, 150, 151, 152, 153, 154, 158, 159, 160, 161, 162, 163, 164, 165, 166, 167, 171, 172, 173, 174] (by decide +kernel) (by decide +kernel)
set_option maxRecDepth 20000 in
theorem gX6_take_X6_takeVoted : GoodIn wsX6_take (wsV RX6 229 RX6 yX6_takeVoted wsX6_takeVoted) := goodIn_app (goodIn_of _ (by decide +kernel)) ggX6_take_X6_takeVoted
set_option maxRecDepth 20000 in
theorem ggX6_take_X3_part : GoodIn wsX6_take wsX3_part := goodIn_r _ [18, 19, 20, 21, 171, 172, 173, 174] (by decide +kernel) (by decide +kernel)
set_option maxRecDepth 20000 in
theorem gX6_take_X3_part : GoodIn wsX6_take (wsV RX6 128 RX3 yX3_part wsX3_part) := goodIn_app (goodIn_of _ (by decide +kernel)) ggX6_take_X3_part
set_option maxRecDepth 20000 in
theorem ggX6_take_X6_takeAsk : GoodIn wsX6_take wsX6_takeAsk := goodIn_r _ [94, 11, 12, 2, 95, 96, 97, 9, 98, 99, 100, 101, 102, 47, 48, 49, 17, 50, 19, 21, 20, 51, 103, 104, 105, 106, 107, 108, 109, 110, 148, 149, 150, 151, 152, 153, 154, 168, 169, 170, 171, 172, 173, 174] (by decide +kernel) (by decide +kernel)
set_option maxRecDepth 20000 in
theorem gX6_take_X6_takeAsk : GoodIn wsX6_take (wsV RX6 233 RX6 yX6_takeAsk wsX6_takeAsk) := goodIn_app (goodIn_of _ (by decide +kernel)) ggX6_take_X6_takeAsk
set_option maxRecDepth 20000 in
theorem ggX6_take_X6_takeTold : GoodIn wsX6_take wsX6_takeTold := goodIn_r _ [114, 2, 56, 57, 58, 59, 60, 115, 3, 116, 14, 15, 16, 17, 18, 19, 20, 21, 117, 118, 119, 65, 120, 121, 122, 123, 124, 125, 126, 127, 67, 128, 41, 42, 43, 44, 45, 46, 129, 130, 131, 132, 133, 134, 135, 9, 136, 137, 138, 139, 81, 82, 140, 141, 142, 143, 11, 47, 48, 49, 50, 51, 148, 149, 150, 151, 152, 153, 154, 158, 159, 160, 161, 162, 163, 164, 165, 166, 167, 171, 172, 173, 174] (by decide +kernel) (by decide +kernel)
set_option maxRecDepth 20000 in
theorem gX6_take_X6_takeTold : GoodIn wsX6_take (wsV RX6 236 RX6 yX6_takeTold wsX6_takeTold) := goodIn_app (goodIn_of _ (by decide +kernel)) ggX6_take_X6_takeTold
set_option maxRecDepth 20000 in
theorem ggX6_take_X6_takeQuestion : GoodIn wsX6_take wsX6_takeQuestion := goodIn_r _ [147, 2, 47, 48, 49, 17, 50, 19, 21, 20, 51, 148, 149, 150, 151, 152, 153, 154, 171, 172, 173, 174] (by decide +kernel) (by decide +kernel)
set_option maxRecDepth 20000 in
theorem gX6_take_X6_takeQuestion : GoodIn wsX6_take (wsV RX6 239 RX6 yX6_takeQuestion wsX6_takeQuestion) := goodIn_app (goodIn_of _ (by decide +kernel)) ggX6_take_X6_takeQuestion
set_option maxRecDepth 20000 in
theorem ggX6_takeVote_X3_part : GoodIn wsX6_takeVote wsX3_part := goodIn_r _ [9, 10, 11, 12, 54, 55, 56, 57] (by decide +kernel) (by decide +kernel)
set_option maxRecDepth 20000 in
theorem gX6_takeVote_X3_part : GoodIn wsX6_takeVote (wsV RX6 128 RX3 yX3_part wsX3_part) := goodIn_app (goodIn_of _ (by decide +kernel)) ggX6_takeVote_X3_part
set_option maxRecDepth 20000 in
theorem ggX6_takeVote_X0_accept : GoodIn wsX6_takeVote wsX0_accept := goodIn_r _ [17, 18, 19, 20, 21, 22, 51, 52, 53] (by decide +kernel) (by decide +kernel)
set_option maxRecDepth 20000 in
theorem gX6_takeVote_X0_accept : GoodIn wsX6_takeVote (wsV RX6 242 RX0 yX0_accept wsX0_accept) := goodIn_app (goodIn_of _ (by decide +kernel)) ggX6_takeVote_X0_accept
set_option maxRecDepth 20000 in
theorem ggX6_takeVote_X2_enter : GoodIn wsX6_takeVote wsX2_enter := goodIn_r _ [27, 28, 29, 30, 31, 32, 33, 34, 35, 36, 37, 38, 58, 59, 60, 61] (by decide +kernel) (by decide +kernel)
set_option maxRecDepth 20000 in
theorem gX6_takeVote_X2_enter : GoodIn wsX6_takeVote (wsV RX6 245 RX2 yX2_enter wsX2_enter) := goodIn_app (goodIn_of _ (by decide +kernel)) ggX6_takeVote_X2_enter
set_option maxRecDepth 20000 in
theorem ggX6_takeVote_X3_send : GoodIn wsX6_takeVote wsX3_send := goodIn_r _ [42, 10, 12, 11, 43, 54, 55, 56, 57] (by decide +kernel) (by decide +kernel)
set_option maxRecDepth 20000 in
theorem gX6_takeVote_X3_send : GoodIn wsX6_takeVote (wsV RX6 74 RX3 yX3_send wsX3_send) := goodIn_app (goodIn_of _ (by decide +kernel)) ggX6_takeVote_X3_send
set_option maxRecDepth 20000 in
theorem ggX6_takeAsk_X6_leaderOf : GoodIn wsX6_takeAsk wsX6_leaderOf := goodIn_r _ [8, 9, 10, 11, 12] (by decide +kernel) (by decide +kernel)
set_option maxRecDepth 20000 in
theorem gX6_takeAsk_X6_leaderOf : GoodIn wsX6_takeAsk (va_wsS RX6 249 yX6_leaderOf wsX6_leaderOf) := goodIn_app (goodIn_of _ (by decide +kernel)) ggX6_takeAsk_X6_leaderOf
set_option maxRecDepth 20000 in
theorem ggX6_takeAsk_X3_send : GoodIn wsX6_takeAsk wsX3_send := goodIn_r _ [17, 18, 19, 20, 21, 40, 41, 42, 43] (by decide +kernel) (by decide +kernel)
set_option maxRecDepth 20000 in
theorem gX6_takeAsk_X3_send : GoodIn wsX6_takeAsk (wsV RX6 74 RX3 yX3_send wsX3_send) := goodIn_app (goodIn_of _ (by decide +kernel)) ggX6_takeAsk_X3_send
set_option maxRecDepth 20000 in
theorem ggX6_takeAsk_X3_attach : GoodIn wsX6_takeAsk wsX3_attach := goodIn_r _ [25, 18, 19, 20, 26, 27, 28, 29, 40, 41, 42, 43] (by decide +kernel) (by decide +kernel)
set_option maxRecDepth 20000 in
theorem gX6_takeAsk_X3_attach : GoodIn wsX6_takeAsk (wsV RX6 252 RX3 yX3_attach wsX3_attach) := goodIn_app (goodIn_of _ (by decide +kernel)) ggX6_takeAsk_X3_attach
set_option maxRecDepth 20000 in
theorem ggX6_takeVoted_X3_part : GoodIn wsX6_takeVoted wsX3_part := goodIn_r _ [12, 13, 14, 15, 72, 73, 74, 75] (by decide +kernel) (by decide +kernel)
set_option maxRecDepth 20000 in
theorem gX6_takeVoted_X3_part : GoodIn wsX6_takeVoted (wsV RX6 128 RX3 yX3_part wsX3_part) := goodIn_app (goodIn_of _ (by decide +kernel)) ggX6_takeVoted_X3_part
set_option maxRecDepth 20000 in
theorem ggX6_takeVoted_X6_voteOf : GoodIn wsX6_takeVoted wsX6_voteOf := goodIn_r _ [19] (by decide +kernel) (by decide +kernel)
set_option maxRecDepth 20000 in
theorem gX6_takeVoted_X6_voteOf : GoodIn wsX6_takeVoted (va_wsS RX6 213 yX6_voteOf wsX6_voteOf) := goodIn_app (goodIn_of _ (by decide +kernel)) ggX6_takeVoted_X6_voteOf
set_option maxRecDepth 20000 in
theorem ggX6_takeVoted_X1_see : GoodIn wsX6_takeVoted wsX1_see := goodIn_r _ [24, 25, 26, 27, 28, 29, 30, 31, 23, 32, 33, 18, 34, 35, 36, 37, 38, 39, 40, 41, 42, 43, 44, 62, 63, 64, 65, 66, 67, 68, 69, 70, 71] (by decide +kernel) (by decide +kernel)
set_option maxRecDepth 20000 in
theorem gX6_takeVoted_X1_see : GoodIn wsX6_takeVoted (wsV RX6 259 RX1 yX1_see wsX1_see) := goodIn_app (goodIn_of _ (by decide +kernel)) ggX6_takeVoted_X1_see
set_option maxRecDepth 20000 in
theorem ggX6_takeVoted_X6_sendDecisions : GoodIn wsX6_takeVoted wsX6_sendDecisions := goodIn_r _ [48, 49, 1, 50, 51, 52, 11, 53, 13, 15, 14, 54, 55, 56, 57, 58, 59, 60, 61, 72, 73, 74, 75] (by decide +kernel) (by decide +kernel)
set_option maxRecDepth 20000 in
theorem gX6_takeVoted_X6_sendDecisions : GoodIn wsX6_takeVoted (wsV RX6 95 RX6 yX6_sendDecisions wsX6_sendDecisions) := goodIn_app (goodIn_of _ (by decide +kernel)) ggX6_takeVoted_X6_sendDecisions
set_option maxRecDepth 20000 in
theorem ggX6_takeTold_X3_part : GoodIn wsX6_takeTold wsX3_part := goodIn_r _ [14, 15, 16, 17, 79, 80, 81, 82] (by decide +kernel) (by decide +kernel)
set_option maxRecDepth 20000 in
theorem gX6_takeTold_X3_part : GoodIn wsX6_takeTold (wsV RX6 128 RX3 yX3_part wsX3_part) := goodIn_app (goodIn_of _ (by decide +kernel)) ggX6_takeTold_X3_part
set_option maxRecDepth 20000 in
theorem ggX6_takeTold_X1_keeps : GoodIn wsX6_takeTold wsX1_keeps := goodIn_r _ [22, 23, 24, 25, 69, 70, 71, 72, 73, 74, 75, 76, 77, 78] (by decide +kernel) (by decide +kernel)
set_option maxRecDepth 20000 in
theorem gX6_takeTold_X1_keeps : GoodIn wsX6_takeTold (wsV RX6 219 RX1 yX1_keeps wsX1_keeps) := goodIn_app (goodIn_of _ (by decide +kernel)) ggX6_takeTold_X1_keeps
set_option maxRecDepth 20000 in
theorem ggX6_takeTold_X1_oneMoreIsEnough : GoodIn wsX6_takeTold wsX1_oneMoreIsEnough := goodIn_r _ [29, 25, 30, 31, 32, 33, 34, 35, 36, 37, 69, 70, 71, 72, 73, 74, 75, 76, 77, 78] (by decide +kernel) (by decide +kernel)
set_option maxRecDepth 20000 in
theorem gX6_takeTold_X1_oneMoreIsEnough : GoodIn wsX6_takeTold (wsV RX6 222 RX1 yX1_oneMoreIsEnough wsX1_oneMoreIsEnough) := goodIn_app (goodIn_of _ (by decide +kernel)) ggX6_takeTold_X1_oneMoreIsEnough
set_option maxRecDepth 20000 in
theorem ggX6_takeTold_X3_tidings : GoodIn wsX6_takeTold wsX3_tidings := goodIn_r _ [41, 15, 17, 16, 79, 80, 81, 82] (by decide +kernel) (by decide +kernel)
set_option maxRecDepth 20000 in
theorem gX6_takeTold_X3_tidings : GoodIn wsX6_takeTold (wsV RX6 131 RX3 yX3_tidings wsX3_tidings) := goodIn_app (goodIn_of _ (by decide +kernel)) ggX6_takeTold_X3_tidings
set_option maxRecDepth 20000 in
theorem ggX6_takeTold_X6_startVoting : GoodIn wsX6_takeTold wsX6_startVoting := goodIn_r _ [46, 47, 8, 9, 48, 49, 50, 45, 51, 52, 53, 54, 55, 56, 1, 57, 58, 59, 13, 60, 15, 17, 16, 61, 69, 70, 71, 72, 73, 74, 75, 76, 77, 78, 62, 63, 64, 65, 66, 67, 68, 79, 80, 81, 82] (by decide +kernel) (by decide +kernel)
set_option maxRecDepth 20000 in
theorem gX6_takeTold_X6_startVoting : GoodIn wsX6_takeTold (wsV RX6 265 RX6 yX6_startVoting wsX6_startVoting) := goodIn_app (goodIn_of _ (by decide +kernel)) ggX6_takeTold_X6_startVoting
set_option maxRecDepth 20000 in
theorem ggX6_startVoting_X6_wordOf : GoodIn wsX6_startVoting wsX6_wordOf := goodIn_r _ [8] (by decide +kernel) (by decide +kernel)
set_option maxRecDepth 20000 in
theorem gX6_startVoting_X6_wordOf : GoodIn wsX6_startVoting (va_wsS RX6 137 yX6_wordOf wsX6_wordOf) := goodIn_app (goodIn_of _ (by decide +kernel)) ggX6_startVoting_X6_wordOf
set_option maxRecDepth 20000 in
theorem ggX6_startVoting_X6_sendVotes : GoodIn wsX6_startVoting wsX6_sendVotes := goodIn_r _ [12, 13, 14, 15, 16, 17, 18, 19, 20, 21, 22, 23, 34, 35, 36, 37, 38, 39, 40, 41, 42, 43, 44] (by decide +kernel) (by decide +kernel)
set_option maxRecDepth 20000 in
theorem gX6_startVoting_X6_sendVotes : GoodIn wsX6_startVoting (wsV RX6 70 RX6 yX6_sendVotes wsX6_sendVotes) := goodIn_app (goodIn_of _ (by decide +kernel)) ggX6_startVoting_X6_sendVotes
set_option maxRecDepth 20000 in
theorem ggX6_takeQuestion_X3_send : GoodIn wsX6_takeQuestion wsX3_send := goodIn_r _ [6, 7, 8, 9, 10, 18, 19, 20, 21] (by decide +kernel) (by decide +kernel)
set_option maxRecDepth 20000 in
theorem gX6_takeQuestion_X3_send : GoodIn wsX6_takeQuestion (wsV RX6 74 RX3 yX3_send wsX3_send) := goodIn_app (goodIn_of _ (by decide +kernel)) ggX6_takeQuestion_X3_send
set_option maxRecDepth 20000 in
theorem ggX7_votes_X7_sends : GoodIn wsX7_votes wsX7_sends := goodIn_r _ [6, 7, 8, 9, 10, 11, 12, 13, 14, 15, 16, 17, 18, 19, 20, 21, 22, 23, 24, 25, 26, 27, 28, 29, 30, 31, 32, 33, 34, 35] (by decide +kernel) (by decide +kernel)
set_option maxRecDepth 20000 in
theorem gX7_votes_X7_sends : GoodIn wsX7_votes (wsV RX7 85 RX7 yX7_sends wsX7_sends) := goodIn_app (goodIn_of _ (by decide +kernel)) ggX7_votes_X7_sends
set_option maxRecDepth 20000 in
theorem ggX7_becomes_X7_isManager : GoodIn wsX7_becomes wsX7_isManager := goodIn_r _ [8, 9, 30, 31, 32, 33, 34, 35, 36, 37, 38, 39, 40, 41, 42, 43, 44, 45, 46, 47, 48, 49, 50, 51, 52, 53, 54, 55] (by decide +kernel) (by decide +kernel)
set_option maxRecDepth 20000 in
theorem gX7_becomes_X7_isManager : GoodIn wsX7_becomes (wsV RX7 89 RX7 yX7_isManager wsX7_isManager) := goodIn_app (goodIn_of _ (by decide +kernel)) ggX7_becomes_X7_isManager
set_option maxRecDepth 20000 in
theorem ggX7_becomes_X7_lacks : GoodIn wsX7_becomes wsX7_lacks := goodIn_r _ [13, 14, 30, 31, 32, 33, 34, 35, 36, 37, 38, 39, 40, 41, 42, 43, 44, 45, 46, 47, 48, 49, 50, 51, 52, 53, 54, 55] (by decide +kernel) (by decide +kernel)
set_option maxRecDepth 20000 in
theorem gX7_becomes_X7_lacks : GoodIn wsX7_becomes (wsV RX7 93 RX7 yX7_lacks wsX7_lacks) := goodIn_app (goodIn_of _ (by decide +kernel)) ggX7_becomes_X7_lacks
set_option maxRecDepth 20000 in
theorem ggX7_becomes_X7_hasRoom : GoodIn wsX7_becomes wsX7_hasRoom := goodIn_r _ [18, 19, 30, 31, 32, 33, 34, 35, 36, 37, 38, 39, 40, 41, 42, 43, 44, 45, 46, 47, 48, 49, 50, 51, 52, 53, 54, 55] (by decide +kernel) (by decide +kernel)
set_option maxRecDepth 20000 in
theorem gX7_becomes_X7_hasRoom : GoodIn wsX7_becomes (wsV RX7 97 RX7 yX7_hasRoom wsX7_hasRoom) := goodIn_app (goodIn_of _ (by decide +kernel)) ggX7_becomes_X7_hasRoom
set_option maxRecDepth 20000 in
theorem ggX7_becomes_X7_votes : GoodIn wsX7_becomes wsX7_votes := goodIn_r _ [23, 3, 24, 25, 26, 7, 27, 19, 28, 29, 30, 31, 32, 33, 34, 35, 36, 37, 38, 39, 40, 41, 42, 43, 44, 45, 46, 47, 48, 49, 50, 51, 52, 53, 54, 55] (by decide +kernel) (by decide +kernel)
set_option maxRecDepth 20000 in
theorem gX7_becomes_X7_votes : GoodIn wsX7_becomes (wsV RX7 100 RX7 yX7_votes wsX7_votes) := goodIn_app (goodIn_of _ (by decide +kernel)) ggX7_becomes_X7_votes
set_option maxRecDepth 20000 in
theorem ggX7_prepare_X7_becomes : GoodIn wsX7_prepare wsX7_becomes := goodIn_r _ [5, 6, 7, 8, 9, 10, 11, 4, 12, 13, 14, 15, 16, 17, 18, 19, 20, 21, 22, 23, 24, 25, 26, 27, 28, 29, 30, 31, 32, 33, 34, 35, 36, 37, 38, 39, 40, 41, 42, 43, 44, 45, 46, 47, 48, 49, 50, 51, 52, 53, 54, 55, 56, 57, 58, 59] (by decide +kernel) (by decide +kernel)
set_option maxRecDepth 20000 in
theorem gX7_prepare_X7_becomes : GoodIn wsX7_prepare (wsV RX7 104 RX7 yX7_becomes wsX7_becomes) := goodIn_app (goodIn_of _ (by decide +kernel)) ggX7_prepare_X7_becomes
set_option maxRecDepth 20000 in
theorem ggX7_refuse_X7_becomes : GoodIn wsX7_refuse wsX7_becomes := goodIn_r _ [5, 6, 7, 8, 9, 10, 11, 4, 12, 13, 14, 15, 16, 17, 18, 19, 20, 21, 22, 23, 24, 25, 26, 27, 28, 29, 30, 31, 32, 33, 34, 35, 36, 37, 38, 39, 40, 41, 42, 43, 44, 45, 46, 47, 48, 49, 50, 51, 52, 53, 54, 55, 56, 57, 58, 59] (by decide +kernel) (by decide +kernel)
set_option maxRecDepth 20000 in
theorem gX7_refuse_X7_becomes : GoodIn wsX7_refuse (wsV RX7 104 RX7 yX7_becomes wsX7_becomes) := goodIn_app (goodIn_of _ (by decide +kernel)) ggX7_refuse_X7_becomes
set_option maxRecDepth 20000 in
theorem ggX7_resend_X7_isManager : GoodIn wsX7_resend wsX7_isManager := goodIn_r _ [8, 9, 30, 31, 32, 33, 34, 35, 36, 37, 38, 39, 40, 41, 42, 43, 44, 45, 46, 47, 48, 49, 50, 51, 52, 53, 54, 55] (by decide +kernel) (by decide +kernel)
set_option maxRecDepth 20000 in
theorem gX7_resend_X7_isManager : GoodIn wsX7_resend (wsV RX7 89 RX7 yX7_isManager wsX7_isManager) := goodIn_app (goodIn_of _ (by decide +kernel)) ggX7_resend_X7_isManager
set_option maxRecDepth 20000 in
theorem ggX7_resend_X7_lacks : GoodIn wsX7_resend wsX7_lacks := goodIn_r _ [13, 14, 30, 31, 32, 33, 34, 35, 36, 37, 38, 39, 40, 41, 42, 43, 44, 45, 46, 47, 48, 49, 50, 51, 52, 53, 54, 55] (by decide +kernel) (by decide +kernel)
set_option maxRecDepth 20000 in
theorem gX7_resend_X7_lacks : GoodIn wsX7_resend (wsV RX7 93 RX7 yX7_lacks wsX7_lacks) := goodIn_app (goodIn_of _ (by decide +kernel)) ggX7_resend_X7_lacks
set_option maxRecDepth 20000 in
theorem ggX7_resend_X7_hasRoom : GoodIn wsX7_resend wsX7_hasRoom := goodIn_r _ [18, 19, 30, 31, 32, 33, 34, 35, 36, 37, 38, 39, 40, 41, 42, 43, 44, 45, 46, 47, 48, 49, 50, 51, 52, 53, 54, 55] (by decide +kernel) (by decide +kernel)
set_option maxRecDepth 20000 in
theorem gX7_resend_X7_hasRoom : GoodIn wsX7_resend (wsV RX7 97 RX7 yX7_hasRoom wsX7_hasRoom) := goodIn_app (goodIn_of _ (by decide +kernel)) ggX7_resend_X7_hasRoom
set_option maxRecDepth 20000 in
theorem ggX7_resend_X7_votes : GoodIn wsX7_resend wsX7_votes := goodIn_r _ [23, 3, 24, 25, 26, 7, 27, 19, 28, 29, 30, 31, 32, 33, 34, 35, 36, 37, 38, 39, 40, 41, 42, 43, 44, 45, 46, 47, 48, 49, 50, 51, 52, 53, 54, 55] (by decide +kernel) (by decide +kernel)
set_option maxRecDepth 20000 in
theorem gX7_resend_X7_votes : GoodIn wsX7_resend (wsV RX7 100 RX7 yX7_votes wsX7_votes) := goodIn_app (goodIn_of _ (by decide +kernel)) ggX7_resend_X7_votes
set_option maxRecDepth 20000 in
theorem ggX7_question_X7_isManager : GoodIn wsX7_question wsX7_isManager := goodIn_r _ [6, 7, 24, 25, 26, 27, 28, 29, 30, 31, 32, 33, 34, 35, 36, 37, 38, 39, 40, 41, 42, 43, 44, 45, 46, 47, 48, 49] (by decide +kernel) (by decide +kernel)
set_option maxRecDepth 20000 in
theorem gX7_question_X7_isManager : GoodIn wsX7_question (wsV RX7 89 RX7 yX7_isManager wsX7_isManager) := goodIn_app (goodIn_of _ (by decide +kernel)) ggX7_question_X7_isManager
set_option maxRecDepth 20000 in
theorem ggX7_question_X7_lacks : GoodIn wsX7_question wsX7_lacks := goodIn_r _ [11, 12, 24, 25, 26, 27, 28, 29, 30, 31, 32, 33, 34, 35, 36, 37, 38, 39, 40, 41, 42, 43, 44, 45, 46, 47, 48, 49] (by decide +kernel) (by decide +kernel)
set_option maxRecDepth 20000 in
theorem gX7_question_X7_lacks : GoodIn wsX7_question (wsV RX7 93 RX7 yX7_lacks wsX7_lacks) := goodIn_app (goodIn_of _ (by decide +kernel)) ggX7_question_X7_lacks
set_option maxRecDepth 20000 in
theorem ggX7_question_X7_hasRoom : GoodIn wsX7_question wsX7_hasRoom := goodIn_r _ [16, 17, 24, 25, 26, 27, 28, 29, 30, 31, 32, 33, 34, 35, 36, 37, 38, 39, 40, 41, 42, 43, 44, 45, 46, 47, 48, 49] (by decide +kernel) (by decide +kernel)
set_option maxRecDepth 20000 in
theorem gX7_question_X7_hasRoom : GoodIn wsX7_question (wsV RX7 97 RX7 yX7_hasRoom wsX7_hasRoom) := goodIn_app (goodIn_of _ (by decide +kernel)) ggX7_question_X7_hasRoom
set_option maxRecDepth 20000 in
theorem ggX7_question_X7_sends : GoodIn wsX7_question wsX7_sends := goodIn_r _ [21, 17, 22, 23, 24, 25, 26, 27, 28, 29, 30, 31, 32, 33, 34, 35, 36, 37, 38, 39, 40, 41, 42, 43, 44, 45, 46, 47, 48, 49] (by decide +kernel) (by decide +kernel)
set_option maxRecDepth 20000 in
theorem gX7_question_X7_sends : GoodIn wsX7_question (wsV RX7 85 RX7 yX7_sends wsX7_sends) := goodIn_app (goodIn_of _ (by decide +kernel)) ggX7_question_X7_sends
set_option maxRecDepth 20000 in
theorem ggX7_begin_X7_isLeader : GoodIn wsX7_begin wsX7_isLeader := goodIn_r _ [13] (by decide +kernel) (by decide +kernel)
set_option maxRecDepth 20000 in
theorem gX7_begin_X7_isLeader : GoodIn wsX7_begin (va_wsS RX7 108 yX7_isLeader wsX7_isLeader) := goodIn_app (goodIn_of _ (by decide +kernel)) ggX7_begin_X7_isLeader
set_option maxRecDepth 20000 in
theorem ggX7_begin_X7_lacks : GoodIn wsX7_begin wsX7_lacks := goodIn_r _ [17, 18, 30, 31, 32, 33, 34, 35, 36, 37, 38, 39, 40, 41, 42, 43, 44, 45, 46, 47, 48, 49, 50, 51, 52, 53, 54, 55] (by decide +kernel) (by decide +kernel)
set_option maxRecDepth 20000 in
theorem gX7_begin_X7_lacks : GoodIn wsX7_begin (wsV RX7 93 RX7 yX7_lacks wsX7_lacks) := goodIn_app (goodIn_of _ (by decide +kernel)) ggX7_begin_X7_lacks
set_option maxRecDepth 20000 in
theorem ggX7_begin_X7_hasRoom : GoodIn wsX7_begin wsX7_hasRoom := goodIn_r _ [22, 23, 30, 31, 32, 33, 34, 35, 36, 37, 38, 39, 40, 41, 42, 43, 44, 45, 46, 47, 48, 49, 50, 51, 52, 53, 54, 55] (by decide +kernel) (by decide +kernel)
set_option maxRecDepth 20000 in
theorem gX7_begin_X7_hasRoom : GoodIn wsX7_begin (wsV RX7 97 RX7 yX7_hasRoom wsX7_hasRoom) := goodIn_app (goodIn_of _ (by decide +kernel)) ggX7_begin_X7_hasRoom
set_option maxRecDepth 20000 in
theorem ggX7_begin_X7_sends : GoodIn wsX7_begin wsX7_sends := goodIn_r _ [27, 23, 28, 29, 30, 31, 32, 33, 34, 35, 36, 37, 38, 39, 40, 41, 42, 43, 44, 45, 46, 47, 48, 49, 50, 51, 52, 53, 54, 55] (by decide +kernel) (by decide +kernel)
set_option maxRecDepth 20000 in
theorem gX7_begin_X7_sends : GoodIn wsX7_begin (wsV RX7 85 RX7 yX7_sends wsX7_sends) := goodIn_app (goodIn_of _ (by decide +kernel)) ggX7_begin_X7_sends
set_option maxRecDepth 20000 in
theorem ggX7_leadsTo_X7_of : GoodIn wsX7_leadsTo wsX7_of := goodIn_r _ [13, 14, 49, 50, 51, 52, 53, 54, 55, 56, 57, 58, 59, 60, 61, 62, 63, 64, 65, 66, 67, 68, 69, 70, 71, 72, 73, 74] (by decide +kernel) (by decide +kernel)
set_option maxRecDepth 20000 in
theorem gX7_leadsTo_X7_of : GoodIn wsX7_leadsTo (wsV RX7 114 RX7 yX7_of wsX7_of) := goodIn_app (goodIn_of _ (by decide +kernel)) ggX7_leadsTo_X7_of
set_option maxRecDepth 20000 in
theorem ggX7_leadsTo_X7_bits : GoodIn wsX7_leadsTo wsX7_bits := goodIn_r _ [17] (by decide +kernel) (by decide +kernel)
set_option maxRecDepth 20000 in
theorem gX7_leadsTo_X7_bits : GoodIn wsX7_leadsTo (va_wsS RX7 118 yX7_bits wsX7_bits) := goodIn_app (goodIn_of _ (by decide +kernel)) ggX7_leadsTo_X7_bits
set_option maxRecDepth 20000 in
theorem ggX7_leadsTo_X7_isMost : GoodIn wsX7_leadsTo wsX7_isMost := goodIn_r _ [21, 7, 49, 50, 51, 52, 53, 54, 55, 56, 57, 58, 59, 60, 61, 62, 63, 64, 65, 66, 67, 68, 69, 70, 71, 72, 73, 74] (by decide +kernel) (by decide +kernel)
set_option maxRecDepth 20000 in
theorem gX7_leadsTo_X7_isMost : GoodIn wsX7_leadsTo (wsV RX7 122 RX7 yX7_isMost wsX7_isMost) := goodIn_app (goodIn_of _ (by decide +kernel)) ggX7_leadsTo_X7_isMost
set_option maxRecDepth 20000 in
theorem ggX7_leadsTo_X7_decides : GoodIn wsX7_leadsTo wsX7_decides := goodIn_r _ [25, 8, 9, 10, 11, 12, 13, 14, 26, 27, 28, 29, 6, 30, 31, 32, 33, 34, 7, 35, 36, 37, 38, 39, 40, 41, 42, 43, 44, 45, 46, 47, 48, 18, 19, 20, 21, 49, 50, 51, 52, 53, 54, 55, 56, 57, 58, 59, 60, 61, 62, 63, 64, 65, 66, 67, 68, 69, 70, 71, 72, 73, 74] (by decide +kernel) (by decide +kernel)
set_option maxRecDepth 20000 in
theorem gX7_leadsTo_X7_decides : GoodIn wsX7_leadsTo (wsV RX7 125 RX7 yX7_decides wsX7_decides) := goodIn_app (goodIn_of _ (by decide +kernel)) ggX7_leadsTo_X7_decides
set_option maxRecDepth 20000 in
theorem ggX7_settled_X7_ballotSeen : GoodIn wsX7_settled wsX7_ballotSeen := goodIn_r _ [8, 9, 10, 11, 12, 7, 13, 14, 15, 16, 17, 18, 19, 20, 21, 22, 27, 28, 29, 30, 31, 32, 33, 34, 35, 36, 37, 38, 39, 40, 41, 42, 43, 44, 45, 46, 47, 48, 49, 50, 51, 52] (by decide +kernel) (by decide +kernel)
set_option maxRecDepth 20000 in
theorem gX7_settled_X7_ballotSeen : GoodIn wsX7_settled (wsV RX7 128 RX7 yX7_ballotSeen wsX7_ballotSeen) := goodIn_app (goodIn_of _ (by decide +kernel)) ggX7_settled_X7_ballotSeen
set_option maxRecDepth 20000 in
theorem ggX7_settled_X7_isMost : GoodIn wsX7_settled wsX7_isMost := goodIn_r _ [26, 2, 27, 28, 29, 30, 31, 32, 33, 34, 35, 36, 37, 38, 39, 40, 41, 42, 43, 44, 45, 46, 47, 48, 49, 50, 51, 52] (by decide +kernel) (by decide +kernel)
set_option maxRecDepth 20000 in
theorem gX7_settled_X7_isMost : GoodIn wsX7_settled (wsV RX7 122 RX7 yX7_isMost wsX7_isMost) := goodIn_app (goodIn_of _ (by decide +kernel)) ggX7_settled_X7_isMost
set_option maxRecDepth 20000 in
theorem ggX7_settled_X7_isNew : GoodIn wsX7_settled wsX7_isNew := goodIn_r _ [13, 9, 14, 15, 16, 7, 17, 18, 19, 20, 21, 22, 27, 28, 29, 30, 31, 32, 33, 34, 35, 36, 37, 38, 39, 40, 41, 42, 43, 44, 45, 46, 47, 48, 49, 50, 51, 52] (by decide +kernel) (by decide +kernel)
set_option maxRecDepth 20000 in
theorem gX7_settled_X7_isNew : GoodIn wsX7_settled (wsV RX7 132 RX7 yX7_isNew wsX7_isNew) := goodIn_app (goodIn_of _ (by decide +kernel)) ggX7_settled_X7_isNew
set_option maxRecDepth 20000 in
theorem ggX7_settled_X7_of : GoodIn wsX7_settled wsX7_of := goodIn_r _ [17, 18, 27, 28, 29, 30, 31, 32, 33, 34, 35, 36, 37, 38, 39, 40, 41, 42, 43, 44, 45, 46, 47, 48, 49, 50, 51, 52] (by decide +kernel) (by decide +kernel)
set_option maxRecDepth 20000 in
theorem gX7_settled_X7_of : GoodIn wsX7_settled (wsV RX7 114 RX7 yX7_of wsX7_of) := goodIn_app (goodIn_of _ (by decide +kernel)) ggX7_settled_X7_of
set_option maxRecDepth 20000 in
theorem ggX7_settled_X7_seenAt : GoodIn wsX7_settled wsX7_seenAt := goodIn_r _ [22] (by decide +kernel) (by decide +kernel)
set_option maxRecDepth 20000 in
theorem gX7_settled_X7_seenAt : GoodIn wsX7_settled (wsV RX7 136 RX7 yX7_seenAt wsX7_seenAt) := goodIn_app (goodIn_of _ (by decide +kernel)) ggX7_settled_X7_seenAt
set_option maxRecDepth 20000 in
theorem ggX7_isNew_X7_of : GoodIn wsX7_isNew wsX7_of := goodIn_r _ [6, 7, 12, 13, 14, 15, 16, 17, 18, 19, 20, 21, 22, 23, 24, 25, 26, 27, 28, 29, 30, 31, 32, 33, 34, 35, 36, 37] (by decide +kernel) (by decide +kernel)
set_option maxRecDepth 20000 in
theorem gX7_isNew_X7_of : GoodIn wsX7_isNew (wsV RX7 114 RX7 yX7_of wsX7_of) := goodIn_app (goodIn_of _ (by decide +kernel)) ggX7_isNew_X7_of
set_option maxRecDepth 20000 in
theorem ggX7_isNew_X7_seenAt : GoodIn wsX7_isNew wsX7_seenAt := goodIn_r _ [11] (by decide +kernel) (by decide +kernel)
set_option maxRecDepth 20000 in
theorem gX7_isNew_X7_seenAt : GoodIn wsX7_isNew (wsV RX7 136 RX7 yX7_seenAt wsX7_seenAt) := goodIn_app (goodIn_of _ (by decide +kernel)) ggX7_isNew_X7_seenAt
set_option maxRecDepth 20000 in
theorem ggX7_ballotSeen_X7_isNew : GoodIn wsX7_ballotSeen wsX7_isNew := goodIn_r _ [6, 1, 7, 8, 9, 5, 10, 11, 12, 13, 14, 15, 16, 17, 18, 19, 20, 21, 22, 23, 24, 25, 26, 27, 28, 29, 30, 31, 32, 33, 34, 35, 36, 37, 38, 39, 40, 41] (by decide +kernel) (by decide +kernel)
set_option maxRecDepth 20000 in
theorem gX7_ballotSeen_X7_isNew : GoodIn wsX7_ballotSeen (wsV RX7 132 RX7 yX7_isNew wsX7_isNew) := goodIn_app (goodIn_of _ (by decide +kernel)) ggX7_ballotSeen_X7_isNew
set_option maxRecDepth 20000 in
theorem ggX7_ballotSeen_X7_of : GoodIn wsX7_ballotSeen wsX7_of := goodIn_r _ [10, 11, 16, 17, 18, 19, 20, 21, 22, 23, 24, 25, 26, 27, 28, 29, 30, 31, 32, 33, 34, 35, 36, 37, 38, 39, 40, 41] (by decide +kernel) (by decide +kernel)
set_option maxRecDepth 20000 in
theorem gX7_ballotSeen_X7_of : GoodIn wsX7_ballotSeen (wsV RX7 114 RX7 yX7_of wsX7_of) := goodIn_app (goodIn_of _ (by decide +kernel)) ggX7_ballotSeen_X7_of
set_option maxRecDepth 20000 in
theorem ggX7_ballotSeen_X7_seenAt : GoodIn wsX7_ballotSeen wsX7_seenAt := goodIn_r _ [15] (by decide +kernel) (by decide +kernel)
set_option maxRecDepth 20000 in
theorem gX7_ballotSeen_X7_seenAt : GoodIn wsX7_ballotSeen (wsV RX7 136 RX7 yX7_seenAt wsX7_seenAt) := goodIn_app (goodIn_of _ (by decide +kernel)) ggX7_ballotSeen_X7_seenAt
set_option maxRecDepth 20000 in
theorem ggX7_decided_X7_settled : GoodIn wsX7_decided wsX7_settled := goodIn_r _ [6, 7, 8, 9, 10, 11, 12, 5, 13, 14, 15, 16, 17, 18, 19, 20, 21, 22, 23, 24, 25, 26, 27, 28, 29, 30, 31, 32, 33, 34, 35, 36, 37, 38, 39, 40, 41, 42, 43, 44, 45, 46, 47, 48, 49, 50, 51, 52, 53, 54, 55, 56, 57] (by decide +kernel) (by decide +kernel)
set_option maxRecDepth 20000 in
theorem gX7_decided_X7_settled : GoodIn wsX7_decided (wsV RX7 140 RX7 yX7_settled wsX7_settled) := goodIn_app (goodIn_of _ (by decide +kernel)) ggX7_decided_X7_settled
set_option maxRecDepth 20000 in
theorem ggX7_decides_X7_of : GoodIn wsX7_decides wsX7_of := goodIn_r _ [6, 7, 37, 38, 39, 40, 41, 42, 43, 44, 45, 46, 47, 48, 49, 50, 51, 52, 53, 54, 55, 56, 57, 58, 59, 60, 61, 62] (by decide +kernel) (by decide +kernel)
set_option maxRecDepth 20000 in
theorem gX7_decides_X7_of : GoodIn wsX7_decides (wsV RX7 114 RX7 yX7_of wsX7_of) := goodIn_app (goodIn_of _ (by decide +kernel)) ggX7_decides_X7_of
set_option maxRecDepth 20000 in
theorem ggX7_decides_X7_decided : GoodIn wsX7_decides wsX7_decided := goodIn_r _ [11, 12, 13, 14, 15, 5, 16, 17, 18, 19, 20, 21, 22, 23, 24, 25, 26, 27, 28, 2, 3, 4, 6, 7, 29, 30, 31, 32, 33, 34, 35, 36, 37, 38, 39, 40, 41, 42, 43, 44, 45, 46, 47, 48, 49, 50, 51, 52, 53, 54, 55, 56, 57, 58, 59, 60, 61, 62] (by decide +kernel) (by decide +kernel)
set_option maxRecDepth 20000 in
theorem gX7_decides_X7_decided : GoodIn wsX7_decides (wsV RX7 143 RX7 yX7_decided wsX7_decided) := goodIn_app (goodIn_of _ (by decide +kernel)) ggX7_decides_X7_decided
set_option maxRecDepth 20000 in
theorem ggX7_deliver_X7_isMessage : GoodIn wsX7_deliver wsX7_isMessage := goodIn_r _ [5, 6, 110, 111, 112, 113, 114, 115, 116, 117, 118, 119, 120, 121, 122, 123, 124, 125, 126, 127, 128, 129, 130, 131, 132, 133, 134, 135] (by decide +kernel) (by decide +kernel)
set_option maxRecDepth 20000 in
theorem gX7_deliver_X7_isMessage : GoodIn wsX7_deliver (wsV RX7 146 RX7 yX7_isMessage wsX7_isMessage) := goodIn_app (goodIn_of _ (by decide +kernel)) ggX7_deliver_X7_isMessage
set_option maxRecDepth 20000 in
theorem ggX7_deliver_X7_lacks : GoodIn wsX7_deliver wsX7_lacks := goodIn_r _ [10, 11, 110, 111, 112, 113, 114, 115, 116, 117, 118, 119, 120, 121, 122, 123, 124, 125, 126, 127, 128, 129, 130, 131, 132, 133, 134, 135] (by decide +kernel) (by decide +kernel)
set_option maxRecDepth 20000 in
theorem gX7_deliver_X7_lacks : GoodIn wsX7_deliver (wsV RX7 93 RX7 yX7_lacks wsX7_lacks) := goodIn_app (goodIn_of _ (by decide +kernel)) ggX7_deliver_X7_lacks
set_option maxRecDepth 20000 in
theorem ggX7_deliver_X7_comes : GoodIn wsX7_deliver wsX7_comes := goodIn_r _ [15, 6, 16, 17, 18, 19, 20, 21, 22, 23, 4, 24, 25, 26, 27, 28, 29, 30, 31, 32, 33, 34, 35, 36, 37, 38, 39, 40, 41, 42, 43, 44, 45, 46, 47, 48, 49, 50, 51, 52, 53, 54, 55, 56, 57, 58, 59, 60, 61, 62, 63, 64, 65, 66, 67, 68, 69, 70, 71, 72, 73, 74, 75, 76, 77, 78, 79, 80, 81, 82, 83, 84, 85, 86, 87, 88, 89, 90, 91, 92, 93, 94, 95, 96, 97, 98, 99, 100, 101, 102, 103, 104, 105, 106, 107, 108, 109, 110, 111, 112, 113, 114, 115, 116, 117, 118, 119, 120, 121, 122, 123, 124, 125, 126, 127, 128, 129, 130, 131, 132, 133, 134, 135] (by decide +kernel) (by decide +kernel)
set_option maxRecDepth 20000 in
theorem gX7_deliver_X7_comes : GoodIn wsX7_deliver (wsV RX7 149 RX7 yX7_comes wsX7_comes) := goodIn_app (goodIn_of _ (by decide +kernel)) ggX7_deliver_X7_comes
set_option maxRecDepth 20000 in
theorem ggX7_comes_X7_of : GoodIn wsX7_comes wsX7_of := goodIn_r _ [11, 12, 97, 98, 99, 100, 101, 102, 103, 104, 105, 106, 107, 108, 109, 110, 111, 112, 113, 114, 115, 116, 117, 118, 119, 120, 121, 122] (by decide +kernel) (by decide +kernel)
set_option maxRecDepth 20000 in
theorem gX7_comes_X7_of : GoodIn wsX7_comes (wsV RX7 114 RX7 yX7_of wsX7_of) := goodIn_app (goodIn_of _ (by decide +kernel)) ggX7_comes_X7_of
set_option maxRecDepth 20000 in
theorem ggX7_comes_X7_leadsTo : GoodIn wsX7_comes wsX7_leadsTo := goodIn_r _ [16, 2, 17, 18, 19, 20, 21, 22, 5, 7, 8, 9, 10, 11, 12, 23, 24, 25, 26, 27, 28, 29, 30, 31, 32, 33, 34, 35, 36, 37, 38, 39, 40, 41, 42, 43, 44, 45, 46, 47, 48, 49, 50, 51, 52, 53, 54, 55, 56, 97, 98, 99, 100, 101, 102, 103, 104, 105, 106, 107, 108, 109, 110, 111, 112, 113, 114, 115, 116, 117, 118, 119, 120, 121, 122] (by decide +kernel) (by decide +kernel)
set_option maxRecDepth 20000 in
theorem gX7_comes_X7_leadsTo : GoodIn wsX7_comes (wsV RX7 152 RX7 yX7_leadsTo wsX7_leadsTo) := goodIn_app (goodIn_of _ (by decide +kernel)) ggX7_comes_X7_leadsTo
set_option maxRecDepth 20000 in
theorem ggX7_comes_X7_decides : GoodIn wsX7_comes wsX7_decides := goodIn_r _ [33, 5, 7, 8, 9, 10, 11, 12, 34, 35, 36, 37, 21, 38, 39, 40, 41, 42, 22, 43, 44, 45, 46, 47, 48, 49, 50, 51, 52, 53, 54, 55, 56, 26, 27, 28, 29, 97, 98, 99, 100, 101, 102, 103, 104, 105, 106, 107, 108, 109, 110, 111, 112, 113, 114, 115, 116, 117, 118, 119, 120, 121, 122] (by decide +kernel) (by decide +kernel)
set_option maxRecDepth 20000 in
theorem gX7_comes_X7_decides : GoodIn wsX7_comes (wsV RX7 125 RX7 yX7_decides wsX7_decides) := goodIn_app (goodIn_of _ (by decide +kernel)) ggX7_comes_X7_decides
set_option maxRecDepth 20000 in
theorem ggX7_comes_X7_remove : GoodIn wsX7_comes wsX7_remove := goodIn_r _ [60, 1, 12, 97, 98, 99, 100, 101, 102, 103, 104, 105, 106, 107, 108, 109, 110, 111, 112, 113, 114, 115, 116, 117, 118, 119, 120, 121, 122] (by decide +kernel) (by decide +kernel)
set_option maxRecDepth 20000 in
theorem gX7_comes_X7_remove : GoodIn wsX7_comes (wsV RX7 155 RX7 yX7_remove wsX7_remove) := goodIn_app (goodIn_of _ (by decide +kernel)) ggX7_comes_X7_remove
set_option maxRecDepth 20000 in
theorem ggX7_comes_X7_voteComes : GoodIn wsX7_comes wsX7_voteComes := goodIn_r _ [64, 3, 17, 65, 66, 67, 68, 69, 70, 71, 10, 72, 1, 12, 73, 97, 98, 99, 100, 101, 102, 103, 104, 105, 106, 107, 108, 109, 110, 111, 112, 113, 114, 115, 116, 117, 118, 119, 120, 121, 122] (by decide +kernel) (by decide +kernel)
set_option maxRecDepth 20000 in
theorem gX7_comes_X7_voteComes : GoodIn wsX7_comes (wsV RX7 162 RX7 yX7_voteComes wsX7_voteComes) := goodIn_app (goodIn_of _ (by decide +kernel)) ggX7_comes_X7_voteComes
set_option maxRecDepth 20000 in
theorem ggX7_comes_X7_askComes : GoodIn wsX7_comes wsX7_askComes := goodIn_r _ [77, 3, 17, 1, 21, 12, 65, 66, 69, 70, 71, 10, 72, 73, 97, 98, 99, 100, 101, 102, 103, 104, 105, 106, 107, 108, 109, 110, 111, 112, 113, 114, 115, 116, 117, 118, 119, 120, 121, 122] (by decide +kernel) (by decide +kernel)
set_option maxRecDepth 20000 in
theorem gX7_comes_X7_askComes : GoodIn wsX7_comes (wsV RX7 165 RX7 yX7_askComes wsX7_askComes) := goodIn_app (goodIn_of _ (by decide +kernel)) ggX7_comes_X7_askComes
set_option maxRecDepth 20000 in
theorem ggX7_comes_X7_toldComes : GoodIn wsX7_comes wsX7_toldComes := goodIn_r _ [81, 3, 82, 83, 84, 85, 86, 18, 19, 20, 21, 87, 88, 22, 23, 24, 10, 25, 26, 27, 28, 29, 89, 90, 91, 92, 69, 70, 71, 72, 1, 12, 73, 97, 98, 99, 100, 101, 102, 103, 104, 105, 106, 107, 108, 109, 110, 111, 112, 113, 114, 115, 116, 117, 118, 119, 120, 121, 122] (by decide +kernel) (by decide +kernel)
set_option maxRecDepth 20000 in
theorem gX7_comes_X7_toldComes : GoodIn wsX7_comes (wsV RX7 168 RX7 yX7_toldComes wsX7_toldComes) := goodIn_app (goodIn_of _ (by decide +kernel)) ggX7_comes_X7_toldComes
set_option maxRecDepth 20000 in
theorem ggX7_comes_X7_votedComes : GoodIn wsX7_comes wsX7_votedComes := goodIn_r _ [96, 3, 82, 83, 84, 85, 86, 48, 43, 21, 42, 5, 53, 54, 55, 10, 56, 38, 39, 40, 41, 22, 44, 45, 46, 47, 49, 50, 51, 52, 7, 8, 9, 11, 12, 26, 27, 28, 29, 34, 35, 36, 37, 69, 70, 71, 72, 1, 73, 97, 98, 99, 100, 101, 102, 103, 104, 105, 106, 107, 108, 109, 110, 111, 112, 113, 114, 115, 116, 117, 118, 119, 120, 121, 122] (by decide +kernel) (by decide +kernel)
set_option maxRecDepth 20000 in
theorem gX7_comes_X7_votedComes : GoodIn wsX7_comes (wsV RX7 171 RX7 yX7_votedComes wsX7_votedComes) := goodIn_app (goodIn_of _ (by decide +kernel)) ggX7_comes_X7_votedComes
set_option maxRecDepth 20000 in
theorem ggX7_comes_X7_sends : GoodIn wsX7_comes wsX7_sends := goodIn_r _ [72, 1, 12, 73, 97, 98, 99, 100, 101, 102, 103, 104, 105, 106, 107, 108, 109, 110, 111, 112, 113, 114, 115, 116, 117, 118, 119, 120, 121, 122] (by decide +kernel) (by decide +kernel)
set_option maxRecDepth 20000 in
theorem gX7_comes_X7_sends : GoodIn wsX7_comes (wsV RX7 85 RX7 yX7_sends wsX7_sends) := goodIn_app (goodIn_of _ (by decide +kernel)) ggX7_comes_X7_sends
set_option maxRecDepth 20000 in
theorem ggX7_voteComes_X7_sends : GoodIn wsX7_voteComes wsX7_sends := goodIn_r _ [11, 12, 13, 14, 15, 16, 17, 18, 19, 20, 21, 22, 23, 24, 25, 26, 27, 28, 29, 30, 31, 32, 33, 34, 35, 36, 37, 38, 39, 40] (by decide +kernel) (by decide +kernel)
set_option maxRecDepth 20000 in
theorem gX7_voteComes_X7_sends : GoodIn wsX7_voteComes (wsV RX7 85 RX7 yX7_sends wsX7_sends) := goodIn_app (goodIn_of _ (by decide +kernel)) ggX7_voteComes_X7_sends
set_option maxRecDepth 20000 in
theorem ggX7_askComes_X7_sends : GoodIn wsX7_askComes wsX7_sends := goodIn_r _ [12, 3, 5, 13, 14, 15, 16, 17, 18, 19, 20, 21, 22, 23, 24, 25, 26, 27, 28, 29, 30, 31, 32, 33, 34, 35, 36, 37, 38, 39] (by decide +kernel) (by decide +kernel)
set_option maxRecDepth 20000 in
theorem gX7_askComes_X7_sends : GoodIn wsX7_askComes (wsV RX7 85 RX7 yX7_sends wsX7_sends) := goodIn_app (goodIn_of _ (by decide +kernel)) ggX7_askComes_X7_sends
set_option maxRecDepth 20000 in
theorem ggX7_toldComes_X7_bits : GoodIn wsX7_toldComes wsX7_bits := goodIn_r _ [17] (by decide +kernel) (by decide +kernel)
set_option maxRecDepth 20000 in
theorem gX7_toldComes_X7_bits : GoodIn wsX7_toldComes (va_wsS RX7 118 yX7_bits wsX7_bits) := goodIn_app (goodIn_of _ (by decide +kernel)) ggX7_toldComes_X7_bits
set_option maxRecDepth 20000 in
theorem ggX7_toldComes_X7_isMost : GoodIn wsX7_toldComes wsX7_isMost := goodIn_r _ [21, 13, 33, 34, 35, 36, 37, 38, 39, 40, 41, 42, 43, 44, 45, 46, 47, 48, 49, 50, 51, 52, 53, 54, 55, 56, 57, 58] (by decide +kernel) (by decide +kernel)
set_option maxRecDepth 20000 in
theorem gX7_toldComes_X7_isMost : GoodIn wsX7_toldComes (wsV RX7 122 RX7 yX7_isMost wsX7_isMost) := goodIn_app (goodIn_of _ (by decide +kernel)) ggX7_toldComes_X7_isMost
set_option maxRecDepth 20000 in
theorem ggX7_toldComes_X7_votes : GoodIn wsX7_toldComes wsX7_votes := goodIn_r _ [25, 13, 26, 27, 28, 16, 29, 30, 31, 32, 33, 34, 35, 36, 37, 38, 39, 40, 41, 42, 43, 44, 45, 46, 47, 48, 49, 50, 51, 52, 53, 54, 55, 56, 57, 58] (by decide +kernel) (by decide +kernel)
set_option maxRecDepth 20000 in
theorem gX7_toldComes_X7_votes : GoodIn wsX7_toldComes (wsV RX7 100 RX7 yX7_votes wsX7_votes) := goodIn_app (goodIn_of _ (by decide +kernel)) ggX7_toldComes_X7_votes
set_option maxRecDepth 20000 in
theorem ggX7_votedComes_X7_seenAt : GoodIn wsX7_votedComes wsX7_seenAt := goodIn_r _ [16] (by decide +kernel) (by decide +kernel)
set_option maxRecDepth 20000 in
theorem gX7_votedComes_X7_seenAt : GoodIn wsX7_votedComes (wsV RX7 136 RX7 yX7_seenAt wsX7_seenAt) := goodIn_app (goodIn_of _ (by decide +kernel)) ggX7_votedComes_X7_seenAt
set_option maxRecDepth 20000 in
theorem ggX7_votedComes_X7_settled : GoodIn wsX7_votedComes wsX7_settled := goodIn_r _ [20, 10, 21, 8, 22, 23, 24, 15, 25, 7, 26, 27, 28, 29, 30, 31, 32, 33, 34, 12, 13, 14, 16, 35, 36, 37, 38, 49, 50, 51, 52, 53, 54, 55, 56, 57, 58, 59, 60, 61, 62, 63, 64, 65, 66, 67, 68, 69, 70, 71, 72, 73, 74] (by decide +kernel) (by decide +kernel)
set_option maxRecDepth 20000 in
theorem gX7_votedComes_X7_settled : GoodIn wsX7_votedComes (wsV RX7 140 RX7 yX7_settled wsX7_settled) := goodIn_app (goodIn_of _ (by decide +kernel)) ggX7_votedComes_X7_settled
set_option maxRecDepth 20000 in
theorem ggX7_votedComes_X7_decided : GoodIn wsX7_votedComes wsX7_decided := goodIn_r _ [42, 9, 17, 18, 19, 15, 20, 10, 21, 8, 22, 23, 24, 25, 7, 26, 27, 28, 29, 30, 31, 32, 33, 34, 12, 13, 14, 16, 35, 36, 37, 38, 49, 50, 51, 52, 53, 54, 55, 56, 57, 58, 59, 60, 61, 62, 63, 64, 65, 66, 67, 68, 69, 70, 71, 72, 73, 74] (by decide +kernel) (by decide +kernel)
set_option maxRecDepth 20000 in
theorem gX7_votedComes_X7_decided : GoodIn wsX7_votedComes (wsV RX7 143 RX7 yX7_decided wsX7_decided) := goodIn_app (goodIn_of _ (by decide +kernel)) ggX7_votedComes_X7_decided
set_option maxRecDepth 20000 in
theorem ggX7_votedComes_X7_sends : GoodIn wsX7_votedComes wsX7_sends := goodIn_r _ [46, 47, 34, 48, 49, 50, 51, 52, 53, 54, 55, 56, 57, 58, 59, 60, 61, 62, 63, 64, 65, 66, 67, 68, 69, 70, 71, 72, 73, 74] (by decide +kernel) (by decide +kernel)
set_option maxRecDepth 20000 in
theorem gX7_votedComes_X7_sends : GoodIn wsX7_votedComes (wsV RX7 85 RX7 yX7_sends wsX7_sends) := goodIn_app (goodIn_of _ (by decide +kernel)) ggX7_votedComes_X7_sends
set_option maxRecDepth 20000 in
theorem ggX7_drop_X7_isMessage : GoodIn wsX7_drop wsX7_isMessage := goodIn_r _ [5, 6, 17, 18, 19, 20, 21, 22, 23, 24, 25, 26, 27, 28, 29, 30, 31, 32, 33, 34, 35, 36, 37, 38, 39, 40, 41, 42] (by decide +kernel) (by decide +kernel)
set_option maxRecDepth 20000 in
theorem gX7_drop_X7_isMessage : GoodIn wsX7_drop (wsV RX7 146 RX7 yX7_isMessage wsX7_isMessage) := goodIn_app (goodIn_of _ (by decide +kernel)) ggX7_drop_X7_isMessage
set_option maxRecDepth 20000 in
theorem ggX7_drop_X7_lacks : GoodIn wsX7_drop wsX7_lacks := goodIn_r _ [10, 11, 17, 18, 19, 20, 21, 22, 23, 24, 25, 26, 27, 28, 29, 30, 31, 32, 33, 34, 35, 36, 37, 38, 39, 40, 41, 42] (by decide +kernel) (by decide +kernel)
set_option maxRecDepth 20000 in
theorem gX7_drop_X7_lacks : GoodIn wsX7_drop (wsV RX7 93 RX7 yX7_lacks wsX7_lacks) := goodIn_app (goodIn_of _ (by decide +kernel)) ggX7_drop_X7_lacks
set_option maxRecDepth 20000 in
theorem ggX7_drop_X7_remove : GoodIn wsX7_drop wsX7_remove := goodIn_r _ [15, 6, 16, 17, 18, 19, 20, 21, 22, 23, 24, 25, 26, 27, 28, 29, 30, 31, 32, 33, 34, 35, 36, 37, 38, 39, 40, 41, 42] (by decide +kernel) (by decide +kernel)
set_option maxRecDepth 20000 in
theorem gX7_drop_X7_remove : GoodIn wsX7_drop (wsV RX7 155 RX7 yX7_remove wsX7_remove) := goodIn_app (goodIn_of _ (by decide +kernel)) ggX7_drop_X7_remove
set_option maxRecDepth 20000 in
theorem ggX7_copy_X7_isMessage : GoodIn wsX7_copy wsX7_isMessage := goodIn_r _ [8, 2, 22, 23, 24, 25, 26, 27, 28, 29, 30, 31, 32, 33, 34, 35, 36, 37, 38, 39, 40, 41, 42, 43, 44, 45, 46, 47] (by decide +kernel) (by decide +kernel)
set_option maxRecDepth 20000 in
theorem gX7_copy_X7_isMessage : GoodIn wsX7_copy (wsV RX7 146 RX7 yX7_isMessage wsX7_isMessage) := goodIn_app (goodIn_of _ (by decide +kernel)) ggX7_copy_X7_isMessage
set_option maxRecDepth 20000 in
theorem ggX7_copy_X7_lacks : GoodIn wsX7_copy wsX7_lacks := goodIn_r _ [12, 13, 22, 23, 24, 25, 26, 27, 28, 29, 30, 31, 32, 33, 34, 35, 36, 37, 38, 39, 40, 41, 42, 43, 44, 45, 46, 47] (by decide +kernel) (by decide +kernel)
set_option maxRecDepth 20000 in
theorem gX7_copy_X7_lacks : GoodIn wsX7_copy (wsV RX7 93 RX7 yX7_lacks wsX7_lacks) := goodIn_app (goodIn_of _ (by decide +kernel)) ggX7_copy_X7_lacks
set_option maxRecDepth 20000 in
theorem ggX7_copy_X7_hasRoom : GoodIn wsX7_copy wsX7_hasRoom := goodIn_r _ [17, 2, 22, 23, 24, 25, 26, 27, 28, 29, 30, 31, 32, 33, 34, 35, 36, 37, 38, 39, 40, 41, 42, 43, 44, 45, 46, 47] (by decide +kernel) (by decide +kernel)
set_option maxRecDepth 20000 in
theorem gX7_copy_X7_hasRoom : GoodIn wsX7_copy (wsV RX7 97 RX7 yX7_hasRoom wsX7_hasRoom) := goodIn_app (goodIn_of _ (by decide +kernel)) ggX7_copy_X7_hasRoom
set_option maxRecDepth 20000 in
theorem ggX7_copy_X7_of : GoodIn wsX7_copy wsX7_of := goodIn_r _ [21, 1, 22, 23, 24, 25, 26, 27, 28, 29, 30, 31, 32, 33, 34, 35, 36, 37, 38, 39, 40, 41, 42, 43, 44, 45, 46, 47] (by decide +kernel) (by decide +kernel)
set_option maxRecDepth 20000 in
theorem gX7_copy_X7_of : GoodIn wsX7_copy (wsV RX7 114 RX7 yX7_of wsX7_of) := goodIn_app (goodIn_of _ (by decide +kernel)) ggX7_copy_X7_of
set_option maxRecDepth 20000 in
theorem ggX7_calm_X7_comes : GoodIn wsX7_calm wsX7_comes := goodIn_r _ [7, 2, 8, 9, 10, 11, 12, 13, 14, 15, 6, 16, 17, 18, 19, 20, 21, 22, 23, 24, 25, 26, 27, 28, 29, 30, 31, 32, 33, 34, 35, 36, 37, 38, 39, 40, 41, 42, 43, 44, 45, 46, 47, 48, 49, 50, 51, 52, 53, 54, 55, 56, 57, 58, 59, 60, 61, 62, 63, 64, 65, 66, 67, 68, 69, 70, 71, 72, 73, 74, 75, 76, 77, 78, 79, 80, 81, 82, 83, 84, 85, 86, 87, 88, 89, 90, 91, 92, 93, 94, 95, 96, 97, 98, 99, 100, 101, 102, 103, 104, 105, 106, 107, 108, 109, 110, 111, 112, 113, 114, 115, 116, 117, 118, 119, 120, 121, 122, 123, 124, 125, 126, 127] (by decide +kernel) (by decide +kernel)
set_option maxRecDepth 20000 in
theorem gX7_calm_X7_comes : GoodIn wsX7_calm (wsV RX7 149 RX7 yX7_comes wsX7_comes) := goodIn_app (goodIn_of _ (by decide +kernel)) ggX7_calm_X7_comes
set_option maxRecDepth 20000 in
theorem ggX7_turns_X7_manyOf : GoodIn wsX7_turns wsX7_manyOf := goodIn_r _ [12, 13, 14, 19, 20, 21, 22, 23, 24, 25, 26, 27, 28, 29, 30, 31, 32, 33, 34, 35, 36, 37, 38, 39, 40, 41, 42, 43, 44] (by decide +kernel) (by decide +kernel)
set_option maxRecDepth 20000 in
theorem gX7_turns_X7_manyOf : GoodIn wsX7_turns (wsV RX7 180 RX7 yX7_manyOf wsX7_manyOf) := goodIn_app (goodIn_of _ (by decide +kernel)) ggX7_turns_X7_manyOf
set_option maxRecDepth 20000 in
theorem ggX7_turns_X7_seenAt : GoodIn wsX7_turns wsX7_seenAt := goodIn_r _ [18] (by decide +kernel) (by decide +kernel)
set_option maxRecDepth 20000 in
theorem gX7_turns_X7_seenAt : GoodIn wsX7_turns (wsV RX7 136 RX7 yX7_seenAt wsX7_seenAt) := goodIn_app (goodIn_of _ (by decide +kernel)) ggX7_turns_X7_seenAt
set_option maxRecDepth 20000 in
theorem ggX7_crash_X7_turns : GoodIn wsX7_crash wsX7_turns := goodIn_r _ [5, 6, 7, 8, 9, 10, 11, 12, 13, 14, 15, 4, 16, 17, 18, 19, 20, 21, 22, 23, 24, 25, 26, 27, 28, 29, 30, 31, 32, 33, 34, 35, 36, 37, 38, 39, 40, 41, 42, 43, 44, 45, 46, 47, 48] (by decide +kernel) (by decide +kernel)
set_option maxRecDepth 20000 in
theorem gX7_crash_X7_turns : GoodIn wsX7_crash (wsV RX7 183 RX7 yX7_turns wsX7_turns) := goodIn_app (goodIn_of _ (by decide +kernel)) ggX7_crash_X7_turns
set_option maxRecDepth 20000 in
theorem ggX7_recover_X7_turns : GoodIn wsX7_recover wsX7_turns := goodIn_r _ [5, 6, 7, 8, 9, 10, 11, 12, 13, 14, 15, 4, 16, 17, 18, 19, 20, 21, 22, 23, 24, 25, 26, 27, 28, 29, 30, 31, 32, 33, 34, 35, 36, 37, 38, 39, 40, 41, 42, 43, 44, 45, 46, 47, 48] (by decide +kernel) (by decide +kernel)
set_option maxRecDepth 20000 in
theorem gX7_recover_X7_turns : GoodIn wsX7_recover (wsV RX7 183 RX7 yX7_turns wsX7_turns) := goodIn_app (goodIn_of _ (by decide +kernel)) ggX7_recover_X7_turns
set_option maxRecDepth 20000 in
theorem ggX7_message_X7_isMessage : GoodIn wsX7_message wsX7_isMessage := goodIn_r _ [5, 6, 17, 18, 19, 20, 21, 22, 23, 24, 25, 26, 27, 28, 29, 30, 31, 32, 33, 34, 35, 36, 37, 38, 39, 40, 41, 42] (by decide +kernel) (by decide +kernel)
set_option maxRecDepth 20000 in
theorem gX7_message_X7_isMessage : GoodIn wsX7_message (wsV RX7 146 RX7 yX7_isMessage wsX7_isMessage) := goodIn_app (goodIn_of _ (by decide +kernel)) ggX7_message_X7_isMessage
set_option maxRecDepth 20000 in
theorem ggX7_message_X7_lacks : GoodIn wsX7_message wsX7_lacks := goodIn_r _ [10, 11, 17, 18, 19, 20, 21, 22, 23, 24, 25, 26, 27, 28, 29, 30, 31, 32, 33, 34, 35, 36, 37, 38, 39, 40, 41, 42] (by decide +kernel) (by decide +kernel)
set_option maxRecDepth 20000 in
theorem gX7_message_X7_lacks : GoodIn wsX7_message (wsV RX7 93 RX7 yX7_lacks wsX7_lacks) := goodIn_app (goodIn_of _ (by decide +kernel)) ggX7_message_X7_lacks
set_option maxRecDepth 20000 in
theorem ggX7_message_X7_of : GoodIn wsX7_message wsX7_of := goodIn_r _ [15, 16, 17, 18, 19, 20, 21, 22, 23, 24, 25, 26, 27, 28, 29, 30, 31, 32, 33, 34, 35, 36, 37, 38, 39, 40, 41, 42] (by decide +kernel) (by decide +kernel)
set_option maxRecDepth 20000 in
theorem gX7_message_X7_of : GoodIn wsX7_message (wsV RX7 114 RX7 yX7_of wsX7_of) := goodIn_app (goodIn_of _ (by decide +kernel)) ggX7_message_X7_of
set_option maxRecDepth 20000 in
theorem ggX7_told_X7_isMessage : GoodIn wsX7_told wsX7_isMessage := goodIn_r _ [5, 6, 22, 23, 24, 25, 26, 27, 28, 29, 30, 31, 32, 33, 34, 35, 36, 37, 38, 39, 40, 41, 42, 43, 44, 45, 46, 47] (by decide +kernel) (by decide +kernel)
set_option maxRecDepth 20000 in
theorem gX7_told_X7_isMessage : GoodIn wsX7_told (wsV RX7 146 RX7 yX7_isMessage wsX7_isMessage) := goodIn_app (goodIn_of _ (by decide +kernel)) ggX7_told_X7_isMessage
set_option maxRecDepth 20000 in
theorem ggX7_told_X7_isManager : GoodIn wsX7_told wsX7_isManager := goodIn_r _ [10, 11, 22, 23, 24, 25, 26, 27, 28, 29, 30, 31, 32, 33, 34, 35, 36, 37, 38, 39, 40, 41, 42, 43, 44, 45, 46, 47] (by decide +kernel) (by decide +kernel)
set_option maxRecDepth 20000 in
theorem gX7_told_X7_isManager : GoodIn wsX7_told (wsV RX7 89 RX7 yX7_isManager wsX7_isManager) := goodIn_app (goodIn_of _ (by decide +kernel)) ggX7_told_X7_isManager
set_option maxRecDepth 20000 in
theorem ggX7_told_X7_lacks : GoodIn wsX7_told wsX7_lacks := goodIn_r _ [15, 16, 22, 23, 24, 25, 26, 27, 28, 29, 30, 31, 32, 33, 34, 35, 36, 37, 38, 39, 40, 41, 42, 43, 44, 45, 46, 47] (by decide +kernel) (by decide +kernel)
set_option maxRecDepth 20000 in
theorem gX7_told_X7_lacks : GoodIn wsX7_told (wsV RX7 93 RX7 yX7_lacks wsX7_lacks) := goodIn_app (goodIn_of _ (by decide +kernel)) ggX7_told_X7_lacks
set_option maxRecDepth 20000 in
theorem ggX7_told_X7_of : GoodIn wsX7_told wsX7_of := goodIn_r _ [20, 21, 22, 23, 24, 25, 26, 27, 28, 29, 30, 31, 32, 33, 34, 35, 36, 37, 38, 39, 40, 41, 42, 43, 44, 45, 46, 47] (by decide +kernel) (by decide +kernel)
set_option maxRecDepth 20000 in
theorem gX7_told_X7_of : GoodIn wsX7_told (wsV RX7 114 RX7 yX7_of wsX7_of) := goodIn_app (goodIn_of _ (by decide +kernel)) ggX7_told_X7_of
set_option maxRecDepth 20000 in
theorem ggX7_manager_X7_isManager : GoodIn wsX7_manager wsX7_isManager := goodIn_r _ [7, 8, 14, 15, 16, 17, 18, 19, 20, 21, 22, 23, 24, 25, 26, 27, 28, 29, 30, 31, 32, 33, 34, 35, 36, 37, 38, 39] (by decide +kernel) (by decide +kernel)
set_option maxRecDepth 20000 in
theorem gX7_manager_X7_isManager : GoodIn wsX7_manager (wsV RX7 89 RX7 yX7_isManager wsX7_isManager) := goodIn_app (goodIn_of _ (by decide +kernel)) ggX7_manager_X7_isManager
set_option maxRecDepth 20000 in
theorem ggX7_manager_X7_lacks : GoodIn wsX7_manager wsX7_lacks := goodIn_r _ [12, 13, 14, 15, 16, 17, 18, 19, 20, 21, 22, 23, 24, 25, 26, 27, 28, 29, 30, 31, 32, 33, 34, 35, 36, 37, 38, 39] (by decide +kernel) (by decide +kernel)
set_option maxRecDepth 20000 in
theorem gX7_manager_X7_lacks : GoodIn wsX7_manager (wsV RX7 93 RX7 yX7_lacks wsX7_lacks) := goodIn_app (goodIn_of _ (by decide +kernel)) ggX7_manager_X7_lacks
set_option maxRecDepth 20000 in
theorem ggX7_acceptor_X7_isAcceptor : GoodIn wsX7_acceptor wsX7_isAcceptor := goodIn_r _ [9, 10, 21, 22, 23, 24, 25, 26, 27, 28, 29, 30, 31, 32, 33, 34, 35, 36, 37, 38, 39, 40, 41, 42, 43, 44, 45, 46] (by decide +kernel) (by decide +kernel)
set_option maxRecDepth 20000 in
theorem gX7_acceptor_X7_isAcceptor : GoodIn wsX7_acceptor (wsV RX7 187 RX7 yX7_isAcceptor wsX7_isAcceptor) := goodIn_app (goodIn_of _ (by decide +kernel)) ggX7_acceptor_X7_isAcceptor
set_option maxRecDepth 20000 in
theorem ggX7_acceptor_X7_isManager : GoodIn wsX7_acceptor wsX7_isManager := goodIn_r _ [14, 15, 21, 22, 23, 24, 25, 26, 27, 28, 29, 30, 31, 32, 33, 34, 35, 36, 37, 38, 39, 40, 41, 42, 43, 44, 45, 46] (by decide +kernel) (by decide +kernel)
set_option maxRecDepth 20000 in
theorem gX7_acceptor_X7_isManager : GoodIn wsX7_acceptor (wsV RX7 89 RX7 yX7_isManager wsX7_isManager) := goodIn_app (goodIn_of _ (by decide +kernel)) ggX7_acceptor_X7_isManager
set_option maxRecDepth 20000 in
theorem ggX7_acceptor_X7_lacks : GoodIn wsX7_acceptor wsX7_lacks := goodIn_r _ [19, 20, 21, 22, 23, 24, 25, 26, 27, 28, 29, 30, 31, 32, 33, 34, 35, 36, 37, 38, 39, 40, 41, 42, 43, 44, 45, 46] (by decide +kernel) (by decide +kernel)
set_option maxRecDepth 20000 in
theorem gX7_acceptor_X7_lacks : GoodIn wsX7_acceptor (wsV RX7 93 RX7 yX7_lacks wsX7_lacks) := goodIn_app (goodIn_of _ (by decide +kernel)) ggX7_acceptor_X7_lacks
set_option maxRecDepth 20000 in
theorem ggX7_leader_X7_isLeader : GoodIn wsX7_leader wsX7_isLeader := goodIn_r _ [10] (by decide +kernel) (by decide +kernel)
set_option maxRecDepth 20000 in
theorem gX7_leader_X7_isLeader : GoodIn wsX7_leader (va_wsS RX7 108 yX7_isLeader wsX7_isLeader) := goodIn_app (goodIn_of _ (by decide +kernel)) ggX7_leader_X7_isLeader
set_option maxRecDepth 20000 in
theorem ggX7_leader_X7_lacks : GoodIn wsX7_leader wsX7_lacks := goodIn_r _ [14, 15, 19, 20, 21, 22, 23, 24, 25, 26, 27, 28, 29, 30, 31, 32, 33, 34, 35, 36, 37, 38, 39, 40, 41, 42, 43, 44] (by decide +kernel) (by decide +kernel)
set_option maxRecDepth 20000 in
theorem gX7_leader_X7_lacks : GoodIn wsX7_leader (wsV RX7 93 RX7 yX7_lacks wsX7_lacks) := goodIn_app (goodIn_of _ (by decide +kernel)) ggX7_leader_X7_lacks
set_option maxRecDepth 20000 in
theorem ggX7_leader_X7_bits : GoodIn wsX7_leader wsX7_bits := goodIn_r _ [18] (by decide +kernel) (by decide +kernel)
set_option maxRecDepth 20000 in
theorem gX7_leader_X7_bits : GoodIn wsX7_leader (va_wsS RX7 118 yX7_bits wsX7_bits) := goodIn_app (goodIn_of _ (by decide +kernel)) ggX7_leader_X7_bits
set_option maxRecDepth 20000 in
theorem ggX7_outcome_X7_isLeader : GoodIn wsX7_outcome wsX7_isLeader := goodIn_r _ [5] (by decide +kernel) (by decide +kernel)
set_option maxRecDepth 20000 in
theorem gX7_outcome_X7_isLeader : GoodIn wsX7_outcome (va_wsS RX7 108 yX7_isLeader wsX7_isLeader) := goodIn_app (goodIn_of _ (by decide +kernel)) ggX7_outcome_X7_isLeader
set_option maxRecDepth 20000 in
theorem ggX7_outcome_X7_isManager : GoodIn wsX7_outcome wsX7_isManager := goodIn_r _ [9, 10, 16, 17, 18, 19, 20, 21, 22, 23, 24, 25, 26, 27, 28, 29, 30, 31, 32, 33, 34, 35, 36, 37, 38, 39, 40, 41] (by decide +kernel) (by decide +kernel)
set_option maxRecDepth 20000 in
theorem gX7_outcome_X7_isManager : GoodIn wsX7_outcome (wsV RX7 89 RX7 yX7_isManager wsX7_isManager) := goodIn_app (goodIn_of _ (by decide +kernel)) ggX7_outcome_X7_isManager
set_option maxRecDepth 20000 in
theorem ggX7_outcome_X7_lacks : GoodIn wsX7_outcome wsX7_lacks := goodIn_r _ [14, 15, 16, 17, 18, 19, 20, 21, 22, 23, 24, 25, 26, 27, 28, 29, 30, 31, 32, 33, 34, 35, 36, 37, 38, 39, 40, 41] (by decide +kernel) (by decide +kernel)
set_option maxRecDepth 20000 in
theorem gX7_outcome_X7_lacks : GoodIn wsX7_outcome (wsV RX7 93 RX7 yX7_lacks wsX7_lacks) := goodIn_app (goodIn_of _ (by decide +kernel)) ggX7_outcome_X7_lacks
set_option maxRecDepth 20000 in
theorem ggX7_seen_X7_isLeader : GoodIn wsX7_seen wsX7_isLeader := goodIn_r _ [5] (by decide +kernel) (by decide +kernel)
set_option maxRecDepth 20000 in
theorem gX7_seen_X7_isLeader : GoodIn wsX7_seen (va_wsS RX7 108 yX7_isLeader wsX7_isLeader) := goodIn_app (goodIn_of _ (by decide +kernel)) ggX7_seen_X7_isLeader
set_option maxRecDepth 20000 in
theorem ggX7_seen_X7_isManager : GoodIn wsX7_seen wsX7_isManager := goodIn_r _ [9, 10, 25, 26, 27, 28, 29, 30, 31, 32, 33, 34, 35, 36, 37, 38, 39, 40, 41, 42, 43, 44, 45, 46, 47, 48, 49, 50] (by decide +kernel) (by decide +kernel)
set_option maxRecDepth 20000 in
theorem gX7_seen_X7_isManager : GoodIn wsX7_seen (wsV RX7 89 RX7 yX7_isManager wsX7_isManager) := goodIn_app (goodIn_of _ (by decide +kernel)) ggX7_seen_X7_isManager
set_option maxRecDepth 20000 in
theorem ggX7_seen_X7_isAcceptor : GoodIn wsX7_seen wsX7_isAcceptor := goodIn_r _ [14, 15, 25, 26, 27, 28, 29, 30, 31, 32, 33, 34, 35, 36, 37, 38, 39, 40, 41, 42, 43, 44, 45, 46, 47, 48, 49, 50] (by decide +kernel) (by decide +kernel)
set_option maxRecDepth 20000 in
theorem gX7_seen_X7_isAcceptor : GoodIn wsX7_seen (wsV RX7 187 RX7 yX7_isAcceptor wsX7_isAcceptor) := goodIn_app (goodIn_of _ (by decide +kernel)) ggX7_seen_X7_isAcceptor
set_option maxRecDepth 20000 in
theorem ggX7_seen_X7_lacks : GoodIn wsX7_seen wsX7_lacks := goodIn_r _ [19, 20, 25, 26, 27, 28, 29, 30, 31, 32, 33, 34, 35, 36, 37, 38, 39, 40, 41, 42, 43, 44, 45, 46, 47, 48, 49, 50] (by decide +kernel) (by decide +kernel)
set_option maxRecDepth 20000 in
theorem gX7_seen_X7_lacks : GoodIn wsX7_seen (wsV RX7 93 RX7 yX7_lacks wsX7_lacks) := goodIn_app (goodIn_of _ (by decide +kernel)) ggX7_seen_X7_lacks
set_option maxRecDepth 20000 in
theorem ggX7_seen_X7_seenAt : GoodIn wsX7_seen wsX7_seenAt := goodIn_r _ [24] (by decide +kernel) (by decide +kernel)
set_option maxRecDepth 20000 in
theorem gX7_seen_X7_seenAt : GoodIn wsX7_seen (wsV RX7 136 RX7 yX7_seenAt wsX7_seenAt) := goodIn_app (goodIn_of _ (by decide +kernel)) ggX7_seen_X7_seenAt
set_option maxRecDepth 20000 in
theorem ggX7_chosen_X7_isManager : GoodIn wsX7_chosen wsX7_isManager := goodIn_r _ [7, 8, 22, 23, 24, 25, 26, 27, 28, 29, 30, 31, 32, 33, 34, 35, 36, 37, 38, 39, 40, 41, 42, 43, 44, 45, 46, 47] (by decide +kernel) (by decide +kernel)
set_option maxRecDepth 20000 in
theorem gX7_chosen_X7_isManager : GoodIn wsX7_chosen (wsV RX7 89 RX7 yX7_isManager wsX7_isManager) := goodIn_app (goodIn_of _ (by decide +kernel)) ggX7_chosen_X7_isManager
set_option maxRecDepth 20000 in
theorem ggX7_chosen_X7_lacks : GoodIn wsX7_chosen wsX7_lacks := goodIn_r _ [12, 13, 22, 23, 24, 25, 26, 27, 28, 29, 30, 31, 32, 33, 34, 35, 36, 37, 38, 39, 40, 41, 42, 43, 44, 45, 46, 47] (by decide +kernel) (by decide +kernel)
set_option maxRecDepth 20000 in
theorem gX7_chosen_X7_lacks : GoodIn wsX7_chosen (wsV RX7 93 RX7 yX7_lacks wsX7_lacks) := goodIn_app (goodIn_of _ (by decide +kernel)) ggX7_chosen_X7_lacks
set_option maxRecDepth 20000 in
theorem ggX7_chosen_X7_bits : GoodIn wsX7_chosen wsX7_bits := goodIn_r _ [16] (by decide +kernel) (by decide +kernel)
set_option maxRecDepth 20000 in
theorem gX7_chosen_X7_bits : GoodIn wsX7_chosen (va_wsS RX7 118 yX7_bits wsX7_bits) := goodIn_app (goodIn_of _ (by decide +kernel)) ggX7_chosen_X7_bits
set_option maxRecDepth 20000 in
theorem ggX7_chosen_X7_isMost : GoodIn wsX7_chosen wsX7_isMost := goodIn_r _ [20, 21, 22, 23, 24, 25, 26, 27, 28, 29, 30, 31, 32, 33, 34, 35, 36, 37, 38, 39, 40, 41, 42, 43, 44, 45, 46, 47] (by decide +kernel) (by decide +kernel)
set_option maxRecDepth 20000 in
theorem gX7_chosen_X7_isMost : GoodIn wsX7_chosen (wsV RX7 122 RX7 yX7_isMost wsX7_isMost) := goodIn_app (goodIn_of _ (by decide +kernel)) ggX7_chosen_X7_isMost
set_option maxRecDepth 20000 in
theorem ggX7_count_X7_manyOf : GoodIn wsX7_count wsX7_manyOf := goodIn_r _ [14, 2, 3, 15, 16, 17, 18, 19, 20, 21, 22, 23, 24, 25, 26, 27, 28, 29, 30, 31, 32, 33, 34, 35, 36, 37, 38, 39, 40] (by decide +kernel) (by decide +kernel)
set_option maxRecDepth 20000 in
theorem gX7_count_X7_manyOf : GoodIn wsX7_count (wsV RX7 180 RX7 yX7_manyOf wsX7_manyOf) := goodIn_app (goodIn_of _ (by decide +kernel)) ggX7_count_X7_manyOf
set_option maxRecDepth 20000 in
theorem ggL_prepare_X6_prepare : GoodIn wsL_prepare wsX6_prepare := goodIn_ca (goodIn_r _ [6, 7, 8, 9, 5, 10, 11, 12, 13, 14, 15, 16, 17, 18, 19, 20, 21, 22, 23, 24, 25, 26, 27, 28, 29, 30, 31, 32, 33, 34, 35, 36, 37, 38, 39, 40, 41, 42, 43, 44, 45, 46, 47, 48, 49, 50, 51, 52, 53, 54, 55, 56, 57, 58, 59, 60, 61, 62, 63, 64, 65, 66] (by decide +kernel) (by decide +kernel)) (goodIn_sub (fun _ h => List.mem_cons_of_mem _ (List.mem_append_right _ h)) (by decide +kernel))
set_option maxRecDepth 20000 in
theorem gL_prepare_X6_prepare : GoodIn wsL_prepare (wsV RL 7 RX6 yX6_prepare wsX6_prepare) := goodIn_app (goodIn_of _ (by decide +kernel)) ggL_prepare_X6_prepare
set_option maxRecDepth 20000 in
theorem ggL_refuse_X6_refuse : GoodIn wsL_refuse wsX6_refuse := goodIn_ca (goodIn_r _ [6, 7, 8, 9, 5, 10, 11, 12, 13, 14, 15, 16, 17, 18, 19, 20, 21, 22, 23, 24, 25, 26, 27, 28, 29, 30, 31, 32, 33, 34, 35, 36, 37, 38, 39, 40, 41, 42, 43, 44, 45, 46, 47, 48, 49, 50, 51, 52, 53, 54, 55, 56, 57, 58, 59, 60, 61, 62, 63, 64, 65, 66] (by decide +kernel) (by decide +kernel)) (goodIn_sub (fun _ h => List.mem_cons_of_mem _ (List.mem_append_right _ h)) (by decide +kernel))
set_option maxRecDepth 20000 in
theorem gL_refuse_X6_refuse : GoodIn wsL_refuse (wsV RL 15 RX6 yX6_refuse wsX6_refuse) := goodIn_app (goodIn_of _ (by decide +kernel)) ggL_refuse_X6_refuse
set_option maxRecDepth 20000 in
theorem ggL_resend_X6_resend : GoodIn wsL_resend wsX6_resend := goodIn_ca (goodIn_r _ [6, 7, 8, 9, 10, 11, 12, 13, 14, 15, 5, 16, 17, 18, 19, 20, 21, 22, 23, 24, 25, 26, 27, 28, 29, 30, 31, 32, 33, 34, 35, 36, 37, 38, 39, 40, 41, 42, 43, 44, 45, 46, 47, 48, 49, 50, 51, 52, 53, 54, 55, 56, 57, 58, 59, 60, 61, 62] (by decide +kernel) (by decide +kernel)) (goodIn_sub (fun _ h => List.mem_cons_of_mem _ (List.mem_append_right _ h)) (by decide +kernel))
set_option maxRecDepth 20000 in
theorem gL_resend_X6_resend : GoodIn wsL_resend (wsV RL 18 RX6 yX6_resend wsX6_resend) := goodIn_app (goodIn_of _ (by decide +kernel)) ggL_resend_X6_resend
set_option maxRecDepth 20000 in
theorem ggL_question_X6_question : GoodIn wsL_question wsX6_question := goodIn_ca (goodIn_r _ [6, 7, 8, 9, 10, 11, 12, 5, 13, 14, 15, 16, 17, 18, 19, 20, 21, 22, 23, 24, 25, 26, 27, 28, 29, 30, 31, 32, 33, 34, 35, 36, 37, 38, 39, 40, 41, 42, 43, 44, 45, 46, 47, 48, 49, 50, 51, 52, 53, 54, 55] (by decide +kernel) (by decide +kernel)) (goodIn_sub (fun _ h => List.mem_cons_of_mem _ (List.mem_append_right _ h)) (by decide +kernel))
set_option maxRecDepth 20000 in
theorem gL_question_X6_question : GoodIn wsL_question (wsV RL 21 RX6 yX6_question wsX6_question) := goodIn_app (goodIn_of _ (by decide +kernel)) ggL_question_X6_question
set_option maxRecDepth 20000 in
theorem ggL_begin_X6_begin : GoodIn wsL_begin wsX6_begin := goodIn_ca (goodIn_r _ [6, 7, 8, 9, 10, 11, 12, 13, 14, 15, 16, 17, 5, 18, 19, 20, 21, 22, 23, 24, 25, 26, 27, 28, 29, 30, 31, 32, 33, 34, 35, 36, 37, 38, 39, 40, 41, 42, 43, 44, 45, 46, 47, 48, 49, 50, 51, 52, 53, 54, 55, 56, 57, 58, 59, 60, 61, 62, 63, 64, 65, 66, 67, 68, 69, 70, 71, 72, 73, 74, 75, 76, 77, 78, 79, 80, 81] (by decide +kernel) (by decide +kernel)) (goodIn_sub (fun _ h => List.mem_cons_of_mem _ (List.mem_append_right _ h)) (by decide +kernel))
set_option maxRecDepth 20000 in
theorem gL_begin_X6_begin : GoodIn wsL_begin (wsV RL 24 RX6 yX6_begin wsX6_begin) := goodIn_app (goodIn_of _ (by decide +kernel)) ggL_begin_X6_begin
set_option maxRecDepth 20000 in
theorem ggL_deliver_X6_deliver : GoodIn wsL_deliver wsX6_deliver := goodIn_ca (goodIn_r _ [6, 7, 8, 9, 10, 5, 11, 12, 13, 14, 15, 16, 17, 18, 19, 20, 21, 22, 23, 24, 25, 26, 27, 28, 29, 30, 31, 32, 33, 34, 35, 36, 37, 38, 39, 40, 41, 42, 43, 44, 45, 46, 47, 48, 49, 50, 51, 52, 53, 54, 55, 56, 57, 58, 59, 60, 61, 62, 63, 64, 65, 66, 67, 68, 69, 70, 71, 72, 73, 74, 75, 76, 77, 78, 79, 80, 81, 82, 83, 84, 85, 86, 87, 88, 89, 90, 91, 92, 93, 94, 95, 96, 97, 98, 99, 100, 101, 102, 103, 104, 105, 106, 107, 108, 109, 110, 111, 112, 113, 114, 115, 116, 117, 118, 119, 120, 121, 122, 123, 124, 125, 126, 127, 128, 129, 130, 131, 132, 133, 134, 135, 136, 137, 138, 139, 140, 141, 142, 143, 144, 145, 146, 147, 148, 149, 150, 151, 152, 153, 154, 155, 156, 157, 158, 159, 160, 161, 162, 163, 164, 165, 166, 167, 168, 169, 170, 171, 172, 173, 174, 175, 176, 177, 178, 179, 180, 181, 182, 183, 184, 185, 186, 187, 188, 189, 190, 191, 192, 193, 194, 195, 196, 197, 198, 199, 200, 201, 202, 203, 204, 205, 206, 207, 208, 209, 210, 211, 212, 213, 214, 215, 216, 217, 218, 219, 220, 221] (by decide +kernel) (by decide +kernel)) (goodIn_sub (fun _ h => List.mem_cons_of_mem _ (List.mem_append_right _ h)) (by decide +kernel))
set_option maxRecDepth 20000 in
theorem gL_deliver_X6_deliver : GoodIn wsL_deliver (wsV RL 28 RX6 yX6_deliver wsX6_deliver) := goodIn_app (goodIn_of _ (by decide +kernel)) ggL_deliver_X6_deliver
set_option maxRecDepth 20000 in
theorem ggL_drop_X6_drop : GoodIn wsL_drop wsX6_drop := goodIn_ca (goodIn_r _ [6, 7, 8, 9, 10, 5, 11, 12, 13, 14, 15, 16, 17, 18, 19, 20, 21, 22, 23, 24, 25, 26, 27, 28, 29, 30, 31, 32, 33, 34, 35, 36] (by decide +kernel) (by decide +kernel)) (goodIn_sub (fun _ h => List.mem_cons_of_mem _ (List.mem_append_right _ h)) (by decide +kernel))
set_option maxRecDepth 20000 in
theorem gL_drop_X6_drop : GoodIn wsL_drop (wsV RL 31 RX6 yX6_drop wsX6_drop) := goodIn_app (goodIn_of _ (by decide +kernel)) ggL_drop_X6_drop
set_option maxRecDepth 20000 in
theorem ggL_copy_X6_copy : GoodIn wsL_copy wsX6_copy := goodIn_ca (goodIn_r _ [6, 7, 8, 9, 10, 5, 11, 12, 13, 14, 15, 16, 17, 18, 19, 20, 21, 22, 23, 24, 25, 26, 27, 28, 29, 30, 31, 32, 33, 34, 35, 36, 37, 38, 39, 40, 41] (by decide +kernel) (by decide +kernel)) (goodIn_sub (fun _ h => List.mem_cons_of_mem _ (List.mem_append_right _ h)) (by decide +kernel))
set_option maxRecDepth 20000 in
theorem gL_copy_X6_copy : GoodIn wsL_copy (wsV RL 35 RX6 yX6_copy wsX6_copy) := goodIn_app (goodIn_of _ (by decide +kernel)) ggL_copy_X6_copy
set_option maxRecDepth 20000 in
theorem ggL_calm_X6_calm : GoodIn wsL_calm wsX6_calm := goodIn_ca (goodIn_r _ [6, 7, 8, 9, 10, 11, 12, 13, 5, 14, 15, 16, 17, 18, 19, 20, 21, 22, 23, 24, 25, 26, 27, 28, 29, 30, 31, 32, 33, 34, 35, 36, 37, 38, 39, 40, 41, 42, 43, 44, 45, 46, 47, 48, 49, 50, 51, 52, 53, 54, 55, 56, 57, 58, 59, 60, 61, 62, 63, 64, 65, 66, 67, 68, 69, 70, 71, 72, 73, 74, 75, 76, 77, 78, 79, 80, 81, 82, 83, 84, 85, 86, 87, 88, 89, 90, 91, 92, 93, 94, 95, 96, 97, 98, 99, 100, 101, 102, 103, 104, 105, 106, 107, 108, 109, 110, 111, 112, 113, 114, 115, 116, 117, 118, 119, 120, 121, 122, 123, 124, 125, 126, 127, 128, 129, 130, 131, 132, 133, 134, 135, 136, 137, 138, 139, 140, 141, 142, 143, 144, 145, 146, 147, 148, 149, 150, 151, 152, 153, 154, 155, 156, 157, 158, 159, 160, 161, 162, 163, 164, 165, 166, 167, 168, 169, 170, 171, 172, 173, 174, 175, 176, 177, 178, 179, 180, 181, 182, 183, 184, 185, 186, 187, 188, 189, 190, 191, 192, 193, 194, 195, 196, 197, 198, 199, 200, 201, 202, 203, 204, 205, 206, 207, 208, 209, 210, 211, 212, 213, 214, 215, 216, 217, 218] (by decide +kernel) (by decide +kernel)) (goodIn_sub (fun _ h => List.mem_cons_of_mem _ (List.mem_append_right _ h)) (by decide +kernel))
set_option maxRecDepth 20000 in
theorem gL_calm_X6_calm : GoodIn wsL_calm (wsV RL 38 RX6 yX6_calm wsX6_calm) := goodIn_app (goodIn_of _ (by decide +kernel)) ggL_calm_X6_calm
set_option maxRecDepth 20000 in
theorem ggL_crash_X6_crash : GoodIn wsL_crash wsX6_crash := goodIn_ca (goodIn_ca (goodIn_r _ [7, 8, 9, 10, 11, 6, 12, 13, 14, 15, 16, 17, 18, 19, 20, 21, 22, 23, 24, 25, 26, 27, 28, 29, 30, 31, 32, 33, 34, 35, 36, 37, 38, 39, 40, 41, 42, 43, 44, 45, 46, 47, 48, 49, 50, 51, 52, 53, 54, 55, 56, 57, 58, 59, 60, 61, 62, 63, 64, 65, 66, 67] (by decide +kernel) (by decide +kernel)) (goodIn_sub (fun _ h => List.mem_cons_of_mem _ (List.mem_append_left _ (List.mem_append_right _ h))) (by decide +kernel))) (goodIn_sub (fun _ h => List.mem_cons_of_mem _ (List.mem_append_right _ h)) (by decide +kernel))
set_option maxRecDepth 20000 in
theorem gL_crash_X6_crash : GoodIn wsL_crash (wsV RL 43 RX6 yX6_crash wsX6_crash) := goodIn_app (goodIn_of _ (by decide +kernel)) ggL_crash_X6_crash
set_option maxRecDepth 20000 in
theorem ggL_recover_X6_recover : GoodIn wsL_recover wsX6_recover := goodIn_ca (goodIn_ca (goodIn_r _ [7, 8, 9, 10, 11, 6, 12, 13, 14, 15, 16, 17, 18, 19, 20, 21, 22, 23, 24, 25, 26, 27, 28, 29, 30, 31, 32, 33, 34, 35, 36, 37, 38, 39, 40, 41, 42, 43, 44, 45] (by decide +kernel) (by decide +kernel)) (goodIn_sub (fun _ h => List.mem_cons_of_mem _ (List.mem_append_left _ (List.mem_append_right _ h))) (by decide +kernel))) (goodIn_sub (fun _ h => List.mem_cons_of_mem _ (List.mem_append_right _ h)) (by decide +kernel))
set_option maxRecDepth 20000 in
theorem gL_recover_X6_recover : GoodIn wsL_recover (wsV RL 47 RX6 yX6_recover wsX6_recover) := goodIn_app (goodIn_of _ (by decide +kernel)) ggL_recover_X6_recover
set_option maxRecDepth 20000 in
theorem ggL_message_X6_message : GoodIn wsL_message wsX6_message := goodIn_ca (goodIn_r _ [6, 7, 8, 9, 10, 5, 11, 12, 13, 14, 15, 16, 17, 18, 19, 20, 21, 22, 23, 24, 25, 26, 27, 28, 29, 30, 31, 32] (by decide +kernel) (by decide +kernel)) (goodIn_sub (fun _ h => List.mem_cons_of_mem _ (List.mem_append_right _ h)) (by decide +kernel))
set_option maxRecDepth 20000 in
theorem gL_message_X6_message : GoodIn wsL_message (wsV RL 50 RX6 yX6_message wsX6_message) := goodIn_app (goodIn_of _ (by decide +kernel)) ggL_message_X6_message
set_option maxRecDepth 20000 in
theorem ggL_told_X6_told : GoodIn wsL_told wsX6_told := goodIn_ca (goodIn_r _ [6, 7, 8, 9, 10, 11, 5, 12, 13, 14, 15, 16, 17, 18, 19, 20, 21, 22, 23, 24, 25, 26, 27, 28, 29, 30, 31, 32, 33, 34, 35, 36, 37, 38, 39, 40, 41, 42, 43] (by decide +kernel) (by decide +kernel)) (goodIn_sub (fun _ h => List.mem_cons_of_mem _ (List.mem_append_right _ h)) (by decide +kernel))
set_option maxRecDepth 20000 in
theorem gL_told_X6_told : GoodIn wsL_told (wsV RL 54 RX6 yX6_told wsX6_told) := goodIn_app (goodIn_of _ (by decide +kernel)) ggL_told_X6_told
set_option maxRecDepth 20000 in
theorem ggL_manager_X6_manager : GoodIn wsL_manager wsX6_manager := goodIn_ca (goodIn_r _ [6, 7, 8, 9, 10, 11, 12, 5, 13, 14, 15, 16, 17, 18, 19, 20, 21, 22, 23, 24, 25, 26, 27, 28, 29, 30, 31, 32, 33, 34, 35, 36, 37, 38] (by decide +kernel) (by decide +kernel)) (goodIn_sub (fun _ h => List.mem_cons_of_mem _ (List.mem_append_right _ h)) (by decide +kernel))
set_option maxRecDepth 20000 in
theorem gL_manager_X6_manager : GoodIn wsL_manager (wsV RL 58 RX6 yX6_manager wsX6_manager) := goodIn_app (goodIn_of _ (by decide +kernel)) ggL_manager_X6_manager
set_option maxRecDepth 20000 in
theorem ggL_acceptor_X6_acceptor : GoodIn wsL_acceptor wsX6_acceptor := goodIn_ca (goodIn_r _ [6, 7, 8, 9, 10, 11, 12, 13, 14, 5, 15, 16, 17, 18, 19, 20, 21, 22, 23, 24, 25, 26, 27, 28, 29, 30, 31, 32, 33, 34, 35, 36, 37, 38, 39, 40, 41, 42, 43, 44, 45, 46] (by decide +kernel) (by decide +kernel)) (goodIn_sub (fun _ h => List.mem_cons_of_mem _ (List.mem_append_right _ h)) (by decide +kernel))
set_option maxRecDepth 20000 in
theorem gL_acceptor_X6_acceptor : GoodIn wsL_acceptor (wsV RL 61 RX6 yX6_acceptor wsX6_acceptor) := goodIn_app (goodIn_of _ (by decide +kernel)) ggL_acceptor_X6_acceptor
set_option maxRecDepth 20000 in
theorem ggL_leader_X6_leader : GoodIn wsL_leader wsX6_leader := goodIn_ca (goodIn_r _ [6, 7, 8, 9, 10, 11, 12, 13, 14, 15, 16, 5, 17, 18, 19, 20, 21, 22, 23, 24, 25, 26, 27, 28, 29, 30, 31, 32, 33, 34, 35, 36, 37, 38, 39, 40, 41, 42, 43, 44, 45, 46, 47, 48, 49] (by decide +kernel) (by decide +kernel)) (goodIn_sub (fun _ h => List.mem_cons_of_mem _ (List.mem_append_right _ h)) (by decide +kernel))
set_option maxRecDepth 20000 in
theorem gL_leader_X6_leader : GoodIn wsL_leader (wsV RL 65 RX6 yX6_leader wsX6_leader) := goodIn_app (goodIn_of _ (by decide +kernel)) ggL_leader_X6_leader
set_option maxRecDepth 20000 in
theorem ggL_outcome_X6_outcome : GoodIn wsL_outcome wsX6_outcome := goodIn_ca (goodIn_r _ [6, 7, 8, 9, 10, 11, 5, 12, 13, 14, 15, 16, 17, 18, 19, 20, 21, 22, 23, 24, 25, 26, 27, 28, 29, 30, 31] (by decide +kernel) (by decide +kernel)) (goodIn_sub (fun _ h => List.mem_cons_of_mem _ (List.mem_append_right _ h)) (by decide +kernel))
set_option maxRecDepth 20000 in
theorem gL_outcome_X6_outcome : GoodIn wsL_outcome (wsV RL 68 RX6 yX6_outcome wsX6_outcome) := goodIn_app (goodIn_of _ (by decide +kernel)) ggL_outcome_X6_outcome
set_option maxRecDepth 20000 in
theorem ggL_seen_X6_seen : GoodIn wsL_seen wsX6_seen := goodIn_ca (goodIn_r _ [6, 7, 8, 9, 10, 11, 5, 12, 13, 14, 15, 16, 17, 18, 19, 20, 21, 22, 23, 24, 25, 26, 27, 28, 29, 30, 31, 32, 33, 34, 35, 36, 37, 38, 39, 40, 41] (by decide +kernel) (by decide +kernel)) (goodIn_sub (fun _ h => List.mem_cons_of_mem _ (List.mem_append_right _ h)) (by decide +kernel))
set_option maxRecDepth 20000 in
theorem gL_seen_X6_seen : GoodIn wsL_seen (wsV RL 71 RX6 yX6_seen wsX6_seen) := goodIn_app (goodIn_of _ (by decide +kernel)) ggL_seen_X6_seen
set_option maxRecDepth 20000 in
theorem ggL_chosen_X6_chosen : GoodIn wsL_chosen wsX6_chosen := goodIn_ca (goodIn_r _ [6, 7, 8, 9, 10, 11, 5, 12, 13, 14, 15, 16, 17, 18, 19, 20, 21, 22, 23, 24, 25] (by decide +kernel) (by decide +kernel)) (goodIn_sub (fun _ h => List.mem_cons_of_mem _ (List.mem_append_right _ h)) (by decide +kernel))
set_option maxRecDepth 20000 in
theorem gL_chosen_X6_chosen : GoodIn wsL_chosen (wsV RL 74 RX6 yX6_chosen wsX6_chosen) := goodIn_app (goodIn_of _ (by decide +kernel)) ggL_chosen_X6_chosen
set_option maxRecDepth 20000 in
theorem ggL_law_L_cell : GoodIn wsL_law wsL_cell := goodIn_r _ [10] (by decide +kernel) (by decide +kernel)
set_option maxRecDepth 20000 in
theorem gL_law_L_cell : GoodIn wsL_law (va_wsS RL 77 yL_cell wsL_cell) := goodIn_app (goodIn_of _ (by decide +kernel)) ggL_law_L_cell
set_option maxRecDepth 20000 in
theorem ggL_law_X6_init : GoodIn wsL_law wsX6_init := goodIn_r _ [13, 14, 15, 16, 17, 18, 19, 20, 21, 22, 23, 24, 25, 26, 27, 28, 29, 30, 31, 32, 33, 34, 35, 36, 37, 38, 39, 40, 41, 42, 43, 44, 45, 46, 47, 48, 49, 50, 51, 52, 53, 54, 55, 56, 57, 58, 59, 60, 61, 62, 63, 64, 65, 66, 67, 68, 69, 70, 71, 664, 665, 666, 667, 668, 669, 670, 697, 698, 699, 700, 701, 702, 703, 704, 705, 706, 707, 708, 709, 710, 711, 712, 713, 714, 715, 716, 717, 718, 719, 720] (by decide +kernel) (by decide +kernel)
set_option maxRecDepth 20000 in
theorem gL_law_X6_init : GoodIn wsL_law (wsX6_init) := ggL_law_X6_init
set_option maxRecDepth 20000 in
theorem ggL_law_X7_init : GoodIn wsL_law wsX7_init := goodIn_r _ [74, 75, 15, 16, 48, 76, 77, 78, 79, 69, 80, 81, 82, 83, 84, 85, 86, 87, 88, 89, 90, 91, 92, 93, 94, 95, 96, 97, 671, 672, 673, 674, 675, 676, 677, 678, 679, 680, 681, 682, 683, 684, 685, 686, 687, 688, 689, 690, 691, 692, 693, 694, 695, 696] (by decide +kernel) (by decide +kernel)
set_option maxRecDepth 20000 in
theorem gL_law_X7_init : GoodIn wsL_law (wsX7_init) := ggL_law_X7_init
set_option maxRecDepth 20000 in
theorem ggL_law_L_prepare : GoodIn wsL_law wsL_prepare := goodIn_ca (goodIn_r _ [100, 101, 102, 103, 104, 2, 105, 18, 106, 107, 108, 109, 110, 111, 112, 113, 114, 115, 116, 117, 32, 22, 118, 119, 120, 121, 31, 122, 123, 124, 125, 126, 127, 128, 129, 130, 131, 61, 62, 132, 664, 665, 666, 667, 668, 669, 670, 700, 701, 702, 703, 704, 705, 706, 707, 708, 709, 710, 711, 712, 697, 698, 699, 713, 714, 715, 716] (by decide +kernel) (by decide +kernel)) (goodIn_sub (fun _ h => List.mem_append_left _ (List.mem_append_right _ h)) (by decide +kernel))
set_option maxRecDepth 20000 in
theorem gL_law_L_prepare : GoodIn wsL_law (va_wsS RL 89 yL_prepare wsL_prepare) := goodIn_app (goodIn_of _ (by decide +kernel)) ggL_law_L_prepare
set_option maxRecDepth 20000 in
theorem ggL_law_X7_prepare : GoodIn wsL_law wsX7_prepare := goodIn_r _ [136, 137, 138, 139, 5, 140, 80, 78, 97, 141, 142, 143, 144, 96, 145, 146, 147, 148, 149, 150, 151, 152, 153, 154, 155, 156, 157, 158, 159, 160, 161, 162, 76, 163, 671, 672, 673, 674, 675, 676, 677, 678, 679, 680, 681, 682, 683, 684, 685, 686, 687, 688, 689, 690, 691, 692, 693, 694, 695, 696] (by decide +kernel) (by decide +kernel)
set_option maxRecDepth 20000 in
theorem gL_law_X7_prepare : GoodIn wsL_law (wsV RL 92 RX7 yX7_prepare wsX7_prepare) := goodIn_app (goodIn_of _ (by decide +kernel)) ggL_law_X7_prepare
set_option maxRecDepth 20000 in
theorem ggL_law_X7_thrown : GoodIn wsL_law wsX7_thrown := goodIn_r _ [167, 149, 671, 672, 673, 674, 675, 676, 677, 678, 679, 680, 681, 682, 683, 684, 685, 686, 687, 688, 689, 690, 691, 692, 693, 694, 695, 696] (by decide +kernel) (by decide +kernel)
set_option maxRecDepth 20000 in
theorem gL_law_X7_thrown : GoodIn wsL_law (wsV RL 93 RX7 yX7_thrown wsX7_thrown) := goodIn_app (goodIn_of _ (by decide +kernel)) ggL_law_X7_thrown
set_option maxRecDepth 20000 in
theorem ggL_law_L_refuse : GoodIn wsL_law wsL_refuse := goodIn_ca (goodIn_r _ [170, 101, 171, 172, 173, 2, 174, 18, 106, 107, 108, 109, 110, 111, 112, 113, 114, 115, 116, 117, 32, 22, 118, 119, 120, 121, 31, 122, 123, 124, 125, 126, 127, 128, 129, 130, 131, 61, 62, 132, 664, 665, 666, 667, 668, 669, 670, 700, 701, 702, 703, 704, 705, 706, 707, 708, 709, 710, 711, 712, 697, 698, 699, 713, 714, 715, 716] (by decide +kernel) (by decide +kernel)) (goodIn_sub (fun _ h => List.mem_append_left _ (List.mem_append_right _ h)) (by decide +kernel))
set_option maxRecDepth 20000 in
theorem gL_law_L_refuse : GoodIn wsL_law (va_wsS RL 97 yL_refuse wsL_refuse) := goodIn_app (goodIn_of _ (by decide +kernel)) ggL_law_L_refuse
set_option maxRecDepth 20000 in
theorem ggL_law_X7_refuse : GoodIn wsL_law wsX7_refuse := goodIn_r _ [178, 137, 138, 139, 5, 140, 80, 78, 97, 141, 142, 143, 144, 96, 145, 146, 147, 148, 149, 150, 151, 152, 153, 154, 155, 156, 157, 158, 159, 160, 161, 162, 76, 163, 671, 672, 673, 674, 675, 676, 677, 678, 679, 680, 681, 682, 683, 684, 685, 686, 687, 688, 689, 690, 691, 692, 693, 694, 695, 696] (by decide +kernel) (by decide +kernel)
set_option maxRecDepth 20000 in
theorem gL_law_X7_refuse : GoodIn wsL_law (wsV RL 99 RX7 yX7_refuse wsX7_refuse) := goodIn_app (goodIn_of _ (by decide +kernel)) ggL_law_X7_refuse
set_option maxRecDepth 20000 in
theorem ggL_law_L_resend : GoodIn wsL_law wsL_resend := goodIn_ca (goodIn_r _ [181, 101, 182, 183, 184, 2, 185, 18, 117, 115, 116, 32, 22, 118, 106, 107, 108, 109, 110, 119, 120, 121, 31, 122, 123, 124, 125, 126, 127, 128, 129, 130, 131, 61, 62, 132, 664, 665, 666, 667, 668, 669, 670, 697, 698, 699, 700, 701, 702, 703, 704, 705, 706, 707, 708, 709, 710, 711, 712, 713, 714, 715, 716] (by decide +kernel) (by decide +kernel)) (goodIn_sub (fun _ h => List.mem_append_left _ (List.mem_append_right _ h)) (by decide +kernel))
set_option maxRecDepth 20000 in
theorem gL_law_L_resend : GoodIn wsL_law (va_wsS RL 100 yL_resend wsL_resend) := goodIn_app (goodIn_of _ (by decide +kernel)) ggL_law_L_resend
set_option maxRecDepth 20000 in
theorem ggL_law_X7_resend : GoodIn wsL_law wsX7_resend := goodIn_r _ [189, 80, 78, 97, 141, 142, 143, 5, 144, 96, 145, 146, 147, 148, 149, 150, 151, 152, 153, 154, 155, 156, 157, 158, 159, 160, 161, 162, 76, 163, 671, 672, 673, 674, 675, 676, 677, 678, 679, 680, 681, 682, 683, 684, 685, 686, 687, 688, 689, 690, 691, 692, 693, 694, 695, 696] (by decide +kernel) (by decide +kernel)
set_option maxRecDepth 20000 in
theorem gL_law_X7_resend : GoodIn wsL_law (wsV RL 102 RX7 yX7_resend wsX7_resend) := goodIn_app (goodIn_of _ (by decide +kernel)) ggL_law_X7_resend
set_option maxRecDepth 20000 in
theorem ggL_law_L_question : GoodIn wsL_law wsL_question := goodIn_ca (goodIn_r _ [192, 101, 193, 194, 195, 2, 196, 18, 115, 116, 32, 106, 107, 108, 109, 110, 119, 120, 121, 31, 122, 123, 128, 129, 130, 131, 61, 62, 132, 664, 665, 666, 667, 668, 669, 670, 700, 701, 702, 703, 704, 705, 706, 707, 708, 709, 710, 711, 712, 697, 698, 699, 713, 714, 715, 716] (by decide +kernel) (by decide +kernel)) (goodIn_sub (fun _ h => List.mem_append_left _ (List.mem_append_right _ h)) (by decide +kernel))
set_option maxRecDepth 20000 in
theorem gL_law_L_question : GoodIn wsL_law (va_wsS RL 103 yL_question wsL_question) := goodIn_app (goodIn_of _ (by decide +kernel)) ggL_law_L_question
set_option maxRecDepth 20000 in
theorem ggL_law_X7_question : GoodIn wsL_law wsX7_question := goodIn_r _ [200, 80, 141, 142, 143, 5, 144, 96, 145, 146, 147, 148, 149, 150, 151, 152, 153, 154, 159, 160, 161, 162, 76, 163, 671, 672, 673, 674, 675, 676, 677, 678, 679, 680, 681, 682, 683, 684, 685, 686, 687, 688, 689, 690, 691, 692, 693, 694, 695, 696] (by decide +kernel) (by decide +kernel)
set_option maxRecDepth 20000 in
theorem gL_law_X7_question : GoodIn wsL_law (wsV RL 105 RX7 yX7_question wsX7_question) := goodIn_app (goodIn_of _ (by decide +kernel)) ggL_law_X7_question
set_option maxRecDepth 20000 in
theorem ggL_law_L_begin : GoodIn wsL_law wsL_begin := goodIn_ca (goodIn_r _ [203, 101, 204, 205, 206, 2, 207, 26, 208, 22, 209, 18, 210, 211, 32, 212, 106, 107, 108, 109, 110, 213, 214, 215, 119, 120, 121, 31, 122, 123, 216, 217, 218, 28, 219, 220, 221, 222, 223, 54, 224, 225, 226, 227, 128, 129, 130, 131, 61, 62, 132, 228, 229, 230, 231, 664, 665, 666, 667, 668, 669, 670, 703, 704, 705, 706, 707, 708, 709, 710, 711, 712, 700, 701, 702, 697, 698, 699, 713, 714, 715, 716] (by decide +kernel) (by decide +kernel)) (goodIn_sub (fun _ h => List.mem_append_left _ (List.mem_append_right _ h)) (by decide +kernel))
set_option maxRecDepth 20000 in
theorem gL_law_L_begin : GoodIn wsL_law (va_wsS RL 106 yL_begin wsL_begin) := goodIn_app (goodIn_of _ (by decide +kernel)) ggL_law_L_begin
set_option maxRecDepth 20000 in
theorem ggL_law_X7_begin : GoodIn wsL_law wsX7_begin := goodIn_r _ [235, 80, 97, 89, 96, 88, 86, 87, 90, 236, 237, 238, 5, 239, 145, 146, 147, 148, 149, 150, 151, 152, 153, 154, 159, 160, 161, 162, 76, 163, 671, 672, 673, 674, 675, 676, 677, 678, 679, 680, 681, 682, 683, 684, 685, 686, 687, 688, 689, 690, 691, 692, 693, 694, 695, 696] (by decide +kernel) (by decide +kernel)
set_option maxRecDepth 20000 in
theorem gL_law_X7_begin : GoodIn wsL_law (wsV RL 108 RX7 yX7_begin wsX7_begin) := goodIn_app (goodIn_of _ (by decide +kernel)) ggL_law_X7_begin
set_option maxRecDepth 20000 in
theorem ggL_law_L_deliver : GoodIn wsL_law wsL_deliver := goodIn_ca (goodIn_r _ [242, 101, 243, 244, 245, 2, 246, 32, 247, 106, 107, 108, 109, 110, 248, 249, 250, 251, 252, 253, 254, 255, 31, 256, 123, 62, 61, 257, 258, 259, 260, 22, 261, 262, 26, 210, 211, 18, 115, 116, 263, 264, 265, 266, 267, 209, 268, 269, 270, 271, 272, 273, 28, 274, 275, 55, 276, 277, 278, 279, 53, 280, 281, 282, 283, 284, 285, 56, 286, 287, 288, 289, 290, 291, 222, 220, 223, 292, 293, 294, 295, 296, 297, 298, 299, 300, 301, 302, 119, 120, 121, 122, 303, 304, 305, 306, 117, 307, 308, 309, 310, 36, 311, 312, 313, 24, 314, 315, 49, 316, 317, 318, 35, 319, 68, 71, 67, 70, 320, 128, 129, 130, 131, 132, 321, 322, 323, 324, 208, 325, 326, 327, 328, 329, 330, 331, 332, 333, 228, 229, 230, 231, 334, 335, 336, 337, 338, 339, 340, 341, 342, 343, 344, 345, 346, 347, 348, 349, 350, 351, 352, 353, 354, 355, 356, 357, 358, 359, 360, 361, 362, 363, 364, 365, 366, 367, 368, 369, 370, 124, 125, 126, 127, 371, 372, 373, 374, 375, 376, 377, 378, 664, 665, 666, 667, 668, 669, 670, 713, 714, 715, 716, 700, 701, 702, 703, 704, 705, 706, 707, 708, 709, 710, 711, 712, 697, 698, 699, 717, 718, 719, 720] (by decide +kernel) (by decide +kernel)) (goodIn_sub (fun _ h => List.mem_append_left _ (List.mem_append_right _ h)) (by decide +kernel))
set_option maxRecDepth 20000 in
theorem gL_law_L_deliver : GoodIn wsL_law (va_wsS RL 109 yL_deliver wsL_deliver) := goodIn_app (goodIn_of _ (by decide +kernel)) ggL_law_L_deliver
set_option maxRecDepth 20000 in
theorem ggL_law_X7_deliver : GoodIn wsL_law wsX7_deliver := goodIn_r _ [382, 383, 384, 385, 5, 386, 154, 145, 146, 147, 148, 149, 387, 388, 389, 390, 80, 77, 391, 89, 78, 392, 393, 394, 395, 76, 396, 397, 398, 399, 81, 87, 86, 90, 96, 97, 400, 401, 402, 403, 404, 405, 406, 407, 408, 409, 410, 411, 412, 413, 414, 415, 416, 417, 418, 95, 94, 419, 420, 421, 422, 93, 423, 424, 425, 426, 427, 428, 429, 430, 431, 432, 433, 434, 435, 436, 437, 438, 82, 83, 84, 85, 159, 160, 161, 162, 163, 439, 440, 441, 442, 443, 444, 445, 446, 88, 447, 326, 327, 328, 91, 92, 155, 156, 157, 158, 448, 449, 450, 451, 671, 672, 673, 674, 675, 676, 677, 678, 679, 680, 681, 682, 683, 684, 685, 686, 687, 688, 689, 690, 691, 692, 693, 694, 695, 696] (by decide +kernel) (by decide +kernel)
set_option maxRecDepth 20000 in
theorem gL_law_X7_deliver : GoodIn wsL_law (wsV RL 111 RX7 yX7_deliver wsX7_deliver) := goodIn_app (goodIn_of _ (by decide +kernel)) ggL_law_X7_deliver
set_option maxRecDepth 20000 in
theorem ggL_law_L_drop : GoodIn wsL_law wsL_drop := goodIn_ca (goodIn_r _ [454, 101, 455, 456, 457, 2, 458, 32, 247, 106, 107, 108, 109, 110, 375, 376, 377, 31, 378, 123, 62, 61, 350, 351, 352, 353, 664, 665, 666, 667, 668, 669, 670, 713, 714, 715, 716] (by decide +kernel) (by decide +kernel)) (goodIn_sub (fun _ h => List.mem_append_left _ (List.mem_append_right _ h)) (by decide +kernel))
set_option maxRecDepth 20000 in
theorem gL_law_L_drop : GoodIn wsL_law (va_wsS RL 112 yL_drop wsL_drop) := goodIn_app (goodIn_of _ (by decide +kernel)) ggL_law_L_drop
set_option maxRecDepth 20000 in
theorem ggL_law_X7_drop : GoodIn wsL_law wsX7_drop := goodIn_r _ [462, 383, 384, 385, 5, 386, 154, 145, 146, 147, 148, 149, 431, 432, 433, 434, 76, 671, 672, 673, 674, 675, 676, 677, 678, 679, 680, 681, 682, 683, 684, 685, 686, 687, 688, 689, 690, 691, 692, 693, 694, 695, 696] (by decide +kernel) (by decide +kernel)
set_option maxRecDepth 20000 in
theorem gL_law_X7_drop : GoodIn wsL_law (wsV RL 115 RX7 yX7_drop wsX7_drop) := goodIn_app (goodIn_of _ (by decide +kernel)) ggL_law_X7_drop
set_option maxRecDepth 20000 in
theorem ggL_law_L_copy : GoodIn wsL_law wsL_copy := goodIn_ca (goodIn_r _ [465, 101, 466, 467, 468, 2, 469, 32, 247, 106, 107, 108, 109, 110, 119, 120, 121, 31, 122, 123, 470, 471, 472, 473, 62, 61, 350, 351, 352, 353, 132, 664, 665, 666, 667, 668, 669, 670, 713, 714, 715, 716] (by decide +kernel) (by decide +kernel)) (goodIn_sub (fun _ h => List.mem_append_left _ (List.mem_append_right _ h)) (by decide +kernel))
set_option maxRecDepth 20000 in
theorem gL_law_L_copy : GoodIn wsL_law (va_wsS RL 116 yL_copy wsL_copy) := goodIn_app (goodIn_of _ (by decide +kernel)) ggL_law_L_copy
set_option maxRecDepth 20000 in
theorem ggL_law_X7_copy : GoodIn wsL_law wsX7_copy := goodIn_r _ [477, 76, 154, 163, 383, 384, 385, 5, 386, 145, 146, 147, 148, 149, 150, 151, 152, 153, 392, 393, 394, 395, 671, 672, 673, 674, 675, 676, 677, 678, 679, 680, 681, 682, 683, 684, 685, 686, 687, 688, 689, 690, 691, 692, 693, 694, 695, 696] (by decide +kernel) (by decide +kernel)
set_option maxRecDepth 20000 in
theorem gL_law_X7_copy : GoodIn wsL_law (wsV RL 118 RX7 yX7_copy wsX7_copy) := goodIn_app (goodIn_of _ (by decide +kernel)) ggL_law_X7_copy
set_option maxRecDepth 20000 in
theorem ggL_law_L_calm : GoodIn wsL_law wsL_calm := goodIn_ca (goodIn_r _ [480, 481, 482, 483, 484, 2, 485, 486, 487, 32, 247, 248, 249, 250, 251, 252, 253, 254, 255, 31, 256, 123, 62, 61, 257, 258, 259, 260, 22, 261, 262, 26, 210, 211, 18, 115, 116, 263, 264, 265, 266, 267, 209, 268, 269, 270, 271, 272, 273, 28, 274, 275, 55, 276, 277, 278, 279, 53, 280, 281, 282, 283, 284, 285, 56, 286, 287, 288, 289, 290, 291, 222, 220, 223, 292, 293, 294, 295, 296, 297, 298, 299, 300, 301, 302, 119, 120, 121, 122, 303, 304, 305, 306, 117, 307, 308, 309, 310, 36, 311, 312, 313, 24, 314, 315, 49, 316, 317, 318, 35, 319, 68, 71, 67, 70, 320, 128, 129, 130, 131, 132, 321, 322, 323, 324, 208, 325, 326, 327, 328, 329, 330, 331, 332, 333, 228, 229, 230, 231, 334, 335, 336, 337, 338, 339, 340, 341, 342, 343, 344, 345, 346, 347, 348, 349, 350, 351, 352, 353, 354, 355, 356, 357, 358, 359, 360, 361, 362, 363, 364, 365, 366, 367, 368, 369, 370, 124, 125, 126, 127, 371, 372, 373, 374, 375, 376, 377, 378, 664, 665, 666, 667, 668, 669, 670, 713, 714, 715, 716, 700, 701, 702, 703, 704, 705, 706, 707, 708, 709, 710, 711, 712, 697, 698, 699, 717, 718, 719, 720] (by decide +kernel) (by decide +kernel)) (goodIn_sub (fun _ h => List.mem_append_right _ h) (by decide +kernel))
set_option maxRecDepth 20000 in
theorem gL_law_L_calm : GoodIn wsL_law (va_wsS RL 119 yL_calm wsL_calm) := goodIn_app (goodIn_of _ (by decide +kernel)) ggL_law_L_calm
set_option maxRecDepth 20000 in
theorem ggL_law_X7_calm : GoodIn wsL_law wsX7_calm := goodIn_r _ [491, 149, 154, 387, 388, 389, 5, 390, 80, 77, 391, 89, 78, 392, 393, 394, 395, 76, 396, 397, 398, 399, 81, 87, 86, 90, 96, 97, 400, 401, 402, 403, 404, 405, 406, 407, 408, 409, 410, 411, 412, 413, 414, 415, 416, 417, 418, 95, 94, 419, 420, 421, 422, 93, 423, 424, 425, 426, 427, 428, 429, 430, 431, 432, 433, 434, 435, 436, 437, 438, 82, 83, 84, 85, 159, 160, 161, 162, 163, 439, 440, 441, 442, 443, 444, 445, 446, 88, 447, 326, 327, 328, 91, 92, 155, 156, 157, 158, 448, 449, 450, 451, 671, 672, 673, 674, 675, 676, 677, 678, 679, 680, 681, 682, 683, 684, 685, 686, 687, 688, 689, 690, 691, 692, 693, 694, 695, 696] (by decide +kernel) (by decide +kernel)
set_option maxRecDepth 20000 in
theorem gL_law_X7_calm : GoodIn wsL_law (wsV RL 121 RX7 yX7_calm wsX7_calm) := goodIn_app (goodIn_of _ (by decide +kernel)) ggL_law_X7_calm
set_option maxRecDepth 20000 in
theorem ggL_law_L_crash : GoodIn wsL_law wsL_crash := goodIn_ca (goodIn_ca (goodIn_r _ [494, 481, 101, 495, 496, 497, 2, 498, 499, 500, 501, 502, 503, 486, 487, 18, 22, 26, 106, 107, 108, 109, 110, 504, 505, 506, 507, 41, 508, 509, 510, 511, 28, 512, 222, 275, 223, 54, 55, 56, 224, 225, 226, 227, 513, 700, 701, 702, 703, 704, 705, 706, 707, 708, 709, 710, 711, 712, 697, 698, 699, 664, 665, 666, 667, 668, 669, 670] (by decide +kernel) (by decide +kernel)) (goodIn_sub (fun _ h => List.mem_append_right _ h) (by decide +kernel))) (goodIn_sub (fun _ h => List.mem_append_left _ (List.mem_append_right _ h)) (by decide +kernel))
set_option maxRecDepth 20000 in
theorem gL_law_L_crash : GoodIn wsL_law (va_wsS RL 122 yL_crash wsL_crash) := goodIn_app (goodIn_of _ (by decide +kernel)) ggL_law_L_crash
set_option maxRecDepth 20000 in
theorem ggL_law_X7_crash : GoodIn wsL_law wsX7_crash := goodIn_r _ [517, 518, 519, 520, 5, 521, 149, 80, 87, 89, 90, 95, 93, 522, 523, 524, 525, 96, 97, 427, 428, 429, 430, 671, 672, 673, 674, 675, 676, 677, 678, 679, 680, 681, 682, 683, 684, 685, 686, 687, 688, 689, 690, 691, 692, 693, 694, 695, 696] (by decide +kernel) (by decide +kernel)
set_option maxRecDepth 20000 in
theorem gL_law_X7_crash : GoodIn wsL_law (wsV RL 125 RX7 yX7_crash wsX7_crash) := goodIn_app (goodIn_of _ (by decide +kernel)) ggL_law_X7_crash
set_option maxRecDepth 20000 in
theorem ggL_law_L_recover : GoodIn wsL_law wsL_recover := goodIn_ca (goodIn_ca (goodIn_r _ [528, 481, 101, 529, 530, 531, 2, 532, 499, 500, 501, 502, 503, 486, 487, 18, 22, 26, 106, 107, 108, 109, 110, 700, 701, 702, 703, 704, 705, 706, 707, 708, 709, 710, 711, 712, 697, 698, 699, 664, 665, 666, 667, 668, 669, 670] (by decide +kernel) (by decide +kernel)) (goodIn_sub (fun _ h => List.mem_append_right _ h) (by decide +kernel))) (goodIn_sub (fun _ h => List.mem_append_left _ (List.mem_append_right _ h)) (by decide +kernel))
set_option maxRecDepth 20000 in
theorem gL_law_L_recover : GoodIn wsL_law (va_wsS RL 126 yL_recover wsL_recover) := goodIn_app (goodIn_of _ (by decide +kernel)) ggL_law_L_recover
set_option maxRecDepth 20000 in
theorem ggL_law_X7_recover : GoodIn wsL_law wsX7_recover := goodIn_r _ [536, 518, 519, 520, 5, 521, 149, 80, 87, 89, 90, 95, 93, 522, 523, 524, 525, 96, 97, 427, 428, 429, 430, 671, 672, 673, 674, 675, 676, 677, 678, 679, 680, 681, 682, 683, 684, 685, 686, 687, 688, 689, 690, 691, 692, 693, 694, 695, 696] (by decide +kernel) (by decide +kernel)
set_option maxRecDepth 20000 in
theorem gL_law_X7_recover : GoodIn wsL_law (wsV RL 128 RX7 yX7_recover wsX7_recover) := goodIn_app (goodIn_of _ (by decide +kernel)) ggL_law_X7_recover
set_option maxRecDepth 20000 in
theorem ggL_law_L_message : GoodIn wsL_law wsL_message := goodIn_ca (goodIn_r _ [539, 101, 540, 541, 542, 2, 543, 32, 247, 106, 107, 108, 109, 110, 253, 254, 255, 31, 256, 123, 62, 61, 664, 665, 666, 667, 668, 669, 670, 713, 714, 715, 716] (by decide +kernel) (by decide +kernel)) (goodIn_sub (fun _ h => List.mem_append_left _ (List.mem_append_right _ h)) (by decide +kernel))
set_option maxRecDepth 20000 in
theorem gL_law_L_message : GoodIn wsL_law (va_wsS RL 129 yL_message wsL_message) := goodIn_app (goodIn_of _ (by decide +kernel)) ggL_law_L_message
set_option maxRecDepth 20000 in
theorem ggL_law_X7_message : GoodIn wsL_law wsX7_message := goodIn_r _ [547, 383, 384, 385, 5, 386, 154, 145, 146, 147, 148, 149, 392, 393, 394, 395, 76, 671, 672, 673, 674, 675, 676, 677, 678, 679, 680, 681, 682, 683, 684, 685, 686, 687, 688, 689, 690, 691, 692, 693, 694, 695, 696] (by decide +kernel) (by decide +kernel)
set_option maxRecDepth 20000 in
theorem gL_law_X7_message : GoodIn wsL_law (wsV RL 131 RX7 yX7_message wsX7_message) := goodIn_app (goodIn_of _ (by decide +kernel)) ggL_law_X7_message
set_option maxRecDepth 20000 in
theorem ggL_law_L_told : GoodIn wsL_law wsL_told := goodIn_ca (goodIn_r _ [550, 101, 551, 552, 553, 2, 554, 32, 247, 18, 106, 107, 108, 109, 110, 253, 254, 255, 31, 256, 123, 62, 61, 360, 361, 362, 363, 555, 280, 281, 370, 286, 287, 664, 665, 666, 667, 668, 669, 670, 713, 714, 715, 716] (by decide +kernel) (by decide +kernel)) (goodIn_sub (fun _ h => List.mem_append_left _ (List.mem_append_right _ h)) (by decide +kernel))
set_option maxRecDepth 20000 in
theorem gL_law_L_told : GoodIn wsL_law (va_wsS RL 132 yL_told wsL_told) := goodIn_app (goodIn_of _ (by decide +kernel)) ggL_law_L_told
set_option maxRecDepth 20000 in
theorem ggL_law_X7_told : GoodIn wsL_law wsX7_told := goodIn_r _ [559, 383, 384, 385, 5, 386, 154, 141, 142, 143, 144, 96, 145, 146, 147, 148, 149, 392, 393, 394, 395, 76, 671, 672, 673, 674, 675, 676, 677, 678, 679, 680, 681, 682, 683, 684, 685, 686, 687, 688, 689, 690, 691, 692, 693, 694, 695, 696] (by decide +kernel) (by decide +kernel)
set_option maxRecDepth 20000 in
theorem gL_law_X7_told : GoodIn wsL_law (wsV RL 135 RX7 yX7_told wsX7_told) := goodIn_app (goodIn_of _ (by decide +kernel)) ggL_law_X7_told
set_option maxRecDepth 20000 in
theorem ggL_law_L_manager : GoodIn wsL_law wsL_manager := goodIn_ca (goodIn_r _ [562, 101, 563, 564, 565, 2, 566, 18, 117, 115, 116, 106, 107, 108, 109, 110, 664, 665, 666, 667, 668, 669, 670, 697, 698, 699, 700, 701, 702, 703, 704, 705, 706, 707, 708, 709, 710, 711, 712] (by decide +kernel) (by decide +kernel)) (goodIn_sub (fun _ h => List.mem_append_left _ (List.mem_append_right _ h)) (by decide +kernel))
set_option maxRecDepth 20000 in
theorem gL_law_L_manager : GoodIn wsL_law (va_wsS RL 136 yL_manager wsL_manager) := goodIn_app (goodIn_of _ (by decide +kernel)) ggL_law_L_manager
set_option maxRecDepth 20000 in
theorem ggL_law_X7_manager : GoodIn wsL_law wsX7_manager := goodIn_r _ [570, 78, 80, 141, 142, 143, 5, 144, 96, 145, 146, 147, 148, 149, 671, 672, 673, 674, 675, 676, 677, 678, 679, 680, 681, 682, 683, 684, 685, 686, 687, 688, 689, 690, 691, 692, 693, 694, 695, 696] (by decide +kernel) (by decide +kernel)
set_option maxRecDepth 20000 in
theorem gL_law_X7_manager : GoodIn wsL_law (wsV RL 138 RX7 yX7_manager wsX7_manager) := goodIn_app (goodIn_of _ (by decide +kernel)) ggL_law_X7_manager
set_option maxRecDepth 20000 in
theorem ggL_law_L_acceptor : GoodIn wsL_law wsL_acceptor := goodIn_ca (goodIn_r _ [573, 101, 574, 575, 576, 2, 577, 22, 18, 267, 261, 262, 338, 106, 107, 108, 109, 110, 555, 280, 281, 370, 286, 287, 664, 665, 666, 667, 668, 669, 670, 700, 701, 702, 703, 704, 705, 706, 707, 708, 709, 710, 711, 712, 697, 698, 699] (by decide +kernel) (by decide +kernel)) (goodIn_sub (fun _ h => List.mem_append_left _ (List.mem_append_right _ h)) (by decide +kernel))
set_option maxRecDepth 20000 in
theorem gL_law_L_acceptor : GoodIn wsL_law (va_wsS RL 139 yL_acceptor wsL_acceptor) := goodIn_app (goodIn_of _ (by decide +kernel)) ggL_law_L_acceptor
set_option maxRecDepth 20000 in
theorem ggL_law_X7_acceptor : GoodIn wsL_law wsX7_acceptor := goodIn_r _ [581, 81, 80, 82, 83, 582, 583, 584, 5, 585, 97, 141, 142, 143, 144, 96, 145, 146, 147, 148, 149, 671, 672, 673, 674, 675, 676, 677, 678, 679, 680, 681, 682, 683, 684, 685, 686, 687, 688, 689, 690, 691, 692, 693, 694, 695, 696] (by decide +kernel) (by decide +kernel)
set_option maxRecDepth 20000 in
theorem gL_law_X7_acceptor : GoodIn wsL_law (wsV RL 142 RX7 yX7_acceptor wsX7_acceptor) := goodIn_app (goodIn_of _ (by decide +kernel)) ggL_law_X7_acceptor
set_option maxRecDepth 20000 in
theorem ggL_law_L_leader : GoodIn wsL_law wsL_leader := goodIn_ca (goodIn_r _ [588, 101, 589, 590, 591, 2, 592, 26, 369, 368, 208, 209, 210, 211, 358, 106, 107, 108, 109, 110, 593, 297, 298, 299, 300, 301, 302, 664, 665, 666, 667, 668, 669, 670, 703, 704, 705, 706, 707, 708, 709, 710, 711, 712, 700, 701, 702, 697, 698, 699] (by decide +kernel) (by decide +kernel)) (goodIn_sub (fun _ h => List.mem_append_left _ (List.mem_append_right _ h)) (by decide +kernel))
set_option maxRecDepth 20000 in
theorem gL_law_L_leader : GoodIn wsL_law (va_wsS RL 143 yL_leader wsL_leader) := goodIn_app (goodIn_of _ (by decide +kernel)) ggL_law_L_leader
set_option maxRecDepth 20000 in
theorem ggL_law_X7_leader : GoodIn wsL_law wsX7_leader := goodIn_r _ [597, 86, 87, 88, 89, 80, 90, 237, 238, 5, 239, 145, 146, 147, 148, 149, 400, 401, 402, 671, 672, 673, 674, 675, 676, 677, 678, 679, 680, 681, 682, 683, 684, 685, 686, 687, 688, 689, 690, 691, 692, 693, 694, 695, 696] (by decide +kernel) (by decide +kernel)
set_option maxRecDepth 20000 in
theorem gL_law_X7_leader : GoodIn wsL_law (wsV RL 145 RX7 yX7_leader wsX7_leader) := goodIn_app (goodIn_of _ (by decide +kernel)) ggL_law_X7_leader
set_option maxRecDepth 20000 in
theorem ggL_law_L_outcome : GoodIn wsL_law wsL_outcome := goodIn_ca (goodIn_r _ [600, 101, 601, 602, 603, 2, 604, 18, 26, 605, 106, 107, 108, 109, 110, 664, 665, 666, 667, 668, 669, 670, 703, 704, 705, 706, 707, 708, 709, 710, 711, 712] (by decide +kernel) (by decide +kernel)) (goodIn_sub (fun _ h => List.mem_append_left _ (List.mem_append_right _ h)) (by decide +kernel))
set_option maxRecDepth 20000 in
theorem gL_law_L_outcome : GoodIn wsL_law (va_wsS RL 146 yL_outcome wsL_outcome) := goodIn_app (goodIn_of _ (by decide +kernel)) ggL_law_L_outcome
set_option maxRecDepth 20000 in
theorem ggL_law_X7_outcome : GoodIn wsL_law wsX7_outcome := goodIn_r _ [609, 95, 237, 238, 5, 239, 141, 142, 143, 144, 96, 145, 146, 147, 148, 149, 671, 672, 673, 674, 675, 676, 677, 678, 679, 680, 681, 682, 683, 684, 685, 686, 687, 688, 689, 690, 691, 692, 693, 694, 695, 696] (by decide +kernel) (by decide +kernel)
set_option maxRecDepth 20000 in
theorem gL_law_X7_outcome : GoodIn wsL_law (wsV RL 148 RX7 yX7_outcome wsX7_outcome) := goodIn_app (goodIn_of _ (by decide +kernel)) ggL_law_X7_outcome
set_option maxRecDepth 20000 in
theorem ggL_law_L_seen : GoodIn wsL_law wsL_seen := goodIn_ca (goodIn_r _ [612, 101, 613, 614, 615, 2, 616, 18, 22, 26, 106, 107, 108, 109, 110, 617, 283, 284, 28, 285, 53, 56, 555, 280, 281, 664, 665, 666, 667, 668, 669, 670, 703, 704, 705, 706, 707, 708, 709, 710, 711, 712] (by decide +kernel) (by decide +kernel)) (goodIn_sub (fun _ h => List.mem_append_left _ (List.mem_append_right _ h)) (by decide +kernel))
set_option maxRecDepth 20000 in
theorem gL_law_L_seen : GoodIn wsL_law (va_wsS RL 149 yL_seen wsL_seen) := goodIn_app (goodIn_of _ (by decide +kernel)) ggL_law_L_seen
set_option maxRecDepth 20000 in
theorem ggL_law_X7_seen : GoodIn wsL_law wsX7_seen := goodIn_r _ [621, 93, 237, 238, 5, 239, 141, 142, 143, 144, 96, 582, 583, 584, 585, 97, 145, 146, 147, 148, 149, 427, 428, 429, 430, 671, 672, 673, 674, 675, 676, 677, 678, 679, 680, 681, 682, 683, 684, 685, 686, 687, 688, 689, 690, 691, 692, 693, 694, 695, 696] (by decide +kernel) (by decide +kernel)
set_option maxRecDepth 20000 in
theorem gL_law_X7_seen : GoodIn wsL_law (wsV RL 151 RX7 yX7_seen wsX7_seen) := goodIn_app (goodIn_of _ (by decide +kernel)) ggL_law_X7_seen
set_option maxRecDepth 20000 in
theorem ggL_law_L_chosen : GoodIn wsL_law wsL_chosen := goodIn_ca (goodIn_r _ [624, 101, 625, 626, 627, 2, 628, 18, 36, 629, 106, 107, 108, 109, 110, 664, 665, 666, 667, 668, 669, 670, 717, 718, 719, 720] (by decide +kernel) (by decide +kernel)) (goodIn_sub (fun _ h => List.mem_append_left _ (List.mem_append_right _ h)) (by decide +kernel))
set_option maxRecDepth 20000 in
theorem gL_law_L_chosen : GoodIn wsL_law (va_wsS RL 152 yL_chosen wsL_chosen) := goodIn_app (goodIn_of _ (by decide +kernel)) ggL_law_L_chosen
set_option maxRecDepth 20000 in
theorem ggL_law_X7_chosen : GoodIn wsL_law wsX7_chosen := goodIn_r _ [633, 84, 85, 141, 142, 143, 5, 144, 96, 145, 146, 147, 148, 149, 400, 401, 402, 403, 404, 405, 406, 97, 671, 672, 673, 674, 675, 676, 677, 678, 679, 680, 681, 682, 683, 684, 685, 686, 687, 688, 689, 690, 691, 692, 693, 694, 695, 696] (by decide +kernel) (by decide +kernel)
set_option maxRecDepth 20000 in
theorem gL_law_X7_chosen : GoodIn wsL_law (wsV RL 154 RX7 yX7_chosen wsX7_chosen) := goodIn_app (goodIn_of _ (by decide +kernel)) ggL_law_X7_chosen
set_option maxRecDepth 20000 in
theorem ggL_law_X6_count : GoodIn wsL_law wsX6_count := goodIn_ca (goodIn_ca (goodIn_r _ [637, 18, 22, 32, 247, 638, 252, 212, 639, 640, 641, 2, 642, 499, 500, 501, 502, 503, 486, 487, 26, 106, 107, 108, 109, 110, 643, 644, 645, 646, 117, 664, 665, 666, 667, 668, 669, 670, 713, 714, 715, 716, 700, 701, 702, 703, 704, 705, 706, 707, 708, 709, 710, 711, 712, 697, 698, 699] (by decide +kernel) (by decide +kernel)) (goodIn_sub (fun _ h => List.mem_append_right _ h) (by decide +kernel))) (goodIn_sub (fun _ h => List.mem_append_left _ (List.mem_append_right _ h)) (by decide +kernel))
set_option maxRecDepth 20000 in
theorem gL_law_X6_count : GoodIn wsL_law (wsV RL 155 RX6 yX6_count wsX6_count) := goodIn_app (goodIn_of _ (by decide +kernel)) ggL_law_X6_count
set_option maxRecDepth 20000 in
theorem ggL_law_X7_count : GoodIn wsL_law wsX7_count := goodIn_r _ [650, 149, 96, 97, 154, 163, 391, 80, 78, 236, 522, 523, 524, 5, 525, 671, 672, 673, 674, 675, 676, 677, 678, 679, 680, 681, 682, 683, 684, 685, 686, 687, 688, 689, 690, 691, 692, 693, 694, 695, 696] (by decide +kernel) (by decide +kernel)
set_option maxRecDepth 20000 in
theorem gL_law_X7_count : GoodIn wsL_law (wsV RL 158 RX7 yX7_count wsX7_count) := goodIn_app (goodIn_of _ (by decide +kernel)) ggL_law_X7_count
set_option maxRecDepth 20000 in
theorem ggL_law_X6_astray : GoodIn wsL_law wsX6_astray := goodIn_r _ [654, 18, 117, 118, 36, 655, 26, 209, 643, 644, 645, 2, 646, 656, 657, 658, 659, 629, 664, 665, 666, 667, 668, 669, 670, 697, 698, 699, 717, 718, 719, 720, 703, 704, 705, 706, 707, 708, 709, 710, 711, 712] (by decide +kernel) (by decide +kernel)
set_option maxRecDepth 20000 in
theorem gL_law_X6_astray : GoodIn wsL_law (wsV RL 159 RX6 yX6_astray wsX6_astray) := goodIn_app (goodIn_of _ (by decide +kernel)) ggL_law_X6_astray
set_option maxRecDepth 20000 in
theorem ggL_law_X7_astray : GoodIn wsL_law wsX7_astray := goodIn_r _ [663, 149, 671, 672, 673, 674, 675, 676, 677, 678, 679, 680, 681, 682, 683, 684, 685, 686, 687, 688, 689, 690, 691, 692, 693, 694, 695, 696] (by decide +kernel) (by decide +kernel)
set_option maxRecDepth 20000 in
theorem gL_law_X7_astray : GoodIn wsL_law (wsV RL 162 RX7 yX7_astray wsX7_astray) := goodIn_app (goodIn_of _ (by decide +kernel)) ggL_law_X7_astray
