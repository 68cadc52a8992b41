set_option maxRecDepth 20000
def lbT : Nat → List Cond
  | 0 => wsL_book_r1
  | 1 => wsL_book_r2
  | 2 => wsL_book_r3
  | 3 => wsL_book_r4
  | 4 => wsL_book_r5
  | 5 => wsL_book_r6
  | 6 => wsL_book_r7
  | 7 => wsL_book_r8
  | 8 => wsL_book_r9
  | 9 => wsL_book_r10
  | 10 => wsL_book_r11
  | 11 => wsL_book_r12
  | 12 => wsL_book_r13
  | 13 => wsX100
  | 14 => wsJ40
  | 15 => wsJ00
  | _ => []
theorem lbT_in (k : Nat) (w : Cond) (h : w ∈ lbT k) : w ∈ wsL_book := by
  unfold wsL_book
  unfold lbT at h
  split at h
  · exact (List.mem_cons_of_mem _ (List.mem_append_left _ (List.mem_append_left _ (List.mem_append_left _ (List.mem_append_left _ h)))))
  · exact (List.mem_cons_of_mem _ (List.mem_append_left _ (List.mem_append_left _ (List.mem_append_left _ (List.mem_append_right _ (List.mem_append_left _ h))))))
  · exact (List.mem_cons_of_mem _ (List.mem_append_left _ (List.mem_append_left _ (List.mem_append_left _ (List.mem_append_right _ (List.mem_append_right _ (List.mem_append_left _ h)))))))
  · exact (List.mem_cons_of_mem _ (List.mem_append_left _ (List.mem_append_left _ (List.mem_append_left _ (List.mem_append_right _ (List.mem_append_right _ (List.mem_append_right _ (List.mem_append_left _ h))))))))
  · exact (List.mem_cons_of_mem _ (List.mem_append_left _ (List.mem_append_left _ (List.mem_append_left _ (List.mem_append_right _ (List.mem_append_right _ (List.mem_append_right _ (List.mem_append_right _ (List.mem_append_left _ h)))))))))
  · exact (List.mem_cons_of_mem _ (List.mem_append_left _ (List.mem_append_left _ (List.mem_append_left _ (List.mem_append_right _ (List.mem_append_right _ (List.mem_append_right _ (List.mem_append_right _ (List.mem_append_right _ (List.mem_append_left _ h))))))))))
  · exact (List.mem_cons_of_mem _ (List.mem_append_left _ (List.mem_append_left _ (List.mem_append_left _ (List.mem_append_right _ (List.mem_append_right _ (List.mem_append_right _ (List.mem_append_right _ (List.mem_append_right _ (List.mem_append_right _ (List.mem_append_left _ h)))))))))))
  · exact (List.mem_cons_of_mem _ (List.mem_append_left _ (List.mem_append_left _ (List.mem_append_left _ (List.mem_append_right _ (List.mem_append_right _ (List.mem_append_right _ (List.mem_append_right _ (List.mem_append_right _ (List.mem_append_right _ (List.mem_append_right _ (List.mem_append_left _ h))))))))))))
  · exact (List.mem_cons_of_mem _ (List.mem_append_left _ (List.mem_append_left _ (List.mem_append_left _ (List.mem_append_right _ (List.mem_append_right _ (List.mem_append_right _ (List.mem_append_right _ (List.mem_append_right _ (List.mem_append_right _ (List.mem_append_right _ (List.mem_append_right _ (List.mem_append_left _ h)))))))))))))
  · exact (List.mem_cons_of_mem _ (List.mem_append_left _ (List.mem_append_left _ (List.mem_append_left _ (List.mem_append_right _ (List.mem_append_right _ (List.mem_append_right _ (List.mem_append_right _ (List.mem_append_right _ (List.mem_append_right _ (List.mem_append_right _ (List.mem_append_right _ (List.mem_append_right _ (List.mem_append_left _ h))))))))))))))
  · exact (List.mem_cons_of_mem _ (List.mem_append_left _ (List.mem_append_left _ (List.mem_append_left _ (List.mem_append_right _ (List.mem_append_right _ (List.mem_append_right _ (List.mem_append_right _ (List.mem_append_right _ (List.mem_append_right _ (List.mem_append_right _ (List.mem_append_right _ (List.mem_append_right _ (List.mem_append_right _ (List.mem_append_left _ h)))))))))))))))
  · exact (List.mem_cons_of_mem _ (List.mem_append_left _ (List.mem_append_left _ (List.mem_append_left _ (List.mem_append_right _ (List.mem_append_right _ (List.mem_append_right _ (List.mem_append_right _ (List.mem_append_right _ (List.mem_append_right _ (List.mem_append_right _ (List.mem_append_right _ (List.mem_append_right _ (List.mem_append_right _ (List.mem_append_right _ (List.mem_append_left _ h))))))))))))))))
  · exact (List.mem_cons_of_mem _ (List.mem_append_left _ (List.mem_append_left _ (List.mem_append_left _ (List.mem_append_right _ (List.mem_append_right _ (List.mem_append_right _ (List.mem_append_right _ (List.mem_append_right _ (List.mem_append_right _ (List.mem_append_right _ (List.mem_append_right _ (List.mem_append_right _ (List.mem_append_right _ (List.mem_append_right _ (List.mem_append_right _ h))))))))))))))))
  · exact (List.mem_cons_of_mem _ (List.mem_append_left _ (List.mem_append_left _ (List.mem_append_right _ h))))
  · exact (List.mem_cons_of_mem _ (List.mem_append_left _ (List.mem_append_right _ h)))
  · exact (List.mem_cons_of_mem _ (List.mem_append_right _ h))
  · cases h
theorem lb_places {ws : List Cond} (ps : List (Nat × Nat)) (hp : ws = ps.filterMap (fun p => (lbT p.1)[p.2]?)) : ∀ w ∈ ws, w ∈ wsL_book := by
  intro w hw
  rw [hp] at hw
  obtain ⟨p, -, hi⟩ := List.mem_filterMap.mp hw
  exact lbT_in p.1 w (by first | exact List.mem_of_getElem? hi | exact List.getElem?_mem hi)
theorem lb_one {c : Cond} {a : List Cond} (k i : Nat) (h : (lbT k)[i]? = some c) (hg : goodWord c = true) (ha : GoodIn wsL_book a) : GoodIn wsL_book (c :: a) := by
  intro w hw
  rcases List.mem_cons.mp hw with rfl | hw
  · exact ⟨lbT_in k w (by first | exact List.mem_of_getElem? h | exact List.getElem?_mem h), good_of_word hg⟩
  · exact ha w hw
theorem lb_nil : GoodIn wsL_book [] := fun _ h => absurd h List.not_mem_nil
theorem lbl_1 : GoodIn wsL_book [.methodLink RX10 1 objectInit, .instanceMethod objectInit, .code objectInit ⟨#[0xb1]⟩ 1 none, .arrayClass .int, .fieldLink RX10 7 "PieceDepositsLaw$Book" "coins" "[I", .fieldLink RX10 13 "PieceDepositsLaw$Book" "accounts" "[I", .fieldLink RX10 16 "PieceDepositsLaw$Book" "code" "[I", .fieldLink RX10 19 "PieceDepositsLaw$Book" "paid" "[I", .fieldLink RX10 22 "PieceDepositsLaw$Book" "owner" "[I", .fieldLink RX10 25 "PieceDepositsLaw$Book" "uses" "[I", .fieldLink RX10 28 "PieceDepositsLaw$Book" "idle" "[I", .fieldLink RX10 31 "PieceDepositsLaw$Book" "user" "[I", .fieldLink RX10 34 "PieceDepositsLaw$Book" "word" "[I", .fieldLink RX10 37 "PieceDepositsLaw$Book" "cut" "[I"] := goodIn_sub (lb_places [(0, 5), (0, 6), (0, 7), (0, 8), (0, 9), (0, 10), (0, 11), (0, 12), (0, 13), (0, 14), (0, 15), (0, 16), (0, 17), (0, 18)] (by decide +kernel)) (by decide +kernel)
theorem lbk_13 : GoodIn wsL_book (wsX100) := goodIn_sub (fun w h => lbT_in 13 w h) (by decide +kernel)
theorem lbc_wsX10_init : GoodIn wsL_book wsX10_init := (lb_one 0 4 (by decide +kernel) (by decide +kernel) (goodIn_app lbl_1 lbk_13))
theorem gL_book_X10_init_n60 : GoodIn wsL_book (wsX10_init) := lbc_wsX10_init
theorem lbl_2 : GoodIn wsL_book [.constant RL 23 (1664525), .constant RL 24 (1013904223)] := goodIn_sub (lb_places [(0, 23), (1, 0)] (by decide +kernel)) (by decide +kernel)
theorem lbc_wsL_draw : GoodIn wsL_book wsL_draw := (lb_one 0 22 (by decide +kernel) (by decide +kernel) lbl_2)
theorem gL_book_L_draw : GoodIn wsL_book (va_wsS RL 32 yL_draw wsL_draw) := goodIn_app (goodIn_sub (lb_places [(0, 19), (0, 20), (0, 21)] (by decide +kernel)) (by decide +kernel)) lbc_wsL_draw
theorem lbc_wsJ4_append_15ec4_r1 : GoodIn wsL_book wsJ4_append_15ec4_r1 := goodIn_sub (lb_places [(1, 6), (1, 7), (1, 8), (1, 9), (1, 10), (1, 11), (1, 12), (1, 13), (1, 14), (1, 15), (1, 16), (1, 17), (1, 18), (1, 19), (1, 20), (1, 21), (1, 22), (1, 23), (2, 0), (2, 1), (2, 2), (2, 3), (2, 4), (2, 5)] (by decide +kernel)) (by decide +kernel)
theorem lbc_wsJ4_append_15ec4_r2 : GoodIn wsL_book wsJ4_append_15ec4_r2 := goodIn_sub (lb_places [(2, 6), (2, 7), (2, 8), (2, 9), (2, 10), (2, 11), (2, 12), (2, 13), (2, 14), (2, 15), (2, 16), (2, 17), (2, 18), (2, 19), (2, 20), (2, 21), (2, 22), (2, 23), (3, 0), (3, 1), (3, 2), (3, 3), (3, 4), (3, 5)] (by decide +kernel)) (by decide +kernel)
theorem lbc_wsJ4_append_15ec4_r3 : GoodIn wsL_book wsJ4_append_15ec4_r3 := goodIn_sub (lb_places [(3, 6), (3, 7), (3, 8), (3, 9), (3, 10), (3, 11), (3, 12), (3, 13), (3, 14), (3, 15), (3, 16), (3, 17), (3, 18), (3, 19), (3, 20), (3, 21), (3, 22), (3, 23), (4, 0), (4, 1), (4, 2), (4, 3), (4, 4), (4, 5)] (by decide +kernel)) (by decide +kernel)
theorem lbc_wsJ4_append_15ec4_r4 : GoodIn wsL_book wsJ4_append_15ec4_r4 := goodIn_sub (lb_places [(4, 6), (4, 7), (4, 8), (4, 9), (4, 10), (4, 11), (4, 12), (4, 13), (4, 14), (4, 15), (4, 16), (4, 17), (4, 18), (4, 19), (4, 20), (4, 21), (4, 22), (4, 23), (5, 0), (5, 1), (5, 2), (5, 3), (5, 4), (5, 5)] (by decide +kernel)) (by decide +kernel)
theorem lbc_wsJ4_append_15ec4_r5 : GoodIn wsL_book wsJ4_append_15ec4_r5 := goodIn_sub (lb_places [(5, 6), (5, 7), (5, 8), (5, 9), (5, 10), (5, 11), (5, 12), (5, 13), (5, 14), (5, 15), (5, 16), (5, 17), (5, 18), (5, 19), (5, 20), (5, 21), (5, 22), (5, 23), (6, 0), (6, 1), (6, 2), (6, 3), (6, 4), (6, 5)] (by decide +kernel)) (by decide +kernel)
theorem lbc_wsJ4_append_15ec4_r6 : GoodIn wsL_book wsJ4_append_15ec4_r6 := goodIn_sub (lb_places [(6, 6), (6, 7), (6, 8), (6, 9), (6, 10), (6, 11), (6, 12), (6, 13), (6, 14), (6, 15), (6, 16), (6, 17), (6, 18), (6, 19), (6, 20), (6, 21), (6, 22), (6, 23), (7, 0), (7, 1), (7, 2), (7, 3)] (by decide +kernel)) (by decide +kernel)
theorem lbk_14 : GoodIn wsL_book (wsJ40) := goodIn_sub (fun w h => lbT_in 14 w h) (by decide +kernel)
theorem lbk_15 : GoodIn wsL_book (wsJ00) := goodIn_sub (fun w h => lbT_in 15 w h) (by decide +kernel)
theorem lbc_wsJ4_append_15ec4 : GoodIn wsL_book wsJ4_append_15ec4 := (lb_one 1 5 (by decide +kernel) (by decide +kernel) (goodIn_app (goodIn_app (goodIn_app lbc_wsJ4_append_15ec4_r1 (goodIn_app lbc_wsJ4_append_15ec4_r2 (goodIn_app lbc_wsJ4_append_15ec4_r3 (goodIn_app lbc_wsJ4_append_15ec4_r4 (goodIn_app lbc_wsJ4_append_15ec4_r5 lbc_wsJ4_append_15ec4_r6))))) lbk_14) lbk_15))
theorem gL_book_J4_append_15ec4 : GoodIn wsL_book (wsV RL 79 RJ4 yJ4_append_15ec4 wsJ4_append_15ec4) := goodIn_app (goodIn_sub (lb_places [(1, 1), (1, 2), (1, 3), (1, 4)] (by decide +kernel)) (by decide +kernel)) lbc_wsJ4_append_15ec4
theorem lbc_wsJ4_append_bf812_r1 : GoodIn wsL_book wsJ4_append_bf812_r1 := goodIn_sub (lb_places [(7, 8), (7, 9), (1, 8), (7, 10), (1, 10), (7, 11), (1, 12), (1, 18), (7, 12), (7, 13), (7, 14), (7, 15), (1, 19), (1, 20), (1, 21), (1, 22), (1, 23), (2, 0), (2, 1), (2, 2), (2, 3), (2, 4), (2, 5), (2, 6)] (by decide +kernel)) (by decide +kernel)
theorem lbc_wsJ4_append_bf812_r2 : GoodIn wsL_book wsJ4_append_bf812_r2 := goodIn_sub (lb_places [(2, 7), (2, 8), (2, 9), (2, 10), (2, 11), (2, 12), (2, 13), (2, 14), (2, 15), (2, 16), (2, 17), (2, 18), (2, 19), (2, 20), (2, 21), (2, 22), (2, 23), (3, 0), (3, 1), (3, 2), (3, 3), (3, 4), (3, 5), (3, 6)] (by decide +kernel)) (by decide +kernel)
theorem lbc_wsJ4_append_bf812_r3 : GoodIn wsL_book wsJ4_append_bf812_r3 := goodIn_sub (lb_places [(3, 7), (3, 8), (3, 9), (3, 10), (3, 11), (3, 12), (3, 13), (3, 14), (3, 15), (3, 16), (3, 17), (3, 18), (7, 16), (7, 17), (7, 18), (7, 19), (7, 20), (7, 21), (7, 22), (3, 21), (7, 23), (3, 23), (4, 0), (4, 1)] (by decide +kernel)) (by decide +kernel)
theorem lbc_wsJ4_append_bf812_r4 : GoodIn wsL_book wsJ4_append_bf812_r4 := goodIn_sub (lb_places [(4, 2), (4, 3), (4, 4), (4, 5), (4, 6), (4, 7), (4, 8), (4, 9), (4, 10), (4, 11), (4, 12), (4, 13), (4, 14), (8, 0), (8, 1), (8, 2), (8, 3), (8, 4), (4, 15), (4, 16), (4, 17), (4, 18), (4, 19)] (by decide +kernel)) (by decide +kernel)
theorem lbc_wsJ4_append_bf812 : GoodIn wsL_book wsJ4_append_bf812 := (lb_one 7 7 (by decide +kernel) (by decide +kernel) (goodIn_app (goodIn_app lbc_wsJ4_append_bf812_r1 (goodIn_app lbc_wsJ4_append_bf812_r2 (goodIn_app lbc_wsJ4_append_bf812_r3 lbc_wsJ4_append_bf812_r4))) lbk_14))
theorem gL_book_J4_append_bf812 : GoodIn wsL_book (wsV RL 82 RJ4 yJ4_append_bf812 wsJ4_append_bf812) := goodIn_app (goodIn_sub (lb_places [(7, 4), (7, 5), (7, 6), (1, 4)] (by decide +kernel)) (by decide +kernel)) lbc_wsJ4_append_bf812
theorem lbc_wsJ4_append_cf468_r1 : GoodIn wsL_book wsJ4_append_cf468_r1 := goodIn_sub (lb_places [(8, 9), (8, 10), (1, 8), (8, 11), (1, 10), (8, 12), (1, 12), (1, 18), (1, 19), (1, 20), (1, 21), (1, 22), (1, 23), (2, 0), (2, 1), (2, 2), (2, 3), (2, 4), (2, 5), (2, 6), (2, 7), (2, 8), (2, 9), (2, 10)] (by decide +kernel)) (by decide +kernel)
theorem lbc_wsJ4_append_cf468_r2 : GoodIn wsL_book wsJ4_append_cf468_r2 := goodIn_sub (lb_places [(2, 11), (2, 12), (2, 13), (2, 14), (2, 15), (2, 16), (2, 17), (2, 18), (2, 19), (2, 20), (2, 21), (2, 22), (2, 23), (3, 0), (3, 1), (3, 2), (3, 3), (3, 4), (3, 5), (3, 6), (3, 7), (3, 8), (3, 9), (3, 10)] (by decide +kernel)) (by decide +kernel)
theorem lbc_wsJ4_append_cf468_r3 : GoodIn wsL_book wsJ4_append_cf468_r3 := goodIn_sub (lb_places [(3, 11), (3, 12), (3, 13), (3, 14), (3, 15), (3, 16), (3, 17), (3, 18), (8, 13), (8, 14), (6, 8), (8, 15), (5, 18), (5, 19), (5, 20), (5, 21), (5, 22), (5, 23), (6, 0), (3, 21), (6, 1), (6, 2), (6, 3), (6, 4)] (by decide +kernel)) (by decide +kernel)
theorem lbc_wsJ4_append_cf468_r4 : GoodIn wsL_book wsJ4_append_cf468_r4 := goodIn_sub (lb_places [(6, 5), (6, 6), (6, 7), (6, 9), (6, 10), (6, 11), (6, 12), (6, 13), (6, 14), (6, 15), (4, 3), (4, 4), (4, 5), (6, 16), (6, 17), (4, 8), (6, 18), (4, 10), (6, 19), (6, 20), (4, 13), (6, 21), (4, 15), (4, 16)] (by decide +kernel)) (by decide +kernel)
theorem lbc_wsJ4_append_cf468_r5 : GoodIn wsL_book wsJ4_append_cf468_r5 := goodIn_sub (lb_places [(4, 17), (3, 23), (4, 18), (4, 19), (8, 16), (8, 17), (8, 18), (8, 19), (8, 20), (8, 21), (8, 22), (8, 23), (9, 0), (9, 1), (9, 2), (9, 3)] (by decide +kernel)) (by decide +kernel)
theorem lbc_wsJ4_append_cf468 : GoodIn wsL_book wsJ4_append_cf468 := (lb_one 8 8 (by decide +kernel) (by decide +kernel) (goodIn_app (goodIn_app lbc_wsJ4_append_cf468_r1 (goodIn_app lbc_wsJ4_append_cf468_r2 (goodIn_app lbc_wsJ4_append_cf468_r3 (goodIn_app lbc_wsJ4_append_cf468_r4 lbc_wsJ4_append_cf468_r5)))) lbk_14))
theorem gL_book_J4_append_cf468 : GoodIn wsL_book (wsV RL 42 RJ4 yJ4_append_cf468 wsJ4_append_cf468) := goodIn_app (goodIn_sub (lb_places [(8, 5), (8, 6), (8, 7), (1, 4)] (by decide +kernel)) (by decide +kernel)) lbc_wsJ4_append_cf468
theorem lbl_3 : GoodIn wsL_book [.methodLink RL 32 yL_draw, .static yL_draw, .initialized RL, .code yL_draw cL_draw 2 (some .int), .constant RL 23 (1664525), .constant RL 24 (1013904223)] := goodIn_sub (lb_places [(0, 19), (0, 20), (0, 21), (0, 22), (0, 23), (1, 0)] (by decide +kernel)) (by decide +kernel)
theorem lbc_wsL_letters : GoodIn wsL_book wsL_letters := (lb_one 9 6 (by decide +kernel) (by decide +kernel) lbl_3)
theorem gL_book_L_letters : GoodIn wsL_book (va_wsS RL 94 yL_letters wsL_letters) := goodIn_app (goodIn_sub (lb_places [(9, 4), (9, 5), (0, 21)] (by decide +kernel)) (by decide +kernel)) lbc_wsL_letters
theorem lbl_4 : GoodIn wsL_book [.fieldLink RX10 49 "PieceDepositsLaw$Book" "pieces" "I", .fieldLink RX10 16 "PieceDepositsLaw$Book" "code" "[I"] := goodIn_sub (lb_places [(9, 11), (0, 11)] (by decide +kernel)) (by decide +kernel)
theorem lbc_wsX10_find : GoodIn wsL_book wsX10_find := (lb_one 9 10 (by decide +kernel) (by decide +kernel) (goodIn_app lbl_4 lbk_13))
theorem gL_book_X10_find : GoodIn wsL_book (wsV RL 97 RX10 yX10_find wsX10_find) := goodIn_app (goodIn_sub (lb_places [(9, 7), (9, 8), (9, 9), (0, 2)] (by decide +kernel)) (by decide +kernel)) lbc_wsX10_find
theorem lbl_5 : GoodIn wsL_book [.fieldLink RX10 16 "PieceDepositsLaw$Book" "code" "[I", .fieldLink RX10 49 "PieceDepositsLaw$Book" "pieces" "I", .fieldLink RX10 19 "PieceDepositsLaw$Book" "paid" "[I", .fieldLink RX10 22 "PieceDepositsLaw$Book" "owner" "[I", .fieldLink RX10 25 "PieceDepositsLaw$Book" "uses" "[I", .fieldLink RX10 28 "PieceDepositsLaw$Book" "idle" "[I", .fieldLink RX10 100 "PieceDepositsLaw$Book" "time" "I"] := goodIn_sub (lb_places [(0, 11), (9, 11), (0, 12), (0, 13), (0, 14), (0, 15), (9, 16)] (by decide +kernel)) (by decide +kernel)
theorem lbc_wsX10_comes : GoodIn wsL_book wsX10_comes := (lb_one 9 15 (by decide +kernel) (by decide +kernel) (goodIn_app lbl_5 lbk_13))
theorem gL_book_X10_comes : GoodIn wsL_book (wsV RL 100 RX10 yX10_comes wsX10_comes) := goodIn_app (goodIn_sub (lb_places [(9, 12), (9, 13), (9, 14), (0, 2)] (by decide +kernel)) (by decide +kernel)) lbc_wsX10_comes
theorem lbc_wsL_add_r1 : GoodIn wsL_book wsL_add_r1 := goodIn_sub (lb_places [(9, 20), (9, 21), (0, 2), (9, 22), (9, 23), (10, 0), (7, 14), (10, 1), (10, 2), (8, 5), (8, 6), (8, 7), (1, 4), (8, 8), (8, 9), (8, 10), (1, 8), (8, 11), (1, 10), (8, 12), (1, 12), (1, 18), (1, 19), (1, 20)] (by decide +kernel)) (by decide +kernel)
theorem lbc_wsL_add_r2 : GoodIn wsL_book wsL_add_r2 := goodIn_sub (lb_places [(1, 21), (1, 22), (1, 23), (2, 0), (2, 1), (2, 2), (2, 3), (2, 4), (2, 5), (2, 6), (2, 7), (2, 8), (2, 9), (2, 10), (2, 11), (2, 12), (2, 13), (2, 14), (2, 15), (2, 16), (2, 17), (2, 18), (2, 19), (2, 20)] (by decide +kernel)) (by decide +kernel)
theorem lbc_wsL_add_r3 : GoodIn wsL_book wsL_add_r3 := goodIn_sub (lb_places [(2, 21), (2, 22), (2, 23), (3, 0), (3, 1), (3, 2), (3, 3), (3, 4), (3, 5), (3, 6), (3, 7), (3, 8), (3, 9), (3, 10), (3, 11), (3, 12), (3, 13), (3, 14), (3, 15), (3, 16), (3, 17), (3, 18), (8, 13), (8, 14)] (by decide +kernel)) (by decide +kernel)
theorem lbc_wsL_add_r4 : GoodIn wsL_book wsL_add_r4 := goodIn_sub (lb_places [(6, 8), (8, 15), (5, 18), (5, 19), (5, 20), (5, 21), (5, 22), (5, 23), (6, 0), (3, 21), (6, 1), (6, 2), (6, 3), (6, 4), (6, 5), (6, 6), (6, 7), (6, 9), (6, 10), (6, 11), (6, 12), (6, 13), (6, 14), (6, 15)] (by decide +kernel)) (by decide +kernel)
theorem lbc_wsL_add_r5 : GoodIn wsL_book wsL_add_r5 := goodIn_sub (lb_places [(4, 3), (4, 4), (4, 5), (6, 16), (6, 17), (4, 8), (6, 18), (4, 10), (6, 19), (6, 20), (4, 13), (6, 21), (4, 15), (4, 16), (4, 17), (3, 23), (4, 18), (4, 19), (8, 16), (8, 17), (8, 18), (8, 19), (8, 20), (8, 21)] (by decide +kernel)) (by decide +kernel)
theorem lbc_wsL_add_r6 : GoodIn wsL_book wsL_add_r6 := goodIn_sub (lb_places [(8, 22), (8, 23), (9, 0), (9, 1), (9, 2), (9, 3)] (by decide +kernel)) (by decide +kernel)
theorem lbc_wsL_add : GoodIn wsL_book wsL_add := (lb_one 9 19 (by decide +kernel) (by decide +kernel) (goodIn_app (goodIn_app lbc_wsL_add_r1 (goodIn_app lbc_wsL_add_r2 (goodIn_app lbc_wsL_add_r3 (goodIn_app lbc_wsL_add_r4 (goodIn_app lbc_wsL_add_r5 lbc_wsL_add_r6))))) lbk_14))
theorem gL_book_L_add : GoodIn wsL_book (va_wsS RL 48 yL_add wsL_add) := goodIn_app (goodIn_sub (lb_places [(9, 17), (9, 18), (0, 21)] (by decide +kernel)) (by decide +kernel)) lbc_wsL_add
theorem lbc_wsX10_best_r1 : GoodIn wsL_book wsX10_best_r1 := goodIn_sub (lb_places [(10, 7), (9, 21), (0, 2), (9, 22), (9, 23), (10, 0), (7, 14), (10, 1), (10, 2), (10, 8), (10, 9), (10, 10), (10, 11), (10, 12), (10, 13), (10, 14), (10, 15), (10, 16), (9, 8), (9, 9), (9, 10), (9, 11), (0, 11), (10, 17)] (by decide +kernel)) (by decide +kernel)
theorem lbc_wsX10_best_r2 : GoodIn wsL_book wsX10_best_r2 := goodIn_sub (lb_places [(10, 18), (10, 19), (10, 20), (10, 21), (10, 22), (10, 23), (11, 0), (11, 1), (11, 2), (11, 3), (11, 4), (11, 5), (11, 6), (11, 7)] (by decide +kernel)) (by decide +kernel)
theorem lbc_wsX10_best : GoodIn wsL_book wsX10_best := (lb_one 10 6 (by decide +kernel) (by decide +kernel) (goodIn_app (goodIn_app lbc_wsX10_best_r1 lbc_wsX10_best_r2) lbk_13))
theorem gL_book_X10_best : GoodIn wsL_book (wsV RL 106 RX10 yX10_best wsX10_best) := goodIn_app (goodIn_sub (lb_places [(10, 3), (10, 4), (10, 5), (0, 2)] (by decide +kernel)) (by decide +kernel)) lbc_wsX10_best
theorem lbc_wsX10_why_r1 : GoodIn wsL_book wsX10_why_r1 := goodIn_sub (lb_places [(11, 12), (9, 11), (0, 9), (10, 12), (11, 13), (11, 14), (11, 15), (0, 2), (11, 16), (10, 23), (11, 0), (7, 14), (11, 1), (11, 2), (11, 3), (11, 4), (11, 17), (11, 18), (11, 19), (11, 20), (11, 21), (11, 22), (11, 23), (12, 0)] (by decide +kernel)) (by decide +kernel)
theorem lbc_wsX10_why_r2 : GoodIn wsL_book wsX10_why_r2 := goodIn_sub (lb_places [(10, 7), (9, 21), (9, 22), (9, 23), (10, 0), (10, 1), (10, 2), (10, 13), (10, 14), (10, 15), (10, 16), (9, 8), (9, 9), (9, 10), (0, 11), (10, 17), (10, 18), (10, 19), (10, 20), (10, 21), (10, 22)] (by decide +kernel)) (by decide +kernel)
theorem lbc_wsX10_why : GoodIn wsL_book wsX10_why := (lb_one 11 11 (by decide +kernel) (by decide +kernel) (goodIn_app (goodIn_app lbc_wsX10_why_r1 lbc_wsX10_why_r2) lbk_13))
theorem gL_book_X10_why : GoodIn wsL_book (wsV RL 110 RX10 yX10_why wsX10_why) := goodIn_app (goodIn_sub (lb_places [(11, 8), (11, 9), (11, 10), (0, 2)] (by decide +kernel)) (by decide +kernel)) lbc_wsX10_why
theorem lbc_wsX10_store_r1 : GoodIn wsL_book wsX10_store_r1 := goodIn_sub (lb_places [(10, 12), (0, 9), (12, 5), (0, 10), (0, 16), (11, 12), (0, 17), (0, 18), (12, 6), (10, 4), (10, 5), (0, 2), (10, 6), (10, 7), (9, 21), (9, 22), (9, 23), (10, 0), (7, 14), (10, 1), (10, 2), (10, 8), (10, 9), (10, 10)] (by decide +kernel)) (by decide +kernel)
theorem lbc_wsX10_store_r2 : GoodIn wsL_book wsX10_store_r2 := goodIn_sub (lb_places [(10, 11), (10, 13), (10, 14), (10, 15), (10, 16), (9, 8), (9, 9), (9, 10), (9, 11), (0, 11), (10, 17), (10, 18), (10, 19), (10, 20), (10, 21), (10, 22), (10, 23), (11, 0), (11, 1), (11, 2), (11, 3), (11, 4), (11, 5), (11, 6)] (by decide +kernel)) (by decide +kernel)
theorem lbc_wsX10_store_r3 : GoodIn wsL_book wsX10_store_r3 := goodIn_sub (lb_places [(11, 7), (11, 21), (11, 22), (11, 23), (12, 0), (12, 7), (12, 8), (12, 9), (12, 10), (12, 11), (12, 12), (9, 13), (9, 14), (9, 15), (0, 12), (0, 13), (0, 14), (0, 15), (9, 16), (12, 13), (12, 14), (12, 15), (12, 16)] (by decide +kernel)) (by decide +kernel)
theorem lbc_wsX10_store : GoodIn wsL_book wsX10_store := (lb_one 12 4 (by decide +kernel) (by decide +kernel) (goodIn_app (goodIn_app lbc_wsX10_store_r1 (goodIn_app lbc_wsX10_store_r2 lbc_wsX10_store_r3)) lbk_13))
theorem gL_book_X10_store : GoodIn wsL_book (wsV RL 114 RX10 yX10_store wsX10_store) := goodIn_app (goodIn_sub (lb_places [(12, 1), (12, 2), (12, 3), (0, 2)] (by decide +kernel)) (by decide +kernel)) lbc_wsX10_store
