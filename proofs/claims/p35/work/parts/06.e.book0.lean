set_option maxRecDepth 20000
def lbT : Nat → List Cond
  | 0 => wsL_book_r1
  | 1 => wsL_book_r2
  | 2 => wsL_book_r3
  | 3 => wsL_book_r4
  | 4 => wsL_book_r5
  | 5 => wsL_book_r6
  | 6 => wsL_book_r7
  | 7 => wsL_book_r8
  | 8 => wsL_book_r9
  | 9 => wsL_book_r10
  | 10 => wsL_book_r11
  | 11 => wsL_book_r12
  | 12 => wsL_book_r13
  | 13 => wsX100
  | 14 => wsJ40
  | 15 => wsJ00
  | _ => []
theorem lbT_in (k : Nat) (w : Cond) (h : w ∈ lbT k) : w ∈ wsL_book := by
  unfold wsL_book
  unfold lbT at h
  split at h
  · exact (List.mem_cons_of_mem _ (List.mem_append_left _ (List.mem_append_left _ (List.mem_append_left _ (List.mem_append_left _ h)))))
  · exact (List.mem_cons_of_mem _ (List.mem_append_left _ (List.mem_append_left _ (List.mem_append_left _ (List.mem_append_right _ (List.mem_append_left _ h))))))
  · exact (List.mem_cons_of_mem _ (List.mem_append_left _ (List.mem_append_left _ (List.mem_append_left _ (List.mem_append_right _ (List.mem_append_right _ (List.mem_append_left _ h)))))))
  · exact (List.mem_cons_of_mem _ (List.mem_append_left _ (List.mem_append_left _ (List.mem_append_left _ (List.mem_append_right _ (List.mem_append_right _ (List.mem_append_right _ (List.mem_append_left _ h))))))))
  · exact (List.mem_cons_of_mem _ (List.mem_append_left _ (List.mem_append_left _ (List.mem_append_left _ (List.mem_append_right _ (List.mem_append_right _ (List.mem_append_right _ (List.mem_append_right _ (List.mem_append_left _ h)))))))))
  · exact (List.mem_cons_of_mem _ (List.mem_append_left _ (List.mem_append_left _ (List.mem_append_left _ (List.mem_append_right _ (List.mem_append_right _ (List.mem_append_right _ (List.mem_append_right _ (List.mem_append_right _ (List.mem_append_left _ h))))))))))
  · exact (List.mem_cons_of_mem _ (List.mem_append_left _ (List.mem_append_left _ (List.mem_append_left _ (List.mem_append_right _ (List.mem_append_right _ (List.mem_append_right _ (List.mem_append_right _ (List.mem_append_right _ (List.mem_append_right _ (List.mem_append_left _ h)))))))))))
  · exact (List.mem_cons_of_mem _ (List.mem_append_left _ (List.mem_append_left _ (List.mem_append_left _ (List.mem_append_right _ (List.mem_append_right _ (List.mem_append_right _ (List.mem_append_right _ (List.mem_append_right _ (List.mem_append_right _ (List.mem_append_right _ (List.mem_append_left _ h))))))))))))
  · exact (List.mem_cons_of_mem _ (List.mem_append_left _ (List.mem_append_left _ (List.mem_append_left _ (List.mem_append_right _ (List.mem_append_right _ (List.mem_append_right _ (List.mem_append_right _ (List.mem_append_right _ (List.mem_append_right _ (List.mem_append_right _ (List.mem_append_right _ (List.mem_append_left _ h)))))))))))))
  · exact (List.mem_cons_of_mem _ (List.mem_append_left _ (List.mem_append_left _ (List.mem_append_left _ (List.mem_append_right _ (List.mem_append_right _ (List.mem_append_right _ (List.mem_append_right _ (List.mem_append_right _ (List.mem_append_right _ (List.mem_append_right _ (List.mem_append_right _ (List.mem_append_right _ (List.mem_append_left _ h))))))))))))))
  · exact (List.mem_cons_of_mem _ (List.mem_append_left _ (List.mem_append_left _ (List.mem_append_left _ (List.mem_append_right _ (List.mem_append_right _ (List.mem_append_right _ (List.mem_append_right _ (List.mem_append_right _ (List.mem_append_right _ (List.mem_append_right _ (List.mem_append_right _ (List.mem_append_right _ (List.mem_append_right _ (List.mem_append_left _ h)))))))))))))))
  · exact (List.mem_cons_of_mem _ (List.mem_append_left _ (List.mem_append_left _ (List.mem_append_left _ (List.mem_append_right _ (List.mem_append_right _ (List.mem_append_right _ (List.mem_append_right _ (List.mem_append_right _ (List.mem_append_right _ (List.mem_append_right _ (List.mem_append_right _ (List.mem_append_right _ (List.mem_append_right _ (List.mem_append_right _ (List.mem_append_left _ h))))))))))))))))
  · exact (List.mem_cons_of_mem _ (List.mem_append_left _ (List.mem_append_left _ (List.mem_append_left _ (List.mem_append_right _ (List.mem_append_right _ (List.mem_append_right _ (List.mem_append_right _ (List.mem_append_right _ (List.mem_append_right _ (List.mem_append_right _ (List.mem_append_right _ (List.mem_append_right _ (List.mem_append_right _ (List.mem_append_right _ (List.mem_append_right _ h))))))))))))))))
  · exact (List.mem_cons_of_mem _ (List.mem_append_left _ (List.mem_append_left _ (List.mem_append_right _ h))))
  · exact (List.mem_cons_of_mem _ (List.mem_append_left _ (List.mem_append_right _ h)))
  · exact (List.mem_cons_of_mem _ (List.mem_append_right _ h))
  · cases h
theorem lb_places {ws : List Cond} (ps : List (Nat × Nat)) (hp : ws = ps.filterMap (fun p => (lbT p.1)[p.2]?)) : ∀ w ∈ ws, w ∈ wsL_book := by
  intro w hw
  rw [hp] at hw
  obtain ⟨p, -, hi⟩ := List.mem_filterMap.mp hw
  exact lbT_in p.1 w (by first | exact List.mem_of_getElem? hi | exact List.getElem?_mem hi)
theorem lb_one {c : Cond} {a : List Cond} (k i : Nat) (h : (lbT k)[i]? = some c) (hg : goodWord c = true) (ha : GoodIn wsL_book a) : GoodIn wsL_book (c :: a) := by
  intro w hw
  rcases List.mem_cons.mp hw with rfl | hw
  · exact ⟨lbT_in k w (by first | exact List.mem_of_getElem? h | exact List.getElem?_mem h), good_of_word hg⟩
  · exact ha w hw
theorem lb_nil : GoodIn wsL_book [] := fun _ h => absurd h List.not_mem_nil
