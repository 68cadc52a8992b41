abbrev rmX9_appendFour : Room := { frames := 0, cells := 0, slots := 0, locals := 0 }
theorem iX9_appendFour_X9 : ∀ w ∈ u_ws RX9 TX9 10, w ∈ wsX9_appendFour := by decide +kernel
theorem h0X9_appendFour : yX9_appendFour.cls = RX9 ∧ yX9_appendFour.cls ≠ "java/lang/invoke/MethodHandle" ∧ yX9_appendFour.cls ≠ "java/lang/invoke/VarHandle" ∧ (parseMethodDescriptor yX9_appendFour.desc).map (fun d => d.parameters.length) = some 1 := by decide +kernel
abbrev rmX9_append : Room := { frames := 1, cells := 0, slots := 0, locals := 22 }
theorem iX9_append_X9 : ∀ w ∈ u_ws RX9 TX9 10, w ∈ wsX9_append := by decide +kernel
theorem h0X9_append : yX9_append.cls = RX9 ∧ yX9_append.cls ≠ "java/lang/invoke/MethodHandle" ∧ yX9_append.cls ≠ "java/lang/invoke/VarHandle" ∧ (parseMethodDescriptor yX9_append.desc).map (fun d => d.parameters.length) = some 5 := by decide +kernel
abbrev rmX9_parse : Room := { frames := 7, cells := 0, slots := 0, locals := 165 }
theorem iX9_parse_X5 : ∀ w ∈ u_ws RX5 TX5 11, w ∈ wsX9_parse := by decide +kernel
theorem iX9_parse_X9 : ∀ w ∈ u_ws RX9 TX9 10, w ∈ wsX9_parse := by decide +kernel
theorem h0X9_parse : yX9_parse.cls = RX9 ∧ yX9_parse.cls ≠ "java/lang/invoke/MethodHandle" ∧ yX9_parse.cls ≠ "java/lang/invoke/VarHandle" ∧ (parseMethodDescriptor yX9_parse.desc).map (fun d => d.parameters.length) = some 1 := by decide +kernel
abbrev rmX9_size : Room := { frames := 0, cells := 0, slots := 0, locals := 0 }
theorem iX9_size_X1 : ∀ w ∈ u_ws RX1 TX1 8, w ∈ wsX9_size := by decide +kernel
theorem iX9_size_X3 : ∀ w ∈ u_ws RX3 TX3 2, w ∈ wsX9_size := by decide +kernel
theorem iX9_size_X6 : ∀ w ∈ u_ws RX6 TX6 6, w ∈ wsX9_size := by decide +kernel
theorem iX9_size_X7 : ∀ w ∈ u_ws RX7 TX7 3, w ∈ wsX9_size := by decide +kernel
theorem iX9_size_X8 : ∀ w ∈ u_ws RX8 TX8 5, w ∈ wsX9_size := by decide +kernel
theorem iX9_size_X9 : ∀ w ∈ u_ws RX9 TX9 10, w ∈ wsX9_size := by decide +kernel
theorem h0X9_size : yX9_size.cls = RX9 ∧ yX9_size.cls ≠ "java/lang/invoke/MethodHandle" ∧ yX9_size.cls ≠ "java/lang/invoke/VarHandle" ∧ (parseMethodDescriptor yX9_size.desc).map (fun d => d.parameters.length) = some 1 := by decide +kernel
abbrev rmX9_takeWord : Room := { frames := 1, cells := 0, slots := 0, locals := 25 }
theorem iX9_takeWord_X9 : ∀ w ∈ u_ws RX9 TX9 10, w ∈ wsX9_takeWord := by decide +kernel
theorem h0X9_takeWord : yX9_takeWord.cls = RX9 ∧ yX9_takeWord.cls ≠ "java/lang/invoke/MethodHandle" ∧ yX9_takeWord.cls ≠ "java/lang/invoke/VarHandle" ∧ (parseMethodDescriptor yX9_takeWord.desc).map (fun d => d.parameters.length) = some 0 := by decide +kernel
abbrev rmX9_requireBelow : Room := { frames := 0, cells := 0, slots := 0, locals := 0 }
theorem h0X9_requireBelow : yX9_requireBelow.cls = RX9 ∧ yX9_requireBelow.cls ≠ "java/lang/invoke/MethodHandle" ∧ yX9_requireBelow.cls ≠ "java/lang/invoke/VarHandle" ∧ (parseMethodDescriptor yX9_requireBelow.desc).map (fun d => d.parameters.length) = some 2 := by decide +kernel
abbrev rmX9_find : Room := { frames := 2, cells := 0, slots := 0, locals := 48 }
theorem iX9_find_X1 : ∀ w ∈ u_ws RX1 TX1 8, w ∈ wsX9_find := by decide +kernel
theorem iX9_find_X9 : ∀ w ∈ u_ws RX9 TX9 10, w ∈ wsX9_find := by decide +kernel
theorem h0X9_find : yX9_find.cls = RX9 ∧ yX9_find.cls ≠ "java/lang/invoke/MethodHandle" ∧ yX9_find.cls ≠ "java/lang/invoke/VarHandle" ∧ (parseMethodDescriptor yX9_find.desc).map (fun d => d.parameters.length) = some 1 := by decide +kernel
abbrev rmX9_requireUser : Room := { frames := 0, cells := 0, slots := 0, locals := 0 }
theorem iX9_requireUser_X1 : ∀ w ∈ u_ws RX1 TX1 8, w ∈ wsX9_requireUser := by decide +kernel
theorem iX9_requireUser_X7 : ∀ w ∈ u_ws RX7 TX7 3, w ∈ wsX9_requireUser := by decide +kernel
theorem iX9_requireUser_X9 : ∀ w ∈ u_ws RX9 TX9 10, w ∈ wsX9_requireUser := by decide +kernel
theorem h0X9_requireUser : yX9_requireUser.cls = RX9 ∧ yX9_requireUser.cls ≠ "java/lang/invoke/MethodHandle" ∧ yX9_requireUser.cls ≠ "java/lang/invoke/VarHandle" ∧ (parseMethodDescriptor yX9_requireUser.desc).map (fun d => d.parameters.length) = some 1 := by decide +kernel
abbrev rmX9_user : Room := { frames := 2, cells := 0, slots := 0, locals := 44 }
theorem iX9_user_X1 : ∀ w ∈ u_ws RX1 TX1 8, w ∈ wsX9_user := by decide +kernel
theorem iX9_user_X9 : ∀ w ∈ u_ws RX9 TX9 10, w ∈ wsX9_user := by decide +kernel
theorem h0X9_user : yX9_user.cls = RX9 ∧ yX9_user.cls ≠ "java/lang/invoke/MethodHandle" ∧ yX9_user.cls ≠ "java/lang/invoke/VarHandle" ∧ (parseMethodDescriptor yX9_user.desc).map (fun d => d.parameters.length) = some 2 := by decide +kernel
abbrev rmX9_requirePiece : Room := { frames := 0, cells := 0, slots := 0, locals := 0 }
theorem iX9_requirePiece_X1 : ∀ w ∈ u_ws RX1 TX1 8, w ∈ wsX9_requirePiece := by decide +kernel
theorem iX9_requirePiece_X6 : ∀ w ∈ u_ws RX6 TX6 6, w ∈ wsX9_requirePiece := by decide +kernel
theorem iX9_requirePiece_X9 : ∀ w ∈ u_ws RX9 TX9 10, w ∈ wsX9_requirePiece := by decide +kernel
theorem h0X9_requirePiece : yX9_requirePiece.cls = RX9 ∧ yX9_requirePiece.cls ≠ "java/lang/invoke/MethodHandle" ∧ yX9_requirePiece.cls ≠ "java/lang/invoke/VarHandle" ∧ (parseMethodDescriptor yX9_requirePiece.desc).map (fun d => d.parameters.length) = some 1 := by decide +kernel
abbrev rmX9_piece : Room := { frames := 1, cells := 0, slots := 0, locals := 22 }
theorem iX9_piece_X1 : ∀ w ∈ u_ws RX1 TX1 8, w ∈ wsX9_piece := by decide +kernel
theorem iX9_piece_X6 : ∀ w ∈ u_ws RX6 TX6 6, w ∈ wsX9_piece := by decide +kernel
theorem iX9_piece_X9 : ∀ w ∈ u_ws RX9 TX9 10, w ∈ wsX9_piece := by decide +kernel
theorem h0X9_piece : yX9_piece.cls = RX9 ∧ yX9_piece.cls ≠ "java/lang/invoke/MethodHandle" ∧ yX9_piece.cls ≠ "java/lang/invoke/VarHandle" ∧ (parseMethodDescriptor yX9_piece.desc).map (fun d => d.parameters.length) = some 2 := by decide +kernel
abbrev rmX9_pieceLetter : Room := { frames := 1, cells := 0, slots := 0, locals := 23 }
theorem iX9_pieceLetter_X1 : ∀ w ∈ u_ws RX1 TX1 8, w ∈ wsX9_pieceLetter := by decide +kernel
theorem iX9_pieceLetter_X6 : ∀ w ∈ u_ws RX6 TX6 6, w ∈ wsX9_pieceLetter := by decide +kernel
theorem iX9_pieceLetter_X9 : ∀ w ∈ u_ws RX9 TX9 10, w ∈ wsX9_pieceLetter := by decide +kernel
theorem h0X9_pieceLetter : yX9_pieceLetter.cls = RX9 ∧ yX9_pieceLetter.cls ≠ "java/lang/invoke/MethodHandle" ∧ yX9_pieceLetter.cls ≠ "java/lang/invoke/VarHandle" ∧ (parseMethodDescriptor yX9_pieceLetter.desc).map (fun d => d.parameters.length) = some 2 := by decide +kernel
abbrev rmX9_requireWord : Room := { frames := 0, cells := 0, slots := 0, locals := 0 }
theorem iX9_requireWord_X1 : ∀ w ∈ u_ws RX1 TX1 8, w ∈ wsX9_requireWord := by decide +kernel
theorem iX9_requireWord_X8 : ∀ w ∈ u_ws RX8 TX8 5, w ∈ wsX9_requireWord := by decide +kernel
theorem iX9_requireWord_X9 : ∀ w ∈ u_ws RX9 TX9 10, w ∈ wsX9_requireWord := by decide +kernel
theorem h0X9_requireWord : yX9_requireWord.cls = RX9 ∧ yX9_requireWord.cls ≠ "java/lang/invoke/MethodHandle" ∧ yX9_requireWord.cls ≠ "java/lang/invoke/VarHandle" ∧ (parseMethodDescriptor yX9_requireWord.desc).map (fun d => d.parameters.length) = some 1 := by decide +kernel
abbrev rmX9_word : Room := { frames := 1, cells := 0, slots := 0, locals := 22 }
theorem iX9_word_X1 : ∀ w ∈ u_ws RX1 TX1 8, w ∈ wsX9_word := by decide +kernel
theorem iX9_word_X8 : ∀ w ∈ u_ws RX8 TX8 5, w ∈ wsX9_word := by decide +kernel
theorem iX9_word_X9 : ∀ w ∈ u_ws RX9 TX9 10, w ∈ wsX9_word := by decide +kernel
theorem h0X9_word : yX9_word.cls = RX9 ∧ yX9_word.cls ≠ "java/lang/invoke/MethodHandle" ∧ yX9_word.cls ≠ "java/lang/invoke/VarHandle" ∧ (parseMethodDescriptor yX9_word.desc).map (fun d => d.parameters.length) = some 2 := by decide +kernel
abbrev rmX9_wordLetter : Room := { frames := 2, cells := 0, slots := 0, locals := 50 }
theorem iX9_wordLetter_X9 : ∀ w ∈ u_ws RX9 TX9 10, w ∈ wsX9_wordLetter := by decide +kernel
theorem h0X9_wordLetter : yX9_wordLetter.cls = RX9 ∧ yX9_wordLetter.cls ≠ "java/lang/invoke/MethodHandle" ∧ yX9_wordLetter.cls ≠ "java/lang/invoke/VarHandle" ∧ (parseMethodDescriptor yX9_wordLetter.desc).map (fun d => d.parameters.length) = some 2 := by decide +kernel
abbrev rmX9_part : Room := { frames := 1, cells := 0, slots := 0, locals := 22 }
theorem iX9_part_X1 : ∀ w ∈ u_ws RX1 TX1 8, w ∈ wsX9_part := by decide +kernel
theorem iX9_part_X9 : ∀ w ∈ u_ws RX9 TX9 10, w ∈ wsX9_part := by decide +kernel
theorem h0X9_part : yX9_part.cls = RX9 ∧ yX9_part.cls ≠ "java/lang/invoke/MethodHandle" ∧ yX9_part.cls ≠ "java/lang/invoke/VarHandle" ∧ (parseMethodDescriptor yX9_part.desc).map (fun d => d.parameters.length) = some 2 := by decide +kernel
abbrev rmX9_quote : Room := { frames := 4, cells := 0, slots := 0, locals := 100 }
theorem iX9_quote_X2 : ∀ w ∈ u_ws RX2 TX2 12, w ∈ wsX9_quote := by decide +kernel
theorem iX9_quote_X9 : ∀ w ∈ u_ws RX9 TX9 10, w ∈ wsX9_quote := by decide +kernel
theorem h0X9_quote : yX9_quote.cls = RX9 ∧ yX9_quote.cls ≠ "java/lang/invoke/MethodHandle" ∧ yX9_quote.cls ≠ "java/lang/invoke/VarHandle" ∧ (parseMethodDescriptor yX9_quote.desc).map (fun d => d.parameters.length) = some 1 := by decide +kernel
abbrev rmX9_whyNotStore : Room := { frames := 4, cells := 0, slots := 0, locals := 100 }
theorem iX9_whyNotStore_X9 : ∀ w ∈ u_ws RX9 TX9 10, w ∈ wsX9_whyNotStore := by decide +kernel
theorem h0X9_whyNotStore : yX9_whyNotStore.cls = RX9 ∧ yX9_whyNotStore.cls ≠ "java/lang/invoke/MethodHandle" ∧ yX9_whyNotStore.cls ≠ "java/lang/invoke/VarHandle" ∧ (parseMethodDescriptor yX9_whyNotStore.desc).map (fun d => d.parameters.length) = some 1 := by decide +kernel
abbrev rmX9_ways : Room := { frames := 4, cells := 0, slots := 0, locals := 102 }
theorem iX9_ways_X1 : ∀ w ∈ u_ws RX1 TX1 8, w ∈ wsX9_ways := by decide +kernel
theorem iX9_ways_X8 : ∀ w ∈ u_ws RX8 TX8 5, w ∈ wsX9_ways := by decide +kernel
theorem iX9_ways_X9 : ∀ w ∈ u_ws RX9 TX9 10, w ∈ wsX9_ways := by decide +kernel
theorem h0X9_ways : yX9_ways.cls = RX9 ∧ yX9_ways.cls ≠ "java/lang/invoke/MethodHandle" ∧ yX9_ways.cls ≠ "java/lang/invoke/VarHandle" ∧ (parseMethodDescriptor yX9_ways.desc).map (fun d => d.parameters.length) = some 1 := by decide +kernel
abbrev rmX9_fewestPieces : Room := { frames := 4, cells := 0, slots := 0, locals := 100 }
theorem iX9_fewestPieces_X1 : ∀ w ∈ u_ws RX1 TX1 8, w ∈ wsX9_fewestPieces := by decide +kernel
theorem iX9_fewestPieces_X2 : ∀ w ∈ u_ws RX2 TX2 12, w ∈ wsX9_fewestPieces := by decide +kernel
theorem iX9_fewestPieces_X8 : ∀ w ∈ u_ws RX8 TX8 5, w ∈ wsX9_fewestPieces := by decide +kernel
theorem iX9_fewestPieces_X9 : ∀ w ∈ u_ws RX9 TX9 10, w ∈ wsX9_fewestPieces := by decide +kernel
theorem h0X9_fewestPieces : yX9_fewestPieces.cls = RX9 ∧ yX9_fewestPieces.cls ≠ "java/lang/invoke/MethodHandle" ∧ yX9_fewestPieces.cls ≠ "java/lang/invoke/VarHandle" ∧ (parseMethodDescriptor yX9_fewestPieces.desc).map (fun d => d.parameters.length) = some 1 := by decide +kernel
abbrev rmX9_fewest : Room := { frames := 5, cells := 0, slots := 0, locals := 121 }
theorem h0X9_fewest : yX9_fewest.cls = RX9 ∧ yX9_fewest.cls ≠ "java/lang/invoke/MethodHandle" ∧ yX9_fewest.cls ≠ "java/lang/invoke/VarHandle" ∧ (parseMethodDescriptor yX9_fewest.desc).map (fun d => d.parameters.length) = some 1 := by decide +kernel
abbrev rmX9_saving : Room := { frames := 5, cells := 0, slots := 0, locals := 121 }
theorem iX9_saving_X1 : ∀ w ∈ u_ws RX1 TX1 8, w ∈ wsX9_saving := by decide +kernel
theorem iX9_saving_X8 : ∀ w ∈ u_ws RX8 TX8 5, w ∈ wsX9_saving := by decide +kernel
theorem iX9_saving_X9 : ∀ w ∈ u_ws RX9 TX9 10, w ∈ wsX9_saving := by decide +kernel
theorem h0X9_saving : yX9_saving.cls = RX9 ∧ yX9_saving.cls ≠ "java/lang/invoke/MethodHandle" ∧ yX9_saving.cls ≠ "java/lang/invoke/VarHandle" ∧ (parseMethodDescriptor yX9_saving.desc).map (fun d => d.parameters.length) = some 1 := by decide +kernel
abbrev rmX9_bestPart : Room := { frames := 5, cells := 0, slots := 0, locals := 125 }
theorem iX9_bestPart_X0 : ∀ w ∈ u_ws RX0 TX0 9, w ∈ wsX9_bestPart := by decide +kernel
theorem iX9_bestPart_X1 : ∀ w ∈ u_ws RX1 TX1 8, w ∈ wsX9_bestPart := by decide +kernel
theorem iX9_bestPart_X8 : ∀ w ∈ u_ws RX8 TX8 5, w ∈ wsX9_bestPart := by decide +kernel
theorem iX9_bestPart_X9 : ∀ w ∈ u_ws RX9 TX9 10, w ∈ wsX9_bestPart := by decide +kernel
theorem h0X9_bestPart : yX9_bestPart.cls = RX9 ∧ yX9_bestPart.cls ≠ "java/lang/invoke/MethodHandle" ∧ yX9_bestPart.cls ≠ "java/lang/invoke/VarHandle" ∧ (parseMethodDescriptor yX9_bestPart.desc).map (fun d => d.parameters.length) = some 2 := by decide +kernel
abbrev rmX9_shared : Room := { frames := 2, cells := 0, slots := 0, locals := 46 }
theorem iX9_shared_X1 : ∀ w ∈ u_ws RX1 TX1 8, w ∈ wsX9_shared := by decide +kernel
theorem iX9_shared_X6 : ∀ w ∈ u_ws RX6 TX6 6, w ∈ wsX9_shared := by decide +kernel
theorem iX9_shared_X9 : ∀ w ∈ u_ws RX9 TX9 10, w ∈ wsX9_shared := by decide +kernel
theorem h0X9_shared : yX9_shared.cls = RX9 ∧ yX9_shared.cls ≠ "java/lang/invoke/MethodHandle" ∧ yX9_shared.cls ≠ "java/lang/invoke/VarHandle" ∧ (parseMethodDescriptor yX9_shared.desc).map (fun d => d.parameters.length) = some 2 := by decide +kernel
abbrev rmX9_favourite : Room := { frames := 1, cells := 0, slots := 0, locals := 23 }
theorem iX9_favourite_X1 : ∀ w ∈ u_ws RX1 TX1 8, w ∈ wsX9_favourite := by decide +kernel
theorem iX9_favourite_X9 : ∀ w ∈ u_ws RX9 TX9 10, w ∈ wsX9_favourite := by decide +kernel
theorem h0X9_favourite : yX9_favourite.cls = RX9 ∧ yX9_favourite.cls ≠ "java/lang/invoke/MethodHandle" ∧ yX9_favourite.cls ≠ "java/lang/invoke/VarHandle" ∧ (parseMethodDescriptor yX9_favourite.desc).map (fun d => d.parameters.length) = some 0 := by decide +kernel
abbrev rmX9_richest : Room := { frames := 2, cells := 0, slots := 0, locals := 44 }
theorem iX9_richest_X1 : ∀ w ∈ u_ws RX1 TX1 8, w ∈ wsX9_richest := by decide +kernel
theorem iX9_richest_X7 : ∀ w ∈ u_ws RX7 TX7 3, w ∈ wsX9_richest := by decide +kernel
theorem iX9_richest_X9 : ∀ w ∈ u_ws RX9 TX9 10, w ∈ wsX9_richest := by decide +kernel
theorem h0X9_richest : yX9_richest.cls = RX9 ∧ yX9_richest.cls ≠ "java/lang/invoke/MethodHandle" ∧ yX9_richest.cls ≠ "java/lang/invoke/VarHandle" ∧ (parseMethodDescriptor yX9_richest.desc).map (fun d => d.parameters.length) = some 0 := by decide +kernel
abbrev rmX9_isWhole : Room := { frames := 3, cells := 0, slots := 0, locals := 71 }
theorem iX9_isWhole_X9 : ∀ w ∈ u_ws RX9 TX9 10, w ∈ wsX9_isWhole := by decide +kernel
theorem h0X9_isWhole : yX9_isWhole.cls = RX9 ∧ yX9_isWhole.cls ≠ "java/lang/invoke/MethodHandle" ∧ yX9_isWhole.cls ≠ "java/lang/invoke/VarHandle" ∧ (parseMethodDescriptor yX9_isWhole.desc).map (fun d => d.parameters.length) = some 0 := by decide +kernel
abbrev rmX9_account : Room := { frames := 1, cells := 0, slots := 0, locals := 22 }
theorem iX9_account_X1 : ∀ w ∈ u_ws RX1 TX1 8, w ∈ wsX9_account := by decide +kernel
theorem iX9_account_X9 : ∀ w ∈ u_ws RX9 TX9 10, w ∈ wsX9_account := by decide +kernel
theorem h0X9_account : yX9_account.cls = RX9 ∧ yX9_account.cls ≠ "java/lang/invoke/MethodHandle" ∧ yX9_account.cls ≠ "java/lang/invoke/VarHandle" ∧ (parseMethodDescriptor yX9_account.desc).map (fun d => d.parameters.length) = some 1 := by decide +kernel
abbrev rmX9_store : Room := { frames := 4, cells := 0, slots := 0, locals := 100 }
theorem iX9_store_X9 : ∀ w ∈ u_ws RX9 TX9 10, w ∈ wsX9_store := by decide +kernel
theorem h0X9_store : yX9_store.cls = RX9 ∧ yX9_store.cls ≠ "java/lang/invoke/MethodHandle" ∧ yX9_store.cls ≠ "java/lang/invoke/VarHandle" ∧ (parseMethodDescriptor yX9_store.desc).map (fun d => d.parameters.length) = some 1 := by decide +kernel
abbrev rmX9_remove : Room := { frames := 4, cells := 0, slots := 0, locals := 93 }
theorem iX9_remove_X1 : ∀ w ∈ u_ws RX1 TX1 8, w ∈ wsX9_remove := by decide +kernel
theorem iX9_remove_X8 : ∀ w ∈ u_ws RX8 TX8 5, w ∈ wsX9_remove := by decide +kernel
theorem iX9_remove_X9 : ∀ w ∈ u_ws RX9 TX9 10, w ∈ wsX9_remove := by decide +kernel
theorem h0X9_remove : yX9_remove.cls = RX9 ∧ yX9_remove.cls ≠ "java/lang/invoke/MethodHandle" ∧ yX9_remove.cls ≠ "java/lang/invoke/VarHandle" ∧ (parseMethodDescriptor yX9_remove.desc).map (fun d => d.parameters.length) = some 1 := by decide +kernel
abbrev rmX9_recut : Room := { frames := 5, cells := 0, slots := 0, locals := 124 }
theorem iX9_recut_X9 : ∀ w ∈ u_ws RX9 TX9 10, w ∈ wsX9_recut := by decide +kernel
theorem h0X9_recut : yX9_recut.cls = RX9 ∧ yX9_recut.cls ≠ "java/lang/invoke/MethodHandle" ∧ yX9_recut.cls ≠ "java/lang/invoke/VarHandle" ∧ (parseMethodDescriptor yX9_recut.desc).map (fun d => d.parameters.length) = some 1 := by decide +kernel
abbrev rmX9_recutAll : Room := { frames := 5, cells := 0, slots := 0, locals := 124 }
theorem iX9_recutAll_X1 : ∀ w ∈ u_ws RX1 TX1 8, w ∈ wsX9_recutAll := by decide +kernel
theorem iX9_recutAll_X8 : ∀ w ∈ u_ws RX8 TX8 5, w ∈ wsX9_recutAll := by decide +kernel
theorem iX9_recutAll_X9 : ∀ w ∈ u_ws RX9 TX9 10, w ∈ wsX9_recutAll := by decide +kernel
theorem h0X9_recutAll : yX9_recutAll.cls = RX9 ∧ yX9_recutAll.cls ≠ "java/lang/invoke/MethodHandle" ∧ yX9_recutAll.cls ≠ "java/lang/invoke/VarHandle" ∧ (parseMethodDescriptor yX9_recutAll.desc).map (fun d => d.parameters.length) = some 0 := by decide +kernel
abbrev rmX9_bring : Room := { frames := 4, cells := 0, slots := 0, locals := 93 }
theorem iX9_bring_X1 : ∀ w ∈ u_ws RX1 TX1 8, w ∈ wsX9_bring := by decide +kernel
theorem iX9_bring_X9 : ∀ w ∈ u_ws RX9 TX9 10, w ∈ wsX9_bring := by decide +kernel
theorem h0X9_bring : yX9_bring.cls = RX9 ∧ yX9_bring.cls ≠ "java/lang/invoke/MethodHandle" ∧ yX9_bring.cls ≠ "java/lang/invoke/VarHandle" ∧ (parseMethodDescriptor yX9_bring.desc).map (fun d => d.parameters.length) = some 1 := by decide +kernel
abbrev rmX9_tick : Room := { frames := 4, cells := 0, slots := 0, locals := 97 }
theorem iX9_tick_X9 : ∀ w ∈ u_ws RX9 TX9 10, w ∈ wsX9_tick := by decide +kernel
theorem h0X9_tick : yX9_tick.cls = RX9 ∧ yX9_tick.cls ≠ "java/lang/invoke/MethodHandle" ∧ yX9_tick.cls ≠ "java/lang/invoke/VarHandle" ∧ (parseMethodDescriptor yX9_tick.desc).map (fun d => d.parameters.length) = some 1 := by decide +kernel
abbrev rmX9_pay : Room := { frames := 4, cells := 0, slots := 0, locals := 93 }
theorem iX9_pay_X1 : ∀ w ∈ u_ws RX1 TX1 8, w ∈ wsX9_pay := by decide +kernel
theorem iX9_pay_X9 : ∀ w ∈ u_ws RX9 TX9 10, w ∈ wsX9_pay := by decide +kernel
theorem h0X9_pay : yX9_pay.cls = RX9 ∧ yX9_pay.cls ≠ "java/lang/invoke/MethodHandle" ∧ yX9_pay.cls ≠ "java/lang/invoke/VarHandle" ∧ (parseMethodDescriptor yX9_pay.desc).map (fun d => d.parameters.length) = some 3 := by decide +kernel
def fX9_appendFour_L3 (x1 : Int32) (k : Int32 → (Nat → Int32) → Option (Int32 × (Nat → Int32))) : Nat → Int32 → Int32 → (Nat → Int32) → Option (Int32 × (Nat → Int32))
  | 0, _, _, _ => none
  | n + 1, x2, D_buffered, buffer => if x2 < 0 then (k D_buffered buffer) else (if 600 ≤ D_buffered then (k D_buffered buffer) else (if D_buffered < 0 ∨ 600 ≤ D_buffered.toNatClampNeg then none else Lt (upd buffer (D_buffered.toNatClampNeg) (vp_nar .byte ((gush x1 x2).toInt8.toInt32))) fun (buffer_1 : (Nat → Int32)) => fX9_appendFour_L3 x1 k n (x2 + (-8)) (D_buffered + 1) buffer_1))
def fX9_appendFour (x1 : Int32) (D_buffered : Int32) (buffer : (Nat → Int32)) : Option (Int32 × (Nat → Int32)) := fX9_appendFour_L3 x1 (fun (D_buffered_1 : Int32) (buffer_1 : (Nat → Int32)) => (some (D_buffered_1, buffer_1))) FU 24 D_buffered buffer
def fX9_append (x1 : Int32) (x2 : Int32) (x3 : Int32) (x4 : Int32) (x5 : Int32) (D_buffered : Int32) (buffer : (Nat → Int32)) : Option (Int32 × Int32 × (Nat → Int32)) := if (D_buffered + 20) ≤ 600 then (gb2 (fX9_appendFour x1 D_buffered buffer) fun (D_buffered_1 : Int32) (buffer_1 : (Nat → Int32)) => gb2 (fX9_appendFour x2 D_buffered_1 buffer_1) fun (D_buffered_2 : Int32) (buffer_2 : (Nat → Int32)) => gb2 (fX9_appendFour x3 D_buffered_2 buffer_2) fun (D_buffered_3 : Int32) (buffer_3 : (Nat → Int32)) => gb2 (fX9_appendFour x4 D_buffered_3 buffer_3) fun (D_buffered_4 : Int32) (buffer_4 : (Nat → Int32)) => gb2 (fX9_appendFour x5 D_buffered_4 buffer_4) fun (D_buffered_5 : Int32) (buffer_5 : (Nat → Int32)) => some (D_buffered_5, D_buffered_5, buffer_5)) else (some ((-1), D_buffered, buffer))
def fX9_parse_L83 (k : (Nat → Int32) → Option (Int32 × Int32 × Int32 × Int32 × Int32 × Int32 × (Nat → Int32) × (Nat → Int32) × tUsers × tPieces × tWords × Int32 × Int32 × Int32 × Int32 × Int32 × Int32 × Int64 × Int32 × Int32 × Int32 × Int32 × (Nat → Int32) × (Nat → Int32) × tUsers × tPieces × tWords × tCut × tCutR × (Nat → Int32) × tHist × (Nat → Int32))) : Nat → Int32 → (Nat → Int32) → Option (Int32 × Int32 × Int32 × Int32 × Int32 × Int32 × (Nat → Int32) × (Nat → Int32) × tUsers × tPieces × tWords × Int32 × Int32 × Int32 × Int32 × Int32 × Int32 × Int64 × Int32 × Int32 × Int32 × Int32 × (Nat → Int32) × (Nat → Int32) × tUsers × tPieces × tWords × tCut × tCutR × (Nat → Int32) × tHist × (Nat → Int32))
  | 0, _, _ => none
  | n + 1, x3, filled => if 2 ≤ x3 then (k filled) else (if x3 < 0 ∨ 2 ≤ x3.toNatClampNeg then none else Lt (upd filled (x3.toNatClampNeg) (vp_nar .boolean 0)) fun (filled_1 : (Nat → Int32)) => fX9_parse_L83 k n (x3 + 1) filled_1)
def fX9_parse (x1 : Int32) (D_buffered : Int32) (D_lastErrorAt : Int32) (buffer : (Nat → Int32)) (B_time : Int32) (B_chest : Int32) (B_fund : Int32) (settings : (Nat → Int32)) (sums : (Nat → Int32)) (U : tUsers) (P : tPieces) (W : tWords) (Pr_errorAt : Int32) (Pr_length : Int32) (Pr_next : Int32) (Pr_errorCode : Int32) (Pr_kind : Int32) (Pr_tokenAt : Int32) (Pr_letters : Int64) (Pr_number : Int32) (B2_time : Int32) (B2_chest : Int32) (B2_fund : Int32) (settings2 : (Nat → Int32)) (sums2 : (Nat → Int32)) (U2 : tUsers) (P2 : tPieces) (W2 : tWords) (C : tCut) (S : tCutR) (text : (Nat → Int32)) (Hs : tHist) (filled : (Nat → Int32)) : Option (Int32 × Int32 × Int32 × Int32 × Int32 × Int32 × (Nat → Int32) × (Nat → Int32) × tUsers × tPieces × tWords × Int32 × Int32 × Int32 × Int32 × Int32 × Int32 × Int64 × Int32 × Int32 × Int32 × Int32 × (Nat → Int32) × (Nat → Int32) × tUsers × tPieces × tWords × tCut × tCutR × (Nat → Int32) × tHist × (Nat → Int32)) := Lt ((none) : Option (Int32 × Int32 × Int32 × Int32 × Int32 × Int32 × (Nat → Int32) × (Nat → Int32) × tUsers × tPieces × tWords × Int32 × Int32 × Int32 × Int32 × Int32 × Int32 × Int64 × Int32 × Int32 × Int32 × Int32 × (Nat → Int32) × (Nat → Int32) × tUsers × tPieces × tWords × tCut × tCutR × (Nat → Int32) × tHist × (Nat → Int32))) fun (j_1 : Option (Int32 × Int32 × Int32 × Int32 × Int32 × Int32 × (Nat → Int32) × (Nat → Int32) × tUsers × tPieces × tWords × Int32 × Int32 × Int32 × Int32 × Int32 × Int32 × Int64 × Int32 × Int32 × Int32 × Int32 × (Nat → Int32) × (Nat → Int32) × tUsers × tPieces × tWords × tCut × tCutR × (Nat → Int32) × tHist × (Nat → Int32))) => if x1 < 0 then (j_1) else (if x1 ≤ D_buffered then (gb20 (fX5_readText 600 x1 Pr_errorAt Pr_length Pr_next Pr_errorCode Pr_kind Pr_tokenAt Pr_letters Pr_number B2_time B2_chest B2_fund settings2 sums2 U2 P2 W2 C S text buffer) fun (r_1 : Int32) (Pr_errorAt_1 : Int32) (Pr_length_1 : Int32) (Pr_next_1 : Int32) (Pr_errorCode_1 : Int32) (Pr_kind_1 : Int32) (Pr_tokenAt_1 : Int32) (Pr_letters_1 : Int64) (Pr_number_1 : Int32) (B2_time_1 : Int32) (B2_chest_1 : Int32) (B2_fund_1 : Int32) (settings2_1 : (Nat → Int32)) (sums2_1 : (Nat → Int32)) (U2_1 : tUsers) (P2_1 : tPieces) (W2_1 : tWords) (C_1 : tCut) (S_1 : tCutR) (text_1 : (Nat → Int32)) => if r_1 = 0 then (gb8 (fX1_copyFrom B_time B_chest B_fund settings sums U P W B2_time_1 B2_chest_1 B2_fund_1 settings2_1 sums2_1 U2_1 P2_1 W2_1) fun (B_time_1 : Int32) (B_chest_1 : Int32) (B_fund_1 : Int32) (settings_1 : (Nat → Int32)) (sums_1 : (Nat → Int32)) (U_1 : tUsers) (P_1 : tPieces) (W_1 : tWords) => gb1 (fX3_forget Hs) fun (Hs_1 : tHist) => fX9_parse_L83 (fun (filled_1 : (Nat → Int32)) => (some (0, 0, (-1), B_time_1, B_chest_1, B_fund_1, settings_1, sums_1, U_1, P_1, W_1, Pr_errorAt_1, Pr_length_1, Pr_next_1, Pr_errorCode_1, Pr_kind_1, Pr_tokenAt_1, Pr_letters_1, Pr_number_1, B2_time_1, B2_chest_1, B2_fund_1, settings2_1, sums2_1, U2_1, P2_1, W2_1, C_1, S_1, text_1, Hs_1, filled_1))) FU 0 filled) else (some (r_1, 0, Pr_errorAt_1, B_time, B_chest, B_fund, settings, sums, U, P, W, Pr_errorAt_1, Pr_length_1, Pr_next_1, Pr_errorCode_1, Pr_kind_1, Pr_tokenAt_1, Pr_letters_1, Pr_number_1, B2_time_1, B2_chest_1, B2_fund_1, settings2_1, sums2_1, U2_1, P2_1, W2_1, C_1, S_1, text_1, Hs, filled))) else (j_1))
def fX9_size (x1 : Int32) (B_time : Int32) (B_chest : Int32) (B_fund : Int32) (settings : (Nat → Int32)) (U : tUsers) (P : tPieces) (W : tWords) (Hs : tHist) : Option (Int32) := if x1 = 0 then (some U.1) else (if x1 = 1 then (some P.1) else (if x1 = 2 then (some W.1) else (if x1 = 3 then (some B_time) else (if x1 = 4 then (some B_chest) else (if x1 = 5 then (some B_fund) else (if x1 = 6 then (some (settings 0)) else (if x1 = 7 then (some (settings 1)) else (if x1 = 8 then (some (settings 2)) else (if x1 = 9 then (some (settings 3)) else (if x1 = 10 then (some (settings 4)) else (if x1 = 11 then (some Hs.1) else (none))))))))))))
def fX9_takeWord_L12 (x1 : Int32) (buffer : (Nat → Int32)) (k : Int32 → Option (Int64 × Int32)) : Nat → Int32 → Option (Int64 × Int32)
  | 0, _ => none
  | n + 1, x2 => if x1 ≤ x2 then (k x2) else (if x2 < 0 ∨ 600 ≤ x2.toNatClampNeg then none else gb1 (fX4_isLetter (buffer (x2.toNatClampNeg))) fun (r_1 : Int32) => if r_1 = 0 then (k x2) else (fX9_takeWord_L12 x1 buffer k n (x2 + 1)))
def fX9_takeWord_L37 (x1 : Int32) (x2 : Int32) (D_buffered : Int32) (buffer : (Nat → Int32)) (k : Option (Int64 × Int32)) : Nat → Int32 → Option (Int64 × Int32)
  | 0, _ => none
  | n + 1, x3 => if x1 ≤ x3 then (k) else (if x3 < 0 ∨ 600 ≤ x3.toNatClampNeg then none else if (buffer (x3.toNatClampNeg)) = 32 then (fX9_takeWord_L37 x1 x2 D_buffered buffer k n (x3 + 1)) else (some (0, D_buffered)))
def fX9_takeWord (D_buffered : Int32) (buffer : (Nat → Int32)) : Option (Int64 × Int32) := fX9_takeWord_L12 D_buffered buffer (fun (x2_1 : Int32) => (fX9_takeWord_L37 D_buffered x2_1 0 buffer (if x2_1 ≤ 12 then (gb1 (fX4_read 600 0 x2_1 buffer) fun (r_1 : Int64) => some (r_1, 0)) else (some (0, 0))) FU x2_1)) FU 0
def fX9_requireBelow (x1 : Int32) (x2 : Int32) : Option (Unit) := Lt ((none) : Option (Unit)) fun (j_1 : Option (Unit)) => if x1 < 0 then (j_1) else (if x1 < x2 then (some ()) else (j_1))
def fX9_find (x1 : Int32) (D_buffered : Int32) (buffer : (Nat → Int32)) (U : tUsers) (P : tPieces) (W : tWords) : Option (Int32 × Int32) := gb2 (fX9_takeWord D_buffered buffer) fun (r_1 : Int64) (D_buffered_1 : Int32) => gb0 (fX9_requireBelow x1 3) <| if (lg_cmp r_1 0) = 0 then (some ((-1), D_buffered_1)) else (if x1 = 0 then (gb1 (fX7_numberOf r_1 U) fun (r_2 : Int32) => some (r_2, D_buffered_1)) else (if x1 = 1 then (gb1 (fX6_numberOf r_1 P) fun (r_3 : Int32) => some (r_3, D_buffered_1)) else (gb1 (fX8_numberOf r_1 W) fun (r_4 : Int32) => some (r_4, D_buffered_1))))
def fX9_requireUser (x1 : Int32) (U : tUsers) : Option (Unit) := Lt ((none) : Option (Unit)) fun (j_1 : Option (Unit)) => if x1 < 0 then (j_1) else (if x1 < U.1 then (some ()) else (j_1))
def fX9_user (x1 : Int32) (x2 : Int32) (settings : (Nat → Int32)) (U : tUsers) (P : tPieces) (W : tWords) : Option (Int32) := gb0 (fX9_requireUser x1 U) <| if x2 = 0 then (gb1 (fX7_coinsOf x1 U) fun (r_1 : Int32) => some r_1) else (if x2 = 1 then (gb1 (fX8_countOf x1 W) fun (r_2 : Int32) => some r_2) else (if x2 = 2 then (gb1 (fX1_heldFor x1 settings W) fun (r_3 : Int32) => some r_3) else (if x2 = 3 then (gb1 (fX6_ownedBy x1 P) fun (r_4 : Int32) => some r_4) else (if x2 = 4 then (gb1 (fX6_pricesPaidBy x1 P) fun (r_5 : Int32) => some r_5) else (none)))))
def fX9_requirePiece (x1 : Int32) (P : tPieces) : Option (Unit) := Lt ((none) : Option (Unit)) fun (j_1 : Option (Unit)) => if x1 < 0 then (j_1) else (if x1 < P.1 then (some ()) else (j_1))
def fX9_piece (x1 : Int32) (x2 : Int32) (P : tPieces) : Option (Int32) := gb0 (fX9_requirePiece x1 P) <| if x2 = 0 then (if x1 < 0 ∨ 24 ≤ x1.toNatClampNeg then none else gb1 (fX4_lengthOf (P.2.1 (x1.toNatClampNeg))) fun (r_1 : Int32) => some r_1) else (if x2 = 1 then (if x1 < 0 ∨ 24 ≤ x1.toNatClampNeg then none else some (P.2.2.1 (x1.toNatClampNeg))) else (if x2 = 2 then (if x1 < 0 ∨ 24 ≤ x1.toNatClampNeg then none else some (P.2.2.2.1 (x1.toNatClampNeg))) else (if x2 = 3 then (if x1 < 0 ∨ 24 ≤ x1.toNatClampNeg then none else some (P.2.2.2.2.1 (x1.toNatClampNeg))) else (if x2 = 4 then (if x1 < 0 ∨ 24 ≤ x1.toNatClampNeg then none else if (P.2.2.2.2.1 (x1.toNatClampNeg)) ≤ 0 then (if x1 < 0 ∨ 24 ≤ x1.toNatClampNeg then none else some (P.2.2.2.2.2 (x1.toNatClampNeg))) else (some (-1))) else (none)))))
def fX9_pieceLetter (x1 : Int32) (x2 : Int32) (P : tPieces) : Option (Int32) := gb0 (fX9_requirePiece x1 P) <| if x1 < 0 ∨ 24 ≤ x1.toNatClampNeg then none else gb1 (fX4_letterAt (P.2.1 (x1.toNatClampNeg)) x2) fun (r_1 : Int32) => some r_1
def fX9_requireWord (x1 : Int32) (W : tWords) : Option (Unit) := Lt ((none) : Option (Unit)) fun (j_1 : Option (Unit)) => if x1 < 0 then (j_1) else (if x1 < W.1 then (some ()) else (j_1))
def fX9_word (x1 : Int32) (x2 : Int32) (settings : (Nat → Int32)) (W : tWords) : Option (Int32) := gb0 (fX9_requireWord x1 W) <| if x2 = 0 then (if x1 < 0 ∨ 16 ≤ x1.toNatClampNeg then none else some (W.2.2.1 (x1.toNatClampNeg))) else (if x2 = 1 then (if x1 < 0 ∨ 16 ≤ x1.toNatClampNeg then none else gb1 (fX4_lengthOf (W.2.1 (x1.toNatClampNeg))) fun (r_1 : Int32) => some r_1) else (if x2 = 2 then (if x1 < 0 ∨ 16 ≤ x1.toNatClampNeg then none else some (W.2.2.2.1 (x1.toNatClampNeg))) else (if x2 = 3 then (if x1 < 0 ∨ 16 ≤ x1.toNatClampNeg then none else gb1 (fX1_depositsFor (W.2.2.2.1 (x1.toNatClampNeg)) settings) fun (r_2 : Int32) => some r_2) else (none))))
def fX9_wordLetter (x1 : Int32) (x2 : Int32) (P : tPieces) (W : tWords) : Option (Int32) := gb0 (fX9_requireWord x1 W) <| gb1 (fX1_madeUp x1 P W) fun (r_1 : Int64) => gb1 (fX4_letterAt r_1 x2) fun (r_2 : Int32) => some r_2
def fX9_part (x1 : Int32) (x2 : Int32) (W : tWords) : Option (Int32) := gb0 (fX9_requireWord x1 W) <| gb1 (fX8_partAt x1 x2 W) fun (r_1 : Int32) => some r_1
def fX9_quote (x1 : Int32) (D_buffered : Int32) (buffer : (Nat → Int32)) (settings : (Nat → Int32)) (P : tPieces) (C2 : tCut) (S2 : tCutR) : Option (Int32 × Int32 × tCut × tCutR) := gb2 (fX9_takeWord D_buffered buffer) fun (r_1 : Int64) (D_buffered_1 : Int32) => gb0 (fX9_requireBelow x1 5) <| if (lg_cmp r_1 0) = 0 then (some ((-1), D_buffered_1, C2, S2)) else (gb2 (fX2_cutCheapest r_1 C2 S2 settings P) fun (C2_1 : tCut) (S2_1 : tCutR) => if x1 = 0 then (gb1 (fX1_costOf settings C2_1) fun (r_2 : Int32) => some (r_2, D_buffered_1, C2_1, S2_1)) else (if x1 = 1 then (gb1 (fX1_depositsFor C2_1.1 settings) fun (r_3 : Int32) => some (r_3, D_buffered_1, C2_1, S2_1)) else (if x1 = 2 then (some (C2_1.2.2.2.1, D_buffered_1, C2_1, S2_1)) else (if x1 = 3 then (some (C2_1.1, D_buffered_1, C2_1, S2_1)) else (some (C2_1.2.2.1, D_buffered_1, C2_1, S2_1))))))
def fX9_whyNotStore (x1 : Int32) (D_buffered : Int32) (buffer : (Nat → Int32)) (settings : (Nat → Int32)) (U : tUsers) (P : tPieces) (W : tWords) (C2 : tCut) (S2 : tCutR) : Option (Int32 × Int32 × tCut × tCutR) := gb2 (fX9_takeWord D_buffered buffer) fun (r_1 : Int64) (D_buffered_1 : Int32) => gb0 (fX9_requireUser x1 U) <| if (lg_cmp r_1 0) = 0 then (some (1, D_buffered_1, C2, S2)) else (gb2 (fX2_cutCheapest r_1 C2 S2 settings P) fun (C2_1 : tCut) (S2_1 : tCutR) => gb1 (fX1_refusal x1 settings U P W C2_1) fun (r_2 : Int32) => some (r_2, D_buffered_1, C2_1, S2_1))
def fX9_ways (x1 : Int32) (settings : (Nat → Int32)) (P : tPieces) (W : tWords) (C2 : tCut) (S2 : tCutR) : Option (Int32 × tCut × tCutR) := gb0 (fX9_requireWord x1 W) <| if x1 < 0 ∨ 16 ≤ x1.toNatClampNeg then none else gb3 (fX2_countWays (W.2.1 (x1.toNatClampNeg)) C2 S2 settings P) fun (r_1 : Int32) (C2_1 : tCut) (S2_1 : tCutR) => some (r_1, C2_1, S2_1)
def fX9_fewestPieces (x1 : Int32) (settings : (Nat → Int32)) (P : tPieces) (W : tWords) (C2 : tCut) (S2 : tCutR) : Option (Int32 × tCut × tCutR) := if x1 < 0 ∨ 16 ≤ x1.toNatClampNeg then none else gb2 (fX2_cutKnown (W.2.1 (x1.toNatClampNeg)) C2 S2 settings P) fun (C2_1 : tCut) (S2_1 : tCutR) => some (C2_1.1, C2_1, S2_1)
def fX9_fewest (x1 : Int32) (settings : (Nat → Int32)) (P : tPieces) (W : tWords) (C2 : tCut) (S2 : tCutR) : Option (Int32 × tCut × tCutR) := gb0 (fX9_requireWord x1 W) <| gb3 (fX9_fewestPieces x1 settings P W C2 S2) fun (r_1 : Int32) (C2_1 : tCut) (S2_1 : tCutR) => some (r_1, C2_1, S2_1)
def fX9_saving (x1 : Int32) (settings : (Nat → Int32)) (P : tPieces) (W : tWords) (C2 : tCut) (S2 : tCutR) : Option (Int32 × tCut × tCutR) := gb0 (fX9_requireWord x1 W) <| if x1 < 0 ∨ 16 ≤ x1.toNatClampNeg then none else gb3 (fX9_fewestPieces x1 settings P W C2 S2) fun (r_1 : Int32) (C2_1 : tCut) (S2_1 : tCutR) => gb1 (fX1_depositsFor ((W.2.2.2.1 (x1.toNatClampNeg)) - r_1) settings) fun (r_2 : Int32) => some (r_2, C2_1, S2_1)
def fX9_bestPart (x1 : Int32) (x2 : Int32) (settings : (Nat → Int32)) (P : tPieces) (W : tWords) (V : tAdv) (C3 : tCut) (S3 : tCutR) : Option (Int32 × tAdv × tCut × tCutR) := gb0 (fX9_requireWord x1 W) <| gb0 (fX9_requireBelow x2 3) <| if x1 < 0 ∨ 16 ≤ x1.toNatClampNeg then none else gb3 (fX0_weighParts (W.2.1 (x1.toNatClampNeg)) V C3 S3 settings P W) fun (V_1 : tAdv) (C3_1 : tCut) (S3_1 : tCutR) => if V_1.2.2.1 = 0 then (some ((-1), V_1, C3_1, S3_1)) else (if x2 = 0 then (some (V_1.1, V_1, C3_1, S3_1)) else (if x2 = 1 then (some (V_1.2.1, V_1, C3_1, S3_1)) else (some (V_1.2.2.1, V_1, C3_1, S3_1))))
def fX9_shared_L15 (x1 : Int32) (x2 : Int32) (P : tPieces) (W : tWords) (k : Int32 → Option (Int32)) : Nat → Int32 → Int32 → Option (Int32)
  | 0, _, _ => none
  | n + 1, x3, x4 => if P.1 ≤ x4 then (k x3) else (gb1 (fX8_usesIn x1 x4 W) fun (r_1 : Int32) => if r_1 ≤ 0 then (fX9_shared_L15 x1 x2 P W k n x3 (x4 + 1)) else (gb1 (fX8_usesIn x2 x4 W) fun (r_2 : Int32) => if r_2 ≤ 0 then (fX9_shared_L15 x1 x2 P W k n x3 (x4 + 1)) else (fX9_shared_L15 x1 x2 P W k n (x3 + 1) (x4 + 1))))
def fX9_shared (x1 : Int32) (x2 : Int32) (P : tPieces) (W : tWords) : Option (Int32) := gb0 (fX9_requireWord x1 W) <| gb0 (fX9_requireWord x2 W) <| fX9_shared_L15 x1 x2 P W (fun (x3_1 : Int32) => (some x3_1)) FU 0 0
def fX9_favourite (P : tPieces) : Option (Int32) := gb1 (fX6_mostUsed P) fun (r_1 : Int32) => some r_1
def fX9_richest_L6 (settings : (Nat → Int32)) (U : tUsers) (W : tWords) (k : Int32 → Option (Int32)) : Nat → Int32 → Int32 → Int32 → Option (Int32)
  | 0, _, _, _ => none
  | n + 1, x1, x2, x3 => if U.1 ≤ x3 then (k x1) else (gb1 (fX7_coinsOf x3 U) fun (r_1 : Int32) => gb1 (fX1_heldFor x3 settings W) fun (r_2 : Int32) => if (r_1 + r_2) ≤ x2 then (fX9_richest_L6 settings U W k n x1 x2 (x3 + 1)) else (fX9_richest_L6 settings U W k n x3 (r_1 + r_2) (x3 + 1)))
def fX9_richest (settings : (Nat → Int32)) (U : tUsers) (W : tWords) : Option (Int32) := fX9_richest_L6 settings U W (fun (x1_1 : Int32) => (some x1_1)) FU (-1) (-1) 0
def fX9_isWhole (B_fund : Int32) (settings : (Nat → Int32)) (U : tUsers) (P : tPieces) (W : tWords) : Option (Int32) := gb1 (fX1_wordsAreMadeUp P W) fun (r_1 : Int32) => if r_1 = 0 then (some 0) else (gb1 (fX1_usesAreTrue P W) fun (r_2 : Int32) => if r_2 = 0 then (some 0) else (gb1 (fX1_fundIsTrue B_fund settings U W) fun (r_3 : Int32) => if r_3 = 0 then (some 0) else (some 1)))
def fX9_account (x1 : Int32) (sums : (Nat → Int32)) : Option (Int32) := gb0 (fX9_requireBelow x1 6) <| if x1 < 0 ∨ 6 ≤ x1.toNatClampNeg then none else some (sums (x1.toNatClampNeg))
def fX9_store (x1 : Int32) (D_buffered : Int32) (buffer : (Nat → Int32)) (B_time : Int32) (B_chest : Int32) (B_fund : Int32) (settings : (Nat → Int32)) (sums : (Nat → Int32)) (U : tUsers) (P : tPieces) (W : tWords) (C2 : tCut) (S2 : tCutR) (Hs : tHist) : Option (Int32 × Int32 × Int32 × Int32 × (Nat → Int32) × tUsers × tPieces × tWords × tCut × tCutR × tHist) := gb2 (fX9_takeWord D_buffered buffer) fun (r_1 : Int64) (D_buffered_1 : Int32) => gb0 (fX9_requireUser x1 U) <| if (lg_cmp r_1 0) = 0 then (none) else (gb2 (fX2_cutCheapest r_1 C2 S2 settings P) fun (C2_1 : tCut) (S2_1 : tCutR) => gb1 (fX1_refusal x1 settings U P W C2_1) fun (r_2 : Int32) => if r_2 = 0 then (gb1 (fX3_keep Hs B_time B_chest B_fund settings sums U P W) fun (Hs_1 : tHist) => gb7 (fX1_storeCutting x1 r_1 B_time B_chest B_fund settings sums U P W C2_1) fun (r_3 : Int32) (B_chest_1 : Int32) (B_fund_1 : Int32) (sums_1 : (Nat → Int32)) (U_1 : tUsers) (P_1 : tPieces) (W_1 : tWords) => some (r_3, D_buffered_1, B_chest_1, B_fund_1, sums_1, U_1, P_1, W_1, C2_1, S2_1, Hs_1)) else (none))
def fX9_remove (x1 : Int32) (B_time : Int32) (B_chest : Int32) (B_fund : Int32) (settings : (Nat → Int32)) (sums : (Nat → Int32)) (U : tUsers) (P : tPieces) (W : tWords) (Hs : tHist) : Option (Int32 × Int32 × (Nat → Int32) × tUsers × tPieces × tWords × tHist) := gb0 (fX9_requireWord x1 W) <| gb1 (fX3_keep Hs B_time B_chest B_fund settings sums U P W) fun (Hs_1 : tHist) => if x1 < 0 ∨ 16 ≤ x1.toNatClampNeg then none else gb5 (fX1_endWord x1 B_time B_fund settings sums U P W) fun (B_fund_1 : Int32) (sums_1 : (Nat → Int32)) (U_1 : tUsers) (P_1 : tPieces) (W_1 : tWords) => gb1 (fX7_coinsOf (W.2.2.1 (x1.toNatClampNeg)) U_1) fun (r_1 : Int32) => some (r_1, B_fund_1, sums_1, U_1, P_1, W_1, Hs_1)
def fX9_recut (x1 : Int32) (B_time : Int32) (B_chest : Int32) (B_fund : Int32) (settings : (Nat → Int32)) (sums : (Nat → Int32)) (U : tUsers) (P : tPieces) (W : tWords) (C2 : tCut) (S2 : tCutR) (Hs : tHist) : Option (Int32 × Int32 × (Nat → Int32) × tUsers × tPieces × tWords × tCut × tCutR × tHist) := gb0 (fX9_requireWord x1 W) <| gb1 (fX3_keep Hs B_time B_chest B_fund settings sums U P W) fun (Hs_1 : tHist) => gb8 (fX1_cutAnew x1 B_time B_fund settings sums U P W C2 S2) fun (r_1 : Int32) (B_fund_1 : Int32) (sums_1 : (Nat → Int32)) (U_1 : tUsers) (P_1 : tPieces) (W_1 : tWords) (C2_1 : tCut) (S2_1 : tCutR) => some (r_1, B_fund_1, sums_1, U_1, P_1, W_1, C2_1, S2_1, Hs_1)
def fX9_recutAll_L15 (B_time : Int32) (settings : (Nat → Int32)) (k : Int32 → Int32 → (Nat → Int32) → tUsers → tPieces → tWords → tCut → tCutR → Option (Int32 × Int32 × (Nat → Int32) × tUsers × tPieces × tWords × tCut × tCutR × tHist)) : Nat → Int32 → Int32 → Int32 → (Nat → Int32) → tUsers → tPieces → tWords → tCut → tCutR → Option (Int32 × Int32 × (Nat → Int32) × tUsers × tPieces × tWords × tCut × tCutR × tHist)
  | 0, _, _, _, _, _, _, _, _, _ => none
  | n + 1, x1, x2, B_fund, sums, U, P, W, C2, S2 => if W.1 ≤ x2 then (k x1 B_fund sums U P W C2 S2) else (gb8 (fX1_cutAnew x2 B_time B_fund settings sums U P W C2 S2) fun (r_1 : Int32) (B_fund_1 : Int32) (sums_1 : (Nat → Int32)) (U_1 : tUsers) (P_1 : tPieces) (W_1 : tWords) (C2_1 : tCut) (S2_1 : tCutR) => fX9_recutAll_L15 B_time settings k n (x1 + r_1) (x2 + 1) B_fund_1 sums_1 U_1 P_1 W_1 C2_1 S2_1)
def fX9_recutAll (B_time : Int32) (B_chest : Int32) (B_fund : Int32) (settings : (Nat → Int32)) (sums : (Nat → Int32)) (U : tUsers) (P : tPieces) (W : tWords) (C2 : tCut) (S2 : tCutR) (Hs : tHist) : Option (Int32 × Int32 × (Nat → Int32) × tUsers × tPieces × tWords × tCut × tCutR × tHist) := gb1 (fX3_keep Hs B_time B_chest B_fund settings sums U P W) fun (Hs_1 : tHist) => fX9_recutAll_L15 B_time settings (fun (x1_1 : Int32) (B_fund_1 : Int32) (sums_1 : (Nat → Int32)) (U_1 : tUsers) (P_1 : tPieces) (W_1 : tWords) (C2_1 : tCut) (S2_1 : tCutR) => (some (x1_1, B_fund_1, sums_1, U_1, P_1, W_1, C2_1, S2_1, Hs_1))) FU 0 0 B_fund sums U P W C2 S2
def fX9_bring (x1 : Int32) (D_buffered : Int32) (buffer : (Nat → Int32)) (B_time : Int32) (B_chest : Int32) (B_fund : Int32) (settings : (Nat → Int32)) (sums : (Nat → Int32)) (U : tUsers) (P : tPieces) (W : tWords) (Hs : tHist) : Option (Int32 × Int32 × Int32 × (Nat → Int32) × tUsers × tPieces × tHist) := gb2 (fX9_takeWord D_buffered buffer) fun (r_1 : Int64) (D_buffered_1 : Int32) => gb0 (fX9_requireUser x1 U) <| gb1 (fX4_lengthOf r_1) fun (r_2 : Int32) => Lt ((none) : Option (Int32 × Int32 × Int32 × (Nat → Int32) × tUsers × tPieces × tHist)) fun (j_1 : Option (Int32 × Int32 × Int32 × (Nat → Int32) × tUsers × tPieces × tHist)) => if r_2 = 0 then (j_1) else (if 6 < r_2 then (j_1) else (gb1 (fX6_numberOf r_1 P) fun (r_3 : Int32) => if r_3 = (-1) then (gb1 (fX6_isFull P) fun (r_4 : Int32) => Lt ((none) : Option (Int32 × Int32 × Int32 × (Nat → Int32) × tUsers × tPieces × tHist)) fun (j_2 : Option (Int32 × Int32 × Int32 × (Nat → Int32) × tUsers × tPieces × tHist)) => if r_4 = 0 then (gb1 (fX7_coinsOf x1 U) fun (r_5 : Int32) => gb1 (fX1_newPrice r_2 settings) fun (r_6 : Int32) => if r_6 ≤ r_5 then (gb1 (fX3_keep Hs B_time B_chest B_fund settings sums U P W) fun (Hs_1 : tHist) => gb5 (fX1_buyPiece x1 r_1 B_time B_chest settings sums U P) fun (r_7 : Int32) (B_chest_1 : Int32) (sums_1 : (Nat → Int32)) (U_1 : tUsers) (P_1 : tPieces) => some (r_7, D_buffered_1, B_chest_1, sums_1, U_1, P_1, Hs_1)) else (j_2)) else (j_2)) else (j_1)))
def fX9_tick_L34 (x1 : Int32) (settings : (Nat → Int32)) (k : Int32 → Int32 → Int32 → (Nat → Int32) → tUsers → tPieces → tWords → Option (Int32 × Int32 × Int32 × (Nat → Int32) × tUsers × tPieces × tWords × tHist)) : Nat → Int32 → Int32 → Int32 → Int32 → (Nat → Int32) → tUsers → tPieces → tWords → Option (Int32 × Int32 × Int32 × (Nat → Int32) × tUsers × tPieces × tWords × tHist)
  | 0, _, _, _, _, _, _, _, _ => none
  | n + 1, x2, x3, B_time, B_chest, sums, U, P, W => if x1 ≤ x3 then (k x2 B_time B_chest sums U P W) else (gb7 (fX1_passTick B_time B_chest settings sums U P W) fun (r_1 : Int32) (B_time_1 : Int32) (B_chest_1 : Int32) (sums_1 : (Nat → Int32)) (U_1 : tUsers) (P_1 : tPieces) (W_1 : tWords) => fX9_tick_L34 x1 settings k n (x2 + r_1) (x3 + 1) B_time_1 B_chest_1 sums_1 U_1 P_1 W_1)
def fX9_tick (x1 : Int32) (B_time : Int32) (B_chest : Int32) (B_fund : Int32) (settings : (Nat → Int32)) (sums : (Nat → Int32)) (U : tUsers) (P : tPieces) (W : tWords) (Hs : tHist) : Option (Int32 × Int32 × Int32 × (Nat → Int32) × tUsers × tPieces × tWords × tHist) := Lt ((none) : Option (Int32 × Int32 × Int32 × (Nat → Int32) × tUsers × tPieces × tWords × tHist)) fun (j_1 : Option (Int32 × Int32 × Int32 × (Nat → Int32) × tUsers × tPieces × tWords × tHist)) => if x1 < 1 then (j_1) else (if x1 ≤ 30 then (gb1 (fX3_keep Hs B_time B_chest B_fund settings sums U P W) fun (Hs_1 : tHist) => fX9_tick_L34 x1 settings (fun (x2_1 : Int32) (B_time_1 : Int32) (B_chest_1 : Int32) (sums_1 : (Nat → Int32)) (U_1 : tUsers) (P_1 : tPieces) (W_1 : tWords) => (some (x2_1, B_time_1, B_chest_1, sums_1, U_1, P_1, W_1, Hs_1))) FU 0 0 B_time B_chest sums U P W) else (j_1))
def fX9_pay (x1 : Int32) (x2 : Int32) (x3 : Int32) (B_time : Int32) (B_chest : Int32) (B_fund : Int32) (settings : (Nat → Int32)) (sums : (Nat → Int32)) (U : tUsers) (P : tPieces) (W : tWords) (Hs : tHist) : Option (Int32 × tUsers × tHist) := gb0 (fX9_requireUser x1 U) <| gb0 (fX9_requireUser x2 U) <| Lt ((none) : Option (Int32 × tUsers × tHist)) fun (j_1 : Option (Int32 × tUsers × tHist)) => if x3 < 0 then (j_1) else (if x3 ≤ 9999 then (gb1 (fX7_coinsOf x1 U) fun (r_1 : Int32) => if x3 ≤ r_1 then (gb1 (fX3_keep Hs B_time B_chest B_fund settings sums U P W) fun (Hs_1 : tHist) => gb1 (fX7_give x1 (-x3) U) fun (U_1 : tUsers) => gb1 (fX7_give x2 x3 U_1) fun (U_2 : tUsers) => gb1 (fX7_coinsOf x2 U_2) fun (r_2 : Int32) => some (r_2, U_2, Hs_1)) else (none)) else (j_1))
set_option maxHeartbeats 4000000 in
set_option maxRecDepth 100000 in
theorem ktX9_appendFour_L3 {p : Program} {l : Launch} {e : Env} {s : State} {m : MethodId} {args : Array Value} {below : List Frame} {meth : Method} {c : Code} {E : gE} {A : Nat → Prop} (F : gFx p s m args meth c RX9 wsX9_appendFour cX9_appendFour 3 none vwCl E A) (aD abuffer aB aPr aC2 aV aHs aSl afilled : Nat → Nat) (x1 : Int32) (D_lastErrorAt : Int32) (D_buffered' : Int32) (buffer' : (Nat → Int32)) {k : Int32 → (Nat → Int32) → Option (Int32 × (Nat → Int32))} (hk : ∀ (D_buffered : Int32) (buffer : (Nat → Int32)), k D_buffered buffer = some (D_buffered', buffer') → Gj p l e rmX9_appendFour s m args below meth c 0 0 (MQ below (gQ vwCl E A (fun v w => v = none ∧ w = [sPD E aD abuffer aB aPr aC2 aV aHs aSl afilled D_buffered' D_lastErrorAt, sArrB E abuffer 600 buffer'])) args s 0 0 A) vwCl E A [sPD E aD abuffer aB aPr aC2 aV aHs aSl afilled D_buffered D_lastErrorAt, sArrB E abuffer 600 buffer] [none, none, none] [] 46) : ∀ (n : Nat) (x2 : Int32) (D_buffered : Int32) (buffer : (Nat → Int32)), fX9_appendFour_L3 x1 k n x2 D_buffered buffer = some (D_buffered', buffer') → Gj p l e rmX9_appendFour s m args below meth c 0 0 (MQ below (gQ vwCl E A (fun v w => v = none ∧ w = [sPD E aD abuffer aB aPr aC2 aV aHs aSl afilled D_buffered' D_lastErrorAt, sArrB E abuffer 600 buffer'])) args s 0 0 A) vwCl E A [sPD E aD abuffer aB aPr aC2 aV aHs aSl afilled D_buffered D_lastErrorAt, sArrB E abuffer 600 buffer] [some (.ref (aD 0)), some (.int x1), some (.int x2)] [] 3
  | 0, _, _, _, hf => by cases hf
  | n + 1, x2, D_buffered, buffer, hf => by
    have ih := ktX9_appendFour_L3 F aD abuffer aB aPr aC2 aV aHs aSl afilled x1 D_lastErrorAt D_buffered' buffer' hk n
    rw [fX9_appendFour_L3] at hf
    refine g_iload_n F dX9_appendFour_3 rfl ?_
    refine g_iflt F 46 dX9_appendFour_4 (by decide) (fun hc_2 => ?_) (fun hc_2 => ?_)
    · replace hf := gi_t hc_2 hf
      refine g_mask [false, false, false] rfl ?_
      exact hk D_buffered buffer hf
    · replace hf := gi_f hc_2 hf
      refine g_aload_n F dX9_appendFour_7 rfl ?_
      refine g_get (C := RX9) (T := TX9) (N := 10) F 0 0 1 rfl rfl rfl iX9_appendFour_X9 (by decide) (by decide +kernel) rfl dX9_appendFour_8 ?_
      refine g_sipush F 600 dX9_appendFour_11 rfl ?_
      refine g_icmp_ge F 46 dX9_appendFour_14 (by decide) (fun hc_1 => ?_) (fun hc_1 => ?_)
      · replace hf := gi_t hc_1 hf
        refine g_mask [false, false, false] rfl ?_
        exact hk D_buffered buffer hf
      · replace hf := gi_f hc_1 hf
        refine g_aload_n F dX9_appendFour_17 rfl ?_
        refine g_get (C := RX9) (T := TX9) (N := 10) F 0 0 0 rfl rfl rfl iX9_appendFour_X9 (by decide) (by decide +kernel) rfl dX9_appendFour_18 ?_
        refine g_aload_n F dX9_appendFour_21 rfl ?_
        refine g_get (C := RX9) (T := TX9) (N := 10) F 0 0 1 rfl rfl rfl iX9_appendFour_X9 (by decide) (by decide +kernel) rfl dX9_appendFour_22 ?_
        refine g_iload_n F dX9_appendFour_25 rfl ?_
        refine g_iload_n F dX9_appendFour_26 rfl ?_
        refine g_iushr F dX9_appendFour_27 ?_
        refine g_i2b F dX9_appendFour_28 ?_
        obtain ⟨hb_1, hf⟩ := gb_in hf
        obtain ⟨buffer_1, hbuffer_1, hf⟩ := Lt_el hf
        refine g_bast (Lw' := [sPD E aD abuffer aB aPr aC2 aV aHs aSl afilled D_buffered D_lastErrorAt, sArrB E abuffer 600 buffer_1]) F 1 0 (D_buffered.toNatClampNeg) rfl rfl rfl hb_1 dX9_appendFour_29 (by subst hbuffer_1; rfl) ?_
        refine g_aload_n F dX9_appendFour_30 rfl ?_
        refine g_dup F dX9_appendFour_31 rfl ?_
        refine g_get (C := RX9) (T := TX9) (N := 10) F 0 0 1 rfl rfl rfl iX9_appendFour_X9 (by decide) (by decide +kernel) rfl dX9_appendFour_32 ?_
        refine g_iconst F 1 dX9_appendFour_35 rfl ?_
        refine g_iadd F dX9_appendFour_36 ?_
        refine g_put (C := RX9) (T := TX9) (N := 10) (tys := tyX9) (Lw' := [sPD E aD abuffer aB aPr aC2 aV aHs aSl afilled (D_buffered + 1) D_lastErrorAt, sArrB E abuffer 600 buffer_1]) F 0 0 1 rfl rfl rfl iX9_appendFour_X9 tyX9_ok nmX9 (by decide) (by decide +kernel) rfl rfl rfl rfl (Nat.le_of_ble_eq_true rfl) dX9_appendFour_37 rfl ?_
        refine g_iinc (lv' := [some (.ref (aD 0)), some (.int x1), some (.int (x2 + (-8)))]) F (x2 + (-8)) dX9_appendFour_40 rfl rfl rfl rfl ?_
        refine g_goto F 3 dX9_appendFour_43 (by decide) ?_
        exact ih (x2 + (-8)) (D_buffered + 1) buffer_1 hf
set_option maxHeartbeats 4000000 in
set_option maxRecDepth 100000 in
theorem ctX9_appendFour (l : Launch) (E : gE) (aD abuffer aB aPr aC2 aV aHs aSl afilled : Nat → Nat) (x1 : Int32) (D_buffered : Int32) (D_lastErrorAt : Int32) (buffer : (Nat → Int32)) (D_buffered' : Int32) (buffer' : (Nat → Int32)) (hf : fX9_appendFour x1 D_buffered buffer = some (D_buffered', buffer')) : gMet l yX9_appendFour wsX9_appendFour rmX9_appendFour vwCl E [.ref (aD 0), .int x1] [sPD E aD abuffer aB aPr aC2 aV aHs aSl afilled D_buffered D_lastErrorAt, sArrB E abuffer 600 buffer] (fun v w => v = none ∧ w = [sPD E aD abuffer aB aPr aC2 aV aHs aSl afilled D_buffered' D_lastErrorAt, sArrB E abuffer 600 buffer']) 0 0 := by
  refine g_entry [some (.ref (aD 0)), some (.int x1), none] (by decide) rfl (Nat.le_of_ble_eq_true rfl) rfl ?_
  intro p e s m below meth c A F hnm
  unfold fX9_appendFour at hf
  refine g_bipush F 24 dX9_appendFour_0 rfl ?_
  refine g_istore_n (lv' := [some (.ref (aD 0)), some (.int x1), some (.int 24)]) F dX9_appendFour_2 (Nat.le_of_ble_eq_true rfl) rfl rfl ?_
  refine ktX9_appendFour_L3 F aD abuffer aB aPr aC2 aV aHs aSl afilled x1 D_lastErrorAt D_buffered' buffer' (fun D_buffered_1 buffer_1 hf => ?_) FU 24 D_buffered buffer hf
  cases hf
  exact g_vret F rfl ⟨rfl, rfl⟩ dX9_appendFour_46
set_option maxHeartbeats 4000000 in
set_option maxRecDepth 100000 in
theorem ctX9_append (l : Launch) (E : gE) (aD abuffer aB aPr aC2 aV aHs aSl afilled : Nat → Nat) (x1 : Int32) (x2 : Int32) (x3 : Int32) (x4 : Int32) (x5 : Int32) (D_buffered : Int32) (D_lastErrorAt : Int32) (buffer : (Nat → Int32)) (r : Int32) (D_buffered' : Int32) (buffer' : (Nat → Int32)) (hf : fX9_append x1 x2 x3 x4 x5 D_buffered buffer = some (r, D_buffered', buffer')) : gMet l yX9_append wsX9_append rmX9_append vwCl E [.ref (aD 0), .int x1, .int x2, .int x3, .int x4, .int x5] [sPD E aD abuffer aB aPr aC2 aV aHs aSl afilled D_buffered D_lastErrorAt, sArrB E abuffer 600 buffer] (fun v w => v = some (.int r) ∧ w = [sPD E aD abuffer aB aPr aC2 aV aHs aSl afilled D_buffered' D_lastErrorAt, sArrB E abuffer 600 buffer']) 0 0 := by
  refine g_entry [some (.ref (aD 0)), some (.int x1), some (.int x2), some (.int x3), some (.int x4), some (.int x5)] (by decide) rfl (Nat.le_of_ble_eq_true rfl) rfl ?_
  intro p e s m below meth c A F hnm
  unfold fX9_append at hf
  refine g_aload_n F dX9_append_0 rfl ?_
  refine g_get (C := RX9) (T := TX9) (N := 10) F 0 0 1 rfl rfl rfl iX9_append_X9 (by decide) (by decide +kernel) rfl dX9_append_1 ?_
  refine g_bipush F 20 dX9_append_4 rfl ?_
  refine g_iadd F dX9_append_6 ?_
  refine g_sipush F 600 dX9_append_7 rfl ?_
  refine g_icmp_le F 15 dX9_append_10 (by decide) (fun hc_1 => ?_) (fun hc_1 => ?_)
  · replace hf := gi_t hc_1 hf
    refine g_aload_n F dX9_append_15 rfl ?_
    refine g_iload_n F dX9_append_16 rfl ?_
    obtain ⟨D_buffered_1, buffer_1, hg_1, hf⟩ := gb2_el hf
    refine g_callV (C := RX9) (T := TX9) (N := 10) (Lr := []) (As := [.int x1]) (rest := []) F 0 0 1 (ctX9_appendFour l E aD abuffer aB aPr aC2 aV aHs aSl afilled x1 D_buffered D_lastErrorAt buffer D_buffered_1 buffer_1 hg_1) gX9_append_X9_appendFour rfl rfl rfl h0X9_appendFour ⟨Nat.le_of_ble_eq_true rfl, Nat.le_of_ble_eq_true rfl⟩ rfl rfl rfl [0, 1] [] rfl rfl rfl rfl rfl rfl (Nat.le_of_ble_eq_true rfl) dX9_append_17 ⟨(Nat.le_of_ble_eq_true rfl), (Nat.le_of_ble_eq_true rfl)⟩ ?_
    rintro v w ⟨rfl, rfl⟩
    refine g_norm (Lw' := [sPD E aD abuffer aB aPr aC2 aV aHs aSl afilled D_buffered_1 D_lastErrorAt, sArrB E abuffer 600 buffer_1]) (st' := []) (pc' := 20) [0, 1] rfl rfl rfl rfl ?_
    refine g_aload_n F dX9_append_20 rfl ?_
    refine g_iload_n F dX9_append_21 rfl ?_
    obtain ⟨D_buffered_2, buffer_2, hg_2, hf⟩ := gb2_el hf
    refine g_callV (C := RX9) (T := TX9) (N := 10) (Lr := []) (As := [.int x2]) (rest := []) F 0 0 1 (ctX9_appendFour l E aD abuffer aB aPr aC2 aV aHs aSl afilled x2 D_buffered_1 D_lastErrorAt buffer_1 D_buffered_2 buffer_2 hg_2) gX9_append_X9_appendFour rfl rfl rfl h0X9_appendFour ⟨Nat.le_of_ble_eq_true rfl, Nat.le_of_ble_eq_true rfl⟩ rfl rfl rfl [0, 1] [] rfl rfl rfl rfl rfl rfl (Nat.le_of_ble_eq_true rfl) dX9_append_22 ⟨(Nat.le_of_ble_eq_true rfl), (Nat.le_of_ble_eq_true rfl)⟩ ?_
    rintro v w ⟨rfl, rfl⟩
    refine g_norm (Lw' := [sPD E aD abuffer aB aPr aC2 aV aHs aSl afilled D_buffered_2 D_lastErrorAt, sArrB E abuffer 600 buffer_2]) (st' := []) (pc' := 25) [0, 1] rfl rfl rfl rfl ?_
    refine g_aload_n F dX9_append_25 rfl ?_
    refine g_iload_n F dX9_append_26 rfl ?_
    obtain ⟨D_buffered_3, buffer_3, hg_3, hf⟩ := gb2_el hf
    refine g_callV (C := RX9) (T := TX9) (N := 10) (Lr := []) (As := [.int x3]) (rest := []) F 0 0 1 (ctX9_appendFour l E aD abuffer aB aPr aC2 aV aHs aSl afilled x3 D_buffered_2 D_lastErrorAt buffer_2 D_buffered_3 buffer_3 hg_3) gX9_append_X9_appendFour rfl rfl rfl h0X9_appendFour ⟨Nat.le_of_ble_eq_true rfl, Nat.le_of_ble_eq_true rfl⟩ rfl rfl rfl [0, 1] [] rfl rfl rfl rfl rfl rfl (Nat.le_of_ble_eq_true rfl) dX9_append_27 ⟨(Nat.le_of_ble_eq_true rfl), (Nat.le_of_ble_eq_true rfl)⟩ ?_
    rintro v w ⟨rfl, rfl⟩
    refine g_norm (Lw' := [sPD E aD abuffer aB aPr aC2 aV aHs aSl afilled D_buffered_3 D_lastErrorAt, sArrB E abuffer 600 buffer_3]) (st' := []) (pc' := 30) [0, 1] rfl rfl rfl rfl ?_
    refine g_aload_n F dX9_append_30 rfl ?_
    refine g_iload F dX9_append_31 rfl ?_
    obtain ⟨D_buffered_4, buffer_4, hg_4, hf⟩ := gb2_el hf
    refine g_callV (C := RX9) (T := TX9) (N := 10) (Lr := []) (As := [.int x4]) (rest := []) F 0 0 1 (ctX9_appendFour l E aD abuffer aB aPr aC2 aV aHs aSl afilled x4 D_buffered_3 D_lastErrorAt buffer_3 D_buffered_4 buffer_4 hg_4) gX9_append_X9_appendFour rfl rfl rfl h0X9_appendFour ⟨Nat.le_of_ble_eq_true rfl, Nat.le_of_ble_eq_true rfl⟩ rfl rfl rfl [0, 1] [] rfl rfl rfl rfl rfl rfl (Nat.le_of_ble_eq_true rfl) dX9_append_33 ⟨(Nat.le_of_ble_eq_true rfl), (Nat.le_of_ble_eq_true rfl)⟩ ?_
    rintro v w ⟨rfl, rfl⟩
    refine g_norm (Lw' := [sPD E aD abuffer aB aPr aC2 aV aHs aSl afilled D_buffered_4 D_lastErrorAt, sArrB E abuffer 600 buffer_4]) (st' := []) (pc' := 36) [0, 1] rfl rfl rfl rfl ?_
    refine g_aload_n F dX9_append_36 rfl ?_
    refine g_iload F dX9_append_37 rfl ?_
    obtain ⟨D_buffered_5, buffer_5, hg_5, hf⟩ := gb2_el hf
    refine g_callV (C := RX9) (T := TX9) (N := 10) (Lr := []) (As := [.int x5]) (rest := []) F 0 0 1 (ctX9_appendFour l E aD abuffer aB aPr aC2 aV aHs aSl afilled x5 D_buffered_4 D_lastErrorAt buffer_4 D_buffered_5 buffer_5 hg_5) gX9_append_X9_appendFour rfl rfl rfl h0X9_appendFour ⟨Nat.le_of_ble_eq_true rfl, Nat.le_of_ble_eq_true rfl⟩ rfl rfl rfl [0, 1] [] rfl rfl rfl rfl rfl rfl (Nat.le_of_ble_eq_true rfl) dX9_append_39 ⟨(Nat.le_of_ble_eq_true rfl), (Nat.le_of_ble_eq_true rfl)⟩ ?_
    rintro v w ⟨rfl, rfl⟩
    refine g_norm (Lw' := [sPD E aD abuffer aB aPr aC2 aV aHs aSl afilled D_buffered_5 D_lastErrorAt, sArrB E abuffer 600 buffer_5]) (st' := []) (pc' := 42) [0, 1] rfl rfl rfl rfl ?_
    refine g_aload_n F dX9_append_42 rfl ?_
    refine g_get (C := RX9) (T := TX9) (N := 10) F 0 0 1 rfl rfl rfl iX9_append_X9 (by decide) (by decide +kernel) rfl dX9_append_43 ?_
    cases hf
    exact g_iret F rfl ⟨rfl, rfl⟩ dX9_append_46
  · replace hf := gi_f hc_1 hf
    refine g_iconst F (-1) dX9_append_13 rfl ?_
    cases hf
    exact g_iret F rfl ⟨rfl, rfl⟩ dX9_append_14
set_option maxHeartbeats 4000000 in
set_option maxRecDepth 100000 in
theorem ktX9_parse_L83 {p : Program} {l : Launch} {e : Env} {s : State} {m : MethodId} {args : Array Value} {below : List Frame} {meth : Method} {c : Code} {E : gE} {A : Nat → Prop} (F : gFx p s m args meth c RX9 wsX9_parse cX9_parse 4 (some .int) vwCl E A) (aD abuffer aB aPr aC2 aV aHs aSl afilled asettings asums aU aP aW aB2 aC atext asettings2 asums2 aU2 aP2 aW2 aS : Nat → Nat) (D_buffered : Int32) (D_lastErrorAt : Int32) (buffer : (Nat → Int32)) (B_time : Int32) (B_chest : Int32) (B_fund : Int32) (settings : (Nat → Int32)) (sums : (Nat → Int32)) (U : tUsers) (P : tPieces) (W : tWords) (Pr_errorAt : Int32) (Pr_length : Int32) (Pr_next : Int32) (Pr_errorCode : Int32) (Pr_kind : Int32) (Pr_tokenAt : Int32) (Pr_letters : Int64) (Pr_number : Int32) (B2_time : Int32) (B2_chest : Int32) (B2_fund : Int32) (settings2 : (Nat → Int32)) (sums2 : (Nat → Int32)) (U2 : tUsers) (P2 : tPieces) (W2 : tWords) (C : tCut) (S : tCutR) (text : (Nat → Int32)) (Hs : tHist) (r : Int32) (D_buffered' : Int32) (D_lastErrorAt' : Int32) (B_time' : Int32) (B_chest' : Int32) (B_fund' : Int32) (settings' : (Nat → Int32)) (sums' : (Nat → Int32)) (U' : tUsers) (P' : tPieces) (W' : tWords) (Pr_errorAt' : Int32) (Pr_length' : Int32) (Pr_next' : Int32) (Pr_errorCode' : Int32) (Pr_kind' : Int32) (Pr_tokenAt' : Int32) (Pr_letters' : Int64) (Pr_number' : Int32) (B2_time' : Int32) (B2_chest' : Int32) (B2_fund' : Int32) (settings2' : (Nat → Int32)) (sums2' : (Nat → Int32)) (U2' : tUsers) (P2' : tPieces) (W2' : tWords) (C' : tCut) (S' : tCutR) (text' : (Nat → Int32)) (Hs' : tHist) (filled' : (Nat → Int32)) {k : (Nat → Int32) → Option (Int32 × Int32 × Int32 × Int32 × Int32 × Int32 × (Nat → Int32) × (Nat → Int32) × tUsers × tPieces × tWords × Int32 × Int32 × Int32 × Int32 × Int32 × Int32 × Int64 × Int32 × Int32 × Int32 × Int32 × (Nat → Int32) × (Nat → Int32) × tUsers × tPieces × tWords × tCut × tCutR × (Nat → Int32) × tHist × (Nat → Int32))} (hk : ∀ (filled : (Nat → Int32)), k filled = some (r, D_buffered', D_lastErrorAt', B_time', B_chest', B_fund', settings', sums', U', P', W', Pr_errorAt', Pr_length', Pr_next', Pr_errorCode', Pr_kind', Pr_tokenAt', Pr_letters', Pr_number', B2_time', B2_chest', B2_fund', settings2', sums2', U2', P2', W2', C', S', text', Hs', filled') → Gj p l e rmX9_parse s m args below meth c 0 0 (MQ below (gQ vwCl E A (fun v w => v = some (.int r) ∧ w = [sPD E aD abuffer aB aPr aC2 aV aHs aSl afilled D_buffered' D_lastErrorAt', sArrB E abuffer 600 buffer, sBook E aB asettings asums aU aP aW B_time' B_chest' B_fund', sArrI E asettings 5 settings', sArrI E asums 6 sums', sUsers E aU U', sPieces E aP P', sWords E aW W', sPar E aPr aB2 aC atext Pr_errorAt' Pr_length' Pr_next' Pr_errorCode' Pr_kind' Pr_tokenAt' Pr_letters' Pr_number', sBook E aB2 asettings2 asums2 aU2 aP2 aW2 B2_time' B2_chest' B2_fund', sArrI E asettings2 5 settings2', sArrI E asums2 6 sums2', sUsers E aU2 U2', sPieces E aP2 P2', sWords E aW2 W2', sCut E aC aS C', sCutR E aS S', sArrB E atext 600 text', sHist E aHs Hs', sArrZ E afilled 2 filled'])) args s 0 0 A) vwCl E A [sPD E aD abuffer aB aPr aC2 aV aHs aSl afilled D_buffered D_lastErrorAt, sArrB E abuffer 600 buffer, sBook E aB asettings asums aU aP aW B_time B_chest B_fund, sArrI E asettings 5 settings, sArrI E asums 6 sums, sUsers E aU U, sPieces E aP P, sWords E aW W, sPar E aPr aB2 aC atext Pr_errorAt Pr_length Pr_next Pr_errorCode Pr_kind Pr_tokenAt Pr_letters Pr_number, sBook E aB2 asettings2 asums2 aU2 aP2 aW2 B2_time B2_chest B2_fund, sArrI E asettings2 5 settings2, sArrI E asums2 6 sums2, sUsers E aU2 U2, sPieces E aP2 P2, sWords E aW2 W2, sCut E aC aS C, sCutR E aS S, sArrB E atext 600 text, sHist E aHs Hs, sArrZ E afilled 2 filled] [none, none, none, none] [] 101) : ∀ (n : Nat) (x3 : Int32) (filled : (Nat → Int32)), fX9_parse_L83 k n x3 filled = some (r, D_buffered', D_lastErrorAt', B_time', B_chest', B_fund', settings', sums', U', P', W', Pr_errorAt', Pr_length', Pr_next', Pr_errorCode', Pr_kind', Pr_tokenAt', Pr_letters', Pr_number', B2_time', B2_chest', B2_fund', settings2', sums2', U2', P2', W2', C', S', text', Hs', filled') → Gj p l e rmX9_parse s m args below meth c 0 0 (MQ below (gQ vwCl E A (fun v w => v = some (.int r) ∧ w = [sPD E aD abuffer aB aPr aC2 aV aHs aSl afilled D_buffered' D_lastErrorAt', sArrB E abuffer 600 buffer, sBook E aB asettings asums aU aP aW B_time' B_chest' B_fund', sArrI E asettings 5 settings', sArrI E asums 6 sums', sUsers E aU U', sPieces E aP P', sWords E aW W', sPar E aPr aB2 aC atext Pr_errorAt' Pr_length' Pr_next' Pr_errorCode' Pr_kind' Pr_tokenAt' Pr_letters' Pr_number', sBook E aB2 asettings2 asums2 aU2 aP2 aW2 B2_time' B2_chest' B2_fund', sArrI E asettings2 5 settings2', sArrI E asums2 6 sums2', sUsers E aU2 U2', sPieces E aP2 P2', sWords E aW2 W2', sCut E aC aS C', sCutR E aS S', sArrB E atext 600 text', sHist E aHs Hs', sArrZ E afilled 2 filled'])) args s 0 0 A) vwCl E A [sPD E aD abuffer aB aPr aC2 aV aHs aSl afilled D_buffered D_lastErrorAt, sArrB E abuffer 600 buffer, sBook E aB asettings asums aU aP aW B_time B_chest B_fund, sArrI E asettings 5 settings, sArrI E asums 6 sums, sUsers E aU U, sPieces E aP P, sWords E aW W, sPar E aPr aB2 aC atext Pr_errorAt Pr_length Pr_next Pr_errorCode Pr_kind Pr_tokenAt Pr_letters Pr_number, sBook E aB2 asettings2 asums2 aU2 aP2 aW2 B2_time B2_chest B2_fund, sArrI E asettings2 5 settings2, sArrI E asums2 6 sums2, sUsers E aU2 U2, sPieces E aP2 P2, sWords E aW2 W2, sCut E aC aS C, sCutR E aS S, sArrB E atext 600 text, sHist E aHs Hs, sArrZ E afilled 2 filled] [some (.ref (aD 0)), none, none, some (.int x3)] [] 83
  | 0, _, _, hf => by cases hf
  | n + 1, x3, filled, hf => by
    have ih := ktX9_parse_L83 F aD abuffer aB aPr aC2 aV aHs aSl afilled asettings asums aU aP aW aB2 aC atext asettings2 asums2 aU2 aP2 aW2 aS D_buffered D_lastErrorAt buffer B_time B_chest B_fund settings sums U P W Pr_errorAt Pr_length Pr_next Pr_errorCode Pr_kind Pr_tokenAt Pr_letters Pr_number B2_time B2_chest B2_fund settings2 sums2 U2 P2 W2 C S text Hs r D_buffered' D_lastErrorAt' B_time' B_chest' B_fund' settings' sums' U' P' W' Pr_errorAt' Pr_length' Pr_next' Pr_errorCode' Pr_kind' Pr_tokenAt' Pr_letters' Pr_number' B2_time' B2_chest' B2_fund' settings2' sums2' U2' P2' W2' C' S' text' Hs' filled' hk n
    rw [fX9_parse_L83] at hf
    refine g_iload_n F dX9_parse_83 rfl ?_
    refine g_iconst F 2 dX9_parse_84 rfl ?_
    refine g_icmp_ge F 101 dX9_parse_85 (by decide) (fun hc_1 => ?_) (fun hc_1 => ?_)
    · replace hf := gi_t hc_1 hf
      refine g_mask [false, true, true, false] rfl ?_
      exact hk filled hf
    · replace hf := gi_f hc_1 hf
      refine g_aload_n F dX9_parse_88 rfl ?_
      refine g_get (C := RX9) (T := TX9) (N := 10) F 0 0 9 rfl rfl rfl iX9_parse_X9 (by decide) (by decide +kernel) rfl dX9_parse_89 ?_
      refine g_iload_n F dX9_parse_92 rfl ?_
      refine g_iconst F 0 dX9_parse_93 rfl ?_
      obtain ⟨hb_1, hf⟩ := gb_in hf
      obtain ⟨filled_1, hfilled_1, hf⟩ := Lt_el hf
      refine g_zast (Lw' := [sPD E aD abuffer aB aPr aC2 aV aHs aSl afilled D_buffered D_lastErrorAt, sArrB E abuffer 600 buffer, sBook E aB asettings asums aU aP aW B_time B_chest B_fund, sArrI E asettings 5 settings, sArrI E asums 6 sums, sUsers E aU U, sPieces E aP P, sWords E aW W, sPar E aPr aB2 aC atext Pr_errorAt Pr_length Pr_next Pr_errorCode Pr_kind Pr_tokenAt Pr_letters Pr_number, sBook E aB2 asettings2 asums2 aU2 aP2 aW2 B2_time B2_chest B2_fund, sArrI E asettings2 5 settings2, sArrI E asums2 6 sums2, sUsers E aU2 U2, sPieces E aP2 P2, sWords E aW2 W2, sCut E aC aS C, sCutR E aS S, sArrB E atext 600 text, sHist E aHs Hs, sArrZ E afilled 2 filled_1]) F 19 0 (x3.toNatClampNeg) rfl rfl rfl hb_1 dX9_parse_94 (by subst hfilled_1; rfl) ?_
      refine g_iinc (lv' := [some (.ref (aD 0)), none, none, some (.int (x3 + 1))]) F (x3 + 1) dX9_parse_95 rfl rfl rfl rfl ?_
      refine g_goto F 83 dX9_parse_98 (by decide) ?_
      exact ih (x3 + 1) filled_1 hf
set_option maxHeartbeats 4000000 in
set_option maxRecDepth 100000 in
theorem ctX9_parse (l : Launch) (E : gE) (aD abuffer aB aPr aC2 aV aHs aSl afilled asettings asums aU aP aW aB2 aC atext asettings2 asums2 aU2 aP2 aW2 aS : Nat → Nat) (x1 : Int32) (D_buffered : Int32) (D_lastErrorAt : Int32) (buffer : (Nat → Int32)) (B_time : Int32) (B_chest : Int32) (B_fund : Int32) (settings : (Nat → Int32)) (sums : (Nat → Int32)) (U : tUsers) (P : tPieces) (W : tWords) (Pr_errorAt : Int32) (Pr_length : Int32) (Pr_next : Int32) (Pr_errorCode : Int32) (Pr_kind : Int32) (Pr_tokenAt : Int32) (Pr_letters : Int64) (Pr_number : Int32) (B2_time : Int32) (B2_chest : Int32) (B2_fund : Int32) (settings2 : (Nat → Int32)) (sums2 : (Nat → Int32)) (U2 : tUsers) (P2 : tPieces) (W2 : tWords) (C : tCut) (S : tCutR) (text : (Nat → Int32)) (Hs : tHist) (filled : (Nat → Int32)) (r : Int32) (D_buffered' : Int32) (D_lastErrorAt' : Int32) (B_time' : Int32) (B_chest' : Int32) (B_fund' : Int32) (settings' : (Nat → Int32)) (sums' : (Nat → Int32)) (U' : tUsers) (P' : tPieces) (W' : tWords) (Pr_errorAt' : Int32) (Pr_length' : Int32) (Pr_next' : Int32) (Pr_errorCode' : Int32) (Pr_kind' : Int32) (Pr_tokenAt' : Int32) (Pr_letters' : Int64) (Pr_number' : Int32) (B2_time' : Int32) (B2_chest' : Int32) (B2_fund' : Int32) (settings2' : (Nat → Int32)) (sums2' : (Nat → Int32)) (U2' : tUsers) (P2' : tPieces) (W2' : tWords) (C' : tCut) (S' : tCutR) (text' : (Nat → Int32)) (Hs' : tHist) (filled' : (Nat → Int32)) (hf : fX9_parse x1 D_buffered D_lastErrorAt buffer B_time B_chest B_fund settings sums U P W Pr_errorAt Pr_length Pr_next Pr_errorCode Pr_kind Pr_tokenAt Pr_letters Pr_number B2_time B2_chest B2_fund settings2 sums2 U2 P2 W2 C S text Hs filled = some (r, D_buffered', D_lastErrorAt', B_time', B_chest', B_fund', settings', sums', U', P', W', Pr_errorAt', Pr_length', Pr_next', Pr_errorCode', Pr_kind', Pr_tokenAt', Pr_letters', Pr_number', B2_time', B2_chest', B2_fund', settings2', sums2', U2', P2', W2', C', S', text', Hs', filled')) : gMet l yX9_parse wsX9_parse rmX9_parse vwCl E [.ref (aD 0), .int x1] [sPD E aD abuffer aB aPr aC2 aV aHs aSl afilled D_buffered D_lastErrorAt, sArrB E abuffer 600 buffer, sBook E aB asettings asums aU aP aW B_time B_chest B_fund, sArrI E asettings 5 settings, sArrI E asums 6 sums, sUsers E aU U, sPieces E aP P, sWords E aW W, sPar E aPr aB2 aC atext Pr_errorAt Pr_length Pr_next Pr_errorCode Pr_kind Pr_tokenAt Pr_letters Pr_number, sBook E aB2 asettings2 asums2 aU2 aP2 aW2 B2_time B2_chest B2_fund, sArrI E asettings2 5 settings2, sArrI E asums2 6 sums2, sUsers E aU2 U2, sPieces E aP2 P2, sWords E aW2 W2, sCut E aC aS C, sCutR E aS S, sArrB E atext 600 text, sHist E aHs Hs, sArrZ E afilled 2 filled] (fun v w => v = some (.int r) ∧ w = [sPD E aD abuffer aB aPr aC2 aV aHs aSl afilled D_buffered' D_lastErrorAt', sArrB E abuffer 600 buffer, sBook E aB asettings asums aU aP aW B_time' B_chest' B_fund', sArrI E asettings 5 settings', sArrI E asums 6 sums', sUsers E aU U', sPieces E aP P', sWords E aW W', sPar E aPr aB2 aC atext Pr_errorAt' Pr_length' Pr_next' Pr_errorCode' Pr_kind' Pr_tokenAt' Pr_letters' Pr_number', sBook E aB2 asettings2 asums2 aU2 aP2 aW2 B2_time' B2_chest' B2_fund', sArrI E asettings2 5 settings2', sArrI E asums2 6 sums2', sUsers E aU2 U2', sPieces E aP2 P2', sWords E aW2 W2', sCut E aC aS C', sCutR E aS S', sArrB E atext 600 text', sHist E aHs Hs', sArrZ E afilled 2 filled']) 0 0 := by
  refine g_entry [some (.ref (aD 0)), some (.int x1), none, none] (by decide) rfl (Nat.le_of_ble_eq_true rfl) rfl ?_
  intro p e s m below meth c A F hnm
  unfold fX9_parse at hf
  refine g_iload_n F dX9_parse_0 rfl ?_
  obtain ⟨j_1, hj_1, hf⟩ := Lt_el hf
  have hj_1 : j_1 = some (r, D_buffered', D_lastErrorAt', B_time', B_chest', B_fund', settings', sums', U', P', W', Pr_errorAt', Pr_length', Pr_next', Pr_errorCode', Pr_kind', Pr_tokenAt', Pr_letters', Pr_number', B2_time', B2_chest', B2_fund', settings2', sums2', U2', P2', W2', C', S', text', Hs', filled') → Gj p l e rmX9_parse s m ([.ref (aD 0), .int x1] : List Value).toArray below meth c 0 0 (MQ below (gQ vwCl E A (fun v w => v = some (.int r) ∧ w = [sPD E aD abuffer aB aPr aC2 aV aHs aSl afilled D_buffered' D_lastErrorAt', sArrB E abuffer 600 buffer, sBook E aB asettings asums aU aP aW B_time' B_chest' B_fund', sArrI E asettings 5 settings', sArrI E asums 6 sums', sUsers E aU U', sPieces E aP P', sWords E aW W', sPar E aPr aB2 aC atext Pr_errorAt' Pr_length' Pr_next' Pr_errorCode' Pr_kind' Pr_tokenAt' Pr_letters' Pr_number', sBook E aB2 asettings2 asums2 aU2 aP2 aW2 B2_time' B2_chest' B2_fund', sArrI E asettings2 5 settings2', sArrI E asums2 6 sums2', sUsers E aU2 U2', sPieces E aP2 P2', sWords E aW2 W2', sCut E aC aS C', sCutR E aS S', sArrB E atext 600 text', sHist E aHs Hs', sArrZ E afilled 2 filled'])) ([.ref (aD 0), .int x1] : List Value).toArray s 0 0 A) vwCl E A [sPD E aD abuffer aB aPr aC2 aV aHs aSl afilled D_buffered D_lastErrorAt, sArrB E abuffer 600 buffer, sBook E aB asettings asums aU aP aW B_time B_chest B_fund, sArrI E asettings 5 settings, sArrI E asums 6 sums, sUsers E aU U, sPieces E aP P, sWords E aW W, sPar E aPr aB2 aC atext Pr_errorAt Pr_length Pr_next Pr_errorCode Pr_kind Pr_tokenAt Pr_letters Pr_number, sBook E aB2 asettings2 asums2 aU2 aP2 aW2 B2_time B2_chest B2_fund, sArrI E asettings2 5 settings2, sArrI E asums2 6 sums2, sUsers E aU2 U2, sPieces E aP2 P2, sWords E aW2 W2, sCut E aC aS C, sCutR E aS S, sArrB E atext 600 text, sHist E aHs Hs, sArrZ E afilled 2 filled] [none, none, none, none] [] 12 := by
    intro hf
    rw [hj_1] at hf
    cases hf
  refine g_iflt F 12 dX9_parse_1 (by decide) (fun hc_3 => ?_) (fun hc_3 => ?_)
  · replace hf := gi_t hc_3 hf
    refine g_mask [false, false, true, true] rfl ?_
    exact hj_1 hf
  · replace hf := gi_f hc_3 hf
    refine g_iload_n F dX9_parse_4 rfl ?_
    refine g_aload_n F dX9_parse_5 rfl ?_
    refine g_get (C := RX9) (T := TX9) (N := 10) F 0 0 1 rfl rfl rfl iX9_parse_X9 (by decide) (by decide +kernel) rfl dX9_parse_6 ?_
    refine g_icmp_le F 20 dX9_parse_9 (by decide) (fun hc_2 => ?_) (fun hc_2 => ?_)
    · replace hf := gi_t hc_2 hf
      refine g_aload_n F dX9_parse_20 rfl ?_
      refine g_iconst F 0 dX9_parse_21 rfl ?_
      refine g_put (C := RX9) (T := TX9) (N := 10) (tys := tyX9) (Lw' := [sPD E aD abuffer aB aPr aC2 aV aHs aSl afilled 0 D_lastErrorAt, sArrB E abuffer 600 buffer, sBook E aB asettings asums aU aP aW B_time B_chest B_fund, sArrI E asettings 5 settings, sArrI E asums 6 sums, sUsers E aU U, sPieces E aP P, sWords E aW W, sPar E aPr aB2 aC atext Pr_errorAt Pr_length Pr_next Pr_errorCode Pr_kind Pr_tokenAt Pr_letters Pr_number, sBook E aB2 asettings2 asums2 aU2 aP2 aW2 B2_time B2_chest B2_fund, sArrI E asettings2 5 settings2, sArrI E asums2 6 sums2, sUsers E aU2 U2, sPieces E aP2 P2, sWords E aW2 W2, sCut E aC aS C, sCutR E aS S, sArrB E atext 600 text, sHist E aHs Hs, sArrZ E afilled 2 filled]) F 0 0 1 rfl rfl rfl iX9_parse_X9 tyX9_ok nmX9 (by decide) (by decide +kernel) rfl rfl rfl rfl (Nat.le_of_ble_eq_true rfl) dX9_parse_22 rfl ?_
      refine g_aload_n F dX9_parse_25 rfl ?_
      refine g_get (C := RX9) (T := TX9) (N := 10) F 0 0 4 rfl rfl rfl iX9_parse_X9 (by decide) (by decide +kernel) rfl dX9_parse_26 ?_
      refine g_aload_n F dX9_parse_29 rfl ?_
      refine g_get (C := RX9) (T := TX9) (N := 10) F 0 0 0 rfl rfl rfl iX9_parse_X9 (by decide) (by decide +kernel) rfl dX9_parse_30 ?_
      refine g_iload_n F dX9_parse_33 rfl ?_
      obtain ⟨r_1, Pr_errorAt_1, Pr_length_1, Pr_next_1, Pr_errorCode_1, Pr_kind_1, Pr_tokenAt_1, Pr_letters_1, Pr_number_1, B2_time_1, B2_chest_1, B2_fund_1, settings2_1, sums2_1, U2_1, P2_1, W2_1, C_1, S_1, text_1, hg_1, hf⟩ := gb20_el hf
      refine g_callV (C := RX5) (T := TX5) (N := 11) (Lr := [sPD E aD abuffer aB aPr aC2 aV aHs aSl afilled 0 D_lastErrorAt, sBook E aB asettings asums aU aP aW B_time B_chest B_fund, sArrI E asettings 5 settings, sArrI E asums 6 sums, sUsers E aU U, sPieces E aP P, sWords E aW W, sHist E aHs Hs, sArrZ E afilled 2 filled]) (As := [.ref (abuffer 0), .int x1]) (rest := []) F 8 0 2 (ctX5_readText l E aPr aB2 aC atext asettings2 asums2 aU2 aP2 aW2 aS abuffer 600 x1 Pr_errorAt Pr_length Pr_next Pr_errorCode Pr_kind Pr_tokenAt Pr_letters Pr_number B2_time B2_chest B2_fund settings2 sums2 U2 P2 W2 C S text buffer r_1 Pr_errorAt_1 Pr_length_1 Pr_next_1 Pr_errorCode_1 Pr_kind_1 Pr_tokenAt_1 Pr_letters_1 Pr_number_1 B2_time_1 B2_chest_1 B2_fund_1 settings2_1 sums2_1 U2_1 P2_1 W2_1 C_1 S_1 text_1 hg_1) gX9_parse_X5_readText rfl rfl rfl h0X5_readText ⟨Nat.le_of_ble_eq_true rfl, Nat.le_of_ble_eq_true rfl⟩ rfl rfl rfl [8, 9, 10, 11, 12, 13, 14, 15, 16, 17, 1] [0, 2, 3, 4, 5, 6, 7, 18, 19] rfl rfl rfl rfl rfl rfl (Nat.le_of_ble_eq_true rfl) dX9_parse_34 ⟨(Nat.le_of_ble_eq_true rfl), (Nat.le_of_ble_eq_true rfl)⟩ ?_
      rintro v w ⟨rfl, rfl⟩
      refine g_norm (Lw' := [sPD E aD abuffer aB aPr aC2 aV aHs aSl afilled 0 D_lastErrorAt, sArrB E abuffer 600 buffer, sBook E aB asettings asums aU aP aW B_time B_chest B_fund, sArrI E asettings 5 settings, sArrI E asums 6 sums, sUsers E aU U, sPieces E aP P, sWords E aW W, sPar E aPr aB2 aC atext Pr_errorAt_1 Pr_length_1 Pr_next_1 Pr_errorCode_1 Pr_kind_1 Pr_tokenAt_1 Pr_letters_1 Pr_number_1, sBook E aB2 asettings2 asums2 aU2 aP2 aW2 B2_time_1 B2_chest_1 B2_fund_1, sArrI E asettings2 5 settings2_1, sArrI E asums2 6 sums2_1, sUsers E aU2 U2_1, sPieces E aP2 P2_1, sWords E aW2 W2_1, sCut E aC aS C_1, sCutR E aS S_1, sArrB E atext 600 text_1, sHist E aHs Hs, sArrZ E afilled 2 filled]) (st' := [.int r_1]) (pc' := 37) [11, 10, 12, 13, 14, 15, 16, 17, 0, 1, 2, 3, 4, 5, 6, 7, 8, 9, 18, 19] rfl rfl rfl rfl ?_
      refine g_istore_n (lv' := [some (.ref (aD 0)), some (.int x1), some (.int r_1), none]) F dX9_parse_37 (Nat.le_of_ble_eq_true rfl) rfl rfl ?_
      refine g_iload_n F dX9_parse_38 rfl ?_
      refine g_ifeq F 55 dX9_parse_39 (by decide) (fun hc_1 => ?_) (fun hc_1 => ?_)
      · replace hf := gi_t hc_1 hf
        refine g_aload_n F dX9_parse_55 rfl ?_
        refine g_iconst F (-1) dX9_parse_56 rfl ?_
        refine g_put (C := RX9) (T := TX9) (N := 10) (tys := tyX9) (Lw' := [sPD E aD abuffer aB aPr aC2 aV aHs aSl afilled 0 (-1), sArrB E abuffer 600 buffer, sBook E aB asettings asums aU aP aW B_time B_chest B_fund, sArrI E asettings 5 settings, sArrI E asums 6 sums, sUsers E aU U, sPieces E aP P, sWords E aW W, sPar E aPr aB2 aC atext Pr_errorAt_1 Pr_length_1 Pr_next_1 Pr_errorCode_1 Pr_kind_1 Pr_tokenAt_1 Pr_letters_1 Pr_number_1, sBook E aB2 asettings2 asums2 aU2 aP2 aW2 B2_time_1 B2_chest_1 B2_fund_1, sArrI E asettings2 5 settings2_1, sArrI E asums2 6 sums2_1, sUsers E aU2 U2_1, sPieces E aP2 P2_1, sWords E aW2 W2_1, sCut E aC aS C_1, sCutR E aS S_1, sArrB E atext 600 text_1, sHist E aHs Hs, sArrZ E afilled 2 filled]) F 0 0 2 rfl rfl rfl iX9_parse_X9 tyX9_ok nmX9 (by decide) (by decide +kernel) rfl rfl rfl rfl (Nat.le_of_ble_eq_true rfl) dX9_parse_57 rfl ?_
        refine g_aload_n F dX9_parse_60 rfl ?_
        refine g_get (C := RX9) (T := TX9) (N := 10) F 0 0 3 rfl rfl rfl iX9_parse_X9 (by decide) (by decide +kernel) rfl dX9_parse_61 ?_
        refine g_aload_n F dX9_parse_64 rfl ?_
        refine g_get (C := RX9) (T := TX9) (N := 10) F 0 0 4 rfl rfl rfl iX9_parse_X9 (by decide) (by decide +kernel) rfl dX9_parse_65 ?_
        refine g_get (C := RX5) (T := TX5) (N := 11) F 8 0 0 rfl rfl rfl iX9_parse_X5 (by decide) (by decide +kernel) rfl dX9_parse_68 ?_
        obtain ⟨B_time_1, B_chest_1, B_fund_1, settings_1, sums_1, U_1, P_1, W_1, hg_2, hf⟩ := gb8_el hf
        refine g_callV (C := RX1) (T := TX1) (N := 8) (Lr := [sPD E aD abuffer aB aPr aC2 aV aHs aSl afilled 0 (-1), sArrB E abuffer 600 buffer, sPar E aPr aB2 aC atext Pr_errorAt_1 Pr_length_1 Pr_next_1 Pr_errorCode_1 Pr_kind_1 Pr_tokenAt_1 Pr_letters_1 Pr_number_1, sCut E aC aS C_1, sCutR E aS S_1, sArrB E atext 600 text_1, sHist E aHs Hs, sArrZ E afilled 2 filled]) (As := [.ref (aB2 0)]) (rest := []) F 2 0 1 (ctX1_copyFrom l E aB asettings asums aU aP aW aB2 asettings2 asums2 aU2 aP2 aW2 B_time B_chest B_fund settings sums U P W B2_time_1 B2_chest_1 B2_fund_1 settings2_1 sums2_1 U2_1 P2_1 W2_1 B_time_1 B_chest_1 B_fund_1 settings_1 sums_1 U_1 P_1 W_1 hg_2) gX9_parse_X1_copyFrom rfl rfl rfl h0X1_copyFrom ⟨Nat.le_of_ble_eq_true rfl, Nat.le_of_ble_eq_true rfl⟩ rfl rfl rfl [2, 3, 4, 5, 6, 7, 9, 10, 11, 12, 13, 14] [0, 1, 8, 15, 16, 17, 18, 19] rfl rfl rfl rfl rfl rfl (Nat.le_of_ble_eq_true rfl) dX9_parse_71 ⟨(Nat.le_of_ble_eq_true rfl), (Nat.le_of_ble_eq_true rfl)⟩ ?_
        rintro v w ⟨rfl, rfl⟩
        refine g_norm (Lw' := [sPD E aD abuffer aB aPr aC2 aV aHs aSl afilled 0 (-1), sArrB E abuffer 600 buffer, sBook E aB asettings asums aU aP aW B_time_1 B_chest_1 B_fund_1, sArrI E asettings 5 settings_1, sArrI E asums 6 sums_1, sUsers E aU U_1, sPieces E aP P_1, sWords E aW W_1, sPar E aPr aB2 aC atext Pr_errorAt_1 Pr_length_1 Pr_next_1 Pr_errorCode_1 Pr_kind_1 Pr_tokenAt_1 Pr_letters_1 Pr_number_1, sBook E aB2 asettings2 asums2 aU2 aP2 aW2 B2_time_1 B2_chest_1 B2_fund_1, sArrI E asettings2 5 settings2_1, sArrI E asums2 6 sums2_1, sUsers E aU2 U2_1, sPieces E aP2 P2_1, sWords E aW2 W2_1, sCut E aC aS C_1, sCutR E aS S_1, sArrB E atext 600 text_1, sHist E aHs Hs, sArrZ E afilled 2 filled]) (st' := []) (pc' := 74) [12, 13, 0, 1, 2, 3, 4, 5, 14, 6, 7, 8, 9, 10, 11, 15, 16, 17, 18, 19] rfl rfl rfl rfl ?_
        refine g_aload_n F dX9_parse_74 rfl ?_
        refine g_get (C := RX9) (T := TX9) (N := 10) F 0 0 7 rfl rfl rfl iX9_parse_X9 (by decide) (by decide +kernel) rfl dX9_parse_75 ?_
        obtain ⟨Hs_1, hg_3, hf⟩ := gb1_el hf
        refine g_callV (C := RX3) (T := TX3) (N := 2) (Lr := [sPD E aD abuffer aB aPr aC2 aV aHs aSl afilled 0 (-1), sArrB E abuffer 600 buffer, sBook E aB asettings asums aU aP aW B_time_1 B_chest_1 B_fund_1, sArrI E asettings 5 settings_1, sArrI E asums 6 sums_1, sUsers E aU U_1, sPieces E aP P_1, sWords E aW W_1, sPar E aPr aB2 aC atext Pr_errorAt_1 Pr_length_1 Pr_next_1 Pr_errorCode_1 Pr_kind_1 Pr_tokenAt_1 Pr_letters_1 Pr_number_1, sBook E aB2 asettings2 asums2 aU2 aP2 aW2 B2_time_1 B2_chest_1 B2_fund_1, sArrI E asettings2 5 settings2_1, sArrI E asums2 6 sums2_1, sUsers E aU2 U2_1, sPieces E aP2 P2_1, sWords E aW2 W2_1, sCut E aC aS C_1, sCutR E aS S_1, sArrB E atext 600 text_1, sArrZ E afilled 2 filled]) (As := []) (rest := []) F 18 0 0 (ctX3_forget l E aHs Hs Hs_1 hg_3) gX9_parse_X3_forget rfl rfl rfl h0X3_forget ⟨Nat.le_of_ble_eq_true rfl, Nat.le_of_ble_eq_true rfl⟩ rfl rfl rfl [18] [0, 1, 2, 3, 4, 5, 6, 7, 8, 9, 10, 11, 12, 13, 14, 15, 16, 17, 19] rfl rfl rfl rfl rfl rfl (Nat.le_of_ble_eq_true rfl) dX9_parse_78 ⟨(Nat.le_of_ble_eq_true rfl), (Nat.le_of_ble_eq_true rfl)⟩ ?_
        rintro v w ⟨rfl, rfl⟩
        refine g_norm (Lw' := [sPD E aD abuffer aB aPr aC2 aV aHs aSl afilled 0 (-1), sArrB E abuffer 600 buffer, sBook E aB asettings asums aU aP aW B_time_1 B_chest_1 B_fund_1, sArrI E asettings 5 settings_1, sArrI E asums 6 sums_1, sUsers E aU U_1, sPieces E aP P_1, sWords E aW W_1, sPar E aPr aB2 aC atext Pr_errorAt_1 Pr_length_1 Pr_next_1 Pr_errorCode_1 Pr_kind_1 Pr_tokenAt_1 Pr_letters_1 Pr_number_1, sBook E aB2 asettings2 asums2 aU2 aP2 aW2 B2_time_1 B2_chest_1 B2_fund_1, sArrI E asettings2 5 settings2_1, sArrI E asums2 6 sums2_1, sUsers E aU2 U2_1, sPieces E aP2 P2_1, sWords E aW2 W2_1, sCut E aC aS C_1, sCutR E aS S_1, sArrB E atext 600 text_1, sHist E aHs Hs_1, sArrZ E afilled 2 filled]) (st' := []) (pc' := 81) [1, 2, 3, 4, 5, 6, 7, 8, 9, 10, 11, 12, 13, 14, 15, 16, 17, 18, 0, 19] rfl rfl rfl rfl ?_
        refine g_iconst F 0 dX9_parse_81 rfl ?_
        refine g_istore_n (lv' := [some (.ref (aD 0)), some (.int x1), some (.int r_1), some (.int 0)]) F dX9_parse_82 (Nat.le_of_ble_eq_true rfl) rfl rfl ?_
        refine g_mask [true, false, false, true] rfl ?_
        refine ktX9_parse_L83 F aD abuffer aB aPr aC2 aV aHs aSl afilled asettings asums aU aP aW aB2 aC atext asettings2 asums2 aU2 aP2 aW2 aS 0 (-1) buffer B_time_1 B_chest_1 B_fund_1 settings_1 sums_1 U_1 P_1 W_1 Pr_errorAt_1 Pr_length_1 Pr_next_1 Pr_errorCode_1 Pr_kind_1 Pr_tokenAt_1 Pr_letters_1 Pr_number_1 B2_time_1 B2_chest_1 B2_fund_1 settings2_1 sums2_1 U2_1 P2_1 W2_1 C_1 S_1 text_1 Hs_1 r D_buffered' D_lastErrorAt' B_time' B_chest' B_fund' settings' sums' U' P' W' Pr_errorAt' Pr_length' Pr_next' Pr_errorCode' Pr_kind' Pr_tokenAt' Pr_letters' Pr_number' B2_time' B2_chest' B2_fund' settings2' sums2' U2' P2' W2' C' S' text' Hs' filled' (fun filled_1 hf => ?_) FU 0 filled hf
        refine g_iconst F 0 dX9_parse_101 rfl ?_
        cases hf
        exact g_iret F rfl ⟨rfl, rfl⟩ dX9_parse_102
      · replace hf := gi_f hc_1 hf
        refine g_aload_n F dX9_parse_42 rfl ?_
        refine g_aload_n F dX9_parse_43 rfl ?_
        refine g_get (C := RX9) (T := TX9) (N := 10) F 0 0 4 rfl rfl rfl iX9_parse_X9 (by decide) (by decide +kernel) rfl dX9_parse_44 ?_
        refine g_get (C := RX5) (T := TX5) (N := 11) F 8 0 1 rfl rfl rfl iX9_parse_X5 (by decide) (by decide +kernel) rfl dX9_parse_47 ?_
        refine g_put (C := RX9) (T := TX9) (N := 10) (tys := tyX9) (Lw' := [sPD E aD abuffer aB aPr aC2 aV aHs aSl afilled 0 Pr_errorAt_1, sArrB E abuffer 600 buffer, sBook E aB asettings asums aU aP aW B_time B_chest B_fund, sArrI E asettings 5 settings, sArrI E asums 6 sums, sUsers E aU U, sPieces E aP P, sWords E aW W, sPar E aPr aB2 aC atext Pr_errorAt_1 Pr_length_1 Pr_next_1 Pr_errorCode_1 Pr_kind_1 Pr_tokenAt_1 Pr_letters_1 Pr_number_1, sBook E aB2 asettings2 asums2 aU2 aP2 aW2 B2_time_1 B2_chest_1 B2_fund_1, sArrI E asettings2 5 settings2_1, sArrI E asums2 6 sums2_1, sUsers E aU2 U2_1, sPieces E aP2 P2_1, sWords E aW2 W2_1, sCut E aC aS C_1, sCutR E aS S_1, sArrB E atext 600 text_1, sHist E aHs Hs, sArrZ E afilled 2 filled]) F 0 0 2 rfl rfl rfl iX9_parse_X9 tyX9_ok nmX9 (by decide) (by decide +kernel) rfl rfl rfl rfl (Nat.le_of_ble_eq_true rfl) dX9_parse_50 rfl ?_
        refine g_iload_n F dX9_parse_53 rfl ?_
        cases hf
        exact g_iret F rfl ⟨rfl, rfl⟩ dX9_parse_54
    · replace hf := gi_f hc_2 hf
      refine g_mask [false, false, true, true] rfl ?_
      exact hj_1 hf
set_option maxHeartbeats 4000000 in
set_option maxRecDepth 100000 in
theorem ctX9_size (l : Launch) (E : gE) (aD abuffer aB aPr aC2 aV aHs aSl afilled asettings asums aU aP aW : Nat → Nat) (x1 : Int32) (D_buffered : Int32) (D_lastErrorAt : Int32) (B_time : Int32) (B_chest : Int32) (B_fund : Int32) (settings : (Nat → Int32)) (U : tUsers) (P : tPieces) (W : tWords) (Hs : tHist) (r : Int32) (hf : fX9_size x1 B_time B_chest B_fund settings U P W Hs = some r) : gMet l yX9_size wsX9_size rmX9_size vwCl E [.ref (aD 0), .int x1] [sPD E aD abuffer aB aPr aC2 aV aHs aSl afilled D_buffered D_lastErrorAt, sBook E aB asettings asums aU aP aW B_time B_chest B_fund, sArrI E asettings 5 settings, sUsers E aU U, sPieces E aP P, sWords E aW W, sHist E aHs Hs] (fun v w => v = some (.int r) ∧ w = [sPD E aD abuffer aB aPr aC2 aV aHs aSl afilled D_buffered D_lastErrorAt, sBook E aB asettings asums aU aP aW B_time B_chest B_fund, sArrI E asettings 5 settings, sUsers E aU U, sPieces E aP P, sWords E aW W, sHist E aHs Hs]) 0 0 := by
  refine g_entry [some (.ref (aD 0)), some (.int x1)] (by decide) rfl (Nat.le_of_ble_eq_true rfl) rfl ?_
  intro p e s m below meth c A F hnm
  unfold fX9_size at hf
  refine g_iload_n F dX9_size_0 rfl ?_
  by_cases hc_1 : x1 = 0
  · replace hf := gi_t hc_1 hf
    refine g_tabIn F 64 0 hc_1 dX9_size_1 (by decide) (by decide) rfl (by decide) ?_
    refine g_aload_n F dX9_size_64 rfl ?_
    refine g_get (C := RX9) (T := TX9) (N := 10) F 0 0 3 rfl rfl rfl iX9_size_X9 (by decide) (by decide +kernel) rfl dX9_size_65 ?_
    refine g_get (C := RX1) (T := TX1) (N := 8) F 1 0 2 rfl rfl rfl iX9_size_X1 (by decide) (by decide +kernel) rfl dX9_size_68 ?_
    refine g_get (C := RX7) (T := TX7) (N := 3) F 3 0 0 rfl rfl rfl iX9_size_X7 (by decide) (by decide +kernel) rfl dX9_size_71 ?_
    cases hf
    exact g_iret F rfl ⟨rfl, rfl⟩ dX9_size_74
  replace hf := gi_f hc_1 hf
  by_cases hc_2 : x1 = 1
  · replace hf := gi_t hc_2 hf
    refine g_tabIn F 75 1 hc_2 dX9_size_1 (by decide) (by decide) rfl (by decide) ?_
    refine g_aload_n F dX9_size_75 rfl ?_
    refine g_get (C := RX9) (T := TX9) (N := 10) F 0 0 3 rfl rfl rfl iX9_size_X9 (by decide) (by decide +kernel) rfl dX9_size_76 ?_
    refine g_get (C := RX1) (T := TX1) (N := 8) F 1 0 3 rfl rfl rfl iX9_size_X1 (by decide) (by decide +kernel) rfl dX9_size_79 ?_
    refine g_get (C := RX6) (T := TX6) (N := 6) F 4 0 0 rfl rfl rfl iX9_size_X6 (by decide) (by decide +kernel) rfl dX9_size_82 ?_
    cases hf
    exact g_iret F rfl ⟨rfl, rfl⟩ dX9_size_85
  replace hf := gi_f hc_2 hf
  by_cases hc_3 : x1 = 2
  · replace hf := gi_t hc_3 hf
    refine g_tabIn F 86 2 hc_3 dX9_size_1 (by decide) (by decide) rfl (by decide) ?_
    refine g_aload_n F dX9_size_86 rfl ?_
    refine g_get (C := RX9) (T := TX9) (N := 10) F 0 0 3 rfl rfl rfl iX9_size_X9 (by decide) (by decide +kernel) rfl dX9_size_87 ?_
    refine g_get (C := RX1) (T := TX1) (N := 8) F 1 0 4 rfl rfl rfl iX9_size_X1 (by decide) (by decide +kernel) rfl dX9_size_90 ?_
    refine g_get (C := RX8) (T := TX8) (N := 5) F 5 0 0 rfl rfl rfl iX9_size_X8 (by decide) (by decide +kernel) rfl dX9_size_93 ?_
    cases hf
    exact g_iret F rfl ⟨rfl, rfl⟩ dX9_size_96
  replace hf := gi_f hc_3 hf
  by_cases hc_4 : x1 = 3
  · replace hf := gi_t hc_4 hf
    refine g_tabIn F 97 3 hc_4 dX9_size_1 (by decide) (by decide) rfl (by decide) ?_
    refine g_aload_n F dX9_size_97 rfl ?_
    refine g_get (C := RX9) (T := TX9) (N := 10) F 0 0 3 rfl rfl rfl iX9_size_X9 (by decide) (by decide +kernel) rfl dX9_size_98 ?_
    refine g_get (C := RX1) (T := TX1) (N := 8) F 1 0 5 rfl rfl rfl iX9_size_X1 (by decide) (by decide +kernel) rfl dX9_size_101 ?_
    cases hf
    exact g_iret F rfl ⟨rfl, rfl⟩ dX9_size_104
  replace hf := gi_f hc_4 hf
  by_cases hc_5 : x1 = 4
  · replace hf := gi_t hc_5 hf
    refine g_tabIn F 105 4 hc_5 dX9_size_1 (by decide) (by decide) rfl (by decide) ?_
    refine g_aload_n F dX9_size_105 rfl ?_
    refine g_get (C := RX9) (T := TX9) (N := 10) F 0 0 3 rfl rfl rfl iX9_size_X9 (by decide) (by decide +kernel) rfl dX9_size_106 ?_
    refine g_get (C := RX1) (T := TX1) (N := 8) F 1 0 6 rfl rfl rfl iX9_size_X1 (by decide) (by decide +kernel) rfl dX9_size_109 ?_
    cases hf
    exact g_iret F rfl ⟨rfl, rfl⟩ dX9_size_112
  replace hf := gi_f hc_5 hf
  by_cases hc_6 : x1 = 5
  · replace hf := gi_t hc_6 hf
    refine g_tabIn F 113 5 hc_6 dX9_size_1 (by decide) (by decide) rfl (by decide) ?_
    refine g_aload_n F dX9_size_113 rfl ?_
    refine g_get (C := RX9) (T := TX9) (N := 10) F 0 0 3 rfl rfl rfl iX9_size_X9 (by decide) (by decide +kernel) rfl dX9_size_114 ?_
    refine g_get (C := RX1) (T := TX1) (N := 8) F 1 0 7 rfl rfl rfl iX9_size_X1 (by decide) (by decide +kernel) rfl dX9_size_117 ?_
    cases hf
    exact g_iret F rfl ⟨rfl, rfl⟩ dX9_size_120
  replace hf := gi_f hc_6 hf
  by_cases hc_7 : x1 = 6
  · replace hf := gi_t hc_7 hf
    refine g_tabIn F 121 6 hc_7 dX9_size_1 (by decide) (by decide) rfl (by decide) ?_
    refine g_aload_n F dX9_size_121 rfl ?_
    refine g_get (C := RX9) (T := TX9) (N := 10) F 0 0 3 rfl rfl rfl iX9_size_X9 (by decide) (by decide +kernel) rfl dX9_size_122 ?_
    refine g_get (C := RX1) (T := TX1) (N := 8) F 1 0 0 rfl rfl rfl iX9_size_X1 (by decide) (by decide +kernel) rfl dX9_size_125 ?_
    refine g_iconst F 0 dX9_size_128 rfl ?_
    refine g_iald F 2 0 0 (by decide) rfl rfl (by decide) dX9_size_129 ?_
    cases hf
    exact g_iret F rfl ⟨rfl, rfl⟩ dX9_size_130
  replace hf := gi_f hc_7 hf
  by_cases hc_8 : x1 = 7
  · replace hf := gi_t hc_8 hf
    refine g_tabIn F 131 7 hc_8 dX9_size_1 (by decide) (by decide) rfl (by decide) ?_
    refine g_aload_n F dX9_size_131 rfl ?_
    refine g_get (C := RX9) (T := TX9) (N := 10) F 0 0 3 rfl rfl rfl iX9_size_X9 (by decide) (by decide +kernel) rfl dX9_size_132 ?_
    refine g_get (C := RX1) (T := TX1) (N := 8) F 1 0 0 rfl rfl rfl iX9_size_X1 (by decide) (by decide +kernel) rfl dX9_size_135 ?_
    refine g_iconst F 1 dX9_size_138 rfl ?_
    refine g_iald F 2 0 1 (by decide) rfl rfl (by decide) dX9_size_139 ?_
    cases hf
    exact g_iret F rfl ⟨rfl, rfl⟩ dX9_size_140
  replace hf := gi_f hc_8 hf
  by_cases hc_9 : x1 = 8
  · replace hf := gi_t hc_9 hf
    refine g_tabIn F 141 8 hc_9 dX9_size_1 (by decide) (by decide) rfl (by decide) ?_
    refine g_aload_n F dX9_size_141 rfl ?_
    refine g_get (C := RX9) (T := TX9) (N := 10) F 0 0 3 rfl rfl rfl iX9_size_X9 (by decide) (by decide +kernel) rfl dX9_size_142 ?_
    refine g_get (C := RX1) (T := TX1) (N := 8) F 1 0 0 rfl rfl rfl iX9_size_X1 (by decide) (by decide +kernel) rfl dX9_size_145 ?_
    refine g_iconst F 2 dX9_size_148 rfl ?_
    refine g_iald F 2 0 2 (by decide) rfl rfl (by decide) dX9_size_149 ?_
    cases hf
    exact g_iret F rfl ⟨rfl, rfl⟩ dX9_size_150
  replace hf := gi_f hc_9 hf
  by_cases hc_10 : x1 = 9
  · replace hf := gi_t hc_10 hf
    refine g_tabIn F 151 9 hc_10 dX9_size_1 (by decide) (by decide) rfl (by decide) ?_
    refine g_aload_n F dX9_size_151 rfl ?_
    refine g_get (C := RX9) (T := TX9) (N := 10) F 0 0 3 rfl rfl rfl iX9_size_X9 (by decide) (by decide +kernel) rfl dX9_size_152 ?_
    refine g_get (C := RX1) (T := TX1) (N := 8) F 1 0 0 rfl rfl rfl iX9_size_X1 (by decide) (by decide +kernel) rfl dX9_size_155 ?_
    refine g_iconst F 3 dX9_size_158 rfl ?_
    refine g_iald F 2 0 3 (by decide) rfl rfl (by decide) dX9_size_159 ?_
    cases hf
    exact g_iret F rfl ⟨rfl, rfl⟩ dX9_size_160
  replace hf := gi_f hc_10 hf
  by_cases hc_11 : x1 = 10
  · replace hf := gi_t hc_11 hf
    refine g_tabIn F 161 10 hc_11 dX9_size_1 (by decide) (by decide) rfl (by decide) ?_
    refine g_aload_n F dX9_size_161 rfl ?_
    refine g_get (C := RX9) (T := TX9) (N := 10) F 0 0 3 rfl rfl rfl iX9_size_X9 (by decide) (by decide +kernel) rfl dX9_size_162 ?_
    refine g_get (C := RX1) (T := TX1) (N := 8) F 1 0 0 rfl rfl rfl iX9_size_X1 (by decide) (by decide +kernel) rfl dX9_size_165 ?_
    refine g_iconst F 4 dX9_size_168 rfl ?_
    refine g_iald F 2 0 4 (by decide) rfl rfl (by decide) dX9_size_169 ?_
    cases hf
    exact g_iret F rfl ⟨rfl, rfl⟩ dX9_size_170
  replace hf := gi_f hc_11 hf
  by_cases hc_12 : x1 = 11
  · replace hf := gi_t hc_12 hf
    refine g_tabIn F 171 11 hc_12 dX9_size_1 (by decide) (by decide) rfl (by decide) ?_
    refine g_aload_n F dX9_size_171 rfl ?_
    refine g_get (C := RX9) (T := TX9) (N := 10) F 0 0 7 rfl rfl rfl iX9_size_X9 (by decide) (by decide +kernel) rfl dX9_size_172 ?_
    refine g_get (C := RX3) (T := TX3) (N := 2) F 6 0 0 rfl rfl rfl iX9_size_X3 (by decide) (by decide +kernel) rfl dX9_size_175 ?_
    cases hf
    exact g_iret F rfl ⟨rfl, rfl⟩ dX9_size_178
  replace hf := gi_f hc_12 hf
  refine g_tabOut F 179 dX9_size_1 (gtl_11 hc_1 hc_2 hc_3 hc_4 hc_5 hc_6 hc_7 hc_8 hc_9 hc_10 hc_11 hc_12) (by decide) ?_
  cases hf
set_option maxHeartbeats 4000000 in
set_option maxRecDepth 100000 in
theorem ktX9_takeWord_L12 {p : Program} {l : Launch} {e : Env} {s : State} {m : MethodId} {args : Array Value} {below : List Frame} {meth : Method} {c : Code} {E : gE} {A : Nat → Prop} (F : gFx p s m args meth c RX9 wsX9_takeWord cX9_takeWord 4 (some .long) vwCl E A) (aD abuffer aB aPr aC2 aV aHs aSl afilled : Nat → Nat) (x1 : Int32) (buffer : (Nat → Int32)) (D_buffered : Int32) (D_lastErrorAt : Int32) (r : Int64) (D_buffered' : Int32) {k : Int32 → Option (Int64 × Int32)} (hk : ∀ (x2 : Int32), k x2 = some (r, D_buffered') → Gj p l e rmX9_takeWord s m args below meth c 0 0 (MQ below (gQ vwCl E A (fun v w => v = some (.long r) ∧ w = [sPD E aD abuffer aB aPr aC2 aV aHs aSl afilled D_buffered' D_lastErrorAt, sArrB E abuffer 600 buffer])) args s 0 0 A) vwCl E A [sPD E aD abuffer aB aPr aC2 aV aHs aSl afilled D_buffered D_lastErrorAt, sArrB E abuffer 600 buffer] [some (.ref (aD 0)), some (.int x1), some (.int x2), none] [] 35) : ∀ (n : Nat) (x2 : Int32), fX9_takeWord_L12 x1 buffer k n x2 = some (r, D_buffered') → Gj p l e rmX9_takeWord s m args below meth c 0 0 (MQ below (gQ vwCl E A (fun v w => v = some (.long r) ∧ w = [sPD E aD abuffer aB aPr aC2 aV aHs aSl afilled D_buffered' D_lastErrorAt, sArrB E abuffer 600 buffer])) args s 0 0 A) vwCl E A [sPD E aD abuffer aB aPr aC2 aV aHs aSl afilled D_buffered D_lastErrorAt, sArrB E abuffer 600 buffer] [some (.ref (aD 0)), some (.int x1), some (.int x2), none] [] 12
  | 0, _, hf => by cases hf
  | n + 1, x2, hf => by
    have ih := ktX9_takeWord_L12 F aD abuffer aB aPr aC2 aV aHs aSl afilled x1 buffer D_buffered D_lastErrorAt r D_buffered' hk n
    rw [fX9_takeWord_L12] at hf
    refine g_iload_n F dX9_takeWord_12 rfl ?_
    refine g_iload_n F dX9_takeWord_13 rfl ?_
    refine g_icmp_ge F 35 dX9_takeWord_14 (by decide) (fun hc_2 => ?_) (fun hc_2 => ?_)
    · replace hf := gi_t hc_2 hf
      exact hk x2 hf
    · replace hf := gi_f hc_2 hf
      refine g_aload_n F dX9_takeWord_17 rfl ?_
      refine g_get (C := RX9) (T := TX9) (N := 10) F 0 0 0 rfl rfl rfl iX9_takeWord_X9 (by decide) (by decide +kernel) rfl dX9_takeWord_18 ?_
      refine g_iload_n F dX9_takeWord_21 rfl ?_
      obtain ⟨hb_1, hf⟩ := gb_in hf
      refine g_bald F 1 0 (x2.toNatClampNeg) rfl rfl rfl hb_1 dX9_takeWord_22 ?_
      obtain ⟨r_1, hg_1, hf⟩ := gb1_el hf
      refine g_callS (Lr := [sPD E aD abuffer aB aPr aC2 aV aHs aSl afilled D_buffered D_lastErrorAt, sArrB E abuffer 600 buffer]) (As := [.int (buffer (x2.toNatClampNeg))]) (rest := []) F 1 (ctX4_isLetter l E (buffer (x2.toNatClampNeg)) r_1 hg_1) (va_cwS 1 F.2.2.2.2.2.1 gX9_takeWord_X4_isLetter rfl rfl rfl h0X4_isLetter ⟨Nat.le_of_ble_eq_true rfl, Nat.le_of_ble_eq_true rfl⟩) [] [0, 1] rfl rfl rfl rfl rfl rfl (Nat.le_of_ble_eq_true rfl) dX9_takeWord_23 ⟨(Nat.le_of_ble_eq_true rfl), (Nat.le_of_ble_eq_true rfl)⟩ ?_
      rintro v w ⟨rfl, rfl, hz_1⟩
      refine g_norm (Lw' := [sPD E aD abuffer aB aPr aC2 aV aHs aSl afilled D_buffered D_lastErrorAt, sArrB E abuffer 600 buffer]) (st' := [.int r_1]) (pc' := 26) [0, 1] rfl rfl rfl rfl ?_
      refine g_ifeq F 35 dX9_takeWord_26 (by decide) (fun hc_1 => ?_) (fun hc_1 => ?_)
      · replace hf := gi_t hc_1 hf
        exact hk x2 hf
      · replace hf := gi_f hc_1 hf
        refine g_iinc (lv' := [some (.ref (aD 0)), some (.int x1), some (.int (x2 + 1)), none]) F (x2 + 1) dX9_takeWord_29 rfl rfl rfl rfl ?_
        refine g_goto F 12 dX9_takeWord_32 (by decide) ?_
        exact ih (x2 + 1) hf
set_option maxHeartbeats 4000000 in
set_option maxRecDepth 100000 in
theorem ktX9_takeWord_L37 {p : Program} {l : Launch} {e : Env} {s : State} {m : MethodId} {args : Array Value} {below : List Frame} {meth : Method} {c : Code} {E : gE} {A : Nat → Prop} (F : gFx p s m args meth c RX9 wsX9_takeWord cX9_takeWord 4 (some .long) vwCl E A) (aD abuffer aB aPr aC2 aV aHs aSl afilled : Nat → Nat) (x1 : Int32) (x2 : Int32) (D_buffered : Int32) (buffer : (Nat → Int32)) (D_lastErrorAt : Int32) (r : Int64) (D_buffered' : Int32) {k : Option (Int64 × Int32)} (hk : k = some (r, D_buffered') → Gj p l e rmX9_takeWord s m args below meth c 0 0 (MQ below (gQ vwCl E A (fun v w => v = some (.long r) ∧ w = [sPD E aD abuffer aB aPr aC2 aV aHs aSl afilled D_buffered' D_lastErrorAt, sArrB E abuffer 600 buffer])) args s 0 0 A) vwCl E A [sPD E aD abuffer aB aPr aC2 aV aHs aSl afilled D_buffered D_lastErrorAt, sArrB E abuffer 600 buffer] [some (.ref (aD 0)), none, some (.int x2), none] [] 61) : ∀ (n : Nat) (x3 : Int32), fX9_takeWord_L37 x1 x2 D_buffered buffer k n x3 = some (r, D_buffered') → Gj p l e rmX9_takeWord s m args below meth c 0 0 (MQ below (gQ vwCl E A (fun v w => v = some (.long r) ∧ w = [sPD E aD abuffer aB aPr aC2 aV aHs aSl afilled D_buffered' D_lastErrorAt, sArrB E abuffer 600 buffer])) args s 0 0 A) vwCl E A [sPD E aD abuffer aB aPr aC2 aV aHs aSl afilled D_buffered D_lastErrorAt, sArrB E abuffer 600 buffer] [some (.ref (aD 0)), some (.int x1), some (.int x2), some (.int x3)] [] 37
  | 0, _, hf => by cases hf
  | n + 1, x3, hf => by
    have ih := ktX9_takeWord_L37 F aD abuffer aB aPr aC2 aV aHs aSl afilled x1 x2 D_buffered buffer D_lastErrorAt r D_buffered' hk n
    rw [fX9_takeWord_L37] at hf
    refine g_iload_n F dX9_takeWord_37 rfl ?_
    refine g_iload_n F dX9_takeWord_38 rfl ?_
    refine g_icmp_ge F 61 dX9_takeWord_39 (by decide) (fun hc_2 => ?_) (fun hc_2 => ?_)
    · replace hf := gi_t hc_2 hf
      refine g_mask [true, false, true, false] rfl ?_
      exact hk hf
    · replace hf := gi_f hc_2 hf
      refine g_aload_n F dX9_takeWord_42 rfl ?_
      refine g_get (C := RX9) (T := TX9) (N := 10) F 0 0 0 rfl rfl rfl iX9_takeWord_X9 (by decide) (by decide +kernel) rfl dX9_takeWord_43 ?_
      refine g_iload_n F dX9_takeWord_46 rfl ?_
      obtain ⟨hb_1, hf⟩ := gb_in hf
      refine g_bald F 1 0 (x3.toNatClampNeg) rfl rfl rfl hb_1 dX9_takeWord_47 ?_
      refine g_bipush F 32 dX9_takeWord_48 rfl ?_
      refine g_icmp_eq F 55 dX9_takeWord_50 (by decide) (fun hc_1 => ?_) (fun hc_1 => ?_)
      · replace hf := gi_t hc_1 hf
        refine g_iinc (lv' := [some (.ref (aD 0)), some (.int x1), some (.int x2), some (.int (x3 + 1))]) F (x3 + 1) dX9_takeWord_55 rfl rfl rfl rfl ?_
        refine g_goto F 37 dX9_takeWord_58 (by decide) ?_
        exact ih (x3 + 1) hf
      · replace hf := gi_f hc_1 hf
        refine g_lconst F 0 dX9_takeWord_53 rfl ?_
        cases hf
        exact g_lret F rfl ⟨rfl, rfl⟩ dX9_takeWord_54
set_option maxHeartbeats 4000000 in
set_option maxRecDepth 100000 in
theorem ctX9_takeWord (l : Launch) (E : gE) (aD abuffer aB aPr aC2 aV aHs aSl afilled : Nat → Nat) (D_buffered : Int32) (D_lastErrorAt : Int32) (buffer : (Nat → Int32)) (r : Int64) (D_buffered' : Int32) (hf : fX9_takeWord D_buffered buffer = some (r, D_buffered')) : gMet l yX9_takeWord wsX9_takeWord rmX9_takeWord vwCl E [.ref (aD 0)] [sPD E aD abuffer aB aPr aC2 aV aHs aSl afilled D_buffered D_lastErrorAt, sArrB E abuffer 600 buffer] (fun v w => v = some (.long r) ∧ w = [sPD E aD abuffer aB aPr aC2 aV aHs aSl afilled D_buffered' D_lastErrorAt, sArrB E abuffer 600 buffer]) 0 0 := by
  refine g_entry [some (.ref (aD 0)), none, none, none] (by decide) rfl (Nat.le_of_ble_eq_true rfl) rfl ?_
  intro p e s m below meth c A F hnm
  unfold fX9_takeWord at hf
  refine g_aload_n F dX9_takeWord_0 rfl ?_
  refine g_get (C := RX9) (T := TX9) (N := 10) F 0 0 1 rfl rfl rfl iX9_takeWord_X9 (by decide) (by decide +kernel) rfl dX9_takeWord_1 ?_
  refine g_istore_n (lv' := [some (.ref (aD 0)), some (.int D_buffered), none, none]) F dX9_takeWord_4 (Nat.le_of_ble_eq_true rfl) rfl rfl ?_
  refine g_aload_n F dX9_takeWord_5 rfl ?_
  refine g_iconst F 0 dX9_takeWord_6 rfl ?_
  refine g_put (C := RX9) (T := TX9) (N := 10) (tys := tyX9) (Lw' := [sPD E aD abuffer aB aPr aC2 aV aHs aSl afilled 0 D_lastErrorAt, sArrB E abuffer 600 buffer]) F 0 0 1 rfl rfl rfl iX9_takeWord_X9 tyX9_ok nmX9 (by decide) (by decide +kernel) rfl rfl rfl rfl (Nat.le_of_ble_eq_true rfl) dX9_takeWord_7 rfl ?_
  refine g_iconst F 0 dX9_takeWord_10 rfl ?_
  refine g_istore_n (lv' := [some (.ref (aD 0)), some (.int D_buffered), some (.int 0), none]) F dX9_takeWord_11 (Nat.le_of_ble_eq_true rfl) rfl rfl ?_
  refine ktX9_takeWord_L12 F aD abuffer aB aPr aC2 aV aHs aSl afilled D_buffered buffer 0 D_lastErrorAt r D_buffered' (fun x2_1 hf => ?_) FU 0 hf
  refine g_iload_n F dX9_takeWord_35 rfl ?_
  refine g_istore_n (lv' := [some (.ref (aD 0)), some (.int D_buffered), some (.int x2_1), some (.int x2_1)]) F dX9_takeWord_36 (Nat.le_of_ble_eq_true rfl) rfl rfl ?_
  refine ktX9_takeWord_L37 F aD abuffer aB aPr aC2 aV aHs aSl afilled D_buffered x2_1 0 buffer D_lastErrorAt r D_buffered' (fun hf => ?_) FU x2_1 hf
  refine g_iload_n F dX9_takeWord_61 rfl ?_
  refine g_bipush F 12 dX9_takeWord_62 rfl ?_
  refine g_icmp_le F 71 dX9_takeWord_64 (by decide) (fun hc_1 => ?_) (fun hc_1 => ?_)
  · replace hf := gi_t hc_1 hf
    refine g_aload_n F dX9_takeWord_71 rfl ?_
    refine g_get (C := RX9) (T := TX9) (N := 10) F 0 0 0 rfl rfl rfl iX9_takeWord_X9 (by decide) (by decide +kernel) rfl dX9_takeWord_72 ?_
    refine g_iconst F 0 dX9_takeWord_75 rfl ?_
    refine g_iload_n F dX9_takeWord_76 rfl ?_
    obtain ⟨r_1, hg_1, hf⟩ := gb1_el hf
    refine g_callS (Lr := [sPD E aD abuffer aB aPr aC2 aV aHs aSl afilled 0 D_lastErrorAt]) (As := [.ref (abuffer 0), .int 0, .int x2_1]) (rest := []) F 3 (ctX4_read l E abuffer 600 0 x2_1 buffer r_1 hg_1) (va_cwS 3 F.2.2.2.2.2.1 gX9_takeWord_X4_read rfl rfl rfl h0X4_read ⟨Nat.le_of_ble_eq_true rfl, Nat.le_of_ble_eq_true rfl⟩) [1] [0] rfl rfl rfl rfl rfl rfl (Nat.le_of_ble_eq_true rfl) dX9_takeWord_77 ⟨(Nat.le_of_ble_eq_true rfl), (Nat.le_of_ble_eq_true rfl)⟩ ?_
    rintro v w ⟨rfl, rfl⟩
    refine g_norm (Lw' := [sPD E aD abuffer aB aPr aC2 aV aHs aSl afilled 0 D_lastErrorAt, sArrB E abuffer 600 buffer]) (st' := [.long r_1]) (pc' := 80) [1, 0] rfl rfl rfl rfl ?_
    cases hf
    exact g_lret F rfl ⟨rfl, rfl⟩ dX9_takeWord_80
  · replace hf := gi_f hc_1 hf
    refine g_lconst F 0 dX9_takeWord_67 rfl ?_
    refine g_goto F 80 dX9_takeWord_68 (by decide) ?_
    cases hf
    exact g_lret F rfl ⟨rfl, rfl⟩ dX9_takeWord_80
set_option maxHeartbeats 4000000 in
set_option maxRecDepth 100000 in
theorem ctX9_requireBelow (l : Launch) (E : gE) (aD : Nat → Nat) (x1 : Int32) (x2 : Int32) (hf : fX9_requireBelow x1 x2 = some ()) : gMet l yX9_requireBelow wsX9_requireBelow rmX9_requireBelow vwCl E [.ref (aD 0), .int x1, .int x2] [] (fun v w => v = none ∧ w = []) 0 0 := by
  refine g_entry [some (.ref (aD 0)), some (.int x1), some (.int x2)] (by decide) rfl (Nat.le_of_ble_eq_true rfl) rfl ?_
  intro p e s m below meth c A F hnm
  unfold fX9_requireBelow at hf
  refine g_iload_n F dX9_requireBelow_0 rfl ?_
  obtain ⟨j_1, hj_1, hf⟩ := Lt_el hf
  have hj_1 : j_1 = some () → Gj p l e rmX9_requireBelow s m ([.ref (aD 0), .int x1, .int x2] : List Value).toArray below meth c 0 0 (MQ below (gQ vwCl E A (fun v w => v = none ∧ w = [])) ([.ref (aD 0), .int x1, .int x2] : List Value).toArray s 0 0 A) vwCl E A [] [none, none, none] [] 9 := by
    intro hf
    rw [hj_1] at hf
    cases hf
  refine g_iflt F 9 dX9_requireBelow_1 (by decide) (fun hc_2 => ?_) (fun hc_2 => ?_)
  · replace hf := gi_t hc_2 hf
    refine g_mask [false, false, false] rfl ?_
    exact hj_1 hf
  · replace hf := gi_f hc_2 hf
    refine g_iload_n F dX9_requireBelow_4 rfl ?_
    refine g_iload_n F dX9_requireBelow_5 rfl ?_
    refine g_icmp_lt F 17 dX9_requireBelow_6 (by decide) (fun hc_1 => ?_) (fun hc_1 => ?_)
    · replace hf := gi_t hc_1 hf
      cases hf
      exact g_vret F rfl ⟨rfl, rfl⟩ dX9_requireBelow_17
    · replace hf := gi_f hc_1 hf
      refine g_mask [false, false, false] rfl ?_
      exact hj_1 hf
set_option maxHeartbeats 4000000 in
set_option maxRecDepth 100000 in
theorem ctX9_find (l : Launch) (E : gE) (aD abuffer aB aPr aC2 aV aHs aSl afilled asettings asums aU aP aW : Nat → Nat) (x1 : Int32) (D_buffered : Int32) (D_lastErrorAt : Int32) (buffer : (Nat → Int32)) (B_time : Int32) (B_chest : Int32) (B_fund : Int32) (U : tUsers) (P : tPieces) (W : tWords) (r : Int32) (D_buffered' : Int32) (hf : fX9_find x1 D_buffered buffer U P W = some (r, D_buffered')) : gMet l yX9_find wsX9_find rmX9_find vwCl E [.ref (aD 0), .int x1] [sPD E aD abuffer aB aPr aC2 aV aHs aSl afilled D_buffered D_lastErrorAt, sArrB E abuffer 600 buffer, sBook E aB asettings asums aU aP aW B_time B_chest B_fund, sUsers E aU U, sPieces E aP P, sWords E aW W] (fun v w => v = some (.int r) ∧ w = [sPD E aD abuffer aB aPr aC2 aV aHs aSl afilled D_buffered' D_lastErrorAt, sArrB E abuffer 600 buffer, sBook E aB asettings asums aU aP aW B_time B_chest B_fund, sUsers E aU U, sPieces E aP P, sWords E aW W]) 0 0 := by
  refine g_entry [some (.ref (aD 0)), some (.int x1), none, none] (by decide) rfl (Nat.le_of_ble_eq_true rfl) rfl ?_
  intro p e s m below meth c A F hnm
  unfold fX9_find at hf
  refine g_aload_n F dX9_find_0 rfl ?_
  obtain ⟨r_1, D_buffered_1, hg_1, hf⟩ := gb2_el hf
  refine g_callV (C := RX9) (T := TX9) (N := 10) (Lr := [sBook E aB asettings asums aU aP aW B_time B_chest B_fund, sUsers E aU U, sPieces E aP P, sWords E aW W]) (As := []) (rest := []) F 0 0 0 (ctX9_takeWord l E aD abuffer aB aPr aC2 aV aHs aSl afilled D_buffered D_lastErrorAt buffer r_1 D_buffered_1 hg_1) gX9_find_X9_takeWord rfl rfl rfl h0X9_takeWord ⟨Nat.le_of_ble_eq_true rfl, Nat.le_of_ble_eq_true rfl⟩ rfl rfl rfl [0, 1] [2, 3, 4, 5] rfl rfl rfl rfl rfl rfl (Nat.le_of_ble_eq_true rfl) dX9_find_1 ⟨(Nat.le_of_ble_eq_true rfl), (Nat.le_of_ble_eq_true rfl)⟩ ?_
  rintro v w ⟨rfl, rfl⟩
  refine g_norm (Lw' := [sPD E aD abuffer aB aPr aC2 aV aHs aSl afilled D_buffered_1 D_lastErrorAt, sArrB E abuffer 600 buffer, sBook E aB asettings asums aU aP aW B_time B_chest B_fund, sUsers E aU U, sPieces E aP P, sWords E aW W]) (st' := [.long r_1]) (pc' := 4) [0, 1, 2, 3, 4, 5] rfl rfl rfl rfl ?_
  refine g_lstore_n (lv' := [some (.ref (aD 0)), some (.int x1), some (.long r_1), none]) F dX9_find_4 (Nat.le_of_ble_eq_true rfl) rfl rfl ?_
  refine g_aload_n F dX9_find_5 rfl ?_
  refine g_iload_n F dX9_find_6 rfl ?_
  refine g_iconst F 3 dX9_find_7 rfl ?_
  obtain ⟨hg_2, hf⟩ := gb0_el hf
  refine g_callV (C := RX9) (T := TX9) (N := 10) (Lr := [sPD E aD abuffer aB aPr aC2 aV aHs aSl afilled D_buffered_1 D_lastErrorAt, sArrB E abuffer 600 buffer, sBook E aB asettings asums aU aP aW B_time B_chest B_fund, sUsers E aU U, sPieces E aP P, sWords E aW W]) (As := [.int x1, .int 3]) (rest := []) F 0 0 2 (ctX9_requireBelow l E aD x1 3 hg_2) gX9_find_X9_requireBelow rfl rfl rfl h0X9_requireBelow ⟨Nat.le_of_ble_eq_true rfl, Nat.le_of_ble_eq_true rfl⟩ rfl rfl rfl [] [0, 1, 2, 3, 4, 5] rfl rfl rfl rfl rfl rfl (Nat.le_of_ble_eq_true rfl) dX9_find_8 ⟨(Nat.le_of_ble_eq_true rfl), (Nat.le_of_ble_eq_true rfl)⟩ ?_
  rintro v w ⟨rfl, rfl⟩
  refine g_norm (Lw' := [sPD E aD abuffer aB aPr aC2 aV aHs aSl afilled D_buffered_1 D_lastErrorAt, sArrB E abuffer 600 buffer, sBook E aB asettings asums aU aP aW B_time B_chest B_fund, sUsers E aU U, sPieces E aP P, sWords E aW W]) (st' := []) (pc' := 11) [0, 1, 2, 3, 4, 5] rfl rfl rfl rfl ?_
  refine g_lload_n F dX9_find_11 rfl ?_
  refine g_lconst F 0 dX9_find_12 rfl ?_
  refine g_lcmp F dX9_find_13 ?_
  refine g_ifne F 19 dX9_find_14 (by decide) (fun hc_3 => ?_) (fun hc_3 => ?_)
  · replace hf := gi_f hc_3 hf
    refine g_iload_n F dX9_find_19 rfl ?_
    refine g_ifne F 35 dX9_find_20 (by decide) (fun hc_2 => ?_) (fun hc_2 => ?_)
    · replace hf := gi_f hc_2 hf
      refine g_iload_n F dX9_find_35 rfl ?_
      refine g_iconst F 1 dX9_find_36 rfl ?_
      refine g_icmp_ne F 54 dX9_find_37 (by decide) (fun hc_1 => ?_) (fun hc_1 => ?_)
      · replace hf := gi_f hc_1 hf
        refine g_aload_n F dX9_find_54 rfl ?_
        refine g_get (C := RX9) (T := TX9) (N := 10) F 0 0 3 rfl rfl rfl iX9_find_X9 (by decide) (by decide +kernel) rfl dX9_find_55 ?_
        refine g_get (C := RX1) (T := TX1) (N := 8) F 2 0 4 rfl rfl rfl iX9_find_X1 (by decide) (by decide +kernel) rfl dX9_find_58 ?_
        refine g_lload_n F dX9_find_61 rfl ?_
        obtain ⟨r_4, hg_5, hf⟩ := gb1_el hf
        refine g_callV (C := RX8) (T := TX8) (N := 5) (Lr := [sPD E aD abuffer aB aPr aC2 aV aHs aSl afilled D_buffered_1 D_lastErrorAt, sArrB E abuffer 600 buffer, sBook E aB asettings asums aU aP aW B_time B_chest B_fund, sUsers E aU U, sPieces E aP P]) (As := [.long r_1]) (rest := []) F 5 0 1 (ctX8_numberOf l E aW r_1 W r_4 hg_5) gX9_find_X8_numberOf rfl rfl rfl h0X8_numberOf ⟨Nat.le_of_ble_eq_true rfl, Nat.le_of_ble_eq_true rfl⟩ rfl rfl rfl [5] [0, 1, 2, 3, 4] rfl rfl rfl rfl rfl rfl (Nat.le_of_ble_eq_true rfl) dX9_find_62 ⟨(Nat.le_of_ble_eq_true rfl), (Nat.le_of_ble_eq_true rfl)⟩ ?_
        rintro v w ⟨rfl, rfl⟩
        refine g_norm (Lw' := [sPD E aD abuffer aB aPr aC2 aV aHs aSl afilled D_buffered_1 D_lastErrorAt, sArrB E abuffer 600 buffer, sBook E aB asettings asums aU aP aW B_time B_chest B_fund, sUsers E aU U, sPieces E aP P, sWords E aW W]) (st' := [.int r_4]) (pc' := 65) [1, 2, 3, 4, 5, 0] rfl rfl rfl rfl ?_
        cases hf
        exact g_iret F rfl ⟨rfl, rfl⟩ dX9_find_65
      · replace hf := gi_t hc_1 hf
        refine g_aload_n F dX9_find_40 rfl ?_
        refine g_get (C := RX9) (T := TX9) (N := 10) F 0 0 3 rfl rfl rfl iX9_find_X9 (by decide) (by decide +kernel) rfl dX9_find_41 ?_
        refine g_get (C := RX1) (T := TX1) (N := 8) F 2 0 3 rfl rfl rfl iX9_find_X1 (by decide) (by decide +kernel) rfl dX9_find_44 ?_
        refine g_lload_n F dX9_find_47 rfl ?_
        obtain ⟨r_3, hg_4, hf⟩ := gb1_el hf
        refine g_callV (C := RX6) (T := TX6) (N := 6) (Lr := [sPD E aD abuffer aB aPr aC2 aV aHs aSl afilled D_buffered_1 D_lastErrorAt, sArrB E abuffer 600 buffer, sBook E aB asettings asums aU aP aW B_time B_chest B_fund, sUsers E aU U, sWords E aW W]) (As := [.long r_1]) (rest := []) F 4 0 1 (ctX6_numberOf l E aP r_1 P r_3 hg_4) gX9_find_X6_numberOf rfl rfl rfl h0X6_numberOf ⟨Nat.le_of_ble_eq_true rfl, Nat.le_of_ble_eq_true rfl⟩ rfl rfl rfl [4] [0, 1, 2, 3, 5] rfl rfl rfl rfl rfl rfl (Nat.le_of_ble_eq_true rfl) dX9_find_48 ⟨(Nat.le_of_ble_eq_true rfl), (Nat.le_of_ble_eq_true rfl)⟩ ?_
        rintro v w ⟨rfl, rfl⟩
        refine g_norm (Lw' := [sPD E aD abuffer aB aPr aC2 aV aHs aSl afilled D_buffered_1 D_lastErrorAt, sArrB E abuffer 600 buffer, sBook E aB asettings asums aU aP aW B_time B_chest B_fund, sUsers E aU U, sPieces E aP P, sWords E aW W]) (st' := [.int r_3]) (pc' := 51) [1, 2, 3, 4, 0, 5] rfl rfl rfl rfl ?_
        refine g_goto F 65 dX9_find_51 (by decide) ?_
        cases hf
        exact g_iret F rfl ⟨rfl, rfl⟩ dX9_find_65
    · replace hf := gi_t hc_2 hf
      refine g_aload_n F dX9_find_23 rfl ?_
      refine g_get (C := RX9) (T := TX9) (N := 10) F 0 0 3 rfl rfl rfl iX9_find_X9 (by decide) (by decide +kernel) rfl dX9_find_24 ?_
      refine g_get (C := RX1) (T := TX1) (N := 8) F 2 0 2 rfl rfl rfl iX9_find_X1 (by decide) (by decide +kernel) rfl dX9_find_27 ?_
      refine g_lload_n F dX9_find_30 rfl ?_
      obtain ⟨r_2, hg_3, hf⟩ := gb1_el hf
      refine g_callV (C := RX7) (T := TX7) (N := 3) (Lr := [sPD E aD abuffer aB aPr aC2 aV aHs aSl afilled D_buffered_1 D_lastErrorAt, sArrB E abuffer 600 buffer, sBook E aB asettings asums aU aP aW B_time B_chest B_fund, sPieces E aP P, sWords E aW W]) (As := [.long r_1]) (rest := []) F 3 0 1 (ctX7_numberOf l E aU r_1 U r_2 hg_3) gX9_find_X7_numberOf rfl rfl rfl h0X7_numberOf ⟨Nat.le_of_ble_eq_true rfl, Nat.le_of_ble_eq_true rfl⟩ rfl rfl rfl [3] [0, 1, 2, 4, 5] rfl rfl rfl rfl rfl rfl (Nat.le_of_ble_eq_true rfl) dX9_find_31 ⟨(Nat.le_of_ble_eq_true rfl), (Nat.le_of_ble_eq_true rfl)⟩ ?_
      rintro v w ⟨rfl, rfl⟩
      refine g_norm (Lw' := [sPD E aD abuffer aB aPr aC2 aV aHs aSl afilled D_buffered_1 D_lastErrorAt, sArrB E abuffer 600 buffer, sBook E aB asettings asums aU aP aW B_time B_chest B_fund, sUsers E aU U, sPieces E aP P, sWords E aW W]) (st' := [.int r_2]) (pc' := 34) [1, 2, 3, 0, 4, 5] rfl rfl rfl rfl ?_
      cases hf
      exact g_iret F rfl ⟨rfl, rfl⟩ dX9_find_34
  · replace hf := gi_t hc_3 hf
    refine g_iconst F (-1) dX9_find_17 rfl ?_
    cases hf
    exact g_iret F rfl ⟨rfl, rfl⟩ dX9_find_18
set_option maxHeartbeats 4000000 in
set_option maxRecDepth 100000 in
theorem ctX9_requireUser (l : Launch) (E : gE) (aD abuffer aB aPr aC2 aV aHs aSl afilled asettings asums aU aP aW : Nat → Nat) (x1 : Int32) (D_buffered : Int32) (D_lastErrorAt : Int32) (B_time : Int32) (B_chest : Int32) (B_fund : Int32) (U : tUsers) (hf : fX9_requireUser x1 U = some ()) : gMet l yX9_requireUser wsX9_requireUser rmX9_requireUser vwCl E [.ref (aD 0), .int x1] [sPD E aD abuffer aB aPr aC2 aV aHs aSl afilled D_buffered D_lastErrorAt, sBook E aB asettings asums aU aP aW B_time B_chest B_fund, sUsers E aU U] (fun v w => v = none ∧ w = [sPD E aD abuffer aB aPr aC2 aV aHs aSl afilled D_buffered D_lastErrorAt, sBook E aB asettings asums aU aP aW B_time B_chest B_fund, sUsers E aU U]) 0 0 := by
  refine g_entry [some (.ref (aD 0)), some (.int x1)] (by decide) rfl (Nat.le_of_ble_eq_true rfl) rfl ?_
  intro p e s m below meth c A F hnm
  unfold fX9_requireUser at hf
  refine g_iload_n F dX9_requireUser_0 rfl ?_
  obtain ⟨j_1, hj_1, hf⟩ := Lt_el hf
  have hj_1 : j_1 = some () → Gj p l e rmX9_requireUser s m ([.ref (aD 0), .int x1] : List Value).toArray below meth c 0 0 (MQ below (gQ vwCl E A (fun v w => v = none ∧ w = [sPD E aD abuffer aB aPr aC2 aV aHs aSl afilled D_buffered D_lastErrorAt, sBook E aB asettings asums aU aP aW B_time B_chest B_fund, sUsers E aU U])) ([.ref (aD 0), .int x1] : List Value).toArray s 0 0 A) vwCl E A [sPD E aD abuffer aB aPr aC2 aV aHs aSl afilled D_buffered D_lastErrorAt, sBook E aB asettings asums aU aP aW B_time B_chest B_fund, sUsers E aU U] [none, none] [] 18 := by
    intro hf
    rw [hj_1] at hf
    cases hf
  refine g_iflt F 18 dX9_requireUser_1 (by decide) (fun hc_2 => ?_) (fun hc_2 => ?_)
  · replace hf := gi_t hc_2 hf
    refine g_mask [false, false] rfl ?_
    exact hj_1 hf
  · replace hf := gi_f hc_2 hf
    refine g_iload_n F dX9_requireUser_4 rfl ?_
    refine g_aload_n F dX9_requireUser_5 rfl ?_
    refine g_get (C := RX9) (T := TX9) (N := 10) F 0 0 3 rfl rfl rfl iX9_requireUser_X9 (by decide) (by decide +kernel) rfl dX9_requireUser_6 ?_
    refine g_get (C := RX1) (T := TX1) (N := 8) F 1 0 2 rfl rfl rfl iX9_requireUser_X1 (by decide) (by decide +kernel) rfl dX9_requireUser_9 ?_
    refine g_get (C := RX7) (T := TX7) (N := 3) F 2 0 0 rfl rfl rfl iX9_requireUser_X7 (by decide) (by decide +kernel) rfl dX9_requireUser_12 ?_
    refine g_icmp_lt F 26 dX9_requireUser_15 (by decide) (fun hc_1 => ?_) (fun hc_1 => ?_)
    · replace hf := gi_t hc_1 hf
      cases hf
      exact g_vret F rfl ⟨rfl, rfl⟩ dX9_requireUser_26
    · replace hf := gi_f hc_1 hf
      refine g_mask [false, false] rfl ?_
      exact hj_1 hf
set_option maxHeartbeats 4000000 in
set_option maxRecDepth 100000 in
theorem ctX9_user (l : Launch) (E : gE) (aD abuffer aB aPr aC2 aV aHs aSl afilled asettings asums aU aP aW : Nat → Nat) (x1 : Int32) (x2 : Int32) (D_buffered : Int32) (D_lastErrorAt : Int32) (B_time : Int32) (B_chest : Int32) (B_fund : Int32) (settings : (Nat → Int32)) (U : tUsers) (P : tPieces) (W : tWords) (r : Int32) (hf : fX9_user x1 x2 settings U P W = some r) : gMet l yX9_user wsX9_user rmX9_user vwCl E [.ref (aD 0), .int x1, .int x2] [sPD E aD abuffer aB aPr aC2 aV aHs aSl afilled D_buffered D_lastErrorAt, sBook E aB asettings asums aU aP aW B_time B_chest B_fund, sArrI E asettings 5 settings, sUsers E aU U, sPieces E aP P, sWords E aW W] (fun v w => v = some (.int r) ∧ w = [sPD E aD abuffer aB aPr aC2 aV aHs aSl afilled D_buffered D_lastErrorAt, sBook E aB asettings asums aU aP aW B_time B_chest B_fund, sArrI E asettings 5 settings, sUsers E aU U, sPieces E aP P, sWords E aW W]) 0 0 := by
  refine g_entry [some (.ref (aD 0)), some (.int x1), some (.int x2)] (by decide) rfl (Nat.le_of_ble_eq_true rfl) rfl ?_
  intro p e s m below meth c A F hnm
  unfold fX9_user at hf
  refine g_aload_n F dX9_user_0 rfl ?_
  refine g_iload_n F dX9_user_1 rfl ?_
  obtain ⟨hg_1, hf⟩ := gb0_el hf
  refine g_callV (C := RX9) (T := TX9) (N := 10) (Lr := [sArrI E asettings 5 settings, sPieces E aP P, sWords E aW W]) (As := [.int x1]) (rest := []) F 0 0 1 (ctX9_requireUser l E aD abuffer aB aPr aC2 aV aHs aSl afilled asettings asums aU aP aW x1 D_buffered D_lastErrorAt B_time B_chest B_fund U hg_1) gX9_user_X9_requireUser rfl rfl rfl h0X9_requireUser ⟨Nat.le_of_ble_eq_true rfl, Nat.le_of_ble_eq_true rfl⟩ rfl rfl rfl [0, 1, 3] [2, 4, 5] rfl rfl rfl rfl rfl rfl (Nat.le_of_ble_eq_true rfl) dX9_user_2 ⟨(Nat.le_of_ble_eq_true rfl), (Nat.le_of_ble_eq_true rfl)⟩ ?_
  rintro v w ⟨rfl, rfl⟩
  refine g_norm (Lw' := [sPD E aD abuffer aB aPr aC2 aV aHs aSl afilled D_buffered D_lastErrorAt, sBook E aB asettings asums aU aP aW B_time B_chest B_fund, sArrI E asettings 5 settings, sUsers E aU U, sPieces E aP P, sWords E aW W]) (st' := []) (pc' := 5) [0, 1, 3, 2, 4, 5] rfl rfl rfl rfl ?_
  refine g_iload_n F dX9_user_5 rfl ?_
  by_cases hc_1 : x2 = 0
  · replace hf := gi_t hc_1 hf
    refine g_tabIn F 40 0 hc_1 dX9_user_6 (by decide) (by decide) rfl (by decide) ?_
    refine g_aload_n F dX9_user_40 rfl ?_
    refine g_get (C := RX9) (T := TX9) (N := 10) F 0 0 3 rfl rfl rfl iX9_user_X9 (by decide) (by decide +kernel) rfl dX9_user_41 ?_
    refine g_get (C := RX1) (T := TX1) (N := 8) F 1 0 2 rfl rfl rfl iX9_user_X1 (by decide) (by decide +kernel) rfl dX9_user_44 ?_
    refine g_iload_n F dX9_user_47 rfl ?_
    obtain ⟨r_1, hg_2, hf⟩ := gb1_el hf
    refine g_callV (C := RX7) (T := TX7) (N := 3) (Lr := [sPD E aD abuffer aB aPr aC2 aV aHs aSl afilled D_buffered D_lastErrorAt, sBook E aB asettings asums aU aP aW B_time B_chest B_fund, sArrI E asettings 5 settings, sPieces E aP P, sWords E aW W]) (As := [.int x1]) (rest := []) F 3 0 1 (ctX7_coinsOf l E aU x1 U r_1 hg_2) gX9_user_X7_coinsOf rfl rfl rfl h0X7_coinsOf ⟨Nat.le_of_ble_eq_true rfl, Nat.le_of_ble_eq_true rfl⟩ rfl rfl rfl [3] [0, 1, 2, 4, 5] rfl rfl rfl rfl rfl rfl (Nat.le_of_ble_eq_true rfl) dX9_user_48 ⟨(Nat.le_of_ble_eq_true rfl), (Nat.le_of_ble_eq_true rfl)⟩ ?_
    rintro v w ⟨rfl, rfl⟩
    refine g_norm (Lw' := [sPD E aD abuffer aB aPr aC2 aV aHs aSl afilled D_buffered D_lastErrorAt, sBook E aB asettings asums aU aP aW B_time B_chest B_fund, sArrI E asettings 5 settings, sUsers E aU U, sPieces E aP P, sWords E aW W]) (st' := [.int r_1]) (pc' := 51) [1, 2, 3, 0, 4, 5] rfl rfl rfl rfl ?_
    cases hf
    exact g_iret F rfl ⟨rfl, rfl⟩ dX9_user_51
  replace hf := gi_f hc_1 hf
  by_cases hc_2 : x2 = 1
  · replace hf := gi_t hc_2 hf
    refine g_tabIn F 52 1 hc_2 dX9_user_6 (by decide) (by decide) rfl (by decide) ?_
    refine g_aload_n F dX9_user_52 rfl ?_
    refine g_get (C := RX9) (T := TX9) (N := 10) F 0 0 3 rfl rfl rfl iX9_user_X9 (by decide) (by decide +kernel) rfl dX9_user_53 ?_
    refine g_get (C := RX1) (T := TX1) (N := 8) F 1 0 4 rfl rfl rfl iX9_user_X1 (by decide) (by decide +kernel) rfl dX9_user_56 ?_
    refine g_iload_n F dX9_user_59 rfl ?_
    obtain ⟨r_2, hg_3, hf⟩ := gb1_el hf
    refine g_callV (C := RX8) (T := TX8) (N := 5) (Lr := [sPD E aD abuffer aB aPr aC2 aV aHs aSl afilled D_buffered D_lastErrorAt, sBook E aB asettings asums aU aP aW B_time B_chest B_fund, sArrI E asettings 5 settings, sUsers E aU U, sPieces E aP P]) (As := [.int x1]) (rest := []) F 5 0 1 (ctX8_countOf l E aW x1 W r_2 hg_3) gX9_user_X8_countOf rfl rfl rfl h0X8_countOf ⟨Nat.le_of_ble_eq_true rfl, Nat.le_of_ble_eq_true rfl⟩ rfl rfl rfl [5] [0, 1, 2, 3, 4] rfl rfl rfl rfl rfl rfl (Nat.le_of_ble_eq_true rfl) dX9_user_60 ⟨(Nat.le_of_ble_eq_true rfl), (Nat.le_of_ble_eq_true rfl)⟩ ?_
    rintro v w ⟨rfl, rfl⟩
    refine g_norm (Lw' := [sPD E aD abuffer aB aPr aC2 aV aHs aSl afilled D_buffered D_lastErrorAt, sBook E aB asettings asums aU aP aW B_time B_chest B_fund, sArrI E asettings 5 settings, sUsers E aU U, sPieces E aP P, sWords E aW W]) (st' := [.int r_2]) (pc' := 63) [1, 2, 3, 4, 5, 0] rfl rfl rfl rfl ?_
    cases hf
    exact g_iret F rfl ⟨rfl, rfl⟩ dX9_user_63
  replace hf := gi_f hc_2 hf
  by_cases hc_3 : x2 = 2
  · replace hf := gi_t hc_3 hf
    refine g_tabIn F 64 2 hc_3 dX9_user_6 (by decide) (by decide) rfl (by decide) ?_
    refine g_aload_n F dX9_user_64 rfl ?_
    refine g_get (C := RX9) (T := TX9) (N := 10) F 0 0 3 rfl rfl rfl iX9_user_X9 (by decide) (by decide +kernel) rfl dX9_user_65 ?_
    refine g_iload_n F dX9_user_68 rfl ?_
    obtain ⟨r_3, hg_4, hf⟩ := gb1_el hf
    refine g_callV (C := RX1) (T := TX1) (N := 8) (Lr := [sPD E aD abuffer aB aPr aC2 aV aHs aSl afilled D_buffered D_lastErrorAt, sUsers E aU U, sPieces E aP P]) (As := [.int x1]) (rest := []) F 1 0 1 (ctX1_heldFor l E aB asettings asums aU aP aW x1 B_time B_chest B_fund settings W r_3 hg_4) gX9_user_X1_heldFor rfl rfl rfl h0X1_heldFor ⟨Nat.le_of_ble_eq_true rfl, Nat.le_of_ble_eq_true rfl⟩ rfl rfl rfl [1, 2, 5] [0, 3, 4] rfl rfl rfl rfl rfl rfl (Nat.le_of_ble_eq_true rfl) dX9_user_69 ⟨(Nat.le_of_ble_eq_true rfl), (Nat.le_of_ble_eq_true rfl)⟩ ?_
    rintro v w ⟨rfl, rfl⟩
    refine g_norm (Lw' := [sPD E aD abuffer aB aPr aC2 aV aHs aSl afilled D_buffered D_lastErrorAt, sBook E aB asettings asums aU aP aW B_time B_chest B_fund, sArrI E asettings 5 settings, sUsers E aU U, sPieces E aP P, sWords E aW W]) (st' := [.int r_3]) (pc' := 72) [3, 0, 1, 4, 5, 2] rfl rfl rfl rfl ?_
    cases hf
    exact g_iret F rfl ⟨rfl, rfl⟩ dX9_user_72
  replace hf := gi_f hc_3 hf
  by_cases hc_4 : x2 = 3
  · replace hf := gi_t hc_4 hf
    refine g_tabIn F 73 3 hc_4 dX9_user_6 (by decide) (by decide) rfl (by decide) ?_
    refine g_aload_n F dX9_user_73 rfl ?_
    refine g_get (C := RX9) (T := TX9) (N := 10) F 0 0 3 rfl rfl rfl iX9_user_X9 (by decide) (by decide +kernel) rfl dX9_user_74 ?_
    refine g_get (C := RX1) (T := TX1) (N := 8) F 1 0 3 rfl rfl rfl iX9_user_X1 (by decide) (by decide +kernel) rfl dX9_user_77 ?_
    refine g_iload_n F dX9_user_80 rfl ?_
    obtain ⟨r_4, hg_5, hf⟩ := gb1_el hf
    refine g_callV (C := RX6) (T := TX6) (N := 6) (Lr := [sPD E aD abuffer aB aPr aC2 aV aHs aSl afilled D_buffered D_lastErrorAt, sBook E aB asettings asums aU aP aW B_time B_chest B_fund, sArrI E asettings 5 settings, sUsers E aU U, sWords E aW W]) (As := [.int x1]) (rest := []) F 4 0 1 (ctX6_ownedBy l E aP x1 P r_4 hg_5) gX9_user_X6_ownedBy rfl rfl rfl h0X6_ownedBy ⟨Nat.le_of_ble_eq_true rfl, Nat.le_of_ble_eq_true rfl⟩ rfl rfl rfl [4] [0, 1, 2, 3, 5] rfl rfl rfl rfl rfl rfl (Nat.le_of_ble_eq_true rfl) dX9_user_81 ⟨(Nat.le_of_ble_eq_true rfl), (Nat.le_of_ble_eq_true rfl)⟩ ?_
    rintro v w ⟨rfl, rfl⟩
    refine g_norm (Lw' := [sPD E aD abuffer aB aPr aC2 aV aHs aSl afilled D_buffered D_lastErrorAt, sBook E aB asettings asums aU aP aW B_time B_chest B_fund, sArrI E asettings 5 settings, sUsers E aU U, sPieces E aP P, sWords E aW W]) (st' := [.int r_4]) (pc' := 84) [1, 2, 3, 4, 0, 5] rfl rfl rfl rfl ?_
    cases hf
    exact g_iret F rfl ⟨rfl, rfl⟩ dX9_user_84
  replace hf := gi_f hc_4 hf
  by_cases hc_5 : x2 = 4
  · replace hf := gi_t hc_5 hf
    refine g_tabIn F 85 4 hc_5 dX9_user_6 (by decide) (by decide) rfl (by decide) ?_
    refine g_aload_n F dX9_user_85 rfl ?_
    refine g_get (C := RX9) (T := TX9) (N := 10) F 0 0 3 rfl rfl rfl iX9_user_X9 (by decide) (by decide +kernel) rfl dX9_user_86 ?_
    refine g_get (C := RX1) (T := TX1) (N := 8) F 1 0 3 rfl rfl rfl iX9_user_X1 (by decide) (by decide +kernel) rfl dX9_user_89 ?_
    refine g_iload_n F dX9_user_92 rfl ?_
    obtain ⟨r_5, hg_6, hf⟩ := gb1_el hf
    refine g_callV (C := RX6) (T := TX6) (N := 6) (Lr := [sPD E aD abuffer aB aPr aC2 aV aHs aSl afilled D_buffered D_lastErrorAt, sBook E aB asettings asums aU aP aW B_time B_chest B_fund, sArrI E asettings 5 settings, sUsers E aU U, sWords E aW W]) (As := [.int x1]) (rest := []) F 4 0 1 (ctX6_pricesPaidBy l E aP x1 P r_5 hg_6) gX9_user_X6_pricesPaidBy rfl rfl rfl h0X6_pricesPaidBy ⟨Nat.le_of_ble_eq_true rfl, Nat.le_of_ble_eq_true rfl⟩ rfl rfl rfl [4] [0, 1, 2, 3, 5] rfl rfl rfl rfl rfl rfl (Nat.le_of_ble_eq_true rfl) dX9_user_93 ⟨(Nat.le_of_ble_eq_true rfl), (Nat.le_of_ble_eq_true rfl)⟩ ?_
    rintro v w ⟨rfl, rfl⟩
    refine g_norm (Lw' := [sPD E aD abuffer aB aPr aC2 aV aHs aSl afilled D_buffered D_lastErrorAt, sBook E aB asettings asums aU aP aW B_time B_chest B_fund, sArrI E asettings 5 settings, sUsers E aU U, sPieces E aP P, sWords E aW W]) (st' := [.int r_5]) (pc' := 96) [1, 2, 3, 4, 0, 5] rfl rfl rfl rfl ?_
    cases hf
    exact g_iret F rfl ⟨rfl, rfl⟩ dX9_user_96
  replace hf := gi_f hc_5 hf
  refine g_tabOut F 97 dX9_user_6 (gtl_4 hc_1 hc_2 hc_3 hc_4 hc_5) (by decide) ?_
  cases hf
set_option maxHeartbeats 4000000 in
set_option maxRecDepth 100000 in
theorem ctX9_requirePiece (l : Launch) (E : gE) (aD abuffer aB aPr aC2 aV aHs aSl afilled asettings asums aU aP aW : Nat → Nat) (x1 : Int32) (D_buffered : Int32) (D_lastErrorAt : Int32) (B_time : Int32) (B_chest : Int32) (B_fund : Int32) (P : tPieces) (hf : fX9_requirePiece x1 P = some ()) : gMet l yX9_requirePiece wsX9_requirePiece rmX9_requirePiece vwCl E [.ref (aD 0), .int x1] [sPD E aD abuffer aB aPr aC2 aV aHs aSl afilled D_buffered D_lastErrorAt, sBook E aB asettings asums aU aP aW B_time B_chest B_fund, sPieces E aP P] (fun v w => v = none ∧ w = [sPD E aD abuffer aB aPr aC2 aV aHs aSl afilled D_buffered D_lastErrorAt, sBook E aB asettings asums aU aP aW B_time B_chest B_fund, sPieces E aP P]) 0 0 := by
  refine g_entry [some (.ref (aD 0)), some (.int x1)] (by decide) rfl (Nat.le_of_ble_eq_true rfl) rfl ?_
  intro p e s m below meth c A F hnm
  unfold fX9_requirePiece at hf
  refine g_iload_n F dX9_requirePiece_0 rfl ?_
  obtain ⟨j_1, hj_1, hf⟩ := Lt_el hf
  have hj_1 : j_1 = some () → Gj p l e rmX9_requirePiece s m ([.ref (aD 0), .int x1] : List Value).toArray below meth c 0 0 (MQ below (gQ vwCl E A (fun v w => v = none ∧ w = [sPD E aD abuffer aB aPr aC2 aV aHs aSl afilled D_buffered D_lastErrorAt, sBook E aB asettings asums aU aP aW B_time B_chest B_fund, sPieces E aP P])) ([.ref (aD 0), .int x1] : List Value).toArray s 0 0 A) vwCl E A [sPD E aD abuffer aB aPr aC2 aV aHs aSl afilled D_buffered D_lastErrorAt, sBook E aB asettings asums aU aP aW B_time B_chest B_fund, sPieces E aP P] [none, none] [] 18 := by
    intro hf
    rw [hj_1] at hf
    cases hf
  refine g_iflt F 18 dX9_requirePiece_1 (by decide) (fun hc_2 => ?_) (fun hc_2 => ?_)
  · replace hf := gi_t hc_2 hf
    refine g_mask [false, false] rfl ?_
    exact hj_1 hf
  · replace hf := gi_f hc_2 hf
    refine g_iload_n F dX9_requirePiece_4 rfl ?_
    refine g_aload_n F dX9_requirePiece_5 rfl ?_
    refine g_get (C := RX9) (T := TX9) (N := 10) F 0 0 3 rfl rfl rfl iX9_requirePiece_X9 (by decide) (by decide +kernel) rfl dX9_requirePiece_6 ?_
    refine g_get (C := RX1) (T := TX1) (N := 8) F 1 0 3 rfl rfl rfl iX9_requirePiece_X1 (by decide) (by decide +kernel) rfl dX9_requirePiece_9 ?_
    refine g_get (C := RX6) (T := TX6) (N := 6) F 2 0 0 rfl rfl rfl iX9_requirePiece_X6 (by decide) (by decide +kernel) rfl dX9_requirePiece_12 ?_
    refine g_icmp_lt F 26 dX9_requirePiece_15 (by decide) (fun hc_1 => ?_) (fun hc_1 => ?_)
    · replace hf := gi_t hc_1 hf
      cases hf
      exact g_vret F rfl ⟨rfl, rfl⟩ dX9_requirePiece_26
    · replace hf := gi_f hc_1 hf
      refine g_mask [false, false] rfl ?_
      exact hj_1 hf
set_option maxHeartbeats 4000000 in
set_option maxRecDepth 100000 in
theorem ctX9_piece (l : Launch) (E : gE) (aD abuffer aB aPr aC2 aV aHs aSl afilled asettings asums aU aP aW : Nat → Nat) (x1 : Int32) (x2 : Int32) (D_buffered : Int32) (D_lastErrorAt : Int32) (B_time : Int32) (B_chest : Int32) (B_fund : Int32) (P : tPieces) (r : Int32) (hf : fX9_piece x1 x2 P = some r) : gMet l yX9_piece wsX9_piece rmX9_piece vwCl E [.ref (aD 0), .int x1, .int x2] [sPD E aD abuffer aB aPr aC2 aV aHs aSl afilled D_buffered D_lastErrorAt, sBook E aB asettings asums aU aP aW B_time B_chest B_fund, sPieces E aP P] (fun v w => v = some (.int r) ∧ w = [sPD E aD abuffer aB aPr aC2 aV aHs aSl afilled D_buffered D_lastErrorAt, sBook E aB asettings asums aU aP aW B_time B_chest B_fund, sPieces E aP P]) 0 0 := by
  refine g_entry [some (.ref (aD 0)), some (.int x1), some (.int x2)] (by decide) rfl (Nat.le_of_ble_eq_true rfl) rfl ?_
  intro p e s m below meth c A F hnm
  unfold fX9_piece at hf
  refine g_aload_n F dX9_piece_0 rfl ?_
  refine g_iload_n F dX9_piece_1 rfl ?_
  obtain ⟨hg_1, hf⟩ := gb0_el hf
  refine g_callV (C := RX9) (T := TX9) (N := 10) (Lr := []) (As := [.int x1]) (rest := []) F 0 0 1 (ctX9_requirePiece l E aD abuffer aB aPr aC2 aV aHs aSl afilled asettings asums aU aP aW x1 D_buffered D_lastErrorAt B_time B_chest B_fund P hg_1) gX9_piece_X9_requirePiece rfl rfl rfl h0X9_requirePiece ⟨Nat.le_of_ble_eq_true rfl, Nat.le_of_ble_eq_true rfl⟩ rfl rfl rfl [0, 1, 2] [] rfl rfl rfl rfl rfl rfl (Nat.le_of_ble_eq_true rfl) dX9_piece_2 ⟨(Nat.le_of_ble_eq_true rfl), (Nat.le_of_ble_eq_true rfl)⟩ ?_
  rintro v w ⟨rfl, rfl⟩
  refine g_norm (Lw' := [sPD E aD abuffer aB aPr aC2 aV aHs aSl afilled D_buffered D_lastErrorAt, sBook E aB asettings asums aU aP aW B_time B_chest B_fund, sPieces E aP P]) (st' := []) (pc' := 5) [0, 1, 2] rfl rfl rfl rfl ?_
  refine g_iload_n F dX9_piece_5 rfl ?_
  by_cases hc_1 : x2 = 0
  · replace hf := gi_t hc_1 hf
    refine g_tabIn F 40 0 hc_1 dX9_piece_6 (by decide) (by decide) rfl (by decide) ?_
    refine g_aload_n F dX9_piece_40 rfl ?_
    refine g_get (C := RX9) (T := TX9) (N := 10) F 0 0 3 rfl rfl rfl iX9_piece_X9 (by decide) (by decide +kernel) rfl dX9_piece_41 ?_
    refine g_get (C := RX1) (T := TX1) (N := 8) F 1 0 3 rfl rfl rfl iX9_piece_X1 (by decide) (by decide +kernel) rfl dX9_piece_44 ?_
    refine g_get (C := RX6) (T := TX6) (N := 6) F 2 0 1 rfl rfl rfl iX9_piece_X6 (by decide) (by decide +kernel) rfl dX9_piece_47 ?_
    refine g_iload_n F dX9_piece_50 rfl ?_
    obtain ⟨hb_1, hf⟩ := gb_in hf
    refine g_lald F 2 1 (x1.toNatClampNeg) rfl rfl rfl hb_1 dX9_piece_51 ?_
    obtain ⟨r_1, hg_2, hf⟩ := gb1_el hf
    refine g_callS (Lr := [sPD E aD abuffer aB aPr aC2 aV aHs aSl afilled D_buffered D_lastErrorAt, sBook E aB asettings asums aU aP aW B_time B_chest B_fund, sPieces E aP P]) (As := [.long (P.2.1 (x1.toNatClampNeg))]) (rest := []) F 1 (ctX4_lengthOf l E (P.2.1 (x1.toNatClampNeg)) r_1 hg_2) (va_cwS 1 F.2.2.2.2.2.1 gX9_piece_X4_lengthOf rfl rfl rfl h0X4_lengthOf ⟨Nat.le_of_ble_eq_true rfl, Nat.le_of_ble_eq_true rfl⟩) [] [0, 1, 2] rfl rfl rfl rfl rfl rfl (Nat.le_of_ble_eq_true rfl) dX9_piece_52 ⟨(Nat.le_of_ble_eq_true rfl), (Nat.le_of_ble_eq_true rfl)⟩ ?_
    rintro v w ⟨rfl, rfl⟩
    refine g_norm (Lw' := [sPD E aD abuffer aB aPr aC2 aV aHs aSl afilled D_buffered D_lastErrorAt, sBook E aB asettings asums aU aP aW B_time B_chest B_fund, sPieces E aP P]) (st' := [.int r_1]) (pc' := 55) [0, 1, 2] rfl rfl rfl rfl ?_
    cases hf
    exact g_iret F rfl ⟨rfl, rfl⟩ dX9_piece_55
  replace hf := gi_f hc_1 hf
  by_cases hc_2 : x2 = 1
  · replace hf := gi_t hc_2 hf
    refine g_tabIn F 56 1 hc_2 dX9_piece_6 (by decide) (by decide) rfl (by decide) ?_
    refine g_aload_n F dX9_piece_56 rfl ?_
    refine g_get (C := RX9) (T := TX9) (N := 10) F 0 0 3 rfl rfl rfl iX9_piece_X9 (by decide) (by decide +kernel) rfl dX9_piece_57 ?_
    refine g_get (C := RX1) (T := TX1) (N := 8) F 1 0 3 rfl rfl rfl iX9_piece_X1 (by decide) (by decide +kernel) rfl dX9_piece_60 ?_
    refine g_get (C := RX6) (T := TX6) (N := 6) F 2 0 2 rfl rfl rfl iX9_piece_X6 (by decide) (by decide +kernel) rfl dX9_piece_63 ?_
    refine g_iload_n F dX9_piece_66 rfl ?_
    obtain ⟨hb_2, hf⟩ := gb_in hf
    refine g_iald F 2 2 (x1.toNatClampNeg) rfl rfl rfl hb_2 dX9_piece_67 ?_
    cases hf
    exact g_iret F rfl ⟨rfl, rfl⟩ dX9_piece_68
  replace hf := gi_f hc_2 hf
  by_cases hc_3 : x2 = 2
  · replace hf := gi_t hc_3 hf
    refine g_tabIn F 69 2 hc_3 dX9_piece_6 (by decide) (by decide) rfl (by decide) ?_
    refine g_aload_n F dX9_piece_69 rfl ?_
    refine g_get (C := RX9) (T := TX9) (N := 10) F 0 0 3 rfl rfl rfl iX9_piece_X9 (by decide) (by decide +kernel) rfl dX9_piece_70 ?_
    refine g_get (C := RX1) (T := TX1) (N := 8) F 1 0 3 rfl rfl rfl iX9_piece_X1 (by decide) (by decide +kernel) rfl dX9_piece_73 ?_
    refine g_get (C := RX6) (T := TX6) (N := 6) F 2 0 3 rfl rfl rfl iX9_piece_X6 (by decide) (by decide +kernel) rfl dX9_piece_76 ?_
    refine g_iload_n F dX9_piece_79 rfl ?_
    obtain ⟨hb_3, hf⟩ := gb_in hf
    refine g_iald F 2 3 (x1.toNatClampNeg) rfl rfl rfl hb_3 dX9_piece_80 ?_
    cases hf
    exact g_iret F rfl ⟨rfl, rfl⟩ dX9_piece_81
  replace hf := gi_f hc_3 hf
  by_cases hc_4 : x2 = 3
  · replace hf := gi_t hc_4 hf
    refine g_tabIn F 82 3 hc_4 dX9_piece_6 (by decide) (by decide) rfl (by decide) ?_
    refine g_aload_n F dX9_piece_82 rfl ?_
    refine g_get (C := RX9) (T := TX9) (N := 10) F 0 0 3 rfl rfl rfl iX9_piece_X9 (by decide) (by decide +kernel) rfl dX9_piece_83 ?_
    refine g_get (C := RX1) (T := TX1) (N := 8) F 1 0 3 rfl rfl rfl iX9_piece_X1 (by decide) (by decide +kernel) rfl dX9_piece_86 ?_
    refine g_get (C := RX6) (T := TX6) (N := 6) F 2 0 4 rfl rfl rfl iX9_piece_X6 (by decide) (by decide +kernel) rfl dX9_piece_89 ?_
    refine g_iload_n F dX9_piece_92 rfl ?_
    obtain ⟨hb_4, hf⟩ := gb_in hf
    refine g_iald F 2 4 (x1.toNatClampNeg) rfl rfl rfl hb_4 dX9_piece_93 ?_
    cases hf
    exact g_iret F rfl ⟨rfl, rfl⟩ dX9_piece_94
  replace hf := gi_f hc_4 hf
  by_cases hc_6 : x2 = 4
  · replace hf := gi_t hc_6 hf
    refine g_tabIn F 95 4 hc_6 dX9_piece_6 (by decide) (by decide) rfl (by decide) ?_
    refine g_aload_n F dX9_piece_95 rfl ?_
    refine g_get (C := RX9) (T := TX9) (N := 10) F 0 0 3 rfl rfl rfl iX9_piece_X9 (by decide) (by decide +kernel) rfl dX9_piece_96 ?_
    refine g_get (C := RX1) (T := TX1) (N := 8) F 1 0 3 rfl rfl rfl iX9_piece_X1 (by decide) (by decide +kernel) rfl dX9_piece_99 ?_
    refine g_get (C := RX6) (T := TX6) (N := 6) F 2 0 4 rfl rfl rfl iX9_piece_X6 (by decide) (by decide +kernel) rfl dX9_piece_102 ?_
    refine g_iload_n F dX9_piece_105 rfl ?_
    obtain ⟨hb_5, hf⟩ := gb_in hf
    refine g_iald F 2 4 (x1.toNatClampNeg) rfl rfl rfl hb_5 dX9_piece_106 ?_
    refine g_ifle F 114 dX9_piece_107 (by decide) (fun hc_5 => ?_) (fun hc_5 => ?_)
    · replace hf := gi_t hc_5 hf
      refine g_aload_n F dX9_piece_114 rfl ?_
      refine g_get (C := RX9) (T := TX9) (N := 10) F 0 0 3 rfl rfl rfl iX9_piece_X9 (by decide) (by decide +kernel) rfl dX9_piece_115 ?_
      refine g_get (C := RX1) (T := TX1) (N := 8) F 1 0 3 rfl rfl rfl iX9_piece_X1 (by decide) (by decide +kernel) rfl dX9_piece_118 ?_
      refine g_get (C := RX6) (T := TX6) (N := 6) F 2 0 5 rfl rfl rfl iX9_piece_X6 (by decide) (by decide +kernel) rfl dX9_piece_121 ?_
      refine g_iload_n F dX9_piece_124 rfl ?_
      obtain ⟨hb_6, hf⟩ := gb_in hf
      refine g_iald F 2 5 (x1.toNatClampNeg) rfl rfl rfl hb_6 dX9_piece_125 ?_
      cases hf
      exact g_iret F rfl ⟨rfl, rfl⟩ dX9_piece_126
    · replace hf := gi_f hc_5 hf
      refine g_iconst F (-1) dX9_piece_110 rfl ?_
      refine g_goto F 126 dX9_piece_111 (by decide) ?_
      cases hf
      exact g_iret F rfl ⟨rfl, rfl⟩ dX9_piece_126
  replace hf := gi_f hc_6 hf
  refine g_tabOut F 127 dX9_piece_6 (gtl_4 hc_1 hc_2 hc_3 hc_4 hc_6) (by decide) ?_
  cases hf
set_option maxHeartbeats 4000000 in
set_option maxRecDepth 100000 in
theorem ctX9_pieceLetter (l : Launch) (E : gE) (aD abuffer aB aPr aC2 aV aHs aSl afilled asettings asums aU aP aW : Nat → Nat) (x1 : Int32) (x2 : Int32) (D_buffered : Int32) (D_lastErrorAt : Int32) (B_time : Int32) (B_chest : Int32) (B_fund : Int32) (P : tPieces) (r : Int32) (hf : fX9_pieceLetter x1 x2 P = some r) : gMet l yX9_pieceLetter wsX9_pieceLetter rmX9_pieceLetter vwCl E [.ref (aD 0), .int x1, .int x2] [sPD E aD abuffer aB aPr aC2 aV aHs aSl afilled D_buffered D_lastErrorAt, sBook E aB asettings asums aU aP aW B_time B_chest B_fund, sPieces E aP P] (fun v w => v = some (.int r) ∧ w = [sPD E aD abuffer aB aPr aC2 aV aHs aSl afilled D_buffered D_lastErrorAt, sBook E aB asettings asums aU aP aW B_time B_chest B_fund, sPieces E aP P]) 0 0 := by
  refine g_entry [some (.ref (aD 0)), some (.int x1), some (.int x2)] (by decide) rfl (Nat.le_of_ble_eq_true rfl) rfl ?_
  intro p e s m below meth c A F hnm
  unfold fX9_pieceLetter at hf
  refine g_aload_n F dX9_pieceLetter_0 rfl ?_
  refine g_iload_n F dX9_pieceLetter_1 rfl ?_
  obtain ⟨hg_1, hf⟩ := gb0_el hf
  refine g_callV (C := RX9) (T := TX9) (N := 10) (Lr := []) (As := [.int x1]) (rest := []) F 0 0 1 (ctX9_requirePiece l E aD abuffer aB aPr aC2 aV aHs aSl afilled asettings asums aU aP aW x1 D_buffered D_lastErrorAt B_time B_chest B_fund P hg_1) gX9_pieceLetter_X9_requirePiece rfl rfl rfl h0X9_requirePiece ⟨Nat.le_of_ble_eq_true rfl, Nat.le_of_ble_eq_true rfl⟩ rfl rfl rfl [0, 1, 2] [] rfl rfl rfl rfl rfl rfl (Nat.le_of_ble_eq_true rfl) dX9_pieceLetter_2 ⟨(Nat.le_of_ble_eq_true rfl), (Nat.le_of_ble_eq_true rfl)⟩ ?_
  rintro v w ⟨rfl, rfl⟩
  refine g_norm (Lw' := [sPD E aD abuffer aB aPr aC2 aV aHs aSl afilled D_buffered D_lastErrorAt, sBook E aB asettings asums aU aP aW B_time B_chest B_fund, sPieces E aP P]) (st' := []) (pc' := 5) [0, 1, 2] rfl rfl rfl rfl ?_
  refine g_aload_n F dX9_pieceLetter_5 rfl ?_
  refine g_get (C := RX9) (T := TX9) (N := 10) F 0 0 3 rfl rfl rfl iX9_pieceLetter_X9 (by decide) (by decide +kernel) rfl dX9_pieceLetter_6 ?_
  refine g_get (C := RX1) (T := TX1) (N := 8) F 1 0 3 rfl rfl rfl iX9_pieceLetter_X1 (by decide) (by decide +kernel) rfl dX9_pieceLetter_9 ?_
  refine g_get (C := RX6) (T := TX6) (N := 6) F 2 0 1 rfl rfl rfl iX9_pieceLetter_X6 (by decide) (by decide +kernel) rfl dX9_pieceLetter_12 ?_
  refine g_iload_n F dX9_pieceLetter_15 rfl ?_
  obtain ⟨hb_1, hf⟩ := gb_in hf
  refine g_lald F 2 1 (x1.toNatClampNeg) rfl rfl rfl hb_1 dX9_pieceLetter_16 ?_
  refine g_iload_n F dX9_pieceLetter_17 rfl ?_
  obtain ⟨r_1, hg_2, hf⟩ := gb1_el hf
  refine g_callS (Lr := [sPD E aD abuffer aB aPr aC2 aV aHs aSl afilled D_buffered D_lastErrorAt, sBook E aB asettings asums aU aP aW B_time B_chest B_fund, sPieces E aP P]) (As := [.long (P.2.1 (x1.toNatClampNeg)), .int x2]) (rest := []) F 2 (ctX4_letterAt l E (P.2.1 (x1.toNatClampNeg)) x2 r_1 hg_2) (va_cwS 2 F.2.2.2.2.2.1 gX9_pieceLetter_X4_letterAt rfl rfl rfl h0X4_letterAt ⟨Nat.le_of_ble_eq_true rfl, Nat.le_of_ble_eq_true rfl⟩) [] [0, 1, 2] rfl rfl rfl rfl rfl rfl (Nat.le_of_ble_eq_true rfl) dX9_pieceLetter_18 ⟨(Nat.le_of_ble_eq_true rfl), (Nat.le_of_ble_eq_true rfl)⟩ ?_
  rintro v w ⟨rfl, rfl⟩
  refine g_norm (Lw' := [sPD E aD abuffer aB aPr aC2 aV aHs aSl afilled D_buffered D_lastErrorAt, sBook E aB asettings asums aU aP aW B_time B_chest B_fund, sPieces E aP P]) (st' := [.int r_1]) (pc' := 21) [0, 1, 2] rfl rfl rfl rfl ?_
  cases hf
  exact g_iret F rfl ⟨rfl, rfl⟩ dX9_pieceLetter_21
set_option maxHeartbeats 4000000 in
set_option maxRecDepth 100000 in
theorem ctX9_requireWord (l : Launch) (E : gE) (aD abuffer aB aPr aC2 aV aHs aSl afilled asettings asums aU aP aW : Nat → Nat) (x1 : Int32) (D_buffered : Int32) (D_lastErrorAt : Int32) (B_time : Int32) (B_chest : Int32) (B_fund : Int32) (W : tWords) (hf : fX9_requireWord x1 W = some ()) : gMet l yX9_requireWord wsX9_requireWord rmX9_requireWord vwCl E [.ref (aD 0), .int x1] [sPD E aD abuffer aB aPr aC2 aV aHs aSl afilled D_buffered D_lastErrorAt, sBook E aB asettings asums aU aP aW B_time B_chest B_fund, sWords E aW W] (fun v w => v = none ∧ w = [sPD E aD abuffer aB aPr aC2 aV aHs aSl afilled D_buffered D_lastErrorAt, sBook E aB asettings asums aU aP aW B_time B_chest B_fund, sWords E aW W]) 0 0 := by
  refine g_entry [some (.ref (aD 0)), some (.int x1)] (by decide) rfl (Nat.le_of_ble_eq_true rfl) rfl ?_
  intro p e s m below meth c A F hnm
  unfold fX9_requireWord at hf
  refine g_iload_n F dX9_requireWord_0 rfl ?_
  obtain ⟨j_1, hj_1, hf⟩ := Lt_el hf
  have hj_1 : j_1 = some () → Gj p l e rmX9_requireWord s m ([.ref (aD 0), .int x1] : List Value).toArray below meth c 0 0 (MQ below (gQ vwCl E A (fun v w => v = none ∧ w = [sPD E aD abuffer aB aPr aC2 aV aHs aSl afilled D_buffered D_lastErrorAt, sBook E aB asettings asums aU aP aW B_time B_chest B_fund, sWords E aW W])) ([.ref (aD 0), .int x1] : List Value).toArray s 0 0 A) vwCl E A [sPD E aD abuffer aB aPr aC2 aV aHs aSl afilled D_buffered D_lastErrorAt, sBook E aB asettings asums aU aP aW B_time B_chest B_fund, sWords E aW W] [none, none] [] 18 := by
    intro hf
    rw [hj_1] at hf
    cases hf
  refine g_iflt F 18 dX9_requireWord_1 (by decide) (fun hc_2 => ?_) (fun hc_2 => ?_)
  · replace hf := gi_t hc_2 hf
    refine g_mask [false, false] rfl ?_
    exact hj_1 hf
  · replace hf := gi_f hc_2 hf
    refine g_iload_n F dX9_requireWord_4 rfl ?_
    refine g_aload_n F dX9_requireWord_5 rfl ?_
    refine g_get (C := RX9) (T := TX9) (N := 10) F 0 0 3 rfl rfl rfl iX9_requireWord_X9 (by decide) (by decide +kernel) rfl dX9_requireWord_6 ?_
    refine g_get (C := RX1) (T := TX1) (N := 8) F 1 0 4 rfl rfl rfl iX9_requireWord_X1 (by decide) (by decide +kernel) rfl dX9_requireWord_9 ?_
    refine g_get (C := RX8) (T := TX8) (N := 5) F 2 0 0 rfl rfl rfl iX9_requireWord_X8 (by decide) (by decide +kernel) rfl dX9_requireWord_12 ?_
    refine g_icmp_lt F 26 dX9_requireWord_15 (by decide) (fun hc_1 => ?_) (fun hc_1 => ?_)
    · replace hf := gi_t hc_1 hf
      cases hf
      exact g_vret F rfl ⟨rfl, rfl⟩ dX9_requireWord_26
    · replace hf := gi_f hc_1 hf
      refine g_mask [false, false] rfl ?_
      exact hj_1 hf
set_option maxHeartbeats 4000000 in
set_option maxRecDepth 100000 in
theorem ctX9_word (l : Launch) (E : gE) (aD abuffer aB aPr aC2 aV aHs aSl afilled asettings asums aU aP aW : Nat → Nat) (x1 : Int32) (x2 : Int32) (D_buffered : Int32) (D_lastErrorAt : Int32) (B_time : Int32) (B_chest : Int32) (B_fund : Int32) (settings : (Nat → Int32)) (W : tWords) (r : Int32) (hf : fX9_word x1 x2 settings W = some r) : gMet l yX9_word wsX9_word rmX9_word vwCl E [.ref (aD 0), .int x1, .int x2] [sPD E aD abuffer aB aPr aC2 aV aHs aSl afilled D_buffered D_lastErrorAt, sBook E aB asettings asums aU aP aW B_time B_chest B_fund, sArrI E asettings 5 settings, sWords E aW W] (fun v w => v = some (.int r) ∧ w = [sPD E aD abuffer aB aPr aC2 aV aHs aSl afilled D_buffered D_lastErrorAt, sBook E aB asettings asums aU aP aW B_time B_chest B_fund, sArrI E asettings 5 settings, sWords E aW W]) 0 0 := by
  refine g_entry [some (.ref (aD 0)), some (.int x1), some (.int x2)] (by decide) rfl (Nat.le_of_ble_eq_true rfl) rfl ?_
  intro p e s m below meth c A F hnm
  unfold fX9_word at hf
  refine g_aload_n F dX9_word_0 rfl ?_
  refine g_iload_n F dX9_word_1 rfl ?_
  obtain ⟨hg_1, hf⟩ := gb0_el hf
  refine g_callV (C := RX9) (T := TX9) (N := 10) (Lr := [sArrI E asettings 5 settings]) (As := [.int x1]) (rest := []) F 0 0 1 (ctX9_requireWord l E aD abuffer aB aPr aC2 aV aHs aSl afilled asettings asums aU aP aW x1 D_buffered D_lastErrorAt B_time B_chest B_fund W hg_1) gX9_word_X9_requireWord rfl rfl rfl h0X9_requireWord ⟨Nat.le_of_ble_eq_true rfl, Nat.le_of_ble_eq_true rfl⟩ rfl rfl rfl [0, 1, 3] [2] rfl rfl rfl rfl rfl rfl (Nat.le_of_ble_eq_true rfl) dX9_word_2 ⟨(Nat.le_of_ble_eq_true rfl), (Nat.le_of_ble_eq_true rfl)⟩ ?_
  rintro v w ⟨rfl, rfl⟩
  refine g_norm (Lw' := [sPD E aD abuffer aB aPr aC2 aV aHs aSl afilled D_buffered D_lastErrorAt, sBook E aB asettings asums aU aP aW B_time B_chest B_fund, sArrI E asettings 5 settings, sWords E aW W]) (st' := []) (pc' := 5) [0, 1, 3, 2] rfl rfl rfl rfl ?_
  refine g_iload_n F dX9_word_5 rfl ?_
  by_cases hc_1 : x2 = 0
  · replace hf := gi_t hc_1 hf
    refine g_tabIn F 36 0 hc_1 dX9_word_6 (by decide) (by decide) rfl (by decide) ?_
    refine g_aload_n F dX9_word_36 rfl ?_
    refine g_get (C := RX9) (T := TX9) (N := 10) F 0 0 3 rfl rfl rfl iX9_word_X9 (by decide) (by decide +kernel) rfl dX9_word_37 ?_
    refine g_get (C := RX1) (T := TX1) (N := 8) F 1 0 4 rfl rfl rfl iX9_word_X1 (by decide) (by decide +kernel) rfl dX9_word_40 ?_
    refine g_get (C := RX8) (T := TX8) (N := 5) F 3 0 2 rfl rfl rfl iX9_word_X8 (by decide) (by decide +kernel) rfl dX9_word_43 ?_
    refine g_iload_n F dX9_word_46 rfl ?_
    obtain ⟨hb_1, hf⟩ := gb_in hf
    refine g_iald F 3 2 (x1.toNatClampNeg) rfl rfl rfl hb_1 dX9_word_47 ?_
    cases hf
    exact g_iret F rfl ⟨rfl, rfl⟩ dX9_word_48
  replace hf := gi_f hc_1 hf
  by_cases hc_2 : x2 = 1
  · replace hf := gi_t hc_2 hf
    refine g_tabIn F 49 1 hc_2 dX9_word_6 (by decide) (by decide) rfl (by decide) ?_
    refine g_aload_n F dX9_word_49 rfl ?_
    refine g_get (C := RX9) (T := TX9) (N := 10) F 0 0 3 rfl rfl rfl iX9_word_X9 (by decide) (by decide +kernel) rfl dX9_word_50 ?_
    refine g_get (C := RX1) (T := TX1) (N := 8) F 1 0 4 rfl rfl rfl iX9_word_X1 (by decide) (by decide +kernel) rfl dX9_word_53 ?_
    refine g_get (C := RX8) (T := TX8) (N := 5) F 3 0 1 rfl rfl rfl iX9_word_X8 (by decide) (by decide +kernel) rfl dX9_word_56 ?_
    refine g_iload_n F dX9_word_59 rfl ?_
    obtain ⟨hb_2, hf⟩ := gb_in hf
    refine g_lald F 3 1 (x1.toNatClampNeg) rfl rfl rfl hb_2 dX9_word_60 ?_
    obtain ⟨r_1, hg_2, hf⟩ := gb1_el hf
    refine g_callS (Lr := [sPD E aD abuffer aB aPr aC2 aV aHs aSl afilled D_buffered D_lastErrorAt, sBook E aB asettings asums aU aP aW B_time B_chest B_fund, sArrI E asettings 5 settings, sWords E aW W]) (As := [.long (W.2.1 (x1.toNatClampNeg))]) (rest := []) F 1 (ctX4_lengthOf l E (W.2.1 (x1.toNatClampNeg)) r_1 hg_2) (va_cwS 1 F.2.2.2.2.2.1 gX9_word_X4_lengthOf rfl rfl rfl h0X4_lengthOf ⟨Nat.le_of_ble_eq_true rfl, Nat.le_of_ble_eq_true rfl⟩) [] [0, 1, 2, 3] rfl rfl rfl rfl rfl rfl (Nat.le_of_ble_eq_true rfl) dX9_word_61 ⟨(Nat.le_of_ble_eq_true rfl), (Nat.le_of_ble_eq_true rfl)⟩ ?_
    rintro v w ⟨rfl, rfl⟩
    refine g_norm (Lw' := [sPD E aD abuffer aB aPr aC2 aV aHs aSl afilled D_buffered D_lastErrorAt, sBook E aB asettings asums aU aP aW B_time B_chest B_fund, sArrI E asettings 5 settings, sWords E aW W]) (st' := [.int r_1]) (pc' := 64) [0, 1, 2, 3] rfl rfl rfl rfl ?_
    cases hf
    exact g_iret F rfl ⟨rfl, rfl⟩ dX9_word_64
  replace hf := gi_f hc_2 hf
  by_cases hc_3 : x2 = 2
  · replace hf := gi_t hc_3 hf
    refine g_tabIn F 65 2 hc_3 dX9_word_6 (by decide) (by decide) rfl (by decide) ?_
    refine g_aload_n F dX9_word_65 rfl ?_
    refine g_get (C := RX9) (T := TX9) (N := 10) F 0 0 3 rfl rfl rfl iX9_word_X9 (by decide) (by decide +kernel) rfl dX9_word_66 ?_
    refine g_get (C := RX1) (T := TX1) (N := 8) F 1 0 4 rfl rfl rfl iX9_word_X1 (by decide) (by decide +kernel) rfl dX9_word_69 ?_
    refine g_get (C := RX8) (T := TX8) (N := 5) F 3 0 3 rfl rfl rfl iX9_word_X8 (by decide) (by decide +kernel) rfl dX9_word_72 ?_
    refine g_iload_n F dX9_word_75 rfl ?_
    obtain ⟨hb_3, hf⟩ := gb_in hf
    refine g_iald F 3 3 (x1.toNatClampNeg) rfl rfl rfl hb_3 dX9_word_76 ?_
    cases hf
    exact g_iret F rfl ⟨rfl, rfl⟩ dX9_word_77
  replace hf := gi_f hc_3 hf
  by_cases hc_4 : x2 = 3
  · replace hf := gi_t hc_4 hf
    refine g_tabIn F 78 3 hc_4 dX9_word_6 (by decide) (by decide) rfl (by decide) ?_
    refine g_aload_n F dX9_word_78 rfl ?_
    refine g_get (C := RX9) (T := TX9) (N := 10) F 0 0 3 rfl rfl rfl iX9_word_X9 (by decide) (by decide +kernel) rfl dX9_word_79 ?_
    refine g_aload_n F dX9_word_82 rfl ?_
    refine g_get (C := RX9) (T := TX9) (N := 10) F 0 0 3 rfl rfl rfl iX9_word_X9 (by decide) (by decide +kernel) rfl dX9_word_83 ?_
    refine g_get (C := RX1) (T := TX1) (N := 8) F 1 0 4 rfl rfl rfl iX9_word_X1 (by decide) (by decide +kernel) rfl dX9_word_86 ?_
    refine g_get (C := RX8) (T := TX8) (N := 5) F 3 0 3 rfl rfl rfl iX9_word_X8 (by decide) (by decide +kernel) rfl dX9_word_89 ?_
    refine g_iload_n F dX9_word_92 rfl ?_
    obtain ⟨hb_4, hf⟩ := gb_in hf
    refine g_iald F 3 3 (x1.toNatClampNeg) rfl rfl rfl hb_4 dX9_word_93 ?_
    obtain ⟨r_2, hg_3, hf⟩ := gb1_el hf
    refine g_callV (C := RX1) (T := TX1) (N := 8) (Lr := [sPD E aD abuffer aB aPr aC2 aV aHs aSl afilled D_buffered D_lastErrorAt, sWords E aW W]) (As := [.int (W.2.2.2.1 (x1.toNatClampNeg))]) (rest := []) F 1 0 1 (ctX1_depositsFor l E aB asettings asums aU aP aW (W.2.2.2.1 (x1.toNatClampNeg)) B_time B_chest B_fund settings r_2 hg_3) gX9_word_X1_depositsFor rfl rfl rfl h0X1_depositsFor ⟨Nat.le_of_ble_eq_true rfl, Nat.le_of_ble_eq_true rfl⟩ rfl rfl rfl [1, 2] [0, 3] rfl rfl rfl rfl rfl rfl (Nat.le_of_ble_eq_true rfl) dX9_word_94 ⟨(Nat.le_of_ble_eq_true rfl), (Nat.le_of_ble_eq_true rfl)⟩ ?_
    rintro v w ⟨rfl, rfl⟩
    refine g_norm (Lw' := [sPD E aD abuffer aB aPr aC2 aV aHs aSl afilled D_buffered D_lastErrorAt, sBook E aB asettings asums aU aP aW B_time B_chest B_fund, sArrI E asettings 5 settings, sWords E aW W]) (st' := [.int r_2]) (pc' := 97) [2, 0, 1, 3] rfl rfl rfl rfl ?_
    cases hf
    exact g_iret F rfl ⟨rfl, rfl⟩ dX9_word_97
  replace hf := gi_f hc_4 hf
  refine g_tabOut F 98 dX9_word_6 (gtl_3 hc_1 hc_2 hc_3 hc_4) (by decide) ?_
  cases hf
set_option maxHeartbeats 4000000 in
set_option maxRecDepth 100000 in
theorem ctX9_wordLetter (l : Launch) (E : gE) (aD abuffer aB aPr aC2 aV aHs aSl afilled asettings asums aU aP aW : Nat → Nat) (x1 : Int32) (x2 : Int32) (D_buffered : Int32) (D_lastErrorAt : Int32) (B_time : Int32) (B_chest : Int32) (B_fund : Int32) (P : tPieces) (W : tWords) (r : Int32) (hf : fX9_wordLetter x1 x2 P W = some r) : gMet l yX9_wordLetter wsX9_wordLetter rmX9_wordLetter vwCl E [.ref (aD 0), .int x1, .int x2] [sPD E aD abuffer aB aPr aC2 aV aHs aSl afilled D_buffered D_lastErrorAt, sBook E aB asettings asums aU aP aW B_time B_chest B_fund, sPieces E aP P, sWords E aW W] (fun v w => v = some (.int r) ∧ w = [sPD E aD abuffer aB aPr aC2 aV aHs aSl afilled D_buffered D_lastErrorAt, sBook E aB asettings asums aU aP aW B_time B_chest B_fund, sPieces E aP P, sWords E aW W]) 0 0 := by
  refine g_entry [some (.ref (aD 0)), some (.int x1), some (.int x2)] (by decide) rfl (Nat.le_of_ble_eq_true rfl) rfl ?_
  intro p e s m below meth c A F hnm
  unfold fX9_wordLetter at hf
  refine g_aload_n F dX9_wordLetter_0 rfl ?_
  refine g_iload_n F dX9_wordLetter_1 rfl ?_
  obtain ⟨hg_1, hf⟩ := gb0_el hf
  refine g_callV (C := RX9) (T := TX9) (N := 10) (Lr := [sPieces E aP P]) (As := [.int x1]) (rest := []) F 0 0 1 (ctX9_requireWord l E aD abuffer aB aPr aC2 aV aHs aSl afilled asettings asums aU aP aW x1 D_buffered D_lastErrorAt B_time B_chest B_fund W hg_1) gX9_wordLetter_X9_requireWord rfl rfl rfl h0X9_requireWord ⟨Nat.le_of_ble_eq_true rfl, Nat.le_of_ble_eq_true rfl⟩ rfl rfl rfl [0, 1, 3] [2] rfl rfl rfl rfl rfl rfl (Nat.le_of_ble_eq_true rfl) dX9_wordLetter_2 ⟨(Nat.le_of_ble_eq_true rfl), (Nat.le_of_ble_eq_true rfl)⟩ ?_
  rintro v w ⟨rfl, rfl⟩
  refine g_norm (Lw' := [sPD E aD abuffer aB aPr aC2 aV aHs aSl afilled D_buffered D_lastErrorAt, sBook E aB asettings asums aU aP aW B_time B_chest B_fund, sPieces E aP P, sWords E aW W]) (st' := []) (pc' := 5) [0, 1, 3, 2] rfl rfl rfl rfl ?_
  refine g_aload_n F dX9_wordLetter_5 rfl ?_
  refine g_get (C := RX9) (T := TX9) (N := 10) F 0 0 3 rfl rfl rfl iX9_wordLetter_X9 (by decide) (by decide +kernel) rfl dX9_wordLetter_6 ?_
  refine g_iload_n F dX9_wordLetter_9 rfl ?_
  obtain ⟨r_1, hg_2, hf⟩ := gb1_el hf
  refine g_callV (C := RX1) (T := TX1) (N := 8) (Lr := [sPD E aD abuffer aB aPr aC2 aV aHs aSl afilled D_buffered D_lastErrorAt]) (As := [.int x1]) (rest := []) F 1 0 1 (ctX1_madeUp l E aB asettings asums aU aP aW x1 B_time B_chest B_fund P W r_1 hg_2) gX9_wordLetter_X1_madeUp rfl rfl rfl h0X1_madeUp ⟨Nat.le_of_ble_eq_true rfl, Nat.le_of_ble_eq_true rfl⟩ rfl rfl rfl [1, 2, 3] [0] rfl rfl rfl rfl rfl rfl (Nat.le_of_ble_eq_true rfl) dX9_wordLetter_10 ⟨(Nat.le_of_ble_eq_true rfl), (Nat.le_of_ble_eq_true rfl)⟩ ?_
  rintro v w ⟨rfl, rfl⟩
  refine g_norm (Lw' := [sPD E aD abuffer aB aPr aC2 aV aHs aSl afilled D_buffered D_lastErrorAt, sBook E aB asettings asums aU aP aW B_time B_chest B_fund, sPieces E aP P, sWords E aW W]) (st' := [.long r_1]) (pc' := 13) [3, 0, 1, 2] rfl rfl rfl rfl ?_
  refine g_iload_n F dX9_wordLetter_13 rfl ?_
  obtain ⟨r_2, hg_3, hf⟩ := gb1_el hf
  refine g_callS (Lr := [sPD E aD abuffer aB aPr aC2 aV aHs aSl afilled D_buffered D_lastErrorAt, sBook E aB asettings asums aU aP aW B_time B_chest B_fund, sPieces E aP P, sWords E aW W]) (As := [.long r_1, .int x2]) (rest := []) F 2 (ctX4_letterAt l E r_1 x2 r_2 hg_3) (va_cwS 2 F.2.2.2.2.2.1 gX9_wordLetter_X4_letterAt rfl rfl rfl h0X4_letterAt ⟨Nat.le_of_ble_eq_true rfl, Nat.le_of_ble_eq_true rfl⟩) [] [0, 1, 2, 3] rfl rfl rfl rfl rfl rfl (Nat.le_of_ble_eq_true rfl) dX9_wordLetter_14 ⟨(Nat.le_of_ble_eq_true rfl), (Nat.le_of_ble_eq_true rfl)⟩ ?_
  rintro v w ⟨rfl, rfl⟩
  refine g_norm (Lw' := [sPD E aD abuffer aB aPr aC2 aV aHs aSl afilled D_buffered D_lastErrorAt, sBook E aB asettings asums aU aP aW B_time B_chest B_fund, sPieces E aP P, sWords E aW W]) (st' := [.int r_2]) (pc' := 17) [0, 1, 2, 3] rfl rfl rfl rfl ?_
  cases hf
  exact g_iret F rfl ⟨rfl, rfl⟩ dX9_wordLetter_17
set_option maxHeartbeats 4000000 in
set_option maxRecDepth 100000 in
theorem ctX9_part (l : Launch) (E : gE) (aD abuffer aB aPr aC2 aV aHs aSl afilled asettings asums aU aP aW : Nat → Nat) (x1 : Int32) (x2 : Int32) (D_buffered : Int32) (D_lastErrorAt : Int32) (B_time : Int32) (B_chest : Int32) (B_fund : Int32) (W : tWords) (r : Int32) (hf : fX9_part x1 x2 W = some r) : gMet l yX9_part wsX9_part rmX9_part vwCl E [.ref (aD 0), .int x1, .int x2] [sPD E aD abuffer aB aPr aC2 aV aHs aSl afilled D_buffered D_lastErrorAt, sBook E aB asettings asums aU aP aW B_time B_chest B_fund, sWords E aW W] (fun v w => v = some (.int r) ∧ w = [sPD E aD abuffer aB aPr aC2 aV aHs aSl afilled D_buffered D_lastErrorAt, sBook E aB asettings asums aU aP aW B_time B_chest B_fund, sWords E aW W]) 0 0 := by
  refine g_entry [some (.ref (aD 0)), some (.int x1), some (.int x2)] (by decide) rfl (Nat.le_of_ble_eq_true rfl) rfl ?_
  intro p e s m below meth c A F hnm
  unfold fX9_part at hf
  refine g_aload_n F dX9_part_0 rfl ?_
  refine g_iload_n F dX9_part_1 rfl ?_
  obtain ⟨hg_1, hf⟩ := gb0_el hf
  refine g_callV (C := RX9) (T := TX9) (N := 10) (Lr := []) (As := [.int x1]) (rest := []) F 0 0 1 (ctX9_requireWord l E aD abuffer aB aPr aC2 aV aHs aSl afilled asettings asums aU aP aW x1 D_buffered D_lastErrorAt B_time B_chest B_fund W hg_1) gX9_part_X9_requireWord rfl rfl rfl h0X9_requireWord ⟨Nat.le_of_ble_eq_true rfl, Nat.le_of_ble_eq_true rfl⟩ rfl rfl rfl [0, 1, 2] [] rfl rfl rfl rfl rfl rfl (Nat.le_of_ble_eq_true rfl) dX9_part_2 ⟨(Nat.le_of_ble_eq_true rfl), (Nat.le_of_ble_eq_true rfl)⟩ ?_
  rintro v w ⟨rfl, rfl⟩
  refine g_norm (Lw' := [sPD E aD abuffer aB aPr aC2 aV aHs aSl afilled D_buffered D_lastErrorAt, sBook E aB asettings asums aU aP aW B_time B_chest B_fund, sWords E aW W]) (st' := []) (pc' := 5) [0, 1, 2] rfl rfl rfl rfl ?_
  refine g_aload_n F dX9_part_5 rfl ?_
  refine g_get (C := RX9) (T := TX9) (N := 10) F 0 0 3 rfl rfl rfl iX9_part_X9 (by decide) (by decide +kernel) rfl dX9_part_6 ?_
  refine g_get (C := RX1) (T := TX1) (N := 8) F 1 0 4 rfl rfl rfl iX9_part_X1 (by decide) (by decide +kernel) rfl dX9_part_9 ?_
  refine g_iload_n F dX9_part_12 rfl ?_
  refine g_iload_n F dX9_part_13 rfl ?_
  obtain ⟨r_1, hg_2, hf⟩ := gb1_el hf
  refine g_callV (C := RX8) (T := TX8) (N := 5) (Lr := [sPD E aD abuffer aB aPr aC2 aV aHs aSl afilled D_buffered D_lastErrorAt, sBook E aB asettings asums aU aP aW B_time B_chest B_fund]) (As := [.int x1, .int x2]) (rest := []) F 2 0 2 (ctX8_partAt l E aW x1 x2 W r_1 hg_2) gX9_part_X8_partAt rfl rfl rfl h0X8_partAt ⟨Nat.le_of_ble_eq_true rfl, Nat.le_of_ble_eq_true rfl⟩ rfl rfl rfl [2] [0, 1] rfl rfl rfl rfl rfl rfl (Nat.le_of_ble_eq_true rfl) dX9_part_14 ⟨(Nat.le_of_ble_eq_true rfl), (Nat.le_of_ble_eq_true rfl)⟩ ?_
  rintro v w ⟨rfl, rfl⟩
  refine g_norm (Lw' := [sPD E aD abuffer aB aPr aC2 aV aHs aSl afilled D_buffered D_lastErrorAt, sBook E aB asettings asums aU aP aW B_time B_chest B_fund, sWords E aW W]) (st' := [.int r_1]) (pc' := 17) [1, 2, 0] rfl rfl rfl rfl ?_
  cases hf
  exact g_iret F rfl ⟨rfl, rfl⟩ dX9_part_17
set_option maxHeartbeats 4000000 in
set_option maxRecDepth 100000 in
theorem ctX9_quote (l : Launch) (E : gE) (aD abuffer aB aPr aC2 aV aHs aSl afilled asettings asums aU aP aW aS2 : Nat → Nat) (x1 : Int32) (D_buffered : Int32) (D_lastErrorAt : Int32) (buffer : (Nat → Int32)) (B_time : Int32) (B_chest : Int32) (B_fund : Int32) (settings : (Nat → Int32)) (P : tPieces) (C2 : tCut) (S2 : tCutR) (r : Int32) (D_buffered' : Int32) (C2' : tCut) (S2' : tCutR) (hf : fX9_quote x1 D_buffered buffer settings P C2 S2 = some (r, D_buffered', C2', S2')) : gMet l yX9_quote wsX9_quote rmX9_quote vwCl E [.ref (aD 0), .int x1] [sPD E aD abuffer aB aPr aC2 aV aHs aSl afilled D_buffered D_lastErrorAt, sArrB E abuffer 600 buffer, sBook E aB asettings asums aU aP aW B_time B_chest B_fund, sArrI E asettings 5 settings, sPieces E aP P, sCut E aC2 aS2 C2, sCutR E aS2 S2] (fun v w => v = some (.int r) ∧ w = [sPD E aD abuffer aB aPr aC2 aV aHs aSl afilled D_buffered' D_lastErrorAt, sArrB E abuffer 600 buffer, sBook E aB asettings asums aU aP aW B_time B_chest B_fund, sArrI E asettings 5 settings, sPieces E aP P, sCut E aC2 aS2 C2', sCutR E aS2 S2']) 0 0 := by
  refine g_entry [some (.ref (aD 0)), some (.int x1), none, none] (by decide) rfl (Nat.le_of_ble_eq_true rfl) rfl ?_
  intro p e s m below meth c A F hnm
  unfold fX9_quote at hf
  refine g_aload_n F dX9_quote_0 rfl ?_
  obtain ⟨r_1, D_buffered_1, hg_1, hf⟩ := gb2_el hf
  refine g_callV (C := RX9) (T := TX9) (N := 10) (Lr := [sBook E aB asettings asums aU aP aW B_time B_chest B_fund, sArrI E asettings 5 settings, sPieces E aP P, sCut E aC2 aS2 C2, sCutR E aS2 S2]) (As := []) (rest := []) F 0 0 0 (ctX9_takeWord l E aD abuffer aB aPr aC2 aV aHs aSl afilled D_buffered D_lastErrorAt buffer r_1 D_buffered_1 hg_1) gX9_quote_X9_takeWord rfl rfl rfl h0X9_takeWord ⟨Nat.le_of_ble_eq_true rfl, Nat.le_of_ble_eq_true rfl⟩ rfl rfl rfl [0, 1] [2, 3, 4, 5, 6] rfl rfl rfl rfl rfl rfl (Nat.le_of_ble_eq_true rfl) dX9_quote_1 ⟨(Nat.le_of_ble_eq_true rfl), (Nat.le_of_ble_eq_true rfl)⟩ ?_
  rintro v w ⟨rfl, rfl⟩
  refine g_norm (Lw' := [sPD E aD abuffer aB aPr aC2 aV aHs aSl afilled D_buffered_1 D_lastErrorAt, sArrB E abuffer 600 buffer, sBook E aB asettings asums aU aP aW B_time B_chest B_fund, sArrI E asettings 5 settings, sPieces E aP P, sCut E aC2 aS2 C2, sCutR E aS2 S2]) (st' := [.long r_1]) (pc' := 4) [0, 1, 2, 3, 4, 5, 6] rfl rfl rfl rfl ?_
  refine g_lstore_n (lv' := [some (.ref (aD 0)), some (.int x1), some (.long r_1), none]) F dX9_quote_4 (Nat.le_of_ble_eq_true rfl) rfl rfl ?_
  refine g_aload_n F dX9_quote_5 rfl ?_
  refine g_iload_n F dX9_quote_6 rfl ?_
  refine g_iconst F 5 dX9_quote_7 rfl ?_
  obtain ⟨hg_2, hf⟩ := gb0_el hf
  refine g_callV (C := RX9) (T := TX9) (N := 10) (Lr := [sPD E aD abuffer aB aPr aC2 aV aHs aSl afilled D_buffered_1 D_lastErrorAt, sArrB E abuffer 600 buffer, sBook E aB asettings asums aU aP aW B_time B_chest B_fund, sArrI E asettings 5 settings, sPieces E aP P, sCut E aC2 aS2 C2, sCutR E aS2 S2]) (As := [.int x1, .int 5]) (rest := []) F 0 0 2 (ctX9_requireBelow l E aD x1 5 hg_2) gX9_quote_X9_requireBelow rfl rfl rfl h0X9_requireBelow ⟨Nat.le_of_ble_eq_true rfl, Nat.le_of_ble_eq_true rfl⟩ rfl rfl rfl [] [0, 1, 2, 3, 4, 5, 6] rfl rfl rfl rfl rfl rfl (Nat.le_of_ble_eq_true rfl) dX9_quote_8 ⟨(Nat.le_of_ble_eq_true rfl), (Nat.le_of_ble_eq_true rfl)⟩ ?_
  rintro v w ⟨rfl, rfl⟩
  refine g_norm (Lw' := [sPD E aD abuffer aB aPr aC2 aV aHs aSl afilled D_buffered_1 D_lastErrorAt, sArrB E abuffer 600 buffer, sBook E aB asettings asums aU aP aW B_time B_chest B_fund, sArrI E asettings 5 settings, sPieces E aP P, sCut E aC2 aS2 C2, sCutR E aS2 S2]) (st' := []) (pc' := 11) [0, 1, 2, 3, 4, 5, 6] rfl rfl rfl rfl ?_
  refine g_lload_n F dX9_quote_11 rfl ?_
  refine g_lconst F 0 dX9_quote_12 rfl ?_
  refine g_lcmp F dX9_quote_13 ?_
  refine g_ifne F 19 dX9_quote_14 (by decide) (fun hc_5 => ?_) (fun hc_5 => ?_)
  · replace hf := gi_f hc_5 hf
    refine g_aload_n F dX9_quote_19 rfl ?_
    refine g_get (C := RX9) (T := TX9) (N := 10) F 0 0 5 rfl rfl rfl iX9_quote_X9 (by decide) (by decide +kernel) rfl dX9_quote_20 ?_
    refine g_aload_n F dX9_quote_23 rfl ?_
    refine g_get (C := RX9) (T := TX9) (N := 10) F 0 0 3 rfl rfl rfl iX9_quote_X9 (by decide) (by decide +kernel) rfl dX9_quote_24 ?_
    refine g_lload_n F dX9_quote_27 rfl ?_
    obtain ⟨C2_1, S2_1, hg_3, hf⟩ := gb2_el hf
    refine g_callV (C := RX2) (T := TX2) (N := 12) (Lr := [sPD E aD abuffer aB aPr aC2 aV aHs aSl afilled D_buffered_1 D_lastErrorAt, sArrB E abuffer 600 buffer]) (As := [.ref (aB 0), .long r_1]) (rest := []) F 5 0 2 (ctX2_cutCheapest l E aC2 aS2 aB asettings asums aU aP aW r_1 C2 S2 B_time B_chest B_fund settings P C2_1 S2_1 hg_3) gX9_quote_X2_cutCheapest rfl rfl rfl h0X2_cutCheapest ⟨Nat.le_of_ble_eq_true rfl, Nat.le_of_ble_eq_true rfl⟩ rfl rfl rfl [5, 6, 2, 3, 4] [0, 1] rfl rfl rfl rfl rfl rfl (Nat.le_of_ble_eq_true rfl) dX9_quote_28 ⟨(Nat.le_of_ble_eq_true rfl), (Nat.le_of_ble_eq_true rfl)⟩ ?_
    rintro v w ⟨rfl, rfl⟩
    refine g_norm (Lw' := [sPD E aD abuffer aB aPr aC2 aV aHs aSl afilled D_buffered_1 D_lastErrorAt, sArrB E abuffer 600 buffer, sBook E aB asettings asums aU aP aW B_time B_chest B_fund, sArrI E asettings 5 settings, sPieces E aP P, sCut E aC2 aS2 C2_1, sCutR E aS2 S2_1]) (st' := []) (pc' := 31) [5, 6, 2, 3, 4, 0, 1] rfl rfl rfl rfl ?_
    refine g_iload_n F dX9_quote_31 rfl ?_
    by_cases hc_1 : x1 = 0
    · replace hf := gi_t hc_1 hf
      refine g_tabIn F 64 0 hc_1 dX9_quote_32 (by decide) (by decide) rfl (by decide) ?_
      refine g_aload_n F dX9_quote_64 rfl ?_
      refine g_get (C := RX9) (T := TX9) (N := 10) F 0 0 3 rfl rfl rfl iX9_quote_X9 (by decide) (by decide +kernel) rfl dX9_quote_65 ?_
      refine g_aload_n F dX9_quote_68 rfl ?_
      refine g_get (C := RX9) (T := TX9) (N := 10) F 0 0 5 rfl rfl rfl iX9_quote_X9 (by decide) (by decide +kernel) rfl dX9_quote_69 ?_
      obtain ⟨r_2, hg_4, hf⟩ := gb1_el hf
      refine g_callV (C := RX1) (T := TX1) (N := 8) (Lr := [sPD E aD abuffer aB aPr aC2 aV aHs aSl afilled D_buffered_1 D_lastErrorAt, sArrB E abuffer 600 buffer, sPieces E aP P, sCutR E aS2 S2_1]) (As := [.ref (aC2 0)]) (rest := []) F 2 0 1 (ctX1_costOf l E aB asettings asums aU aP aW aC2 aS2 B_time B_chest B_fund settings C2_1 r_2 hg_4) gX9_quote_X1_costOf rfl rfl rfl h0X1_costOf ⟨Nat.le_of_ble_eq_true rfl, Nat.le_of_ble_eq_true rfl⟩ rfl rfl rfl [2, 3, 5] [0, 1, 4, 6] rfl rfl rfl rfl rfl rfl (Nat.le_of_ble_eq_true rfl) dX9_quote_72 ⟨(Nat.le_of_ble_eq_true rfl), (Nat.le_of_ble_eq_true rfl)⟩ ?_
      rintro v w ⟨rfl, rfl⟩
      refine g_norm (Lw' := [sPD E aD abuffer aB aPr aC2 aV aHs aSl afilled D_buffered_1 D_lastErrorAt, sArrB E abuffer 600 buffer, sBook E aB asettings asums aU aP aW B_time B_chest B_fund, sArrI E asettings 5 settings, sPieces E aP P, sCut E aC2 aS2 C2_1, sCutR E aS2 S2_1]) (st' := [.int r_2]) (pc' := 75) [3, 4, 0, 1, 5, 2, 6] rfl rfl rfl rfl ?_
      cases hf
      exact g_iret F rfl ⟨rfl, rfl⟩ dX9_quote_75
    replace hf := gi_f hc_1 hf
    by_cases hc_2 : x1 = 1
    · replace hf := gi_t hc_2 hf
      refine g_tabIn F 76 1 hc_2 dX9_quote_32 (by decide) (by decide) rfl (by decide) ?_
      refine g_aload_n F dX9_quote_76 rfl ?_
      refine g_get (C := RX9) (T := TX9) (N := 10) F 0 0 3 rfl rfl rfl iX9_quote_X9 (by decide) (by decide +kernel) rfl dX9_quote_77 ?_
      refine g_aload_n F dX9_quote_80 rfl ?_
      refine g_get (C := RX9) (T := TX9) (N := 10) F 0 0 5 rfl rfl rfl iX9_quote_X9 (by decide) (by decide +kernel) rfl dX9_quote_81 ?_
      refine g_get (C := RX2) (T := TX2) (N := 12) F 5 0 0 rfl rfl rfl iX9_quote_X2 (by decide) (by decide +kernel) rfl dX9_quote_84 ?_
      obtain ⟨r_3, hg_5, hf⟩ := gb1_el hf
      refine g_callV (C := RX1) (T := TX1) (N := 8) (Lr := [sPD E aD abuffer aB aPr aC2 aV aHs aSl afilled D_buffered_1 D_lastErrorAt, sArrB E abuffer 600 buffer, sPieces E aP P, sCut E aC2 aS2 C2_1, sCutR E aS2 S2_1]) (As := [.int C2_1.1]) (rest := []) F 2 0 1 (ctX1_depositsFor l E aB asettings asums aU aP aW C2_1.1 B_time B_chest B_fund settings r_3 hg_5) gX9_quote_X1_depositsFor rfl rfl rfl h0X1_depositsFor ⟨Nat.le_of_ble_eq_true rfl, Nat.le_of_ble_eq_true rfl⟩ rfl rfl rfl [2, 3] [0, 1, 4, 5, 6] rfl rfl rfl rfl rfl rfl (Nat.le_of_ble_eq_true rfl) dX9_quote_87 ⟨(Nat.le_of_ble_eq_true rfl), (Nat.le_of_ble_eq_true rfl)⟩ ?_
      rintro v w ⟨rfl, rfl⟩
      refine g_norm (Lw' := [sPD E aD abuffer aB aPr aC2 aV aHs aSl afilled D_buffered_1 D_lastErrorAt, sArrB E abuffer 600 buffer, sBook E aB asettings asums aU aP aW B_time B_chest B_fund, sArrI E asettings 5 settings, sPieces E aP P, sCut E aC2 aS2 C2_1, sCutR E aS2 S2_1]) (st' := [.int r_3]) (pc' := 90) [2, 3, 0, 1, 4, 5, 6] rfl rfl rfl rfl ?_
      cases hf
      exact g_iret F rfl ⟨rfl, rfl⟩ dX9_quote_90
    replace hf := gi_f hc_2 hf
    by_cases hc_3 : x1 = 2
    · replace hf := gi_t hc_3 hf
      refine g_tabIn F 91 2 hc_3 dX9_quote_32 (by decide) (by decide) rfl (by decide) ?_
      refine g_aload_n F dX9_quote_91 rfl ?_
      refine g_get (C := RX9) (T := TX9) (N := 10) F 0 0 5 rfl rfl rfl iX9_quote_X9 (by decide) (by decide +kernel) rfl dX9_quote_92 ?_
      refine g_get (C := RX2) (T := TX2) (N := 12) F 5 0 3 rfl rfl rfl iX9_quote_X2 (by decide) (by decide +kernel) rfl dX9_quote_95 ?_
      cases hf
      exact g_iret F rfl ⟨rfl, rfl⟩ dX9_quote_98
    replace hf := gi_f hc_3 hf
    by_cases hc_4 : x1 = 3
    · replace hf := gi_t hc_4 hf
      refine g_tabIn F 99 3 hc_4 dX9_quote_32 (by decide) (by decide) rfl (by decide) ?_
      refine g_aload_n F dX9_quote_99 rfl ?_
      refine g_get (C := RX9) (T := TX9) (N := 10) F 0 0 5 rfl rfl rfl iX9_quote_X9 (by decide) (by decide +kernel) rfl dX9_quote_100 ?_
      refine g_get (C := RX2) (T := TX2) (N := 12) F 5 0 0 rfl rfl rfl iX9_quote_X2 (by decide) (by decide +kernel) rfl dX9_quote_103 ?_
      cases hf
      exact g_iret F rfl ⟨rfl, rfl⟩ dX9_quote_106
    replace hf := gi_f hc_4 hf
    refine g_tabOut F 107 dX9_quote_32 (gtl_3 hc_1 hc_2 hc_3 hc_4) (by decide) ?_
    refine g_aload_n F dX9_quote_107 rfl ?_
    refine g_get (C := RX9) (T := TX9) (N := 10) F 0 0 5 rfl rfl rfl iX9_quote_X9 (by decide) (by decide +kernel) rfl dX9_quote_108 ?_
    refine g_get (C := RX2) (T := TX2) (N := 12) F 5 0 2 rfl rfl rfl iX9_quote_X2 (by decide) (by decide +kernel) rfl dX9_quote_111 ?_
    cases hf
    exact g_iret F rfl ⟨rfl, rfl⟩ dX9_quote_114
  · replace hf := gi_t hc_5 hf
    refine g_iconst F (-1) dX9_quote_17 rfl ?_
    cases hf
    exact g_iret F rfl ⟨rfl, rfl⟩ dX9_quote_18
set_option maxHeartbeats 4000000 in
set_option maxRecDepth 100000 in
theorem ctX9_whyNotStore (l : Launch) (E : gE) (aD abuffer aB aPr aC2 aV aHs aSl afilled asettings asums aU aP aW aS2 : Nat → Nat) (x1 : Int32) (D_buffered : Int32) (D_lastErrorAt : Int32) (buffer : (Nat → Int32)) (B_time : Int32) (B_chest : Int32) (B_fund : Int32) (settings : (Nat → Int32)) (U : tUsers) (P : tPieces) (W : tWords) (C2 : tCut) (S2 : tCutR) (r : Int32) (D_buffered' : Int32) (C2' : tCut) (S2' : tCutR) (hf : fX9_whyNotStore x1 D_buffered buffer settings U P W C2 S2 = some (r, D_buffered', C2', S2')) : gMet l yX9_whyNotStore wsX9_whyNotStore rmX9_whyNotStore vwCl E [.ref (aD 0), .int x1] [sPD E aD abuffer aB aPr aC2 aV aHs aSl afilled D_buffered D_lastErrorAt, sArrB E abuffer 600 buffer, sBook E aB asettings asums aU aP aW B_time B_chest B_fund, sArrI E asettings 5 settings, sUsers E aU U, sPieces E aP P, sWords E aW W, sCut E aC2 aS2 C2, sCutR E aS2 S2] (fun v w => v = some (.int r) ∧ w = [sPD E aD abuffer aB aPr aC2 aV aHs aSl afilled D_buffered' D_lastErrorAt, sArrB E abuffer 600 buffer, sBook E aB asettings asums aU aP aW B_time B_chest B_fund, sArrI E asettings 5 settings, sUsers E aU U, sPieces E aP P, sWords E aW W, sCut E aC2 aS2 C2', sCutR E aS2 S2']) 0 0 := by
  refine g_entry [some (.ref (aD 0)), some (.int x1), none, none] (by decide) rfl (Nat.le_of_ble_eq_true rfl) rfl ?_
  intro p e s m below meth c A F hnm
  unfold fX9_whyNotStore at hf
  refine g_aload_n F dX9_whyNotStore_0 rfl ?_
  obtain ⟨r_1, D_buffered_1, hg_1, hf⟩ := gb2_el hf
  refine g_callV (C := RX9) (T := TX9) (N := 10) (Lr := [sBook E aB asettings asums aU aP aW B_time B_chest B_fund, sArrI E asettings 5 settings, sUsers E aU U, sPieces E aP P, sWords E aW W, sCut E aC2 aS2 C2, sCutR E aS2 S2]) (As := []) (rest := []) F 0 0 0 (ctX9_takeWord l E aD abuffer aB aPr aC2 aV aHs aSl afilled D_buffered D_lastErrorAt buffer r_1 D_buffered_1 hg_1) gX9_whyNotStore_X9_takeWord rfl rfl rfl h0X9_takeWord ⟨Nat.le_of_ble_eq_true rfl, Nat.le_of_ble_eq_true rfl⟩ rfl rfl rfl [0, 1] [2, 3, 4, 5, 6, 7, 8] rfl rfl rfl rfl rfl rfl (Nat.le_of_ble_eq_true rfl) dX9_whyNotStore_1 ⟨(Nat.le_of_ble_eq_true rfl), (Nat.le_of_ble_eq_true rfl)⟩ ?_
  rintro v w ⟨rfl, rfl⟩
  refine g_norm (Lw' := [sPD E aD abuffer aB aPr aC2 aV aHs aSl afilled D_buffered_1 D_lastErrorAt, sArrB E abuffer 600 buffer, sBook E aB asettings asums aU aP aW B_time B_chest B_fund, sArrI E asettings 5 settings, sUsers E aU U, sPieces E aP P, sWords E aW W, sCut E aC2 aS2 C2, sCutR E aS2 S2]) (st' := [.long r_1]) (pc' := 4) [0, 1, 2, 3, 4, 5, 6, 7, 8] rfl rfl rfl rfl ?_
  refine g_lstore_n (lv' := [some (.ref (aD 0)), some (.int x1), some (.long r_1), none]) F dX9_whyNotStore_4 (Nat.le_of_ble_eq_true rfl) rfl rfl ?_
  refine g_aload_n F dX9_whyNotStore_5 rfl ?_
  refine g_iload_n F dX9_whyNotStore_6 rfl ?_
  obtain ⟨hg_2, hf⟩ := gb0_el hf
  refine g_callV (C := RX9) (T := TX9) (N := 10) (Lr := [sArrB E abuffer 600 buffer, sArrI E asettings 5 settings, sPieces E aP P, sWords E aW W, sCut E aC2 aS2 C2, sCutR E aS2 S2]) (As := [.int x1]) (rest := []) F 0 0 1 (ctX9_requireUser l E aD abuffer aB aPr aC2 aV aHs aSl afilled asettings asums aU aP aW x1 D_buffered_1 D_lastErrorAt B_time B_chest B_fund U hg_2) gX9_whyNotStore_X9_requireUser rfl rfl rfl h0X9_requireUser ⟨Nat.le_of_ble_eq_true rfl, Nat.le_of_ble_eq_true rfl⟩ rfl rfl rfl [0, 2, 4] [1, 3, 5, 6, 7, 8] rfl rfl rfl rfl rfl rfl (Nat.le_of_ble_eq_true rfl) dX9_whyNotStore_7 ⟨(Nat.le_of_ble_eq_true rfl), (Nat.le_of_ble_eq_true rfl)⟩ ?_
  rintro v w ⟨rfl, rfl⟩
  refine g_norm (Lw' := [sPD E aD abuffer aB aPr aC2 aV aHs aSl afilled D_buffered_1 D_lastErrorAt, sArrB E abuffer 600 buffer, sBook E aB asettings asums aU aP aW B_time B_chest B_fund, sArrI E asettings 5 settings, sUsers E aU U, sPieces E aP P, sWords E aW W, sCut E aC2 aS2 C2, sCutR E aS2 S2]) (st' := []) (pc' := 10) [0, 3, 1, 4, 2, 5, 6, 7, 8] rfl rfl rfl rfl ?_
  refine g_lload_n F dX9_whyNotStore_10 rfl ?_
  refine g_lconst F 0 dX9_whyNotStore_11 rfl ?_
  refine g_lcmp F dX9_whyNotStore_12 ?_
  refine g_ifne F 18 dX9_whyNotStore_13 (by decide) (fun hc_1 => ?_) (fun hc_1 => ?_)
  · replace hf := gi_f hc_1 hf
    refine g_aload_n F dX9_whyNotStore_18 rfl ?_
    refine g_get (C := RX9) (T := TX9) (N := 10) F 0 0 5 rfl rfl rfl iX9_whyNotStore_X9 (by decide) (by decide +kernel) rfl dX9_whyNotStore_19 ?_
    refine g_aload_n F dX9_whyNotStore_22 rfl ?_
    refine g_get (C := RX9) (T := TX9) (N := 10) F 0 0 3 rfl rfl rfl iX9_whyNotStore_X9 (by decide) (by decide +kernel) rfl dX9_whyNotStore_23 ?_
    refine g_lload_n F dX9_whyNotStore_26 rfl ?_
    obtain ⟨C2_1, S2_1, hg_3, hf⟩ := gb2_el hf
    refine g_callV (C := RX2) (T := TX2) (N := 12) (Lr := [sPD E aD abuffer aB aPr aC2 aV aHs aSl afilled D_buffered_1 D_lastErrorAt, sArrB E abuffer 600 buffer, sUsers E aU U, sWords E aW W]) (As := [.ref (aB 0), .long r_1]) (rest := []) F 7 0 2 (ctX2_cutCheapest l E aC2 aS2 aB asettings asums aU aP aW r_1 C2 S2 B_time B_chest B_fund settings P C2_1 S2_1 hg_3) gX9_whyNotStore_X2_cutCheapest rfl rfl rfl h0X2_cutCheapest ⟨Nat.le_of_ble_eq_true rfl, Nat.le_of_ble_eq_true rfl⟩ rfl rfl rfl [7, 8, 2, 3, 5] [0, 1, 4, 6] rfl rfl rfl rfl rfl rfl (Nat.le_of_ble_eq_true rfl) dX9_whyNotStore_27 ⟨(Nat.le_of_ble_eq_true rfl), (Nat.le_of_ble_eq_true rfl)⟩ ?_
    rintro v w ⟨rfl, rfl⟩
    refine g_norm (Lw' := [sPD E aD abuffer aB aPr aC2 aV aHs aSl afilled D_buffered_1 D_lastErrorAt, sArrB E abuffer 600 buffer, sBook E aB asettings asums aU aP aW B_time B_chest B_fund, sArrI E asettings 5 settings, sUsers E aU U, sPieces E aP P, sWords E aW W, sCut E aC2 aS2 C2_1, sCutR E aS2 S2_1]) (st' := []) (pc' := 30) [5, 6, 2, 3, 7, 4, 8, 0, 1] rfl rfl rfl rfl ?_
    refine g_aload_n F dX9_whyNotStore_30 rfl ?_
    refine g_get (C := RX9) (T := TX9) (N := 10) F 0 0 3 rfl rfl rfl iX9_whyNotStore_X9 (by decide) (by decide +kernel) rfl dX9_whyNotStore_31 ?_
    refine g_iload_n F dX9_whyNotStore_34 rfl ?_
    refine g_aload_n F dX9_whyNotStore_35 rfl ?_
    refine g_get (C := RX9) (T := TX9) (N := 10) F 0 0 5 rfl rfl rfl iX9_whyNotStore_X9 (by decide) (by decide +kernel) rfl dX9_whyNotStore_36 ?_
    obtain ⟨r_2, hg_4, hf⟩ := gb1_el hf
    refine g_callV (C := RX1) (T := TX1) (N := 8) (Lr := [sPD E aD abuffer aB aPr aC2 aV aHs aSl afilled D_buffered_1 D_lastErrorAt, sArrB E abuffer 600 buffer, sCutR E aS2 S2_1]) (As := [.int x1, .ref (aC2 0)]) (rest := []) F 2 0 2 (ctX1_refusal l E aB asettings asums aU aP aW aC2 aS2 x1 B_time B_chest B_fund settings U P W C2_1 r_2 hg_4) gX9_whyNotStore_X1_refusal rfl rfl rfl h0X1_refusal ⟨Nat.le_of_ble_eq_true rfl, Nat.le_of_ble_eq_true rfl⟩ rfl rfl rfl [2, 3, 4, 5, 6, 7] [0, 1, 8] rfl rfl rfl rfl rfl rfl (Nat.le_of_ble_eq_true rfl) dX9_whyNotStore_39 ⟨(Nat.le_of_ble_eq_true rfl), (Nat.le_of_ble_eq_true rfl)⟩ ?_
    rintro v w ⟨rfl, rfl⟩
    refine g_norm (Lw' := [sPD E aD abuffer aB aPr aC2 aV aHs aSl afilled D_buffered_1 D_lastErrorAt, sArrB E abuffer 600 buffer, sBook E aB asettings asums aU aP aW B_time B_chest B_fund, sArrI E asettings 5 settings, sUsers E aU U, sPieces E aP P, sWords E aW W, sCut E aC2 aS2 C2_1, sCutR E aS2 S2_1]) (st' := [.int r_2]) (pc' := 42) [6, 7, 0, 1, 2, 3, 4, 5, 8] rfl rfl rfl rfl ?_
    cases hf
    exact g_iret F rfl ⟨rfl, rfl⟩ dX9_whyNotStore_42
  · replace hf := gi_t hc_1 hf
    refine g_iconst F 1 dX9_whyNotStore_16 rfl ?_
    cases hf
    exact g_iret F rfl ⟨rfl, rfl⟩ dX9_whyNotStore_17
set_option maxHeartbeats 4000000 in
set_option maxRecDepth 100000 in
theorem ctX9_ways (l : Launch) (E : gE) (aD abuffer aB aPr aC2 aV aHs aSl afilled asettings asums aU aP aW aS2 : Nat → Nat) (x1 : Int32) (D_buffered : Int32) (D_lastErrorAt : Int32) (B_time : Int32) (B_chest : Int32) (B_fund : Int32) (settings : (Nat → Int32)) (P : tPieces) (W : tWords) (C2 : tCut) (S2 : tCutR) (r : Int32) (C2' : tCut) (S2' : tCutR) (hf : fX9_ways x1 settings P W C2 S2 = some (r, C2', S2')) : gMet l yX9_ways wsX9_ways rmX9_ways vwCl E [.ref (aD 0), .int x1] [sPD E aD abuffer aB aPr aC2 aV aHs aSl afilled D_buffered D_lastErrorAt, sBook E aB asettings asums aU aP aW B_time B_chest B_fund, sArrI E asettings 5 settings, sPieces E aP P, sWords E aW W, sCut E aC2 aS2 C2, sCutR E aS2 S2] (fun v w => v = some (.int r) ∧ w = [sPD E aD abuffer aB aPr aC2 aV aHs aSl afilled D_buffered D_lastErrorAt, sBook E aB asettings asums aU aP aW B_time B_chest B_fund, sArrI E asettings 5 settings, sPieces E aP P, sWords E aW W, sCut E aC2 aS2 C2', sCutR E aS2 S2']) 0 0 := by
  refine g_entry [some (.ref (aD 0)), some (.int x1)] (by decide) rfl (Nat.le_of_ble_eq_true rfl) rfl ?_
  intro p e s m below meth c A F hnm
  unfold fX9_ways at hf
  refine g_aload_n F dX9_ways_0 rfl ?_
  refine g_iload_n F dX9_ways_1 rfl ?_
  obtain ⟨hg_1, hf⟩ := gb0_el hf
  refine g_callV (C := RX9) (T := TX9) (N := 10) (Lr := [sArrI E asettings 5 settings, sPieces E aP P, sCut E aC2 aS2 C2, sCutR E aS2 S2]) (As := [.int x1]) (rest := []) F 0 0 1 (ctX9_requireWord l E aD abuffer aB aPr aC2 aV aHs aSl afilled asettings asums aU aP aW x1 D_buffered D_lastErrorAt B_time B_chest B_fund W hg_1) gX9_ways_X9_requireWord rfl rfl rfl h0X9_requireWord ⟨Nat.le_of_ble_eq_true rfl, Nat.le_of_ble_eq_true rfl⟩ rfl rfl rfl [0, 1, 4] [2, 3, 5, 6] rfl rfl rfl rfl rfl rfl (Nat.le_of_ble_eq_true rfl) dX9_ways_2 ⟨(Nat.le_of_ble_eq_true rfl), (Nat.le_of_ble_eq_true rfl)⟩ ?_
  rintro v w ⟨rfl, rfl⟩
  refine g_norm (Lw' := [sPD E aD abuffer aB aPr aC2 aV aHs aSl afilled D_buffered D_lastErrorAt, sBook E aB asettings asums aU aP aW B_time B_chest B_fund, sArrI E asettings 5 settings, sPieces E aP P, sWords E aW W, sCut E aC2 aS2 C2, sCutR E aS2 S2]) (st' := []) (pc' := 5) [0, 1, 3, 4, 2, 5, 6] rfl rfl rfl rfl ?_
  refine g_aload_n F dX9_ways_5 rfl ?_
  refine g_get (C := RX9) (T := TX9) (N := 10) F 0 0 5 rfl rfl rfl iX9_ways_X9 (by decide) (by decide +kernel) rfl dX9_ways_6 ?_
  refine g_aload_n F dX9_ways_9 rfl ?_
  refine g_get (C := RX9) (T := TX9) (N := 10) F 0 0 3 rfl rfl rfl iX9_ways_X9 (by decide) (by decide +kernel) rfl dX9_ways_10 ?_
  refine g_aload_n F dX9_ways_13 rfl ?_
  refine g_get (C := RX9) (T := TX9) (N := 10) F 0 0 3 rfl rfl rfl iX9_ways_X9 (by decide) (by decide +kernel) rfl dX9_ways_14 ?_
  refine g_get (C := RX1) (T := TX1) (N := 8) F 1 0 4 rfl rfl rfl iX9_ways_X1 (by decide) (by decide +kernel) rfl dX9_ways_17 ?_
  refine g_get (C := RX8) (T := TX8) (N := 5) F 4 0 1 rfl rfl rfl iX9_ways_X8 (by decide) (by decide +kernel) rfl dX9_ways_20 ?_
  refine g_iload_n F dX9_ways_23 rfl ?_
  obtain ⟨hb_1, hf⟩ := gb_in hf
  refine g_lald F 4 1 (x1.toNatClampNeg) rfl rfl rfl hb_1 dX9_ways_24 ?_
  obtain ⟨r_1, C2_1, S2_1, hg_2, hf⟩ := gb3_el hf
  refine g_callV (C := RX2) (T := TX2) (N := 12) (Lr := [sPD E aD abuffer aB aPr aC2 aV aHs aSl afilled D_buffered D_lastErrorAt, sWords E aW W]) (As := [.ref (aB 0), .long (W.2.1 (x1.toNatClampNeg))]) (rest := []) F 5 0 2 (ctX2_countWays l E aC2 aS2 aB asettings asums aU aP aW (W.2.1 (x1.toNatClampNeg)) C2 S2 B_time B_chest B_fund settings P r_1 C2_1 S2_1 hg_2) gX9_ways_X2_countWays rfl rfl rfl h0X2_countWays ⟨Nat.le_of_ble_eq_true rfl, Nat.le_of_ble_eq_true rfl⟩ rfl rfl rfl [5, 6, 1, 2, 3] [0, 4] rfl rfl rfl rfl rfl rfl (Nat.le_of_ble_eq_true rfl) dX9_ways_25 ⟨(Nat.le_of_ble_eq_true rfl), (Nat.le_of_ble_eq_true rfl)⟩ ?_
  rintro v w ⟨rfl, rfl⟩
  refine g_norm (Lw' := [sPD E aD abuffer aB aPr aC2 aV aHs aSl afilled D_buffered D_lastErrorAt, sBook E aB asettings asums aU aP aW B_time B_chest B_fund, sArrI E asettings 5 settings, sPieces E aP P, sWords E aW W, sCut E aC2 aS2 C2_1, sCutR E aS2 S2_1]) (st' := [.int r_1]) (pc' := 28) [5, 2, 3, 4, 6, 0, 1] rfl rfl rfl rfl ?_
  cases hf
  exact g_iret F rfl ⟨rfl, rfl⟩ dX9_ways_28
set_option maxHeartbeats 4000000 in
set_option maxRecDepth 100000 in
theorem ctX9_fewestPieces (l : Launch) (E : gE) (aD abuffer aB aPr aC2 aV aHs aSl afilled asettings asums aU aP aW aS2 : Nat → Nat) (x1 : Int32) (D_buffered : Int32) (D_lastErrorAt : Int32) (B_time : Int32) (B_chest : Int32) (B_fund : Int32) (settings : (Nat → Int32)) (P : tPieces) (W : tWords) (C2 : tCut) (S2 : tCutR) (r : Int32) (C2' : tCut) (S2' : tCutR) (hf : fX9_fewestPieces x1 settings P W C2 S2 = some (r, C2', S2')) : gMet l yX9_fewestPieces wsX9_fewestPieces rmX9_fewestPieces vwCl E [.ref (aD 0), .int x1] [sPD E aD abuffer aB aPr aC2 aV aHs aSl afilled D_buffered D_lastErrorAt, sBook E aB asettings asums aU aP aW B_time B_chest B_fund, sArrI E asettings 5 settings, sPieces E aP P, sWords E aW W, sCut E aC2 aS2 C2, sCutR E aS2 S2] (fun v w => v = some (.int r) ∧ w = [sPD E aD abuffer aB aPr aC2 aV aHs aSl afilled D_buffered D_lastErrorAt, sBook E aB asettings asums aU aP aW B_time B_chest B_fund, sArrI E asettings 5 settings, sPieces E aP P, sWords E aW W, sCut E aC2 aS2 C2', sCutR E aS2 S2']) 0 0 := by
  refine g_entry [some (.ref (aD 0)), some (.int x1)] (by decide) rfl (Nat.le_of_ble_eq_true rfl) rfl ?_
  intro p e s m below meth c A F hnm
  unfold fX9_fewestPieces at hf
  refine g_aload_n F dX9_fewestPieces_0 rfl ?_
  refine g_get (C := RX9) (T := TX9) (N := 10) F 0 0 5 rfl rfl rfl iX9_fewestPieces_X9 (by decide) (by decide +kernel) rfl dX9_fewestPieces_1 ?_
  refine g_aload_n F dX9_fewestPieces_4 rfl ?_
  refine g_get (C := RX9) (T := TX9) (N := 10) F 0 0 3 rfl rfl rfl iX9_fewestPieces_X9 (by decide) (by decide +kernel) rfl dX9_fewestPieces_5 ?_
  refine g_aload_n F dX9_fewestPieces_8 rfl ?_
  refine g_get (C := RX9) (T := TX9) (N := 10) F 0 0 3 rfl rfl rfl iX9_fewestPieces_X9 (by decide) (by decide +kernel) rfl dX9_fewestPieces_9 ?_
  refine g_get (C := RX1) (T := TX1) (N := 8) F 1 0 4 rfl rfl rfl iX9_fewestPieces_X1 (by decide) (by decide +kernel) rfl dX9_fewestPieces_12 ?_
  refine g_get (C := RX8) (T := TX8) (N := 5) F 4 0 1 rfl rfl rfl iX9_fewestPieces_X8 (by decide) (by decide +kernel) rfl dX9_fewestPieces_15 ?_
  refine g_iload_n F dX9_fewestPieces_18 rfl ?_
  obtain ⟨hb_1, hf⟩ := gb_in hf
  refine g_lald F 4 1 (x1.toNatClampNeg) rfl rfl rfl hb_1 dX9_fewestPieces_19 ?_
  obtain ⟨C2_1, S2_1, hg_1, hf⟩ := gb2_el hf
  refine g_callV (C := RX2) (T := TX2) (N := 12) (Lr := [sPD E aD abuffer aB aPr aC2 aV aHs aSl afilled D_buffered D_lastErrorAt, sWords E aW W]) (As := [.ref (aB 0), .long (W.2.1 (x1.toNatClampNeg))]) (rest := []) F 5 0 2 (ctX2_cutKnown l E aC2 aS2 aB asettings asums aU aP aW (W.2.1 (x1.toNatClampNeg)) C2 S2 B_time B_chest B_fund settings P C2_1 S2_1 hg_1) gX9_fewestPieces_X2_cutKnown rfl rfl rfl h0X2_cutKnown ⟨Nat.le_of_ble_eq_true rfl, Nat.le_of_ble_eq_true rfl⟩ rfl rfl rfl [5, 6, 1, 2, 3] [0, 4] rfl rfl rfl rfl rfl rfl (Nat.le_of_ble_eq_true rfl) dX9_fewestPieces_20 ⟨(Nat.le_of_ble_eq_true rfl), (Nat.le_of_ble_eq_true rfl)⟩ ?_
  rintro v w ⟨rfl, rfl⟩
  refine g_norm (Lw' := [sPD E aD abuffer aB aPr aC2 aV aHs aSl afilled D_buffered D_lastErrorAt, sBook E aB asettings asums aU aP aW B_time B_chest B_fund, sArrI E asettings 5 settings, sPieces E aP P, sWords E aW W, sCut E aC2 aS2 C2_1, sCutR E aS2 S2_1]) (st' := []) (pc' := 23) [5, 2, 3, 4, 6, 0, 1] rfl rfl rfl rfl ?_
  refine g_aload_n F dX9_fewestPieces_23 rfl ?_
  refine g_get (C := RX9) (T := TX9) (N := 10) F 0 0 5 rfl rfl rfl iX9_fewestPieces_X9 (by decide) (by decide +kernel) rfl dX9_fewestPieces_24 ?_
  refine g_get (C := RX2) (T := TX2) (N := 12) F 5 0 0 rfl rfl rfl iX9_fewestPieces_X2 (by decide) (by decide +kernel) rfl dX9_fewestPieces_27 ?_
  cases hf
  exact g_iret F rfl ⟨rfl, rfl⟩ dX9_fewestPieces_30
set_option maxHeartbeats 4000000 in
set_option maxRecDepth 100000 in
theorem ctX9_fewest (l : Launch) (E : gE) (aD abuffer aB aPr aC2 aV aHs aSl afilled asettings asums aU aP aW aS2 : Nat → Nat) (x1 : Int32) (D_buffered : Int32) (D_lastErrorAt : Int32) (B_time : Int32) (B_chest : Int32) (B_fund : Int32) (settings : (Nat → Int32)) (P : tPieces) (W : tWords) (C2 : tCut) (S2 : tCutR) (r : Int32) (C2' : tCut) (S2' : tCutR) (hf : fX9_fewest x1 settings P W C2 S2 = some (r, C2', S2')) : gMet l yX9_fewest wsX9_fewest rmX9_fewest vwCl E [.ref (aD 0), .int x1] [sPD E aD abuffer aB aPr aC2 aV aHs aSl afilled D_buffered D_lastErrorAt, sBook E aB asettings asums aU aP aW B_time B_chest B_fund, sArrI E asettings 5 settings, sPieces E aP P, sWords E aW W, sCut E aC2 aS2 C2, sCutR E aS2 S2] (fun v w => v = some (.int r) ∧ w = [sPD E aD abuffer aB aPr aC2 aV aHs aSl afilled D_buffered D_lastErrorAt, sBook E aB asettings asums aU aP aW B_time B_chest B_fund, sArrI E asettings 5 settings, sPieces E aP P, sWords E aW W, sCut E aC2 aS2 C2', sCutR E aS2 S2']) 0 0 := by
  refine g_entry [some (.ref (aD 0)), some (.int x1)] (by decide) rfl (Nat.le_of_ble_eq_true rfl) rfl ?_
  intro p e s m below meth c A F hnm
  unfold fX9_fewest at hf
  refine g_aload_n F dX9_fewest_0 rfl ?_
  refine g_iload_n F dX9_fewest_1 rfl ?_
  obtain ⟨hg_1, hf⟩ := gb0_el hf
  refine g_callV (C := RX9) (T := TX9) (N := 10) (Lr := [sArrI E asettings 5 settings, sPieces E aP P, sCut E aC2 aS2 C2, sCutR E aS2 S2]) (As := [.int x1]) (rest := []) F 0 0 1 (ctX9_requireWord l E aD abuffer aB aPr aC2 aV aHs aSl afilled asettings asums aU aP aW x1 D_buffered D_lastErrorAt B_time B_chest B_fund W hg_1) gX9_fewest_X9_requireWord rfl rfl rfl h0X9_requireWord ⟨Nat.le_of_ble_eq_true rfl, Nat.le_of_ble_eq_true rfl⟩ rfl rfl rfl [0, 1, 4] [2, 3, 5, 6] rfl rfl rfl rfl rfl rfl (Nat.le_of_ble_eq_true rfl) dX9_fewest_2 ⟨(Nat.le_of_ble_eq_true rfl), (Nat.le_of_ble_eq_true rfl)⟩ ?_
  rintro v w ⟨rfl, rfl⟩
  refine g_norm (Lw' := [sPD E aD abuffer aB aPr aC2 aV aHs aSl afilled D_buffered D_lastErrorAt, sBook E aB asettings asums aU aP aW B_time B_chest B_fund, sArrI E asettings 5 settings, sPieces E aP P, sWords E aW W, sCut E aC2 aS2 C2, sCutR E aS2 S2]) (st' := []) (pc' := 5) [0, 1, 3, 4, 2, 5, 6] rfl rfl rfl rfl ?_
  refine g_aload_n F dX9_fewest_5 rfl ?_
  refine g_iload_n F dX9_fewest_6 rfl ?_
  obtain ⟨r_1, C2_1, S2_1, hg_2, hf⟩ := gb3_el hf
  refine g_callV (C := RX9) (T := TX9) (N := 10) (Lr := []) (As := [.int x1]) (rest := []) F 0 0 1 (ctX9_fewestPieces l E aD abuffer aB aPr aC2 aV aHs aSl afilled asettings asums aU aP aW aS2 x1 D_buffered D_lastErrorAt B_time B_chest B_fund settings P W C2 S2 r_1 C2_1 S2_1 hg_2) gX9_fewest_X9_fewestPieces rfl rfl rfl h0X9_fewestPieces ⟨Nat.le_of_ble_eq_true rfl, Nat.le_of_ble_eq_true rfl⟩ rfl rfl rfl [0, 1, 2, 3, 4, 5, 6] [] rfl rfl rfl rfl rfl rfl (Nat.le_of_ble_eq_true rfl) dX9_fewest_7 ⟨(Nat.le_of_ble_eq_true rfl), (Nat.le_of_ble_eq_true rfl)⟩ ?_
  rintro v w ⟨rfl, rfl⟩
  refine g_norm (Lw' := [sPD E aD abuffer aB aPr aC2 aV aHs aSl afilled D_buffered D_lastErrorAt, sBook E aB asettings asums aU aP aW B_time B_chest B_fund, sArrI E asettings 5 settings, sPieces E aP P, sWords E aW W, sCut E aC2 aS2 C2_1, sCutR E aS2 S2_1]) (st' := [.int r_1]) (pc' := 10) [0, 1, 2, 3, 4, 5, 6] rfl rfl rfl rfl ?_
  cases hf
  exact g_iret F rfl ⟨rfl, rfl⟩ dX9_fewest_10
set_option maxHeartbeats 4000000 in
set_option maxRecDepth 100000 in
theorem ctX9_saving (l : Launch) (E : gE) (aD abuffer aB aPr aC2 aV aHs aSl afilled asettings asums aU aP aW aS2 : Nat → Nat) (x1 : Int32) (D_buffered : Int32) (D_lastErrorAt : Int32) (B_time : Int32) (B_chest : Int32) (B_fund : Int32) (settings : (Nat → Int32)) (P : tPieces) (W : tWords) (C2 : tCut) (S2 : tCutR) (r : Int32) (C2' : tCut) (S2' : tCutR) (hf : fX9_saving x1 settings P W C2 S2 = some (r, C2', S2')) : gMet l yX9_saving wsX9_saving rmX9_saving vwCl E [.ref (aD 0), .int x1] [sPD E aD abuffer aB aPr aC2 aV aHs aSl afilled D_buffered D_lastErrorAt, sBook E aB asettings asums aU aP aW B_time B_chest B_fund, sArrI E asettings 5 settings, sPieces E aP P, sWords E aW W, sCut E aC2 aS2 C2, sCutR E aS2 S2] (fun v w => v = some (.int r) ∧ w = [sPD E aD abuffer aB aPr aC2 aV aHs aSl afilled D_buffered D_lastErrorAt, sBook E aB asettings asums aU aP aW B_time B_chest B_fund, sArrI E asettings 5 settings, sPieces E aP P, sWords E aW W, sCut E aC2 aS2 C2', sCutR E aS2 S2']) 0 0 := by
  refine g_entry [some (.ref (aD 0)), some (.int x1)] (by decide) rfl (Nat.le_of_ble_eq_true rfl) rfl ?_
  intro p e s m below meth c A F hnm
  unfold fX9_saving at hf
  refine g_aload_n F dX9_saving_0 rfl ?_
  refine g_iload_n F dX9_saving_1 rfl ?_
  obtain ⟨hg_1, hf⟩ := gb0_el hf
  refine g_callV (C := RX9) (T := TX9) (N := 10) (Lr := [sArrI E asettings 5 settings, sPieces E aP P, sCut E aC2 aS2 C2, sCutR E aS2 S2]) (As := [.int x1]) (rest := []) F 0 0 1 (ctX9_requireWord l E aD abuffer aB aPr aC2 aV aHs aSl afilled asettings asums aU aP aW x1 D_buffered D_lastErrorAt B_time B_chest B_fund W hg_1) gX9_saving_X9_requireWord rfl rfl rfl h0X9_requireWord ⟨Nat.le_of_ble_eq_true rfl, Nat.le_of_ble_eq_true rfl⟩ rfl rfl rfl [0, 1, 4] [2, 3, 5, 6] rfl rfl rfl rfl rfl rfl (Nat.le_of_ble_eq_true rfl) dX9_saving_2 ⟨(Nat.le_of_ble_eq_true rfl), (Nat.le_of_ble_eq_true rfl)⟩ ?_
  rintro v w ⟨rfl, rfl⟩
  refine g_norm (Lw' := [sPD E aD abuffer aB aPr aC2 aV aHs aSl afilled D_buffered D_lastErrorAt, sBook E aB asettings asums aU aP aW B_time B_chest B_fund, sArrI E asettings 5 settings, sPieces E aP P, sWords E aW W, sCut E aC2 aS2 C2, sCutR E aS2 S2]) (st' := []) (pc' := 5) [0, 1, 3, 4, 2, 5, 6] rfl rfl rfl rfl ?_
  refine g_aload_n F dX9_saving_5 rfl ?_
  refine g_get (C := RX9) (T := TX9) (N := 10) F 0 0 3 rfl rfl rfl iX9_saving_X9 (by decide) (by decide +kernel) rfl dX9_saving_6 ?_
  refine g_aload_n F dX9_saving_9 rfl ?_
  refine g_get (C := RX9) (T := TX9) (N := 10) F 0 0 3 rfl rfl rfl iX9_saving_X9 (by decide) (by decide +kernel) rfl dX9_saving_10 ?_
  refine g_get (C := RX1) (T := TX1) (N := 8) F 1 0 4 rfl rfl rfl iX9_saving_X1 (by decide) (by decide +kernel) rfl dX9_saving_13 ?_
  refine g_get (C := RX8) (T := TX8) (N := 5) F 4 0 3 rfl rfl rfl iX9_saving_X8 (by decide) (by decide +kernel) rfl dX9_saving_16 ?_
  refine g_iload_n F dX9_saving_19 rfl ?_
  obtain ⟨hb_1, hf⟩ := gb_in hf
  refine g_iald F 4 3 (x1.toNatClampNeg) rfl rfl rfl hb_1 dX9_saving_20 ?_
  refine g_aload_n F dX9_saving_21 rfl ?_
  refine g_iload_n F dX9_saving_22 rfl ?_
  obtain ⟨r_1, C2_1, S2_1, hg_2, hf⟩ := gb3_el hf
  refine g_callV (C := RX9) (T := TX9) (N := 10) (Lr := []) (As := [.int x1]) (rest := [.int (W.2.2.2.1 (x1.toNatClampNeg)), .ref (aB 0)]) F 0 0 1 (ctX9_fewestPieces l E aD abuffer aB aPr aC2 aV aHs aSl afilled asettings asums aU aP aW aS2 x1 D_buffered D_lastErrorAt B_time B_chest B_fund settings P W C2 S2 r_1 C2_1 S2_1 hg_2) gX9_saving_X9_fewestPieces rfl rfl rfl h0X9_fewestPieces ⟨Nat.le_of_ble_eq_true rfl, Nat.le_of_ble_eq_true rfl⟩ rfl rfl rfl [0, 1, 2, 3, 4, 5, 6] [] rfl rfl rfl rfl rfl rfl (Nat.le_of_ble_eq_true rfl) dX9_saving_23 ⟨(Nat.le_of_ble_eq_true rfl), (Nat.le_of_ble_eq_true rfl)⟩ ?_
  rintro v w ⟨rfl, rfl⟩
  refine g_norm (Lw' := [sPD E aD abuffer aB aPr aC2 aV aHs aSl afilled D_buffered D_lastErrorAt, sBook E aB asettings asums aU aP aW B_time B_chest B_fund, sArrI E asettings 5 settings, sPieces E aP P, sWords E aW W, sCut E aC2 aS2 C2_1, sCutR E aS2 S2_1]) (st' := [.int r_1, .int (W.2.2.2.1 (x1.toNatClampNeg)), .ref (aB 0)]) (pc' := 26) [0, 1, 2, 3, 4, 5, 6] rfl rfl rfl rfl ?_
  refine g_isub F dX9_saving_26 ?_
  obtain ⟨r_2, hg_3, hf⟩ := gb1_el hf
  refine g_callV (C := RX1) (T := TX1) (N := 8) (Lr := [sPD E aD abuffer aB aPr aC2 aV aHs aSl afilled D_buffered D_lastErrorAt, sPieces E aP P, sWords E aW W, sCut E aC2 aS2 C2_1, sCutR E aS2 S2_1]) (As := [.int ((W.2.2.2.1 (x1.toNatClampNeg)) - r_1)]) (rest := []) F 1 0 1 (ctX1_depositsFor l E aB asettings asums aU aP aW ((W.2.2.2.1 (x1.toNatClampNeg)) - r_1) B_time B_chest B_fund settings r_2 hg_3) gX9_saving_X1_depositsFor rfl rfl rfl h0X1_depositsFor ⟨Nat.le_of_ble_eq_true rfl, Nat.le_of_ble_eq_true rfl⟩ rfl rfl rfl [1, 2] [0, 3, 4, 5, 6] rfl rfl rfl rfl rfl rfl (Nat.le_of_ble_eq_true rfl) dX9_saving_27 ⟨(Nat.le_of_ble_eq_true rfl), (Nat.le_of_ble_eq_true rfl)⟩ ?_
  rintro v w ⟨rfl, rfl⟩
  refine g_norm (Lw' := [sPD E aD abuffer aB aPr aC2 aV aHs aSl afilled D_buffered D_lastErrorAt, sBook E aB asettings asums aU aP aW B_time B_chest B_fund, sArrI E asettings 5 settings, sPieces E aP P, sWords E aW W, sCut E aC2 aS2 C2_1, sCutR E aS2 S2_1]) (st' := [.int r_2]) (pc' := 30) [2, 0, 1, 3, 4, 5, 6] rfl rfl rfl rfl ?_
  cases hf
  exact g_iret F rfl ⟨rfl, rfl⟩ dX9_saving_30
set_option maxHeartbeats 4000000 in
set_option maxRecDepth 100000 in
theorem ctX9_bestPart (l : Launch) (E : gE) (aD abuffer aB aPr aC2 aV aHs aSl afilled asettings asums aU aP aW aC3 aS3 : Nat → Nat) (x1 : Int32) (x2 : Int32) (D_buffered : Int32) (D_lastErrorAt : Int32) (B_time : Int32) (B_chest : Int32) (B_fund : Int32) (settings : (Nat → Int32)) (P : tPieces) (W : tWords) (V : tAdv) (C3 : tCut) (S3 : tCutR) (r : Int32) (V' : tAdv) (C3' : tCut) (S3' : tCutR) (hf : fX9_bestPart x1 x2 settings P W V C3 S3 = some (r, V', C3', S3')) : gMet l yX9_bestPart wsX9_bestPart rmX9_bestPart vwCl E [.ref (aD 0), .int x1, .int x2] [sPD E aD abuffer aB aPr aC2 aV aHs aSl afilled D_buffered D_lastErrorAt, sBook E aB asettings asums aU aP aW B_time B_chest B_fund, sArrI E asettings 5 settings, sPieces E aP P, sWords E aW W, sAdv E aV aC3 V, sCut E aC3 aS3 C3, sCutR E aS3 S3] (fun v w => v = some (.int r) ∧ w = [sPD E aD abuffer aB aPr aC2 aV aHs aSl afilled D_buffered D_lastErrorAt, sBook E aB asettings asums aU aP aW B_time B_chest B_fund, sArrI E asettings 5 settings, sPieces E aP P, sWords E aW W, sAdv E aV aC3 V', sCut E aC3 aS3 C3', sCutR E aS3 S3']) 0 0 := by
  refine g_entry [some (.ref (aD 0)), some (.int x1), some (.int x2)] (by decide) rfl (Nat.le_of_ble_eq_true rfl) rfl ?_
  intro p e s m below meth c A F hnm
  unfold fX9_bestPart at hf
  refine g_aload_n F dX9_bestPart_0 rfl ?_
  refine g_iload_n F dX9_bestPart_1 rfl ?_
  obtain ⟨hg_1, hf⟩ := gb0_el hf
  refine g_callV (C := RX9) (T := TX9) (N := 10) (Lr := [sArrI E asettings 5 settings, sPieces E aP P, sAdv E aV aC3 V, sCut E aC3 aS3 C3, sCutR E aS3 S3]) (As := [.int x1]) (rest := []) F 0 0 1 (ctX9_requireWord l E aD abuffer aB aPr aC2 aV aHs aSl afilled asettings asums aU aP aW x1 D_buffered D_lastErrorAt B_time B_chest B_fund W hg_1) gX9_bestPart_X9_requireWord rfl rfl rfl h0X9_requireWord ⟨Nat.le_of_ble_eq_true rfl, Nat.le_of_ble_eq_true rfl⟩ rfl rfl rfl [0, 1, 4] [2, 3, 5, 6, 7] rfl rfl rfl rfl rfl rfl (Nat.le_of_ble_eq_true rfl) dX9_bestPart_2 ⟨(Nat.le_of_ble_eq_true rfl), (Nat.le_of_ble_eq_true rfl)⟩ ?_
  rintro v w ⟨rfl, rfl⟩
  refine g_norm (Lw' := [sPD E aD abuffer aB aPr aC2 aV aHs aSl afilled D_buffered D_lastErrorAt, sBook E aB asettings asums aU aP aW B_time B_chest B_fund, sArrI E asettings 5 settings, sPieces E aP P, sWords E aW W, sAdv E aV aC3 V, sCut E aC3 aS3 C3, sCutR E aS3 S3]) (st' := []) (pc' := 5) [0, 1, 3, 4, 2, 5, 6, 7] rfl rfl rfl rfl ?_
  refine g_aload_n F dX9_bestPart_5 rfl ?_
  refine g_iload_n F dX9_bestPart_6 rfl ?_
  refine g_iconst F 3 dX9_bestPart_7 rfl ?_
  obtain ⟨hg_2, hf⟩ := gb0_el hf
  refine g_callV (C := RX9) (T := TX9) (N := 10) (Lr := [sPD E aD abuffer aB aPr aC2 aV aHs aSl afilled D_buffered D_lastErrorAt, sBook E aB asettings asums aU aP aW B_time B_chest B_fund, sArrI E asettings 5 settings, sPieces E aP P, sWords E aW W, sAdv E aV aC3 V, sCut E aC3 aS3 C3, sCutR E aS3 S3]) (As := [.int x2, .int 3]) (rest := []) F 0 0 2 (ctX9_requireBelow l E aD x2 3 hg_2) gX9_bestPart_X9_requireBelow rfl rfl rfl h0X9_requireBelow ⟨Nat.le_of_ble_eq_true rfl, Nat.le_of_ble_eq_true rfl⟩ rfl rfl rfl [] [0, 1, 2, 3, 4, 5, 6, 7] rfl rfl rfl rfl rfl rfl (Nat.le_of_ble_eq_true rfl) dX9_bestPart_8 ⟨(Nat.le_of_ble_eq_true rfl), (Nat.le_of_ble_eq_true rfl)⟩ ?_
  rintro v w ⟨rfl, rfl⟩
  refine g_norm (Lw' := [sPD E aD abuffer aB aPr aC2 aV aHs aSl afilled D_buffered D_lastErrorAt, sBook E aB asettings asums aU aP aW B_time B_chest B_fund, sArrI E asettings 5 settings, sPieces E aP P, sWords E aW W, sAdv E aV aC3 V, sCut E aC3 aS3 C3, sCutR E aS3 S3]) (st' := []) (pc' := 11) [0, 1, 2, 3, 4, 5, 6, 7] rfl rfl rfl rfl ?_
  refine g_aload_n F dX9_bestPart_11 rfl ?_
  refine g_get (C := RX9) (T := TX9) (N := 10) F 0 0 6 rfl rfl rfl iX9_bestPart_X9 (by decide) (by decide +kernel) rfl dX9_bestPart_12 ?_
  refine g_aload_n F dX9_bestPart_15 rfl ?_
  refine g_get (C := RX9) (T := TX9) (N := 10) F 0 0 3 rfl rfl rfl iX9_bestPart_X9 (by decide) (by decide +kernel) rfl dX9_bestPart_16 ?_
  refine g_aload_n F dX9_bestPart_19 rfl ?_
  refine g_get (C := RX9) (T := TX9) (N := 10) F 0 0 3 rfl rfl rfl iX9_bestPart_X9 (by decide) (by decide +kernel) rfl dX9_bestPart_20 ?_
  refine g_get (C := RX1) (T := TX1) (N := 8) F 1 0 4 rfl rfl rfl iX9_bestPart_X1 (by decide) (by decide +kernel) rfl dX9_bestPart_23 ?_
  refine g_get (C := RX8) (T := TX8) (N := 5) F 4 0 1 rfl rfl rfl iX9_bestPart_X8 (by decide) (by decide +kernel) rfl dX9_bestPart_26 ?_
  refine g_iload_n F dX9_bestPart_29 rfl ?_
  obtain ⟨hb_1, hf⟩ := gb_in hf
  refine g_lald F 4 1 (x1.toNatClampNeg) rfl rfl rfl hb_1 dX9_bestPart_30 ?_
  obtain ⟨V_1, C3_1, S3_1, hg_3, hf⟩ := gb3_el hf
  refine g_callV (C := RX0) (T := TX0) (N := 9) (Lr := [sPD E aD abuffer aB aPr aC2 aV aHs aSl afilled D_buffered D_lastErrorAt]) (As := [.ref (aB 0), .long (W.2.1 (x1.toNatClampNeg))]) (rest := []) F 5 0 2 (ctX0_weighParts l E aV aC3 aS3 aB asettings asums aU aP aW (W.2.1 (x1.toNatClampNeg)) V C3 S3 B_time B_chest B_fund settings P W V_1 C3_1 S3_1 hg_3) gX9_bestPart_X0_weighParts rfl rfl rfl h0X0_weighParts ⟨Nat.le_of_ble_eq_true rfl, Nat.le_of_ble_eq_true rfl⟩ rfl rfl rfl [5, 6, 7, 1, 2, 3, 4] [0] rfl rfl rfl rfl rfl rfl (Nat.le_of_ble_eq_true rfl) dX9_bestPart_31 ⟨(Nat.le_of_ble_eq_true rfl), (Nat.le_of_ble_eq_true rfl)⟩ ?_
  rintro v w ⟨rfl, rfl⟩
  refine g_norm (Lw' := [sPD E aD abuffer aB aPr aC2 aV aHs aSl afilled D_buffered D_lastErrorAt, sBook E aB asettings asums aU aP aW B_time B_chest B_fund, sArrI E asettings 5 settings, sPieces E aP P, sWords E aW W, sAdv E aV aC3 V_1, sCut E aC3 aS3 C3_1, sCutR E aS3 S3_1]) (st' := []) (pc' := 34) [7, 3, 4, 5, 6, 0, 1, 2] rfl rfl rfl rfl ?_
  refine g_aload_n F dX9_bestPart_34 rfl ?_
  refine g_get (C := RX9) (T := TX9) (N := 10) F 0 0 6 rfl rfl rfl iX9_bestPart_X9 (by decide) (by decide +kernel) rfl dX9_bestPart_35 ?_
  refine g_get (C := RX0) (T := TX0) (N := 9) F 5 0 2 rfl rfl rfl iX9_bestPart_X0 (by decide) (by decide +kernel) rfl dX9_bestPart_38 ?_
  refine g_ifne F 46 dX9_bestPart_41 (by decide) (fun hc_3 => ?_) (fun hc_3 => ?_)
  · replace hf := gi_f hc_3 hf
    refine g_iload_n F dX9_bestPart_46 rfl ?_
    refine g_ifne F 58 dX9_bestPart_47 (by decide) (fun hc_2 => ?_) (fun hc_2 => ?_)
    · replace hf := gi_f hc_2 hf
      refine g_iload_n F dX9_bestPart_58 rfl ?_
      refine g_iconst F 1 dX9_bestPart_59 rfl ?_
      refine g_icmp_ne F 73 dX9_bestPart_60 (by decide) (fun hc_1 => ?_) (fun hc_1 => ?_)
      · replace hf := gi_f hc_1 hf
        refine g_aload_n F dX9_bestPart_73 rfl ?_
        refine g_get (C := RX9) (T := TX9) (N := 10) F 0 0 6 rfl rfl rfl iX9_bestPart_X9 (by decide) (by decide +kernel) rfl dX9_bestPart_74 ?_
        refine g_get (C := RX0) (T := TX0) (N := 9) F 5 0 2 rfl rfl rfl iX9_bestPart_X0 (by decide) (by decide +kernel) rfl dX9_bestPart_77 ?_
        cases hf
        exact g_iret F rfl ⟨rfl, rfl⟩ dX9_bestPart_80
      · replace hf := gi_t hc_1 hf
        refine g_aload_n F dX9_bestPart_63 rfl ?_
        refine g_get (C := RX9) (T := TX9) (N := 10) F 0 0 6 rfl rfl rfl iX9_bestPart_X9 (by decide) (by decide +kernel) rfl dX9_bestPart_64 ?_
        refine g_get (C := RX0) (T := TX0) (N := 9) F 5 0 1 rfl rfl rfl iX9_bestPart_X0 (by decide) (by decide +kernel) rfl dX9_bestPart_67 ?_
        refine g_goto F 80 dX9_bestPart_70 (by decide) ?_
        cases hf
        exact g_iret F rfl ⟨rfl, rfl⟩ dX9_bestPart_80
    · replace hf := gi_t hc_2 hf
      refine g_aload_n F dX9_bestPart_50 rfl ?_
      refine g_get (C := RX9) (T := TX9) (N := 10) F 0 0 6 rfl rfl rfl iX9_bestPart_X9 (by decide) (by decide +kernel) rfl dX9_bestPart_51 ?_
      refine g_get (C := RX0) (T := TX0) (N := 9) F 5 0 0 rfl rfl rfl iX9_bestPart_X0 (by decide) (by decide +kernel) rfl dX9_bestPart_54 ?_
      cases hf
      exact g_iret F rfl ⟨rfl, rfl⟩ dX9_bestPart_57
  · replace hf := gi_t hc_3 hf
    refine g_iconst F (-1) dX9_bestPart_44 rfl ?_
    cases hf
    exact g_iret F rfl ⟨rfl, rfl⟩ dX9_bestPart_45
set_option maxHeartbeats 4000000 in
set_option maxRecDepth 100000 in
theorem ktX9_shared_L15 {p : Program} {l : Launch} {e : Env} {s : State} {m : MethodId} {args : Array Value} {below : List Frame} {meth : Method} {c : Code} {E : gE} {A : Nat → Prop} (F : gFx p s m args meth c RX9 wsX9_shared cX9_shared 5 (some .int) vwCl E A) (aD abuffer aB aPr aC2 aV aHs aSl afilled asettings asums aU aP aW : Nat → Nat) (x1 : Int32) (x2 : Int32) (P : tPieces) (W : tWords) (D_buffered : Int32) (D_lastErrorAt : Int32) (B_time : Int32) (B_chest : Int32) (B_fund : Int32) (r : Int32) {k : Int32 → Option (Int32)} (hk : ∀ (x3 : Int32), k x3 = some r → Gj p l e rmX9_shared s m args below meth c 0 0 (MQ below (gQ vwCl E A (fun v w => v = some (.int r) ∧ w = [sPD E aD abuffer aB aPr aC2 aV aHs aSl afilled D_buffered D_lastErrorAt, sBook E aB asettings asums aU aP aW B_time B_chest B_fund, sPieces E aP P, sWords E aW W])) args s 0 0 A) vwCl E A [sPD E aD abuffer aB aPr aC2 aV aHs aSl afilled D_buffered D_lastErrorAt, sBook E aB asettings asums aU aP aW B_time B_chest B_fund, sPieces E aP P, sWords E aW W] [none, none, none, some (.int x3), none] [] 71) : ∀ (n : Nat) (x3 : Int32) (x4 : Int32), fX9_shared_L15 x1 x2 P W k n x3 x4 = some r → Gj p l e rmX9_shared s m args below meth c 0 0 (MQ below (gQ vwCl E A (fun v w => v = some (.int r) ∧ w = [sPD E aD abuffer aB aPr aC2 aV aHs aSl afilled D_buffered D_lastErrorAt, sBook E aB asettings asums aU aP aW B_time B_chest B_fund, sPieces E aP P, sWords E aW W])) args s 0 0 A) vwCl E A [sPD E aD abuffer aB aPr aC2 aV aHs aSl afilled D_buffered D_lastErrorAt, sBook E aB asettings asums aU aP aW B_time B_chest B_fund, sPieces E aP P, sWords E aW W] [some (.ref (aD 0)), some (.int x1), some (.int x2), some (.int x3), some (.int x4)] [] 15
  | 0, _, _, hf => by cases hf
  | n + 1, x3, x4, hf => by
    have ih := ktX9_shared_L15 F aD abuffer aB aPr aC2 aV aHs aSl afilled asettings asums aU aP aW x1 x2 P W D_buffered D_lastErrorAt B_time B_chest B_fund r hk n
    rw [fX9_shared_L15] at hf
    refine g_iload F dX9_shared_15 rfl ?_
    refine g_aload_n F dX9_shared_17 rfl ?_
    refine g_get (C := RX9) (T := TX9) (N := 10) F 0 0 3 rfl rfl rfl iX9_shared_X9 (by decide) (by decide +kernel) rfl dX9_shared_18 ?_
    refine g_get (C := RX1) (T := TX1) (N := 8) F 1 0 3 rfl rfl rfl iX9_shared_X1 (by decide) (by decide +kernel) rfl dX9_shared_21 ?_
    refine g_get (C := RX6) (T := TX6) (N := 6) F 2 0 0 rfl rfl rfl iX9_shared_X6 (by decide) (by decide +kernel) rfl dX9_shared_24 ?_
    refine g_icmp_ge F 71 dX9_shared_27 (by decide) (fun hc_3 => ?_) (fun hc_3 => ?_)
    · replace hf := gi_t hc_3 hf
      refine g_mask [false, false, false, true, false] rfl ?_
      exact hk x3 hf
    · replace hf := gi_f hc_3 hf
      refine g_aload_n F dX9_shared_30 rfl ?_
      refine g_get (C := RX9) (T := TX9) (N := 10) F 0 0 3 rfl rfl rfl iX9_shared_X9 (by decide) (by decide +kernel) rfl dX9_shared_31 ?_
      refine g_get (C := RX1) (T := TX1) (N := 8) F 1 0 4 rfl rfl rfl iX9_shared_X1 (by decide) (by decide +kernel) rfl dX9_shared_34 ?_
      refine g_iload_n F dX9_shared_37 rfl ?_
      refine g_iload F dX9_shared_38 rfl ?_
      obtain ⟨r_1, hg_1, hf⟩ := gb1_el hf
      refine g_callV (C := RX8) (T := TX8) (N := 5) (Lr := [sPD E aD abuffer aB aPr aC2 aV aHs aSl afilled D_buffered D_lastErrorAt, sBook E aB asettings asums aU aP aW B_time B_chest B_fund, sPieces E aP P]) (As := [.int x1, .int x4]) (rest := []) F 3 0 2 (ctX8_usesIn l E aW x1 x4 W r_1 hg_1) gX9_shared_X8_usesIn rfl rfl rfl h0X8_usesIn ⟨Nat.le_of_ble_eq_true rfl, Nat.le_of_ble_eq_true rfl⟩ rfl rfl rfl [3] [0, 1, 2] rfl rfl rfl rfl rfl rfl (Nat.le_of_ble_eq_true rfl) dX9_shared_40 ⟨(Nat.le_of_ble_eq_true rfl), (Nat.le_of_ble_eq_true rfl)⟩ ?_
      rintro v w ⟨rfl, rfl⟩
      refine g_norm (Lw' := [sPD E aD abuffer aB aPr aC2 aV aHs aSl afilled D_buffered D_lastErrorAt, sBook E aB asettings asums aU aP aW B_time B_chest B_fund, sPieces E aP P, sWords E aW W]) (st' := [.int r_1]) (pc' := 43) [1, 2, 3, 0] rfl rfl rfl rfl ?_
      refine g_ifle F 65 dX9_shared_43 (by decide) (fun hc_2 => ?_) (fun hc_2 => ?_)
      · replace hf := gi_t hc_2 hf
        refine g_iinc (lv' := [some (.ref (aD 0)), some (.int x1), some (.int x2), some (.int x3), some (.int (x4 + 1))]) F (x4 + 1) dX9_shared_65 rfl rfl rfl rfl ?_
        refine g_goto F 15 dX9_shared_68 (by decide) ?_
        exact ih x3 (x4 + 1) hf
      · replace hf := gi_f hc_2 hf
        refine g_aload_n F dX9_shared_46 rfl ?_
        refine g_get (C := RX9) (T := TX9) (N := 10) F 0 0 3 rfl rfl rfl iX9_shared_X9 (by decide) (by decide +kernel) rfl dX9_shared_47 ?_
        refine g_get (C := RX1) (T := TX1) (N := 8) F 1 0 4 rfl rfl rfl iX9_shared_X1 (by decide) (by decide +kernel) rfl dX9_shared_50 ?_
        refine g_iload_n F dX9_shared_53 rfl ?_
        refine g_iload F dX9_shared_54 rfl ?_
        obtain ⟨r_2, hg_2, hf⟩ := gb1_el hf
        refine g_callV (C := RX8) (T := TX8) (N := 5) (Lr := [sPD E aD abuffer aB aPr aC2 aV aHs aSl afilled D_buffered D_lastErrorAt, sBook E aB asettings asums aU aP aW B_time B_chest B_fund, sPieces E aP P]) (As := [.int x2, .int x4]) (rest := []) F 3 0 2 (ctX8_usesIn l E aW x2 x4 W r_2 hg_2) gX9_shared_X8_usesIn rfl rfl rfl h0X8_usesIn ⟨Nat.le_of_ble_eq_true rfl, Nat.le_of_ble_eq_true rfl⟩ rfl rfl rfl [3] [0, 1, 2] rfl rfl rfl rfl rfl rfl (Nat.le_of_ble_eq_true rfl) dX9_shared_56 ⟨(Nat.le_of_ble_eq_true rfl), (Nat.le_of_ble_eq_true rfl)⟩ ?_
        rintro v w ⟨rfl, rfl⟩
        refine g_norm (Lw' := [sPD E aD abuffer aB aPr aC2 aV aHs aSl afilled D_buffered D_lastErrorAt, sBook E aB asettings asums aU aP aW B_time B_chest B_fund, sPieces E aP P, sWords E aW W]) (st' := [.int r_2]) (pc' := 59) [1, 2, 3, 0] rfl rfl rfl rfl ?_
        refine g_ifle F 65 dX9_shared_59 (by decide) (fun hc_1 => ?_) (fun hc_1 => ?_)
        · replace hf := gi_t hc_1 hf
          refine g_iinc (lv' := [some (.ref (aD 0)), some (.int x1), some (.int x2), some (.int x3), some (.int (x4 + 1))]) F (x4 + 1) dX9_shared_65 rfl rfl rfl rfl ?_
          refine g_goto F 15 dX9_shared_68 (by decide) ?_
          exact ih x3 (x4 + 1) hf
        · replace hf := gi_f hc_1 hf
          refine g_iinc (lv' := [some (.ref (aD 0)), some (.int x1), some (.int x2), some (.int (x3 + 1)), some (.int x4)]) F (x3 + 1) dX9_shared_62 rfl rfl rfl rfl ?_
          refine g_iinc (lv' := [some (.ref (aD 0)), some (.int x1), some (.int x2), some (.int (x3 + 1)), some (.int (x4 + 1))]) F (x4 + 1) dX9_shared_65 rfl rfl rfl rfl ?_
          refine g_goto F 15 dX9_shared_68 (by decide) ?_
          exact ih (x3 + 1) (x4 + 1) hf
set_option maxHeartbeats 4000000 in
set_option maxRecDepth 100000 in
theorem ctX9_shared (l : Launch) (E : gE) (aD abuffer aB aPr aC2 aV aHs aSl afilled asettings asums aU aP aW : Nat → Nat) (x1 : Int32) (x2 : Int32) (D_buffered : Int32) (D_lastErrorAt : Int32) (B_time : Int32) (B_chest : Int32) (B_fund : Int32) (P : tPieces) (W : tWords) (r : Int32) (hf : fX9_shared x1 x2 P W = some r) : gMet l yX9_shared wsX9_shared rmX9_shared vwCl E [.ref (aD 0), .int x1, .int x2] [sPD E aD abuffer aB aPr aC2 aV aHs aSl afilled D_buffered D_lastErrorAt, sBook E aB asettings asums aU aP aW B_time B_chest B_fund, sPieces E aP P, sWords E aW W] (fun v w => v = some (.int r) ∧ w = [sPD E aD abuffer aB aPr aC2 aV aHs aSl afilled D_buffered D_lastErrorAt, sBook E aB asettings asums aU aP aW B_time B_chest B_fund, sPieces E aP P, sWords E aW W]) 0 0 := by
  refine g_entry [some (.ref (aD 0)), some (.int x1), some (.int x2), none, none] (by decide) rfl (Nat.le_of_ble_eq_true rfl) rfl ?_
  intro p e s m below meth c A F hnm
  unfold fX9_shared at hf
  refine g_aload_n F dX9_shared_0 rfl ?_
  refine g_iload_n F dX9_shared_1 rfl ?_
  obtain ⟨hg_1, hf⟩ := gb0_el hf
  refine g_callV (C := RX9) (T := TX9) (N := 10) (Lr := [sPieces E aP P]) (As := [.int x1]) (rest := []) F 0 0 1 (ctX9_requireWord l E aD abuffer aB aPr aC2 aV aHs aSl afilled asettings asums aU aP aW x1 D_buffered D_lastErrorAt B_time B_chest B_fund W hg_1) gX9_shared_X9_requireWord rfl rfl rfl h0X9_requireWord ⟨Nat.le_of_ble_eq_true rfl, Nat.le_of_ble_eq_true rfl⟩ rfl rfl rfl [0, 1, 3] [2] rfl rfl rfl rfl rfl rfl (Nat.le_of_ble_eq_true rfl) dX9_shared_2 ⟨(Nat.le_of_ble_eq_true rfl), (Nat.le_of_ble_eq_true rfl)⟩ ?_
  rintro v w ⟨rfl, rfl⟩
  refine g_norm (Lw' := [sPD E aD abuffer aB aPr aC2 aV aHs aSl afilled D_buffered D_lastErrorAt, sBook E aB asettings asums aU aP aW B_time B_chest B_fund, sPieces E aP P, sWords E aW W]) (st' := []) (pc' := 5) [0, 1, 3, 2] rfl rfl rfl rfl ?_
  refine g_aload_n F dX9_shared_5 rfl ?_
  refine g_iload_n F dX9_shared_6 rfl ?_
  obtain ⟨hg_2, hf⟩ := gb0_el hf
  refine g_callV (C := RX9) (T := TX9) (N := 10) (Lr := [sPieces E aP P]) (As := [.int x2]) (rest := []) F 0 0 1 (ctX9_requireWord l E aD abuffer aB aPr aC2 aV aHs aSl afilled asettings asums aU aP aW x2 D_buffered D_lastErrorAt B_time B_chest B_fund W hg_2) gX9_shared_X9_requireWord rfl rfl rfl h0X9_requireWord ⟨Nat.le_of_ble_eq_true rfl, Nat.le_of_ble_eq_true rfl⟩ rfl rfl rfl [0, 1, 3] [2] rfl rfl rfl rfl rfl rfl (Nat.le_of_ble_eq_true rfl) dX9_shared_7 ⟨(Nat.le_of_ble_eq_true rfl), (Nat.le_of_ble_eq_true rfl)⟩ ?_
  rintro v w ⟨rfl, rfl⟩
  refine g_norm (Lw' := [sPD E aD abuffer aB aPr aC2 aV aHs aSl afilled D_buffered D_lastErrorAt, sBook E aB asettings asums aU aP aW B_time B_chest B_fund, sPieces E aP P, sWords E aW W]) (st' := []) (pc' := 10) [0, 1, 3, 2] rfl rfl rfl rfl ?_
  refine g_iconst F 0 dX9_shared_10 rfl ?_
  refine g_istore_n (lv' := [some (.ref (aD 0)), some (.int x1), some (.int x2), some (.int 0), none]) F dX9_shared_11 (Nat.le_of_ble_eq_true rfl) rfl rfl ?_
  refine g_iconst F 0 dX9_shared_12 rfl ?_
  refine g_istore (lv' := [some (.ref (aD 0)), some (.int x1), some (.int x2), some (.int 0), some (.int 0)]) F dX9_shared_13 (Nat.le_of_ble_eq_true rfl) rfl rfl ?_
  refine ktX9_shared_L15 F aD abuffer aB aPr aC2 aV aHs aSl afilled asettings asums aU aP aW x1 x2 P W D_buffered D_lastErrorAt B_time B_chest B_fund r (fun x3_1 hf => ?_) FU 0 0 hf
  refine g_iload_n F dX9_shared_71 rfl ?_
  cases hf
  exact g_iret F rfl ⟨rfl, rfl⟩ dX9_shared_72
set_option maxHeartbeats 4000000 in
set_option maxRecDepth 100000 in
theorem ctX9_favourite (l : Launch) (E : gE) (aD abuffer aB aPr aC2 aV aHs aSl afilled asettings asums aU aP aW : Nat → Nat) (D_buffered : Int32) (D_lastErrorAt : Int32) (B_time : Int32) (B_chest : Int32) (B_fund : Int32) (P : tPieces) (r : Int32) (hf : fX9_favourite P = some r) : gMet l yX9_favourite wsX9_favourite rmX9_favourite vwCl E [.ref (aD 0)] [sPD E aD abuffer aB aPr aC2 aV aHs aSl afilled D_buffered D_lastErrorAt, sBook E aB asettings asums aU aP aW B_time B_chest B_fund, sPieces E aP P] (fun v w => v = some (.int r) ∧ w = [sPD E aD abuffer aB aPr aC2 aV aHs aSl afilled D_buffered D_lastErrorAt, sBook E aB asettings asums aU aP aW B_time B_chest B_fund, sPieces E aP P]) 0 0 := by
  refine g_entry [some (.ref (aD 0))] (by decide) rfl (Nat.le_of_ble_eq_true rfl) rfl ?_
  intro p e s m below meth c A F hnm
  unfold fX9_favourite at hf
  refine g_aload_n F dX9_favourite_0 rfl ?_
  refine g_get (C := RX9) (T := TX9) (N := 10) F 0 0 3 rfl rfl rfl iX9_favourite_X9 (by decide) (by decide +kernel) rfl dX9_favourite_1 ?_
  refine g_get (C := RX1) (T := TX1) (N := 8) F 1 0 3 rfl rfl rfl iX9_favourite_X1 (by decide) (by decide +kernel) rfl dX9_favourite_4 ?_
  obtain ⟨r_1, hg_1, hf⟩ := gb1_el hf
  refine g_callV (C := RX6) (T := TX6) (N := 6) (Lr := [sPD E aD abuffer aB aPr aC2 aV aHs aSl afilled D_buffered D_lastErrorAt, sBook E aB asettings asums aU aP aW B_time B_chest B_fund]) (As := []) (rest := []) F 2 0 0 (ctX6_mostUsed l E aP P r_1 hg_1) gX9_favourite_X6_mostUsed rfl rfl rfl h0X6_mostUsed ⟨Nat.le_of_ble_eq_true rfl, Nat.le_of_ble_eq_true rfl⟩ rfl rfl rfl [2] [0, 1] rfl rfl rfl rfl rfl rfl (Nat.le_of_ble_eq_true rfl) dX9_favourite_7 ⟨(Nat.le_of_ble_eq_true rfl), (Nat.le_of_ble_eq_true rfl)⟩ ?_
  rintro v w ⟨rfl, rfl⟩
  refine g_norm (Lw' := [sPD E aD abuffer aB aPr aC2 aV aHs aSl afilled D_buffered D_lastErrorAt, sBook E aB asettings asums aU aP aW B_time B_chest B_fund, sPieces E aP P]) (st' := [.int r_1]) (pc' := 10) [1, 2, 0] rfl rfl rfl rfl ?_
  cases hf
  exact g_iret F rfl ⟨rfl, rfl⟩ dX9_favourite_10
set_option maxHeartbeats 4000000 in
set_option maxRecDepth 100000 in
theorem ktX9_richest_L6 {p : Program} {l : Launch} {e : Env} {s : State} {m : MethodId} {args : Array Value} {below : List Frame} {meth : Method} {c : Code} {E : gE} {A : Nat → Prop} (F : gFx p s m args meth c RX9 wsX9_richest cX9_richest 5 (some .int) vwCl E A) (aD abuffer aB aPr aC2 aV aHs aSl afilled asettings asums aU aP aW : Nat → Nat) (settings : (Nat → Int32)) (U : tUsers) (W : tWords) (D_buffered : Int32) (D_lastErrorAt : Int32) (B_time : Int32) (B_chest : Int32) (B_fund : Int32) (r : Int32) {k : Int32 → Option (Int32)} (hk : ∀ (x1 : Int32), k x1 = some r → Gj p l e rmX9_richest s m args below meth c 0 0 (MQ below (gQ vwCl E A (fun v w => v = some (.int r) ∧ w = [sPD E aD abuffer aB aPr aC2 aV aHs aSl afilled D_buffered D_lastErrorAt, sBook E aB asettings asums aU aP aW B_time B_chest B_fund, sArrI E asettings 5 settings, sUsers E aU U, sWords E aW W])) args s 0 0 A) vwCl E A [sPD E aD abuffer aB aPr aC2 aV aHs aSl afilled D_buffered D_lastErrorAt, sBook E aB asettings asums aU aP aW B_time B_chest B_fund, sArrI E asettings 5 settings, sUsers E aU U, sWords E aW W] [none, some (.int x1), none, none, none] [] 59) : ∀ (n : Nat) (x1 : Int32) (x2 : Int32) (x3 : Int32), fX9_richest_L6 settings U W k n x1 x2 x3 = some r → Gj p l e rmX9_richest s m args below meth c 0 0 (MQ below (gQ vwCl E A (fun v w => v = some (.int r) ∧ w = [sPD E aD abuffer aB aPr aC2 aV aHs aSl afilled D_buffered D_lastErrorAt, sBook E aB asettings asums aU aP aW B_time B_chest B_fund, sArrI E asettings 5 settings, sUsers E aU U, sWords E aW W])) args s 0 0 A) vwCl E A [sPD E aD abuffer aB aPr aC2 aV aHs aSl afilled D_buffered D_lastErrorAt, sBook E aB asettings asums aU aP aW B_time B_chest B_fund, sArrI E asettings 5 settings, sUsers E aU U, sWords E aW W] [some (.ref (aD 0)), some (.int x1), some (.int x2), some (.int x3), none] [] 6
  | 0, _, _, _, hf => by cases hf
  | n + 1, x1, x2, x3, hf => by
    have ih := ktX9_richest_L6 F aD abuffer aB aPr aC2 aV aHs aSl afilled asettings asums aU aP aW settings U W D_buffered D_lastErrorAt B_time B_chest B_fund r hk n
    rw [fX9_richest_L6] at hf
    refine g_iload_n F dX9_richest_6 rfl ?_
    refine g_aload_n F dX9_richest_7 rfl ?_
    refine g_get (C := RX9) (T := TX9) (N := 10) F 0 0 3 rfl rfl rfl iX9_richest_X9 (by decide) (by decide +kernel) rfl dX9_richest_8 ?_
    refine g_get (C := RX1) (T := TX1) (N := 8) F 1 0 2 rfl rfl rfl iX9_richest_X1 (by decide) (by decide +kernel) rfl dX9_richest_11 ?_
    refine g_get (C := RX7) (T := TX7) (N := 3) F 3 0 0 rfl rfl rfl iX9_richest_X7 (by decide) (by decide +kernel) rfl dX9_richest_14 ?_
    refine g_icmp_ge F 59 dX9_richest_17 (by decide) (fun hc_2 => ?_) (fun hc_2 => ?_)
    · replace hf := gi_t hc_2 hf
      refine g_mask [false, true, false, false, true] rfl ?_
      exact hk x1 hf
    · replace hf := gi_f hc_2 hf
      refine g_aload_n F dX9_richest_20 rfl ?_
      refine g_get (C := RX9) (T := TX9) (N := 10) F 0 0 3 rfl rfl rfl iX9_richest_X9 (by decide) (by decide +kernel) rfl dX9_richest_21 ?_
      refine g_get (C := RX1) (T := TX1) (N := 8) F 1 0 2 rfl rfl rfl iX9_richest_X1 (by decide) (by decide +kernel) rfl dX9_richest_24 ?_
      refine g_iload_n F dX9_richest_27 rfl ?_
      obtain ⟨r_1, hg_1, hf⟩ := gb1_el hf
      refine g_callV (C := RX7) (T := TX7) (N := 3) (Lr := [sPD E aD abuffer aB aPr aC2 aV aHs aSl afilled D_buffered D_lastErrorAt, sBook E aB asettings asums aU aP aW B_time B_chest B_fund, sArrI E asettings 5 settings, sWords E aW W]) (As := [.int x3]) (rest := []) F 3 0 1 (ctX7_coinsOf l E aU x3 U r_1 hg_1) gX9_richest_X7_coinsOf rfl rfl rfl h0X7_coinsOf ⟨Nat.le_of_ble_eq_true rfl, Nat.le_of_ble_eq_true rfl⟩ rfl rfl rfl [3] [0, 1, 2, 4] rfl rfl rfl rfl rfl rfl (Nat.le_of_ble_eq_true rfl) dX9_richest_28 ⟨(Nat.le_of_ble_eq_true rfl), (Nat.le_of_ble_eq_true rfl)⟩ ?_
      rintro v w ⟨rfl, rfl⟩
      refine g_norm (Lw' := [sPD E aD abuffer aB aPr aC2 aV aHs aSl afilled D_buffered D_lastErrorAt, sBook E aB asettings asums aU aP aW B_time B_chest B_fund, sArrI E asettings 5 settings, sUsers E aU U, sWords E aW W]) (st' := [.int r_1]) (pc' := 31) [1, 2, 3, 0, 4] rfl rfl rfl rfl ?_
      refine g_aload_n F dX9_richest_31 rfl ?_
      refine g_get (C := RX9) (T := TX9) (N := 10) F 0 0 3 rfl rfl rfl iX9_richest_X9 (by decide) (by decide +kernel) rfl dX9_richest_32 ?_
      refine g_iload_n F dX9_richest_35 rfl ?_
      obtain ⟨r_2, hg_2, hf⟩ := gb1_el hf
      refine g_callV (C := RX1) (T := TX1) (N := 8) (Lr := [sPD E aD abuffer aB aPr aC2 aV aHs aSl afilled D_buffered D_lastErrorAt, sUsers E aU U]) (As := [.int x3]) (rest := [.int r_1]) F 1 0 1 (ctX1_heldFor l E aB asettings asums aU aP aW x3 B_time B_chest B_fund settings W r_2 hg_2) gX9_richest_X1_heldFor rfl rfl rfl h0X1_heldFor ⟨Nat.le_of_ble_eq_true rfl, Nat.le_of_ble_eq_true rfl⟩ rfl rfl rfl [1, 2, 4] [0, 3] rfl rfl rfl rfl rfl rfl (Nat.le_of_ble_eq_true rfl) dX9_richest_36 ⟨(Nat.le_of_ble_eq_true rfl), (Nat.le_of_ble_eq_true rfl)⟩ ?_
      rintro v w ⟨rfl, rfl⟩
      refine g_norm (Lw' := [sPD E aD abuffer aB aPr aC2 aV aHs aSl afilled D_buffered D_lastErrorAt, sBook E aB asettings asums aU aP aW B_time B_chest B_fund, sArrI E asettings 5 settings, sUsers E aU U, sWords E aW W]) (st' := [.int r_2, .int r_1]) (pc' := 39) [3, 0, 1, 4, 2] rfl rfl rfl rfl ?_
      refine g_iadd F dX9_richest_39 ?_
      refine g_istore (lv' := [some (.ref (aD 0)), some (.int x1), some (.int x2), some (.int x3), some (.int (r_1 + r_2))]) F dX9_richest_40 (Nat.le_of_ble_eq_true rfl) rfl rfl ?_
      refine g_iload F dX9_richest_42 rfl ?_
      refine g_iload_n F dX9_richest_44 rfl ?_
      refine g_icmp_le F 53 dX9_richest_45 (by decide) (fun hc_1 => ?_) (fun hc_1 => ?_)
      · replace hf := gi_t hc_1 hf
        refine g_iinc (lv' := [some (.ref (aD 0)), some (.int x1), some (.int x2), some (.int (x3 + 1)), some (.int (r_1 + r_2))]) F (x3 + 1) dX9_richest_53 rfl rfl rfl rfl ?_
        refine g_goto F 6 dX9_richest_56 (by decide) ?_
        refine g_mask [true, true, true, true, false] rfl ?_
        exact ih x1 x2 (x3 + 1) hf
      · replace hf := gi_f hc_1 hf
        refine g_iload F dX9_richest_48 rfl ?_
        refine g_istore_n (lv' := [some (.ref (aD 0)), some (.int x1), some (.int (r_1 + r_2)), some (.int x3), some (.int (r_1 + r_2))]) F dX9_richest_50 (Nat.le_of_ble_eq_true rfl) rfl rfl ?_
        refine g_iload_n F dX9_richest_51 rfl ?_
        refine g_istore_n (lv' := [some (.ref (aD 0)), some (.int x3), some (.int (r_1 + r_2)), some (.int x3), some (.int (r_1 + r_2))]) F dX9_richest_52 (Nat.le_of_ble_eq_true rfl) rfl rfl ?_
        refine g_iinc (lv' := [some (.ref (aD 0)), some (.int x3), some (.int (r_1 + r_2)), some (.int (x3 + 1)), some (.int (r_1 + r_2))]) F (x3 + 1) dX9_richest_53 rfl rfl rfl rfl ?_
        refine g_goto F 6 dX9_richest_56 (by decide) ?_
        refine g_mask [true, true, true, true, false] rfl ?_
        exact ih x3 (r_1 + r_2) (x3 + 1) hf
set_option maxHeartbeats 4000000 in
set_option maxRecDepth 100000 in
theorem ctX9_richest (l : Launch) (E : gE) (aD abuffer aB aPr aC2 aV aHs aSl afilled asettings asums aU aP aW : Nat → Nat) (D_buffered : Int32) (D_lastErrorAt : Int32) (B_time : Int32) (B_chest : Int32) (B_fund : Int32) (settings : (Nat → Int32)) (U : tUsers) (W : tWords) (r : Int32) (hf : fX9_richest settings U W = some r) : gMet l yX9_richest wsX9_richest rmX9_richest vwCl E [.ref (aD 0)] [sPD E aD abuffer aB aPr aC2 aV aHs aSl afilled D_buffered D_lastErrorAt, sBook E aB asettings asums aU aP aW B_time B_chest B_fund, sArrI E asettings 5 settings, sUsers E aU U, sWords E aW W] (fun v w => v = some (.int r) ∧ w = [sPD E aD abuffer aB aPr aC2 aV aHs aSl afilled D_buffered D_lastErrorAt, sBook E aB asettings asums aU aP aW B_time B_chest B_fund, sArrI E asettings 5 settings, sUsers E aU U, sWords E aW W]) 0 0 := by
  refine g_entry [some (.ref (aD 0)), none, none, none, none] (by decide) rfl (Nat.le_of_ble_eq_true rfl) rfl ?_
  intro p e s m below meth c A F hnm
  unfold fX9_richest at hf
  refine g_iconst F (-1) dX9_richest_0 rfl ?_
  refine g_istore_n (lv' := [some (.ref (aD 0)), some (.int (-1)), none, none, none]) F dX9_richest_1 (Nat.le_of_ble_eq_true rfl) rfl rfl ?_
  refine g_iconst F (-1) dX9_richest_2 rfl ?_
  refine g_istore_n (lv' := [some (.ref (aD 0)), some (.int (-1)), some (.int (-1)), none, none]) F dX9_richest_3 (Nat.le_of_ble_eq_true rfl) rfl rfl ?_
  refine g_iconst F 0 dX9_richest_4 rfl ?_
  refine g_istore_n (lv' := [some (.ref (aD 0)), some (.int (-1)), some (.int (-1)), some (.int 0), none]) F dX9_richest_5 (Nat.le_of_ble_eq_true rfl) rfl rfl ?_
  refine ktX9_richest_L6 F aD abuffer aB aPr aC2 aV aHs aSl afilled asettings asums aU aP aW settings U W D_buffered D_lastErrorAt B_time B_chest B_fund r (fun x1_1 hf => ?_) FU (-1) (-1) 0 hf
  refine g_iload_n F dX9_richest_59 rfl ?_
  cases hf
  exact g_iret F rfl ⟨rfl, rfl⟩ dX9_richest_60
set_option maxHeartbeats 4000000 in
set_option maxRecDepth 100000 in
theorem ctX9_isWhole (l : Launch) (E : gE) (aD abuffer aB aPr aC2 aV aHs aSl afilled asettings asums aU aP aW : Nat → Nat) (D_buffered : Int32) (D_lastErrorAt : Int32) (B_time : Int32) (B_chest : Int32) (B_fund : Int32) (settings : (Nat → Int32)) (U : tUsers) (P : tPieces) (W : tWords) (r : Int32) (hf : fX9_isWhole B_fund settings U P W = some r) : gMet l yX9_isWhole wsX9_isWhole rmX9_isWhole vwCl E [.ref (aD 0)] [sPD E aD abuffer aB aPr aC2 aV aHs aSl afilled D_buffered D_lastErrorAt, sBook E aB asettings asums aU aP aW B_time B_chest B_fund, sArrI E asettings 5 settings, sUsers E aU U, sPieces E aP P, sWords E aW W] (fun v w => v = some (.int r) ∧ w = [sPD E aD abuffer aB aPr aC2 aV aHs aSl afilled D_buffered D_lastErrorAt, sBook E aB asettings asums aU aP aW B_time B_chest B_fund, sArrI E asettings 5 settings, sUsers E aU U, sPieces E aP P, sWords E aW W] ∧ narrow .boolean (.int r) = .int r) 0 0 := by
  refine g_entry [some (.ref (aD 0))] (by decide) rfl (Nat.le_of_ble_eq_true rfl) rfl ?_
  intro p e s m below meth c A F hnm
  unfold fX9_isWhole at hf
  refine g_aload_n F dX9_isWhole_0 rfl ?_
  refine g_get (C := RX9) (T := TX9) (N := 10) F 0 0 3 rfl rfl rfl iX9_isWhole_X9 (by decide) (by decide +kernel) rfl dX9_isWhole_1 ?_
  obtain ⟨r_1, hg_1, hf⟩ := gb1_el hf
  refine g_callV (C := RX1) (T := TX1) (N := 8) (Lr := [sPD E aD abuffer aB aPr aC2 aV aHs aSl afilled D_buffered D_lastErrorAt, sArrI E asettings 5 settings, sUsers E aU U]) (As := []) (rest := []) F 1 0 0 (ctX1_wordsAreMadeUp l E aB asettings asums aU aP aW B_time B_chest B_fund P W r_1 hg_1) gX9_isWhole_X1_wordsAreMadeUp rfl rfl rfl h0X1_wordsAreMadeUp ⟨Nat.le_of_ble_eq_true rfl, Nat.le_of_ble_eq_true rfl⟩ rfl rfl rfl [1, 4, 5] [0, 2, 3] rfl rfl rfl rfl rfl rfl (Nat.le_of_ble_eq_true rfl) dX9_isWhole_4 ⟨(Nat.le_of_ble_eq_true rfl), (Nat.le_of_ble_eq_true rfl)⟩ ?_
  rintro v w ⟨rfl, rfl, hz_1⟩
  refine g_norm (Lw' := [sPD E aD abuffer aB aPr aC2 aV aHs aSl afilled D_buffered D_lastErrorAt, sBook E aB asettings asums aU aP aW B_time B_chest B_fund, sArrI E asettings 5 settings, sUsers E aU U, sPieces E aP P, sWords E aW W]) (st' := [.int r_1]) (pc' := 7) [3, 0, 4, 5, 1, 2] rfl rfl rfl rfl ?_
  refine g_ifeq F 34 dX9_isWhole_7 (by decide) (fun hc_3 => ?_) (fun hc_3 => ?_)
  · replace hf := gi_t hc_3 hf
    refine g_iconst F 0 dX9_isWhole_34 rfl ?_
    cases hf
    exact g_zret (ty := .boolean) F rfl rfl ⟨rfl, rfl, rfl⟩ dX9_isWhole_35
  · replace hf := gi_f hc_3 hf
    refine g_aload_n F dX9_isWhole_10 rfl ?_
    refine g_get (C := RX9) (T := TX9) (N := 10) F 0 0 3 rfl rfl rfl iX9_isWhole_X9 (by decide) (by decide +kernel) rfl dX9_isWhole_11 ?_
    obtain ⟨r_2, hg_2, hf⟩ := gb1_el hf
    refine g_callV (C := RX1) (T := TX1) (N := 8) (Lr := [sPD E aD abuffer aB aPr aC2 aV aHs aSl afilled D_buffered D_lastErrorAt, sArrI E asettings 5 settings, sUsers E aU U]) (As := []) (rest := []) F 1 0 0 (ctX1_usesAreTrue l E aB asettings asums aU aP aW B_time B_chest B_fund P W r_2 hg_2) gX9_isWhole_X1_usesAreTrue rfl rfl rfl h0X1_usesAreTrue ⟨Nat.le_of_ble_eq_true rfl, Nat.le_of_ble_eq_true rfl⟩ rfl rfl rfl [1, 4, 5] [0, 2, 3] rfl rfl rfl rfl rfl rfl (Nat.le_of_ble_eq_true rfl) dX9_isWhole_14 ⟨(Nat.le_of_ble_eq_true rfl), (Nat.le_of_ble_eq_true rfl)⟩ ?_
    rintro v w ⟨rfl, rfl, hz_2⟩
    refine g_norm (Lw' := [sPD E aD abuffer aB aPr aC2 aV aHs aSl afilled D_buffered D_lastErrorAt, sBook E aB asettings asums aU aP aW B_time B_chest B_fund, sArrI E asettings 5 settings, sUsers E aU U, sPieces E aP P, sWords E aW W]) (st' := [.int r_2]) (pc' := 17) [3, 0, 4, 5, 1, 2] rfl rfl rfl rfl ?_
    refine g_ifeq F 34 dX9_isWhole_17 (by decide) (fun hc_2 => ?_) (fun hc_2 => ?_)
    · replace hf := gi_t hc_2 hf
      refine g_iconst F 0 dX9_isWhole_34 rfl ?_
      cases hf
      exact g_zret (ty := .boolean) F rfl rfl ⟨rfl, rfl, rfl⟩ dX9_isWhole_35
    · replace hf := gi_f hc_2 hf
      refine g_aload_n F dX9_isWhole_20 rfl ?_
      refine g_get (C := RX9) (T := TX9) (N := 10) F 0 0 3 rfl rfl rfl iX9_isWhole_X9 (by decide) (by decide +kernel) rfl dX9_isWhole_21 ?_
      obtain ⟨r_3, hg_3, hf⟩ := gb1_el hf
      refine g_callV (C := RX1) (T := TX1) (N := 8) (Lr := [sPD E aD abuffer aB aPr aC2 aV aHs aSl afilled D_buffered D_lastErrorAt, sPieces E aP P]) (As := []) (rest := []) F 1 0 0 (ctX1_fundIsTrue l E aB asettings asums aU aP aW B_time B_chest B_fund settings U W r_3 hg_3) gX9_isWhole_X1_fundIsTrue rfl rfl rfl h0X1_fundIsTrue ⟨Nat.le_of_ble_eq_true rfl, Nat.le_of_ble_eq_true rfl⟩ rfl rfl rfl [1, 2, 3, 5] [0, 4] rfl rfl rfl rfl rfl rfl (Nat.le_of_ble_eq_true rfl) dX9_isWhole_24 ⟨(Nat.le_of_ble_eq_true rfl), (Nat.le_of_ble_eq_true rfl)⟩ ?_
      rintro v w ⟨rfl, rfl, hz_3⟩
      refine g_norm (Lw' := [sPD E aD abuffer aB aPr aC2 aV aHs aSl afilled D_buffered D_lastErrorAt, sBook E aB asettings asums aU aP aW B_time B_chest B_fund, sArrI E asettings 5 settings, sUsers E aU U, sPieces E aP P, sWords E aW W]) (st' := [.int r_3]) (pc' := 27) [4, 0, 1, 2, 5, 3] rfl rfl rfl rfl ?_
      refine g_ifeq F 34 dX9_isWhole_27 (by decide) (fun hc_1 => ?_) (fun hc_1 => ?_)
      · replace hf := gi_t hc_1 hf
        refine g_iconst F 0 dX9_isWhole_34 rfl ?_
        cases hf
        exact g_zret (ty := .boolean) F rfl rfl ⟨rfl, rfl, rfl⟩ dX9_isWhole_35
      · replace hf := gi_f hc_1 hf
        refine g_iconst F 1 dX9_isWhole_30 rfl ?_
        refine g_goto F 35 dX9_isWhole_31 (by decide) ?_
        cases hf
        exact g_zret (ty := .boolean) F rfl rfl ⟨rfl, rfl, rfl⟩ dX9_isWhole_35
set_option maxHeartbeats 4000000 in
set_option maxRecDepth 100000 in
theorem ctX9_account (l : Launch) (E : gE) (aD abuffer aB aPr aC2 aV aHs aSl afilled asettings asums aU aP aW : Nat → Nat) (x1 : Int32) (D_buffered : Int32) (D_lastErrorAt : Int32) (B_time : Int32) (B_chest : Int32) (B_fund : Int32) (sums : (Nat → Int32)) (r : Int32) (hf : fX9_account x1 sums = some r) : gMet l yX9_account wsX9_account rmX9_account vwCl E [.ref (aD 0), .int x1] [sPD E aD abuffer aB aPr aC2 aV aHs aSl afilled D_buffered D_lastErrorAt, sBook E aB asettings asums aU aP aW B_time B_chest B_fund, sArrI E asums 6 sums] (fun v w => v = some (.int r) ∧ w = [sPD E aD abuffer aB aPr aC2 aV aHs aSl afilled D_buffered D_lastErrorAt, sBook E aB asettings asums aU aP aW B_time B_chest B_fund, sArrI E asums 6 sums]) 0 0 := by
  refine g_entry [some (.ref (aD 0)), some (.int x1)] (by decide) rfl (Nat.le_of_ble_eq_true rfl) rfl ?_
  intro p e s m below meth c A F hnm
  unfold fX9_account at hf
  refine g_aload_n F dX9_account_0 rfl ?_
  refine g_iload_n F dX9_account_1 rfl ?_
  refine g_bipush F 6 dX9_account_2 rfl ?_
  obtain ⟨hg_1, hf⟩ := gb0_el hf
  refine g_callV (C := RX9) (T := TX9) (N := 10) (Lr := [sPD E aD abuffer aB aPr aC2 aV aHs aSl afilled D_buffered D_lastErrorAt, sBook E aB asettings asums aU aP aW B_time B_chest B_fund, sArrI E asums 6 sums]) (As := [.int x1, .int 6]) (rest := []) F 0 0 2 (ctX9_requireBelow l E aD x1 6 hg_1) gX9_account_X9_requireBelow rfl rfl rfl h0X9_requireBelow ⟨Nat.le_of_ble_eq_true rfl, Nat.le_of_ble_eq_true rfl⟩ rfl rfl rfl [] [0, 1, 2] rfl rfl rfl rfl rfl rfl (Nat.le_of_ble_eq_true rfl) dX9_account_4 ⟨(Nat.le_of_ble_eq_true rfl), (Nat.le_of_ble_eq_true rfl)⟩ ?_
  rintro v w ⟨rfl, rfl⟩
  refine g_norm (Lw' := [sPD E aD abuffer aB aPr aC2 aV aHs aSl afilled D_buffered D_lastErrorAt, sBook E aB asettings asums aU aP aW B_time B_chest B_fund, sArrI E asums 6 sums]) (st' := []) (pc' := 7) [0, 1, 2] rfl rfl rfl rfl ?_
  refine g_aload_n F dX9_account_7 rfl ?_
  refine g_get (C := RX9) (T := TX9) (N := 10) F 0 0 3 rfl rfl rfl iX9_account_X9 (by decide) (by decide +kernel) rfl dX9_account_8 ?_
  refine g_get (C := RX1) (T := TX1) (N := 8) F 1 0 1 rfl rfl rfl iX9_account_X1 (by decide) (by decide +kernel) rfl dX9_account_11 ?_
  refine g_iload_n F dX9_account_14 rfl ?_
  obtain ⟨hb_1, hf⟩ := gb_in hf
  refine g_iald F 2 0 (x1.toNatClampNeg) rfl rfl rfl hb_1 dX9_account_15 ?_
  cases hf
  exact g_iret F rfl ⟨rfl, rfl⟩ dX9_account_16
set_option maxHeartbeats 4000000 in
set_option maxRecDepth 100000 in
theorem ctX9_store (l : Launch) (E : gE) (aD abuffer aB aPr aC2 aV aHs aSl afilled asettings asums aU aP aW aS2 : Nat → Nat) (x1 : Int32) (D_buffered : Int32) (D_lastErrorAt : Int32) (buffer : (Nat → Int32)) (B_time : Int32) (B_chest : Int32) (B_fund : Int32) (settings : (Nat → Int32)) (sums : (Nat → Int32)) (U : tUsers) (P : tPieces) (W : tWords) (C2 : tCut) (S2 : tCutR) (Hs : tHist) (r : Int32) (D_buffered' : Int32) (B_chest' : Int32) (B_fund' : Int32) (sums' : (Nat → Int32)) (U' : tUsers) (P' : tPieces) (W' : tWords) (C2' : tCut) (S2' : tCutR) (Hs' : tHist) (hf : fX9_store x1 D_buffered buffer B_time B_chest B_fund settings sums U P W C2 S2 Hs = some (r, D_buffered', B_chest', B_fund', sums', U', P', W', C2', S2', Hs')) : gMet l yX9_store wsX9_store rmX9_store vwCl E [.ref (aD 0), .int x1] [sPD E aD abuffer aB aPr aC2 aV aHs aSl afilled D_buffered D_lastErrorAt, sArrB E abuffer 600 buffer, sBook E aB asettings asums aU aP aW B_time B_chest B_fund, sArrI E asettings 5 settings, sArrI E asums 6 sums, sUsers E aU U, sPieces E aP P, sWords E aW W, sCut E aC2 aS2 C2, sCutR E aS2 S2, sHist E aHs Hs] (fun v w => v = some (.int r) ∧ w = [sPD E aD abuffer aB aPr aC2 aV aHs aSl afilled D_buffered' D_lastErrorAt, sArrB E abuffer 600 buffer, sBook E aB asettings asums aU aP aW B_time B_chest' B_fund', sArrI E asettings 5 settings, sArrI E asums 6 sums', sUsers E aU U', sPieces E aP P', sWords E aW W', sCut E aC2 aS2 C2', sCutR E aS2 S2', sHist E aHs Hs']) 0 0 := by
  refine g_entry [some (.ref (aD 0)), some (.int x1), none, none] (by decide) rfl (Nat.le_of_ble_eq_true rfl) rfl ?_
  intro p e s m below meth c A F hnm
  unfold fX9_store at hf
  refine g_aload_n F dX9_store_0 rfl ?_
  obtain ⟨r_1, D_buffered_1, hg_1, hf⟩ := gb2_el hf
  refine g_callV (C := RX9) (T := TX9) (N := 10) (Lr := [sBook E aB asettings asums aU aP aW B_time B_chest B_fund, sArrI E asettings 5 settings, sArrI E asums 6 sums, sUsers E aU U, sPieces E aP P, sWords E aW W, sCut E aC2 aS2 C2, sCutR E aS2 S2, sHist E aHs Hs]) (As := []) (rest := []) F 0 0 0 (ctX9_takeWord l E aD abuffer aB aPr aC2 aV aHs aSl afilled D_buffered D_lastErrorAt buffer r_1 D_buffered_1 hg_1) gX9_store_X9_takeWord rfl rfl rfl h0X9_takeWord ⟨Nat.le_of_ble_eq_true rfl, Nat.le_of_ble_eq_true rfl⟩ rfl rfl rfl [0, 1] [2, 3, 4, 5, 6, 7, 8, 9, 10] rfl rfl rfl rfl rfl rfl (Nat.le_of_ble_eq_true rfl) dX9_store_1 ⟨(Nat.le_of_ble_eq_true rfl), (Nat.le_of_ble_eq_true rfl)⟩ ?_
  rintro v w ⟨rfl, rfl⟩
  refine g_norm (Lw' := [sPD E aD abuffer aB aPr aC2 aV aHs aSl afilled D_buffered_1 D_lastErrorAt, sArrB E abuffer 600 buffer, sBook E aB asettings asums aU aP aW B_time B_chest B_fund, sArrI E asettings 5 settings, sArrI E asums 6 sums, sUsers E aU U, sPieces E aP P, sWords E aW W, sCut E aC2 aS2 C2, sCutR E aS2 S2, sHist E aHs Hs]) (st' := [.long r_1]) (pc' := 4) [0, 1, 2, 3, 4, 5, 6, 7, 8, 9, 10] rfl rfl rfl rfl ?_
  refine g_lstore_n (lv' := [some (.ref (aD 0)), some (.int x1), some (.long r_1), none]) F dX9_store_4 (Nat.le_of_ble_eq_true rfl) rfl rfl ?_
  refine g_aload_n F dX9_store_5 rfl ?_
  refine g_iload_n F dX9_store_6 rfl ?_
  obtain ⟨hg_2, hf⟩ := gb0_el hf
  refine g_callV (C := RX9) (T := TX9) (N := 10) (Lr := [sArrB E abuffer 600 buffer, sArrI E asettings 5 settings, sArrI E asums 6 sums, sPieces E aP P, sWords E aW W, sCut E aC2 aS2 C2, sCutR E aS2 S2, sHist E aHs Hs]) (As := [.int x1]) (rest := []) F 0 0 1 (ctX9_requireUser l E aD abuffer aB aPr aC2 aV aHs aSl afilled asettings asums aU aP aW x1 D_buffered_1 D_lastErrorAt B_time B_chest B_fund U hg_2) gX9_store_X9_requireUser rfl rfl rfl h0X9_requireUser ⟨Nat.le_of_ble_eq_true rfl, Nat.le_of_ble_eq_true rfl⟩ rfl rfl rfl [0, 2, 5] [1, 3, 4, 6, 7, 8, 9, 10] rfl rfl rfl rfl rfl rfl (Nat.le_of_ble_eq_true rfl) dX9_store_7 ⟨(Nat.le_of_ble_eq_true rfl), (Nat.le_of_ble_eq_true rfl)⟩ ?_
  rintro v w ⟨rfl, rfl⟩
  refine g_norm (Lw' := [sPD E aD abuffer aB aPr aC2 aV aHs aSl afilled D_buffered_1 D_lastErrorAt, sArrB E abuffer 600 buffer, sBook E aB asettings asums aU aP aW B_time B_chest B_fund, sArrI E asettings 5 settings, sArrI E asums 6 sums, sUsers E aU U, sPieces E aP P, sWords E aW W, sCut E aC2 aS2 C2, sCutR E aS2 S2, sHist E aHs Hs]) (st' := []) (pc' := 10) [0, 3, 1, 4, 5, 2, 6, 7, 8, 9, 10] rfl rfl rfl rfl ?_
  refine g_lload_n F dX9_store_10 rfl ?_
  refine g_lconst F 0 dX9_store_11 rfl ?_
  refine g_lcmp F dX9_store_12 ?_
  refine g_ifne F 24 dX9_store_13 (by decide) (fun hc_2 => ?_) (fun hc_2 => ?_)
  · replace hf := gi_f hc_2 hf
    refine g_aload_n F dX9_store_24 rfl ?_
    refine g_get (C := RX9) (T := TX9) (N := 10) F 0 0 5 rfl rfl rfl iX9_store_X9 (by decide) (by decide +kernel) rfl dX9_store_25 ?_
    refine g_aload_n F dX9_store_28 rfl ?_
    refine g_get (C := RX9) (T := TX9) (N := 10) F 0 0 3 rfl rfl rfl iX9_store_X9 (by decide) (by decide +kernel) rfl dX9_store_29 ?_
    refine g_lload_n F dX9_store_32 rfl ?_
    obtain ⟨C2_1, S2_1, hg_3, hf⟩ := gb2_el hf
    refine g_callV (C := RX2) (T := TX2) (N := 12) (Lr := [sPD E aD abuffer aB aPr aC2 aV aHs aSl afilled D_buffered_1 D_lastErrorAt, sArrB E abuffer 600 buffer, sArrI E asums 6 sums, sUsers E aU U, sWords E aW W, sHist E aHs Hs]) (As := [.ref (aB 0), .long r_1]) (rest := []) F 8 0 2 (ctX2_cutCheapest l E aC2 aS2 aB asettings asums aU aP aW r_1 C2 S2 B_time B_chest B_fund settings P C2_1 S2_1 hg_3) gX9_store_X2_cutCheapest rfl rfl rfl h0X2_cutCheapest ⟨Nat.le_of_ble_eq_true rfl, Nat.le_of_ble_eq_true rfl⟩ rfl rfl rfl [8, 9, 2, 3, 6] [0, 1, 4, 5, 7, 10] rfl rfl rfl rfl rfl rfl (Nat.le_of_ble_eq_true rfl) dX9_store_33 ⟨(Nat.le_of_ble_eq_true rfl), (Nat.le_of_ble_eq_true rfl)⟩ ?_
    rintro v w ⟨rfl, rfl⟩
    refine g_norm (Lw' := [sPD E aD abuffer aB aPr aC2 aV aHs aSl afilled D_buffered_1 D_lastErrorAt, sArrB E abuffer 600 buffer, sBook E aB asettings asums aU aP aW B_time B_chest B_fund, sArrI E asettings 5 settings, sArrI E asums 6 sums, sUsers E aU U, sPieces E aP P, sWords E aW W, sCut E aC2 aS2 C2_1, sCutR E aS2 S2_1, sHist E aHs Hs]) (st' := []) (pc' := 36) [5, 6, 2, 3, 7, 8, 4, 9, 0, 1, 10] rfl rfl rfl rfl ?_
    refine g_aload_n F dX9_store_36 rfl ?_
    refine g_get (C := RX9) (T := TX9) (N := 10) F 0 0 3 rfl rfl rfl iX9_store_X9 (by decide) (by decide +kernel) rfl dX9_store_37 ?_
    refine g_iload_n F dX9_store_40 rfl ?_
    refine g_aload_n F dX9_store_41 rfl ?_
    refine g_get (C := RX9) (T := TX9) (N := 10) F 0 0 5 rfl rfl rfl iX9_store_X9 (by decide) (by decide +kernel) rfl dX9_store_42 ?_
    obtain ⟨r_2, hg_4, hf⟩ := gb1_el hf
    refine g_callV (C := RX1) (T := TX1) (N := 8) (Lr := [sPD E aD abuffer aB aPr aC2 aV aHs aSl afilled D_buffered_1 D_lastErrorAt, sArrB E abuffer 600 buffer, sArrI E asums 6 sums, sCutR E aS2 S2_1, sHist E aHs Hs]) (As := [.int x1, .ref (aC2 0)]) (rest := []) F 2 0 2 (ctX1_refusal l E aB asettings asums aU aP aW aC2 aS2 x1 B_time B_chest B_fund settings U P W C2_1 r_2 hg_4) gX9_store_X1_refusal rfl rfl rfl h0X1_refusal ⟨Nat.le_of_ble_eq_true rfl, Nat.le_of_ble_eq_true rfl⟩ rfl rfl rfl [2, 3, 5, 6, 7, 8] [0, 1, 4, 9, 10] rfl rfl rfl rfl rfl rfl (Nat.le_of_ble_eq_true rfl) dX9_store_45 ⟨(Nat.le_of_ble_eq_true rfl), (Nat.le_of_ble_eq_true rfl)⟩ ?_
    rintro v w ⟨rfl, rfl⟩
    refine g_norm (Lw' := [sPD E aD abuffer aB aPr aC2 aV aHs aSl afilled D_buffered_1 D_lastErrorAt, sArrB E abuffer 600 buffer, sBook E aB asettings asums aU aP aW B_time B_chest B_fund, sArrI E asettings 5 settings, sArrI E asums 6 sums, sUsers E aU U, sPieces E aP P, sWords E aW W, sCut E aC2 aS2 C2_1, sCutR E aS2 S2_1, sHist E aHs Hs]) (st' := [.int r_2]) (pc' := 48) [6, 7, 0, 1, 8, 2, 3, 4, 5, 9, 10] rfl rfl rfl rfl ?_
    refine g_ifeq F 59 dX9_store_48 (by decide) (fun hc_1 => ?_) (fun hc_1 => ?_)
    · replace hf := gi_t hc_1 hf
      refine g_aload_n F dX9_store_59 rfl ?_
      refine g_get (C := RX9) (T := TX9) (N := 10) F 0 0 7 rfl rfl rfl iX9_store_X9 (by decide) (by decide +kernel) rfl dX9_store_60 ?_
      refine g_aload_n F dX9_store_63 rfl ?_
      refine g_get (C := RX9) (T := TX9) (N := 10) F 0 0 3 rfl rfl rfl iX9_store_X9 (by decide) (by decide +kernel) rfl dX9_store_64 ?_
      obtain ⟨Hs_1, hg_5, hf⟩ := gb1_el hf
      refine g_callV (C := RX3) (T := TX3) (N := 2) (Lr := [sPD E aD abuffer aB aPr aC2 aV aHs aSl afilled D_buffered_1 D_lastErrorAt, sArrB E abuffer 600 buffer, sCut E aC2 aS2 C2_1, sCutR E aS2 S2_1]) (As := [.ref (aB 0)]) (rest := []) F 10 0 1 (ctX3_keep l E aHs aB asettings asums aU aP aW Hs B_time B_chest B_fund settings sums U P W Hs_1 hg_5) gX9_store_X3_keep rfl rfl rfl h0X3_keep ⟨Nat.le_of_ble_eq_true rfl, Nat.le_of_ble_eq_true rfl⟩ rfl rfl rfl [10, 2, 3, 4, 5, 6, 7] [0, 1, 8, 9] rfl rfl rfl rfl rfl rfl (Nat.le_of_ble_eq_true rfl) dX9_store_67 ⟨(Nat.le_of_ble_eq_true rfl), (Nat.le_of_ble_eq_true rfl)⟩ ?_
      rintro v w ⟨rfl, rfl⟩
      refine g_norm (Lw' := [sPD E aD abuffer aB aPr aC2 aV aHs aSl afilled D_buffered_1 D_lastErrorAt, sArrB E abuffer 600 buffer, sBook E aB asettings asums aU aP aW B_time B_chest B_fund, sArrI E asettings 5 settings, sArrI E asums 6 sums, sUsers E aU U, sPieces E aP P, sWords E aW W, sCut E aC2 aS2 C2_1, sCutR E aS2 S2_1, sHist E aHs Hs_1]) (st' := []) (pc' := 70) [7, 8, 1, 2, 3, 4, 5, 6, 9, 10, 0] rfl rfl rfl rfl ?_
      refine g_aload_n F dX9_store_70 rfl ?_
      refine g_get (C := RX9) (T := TX9) (N := 10) F 0 0 3 rfl rfl rfl iX9_store_X9 (by decide) (by decide +kernel) rfl dX9_store_71 ?_
      refine g_iload_n F dX9_store_74 rfl ?_
      refine g_lload_n F dX9_store_75 rfl ?_
      refine g_aload_n F dX9_store_76 rfl ?_
      refine g_get (C := RX9) (T := TX9) (N := 10) F 0 0 5 rfl rfl rfl iX9_store_X9 (by decide) (by decide +kernel) rfl dX9_store_77 ?_
      obtain ⟨r_3, B_chest_1, B_fund_1, sums_1, U_1, P_1, W_1, hg_6, hf⟩ := gb7_el hf
      refine g_callV (C := RX1) (T := TX1) (N := 8) (Lr := [sPD E aD abuffer aB aPr aC2 aV aHs aSl afilled D_buffered_1 D_lastErrorAt, sArrB E abuffer 600 buffer, sCutR E aS2 S2_1, sHist E aHs Hs_1]) (As := [.int x1, .long r_1, .ref (aC2 0)]) (rest := []) F 2 0 3 (ctX1_storeCutting l E aB asettings asums aU aP aW aC2 aS2 x1 r_1 B_time B_chest B_fund settings sums U P W C2_1 r_3 B_chest_1 B_fund_1 sums_1 U_1 P_1 W_1 hg_6) gX9_store_X1_storeCutting rfl rfl rfl h0X1_storeCutting ⟨Nat.le_of_ble_eq_true rfl, Nat.le_of_ble_eq_true rfl⟩ rfl rfl rfl [2, 3, 4, 5, 6, 7, 8] [0, 1, 9, 10] rfl rfl rfl rfl rfl rfl (Nat.le_of_ble_eq_true rfl) dX9_store_80 ⟨(Nat.le_of_ble_eq_true rfl), (Nat.le_of_ble_eq_true rfl)⟩ ?_
      rintro v w ⟨rfl, rfl⟩
      refine g_norm (Lw' := [sPD E aD abuffer aB aPr aC2 aV aHs aSl afilled D_buffered_1 D_lastErrorAt, sArrB E abuffer 600 buffer, sBook E aB asettings asums aU aP aW B_time B_chest_1 B_fund_1, sArrI E asettings 5 settings, sArrI E asums 6 sums_1, sUsers E aU U_1, sPieces E aP P_1, sWords E aW W_1, sCut E aC2 aS2 C2_1, sCutR E aS2 S2_1, sHist E aHs Hs_1]) (st' := [.int r_3]) (pc' := 83) [7, 8, 0, 1, 2, 3, 4, 5, 6, 9, 10] rfl rfl rfl rfl ?_
      cases hf
      exact g_iret F rfl ⟨rfl, rfl⟩ dX9_store_83
    · replace hf := gi_f hc_1 hf
      cases hf
  · replace hf := gi_t hc_2 hf
    cases hf
set_option maxHeartbeats 4000000 in
set_option maxRecDepth 100000 in
theorem ctX9_remove (l : Launch) (E : gE) (aD abuffer aB aPr aC2 aV aHs aSl afilled asettings asums aU aP aW : Nat → Nat) (x1 : Int32) (D_buffered : Int32) (D_lastErrorAt : Int32) (B_time : Int32) (B_chest : Int32) (B_fund : Int32) (settings : (Nat → Int32)) (sums : (Nat → Int32)) (U : tUsers) (P : tPieces) (W : tWords) (Hs : tHist) (r : Int32) (B_fund' : Int32) (sums' : (Nat → Int32)) (U' : tUsers) (P' : tPieces) (W' : tWords) (Hs' : tHist) (hf : fX9_remove x1 B_time B_chest B_fund settings sums U P W Hs = some (r, B_fund', sums', U', P', W', Hs')) : gMet l yX9_remove wsX9_remove rmX9_remove vwCl E [.ref (aD 0), .int x1] [sPD E aD abuffer aB aPr aC2 aV aHs aSl afilled D_buffered D_lastErrorAt, sBook E aB asettings asums aU aP aW B_time B_chest B_fund, sArrI E asettings 5 settings, sArrI E asums 6 sums, sUsers E aU U, sPieces E aP P, sWords E aW W, sHist E aHs Hs] (fun v w => v = some (.int r) ∧ w = [sPD E aD abuffer aB aPr aC2 aV aHs aSl afilled D_buffered D_lastErrorAt, sBook E aB asettings asums aU aP aW B_time B_chest B_fund', sArrI E asettings 5 settings, sArrI E asums 6 sums', sUsers E aU U', sPieces E aP P', sWords E aW W', sHist E aHs Hs']) 0 0 := by
  refine g_entry [some (.ref (aD 0)), some (.int x1), none] (by decide) rfl (Nat.le_of_ble_eq_true rfl) rfl ?_
  intro p e s m below meth c A F hnm
  unfold fX9_remove at hf
  refine g_aload_n F dX9_remove_0 rfl ?_
  refine g_iload_n F dX9_remove_1 rfl ?_
  obtain ⟨hg_1, hf⟩ := gb0_el hf
  refine g_callV (C := RX9) (T := TX9) (N := 10) (Lr := [sArrI E asettings 5 settings, sArrI E asums 6 sums, sUsers E aU U, sPieces E aP P, sHist E aHs Hs]) (As := [.int x1]) (rest := []) F 0 0 1 (ctX9_requireWord l E aD abuffer aB aPr aC2 aV aHs aSl afilled asettings asums aU aP aW x1 D_buffered D_lastErrorAt B_time B_chest B_fund W hg_1) gX9_remove_X9_requireWord rfl rfl rfl h0X9_requireWord ⟨Nat.le_of_ble_eq_true rfl, Nat.le_of_ble_eq_true rfl⟩ rfl rfl rfl [0, 1, 6] [2, 3, 4, 5, 7] rfl rfl rfl rfl rfl rfl (Nat.le_of_ble_eq_true rfl) dX9_remove_2 ⟨(Nat.le_of_ble_eq_true rfl), (Nat.le_of_ble_eq_true rfl)⟩ ?_
  rintro v w ⟨rfl, rfl⟩
  refine g_norm (Lw' := [sPD E aD abuffer aB aPr aC2 aV aHs aSl afilled D_buffered D_lastErrorAt, sBook E aB asettings asums aU aP aW B_time B_chest B_fund, sArrI E asettings 5 settings, sArrI E asums 6 sums, sUsers E aU U, sPieces E aP P, sWords E aW W, sHist E aHs Hs]) (st' := []) (pc' := 5) [0, 1, 3, 4, 5, 6, 2, 7] rfl rfl rfl rfl ?_
  refine g_aload_n F dX9_remove_5 rfl ?_
  refine g_get (C := RX9) (T := TX9) (N := 10) F 0 0 7 rfl rfl rfl iX9_remove_X9 (by decide) (by decide +kernel) rfl dX9_remove_6 ?_
  refine g_aload_n F dX9_remove_9 rfl ?_
  refine g_get (C := RX9) (T := TX9) (N := 10) F 0 0 3 rfl rfl rfl iX9_remove_X9 (by decide) (by decide +kernel) rfl dX9_remove_10 ?_
  obtain ⟨Hs_1, hg_2, hf⟩ := gb1_el hf
  refine g_callV (C := RX3) (T := TX3) (N := 2) (Lr := [sPD E aD abuffer aB aPr aC2 aV aHs aSl afilled D_buffered D_lastErrorAt]) (As := [.ref (aB 0)]) (rest := []) F 7 0 1 (ctX3_keep l E aHs aB asettings asums aU aP aW Hs B_time B_chest B_fund settings sums U P W Hs_1 hg_2) gX9_remove_X3_keep rfl rfl rfl h0X3_keep ⟨Nat.le_of_ble_eq_true rfl, Nat.le_of_ble_eq_true rfl⟩ rfl rfl rfl [7, 1, 2, 3, 4, 5, 6] [0] rfl rfl rfl rfl rfl rfl (Nat.le_of_ble_eq_true rfl) dX9_remove_13 ⟨(Nat.le_of_ble_eq_true rfl), (Nat.le_of_ble_eq_true rfl)⟩ ?_
  rintro v w ⟨rfl, rfl⟩
  refine g_norm (Lw' := [sPD E aD abuffer aB aPr aC2 aV aHs aSl afilled D_buffered D_lastErrorAt, sBook E aB asettings asums aU aP aW B_time B_chest B_fund, sArrI E asettings 5 settings, sArrI E asums 6 sums, sUsers E aU U, sPieces E aP P, sWords E aW W, sHist E aHs Hs_1]) (st' := []) (pc' := 16) [7, 1, 2, 3, 4, 5, 6, 0] rfl rfl rfl rfl ?_
  refine g_aload_n F dX9_remove_16 rfl ?_
  refine g_get (C := RX9) (T := TX9) (N := 10) F 0 0 3 rfl rfl rfl iX9_remove_X9 (by decide) (by decide +kernel) rfl dX9_remove_17 ?_
  refine g_get (C := RX1) (T := TX1) (N := 8) F 1 0 4 rfl rfl rfl iX9_remove_X1 (by decide) (by decide +kernel) rfl dX9_remove_20 ?_
  refine g_get (C := RX8) (T := TX8) (N := 5) F 6 0 2 rfl rfl rfl iX9_remove_X8 (by decide) (by decide +kernel) rfl dX9_remove_23 ?_
  refine g_iload_n F dX9_remove_26 rfl ?_
  obtain ⟨hb_1, hf⟩ := gb_in hf
  refine g_iald F 6 2 (x1.toNatClampNeg) rfl rfl rfl hb_1 dX9_remove_27 ?_
  refine g_istore_n (lv' := [some (.ref (aD 0)), some (.int x1), some (.int (W.2.2.1 (x1.toNatClampNeg)))]) F dX9_remove_28 (Nat.le_of_ble_eq_true rfl) rfl rfl ?_
  refine g_aload_n F dX9_remove_29 rfl ?_
  refine g_get (C := RX9) (T := TX9) (N := 10) F 0 0 3 rfl rfl rfl iX9_remove_X9 (by decide) (by decide +kernel) rfl dX9_remove_30 ?_
  refine g_iload_n F dX9_remove_33 rfl ?_
  obtain ⟨B_fund_1, sums_1, U_1, P_1, W_1, hg_3, hf⟩ := gb5_el hf
  refine g_callV (C := RX1) (T := TX1) (N := 8) (Lr := [sPD E aD abuffer aB aPr aC2 aV aHs aSl afilled D_buffered D_lastErrorAt, sHist E aHs Hs_1]) (As := [.int x1]) (rest := []) F 1 0 1 (ctX1_endWord l E aB asettings asums aU aP aW x1 B_time B_chest B_fund settings sums U P W B_fund_1 sums_1 U_1 P_1 W_1 hg_3) gX9_remove_X1_endWord rfl rfl rfl h0X1_endWord ⟨Nat.le_of_ble_eq_true rfl, Nat.le_of_ble_eq_true rfl⟩ rfl rfl rfl [1, 2, 3, 4, 5, 6] [0, 7] rfl rfl rfl rfl rfl rfl (Nat.le_of_ble_eq_true rfl) dX9_remove_34 ⟨(Nat.le_of_ble_eq_true rfl), (Nat.le_of_ble_eq_true rfl)⟩ ?_
  rintro v w ⟨rfl, rfl⟩
  refine g_norm (Lw' := [sPD E aD abuffer aB aPr aC2 aV aHs aSl afilled D_buffered D_lastErrorAt, sBook E aB asettings asums aU aP aW B_time B_chest B_fund_1, sArrI E asettings 5 settings, sArrI E asums 6 sums_1, sUsers E aU U_1, sPieces E aP P_1, sWords E aW W_1, sHist E aHs Hs_1]) (st' := []) (pc' := 37) [6, 0, 1, 2, 3, 4, 5, 7] rfl rfl rfl rfl ?_
  refine g_aload_n F dX9_remove_37 rfl ?_
  refine g_get (C := RX9) (T := TX9) (N := 10) F 0 0 3 rfl rfl rfl iX9_remove_X9 (by decide) (by decide +kernel) rfl dX9_remove_38 ?_
  refine g_get (C := RX1) (T := TX1) (N := 8) F 1 0 2 rfl rfl rfl iX9_remove_X1 (by decide) (by decide +kernel) rfl dX9_remove_41 ?_
  refine g_iload_n F dX9_remove_44 rfl ?_
  obtain ⟨r_1, hg_4, hf⟩ := gb1_el hf
  refine g_callV (C := RX7) (T := TX7) (N := 3) (Lr := [sPD E aD abuffer aB aPr aC2 aV aHs aSl afilled D_buffered D_lastErrorAt, sBook E aB asettings asums aU aP aW B_time B_chest B_fund_1, sArrI E asettings 5 settings, sArrI E asums 6 sums_1, sPieces E aP P_1, sWords E aW W_1, sHist E aHs Hs_1]) (As := [.int (W.2.2.1 (x1.toNatClampNeg))]) (rest := []) F 4 0 1 (ctX7_coinsOf l E aU (W.2.2.1 (x1.toNatClampNeg)) U_1 r_1 hg_4) gX9_remove_X7_coinsOf rfl rfl rfl h0X7_coinsOf ⟨Nat.le_of_ble_eq_true rfl, Nat.le_of_ble_eq_true rfl⟩ rfl rfl rfl [4] [0, 1, 2, 3, 5, 6, 7] rfl rfl rfl rfl rfl rfl (Nat.le_of_ble_eq_true rfl) dX9_remove_45 ⟨(Nat.le_of_ble_eq_true rfl), (Nat.le_of_ble_eq_true rfl)⟩ ?_
  rintro v w ⟨rfl, rfl⟩
  refine g_norm (Lw' := [sPD E aD abuffer aB aPr aC2 aV aHs aSl afilled D_buffered D_lastErrorAt, sBook E aB asettings asums aU aP aW B_time B_chest B_fund_1, sArrI E asettings 5 settings, sArrI E asums 6 sums_1, sUsers E aU U_1, sPieces E aP P_1, sWords E aW W_1, sHist E aHs Hs_1]) (st' := [.int r_1]) (pc' := 48) [1, 2, 3, 4, 0, 5, 6, 7] rfl rfl rfl rfl ?_
  cases hf
  exact g_iret F rfl ⟨rfl, rfl⟩ dX9_remove_48
set_option maxHeartbeats 4000000 in
set_option maxRecDepth 100000 in
theorem ctX9_recut (l : Launch) (E : gE) (aD abuffer aB aPr aC2 aV aHs aSl afilled asettings asums aU aP aW aS2 : Nat → Nat) (x1 : Int32) (D_buffered : Int32) (D_lastErrorAt : Int32) (B_time : Int32) (B_chest : Int32) (B_fund : Int32) (settings : (Nat → Int32)) (sums : (Nat → Int32)) (U : tUsers) (P : tPieces) (W : tWords) (C2 : tCut) (S2 : tCutR) (Hs : tHist) (r : Int32) (B_fund' : Int32) (sums' : (Nat → Int32)) (U' : tUsers) (P' : tPieces) (W' : tWords) (C2' : tCut) (S2' : tCutR) (Hs' : tHist) (hf : fX9_recut x1 B_time B_chest B_fund settings sums U P W C2 S2 Hs = some (r, B_fund', sums', U', P', W', C2', S2', Hs')) : gMet l yX9_recut wsX9_recut rmX9_recut vwCl E [.ref (aD 0), .int x1] [sPD E aD abuffer aB aPr aC2 aV aHs aSl afilled D_buffered D_lastErrorAt, sBook E aB asettings asums aU aP aW B_time B_chest B_fund, sArrI E asettings 5 settings, sArrI E asums 6 sums, sUsers E aU U, sPieces E aP P, sWords E aW W, sCut E aC2 aS2 C2, sCutR E aS2 S2, sHist E aHs Hs] (fun v w => v = some (.int r) ∧ w = [sPD E aD abuffer aB aPr aC2 aV aHs aSl afilled D_buffered D_lastErrorAt, sBook E aB asettings asums aU aP aW B_time B_chest B_fund', sArrI E asettings 5 settings, sArrI E asums 6 sums', sUsers E aU U', sPieces E aP P', sWords E aW W', sCut E aC2 aS2 C2', sCutR E aS2 S2', sHist E aHs Hs']) 0 0 := by
  refine g_entry [some (.ref (aD 0)), some (.int x1)] (by decide) rfl (Nat.le_of_ble_eq_true rfl) rfl ?_
  intro p e s m below meth c A F hnm
  unfold fX9_recut at hf
  refine g_aload_n F dX9_recut_0 rfl ?_
  refine g_iload_n F dX9_recut_1 rfl ?_
  obtain ⟨hg_1, hf⟩ := gb0_el hf
  refine g_callV (C := RX9) (T := TX9) (N := 10) (Lr := [sArrI E asettings 5 settings, sArrI E asums 6 sums, sUsers E aU U, sPieces E aP P, sCut E aC2 aS2 C2, sCutR E aS2 S2, sHist E aHs Hs]) (As := [.int x1]) (rest := []) F 0 0 1 (ctX9_requireWord l E aD abuffer aB aPr aC2 aV aHs aSl afilled asettings asums aU aP aW x1 D_buffered D_lastErrorAt B_time B_chest B_fund W hg_1) gX9_recut_X9_requireWord rfl rfl rfl h0X9_requireWord ⟨Nat.le_of_ble_eq_true rfl, Nat.le_of_ble_eq_true rfl⟩ rfl rfl rfl [0, 1, 6] [2, 3, 4, 5, 7, 8, 9] rfl rfl rfl rfl rfl rfl (Nat.le_of_ble_eq_true rfl) dX9_recut_2 ⟨(Nat.le_of_ble_eq_true rfl), (Nat.le_of_ble_eq_true rfl)⟩ ?_
  rintro v w ⟨rfl, rfl⟩
  refine g_norm (Lw' := [sPD E aD abuffer aB aPr aC2 aV aHs aSl afilled D_buffered D_lastErrorAt, sBook E aB asettings asums aU aP aW B_time B_chest B_fund, sArrI E asettings 5 settings, sArrI E asums 6 sums, sUsers E aU U, sPieces E aP P, sWords E aW W, sCut E aC2 aS2 C2, sCutR E aS2 S2, sHist E aHs Hs]) (st' := []) (pc' := 5) [0, 1, 3, 4, 5, 6, 2, 7, 8, 9] rfl rfl rfl rfl ?_
  refine g_aload_n F dX9_recut_5 rfl ?_
  refine g_get (C := RX9) (T := TX9) (N := 10) F 0 0 7 rfl rfl rfl iX9_recut_X9 (by decide) (by decide +kernel) rfl dX9_recut_6 ?_
  refine g_aload_n F dX9_recut_9 rfl ?_
  refine g_get (C := RX9) (T := TX9) (N := 10) F 0 0 3 rfl rfl rfl iX9_recut_X9 (by decide) (by decide +kernel) rfl dX9_recut_10 ?_
  obtain ⟨Hs_1, hg_2, hf⟩ := gb1_el hf
  refine g_callV (C := RX3) (T := TX3) (N := 2) (Lr := [sPD E aD abuffer aB aPr aC2 aV aHs aSl afilled D_buffered D_lastErrorAt, sCut E aC2 aS2 C2, sCutR E aS2 S2]) (As := [.ref (aB 0)]) (rest := []) F 9 0 1 (ctX3_keep l E aHs aB asettings asums aU aP aW Hs B_time B_chest B_fund settings sums U P W Hs_1 hg_2) gX9_recut_X3_keep rfl rfl rfl h0X3_keep ⟨Nat.le_of_ble_eq_true rfl, Nat.le_of_ble_eq_true rfl⟩ rfl rfl rfl [9, 1, 2, 3, 4, 5, 6] [0, 7, 8] rfl rfl rfl rfl rfl rfl (Nat.le_of_ble_eq_true rfl) dX9_recut_13 ⟨(Nat.le_of_ble_eq_true rfl), (Nat.le_of_ble_eq_true rfl)⟩ ?_
  rintro v w ⟨rfl, rfl⟩
  refine g_norm (Lw' := [sPD E aD abuffer aB aPr aC2 aV aHs aSl afilled D_buffered D_lastErrorAt, sBook E aB asettings asums aU aP aW B_time B_chest B_fund, sArrI E asettings 5 settings, sArrI E asums 6 sums, sUsers E aU U, sPieces E aP P, sWords E aW W, sCut E aC2 aS2 C2, sCutR E aS2 S2, sHist E aHs Hs_1]) (st' := []) (pc' := 16) [7, 1, 2, 3, 4, 5, 6, 8, 9, 0] rfl rfl rfl rfl ?_
  refine g_aload_n F dX9_recut_16 rfl ?_
  refine g_get (C := RX9) (T := TX9) (N := 10) F 0 0 3 rfl rfl rfl iX9_recut_X9 (by decide) (by decide +kernel) rfl dX9_recut_17 ?_
  refine g_iload_n F dX9_recut_20 rfl ?_
  refine g_aload_n F dX9_recut_21 rfl ?_
  refine g_get (C := RX9) (T := TX9) (N := 10) F 0 0 5 rfl rfl rfl iX9_recut_X9 (by decide) (by decide +kernel) rfl dX9_recut_22 ?_
  obtain ⟨r_1, B_fund_1, sums_1, U_1, P_1, W_1, C2_1, S2_1, hg_3, hf⟩ := gb8_el hf
  refine g_callV (C := RX1) (T := TX1) (N := 8) (Lr := [sPD E aD abuffer aB aPr aC2 aV aHs aSl afilled D_buffered D_lastErrorAt, sHist E aHs Hs_1]) (As := [.int x1, .ref (aC2 0)]) (rest := []) F 1 0 2 (ctX1_cutAnew l E aB asettings asums aU aP aW aC2 aS2 x1 B_time B_chest B_fund settings sums U P W C2 S2 r_1 B_fund_1 sums_1 U_1 P_1 W_1 C2_1 S2_1 hg_3) gX9_recut_X1_cutAnew rfl rfl rfl h0X1_cutAnew ⟨Nat.le_of_ble_eq_true rfl, Nat.le_of_ble_eq_true rfl⟩ rfl rfl rfl [1, 2, 3, 4, 5, 6, 7, 8] [0, 9] rfl rfl rfl rfl rfl rfl (Nat.le_of_ble_eq_true rfl) dX9_recut_25 ⟨(Nat.le_of_ble_eq_true rfl), (Nat.le_of_ble_eq_true rfl)⟩ ?_
  rintro v w ⟨rfl, rfl⟩
  refine g_norm (Lw' := [sPD E aD abuffer aB aPr aC2 aV aHs aSl afilled D_buffered D_lastErrorAt, sBook E aB asettings asums aU aP aW B_time B_chest B_fund_1, sArrI E asettings 5 settings, sArrI E asums 6 sums_1, sUsers E aU U_1, sPieces E aP P_1, sWords E aW W_1, sCut E aC2 aS2 C2_1, sCutR E aS2 S2_1, sHist E aHs Hs_1]) (st' := [.int r_1]) (pc' := 28) [8, 0, 1, 2, 3, 4, 5, 6, 7, 9] rfl rfl rfl rfl ?_
  cases hf
  exact g_iret F rfl ⟨rfl, rfl⟩ dX9_recut_28
set_option maxHeartbeats 4000000 in
set_option maxRecDepth 100000 in
theorem ktX9_recutAll_L15 {p : Program} {l : Launch} {e : Env} {s : State} {m : MethodId} {args : Array Value} {below : List Frame} {meth : Method} {c : Code} {E : gE} {A : Nat → Prop} (F : gFx p s m args meth c RX9 wsX9_recutAll cX9_recutAll 3 (some .int) vwCl E A) (aD abuffer aB aPr aC2 aV aHs aSl afilled asettings asums aU aP aW aS2 : Nat → Nat) (B_time : Int32) (settings : (Nat → Int32)) (D_buffered : Int32) (D_lastErrorAt : Int32) (B_chest : Int32) (Hs : tHist) (r : Int32) (B_fund' : Int32) (sums' : (Nat → Int32)) (U' : tUsers) (P' : tPieces) (W' : tWords) (C2' : tCut) (S2' : tCutR) (Hs' : tHist) {k : Int32 → Int32 → (Nat → Int32) → tUsers → tPieces → tWords → tCut → tCutR → Option (Int32 × Int32 × (Nat → Int32) × tUsers × tPieces × tWords × tCut × tCutR × tHist)} (hk : ∀ (x1 : Int32) (B_fund : Int32) (sums : (Nat → Int32)) (U : tUsers) (P : tPieces) (W : tWords) (C2 : tCut) (S2 : tCutR), k x1 B_fund sums U P W C2 S2 = some (r, B_fund', sums', U', P', W', C2', S2', Hs') → Gj p l e rmX9_recutAll s m args below meth c 0 0 (MQ below (gQ vwCl E A (fun v w => v = some (.int r) ∧ w = [sPD E aD abuffer aB aPr aC2 aV aHs aSl afilled D_buffered D_lastErrorAt, sBook E aB asettings asums aU aP aW B_time B_chest B_fund', sArrI E asettings 5 settings, sArrI E asums 6 sums', sUsers E aU U', sPieces E aP P', sWords E aW W', sCut E aC2 aS2 C2', sCutR E aS2 S2', sHist E aHs Hs'])) args s 0 0 A) vwCl E A [sPD E aD abuffer aB aPr aC2 aV aHs aSl afilled D_buffered D_lastErrorAt, sBook E aB asettings asums aU aP aW B_time B_chest B_fund, sArrI E asettings 5 settings, sArrI E asums 6 sums, sUsers E aU U, sPieces E aP P, sWords E aW W, sCut E aC2 aS2 C2, sCutR E aS2 S2, sHist E aHs Hs] [none, some (.int x1), none] [] 50) : ∀ (n : Nat) (x1 : Int32) (x2 : Int32) (B_fund : Int32) (sums : (Nat → Int32)) (U : tUsers) (P : tPieces) (W : tWords) (C2 : tCut) (S2 : tCutR), fX9_recutAll_L15 B_time settings k n x1 x2 B_fund sums U P W C2 S2 = some (r, B_fund', sums', U', P', W', C2', S2', Hs') → Gj p l e rmX9_recutAll s m args below meth c 0 0 (MQ below (gQ vwCl E A (fun v w => v = some (.int r) ∧ w = [sPD E aD abuffer aB aPr aC2 aV aHs aSl afilled D_buffered D_lastErrorAt, sBook E aB asettings asums aU aP aW B_time B_chest B_fund', sArrI E asettings 5 settings, sArrI E asums 6 sums', sUsers E aU U', sPieces E aP P', sWords E aW W', sCut E aC2 aS2 C2', sCutR E aS2 S2', sHist E aHs Hs'])) args s 0 0 A) vwCl E A [sPD E aD abuffer aB aPr aC2 aV aHs aSl afilled D_buffered D_lastErrorAt, sBook E aB asettings asums aU aP aW B_time B_chest B_fund, sArrI E asettings 5 settings, sArrI E asums 6 sums, sUsers E aU U, sPieces E aP P, sWords E aW W, sCut E aC2 aS2 C2, sCutR E aS2 S2, sHist E aHs Hs] [some (.ref (aD 0)), some (.int x1), some (.int x2)] [] 15
  | 0, _, _, _, _, _, _, _, _, _, hf => by cases hf
  | n + 1, x1, x2, B_fund, sums, U, P, W, C2, S2, hf => by
    have ih := ktX9_recutAll_L15 F aD abuffer aB aPr aC2 aV aHs aSl afilled asettings asums aU aP aW aS2 B_time settings D_buffered D_lastErrorAt B_chest Hs r B_fund' sums' U' P' W' C2' S2' Hs' hk n
    rw [fX9_recutAll_L15] at hf
    refine g_iload_n F dX9_recutAll_15 rfl ?_
    refine g_aload_n F dX9_recutAll_16 rfl ?_
    refine g_get (C := RX9) (T := TX9) (N := 10) F 0 0 3 rfl rfl rfl iX9_recutAll_X9 (by decide) (by decide +kernel) rfl dX9_recutAll_17 ?_
    refine g_get (C := RX1) (T := TX1) (N := 8) F 1 0 4 rfl rfl rfl iX9_recutAll_X1 (by decide) (by decide +kernel) rfl dX9_recutAll_20 ?_
    refine g_get (C := RX8) (T := TX8) (N := 5) F 6 0 0 rfl rfl rfl iX9_recutAll_X8 (by decide) (by decide +kernel) rfl dX9_recutAll_23 ?_
    refine g_icmp_ge F 50 dX9_recutAll_26 (by decide) (fun hc_1 => ?_) (fun hc_1 => ?_)
    · replace hf := gi_t hc_1 hf
      refine g_mask [false, true, false] rfl ?_
      exact hk x1 B_fund sums U P W C2 S2 hf
    · replace hf := gi_f hc_1 hf
      refine g_iload_n F dX9_recutAll_29 rfl ?_
      refine g_aload_n F dX9_recutAll_30 rfl ?_
      refine g_get (C := RX9) (T := TX9) (N := 10) F 0 0 3 rfl rfl rfl iX9_recutAll_X9 (by decide) (by decide +kernel) rfl dX9_recutAll_31 ?_
      refine g_iload_n F dX9_recutAll_34 rfl ?_
      refine g_aload_n F dX9_recutAll_35 rfl ?_
      refine g_get (C := RX9) (T := TX9) (N := 10) F 0 0 5 rfl rfl rfl iX9_recutAll_X9 (by decide) (by decide +kernel) rfl dX9_recutAll_36 ?_
      obtain ⟨r_1, B_fund_1, sums_1, U_1, P_1, W_1, C2_1, S2_1, hg_1, hf⟩ := gb8_el hf
      refine g_callV (C := RX1) (T := TX1) (N := 8) (Lr := [sPD E aD abuffer aB aPr aC2 aV aHs aSl afilled D_buffered D_lastErrorAt, sHist E aHs Hs]) (As := [.int x2, .ref (aC2 0)]) (rest := [.int x1]) F 1 0 2 (ctX1_cutAnew l E aB asettings asums aU aP aW aC2 aS2 x2 B_time B_chest B_fund settings sums U P W C2 S2 r_1 B_fund_1 sums_1 U_1 P_1 W_1 C2_1 S2_1 hg_1) gX9_recutAll_X1_cutAnew rfl rfl rfl h0X1_cutAnew ⟨Nat.le_of_ble_eq_true rfl, Nat.le_of_ble_eq_true rfl⟩ rfl rfl rfl [1, 2, 3, 4, 5, 6, 7, 8] [0, 9] rfl rfl rfl rfl rfl rfl (Nat.le_of_ble_eq_true rfl) dX9_recutAll_39 ⟨(Nat.le_of_ble_eq_true rfl), (Nat.le_of_ble_eq_true rfl)⟩ ?_
      rintro v w ⟨rfl, rfl⟩
      refine g_norm (Lw' := [sPD E aD abuffer aB aPr aC2 aV aHs aSl afilled D_buffered D_lastErrorAt, sBook E aB asettings asums aU aP aW B_time B_chest B_fund_1, sArrI E asettings 5 settings, sArrI E asums 6 sums_1, sUsers E aU U_1, sPieces E aP P_1, sWords E aW W_1, sCut E aC2 aS2 C2_1, sCutR E aS2 S2_1, sHist E aHs Hs]) (st' := [.int r_1, .int x1]) (pc' := 42) [8, 0, 1, 2, 3, 4, 5, 6, 7, 9] rfl rfl rfl rfl ?_
      refine g_iadd F dX9_recutAll_42 ?_
      refine g_istore_n (lv' := [some (.ref (aD 0)), some (.int (x1 + r_1)), some (.int x2)]) F dX9_recutAll_43 (Nat.le_of_ble_eq_true rfl) rfl rfl ?_
      refine g_iinc (lv' := [some (.ref (aD 0)), some (.int (x1 + r_1)), some (.int (x2 + 1))]) F (x2 + 1) dX9_recutAll_44 rfl rfl rfl rfl ?_
      refine g_goto F 15 dX9_recutAll_47 (by decide) ?_
      exact ih (x1 + r_1) (x2 + 1) B_fund_1 sums_1 U_1 P_1 W_1 C2_1 S2_1 hf
set_option maxHeartbeats 4000000 in
set_option maxRecDepth 100000 in
theorem ctX9_recutAll (l : Launch) (E : gE) (aD abuffer aB aPr aC2 aV aHs aSl afilled asettings asums aU aP aW aS2 : Nat → Nat) (D_buffered : Int32) (D_lastErrorAt : Int32) (B_time : Int32) (B_chest : Int32) (B_fund : Int32) (settings : (Nat → Int32)) (sums : (Nat → Int32)) (U : tUsers) (P : tPieces) (W : tWords) (C2 : tCut) (S2 : tCutR) (Hs : tHist) (r : Int32) (B_fund' : Int32) (sums' : (Nat → Int32)) (U' : tUsers) (P' : tPieces) (W' : tWords) (C2' : tCut) (S2' : tCutR) (Hs' : tHist) (hf : fX9_recutAll B_time B_chest B_fund settings sums U P W C2 S2 Hs = some (r, B_fund', sums', U', P', W', C2', S2', Hs')) : gMet l yX9_recutAll wsX9_recutAll rmX9_recutAll vwCl E [.ref (aD 0)] [sPD E aD abuffer aB aPr aC2 aV aHs aSl afilled D_buffered D_lastErrorAt, sBook E aB asettings asums aU aP aW B_time B_chest B_fund, sArrI E asettings 5 settings, sArrI E asums 6 sums, sUsers E aU U, sPieces E aP P, sWords E aW W, sCut E aC2 aS2 C2, sCutR E aS2 S2, sHist E aHs Hs] (fun v w => v = some (.int r) ∧ w = [sPD E aD abuffer aB aPr aC2 aV aHs aSl afilled D_buffered D_lastErrorAt, sBook E aB asettings asums aU aP aW B_time B_chest B_fund', sArrI E asettings 5 settings, sArrI E asums 6 sums', sUsers E aU U', sPieces E aP P', sWords E aW W', sCut E aC2 aS2 C2', sCutR E aS2 S2', sHist E aHs Hs']) 0 0 := by
  refine g_entry [some (.ref (aD 0)), none, none] (by decide) rfl (Nat.le_of_ble_eq_true rfl) rfl ?_
  intro p e s m below meth c A F hnm
  unfold fX9_recutAll at hf
  refine g_aload_n F dX9_recutAll_0 rfl ?_
  refine g_get (C := RX9) (T := TX9) (N := 10) F 0 0 7 rfl rfl rfl iX9_recutAll_X9 (by decide) (by decide +kernel) rfl dX9_recutAll_1 ?_
  refine g_aload_n F dX9_recutAll_4 rfl ?_
  refine g_get (C := RX9) (T := TX9) (N := 10) F 0 0 3 rfl rfl rfl iX9_recutAll_X9 (by decide) (by decide +kernel) rfl dX9_recutAll_5 ?_
  obtain ⟨Hs_1, hg_1, hf⟩ := gb1_el hf
  refine g_callV (C := RX3) (T := TX3) (N := 2) (Lr := [sPD E aD abuffer aB aPr aC2 aV aHs aSl afilled D_buffered D_lastErrorAt, sCut E aC2 aS2 C2, sCutR E aS2 S2]) (As := [.ref (aB 0)]) (rest := []) F 9 0 1 (ctX3_keep l E aHs aB asettings asums aU aP aW Hs B_time B_chest B_fund settings sums U P W Hs_1 hg_1) gX9_recutAll_X3_keep rfl rfl rfl h0X3_keep ⟨Nat.le_of_ble_eq_true rfl, Nat.le_of_ble_eq_true rfl⟩ rfl rfl rfl [9, 1, 2, 3, 4, 5, 6] [0, 7, 8] rfl rfl rfl rfl rfl rfl (Nat.le_of_ble_eq_true rfl) dX9_recutAll_8 ⟨(Nat.le_of_ble_eq_true rfl), (Nat.le_of_ble_eq_true rfl)⟩ ?_
  rintro v w ⟨rfl, rfl⟩
  refine g_norm (Lw' := [sPD E aD abuffer aB aPr aC2 aV aHs aSl afilled D_buffered D_lastErrorAt, sBook E aB asettings asums aU aP aW B_time B_chest B_fund, sArrI E asettings 5 settings, sArrI E asums 6 sums, sUsers E aU U, sPieces E aP P, sWords E aW W, sCut E aC2 aS2 C2, sCutR E aS2 S2, sHist E aHs Hs_1]) (st' := []) (pc' := 11) [7, 1, 2, 3, 4, 5, 6, 8, 9, 0] rfl rfl rfl rfl ?_
  refine g_iconst F 0 dX9_recutAll_11 rfl ?_
  refine g_istore_n (lv' := [some (.ref (aD 0)), some (.int 0), none]) F dX9_recutAll_12 (Nat.le_of_ble_eq_true rfl) rfl rfl ?_
  refine g_iconst F 0 dX9_recutAll_13 rfl ?_
  refine g_istore_n (lv' := [some (.ref (aD 0)), some (.int 0), some (.int 0)]) F dX9_recutAll_14 (Nat.le_of_ble_eq_true rfl) rfl rfl ?_
  refine ktX9_recutAll_L15 F aD abuffer aB aPr aC2 aV aHs aSl afilled asettings asums aU aP aW aS2 B_time settings D_buffered D_lastErrorAt B_chest Hs_1 r B_fund' sums' U' P' W' C2' S2' Hs' (fun x1_1 B_fund_1 sums_1 U_1 P_1 W_1 C2_1 S2_1 hf => ?_) FU 0 0 B_fund sums U P W C2 S2 hf
  refine g_iload_n F dX9_recutAll_50 rfl ?_
  cases hf
  exact g_iret F rfl ⟨rfl, rfl⟩ dX9_recutAll_51
set_option maxHeartbeats 4000000 in
set_option maxRecDepth 100000 in
theorem ctX9_bring (l : Launch) (E : gE) (aD abuffer aB aPr aC2 aV aHs aSl afilled asettings asums aU aP aW : Nat → Nat) (x1 : Int32) (D_buffered : Int32) (D_lastErrorAt : Int32) (buffer : (Nat → Int32)) (B_time : Int32) (B_chest : Int32) (B_fund : Int32) (settings : (Nat → Int32)) (sums : (Nat → Int32)) (U : tUsers) (P : tPieces) (W : tWords) (Hs : tHist) (r : Int32) (D_buffered' : Int32) (B_chest' : Int32) (sums' : (Nat → Int32)) (U' : tUsers) (P' : tPieces) (Hs' : tHist) (hf : fX9_bring x1 D_buffered buffer B_time B_chest B_fund settings sums U P W Hs = some (r, D_buffered', B_chest', sums', U', P', Hs')) : gMet l yX9_bring wsX9_bring rmX9_bring vwCl E [.ref (aD 0), .int x1] [sPD E aD abuffer aB aPr aC2 aV aHs aSl afilled D_buffered D_lastErrorAt, sArrB E abuffer 600 buffer, sBook E aB asettings asums aU aP aW B_time B_chest B_fund, sArrI E asettings 5 settings, sArrI E asums 6 sums, sUsers E aU U, sPieces E aP P, sWords E aW W, sHist E aHs Hs] (fun v w => v = some (.int r) ∧ w = [sPD E aD abuffer aB aPr aC2 aV aHs aSl afilled D_buffered' D_lastErrorAt, sArrB E abuffer 600 buffer, sBook E aB asettings asums aU aP aW B_time B_chest' B_fund, sArrI E asettings 5 settings, sArrI E asums 6 sums', sUsers E aU U', sPieces E aP P', sWords E aW W, sHist E aHs Hs']) 0 0 := by
  refine g_entry [some (.ref (aD 0)), some (.int x1), none, none, none] (by decide) rfl (Nat.le_of_ble_eq_true rfl) rfl ?_
  intro p e s m below meth c A F hnm
  unfold fX9_bring at hf
  refine g_aload_n F dX9_bring_0 rfl ?_
  obtain ⟨r_1, D_buffered_1, hg_1, hf⟩ := gb2_el hf
  refine g_callV (C := RX9) (T := TX9) (N := 10) (Lr := [sBook E aB asettings asums aU aP aW B_time B_chest B_fund, sArrI E asettings 5 settings, sArrI E asums 6 sums, sUsers E aU U, sPieces E aP P, sWords E aW W, sHist E aHs Hs]) (As := []) (rest := []) F 0 0 0 (ctX9_takeWord l E aD abuffer aB aPr aC2 aV aHs aSl afilled D_buffered D_lastErrorAt buffer r_1 D_buffered_1 hg_1) gX9_bring_X9_takeWord rfl rfl rfl h0X9_takeWord ⟨Nat.le_of_ble_eq_true rfl, Nat.le_of_ble_eq_true rfl⟩ rfl rfl rfl [0, 1] [2, 3, 4, 5, 6, 7, 8] rfl rfl rfl rfl rfl rfl (Nat.le_of_ble_eq_true rfl) dX9_bring_1 ⟨(Nat.le_of_ble_eq_true rfl), (Nat.le_of_ble_eq_true rfl)⟩ ?_
  rintro v w ⟨rfl, rfl⟩
  refine g_norm (Lw' := [sPD E aD abuffer aB aPr aC2 aV aHs aSl afilled D_buffered_1 D_lastErrorAt, sArrB E abuffer 600 buffer, sBook E aB asettings asums aU aP aW B_time B_chest B_fund, sArrI E asettings 5 settings, sArrI E asums 6 sums, sUsers E aU U, sPieces E aP P, sWords E aW W, sHist E aHs Hs]) (st' := [.long r_1]) (pc' := 4) [0, 1, 2, 3, 4, 5, 6, 7, 8] rfl rfl rfl rfl ?_
  refine g_lstore_n (lv' := [some (.ref (aD 0)), some (.int x1), some (.long r_1), none, none]) F dX9_bring_4 (Nat.le_of_ble_eq_true rfl) rfl rfl ?_
  refine g_aload_n F dX9_bring_5 rfl ?_
  refine g_iload_n F dX9_bring_6 rfl ?_
  obtain ⟨hg_2, hf⟩ := gb0_el hf
  refine g_callV (C := RX9) (T := TX9) (N := 10) (Lr := [sArrB E abuffer 600 buffer, sArrI E asettings 5 settings, sArrI E asums 6 sums, sPieces E aP P, sWords E aW W, sHist E aHs Hs]) (As := [.int x1]) (rest := []) F 0 0 1 (ctX9_requireUser l E aD abuffer aB aPr aC2 aV aHs aSl afilled asettings asums aU aP aW x1 D_buffered_1 D_lastErrorAt B_time B_chest B_fund U hg_2) gX9_bring_X9_requireUser rfl rfl rfl h0X9_requireUser ⟨Nat.le_of_ble_eq_true rfl, Nat.le_of_ble_eq_true rfl⟩ rfl rfl rfl [0, 2, 5] [1, 3, 4, 6, 7, 8] rfl rfl rfl rfl rfl rfl (Nat.le_of_ble_eq_true rfl) dX9_bring_7 ⟨(Nat.le_of_ble_eq_true rfl), (Nat.le_of_ble_eq_true rfl)⟩ ?_
  rintro v w ⟨rfl, rfl⟩
  refine g_norm (Lw' := [sPD E aD abuffer aB aPr aC2 aV aHs aSl afilled D_buffered_1 D_lastErrorAt, sArrB E abuffer 600 buffer, sBook E aB asettings asums aU aP aW B_time B_chest B_fund, sArrI E asettings 5 settings, sArrI E asums 6 sums, sUsers E aU U, sPieces E aP P, sWords E aW W, sHist E aHs Hs]) (st' := []) (pc' := 10) [0, 3, 1, 4, 5, 2, 6, 7, 8] rfl rfl rfl rfl ?_
  refine g_lload_n F dX9_bring_10 rfl ?_
  obtain ⟨r_2, hg_3, hf⟩ := gb1_el hf
  refine g_callS (Lr := [sPD E aD abuffer aB aPr aC2 aV aHs aSl afilled D_buffered_1 D_lastErrorAt, sArrB E abuffer 600 buffer, sBook E aB asettings asums aU aP aW B_time B_chest B_fund, sArrI E asettings 5 settings, sArrI E asums 6 sums, sUsers E aU U, sPieces E aP P, sWords E aW W, sHist E aHs Hs]) (As := [.long r_1]) (rest := []) F 1 (ctX4_lengthOf l E r_1 r_2 hg_3) (va_cwS 1 F.2.2.2.2.2.1 gX9_bring_X4_lengthOf rfl rfl rfl h0X4_lengthOf ⟨Nat.le_of_ble_eq_true rfl, Nat.le_of_ble_eq_true rfl⟩) [] [0, 1, 2, 3, 4, 5, 6, 7, 8] rfl rfl rfl rfl rfl rfl (Nat.le_of_ble_eq_true rfl) dX9_bring_11 ⟨(Nat.le_of_ble_eq_true rfl), (Nat.le_of_ble_eq_true rfl)⟩ ?_
  rintro v w ⟨rfl, rfl⟩
  refine g_norm (Lw' := [sPD E aD abuffer aB aPr aC2 aV aHs aSl afilled D_buffered_1 D_lastErrorAt, sArrB E abuffer 600 buffer, sBook E aB asettings asums aU aP aW B_time B_chest B_fund, sArrI E asettings 5 settings, sArrI E asums 6 sums, sUsers E aU U, sPieces E aP P, sWords E aW W, sHist E aHs Hs]) (st' := [.int r_2]) (pc' := 14) [0, 1, 2, 3, 4, 5, 6, 7, 8] rfl rfl rfl rfl ?_
  refine g_istore (lv' := [some (.ref (aD 0)), some (.int x1), some (.long r_1), none, some (.int r_2)]) F dX9_bring_14 (Nat.le_of_ble_eq_true rfl) rfl rfl ?_
  refine g_iload F dX9_bring_16 rfl ?_
  obtain ⟨j_1, hj_1, hf⟩ := Lt_el hf
  have hj_1 : j_1 = some (r, D_buffered', B_chest', sums', U', P', Hs') → Gj p l e rmX9_bring s m ([.ref (aD 0), .int x1] : List Value).toArray below meth c 0 0 (MQ below (gQ vwCl E A (fun v w => v = some (.int r) ∧ w = [sPD E aD abuffer aB aPr aC2 aV aHs aSl afilled D_buffered' D_lastErrorAt, sArrB E abuffer 600 buffer, sBook E aB asettings asums aU aP aW B_time B_chest' B_fund, sArrI E asettings 5 settings, sArrI E asums 6 sums', sUsers E aU U', sPieces E aP P', sWords E aW W, sHist E aHs Hs'])) ([.ref (aD 0), .int x1] : List Value).toArray s 0 0 A) vwCl E A [sPD E aD abuffer aB aPr aC2 aV aHs aSl afilled D_buffered_1 D_lastErrorAt, sArrB E abuffer 600 buffer, sBook E aB asettings asums aU aP aW B_time B_chest B_fund, sArrI E asettings 5 settings, sArrI E asums 6 sums, sUsers E aU U, sPieces E aP P, sWords E aW W, sHist E aHs Hs] [none, none, none, none, none] [] 43 := by
    intro hf
    rw [hj_1] at hf
    cases hf
  refine g_ifeq F 43 dX9_bring_18 (by decide) (fun hc_5 => ?_) (fun hc_5 => ?_)
  · replace hf := gi_t hc_5 hf
    refine g_mask [false, false, false, true, false] rfl ?_
    exact hj_1 hf
  · replace hf := gi_f hc_5 hf
    refine g_iload F dX9_bring_21 rfl ?_
    refine g_bipush F 6 dX9_bring_23 rfl ?_
    refine g_icmp_gt F 43 dX9_bring_25 (by decide) (fun hc_4 => ?_) (fun hc_4 => ?_)
    · replace hf := gi_t hc_4 hf
      refine g_mask [false, false, false, true, false] rfl ?_
      exact hj_1 hf
    · replace hf := gi_f hc_4 hf
      refine g_aload_n F dX9_bring_28 rfl ?_
      refine g_get (C := RX9) (T := TX9) (N := 10) F 0 0 3 rfl rfl rfl iX9_bring_X9 (by decide) (by decide +kernel) rfl dX9_bring_29 ?_
      refine g_get (C := RX1) (T := TX1) (N := 8) F 2 0 3 rfl rfl rfl iX9_bring_X1 (by decide) (by decide +kernel) rfl dX9_bring_32 ?_
      refine g_lload_n F dX9_bring_35 rfl ?_
      obtain ⟨r_3, hg_4, hf⟩ := gb1_el hf
      refine g_callV (C := RX6) (T := TX6) (N := 6) (Lr := [sPD E aD abuffer aB aPr aC2 aV aHs aSl afilled D_buffered_1 D_lastErrorAt, sArrB E abuffer 600 buffer, sBook E aB asettings asums aU aP aW B_time B_chest B_fund, sArrI E asettings 5 settings, sArrI E asums 6 sums, sUsers E aU U, sWords E aW W, sHist E aHs Hs]) (As := [.long r_1]) (rest := []) F 6 0 1 (ctX6_numberOf l E aP r_1 P r_3 hg_4) gX9_bring_X6_numberOf rfl rfl rfl h0X6_numberOf ⟨Nat.le_of_ble_eq_true rfl, Nat.le_of_ble_eq_true rfl⟩ rfl rfl rfl [6] [0, 1, 2, 3, 4, 5, 7, 8] rfl rfl rfl rfl rfl rfl (Nat.le_of_ble_eq_true rfl) dX9_bring_36 ⟨(Nat.le_of_ble_eq_true rfl), (Nat.le_of_ble_eq_true rfl)⟩ ?_
      rintro v w ⟨rfl, rfl⟩
      refine g_norm (Lw' := [sPD E aD abuffer aB aPr aC2 aV aHs aSl afilled D_buffered_1 D_lastErrorAt, sArrB E abuffer 600 buffer, sBook E aB asettings asums aU aP aW B_time B_chest B_fund, sArrI E asettings 5 settings, sArrI E asums 6 sums, sUsers E aU U, sPieces E aP P, sWords E aW W, sHist E aHs Hs]) (st' := [.int r_3]) (pc' := 39) [1, 2, 3, 4, 5, 6, 0, 7, 8] rfl rfl rfl rfl ?_
      refine g_iconst F (-1) dX9_bring_39 rfl ?_
      refine g_icmp_eq F 51 dX9_bring_40 (by decide) (fun hc_3 => ?_) (fun hc_3 => ?_)
      · replace hf := gi_t hc_3 hf
        refine g_aload_n F dX9_bring_51 rfl ?_
        refine g_get (C := RX9) (T := TX9) (N := 10) F 0 0 3 rfl rfl rfl iX9_bring_X9 (by decide) (by decide +kernel) rfl dX9_bring_52 ?_
        refine g_get (C := RX1) (T := TX1) (N := 8) F 2 0 3 rfl rfl rfl iX9_bring_X1 (by decide) (by decide +kernel) rfl dX9_bring_55 ?_
        obtain ⟨r_4, hg_5, hf⟩ := gb1_el hf
        refine g_callV (C := RX6) (T := TX6) (N := 6) (Lr := [sPD E aD abuffer aB aPr aC2 aV aHs aSl afilled D_buffered_1 D_lastErrorAt, sArrB E abuffer 600 buffer, sBook E aB asettings asums aU aP aW B_time B_chest B_fund, sArrI E asettings 5 settings, sArrI E asums 6 sums, sUsers E aU U, sWords E aW W, sHist E aHs Hs]) (As := []) (rest := []) F 6 0 0 (ctX6_isFull l E aP P r_4 hg_5) gX9_bring_X6_isFull rfl rfl rfl h0X6_isFull ⟨Nat.le_of_ble_eq_true rfl, Nat.le_of_ble_eq_true rfl⟩ rfl rfl rfl [6] [0, 1, 2, 3, 4, 5, 7, 8] rfl rfl rfl rfl rfl rfl (Nat.le_of_ble_eq_true rfl) dX9_bring_58 ⟨(Nat.le_of_ble_eq_true rfl), (Nat.le_of_ble_eq_true rfl)⟩ ?_
        rintro v w ⟨rfl, rfl, hz_1⟩
        refine g_norm (Lw' := [sPD E aD abuffer aB aPr aC2 aV aHs aSl afilled D_buffered_1 D_lastErrorAt, sArrB E abuffer 600 buffer, sBook E aB asettings asums aU aP aW B_time B_chest B_fund, sArrI E asettings 5 settings, sArrI E asums 6 sums, sUsers E aU U, sPieces E aP P, sWords E aW W, sHist E aHs Hs]) (st' := [.int r_4]) (pc' := 61) [1, 2, 3, 4, 5, 6, 0, 7, 8] rfl rfl rfl rfl ?_
        obtain ⟨j_2, hj_2, hf⟩ := Lt_el hf
        have hj_2 : j_2 = some (r, D_buffered', B_chest', sums', U', P', Hs') → Gj p l e rmX9_bring s m ([.ref (aD 0), .int x1] : List Value).toArray below meth c 0 0 (MQ below (gQ vwCl E A (fun v w => v = some (.int r) ∧ w = [sPD E aD abuffer aB aPr aC2 aV aHs aSl afilled D_buffered' D_lastErrorAt, sArrB E abuffer 600 buffer, sBook E aB asettings asums aU aP aW B_time B_chest' B_fund, sArrI E asettings 5 settings, sArrI E asums 6 sums', sUsers E aU U', sPieces E aP P', sWords E aW W, sHist E aHs Hs'])) ([.ref (aD 0), .int x1] : List Value).toArray s 0 0 A) vwCl E A [sPD E aD abuffer aB aPr aC2 aV aHs aSl afilled D_buffered_1 D_lastErrorAt, sArrB E abuffer 600 buffer, sBook E aB asettings asums aU aP aW B_time B_chest B_fund, sArrI E asettings 5 settings, sArrI E asums 6 sums, sUsers E aU U, sPieces E aP P, sWords E aW W, sHist E aHs Hs] [none, none, none, none, none] [] 87 := by
          intro hf
          rw [hj_2] at hf
          cases hf
        refine g_ifne F 87 dX9_bring_61 (by decide) (fun hc_2 => ?_) (fun hc_2 => ?_)
        · replace hf := gi_f hc_2 hf
          refine g_mask [false, false, false, true, false] rfl ?_
          exact hj_2 hf
        · replace hf := gi_t hc_2 hf
          refine g_aload_n F dX9_bring_64 rfl ?_
          refine g_get (C := RX9) (T := TX9) (N := 10) F 0 0 3 rfl rfl rfl iX9_bring_X9 (by decide) (by decide +kernel) rfl dX9_bring_65 ?_
          refine g_get (C := RX1) (T := TX1) (N := 8) F 2 0 2 rfl rfl rfl iX9_bring_X1 (by decide) (by decide +kernel) rfl dX9_bring_68 ?_
          refine g_iload_n F dX9_bring_71 rfl ?_
          obtain ⟨r_5, hg_6, hf⟩ := gb1_el hf
          refine g_callV (C := RX7) (T := TX7) (N := 3) (Lr := [sPD E aD abuffer aB aPr aC2 aV aHs aSl afilled D_buffered_1 D_lastErrorAt, sArrB E abuffer 600 buffer, sBook E aB asettings asums aU aP aW B_time B_chest B_fund, sArrI E asettings 5 settings, sArrI E asums 6 sums, sPieces E aP P, sWords E aW W, sHist E aHs Hs]) (As := [.int x1]) (rest := []) F 5 0 1 (ctX7_coinsOf l E aU x1 U r_5 hg_6) gX9_bring_X7_coinsOf rfl rfl rfl h0X7_coinsOf ⟨Nat.le_of_ble_eq_true rfl, Nat.le_of_ble_eq_true rfl⟩ rfl rfl rfl [5] [0, 1, 2, 3, 4, 6, 7, 8] rfl rfl rfl rfl rfl rfl (Nat.le_of_ble_eq_true rfl) dX9_bring_72 ⟨(Nat.le_of_ble_eq_true rfl), (Nat.le_of_ble_eq_true rfl)⟩ ?_
          rintro v w ⟨rfl, rfl⟩
          refine g_norm (Lw' := [sPD E aD abuffer aB aPr aC2 aV aHs aSl afilled D_buffered_1 D_lastErrorAt, sArrB E abuffer 600 buffer, sBook E aB asettings asums aU aP aW B_time B_chest B_fund, sArrI E asettings 5 settings, sArrI E asums 6 sums, sUsers E aU U, sPieces E aP P, sWords E aW W, sHist E aHs Hs]) (st' := [.int r_5]) (pc' := 75) [1, 2, 3, 4, 5, 0, 6, 7, 8] rfl rfl rfl rfl ?_
          refine g_aload_n F dX9_bring_75 rfl ?_
          refine g_get (C := RX9) (T := TX9) (N := 10) F 0 0 3 rfl rfl rfl iX9_bring_X9 (by decide) (by decide +kernel) rfl dX9_bring_76 ?_
          refine g_iload F dX9_bring_79 rfl ?_
          obtain ⟨r_6, hg_7, hf⟩ := gb1_el hf
          refine g_callV (C := RX1) (T := TX1) (N := 8) (Lr := [sPD E aD abuffer aB aPr aC2 aV aHs aSl afilled D_buffered_1 D_lastErrorAt, sArrB E abuffer 600 buffer, sArrI E asums 6 sums, sUsers E aU U, sPieces E aP P, sWords E aW W, sHist E aHs Hs]) (As := [.int r_2]) (rest := [.int r_5]) F 2 0 1 (ctX1_newPrice l E aB asettings asums aU aP aW r_2 B_time B_chest B_fund settings r_6 hg_7) gX9_bring_X1_newPrice rfl rfl rfl h0X1_newPrice ⟨Nat.le_of_ble_eq_true rfl, Nat.le_of_ble_eq_true rfl⟩ rfl rfl rfl [2, 3] [0, 1, 4, 5, 6, 7, 8] rfl rfl rfl rfl rfl rfl (Nat.le_of_ble_eq_true rfl) dX9_bring_81 ⟨(Nat.le_of_ble_eq_true rfl), (Nat.le_of_ble_eq_true rfl)⟩ ?_
          rintro v w ⟨rfl, rfl⟩
          refine g_norm (Lw' := [sPD E aD abuffer aB aPr aC2 aV aHs aSl afilled D_buffered_1 D_lastErrorAt, sArrB E abuffer 600 buffer, sBook E aB asettings asums aU aP aW B_time B_chest B_fund, sArrI E asettings 5 settings, sArrI E asums 6 sums, sUsers E aU U, sPieces E aP P, sWords E aW W, sHist E aHs Hs]) (st' := [.int r_6, .int r_5]) (pc' := 84) [2, 3, 0, 1, 4, 5, 6, 7, 8] rfl rfl rfl rfl ?_
          refine g_icmp_ge F 95 dX9_bring_84 (by decide) (fun hc_1 => ?_) (fun hc_1 => ?_)
          · replace hf := gi_t hc_1 hf
            refine g_aload_n F dX9_bring_95 rfl ?_
            refine g_get (C := RX9) (T := TX9) (N := 10) F 0 0 7 rfl rfl rfl iX9_bring_X9 (by decide) (by decide +kernel) rfl dX9_bring_96 ?_
            refine g_aload_n F dX9_bring_99 rfl ?_
            refine g_get (C := RX9) (T := TX9) (N := 10) F 0 0 3 rfl rfl rfl iX9_bring_X9 (by decide) (by decide +kernel) rfl dX9_bring_100 ?_
            obtain ⟨Hs_1, hg_8, hf⟩ := gb1_el hf
            refine g_callV (C := RX3) (T := TX3) (N := 2) (Lr := [sPD E aD abuffer aB aPr aC2 aV aHs aSl afilled D_buffered_1 D_lastErrorAt, sArrB E abuffer 600 buffer]) (As := [.ref (aB 0)]) (rest := []) F 8 0 1 (ctX3_keep l E aHs aB asettings asums aU aP aW Hs B_time B_chest B_fund settings sums U P W Hs_1 hg_8) gX9_bring_X3_keep rfl rfl rfl h0X3_keep ⟨Nat.le_of_ble_eq_true rfl, Nat.le_of_ble_eq_true rfl⟩ rfl rfl rfl [8, 2, 3, 4, 5, 6, 7] [0, 1] rfl rfl rfl rfl rfl rfl (Nat.le_of_ble_eq_true rfl) dX9_bring_103 ⟨(Nat.le_of_ble_eq_true rfl), (Nat.le_of_ble_eq_true rfl)⟩ ?_
            rintro v w ⟨rfl, rfl⟩
            refine g_norm (Lw' := [sPD E aD abuffer aB aPr aC2 aV aHs aSl afilled D_buffered_1 D_lastErrorAt, sArrB E abuffer 600 buffer, sBook E aB asettings asums aU aP aW B_time B_chest B_fund, sArrI E asettings 5 settings, sArrI E asums 6 sums, sUsers E aU U, sPieces E aP P, sWords E aW W, sHist E aHs Hs_1]) (st' := []) (pc' := 106) [7, 8, 1, 2, 3, 4, 5, 6, 0] rfl rfl rfl rfl ?_
            refine g_aload_n F dX9_bring_106 rfl ?_
            refine g_get (C := RX9) (T := TX9) (N := 10) F 0 0 3 rfl rfl rfl iX9_bring_X9 (by decide) (by decide +kernel) rfl dX9_bring_107 ?_
            refine g_iload_n F dX9_bring_110 rfl ?_
            refine g_lload_n F dX9_bring_111 rfl ?_
            obtain ⟨r_7, B_chest_1, sums_1, U_1, P_1, hg_9, hf⟩ := gb5_el hf
            refine g_callV (C := RX1) (T := TX1) (N := 8) (Lr := [sPD E aD abuffer aB aPr aC2 aV aHs aSl afilled D_buffered_1 D_lastErrorAt, sArrB E abuffer 600 buffer, sWords E aW W, sHist E aHs Hs_1]) (As := [.int x1, .long r_1]) (rest := []) F 2 0 2 (ctX1_buyPiece l E aB asettings asums aU aP aW x1 r_1 B_time B_chest B_fund settings sums U P r_7 B_chest_1 sums_1 U_1 P_1 hg_9) gX9_bring_X1_buyPiece rfl rfl rfl h0X1_buyPiece ⟨Nat.le_of_ble_eq_true rfl, Nat.le_of_ble_eq_true rfl⟩ rfl rfl rfl [2, 3, 4, 5, 6] [0, 1, 7, 8] rfl rfl rfl rfl rfl rfl (Nat.le_of_ble_eq_true rfl) dX9_bring_112 ⟨(Nat.le_of_ble_eq_true rfl), (Nat.le_of_ble_eq_true rfl)⟩ ?_
            rintro v w ⟨rfl, rfl⟩
            refine g_norm (Lw' := [sPD E aD abuffer aB aPr aC2 aV aHs aSl afilled D_buffered_1 D_lastErrorAt, sArrB E abuffer 600 buffer, sBook E aB asettings asums aU aP aW B_time B_chest_1 B_fund, sArrI E asettings 5 settings, sArrI E asums 6 sums_1, sUsers E aU U_1, sPieces E aP P_1, sWords E aW W, sHist E aHs Hs_1]) (st' := [.int r_7]) (pc' := 115) [5, 6, 0, 1, 2, 3, 4, 7, 8] rfl rfl rfl rfl ?_
            cases hf
            exact g_iret F rfl ⟨rfl, rfl⟩ dX9_bring_115
          · replace hf := gi_f hc_1 hf
            refine g_mask [false, false, false, true, false] rfl ?_
            exact hj_2 hf
      · replace hf := gi_f hc_3 hf
        refine g_mask [false, false, false, true, false] rfl ?_
        exact hj_1 hf
set_option maxHeartbeats 4000000 in
set_option maxRecDepth 100000 in
theorem ktX9_tick_L34 {p : Program} {l : Launch} {e : Env} {s : State} {m : MethodId} {args : Array Value} {below : List Frame} {meth : Method} {c : Code} {E : gE} {A : Nat → Prop} (F : gFx p s m args meth c RX9 wsX9_tick cX9_tick 4 (some .int) vwCl E A) (aD abuffer aB aPr aC2 aV aHs aSl afilled asettings asums aU aP aW : Nat → Nat) (x1 : Int32) (settings : (Nat → Int32)) (D_buffered : Int32) (D_lastErrorAt : Int32) (B_fund : Int32) (Hs : tHist) (r : Int32) (B_time' : Int32) (B_chest' : Int32) (sums' : (Nat → Int32)) (U' : tUsers) (P' : tPieces) (W' : tWords) (Hs' : tHist) {k : Int32 → Int32 → Int32 → (Nat → Int32) → tUsers → tPieces → tWords → Option (Int32 × Int32 × Int32 × (Nat → Int32) × tUsers × tPieces × tWords × tHist)} (hk : ∀ (x2 : Int32) (B_time : Int32) (B_chest : Int32) (sums : (Nat → Int32)) (U : tUsers) (P : tPieces) (W : tWords), k x2 B_time B_chest sums U P W = some (r, B_time', B_chest', sums', U', P', W', Hs') → Gj p l e rmX9_tick s m args below meth c 0 0 (MQ below (gQ vwCl E A (fun v w => v = some (.int r) ∧ w = [sPD E aD abuffer aB aPr aC2 aV aHs aSl afilled D_buffered D_lastErrorAt, sBook E aB asettings asums aU aP aW B_time' B_chest' B_fund, sArrI E asettings 5 settings, sArrI E asums 6 sums', sUsers E aU U', sPieces E aP P', sWords E aW W', sHist E aHs Hs'])) args s 0 0 A) vwCl E A [sPD E aD abuffer aB aPr aC2 aV aHs aSl afilled D_buffered D_lastErrorAt, sBook E aB asettings asums aU aP aW B_time B_chest B_fund, sArrI E asettings 5 settings, sArrI E asums 6 sums, sUsers E aU U, sPieces E aP P, sWords E aW W, sHist E aHs Hs] [none, none, some (.int x2), none] [] 55) : ∀ (n : Nat) (x2 : Int32) (x3 : Int32) (B_time : Int32) (B_chest : Int32) (sums : (Nat → Int32)) (U : tUsers) (P : tPieces) (W : tWords), fX9_tick_L34 x1 settings k n x2 x3 B_time B_chest sums U P W = some (r, B_time', B_chest', sums', U', P', W', Hs') → Gj p l e rmX9_tick s m args below meth c 0 0 (MQ below (gQ vwCl E A (fun v w => v = some (.int r) ∧ w = [sPD E aD abuffer aB aPr aC2 aV aHs aSl afilled D_buffered D_lastErrorAt, sBook E aB asettings asums aU aP aW B_time' B_chest' B_fund, sArrI E asettings 5 settings, sArrI E asums 6 sums', sUsers E aU U', sPieces E aP P', sWords E aW W', sHist E aHs Hs'])) args s 0 0 A) vwCl E A [sPD E aD abuffer aB aPr aC2 aV aHs aSl afilled D_buffered D_lastErrorAt, sBook E aB asettings asums aU aP aW B_time B_chest B_fund, sArrI E asettings 5 settings, sArrI E asums 6 sums, sUsers E aU U, sPieces E aP P, sWords E aW W, sHist E aHs Hs] [some (.ref (aD 0)), some (.int x1), some (.int x2), some (.int x3)] [] 34
  | 0, _, _, _, _, _, _, _, _, hf => by cases hf
  | n + 1, x2, x3, B_time, B_chest, sums, U, P, W, hf => by
    have ih := ktX9_tick_L34 F aD abuffer aB aPr aC2 aV aHs aSl afilled asettings asums aU aP aW x1 settings D_buffered D_lastErrorAt B_fund Hs r B_time' B_chest' sums' U' P' W' Hs' hk n
    rw [fX9_tick_L34] at hf
    refine g_iload_n F dX9_tick_34 rfl ?_
    refine g_iload_n F dX9_tick_35 rfl ?_
    refine g_icmp_ge F 55 dX9_tick_36 (by decide) (fun hc_1 => ?_) (fun hc_1 => ?_)
    · replace hf := gi_t hc_1 hf
      refine g_mask [false, false, true, false] rfl ?_
      exact hk x2 B_time B_chest sums U P W hf
    · replace hf := gi_f hc_1 hf
      refine g_iload_n F dX9_tick_39 rfl ?_
      refine g_aload_n F dX9_tick_40 rfl ?_
      refine g_get (C := RX9) (T := TX9) (N := 10) F 0 0 3 rfl rfl rfl iX9_tick_X9 (by decide) (by decide +kernel) rfl dX9_tick_41 ?_
      obtain ⟨r_1, B_time_1, B_chest_1, sums_1, U_1, P_1, W_1, hg_1, hf⟩ := gb7_el hf
      refine g_callV (C := RX1) (T := TX1) (N := 8) (Lr := [sPD E aD abuffer aB aPr aC2 aV aHs aSl afilled D_buffered D_lastErrorAt, sHist E aHs Hs]) (As := []) (rest := [.int x2]) F 1 0 0 (ctX1_passTick l E aB asettings asums aU aP aW B_time B_chest B_fund settings sums U P W r_1 B_time_1 B_chest_1 sums_1 U_1 P_1 W_1 hg_1) gX9_tick_X1_passTick rfl rfl rfl h0X1_passTick ⟨Nat.le_of_ble_eq_true rfl, Nat.le_of_ble_eq_true rfl⟩ rfl rfl rfl [1, 2, 3, 4, 5, 6] [0, 7] rfl rfl rfl rfl rfl rfl (Nat.le_of_ble_eq_true rfl) dX9_tick_44 ⟨(Nat.le_of_ble_eq_true rfl), (Nat.le_of_ble_eq_true rfl)⟩ ?_
      rintro v w ⟨rfl, rfl⟩
      refine g_norm (Lw' := [sPD E aD abuffer aB aPr aC2 aV aHs aSl afilled D_buffered D_lastErrorAt, sBook E aB asettings asums aU aP aW B_time_1 B_chest_1 B_fund, sArrI E asettings 5 settings, sArrI E asums 6 sums_1, sUsers E aU U_1, sPieces E aP P_1, sWords E aW W_1, sHist E aHs Hs]) (st' := [.int r_1, .int x2]) (pc' := 47) [6, 0, 1, 2, 3, 4, 5, 7] rfl rfl rfl rfl ?_
      refine g_iadd F dX9_tick_47 ?_
      refine g_istore_n (lv' := [some (.ref (aD 0)), some (.int x1), some (.int (x2 + r_1)), some (.int x3)]) F dX9_tick_48 (Nat.le_of_ble_eq_true rfl) rfl rfl ?_
      refine g_iinc (lv' := [some (.ref (aD 0)), some (.int x1), some (.int (x2 + r_1)), some (.int (x3 + 1))]) F (x3 + 1) dX9_tick_49 rfl rfl rfl rfl ?_
      refine g_goto F 34 dX9_tick_52 (by decide) ?_
      exact ih (x2 + r_1) (x3 + 1) B_time_1 B_chest_1 sums_1 U_1 P_1 W_1 hf
set_option maxHeartbeats 4000000 in
set_option maxRecDepth 100000 in
theorem ctX9_tick (l : Launch) (E : gE) (aD abuffer aB aPr aC2 aV aHs aSl afilled asettings asums aU aP aW : Nat → Nat) (x1 : Int32) (D_buffered : Int32) (D_lastErrorAt : Int32) (B_time : Int32) (B_chest : Int32) (B_fund : Int32) (settings : (Nat → Int32)) (sums : (Nat → Int32)) (U : tUsers) (P : tPieces) (W : tWords) (Hs : tHist) (r : Int32) (B_time' : Int32) (B_chest' : Int32) (sums' : (Nat → Int32)) (U' : tUsers) (P' : tPieces) (W' : tWords) (Hs' : tHist) (hf : fX9_tick x1 B_time B_chest B_fund settings sums U P W Hs = some (r, B_time', B_chest', sums', U', P', W', Hs')) : gMet l yX9_tick wsX9_tick rmX9_tick vwCl E [.ref (aD 0), .int x1] [sPD E aD abuffer aB aPr aC2 aV aHs aSl afilled D_buffered D_lastErrorAt, sBook E aB asettings asums aU aP aW B_time B_chest B_fund, sArrI E asettings 5 settings, sArrI E asums 6 sums, sUsers E aU U, sPieces E aP P, sWords E aW W, sHist E aHs Hs] (fun v w => v = some (.int r) ∧ w = [sPD E aD abuffer aB aPr aC2 aV aHs aSl afilled D_buffered D_lastErrorAt, sBook E aB asettings asums aU aP aW B_time' B_chest' B_fund, sArrI E asettings 5 settings, sArrI E asums 6 sums', sUsers E aU U', sPieces E aP P', sWords E aW W', sHist E aHs Hs']) 0 0 := by
  refine g_entry [some (.ref (aD 0)), some (.int x1), none, none] (by decide) rfl (Nat.le_of_ble_eq_true rfl) rfl ?_
  intro p e s m below meth c A F hnm
  unfold fX9_tick at hf
  refine g_iload_n F dX9_tick_0 rfl ?_
  refine g_iconst F 1 dX9_tick_1 rfl ?_
  obtain ⟨j_1, hj_1, hf⟩ := Lt_el hf
  have hj_1 : j_1 = some (r, B_time', B_chest', sums', U', P', W', Hs') → Gj p l e rmX9_tick s m ([.ref (aD 0), .int x1] : List Value).toArray below meth c 0 0 (MQ below (gQ vwCl E A (fun v w => v = some (.int r) ∧ w = [sPD E aD abuffer aB aPr aC2 aV aHs aSl afilled D_buffered D_lastErrorAt, sBook E aB asettings asums aU aP aW B_time' B_chest' B_fund, sArrI E asettings 5 settings, sArrI E asums 6 sums', sUsers E aU U', sPieces E aP P', sWords E aW W', sHist E aHs Hs'])) ([.ref (aD 0), .int x1] : List Value).toArray s 0 0 A) vwCl E A [sPD E aD abuffer aB aPr aC2 aV aHs aSl afilled D_buffered D_lastErrorAt, sBook E aB asettings asums aU aP aW B_time B_chest B_fund, sArrI E asettings 5 settings, sArrI E asums 6 sums, sUsers E aU U, sPieces E aP P, sWords E aW W, sHist E aHs Hs] [none, none, none, none] [] 11 := by
    intro hf
    rw [hj_1] at hf
    cases hf
  refine g_icmp_lt F 11 dX9_tick_2 (by decide) (fun hc_2 => ?_) (fun hc_2 => ?_)
  · replace hf := gi_t hc_2 hf
    refine g_mask [false, false, true, true] rfl ?_
    exact hj_1 hf
  · replace hf := gi_f hc_2 hf
    refine g_iload_n F dX9_tick_5 rfl ?_
    refine g_bipush F 30 dX9_tick_6 rfl ?_
    refine g_icmp_le F 19 dX9_tick_8 (by decide) (fun hc_1 => ?_) (fun hc_1 => ?_)
    · replace hf := gi_t hc_1 hf
      refine g_aload_n F dX9_tick_19 rfl ?_
      refine g_get (C := RX9) (T := TX9) (N := 10) F 0 0 7 rfl rfl rfl iX9_tick_X9 (by decide) (by decide +kernel) rfl dX9_tick_20 ?_
      refine g_aload_n F dX9_tick_23 rfl ?_
      refine g_get (C := RX9) (T := TX9) (N := 10) F 0 0 3 rfl rfl rfl iX9_tick_X9 (by decide) (by decide +kernel) rfl dX9_tick_24 ?_
      obtain ⟨Hs_1, hg_1, hf⟩ := gb1_el hf
      refine g_callV (C := RX3) (T := TX3) (N := 2) (Lr := [sPD E aD abuffer aB aPr aC2 aV aHs aSl afilled D_buffered D_lastErrorAt]) (As := [.ref (aB 0)]) (rest := []) F 7 0 1 (ctX3_keep l E aHs aB asettings asums aU aP aW Hs B_time B_chest B_fund settings sums U P W Hs_1 hg_1) gX9_tick_X3_keep rfl rfl rfl h0X3_keep ⟨Nat.le_of_ble_eq_true rfl, Nat.le_of_ble_eq_true rfl⟩ rfl rfl rfl [7, 1, 2, 3, 4, 5, 6] [0] rfl rfl rfl rfl rfl rfl (Nat.le_of_ble_eq_true rfl) dX9_tick_27 ⟨(Nat.le_of_ble_eq_true rfl), (Nat.le_of_ble_eq_true rfl)⟩ ?_
      rintro v w ⟨rfl, rfl⟩
      refine g_norm (Lw' := [sPD E aD abuffer aB aPr aC2 aV aHs aSl afilled D_buffered D_lastErrorAt, sBook E aB asettings asums aU aP aW B_time B_chest B_fund, sArrI E asettings 5 settings, sArrI E asums 6 sums, sUsers E aU U, sPieces E aP P, sWords E aW W, sHist E aHs Hs_1]) (st' := []) (pc' := 30) [7, 1, 2, 3, 4, 5, 6, 0] rfl rfl rfl rfl ?_
      refine g_iconst F 0 dX9_tick_30 rfl ?_
      refine g_istore_n (lv' := [some (.ref (aD 0)), some (.int x1), some (.int 0), none]) F dX9_tick_31 (Nat.le_of_ble_eq_true rfl) rfl rfl ?_
      refine g_iconst F 0 dX9_tick_32 rfl ?_
      refine g_istore_n (lv' := [some (.ref (aD 0)), some (.int x1), some (.int 0), some (.int 0)]) F dX9_tick_33 (Nat.le_of_ble_eq_true rfl) rfl rfl ?_
      refine ktX9_tick_L34 F aD abuffer aB aPr aC2 aV aHs aSl afilled asettings asums aU aP aW x1 settings D_buffered D_lastErrorAt B_fund Hs_1 r B_time' B_chest' sums' U' P' W' Hs' (fun x2_1 B_time_1 B_chest_1 sums_1 U_1 P_1 W_1 hf => ?_) FU 0 0 B_time B_chest sums U P W hf
      refine g_iload_n F dX9_tick_55 rfl ?_
      cases hf
      exact g_iret F rfl ⟨rfl, rfl⟩ dX9_tick_56
    · replace hf := gi_f hc_1 hf
      refine g_mask [false, false, true, true] rfl ?_
      exact hj_1 hf
set_option maxHeartbeats 4000000 in
set_option maxRecDepth 100000 in
theorem ctX9_pay (l : Launch) (E : gE) (aD abuffer aB aPr aC2 aV aHs aSl afilled asettings asums aU aP aW : Nat → Nat) (x1 : Int32) (x2 : Int32) (x3 : Int32) (D_buffered : Int32) (D_lastErrorAt : Int32) (B_time : Int32) (B_chest : Int32) (B_fund : Int32) (settings : (Nat → Int32)) (sums : (Nat → Int32)) (U : tUsers) (P : tPieces) (W : tWords) (Hs : tHist) (r : Int32) (U' : tUsers) (Hs' : tHist) (hf : fX9_pay x1 x2 x3 B_time B_chest B_fund settings sums U P W Hs = some (r, U', Hs')) : gMet l yX9_pay wsX9_pay rmX9_pay vwCl E [.ref (aD 0), .int x1, .int x2, .int x3] [sPD E aD abuffer aB aPr aC2 aV aHs aSl afilled D_buffered D_lastErrorAt, sBook E aB asettings asums aU aP aW B_time B_chest B_fund, sArrI E asettings 5 settings, sArrI E asums 6 sums, sUsers E aU U, sPieces E aP P, sWords E aW W, sHist E aHs Hs] (fun v w => v = some (.int r) ∧ w = [sPD E aD abuffer aB aPr aC2 aV aHs aSl afilled D_buffered D_lastErrorAt, sBook E aB asettings asums aU aP aW B_time B_chest B_fund, sArrI E asettings 5 settings, sArrI E asums 6 sums, sUsers E aU U', sPieces E aP P, sWords E aW W, sHist E aHs Hs']) 0 0 := by
  refine g_entry [some (.ref (aD 0)), some (.int x1), some (.int x2), some (.int x3)] (by decide) rfl (Nat.le_of_ble_eq_true rfl) rfl ?_
  intro p e s m below meth c A F hnm
  unfold fX9_pay at hf
  refine g_aload_n F dX9_pay_0 rfl ?_
  refine g_iload_n F dX9_pay_1 rfl ?_
  obtain ⟨hg_1, hf⟩ := gb0_el hf
  refine g_callV (C := RX9) (T := TX9) (N := 10) (Lr := [sArrI E asettings 5 settings, sArrI E asums 6 sums, sPieces E aP P, sWords E aW W, sHist E aHs Hs]) (As := [.int x1]) (rest := []) F 0 0 1 (ctX9_requireUser l E aD abuffer aB aPr aC2 aV aHs aSl afilled asettings asums aU aP aW x1 D_buffered D_lastErrorAt B_time B_chest B_fund U hg_1) gX9_pay_X9_requireUser rfl rfl rfl h0X9_requireUser ⟨Nat.le_of_ble_eq_true rfl, Nat.le_of_ble_eq_true rfl⟩ rfl rfl rfl [0, 1, 4] [2, 3, 5, 6, 7] rfl rfl rfl rfl rfl rfl (Nat.le_of_ble_eq_true rfl) dX9_pay_2 ⟨(Nat.le_of_ble_eq_true rfl), (Nat.le_of_ble_eq_true rfl)⟩ ?_
  rintro v w ⟨rfl, rfl⟩
  refine g_norm (Lw' := [sPD E aD abuffer aB aPr aC2 aV aHs aSl afilled D_buffered D_lastErrorAt, sBook E aB asettings asums aU aP aW B_time B_chest B_fund, sArrI E asettings 5 settings, sArrI E asums 6 sums, sUsers E aU U, sPieces E aP P, sWords E aW W, sHist E aHs Hs]) (st' := []) (pc' := 5) [0, 1, 3, 4, 2, 5, 6, 7] rfl rfl rfl rfl ?_
  refine g_aload_n F dX9_pay_5 rfl ?_
  refine g_iload_n F dX9_pay_6 rfl ?_
  obtain ⟨hg_2, hf⟩ := gb0_el hf
  refine g_callV (C := RX9) (T := TX9) (N := 10) (Lr := [sArrI E asettings 5 settings, sArrI E asums 6 sums, sPieces E aP P, sWords E aW W, sHist E aHs Hs]) (As := [.int x2]) (rest := []) F 0 0 1 (ctX9_requireUser l E aD abuffer aB aPr aC2 aV aHs aSl afilled asettings asums aU aP aW x2 D_buffered D_lastErrorAt B_time B_chest B_fund U hg_2) gX9_pay_X9_requireUser rfl rfl rfl h0X9_requireUser ⟨Nat.le_of_ble_eq_true rfl, Nat.le_of_ble_eq_true rfl⟩ rfl rfl rfl [0, 1, 4] [2, 3, 5, 6, 7] rfl rfl rfl rfl rfl rfl (Nat.le_of_ble_eq_true rfl) dX9_pay_7 ⟨(Nat.le_of_ble_eq_true rfl), (Nat.le_of_ble_eq_true rfl)⟩ ?_
  rintro v w ⟨rfl, rfl⟩
  refine g_norm (Lw' := [sPD E aD abuffer aB aPr aC2 aV aHs aSl afilled D_buffered D_lastErrorAt, sBook E aB asettings asums aU aP aW B_time B_chest B_fund, sArrI E asettings 5 settings, sArrI E asums 6 sums, sUsers E aU U, sPieces E aP P, sWords E aW W, sHist E aHs Hs]) (st' := []) (pc' := 10) [0, 1, 3, 4, 2, 5, 6, 7] rfl rfl rfl rfl ?_
  refine g_iload_n F dX9_pay_10 rfl ?_
  obtain ⟨j_1, hj_1, hf⟩ := Lt_el hf
  have hj_1 : j_1 = some (r, U', Hs') → Gj p l e rmX9_pay s m ([.ref (aD 0), .int x1, .int x2, .int x3] : List Value).toArray below meth c 0 0 (MQ below (gQ vwCl E A (fun v w => v = some (.int r) ∧ w = [sPD E aD abuffer aB aPr aC2 aV aHs aSl afilled D_buffered D_lastErrorAt, sBook E aB asettings asums aU aP aW B_time B_chest B_fund, sArrI E asettings 5 settings, sArrI E asums 6 sums, sUsers E aU U', sPieces E aP P, sWords E aW W, sHist E aHs Hs'])) ([.ref (aD 0), .int x1, .int x2, .int x3] : List Value).toArray s 0 0 A) vwCl E A [sPD E aD abuffer aB aPr aC2 aV aHs aSl afilled D_buffered D_lastErrorAt, sBook E aB asettings asums aU aP aW B_time B_chest B_fund, sArrI E asettings 5 settings, sArrI E asums 6 sums, sUsers E aU U, sPieces E aP P, sWords E aW W, sHist E aHs Hs] [none, none, none, none] [] 21 := by
    intro hf
    rw [hj_1] at hf
    cases hf
  refine g_iflt F 21 dX9_pay_11 (by decide) (fun hc_3 => ?_) (fun hc_3 => ?_)
  · replace hf := gi_t hc_3 hf
    refine g_mask [false, false, false, false] rfl ?_
    exact hj_1 hf
  · replace hf := gi_f hc_3 hf
    refine g_iload_n F dX9_pay_14 rfl ?_
    refine g_sipush F 9999 dX9_pay_15 rfl ?_
    refine g_icmp_le F 29 dX9_pay_18 (by decide) (fun hc_2 => ?_) (fun hc_2 => ?_)
    · replace hf := gi_t hc_2 hf
      refine g_aload_n F dX9_pay_29 rfl ?_
      refine g_get (C := RX9) (T := TX9) (N := 10) F 0 0 3 rfl rfl rfl iX9_pay_X9 (by decide) (by decide +kernel) rfl dX9_pay_30 ?_
      refine g_get (C := RX1) (T := TX1) (N := 8) F 1 0 2 rfl rfl rfl iX9_pay_X1 (by decide) (by decide +kernel) rfl dX9_pay_33 ?_
      refine g_iload_n F dX9_pay_36 rfl ?_
      obtain ⟨r_1, hg_3, hf⟩ := gb1_el hf
      refine g_callV (C := RX7) (T := TX7) (N := 3) (Lr := [sPD E aD abuffer aB aPr aC2 aV aHs aSl afilled D_buffered D_lastErrorAt, sBook E aB asettings asums aU aP aW B_time B_chest B_fund, sArrI E asettings 5 settings, sArrI E asums 6 sums, sPieces E aP P, sWords E aW W, sHist E aHs Hs]) (As := [.int x1]) (rest := []) F 4 0 1 (ctX7_coinsOf l E aU x1 U r_1 hg_3) gX9_pay_X7_coinsOf rfl rfl rfl h0X7_coinsOf ⟨Nat.le_of_ble_eq_true rfl, Nat.le_of_ble_eq_true rfl⟩ rfl rfl rfl [4] [0, 1, 2, 3, 5, 6, 7] rfl rfl rfl rfl rfl rfl (Nat.le_of_ble_eq_true rfl) dX9_pay_37 ⟨(Nat.le_of_ble_eq_true rfl), (Nat.le_of_ble_eq_true rfl)⟩ ?_
      rintro v w ⟨rfl, rfl⟩
      refine g_norm (Lw' := [sPD E aD abuffer aB aPr aC2 aV aHs aSl afilled D_buffered D_lastErrorAt, sBook E aB asettings asums aU aP aW B_time B_chest B_fund, sArrI E asettings 5 settings, sArrI E asums 6 sums, sUsers E aU U, sPieces E aP P, sWords E aW W, sHist E aHs Hs]) (st' := [.int r_1]) (pc' := 40) [1, 2, 3, 4, 0, 5, 6, 7] rfl rfl rfl rfl ?_
      refine g_iload_n F dX9_pay_40 rfl ?_
      refine g_icmp_ge F 52 dX9_pay_41 (by decide) (fun hc_1 => ?_) (fun hc_1 => ?_)
      · replace hf := gi_t hc_1 hf
        refine g_aload_n F dX9_pay_52 rfl ?_
        refine g_get (C := RX9) (T := TX9) (N := 10) F 0 0 7 rfl rfl rfl iX9_pay_X9 (by decide) (by decide +kernel) rfl dX9_pay_53 ?_
        refine g_aload_n F dX9_pay_56 rfl ?_
        refine g_get (C := RX9) (T := TX9) (N := 10) F 0 0 3 rfl rfl rfl iX9_pay_X9 (by decide) (by decide +kernel) rfl dX9_pay_57 ?_
        obtain ⟨Hs_1, hg_4, hf⟩ := gb1_el hf
        refine g_callV (C := RX3) (T := TX3) (N := 2) (Lr := [sPD E aD abuffer aB aPr aC2 aV aHs aSl afilled D_buffered D_lastErrorAt]) (As := [.ref (aB 0)]) (rest := []) F 7 0 1 (ctX3_keep l E aHs aB asettings asums aU aP aW Hs B_time B_chest B_fund settings sums U P W Hs_1 hg_4) gX9_pay_X3_keep rfl rfl rfl h0X3_keep ⟨Nat.le_of_ble_eq_true rfl, Nat.le_of_ble_eq_true rfl⟩ rfl rfl rfl [7, 1, 2, 3, 4, 5, 6] [0] rfl rfl rfl rfl rfl rfl (Nat.le_of_ble_eq_true rfl) dX9_pay_60 ⟨(Nat.le_of_ble_eq_true rfl), (Nat.le_of_ble_eq_true rfl)⟩ ?_
        rintro v w ⟨rfl, rfl⟩
        refine g_norm (Lw' := [sPD E aD abuffer aB aPr aC2 aV aHs aSl afilled D_buffered D_lastErrorAt, sBook E aB asettings asums aU aP aW B_time B_chest B_fund, sArrI E asettings 5 settings, sArrI E asums 6 sums, sUsers E aU U, sPieces E aP P, sWords E aW W, sHist E aHs Hs_1]) (st' := []) (pc' := 63) [7, 1, 2, 3, 4, 5, 6, 0] rfl rfl rfl rfl ?_
        refine g_aload_n F dX9_pay_63 rfl ?_
        refine g_get (C := RX9) (T := TX9) (N := 10) F 0 0 3 rfl rfl rfl iX9_pay_X9 (by decide) (by decide +kernel) rfl dX9_pay_64 ?_
        refine g_get (C := RX1) (T := TX1) (N := 8) F 1 0 2 rfl rfl rfl iX9_pay_X1 (by decide) (by decide +kernel) rfl dX9_pay_67 ?_
        refine g_iload_n F dX9_pay_70 rfl ?_
        refine g_iload_n F dX9_pay_71 rfl ?_
        refine g_ineg F dX9_pay_72 ?_
        obtain ⟨U_1, hg_5, hf⟩ := gb1_el hf
        refine g_callV (C := RX7) (T := TX7) (N := 3) (Lr := [sPD E aD abuffer aB aPr aC2 aV aHs aSl afilled D_buffered D_lastErrorAt, sBook E aB asettings asums aU aP aW B_time B_chest B_fund, sArrI E asettings 5 settings, sArrI E asums 6 sums, sPieces E aP P, sWords E aW W, sHist E aHs Hs_1]) (As := [.int x1, .int (-x3)]) (rest := []) F 4 0 2 (ctX7_give l E aU x1 (-x3) U U_1 hg_5) gX9_pay_X7_give rfl rfl rfl h0X7_give ⟨Nat.le_of_ble_eq_true rfl, Nat.le_of_ble_eq_true rfl⟩ rfl rfl rfl [4] [0, 1, 2, 3, 5, 6, 7] rfl rfl rfl rfl rfl rfl (Nat.le_of_ble_eq_true rfl) dX9_pay_73 ⟨(Nat.le_of_ble_eq_true rfl), (Nat.le_of_ble_eq_true rfl)⟩ ?_
        rintro v w ⟨rfl, rfl⟩
        refine g_norm (Lw' := [sPD E aD abuffer aB aPr aC2 aV aHs aSl afilled D_buffered D_lastErrorAt, sBook E aB asettings asums aU aP aW B_time B_chest B_fund, sArrI E asettings 5 settings, sArrI E asums 6 sums, sUsers E aU U_1, sPieces E aP P, sWords E aW W, sHist E aHs Hs_1]) (st' := []) (pc' := 76) [1, 2, 3, 4, 0, 5, 6, 7] rfl rfl rfl rfl ?_
        refine g_aload_n F dX9_pay_76 rfl ?_
        refine g_get (C := RX9) (T := TX9) (N := 10) F 0 0 3 rfl rfl rfl iX9_pay_X9 (by decide) (by decide +kernel) rfl dX9_pay_77 ?_
        refine g_get (C := RX1) (T := TX1) (N := 8) F 1 0 2 rfl rfl rfl iX9_pay_X1 (by decide) (by decide +kernel) rfl dX9_pay_80 ?_
        refine g_iload_n F dX9_pay_83 rfl ?_
        refine g_iload_n F dX9_pay_84 rfl ?_
        obtain ⟨U_2, hg_6, hf⟩ := gb1_el hf
        refine g_callV (C := RX7) (T := TX7) (N := 3) (Lr := [sPD E aD abuffer aB aPr aC2 aV aHs aSl afilled D_buffered D_lastErrorAt, sBook E aB asettings asums aU aP aW B_time B_chest B_fund, sArrI E asettings 5 settings, sArrI E asums 6 sums, sPieces E aP P, sWords E aW W, sHist E aHs Hs_1]) (As := [.int x2, .int x3]) (rest := []) F 4 0 2 (ctX7_give l E aU x2 x3 U_1 U_2 hg_6) gX9_pay_X7_give rfl rfl rfl h0X7_give ⟨Nat.le_of_ble_eq_true rfl, Nat.le_of_ble_eq_true rfl⟩ rfl rfl rfl [4] [0, 1, 2, 3, 5, 6, 7] rfl rfl rfl rfl rfl rfl (Nat.le_of_ble_eq_true rfl) dX9_pay_85 ⟨(Nat.le_of_ble_eq_true rfl), (Nat.le_of_ble_eq_true rfl)⟩ ?_
        rintro v w ⟨rfl, rfl⟩
        refine g_norm (Lw' := [sPD E aD abuffer aB aPr aC2 aV aHs aSl afilled D_buffered D_lastErrorAt, sBook E aB asettings asums aU aP aW B_time B_chest B_fund, sArrI E asettings 5 settings, sArrI E asums 6 sums, sUsers E aU U_2, sPieces E aP P, sWords E aW W, sHist E aHs Hs_1]) (st' := []) (pc' := 88) [1, 2, 3, 4, 0, 5, 6, 7] rfl rfl rfl rfl ?_
        refine g_aload_n F dX9_pay_88 rfl ?_
        refine g_get (C := RX9) (T := TX9) (N := 10) F 0 0 3 rfl rfl rfl iX9_pay_X9 (by decide) (by decide +kernel) rfl dX9_pay_89 ?_
        refine g_get (C := RX1) (T := TX1) (N := 8) F 1 0 2 rfl rfl rfl iX9_pay_X1 (by decide) (by decide +kernel) rfl dX9_pay_92 ?_
        refine g_iload_n F dX9_pay_95 rfl ?_
        obtain ⟨r_2, hg_7, hf⟩ := gb1_el hf
        refine g_callV (C := RX7) (T := TX7) (N := 3) (Lr := [sPD E aD abuffer aB aPr aC2 aV aHs aSl afilled D_buffered D_lastErrorAt, sBook E aB asettings asums aU aP aW B_time B_chest B_fund, sArrI E asettings 5 settings, sArrI E asums 6 sums, sPieces E aP P, sWords E aW W, sHist E aHs Hs_1]) (As := [.int x2]) (rest := []) F 4 0 1 (ctX7_coinsOf l E aU x2 U_2 r_2 hg_7) gX9_pay_X7_coinsOf rfl rfl rfl h0X7_coinsOf ⟨Nat.le_of_ble_eq_true rfl, Nat.le_of_ble_eq_true rfl⟩ rfl rfl rfl [4] [0, 1, 2, 3, 5, 6, 7] rfl rfl rfl rfl rfl rfl (Nat.le_of_ble_eq_true rfl) dX9_pay_96 ⟨(Nat.le_of_ble_eq_true rfl), (Nat.le_of_ble_eq_true rfl)⟩ ?_
        rintro v w ⟨rfl, rfl⟩
        refine g_norm (Lw' := [sPD E aD abuffer aB aPr aC2 aV aHs aSl afilled D_buffered D_lastErrorAt, sBook E aB asettings asums aU aP aW B_time B_chest B_fund, sArrI E asettings 5 settings, sArrI E asums 6 sums, sUsers E aU U_2, sPieces E aP P, sWords E aW W, sHist E aHs Hs_1]) (st' := [.int r_2]) (pc' := 99) [1, 2, 3, 4, 0, 5, 6, 7] rfl rfl rfl rfl ?_
        cases hf
        exact g_iret F rfl ⟨rfl, rfl⟩ dX9_pay_99
      · replace hf := gi_f hc_1 hf
        cases hf
    · replace hf := gi_f hc_2 hf
      refine g_mask [false, false, false, false] rfl ?_
      exact hj_1 hf
