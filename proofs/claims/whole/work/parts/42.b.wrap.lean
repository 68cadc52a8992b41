theorem gxn_1 : gxn 1 = "java/lang/IndexOutOfBoundsException" := rfl
theorem gxn_2 : gxn 2 = "java/lang/IllegalArgumentException" := rfl
theorem gxn_3 : gxn 3 = "java/lang/IllegalStateException" := rfl
abbrev rmL_parse : Room := { frames := 9, cells := 1, slots := 6, locals := 206 }
theorem h0L_parse : yL_parse.cls ≠ "java/lang/invoke/MethodHandle" ∧ yL_parse.cls ≠ "java/lang/invoke/VarHandle" ∧ (parseMethodDescriptor yL_parse.desc).map (fun d => d.parameters.length) = some 3 := by decide +kernel
theorem ctL_parse (l : Launch) (E : gE) (aD abuffer aB aPr aC2 aV aHs aSl afilled asettings asums aU aP aW aB2 aC atext asettings2 asums2 aU2 aP2 aW2 aS : Nat → Nat) (x1 : Int32) (D_buffered : Int32) (D_lastErrorAt : Int32) (buffer : (Nat → Int32)) (B_time : Int32) (B_chest : Int32) (B_fund : Int32) (settings : (Nat → Int32)) (sums : (Nat → Int32)) (U : tUsers) (P : tPieces) (W : tWords) (Pr_errorAt : Int32) (Pr_length : Int32) (Pr_next : Int32) (Pr_errorCode : Int32) (Pr_kind : Int32) (Pr_tokenAt : Int32) (Pr_letters : Int64) (Pr_number : Int32) (B2_time : Int32) (B2_chest : Int32) (B2_fund : Int32) (settings2 : (Nat → Int32)) (sums2 : (Nat → Int32)) (U2 : tUsers) (P2 : tPieces) (W2 : tWords) (C : tCut) (S : tCutR) (text : (Nat → Int32)) (Hs : tHist) (filled : (Nat → Int32)) (x : Int32) (r : Int32) (D_buffered' : Int32) (D_lastErrorAt' : Int32) (B_time' : Int32) (B_chest' : Int32) (B_fund' : Int32) (settings' : (Nat → Int32)) (sums' : (Nat → Int32)) (U' : tUsers) (P' : tPieces) (W' : tWords) (Pr_errorAt' : Int32) (Pr_length' : Int32) (Pr_next' : Int32) (Pr_errorCode' : Int32) (Pr_kind' : Int32) (Pr_tokenAt' : Int32) (Pr_letters' : Int64) (Pr_number' : Int32) (B2_time' : Int32) (B2_chest' : Int32) (B2_fund' : Int32) (settings2' : (Nat → Int32)) (sums2' : (Nat → Int32)) (U2' : tUsers) (P2' : tPieces) (W2' : tWords) (C' : tCut) (S' : tCutR) (text' : (Nat → Int32)) (Hs' : tHist) (filled' : (Nat → Int32)) (hst : l.stackTraces = false) (hf : fX9_parse x1 D_buffered D_lastErrorAt buffer B_time B_chest B_fund settings sums U P W Pr_errorAt Pr_length Pr_next Pr_errorCode Pr_kind Pr_tokenAt Pr_letters Pr_number B2_time B2_chest B2_fund settings2 sums2 U2 P2 W2 C S text Hs filled = some (x, r, D_buffered', D_lastErrorAt', B_time', B_chest', B_fund', settings', sums', U', P', W', Pr_errorAt', Pr_length', Pr_next', Pr_errorCode', Pr_kind', Pr_tokenAt', Pr_letters', Pr_number', B2_time', B2_chest', B2_fund', settings2', sums2', U2', P2', W2', C', S', text', Hs', filled')) (aO : Nat → Nat) (o o9 : Nat → Int64) (k9 : Int32) (hk : (x = 0 ∧ k9 = 0 ∧ o9 = vp_updL o 0 r.toInt64) ∨ (x = 2 ∧ k9 = 1 ∧ o9 = o)) : gMetX l yL_parse wsL_parse rmL_parse vwCl E [.ref (aD 0), .int x1, .ref (aO 0)] [sPD E aD abuffer aB aPr aC2 aV aHs aSl afilled D_buffered D_lastErrorAt, sArrB E abuffer 600 buffer, sBook E aB asettings asums aU aP aW B_time B_chest B_fund, sArrI E asettings 5 settings, sArrI E asums 6 sums, sUsers E aU U, sPieces E aP P, sWords E aW W, sPar E aPr aB2 aC atext Pr_errorAt Pr_length Pr_next Pr_errorCode Pr_kind Pr_tokenAt Pr_letters Pr_number, sBook E aB2 asettings2 asums2 aU2 aP2 aW2 B2_time B2_chest B2_fund, sArrI E asettings2 5 settings2, sArrI E asums2 6 sums2, sUsers E aU2 U2, sPieces E aP2 P2, sWords E aW2 W2, sCut E aC aS C, sCutR E aS S, sArrB E atext 600 text, sHist E aHs Hs, sArrZ E afilled 2 filled, sArrJ E aO 1 o] (fun v w => v = some (.int k9) ∧ w = [sPD E aD abuffer aB aPr aC2 aV aHs aSl afilled D_buffered' D_lastErrorAt', sArrB E abuffer 600 buffer, sBook E aB asettings asums aU aP aW B_time' B_chest' B_fund', sArrI E asettings 5 settings', sArrI E asums 6 sums', sUsers E aU U', sPieces E aP P', sWords E aW W', sPar E aPr aB2 aC atext Pr_errorAt' Pr_length' Pr_next' Pr_errorCode' Pr_kind' Pr_tokenAt' Pr_letters' Pr_number', sBook E aB2 asettings2 asums2 aU2 aP2 aW2 B2_time' B2_chest' B2_fund', sArrI E asettings2 5 settings2', sArrI E asums2 6 sums2', sUsers E aU2 U2', sPieces E aP2 P2', sWords E aW2 W2', sCut E aC aS C', sCutR E aS S', sArrB E atext 600 text', sHist E aHs Hs', sArrZ E afilled 2 filled', sArrJ E aO 1 o9]) (fun _ _ => False) 1 6 := by
  refine g_entryH [some (.ref (aD 0)), some (.int x1), some (.ref (aO 0)), none] (by decide) rfl (Nat.le_of_ble_eq_true rfl) rfl ?_
  intro p e s m below meth c A F htab
  refine g_aload_n F dL_parse_0 rfl ?_
  refine g_iconst F 0 dL_parse_1 rfl ?_
  refine g_aload_n F dL_parse_2 rfl ?_
  refine g_iload_n F dL_parse_3 rfl ?_
  refine g_callVC (C := RX9) (T := TX9) (N := 10) (Lr := [sArrJ E aO 1 o]) (As := [.int x1]) (rest := [.int 0, .ref (aO 0)]) F 0 0 1 (ctX9_parse l E aD abuffer aB aPr aC2 aV aHs aSl afilled asettings asums aU aP aW aB2 aC atext asettings2 asums2 aU2 aP2 aW2 aS x1 D_buffered D_lastErrorAt buffer B_time B_chest B_fund settings sums U P W Pr_errorAt Pr_length Pr_next Pr_errorCode Pr_kind Pr_tokenAt Pr_letters Pr_number B2_time B2_chest B2_fund settings2 sums2 U2 P2 W2 C S text Hs filled x r D_buffered' D_lastErrorAt' B_time' B_chest' B_fund' settings' sums' U' P' W' Pr_errorAt' Pr_length' Pr_next' Pr_errorCode' Pr_kind' Pr_tokenAt' Pr_letters' Pr_number' B2_time' B2_chest' B2_fund' settings2' sums2' U2' P2' W2' C' S' text' Hs' filled' hst hf) gL_parse_X9_parse rfl rfl rfl h0X9_parse ⟨Nat.le_of_ble_eq_true rfl, Nat.le_of_ble_eq_true rfl⟩ rfl rfl rfl [0, 1, 2, 3, 4, 5, 6, 7, 8, 9, 10, 11, 12, 13, 14, 15, 16, 17, 18, 19] [20] rfl rfl rfl rfl rfl rfl (Nat.le_of_ble_eq_true rfl) dL_parse_4 ⟨Nat.le_of_ble_eq_true rfl, Nat.le_of_ble_eq_true rfl⟩ htab ?_ ?_
  · rintro v w ⟨h0, rfl, rfl⟩
    obtain ⟨rfl, rfl⟩ : k9 = 0 ∧ o9 = vp_updL o 0 r.toInt64 := by
      rcases hk with ⟨-, h1, h2⟩ | ⟨h1, -, -⟩
      · exact ⟨h1, h2⟩
      · exact absurd (h1.symm.trans h0) (by decide)
    refine g_i2l F dL_parse_7 ?_
    refine g_last F 20 0 0 rfl rfl rfl (by decide) dL_parse_8 rfl ?_
    refine g_norm (Lw' := [sPD E aD abuffer aB aPr aC2 aV aHs aSl afilled D_buffered' D_lastErrorAt', sArrB E abuffer 600 buffer, sBook E aB asettings asums aU aP aW B_time' B_chest' B_fund', sArrI E asettings 5 settings', sArrI E asums 6 sums', sUsers E aU U', sPieces E aP P', sWords E aW W', sPar E aPr aB2 aC atext Pr_errorAt' Pr_length' Pr_next' Pr_errorCode' Pr_kind' Pr_tokenAt' Pr_letters' Pr_number', sBook E aB2 asettings2 asums2 aU2 aP2 aW2 B2_time' B2_chest' B2_fund', sArrI E asettings2 5 settings2', sArrI E asums2 6 sums2', sUsers E aU2 U2', sPieces E aP2 P2', sWords E aW2 W2', sCut E aC aS C', sCutR E aS S', sArrB E atext 600 text', sHist E aHs Hs', sArrZ E afilled 2 filled', sArrJ E aO 1 (vp_updL o 0 r.toInt64)]) (st' := []) (pc' := 9) [0, 1, 2, 3, 4, 5, 6, 7, 8, 9, 10, 11, 12, 13, 14, 15, 16, 17, 18, 19, 20] rfl rfl rfl rfl ?_
    refine g_goto F 15 dL_parse_9 (by decide) ?_
    refine g_iconst F 0 dL_parse_15 rfl ?_
    exact g_iret F rfl ⟨rfl, rfl⟩ dL_parse_16
  · rintro ec w ⟨hx, he, rfl⟩
    rcases hk with ⟨h1, -, -⟩ | ⟨rfl, rfl, rfl⟩
    · exact absurd h1 hx
    · rw [gxn_2] at he
      subst he
      refine ⟨[], ⟨0, 9, 12, 13⟩, [], rfl, by decide, by decide +kernel, by decide, by decide, fun z hz => absurd hz List.not_mem_nil, fun q9 => ?_⟩
      refine g_astore_n F dL_parse_12 (Nat.le_of_ble_eq_true rfl) rfl rfl ?_
      refine g_iconst F 1 dL_parse_13 rfl ?_
      exact g_iret F rfl ⟨rfl, rfl⟩ dL_parse_14
abbrev rmL_size : Room := { frames := 7, cells := 1, slots := 6, locals := 106 }
theorem h0L_size : yL_size.cls ≠ "java/lang/invoke/MethodHandle" ∧ yL_size.cls ≠ "java/lang/invoke/VarHandle" ∧ (parseMethodDescriptor yL_size.desc).map (fun d => d.parameters.length) = some 3 := by decide +kernel
theorem ctL_size (l : Launch) (E : gE) (aD abuffer aB aPr aC2 aV aHs aSl afilled asettings asums aU aP aW : Nat → Nat) (x1 : Int32) (D_buffered : Int32) (D_lastErrorAt : Int32) (B_time : Int32) (B_chest : Int32) (B_fund : Int32) (settings : (Nat → Int32)) (U : tUsers) (P : tPieces) (W : tWords) (Hs : tHist) (x : Int32) (r : Int32) (hst : l.stackTraces = false) (hf : fX9_size x1 B_time B_chest B_fund settings U P W Hs = some (x, r)) (aO : Nat → Nat) (o o9 : Nat → Int64) (k9 : Int32) (hk : (x = 0 ∧ k9 = 0 ∧ o9 = vp_updL o 0 r.toInt64) ∨ (x = 2 ∧ k9 = 1 ∧ o9 = o)) : gMetX l yL_size wsL_size rmL_size vwCl E [.ref (aD 0), .int x1, .ref (aO 0)] [sPD E aD abuffer aB aPr aC2 aV aHs aSl afilled D_buffered D_lastErrorAt, sBook E aB asettings asums aU aP aW B_time B_chest B_fund, sArrI E asettings 5 settings, sUsers E aU U, sPieces E aP P, sWords E aW W, sHist E aHs Hs, sArrJ E aO 1 o] (fun v w => v = some (.int k9) ∧ w = [sPD E aD abuffer aB aPr aC2 aV aHs aSl afilled D_buffered D_lastErrorAt, sBook E aB asettings asums aU aP aW B_time B_chest B_fund, sArrI E asettings 5 settings, sUsers E aU U, sPieces E aP P, sWords E aW W, sHist E aHs Hs, sArrJ E aO 1 o9]) (fun _ _ => False) 1 6 := by
  refine g_entryH [some (.ref (aD 0)), some (.int x1), some (.ref (aO 0)), none] (by decide) rfl (Nat.le_of_ble_eq_true rfl) rfl ?_
  intro p e s m below meth c A F htab
  refine g_aload_n F dL_size_0 rfl ?_
  refine g_iconst F 0 dL_size_1 rfl ?_
  refine g_aload_n F dL_size_2 rfl ?_
  refine g_iload_n F dL_size_3 rfl ?_
  refine g_callVC (C := RX9) (T := TX9) (N := 10) (Lr := [sArrJ E aO 1 o]) (As := [.int x1]) (rest := [.int 0, .ref (aO 0)]) F 0 0 1 (ctX9_size l E aD abuffer aB aPr aC2 aV aHs aSl afilled asettings asums aU aP aW x1 D_buffered D_lastErrorAt B_time B_chest B_fund settings U P W Hs x r hst hf) gL_size_X9_size rfl rfl rfl h0X9_size ⟨Nat.le_of_ble_eq_true rfl, Nat.le_of_ble_eq_true rfl⟩ rfl rfl rfl [0, 1, 2, 3, 4, 5, 6] [7] rfl rfl rfl rfl rfl rfl (Nat.le_of_ble_eq_true rfl) dL_size_4 ⟨Nat.le_of_ble_eq_true rfl, Nat.le_of_ble_eq_true rfl⟩ htab ?_ ?_
  · rintro v w ⟨h0, rfl, rfl⟩
    obtain ⟨rfl, rfl⟩ : k9 = 0 ∧ o9 = vp_updL o 0 r.toInt64 := by
      rcases hk with ⟨-, h1, h2⟩ | ⟨h1, -, -⟩
      · exact ⟨h1, h2⟩
      · exact absurd (h1.symm.trans h0) (by decide)
    refine g_i2l F dL_size_7 ?_
    refine g_last F 7 0 0 rfl rfl rfl (by decide) dL_size_8 rfl ?_
    refine g_norm (Lw' := [sPD E aD abuffer aB aPr aC2 aV aHs aSl afilled D_buffered D_lastErrorAt, sBook E aB asettings asums aU aP aW B_time B_chest B_fund, sArrI E asettings 5 settings, sUsers E aU U, sPieces E aP P, sWords E aW W, sHist E aHs Hs, sArrJ E aO 1 (vp_updL o 0 r.toInt64)]) (st' := []) (pc' := 9) [0, 1, 2, 3, 4, 5, 6, 7] rfl rfl rfl rfl ?_
    refine g_goto F 15 dL_size_9 (by decide) ?_
    refine g_iconst F 0 dL_size_15 rfl ?_
    exact g_iret F rfl ⟨rfl, rfl⟩ dL_size_16
  · rintro ec w ⟨hx, he, rfl⟩
    rcases hk with ⟨h1, -, -⟩ | ⟨rfl, rfl, rfl⟩
    · exact absurd h1 hx
    · rw [gxn_2] at he
      subst he
      refine ⟨[], ⟨0, 9, 12, 13⟩, [], rfl, by decide, by decide +kernel, by decide, by decide, fun z hz => absurd hz List.not_mem_nil, fun q9 => ?_⟩
      refine g_astore_n F dL_size_12 (Nat.le_of_ble_eq_true rfl) rfl rfl ?_
      refine g_iconst F 1 dL_size_13 rfl ?_
      exact g_iret F rfl ⟨rfl, rfl⟩ dL_size_14
abbrev rmL_find : Room := { frames := 8, cells := 1, slots := 6, locals := 130 }
theorem h0L_find : yL_find.cls ≠ "java/lang/invoke/MethodHandle" ∧ yL_find.cls ≠ "java/lang/invoke/VarHandle" ∧ (parseMethodDescriptor yL_find.desc).map (fun d => d.parameters.length) = some 3 := by decide +kernel
theorem ctL_find (l : Launch) (E : gE) (aD abuffer aB aPr aC2 aV aHs aSl afilled asettings asums aU aP aW : Nat → Nat) (x1 : Int32) (D_buffered : Int32) (D_lastErrorAt : Int32) (buffer : (Nat → Int32)) (B_time : Int32) (B_chest : Int32) (B_fund : Int32) (U : tUsers) (P : tPieces) (W : tWords) (x : Int32) (r : Int32) (D_buffered' : Int32) (hst : l.stackTraces = false) (hf : fX9_find x1 D_buffered buffer U P W = some (x, r, D_buffered')) (aO : Nat → Nat) (o o9 : Nat → Int64) (k9 : Int32) (hk : (x = 0 ∧ k9 = 0 ∧ o9 = vp_updL o 0 r.toInt64) ∨ (x = 2 ∧ k9 = 1 ∧ o9 = o)) : gMetX l yL_find wsL_find rmL_find vwCl E [.ref (aD 0), .int x1, .ref (aO 0)] [sPD E aD abuffer aB aPr aC2 aV aHs aSl afilled D_buffered D_lastErrorAt, sArrB E abuffer 600 buffer, sBook E aB asettings asums aU aP aW B_time B_chest B_fund, sUsers E aU U, sPieces E aP P, sWords E aW W, sArrJ E aO 1 o] (fun v w => v = some (.int k9) ∧ w = [sPD E aD abuffer aB aPr aC2 aV aHs aSl afilled D_buffered' D_lastErrorAt, sArrB E abuffer 600 buffer, sBook E aB asettings asums aU aP aW B_time B_chest B_fund, sUsers E aU U, sPieces E aP P, sWords E aW W, sArrJ E aO 1 o9]) (fun _ _ => False) 1 6 := by
  refine g_entryH [some (.ref (aD 0)), some (.int x1), some (.ref (aO 0)), none] (by decide) rfl (Nat.le_of_ble_eq_true rfl) rfl ?_
  intro p e s m below meth c A F htab
  refine g_aload_n F dL_find_0 rfl ?_
  refine g_iconst F 0 dL_find_1 rfl ?_
  refine g_aload_n F dL_find_2 rfl ?_
  refine g_iload_n F dL_find_3 rfl ?_
  refine g_callVC (C := RX9) (T := TX9) (N := 10) (Lr := [sArrJ E aO 1 o]) (As := [.int x1]) (rest := [.int 0, .ref (aO 0)]) F 0 0 1 (ctX9_find l E aD abuffer aB aPr aC2 aV aHs aSl afilled asettings asums aU aP aW x1 D_buffered D_lastErrorAt buffer B_time B_chest B_fund U P W x r D_buffered' hst hf) gL_find_X9_find rfl rfl rfl h0X9_find ⟨Nat.le_of_ble_eq_true rfl, Nat.le_of_ble_eq_true rfl⟩ rfl rfl rfl [0, 1, 2, 3, 4, 5] [6] rfl rfl rfl rfl rfl rfl (Nat.le_of_ble_eq_true rfl) dL_find_4 ⟨Nat.le_of_ble_eq_true rfl, Nat.le_of_ble_eq_true rfl⟩ htab ?_ ?_
  · rintro v w ⟨h0, rfl, rfl⟩
    obtain ⟨rfl, rfl⟩ : k9 = 0 ∧ o9 = vp_updL o 0 r.toInt64 := by
      rcases hk with ⟨-, h1, h2⟩ | ⟨h1, -, -⟩
      · exact ⟨h1, h2⟩
      · exact absurd (h1.symm.trans h0) (by decide)
    refine g_i2l F dL_find_7 ?_
    refine g_last F 6 0 0 rfl rfl rfl (by decide) dL_find_8 rfl ?_
    refine g_norm (Lw' := [sPD E aD abuffer aB aPr aC2 aV aHs aSl afilled D_buffered' D_lastErrorAt, sArrB E abuffer 600 buffer, sBook E aB asettings asums aU aP aW B_time B_chest B_fund, sUsers E aU U, sPieces E aP P, sWords E aW W, sArrJ E aO 1 (vp_updL o 0 r.toInt64)]) (st' := []) (pc' := 9) [0, 1, 2, 3, 4, 5, 6] rfl rfl rfl rfl ?_
    refine g_goto F 15 dL_find_9 (by decide) ?_
    refine g_iconst F 0 dL_find_15 rfl ?_
    exact g_iret F rfl ⟨rfl, rfl⟩ dL_find_16
  · rintro ec w ⟨hx, he, rfl⟩
    rcases hk with ⟨h1, -, -⟩ | ⟨rfl, rfl, rfl⟩
    · exact absurd h1 hx
    · rw [gxn_2] at he
      subst he
      refine ⟨[], ⟨0, 9, 12, 13⟩, [], rfl, by decide, by decide +kernel, by decide, by decide, fun z hz => absurd hz List.not_mem_nil, fun q9 => ?_⟩
      refine g_astore_n F dL_find_12 (Nat.le_of_ble_eq_true rfl) rfl rfl ?_
      refine g_iconst F 1 dL_find_13 rfl ?_
      exact g_iret F rfl ⟨rfl, rfl⟩ dL_find_14
abbrev rmL_user : Room := { frames := 8, cells := 2, slots := 12, locals := 128 }
theorem h0L_user : yL_user.cls ≠ "java/lang/invoke/MethodHandle" ∧ yL_user.cls ≠ "java/lang/invoke/VarHandle" ∧ (parseMethodDescriptor yL_user.desc).map (fun d => d.parameters.length) = some 4 := by decide +kernel
theorem ctL_user (l : Launch) (E : gE) (aD abuffer aB aPr aC2 aV aHs aSl afilled asettings asums aU aP aW : Nat → Nat) (x1 : Int32) (x2 : Int32) (D_buffered : Int32) (D_lastErrorAt : Int32) (B_time : Int32) (B_chest : Int32) (B_fund : Int32) (settings : (Nat → Int32)) (U : tUsers) (P : tPieces) (W : tWords) (x : Int32) (r : Int32) (hst : l.stackTraces = false) (hf : fX9_user x1 x2 settings U P W = some (x, r)) (aO : Nat → Nat) (o o9 : Nat → Int64) (k9 : Int32) (hk : (x = 0 ∧ k9 = 0 ∧ o9 = vp_updL o 0 r.toInt64) ∨ (x = 1 ∧ k9 = 1 ∧ o9 = o) ∨ (x = 2 ∧ k9 = 2 ∧ o9 = o)) : gMetX l yL_user wsL_user rmL_user vwCl E [.ref (aD 0), .int x1, .int x2, .ref (aO 0)] [sPD E aD abuffer aB aPr aC2 aV aHs aSl afilled D_buffered D_lastErrorAt, sBook E aB asettings asums aU aP aW B_time B_chest B_fund, sArrI E asettings 5 settings, sUsers E aU U, sPieces E aP P, sWords E aW W, sArrJ E aO 1 o] (fun v w => v = some (.int k9) ∧ w = [sPD E aD abuffer aB aPr aC2 aV aHs aSl afilled D_buffered D_lastErrorAt, sBook E aB asettings asums aU aP aW B_time B_chest B_fund, sArrI E asettings 5 settings, sUsers E aU U, sPieces E aP P, sWords E aW W, sArrJ E aO 1 o9]) (fun _ _ => False) 2 12 := by
  refine g_entryH [some (.ref (aD 0)), some (.int x1), some (.int x2), some (.ref (aO 0)), none] (by decide) rfl (Nat.le_of_ble_eq_true rfl) rfl ?_
  intro p e s m below meth c A F htab
  refine g_aload_n F dL_user_0 rfl ?_
  refine g_iconst F 0 dL_user_1 rfl ?_
  refine g_aload_n F dL_user_2 rfl ?_
  refine g_iload_n F dL_user_3 rfl ?_
  refine g_iload_n F dL_user_4 rfl ?_
  refine g_callVC (C := RX9) (T := TX9) (N := 10) (Lr := [sArrJ E aO 1 o]) (As := [.int x1, .int x2]) (rest := [.int 0, .ref (aO 0)]) F 0 0 2 (ctX9_user l E aD abuffer aB aPr aC2 aV aHs aSl afilled asettings asums aU aP aW x1 x2 D_buffered D_lastErrorAt B_time B_chest B_fund settings U P W x r hst hf) gL_user_X9_user rfl rfl rfl h0X9_user ⟨Nat.le_of_ble_eq_true rfl, Nat.le_of_ble_eq_true rfl⟩ rfl rfl rfl [0, 1, 2, 3, 4, 5] [6] rfl rfl rfl rfl rfl rfl (Nat.le_of_ble_eq_true rfl) dL_user_5 ⟨Nat.le_of_ble_eq_true rfl, Nat.le_of_ble_eq_true rfl⟩ htab ?_ ?_
  · rintro v w ⟨h0, rfl, rfl⟩
    obtain ⟨rfl, rfl⟩ : k9 = 0 ∧ o9 = vp_updL o 0 r.toInt64 := by
      rcases hk with ⟨-, h1, h2⟩ | ⟨h1, -, -⟩ | ⟨h1, -, -⟩
      · exact ⟨h1, h2⟩
      · exact absurd (h1.symm.trans h0) (by decide)
      · exact absurd (h1.symm.trans h0) (by decide)
    refine g_i2l F dL_user_8 ?_
    refine g_last F 6 0 0 rfl rfl rfl (by decide) dL_user_9 rfl ?_
    refine g_norm (Lw' := [sPD E aD abuffer aB aPr aC2 aV aHs aSl afilled D_buffered D_lastErrorAt, sBook E aB asettings asums aU aP aW B_time B_chest B_fund, sArrI E asettings 5 settings, sUsers E aU U, sPieces E aP P, sWords E aW W, sArrJ E aO 1 (vp_updL o 0 r.toInt64)]) (st' := []) (pc' := 10) [0, 1, 2, 3, 4, 5, 6] rfl rfl rfl rfl ?_
    refine g_goto F 21 dL_user_10 (by decide) ?_
    refine g_iconst F 0 dL_user_21 rfl ?_
    exact g_iret F rfl ⟨rfl, rfl⟩ dL_user_22
  · rintro ec w ⟨hx, he, rfl⟩
    rcases hk with ⟨h1, -, -⟩ | ⟨rfl, rfl, rfl⟩ | ⟨rfl, rfl, rfl⟩
    · exact absurd h1 hx
    · rw [gxn_1] at he
      subst he
      refine ⟨[], ⟨0, 10, 13, 25⟩, [⟨0, 10, 17, 13⟩], rfl, by decide, by decide +kernel, by decide, by decide, fun z hz => absurd hz List.not_mem_nil, fun q9 => ?_⟩
      refine g_astore F dL_user_13 (Nat.le_of_ble_eq_true rfl) rfl rfl ?_
      refine g_iconst F 1 dL_user_15 rfl ?_
      exact g_iret F rfl ⟨rfl, rfl⟩ dL_user_16
    · rw [gxn_2] at he
      subst he
      refine ⟨[⟨0, 10, 13, 25⟩], ⟨0, 10, 17, 13⟩, [], rfl, by decide, by decide +kernel, by decide, by decide, fun z hz => ?_, fun q9 => ?_⟩
      · cases List.mem_singleton.mp hz
        exact ⟨by decide, "java/lang/IndexOutOfBoundsException", by decide, by decide, by decide +kernel⟩
      refine g_astore F dL_user_17 (Nat.le_of_ble_eq_true rfl) rfl rfl ?_
      refine g_iconst F 2 dL_user_19 rfl ?_
      exact g_iret F rfl ⟨rfl, rfl⟩ dL_user_20
abbrev rmL_piece : Room := { frames := 8, cells := 2, slots := 12, locals := 128 }
theorem h0L_piece : yL_piece.cls ≠ "java/lang/invoke/MethodHandle" ∧ yL_piece.cls ≠ "java/lang/invoke/VarHandle" ∧ (parseMethodDescriptor yL_piece.desc).map (fun d => d.parameters.length) = some 4 := by decide +kernel
theorem ctL_piece (l : Launch) (E : gE) (aD abuffer aB aPr aC2 aV aHs aSl afilled asettings asums aU aP aW : Nat → Nat) (x1 : Int32) (x2 : Int32) (D_buffered : Int32) (D_lastErrorAt : Int32) (B_time : Int32) (B_chest : Int32) (B_fund : Int32) (P : tPieces) (x : Int32) (r : Int32) (hst : l.stackTraces = false) (hf : fX9_piece x1 x2 P = some (x, r)) (aO : Nat → Nat) (o o9 : Nat → Int64) (k9 : Int32) (hk : (x = 0 ∧ k9 = 0 ∧ o9 = vp_updL o 0 r.toInt64) ∨ (x = 1 ∧ k9 = 1 ∧ o9 = o) ∨ (x = 2 ∧ k9 = 2 ∧ o9 = o)) : gMetX l yL_piece wsL_piece rmL_piece vwCl E [.ref (aD 0), .int x1, .int x2, .ref (aO 0)] [sPD E aD abuffer aB aPr aC2 aV aHs aSl afilled D_buffered D_lastErrorAt, sBook E aB asettings asums aU aP aW B_time B_chest B_fund, sPieces E aP P, sArrJ E aO 1 o] (fun v w => v = some (.int k9) ∧ w = [sPD E aD abuffer aB aPr aC2 aV aHs aSl afilled D_buffered D_lastErrorAt, sBook E aB asettings asums aU aP aW B_time B_chest B_fund, sPieces E aP P, sArrJ E aO 1 o9]) (fun _ _ => False) 2 12 := by
  refine g_entryH [some (.ref (aD 0)), some (.int x1), some (.int x2), some (.ref (aO 0)), none] (by decide) rfl (Nat.le_of_ble_eq_true rfl) rfl ?_
  intro p e s m below meth c A F htab
  refine g_aload_n F dL_piece_0 rfl ?_
  refine g_iconst F 0 dL_piece_1 rfl ?_
  refine g_aload_n F dL_piece_2 rfl ?_
  refine g_iload_n F dL_piece_3 rfl ?_
  refine g_iload_n F dL_piece_4 rfl ?_
  refine g_callVC (C := RX9) (T := TX9) (N := 10) (Lr := [sArrJ E aO 1 o]) (As := [.int x1, .int x2]) (rest := [.int 0, .ref (aO 0)]) F 0 0 2 (ctX9_piece l E aD abuffer aB aPr aC2 aV aHs aSl afilled asettings asums aU aP aW x1 x2 D_buffered D_lastErrorAt B_time B_chest B_fund P x r hst hf) gL_piece_X9_piece rfl rfl rfl h0X9_piece ⟨Nat.le_of_ble_eq_true rfl, Nat.le_of_ble_eq_true rfl⟩ rfl rfl rfl [0, 1, 2] [3] rfl rfl rfl rfl rfl rfl (Nat.le_of_ble_eq_true rfl) dL_piece_5 ⟨Nat.le_of_ble_eq_true rfl, Nat.le_of_ble_eq_true rfl⟩ htab ?_ ?_
  · rintro v w ⟨h0, rfl, rfl⟩
    obtain ⟨rfl, rfl⟩ : k9 = 0 ∧ o9 = vp_updL o 0 r.toInt64 := by
      rcases hk with ⟨-, h1, h2⟩ | ⟨h1, -, -⟩ | ⟨h1, -, -⟩
      · exact ⟨h1, h2⟩
      · exact absurd (h1.symm.trans h0) (by decide)
      · exact absurd (h1.symm.trans h0) (by decide)
    refine g_i2l F dL_piece_8 ?_
    refine g_last F 3 0 0 rfl rfl rfl (by decide) dL_piece_9 rfl ?_
    refine g_norm (Lw' := [sPD E aD abuffer aB aPr aC2 aV aHs aSl afilled D_buffered D_lastErrorAt, sBook E aB asettings asums aU aP aW B_time B_chest B_fund, sPieces E aP P, sArrJ E aO 1 (vp_updL o 0 r.toInt64)]) (st' := []) (pc' := 10) [0, 1, 2, 3] rfl rfl rfl rfl ?_
    refine g_goto F 21 dL_piece_10 (by decide) ?_
    refine g_iconst F 0 dL_piece_21 rfl ?_
    exact g_iret F rfl ⟨rfl, rfl⟩ dL_piece_22
  · rintro ec w ⟨hx, he, rfl⟩
    rcases hk with ⟨h1, -, -⟩ | ⟨rfl, rfl, rfl⟩ | ⟨rfl, rfl, rfl⟩
    · exact absurd h1 hx
    · rw [gxn_1] at he
      subst he
      refine ⟨[], ⟨0, 10, 13, 25⟩, [⟨0, 10, 17, 13⟩], rfl, by decide, by decide +kernel, by decide, by decide, fun z hz => absurd hz List.not_mem_nil, fun q9 => ?_⟩
      refine g_astore F dL_piece_13 (Nat.le_of_ble_eq_true rfl) rfl rfl ?_
      refine g_iconst F 1 dL_piece_15 rfl ?_
      exact g_iret F rfl ⟨rfl, rfl⟩ dL_piece_16
    · rw [gxn_2] at he
      subst he
      refine ⟨[⟨0, 10, 13, 25⟩], ⟨0, 10, 17, 13⟩, [], rfl, by decide, by decide +kernel, by decide, by decide, fun z hz => ?_, fun q9 => ?_⟩
      · cases List.mem_singleton.mp hz
        exact ⟨by decide, "java/lang/IndexOutOfBoundsException", by decide, by decide, by decide +kernel⟩
      refine g_astore F dL_piece_17 (Nat.le_of_ble_eq_true rfl) rfl rfl ?_
      refine g_iconst F 2 dL_piece_19 rfl ?_
      exact g_iret F rfl ⟨rfl, rfl⟩ dL_piece_20
abbrev rmL_pieceLetter : Room := { frames := 8, cells := 1, slots := 6, locals := 128 }
theorem h0L_pieceLetter : yL_pieceLetter.cls ≠ "java/lang/invoke/MethodHandle" ∧ yL_pieceLetter.cls ≠ "java/lang/invoke/VarHandle" ∧ (parseMethodDescriptor yL_pieceLetter.desc).map (fun d => d.parameters.length) = some 4 := by decide +kernel
theorem ctL_pieceLetter (l : Launch) (E : gE) (aD abuffer aB aPr aC2 aV aHs aSl afilled asettings asums aU aP aW : Nat → Nat) (x1 : Int32) (x2 : Int32) (D_buffered : Int32) (D_lastErrorAt : Int32) (B_time : Int32) (B_chest : Int32) (B_fund : Int32) (P : tPieces) (x : Int32) (r : Int32) (hst : l.stackTraces = false) (hf : fX9_pieceLetter x1 x2 P = some (x, r)) (aO : Nat → Nat) (o o9 : Nat → Int64) (k9 : Int32) (hk : (x = 0 ∧ k9 = 0 ∧ o9 = vp_updL o 0 r.toInt64) ∨ (x = 1 ∧ k9 = 1 ∧ o9 = o)) : gMetX l yL_pieceLetter wsL_pieceLetter rmL_pieceLetter vwCl E [.ref (aD 0), .int x1, .int x2, .ref (aO 0)] [sPD E aD abuffer aB aPr aC2 aV aHs aSl afilled D_buffered D_lastErrorAt, sBook E aB asettings asums aU aP aW B_time B_chest B_fund, sPieces E aP P, sArrJ E aO 1 o] (fun v w => v = some (.int k9) ∧ w = [sPD E aD abuffer aB aPr aC2 aV aHs aSl afilled D_buffered D_lastErrorAt, sBook E aB asettings asums aU aP aW B_time B_chest B_fund, sPieces E aP P, sArrJ E aO 1 o9]) (fun _ _ => False) 1 6 := by
  refine g_entryH [some (.ref (aD 0)), some (.int x1), some (.int x2), some (.ref (aO 0)), none] (by decide) rfl (Nat.le_of_ble_eq_true rfl) rfl ?_
  intro p e s m below meth c A F htab
  refine g_aload_n F dL_pieceLetter_0 rfl ?_
  refine g_iconst F 0 dL_pieceLetter_1 rfl ?_
  refine g_aload_n F dL_pieceLetter_2 rfl ?_
  refine g_iload_n F dL_pieceLetter_3 rfl ?_
  refine g_iload_n F dL_pieceLetter_4 rfl ?_
  refine g_callVC (C := RX9) (T := TX9) (N := 10) (Lr := [sArrJ E aO 1 o]) (As := [.int x1, .int x2]) (rest := [.int 0, .ref (aO 0)]) F 0 0 2 (ctX9_pieceLetter l E aD abuffer aB aPr aC2 aV aHs aSl afilled asettings asums aU aP aW x1 x2 D_buffered D_lastErrorAt B_time B_chest B_fund P x r hst hf) gL_pieceLetter_X9_pieceLetter rfl rfl rfl h0X9_pieceLetter ⟨Nat.le_of_ble_eq_true rfl, Nat.le_of_ble_eq_true rfl⟩ rfl rfl rfl [0, 1, 2] [3] rfl rfl rfl rfl rfl rfl (Nat.le_of_ble_eq_true rfl) dL_pieceLetter_5 ⟨Nat.le_of_ble_eq_true rfl, Nat.le_of_ble_eq_true rfl⟩ htab ?_ ?_
  · rintro v w ⟨h0, rfl, rfl⟩
    obtain ⟨rfl, rfl⟩ : k9 = 0 ∧ o9 = vp_updL o 0 r.toInt64 := by
      rcases hk with ⟨-, h1, h2⟩ | ⟨h1, -, -⟩
      · exact ⟨h1, h2⟩
      · exact absurd (h1.symm.trans h0) (by decide)
    refine g_i2l F dL_pieceLetter_8 ?_
    refine g_last F 3 0 0 rfl rfl rfl (by decide) dL_pieceLetter_9 rfl ?_
    refine g_norm (Lw' := [sPD E aD abuffer aB aPr aC2 aV aHs aSl afilled D_buffered D_lastErrorAt, sBook E aB asettings asums aU aP aW B_time B_chest B_fund, sPieces E aP P, sArrJ E aO 1 (vp_updL o 0 r.toInt64)]) (st' := []) (pc' := 10) [0, 1, 2, 3] rfl rfl rfl rfl ?_
    refine g_goto F 17 dL_pieceLetter_10 (by decide) ?_
    refine g_iconst F 0 dL_pieceLetter_17 rfl ?_
    exact g_iret F rfl ⟨rfl, rfl⟩ dL_pieceLetter_18
  · rintro ec w ⟨hx, he, rfl⟩
    rcases hk with ⟨h1, -, -⟩ | ⟨rfl, rfl, rfl⟩
    · exact absurd h1 hx
    · rw [gxn_1] at he
      subst he
      refine ⟨[], ⟨0, 10, 13, 25⟩, [], rfl, by decide, by decide +kernel, by decide, by decide, fun z hz => absurd hz List.not_mem_nil, fun q9 => ?_⟩
      refine g_astore F dL_pieceLetter_13 (Nat.le_of_ble_eq_true rfl) rfl rfl ?_
      refine g_iconst F 1 dL_pieceLetter_15 rfl ?_
      exact g_iret F rfl ⟨rfl, rfl⟩ dL_pieceLetter_16
abbrev rmL_word : Room := { frames := 8, cells := 2, slots := 12, locals := 128 }
theorem h0L_word : yL_word.cls ≠ "java/lang/invoke/MethodHandle" ∧ yL_word.cls ≠ "java/lang/invoke/VarHandle" ∧ (parseMethodDescriptor yL_word.desc).map (fun d => d.parameters.length) = some 4 := by decide +kernel
theorem ctL_word (l : Launch) (E : gE) (aD abuffer aB aPr aC2 aV aHs aSl afilled asettings asums aU aP aW : Nat → Nat) (x1 : Int32) (x2 : Int32) (D_buffered : Int32) (D_lastErrorAt : Int32) (B_time : Int32) (B_chest : Int32) (B_fund : Int32) (settings : (Nat → Int32)) (W : tWords) (x : Int32) (r : Int32) (hst : l.stackTraces = false) (hf : fX9_word x1 x2 settings W = some (x, r)) (aO : Nat → Nat) (o o9 : Nat → Int64) (k9 : Int32) (hk : (x = 0 ∧ k9 = 0 ∧ o9 = vp_updL o 0 r.toInt64) ∨ (x = 1 ∧ k9 = 1 ∧ o9 = o) ∨ (x = 2 ∧ k9 = 2 ∧ o9 = o)) : gMetX l yL_word wsL_word rmL_word vwCl E [.ref (aD 0), .int x1, .int x2, .ref (aO 0)] [sPD E aD abuffer aB aPr aC2 aV aHs aSl afilled D_buffered D_lastErrorAt, sBook E aB asettings asums aU aP aW B_time B_chest B_fund, sArrI E asettings 5 settings, sWords E aW W, sArrJ E aO 1 o] (fun v w => v = some (.int k9) ∧ w = [sPD E aD abuffer aB aPr aC2 aV aHs aSl afilled D_buffered D_lastErrorAt, sBook E aB asettings asums aU aP aW B_time B_chest B_fund, sArrI E asettings 5 settings, sWords E aW W, sArrJ E aO 1 o9]) (fun _ _ => False) 2 12 := by
  refine g_entryH [some (.ref (aD 0)), some (.int x1), some (.int x2), some (.ref (aO 0)), none] (by decide) rfl (Nat.le_of_ble_eq_true rfl) rfl ?_
  intro p e s m below meth c A F htab
  refine g_aload_n F dL_word_0 rfl ?_
  refine g_iconst F 0 dL_word_1 rfl ?_
  refine g_aload_n F dL_word_2 rfl ?_
  refine g_iload_n F dL_word_3 rfl ?_
  refine g_iload_n F dL_word_4 rfl ?_
  refine g_callVC (C := RX9) (T := TX9) (N := 10) (Lr := [sArrJ E aO 1 o]) (As := [.int x1, .int x2]) (rest := [.int 0, .ref (aO 0)]) F 0 0 2 (ctX9_word l E aD abuffer aB aPr aC2 aV aHs aSl afilled asettings asums aU aP aW x1 x2 D_buffered D_lastErrorAt B_time B_chest B_fund settings W x r hst hf) gL_word_X9_word rfl rfl rfl h0X9_word ⟨Nat.le_of_ble_eq_true rfl, Nat.le_of_ble_eq_true rfl⟩ rfl rfl rfl [0, 1, 2, 3] [4] rfl rfl rfl rfl rfl rfl (Nat.le_of_ble_eq_true rfl) dL_word_5 ⟨Nat.le_of_ble_eq_true rfl, Nat.le_of_ble_eq_true rfl⟩ htab ?_ ?_
  · rintro v w ⟨h0, rfl, rfl⟩
    obtain ⟨rfl, rfl⟩ : k9 = 0 ∧ o9 = vp_updL o 0 r.toInt64 := by
      rcases hk with ⟨-, h1, h2⟩ | ⟨h1, -, -⟩ | ⟨h1, -, -⟩
      · exact ⟨h1, h2⟩
      · exact absurd (h1.symm.trans h0) (by decide)
      · exact absurd (h1.symm.trans h0) (by decide)
    refine g_i2l F dL_word_8 ?_
    refine g_last F 4 0 0 rfl rfl rfl (by decide) dL_word_9 rfl ?_
    refine g_norm (Lw' := [sPD E aD abuffer aB aPr aC2 aV aHs aSl afilled D_buffered D_lastErrorAt, sBook E aB asettings asums aU aP aW B_time B_chest B_fund, sArrI E asettings 5 settings, sWords E aW W, sArrJ E aO 1 (vp_updL o 0 r.toInt64)]) (st' := []) (pc' := 10) [0, 1, 2, 3, 4] rfl rfl rfl rfl ?_
    refine g_goto F 21 dL_word_10 (by decide) ?_
    refine g_iconst F 0 dL_word_21 rfl ?_
    exact g_iret F rfl ⟨rfl, rfl⟩ dL_word_22
  · rintro ec w ⟨hx, he, rfl⟩
    rcases hk with ⟨h1, -, -⟩ | ⟨rfl, rfl, rfl⟩ | ⟨rfl, rfl, rfl⟩
    · exact absurd h1 hx
    · rw [gxn_1] at he
      subst he
      refine ⟨[], ⟨0, 10, 13, 25⟩, [⟨0, 10, 17, 13⟩], rfl, by decide, by decide +kernel, by decide, by decide, fun z hz => absurd hz List.not_mem_nil, fun q9 => ?_⟩
      refine g_astore F dL_word_13 (Nat.le_of_ble_eq_true rfl) rfl rfl ?_
      refine g_iconst F 1 dL_word_15 rfl ?_
      exact g_iret F rfl ⟨rfl, rfl⟩ dL_word_16
    · rw [gxn_2] at he
      subst he
      refine ⟨[⟨0, 10, 13, 25⟩], ⟨0, 10, 17, 13⟩, [], rfl, by decide, by decide +kernel, by decide, by decide, fun z hz => ?_, fun q9 => ?_⟩
      · cases List.mem_singleton.mp hz
        exact ⟨by decide, "java/lang/IndexOutOfBoundsException", by decide, by decide, by decide +kernel⟩
      refine g_astore F dL_word_17 (Nat.le_of_ble_eq_true rfl) rfl rfl ?_
      refine g_iconst F 2 dL_word_19 rfl ?_
      exact g_iret F rfl ⟨rfl, rfl⟩ dL_word_20
abbrev rmL_wordLetter : Room := { frames := 8, cells := 1, slots := 6, locals := 128 }
theorem h0L_wordLetter : yL_wordLetter.cls ≠ "java/lang/invoke/MethodHandle" ∧ yL_wordLetter.cls ≠ "java/lang/invoke/VarHandle" ∧ (parseMethodDescriptor yL_wordLetter.desc).map (fun d => d.parameters.length) = some 4 := by decide +kernel
theorem ctL_wordLetter (l : Launch) (E : gE) (aD abuffer aB aPr aC2 aV aHs aSl afilled asettings asums aU aP aW : Nat → Nat) (x1 : Int32) (x2 : Int32) (D_buffered : Int32) (D_lastErrorAt : Int32) (B_time : Int32) (B_chest : Int32) (B_fund : Int32) (P : tPieces) (W : tWords) (x : Int32) (r : Int32) (hst : l.stackTraces = false) (hf : fX9_wordLetter x1 x2 P W = some (x, r)) (aO : Nat → Nat) (o o9 : Nat → Int64) (k9 : Int32) (hk : (x = 0 ∧ k9 = 0 ∧ o9 = vp_updL o 0 r.toInt64) ∨ (x = 1 ∧ k9 = 1 ∧ o9 = o)) : gMetX l yL_wordLetter wsL_wordLetter rmL_wordLetter vwCl E [.ref (aD 0), .int x1, .int x2, .ref (aO 0)] [sPD E aD abuffer aB aPr aC2 aV aHs aSl afilled D_buffered D_lastErrorAt, sBook E aB asettings asums aU aP aW B_time B_chest B_fund, sPieces E aP P, sWords E aW W, sArrJ E aO 1 o] (fun v w => v = some (.int k9) ∧ w = [sPD E aD abuffer aB aPr aC2 aV aHs aSl afilled D_buffered D_lastErrorAt, sBook E aB asettings asums aU aP aW B_time B_chest B_fund, sPieces E aP P, sWords E aW W, sArrJ E aO 1 o9]) (fun _ _ => False) 1 6 := by
  refine g_entryH [some (.ref (aD 0)), some (.int x1), some (.int x2), some (.ref (aO 0)), none] (by decide) rfl (Nat.le_of_ble_eq_true rfl) rfl ?_
  intro p e s m below meth c A F htab
  refine g_aload_n F dL_wordLetter_0 rfl ?_
  refine g_iconst F 0 dL_wordLetter_1 rfl ?_
  refine g_aload_n F dL_wordLetter_2 rfl ?_
  refine g_iload_n F dL_wordLetter_3 rfl ?_
  refine g_iload_n F dL_wordLetter_4 rfl ?_
  refine g_callVC (C := RX9) (T := TX9) (N := 10) (Lr := [sArrJ E aO 1 o]) (As := [.int x1, .int x2]) (rest := [.int 0, .ref (aO 0)]) F 0 0 2 (ctX9_wordLetter l E aD abuffer aB aPr aC2 aV aHs aSl afilled asettings asums aU aP aW x1 x2 D_buffered D_lastErrorAt B_time B_chest B_fund P W x r hst hf) gL_wordLetter_X9_wordLetter rfl rfl rfl h0X9_wordLetter ⟨Nat.le_of_ble_eq_true rfl, Nat.le_of_ble_eq_true rfl⟩ rfl rfl rfl [0, 1, 2, 3] [4] rfl rfl rfl rfl rfl rfl (Nat.le_of_ble_eq_true rfl) dL_wordLetter_5 ⟨Nat.le_of_ble_eq_true rfl, Nat.le_of_ble_eq_true rfl⟩ htab ?_ ?_
  · rintro v w ⟨h0, rfl, rfl⟩
    obtain ⟨rfl, rfl⟩ : k9 = 0 ∧ o9 = vp_updL o 0 r.toInt64 := by
      rcases hk with ⟨-, h1, h2⟩ | ⟨h1, -, -⟩
      · exact ⟨h1, h2⟩
      · exact absurd (h1.symm.trans h0) (by decide)
    refine g_i2l F dL_wordLetter_8 ?_
    refine g_last F 4 0 0 rfl rfl rfl (by decide) dL_wordLetter_9 rfl ?_
    refine g_norm (Lw' := [sPD E aD abuffer aB aPr aC2 aV aHs aSl afilled D_buffered D_lastErrorAt, sBook E aB asettings asums aU aP aW B_time B_chest B_fund, sPieces E aP P, sWords E aW W, sArrJ E aO 1 (vp_updL o 0 r.toInt64)]) (st' := []) (pc' := 10) [0, 1, 2, 3, 4] rfl rfl rfl rfl ?_
    refine g_goto F 17 dL_wordLetter_10 (by decide) ?_
    refine g_iconst F 0 dL_wordLetter_17 rfl ?_
    exact g_iret F rfl ⟨rfl, rfl⟩ dL_wordLetter_18
  · rintro ec w ⟨hx, he, rfl⟩
    rcases hk with ⟨h1, -, -⟩ | ⟨rfl, rfl, rfl⟩
    · exact absurd h1 hx
    · rw [gxn_1] at he
      subst he
      refine ⟨[], ⟨0, 10, 13, 25⟩, [], rfl, by decide, by decide +kernel, by decide, by decide, fun z hz => absurd hz List.not_mem_nil, fun q9 => ?_⟩
      refine g_astore F dL_wordLetter_13 (Nat.le_of_ble_eq_true rfl) rfl rfl ?_
      refine g_iconst F 1 dL_wordLetter_15 rfl ?_
      exact g_iret F rfl ⟨rfl, rfl⟩ dL_wordLetter_16
abbrev rmL_part : Room := { frames := 8, cells := 1, slots := 6, locals := 128 }
theorem h0L_part : yL_part.cls ≠ "java/lang/invoke/MethodHandle" ∧ yL_part.cls ≠ "java/lang/invoke/VarHandle" ∧ (parseMethodDescriptor yL_part.desc).map (fun d => d.parameters.length) = some 4 := by decide +kernel
theorem ctL_part (l : Launch) (E : gE) (aD abuffer aB aPr aC2 aV aHs aSl afilled asettings asums aU aP aW : Nat → Nat) (x1 : Int32) (x2 : Int32) (D_buffered : Int32) (D_lastErrorAt : Int32) (B_time : Int32) (B_chest : Int32) (B_fund : Int32) (W : tWords) (x : Int32) (r : Int32) (hst : l.stackTraces = false) (hf : fX9_part x1 x2 W = some (x, r)) (aO : Nat → Nat) (o o9 : Nat → Int64) (k9 : Int32) (hk : (x = 0 ∧ k9 = 0 ∧ o9 = vp_updL o 0 r.toInt64) ∨ (x = 1 ∧ k9 = 1 ∧ o9 = o)) : gMetX l yL_part wsL_part rmL_part vwCl E [.ref (aD 0), .int x1, .int x2, .ref (aO 0)] [sPD E aD abuffer aB aPr aC2 aV aHs aSl afilled D_buffered D_lastErrorAt, sBook E aB asettings asums aU aP aW B_time B_chest B_fund, sWords E aW W, sArrJ E aO 1 o] (fun v w => v = some (.int k9) ∧ w = [sPD E aD abuffer aB aPr aC2 aV aHs aSl afilled D_buffered D_lastErrorAt, sBook E aB asettings asums aU aP aW B_time B_chest B_fund, sWords E aW W, sArrJ E aO 1 o9]) (fun _ _ => False) 1 6 := by
  refine g_entryH [some (.ref (aD 0)), some (.int x1), some (.int x2), some (.ref (aO 0)), none] (by decide) rfl (Nat.le_of_ble_eq_true rfl) rfl ?_
  intro p e s m below meth c A F htab
  refine g_aload_n F dL_part_0 rfl ?_
  refine g_iconst F 0 dL_part_1 rfl ?_
  refine g_aload_n F dL_part_2 rfl ?_
  refine g_iload_n F dL_part_3 rfl ?_
  refine g_iload_n F dL_part_4 rfl ?_
  refine g_callVC (C := RX9) (T := TX9) (N := 10) (Lr := [sArrJ E aO 1 o]) (As := [.int x1, .int x2]) (rest := [.int 0, .ref (aO 0)]) F 0 0 2 (ctX9_part l E aD abuffer aB aPr aC2 aV aHs aSl afilled asettings asums aU aP aW x1 x2 D_buffered D_lastErrorAt B_time B_chest B_fund W x r hst hf) gL_part_X9_part rfl rfl rfl h0X9_part ⟨Nat.le_of_ble_eq_true rfl, Nat.le_of_ble_eq_true rfl⟩ rfl rfl rfl [0, 1, 2] [3] rfl rfl rfl rfl rfl rfl (Nat.le_of_ble_eq_true rfl) dL_part_5 ⟨Nat.le_of_ble_eq_true rfl, Nat.le_of_ble_eq_true rfl⟩ htab ?_ ?_
  · rintro v w ⟨h0, rfl, rfl⟩
    obtain ⟨rfl, rfl⟩ : k9 = 0 ∧ o9 = vp_updL o 0 r.toInt64 := by
      rcases hk with ⟨-, h1, h2⟩ | ⟨h1, -, -⟩
      · exact ⟨h1, h2⟩
      · exact absurd (h1.symm.trans h0) (by decide)
    refine g_i2l F dL_part_8 ?_
    refine g_last F 3 0 0 rfl rfl rfl (by decide) dL_part_9 rfl ?_
    refine g_norm (Lw' := [sPD E aD abuffer aB aPr aC2 aV aHs aSl afilled D_buffered D_lastErrorAt, sBook E aB asettings asums aU aP aW B_time B_chest B_fund, sWords E aW W, sArrJ E aO 1 (vp_updL o 0 r.toInt64)]) (st' := []) (pc' := 10) [0, 1, 2, 3] rfl rfl rfl rfl ?_
    refine g_goto F 17 dL_part_10 (by decide) ?_
    refine g_iconst F 0 dL_part_17 rfl ?_
    exact g_iret F rfl ⟨rfl, rfl⟩ dL_part_18
  · rintro ec w ⟨hx, he, rfl⟩
    rcases hk with ⟨h1, -, -⟩ | ⟨rfl, rfl, rfl⟩
    · exact absurd h1 hx
    · rw [gxn_1] at he
      subst he
      refine ⟨[], ⟨0, 10, 13, 25⟩, [], rfl, by decide, by decide +kernel, by decide, by decide, fun z hz => absurd hz List.not_mem_nil, fun q9 => ?_⟩
      refine g_astore F dL_part_13 (Nat.le_of_ble_eq_true rfl) rfl rfl ?_
      refine g_iconst F 1 dL_part_15 rfl ?_
      exact g_iret F rfl ⟨rfl, rfl⟩ dL_part_16
abbrev rmL_quote : Room := { frames := 8, cells := 1, slots := 6, locals := 130 }
theorem h0L_quote : yL_quote.cls ≠ "java/lang/invoke/MethodHandle" ∧ yL_quote.cls ≠ "java/lang/invoke/VarHandle" ∧ (parseMethodDescriptor yL_quote.desc).map (fun d => d.parameters.length) = some 3 := by decide +kernel
theorem ctL_quote (l : Launch) (E : gE) (aD abuffer aB aPr aC2 aV aHs aSl afilled asettings asums aU aP aW aS2 : Nat → Nat) (x1 : Int32) (D_buffered : Int32) (D_lastErrorAt : Int32) (buffer : (Nat → Int32)) (B_time : Int32) (B_chest : Int32) (B_fund : Int32) (settings : (Nat → Int32)) (P : tPieces) (C2 : tCut) (S2 : tCutR) (x : Int32) (r : Int32) (D_buffered' : Int32) (C2' : tCut) (S2' : tCutR) (hst : l.stackTraces = false) (hf : fX9_quote x1 D_buffered buffer settings P C2 S2 = some (x, r, D_buffered', C2', S2')) (aO : Nat → Nat) (o o9 : Nat → Int64) (k9 : Int32) (hk : (x = 0 ∧ k9 = 0 ∧ o9 = vp_updL o 0 r.toInt64) ∨ (x = 2 ∧ k9 = 1 ∧ o9 = o)) : gMetX l yL_quote wsL_quote rmL_quote vwCl E [.ref (aD 0), .int x1, .ref (aO 0)] [sPD E aD abuffer aB aPr aC2 aV aHs aSl afilled D_buffered D_lastErrorAt, sArrB E abuffer 600 buffer, sBook E aB asettings asums aU aP aW B_time B_chest B_fund, sArrI E asettings 5 settings, sPieces E aP P, sCut E aC2 aS2 C2, sCutR E aS2 S2, sArrJ E aO 1 o] (fun v w => v = some (.int k9) ∧ w = [sPD E aD abuffer aB aPr aC2 aV aHs aSl afilled D_buffered' D_lastErrorAt, sArrB E abuffer 600 buffer, sBook E aB asettings asums aU aP aW B_time B_chest B_fund, sArrI E asettings 5 settings, sPieces E aP P, sCut E aC2 aS2 C2', sCutR E aS2 S2', sArrJ E aO 1 o9]) (fun _ _ => False) 1 6 := by
  refine g_entryH [some (.ref (aD 0)), some (.int x1), some (.ref (aO 0)), none] (by decide) rfl (Nat.le_of_ble_eq_true rfl) rfl ?_
  intro p e s m below meth c A F htab
  refine g_aload_n F dL_quote_0 rfl ?_
  refine g_iconst F 0 dL_quote_1 rfl ?_
  refine g_aload_n F dL_quote_2 rfl ?_
  refine g_iload_n F dL_quote_3 rfl ?_
  refine g_callVC (C := RX9) (T := TX9) (N := 10) (Lr := [sArrJ E aO 1 o]) (As := [.int x1]) (rest := [.int 0, .ref (aO 0)]) F 0 0 1 (ctX9_quote l E aD abuffer aB aPr aC2 aV aHs aSl afilled asettings asums aU aP aW aS2 x1 D_buffered D_lastErrorAt buffer B_time B_chest B_fund settings P C2 S2 x r D_buffered' C2' S2' hst hf) gL_quote_X9_quote rfl rfl rfl h0X9_quote ⟨Nat.le_of_ble_eq_true rfl, Nat.le_of_ble_eq_true rfl⟩ rfl rfl rfl [0, 1, 2, 3, 4, 5, 6] [7] rfl rfl rfl rfl rfl rfl (Nat.le_of_ble_eq_true rfl) dL_quote_4 ⟨Nat.le_of_ble_eq_true rfl, Nat.le_of_ble_eq_true rfl⟩ htab ?_ ?_
  · rintro v w ⟨h0, rfl, rfl⟩
    obtain ⟨rfl, rfl⟩ : k9 = 0 ∧ o9 = vp_updL o 0 r.toInt64 := by
      rcases hk with ⟨-, h1, h2⟩ | ⟨h1, -, -⟩
      · exact ⟨h1, h2⟩
      · exact absurd (h1.symm.trans h0) (by decide)
    refine g_i2l F dL_quote_7 ?_
    refine g_last F 7 0 0 rfl rfl rfl (by decide) dL_quote_8 rfl ?_
    refine g_norm (Lw' := [sPD E aD abuffer aB aPr aC2 aV aHs aSl afilled D_buffered' D_lastErrorAt, sArrB E abuffer 600 buffer, sBook E aB asettings asums aU aP aW B_time B_chest B_fund, sArrI E asettings 5 settings, sPieces E aP P, sCut E aC2 aS2 C2', sCutR E aS2 S2', sArrJ E aO 1 (vp_updL o 0 r.toInt64)]) (st' := []) (pc' := 9) [0, 1, 2, 3, 4, 5, 6, 7] rfl rfl rfl rfl ?_
    refine g_goto F 15 dL_quote_9 (by decide) ?_
    refine g_iconst F 0 dL_quote_15 rfl ?_
    exact g_iret F rfl ⟨rfl, rfl⟩ dL_quote_16
  · rintro ec w ⟨hx, he, rfl⟩
    rcases hk with ⟨h1, -, -⟩ | ⟨rfl, rfl, rfl⟩
    · exact absurd h1 hx
    · rw [gxn_2] at he
      subst he
      refine ⟨[], ⟨0, 9, 12, 13⟩, [], rfl, by decide, by decide +kernel, by decide, by decide, fun z hz => absurd hz List.not_mem_nil, fun q9 => ?_⟩
      refine g_astore_n F dL_quote_12 (Nat.le_of_ble_eq_true rfl) rfl rfl ?_
      refine g_iconst F 1 dL_quote_13 rfl ?_
      exact g_iret F rfl ⟨rfl, rfl⟩ dL_quote_14
abbrev rmL_whyNotStore : Room := { frames := 8, cells := 1, slots := 6, locals := 129 }
theorem h0L_whyNotStore : yL_whyNotStore.cls ≠ "java/lang/invoke/MethodHandle" ∧ yL_whyNotStore.cls ≠ "java/lang/invoke/VarHandle" ∧ (parseMethodDescriptor yL_whyNotStore.desc).map (fun d => d.parameters.length) = some 3 := by decide +kernel
theorem ctL_whyNotStore (l : Launch) (E : gE) (aD abuffer aB aPr aC2 aV aHs aSl afilled asettings asums aU aP aW aS2 : Nat → Nat) (x1 : Int32) (D_buffered : Int32) (D_lastErrorAt : Int32) (buffer : (Nat → Int32)) (B_time : Int32) (B_chest : Int32) (B_fund : Int32) (settings : (Nat → Int32)) (U : tUsers) (P : tPieces) (W : tWords) (C2 : tCut) (S2 : tCutR) (x : Int32) (r : Int32) (D_buffered' : Int32) (C2' : tCut) (S2' : tCutR) (hst : l.stackTraces = false) (hf : fX9_whyNotStore x1 D_buffered buffer settings U P W C2 S2 = some (x, r, D_buffered', C2', S2')) (aO : Nat → Nat) (o o9 : Nat → Int64) (k9 : Int32) (hk : (x = 0 ∧ k9 = 0 ∧ o9 = vp_updL o 0 r.toInt64) ∨ (x = 1 ∧ k9 = 1 ∧ o9 = o)) : gMetX l yL_whyNotStore wsL_whyNotStore rmL_whyNotStore vwCl E [.ref (aD 0), .int x1, .ref (aO 0)] [sPD E aD abuffer aB aPr aC2 aV aHs aSl afilled D_buffered D_lastErrorAt, sArrB E abuffer 600 buffer, sBook E aB asettings asums aU aP aW B_time B_chest B_fund, sArrI E asettings 5 settings, sUsers E aU U, sPieces E aP P, sWords E aW W, sCut E aC2 aS2 C2, sCutR E aS2 S2, sArrJ E aO 1 o] (fun v w => v = some (.int k9) ∧ w = [sPD E aD abuffer aB aPr aC2 aV aHs aSl afilled D_buffered' D_lastErrorAt, sArrB E abuffer 600 buffer, sBook E aB asettings asums aU aP aW B_time B_chest B_fund, sArrI E asettings 5 settings, sUsers E aU U, sPieces E aP P, sWords E aW W, sCut E aC2 aS2 C2', sCutR E aS2 S2', sArrJ E aO 1 o9]) (fun _ _ => False) 1 6 := by
  refine g_entryH [some (.ref (aD 0)), some (.int x1), some (.ref (aO 0)), none] (by decide) rfl (Nat.le_of_ble_eq_true rfl) rfl ?_
  intro p e s m below meth c A F htab
  refine g_aload_n F dL_whyNotStore_0 rfl ?_
  refine g_iconst F 0 dL_whyNotStore_1 rfl ?_
  refine g_aload_n F dL_whyNotStore_2 rfl ?_
  refine g_iload_n F dL_whyNotStore_3 rfl ?_
  refine g_callVC (C := RX9) (T := TX9) (N := 10) (Lr := [sArrJ E aO 1 o]) (As := [.int x1]) (rest := [.int 0, .ref (aO 0)]) F 0 0 1 (ctX9_whyNotStore l E aD abuffer aB aPr aC2 aV aHs aSl afilled asettings asums aU aP aW aS2 x1 D_buffered D_lastErrorAt buffer B_time B_chest B_fund settings U P W C2 S2 x r D_buffered' C2' S2' hst hf) gL_whyNotStore_X9_whyNotStore rfl rfl rfl h0X9_whyNotStore ⟨Nat.le_of_ble_eq_true rfl, Nat.le_of_ble_eq_true rfl⟩ rfl rfl rfl [0, 1, 2, 3, 4, 5, 6, 7, 8] [9] rfl rfl rfl rfl rfl rfl (Nat.le_of_ble_eq_true rfl) dL_whyNotStore_4 ⟨Nat.le_of_ble_eq_true rfl, Nat.le_of_ble_eq_true rfl⟩ htab ?_ ?_
  · rintro v w ⟨h0, rfl, rfl⟩
    obtain ⟨rfl, rfl⟩ : k9 = 0 ∧ o9 = vp_updL o 0 r.toInt64 := by
      rcases hk with ⟨-, h1, h2⟩ | ⟨h1, -, -⟩
      · exact ⟨h1, h2⟩
      · exact absurd (h1.symm.trans h0) (by decide)
    refine g_i2l F dL_whyNotStore_7 ?_
    refine g_last F 9 0 0 rfl rfl rfl (by decide) dL_whyNotStore_8 rfl ?_
    refine g_norm (Lw' := [sPD E aD abuffer aB aPr aC2 aV aHs aSl afilled D_buffered' D_lastErrorAt, sArrB E abuffer 600 buffer, sBook E aB asettings asums aU aP aW B_time B_chest B_fund, sArrI E asettings 5 settings, sUsers E aU U, sPieces E aP P, sWords E aW W, sCut E aC2 aS2 C2', sCutR E aS2 S2', sArrJ E aO 1 (vp_updL o 0 r.toInt64)]) (st' := []) (pc' := 9) [0, 1, 2, 3, 4, 5, 6, 7, 8, 9] rfl rfl rfl rfl ?_
    refine g_goto F 15 dL_whyNotStore_9 (by decide) ?_
    refine g_iconst F 0 dL_whyNotStore_15 rfl ?_
    exact g_iret F rfl ⟨rfl, rfl⟩ dL_whyNotStore_16
  · rintro ec w ⟨hx, he, rfl⟩
    rcases hk with ⟨h1, -, -⟩ | ⟨rfl, rfl, rfl⟩
    · exact absurd h1 hx
    · rw [gxn_1] at he
      subst he
      refine ⟨[], ⟨0, 9, 12, 25⟩, [], rfl, by decide, by decide +kernel, by decide, by decide, fun z hz => absurd hz List.not_mem_nil, fun q9 => ?_⟩
      refine g_astore_n F dL_whyNotStore_12 (Nat.le_of_ble_eq_true rfl) rfl rfl ?_
      refine g_iconst F 1 dL_whyNotStore_13 rfl ?_
      exact g_iret F rfl ⟨rfl, rfl⟩ dL_whyNotStore_14
abbrev rmL_ways : Room := { frames := 8, cells := 1, slots := 6, locals := 127 }
theorem h0L_ways : yL_ways.cls ≠ "java/lang/invoke/MethodHandle" ∧ yL_ways.cls ≠ "java/lang/invoke/VarHandle" ∧ (parseMethodDescriptor yL_ways.desc).map (fun d => d.parameters.length) = some 3 := by decide +kernel
theorem ctL_ways (l : Launch) (E : gE) (aD abuffer aB aPr aC2 aV aHs aSl afilled asettings asums aU aP aW aS2 : Nat → Nat) (x1 : Int32) (D_buffered : Int32) (D_lastErrorAt : Int32) (B_time : Int32) (B_chest : Int32) (B_fund : Int32) (settings : (Nat → Int32)) (P : tPieces) (W : tWords) (C2 : tCut) (S2 : tCutR) (x : Int32) (r : Int32) (C2' : tCut) (S2' : tCutR) (hst : l.stackTraces = false) (hf : fX9_ways x1 settings P W C2 S2 = some (x, r, C2', S2')) (aO : Nat → Nat) (o o9 : Nat → Int64) (k9 : Int32) (hk : (x = 0 ∧ k9 = 0 ∧ o9 = vp_updL o 0 r.toInt64) ∨ (x = 1 ∧ k9 = 1 ∧ o9 = o)) : gMetX l yL_ways wsL_ways rmL_ways vwCl E [.ref (aD 0), .int x1, .ref (aO 0)] [sPD E aD abuffer aB aPr aC2 aV aHs aSl afilled D_buffered D_lastErrorAt, sBook E aB asettings asums aU aP aW B_time B_chest B_fund, sArrI E asettings 5 settings, sPieces E aP P, sWords E aW W, sCut E aC2 aS2 C2, sCutR E aS2 S2, sArrJ E aO 1 o] (fun v w => v = some (.int k9) ∧ w = [sPD E aD abuffer aB aPr aC2 aV aHs aSl afilled D_buffered D_lastErrorAt, sBook E aB asettings asums aU aP aW B_time B_chest B_fund, sArrI E asettings 5 settings, sPieces E aP P, sWords E aW W, sCut E aC2 aS2 C2', sCutR E aS2 S2', sArrJ E aO 1 o9]) (fun _ _ => False) 1 6 := by
  refine g_entryH [some (.ref (aD 0)), some (.int x1), some (.ref (aO 0)), none] (by decide) rfl (Nat.le_of_ble_eq_true rfl) rfl ?_
  intro p e s m below meth c A F htab
  refine g_aload_n F dL_ways_0 rfl ?_
  refine g_iconst F 0 dL_ways_1 rfl ?_
  refine g_aload_n F dL_ways_2 rfl ?_
  refine g_iload_n F dL_ways_3 rfl ?_
  refine g_callVC (C := RX9) (T := TX9) (N := 10) (Lr := [sArrJ E aO 1 o]) (As := [.int x1]) (rest := [.int 0, .ref (aO 0)]) F 0 0 1 (ctX9_ways l E aD abuffer aB aPr aC2 aV aHs aSl afilled asettings asums aU aP aW aS2 x1 D_buffered D_lastErrorAt B_time B_chest B_fund settings P W C2 S2 x r C2' S2' hst hf) gL_ways_X9_ways rfl rfl rfl h0X9_ways ⟨Nat.le_of_ble_eq_true rfl, Nat.le_of_ble_eq_true rfl⟩ rfl rfl rfl [0, 1, 2, 3, 4, 5, 6] [7] rfl rfl rfl rfl rfl rfl (Nat.le_of_ble_eq_true rfl) dL_ways_4 ⟨Nat.le_of_ble_eq_true rfl, Nat.le_of_ble_eq_true rfl⟩ htab ?_ ?_
  · rintro v w ⟨h0, rfl, rfl⟩
    obtain ⟨rfl, rfl⟩ : k9 = 0 ∧ o9 = vp_updL o 0 r.toInt64 := by
      rcases hk with ⟨-, h1, h2⟩ | ⟨h1, -, -⟩
      · exact ⟨h1, h2⟩
      · exact absurd (h1.symm.trans h0) (by decide)
    refine g_i2l F dL_ways_7 ?_
    refine g_last F 7 0 0 rfl rfl rfl (by decide) dL_ways_8 rfl ?_
    refine g_norm (Lw' := [sPD E aD abuffer aB aPr aC2 aV aHs aSl afilled D_buffered D_lastErrorAt, sBook E aB asettings asums aU aP aW B_time B_chest B_fund, sArrI E asettings 5 settings, sPieces E aP P, sWords E aW W, sCut E aC2 aS2 C2', sCutR E aS2 S2', sArrJ E aO 1 (vp_updL o 0 r.toInt64)]) (st' := []) (pc' := 9) [0, 1, 2, 3, 4, 5, 6, 7] rfl rfl rfl rfl ?_
    refine g_goto F 15 dL_ways_9 (by decide) ?_
    refine g_iconst F 0 dL_ways_15 rfl ?_
    exact g_iret F rfl ⟨rfl, rfl⟩ dL_ways_16
  · rintro ec w ⟨hx, he, rfl⟩
    rcases hk with ⟨h1, -, -⟩ | ⟨rfl, rfl, rfl⟩
    · exact absurd h1 hx
    · rw [gxn_1] at he
      subst he
      refine ⟨[], ⟨0, 9, 12, 25⟩, [], rfl, by decide, by decide +kernel, by decide, by decide, fun z hz => absurd hz List.not_mem_nil, fun q9 => ?_⟩
      refine g_astore_n F dL_ways_12 (Nat.le_of_ble_eq_true rfl) rfl rfl ?_
      refine g_iconst F 1 dL_ways_13 rfl ?_
      exact g_iret F rfl ⟨rfl, rfl⟩ dL_ways_14
abbrev rmL_fewest : Room := { frames := 8, cells := 1, slots := 6, locals := 142 }
theorem h0L_fewest : yL_fewest.cls ≠ "java/lang/invoke/MethodHandle" ∧ yL_fewest.cls ≠ "java/lang/invoke/VarHandle" ∧ (parseMethodDescriptor yL_fewest.desc).map (fun d => d.parameters.length) = some 3 := by decide +kernel
theorem ctL_fewest (l : Launch) (E : gE) (aD abuffer aB aPr aC2 aV aHs aSl afilled asettings asums aU aP aW aS2 : Nat → Nat) (x1 : Int32) (D_buffered : Int32) (D_lastErrorAt : Int32) (B_time : Int32) (B_chest : Int32) (B_fund : Int32) (settings : (Nat → Int32)) (P : tPieces) (W : tWords) (C2 : tCut) (S2 : tCutR) (x : Int32) (r : Int32) (C2' : tCut) (S2' : tCutR) (hst : l.stackTraces = false) (hf : fX9_fewest x1 settings P W C2 S2 = some (x, r, C2', S2')) (aO : Nat → Nat) (o o9 : Nat → Int64) (k9 : Int32) (hk : (x = 0 ∧ k9 = 0 ∧ o9 = vp_updL o 0 r.toInt64) ∨ (x = 1 ∧ k9 = 1 ∧ o9 = o)) : gMetX l yL_fewest wsL_fewest rmL_fewest vwCl E [.ref (aD 0), .int x1, .ref (aO 0)] [sPD E aD abuffer aB aPr aC2 aV aHs aSl afilled D_buffered D_lastErrorAt, sBook E aB asettings asums aU aP aW B_time B_chest B_fund, sArrI E asettings 5 settings, sPieces E aP P, sWords E aW W, sCut E aC2 aS2 C2, sCutR E aS2 S2, sArrJ E aO 1 o] (fun v w => v = some (.int k9) ∧ w = [sPD E aD abuffer aB aPr aC2 aV aHs aSl afilled D_buffered D_lastErrorAt, sBook E aB asettings asums aU aP aW B_time B_chest B_fund, sArrI E asettings 5 settings, sPieces E aP P, sWords E aW W, sCut E aC2 aS2 C2', sCutR E aS2 S2', sArrJ E aO 1 o9]) (fun _ _ => False) 1 6 := by
  refine g_entryH [some (.ref (aD 0)), some (.int x1), some (.ref (aO 0)), none] (by decide) rfl (Nat.le_of_ble_eq_true rfl) rfl ?_
  intro p e s m below meth c A F htab
  refine g_aload_n F dL_fewest_0 rfl ?_
  refine g_iconst F 0 dL_fewest_1 rfl ?_
  refine g_aload_n F dL_fewest_2 rfl ?_
  refine g_iload_n F dL_fewest_3 rfl ?_
  refine g_callVC (C := RX9) (T := TX9) (N := 10) (Lr := [sArrJ E aO 1 o]) (As := [.int x1]) (rest := [.int 0, .ref (aO 0)]) F 0 0 1 (ctX9_fewest l E aD abuffer aB aPr aC2 aV aHs aSl afilled asettings asums aU aP aW aS2 x1 D_buffered D_lastErrorAt B_time B_chest B_fund settings P W C2 S2 x r C2' S2' hst hf) gL_fewest_X9_fewest rfl rfl rfl h0X9_fewest ⟨Nat.le_of_ble_eq_true rfl, Nat.le_of_ble_eq_true rfl⟩ rfl rfl rfl [0, 1, 2, 3, 4, 5, 6] [7] rfl rfl rfl rfl rfl rfl (Nat.le_of_ble_eq_true rfl) dL_fewest_4 ⟨Nat.le_of_ble_eq_true rfl, Nat.le_of_ble_eq_true rfl⟩ htab ?_ ?_
  · rintro v w ⟨h0, rfl, rfl⟩
    obtain ⟨rfl, rfl⟩ : k9 = 0 ∧ o9 = vp_updL o 0 r.toInt64 := by
      rcases hk with ⟨-, h1, h2⟩ | ⟨h1, -, -⟩
      · exact ⟨h1, h2⟩
      · exact absurd (h1.symm.trans h0) (by decide)
    refine g_i2l F dL_fewest_7 ?_
    refine g_last F 7 0 0 rfl rfl rfl (by decide) dL_fewest_8 rfl ?_
    refine g_norm (Lw' := [sPD E aD abuffer aB aPr aC2 aV aHs aSl afilled D_buffered D_lastErrorAt, sBook E aB asettings asums aU aP aW B_time B_chest B_fund, sArrI E asettings 5 settings, sPieces E aP P, sWords E aW W, sCut E aC2 aS2 C2', sCutR E aS2 S2', sArrJ E aO 1 (vp_updL o 0 r.toInt64)]) (st' := []) (pc' := 9) [0, 1, 2, 3, 4, 5, 6, 7] rfl rfl rfl rfl ?_
    refine g_goto F 15 dL_fewest_9 (by decide) ?_
    refine g_iconst F 0 dL_fewest_15 rfl ?_
    exact g_iret F rfl ⟨rfl, rfl⟩ dL_fewest_16
  · rintro ec w ⟨hx, he, rfl⟩
    rcases hk with ⟨h1, -, -⟩ | ⟨rfl, rfl, rfl⟩
    · exact absurd h1 hx
    · rw [gxn_1] at he
      subst he
      refine ⟨[], ⟨0, 9, 12, 25⟩, [], rfl, by decide, by decide +kernel, by decide, by decide, fun z hz => absurd hz List.not_mem_nil, fun q9 => ?_⟩
      refine g_astore_n F dL_fewest_12 (Nat.le_of_ble_eq_true rfl) rfl rfl ?_
      refine g_iconst F 1 dL_fewest_13 rfl ?_
      exact g_iret F rfl ⟨rfl, rfl⟩ dL_fewest_14
abbrev rmL_saving : Room := { frames := 8, cells := 1, slots := 6, locals := 142 }
theorem h0L_saving : yL_saving.cls ≠ "java/lang/invoke/MethodHandle" ∧ yL_saving.cls ≠ "java/lang/invoke/VarHandle" ∧ (parseMethodDescriptor yL_saving.desc).map (fun d => d.parameters.length) = some 3 := by decide +kernel
theorem ctL_saving (l : Launch) (E : gE) (aD abuffer aB aPr aC2 aV aHs aSl afilled asettings asums aU aP aW aS2 : Nat → Nat) (x1 : Int32) (D_buffered : Int32) (D_lastErrorAt : Int32) (B_time : Int32) (B_chest : Int32) (B_fund : Int32) (settings : (Nat → Int32)) (P : tPieces) (W : tWords) (C2 : tCut) (S2 : tCutR) (x : Int32) (r : Int32) (C2' : tCut) (S2' : tCutR) (hst : l.stackTraces = false) (hf : fX9_saving x1 settings P W C2 S2 = some (x, r, C2', S2')) (aO : Nat → Nat) (o o9 : Nat → Int64) (k9 : Int32) (hk : (x = 0 ∧ k9 = 0 ∧ o9 = vp_updL o 0 r.toInt64) ∨ (x = 1 ∧ k9 = 1 ∧ o9 = o)) : gMetX l yL_saving wsL_saving rmL_saving vwCl E [.ref (aD 0), .int x1, .ref (aO 0)] [sPD E aD abuffer aB aPr aC2 aV aHs aSl afilled D_buffered D_lastErrorAt, sBook E aB asettings asums aU aP aW B_time B_chest B_fund, sArrI E asettings 5 settings, sPieces E aP P, sWords E aW W, sCut E aC2 aS2 C2, sCutR E aS2 S2, sArrJ E aO 1 o] (fun v w => v = some (.int k9) ∧ w = [sPD E aD abuffer aB aPr aC2 aV aHs aSl afilled D_buffered D_lastErrorAt, sBook E aB asettings asums aU aP aW B_time B_chest B_fund, sArrI E asettings 5 settings, sPieces E aP P, sWords E aW W, sCut E aC2 aS2 C2', sCutR E aS2 S2', sArrJ E aO 1 o9]) (fun _ _ => False) 1 6 := by
  refine g_entryH [some (.ref (aD 0)), some (.int x1), some (.ref (aO 0)), none] (by decide) rfl (Nat.le_of_ble_eq_true rfl) rfl ?_
  intro p e s m below meth c A F htab
  refine g_aload_n F dL_saving_0 rfl ?_
  refine g_iconst F 0 dL_saving_1 rfl ?_
  refine g_aload_n F dL_saving_2 rfl ?_
  refine g_iload_n F dL_saving_3 rfl ?_
  refine g_callVC (C := RX9) (T := TX9) (N := 10) (Lr := [sArrJ E aO 1 o]) (As := [.int x1]) (rest := [.int 0, .ref (aO 0)]) F 0 0 1 (ctX9_saving l E aD abuffer aB aPr aC2 aV aHs aSl afilled asettings asums aU aP aW aS2 x1 D_buffered D_lastErrorAt B_time B_chest B_fund settings P W C2 S2 x r C2' S2' hst hf) gL_saving_X9_saving rfl rfl rfl h0X9_saving ⟨Nat.le_of_ble_eq_true rfl, Nat.le_of_ble_eq_true rfl⟩ rfl rfl rfl [0, 1, 2, 3, 4, 5, 6] [7] rfl rfl rfl rfl rfl rfl (Nat.le_of_ble_eq_true rfl) dL_saving_4 ⟨Nat.le_of_ble_eq_true rfl, Nat.le_of_ble_eq_true rfl⟩ htab ?_ ?_
  · rintro v w ⟨h0, rfl, rfl⟩
    obtain ⟨rfl, rfl⟩ : k9 = 0 ∧ o9 = vp_updL o 0 r.toInt64 := by
      rcases hk with ⟨-, h1, h2⟩ | ⟨h1, -, -⟩
      · exact ⟨h1, h2⟩
      · exact absurd (h1.symm.trans h0) (by decide)
    refine g_i2l F dL_saving_7 ?_
    refine g_last F 7 0 0 rfl rfl rfl (by decide) dL_saving_8 rfl ?_
    refine g_norm (Lw' := [sPD E aD abuffer aB aPr aC2 aV aHs aSl afilled D_buffered D_lastErrorAt, sBook E aB asettings asums aU aP aW B_time B_chest B_fund, sArrI E asettings 5 settings, sPieces E aP P, sWords E aW W, sCut E aC2 aS2 C2', sCutR E aS2 S2', sArrJ E aO 1 (vp_updL o 0 r.toInt64)]) (st' := []) (pc' := 9) [0, 1, 2, 3, 4, 5, 6, 7] rfl rfl rfl rfl ?_
    refine g_goto F 15 dL_saving_9 (by decide) ?_
    refine g_iconst F 0 dL_saving_15 rfl ?_
    exact g_iret F rfl ⟨rfl, rfl⟩ dL_saving_16
  · rintro ec w ⟨hx, he, rfl⟩
    rcases hk with ⟨h1, -, -⟩ | ⟨rfl, rfl, rfl⟩
    · exact absurd h1 hx
    · rw [gxn_1] at he
      subst he
      refine ⟨[], ⟨0, 9, 12, 25⟩, [], rfl, by decide, by decide +kernel, by decide, by decide, fun z hz => absurd hz List.not_mem_nil, fun q9 => ?_⟩
      refine g_astore_n F dL_saving_12 (Nat.le_of_ble_eq_true rfl) rfl rfl ?_
      refine g_iconst F 1 dL_saving_13 rfl ?_
      exact g_iret F rfl ⟨rfl, rfl⟩ dL_saving_14
abbrev rmL_bestPart : Room := { frames := 8, cells := 2, slots := 12, locals := 147 }
theorem h0L_bestPart : yL_bestPart.cls ≠ "java/lang/invoke/MethodHandle" ∧ yL_bestPart.cls ≠ "java/lang/invoke/VarHandle" ∧ (parseMethodDescriptor yL_bestPart.desc).map (fun d => d.parameters.length) = some 4 := by decide +kernel
theorem ctL_bestPart (l : Launch) (E : gE) (aD abuffer aB aPr aC2 aV aHs aSl afilled asettings asums aU aP aW aC3 aS3 : Nat → Nat) (x1 : Int32) (x2 : Int32) (D_buffered : Int32) (D_lastErrorAt : Int32) (B_time : Int32) (B_chest : Int32) (B_fund : Int32) (settings : (Nat → Int32)) (P : tPieces) (W : tWords) (V : tAdv) (C3 : tCut) (S3 : tCutR) (x : Int32) (r : Int32) (V' : tAdv) (C3' : tCut) (S3' : tCutR) (hst : l.stackTraces = false) (hf : fX9_bestPart x1 x2 settings P W V C3 S3 = some (x, r, V', C3', S3')) (aO : Nat → Nat) (o o9 : Nat → Int64) (k9 : Int32) (hk : (x = 0 ∧ k9 = 0 ∧ o9 = vp_updL o 0 r.toInt64) ∨ (x = 1 ∧ k9 = 1 ∧ o9 = o) ∨ (x = 2 ∧ k9 = 2 ∧ o9 = o)) : gMetX l yL_bestPart wsL_bestPart rmL_bestPart vwCl E [.ref (aD 0), .int x1, .int x2, .ref (aO 0)] [sPD E aD abuffer aB aPr aC2 aV aHs aSl afilled D_buffered D_lastErrorAt, sBook E aB asettings asums aU aP aW B_time B_chest B_fund, sArrI E asettings 5 settings, sPieces E aP P, sWords E aW W, sAdv E aV aC3 V, sCut E aC3 aS3 C3, sCutR E aS3 S3, sArrJ E aO 1 o] (fun v w => v = some (.int k9) ∧ w = [sPD E aD abuffer aB aPr aC2 aV aHs aSl afilled D_buffered D_lastErrorAt, sBook E aB asettings asums aU aP aW B_time B_chest B_fund, sArrI E asettings 5 settings, sPieces E aP P, sWords E aW W, sAdv E aV aC3 V', sCut E aC3 aS3 C3', sCutR E aS3 S3', sArrJ E aO 1 o9]) (fun _ _ => False) 2 12 := by
  refine g_entryH [some (.ref (aD 0)), some (.int x1), some (.int x2), some (.ref (aO 0)), none] (by decide) rfl (Nat.le_of_ble_eq_true rfl) rfl ?_
  intro p e s m below meth c A F htab
  refine g_aload_n F dL_bestPart_0 rfl ?_
  refine g_iconst F 0 dL_bestPart_1 rfl ?_
  refine g_aload_n F dL_bestPart_2 rfl ?_
  refine g_iload_n F dL_bestPart_3 rfl ?_
  refine g_iload_n F dL_bestPart_4 rfl ?_
  refine g_callVC (C := RX9) (T := TX9) (N := 10) (Lr := [sArrJ E aO 1 o]) (As := [.int x1, .int x2]) (rest := [.int 0, .ref (aO 0)]) F 0 0 2 (ctX9_bestPart l E aD abuffer aB aPr aC2 aV aHs aSl afilled asettings asums aU aP aW aC3 aS3 x1 x2 D_buffered D_lastErrorAt B_time B_chest B_fund settings P W V C3 S3 x r V' C3' S3' hst hf) gL_bestPart_X9_bestPart rfl rfl rfl h0X9_bestPart ⟨Nat.le_of_ble_eq_true rfl, Nat.le_of_ble_eq_true rfl⟩ rfl rfl rfl [0, 1, 2, 3, 4, 5, 6, 7] [8] rfl rfl rfl rfl rfl rfl (Nat.le_of_ble_eq_true rfl) dL_bestPart_5 ⟨Nat.le_of_ble_eq_true rfl, Nat.le_of_ble_eq_true rfl⟩ htab ?_ ?_
  · rintro v w ⟨h0, rfl, rfl⟩
    obtain ⟨rfl, rfl⟩ : k9 = 0 ∧ o9 = vp_updL o 0 r.toInt64 := by
      rcases hk with ⟨-, h1, h2⟩ | ⟨h1, -, -⟩ | ⟨h1, -, -⟩
      · exact ⟨h1, h2⟩
      · exact absurd (h1.symm.trans h0) (by decide)
      · exact absurd (h1.symm.trans h0) (by decide)
    refine g_i2l F dL_bestPart_8 ?_
    refine g_last F 8 0 0 rfl rfl rfl (by decide) dL_bestPart_9 rfl ?_
    refine g_norm (Lw' := [sPD E aD abuffer aB aPr aC2 aV aHs aSl afilled D_buffered D_lastErrorAt, sBook E aB asettings asums aU aP aW B_time B_chest B_fund, sArrI E asettings 5 settings, sPieces E aP P, sWords E aW W, sAdv E aV aC3 V', sCut E aC3 aS3 C3', sCutR E aS3 S3', sArrJ E aO 1 (vp_updL o 0 r.toInt64)]) (st' := []) (pc' := 10) [0, 1, 2, 3, 4, 5, 6, 7, 8] rfl rfl rfl rfl ?_
    refine g_goto F 21 dL_bestPart_10 (by decide) ?_
    refine g_iconst F 0 dL_bestPart_21 rfl ?_
    exact g_iret F rfl ⟨rfl, rfl⟩ dL_bestPart_22
  · rintro ec w ⟨hx, he, rfl⟩
    rcases hk with ⟨h1, -, -⟩ | ⟨rfl, rfl, rfl⟩ | ⟨rfl, rfl, rfl⟩
    · exact absurd h1 hx
    · rw [gxn_1] at he
      subst he
      refine ⟨[], ⟨0, 10, 13, 25⟩, [⟨0, 10, 17, 13⟩], rfl, by decide, by decide +kernel, by decide, by decide, fun z hz => absurd hz List.not_mem_nil, fun q9 => ?_⟩
      refine g_astore F dL_bestPart_13 (Nat.le_of_ble_eq_true rfl) rfl rfl ?_
      refine g_iconst F 1 dL_bestPart_15 rfl ?_
      exact g_iret F rfl ⟨rfl, rfl⟩ dL_bestPart_16
    · rw [gxn_2] at he
      subst he
      refine ⟨[⟨0, 10, 13, 25⟩], ⟨0, 10, 17, 13⟩, [], rfl, by decide, by decide +kernel, by decide, by decide, fun z hz => ?_, fun q9 => ?_⟩
      · cases List.mem_singleton.mp hz
        exact ⟨by decide, "java/lang/IndexOutOfBoundsException", by decide, by decide, by decide +kernel⟩
      refine g_astore F dL_bestPart_17 (Nat.le_of_ble_eq_true rfl) rfl rfl ?_
      refine g_iconst F 2 dL_bestPart_19 rfl ?_
      exact g_iret F rfl ⟨rfl, rfl⟩ dL_bestPart_20
abbrev rmL_shared : Room := { frames := 8, cells := 2, slots := 12, locals := 130 }
theorem h0L_shared : yL_shared.cls ≠ "java/lang/invoke/MethodHandle" ∧ yL_shared.cls ≠ "java/lang/invoke/VarHandle" ∧ (parseMethodDescriptor yL_shared.desc).map (fun d => d.parameters.length) = some 4 := by decide +kernel
theorem ctL_shared (l : Launch) (E : gE) (aD abuffer aB aPr aC2 aV aHs aSl afilled asettings asums aU aP aW : Nat → Nat) (x1 : Int32) (x2 : Int32) (D_buffered : Int32) (D_lastErrorAt : Int32) (B_time : Int32) (B_chest : Int32) (B_fund : Int32) (P : tPieces) (W : tWords) (x : Int32) (r : Int32) (hst : l.stackTraces = false) (hf : fX9_shared x1 x2 P W = some (x, r)) (aO : Nat → Nat) (o o9 : Nat → Int64) (k9 : Int32) (hk : (x = 0 ∧ k9 = 0 ∧ o9 = vp_updL o 0 r.toInt64) ∨ (x = 1 ∧ k9 = 1 ∧ o9 = o)) : gMetX l yL_shared wsL_shared rmL_shared vwCl E [.ref (aD 0), .int x1, .int x2, .ref (aO 0)] [sPD E aD abuffer aB aPr aC2 aV aHs aSl afilled D_buffered D_lastErrorAt, sBook E aB asettings asums aU aP aW B_time B_chest B_fund, sPieces E aP P, sWords E aW W, sArrJ E aO 1 o] (fun v w => v = some (.int k9) ∧ w = [sPD E aD abuffer aB aPr aC2 aV aHs aSl afilled D_buffered D_lastErrorAt, sBook E aB asettings asums aU aP aW B_time B_chest B_fund, sPieces E aP P, sWords E aW W, sArrJ E aO 1 o9]) (fun _ _ => False) 2 12 := by
  refine g_entryH [some (.ref (aD 0)), some (.int x1), some (.int x2), some (.ref (aO 0)), none] (by decide) rfl (Nat.le_of_ble_eq_true rfl) rfl ?_
  intro p e s m below meth c A F htab
  refine g_aload_n F dL_shared_0 rfl ?_
  refine g_iconst F 0 dL_shared_1 rfl ?_
  refine g_aload_n F dL_shared_2 rfl ?_
  refine g_iload_n F dL_shared_3 rfl ?_
  refine g_iload_n F dL_shared_4 rfl ?_
  refine g_callVC (C := RX9) (T := TX9) (N := 10) (Lr := [sArrJ E aO 1 o]) (As := [.int x1, .int x2]) (rest := [.int 0, .ref (aO 0)]) F 0 0 2 (ctX9_shared l E aD abuffer aB aPr aC2 aV aHs aSl afilled asettings asums aU aP aW x1 x2 D_buffered D_lastErrorAt B_time B_chest B_fund P W x r hst hf) gL_shared_X9_shared rfl rfl rfl h0X9_shared ⟨Nat.le_of_ble_eq_true rfl, Nat.le_of_ble_eq_true rfl⟩ rfl rfl rfl [0, 1, 2, 3] [4] rfl rfl rfl rfl rfl rfl (Nat.le_of_ble_eq_true rfl) dL_shared_5 ⟨Nat.le_of_ble_eq_true rfl, Nat.le_of_ble_eq_true rfl⟩ htab ?_ ?_
  · rintro v w ⟨h0, rfl, rfl⟩
    obtain ⟨rfl, rfl⟩ : k9 = 0 ∧ o9 = vp_updL o 0 r.toInt64 := by
      rcases hk with ⟨-, h1, h2⟩ | ⟨h1, -, -⟩
      · exact ⟨h1, h2⟩
      · exact absurd (h1.symm.trans h0) (by decide)
    refine g_i2l F dL_shared_8 ?_
    refine g_last F 4 0 0 rfl rfl rfl (by decide) dL_shared_9 rfl ?_
    refine g_norm (Lw' := [sPD E aD abuffer aB aPr aC2 aV aHs aSl afilled D_buffered D_lastErrorAt, sBook E aB asettings asums aU aP aW B_time B_chest B_fund, sPieces E aP P, sWords E aW W, sArrJ E aO 1 (vp_updL o 0 r.toInt64)]) (st' := []) (pc' := 10) [0, 1, 2, 3, 4] rfl rfl rfl rfl ?_
    refine g_goto F 17 dL_shared_10 (by decide) ?_
    refine g_iconst F 0 dL_shared_17 rfl ?_
    exact g_iret F rfl ⟨rfl, rfl⟩ dL_shared_18
  · rintro ec w ⟨hx, he, rfl⟩
    rcases hk with ⟨h1, -, -⟩ | ⟨rfl, rfl, rfl⟩
    · exact absurd h1 hx
    · rw [gxn_1] at he
      subst he
      refine ⟨[], ⟨0, 10, 13, 25⟩, [], rfl, by decide, by decide +kernel, by decide, by decide, fun z hz => absurd hz List.not_mem_nil, fun q9 => ?_⟩
      refine g_astore F dL_shared_13 (Nat.le_of_ble_eq_true rfl) rfl rfl ?_
      refine g_iconst F 1 dL_shared_15 rfl ?_
      exact g_iret F rfl ⟨rfl, rfl⟩ dL_shared_16
abbrev rmL_account : Room := { frames := 8, cells := 1, slots := 6, locals := 128 }
theorem h0L_account : yL_account.cls ≠ "java/lang/invoke/MethodHandle" ∧ yL_account.cls ≠ "java/lang/invoke/VarHandle" ∧ (parseMethodDescriptor yL_account.desc).map (fun d => d.parameters.length) = some 3 := by decide +kernel
theorem ctL_account (l : Launch) (E : gE) (aD abuffer aB aPr aC2 aV aHs aSl afilled asettings asums aU aP aW : Nat → Nat) (x1 : Int32) (D_buffered : Int32) (D_lastErrorAt : Int32) (B_time : Int32) (B_chest : Int32) (B_fund : Int32) (sums : (Nat → Int32)) (x : Int32) (r : Int32) (hst : l.stackTraces = false) (hf : fX9_account x1 sums = some (x, r)) (aO : Nat → Nat) (o o9 : Nat → Int64) (k9 : Int32) (hk : (x = 0 ∧ k9 = 0 ∧ o9 = vp_updL o 0 r.toInt64) ∨ (x = 2 ∧ k9 = 1 ∧ o9 = o)) : gMetX l yL_account wsL_account rmL_account vwCl E [.ref (aD 0), .int x1, .ref (aO 0)] [sPD E aD abuffer aB aPr aC2 aV aHs aSl afilled D_buffered D_lastErrorAt, sBook E aB asettings asums aU aP aW B_time B_chest B_fund, sArrI E asums 6 sums, sArrJ E aO 1 o] (fun v w => v = some (.int k9) ∧ w = [sPD E aD abuffer aB aPr aC2 aV aHs aSl afilled D_buffered D_lastErrorAt, sBook E aB asettings asums aU aP aW B_time B_chest B_fund, sArrI E asums 6 sums, sArrJ E aO 1 o9]) (fun _ _ => False) 1 6 := by
  refine g_entryH [some (.ref (aD 0)), some (.int x1), some (.ref (aO 0)), none] (by decide) rfl (Nat.le_of_ble_eq_true rfl) rfl ?_
  intro p e s m below meth c A F htab
  refine g_aload_n F dL_account_0 rfl ?_
  refine g_iconst F 0 dL_account_1 rfl ?_
  refine g_aload_n F dL_account_2 rfl ?_
  refine g_iload_n F dL_account_3 rfl ?_
  refine g_callVC (C := RX9) (T := TX9) (N := 10) (Lr := [sArrJ E aO 1 o]) (As := [.int x1]) (rest := [.int 0, .ref (aO 0)]) F 0 0 1 (ctX9_account l E aD abuffer aB aPr aC2 aV aHs aSl afilled asettings asums aU aP aW x1 D_buffered D_lastErrorAt B_time B_chest B_fund sums x r hst hf) gL_account_X9_account rfl rfl rfl h0X9_account ⟨Nat.le_of_ble_eq_true rfl, Nat.le_of_ble_eq_true rfl⟩ rfl rfl rfl [0, 1, 2] [3] rfl rfl rfl rfl rfl rfl (Nat.le_of_ble_eq_true rfl) dL_account_4 ⟨Nat.le_of_ble_eq_true rfl, Nat.le_of_ble_eq_true rfl⟩ htab ?_ ?_
  · rintro v w ⟨h0, rfl, rfl⟩
    obtain ⟨rfl, rfl⟩ : k9 = 0 ∧ o9 = vp_updL o 0 r.toInt64 := by
      rcases hk with ⟨-, h1, h2⟩ | ⟨h1, -, -⟩
      · exact ⟨h1, h2⟩
      · exact absurd (h1.symm.trans h0) (by decide)
    refine g_i2l F dL_account_7 ?_
    refine g_last F 3 0 0 rfl rfl rfl (by decide) dL_account_8 rfl ?_
    refine g_norm (Lw' := [sPD E aD abuffer aB aPr aC2 aV aHs aSl afilled D_buffered D_lastErrorAt, sBook E aB asettings asums aU aP aW B_time B_chest B_fund, sArrI E asums 6 sums, sArrJ E aO 1 (vp_updL o 0 r.toInt64)]) (st' := []) (pc' := 9) [0, 1, 2, 3] rfl rfl rfl rfl ?_
    refine g_goto F 15 dL_account_9 (by decide) ?_
    refine g_iconst F 0 dL_account_15 rfl ?_
    exact g_iret F rfl ⟨rfl, rfl⟩ dL_account_16
  · rintro ec w ⟨hx, he, rfl⟩
    rcases hk with ⟨h1, -, -⟩ | ⟨rfl, rfl, rfl⟩
    · exact absurd h1 hx
    · rw [gxn_2] at he
      subst he
      refine ⟨[], ⟨0, 9, 12, 13⟩, [], rfl, by decide, by decide +kernel, by decide, by decide, fun z hz => absurd hz List.not_mem_nil, fun q9 => ?_⟩
      refine g_astore_n F dL_account_12 (Nat.le_of_ble_eq_true rfl) rfl rfl ?_
      refine g_iconst F 1 dL_account_13 rfl ?_
      exact g_iret F rfl ⟨rfl, rfl⟩ dL_account_14
abbrev rmL_store : Room := { frames := 8, cells := 2, slots := 12, locals := 129 }
theorem h0L_store : yL_store.cls ≠ "java/lang/invoke/MethodHandle" ∧ yL_store.cls ≠ "java/lang/invoke/VarHandle" ∧ (parseMethodDescriptor yL_store.desc).map (fun d => d.parameters.length) = some 3 := by decide +kernel
theorem ctL_store (l : Launch) (E : gE) (aD abuffer aB aPr aC2 aV aHs aSl afilled asettings asums aU aP aW aS2 : Nat → Nat) (x1 : Int32) (D_buffered : Int32) (D_lastErrorAt : Int32) (buffer : (Nat → Int32)) (B_time : Int32) (B_chest : Int32) (B_fund : Int32) (settings : (Nat → Int32)) (sums : (Nat → Int32)) (U : tUsers) (P : tPieces) (W : tWords) (C2 : tCut) (S2 : tCutR) (Hs : tHist) (x : Int32) (r : Int32) (D_buffered' : Int32) (B_chest' : Int32) (B_fund' : Int32) (sums' : (Nat → Int32)) (U' : tUsers) (P' : tPieces) (W' : tWords) (C2' : tCut) (S2' : tCutR) (Hs' : tHist) (hst : l.stackTraces = false) (hf : fX9_store x1 D_buffered buffer B_time B_chest B_fund settings sums U P W C2 S2 Hs = some (x, r, D_buffered', B_chest', B_fund', sums', U', P', W', C2', S2', Hs')) (aO : Nat → Nat) (o o9 : Nat → Int64) (k9 : Int32) (hk : (x = 0 ∧ k9 = 0 ∧ o9 = vp_updL o 0 r.toInt64) ∨ (x = 1 ∧ k9 = 1 ∧ o9 = o) ∨ (x = 2 ∧ k9 = 2 ∧ o9 = o) ∨ (x = 3 ∧ k9 = 3 ∧ o9 = o)) : gMetX l yL_store wsL_store rmL_store vwCl E [.ref (aD 0), .int x1, .ref (aO 0)] [sPD E aD abuffer aB aPr aC2 aV aHs aSl afilled D_buffered D_lastErrorAt, sArrB E abuffer 600 buffer, sBook E aB asettings asums aU aP aW B_time B_chest B_fund, sArrI E asettings 5 settings, sArrI E asums 6 sums, sUsers E aU U, sPieces E aP P, sWords E aW W, sCut E aC2 aS2 C2, sCutR E aS2 S2, sHist E aHs Hs, sArrJ E aO 1 o] (fun v w => v = some (.int k9) ∧ w = [sPD E aD abuffer aB aPr aC2 aV aHs aSl afilled D_buffered' D_lastErrorAt, sArrB E abuffer 600 buffer, sBook E aB asettings asums aU aP aW B_time B_chest' B_fund', sArrI E asettings 5 settings, sArrI E asums 6 sums', sUsers E aU U', sPieces E aP P', sWords E aW W', sCut E aC2 aS2 C2', sCutR E aS2 S2', sHist E aHs Hs', sArrJ E aO 1 o9]) (fun _ _ => False) 2 12 := by
  refine g_entryH [some (.ref (aD 0)), some (.int x1), some (.ref (aO 0)), none] (by decide) rfl (Nat.le_of_ble_eq_true rfl) rfl ?_
  intro p e s m below meth c A F htab
  refine g_aload_n F dL_store_0 rfl ?_
  refine g_iconst F 0 dL_store_1 rfl ?_
  refine g_aload_n F dL_store_2 rfl ?_
  refine g_iload_n F dL_store_3 rfl ?_
  refine g_callVC (C := RX9) (T := TX9) (N := 10) (Lr := [sArrJ E aO 1 o]) (As := [.int x1]) (rest := [.int 0, .ref (aO 0)]) F 0 0 1 (ctX9_store l E aD abuffer aB aPr aC2 aV aHs aSl afilled asettings asums aU aP aW aS2 x1 D_buffered D_lastErrorAt buffer B_time B_chest B_fund settings sums U P W C2 S2 Hs x r D_buffered' B_chest' B_fund' sums' U' P' W' C2' S2' Hs' hst hf) gL_store_X9_store rfl rfl rfl h0X9_store ⟨Nat.le_of_ble_eq_true rfl, Nat.le_of_ble_eq_true rfl⟩ rfl rfl rfl [0, 1, 2, 3, 4, 5, 6, 7, 8, 9, 10] [11] rfl rfl rfl rfl rfl rfl (Nat.le_of_ble_eq_true rfl) dL_store_4 ⟨Nat.le_of_ble_eq_true rfl, Nat.le_of_ble_eq_true rfl⟩ htab ?_ ?_
  · rintro v w ⟨h0, rfl, rfl⟩
    obtain ⟨rfl, rfl⟩ : k9 = 0 ∧ o9 = vp_updL o 0 r.toInt64 := by
      rcases hk with ⟨-, h1, h2⟩ | ⟨h1, -, -⟩ | ⟨h1, -, -⟩ | ⟨h1, -, -⟩
      · exact ⟨h1, h2⟩
      · exact absurd (h1.symm.trans h0) (by decide)
      · exact absurd (h1.symm.trans h0) (by decide)
      · exact absurd (h1.symm.trans h0) (by decide)
    refine g_i2l F dL_store_7 ?_
    refine g_last F 11 0 0 rfl rfl rfl (by decide) dL_store_8 rfl ?_
    refine g_norm (Lw' := [sPD E aD abuffer aB aPr aC2 aV aHs aSl afilled D_buffered' D_lastErrorAt, sArrB E abuffer 600 buffer, sBook E aB asettings asums aU aP aW B_time B_chest' B_fund', sArrI E asettings 5 settings, sArrI E asums 6 sums', sUsers E aU U', sPieces E aP P', sWords E aW W', sCut E aC2 aS2 C2', sCutR E aS2 S2', sHist E aHs Hs', sArrJ E aO 1 (vp_updL o 0 r.toInt64)]) (st' := []) (pc' := 9) [0, 1, 2, 3, 4, 5, 6, 7, 8, 9, 10, 11] rfl rfl rfl rfl ?_
    refine g_goto F 21 dL_store_9 (by decide) ?_
    refine g_iconst F 0 dL_store_21 rfl ?_
    exact g_iret F rfl ⟨rfl, rfl⟩ dL_store_22
  · rintro ec w ⟨hx, he, rfl⟩
    rcases hk with ⟨h1, -, -⟩ | ⟨rfl, rfl, rfl⟩ | ⟨rfl, rfl, rfl⟩ | ⟨rfl, rfl, rfl⟩
    · exact absurd h1 hx
    · rw [gxn_1] at he
      subst he
      refine ⟨[], ⟨0, 9, 12, 25⟩, [⟨0, 9, 15, 13⟩, ⟨0, 9, 18, 69⟩], rfl, by decide, by decide +kernel, by decide, by decide, fun z hz => absurd hz List.not_mem_nil, fun q9 => ?_⟩
      refine g_astore_n F dL_store_12 (Nat.le_of_ble_eq_true rfl) rfl rfl ?_
      refine g_iconst F 1 dL_store_13 rfl ?_
      exact g_iret F rfl ⟨rfl, rfl⟩ dL_store_14
    · rw [gxn_2] at he
      subst he
      refine ⟨[⟨0, 9, 12, 25⟩], ⟨0, 9, 15, 13⟩, [⟨0, 9, 18, 69⟩], rfl, by decide, by decide +kernel, by decide, by decide, fun z hz => ?_, fun q9 => ?_⟩
      · cases List.mem_singleton.mp hz
        exact ⟨by decide, "java/lang/IndexOutOfBoundsException", by decide, by decide, by decide +kernel⟩
      refine g_astore_n F dL_store_15 (Nat.le_of_ble_eq_true rfl) rfl rfl ?_
      refine g_iconst F 2 dL_store_16 rfl ?_
      exact g_iret F rfl ⟨rfl, rfl⟩ dL_store_17
    · rw [gxn_3] at he
      subst he
      refine ⟨[⟨0, 9, 12, 25⟩, ⟨0, 9, 15, 13⟩], ⟨0, 9, 18, 69⟩, [], rfl, by decide, by decide +kernel, by decide, by decide, fun z hz => ?_, fun q9 => ?_⟩
      · rcases List.mem_cons.mp hz with rfl | hz
        · exact ⟨by decide, "java/lang/IndexOutOfBoundsException", by decide, by decide, by decide +kernel⟩
        · cases List.mem_singleton.mp hz
          exact ⟨by decide, "java/lang/IllegalArgumentException", by decide, by decide, by decide +kernel⟩
      refine g_astore_n F dL_store_18 (Nat.le_of_ble_eq_true rfl) rfl rfl ?_
      refine g_iconst F 3 dL_store_19 rfl ?_
      exact g_iret F rfl ⟨rfl, rfl⟩ dL_store_20
abbrev rmL_remove : Room := { frames := 8, cells := 1, slots := 6, locals := 128 }
theorem h0L_remove : yL_remove.cls ≠ "java/lang/invoke/MethodHandle" ∧ yL_remove.cls ≠ "java/lang/invoke/VarHandle" ∧ (parseMethodDescriptor yL_remove.desc).map (fun d => d.parameters.length) = some 3 := by decide +kernel
theorem ctL_remove (l : Launch) (E : gE) (aD abuffer aB aPr aC2 aV aHs aSl afilled asettings asums aU aP aW : Nat → Nat) (x1 : Int32) (D_buffered : Int32) (D_lastErrorAt : Int32) (B_time : Int32) (B_chest : Int32) (B_fund : Int32) (settings : (Nat → Int32)) (sums : (Nat → Int32)) (U : tUsers) (P : tPieces) (W : tWords) (Hs : tHist) (x : Int32) (r : Int32) (B_fund' : Int32) (sums' : (Nat → Int32)) (U' : tUsers) (P' : tPieces) (W' : tWords) (Hs' : tHist) (hst : l.stackTraces = false) (hf : fX9_remove x1 B_time B_chest B_fund settings sums U P W Hs = some (x, r, B_fund', sums', U', P', W', Hs')) (aO : Nat → Nat) (o o9 : Nat → Int64) (k9 : Int32) (hk : (x = 0 ∧ k9 = 0 ∧ o9 = vp_updL o 0 r.toInt64) ∨ (x = 1 ∧ k9 = 1 ∧ o9 = o)) : gMetX l yL_remove wsL_remove rmL_remove vwCl E [.ref (aD 0), .int x1, .ref (aO 0)] [sPD E aD abuffer aB aPr aC2 aV aHs aSl afilled D_buffered D_lastErrorAt, sBook E aB asettings asums aU aP aW B_time B_chest B_fund, sArrI E asettings 5 settings, sArrI E asums 6 sums, sUsers E aU U, sPieces E aP P, sWords E aW W, sHist E aHs Hs, sArrJ E aO 1 o] (fun v w => v = some (.int k9) ∧ w = [sPD E aD abuffer aB aPr aC2 aV aHs aSl afilled D_buffered D_lastErrorAt, sBook E aB asettings asums aU aP aW B_time B_chest B_fund', sArrI E asettings 5 settings, sArrI E asums 6 sums', sUsers E aU U', sPieces E aP P', sWords E aW W', sHist E aHs Hs', sArrJ E aO 1 o9]) (fun _ _ => False) 1 6 := by
  refine g_entryH [some (.ref (aD 0)), some (.int x1), some (.ref (aO 0)), none] (by decide) rfl (Nat.le_of_ble_eq_true rfl) rfl ?_
  intro p e s m below meth c A F htab
  refine g_aload_n F dL_remove_0 rfl ?_
  refine g_iconst F 0 dL_remove_1 rfl ?_
  refine g_aload_n F dL_remove_2 rfl ?_
  refine g_iload_n F dL_remove_3 rfl ?_
  refine g_callVC (C := RX9) (T := TX9) (N := 10) (Lr := [sArrJ E aO 1 o]) (As := [.int x1]) (rest := [.int 0, .ref (aO 0)]) F 0 0 1 (ctX9_remove l E aD abuffer aB aPr aC2 aV aHs aSl afilled asettings asums aU aP aW x1 D_buffered D_lastErrorAt B_time B_chest B_fund settings sums U P W Hs x r B_fund' sums' U' P' W' Hs' hst hf) gL_remove_X9_remove rfl rfl rfl h0X9_remove ⟨Nat.le_of_ble_eq_true rfl, Nat.le_of_ble_eq_true rfl⟩ rfl rfl rfl [0, 1, 2, 3, 4, 5, 6, 7] [8] rfl rfl rfl rfl rfl rfl (Nat.le_of_ble_eq_true rfl) dL_remove_4 ⟨Nat.le_of_ble_eq_true rfl, Nat.le_of_ble_eq_true rfl⟩ htab ?_ ?_
  · rintro v w ⟨h0, rfl, rfl⟩
    obtain ⟨rfl, rfl⟩ : k9 = 0 ∧ o9 = vp_updL o 0 r.toInt64 := by
      rcases hk with ⟨-, h1, h2⟩ | ⟨h1, -, -⟩
      · exact ⟨h1, h2⟩
      · exact absurd (h1.symm.trans h0) (by decide)
    refine g_i2l F dL_remove_7 ?_
    refine g_last F 8 0 0 rfl rfl rfl (by decide) dL_remove_8 rfl ?_
    refine g_norm (Lw' := [sPD E aD abuffer aB aPr aC2 aV aHs aSl afilled D_buffered D_lastErrorAt, sBook E aB asettings asums aU aP aW B_time B_chest B_fund', sArrI E asettings 5 settings, sArrI E asums 6 sums', sUsers E aU U', sPieces E aP P', sWords E aW W', sHist E aHs Hs', sArrJ E aO 1 (vp_updL o 0 r.toInt64)]) (st' := []) (pc' := 9) [0, 1, 2, 3, 4, 5, 6, 7, 8] rfl rfl rfl rfl ?_
    refine g_goto F 15 dL_remove_9 (by decide) ?_
    refine g_iconst F 0 dL_remove_15 rfl ?_
    exact g_iret F rfl ⟨rfl, rfl⟩ dL_remove_16
  · rintro ec w ⟨hx, he, rfl⟩
    rcases hk with ⟨h1, -, -⟩ | ⟨rfl, rfl, rfl⟩
    · exact absurd h1 hx
    · rw [gxn_1] at he
      subst he
      refine ⟨[], ⟨0, 9, 12, 25⟩, [], rfl, by decide, by decide +kernel, by decide, by decide, fun z hz => absurd hz List.not_mem_nil, fun q9 => ?_⟩
      refine g_astore_n F dL_remove_12 (Nat.le_of_ble_eq_true rfl) rfl rfl ?_
      refine g_iconst F 1 dL_remove_13 rfl ?_
      exact g_iret F rfl ⟨rfl, rfl⟩ dL_remove_14
abbrev rmL_recut : Room := { frames := 8, cells := 1, slots := 6, locals := 145 }
theorem h0L_recut : yL_recut.cls ≠ "java/lang/invoke/MethodHandle" ∧ yL_recut.cls ≠ "java/lang/invoke/VarHandle" ∧ (parseMethodDescriptor yL_recut.desc).map (fun d => d.parameters.length) = some 3 := by decide +kernel
theorem ctL_recut (l : Launch) (E : gE) (aD abuffer aB aPr aC2 aV aHs aSl afilled asettings asums aU aP aW aS2 : Nat → Nat) (x1 : Int32) (D_buffered : Int32) (D_lastErrorAt : Int32) (B_time : Int32) (B_chest : Int32) (B_fund : Int32) (settings : (Nat → Int32)) (sums : (Nat → Int32)) (U : tUsers) (P : tPieces) (W : tWords) (C2 : tCut) (S2 : tCutR) (Hs : tHist) (x : Int32) (r : Int32) (B_fund' : Int32) (sums' : (Nat → Int32)) (U' : tUsers) (P' : tPieces) (W' : tWords) (C2' : tCut) (S2' : tCutR) (Hs' : tHist) (hst : l.stackTraces = false) (hf : fX9_recut x1 B_time B_chest B_fund settings sums U P W C2 S2 Hs = some (x, r, B_fund', sums', U', P', W', C2', S2', Hs')) (aO : Nat → Nat) (o o9 : Nat → Int64) (k9 : Int32) (hk : (x = 0 ∧ k9 = 0 ∧ o9 = vp_updL o 0 r.toInt64) ∨ (x = 1 ∧ k9 = 1 ∧ o9 = o)) : gMetX l yL_recut wsL_recut rmL_recut vwCl E [.ref (aD 0), .int x1, .ref (aO 0)] [sPD E aD abuffer aB aPr aC2 aV aHs aSl afilled D_buffered D_lastErrorAt, sBook E aB asettings asums aU aP aW B_time B_chest B_fund, sArrI E asettings 5 settings, sArrI E asums 6 sums, sUsers E aU U, sPieces E aP P, sWords E aW W, sCut E aC2 aS2 C2, sCutR E aS2 S2, sHist E aHs Hs, sArrJ E aO 1 o] (fun v w => v = some (.int k9) ∧ w = [sPD E aD abuffer aB aPr aC2 aV aHs aSl afilled D_buffered D_lastErrorAt, sBook E aB asettings asums aU aP aW B_time B_chest B_fund', sArrI E asettings 5 settings, sArrI E asums 6 sums', sUsers E aU U', sPieces E aP P', sWords E aW W', sCut E aC2 aS2 C2', sCutR E aS2 S2', sHist E aHs Hs', sArrJ E aO 1 o9]) (fun _ _ => False) 1 6 := by
  refine g_entryH [some (.ref (aD 0)), some (.int x1), some (.ref (aO 0)), none] (by decide) rfl (Nat.le_of_ble_eq_true rfl) rfl ?_
  intro p e s m below meth c A F htab
  refine g_aload_n F dL_recut_0 rfl ?_
  refine g_iconst F 0 dL_recut_1 rfl ?_
  refine g_aload_n F dL_recut_2 rfl ?_
  refine g_iload_n F dL_recut_3 rfl ?_
  refine g_callVC (C := RX9) (T := TX9) (N := 10) (Lr := [sArrJ E aO 1 o]) (As := [.int x1]) (rest := [.int 0, .ref (aO 0)]) F 0 0 1 (ctX9_recut l E aD abuffer aB aPr aC2 aV aHs aSl afilled asettings asums aU aP aW aS2 x1 D_buffered D_lastErrorAt B_time B_chest B_fund settings sums U P W C2 S2 Hs x r B_fund' sums' U' P' W' C2' S2' Hs' hst hf) gL_recut_X9_recut rfl rfl rfl h0X9_recut ⟨Nat.le_of_ble_eq_true rfl, Nat.le_of_ble_eq_true rfl⟩ rfl rfl rfl [0, 1, 2, 3, 4, 5, 6, 7, 8, 9] [10] rfl rfl rfl rfl rfl rfl (Nat.le_of_ble_eq_true rfl) dL_recut_4 ⟨Nat.le_of_ble_eq_true rfl, Nat.le_of_ble_eq_true rfl⟩ htab ?_ ?_
  · rintro v w ⟨h0, rfl, rfl⟩
    obtain ⟨rfl, rfl⟩ : k9 = 0 ∧ o9 = vp_updL o 0 r.toInt64 := by
      rcases hk with ⟨-, h1, h2⟩ | ⟨h1, -, -⟩
      · exact ⟨h1, h2⟩
      · exact absurd (h1.symm.trans h0) (by decide)
    refine g_i2l F dL_recut_7 ?_
    refine g_last F 10 0 0 rfl rfl rfl (by decide) dL_recut_8 rfl ?_
    refine g_norm (Lw' := [sPD E aD abuffer aB aPr aC2 aV aHs aSl afilled D_buffered D_lastErrorAt, sBook E aB asettings asums aU aP aW B_time B_chest B_fund', sArrI E asettings 5 settings, sArrI E asums 6 sums', sUsers E aU U', sPieces E aP P', sWords E aW W', sCut E aC2 aS2 C2', sCutR E aS2 S2', sHist E aHs Hs', sArrJ E aO 1 (vp_updL o 0 r.toInt64)]) (st' := []) (pc' := 9) [0, 1, 2, 3, 4, 5, 6, 7, 8, 9, 10] rfl rfl rfl rfl ?_
    refine g_goto F 15 dL_recut_9 (by decide) ?_
    refine g_iconst F 0 dL_recut_15 rfl ?_
    exact g_iret F rfl ⟨rfl, rfl⟩ dL_recut_16
  · rintro ec w ⟨hx, he, rfl⟩
    rcases hk with ⟨h1, -, -⟩ | ⟨rfl, rfl, rfl⟩
    · exact absurd h1 hx
    · rw [gxn_1] at he
      subst he
      refine ⟨[], ⟨0, 9, 12, 25⟩, [], rfl, by decide, by decide +kernel, by decide, by decide, fun z hz => absurd hz List.not_mem_nil, fun q9 => ?_⟩
      refine g_astore_n F dL_recut_12 (Nat.le_of_ble_eq_true rfl) rfl rfl ?_
      refine g_iconst F 1 dL_recut_13 rfl ?_
      exact g_iret F rfl ⟨rfl, rfl⟩ dL_recut_14
abbrev rmL_bring : Room := { frames := 8, cells := 2, slots := 12, locals := 130 }
theorem h0L_bring : yL_bring.cls ≠ "java/lang/invoke/MethodHandle" ∧ yL_bring.cls ≠ "java/lang/invoke/VarHandle" ∧ (parseMethodDescriptor yL_bring.desc).map (fun d => d.parameters.length) = some 3 := by decide +kernel
theorem ctL_bring (l : Launch) (E : gE) (aD abuffer aB aPr aC2 aV aHs aSl afilled asettings asums aU aP aW : Nat → Nat) (x1 : Int32) (D_buffered : Int32) (D_lastErrorAt : Int32) (buffer : (Nat → Int32)) (B_time : Int32) (B_chest : Int32) (B_fund : Int32) (settings : (Nat → Int32)) (sums : (Nat → Int32)) (U : tUsers) (P : tPieces) (W : tWords) (Hs : tHist) (x : Int32) (r : Int32) (D_buffered' : Int32) (B_chest' : Int32) (sums' : (Nat → Int32)) (U' : tUsers) (P' : tPieces) (Hs' : tHist) (hst : l.stackTraces = false) (hf : fX9_bring x1 D_buffered buffer B_time B_chest B_fund settings sums U P W Hs = some (x, r, D_buffered', B_chest', sums', U', P', Hs')) (aO : Nat → Nat) (o o9 : Nat → Int64) (k9 : Int32) (hk : (x = 0 ∧ k9 = 0 ∧ o9 = vp_updL o 0 r.toInt64) ∨ (x = 1 ∧ k9 = 1 ∧ o9 = o) ∨ (x = 2 ∧ k9 = 2 ∧ o9 = o) ∨ (x = 3 ∧ k9 = 3 ∧ o9 = o)) : gMetX l yL_bring wsL_bring rmL_bring vwCl E [.ref (aD 0), .int x1, .ref (aO 0)] [sPD E aD abuffer aB aPr aC2 aV aHs aSl afilled D_buffered D_lastErrorAt, sArrB E abuffer 600 buffer, sBook E aB asettings asums aU aP aW B_time B_chest B_fund, sArrI E asettings 5 settings, sArrI E asums 6 sums, sUsers E aU U, sPieces E aP P, sWords E aW W, sHist E aHs Hs, sArrJ E aO 1 o] (fun v w => v = some (.int k9) ∧ w = [sPD E aD abuffer aB aPr aC2 aV aHs aSl afilled D_buffered' D_lastErrorAt, sArrB E abuffer 600 buffer, sBook E aB asettings asums aU aP aW B_time B_chest' B_fund, sArrI E asettings 5 settings, sArrI E asums 6 sums', sUsers E aU U', sPieces E aP P', sWords E aW W, sHist E aHs Hs', sArrJ E aO 1 o9]) (fun _ _ => False) 2 12 := by
  refine g_entryH [some (.ref (aD 0)), some (.int x1), some (.ref (aO 0)), none] (by decide) rfl (Nat.le_of_ble_eq_true rfl) rfl ?_
  intro p e s m below meth c A F htab
  refine g_aload_n F dL_bring_0 rfl ?_
  refine g_iconst F 0 dL_bring_1 rfl ?_
  refine g_aload_n F dL_bring_2 rfl ?_
  refine g_iload_n F dL_bring_3 rfl ?_
  refine g_callVC (C := RX9) (T := TX9) (N := 10) (Lr := [sArrJ E aO 1 o]) (As := [.int x1]) (rest := [.int 0, .ref (aO 0)]) F 0 0 1 (ctX9_bring l E aD abuffer aB aPr aC2 aV aHs aSl afilled asettings asums aU aP aW x1 D_buffered D_lastErrorAt buffer B_time B_chest B_fund settings sums U P W Hs x r D_buffered' B_chest' sums' U' P' Hs' hst hf) gL_bring_X9_bring rfl rfl rfl h0X9_bring ⟨Nat.le_of_ble_eq_true rfl, Nat.le_of_ble_eq_true rfl⟩ rfl rfl rfl [0, 1, 2, 3, 4, 5, 6, 7, 8] [9] rfl rfl rfl rfl rfl rfl (Nat.le_of_ble_eq_true rfl) dL_bring_4 ⟨Nat.le_of_ble_eq_true rfl, Nat.le_of_ble_eq_true rfl⟩ htab ?_ ?_
  · rintro v w ⟨h0, rfl, rfl⟩
    obtain ⟨rfl, rfl⟩ : k9 = 0 ∧ o9 = vp_updL o 0 r.toInt64 := by
      rcases hk with ⟨-, h1, h2⟩ | ⟨h1, -, -⟩ | ⟨h1, -, -⟩ | ⟨h1, -, -⟩
      · exact ⟨h1, h2⟩
      · exact absurd (h1.symm.trans h0) (by decide)
      · exact absurd (h1.symm.trans h0) (by decide)
      · exact absurd (h1.symm.trans h0) (by decide)
    refine g_i2l F dL_bring_7 ?_
    refine g_last F 9 0 0 rfl rfl rfl (by decide) dL_bring_8 rfl ?_
    refine g_norm (Lw' := [sPD E aD abuffer aB aPr aC2 aV aHs aSl afilled D_buffered' D_lastErrorAt, sArrB E abuffer 600 buffer, sBook E aB asettings asums aU aP aW B_time B_chest' B_fund, sArrI E asettings 5 settings, sArrI E asums 6 sums', sUsers E aU U', sPieces E aP P', sWords E aW W, sHist E aHs Hs', sArrJ E aO 1 (vp_updL o 0 r.toInt64)]) (st' := []) (pc' := 9) [0, 1, 2, 3, 4, 5, 6, 7, 8, 9] rfl rfl rfl rfl ?_
    refine g_goto F 21 dL_bring_9 (by decide) ?_
    refine g_iconst F 0 dL_bring_21 rfl ?_
    exact g_iret F rfl ⟨rfl, rfl⟩ dL_bring_22
  · rintro ec w ⟨hx, he, rfl⟩
    rcases hk with ⟨h1, -, -⟩ | ⟨rfl, rfl, rfl⟩ | ⟨rfl, rfl, rfl⟩ | ⟨rfl, rfl, rfl⟩
    · exact absurd h1 hx
    · rw [gxn_1] at he
      subst he
      refine ⟨[], ⟨0, 9, 12, 25⟩, [⟨0, 9, 15, 13⟩, ⟨0, 9, 18, 69⟩], rfl, by decide, by decide +kernel, by decide, by decide, fun z hz => absurd hz List.not_mem_nil, fun q9 => ?_⟩
      refine g_astore_n F dL_bring_12 (Nat.le_of_ble_eq_true rfl) rfl rfl ?_
      refine g_iconst F 1 dL_bring_13 rfl ?_
      exact g_iret F rfl ⟨rfl, rfl⟩ dL_bring_14
    · rw [gxn_2] at he
      subst he
      refine ⟨[⟨0, 9, 12, 25⟩], ⟨0, 9, 15, 13⟩, [⟨0, 9, 18, 69⟩], rfl, by decide, by decide +kernel, by decide, by decide, fun z hz => ?_, fun q9 => ?_⟩
      · cases List.mem_singleton.mp hz
        exact ⟨by decide, "java/lang/IndexOutOfBoundsException", by decide, by decide, by decide +kernel⟩
      refine g_astore_n F dL_bring_15 (Nat.le_of_ble_eq_true rfl) rfl rfl ?_
      refine g_iconst F 2 dL_bring_16 rfl ?_
      exact g_iret F rfl ⟨rfl, rfl⟩ dL_bring_17
    · rw [gxn_3] at he
      subst he
      refine ⟨[⟨0, 9, 12, 25⟩, ⟨0, 9, 15, 13⟩], ⟨0, 9, 18, 69⟩, [], rfl, by decide, by decide +kernel, by decide, by decide, fun z hz => ?_, fun q9 => ?_⟩
      · rcases List.mem_cons.mp hz with rfl | hz
        · exact ⟨by decide, "java/lang/IndexOutOfBoundsException", by decide, by decide, by decide +kernel⟩
        · cases List.mem_singleton.mp hz
          exact ⟨by decide, "java/lang/IllegalArgumentException", by decide, by decide, by decide +kernel⟩
      refine g_astore_n F dL_bring_18 (Nat.le_of_ble_eq_true rfl) rfl rfl ?_
      refine g_iconst F 3 dL_bring_19 rfl ?_
      exact g_iret F rfl ⟨rfl, rfl⟩ dL_bring_20
abbrev rmL_tick : Room := { frames := 7, cells := 1, slots := 6, locals := 120 }
theorem h0L_tick : yL_tick.cls ≠ "java/lang/invoke/MethodHandle" ∧ yL_tick.cls ≠ "java/lang/invoke/VarHandle" ∧ (parseMethodDescriptor yL_tick.desc).map (fun d => d.parameters.length) = some 3 := by decide +kernel
theorem ctL_tick (l : Launch) (E : gE) (aD abuffer aB aPr aC2 aV aHs aSl afilled asettings asums aU aP aW : Nat → Nat) (x1 : Int32) (D_buffered : Int32) (D_lastErrorAt : Int32) (B_time : Int32) (B_chest : Int32) (B_fund : Int32) (settings : (Nat → Int32)) (sums : (Nat → Int32)) (U : tUsers) (P : tPieces) (W : tWords) (Hs : tHist) (x : Int32) (r : Int32) (B_time' : Int32) (B_chest' : Int32) (sums' : (Nat → Int32)) (U' : tUsers) (P' : tPieces) (W' : tWords) (Hs' : tHist) (hst : l.stackTraces = false) (hf : fX9_tick x1 B_time B_chest B_fund settings sums U P W Hs = some (x, r, B_time', B_chest', sums', U', P', W', Hs')) (aO : Nat → Nat) (o o9 : Nat → Int64) (k9 : Int32) (hk : (x = 0 ∧ k9 = 0 ∧ o9 = vp_updL o 0 r.toInt64) ∨ (x = 2 ∧ k9 = 1 ∧ o9 = o)) : gMetX l yL_tick wsL_tick rmL_tick vwCl E [.ref (aD 0), .int x1, .ref (aO 0)] [sPD E aD abuffer aB aPr aC2 aV aHs aSl afilled D_buffered D_lastErrorAt, sBook E aB asettings asums aU aP aW B_time B_chest B_fund, sArrI E asettings 5 settings, sArrI E asums 6 sums, sUsers E aU U, sPieces E aP P, sWords E aW W, sHist E aHs Hs, sArrJ E aO 1 o] (fun v w => v = some (.int k9) ∧ w = [sPD E aD abuffer aB aPr aC2 aV aHs aSl afilled D_buffered D_lastErrorAt, sBook E aB asettings asums aU aP aW B_time' B_chest' B_fund, sArrI E asettings 5 settings, sArrI E asums 6 sums', sUsers E aU U', sPieces E aP P', sWords E aW W', sHist E aHs Hs', sArrJ E aO 1 o9]) (fun _ _ => False) 1 6 := by
  refine g_entryH [some (.ref (aD 0)), some (.int x1), some (.ref (aO 0)), none] (by decide) rfl (Nat.le_of_ble_eq_true rfl) rfl ?_
  intro p e s m below meth c A F htab
  refine g_aload_n F dL_tick_0 rfl ?_
  refine g_iconst F 0 dL_tick_1 rfl ?_
  refine g_aload_n F dL_tick_2 rfl ?_
  refine g_iload_n F dL_tick_3 rfl ?_
  refine g_callVC (C := RX9) (T := TX9) (N := 10) (Lr := [sArrJ E aO 1 o]) (As := [.int x1]) (rest := [.int 0, .ref (aO 0)]) F 0 0 1 (ctX9_tick l E aD abuffer aB aPr aC2 aV aHs aSl afilled asettings asums aU aP aW x1 D_buffered D_lastErrorAt B_time B_chest B_fund settings sums U P W Hs x r B_time' B_chest' sums' U' P' W' Hs' hst hf) gL_tick_X9_tick rfl rfl rfl h0X9_tick ⟨Nat.le_of_ble_eq_true rfl, Nat.le_of_ble_eq_true rfl⟩ rfl rfl rfl [0, 1, 2, 3, 4, 5, 6, 7] [8] rfl rfl rfl rfl rfl rfl (Nat.le_of_ble_eq_true rfl) dL_tick_4 ⟨Nat.le_of_ble_eq_true rfl, Nat.le_of_ble_eq_true rfl⟩ htab ?_ ?_
  · rintro v w ⟨h0, rfl, rfl⟩
    obtain ⟨rfl, rfl⟩ : k9 = 0 ∧ o9 = vp_updL o 0 r.toInt64 := by
      rcases hk with ⟨-, h1, h2⟩ | ⟨h1, -, -⟩
      · exact ⟨h1, h2⟩
      · exact absurd (h1.symm.trans h0) (by decide)
    refine g_i2l F dL_tick_7 ?_
    refine g_last F 8 0 0 rfl rfl rfl (by decide) dL_tick_8 rfl ?_
    refine g_norm (Lw' := [sPD E aD abuffer aB aPr aC2 aV aHs aSl afilled D_buffered D_lastErrorAt, sBook E aB asettings asums aU aP aW B_time' B_chest' B_fund, sArrI E asettings 5 settings, sArrI E asums 6 sums', sUsers E aU U', sPieces E aP P', sWords E aW W', sHist E aHs Hs', sArrJ E aO 1 (vp_updL o 0 r.toInt64)]) (st' := []) (pc' := 9) [0, 1, 2, 3, 4, 5, 6, 7, 8] rfl rfl rfl rfl ?_
    refine g_goto F 15 dL_tick_9 (by decide) ?_
    refine g_iconst F 0 dL_tick_15 rfl ?_
    exact g_iret F rfl ⟨rfl, rfl⟩ dL_tick_16
  · rintro ec w ⟨hx, he, rfl⟩
    rcases hk with ⟨h1, -, -⟩ | ⟨rfl, rfl, rfl⟩
    · exact absurd h1 hx
    · rw [gxn_2] at he
      subst he
      refine ⟨[], ⟨0, 9, 12, 13⟩, [], rfl, by decide, by decide +kernel, by decide, by decide, fun z hz => absurd hz List.not_mem_nil, fun q9 => ?_⟩
      refine g_astore_n F dL_tick_12 (Nat.le_of_ble_eq_true rfl) rfl rfl ?_
      refine g_iconst F 1 dL_tick_13 rfl ?_
      exact g_iret F rfl ⟨rfl, rfl⟩ dL_tick_14
abbrev rmL_pay : Room := { frames := 8, cells := 3, slots := 18, locals := 129 }
theorem h0L_pay : yL_pay.cls ≠ "java/lang/invoke/MethodHandle" ∧ yL_pay.cls ≠ "java/lang/invoke/VarHandle" ∧ (parseMethodDescriptor yL_pay.desc).map (fun d => d.parameters.length) = some 5 := by decide +kernel
theorem ctL_pay (l : Launch) (E : gE) (aD abuffer aB aPr aC2 aV aHs aSl afilled asettings asums aU aP aW : Nat → Nat) (x1 : Int32) (x2 : Int32) (x3 : Int32) (D_buffered : Int32) (D_lastErrorAt : Int32) (B_time : Int32) (B_chest : Int32) (B_fund : Int32) (settings : (Nat → Int32)) (sums : (Nat → Int32)) (U : tUsers) (P : tPieces) (W : tWords) (Hs : tHist) (x : Int32) (r : Int32) (U' : tUsers) (Hs' : tHist) (hst : l.stackTraces = false) (hf : fX9_pay x1 x2 x3 B_time B_chest B_fund settings sums U P W Hs = some (x, r, U', Hs')) (aO : Nat → Nat) (o o9 : Nat → Int64) (k9 : Int32) (hk : (x = 0 ∧ k9 = 0 ∧ o9 = vp_updL o 0 r.toInt64) ∨ (x = 1 ∧ k9 = 1 ∧ o9 = o) ∨ (x = 2 ∧ k9 = 2 ∧ o9 = o) ∨ (x = 3 ∧ k9 = 3 ∧ o9 = o)) : gMetX l yL_pay wsL_pay rmL_pay vwCl E [.ref (aD 0), .int x1, .int x2, .int x3, .ref (aO 0)] [sPD E aD abuffer aB aPr aC2 aV aHs aSl afilled D_buffered D_lastErrorAt, sBook E aB asettings asums aU aP aW B_time B_chest B_fund, sArrI E asettings 5 settings, sArrI E asums 6 sums, sUsers E aU U, sPieces E aP P, sWords E aW W, sHist E aHs Hs, sArrJ E aO 1 o] (fun v w => v = some (.int k9) ∧ w = [sPD E aD abuffer aB aPr aC2 aV aHs aSl afilled D_buffered D_lastErrorAt, sBook E aB asettings asums aU aP aW B_time B_chest B_fund, sArrI E asettings 5 settings, sArrI E asums 6 sums, sUsers E aU U', sPieces E aP P, sWords E aW W, sHist E aHs Hs', sArrJ E aO 1 o9]) (fun _ _ => False) 3 18 := by
  refine g_entryH [some (.ref (aD 0)), some (.int x1), some (.int x2), some (.int x3), some (.ref (aO 0)), none] (by decide) rfl (Nat.le_of_ble_eq_true rfl) rfl ?_
  intro p e s m below meth c A F htab
  refine g_aload F dL_pay_0 rfl ?_
  refine g_iconst F 0 dL_pay_2 rfl ?_
  refine g_aload_n F dL_pay_3 rfl ?_
  refine g_iload_n F dL_pay_4 rfl ?_
  refine g_iload_n F dL_pay_5 rfl ?_
  refine g_iload_n F dL_pay_6 rfl ?_
  refine g_callVC (C := RX9) (T := TX9) (N := 10) (Lr := [sArrJ E aO 1 o]) (As := [.int x1, .int x2, .int x3]) (rest := [.int 0, .ref (aO 0)]) F 0 0 3 (ctX9_pay l E aD abuffer aB aPr aC2 aV aHs aSl afilled asettings asums aU aP aW x1 x2 x3 D_buffered D_lastErrorAt B_time B_chest B_fund settings sums U P W Hs x r U' Hs' hst hf) gL_pay_X9_pay rfl rfl rfl h0X9_pay ⟨Nat.le_of_ble_eq_true rfl, Nat.le_of_ble_eq_true rfl⟩ rfl rfl rfl [0, 1, 2, 3, 4, 5, 6, 7] [8] rfl rfl rfl rfl rfl rfl (Nat.le_of_ble_eq_true rfl) dL_pay_7 ⟨Nat.le_of_ble_eq_true rfl, Nat.le_of_ble_eq_true rfl⟩ htab ?_ ?_
  · rintro v w ⟨h0, rfl, rfl⟩
    obtain ⟨rfl, rfl⟩ : k9 = 0 ∧ o9 = vp_updL o 0 r.toInt64 := by
      rcases hk with ⟨-, h1, h2⟩ | ⟨h1, -, -⟩ | ⟨h1, -, -⟩ | ⟨h1, -, -⟩
      · exact ⟨h1, h2⟩
      · exact absurd (h1.symm.trans h0) (by decide)
      · exact absurd (h1.symm.trans h0) (by decide)
      · exact absurd (h1.symm.trans h0) (by decide)
    refine g_i2l F dL_pay_10 ?_
    refine g_last F 8 0 0 rfl rfl rfl (by decide) dL_pay_11 rfl ?_
    refine g_norm (Lw' := [sPD E aD abuffer aB aPr aC2 aV aHs aSl afilled D_buffered D_lastErrorAt, sBook E aB asettings asums aU aP aW B_time B_chest B_fund, sArrI E asettings 5 settings, sArrI E asums 6 sums, sUsers E aU U', sPieces E aP P, sWords E aW W, sHist E aHs Hs', sArrJ E aO 1 (vp_updL o 0 r.toInt64)]) (st' := []) (pc' := 12) [0, 1, 2, 3, 4, 5, 6, 7, 8] rfl rfl rfl rfl ?_
    refine g_goto F 27 dL_pay_12 (by decide) ?_
    refine g_iconst F 0 dL_pay_27 rfl ?_
    exact g_iret F rfl ⟨rfl, rfl⟩ dL_pay_28
  · rintro ec w ⟨hx, he, rfl⟩
    rcases hk with ⟨h1, -, -⟩ | ⟨rfl, rfl, rfl⟩ | ⟨rfl, rfl, rfl⟩ | ⟨rfl, rfl, rfl⟩
    · exact absurd h1 hx
    · rw [gxn_1] at he
      subst he
      refine ⟨[], ⟨0, 12, 15, 25⟩, [⟨0, 12, 19, 13⟩, ⟨0, 12, 23, 69⟩], rfl, by decide, by decide +kernel, by decide, by decide, fun z hz => absurd hz List.not_mem_nil, fun q9 => ?_⟩
      refine g_astore F dL_pay_15 (Nat.le_of_ble_eq_true rfl) rfl rfl ?_
      refine g_iconst F 1 dL_pay_17 rfl ?_
      exact g_iret F rfl ⟨rfl, rfl⟩ dL_pay_18
    · rw [gxn_2] at he
      subst he
      refine ⟨[⟨0, 12, 15, 25⟩], ⟨0, 12, 19, 13⟩, [⟨0, 12, 23, 69⟩], rfl, by decide, by decide +kernel, by decide, by decide, fun z hz => ?_, fun q9 => ?_⟩
      · cases List.mem_singleton.mp hz
        exact ⟨by decide, "java/lang/IndexOutOfBoundsException", by decide, by decide, by decide +kernel⟩
      refine g_astore F dL_pay_19 (Nat.le_of_ble_eq_true rfl) rfl rfl ?_
      refine g_iconst F 2 dL_pay_21 rfl ?_
      exact g_iret F rfl ⟨rfl, rfl⟩ dL_pay_22
    · rw [gxn_3] at he
      subst he
      refine ⟨[⟨0, 12, 15, 25⟩, ⟨0, 12, 19, 13⟩], ⟨0, 12, 23, 69⟩, [], rfl, by decide, by decide +kernel, by decide, by decide, fun z hz => ?_, fun q9 => ?_⟩
      · rcases List.mem_cons.mp hz with rfl | hz
        · exact ⟨by decide, "java/lang/IndexOutOfBoundsException", by decide, by decide, by decide +kernel⟩
        · cases List.mem_singleton.mp hz
          exact ⟨by decide, "java/lang/IllegalArgumentException", by decide, by decide, by decide +kernel⟩
      refine g_astore F dL_pay_23 (Nat.le_of_ble_eq_true rfl) rfl rfl ?_
      refine g_iconst F 3 dL_pay_25 rfl ?_
      exact g_iret F rfl ⟨rfl, rfl⟩ dL_pay_26
abbrev rmL_saveSnapshot : Room := { frames := 8, cells := 1, slots := 6, locals := 128 }
theorem h0L_saveSnapshot : yL_saveSnapshot.cls ≠ "java/lang/invoke/MethodHandle" ∧ yL_saveSnapshot.cls ≠ "java/lang/invoke/VarHandle" ∧ (parseMethodDescriptor yL_saveSnapshot.desc).map (fun d => d.parameters.length) = some 3 := by decide +kernel
theorem ctL_saveSnapshot (l : Launch) (E : gE) (aD abuffer aB aPr aC2 aV aHs aSl afilled asettings asums aU aP aW : Nat → Nat) (x1 : Int32) (D_buffered : Int32) (D_lastErrorAt : Int32) (B_time : Int32) (B_chest : Int32) (B_fund : Int32) (settings : (Nat → Int32)) (sums : (Nat → Int32)) (U : tUsers) (P : tPieces) (W : tWords) (Sl : tSlots) (filled : (Nat → Int32)) (x : Int32) (r : Int32) (Sl' : tSlots) (filled' : (Nat → Int32)) (hst : l.stackTraces = false) (hf : fX9_saveSnapshot x1 B_time B_chest B_fund settings sums U P W Sl filled = some (x, r, Sl', filled')) (aO : Nat → Nat) (o o9 : Nat → Int64) (k9 : Int32) (hk : (x = 0 ∧ k9 = 0 ∧ o9 = vp_updL o 0 (if r = 0 then 0 else 1)) ∨ (x = 1 ∧ k9 = 1 ∧ o9 = o)) : gMetX l yL_saveSnapshot wsL_saveSnapshot rmL_saveSnapshot vwCl E [.ref (aD 0), .int x1, .ref (aO 0)] [sPD E aD abuffer aB aPr aC2 aV aHs aSl afilled D_buffered D_lastErrorAt, sBook E aB asettings asums aU aP aW B_time B_chest B_fund, sArrI E asettings 5 settings, sArrI E asums 6 sums, sUsers E aU U, sPieces E aP P, sWords E aW W, sSlots E aSl Sl, sArrZ E afilled 2 filled, sArrJ E aO 1 o] (fun v w => v = some (.int k9) ∧ w = [sPD E aD abuffer aB aPr aC2 aV aHs aSl afilled D_buffered D_lastErrorAt, sBook E aB asettings asums aU aP aW B_time B_chest B_fund, sArrI E asettings 5 settings, sArrI E asums 6 sums, sUsers E aU U, sPieces E aP P, sWords E aW W, sSlots E aSl Sl', sArrZ E afilled 2 filled', sArrJ E aO 1 o9]) (fun _ _ => False) 1 6 := by
  refine g_entryH [some (.ref (aD 0)), some (.int x1), some (.ref (aO 0)), none] (by decide) rfl (Nat.le_of_ble_eq_true rfl) rfl ?_
  intro p e s m below meth c A F htab
  refine g_aload_n F dL_saveSnapshot_0 rfl ?_
  refine g_iconst F 0 dL_saveSnapshot_1 rfl ?_
  refine g_aload_n F dL_saveSnapshot_2 rfl ?_
  refine g_iload_n F dL_saveSnapshot_3 rfl ?_
  refine g_callVC (C := RX9) (T := TX9) (N := 10) (Lr := [sArrJ E aO 1 o]) (As := [.int x1]) (rest := [.int 0, .ref (aO 0)]) F 0 0 1 (ctX9_saveSnapshot l E aD abuffer aB aPr aC2 aV aHs aSl afilled asettings asums aU aP aW x1 D_buffered D_lastErrorAt B_time B_chest B_fund settings sums U P W Sl filled x r Sl' filled' hst hf) gL_saveSnapshot_X9_saveSnapshot rfl rfl rfl h0X9_saveSnapshot ⟨Nat.le_of_ble_eq_true rfl, Nat.le_of_ble_eq_true rfl⟩ rfl rfl rfl [0, 1, 2, 3, 4, 5, 6, 7, 8] [9] rfl rfl rfl rfl rfl rfl (Nat.le_of_ble_eq_true rfl) dL_saveSnapshot_4 ⟨Nat.le_of_ble_eq_true rfl, Nat.le_of_ble_eq_true rfl⟩ htab ?_ ?_
  · rintro v w ⟨h0, rfl, rfl, hnb⟩
    obtain ⟨rfl, rfl⟩ : k9 = 0 ∧ o9 = vp_updL o 0 (if r = 0 then 0 else 1) := by
      rcases hk with ⟨-, h1, h2⟩ | ⟨h1, -, -⟩
      · exact ⟨h1, h2⟩
      · exact absurd (h1.symm.trans h0) (by decide)
    refine g_ifeq F 14 dL_saveSnapshot_7 (by decide) (fun hc => ?_) (fun hc => ?_)
    · refine g_lconst F 0 dL_saveSnapshot_14 rfl ?_
      refine g_last F 9 0 0 rfl rfl rfl (by decide) dL_saveSnapshot_15 rfl ?_
      refine g_norm (Lw' := [sPD E aD abuffer aB aPr aC2 aV aHs aSl afilled D_buffered D_lastErrorAt, sBook E aB asettings asums aU aP aW B_time B_chest B_fund, sArrI E asettings 5 settings, sArrI E asums 6 sums, sUsers E aU U, sPieces E aP P, sWords E aW W, sSlots E aSl Sl', sArrZ E afilled 2 filled', sArrJ E aO 1 (vp_updL o 0 0)]) (st' := []) (pc' := 16) [0, 1, 2, 3, 4, 5, 6, 7, 8, 9] rfl rfl rfl rfl ?_
      refine g_goto F 22 dL_saveSnapshot_16 (by decide) ?_
      refine g_iconst F 0 dL_saveSnapshot_22 rfl ?_
      exact g_iret F rfl ⟨rfl, by rw [if_pos hc]⟩ dL_saveSnapshot_23
    · refine g_lconst F 1 dL_saveSnapshot_10 rfl ?_
      refine g_goto F 15 dL_saveSnapshot_11 (by decide) ?_
      refine g_last F 9 0 0 rfl rfl rfl (by decide) dL_saveSnapshot_15 rfl ?_
      refine g_norm (Lw' := [sPD E aD abuffer aB aPr aC2 aV aHs aSl afilled D_buffered D_lastErrorAt, sBook E aB asettings asums aU aP aW B_time B_chest B_fund, sArrI E asettings 5 settings, sArrI E asums 6 sums, sUsers E aU U, sPieces E aP P, sWords E aW W, sSlots E aSl Sl', sArrZ E afilled 2 filled', sArrJ E aO 1 (vp_updL o 0 1)]) (st' := []) (pc' := 16) [0, 1, 2, 3, 4, 5, 6, 7, 8, 9] rfl rfl rfl rfl ?_
      refine g_goto F 22 dL_saveSnapshot_16 (by decide) ?_
      refine g_iconst F 0 dL_saveSnapshot_22 rfl ?_
      exact g_iret F rfl ⟨rfl, by rw [if_neg hc]⟩ dL_saveSnapshot_23
  · rintro ec w ⟨hx, he, rfl⟩
    rcases hk with ⟨h1, -, -⟩ | ⟨rfl, rfl, rfl⟩
    · exact absurd h1 hx
    · rw [gxn_1] at he
      subst he
      refine ⟨[], ⟨0, 16, 19, 25⟩, [], rfl, by decide, by decide +kernel, by decide, by decide, fun z hz => absurd hz List.not_mem_nil, fun q9 => ?_⟩
      refine g_astore_n F dL_saveSnapshot_19 (Nat.le_of_ble_eq_true rfl) rfl rfl ?_
      refine g_iconst F 1 dL_saveSnapshot_20 rfl ?_
      exact g_iret F rfl ⟨rfl, rfl⟩ dL_saveSnapshot_21
abbrev rmL_restoreSnapshot : Room := { frames := 8, cells := 2, slots := 12, locals := 127 }
theorem h0L_restoreSnapshot : yL_restoreSnapshot.cls ≠ "java/lang/invoke/MethodHandle" ∧ yL_restoreSnapshot.cls ≠ "java/lang/invoke/VarHandle" ∧ (parseMethodDescriptor yL_restoreSnapshot.desc).map (fun d => d.parameters.length) = some 3 := by decide +kernel
theorem ctL_restoreSnapshot (l : Launch) (E : gE) (aD abuffer aB aPr aC2 aV aHs aSl afilled asettings asums aU aP aW : Nat → Nat) (x1 : Int32) (D_buffered : Int32) (D_lastErrorAt : Int32) (B_time : Int32) (B_chest : Int32) (B_fund : Int32) (settings : (Nat → Int32)) (sums : (Nat → Int32)) (U : tUsers) (P : tPieces) (W : tWords) (Hs : tHist) (Sl : tSlots) (filled : (Nat → Int32)) (x : Int32) (r : Int32) (B_time' : Int32) (B_chest' : Int32) (B_fund' : Int32) (settings' : (Nat → Int32)) (sums' : (Nat → Int32)) (U' : tUsers) (P' : tPieces) (W' : tWords) (Hs' : tHist) (hst : l.stackTraces = false) (hf : fX9_restoreSnapshot x1 B_time B_chest B_fund settings sums U P W Hs Sl filled = some (x, r, B_time', B_chest', B_fund', settings', sums', U', P', W', Hs')) (aO : Nat → Nat) (o o9 : Nat → Int64) (k9 : Int32) (hk : (x = 0 ∧ k9 = 0 ∧ o9 = vp_updL o 0 r.toInt64) ∨ (x = 1 ∧ k9 = 1 ∧ o9 = o) ∨ (x = 3 ∧ k9 = 2 ∧ o9 = o)) : gMetX l yL_restoreSnapshot wsL_restoreSnapshot rmL_restoreSnapshot vwCl E [.ref (aD 0), .int x1, .ref (aO 0)] [sPD E aD abuffer aB aPr aC2 aV aHs aSl afilled D_buffered D_lastErrorAt, sBook E aB asettings asums aU aP aW B_time B_chest B_fund, sArrI E asettings 5 settings, sArrI E asums 6 sums, sUsers E aU U, sPieces E aP P, sWords E aW W, sHist E aHs Hs, sSlots E aSl Sl, sArrZ E afilled 2 filled, sArrJ E aO 1 o] (fun v w => v = some (.int k9) ∧ w = [sPD E aD abuffer aB aPr aC2 aV aHs aSl afilled D_buffered D_lastErrorAt, sBook E aB asettings asums aU aP aW B_time' B_chest' B_fund', sArrI E asettings 5 settings', sArrI E asums 6 sums', sUsers E aU U', sPieces E aP P', sWords E aW W', sHist E aHs Hs', sSlots E aSl Sl, sArrZ E afilled 2 filled, sArrJ E aO 1 o9]) (fun _ _ => False) 2 12 := by
  refine g_entryH [some (.ref (aD 0)), some (.int x1), some (.ref (aO 0)), none] (by decide) rfl (Nat.le_of_ble_eq_true rfl) rfl ?_
  intro p e s m below meth c A F htab
  refine g_aload_n F dL_restoreSnapshot_0 rfl ?_
  refine g_iconst F 0 dL_restoreSnapshot_1 rfl ?_
  refine g_aload_n F dL_restoreSnapshot_2 rfl ?_
  refine g_iload_n F dL_restoreSnapshot_3 rfl ?_
  refine g_callVC (C := RX9) (T := TX9) (N := 10) (Lr := [sArrJ E aO 1 o]) (As := [.int x1]) (rest := [.int 0, .ref (aO 0)]) F 0 0 1 (ctX9_restoreSnapshot l E aD abuffer aB aPr aC2 aV aHs aSl afilled asettings asums aU aP aW x1 D_buffered D_lastErrorAt B_time B_chest B_fund settings sums U P W Hs Sl filled x r B_time' B_chest' B_fund' settings' sums' U' P' W' Hs' hst hf) gL_restoreSnapshot_X9_restoreSnapshot rfl rfl rfl h0X9_restoreSnapshot ⟨Nat.le_of_ble_eq_true rfl, Nat.le_of_ble_eq_true rfl⟩ rfl rfl rfl [0, 1, 2, 3, 4, 5, 6, 7, 8, 9] [10] rfl rfl rfl rfl rfl rfl (Nat.le_of_ble_eq_true rfl) dL_restoreSnapshot_4 ⟨Nat.le_of_ble_eq_true rfl, Nat.le_of_ble_eq_true rfl⟩ htab ?_ ?_
  · rintro v w ⟨h0, rfl, rfl⟩
    obtain ⟨rfl, rfl⟩ : k9 = 0 ∧ o9 = vp_updL o 0 r.toInt64 := by
      rcases hk with ⟨-, h1, h2⟩ | ⟨h1, -, -⟩ | ⟨h1, -, -⟩
      · exact ⟨h1, h2⟩
      · exact absurd (h1.symm.trans h0) (by decide)
      · exact absurd (h1.symm.trans h0) (by decide)
    refine g_i2l F dL_restoreSnapshot_7 ?_
    refine g_last F 10 0 0 rfl rfl rfl (by decide) dL_restoreSnapshot_8 rfl ?_
    refine g_norm (Lw' := [sPD E aD abuffer aB aPr aC2 aV aHs aSl afilled D_buffered D_lastErrorAt, sBook E aB asettings asums aU aP aW B_time' B_chest' B_fund', sArrI E asettings 5 settings', sArrI E asums 6 sums', sUsers E aU U', sPieces E aP P', sWords E aW W', sHist E aHs Hs', sSlots E aSl Sl, sArrZ E afilled 2 filled, sArrJ E aO 1 (vp_updL o 0 r.toInt64)]) (st' := []) (pc' := 9) [0, 1, 2, 3, 4, 5, 6, 7, 8, 9, 10] rfl rfl rfl rfl ?_
    refine g_goto F 18 dL_restoreSnapshot_9 (by decide) ?_
    refine g_iconst F 0 dL_restoreSnapshot_18 rfl ?_
    exact g_iret F rfl ⟨rfl, rfl⟩ dL_restoreSnapshot_19
  · rintro ec w ⟨hx, he, rfl⟩
    rcases hk with ⟨h1, -, -⟩ | ⟨rfl, rfl, rfl⟩ | ⟨rfl, rfl, rfl⟩
    · exact absurd h1 hx
    · rw [gxn_1] at he
      subst he
      refine ⟨[], ⟨0, 9, 12, 25⟩, [⟨0, 9, 15, 69⟩], rfl, by decide, by decide +kernel, by decide, by decide, fun z hz => absurd hz List.not_mem_nil, fun q9 => ?_⟩
      refine g_astore_n F dL_restoreSnapshot_12 (Nat.le_of_ble_eq_true rfl) rfl rfl ?_
      refine g_iconst F 1 dL_restoreSnapshot_13 rfl ?_
      exact g_iret F rfl ⟨rfl, rfl⟩ dL_restoreSnapshot_14
    · rw [gxn_3] at he
      subst he
      refine ⟨[⟨0, 9, 12, 25⟩], ⟨0, 9, 15, 69⟩, [], rfl, by decide, by decide +kernel, by decide, by decide, fun z hz => ?_, fun q9 => ?_⟩
      · cases List.mem_singleton.mp hz
        exact ⟨by decide, "java/lang/IndexOutOfBoundsException", by decide, by decide, by decide +kernel⟩
      refine g_astore_n F dL_restoreSnapshot_15 (Nat.le_of_ble_eq_true rfl) rfl rfl ?_
      refine g_iconst F 2 dL_restoreSnapshot_16 rfl ?_
      exact g_iret F rfl ⟨rfl, rfl⟩ dL_restoreSnapshot_17
